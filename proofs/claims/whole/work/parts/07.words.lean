/-! by program: class facts, method names, words of the tables -/
theorem kl_0 : tk_cls 0 RJx4a65c TJx4a65c 3 tyJx4a65c := ⟨rfl, by decide, tyJx4a65c_ok, nmJx4a65c⟩
theorem in_0 : ∀ w ∈ u_ws RJx4a65c TJx4a65c 3, w ∈ tk_G := tk_inL _ [241, 237, 239] (by decide +kernel) (by decide +kernel)
theorem tg_0_0 : tk_tag 0 0 = 0 := by decide +kernel
theorem tg_0_1 : tk_tag 0 1 = 2 := by decide +kernel
theorem tg_0_2 : tk_tag 0 2 = 0 := by decide +kernel
theorem df_0 : ∀ j, j < 3 → defaultValue (tyJx4a65c j) = vp_V (tk_df 0) j := by decide +kernel
theorem kl_1 : tk_cls 1 RX0 TX0 2 tyX0 := ⟨rfl, by decide, tyX0_ok, nmX0⟩
theorem in_1 : ∀ w ∈ u_ws RX0 TX0 2, w ∈ tk_G := tk_inL _ [417, 419] (by decide +kernel) (by decide +kernel)
theorem tg_1_0 : tk_tag 1 0 = 0 := by decide +kernel
theorem tg_1_1 : tk_tag 1 1 = 2 := by decide +kernel
theorem df_1 : ∀ j, j < 2 → defaultValue (tyX0 j) = vp_V (tk_df 1) j := by decide +kernel
theorem kl_2 : tk_cls 2 RX1 TX1 3 tyX1 := ⟨rfl, by decide, tyX1_ok, nmX1⟩
theorem in_2 : ∀ w ∈ u_ws RX1 TX1 3, w ∈ tk_G := tk_inL _ [1129, 1131, 1133] (by decide +kernel) (by decide +kernel)
theorem tg_2_0 : tk_tag 2 0 = 2 := by decide +kernel
theorem tg_2_1 : tk_tag 2 1 = 0 := by decide +kernel
theorem tg_2_2 : tk_tag 2 2 = 0 := by decide +kernel
theorem df_2 : ∀ j, j < 3 → defaultValue (tyX1 j) = vp_V (tk_df 2) j := by decide +kernel
theorem kl_3 : tk_cls 3 RX2 TX2 7 tyX2 := ⟨rfl, by decide, tyX2_ok, nmX2⟩
theorem in_3 : ∀ w ∈ u_ws RX2 TX2 7, w ∈ tk_G := tk_inL _ [202, 204, 206, 208, 210, 212, 214] (by decide +kernel) (by decide +kernel)
theorem tg_3_0 : tk_tag 3 0 = 1 := by decide +kernel
theorem tg_3_1 : tk_tag 3 1 = 0 := by decide +kernel
theorem tg_3_2 : tk_tag 3 2 = 2 := by decide +kernel
theorem tg_3_3 : tk_tag 3 3 = 2 := by decide +kernel
theorem tg_3_4 : tk_tag 3 4 = 2 := by decide +kernel
theorem tg_3_5 : tk_tag 3 5 = 2 := by decide +kernel
theorem tg_3_6 : tk_tag 3 6 = 2 := by decide +kernel
theorem df_3 : ∀ j, j < 7 → defaultValue (tyX2 j) = vp_V (tk_df 3) j := by decide +kernel
theorem kl_4 : tk_cls 4 RX3 TX3 5 tyX3 := ⟨rfl, by decide, tyX3_ok, nmX3⟩
theorem in_4 : ∀ w ∈ u_ws RX3 TX3 5, w ∈ tk_G := tk_inL _ [587, 589, 591, 593, 595] (by decide +kernel) (by decide +kernel)
theorem tg_4_0 : tk_tag 4 0 = 0 := by decide +kernel
theorem tg_4_1 : tk_tag 4 1 = 0 := by decide +kernel
theorem tg_4_2 : tk_tag 4 2 = 0 := by decide +kernel
theorem tg_4_3 : tk_tag 4 3 = 0 := by decide +kernel
theorem tg_4_4 : tk_tag 4 4 = 2 := by decide +kernel
theorem df_4 : ∀ j, j < 5 → defaultValue (tyX3 j) = vp_V (tk_df 4) j := by decide +kernel
theorem kl_5 : tk_cls 5 RX4 TX4 2 tyX4 := ⟨rfl, by decide, tyX4_ok, nmX4⟩
theorem in_5 : ∀ w ∈ u_ws RX4 TX4 2, w ∈ tk_G := tk_inL _ [1100, 1102] (by decide +kernel) (by decide +kernel)
theorem tg_5_0 : tk_tag 5 0 = 0 := by decide +kernel
theorem tg_5_1 : tk_tag 5 1 = 1 := by decide +kernel
theorem df_5 : ∀ j, j < 2 → defaultValue (tyX4 j) = vp_V (tk_df 5) j := by decide +kernel
theorem kl_6 : tk_cls 6 RX5 TX5 9 tyX5 := ⟨rfl, by decide, tyX5_ok, nmX5⟩
theorem in_6 : ∀ w ∈ u_ws RX5 TX5 9, w ∈ tk_G := tk_inL _ [818, 820, 822, 824, 826, 828, 830, 832, 834] (by decide +kernel) (by decide +kernel)
theorem tg_6_0 : tk_tag 6 0 = 0 := by decide +kernel
theorem tg_6_1 : tk_tag 6 1 = 2 := by decide +kernel
theorem tg_6_2 : tk_tag 6 2 = 2 := by decide +kernel
theorem tg_6_3 : tk_tag 6 3 = 0 := by decide +kernel
theorem tg_6_4 : tk_tag 6 4 = 2 := by decide +kernel
theorem tg_6_5 : tk_tag 6 5 = 0 := by decide +kernel
theorem tg_6_6 : tk_tag 6 6 = 0 := by decide +kernel
theorem tg_6_7 : tk_tag 6 7 = 0 := by decide +kernel
theorem tg_6_8 : tk_tag 6 8 = 0 := by decide +kernel
theorem df_6 : ∀ j, j < 9 → defaultValue (tyX5 j) = vp_V (tk_df 6) j := by decide +kernel
theorem kl_7 : tk_cls 7 RX6 TX6 6 tyX6 := ⟨rfl, by decide, tyX6_ok, nmX6⟩
theorem in_7 : ∀ w ∈ u_ws RX6 TX6 6, w ∈ tk_G := tk_inL _ [1198, 1200, 1202, 1204, 1206, 1208] (by decide +kernel) (by decide +kernel)
theorem tg_7_0 : tk_tag 7 0 = 0 := by decide +kernel
theorem tg_7_1 : tk_tag 7 1 = 0 := by decide +kernel
theorem tg_7_2 : tk_tag 7 2 = 0 := by decide +kernel
theorem tg_7_3 : tk_tag 7 3 = 1 := by decide +kernel
theorem tg_7_4 : tk_tag 7 4 = 1 := by decide +kernel
theorem tg_7_5 : tk_tag 7 5 = 1 := by decide +kernel
theorem df_7 : ∀ j, j < 6 → defaultValue (tyX6 j) = vp_V (tk_df 7) j := by decide +kernel
theorem kl_8 : tk_cls 8 RX7 TX7 11 tyX7 := ⟨rfl, by decide, tyX7_ok, nmX7⟩
theorem in_8 : ∀ w ∈ u_ws RX7 TX7 11, w ∈ tk_G := tk_inL _ [132, 134, 136, 138, 140, 142, 144, 146, 148, 150, 152] (by decide +kernel) (by decide +kernel)
theorem tg_8_0 : tk_tag 8 0 = 2 := by decide +kernel
theorem tg_8_1 : tk_tag 8 1 = 0 := by decide +kernel
theorem tg_8_2 : tk_tag 8 2 = 0 := by decide +kernel
theorem tg_8_3 : tk_tag 8 3 = 0 := by decide +kernel
theorem tg_8_4 : tk_tag 8 4 = 0 := by decide +kernel
theorem tg_8_5 : tk_tag 8 5 = 0 := by decide +kernel
theorem tg_8_6 : tk_tag 8 6 = 0 := by decide +kernel
theorem tg_8_7 : tk_tag 8 7 = 0 := by decide +kernel
theorem tg_8_8 : tk_tag 8 8 = 0 := by decide +kernel
theorem tg_8_9 : tk_tag 8 9 = 2 := by decide +kernel
theorem tg_8_10 : tk_tag 8 10 = 0 := by decide +kernel
theorem df_8 : ∀ j, j < 11 → defaultValue (tyX7 j) = vp_V (tk_df 8) j := by decide +kernel
theorem kl_9 : tk_cls 9 RX8 TX8 7 tyX8 := ⟨rfl, by decide, tyX8_ok, nmX8⟩
theorem in_9 : ∀ w ∈ u_ws RX8 TX8 7, w ∈ tk_G := tk_inL _ [172, 174, 176, 178, 180, 182, 184] (by decide +kernel) (by decide +kernel)
theorem tg_9_0 : tk_tag 9 0 = 0 := by decide +kernel
theorem tg_9_1 : tk_tag 9 1 = 0 := by decide +kernel
theorem tg_9_2 : tk_tag 9 2 = 2 := by decide +kernel
theorem tg_9_3 : tk_tag 9 3 = 2 := by decide +kernel
theorem tg_9_4 : tk_tag 9 4 = 0 := by decide +kernel
theorem tg_9_5 : tk_tag 9 5 = 0 := by decide +kernel
theorem tg_9_6 : tk_tag 9 6 = 0 := by decide +kernel
theorem df_9 : ∀ j, j < 7 → defaultValue (tyX8 j) = vp_V (tk_df 9) j := by decide +kernel
theorem kl_10 : tk_cls 10 RX9 TX9 3 tyX9 := ⟨rfl, by decide, tyX9_ok, nmX9⟩
theorem in_10 : ∀ w ∈ u_ws RX9 TX9 3, w ∈ tk_G := tk_inL _ [748, 750, 752] (by decide +kernel) (by decide +kernel)
theorem tg_10_0 : tk_tag 10 0 = 0 := by decide +kernel
theorem tg_10_1 : tk_tag 10 1 = 0 := by decide +kernel
theorem tg_10_2 : tk_tag 10 2 = 1 := by decide +kernel
theorem df_10 : ∀ j, j < 3 → defaultValue (tyX9 j) = vp_V (tk_df 10) j := by decide +kernel
theorem kl_11 : tk_cls 11 RX10 TX10 7 tyX10 := ⟨rfl, by decide, tyX10_ok, nmX10⟩
theorem in_11 : ∀ w ∈ u_ws RX10 TX10 7, w ∈ tk_G := tk_inL _ [867, 869, 871, 873, 875, 877, 879] (by decide +kernel) (by decide +kernel)
theorem tg_11_0 : tk_tag 11 0 = 0 := by decide +kernel
theorem tg_11_1 : tk_tag 11 1 = 0 := by decide +kernel
theorem tg_11_2 : tk_tag 11 2 = 0 := by decide +kernel
theorem tg_11_3 : tk_tag 11 3 = 0 := by decide +kernel
theorem tg_11_4 : tk_tag 11 4 = 0 := by decide +kernel
theorem tg_11_5 : tk_tag 11 5 = 2 := by decide +kernel
theorem tg_11_6 : tk_tag 11 6 = 2 := by decide +kernel
theorem df_11 : ∀ j, j < 7 → defaultValue (tyX10 j) = vp_V (tk_df 11) j := by decide +kernel
theorem kl_12 : tk_cls 12 RX11 TX11 12 tyX11 := ⟨rfl, by decide, tyX11_ok, nmX11⟩
theorem in_12 : ∀ w ∈ u_ws RX11 TX11 12, w ∈ tk_G := tk_inL _ [256, 258, 260, 262, 264, 266, 268, 270, 272, 274, 276, 278] (by decide +kernel) (by decide +kernel)
theorem tg_12_0 : tk_tag 12 0 = 2 := by decide +kernel
theorem tg_12_1 : tk_tag 12 1 = 2 := by decide +kernel
theorem tg_12_2 : tk_tag 12 2 = 2 := by decide +kernel
theorem tg_12_3 : tk_tag 12 3 = 2 := by decide +kernel
theorem tg_12_4 : tk_tag 12 4 = 2 := by decide +kernel
theorem tg_12_5 : tk_tag 12 5 = 2 := by decide +kernel
theorem tg_12_6 : tk_tag 12 6 = 2 := by decide +kernel
theorem tg_12_7 : tk_tag 12 7 = 2 := by decide +kernel
theorem tg_12_8 : tk_tag 12 8 = 2 := by decide +kernel
theorem tg_12_9 : tk_tag 12 9 = 0 := by decide +kernel
theorem tg_12_10 : tk_tag 12 10 = 0 := by decide +kernel
theorem tg_12_11 : tk_tag 12 11 = 0 := by decide +kernel
theorem df_12 : ∀ j, j < 12 → defaultValue (tyX11 j) = vp_V (tk_df 12) j := by decide +kernel
theorem kl_13 : tk_cls 13 RX12 TX12 62 tyX12 := ⟨rfl, by decide, tyX12_ok, nmX12⟩
theorem in_13 : ∀ w ∈ u_ws RX12 TX12 62, w ∈ tk_G := tk_inL _ [1332, 1334, 1336, 1338, 1340, 1342, 1344, 1346, 1348, 1350, 1352, 1354, 1356, 1358, 1360, 1362, 1364, 1366, 1368, 1370, 1372, 1374, 1376, 1378, 1380, 1382, 1384, 1386, 1388, 1390, 1392, 1394, 1396, 1398, 1400, 1402, 1404, 1406, 1408, 1410, 1412, 1414, 1416, 1418, 1420, 1422, 1424, 1426, 1428, 1430, 1432, 1434, 1436, 1438, 1440, 1442, 1444, 1446, 1448, 1450, 1452, 1454] (by decide +kernel) (by decide +kernel)
theorem tg_13_0 : tk_tag 13 0 = 0 := by decide +kernel
theorem tg_13_1 : tk_tag 13 1 = 2 := by decide +kernel
theorem tg_13_2 : tk_tag 13 2 = 0 := by decide +kernel
theorem tg_13_3 : tk_tag 13 3 = 0 := by decide +kernel
theorem tg_13_4 : tk_tag 13 4 = 0 := by decide +kernel
theorem tg_13_5 : tk_tag 13 5 = 0 := by decide +kernel
theorem tg_13_6 : tk_tag 13 6 = 0 := by decide +kernel
theorem tg_13_7 : tk_tag 13 7 = 0 := by decide +kernel
theorem tg_13_8 : tk_tag 13 8 = 2 := by decide +kernel
theorem tg_13_9 : tk_tag 13 9 = 2 := by decide +kernel
theorem tg_13_10 : tk_tag 13 10 = 2 := by decide +kernel
theorem tg_13_11 : tk_tag 13 11 = 2 := by decide +kernel
theorem tg_13_12 : tk_tag 13 12 = 2 := by decide +kernel
theorem tg_13_13 : tk_tag 13 13 = 2 := by decide +kernel
theorem tg_13_14 : tk_tag 13 14 = 2 := by decide +kernel
theorem tg_13_15 : tk_tag 13 15 = 2 := by decide +kernel
theorem tg_13_16 : tk_tag 13 16 = 2 := by decide +kernel
theorem tg_13_17 : tk_tag 13 17 = 0 := by decide +kernel
theorem tg_13_18 : tk_tag 13 18 = 0 := by decide +kernel
theorem tg_13_19 : tk_tag 13 19 = 2 := by decide +kernel
theorem tg_13_20 : tk_tag 13 20 = 2 := by decide +kernel
theorem tg_13_21 : tk_tag 13 21 = 2 := by decide +kernel
theorem tg_13_22 : tk_tag 13 22 = 2 := by decide +kernel
theorem tg_13_23 : tk_tag 13 23 = 2 := by decide +kernel
theorem tg_13_24 : tk_tag 13 24 = 2 := by decide +kernel
theorem tg_13_25 : tk_tag 13 25 = 0 := by decide +kernel
theorem tg_13_26 : tk_tag 13 26 = 2 := by decide +kernel
theorem tg_13_27 : tk_tag 13 27 = 2 := by decide +kernel
theorem tg_13_28 : tk_tag 13 28 = 0 := by decide +kernel
theorem tg_13_29 : tk_tag 13 29 = 2 := by decide +kernel
theorem tg_13_30 : tk_tag 13 30 = 2 := by decide +kernel
theorem tg_13_31 : tk_tag 13 31 = 0 := by decide +kernel
theorem tg_13_32 : tk_tag 13 32 = 0 := by decide +kernel
theorem tg_13_33 : tk_tag 13 33 = 0 := by decide +kernel
theorem tg_13_34 : tk_tag 13 34 = 2 := by decide +kernel
theorem tg_13_35 : tk_tag 13 35 = 0 := by decide +kernel
theorem tg_13_36 : tk_tag 13 36 = 2 := by decide +kernel
theorem tg_13_37 : tk_tag 13 37 = 0 := by decide +kernel
theorem tg_13_38 : tk_tag 13 38 = 2 := by decide +kernel
theorem tg_13_39 : tk_tag 13 39 = 2 := by decide +kernel
theorem tg_13_40 : tk_tag 13 40 = 2 := by decide +kernel
theorem tg_13_41 : tk_tag 13 41 = 2 := by decide +kernel
theorem tg_13_42 : tk_tag 13 42 = 0 := by decide +kernel
theorem tg_13_43 : tk_tag 13 43 = 1 := by decide +kernel
theorem tg_13_44 : tk_tag 13 44 = 2 := by decide +kernel
theorem tg_13_45 : tk_tag 13 45 = 0 := by decide +kernel
theorem tg_13_46 : tk_tag 13 46 = 2 := by decide +kernel
theorem tg_13_47 : tk_tag 13 47 = 2 := by decide +kernel
theorem tg_13_48 : tk_tag 13 48 = 2 := by decide +kernel
theorem tg_13_49 : tk_tag 13 49 = 2 := by decide +kernel
theorem tg_13_50 : tk_tag 13 50 = 2 := by decide +kernel
theorem tg_13_51 : tk_tag 13 51 = 2 := by decide +kernel
theorem tg_13_52 : tk_tag 13 52 = 2 := by decide +kernel
theorem tg_13_53 : tk_tag 13 53 = 2 := by decide +kernel
theorem tg_13_54 : tk_tag 13 54 = 2 := by decide +kernel
theorem tg_13_55 : tk_tag 13 55 = 2 := by decide +kernel
theorem tg_13_56 : tk_tag 13 56 = 2 := by decide +kernel
theorem tg_13_57 : tk_tag 13 57 = 2 := by decide +kernel
theorem tg_13_58 : tk_tag 13 58 = 2 := by decide +kernel
theorem tg_13_59 : tk_tag 13 59 = 2 := by decide +kernel
theorem tg_13_60 : tk_tag 13 60 = 2 := by decide +kernel
theorem tg_13_61 : tk_tag 13 61 = 0 := by decide +kernel
theorem df_13 : ∀ j, j < 62 → defaultValue (tyX12 j) = vp_V (tk_df 13) j := by decide +kernel
abbrev mJ0_charAt_5068e : tk_Y := (yJ0_charAt_5068e, cJ0_charAt_5068e, 2, (some FieldType.char))
theorem mh_J0_charAt_5068e : mJ0_charAt_5068e.1.cls ≠ "java/lang/invoke/MethodHandle" ∧ mJ0_charAt_5068e.1.cls ≠ "java/lang/invoke/VarHandle" ∧ (parseMethodDescriptor mJ0_charAt_5068e.1.desc).map (fun d => d.parameters.length) = some 1 := by decide +kernel
abbrev mJ0_checkIndex_df160 : tk_Y := (yJ0_checkIndex_df160, cJ0_checkIndex_df160, 2, none)
theorem mh_J0_checkIndex_df160 : mJ0_checkIndex_df160.1.cls ≠ "java/lang/invoke/MethodHandle" ∧ mJ0_checkIndex_df160.1.cls ≠ "java/lang/invoke/VarHandle" ∧ (parseMethodDescriptor mJ0_checkIndex_df160.1.desc).map (fun d => d.parameters.length) = some 2 := by decide +kernel
abbrev mJ0_coder_7d493 : tk_Y := (yJ0_coder_7d493, cJ0_coder_7d493, 1, (some FieldType.byte))
theorem mh_J0_coder_7d493 : mJ0_coder_7d493.1.cls ≠ "java/lang/invoke/MethodHandle" ∧ mJ0_coder_7d493.1.cls ≠ "java/lang/invoke/VarHandle" ∧ (parseMethodDescriptor mJ0_coder_7d493.1.desc).map (fun d => d.parameters.length) = some 0 := by decide +kernel
abbrev mJ0_indexOf_0f7a4 : tk_Y := (yJ0_indexOf_0f7a4, cJ0_indexOf_0f7a4, 2, (some FieldType.int))
theorem mh_J0_indexOf_0f7a4 : mJ0_indexOf_0f7a4.1.cls ≠ "java/lang/invoke/MethodHandle" ∧ mJ0_indexOf_0f7a4.1.cls ≠ "java/lang/invoke/VarHandle" ∧ (parseMethodDescriptor mJ0_indexOf_0f7a4.1.desc).map (fun d => d.parameters.length) = some 1 := by decide +kernel
abbrev mJ0_indexOf_7cf53 : tk_Y := (yJ0_indexOf_7cf53, cJ0_indexOf_7cf53, 3, (some FieldType.int))
theorem mh_J0_indexOf_7cf53 : mJ0_indexOf_7cf53.1.cls ≠ "java/lang/invoke/MethodHandle" ∧ mJ0_indexOf_7cf53.1.cls ≠ "java/lang/invoke/VarHandle" ∧ (parseMethodDescriptor mJ0_indexOf_7cf53.1.desc).map (fun d => d.parameters.length) = some 2 := by decide +kernel
abbrev mJ0_isLatin1_aae02 : tk_Y := (yJ0_isLatin1_aae02, cJ0_isLatin1_aae02, 1, (some FieldType.boolean))
theorem mh_J0_isLatin1_aae02 : mJ0_isLatin1_aae02.1.cls ≠ "java/lang/invoke/MethodHandle" ∧ mJ0_isLatin1_aae02.1.cls ≠ "java/lang/invoke/VarHandle" ∧ (parseMethodDescriptor mJ0_isLatin1_aae02.1.desc).map (fun d => d.parameters.length) = some 0 := by decide +kernel
abbrev mJ0_length_8abf5 : tk_Y := (yJ0_length_8abf5, cJ0_length_8abf5, 1, (some FieldType.int))
theorem mh_J0_length_8abf5 : mJ0_length_8abf5.1.cls ≠ "java/lang/invoke/MethodHandle" ∧ mJ0_length_8abf5.1.cls ≠ "java/lang/invoke/VarHandle" ∧ (parseMethodDescriptor mJ0_length_8abf5.1.desc).map (fun d => d.parameters.length) = some 0 := by decide +kernel
abbrev mJ15_checkIndex_7cf53 : tk_Y := (yJ15_checkIndex_7cf53, cJ15_checkIndex_7cf53, 2, (some FieldType.int))
theorem mh_J15_checkIndex_7cf53 : mJ15_checkIndex_7cf53.1.cls ≠ "java/lang/invoke/MethodHandle" ∧ mJ15_checkIndex_7cf53.1.cls ≠ "java/lang/invoke/VarHandle" ∧ (parseMethodDescriptor mJ15_checkIndex_7cf53.1.desc).map (fun d => d.parameters.length) = some 2 := by decide +kernel
abbrev mJ1_canEncode_9a6ad : tk_Y := (yJ1_canEncode_9a6ad, cJ1_canEncode_9a6ad, 1, (some FieldType.boolean))
theorem mh_J1_canEncode_9a6ad : mJ1_canEncode_9a6ad.1.cls ≠ "java/lang/invoke/MethodHandle" ∧ mJ1_canEncode_9a6ad.1.cls ≠ "java/lang/invoke/VarHandle" ∧ (parseMethodDescriptor mJ1_canEncode_9a6ad.1.desc).map (fun d => d.parameters.length) = some 1 := by decide +kernel
abbrev mJ1_charAt_3b067 : tk_Y := (yJ1_charAt_3b067, cJ1_charAt_3b067, 2, (some FieldType.char))
theorem mh_J1_charAt_3b067 : mJ1_charAt_3b067.1.cls ≠ "java/lang/invoke/MethodHandle" ∧ mJ1_charAt_3b067.1.cls ≠ "java/lang/invoke/VarHandle" ∧ (parseMethodDescriptor mJ1_charAt_3b067.1.desc).map (fun d => d.parameters.length) = some 2 := by decide +kernel
abbrev mJ1_indexOfChar_4cfef : tk_Y := (yJ1_indexOfChar_4cfef, cJ1_indexOfChar_4cfef, 6, (some FieldType.int))
theorem mh_J1_indexOfChar_4cfef : mJ1_indexOfChar_4cfef.1.cls ≠ "java/lang/invoke/MethodHandle" ∧ mJ1_indexOfChar_4cfef.1.cls ≠ "java/lang/invoke/VarHandle" ∧ (parseMethodDescriptor mJ1_indexOfChar_4cfef.1.desc).map (fun d => d.parameters.length) = some 4 := by decide +kernel
abbrev mJ1_indexOf_4cfef : tk_Y := (yJ1_indexOf_4cfef, cJ1_indexOf_4cfef, 4, (some FieldType.int))
theorem mh_J1_indexOf_4cfef : mJ1_indexOf_4cfef.1.cls ≠ "java/lang/invoke/MethodHandle" ∧ mJ1_indexOf_4cfef.1.cls ≠ "java/lang/invoke/VarHandle" ∧ (parseMethodDescriptor mJ1_indexOf_4cfef.1.desc).map (fun d => d.parameters.length) = some 4 := by decide +kernel
abbrev mJ3_checkIndex_8e157 : tk_Y := (yJ3_checkIndex_8e157, cJ3_checkIndex_8e157, 3, (some FieldType.int))
theorem mh_J3_checkIndex_8e157 : mJ3_checkIndex_8e157.1.cls ≠ "java/lang/invoke/MethodHandle" ∧ mJ3_checkIndex_8e157.1.cls ≠ "java/lang/invoke/VarHandle" ∧ (parseMethodDescriptor mJ3_checkIndex_8e157.1.desc).map (fun d => d.parameters.length) = some 3 := by decide +kernel
abbrev mJ7_copyOf_1904c : tk_Y := (yJ7_copyOf_1904c, cJ7_copyOf_1904c, 2, (some (FieldType.array (FieldType.object "java/lang/Object"))))
theorem mh_J7_copyOf_1904c : mJ7_copyOf_1904c.1.cls ≠ "java/lang/invoke/MethodHandle" ∧ mJ7_copyOf_1904c.1.cls ≠ "java/lang/invoke/VarHandle" ∧ (parseMethodDescriptor mJ7_copyOf_1904c.1.desc).map (fun d => d.parameters.length) = some 2 := by decide +kernel
abbrev mJ7_copyOf_59c91 : tk_Y := (yJ7_copyOf_59c91, cJ7_copyOf_59c91, 3, (some (FieldType.array FieldType.int)))
theorem mh_J7_copyOf_59c91 : mJ7_copyOf_59c91.1.cls ≠ "java/lang/invoke/MethodHandle" ∧ mJ7_copyOf_59c91.1.cls ≠ "java/lang/invoke/VarHandle" ∧ (parseMethodDescriptor mJ7_copyOf_59c91.1.desc).map (fun d => d.parameters.length) = some 2 := by decide +kernel
abbrev mJ7_copyOf_6403c : tk_Y := (yJ7_copyOf_6403c, cJ7_copyOf_6403c, 4, (some (FieldType.array (FieldType.object "java/lang/Object"))))
theorem mh_J7_copyOf_6403c : mJ7_copyOf_6403c.1.cls ≠ "java/lang/invoke/MethodHandle" ∧ mJ7_copyOf_6403c.1.cls ≠ "java/lang/invoke/VarHandle" ∧ (parseMethodDescriptor mJ7_copyOf_6403c.1.desc).map (fun d => d.parameters.length) = some 3 := by decide +kernel
abbrev mJ7_copyOf_c38d5 : tk_Y := (yJ7_copyOf_c38d5, cJ7_copyOf_c38d5, 3, (some (FieldType.array FieldType.long)))
theorem mh_J7_copyOf_c38d5 : mJ7_copyOf_c38d5.1.cls ≠ "java/lang/invoke/MethodHandle" ∧ mJ7_copyOf_c38d5.1.cls ≠ "java/lang/invoke/VarHandle" ∧ (parseMethodDescriptor mJ7_copyOf_c38d5.1.desc).map (fun d => d.parameters.length) = some 2 := by decide +kernel
abbrev mJ7_fill_53178 : tk_Y := (yJ7_fill_53178, cJ7_fill_53178, 4, none)
theorem mh_J7_fill_53178 : mJ7_fill_53178.1.cls ≠ "java/lang/invoke/MethodHandle" ∧ mJ7_fill_53178.1.cls ≠ "java/lang/invoke/VarHandle" ∧ (parseMethodDescriptor mJ7_fill_53178.1.desc).map (fun d => d.parameters.length) = some 2 := by decide +kernel
abbrev mJ8_newLength_cabcc : tk_Y := (yJ8_newLength_cabcc, cJ8_newLength_cabcc, 4, (some FieldType.int))
theorem mh_J8_newLength_cabcc : mJ8_newLength_cabcc.1.cls ≠ "java/lang/invoke/MethodHandle" ∧ mJ8_newLength_cabcc.1.cls ≠ "java/lang/invoke/VarHandle" ∧ (parseMethodDescriptor mJ8_newLength_cabcc.1.desc).map (fun d => d.parameters.length) = some 3 := by decide +kernel
abbrev mJx4a65c_add_72be8 : tk_Y := (yJx4a65c_add_72be8, cJx4a65c_add_72be8, 4, none)
theorem mh_Jx4a65c_add_72be8 : mJx4a65c_add_72be8.1.cls ≠ "java/lang/invoke/MethodHandle" ∧ mJx4a65c_add_72be8.1.cls ≠ "java/lang/invoke/VarHandle" ∧ (parseMethodDescriptor mJx4a65c_add_72be8.1.desc).map (fun d => d.parameters.length) = some 3 := by decide +kernel
abbrev mJx4a65c_add_9ea2d : tk_Y := (yJx4a65c_add_9ea2d, cJx4a65c_add_9ea2d, 2, (some FieldType.boolean))
theorem mh_Jx4a65c_add_9ea2d : mJx4a65c_add_9ea2d.1.cls ≠ "java/lang/invoke/MethodHandle" ∧ mJx4a65c_add_9ea2d.1.cls ≠ "java/lang/invoke/VarHandle" ∧ (parseMethodDescriptor mJx4a65c_add_9ea2d.1.desc).map (fun d => d.parameters.length) = some 1 := by decide +kernel
abbrev mJx4a65c_clear_da8c8 : tk_Y := (yJx4a65c_clear_da8c8, cJx4a65c_clear_da8c8, 4, none)
theorem mh_Jx4a65c_clear_da8c8 : mJx4a65c_clear_da8c8.1.cls ≠ "java/lang/invoke/MethodHandle" ∧ mJx4a65c_clear_da8c8.1.cls ≠ "java/lang/invoke/VarHandle" ∧ (parseMethodDescriptor mJx4a65c_clear_da8c8.1.desc).map (fun d => d.parameters.length) = some 0 := by decide +kernel
abbrev mJx4a65c_elementData_915e3 : tk_Y := (yJx4a65c_elementData_915e3, cJx4a65c_elementData_915e3, 2, (some (FieldType.object "java/lang/Object")))
theorem mh_Jx4a65c_elementData_915e3 : mJx4a65c_elementData_915e3.1.cls ≠ "java/lang/invoke/MethodHandle" ∧ mJx4a65c_elementData_915e3.1.cls ≠ "java/lang/invoke/VarHandle" ∧ (parseMethodDescriptor mJx4a65c_elementData_915e3.1.desc).map (fun d => d.parameters.length) = some 1 := by decide +kernel
abbrev mJx4a65c_get_915e3 : tk_Y := (yJx4a65c_get_915e3, cJx4a65c_get_915e3, 2, (some (FieldType.object "java/lang/Object")))
theorem mh_Jx4a65c_get_915e3 : mJx4a65c_get_915e3.1.cls ≠ "java/lang/invoke/MethodHandle" ∧ mJx4a65c_get_915e3.1.cls ≠ "java/lang/invoke/VarHandle" ∧ (parseMethodDescriptor mJx4a65c_get_915e3.1.desc).map (fun d => d.parameters.length) = some 1 := by decide +kernel
abbrev mJx4a65c_grow_92f84 : tk_Y := (yJx4a65c_grow_92f84, cJx4a65c_grow_92f84, 4, (some (FieldType.array (FieldType.object "java/lang/Object"))))
theorem mh_Jx4a65c_grow_92f84 : mJx4a65c_grow_92f84.1.cls ≠ "java/lang/invoke/MethodHandle" ∧ mJx4a65c_grow_92f84.1.cls ≠ "java/lang/invoke/VarHandle" ∧ (parseMethodDescriptor mJx4a65c_grow_92f84.1.desc).map (fun d => d.parameters.length) = some 1 := by decide +kernel
abbrev mJx4a65c_grow_d5877 : tk_Y := (yJx4a65c_grow_d5877, cJx4a65c_grow_d5877, 1, (some (FieldType.array (FieldType.object "java/lang/Object"))))
theorem mh_Jx4a65c_grow_d5877 : mJx4a65c_grow_d5877.1.cls ≠ "java/lang/invoke/MethodHandle" ∧ mJx4a65c_grow_d5877.1.cls ≠ "java/lang/invoke/VarHandle" ∧ (parseMethodDescriptor mJx4a65c_grow_d5877.1.desc).map (fun d => d.parameters.length) = some 0 := by decide +kernel
abbrev mJx4a65c_init_da8c8 : tk_Y := (yJx4a65c_init_da8c8, cJx4a65c_init_da8c8, 1, none)
theorem mh_Jx4a65c_init_da8c8 : mJx4a65c_init_da8c8.1.cls ≠ "java/lang/invoke/MethodHandle" ∧ mJx4a65c_init_da8c8.1.cls ≠ "java/lang/invoke/VarHandle" ∧ (parseMethodDescriptor mJx4a65c_init_da8c8.1.desc).map (fun d => d.parameters.length) = some 0 := by decide +kernel
abbrev mJx4a65c_size_8abf5 : tk_Y := (yJx4a65c_size_8abf5, cJx4a65c_size_8abf5, 1, (some FieldType.int))
theorem mh_Jx4a65c_size_8abf5 : mJx4a65c_size_8abf5.1.cls ≠ "java/lang/invoke/MethodHandle" ∧ mJx4a65c_size_8abf5.1.cls ≠ "java/lang/invoke/VarHandle" ∧ (parseMethodDescriptor mJx4a65c_size_8abf5.1.desc).map (fun d => d.parameters.length) = some 0 := by decide +kernel
abbrev mJxa1e45_init_da8c8 : tk_Y := (yJxa1e45_init_da8c8, cJxa1e45_init_da8c8, 1, none)
theorem mh_Jxa1e45_init_da8c8 : mJxa1e45_init_da8c8.1.cls ≠ "java/lang/invoke/MethodHandle" ∧ mJxa1e45_init_da8c8.1.cls ≠ "java/lang/invoke/VarHandle" ∧ (parseMethodDescriptor mJxa1e45_init_da8c8.1.desc).map (fun d => d.parameters.length) = some 0 := by decide +kernel
abbrev mJxc12de_init_da8c8 : tk_Y := (yJxc12de_init_da8c8, cJxc12de_init_da8c8, 1, none)
theorem mh_Jxc12de_init_da8c8 : mJxc12de_init_da8c8.1.cls ≠ "java/lang/invoke/MethodHandle" ∧ mJxc12de_init_da8c8.1.cls ≠ "java/lang/invoke/VarHandle" ∧ (parseMethodDescriptor mJxc12de_init_da8c8.1.desc).map (fun d => d.parameters.length) = some 0 := by decide +kernel
abbrev mX0_init : tk_Y := (yX0_init, cX0_init, 2, none)
theorem mh_X0_init : mX0_init.1.cls ≠ "java/lang/invoke/MethodHandle" ∧ mX0_init.1.cls ≠ "java/lang/invoke/VarHandle" ∧ (parseMethodDescriptor mX0_init.1.desc).map (fun d => d.parameters.length) = some 1 := by decide +kernel
abbrev mX10_harm : tk_Y := (yX10_harm, cX10_harm, 2, (some FieldType.int))
theorem mh_X10_harm : mX10_harm.1.cls ≠ "java/lang/invoke/MethodHandle" ∧ mX10_harm.1.cls ≠ "java/lang/invoke/VarHandle" ∧ (parseMethodDescriptor mX10_harm.1.desc).map (fun d => d.parameters.length) = some 0 := by decide +kernel
abbrev mX10_init : tk_Y := (yX10_init, cX10_init, 5, none)
theorem mh_X10_init : mX10_init.1.cls ≠ "java/lang/invoke/MethodHandle" ∧ mX10_init.1.cls ≠ "java/lang/invoke/VarHandle" ∧ (parseMethodDescriptor mX10_init.1.desc).map (fun d => d.parameters.length) = some 4 := by decide +kernel
abbrev mX10_noteAt : tk_Y := (yX10_noteAt, cX10_noteAt, 4, none)
theorem mh_X10_noteAt : mX10_noteAt.1.cls ≠ "java/lang/invoke/MethodHandle" ∧ mX10_noteAt.1.cls ≠ "java/lang/invoke/VarHandle" ∧ (parseMethodDescriptor mX10_noteAt.1.desc).map (fun d => d.parameters.length) = some 3 := by decide +kernel
abbrev mX10_paidOn : tk_Y := (yX10_paidOn, cX10_paidOn, 2, (some FieldType.int))
theorem mh_X10_paidOn : mX10_paidOn.1.cls ≠ "java/lang/invoke/MethodHandle" ∧ mX10_paidOn.1.cls ≠ "java/lang/invoke/VarHandle" ∧ (parseMethodDescriptor mX10_paidOn.1.desc).map (fun d => d.parameters.length) = some 1 := by decide +kernel
abbrev mX10_passedOn : tk_Y := (yX10_passedOn, cX10_passedOn, 2, (some FieldType.int))
theorem mh_X10_passedOn : mX10_passedOn.1.cls ≠ "java/lang/invoke/MethodHandle" ∧ mX10_passedOn.1.cls ≠ "java/lang/invoke/VarHandle" ∧ (parseMethodDescriptor mX10_passedOn.1.desc).map (fun d => d.parameters.length) = some 1 := by decide +kernel
abbrev mX11_act : tk_Y := (yX11_act, cX11_act, 5, (some FieldType.int))
theorem mh_X11_act : mX11_act.1.cls ≠ "java/lang/invoke/MethodHandle" ∧ mX11_act.1.cls ≠ "java/lang/invoke/VarHandle" ∧ (parseMethodDescriptor mX11_act.1.desc).map (fun d => d.parameters.length) = some 2 := by decide +kernel
abbrev mX11_actOn : tk_Y := (yX11_actOn, cX11_actOn, 6, (some FieldType.int))
theorem mh_X11_actOn : mX11_actOn.1.cls ≠ "java/lang/invoke/MethodHandle" ∧ mX11_actOn.1.cls ≠ "java/lang/invoke/VarHandle" ∧ (parseMethodDescriptor mX11_actOn.1.desc).map (fun d => d.parameters.length) = some 1 := by decide +kernel
abbrev mX11_asked : tk_Y := (yX11_asked, cX11_asked, 4, (some FieldType.int))
theorem mh_X11_asked : mX11_asked.1.cls ≠ "java/lang/invoke/MethodHandle" ∧ mX11_asked.1.cls ≠ "java/lang/invoke/VarHandle" ∧ (parseMethodDescriptor mX11_asked.1.desc).map (fun d => d.parameters.length) = some 3 := by decide +kernel
abbrev mX11_bid : tk_Y := (yX11_bid, cX11_bid, 6, (some FieldType.int))
theorem mh_X11_bid : mX11_bid.1.cls ≠ "java/lang/invoke/MethodHandle" ∧ mX11_bid.1.cls ≠ "java/lang/invoke/VarHandle" ∧ (parseMethodDescriptor mX11_bid.1.desc).map (fun d => d.parameters.length) = some 4 := by decide +kernel
abbrev mX11_borrow : tk_Y := (yX11_borrow, cX11_borrow, 5, (some FieldType.int))
theorem mh_X11_borrow : mX11_borrow.1.cls ≠ "java/lang/invoke/MethodHandle" ∧ mX11_borrow.1.cls ≠ "java/lang/invoke/VarHandle" ∧ (parseMethodDescriptor mX11_borrow.1.desc).map (fun d => d.parameters.length) = some 3 := by decide +kernel
abbrev mX11_box : tk_Y := (yX11_box, cX11_box, 2, (some FieldType.long))
theorem mh_X11_box : mX11_box.1.cls ≠ "java/lang/invoke/MethodHandle" ∧ mX11_box.1.cls ≠ "java/lang/invoke/VarHandle" ∧ (parseMethodDescriptor mX11_box.1.desc).map (fun d => d.parameters.length) = some 1 := by decide +kernel
abbrev mX11_clause : tk_Y := (yX11_clause, cX11_clause, 1, (some FieldType.int))
theorem mh_X11_clause : mX11_clause.1.cls ≠ "java/lang/invoke/MethodHandle" ∧ mX11_clause.1.cls ≠ "java/lang/invoke/VarHandle" ∧ (parseMethodDescriptor mX11_clause.1.desc).map (fun d => d.parameters.length) = some 0 := by decide +kernel
abbrev mX11_count : tk_Y := (yX11_count, cX11_count, 2, (some FieldType.int))
theorem mh_X11_count : mX11_count.1.cls ≠ "java/lang/invoke/MethodHandle" ∧ mX11_count.1.cls ≠ "java/lang/invoke/VarHandle" ∧ (parseMethodDescriptor mX11_count.1.desc).map (fun d => d.parameters.length) = some 1 := by decide +kernel
abbrev mX11_dueOf : tk_Y := (yX11_dueOf, cX11_dueOf, 6, (some FieldType.long))
theorem mh_X11_dueOf : mX11_dueOf.1.cls ≠ "java/lang/invoke/MethodHandle" ∧ mX11_dueOf.1.cls ≠ "java/lang/invoke/VarHandle" ∧ (parseMethodDescriptor mX11_dueOf.1.desc).map (fun d => d.parameters.length) = some 1 := by decide +kernel
abbrev mX11_farmer : tk_Y := (yX11_farmer, cX11_farmer, 2, (some FieldType.int))
theorem mh_X11_farmer : mX11_farmer.1.cls ≠ "java/lang/invoke/MethodHandle" ∧ mX11_farmer.1.cls ≠ "java/lang/invoke/VarHandle" ∧ (parseMethodDescriptor mX11_farmer.1.desc).map (fun d => d.parameters.length) = some 1 := by decide +kernel
abbrev mX11_fault : tk_Y := (yX11_fault, cX11_fault, 1, (some FieldType.int))
theorem mh_X11_fault : mX11_fault.1.cls ≠ "java/lang/invoke/MethodHandle" ∧ mX11_fault.1.cls ≠ "java/lang/invoke/VarHandle" ∧ (parseMethodDescriptor mX11_fault.1.desc).map (fun d => d.parameters.length) = some 0 := by decide +kernel
abbrev mX11_feed : tk_Y := (yX11_feed, cX11_feed, 6, (some FieldType.int))
theorem mh_X11_feed : mX11_feed.1.cls ≠ "java/lang/invoke/MethodHandle" ∧ mX11_feed.1.cls ≠ "java/lang/invoke/VarHandle" ∧ (parseMethodDescriptor mX11_feed.1.desc).map (fun d => d.parameters.length) = some 5 := by decide +kernel
abbrev mX11_force : tk_Y := (yX11_force, cX11_force, 2, (some FieldType.int))
theorem mh_X11_force : mX11_force.1.cls ≠ "java/lang/invoke/MethodHandle" ∧ mX11_force.1.cls ≠ "java/lang/invoke/VarHandle" ∧ (parseMethodDescriptor mX11_force.1.desc).map (fun d => d.parameters.length) = some 1 := by decide +kernel
abbrev mX11_gate : tk_Y := (yX11_gate, cX11_gate, 2, (some FieldType.int))
theorem mh_X11_gate : mX11_gate.1.cls ≠ "java/lang/invoke/MethodHandle" ∧ mX11_gate.1.cls ≠ "java/lang/invoke/VarHandle" ∧ (parseMethodDescriptor mX11_gate.1.desc).map (fun d => d.parameters.length) = some 1 := by decide +kernel
abbrev mX11_gateTold : tk_Y := (yX11_gateTold, cX11_gateTold, 4, (some FieldType.int))
theorem mh_X11_gateTold : mX11_gateTold.1.cls ≠ "java/lang/invoke/MethodHandle" ∧ mX11_gateTold.1.cls ≠ "java/lang/invoke/VarHandle" ∧ (parseMethodDescriptor mX11_gateTold.1.desc).map (fun d => d.parameters.length) = some 2 := by decide +kernel
abbrev mX11_grantAll : tk_Y := (yX11_grantAll, cX11_grantAll, 4, none)
theorem mh_X11_grantAll : mX11_grantAll.1.cls ≠ "java/lang/invoke/MethodHandle" ∧ mX11_grantAll.1.cls ≠ "java/lang/invoke/VarHandle" ∧ (parseMethodDescriptor mX11_grantAll.1.desc).map (fun d => d.parameters.length) = some 1 := by decide +kernel
abbrev mX11_grantParts : tk_Y := (yX11_grantParts, cX11_grantParts, 8, none)
theorem mh_X11_grantParts : mX11_grantParts.1.cls ≠ "java/lang/invoke/MethodHandle" ∧ mX11_grantParts.1.cls ≠ "java/lang/invoke/VarHandle" ∧ (parseMethodDescriptor mX11_grantParts.1.desc).map (fun d => d.parameters.length) = some 2 := by decide +kernel
abbrev mX11_init : tk_Y := (yX11_init, cX11_init, 1, none)
theorem mh_X11_init : mX11_init.1.cls ≠ "java/lang/invoke/MethodHandle" ∧ mX11_init.1.cls ≠ "java/lang/invoke/VarHandle" ∧ (parseMethodDescriptor mX11_init.1.desc).map (fun d => d.parameters.length) = some 0 := by decide +kernel
abbrev mX11_isWithin : tk_Y := (yX11_isWithin, cX11_isWithin, 3, (some FieldType.boolean))
theorem mh_X11_isWithin : mX11_isWithin.1.cls ≠ "java/lang/invoke/MethodHandle" ∧ mX11_isWithin.1.cls ≠ "java/lang/invoke/VarHandle" ∧ (parseMethodDescriptor mX11_isWithin.1.desc).map (fun d => d.parameters.length) = some 3 := by decide +kernel
abbrev mX11_journal : tk_Y := (yX11_journal, cX11_journal, 3, (some FieldType.long))
theorem mh_X11_journal : mX11_journal.1.cls ≠ "java/lang/invoke/MethodHandle" ∧ mX11_journal.1.cls ≠ "java/lang/invoke/VarHandle" ∧ (parseMethodDescriptor mX11_journal.1.desc).map (fun d => d.parameters.length) = some 2 := by decide +kernel
abbrev mX11_keepLease : tk_Y := (yX11_keepLease, cX11_keepLease, 3, none)
theorem mh_X11_keepLease : mX11_keepLease.1.cls ≠ "java/lang/invoke/MethodHandle" ∧ mX11_keepLease.1.cls ≠ "java/lang/invoke/VarHandle" ∧ (parseMethodDescriptor mX11_keepLease.1.desc).map (fun d => d.parameters.length) = some 1 := by decide +kernel
abbrev mX11_let : tk_Y := (yX11_let, cX11_let, 5, (some FieldType.int))
theorem mh_X11_let : mX11_let.1.cls ≠ "java/lang/invoke/MethodHandle" ∧ mX11_let.1.cls ≠ "java/lang/invoke/VarHandle" ∧ (parseMethodDescriptor mX11_let.1.desc).map (fun d => d.parameters.length) = some 2 := by decide +kernel
abbrev mX11_loan : tk_Y := (yX11_loan, cX11_loan, 4, (some FieldType.long))
theorem mh_X11_loan : mX11_loan.1.cls ≠ "java/lang/invoke/MethodHandle" ∧ mX11_loan.1.cls ≠ "java/lang/invoke/VarHandle" ∧ (parseMethodDescriptor mX11_loan.1.desc).map (fun d => d.parameters.length) = some 2 := by decide +kernel
abbrev mX11_mend : tk_Y := (yX11_mend, cX11_mend, 4, (some FieldType.int))
theorem mh_X11_mend : mX11_mend.1.cls ≠ "java/lang/invoke/MethodHandle" ∧ mX11_mend.1.cls ≠ "java/lang/invoke/VarHandle" ∧ (parseMethodDescriptor mX11_mend.1.desc).map (fun d => d.parameters.length) = some 1 := by decide +kernel
abbrev mX11_money : tk_Y := (yX11_money, cX11_money, 2, (some FieldType.long))
theorem mh_X11_money : mX11_money.1.cls ≠ "java/lang/invoke/MethodHandle" ∧ mX11_money.1.cls ≠ "java/lang/invoke/VarHandle" ∧ (parseMethodDescriptor mX11_money.1.desc).map (fun d => d.parameters.length) = some 1 := by decide +kernel
abbrev mX11_mostCut : tk_Y := (yX11_mostCut, cX11_mostCut, 5, (some (FieldType.object "TurnpikeTrust$Loan")))
theorem mh_X11_mostCut : mX11_mostCut.1.cls ≠ "java/lang/invoke/MethodHandle" ∧ mX11_mostCut.1.cls ≠ "java/lang/invoke/VarHandle" ∧ (parseMethodDescriptor mX11_mostCut.1.desc).map (fun d => d.parameters.length) = some 1 := by decide +kernel
abbrev mX11_moveOn : tk_Y := (yX11_moveOn, cX11_moveOn, 3, none)
theorem mh_X11_moveOn : mX11_moveOn.1.cls ≠ "java/lang/invoke/MethodHandle" ∧ mX11_moveOn.1.cls ≠ "java/lang/invoke/VarHandle" ∧ (parseMethodDescriptor mX11_moveOn.1.desc).map (fun d => d.parameters.length) = some 0 := by decide +kernel
abbrev mX11_pass : tk_Y := (yX11_pass, cX11_pass, 8, (some FieldType.int))
theorem mh_X11_pass : mX11_pass.1.cls ≠ "java/lang/invoke/MethodHandle" ∧ mX11_pass.1.cls ≠ "java/lang/invoke/VarHandle" ∧ (parseMethodDescriptor mX11_pass.1.desc).map (fun d => d.parameters.length) = some 2 := by decide +kernel
abbrev mX11_payGranted : tk_Y := (yX11_payGranted, cX11_payGranted, 4, none)
theorem mh_X11_payGranted : mX11_payGranted.1.cls ≠ "java/lang/invoke/MethodHandle" ∧ mX11_payGranted.1.cls ≠ "java/lang/invoke/VarHandle" ∧ (parseMethodDescriptor mX11_payGranted.1.desc).map (fun d => d.parameters.length) = some 1 := by decide +kernel
abbrev mX11_payInterest : tk_Y := (yX11_payInterest, cX11_payInterest, 4, none)
theorem mh_X11_payInterest : mX11_payInterest.1.cls ≠ "java/lang/invoke/MethodHandle" ∧ mX11_payInterest.1.cls ≠ "java/lang/invoke/VarHandle" ∧ (parseMethodDescriptor mX11_payInterest.1.desc).map (fun d => d.parameters.length) = some 0 := by decide +kernel
abbrev mX11_rain : tk_Y := (yX11_rain, cX11_rain, 2, none)
theorem mh_X11_rain : mX11_rain.1.cls ≠ "java/lang/invoke/MethodHandle" ∧ mX11_rain.1.cls ≠ "java/lang/invoke/VarHandle" ∧ (parseMethodDescriptor mX11_rain.1.desc).map (fun d => d.parameters.length) = some 1 := by decide +kernel
abbrev mX11_rainLeft : tk_Y := (yX11_rainLeft, cX11_rainLeft, 1, (some FieldType.int))
theorem mh_X11_rainLeft : mX11_rainLeft.1.cls ≠ "java/lang/invoke/MethodHandle" ∧ mX11_rainLeft.1.cls ≠ "java/lang/invoke/VarHandle" ∧ (parseMethodDescriptor mX11_rainLeft.1.desc).map (fun d => d.parameters.length) = some 0 := by decide +kernel
abbrev mX11_repay : tk_Y := (yX11_repay, cX11_repay, 4, (some FieldType.int))
theorem mh_X11_repay : mX11_repay.1.cls ≠ "java/lang/invoke/MethodHandle" ∧ mX11_repay.1.cls ≠ "java/lang/invoke/VarHandle" ∧ (parseMethodDescriptor mX11_repay.1.desc).map (fun d => d.parameters.length) = some 2 := by decide +kernel
abbrev mX11_stretch : tk_Y := (yX11_stretch, cX11_stretch, 2, (some FieldType.int))
theorem mh_X11_stretch : mX11_stretch.1.cls ≠ "java/lang/invoke/MethodHandle" ∧ mX11_stretch.1.cls ≠ "java/lang/invoke/VarHandle" ∧ (parseMethodDescriptor mX11_stretch.1.desc).map (fun d => d.parameters.length) = some 1 := by decide +kernel
abbrev mX11_takeToll : tk_Y := (yX11_takeToll, cX11_takeToll, 4, none)
theorem mh_X11_takeToll : mX11_takeToll.1.cls ≠ "java/lang/invoke/MethodHandle" ∧ mX11_takeToll.1.cls ≠ "java/lang/invoke/VarHandle" ∧ (parseMethodDescriptor mX11_takeToll.1.desc).map (fun d => d.parameters.length) = some 3 := by decide +kernel
abbrev mX11_traveller : tk_Y := (yX11_traveller, cX11_traveller, 5, (some FieldType.int))
theorem mh_X11_traveller : mX11_traveller.1.cls ≠ "java/lang/invoke/MethodHandle" ∧ mX11_traveller.1.cls ≠ "java/lang/invoke/VarHandle" ∧ (parseMethodDescriptor mX11_traveller.1.desc).map (fun d => d.parameters.length) = some 4 := by decide +kernel
abbrev mX11_wait : tk_Y := (yX11_wait, cX11_wait, 3, (some FieldType.int))
theorem mh_X11_wait : mX11_wait.1.cls ≠ "java/lang/invoke/MethodHandle" ∧ mX11_wait.1.cls ≠ "java/lang/invoke/VarHandle" ∧ (parseMethodDescriptor mX11_wait.1.desc).map (fun d => d.parameters.length) = some 1 := by decide +kernel
abbrev mX11_wear : tk_Y := (yX11_wear, cX11_wear, 2, (some FieldType.long))
theorem mh_X11_wear : mX11_wear.1.cls ≠ "java/lang/invoke/MethodHandle" ∧ mX11_wear.1.cls ≠ "java/lang/invoke/VarHandle" ∧ (parseMethodDescriptor mX11_wear.1.desc).map (fun d => d.parameters.length) = some 1 := by decide +kernel
abbrev mX11_worthMost : tk_Y := (yX11_worthMost, cX11_worthMost, 4, (some (FieldType.object "TurnpikeTrust$Stretch")))
theorem mh_X11_worthMost : mX11_worthMost.1.cls ≠ "java/lang/invoke/MethodHandle" ∧ mX11_worthMost.1.cls ≠ "java/lang/invoke/VarHandle" ∧ (parseMethodDescriptor mX11_worthMost.1.desc).map (fun d => d.parameters.length) = some 0 := by decide +kernel
abbrev mX12_act : tk_Y := (yX12_act, cX12_act, 5, (some FieldType.int))
theorem mh_X12_act : mX12_act.1.cls ≠ "java/lang/invoke/MethodHandle" ∧ mX12_act.1.cls ≠ "java/lang/invoke/VarHandle" ∧ (parseMethodDescriptor mX12_act.1.desc).map (fun d => d.parameters.length) = some 2 := by decide +kernel
abbrev mX12_asked : tk_Y := (yX12_asked, cX12_asked, 4, (some FieldType.int))
theorem mh_X12_asked : mX12_asked.1.cls ≠ "java/lang/invoke/MethodHandle" ∧ mX12_asked.1.cls ≠ "java/lang/invoke/VarHandle" ∧ (parseMethodDescriptor mX12_asked.1.desc).map (fun d => d.parameters.length) = some 3 := by decide +kernel
abbrev mX12_bad : tk_Y := (yX12_bad, cX12_bad, 3, (some FieldType.boolean))
theorem mh_X12_bad : mX12_bad.1.cls ≠ "java/lang/invoke/MethodHandle" ∧ mX12_bad.1.cls ≠ "java/lang/invoke/VarHandle" ∧ (parseMethodDescriptor mX12_bad.1.desc).map (fun d => d.parameters.length) = some 2 := by decide +kernel
abbrev mX12_bid : tk_Y := (yX12_bid, cX12_bid, 6, (some FieldType.int))
theorem mh_X12_bid : mX12_bid.1.cls ≠ "java/lang/invoke/MethodHandle" ∧ mX12_bid.1.cls ≠ "java/lang/invoke/VarHandle" ∧ (parseMethodDescriptor mX12_bid.1.desc).map (fun d => d.parameters.length) = some 4 := by decide +kernel
abbrev mX12_blanks : tk_Y := (yX12_blanks, cX12_blanks, 1, none)
theorem mh_X12_blanks : mX12_blanks.1.cls ≠ "java/lang/invoke/MethodHandle" ∧ mX12_blanks.1.cls ≠ "java/lang/invoke/VarHandle" ∧ (parseMethodDescriptor mX12_blanks.1.desc).map (fun d => d.parameters.length) = some 0 := by decide +kernel
abbrev mX12_borrow : tk_Y := (yX12_borrow, cX12_borrow, 4, (some FieldType.int))
theorem mh_X12_borrow : mX12_borrow.1.cls ≠ "java/lang/invoke/MethodHandle" ∧ mX12_borrow.1.cls ≠ "java/lang/invoke/VarHandle" ∧ (parseMethodDescriptor mX12_borrow.1.desc).map (fun d => d.parameters.length) = some 3 := by decide +kernel
abbrev mX12_box : tk_Y := (yX12_box, cX12_box, 5, (some FieldType.long))
theorem mh_X12_box : mX12_box.1.cls ≠ "java/lang/invoke/MethodHandle" ∧ mX12_box.1.cls ≠ "java/lang/invoke/VarHandle" ∧ (parseMethodDescriptor mX12_box.1.desc).map (fun d => d.parameters.length) = some 1 := by decide +kernel
abbrev mX12_byteAt : tk_Y := (yX12_byteAt, cX12_byteAt, 2, (some FieldType.int))
theorem mh_X12_byteAt : mX12_byteAt.1.cls ≠ "java/lang/invoke/MethodHandle" ∧ mX12_byteAt.1.cls ≠ "java/lang/invoke/VarHandle" ∧ (parseMethodDescriptor mX12_byteAt.1.desc).map (fun d => d.parameters.length) = some 1 := by decide +kernel
abbrev mX12_clause : tk_Y := (yX12_clause, cX12_clause, 4, none)
theorem mh_X12_clause : mX12_clause.1.cls ≠ "java/lang/invoke/MethodHandle" ∧ mX12_clause.1.cls ≠ "java/lang/invoke/VarHandle" ∧ (parseMethodDescriptor mX12_clause.1.desc).map (fun d => d.parameters.length) = some 1 := by decide +kernel
abbrev mX12_clause_ : tk_Y := (yX12_clause_, cX12_clause_, 1, (some FieldType.int))
theorem mh_X12_clause_ : mX12_clause_.1.cls ≠ "java/lang/invoke/MethodHandle" ∧ mX12_clause_.1.cls ≠ "java/lang/invoke/VarHandle" ∧ (parseMethodDescriptor mX12_clause_.1.desc).map (fun d => d.parameters.length) = some 0 := by decide +kernel
abbrev mX12_condition : tk_Y := (yX12_condition, cX12_condition, 1, none)
theorem mh_X12_condition : mX12_condition.1.cls ≠ "java/lang/invoke/MethodHandle" ∧ mX12_condition.1.cls ≠ "java/lang/invoke/VarHandle" ∧ (parseMethodDescriptor mX12_condition.1.desc).map (fun d => d.parameters.length) = some 0 := by decide +kernel
abbrev mX12_count : tk_Y := (yX12_count, cX12_count, 2, (some FieldType.int))
theorem mh_X12_count : mX12_count.1.cls ≠ "java/lang/invoke/MethodHandle" ∧ mX12_count.1.cls ≠ "java/lang/invoke/VarHandle" ∧ (parseMethodDescriptor mX12_count.1.desc).map (fun d => d.parameters.length) = some 1 := by decide +kernel
abbrev mX12_eat : tk_Y := (yX12_eat, cX12_eat, 3, (some FieldType.boolean))
theorem mh_X12_eat : mX12_eat.1.cls ≠ "java/lang/invoke/MethodHandle" ∧ mX12_eat.1.cls ≠ "java/lang/invoke/VarHandle" ∧ (parseMethodDescriptor mX12_eat.1.desc).map (fun d => d.parameters.length) = some 1 := by decide +kernel
abbrev mX12_emits : tk_Y := (yX12_emits, cX12_emits, 3, none)
theorem mh_X12_emits : mX12_emits.1.cls ≠ "java/lang/invoke/MethodHandle" ∧ mX12_emits.1.cls ≠ "java/lang/invoke/VarHandle" ∧ (parseMethodDescriptor mX12_emits.1.desc).map (fun d => d.parameters.length) = some 2 := by decide +kernel
abbrev mX12_farmer : tk_Y := (yX12_farmer, cX12_farmer, 2, (some FieldType.int))
theorem mh_X12_farmer : mX12_farmer.1.cls ≠ "java/lang/invoke/MethodHandle" ∧ mX12_farmer.1.cls ≠ "java/lang/invoke/VarHandle" ∧ (parseMethodDescriptor mX12_farmer.1.desc).map (fun d => d.parameters.length) = some 1 := by decide +kernel
abbrev mX12_fault : tk_Y := (yX12_fault, cX12_fault, 1, (some FieldType.int))
theorem mh_X12_fault : mX12_fault.1.cls ≠ "java/lang/invoke/MethodHandle" ∧ mX12_fault.1.cls ≠ "java/lang/invoke/VarHandle" ∧ (parseMethodDescriptor mX12_fault.1.desc).map (fun d => d.parameters.length) = some 0 := by decide +kernel
abbrev mX12_feed : tk_Y := (yX12_feed, cX12_feed, 9, (some FieldType.int))
theorem mh_X12_feed : mX12_feed.1.cls ≠ "java/lang/invoke/MethodHandle" ∧ mX12_feed.1.cls ≠ "java/lang/invoke/VarHandle" ∧ (parseMethodDescriptor mX12_feed.1.desc).map (fun d => d.parameters.length) = some 5 := by decide +kernel
abbrev mX12_force : tk_Y := (yX12_force, cX12_force, 2, (some FieldType.int))
theorem mh_X12_force : mX12_force.1.cls ≠ "java/lang/invoke/MethodHandle" ∧ mX12_force.1.cls ≠ "java/lang/invoke/VarHandle" ∧ (parseMethodDescriptor mX12_force.1.desc).map (fun d => d.parameters.length) = some 1 := by decide +kernel
abbrev mX12_forceOf : tk_Y := (yX12_forceOf, cX12_forceOf, 4, (some FieldType.int))
theorem mh_X12_forceOf : mX12_forceOf.1.cls ≠ "java/lang/invoke/MethodHandle" ∧ mX12_forceOf.1.cls ≠ "java/lang/invoke/VarHandle" ∧ (parseMethodDescriptor mX12_forceOf.1.desc).map (fun d => d.parameters.length) = some 1 := by decide +kernel
abbrev mX12_gate : tk_Y := (yX12_gate, cX12_gate, 2, (some FieldType.int))
theorem mh_X12_gate : mX12_gate.1.cls ≠ "java/lang/invoke/MethodHandle" ∧ mX12_gate.1.cls ≠ "java/lang/invoke/VarHandle" ∧ (parseMethodDescriptor mX12_gate.1.desc).map (fun d => d.parameters.length) = some 1 := by decide +kernel
abbrev mX12_gateTold : tk_Y := (yX12_gateTold, cX12_gateTold, 4, (some FieldType.int))
theorem mh_X12_gateTold : mX12_gateTold.1.cls ≠ "java/lang/invoke/MethodHandle" ∧ mX12_gateTold.1.cls ≠ "java/lang/invoke/VarHandle" ∧ (parseMethodDescriptor mX12_gateTold.1.desc).map (fun d => d.parameters.length) = some 2 := by decide +kernel
abbrev mX12_holds : tk_Y := (yX12_holds, cX12_holds, 8, (some FieldType.boolean))
theorem mh_X12_holds : mX12_holds.1.cls ≠ "java/lang/invoke/MethodHandle" ∧ mX12_holds.1.cls ≠ "java/lang/invoke/VarHandle" ∧ (parseMethodDescriptor mX12_holds.1.desc).map (fun d => d.parameters.length) = some 3 := by decide +kernel
abbrev mX12_init : tk_Y := (yX12_init, cX12_init, 1, none)
theorem mh_X12_init : mX12_init.1.cls ≠ "java/lang/invoke/MethodHandle" ∧ mX12_init.1.cls ≠ "java/lang/invoke/VarHandle" ∧ (parseMethodDescriptor mX12_init.1.desc).map (fun d => d.parameters.length) = some 0 := by decide +kernel
abbrev mX12_interest : tk_Y := (yX12_interest, cX12_interest, 2, none)
theorem mh_X12_interest : mX12_interest.1.cls ≠ "java/lang/invoke/MethodHandle" ∧ mX12_interest.1.cls ≠ "java/lang/invoke/VarHandle" ∧ (parseMethodDescriptor mX12_interest.1.desc).map (fun d => d.parameters.length) = some 0 := by decide +kernel
abbrev mX12_isDigit : tk_Y := (yX12_isDigit, cX12_isDigit, 1, (some FieldType.boolean))
theorem mh_X12_isDigit : mX12_isDigit.1.cls ≠ "java/lang/invoke/MethodHandle" ∧ mX12_isDigit.1.cls ≠ "java/lang/invoke/VarHandle" ∧ (parseMethodDescriptor mX12_isDigit.1.desc).map (fun d => d.parameters.length) = some 1 := by decide +kernel
abbrev mX12_isPass : tk_Y := (yX12_isPass, cX12_isPass, 3, (some FieldType.boolean))
theorem mh_X12_isPass : mX12_isPass.1.cls ≠ "java/lang/invoke/MethodHandle" ∧ mX12_isPass.1.cls ≠ "java/lang/invoke/VarHandle" ∧ (parseMethodDescriptor mX12_isPass.1.desc).map (fun d => d.parameters.length) = some 2 := by decide +kernel
abbrev mX12_isSign : tk_Y := (yX12_isSign, cX12_isSign, 2, (some FieldType.boolean))
theorem mh_X12_isSign : mX12_isSign.1.cls ≠ "java/lang/invoke/MethodHandle" ∧ mX12_isSign.1.cls ≠ "java/lang/invoke/VarHandle" ∧ (parseMethodDescriptor mX12_isSign.1.desc).map (fun d => d.parameters.length) = some 1 := by decide +kernel
abbrev mX12_isSmall : tk_Y := (yX12_isSmall, cX12_isSmall, 1, (some FieldType.boolean))
theorem mh_X12_isSmall : mX12_isSmall.1.cls ≠ "java/lang/invoke/MethodHandle" ∧ mX12_isSmall.1.cls ≠ "java/lang/invoke/VarHandle" ∧ (parseMethodDescriptor mX12_isSmall.1.desc).map (fun d => d.parameters.length) = some 1 := by decide +kernel
abbrev mX12_isSo : tk_Y := (yX12_isSo, cX12_isSo, 3, (some FieldType.boolean))
theorem mh_X12_isSo : mX12_isSo.1.cls ≠ "java/lang/invoke/MethodHandle" ∧ mX12_isSo.1.cls ≠ "java/lang/invoke/VarHandle" ∧ (parseMethodDescriptor mX12_isSo.1.desc).map (fun d => d.parameters.length) = some 3 := by decide +kernel
abbrev mX12_isSum : tk_Y := (yX12_isSum, cX12_isSum, 1, (some FieldType.boolean))
theorem mh_X12_isSum : mX12_isSum.1.cls ≠ "java/lang/invoke/MethodHandle" ∧ mX12_isSum.1.cls ≠ "java/lang/invoke/VarHandle" ∧ (parseMethodDescriptor mX12_isSum.1.desc).map (fun d => d.parameters.length) = some 1 := by decide +kernel
abbrev mX12_isWord : tk_Y := (yX12_isWord, cX12_isWord, 4, (some FieldType.boolean))
theorem mh_X12_isWord : mX12_isWord.1.cls ≠ "java/lang/invoke/MethodHandle" ∧ mX12_isWord.1.cls ≠ "java/lang/invoke/VarHandle" ∧ (parseMethodDescriptor mX12_isWord.1.desc).map (fun d => d.parameters.length) = some 1 := by decide +kernel
abbrev mX12_joined : tk_Y := (yX12_joined, cX12_joined, 1, none)
theorem mh_X12_joined : mX12_joined.1.cls ≠ "java/lang/invoke/MethodHandle" ∧ mX12_joined.1.cls ≠ "java/lang/invoke/VarHandle" ∧ (parseMethodDescriptor mX12_joined.1.desc).map (fun d => d.parameters.length) = some 0 := by decide +kernel
abbrev mX12_journal : tk_Y := (yX12_journal, cX12_journal, 3, (some FieldType.long))
theorem mh_X12_journal : mX12_journal.1.cls ≠ "java/lang/invoke/MethodHandle" ∧ mX12_journal.1.cls ≠ "java/lang/invoke/VarHandle" ∧ (parseMethodDescriptor mX12_journal.1.desc).map (fun d => d.parameters.length) = some 2 := by decide +kernel
abbrev mX12_kind : tk_Y := (yX12_kind, cX12_kind, 2, none)
theorem mh_X12_kind : mX12_kind.1.cls ≠ "java/lang/invoke/MethodHandle" ∧ mX12_kind.1.cls ≠ "java/lang/invoke/VarHandle" ∧ (parseMethodDescriptor mX12_kind.1.desc).map (fun d => d.parameters.length) = some 0 := by decide +kernel
abbrev mX12_kindName : tk_Y := (yX12_kindName, cX12_kindName, 1, (some (FieldType.object "java/lang/String")))
theorem mh_X12_kindName : mX12_kindName.1.cls ≠ "java/lang/invoke/MethodHandle" ∧ mX12_kindName.1.cls ≠ "java/lang/invoke/VarHandle" ∧ (parseMethodDescriptor mX12_kindName.1.desc).map (fun d => d.parameters.length) = some 1 := by decide +kernel
abbrev mX12_let : tk_Y := (yX12_let, cX12_let, 6, (some FieldType.int))
theorem mh_X12_let : mX12_let.1.cls ≠ "java/lang/invoke/MethodHandle" ∧ mX12_let.1.cls ≠ "java/lang/invoke/VarHandle" ∧ (parseMethodDescriptor mX12_let.1.desc).map (fun d => d.parameters.length) = some 2 := by decide +kernel
abbrev mX12_line : tk_Y := (yX12_line, cX12_line, 5, none)
theorem mh_X12_line : mX12_line.1.cls ≠ "java/lang/invoke/MethodHandle" ∧ mX12_line.1.cls ≠ "java/lang/invoke/VarHandle" ∧ (parseMethodDescriptor mX12_line.1.desc).map (fun d => d.parameters.length) = some 3 := by decide +kernel
abbrev mX12_loan : tk_Y := (yX12_loan, cX12_loan, 3, (some FieldType.long))
theorem mh_X12_loan : mX12_loan.1.cls ≠ "java/lang/invoke/MethodHandle" ∧ mX12_loan.1.cls ≠ "java/lang/invoke/VarHandle" ∧ (parseMethodDescriptor mX12_loan.1.desc).map (fun d => d.parameters.length) = some 2 := by decide +kernel
abbrev mX12_longer : tk_Y := (yX12_longer, cX12_longer, 3, (some (FieldType.array FieldType.int)))
theorem mh_X12_longer : mX12_longer.1.cls ≠ "java/lang/invoke/MethodHandle" ∧ mX12_longer.1.cls ≠ "java/lang/invoke/VarHandle" ∧ (parseMethodDescriptor mX12_longer.1.desc).map (fun d => d.parameters.length) = some 1 := by decide +kernel
abbrev mX12_mend : tk_Y := (yX12_mend, cX12_mend, 5, (some FieldType.int))
theorem mh_X12_mend : mX12_mend.1.cls ≠ "java/lang/invoke/MethodHandle" ∧ mX12_mend.1.cls ≠ "java/lang/invoke/VarHandle" ∧ (parseMethodDescriptor mX12_mend.1.desc).map (fun d => d.parameters.length) = some 1 := by decide +kernel
abbrev mX12_money : tk_Y := (yX12_money, cX12_money, 2, (some FieldType.long))
theorem mh_X12_money : mX12_money.1.cls ≠ "java/lang/invoke/MethodHandle" ∧ mX12_money.1.cls ≠ "java/lang/invoke/VarHandle" ∧ (parseMethodDescriptor mX12_money.1.desc).map (fun d => d.parameters.length) = some 1 := by decide +kernel
abbrev mX12_need : tk_Y := (yX12_need, cX12_need, 2, (some FieldType.boolean))
theorem mh_X12_need : mX12_need.1.cls ≠ "java/lang/invoke/MethodHandle" ∧ mX12_need.1.cls ≠ "java/lang/invoke/VarHandle" ∧ (parseMethodDescriptor mX12_need.1.desc).map (fun d => d.parameters.length) = some 1 := by decide +kernel
abbrev mX12_no : tk_Y := (yX12_no, cX12_no, 3, (some FieldType.boolean))
theorem mh_X12_no : mX12_no.1.cls ≠ "java/lang/invoke/MethodHandle" ∧ mX12_no.1.cls ≠ "java/lang/invoke/VarHandle" ∧ (parseMethodDescriptor mX12_no.1.desc).map (fun d => d.parameters.length) = some 2 := by decide +kernel
abbrev mX12_number : tk_Y := (yX12_number, cX12_number, 5, (some FieldType.int))
theorem mh_X12_number : mX12_number.1.cls ≠ "java/lang/invoke/MethodHandle" ∧ mX12_number.1.cls ≠ "java/lang/invoke/VarHandle" ∧ (parseMethodDescriptor mX12_number.1.desc).map (fun d => d.parameters.length) = some 1 := by decide +kernel
abbrev mX12_one : tk_Y := (yX12_one, cX12_one, 1, none)
theorem mh_X12_one : mX12_one.1.cls ≠ "java/lang/invoke/MethodHandle" ∧ mX12_one.1.cls ≠ "java/lang/invoke/VarHandle" ∧ (parseMethodDescriptor mX12_one.1.desc).map (fun d => d.parameters.length) = some 0 := by decide +kernel
abbrev mX12_opens : tk_Y := (yX12_opens, cX12_opens, 1, (some FieldType.boolean))
theorem mh_X12_opens : mX12_opens.1.cls ≠ "java/lang/invoke/MethodHandle" ∧ mX12_opens.1.cls ≠ "java/lang/invoke/VarHandle" ∧ (parseMethodDescriptor mX12_opens.1.desc).map (fun d => d.parameters.length) = some 0 := by decide +kernel
abbrev mX12_paid : tk_Y := (yX12_paid, cX12_paid, 11, (some FieldType.int))
theorem mh_X12_paid : mX12_paid.1.cls ≠ "java/lang/invoke/MethodHandle" ∧ mX12_paid.1.cls ≠ "java/lang/invoke/VarHandle" ∧ (parseMethodDescriptor mX12_paid.1.desc).map (fun d => d.parameters.length) = some 6 := by decide +kernel
abbrev mX12_paidAnywhere : tk_Y := (yX12_paidAnywhere, cX12_paidAnywhere, 4, (some FieldType.boolean))
theorem mh_X12_paidAnywhere : mX12_paidAnywhere.1.cls ≠ "java/lang/invoke/MethodHandle" ∧ mX12_paidAnywhere.1.cls ≠ "java/lang/invoke/VarHandle" ∧ (parseMethodDescriptor mX12_paidAnywhere.1.desc).map (fun d => d.parameters.length) = some 1 := by decide +kernel
abbrev mX12_pass : tk_Y := (yX12_pass, cX12_pass, 6, (some FieldType.int))
theorem mh_X12_pass : mX12_pass.1.cls ≠ "java/lang/invoke/MethodHandle" ∧ mX12_pass.1.cls ≠ "java/lang/invoke/VarHandle" ∧ (parseMethodDescriptor mX12_pass.1.desc).map (fun d => d.parameters.length) = some 2 := by decide +kernel
abbrev mX12_rain : tk_Y := (yX12_rain, cX12_rain, 2, none)
theorem mh_X12_rain : mX12_rain.1.cls ≠ "java/lang/invoke/MethodHandle" ∧ mX12_rain.1.cls ≠ "java/lang/invoke/VarHandle" ∧ (parseMethodDescriptor mX12_rain.1.desc).map (fun d => d.parameters.length) = some 1 := by decide +kernel
abbrev mX12_rank : tk_Y := (yX12_rank, cX12_rank, 12, none)
theorem mh_X12_rank : mX12_rank.1.cls ≠ "java/lang/invoke/MethodHandle" ∧ mX12_rank.1.cls ≠ "java/lang/invoke/VarHandle" ∧ (parseMethodDescriptor mX12_rank.1.desc).map (fun d => d.parameters.length) = some 1 := by decide +kernel
abbrev mX12_relation : tk_Y := (yX12_relation, cX12_relation, 3, none)
theorem mh_X12_relation : mX12_relation.1.cls ≠ "java/lang/invoke/MethodHandle" ∧ mX12_relation.1.cls ≠ "java/lang/invoke/VarHandle" ∧ (parseMethodDescriptor mX12_relation.1.desc).map (fun d => d.parameters.length) = some 1 := by decide +kernel
abbrev mX12_rentDue : tk_Y := (yX12_rentDue, cX12_rentDue, 3, none)
theorem mh_X12_rentDue : mX12_rentDue.1.cls ≠ "java/lang/invoke/MethodHandle" ∧ mX12_rentDue.1.cls ≠ "java/lang/invoke/VarHandle" ∧ (parseMethodDescriptor mX12_rentDue.1.desc).map (fun d => d.parameters.length) = some 1 := by decide +kernel
abbrev mX12_repay : tk_Y := (yX12_repay, cX12_repay, 3, (some FieldType.int))
theorem mh_X12_repay : mX12_repay.1.cls ≠ "java/lang/invoke/MethodHandle" ∧ mX12_repay.1.cls ≠ "java/lang/invoke/VarHandle" ∧ (parseMethodDescriptor mX12_repay.1.desc).map (fun d => d.parameters.length) = some 2 := by decide +kernel
abbrev mX12_single : tk_Y := (yX12_single, cX12_single, 5, (some FieldType.boolean))
theorem mh_X12_single : mX12_single.1.cls ≠ "java/lang/invoke/MethodHandle" ∧ mX12_single.1.cls ≠ "java/lang/invoke/VarHandle" ∧ (parseMethodDescriptor mX12_single.1.desc).map (fun d => d.parameters.length) = some 4 := by decide +kernel
abbrev mX12_stretch : tk_Y := (yX12_stretch, cX12_stretch, 2, (some FieldType.int))
theorem mh_X12_stretch : mX12_stretch.1.cls ≠ "java/lang/invoke/MethodHandle" ∧ mX12_stretch.1.cls ≠ "java/lang/invoke/VarHandle" ∧ (parseMethodDescriptor mX12_stretch.1.desc).map (fun d => d.parameters.length) = some 1 := by decide +kernel
abbrev mX12_takes : tk_Y := (yX12_takes, cX12_takes, 2, (some FieldType.long))
theorem mh_X12_takes : mX12_takes.1.cls ≠ "java/lang/invoke/MethodHandle" ∧ mX12_takes.1.cls ≠ "java/lang/invoke/VarHandle" ∧ (parseMethodDescriptor mX12_takes.1.desc).map (fun d => d.parameters.length) = some 1 := by decide +kernel
abbrev mX12_thrown : tk_Y := (yX12_thrown, cX12_thrown, 1, (some FieldType.int))
theorem mh_X12_thrown : mX12_thrown.1.cls ≠ "java/lang/invoke/MethodHandle" ∧ mX12_thrown.1.cls ≠ "java/lang/invoke/VarHandle" ∧ (parseMethodDescriptor mX12_thrown.1.desc).map (fun d => d.parameters.length) = some 0 := by decide +kernel
abbrev mX12_toll : tk_Y := (yX12_toll, cX12_toll, 9, (some FieldType.int))
theorem mh_X12_toll : mX12_toll.1.cls ≠ "java/lang/invoke/MethodHandle" ∧ mX12_toll.1.cls ≠ "java/lang/invoke/VarHandle" ∧ (parseMethodDescriptor mX12_toll.1.desc).map (fun d => d.parameters.length) = some 3 := by decide +kernel
abbrev mX12_traveller : tk_Y := (yX12_traveller, cX12_traveller, 7, (some FieldType.int))
theorem mh_X12_traveller : mX12_traveller.1.cls ≠ "java/lang/invoke/MethodHandle" ∧ mX12_traveller.1.cls ≠ "java/lang/invoke/VarHandle" ∧ (parseMethodDescriptor mX12_traveller.1.desc).map (fun d => d.parameters.length) = some 4 := by decide +kernel
abbrev mX12_wait : tk_Y := (yX12_wait, cX12_wait, 4, (some FieldType.int))
theorem mh_X12_wait : mX12_wait.1.cls ≠ "java/lang/invoke/MethodHandle" ∧ mX12_wait.1.cls ≠ "java/lang/invoke/VarHandle" ∧ (parseMethodDescriptor mX12_wait.1.desc).map (fun d => d.parameters.length) = some 1 := by decide +kernel
abbrev mX12_wear : tk_Y := (yX12_wear, cX12_wear, 2, (some FieldType.long))
theorem mh_X12_wear : mX12_wear.1.cls ≠ "java/lang/invoke/MethodHandle" ∧ mX12_wear.1.cls ≠ "java/lang/invoke/VarHandle" ∧ (parseMethodDescriptor mX12_wear.1.desc).map (fun d => d.parameters.length) = some 1 := by decide +kernel
abbrev mX12_wrong : tk_Y := (yX12_wrong, cX12_wrong, 3, (some FieldType.boolean))
theorem mh_X12_wrong : mX12_wrong.1.cls ≠ "java/lang/invoke/MethodHandle" ∧ mX12_wrong.1.cls ≠ "java/lang/invoke/VarHandle" ∧ (parseMethodDescriptor mX12_wrong.1.desc).map (fun d => d.parameters.length) = some 2 := by decide +kernel
abbrev mX1_init : tk_Y := (yX1_init, cX1_init, 4, none)
theorem mh_X1_init : mX1_init.1.cls ≠ "java/lang/invoke/MethodHandle" ∧ mX1_init.1.cls ≠ "java/lang/invoke/VarHandle" ∧ (parseMethodDescriptor mX1_init.1.desc).map (fun d => d.parameters.length) = some 3 := by decide +kernel
abbrev mX1_isGood : tk_Y := (yX1_isGood, cX1_isGood, 1, (some FieldType.boolean))
theorem mh_X1_isGood : mX1_isGood.1.cls ≠ "java/lang/invoke/MethodHandle" ∧ mX1_isGood.1.cls ≠ "java/lang/invoke/VarHandle" ∧ (parseMethodDescriptor mX1_isGood.1.desc).map (fun d => d.parameters.length) = some 0 := by decide +kernel
abbrev mX2_change : tk_Y := (yX2_change, cX2_change, 6, none)
theorem mh_X2_change : mX2_change.1.cls ≠ "java/lang/invoke/MethodHandle" ∧ mX2_change.1.cls ≠ "java/lang/invoke/VarHandle" ∧ (parseMethodDescriptor mX2_change.1.desc).map (fun d => d.parameters.length) = some 4 := by decide +kernel
abbrev mX2_heldBehind : tk_Y := (yX2_heldBehind, cX2_heldBehind, 3, (some FieldType.long))
theorem mh_X2_heldBehind : mX2_heldBehind.1.cls ≠ "java/lang/invoke/MethodHandle" ∧ mX2_heldBehind.1.cls ≠ "java/lang/invoke/VarHandle" ∧ (parseMethodDescriptor mX2_heldBehind.1.desc).map (fun d => d.parameters.length) = some 1 := by decide +kernel
abbrev mX2_init : tk_Y := (yX2_init, cX2_init, 1, none)
theorem mh_X2_init : mX2_init.1.cls ≠ "java/lang/invoke/MethodHandle" ∧ mX2_init.1.cls ≠ "java/lang/invoke/VarHandle" ∧ (parseMethodDescriptor mX2_init.1.desc).map (fun d => d.parameters.length) = some 0 := by decide +kernel
abbrev mX2_makeRoom : tk_Y := (yX2_makeRoom, cX2_makeRoom, 2, none)
theorem mh_X2_makeRoom : mX2_makeRoom.1.cls ≠ "java/lang/invoke/MethodHandle" ∧ mX2_makeRoom.1.cls ≠ "java/lang/invoke/VarHandle" ∧ (parseMethodDescriptor mX2_makeRoom.1.desc).map (fun d => d.parameters.length) = some 0 := by decide +kernel
abbrev mX2_told : tk_Y := (yX2_told, cX2_told, 3, (some FieldType.long))
theorem mh_X2_told : mX2_told.1.cls ≠ "java/lang/invoke/MethodHandle" ∧ mX2_told.1.cls ≠ "java/lang/invoke/VarHandle" ∧ (parseMethodDescriptor mX2_told.1.desc).map (fun d => d.parameters.length) = some 2 := by decide +kernel
abbrev mX3_holdsOf : tk_Y := (yX3_holdsOf, cX3_holdsOf, 7, (some FieldType.boolean))
theorem mh_X3_holdsOf : mX3_holdsOf.1.cls ≠ "java/lang/invoke/MethodHandle" ∧ mX3_holdsOf.1.cls ≠ "java/lang/invoke/VarHandle" ∧ (parseMethodDescriptor mX3_holdsOf.1.desc).map (fun d => d.parameters.length) = some 1 := by decide +kernel
abbrev mX3_init : tk_Y := (yX3_init, cX3_init, 2, none)
theorem mh_X3_init : mX3_init.1.cls ≠ "java/lang/invoke/MethodHandle" ∧ mX3_init.1.cls ≠ "java/lang/invoke/VarHandle" ∧ (parseMethodDescriptor mX3_init.1.desc).map (fun d => d.parameters.length) = some 1 := by decide +kernel
abbrev mX3_isTrue : tk_Y := (yX3_isTrue, cX3_isTrue, 6, (some FieldType.boolean))
theorem mh_X3_isTrue : mX3_isTrue.1.cls ≠ "java/lang/invoke/MethodHandle" ∧ mX3_isTrue.1.cls ≠ "java/lang/invoke/VarHandle" ∧ (parseMethodDescriptor mX3_isTrue.1.desc).map (fun d => d.parameters.length) = some 4 := by decide +kernel
abbrev mX4_init : tk_Y := (yX4_init, cX4_init, 3, none)
theorem mh_X4_init : mX4_init.1.cls ≠ "java/lang/invoke/MethodHandle" ∧ mX4_init.1.cls ≠ "java/lang/invoke/VarHandle" ∧ (parseMethodDescriptor mX4_init.1.desc).map (fun d => d.parameters.length) = some 2 := by decide +kernel
abbrev mX5_beginLease : tk_Y := (yX5_beginLease, cX5_beginLease, 4, none)
theorem mh_X5_beginLease : mX5_beginLease.1.cls ≠ "java/lang/invoke/MethodHandle" ∧ mX5_beginLease.1.cls ≠ "java/lang/invoke/VarHandle" ∧ (parseMethodDescriptor mX5_beginLease.1.desc).map (fun d => d.parameters.length) = some 3 := by decide +kernel
abbrev mX5_bestBid : tk_Y := (yX5_bestBid, cX5_bestBid, 4, (some (FieldType.object "TurnpikeTrust$Bid")))
theorem mh_X5_bestBid : mX5_bestBid.1.cls ≠ "java/lang/invoke/MethodHandle" ∧ mX5_bestBid.1.cls ≠ "java/lang/invoke/VarHandle" ∧ (parseMethodDescriptor mX5_bestBid.1.desc).map (fun d => d.parameters.length) = some 0 := by decide +kernel
abbrev mX5_endLease : tk_Y := (yX5_endLease, cX5_endLease, 1, none)
theorem mh_X5_endLease : mX5_endLease.1.cls ≠ "java/lang/invoke/MethodHandle" ∧ mX5_endLease.1.cls ≠ "java/lang/invoke/VarHandle" ∧ (parseMethodDescriptor mX5_endLease.1.desc).map (fun d => d.parameters.length) = some 0 := by decide +kernel
abbrev mX5_init : tk_Y := (yX5_init, cX5_init, 3, none)
theorem mh_X5_init : mX5_init.1.cls ≠ "java/lang/invoke/MethodHandle" ∧ mX5_init.1.cls ≠ "java/lang/invoke/VarHandle" ∧ (parseMethodDescriptor mX5_init.1.desc).map (fun d => d.parameters.length) = some 2 := by decide +kernel
abbrev mX6_grantPart : tk_Y := (yX6_grantPart, cX6_grantPart, 5, none)
theorem mh_X6_grantPart : mX6_grantPart.1.cls ≠ "java/lang/invoke/MethodHandle" ∧ mX6_grantPart.1.cls ≠ "java/lang/invoke/VarHandle" ∧ (parseMethodDescriptor mX6_grantPart.1.desc).map (fun d => d.parameters.length) = some 2 := by decide +kernel
abbrev mX6_growDue : tk_Y := (yX6_growDue, cX6_growDue, 1, none)
theorem mh_X6_growDue : mX6_growDue.1.cls ≠ "java/lang/invoke/MethodHandle" ∧ mX6_growDue.1.cls ≠ "java/lang/invoke/VarHandle" ∧ (parseMethodDescriptor mX6_growDue.1.desc).map (fun d => d.parameters.length) = some 0 := by decide +kernel
abbrev mX6_init : tk_Y := (yX6_init, cX6_init, 4, none)
theorem mh_X6_init : mX6_init.1.cls ≠ "java/lang/invoke/MethodHandle" ∧ mX6_init.1.cls ≠ "java/lang/invoke/VarHandle" ∧ (parseMethodDescriptor mX6_init.1.desc).map (fun d => d.parameters.length) = some 3 := by decide +kernel
abbrev mX7_addStep : tk_Y := (yX7_addStep, cX7_addStep, 4, none)
theorem mh_X7_addStep : mX7_addStep.1.cls ≠ "java/lang/invoke/MethodHandle" ∧ mX7_addStep.1.cls ≠ "java/lang/invoke/VarHandle" ∧ (parseMethodDescriptor mX7_addStep.1.desc).map (fun d => d.parameters.length) = some 3 := by decide +kernel
abbrev mX7_advance : tk_Y := (yX7_advance, cX7_advance, 2, none)
theorem mh_X7_advance : mX7_advance.1.cls ≠ "java/lang/invoke/MethodHandle" ∧ mX7_advance.1.cls ≠ "java/lang/invoke/VarHandle" ∧ (parseMethodDescriptor mX7_advance.1.desc).map (fun d => d.parameters.length) = some 0 := by decide +kernel
abbrev mX7_append : tk_Y := (yX7_append, cX7_append, 3, none)
theorem mh_X7_append : mX7_append.1.cls ≠ "java/lang/invoke/MethodHandle" ∧ mX7_append.1.cls ≠ "java/lang/invoke/VarHandle" ∧ (parseMethodDescriptor mX7_append.1.desc).map (fun d => d.parameters.length) = some 1 := by decide +kernel
abbrev mX7_byteAt : tk_Y := (yX7_byteAt, cX7_byteAt, 2, (some FieldType.int))
theorem mh_X7_byteAt : mX7_byteAt.1.cls ≠ "java/lang/invoke/MethodHandle" ∧ mX7_byteAt.1.cls ≠ "java/lang/invoke/VarHandle" ∧ (parseMethodDescriptor mX7_byteAt.1.desc).map (fun d => d.parameters.length) = some 1 := by decide +kernel
abbrev mX7_init : tk_Y := (yX7_init, cX7_init, 1, none)
theorem mh_X7_init : mX7_init.1.cls ≠ "java/lang/invoke/MethodHandle" ∧ mX7_init.1.cls ≠ "java/lang/invoke/VarHandle" ∧ (parseMethodDescriptor mX7_init.1.desc).map (fun d => d.parameters.length) = some 0 := by decide +kernel
abbrev mX7_isBlank : tk_Y := (yX7_isBlank, cX7_isBlank, 1, (some FieldType.boolean))
theorem mh_X7_isBlank : mX7_isBlank.1.cls ≠ "java/lang/invoke/MethodHandle" ∧ mX7_isBlank.1.cls ≠ "java/lang/invoke/VarHandle" ∧ (parseMethodDescriptor mX7_isBlank.1.desc).map (fun d => d.parameters.length) = some 1 := by decide +kernel
abbrev mX7_isDigit : tk_Y := (yX7_isDigit, cX7_isDigit, 1, (some FieldType.boolean))
theorem mh_X7_isDigit : mX7_isDigit.1.cls ≠ "java/lang/invoke/MethodHandle" ∧ mX7_isDigit.1.cls ≠ "java/lang/invoke/VarHandle" ∧ (parseMethodDescriptor mX7_isDigit.1.desc).map (fun d => d.parameters.length) = some 1 := by decide +kernel
abbrev mX7_isLetter : tk_Y := (yX7_isLetter, cX7_isLetter, 1, (some FieldType.boolean))
theorem mh_X7_isLetter : mX7_isLetter.1.cls ≠ "java/lang/invoke/MethodHandle" ∧ mX7_isLetter.1.cls ≠ "java/lang/invoke/VarHandle" ∧ (parseMethodDescriptor mX7_isLetter.1.desc).map (fun d => d.parameters.length) = some 1 := by decide +kernel
abbrev mX7_readAct : tk_Y := (yX7_readAct, cX7_readAct, 4, (some FieldType.boolean))
theorem mh_X7_readAct : mX7_readAct.1.cls ≠ "java/lang/invoke/MethodHandle" ∧ mX7_readAct.1.cls ≠ "java/lang/invoke/VarHandle" ∧ (parseMethodDescriptor mX7_readAct.1.desc).map (fun d => d.parameters.length) = some 2 := by decide +kernel
abbrev mX7_readAny : tk_Y := (yX7_readAny, cX7_readAny, 3, (some FieldType.boolean))
theorem mh_X7_readAny : mX7_readAny.1.cls ≠ "java/lang/invoke/MethodHandle" ∧ mX7_readAny.1.cls ≠ "java/lang/invoke/VarHandle" ∧ (parseMethodDescriptor mX7_readAny.1.desc).map (fun d => d.parameters.length) = some 1 := by decide +kernel
abbrev mX7_readBoth : tk_Y := (yX7_readBoth, cX7_readBoth, 3, (some FieldType.boolean))
theorem mh_X7_readBoth : mX7_readBoth.1.cls ≠ "java/lang/invoke/MethodHandle" ∧ mX7_readBoth.1.cls ≠ "java/lang/invoke/VarHandle" ∧ (parseMethodDescriptor mX7_readBoth.1.desc).map (fun d => d.parameters.length) = some 1 := by decide +kernel
abbrev mX7_readClause : tk_Y := (yX7_readClause, cX7_readClause, 3, (some FieldType.boolean))
theorem mh_X7_readClause : mX7_readClause.1.cls ≠ "java/lang/invoke/MethodHandle" ∧ mX7_readClause.1.cls ≠ "java/lang/invoke/VarHandle" ∧ (parseMethodDescriptor mX7_readClause.1.desc).map (fun d => d.parameters.length) = some 1 := by decide +kernel
abbrev mX7_readComparison : tk_Y := (yX7_readComparison, cX7_readComparison, 3, (some FieldType.boolean))
theorem mh_X7_readComparison : mX7_readComparison.1.cls ≠ "java/lang/invoke/MethodHandle" ∧ mX7_readComparison.1.cls ≠ "java/lang/invoke/VarHandle" ∧ (parseMethodDescriptor mX7_readComparison.1.desc).map (fun d => d.parameters.length) = some 1 := by decide +kernel
abbrev mX7_readIf : tk_Y := (yX7_readIf, cX7_readIf, 1, (some FieldType.boolean))
theorem mh_X7_readIf : mX7_readIf.1.cls ≠ "java/lang/invoke/MethodHandle" ∧ mX7_readIf.1.cls ≠ "java/lang/invoke/VarHandle" ∧ (parseMethodDescriptor mX7_readIf.1.desc).map (fun d => d.parameters.length) = some 0 := by decide +kernel
abbrev mX7_readKind : tk_Y := (yX7_readKind, cX7_readKind, 1, (some FieldType.boolean))
theorem mh_X7_readKind : mX7_readKind.1.cls ≠ "java/lang/invoke/MethodHandle" ∧ mX7_readKind.1.cls ≠ "java/lang/invoke/VarHandle" ∧ (parseMethodDescriptor mX7_readKind.1.desc).map (fun d => d.parameters.length) = some 0 := by decide +kernel
abbrev mX7_readManner : tk_Y := (yX7_readManner, cX7_readManner, 4, none)
theorem mh_X7_readManner : mX7_readManner.1.cls ≠ "java/lang/invoke/MethodHandle" ∧ mX7_readManner.1.cls ≠ "java/lang/invoke/VarHandle" ∧ (parseMethodDescriptor mX7_readManner.1.desc).map (fun d => d.parameters.length) = some 3 := by decide +kernel
abbrev mX7_readNested : tk_Y := (yX7_readNested, cX7_readNested, 3, (some FieldType.boolean))
theorem mh_X7_readNested : mX7_readNested.1.cls ≠ "java/lang/invoke/MethodHandle" ∧ mX7_readNested.1.cls ≠ "java/lang/invoke/VarHandle" ∧ (parseMethodDescriptor mX7_readNested.1.desc).map (fun d => d.parameters.length) = some 1 := by decide +kernel
abbrev mX7_readNumber : tk_Y := (yX7_readNumber, cX7_readNumber, 2, (some FieldType.boolean))
theorem mh_X7_readNumber : mX7_readNumber.1.cls ≠ "java/lang/invoke/MethodHandle" ∧ mX7_readNumber.1.cls ≠ "java/lang/invoke/VarHandle" ∧ (parseMethodDescriptor mX7_readNumber.1.desc).map (fun d => d.parameters.length) = some 1 := by decide +kernel
abbrev mX7_readOne : tk_Y := (yX7_readOne, cX7_readOne, 3, (some FieldType.boolean))
theorem mh_X7_readOne : mX7_readOne.1.cls ≠ "java/lang/invoke/MethodHandle" ∧ mX7_readOne.1.cls ≠ "java/lang/invoke/VarHandle" ∧ (parseMethodDescriptor mX7_readOne.1.desc).map (fun d => d.parameters.length) = some 1 := by decide +kernel
abbrev mX7_readSign : tk_Y := (yX7_readSign, cX7_readSign, 2, (some FieldType.boolean))
theorem mh_X7_readSign : mX7_readSign.1.cls ≠ "java/lang/invoke/MethodHandle" ∧ mX7_readSign.1.cls ≠ "java/lang/invoke/VarHandle" ∧ (parseMethodDescriptor mX7_readSign.1.desc).map (fun d => d.parameters.length) = some 1 := by decide +kernel
abbrev mX7_readTimes : tk_Y := (yX7_readTimes, cX7_readTimes, 2, (some FieldType.boolean))
theorem mh_X7_readTimes : mX7_readTimes.1.cls ≠ "java/lang/invoke/MethodHandle" ∧ mX7_readTimes.1.cls ≠ "java/lang/invoke/VarHandle" ∧ (parseMethodDescriptor mX7_readTimes.1.desc).map (fun d => d.parameters.length) = some 1 := by decide +kernel
abbrev mX7_readToll : tk_Y := (yX7_readToll, cX7_readToll, 2, (some FieldType.boolean))
theorem mh_X7_readToll : mX7_readToll.1.cls ≠ "java/lang/invoke/MethodHandle" ∧ mX7_readToll.1.cls ≠ "java/lang/invoke/VarHandle" ∧ (parseMethodDescriptor mX7_readToll.1.desc).map (fun d => d.parameters.length) = some 1 := by decide +kernel
abbrev mX7_readWhat : tk_Y := (yX7_readWhat, cX7_readWhat, 2, (some FieldType.boolean))
theorem mh_X7_readWhat : mX7_readWhat.1.cls ≠ "java/lang/invoke/MethodHandle" ∧ mX7_readWhat.1.cls ≠ "java/lang/invoke/VarHandle" ∧ (parseMethodDescriptor mX7_readWhat.1.desc).map (fun d => d.parameters.length) = some 1 := by decide +kernel
abbrev mX7_refuse : tk_Y := (yX7_refuse, cX7_refuse, 2, (some FieldType.boolean))
theorem mh_X7_refuse : mX7_refuse.1.cls ≠ "java/lang/invoke/MethodHandle" ∧ mX7_refuse.1.cls ≠ "java/lang/invoke/VarHandle" ∧ (parseMethodDescriptor mX7_refuse.1.desc).map (fun d => d.parameters.length) = some 1 := by decide +kernel
abbrev mX7_wordNumber : tk_Y := (yX7_wordNumber, cX7_wordNumber, 8, (some FieldType.int))
theorem mh_X7_wordNumber : mX7_wordNumber.1.cls ≠ "java/lang/invoke/MethodHandle" ∧ mX7_wordNumber.1.cls ≠ "java/lang/invoke/VarHandle" ∧ (parseMethodDescriptor mX7_wordNumber.1.desc).map (fun d => d.parameters.length) = some 2 := by decide +kernel
abbrev mX8_ahead : tk_Y := (yX8_ahead, cX8_ahead, 4, (some FieldType.long))
theorem mh_X8_ahead : mX8_ahead.1.cls ≠ "java/lang/invoke/MethodHandle" ∧ mX8_ahead.1.cls ≠ "java/lang/invoke/VarHandle" ∧ (parseMethodDescriptor mX8_ahead.1.desc).map (fun d => d.parameters.length) = some 2 := by decide +kernel
abbrev mX8_charge : tk_Y := (yX8_charge, cX8_charge, 8, none)
theorem mh_X8_charge : mX8_charge.1.cls ≠ "java/lang/invoke/MethodHandle" ∧ mX8_charge.1.cls ≠ "java/lang/invoke/VarHandle" ∧ (parseMethodDescriptor mX8_charge.1.desc).map (fun d => d.parameters.length) = some 5 := by decide +kernel
abbrev mX8_init : tk_Y := (yX8_init, cX8_init, 1, none)
theorem mh_X8_init : mX8_init.1.cls ≠ "java/lang/invoke/MethodHandle" ∧ mX8_init.1.cls ≠ "java/lang/invoke/VarHandle" ∧ (parseMethodDescriptor mX8_init.1.desc).map (fun d => d.parameters.length) = some 0 := by decide +kernel
abbrev mX8_keep : tk_Y := (yX8_keep, cX8_keep, 3, none)
theorem mh_X8_keep : mX8_keep.1.cls ≠ "java/lang/invoke/MethodHandle" ∧ mX8_keep.1.cls ≠ "java/lang/invoke/VarHandle" ∧ (parseMethodDescriptor mX8_keep.1.desc).map (fun d => d.parameters.length) = some 2 := by decide +kernel
abbrev mX8_learn : tk_Y := (yX8_learn, cX8_learn, 4, none)
theorem mh_X8_learn : mX8_learn.1.cls ≠ "java/lang/invoke/MethodHandle" ∧ mX8_learn.1.cls ≠ "java/lang/invoke/VarHandle" ∧ (parseMethodDescriptor mX8_learn.1.desc).map (fun d => d.parameters.length) = some 3 := by decide +kernel
abbrev mX8_note : tk_Y := (yX8_note, cX8_note, 4, none)
theorem mh_X8_note : mX8_note.1.cls ≠ "java/lang/invoke/MethodHandle" ∧ mX8_note.1.cls ≠ "java/lang/invoke/VarHandle" ∧ (parseMethodDescriptor mX8_note.1.desc).map (fun d => d.parameters.length) = some 2 := by decide +kernel
abbrev mX8_reckon : tk_Y := (yX8_reckon, cX8_reckon, 7, none)
theorem mh_X8_reckon : mX8_reckon.1.cls ≠ "java/lang/invoke/MethodHandle" ∧ mX8_reckon.1.cls ≠ "java/lang/invoke/VarHandle" ∧ (parseMethodDescriptor mX8_reckon.1.desc).map (fun d => d.parameters.length) = some 4 := by decide +kernel
abbrev mX8_timesKept : tk_Y := (yX8_timesKept, cX8_timesKept, 9, (some FieldType.long))
theorem mh_X8_timesKept : mX8_timesKept.1.cls ≠ "java/lang/invoke/MethodHandle" ∧ mX8_timesKept.1.cls ≠ "java/lang/invoke/VarHandle" ∧ (parseMethodDescriptor mX8_timesKept.1.desc).map (fun d => d.parameters.length) = some 2 := by decide +kernel
abbrev mX9_init : tk_Y := (yX9_init, cX9_init, 3, none)
theorem mh_X9_init : mX9_init.1.cls ≠ "java/lang/invoke/MethodHandle" ∧ mX9_init.1.cls ≠ "java/lang/invoke/VarHandle" ∧ (parseMethodDescriptor mX9_init.1.desc).map (fun d => d.parameters.length) = some 2 := by decide +kernel
abbrev mX9_isWorthMoreThan : tk_Y := (yX9_isWorthMoreThan, cX9_isWorthMoreThan, 2, (some FieldType.boolean))
theorem mh_X9_isWorthMoreThan : mX9_isWorthMoreThan.1.cls ≠ "java/lang/invoke/MethodHandle" ∧ mX9_isWorthMoreThan.1.cls ≠ "java/lang/invoke/VarHandle" ∧ (parseMethodDescriptor mX9_isWorthMoreThan.1.desc).map (fun d => d.parameters.length) = some 1 := by decide +kernel
abbrev mX9_loadTakes : tk_Y := (yX9_loadTakes, cX9_loadTakes, 1, (some FieldType.long))
theorem mh_X9_loadTakes : mX9_loadTakes.1.cls ≠ "java/lang/invoke/MethodHandle" ∧ mX9_loadTakes.1.cls ≠ "java/lang/invoke/VarHandle" ∧ (parseMethodDescriptor mX9_loadTakes.1.desc).map (fun d => d.parameters.length) = some 0 := by decide +kernel
theorem wd_0 : (Cond.selects RX11 yX11_rainLeft yX11_rainLeft) ∈ tk_G := tk_inG 0 (by decide +kernel) (by decide +kernel)
theorem wd_2 : (Cond.selects RX7 yX7_advance yX7_advance) ∈ tk_G := tk_inG 2 (by decide +kernel) (by decide +kernel)
theorem wd_3 : (Cond.selects RX7 yX7_byteAt yX7_byteAt) ∈ tk_G := tk_inG 3 (by decide +kernel) (by decide +kernel)
theorem wd_4 : (Cond.selects RX7 yX7_wordNumber yX7_wordNumber) ∈ tk_G := tk_inG 4 (by decide +kernel) (by decide +kernel)
theorem wd_5 : (Cond.selects RX7 yX7_readClause yX7_readClause) ∈ tk_G := tk_inG 5 (by decide +kernel) (by decide +kernel)
theorem wd_6 : (Cond.selects RX7 yX7_refuse yX7_refuse) ∈ tk_G := tk_inG 6 (by decide +kernel) (by decide +kernel)
theorem wd_7 : (Cond.selects RX7 yX7_readWhat yX7_readWhat) ∈ tk_G := tk_inG 7 (by decide +kernel) (by decide +kernel)
theorem wd_8 : (Cond.selects RX7 yX7_readToll yX7_readToll) ∈ tk_G := tk_inG 8 (by decide +kernel) (by decide +kernel)
theorem wd_9 : (Cond.selects RX7 yX7_readNumber yX7_readNumber) ∈ tk_G := tk_inG 9 (by decide +kernel) (by decide +kernel)
theorem wd_10 : (Cond.selects RX7 yX7_readManner yX7_readManner) ∈ tk_G := tk_inG 10 (by decide +kernel) (by decide +kernel)
theorem wd_11 : (Cond.selects RX7 yX7_readTimes yX7_readTimes) ∈ tk_G := tk_inG 11 (by decide +kernel) (by decide +kernel)
theorem wd_12 : (Cond.selects RX7 yX7_readSign yX7_readSign) ∈ tk_G := tk_inG 12 (by decide +kernel) (by decide +kernel)
theorem wd_13 : (Cond.selects RX7 yX7_readIf yX7_readIf) ∈ tk_G := tk_inG 13 (by decide +kernel) (by decide +kernel)
theorem wd_14 : (Cond.selects RX7 yX7_readAny yX7_readAny) ∈ tk_G := tk_inG 14 (by decide +kernel) (by decide +kernel)
theorem wd_15 : (Cond.selects RX7 yX7_readBoth yX7_readBoth) ∈ tk_G := tk_inG 15 (by decide +kernel) (by decide +kernel)
theorem wd_16 : (Cond.selects RX7 yX7_readOne yX7_readOne) ∈ tk_G := tk_inG 16 (by decide +kernel) (by decide +kernel)
theorem wd_17 : (Cond.selects RX7 yX7_readNested yX7_readNested) ∈ tk_G := tk_inG 17 (by decide +kernel) (by decide +kernel)
theorem wd_18 : (Cond.selects RX7 yX7_addStep yX7_addStep) ∈ tk_G := tk_inG 18 (by decide +kernel) (by decide +kernel)
theorem wd_19 : (Cond.selects RX7 yX7_readKind yX7_readKind) ∈ tk_G := tk_inG 19 (by decide +kernel) (by decide +kernel)
theorem wd_20 : (Cond.selects RX7 yX7_readComparison yX7_readComparison) ∈ tk_G := tk_inG 20 (by decide +kernel) (by decide +kernel)
theorem wd_21 : (Cond.selects RJx4a65c yJx4a65c_add_72be8 yJx4a65c_add_72be8) ∈ tk_G := tk_inG 21 (by decide +kernel) (by decide +kernel)
theorem wd_22 : (Cond.selects RJx4a65c yJx4a65c_grow_d5877 yJx4a65c_grow_d5877) ∈ tk_G := tk_inG 22 (by decide +kernel) (by decide +kernel)
theorem wd_23 : (Cond.selects RJx4a65c yJx4a65c_grow_92f84 yJx4a65c_grow_92f84) ∈ tk_G := tk_inG 23 (by decide +kernel) (by decide +kernel)
theorem wd_24 : (Cond.selects RX11 yX11_actOn yX11_actOn) ∈ tk_G := tk_inG 24 (by decide +kernel) (by decide +kernel)
theorem wd_25 : (Cond.selects RX8 yX8_learn yX8_learn) ∈ tk_G := tk_inG 25 (by decide +kernel) (by decide +kernel)
theorem wd_26 : (Cond.selects RX8 yX8_note yX8_note) ∈ tk_G := tk_inG 26 (by decide +kernel) (by decide +kernel)
theorem wd_27 : (Cond.selects RX8 yX8_charge yX8_charge) ∈ tk_G := tk_inG 27 (by decide +kernel) (by decide +kernel)
theorem wd_28 : (Cond.selects RX8 yX8_timesKept yX8_timesKept) ∈ tk_G := tk_inG 28 (by decide +kernel) (by decide +kernel)
theorem wd_29 : (Cond.selects RX8 yX8_keep yX8_keep) ∈ tk_G := tk_inG 29 (by decide +kernel) (by decide +kernel)
theorem wd_30 : (Cond.selects RX11 yX11_takeToll yX11_takeToll) ∈ tk_G := tk_inG 30 (by decide +kernel) (by decide +kernel)
theorem wd_31 : (Cond.selects RX2 yX2_makeRoom yX2_makeRoom) ∈ tk_G := tk_inG 31 (by decide +kernel) (by decide +kernel)
theorem wd_32 : (Cond.selects RX11 yX11_moveOn yX11_moveOn) ∈ tk_G := tk_inG 32 (by decide +kernel) (by decide +kernel)
theorem wd_33 : (Cond.selects RX11 yX11_payInterest yX11_payInterest) ∈ tk_G := tk_inG 33 (by decide +kernel) (by decide +kernel)
theorem wd_34 : (Cond.selects RX11 yX11_dueOf yX11_dueOf) ∈ tk_G := tk_inG 34 (by decide +kernel) (by decide +kernel)
theorem wd_35 : (Cond.selects RX11 yX11_grantAll yX11_grantAll) ∈ tk_G := tk_inG 35 (by decide +kernel) (by decide +kernel)
theorem wd_36 : (Cond.selects RX11 yX11_grantParts yX11_grantParts) ∈ tk_G := tk_inG 36 (by decide +kernel) (by decide +kernel)
theorem wd_37 : (Cond.selects RX11 yX11_mostCut yX11_mostCut) ∈ tk_G := tk_inG 37 (by decide +kernel) (by decide +kernel)
theorem wd_38 : (Cond.selects RX11 yX11_payGranted yX11_payGranted) ∈ tk_G := tk_inG 38 (by decide +kernel) (by decide +kernel)
theorem wd_39 : (Cond.selects RX11 yX11_keepLease yX11_keepLease) ∈ tk_G := tk_inG 39 (by decide +kernel) (by decide +kernel)
theorem wd_40 : (Cond.selects RX11 yX11_worthMost yX11_worthMost) ∈ tk_G := tk_inG 40 (by decide +kernel) (by decide +kernel)
theorem wd_41 : (Cond.selects RX12 yX12_bad yX12_bad) ∈ tk_G := tk_inG 41 (by decide +kernel) (by decide +kernel)
theorem wd_42 : (Cond.selects RX12 yX12_blanks yX12_blanks) ∈ tk_G := tk_inG 42 (by decide +kernel) (by decide +kernel)
theorem wd_43 : (Cond.selects RX12 yX12_byteAt yX12_byteAt) ∈ tk_G := tk_inG 43 (by decide +kernel) (by decide +kernel)
theorem wd_44 : (Cond.selects RX12 yX12_clause yX12_clause) ∈ tk_G := tk_inG 44 (by decide +kernel) (by decide +kernel)
theorem wd_45 : (Cond.selects RX12 yX12_isWord yX12_isWord) ∈ tk_G := tk_inG 45 (by decide +kernel) (by decide +kernel)
theorem wd_46 : (Cond.selects RX12 yX12_wrong yX12_wrong) ∈ tk_G := tk_inG 46 (by decide +kernel) (by decide +kernel)
theorem wd_47 : (Cond.selects RX12 yX12_eat yX12_eat) ∈ tk_G := tk_inG 47 (by decide +kernel) (by decide +kernel)
theorem wd_48 : (Cond.selects RX12 yX12_number yX12_number) ∈ tk_G := tk_inG 48 (by decide +kernel) (by decide +kernel)
theorem wd_49 : (Cond.selects RX12 yX12_need yX12_need) ∈ tk_G := tk_inG 49 (by decide +kernel) (by decide +kernel)
theorem wd_50 : (Cond.selects RX12 yX12_isSign yX12_isSign) ∈ tk_G := tk_inG 50 (by decide +kernel) (by decide +kernel)
theorem wd_51 : (Cond.selects RX12 yX12_condition yX12_condition) ∈ tk_G := tk_inG 51 (by decide +kernel) (by decide +kernel)
theorem wd_52 : (Cond.selects RX12 yX12_joined yX12_joined) ∈ tk_G := tk_inG 52 (by decide +kernel) (by decide +kernel)
theorem wd_53 : (Cond.selects RX12 yX12_one yX12_one) ∈ tk_G := tk_inG 53 (by decide +kernel) (by decide +kernel)
theorem wd_54 : (Cond.selects RX12 yX12_opens yX12_opens) ∈ tk_G := tk_inG 54 (by decide +kernel) (by decide +kernel)
theorem wd_55 : (Cond.selects RX12 yX12_emits yX12_emits) ∈ tk_G := tk_inG 55 (by decide +kernel) (by decide +kernel)
theorem wd_56 : (Cond.selects RX12 yX12_relation yX12_relation) ∈ tk_G := tk_inG 56 (by decide +kernel) (by decide +kernel)
theorem wd_57 : (Cond.selects RX12 yX12_kind yX12_kind) ∈ tk_G := tk_inG 57 (by decide +kernel) (by decide +kernel)
theorem wd_58 : (Cond.selects RX12 yX12_forceOf yX12_forceOf) ∈ tk_G := tk_inG 58 (by decide +kernel) (by decide +kernel)
theorem wd_59 : (Cond.selects RX12 yX12_isPass yX12_isPass) ∈ tk_G := tk_inG 59 (by decide +kernel) (by decide +kernel)
theorem wd_60 : (Cond.selects RX12 yX12_toll yX12_toll) ∈ tk_G := tk_inG 60 (by decide +kernel) (by decide +kernel)
theorem wd_61 : (Cond.selects RX12 yX12_holds yX12_holds) ∈ tk_G := tk_inG 61 (by decide +kernel) (by decide +kernel)
theorem wd_62 : (Cond.selects RX12 yX12_single yX12_single) ∈ tk_G := tk_inG 62 (by decide +kernel) (by decide +kernel)
theorem wd_63 : (Cond.selects RX12 yX12_paid yX12_paid) ∈ tk_G := tk_inG 63 (by decide +kernel) (by decide +kernel)
theorem wd_64 : (Cond.selects RX12 yX12_paidAnywhere yX12_paidAnywhere) ∈ tk_G := tk_inG 64 (by decide +kernel) (by decide +kernel)
theorem wd_65 : (Cond.selects RX12 yX12_line yX12_line) ∈ tk_G := tk_inG 65 (by decide +kernel) (by decide +kernel)
theorem wd_66 : (Cond.selects RX12 yX12_rentDue yX12_rentDue) ∈ tk_G := tk_inG 66 (by decide +kernel) (by decide +kernel)
theorem wd_67 : (Cond.selects RX12 yX12_interest yX12_interest) ∈ tk_G := tk_inG 67 (by decide +kernel) (by decide +kernel)
theorem wd_68 : (Cond.selects RX12 yX12_rank yX12_rank) ∈ tk_G := tk_inG 68 (by decide +kernel) (by decide +kernel)
theorem wd_69 : (Cond.selects RX12 yX12_takes yX12_takes) ∈ tk_G := tk_inG 69 (by decide +kernel) (by decide +kernel)
theorem wd_70 : (Cond.selects RX12 yX12_no yX12_no) ∈ tk_G := tk_inG 70 (by decide +kernel) (by decide +kernel)
theorem wd_72 : (Cond.initialized RX11) ∈ tk_G := tk_inG 72 (by decide +kernel) (by decide +kernel)
theorem wd_73 : (Cond.initialized RX7) ∈ tk_G := tk_inG 73 (by decide +kernel) (by decide +kernel)
theorem wd_74 : (Cond.initialized RX8) ∈ tk_G := tk_inG 74 (by decide +kernel) (by decide +kernel)
theorem wd_75 : (Cond.initialized RX2) ∈ tk_G := tk_inG 75 (by decide +kernel) (by decide +kernel)
theorem wd_76 : (Cond.initialized RJxa1e45) ∈ tk_G := tk_inG 76 (by decide +kernel) (by decide +kernel)
theorem wd_77 : (Cond.initialized RJxc12de) ∈ tk_G := tk_inG 77 (by decide +kernel) (by decide +kernel)
theorem wd_78 : (Cond.initialized RJx4a65c) ∈ tk_G := tk_inG 78 (by decide +kernel) (by decide +kernel)
theorem wd_79 : (Cond.initialized RX12) ∈ tk_G := tk_inG 79 (by decide +kernel) (by decide +kernel)
theorem wd_83 : (Cond.initialized "java/lang/IllegalArgumentException") ∈ tk_G := tk_inG 83 (by decide +kernel) (by decide +kernel)
theorem wd_84 : (Cond.initialized "java/lang/IllegalStateException") ∈ tk_G := tk_inG 84 (by decide +kernel) (by decide +kernel)
theorem wd_85 : (Cond.initialized RX0) ∈ tk_G := tk_inG 85 (by decide +kernel) (by decide +kernel)
theorem wd_86 : (Cond.initialized RJ0) ∈ tk_G := tk_inG 86 (by decide +kernel) (by decide +kernel)
theorem wd_87 : (Cond.initialized RJ1) ∈ tk_G := tk_inG 87 (by decide +kernel) (by decide +kernel)
theorem wd_88 : (Cond.initialized RJ3) ∈ tk_G := tk_inG 88 (by decide +kernel) (by decide +kernel)
theorem wd_90 : (Cond.initialized "java/lang/Math") ∈ tk_G := tk_inG 90 (by decide +kernel) (by decide +kernel)
theorem wd_92 : (Cond.initialized RX3) ∈ tk_G := tk_inG 92 (by decide +kernel) (by decide +kernel)
theorem wd_93 : (Cond.initialized RJ7) ∈ tk_G := tk_inG 93 (by decide +kernel) (by decide +kernel)
theorem wd_94 : (Cond.initialized "java/lang/System") ∈ tk_G := tk_inG 94 (by decide +kernel) (by decide +kernel)
theorem wd_95 : (Cond.initialized RJ8) ∈ tk_G := tk_inG 95 (by decide +kernel) (by decide +kernel)
theorem wd_96 : (Cond.initialized RX9) ∈ tk_G := tk_inG 96 (by decide +kernel) (by decide +kernel)
theorem wd_97 : (Cond.initialized "java/lang/IndexOutOfBoundsException") ∈ tk_G := tk_inG 97 (by decide +kernel) (by decide +kernel)
theorem wd_98 : (Cond.initialized RX5) ∈ tk_G := tk_inG 98 (by decide +kernel) (by decide +kernel)
theorem wd_99 : (Cond.initialized RJ15) ∈ tk_G := tk_inG 99 (by decide +kernel) (by decide +kernel)
theorem wd_100 : (Cond.initialized RX10) ∈ tk_G := tk_inG 100 (by decide +kernel) (by decide +kernel)
theorem wd_101 : (Cond.initialized RX4) ∈ tk_G := tk_inG 101 (by decide +kernel) (by decide +kernel)
theorem wd_102 : (Cond.initialized RX1) ∈ tk_G := tk_inG 102 (by decide +kernel) (by decide +kernel)
theorem wd_103 : (Cond.initialized RX6) ∈ tk_G := tk_inG 103 (by decide +kernel) (by decide +kernel)
theorem wd_109 : (Cond.methodLink RX11 1 objectInit) ∈ tk_G := tk_inG 109 (by decide +kernel) (by decide +kernel)
theorem wd_110 : (Cond.instanceMethod objectInit) ∈ tk_G := tk_inG 110 (by decide +kernel) (by decide +kernel)
theorem wd_111 : (Cond.code objectInit ⟨#[0xb1]⟩ 1 none) ∈ tk_G := tk_inG 111 (by decide +kernel) (by decide +kernel)
theorem wd_112 : (Cond.classLink RX11 7 RX7) ∈ tk_G := tk_inG 112 (by decide +kernel) (by decide +kernel)
theorem wd_113 : (Cond.instantiable RX7 11) ∈ tk_G := tk_inG 113 (by decide +kernel) (by decide +kernel)
theorem wd_115 : (Cond.instanceMethod yX7_init) ∈ tk_G := tk_inG 115 (by decide +kernel) (by decide +kernel)
theorem wd_116 : (tk_code mX7_init) ∈ tk_G := tk_inG 116 (by decide +kernel) (by decide +kernel)
theorem wd_117 : (Cond.methodLink RX7 3 objectInit) ∈ tk_G := tk_inG 117 (by decide +kernel) (by decide +kernel)
theorem wd_118 : (Cond.fieldLink RX7 11 "TurnpikeTrust$Reade\x72" "tape" "[B") ∈ tk_G := tk_inG 118 (by decide +kernel) (by decide +kernel)
theorem wd_119 : (Cond.fieldLink RX7 15 "TurnpikeTrust$Reade\x72" "tapeSize" "I") ∈ tk_G := tk_inG 119 (by decide +kernel) (by decide +kernel)
theorem wd_120 : (Cond.fieldLink RX11 62 "TurnpikeTrust$Reade\x72" "tapeSize" "I") ∈ tk_G := tk_inG 120 (by decide +kernel) (by decide +kernel)
theorem wd_121 : (Cond.fieldLink RX7 19 "TurnpikeTrust$Reade\x72" "fault" "I") ∈ tk_G := tk_inG 121 (by decide +kernel) (by decide +kernel)
theorem wd_122 : (Cond.fieldLink RX11 97 "TurnpikeTrust$Reade\x72" "fault" "I") ∈ tk_G := tk_inG 122 (by decide +kernel) (by decide +kernel)
theorem wd_123 : (Cond.fieldLink RX7 22 "TurnpikeTrust$Reade\x72" "faultPlace" "I") ∈ tk_G := tk_inG 123 (by decide +kernel) (by decide +kernel)
theorem wd_124 : (Cond.fieldLink RX11 104 "TurnpikeTrust$Reade\x72" "faultPlace" "I") ∈ tk_G := tk_inG 124 (by decide +kernel) (by decide +kernel)
theorem wd_125 : (Cond.fieldLink RX7 25 "TurnpikeTrust$Reade\x72" "length" "I") ∈ tk_G := tk_inG 125 (by decide +kernel) (by decide +kernel)
theorem wd_126 : (Cond.fieldLink RX7 28 "TurnpikeTrust$Reade\x72" "next" "I") ∈ tk_G := tk_inG 126 (by decide +kernel) (by decide +kernel)
theorem wd_127 : (Cond.fieldLink RX7 31 "TurnpikeTrust$Reade\x72" "token" "I") ∈ tk_G := tk_inG 127 (by decide +kernel) (by decide +kernel)
theorem wd_128 : (Cond.fieldLink RX7 34 "TurnpikeTrust$Reade\x72" "tokenStart" "I") ∈ tk_G := tk_inG 128 (by decide +kernel) (by decide +kernel)
theorem wd_129 : (Cond.fieldLink RX7 37 "TurnpikeTrust$Reade\x72" "numbe\x72" "I") ∈ tk_G := tk_inG 129 (by decide +kernel) (by decide +kernel)
theorem wd_130 : (Cond.fieldLink RX7 40 "TurnpikeTrust$Reade\x72" "steps" "[I") ∈ tk_G := tk_inG 130 (by decide +kernel) (by decide +kernel)
theorem wd_131 : (Cond.fieldLink RX7 44 "TurnpikeTrust$Reade\x72" "stepsUsed" "I") ∈ tk_G := tk_inG 131 (by decide +kernel) (by decide +kernel)
theorem wd_155 : (Cond.arrayClass .byte) ∈ tk_G := tk_inG 155 (by decide +kernel) (by decide +kernel)
theorem wd_156 : (Cond.arrayClass .int) ∈ tk_G := tk_inG 156 (by decide +kernel) (by decide +kernel)
theorem wd_157 : (Cond.classLink RX11 16 RX8) ∈ tk_G := tk_inG 157 (by decide +kernel) (by decide +kernel)
theorem wd_158 : (Cond.instantiable RX8 7) ∈ tk_G := tk_inG 158 (by decide +kernel) (by decide +kernel)
theorem wd_160 : (Cond.instanceMethod yX8_init) ∈ tk_G := tk_inG 160 (by decide +kernel) (by decide +kernel)
theorem wd_161 : (tk_code mX8_init) ∈ tk_G := tk_inG 161 (by decide +kernel) (by decide +kernel)
theorem wd_162 : (Cond.methodLink RX8 3 objectInit) ∈ tk_G := tk_inG 162 (by decide +kernel) (by decide +kernel)
theorem wd_163 : (Cond.fieldLink RX8 9 "TurnpikeTrust$Reckone\x72" "toll" "I") ∈ tk_G := tk_inG 163 (by decide +kernel) (by decide +kernel)
theorem wd_164 : (Cond.fieldLink RX11 151 "TurnpikeTrust$Reckone\x72" "toll" "I") ∈ tk_G := tk_inG 164 (by decide +kernel) (by decide +kernel)
theorem wd_165 : (Cond.fieldLink RX8 15 "TurnpikeTrust$Reckone\x72" "by" "I") ∈ tk_G := tk_inG 165 (by decide +kernel) (by decide +kernel)
theorem wd_166 : (Cond.fieldLink RX11 154 "TurnpikeTrust$Reckone\x72" "by" "I") ∈ tk_G := tk_inG 166 (by decide +kernel) (by decide +kernel)
theorem wd_167 : (Cond.fieldLink RX8 18 "TurnpikeTrust$Reckone\x72" "facts" "[I") ∈ tk_G := tk_inG 167 (by decide +kernel) (by decide +kernel)
theorem wd_168 : (Cond.fieldLink RX8 24 "TurnpikeTrust$Reckone\x72" "kept" "[I") ∈ tk_G := tk_inG 168 (by decide +kernel) (by decide +kernel)
theorem wd_169 : (Cond.fieldLink RX8 27 "TurnpikeTrust$Reckone\x72" "keptTimes" "I") ∈ tk_G := tk_inG 169 (by decide +kernel) (by decide +kernel)
theorem wd_170 : (Cond.fieldLink RX8 30 "TurnpikeTrust$Reckone\x72" "onceHere" "I") ∈ tk_G := tk_inG 170 (by decide +kernel) (by decide +kernel)
theorem wd_171 : (Cond.fieldLink RX8 33 "TurnpikeTrust$Reckone\x72" "onceAll" "I") ∈ tk_G := tk_inG 171 (by decide +kernel) (by decide +kernel)
theorem wd_187 : (Cond.classLink RX11 23 RX2) ∈ tk_G := tk_inG 187 (by decide +kernel) (by decide +kernel)
theorem wd_188 : (Cond.instantiable RX2 7) ∈ tk_G := tk_inG 188 (by decide +kernel) (by decide +kernel)
theorem wd_190 : (Cond.instanceMethod yX2_init) ∈ tk_G := tk_inG 190 (by decide +kernel) (by decide +kernel)
theorem wd_191 : (tk_code mX2_init) ∈ tk_G := tk_inG 191 (by decide +kernel) (by decide +kernel)
theorem wd_192 : (Cond.methodLink RX2 3 objectInit) ∈ tk_G := tk_inG 192 (by decide +kernel) (by decide +kernel)
theorem wd_193 : (Cond.fieldLink RX2 9 "TurnpikeTrust$Box" "held" "J") ∈ tk_G := tk_inG 193 (by decide +kernel) (by decide +kernel)
theorem wd_194 : (Cond.fieldLink RX11 201 "TurnpikeTrust$Box" "held" "J") ∈ tk_G := tk_inG 194 (by decide +kernel) (by decide +kernel)
theorem wd_195 : (Cond.fieldLink RX2 15 "TurnpikeTrust$Box" "lines" "I") ∈ tk_G := tk_inG 195 (by decide +kernel) (by decide +kernel)
theorem wd_196 : (Cond.fieldLink RX11 305 "TurnpikeTrust$Box" "lines" "I") ∈ tk_G := tk_inG 196 (by decide +kernel) (by decide +kernel)
theorem wd_197 : (Cond.fieldLink RX2 19 "TurnpikeTrust$Box" "days" "[I") ∈ tk_G := tk_inG 197 (by decide +kernel) (by decide +kernel)
theorem wd_198 : (Cond.fieldLink RX2 23 "TurnpikeTrust$Box" "kinds" "[I") ∈ tk_G := tk_inG 198 (by decide +kernel) (by decide +kernel)
theorem wd_199 : (Cond.fieldLink RX2 26 "TurnpikeTrust$Box" "whos" "[I") ∈ tk_G := tk_inG 199 (by decide +kernel) (by decide +kernel)
theorem wd_200 : (Cond.fieldLink RX2 29 "TurnpikeTrust$Box" "sums" "[J") ∈ tk_G := tk_inG 200 (by decide +kernel) (by decide +kernel)
theorem wd_201 : (Cond.fieldLink RX2 33 "TurnpikeTrust$Box" "heldAfte\x72" "[J") ∈ tk_G := tk_inG 201 (by decide +kernel) (by decide +kernel)
theorem wd_217 : (Cond.arrayClass .long) ∈ tk_G := tk_inG 217 (by decide +kernel) (by decide +kernel)
theorem wd_218 : (Cond.classLink RX11 30 RJx4a65c) ∈ tk_G := tk_inG 218 (by decide +kernel) (by decide +kernel)
theorem wd_219 : (Cond.instantiable RJx4a65c 3) ∈ tk_G := tk_inG 219 (by decide +kernel) (by decide +kernel)
theorem wd_220 : (Cond.methodLink RX11 32 yJx4a65c_init_da8c8) ∈ tk_G := tk_inG 220 (by decide +kernel) (by decide +kernel)
theorem wd_221 : (Cond.instanceMethod yJx4a65c_init_da8c8) ∈ tk_G := tk_inG 221 (by decide +kernel) (by decide +kernel)
theorem wd_222 : (tk_code mJx4a65c_init_da8c8) ∈ tk_G := tk_inG 222 (by decide +kernel) (by decide +kernel)
theorem wd_223 : (Cond.methodLink RJx4a65c 1 yJxc12de_init_da8c8) ∈ tk_G := tk_inG 223 (by decide +kernel) (by decide +kernel)
theorem wd_224 : (Cond.instanceMethod yJxc12de_init_da8c8) ∈ tk_G := tk_inG 224 (by decide +kernel) (by decide +kernel)
theorem wd_225 : (tk_code mJxc12de_init_da8c8) ∈ tk_G := tk_inG 225 (by decide +kernel) (by decide +kernel)
theorem wd_226 : (Cond.methodLink RJxc12de 1 yJxa1e45_init_da8c8) ∈ tk_G := tk_inG 226 (by decide +kernel) (by decide +kernel)
theorem wd_227 : (Cond.instanceMethod yJxa1e45_init_da8c8) ∈ tk_G := tk_inG 227 (by decide +kernel) (by decide +kernel)
theorem wd_228 : (tk_code mJxa1e45_init_da8c8) ∈ tk_G := tk_inG 228 (by decide +kernel) (by decide +kernel)
theorem wd_229 : (Cond.methodLink RJxa1e45 1 objectInit) ∈ tk_G := tk_inG 229 (by decide +kernel) (by decide +kernel)
theorem wd_230 : (Cond.fieldLink RJx4a65c 39 "java/util/ArrayList" "DEFAULTCAPACITY_EMPTY_ELEMENTDATA" "[Ljava/lang/Object;") ∈ tk_G := tk_inG 230 (by decide +kernel) (by decide +kernel)
theorem wd_232 : (Cond.fieldLink RJx4a65c 9 "java/util/ArrayList" "elementData" "[Ljava/lang/Object;") ∈ tk_G := tk_inG 232 (by decide +kernel) (by decide +kernel)
theorem wd_233 : (Cond.fieldLink RJx4a65c 48 "java/util/ArrayList" "size" "I") ∈ tk_G := tk_inG 233 (by decide +kernel) (by decide +kernel)
theorem wd_234 : (Cond.fieldLink RJxc12de 7 "java/util/AbstractList" "modCount" "I") ∈ tk_G := tk_inG 234 (by decide +kernel) (by decide +kernel)
theorem wd_235 : (Cond.fieldLink RJx4a65c 63 "java/util/ArrayList" "modCount" "I") ∈ tk_G := tk_inG 235 (by decide +kernel) (by decide +kernel)
theorem wd_236 : (Cond.sameField "java/util/ArrayList" "java/util/AbstractList" "modCount" "I") ∈ tk_G := tk_inG 236 (by decide +kernel) (by decide +kernel)
theorem wd_244 : (Cond.fieldLink RX11 10 "TurnpikeTrust" "reade\x72" "LTurnpikeTrust$Reader;") ∈ tk_G := tk_inG 244 (by decide +kernel) (by decide +kernel)
theorem wd_245 : (Cond.fieldLink RX11 19 "TurnpikeTrust" "reckone\x72" "LTurnpikeTrust$Reckoner;") ∈ tk_G := tk_inG 245 (by decide +kernel) (by decide +kernel)
theorem wd_246 : (Cond.fieldLink RX11 26 "TurnpikeTrust" "chest" "LTurnpikeTrust$Box;") ∈ tk_G := tk_inG 246 (by decide +kernel) (by decide +kernel)
theorem wd_247 : (Cond.fieldLink RX11 33 "TurnpikeTrust" "acts" "Ljava/util/ArrayList;") ∈ tk_G := tk_inG 247 (by decide +kernel) (by decide +kernel)
theorem wd_248 : (Cond.fieldLink RX11 37 "TurnpikeTrust" "stretches" "Ljava/util/ArrayList;") ∈ tk_G := tk_inG 248 (by decide +kernel) (by decide +kernel)
theorem wd_249 : (Cond.fieldLink RX11 40 "TurnpikeTrust" "gates" "Ljava/util/ArrayList;") ∈ tk_G := tk_inG 249 (by decide +kernel) (by decide +kernel)
theorem wd_250 : (Cond.fieldLink RX11 43 "TurnpikeTrust" "travellers" "Ljava/util/ArrayList;") ∈ tk_G := tk_inG 250 (by decide +kernel) (by decide +kernel)
theorem wd_251 : (Cond.fieldLink RX11 46 "TurnpikeTrust" "farmers" "Ljava/util/ArrayList;") ∈ tk_G := tk_inG 251 (by decide +kernel) (by decide +kernel)
theorem wd_252 : (Cond.fieldLink RX11 49 "TurnpikeTrust" "loans" "Ljava/util/ArrayList;") ∈ tk_G := tk_inG 252 (by decide +kernel) (by decide +kernel)
theorem wd_253 : (Cond.fieldLink RX11 52 "TurnpikeTrust" "today" "I") ∈ tk_G := tk_inG 253 (by decide +kernel) (by decide +kernel)
theorem wd_254 : (Cond.fieldLink RX11 56 "TurnpikeTrust" "firstDryDay" "I") ∈ tk_G := tk_inG 254 (by decide +kernel) (by decide +kernel)
theorem wd_255 : (Cond.fieldLink RX11 59 "TurnpikeTrust" "latestClause" "I") ∈ tk_G := tk_inG 255 (by decide +kernel) (by decide +kernel)
theorem wd_285 : (Cond.methodLink RX11 65 yX7_append) ∈ tk_G := tk_inG 285 (by decide +kernel) (by decide +kernel)
theorem wd_286 : (Cond.instanceMethod yX7_append) ∈ tk_G := tk_inG 286 (by decide +kernel) (by decide +kernel)
theorem wd_287 : (Cond.selects RX7 yX7_append yX7_append) ∈ tk_G := tk_inG 287 (by decide +kernel) (by decide +kernel)
theorem wd_288 : (tk_code mX7_append) ∈ tk_G := tk_inG 288 (by decide +kernel) (by decide +kernel)
theorem wd_301 : (Cond.methodLink RX11 80 yJx4a65c_size_8abf5) ∈ tk_G := tk_inG 301 (by decide +kernel) (by decide +kernel)
theorem wd_302 : (Cond.instanceMethod yJx4a65c_size_8abf5) ∈ tk_G := tk_inG 302 (by decide +kernel) (by decide +kernel)
theorem wd_303 : (Cond.selects RJx4a65c yJx4a65c_size_8abf5 yJx4a65c_size_8abf5) ∈ tk_G := tk_inG 303 (by decide +kernel) (by decide +kernel)
theorem wd_304 : (tk_code mJx4a65c_size_8abf5) ∈ tk_G := tk_inG 304 (by decide +kernel) (by decide +kernel)
theorem wd_305 : (Cond.methodLink RX11 176 yX11_rainLeft) ∈ tk_G := tk_inG 305 (by decide +kernel) (by decide +kernel)
theorem wd_307 : (Cond.instanceMethod yX11_rainLeft) ∈ tk_G := tk_inG 307 (by decide +kernel) (by decide +kernel)
theorem wd_308 : (tk_code mX11_rainLeft) ∈ tk_G := tk_inG 308 (by decide +kernel) (by decide +kernel)
theorem wd_318 : (Cond.methodLink RX11 69 yX11_isWithin) ∈ tk_G := tk_inG 318 (by decide +kernel) (by decide +kernel)
theorem wd_319 : (Cond.static yX11_isWithin) ∈ tk_G := tk_inG 319 (by decide +kernel) (by decide +kernel)
theorem wd_320 : (tk_code mX11_isWithin) ∈ tk_G := tk_inG 320 (by decide +kernel) (by decide +kernel)
theorem wd_321 : (Cond.classLink RX11 73 "java/lang/IllegalArgumentException") ∈ tk_G := tk_inG 321 (by decide +kernel) (by decide +kernel)
theorem wd_388 : (Cond.classLink RX11 84 "java/lang/IllegalStateException") ∈ tk_G := tk_inG 388 (by decide +kernel) (by decide +kernel)
theorem wd_404 : (Cond.classLink RX11 89 RX0) ∈ tk_G := tk_inG 404 (by decide +kernel) (by decide +kernel)
theorem wd_405 : (Cond.instantiable RX0 2) ∈ tk_G := tk_inG 405 (by decide +kernel) (by decide +kernel)
theorem wd_406 : (Cond.methodLink RX11 91 yX0_init) ∈ tk_G := tk_inG 406 (by decide +kernel) (by decide +kernel)
theorem wd_407 : (Cond.instanceMethod yX0_init) ∈ tk_G := tk_inG 407 (by decide +kernel) (by decide +kernel)
theorem wd_408 : (tk_code mX0_init) ∈ tk_G := tk_inG 408 (by decide +kernel) (by decide +kernel)
theorem wd_409 : (Cond.methodLink RX0 1 objectInit) ∈ tk_G := tk_inG 409 (by decide +kernel) (by decide +kernel)
theorem wd_410 : (Cond.classLink RX0 7 RJx4a65c) ∈ tk_G := tk_inG 410 (by decide +kernel) (by decide +kernel)
theorem wd_411 : (Cond.methodLink RX0 9 yJx4a65c_init_da8c8) ∈ tk_G := tk_inG 411 (by decide +kernel) (by decide +kernel)
theorem wd_412 : (Cond.fieldLink RX0 16 "TurnpikeTrust$Act" "from" "I") ∈ tk_G := tk_inG 412 (by decide +kernel) (by decide +kernel)
theorem wd_413 : (Cond.fieldLink RX11 314 "TurnpikeTrust$Act" "from" "I") ∈ tk_G := tk_inG 413 (by decide +kernel) (by decide +kernel)
theorem wd_414 : (Cond.fieldLink RX0 10 "TurnpikeTrust$Act" "clauses" "Ljava/util/ArrayList;") ∈ tk_G := tk_inG 414 (by decide +kernel) (by decide +kernel)
theorem wd_415 : (Cond.fieldLink RX8 40 "TurnpikeTrust$Act" "clauses" "Ljava/util/ArrayList;") ∈ tk_G := tk_inG 415 (by decide +kernel) (by decide +kernel)
theorem wd_416 : (Cond.fieldLink RX7 58 "TurnpikeTrust$Act" "clauses" "Ljava/util/ArrayList;") ∈ tk_G := tk_inG 416 (by decide +kernel) (by decide +kernel)
theorem wd_422 : (Cond.methodLink RX11 93 yX7_readAct) ∈ tk_G := tk_inG 422 (by decide +kernel) (by decide +kernel)
theorem wd_423 : (Cond.instanceMethod yX7_readAct) ∈ tk_G := tk_inG 423 (by decide +kernel) (by decide +kernel)
theorem wd_424 : (Cond.selects RX7 yX7_readAct yX7_readAct) ∈ tk_G := tk_inG 424 (by decide +kernel) (by decide +kernel)
theorem wd_425 : (tk_code mX7_readAct) ∈ tk_G := tk_inG 425 (by decide +kernel) (by decide +kernel)
theorem wd_426 : (Cond.methodLink RX7 47 yX7_advance) ∈ tk_G := tk_inG 426 (by decide +kernel) (by decide +kernel)
theorem wd_428 : (Cond.instanceMethod yX7_advance) ∈ tk_G := tk_inG 428 (by decide +kernel) (by decide +kernel)
theorem wd_429 : (tk_code mX7_advance) ∈ tk_G := tk_inG 429 (by decide +kernel) (by decide +kernel)
theorem wd_430 : (Cond.methodLink RX7 151 yX7_byteAt) ∈ tk_G := tk_inG 430 (by decide +kernel) (by decide +kernel)
theorem wd_432 : (Cond.instanceMethod yX7_byteAt) ∈ tk_G := tk_inG 432 (by decide +kernel) (by decide +kernel)
theorem wd_433 : (tk_code mX7_byteAt) ∈ tk_G := tk_inG 433 (by decide +kernel) (by decide +kernel)
theorem wd_434 : (Cond.methodLink RX7 155 yX7_isBlank) ∈ tk_G := tk_inG 434 (by decide +kernel) (by decide +kernel)
theorem wd_435 : (Cond.static yX7_isBlank) ∈ tk_G := tk_inG 435 (by decide +kernel) (by decide +kernel)
theorem wd_436 : (tk_code mX7_isBlank) ∈ tk_G := tk_inG 436 (by decide +kernel) (by decide +kernel)
theorem wd_437 : (Cond.methodLink RX7 158 yX7_isLetter) ∈ tk_G := tk_inG 437 (by decide +kernel) (by decide +kernel)
theorem wd_438 : (Cond.static yX7_isLetter) ∈ tk_G := tk_inG 438 (by decide +kernel) (by decide +kernel)
theorem wd_439 : (tk_code mX7_isLetter) ∈ tk_G := tk_inG 439 (by decide +kernel) (by decide +kernel)
theorem wd_440 : (Cond.methodLink RX7 161 yX7_wordNumber) ∈ tk_G := tk_inG 440 (by decide +kernel) (by decide +kernel)
theorem wd_442 : (Cond.instanceMethod yX7_wordNumber) ∈ tk_G := tk_inG 442 (by decide +kernel) (by decide +kernel)
theorem wd_443 : (tk_code mX7_wordNumber) ∈ tk_G := tk_inG 443 (by decide +kernel) (by decide +kernel)
theorem wd_445 : (Cond.methodLink RX7 180 yJ0_length_8abf5) ∈ tk_G := tk_inG 445 (by decide +kernel) (by decide +kernel)
theorem wd_446 : (Cond.instanceMethod yJ0_length_8abf5) ∈ tk_G := tk_inG 446 (by decide +kernel) (by decide +kernel)
theorem wd_447 : (Cond.selects RJ0 yJ0_length_8abf5 yJ0_length_8abf5) ∈ tk_G := tk_inG 447 (by decide +kernel) (by decide +kernel)
theorem wd_448 : (tk_code mJ0_length_8abf5) ∈ tk_G := tk_inG 448 (by decide +kernel) (by decide +kernel)
theorem wd_449 : (Cond.methodLink RJ0 335 yJ0_coder_7d493) ∈ tk_G := tk_inG 449 (by decide +kernel) (by decide +kernel)
theorem wd_450 : (Cond.instanceMethod yJ0_coder_7d493) ∈ tk_G := tk_inG 450 (by decide +kernel) (by decide +kernel)
theorem wd_451 : (Cond.selects RJ0 yJ0_coder_7d493 yJ0_coder_7d493) ∈ tk_G := tk_inG 451 (by decide +kernel) (by decide +kernel)
theorem wd_452 : (tk_code mJ0_coder_7d493) ∈ tk_G := tk_inG 452 (by decide +kernel) (by decide +kernel)
theorem wd_453 : (Cond.fieldLink RJ0 38 "java/lang/String" "COMPACT_STRINGS" "Z") ∈ tk_G := tk_inG 453 (by decide +kernel) (by decide +kernel)
theorem wd_455 : (Cond.methodLink RX7 182 yJ0_charAt_5068e) ∈ tk_G := tk_inG 455 (by decide +kernel) (by decide +kernel)
theorem wd_456 : (Cond.instanceMethod yJ0_charAt_5068e) ∈ tk_G := tk_inG 456 (by decide +kernel) (by decide +kernel)
theorem wd_457 : (Cond.selects RJ0 yJ0_charAt_5068e yJ0_charAt_5068e) ∈ tk_G := tk_inG 457 (by decide +kernel) (by decide +kernel)
theorem wd_458 : (tk_code mJ0_charAt_5068e) ∈ tk_G := tk_inG 458 (by decide +kernel) (by decide +kernel)
theorem wd_459 : (Cond.methodLink RJ0 492 yJ0_isLatin1_aae02) ∈ tk_G := tk_inG 459 (by decide +kernel) (by decide +kernel)
theorem wd_460 : (Cond.instanceMethod yJ0_isLatin1_aae02) ∈ tk_G := tk_inG 460 (by decide +kernel) (by decide +kernel)
theorem wd_461 : (Cond.selects RJ0 yJ0_isLatin1_aae02 yJ0_isLatin1_aae02) ∈ tk_G := tk_inG 461 (by decide +kernel) (by decide +kernel)
theorem wd_462 : (tk_code mJ0_isLatin1_aae02) ∈ tk_G := tk_inG 462 (by decide +kernel) (by decide +kernel)
theorem wd_463 : (Cond.methodLink RJ0 495 yJ1_charAt_3b067) ∈ tk_G := tk_inG 463 (by decide +kernel) (by decide +kernel)
theorem wd_464 : (Cond.static yJ1_charAt_3b067) ∈ tk_G := tk_inG 464 (by decide +kernel) (by decide +kernel)
theorem wd_465 : (tk_code mJ1_charAt_3b067) ∈ tk_G := tk_inG 465 (by decide +kernel) (by decide +kernel)
theorem wd_466 : (Cond.methodLink RJ1 9 yJ0_checkIndex_df160) ∈ tk_G := tk_inG 466 (by decide +kernel) (by decide +kernel)
theorem wd_467 : (Cond.static yJ0_checkIndex_df160) ∈ tk_G := tk_inG 467 (by decide +kernel) (by decide +kernel)
theorem wd_468 : (tk_code mJ0_checkIndex_df160) ∈ tk_G := tk_inG 468 (by decide +kernel) (by decide +kernel)
theorem wd_469 : (Cond.fieldLink RJ0 1053 "jdk/internal/util/Preconditions" "SIOOBE_FORMATTER" "Ljava/util/function/BiFunction;") ∈ tk_G := tk_inG 469 (by decide +kernel) (by decide +kernel)
theorem wd_471 : (Cond.methodLink RJ0 1059 yJ3_checkIndex_8e157) ∈ tk_G := tk_inG 471 (by decide +kernel) (by decide +kernel)
theorem wd_472 : (Cond.static yJ3_checkIndex_8e157) ∈ tk_G := tk_inG 472 (by decide +kernel) (by decide +kernel)
theorem wd_473 : (tk_code mJ3_checkIndex_8e157) ∈ tk_G := tk_inG 473 (by decide +kernel) (by decide +kernel)
theorem wd_493 : (Cond.methodLink RX7 164 yX7_isDigit) ∈ tk_G := tk_inG 493 (by decide +kernel) (by decide +kernel)
theorem wd_494 : (Cond.static yX7_isDigit) ∈ tk_G := tk_inG 494 (by decide +kernel) (by decide +kernel)
theorem wd_495 : (tk_code mX7_isDigit) ∈ tk_G := tk_inG 495 (by decide +kernel) (by decide +kernel)
theorem wd_496 : (Cond.constant RX7 167 (1000001)) ∈ tk_G := tk_inG 496 (by decide +kernel) (by decide +kernel)
theorem wd_497 : (Cond.methodLink RX7 168 Lib.Math.min.name) ∈ tk_G := tk_inG 497 (by decide +kernel) (by decide +kernel)
theorem wd_498 : (Cond.static Lib.Math.min.name) ∈ tk_G := tk_inG 498 (by decide +kernel) (by decide +kernel)
theorem wd_499 : (Cond.code Lib.Math.min.name Lib.Math.min.code 2 (some .int)) ∈ tk_G := tk_inG 499 (by decide +kernel) (by decide +kernel)
theorem wd_501 : (Cond.methodLink RX7 173 yJ0_indexOf_0f7a4) ∈ tk_G := tk_inG 501 (by decide +kernel) (by decide +kernel)
theorem wd_502 : (Cond.instanceMethod yJ0_indexOf_0f7a4) ∈ tk_G := tk_inG 502 (by decide +kernel) (by decide +kernel)
theorem wd_503 : (Cond.selects RJ0 yJ0_indexOf_0f7a4 yJ0_indexOf_0f7a4) ∈ tk_G := tk_inG 503 (by decide +kernel) (by decide +kernel)
theorem wd_504 : (tk_code mJ0_indexOf_0f7a4) ∈ tk_G := tk_inG 504 (by decide +kernel) (by decide +kernel)
theorem wd_505 : (Cond.methodLink RJ0 633 yJ0_indexOf_7cf53) ∈ tk_G := tk_inG 505 (by decide +kernel) (by decide +kernel)
theorem wd_506 : (Cond.instanceMethod yJ0_indexOf_7cf53) ∈ tk_G := tk_inG 506 (by decide +kernel) (by decide +kernel)
theorem wd_507 : (Cond.selects RJ0 yJ0_indexOf_7cf53 yJ0_indexOf_7cf53) ∈ tk_G := tk_inG 507 (by decide +kernel) (by decide +kernel)
theorem wd_508 : (tk_code mJ0_indexOf_7cf53) ∈ tk_G := tk_inG 508 (by decide +kernel) (by decide +kernel)
theorem wd_509 : (Cond.methodLink RJ0 505 yJ0_length_8abf5) ∈ tk_G := tk_inG 509 (by decide +kernel) (by decide +kernel)
theorem wd_510 : (Cond.methodLink RJ0 637 yJ1_indexOf_4cfef) ∈ tk_G := tk_inG 510 (by decide +kernel) (by decide +kernel)
theorem wd_511 : (Cond.static yJ1_indexOf_4cfef) ∈ tk_G := tk_inG 511 (by decide +kernel) (by decide +kernel)
theorem wd_512 : (tk_code mJ1_indexOf_4cfef) ∈ tk_G := tk_inG 512 (by decide +kernel) (by decide +kernel)
theorem wd_513 : (Cond.methodLink RJ1 88 yJ1_canEncode_9a6ad) ∈ tk_G := tk_inG 513 (by decide +kernel) (by decide +kernel)
theorem wd_514 : (Cond.static yJ1_canEncode_9a6ad) ∈ tk_G := tk_inG 514 (by decide +kernel) (by decide +kernel)
theorem wd_515 : (tk_code mJ1_canEncode_9a6ad) ∈ tk_G := tk_inG 515 (by decide +kernel) (by decide +kernel)
theorem wd_516 : (Cond.methodLink RJ1 92 Lib.Math.max.name) ∈ tk_G := tk_inG 516 (by decide +kernel) (by decide +kernel)
theorem wd_517 : (Cond.static Lib.Math.max.name) ∈ tk_G := tk_inG 517 (by decide +kernel) (by decide +kernel)
theorem wd_518 : (Cond.code Lib.Math.max.name Lib.Math.max.code 2 (some .int)) ∈ tk_G := tk_inG 518 (by decide +kernel) (by decide +kernel)
theorem wd_519 : (Cond.methodLink RJ1 38 Lib.Math.min.name) ∈ tk_G := tk_inG 519 (by decide +kernel) (by decide +kernel)
theorem wd_520 : (Cond.methodLink RJ1 95 yJ1_indexOfChar_4cfef) ∈ tk_G := tk_inG 520 (by decide +kernel) (by decide +kernel)
theorem wd_521 : (Cond.static yJ1_indexOfChar_4cfef) ∈ tk_G := tk_inG 521 (by decide +kernel) (by decide +kernel)
theorem wd_522 : (tk_code mJ1_indexOfChar_4cfef) ∈ tk_G := tk_inG 522 (by decide +kernel) (by decide +kernel)
theorem wd_558 : (Cond.methodLink RX7 50 yX7_readClause) ∈ tk_G := tk_inG 558 (by decide +kernel) (by decide +kernel)
theorem wd_560 : (Cond.instanceMethod yX7_readClause) ∈ tk_G := tk_inG 560 (by decide +kernel) (by decide +kernel)
theorem wd_561 : (tk_code mX7_readClause) ∈ tk_G := tk_inG 561 (by decide +kernel) (by decide +kernel)
theorem wd_562 : (Cond.methodLink RX7 54 yX7_refuse) ∈ tk_G := tk_inG 562 (by decide +kernel) (by decide +kernel)
theorem wd_564 : (Cond.instanceMethod yX7_refuse) ∈ tk_G := tk_inG 564 (by decide +kernel) (by decide +kernel)
theorem wd_565 : (tk_code mX7_refuse) ∈ tk_G := tk_inG 565 (by decide +kernel) (by decide +kernel)
theorem wd_566 : (Cond.methodLink RX7 64 yJx4a65c_size_8abf5) ∈ tk_G := tk_inG 566 (by decide +kernel) (by decide +kernel)
theorem wd_567 : (Cond.classLink RX7 70 RX3) ∈ tk_G := tk_inG 567 (by decide +kernel) (by decide +kernel)
theorem wd_568 : (Cond.instantiable RX3 5) ∈ tk_G := tk_inG 568 (by decide +kernel) (by decide +kernel)
theorem wd_569 : (Cond.methodLink RX7 72 yX3_init) ∈ tk_G := tk_inG 569 (by decide +kernel) (by decide +kernel)
theorem wd_570 : (Cond.instanceMethod yX3_init) ∈ tk_G := tk_inG 570 (by decide +kernel) (by decide +kernel)
theorem wd_571 : (tk_code mX3_init) ∈ tk_G := tk_inG 571 (by decide +kernel) (by decide +kernel)
theorem wd_572 : (Cond.methodLink RX3 3 objectInit) ∈ tk_G := tk_inG 572 (by decide +kernel) (by decide +kernel)
theorem wd_573 : (Cond.fieldLink RX3 25 "TurnpikeTrust$Clause" "word" "I") ∈ tk_G := tk_inG 573 (by decide +kernel) (by decide +kernel)
theorem wd_574 : (Cond.fieldLink RX8 62 "TurnpikeTrust$Clause" "word" "I") ∈ tk_G := tk_inG 574 (by decide +kernel) (by decide +kernel)
theorem wd_575 : (Cond.fieldLink RX7 103 "TurnpikeTrust$Clause" "word" "I") ∈ tk_G := tk_inG 575 (by decide +kernel) (by decide +kernel)
theorem wd_576 : (Cond.fieldLink RX3 9 "TurnpikeTrust$Clause" "manne\x72" "I") ∈ tk_G := tk_inG 576 (by decide +kernel) (by decide +kernel)
theorem wd_577 : (Cond.fieldLink RX8 95 "TurnpikeTrust$Clause" "manne\x72" "I") ∈ tk_G := tk_inG 577 (by decide +kernel) (by decide +kernel)
theorem wd_578 : (Cond.fieldLink RX7 125 "TurnpikeTrust$Clause" "manne\x72" "I") ∈ tk_G := tk_inG 578 (by decide +kernel) (by decide +kernel)
theorem wd_579 : (Cond.fieldLink RX3 15 "TurnpikeTrust$Clause" "first" "I") ∈ tk_G := tk_inG 579 (by decide +kernel) (by decide +kernel)
theorem wd_580 : (Cond.fieldLink RX8 121 "TurnpikeTrust$Clause" "first" "I") ∈ tk_G := tk_inG 580 (by decide +kernel) (by decide +kernel)
theorem wd_581 : (Cond.fieldLink RX7 119 "TurnpikeTrust$Clause" "first" "I") ∈ tk_G := tk_inG 581 (by decide +kernel) (by decide +kernel)
theorem wd_582 : (Cond.fieldLink RX3 18 "TurnpikeTrust$Clause" "second" "I") ∈ tk_G := tk_inG 582 (by decide +kernel) (by decide +kernel)
theorem wd_583 : (Cond.fieldLink RX7 122 "TurnpikeTrust$Clause" "second" "I") ∈ tk_G := tk_inG 583 (by decide +kernel) (by decide +kernel)
theorem wd_584 : (Cond.fieldLink RX8 129 "TurnpikeTrust$Clause" "second" "I") ∈ tk_G := tk_inG 584 (by decide +kernel) (by decide +kernel)
theorem wd_585 : (Cond.fieldLink RX3 21 "TurnpikeTrust$Clause" "steps" "[I") ∈ tk_G := tk_inG 585 (by decide +kernel) (by decide +kernel)
theorem wd_586 : (Cond.fieldLink RX7 98 "TurnpikeTrust$Clause" "steps" "[I") ∈ tk_G := tk_inG 586 (by decide +kernel) (by decide +kernel)
theorem wd_598 : (Cond.methodLink RX7 75 yX7_readWhat) ∈ tk_G := tk_inG 598 (by decide +kernel) (by decide +kernel)
theorem wd_600 : (Cond.instanceMethod yX7_readWhat) ∈ tk_G := tk_inG 600 (by decide +kernel) (by decide +kernel)
theorem wd_601 : (tk_code mX7_readWhat) ∈ tk_G := tk_inG 601 (by decide +kernel) (by decide +kernel)
theorem wd_602 : (Cond.methodLink RX7 106 yX7_readToll) ∈ tk_G := tk_inG 602 (by decide +kernel) (by decide +kernel)
theorem wd_604 : (Cond.instanceMethod yX7_readToll) ∈ tk_G := tk_inG 604 (by decide +kernel) (by decide +kernel)
theorem wd_605 : (tk_code mX7_readToll) ∈ tk_G := tk_inG 605 (by decide +kernel) (by decide +kernel)
theorem wd_606 : (Cond.methodLink RX7 116 yX7_readNumber) ∈ tk_G := tk_inG 606 (by decide +kernel) (by decide +kernel)
theorem wd_608 : (Cond.instanceMethod yX7_readNumber) ∈ tk_G := tk_inG 608 (by decide +kernel) (by decide +kernel)
theorem wd_609 : (tk_code mX7_readNumber) ∈ tk_G := tk_inG 609 (by decide +kernel) (by decide +kernel)
theorem wd_610 : (Cond.constant RX7 128 (1000000)) ∈ tk_G := tk_inG 610 (by decide +kernel) (by decide +kernel)
theorem wd_611 : (Cond.methodLink RX7 112 yX7_readManner) ∈ tk_G := tk_inG 611 (by decide +kernel) (by decide +kernel)
theorem wd_613 : (Cond.instanceMethod yX7_readManner) ∈ tk_G := tk_inG 613 (by decide +kernel) (by decide +kernel)
theorem wd_614 : (tk_code mX7_readManner) ∈ tk_G := tk_inG 614 (by decide +kernel) (by decide +kernel)
theorem wd_615 : (Cond.methodLink RX7 109 yX7_readTimes) ∈ tk_G := tk_inG 615 (by decide +kernel) (by decide +kernel)
theorem wd_617 : (Cond.instanceMethod yX7_readTimes) ∈ tk_G := tk_inG 617 (by decide +kernel) (by decide +kernel)
theorem wd_618 : (tk_code mX7_readTimes) ∈ tk_G := tk_inG 618 (by decide +kernel) (by decide +kernel)
theorem wd_619 : (Cond.methodLink RX7 83 yX7_readSign) ∈ tk_G := tk_inG 619 (by decide +kernel) (by decide +kernel)
theorem wd_621 : (Cond.instanceMethod yX7_readSign) ∈ tk_G := tk_inG 621 (by decide +kernel) (by decide +kernel)
theorem wd_622 : (tk_code mX7_readSign) ∈ tk_G := tk_inG 622 (by decide +kernel) (by decide +kernel)
theorem wd_623 : (Cond.methodLink RX7 79 yX7_readIf) ∈ tk_G := tk_inG 623 (by decide +kernel) (by decide +kernel)
theorem wd_625 : (Cond.instanceMethod yX7_readIf) ∈ tk_G := tk_inG 625 (by decide +kernel) (by decide +kernel)
theorem wd_626 : (tk_code mX7_readIf) ∈ tk_G := tk_inG 626 (by decide +kernel) (by decide +kernel)
theorem wd_627 : (Cond.methodLink RX7 129 yX7_readAny) ∈ tk_G := tk_inG 627 (by decide +kernel) (by decide +kernel)
theorem wd_629 : (Cond.instanceMethod yX7_readAny) ∈ tk_G := tk_inG 629 (by decide +kernel) (by decide +kernel)
theorem wd_630 : (tk_code mX7_readAny) ∈ tk_G := tk_inG 630 (by decide +kernel) (by decide +kernel)
theorem wd_631 : (Cond.methodLink RX7 132 yX7_readBoth) ∈ tk_G := tk_inG 631 (by decide +kernel) (by decide +kernel)
theorem wd_633 : (Cond.instanceMethod yX7_readBoth) ∈ tk_G := tk_inG 633 (by decide +kernel) (by decide +kernel)
theorem wd_634 : (tk_code mX7_readBoth) ∈ tk_G := tk_inG 634 (by decide +kernel) (by decide +kernel)
theorem wd_635 : (Cond.methodLink RX7 139 yX7_readOne) ∈ tk_G := tk_inG 635 (by decide +kernel) (by decide +kernel)
theorem wd_637 : (Cond.instanceMethod yX7_readOne) ∈ tk_G := tk_inG 637 (by decide +kernel) (by decide +kernel)
theorem wd_638 : (tk_code mX7_readOne) ∈ tk_G := tk_inG 638 (by decide +kernel) (by decide +kernel)
theorem wd_639 : (Cond.methodLink RX7 142 yX7_readNested) ∈ tk_G := tk_inG 639 (by decide +kernel) (by decide +kernel)
theorem wd_641 : (Cond.instanceMethod yX7_readNested) ∈ tk_G := tk_inG 641 (by decide +kernel) (by decide +kernel)
theorem wd_642 : (tk_code mX7_readNested) ∈ tk_G := tk_inG 642 (by decide +kernel) (by decide +kernel)
theorem wd_643 : (Cond.methodLink RX7 135 yX7_addStep) ∈ tk_G := tk_inG 643 (by decide +kernel) (by decide +kernel)
theorem wd_645 : (Cond.instanceMethod yX7_addStep) ∈ tk_G := tk_inG 645 (by decide +kernel) (by decide +kernel)
theorem wd_646 : (tk_code mX7_addStep) ∈ tk_G := tk_inG 646 (by decide +kernel) (by decide +kernel)
theorem wd_647 : (Cond.methodLink RX7 145 yX7_readKind) ∈ tk_G := tk_inG 647 (by decide +kernel) (by decide +kernel)
theorem wd_649 : (Cond.instanceMethod yX7_readKind) ∈ tk_G := tk_inG 649 (by decide +kernel) (by decide +kernel)
theorem wd_650 : (tk_code mX7_readKind) ∈ tk_G := tk_inG 650 (by decide +kernel) (by decide +kernel)
theorem wd_651 : (Cond.methodLink RX7 148 yX7_readComparison) ∈ tk_G := tk_inG 651 (by decide +kernel) (by decide +kernel)
theorem wd_653 : (Cond.instanceMethod yX7_readComparison) ∈ tk_G := tk_inG 653 (by decide +kernel) (by decide +kernel)
theorem wd_654 : (tk_code mX7_readComparison) ∈ tk_G := tk_inG 654 (by decide +kernel) (by decide +kernel)
theorem wd_655 : (Cond.methodLink RX7 86 Lib.Math.max.name) ∈ tk_G := tk_inG 655 (by decide +kernel) (by decide +kernel)
theorem wd_656 : (Cond.methodLink RX7 92 yJ7_copyOf_59c91) ∈ tk_G := tk_inG 656 (by decide +kernel) (by decide +kernel)
theorem wd_657 : (Cond.static yJ7_copyOf_59c91) ∈ tk_G := tk_inG 657 (by decide +kernel) (by decide +kernel)
theorem wd_658 : (tk_code mJ7_copyOf_59c91) ∈ tk_G := tk_inG 658 (by decide +kernel) (by decide +kernel)
theorem wd_666 : (Cond.methodLink RJ7 304 Lib.Math.min.name) ∈ tk_G := tk_inG 666 (by decide +kernel) (by decide +kernel)
theorem wd_667 : (Cond.methodLink RJ7 150 arraycopyName) ∈ tk_G := tk_inG 667 (by decide +kernel) (by decide +kernel)
theorem wd_668 : (Cond.static arraycopyName) ∈ tk_G := tk_inG 668 (by decide +kernel) (by decide +kernel)
theorem wd_669 : (Cond.native arraycopyName) ∈ tk_G := tk_inG 669 (by decide +kernel) (by decide +kernel)
theorem wd_670 : (Cond.methodLink RX7 99 yJx4a65c_add_9ea2d) ∈ tk_G := tk_inG 670 (by decide +kernel) (by decide +kernel)
theorem wd_671 : (Cond.instanceMethod yJx4a65c_add_9ea2d) ∈ tk_G := tk_inG 671 (by decide +kernel) (by decide +kernel)
theorem wd_672 : (Cond.selects RJx4a65c yJx4a65c_add_9ea2d yJx4a65c_add_9ea2d) ∈ tk_G := tk_inG 672 (by decide +kernel) (by decide +kernel)
theorem wd_673 : (tk_code mJx4a65c_add_9ea2d) ∈ tk_G := tk_inG 673 (by decide +kernel) (by decide +kernel)
theorem wd_674 : (Cond.methodLink RJx4a65c 131 yJx4a65c_add_72be8) ∈ tk_G := tk_inG 674 (by decide +kernel) (by decide +kernel)
theorem wd_676 : (Cond.instanceMethod yJx4a65c_add_72be8) ∈ tk_G := tk_inG 676 (by decide +kernel) (by decide +kernel)
theorem wd_677 : (tk_code mJx4a65c_add_72be8) ∈ tk_G := tk_inG 677 (by decide +kernel) (by decide +kernel)
theorem wd_678 : (Cond.methodLink RJx4a65c 129 yJx4a65c_grow_d5877) ∈ tk_G := tk_inG 678 (by decide +kernel) (by decide +kernel)
theorem wd_680 : (Cond.instanceMethod yJx4a65c_grow_d5877) ∈ tk_G := tk_inG 680 (by decide +kernel) (by decide +kernel)
theorem wd_681 : (tk_code mJx4a65c_grow_d5877) ∈ tk_G := tk_inG 681 (by decide +kernel) (by decide +kernel)
theorem wd_682 : (Cond.methodLink RJx4a65c 69 yJx4a65c_grow_92f84) ∈ tk_G := tk_inG 682 (by decide +kernel) (by decide +kernel)
theorem wd_684 : (Cond.instanceMethod yJx4a65c_grow_92f84) ∈ tk_G := tk_inG 684 (by decide +kernel) (by decide +kernel)
theorem wd_685 : (tk_code mJx4a65c_grow_92f84) ∈ tk_G := tk_inG 685 (by decide +kernel) (by decide +kernel)
theorem wd_686 : (Cond.methodLink RJx4a65c 73 yJ8_newLength_cabcc) ∈ tk_G := tk_inG 686 (by decide +kernel) (by decide +kernel)
theorem wd_687 : (Cond.static yJ8_newLength_cabcc) ∈ tk_G := tk_inG 687 (by decide +kernel) (by decide +kernel)
theorem wd_688 : (tk_code mJ8_newLength_cabcc) ∈ tk_G := tk_inG 688 (by decide +kernel) (by decide +kernel)
theorem wd_689 : (Cond.methodLink RJ8 194 Lib.Math.max.name) ∈ tk_G := tk_inG 689 (by decide +kernel) (by decide +kernel)
theorem wd_690 : (Cond.constant RJ8 200 (2147483639)) ∈ tk_G := tk_inG 690 (by decide +kernel) (by decide +kernel)
theorem wd_694 : (Cond.methodLink RJx4a65c 66 yJ7_copyOf_1904c) ∈ tk_G := tk_inG 694 (by decide +kernel) (by decide +kernel)
theorem wd_695 : (Cond.static yJ7_copyOf_1904c) ∈ tk_G := tk_inG 695 (by decide +kernel) (by decide +kernel)
theorem wd_696 : (tk_code mJ7_copyOf_1904c) ∈ tk_G := tk_inG 696 (by decide +kernel) (by decide +kernel)
theorem wd_697 : (Cond.methodLink RJ7 86 ⟨"java/lang/Object", "getClass", "()Ljava/lang/Class;"⟩) ∈ tk_G := tk_inG 697 (by decide +kernel) (by decide +kernel)
theorem wd_698 : (Cond.instanceMethod ⟨"java/lang/Object", "getClass", "()Ljava/lang/Class;"⟩) ∈ tk_G := tk_inG 698 (by decide +kernel) (by decide +kernel)
theorem wd_717 : (Cond.native ⟨"java/lang/Object", "getClass", "()Ljava/lang/Class;"⟩) ∈ tk_G := tk_inG 717 (by decide +kernel) (by decide +kernel)
theorem wd_718 : (Cond.methodLink RJ7 300 yJ7_copyOf_6403c) ∈ tk_G := tk_inG 718 (by decide +kernel) (by decide +kernel)
theorem wd_719 : (Cond.static yJ7_copyOf_6403c) ∈ tk_G := tk_inG 719 (by decide +kernel) (by decide +kernel)
theorem wd_720 : (tk_code mJ7_copyOf_6403c) ∈ tk_G := tk_inG 720 (by decide +kernel) (by decide +kernel)
theorem wd_721 : (Cond.classLink RJ7 110 "[Ljava/lang/Object;") ∈ tk_G := tk_inG 721 (by decide +kernel) (by decide +kernel)
theorem wd_723 : (Cond.classLink RJ7 2 "java/lang/Object") ∈ tk_G := tk_inG 723 (by decide +kernel) (by decide +kernel)
theorem wd_724 : (Cond.methodLink RJx4a65c 79 Lib.Math.max.name) ∈ tk_G := tk_inG 724 (by decide +kernel) (by decide +kernel)
theorem wd_725 : (Cond.classLink RJx4a65c 7 "java/lang/Object") ∈ tk_G := tk_inG 725 (by decide +kernel) (by decide +kernel)
theorem wd_726 : (Cond.methodLink RX11 100 yJx4a65c_add_9ea2d) ∈ tk_G := tk_inG 726 (by decide +kernel) (by decide +kernel)
theorem wd_736 : (Cond.classLink RX11 111 RX9) ∈ tk_G := tk_inG 736 (by decide +kernel) (by decide +kernel)
theorem wd_737 : (Cond.instantiable RX9 3) ∈ tk_G := tk_inG 737 (by decide +kernel) (by decide +kernel)
theorem wd_738 : (Cond.methodLink RX11 113 yX9_init) ∈ tk_G := tk_inG 738 (by decide +kernel) (by decide +kernel)
theorem wd_739 : (Cond.instanceMethod yX9_init) ∈ tk_G := tk_inG 739 (by decide +kernel) (by decide +kernel)
theorem wd_740 : (tk_code mX9_init) ∈ tk_G := tk_inG 740 (by decide +kernel) (by decide +kernel)
theorem wd_741 : (Cond.methodLink RX9 3 objectInit) ∈ tk_G := tk_inG 741 (by decide +kernel) (by decide +kernel)
theorem wd_742 : (Cond.fieldLink RX9 15 "TurnpikeTrust$Stretch" "numbe\x72" "I") ∈ tk_G := tk_inG 742 (by decide +kernel) (by decide +kernel)
theorem wd_743 : (Cond.fieldLink RX11 211 "TurnpikeTrust$Stretch" "numbe\x72" "I") ∈ tk_G := tk_inG 743 (by decide +kernel) (by decide +kernel)
theorem wd_744 : (Cond.fieldLink RX9 19 "TurnpikeTrust$Stretch" "price" "I") ∈ tk_G := tk_inG 744 (by decide +kernel) (by decide +kernel)
theorem wd_745 : (Cond.fieldLink RX11 204 "TurnpikeTrust$Stretch" "price" "I") ∈ tk_G := tk_inG 745 (by decide +kernel) (by decide +kernel)
theorem wd_746 : (Cond.fieldLink RX9 9 "TurnpikeTrust$Stretch" "worn" "J") ∈ tk_G := tk_inG 746 (by decide +kernel) (by decide +kernel)
theorem wd_747 : (Cond.fieldLink RX11 172 "TurnpikeTrust$Stretch" "worn" "J") ∈ tk_G := tk_inG 747 (by decide +kernel) (by decide +kernel)
theorem wd_763 : (Cond.classLink RX11 116 "java/lang/IndexOutOfBoundsException") ∈ tk_G := tk_inG 763 (by decide +kernel) (by decide +kernel)
theorem wd_780 : (Cond.classLink RX11 123 RX5) ∈ tk_G := tk_inG 780 (by decide +kernel) (by decide +kernel)
theorem wd_781 : (Cond.instantiable RX5 9) ∈ tk_G := tk_inG 781 (by decide +kernel) (by decide +kernel)
theorem wd_782 : (Cond.methodLink RX11 125 yJx4a65c_get_915e3) ∈ tk_G := tk_inG 782 (by decide +kernel) (by decide +kernel)
theorem wd_783 : (Cond.instanceMethod yJx4a65c_get_915e3) ∈ tk_G := tk_inG 783 (by decide +kernel) (by decide +kernel)
theorem wd_784 : (Cond.selects RJx4a65c yJx4a65c_get_915e3 yJx4a65c_get_915e3) ∈ tk_G := tk_inG 784 (by decide +kernel) (by decide +kernel)
theorem wd_785 : (tk_code mJx4a65c_get_915e3) ∈ tk_G := tk_inG 785 (by decide +kernel) (by decide +kernel)
theorem wd_786 : (Cond.methodLink RJx4a65c 118 yJ15_checkIndex_7cf53) ∈ tk_G := tk_inG 786 (by decide +kernel) (by decide +kernel)
theorem wd_787 : (Cond.static yJ15_checkIndex_7cf53) ∈ tk_G := tk_inG 787 (by decide +kernel) (by decide +kernel)
theorem wd_788 : (tk_code mJ15_checkIndex_7cf53) ∈ tk_G := tk_inG 788 (by decide +kernel) (by decide +kernel)
theorem wd_789 : (Cond.methodLink RJ15 105 yJ3_checkIndex_8e157) ∈ tk_G := tk_inG 789 (by decide +kernel) (by decide +kernel)
theorem wd_790 : (Cond.methodLink RJx4a65c 123 yJx4a65c_elementData_915e3) ∈ tk_G := tk_inG 790 (by decide +kernel) (by decide +kernel)
theorem wd_791 : (Cond.instanceMethod yJx4a65c_elementData_915e3) ∈ tk_G := tk_inG 791 (by decide +kernel) (by decide +kernel)
theorem wd_792 : (Cond.selects RJx4a65c yJx4a65c_elementData_915e3 yJx4a65c_elementData_915e3) ∈ tk_G := tk_inG 792 (by decide +kernel) (by decide +kernel)
theorem wd_793 : (tk_code mJx4a65c_elementData_915e3) ∈ tk_G := tk_inG 793 (by decide +kernel) (by decide +kernel)
theorem wd_794 : (Cond.methodLink RX11 129 yX5_init) ∈ tk_G := tk_inG 794 (by decide +kernel) (by decide +kernel)
theorem wd_795 : (Cond.instanceMethod yX5_init) ∈ tk_G := tk_inG 795 (by decide +kernel) (by decide +kernel)
theorem wd_796 : (tk_code mX5_init) ∈ tk_G := tk_inG 796 (by decide +kernel) (by decide +kernel)
theorem wd_797 : (Cond.methodLink RX5 1 objectInit) ∈ tk_G := tk_inG 797 (by decide +kernel) (by decide +kernel)
theorem wd_798 : (Cond.classLink RX5 7 RJx4a65c) ∈ tk_G := tk_inG 798 (by decide +kernel) (by decide +kernel)
theorem wd_799 : (Cond.methodLink RX5 9 yJx4a65c_init_da8c8) ∈ tk_G := tk_inG 799 (by decide +kernel) (by decide +kernel)
theorem wd_800 : (Cond.fieldLink RX5 36 "TurnpikeTrust$Gate" "numbe\x72" "I") ∈ tk_G := tk_inG 800 (by decide +kernel) (by decide +kernel)
theorem wd_801 : (Cond.fieldLink RX11 330 "TurnpikeTrust$Gate" "numbe\x72" "I") ∈ tk_G := tk_inG 801 (by decide +kernel) (by decide +kernel)
theorem wd_802 : (Cond.fieldLink RX5 39 "TurnpikeTrust$Gate" "road" "LTurnpikeTrust$Stretch;") ∈ tk_G := tk_inG 802 (by decide +kernel) (by decide +kernel)
theorem wd_803 : (Cond.fieldLink RX11 168 "TurnpikeTrust$Gate" "road" "LTurnpikeTrust$Stretch;") ∈ tk_G := tk_inG 803 (by decide +kernel) (by decide +kernel)
theorem wd_804 : (Cond.fieldLink RX5 10 "TurnpikeTrust$Gate" "bids" "Ljava/util/ArrayList;") ∈ tk_G := tk_inG 804 (by decide +kernel) (by decide +kernel)
theorem wd_805 : (Cond.fieldLink RX11 235 "TurnpikeTrust$Gate" "bids" "Ljava/util/ArrayList;") ∈ tk_G := tk_inG 805 (by decide +kernel) (by decide +kernel)
theorem wd_806 : (Cond.fieldLink RX5 16 "TurnpikeTrust$Gate" "passes" "I") ∈ tk_G := tk_inG 806 (by decide +kernel) (by decide +kernel)
theorem wd_807 : (Cond.fieldLink RX11 165 "TurnpikeTrust$Gate" "passes" "I") ∈ tk_G := tk_inG 807 (by decide +kernel) (by decide +kernel)
theorem wd_808 : (Cond.fieldLink RX5 20 "TurnpikeTrust$Gate" "tenant" "LTurnpikeTrust$Farmer;") ∈ tk_G := tk_inG 808 (by decide +kernel) (by decide +kernel)
theorem wd_809 : (Cond.fieldLink RX11 231 "TurnpikeTrust$Gate" "tenant" "LTurnpikeTrust$Farmer;") ∈ tk_G := tk_inG 809 (by decide +kernel) (by decide +kernel)
theorem wd_810 : (Cond.fieldLink RX5 24 "TurnpikeTrust$Gate" "rent" "I") ∈ tk_G := tk_inG 810 (by decide +kernel) (by decide +kernel)
theorem wd_811 : (Cond.fieldLink RX11 265 "TurnpikeTrust$Gate" "rent" "I") ∈ tk_G := tk_inG 811 (by decide +kernel) (by decide +kernel)
theorem wd_812 : (Cond.fieldLink RX5 27 "TurnpikeTrust$Gate" "surety" "I") ∈ tk_G := tk_inG 812 (by decide +kernel) (by decide +kernel)
theorem wd_813 : (Cond.fieldLink RX11 268 "TurnpikeTrust$Gate" "surety" "I") ∈ tk_G := tk_inG 813 (by decide +kernel) (by decide +kernel)
theorem wd_814 : (Cond.fieldLink RX5 30 "TurnpikeTrust$Gate" "dueDay" "I") ∈ tk_G := tk_inG 814 (by decide +kernel) (by decide +kernel)
theorem wd_815 : (Cond.fieldLink RX11 271 "TurnpikeTrust$Gate" "dueDay" "I") ∈ tk_G := tk_inG 815 (by decide +kernel) (by decide +kernel)
theorem wd_816 : (Cond.fieldLink RX5 33 "TurnpikeTrust$Gate" "rentsLeft" "I") ∈ tk_G := tk_inG 816 (by decide +kernel) (by decide +kernel)
theorem wd_817 : (Cond.fieldLink RX11 324 "TurnpikeTrust$Gate" "rentsLeft" "I") ∈ tk_G := tk_inG 817 (by decide +kernel) (by decide +kernel)
theorem wd_846 : (Cond.classLink RX11 136 RX10) ∈ tk_G := tk_inG 846 (by decide +kernel) (by decide +kernel)
theorem wd_847 : (Cond.instantiable RX10 7) ∈ tk_G := tk_inG 847 (by decide +kernel) (by decide +kernel)
theorem wd_848 : (Cond.methodLink RX11 138 yX10_init) ∈ tk_G := tk_inG 848 (by decide +kernel) (by decide +kernel)
theorem wd_849 : (Cond.instanceMethod yX10_init) ∈ tk_G := tk_inG 849 (by decide +kernel) (by decide +kernel)
theorem wd_850 : (tk_code mX10_init) ∈ tk_G := tk_inG 850 (by decide +kernel) (by decide +kernel)
theorem wd_851 : (Cond.methodLink RX10 3 objectInit) ∈ tk_G := tk_inG 851 (by decide +kernel) (by decide +kernel)
theorem wd_852 : (Cond.methodLink RX10 34 yJ7_fill_53178) ∈ tk_G := tk_inG 852 (by decide +kernel) (by decide +kernel)
theorem wd_853 : (Cond.static yJ7_fill_53178) ∈ tk_G := tk_inG 853 (by decide +kernel) (by decide +kernel)
theorem wd_854 : (tk_code mJ7_fill_53178) ∈ tk_G := tk_inG 854 (by decide +kernel) (by decide +kernel)
theorem wd_855 : (Cond.fieldLink RX10 22 "TurnpikeTrust$Travelle\x72" "kind" "I") ∈ tk_G := tk_inG 855 (by decide +kernel) (by decide +kernel)
theorem wd_856 : (Cond.fieldLink RX8 92 "TurnpikeTrust$Travelle\x72" "kind" "I") ∈ tk_G := tk_inG 856 (by decide +kernel) (by decide +kernel)
theorem wd_857 : (Cond.fieldLink RX10 25 "TurnpikeTrust$Travelle\x72" "wheels" "I") ∈ tk_G := tk_inG 857 (by decide +kernel) (by decide +kernel)
theorem wd_858 : (Cond.fieldLink RX8 86 "TurnpikeTrust$Travelle\x72" "wheels" "I") ∈ tk_G := tk_inG 858 (by decide +kernel) (by decide +kernel)
theorem wd_859 : (Cond.fieldLink RX10 28 "TurnpikeTrust$Travelle\x72" "beasts" "I") ∈ tk_G := tk_inG 859 (by decide +kernel) (by decide +kernel)
theorem wd_860 : (Cond.fieldLink RX8 89 "TurnpikeTrust$Travelle\x72" "beasts" "I") ∈ tk_G := tk_inG 860 (by decide +kernel) (by decide +kernel)
theorem wd_861 : (Cond.fieldLink RX10 31 "TurnpikeTrust$Travelle\x72" "bits" "I") ∈ tk_G := tk_inG 861 (by decide +kernel) (by decide +kernel)
theorem wd_862 : (Cond.fieldLink RX8 73 "TurnpikeTrust$Travelle\x72" "bits" "I") ∈ tk_G := tk_inG 862 (by decide +kernel) (by decide +kernel)
theorem wd_863 : (Cond.fieldLink RX10 9 "TurnpikeTrust$Travelle\x72" "latestPaid" "I") ∈ tk_G := tk_inG 863 (by decide +kernel) (by decide +kernel)
theorem wd_864 : (Cond.fieldLink RX8 101 "TurnpikeTrust$Travelle\x72" "latestPaid" "I") ∈ tk_G := tk_inG 864 (by decide +kernel) (by decide +kernel)
theorem wd_865 : (Cond.fieldLink RX10 15 "TurnpikeTrust$Travelle\x72" "passed" "[I") ∈ tk_G := tk_inG 865 (by decide +kernel) (by decide +kernel)
theorem wd_866 : (Cond.fieldLink RX10 19 "TurnpikeTrust$Travelle\x72" "paid" "[I") ∈ tk_G := tk_inG 866 (by decide +kernel) (by decide +kernel)
theorem wd_890 : (Cond.methodLink RX11 143 yX11_actOn) ∈ tk_G := tk_inG 890 (by decide +kernel) (by decide +kernel)
theorem wd_892 : (Cond.instanceMethod yX11_actOn) ∈ tk_G := tk_inG 892 (by decide +kernel) (by decide +kernel)
theorem wd_893 : (tk_code mX11_actOn) ∈ tk_G := tk_inG 893 (by decide +kernel) (by decide +kernel)
theorem wd_894 : (Cond.methodLink RX11 147 yX8_reckon) ∈ tk_G := tk_inG 894 (by decide +kernel) (by decide +kernel)
theorem wd_895 : (Cond.instanceMethod yX8_reckon) ∈ tk_G := tk_inG 895 (by decide +kernel) (by decide +kernel)
theorem wd_896 : (Cond.selects RX8 yX8_reckon yX8_reckon) ∈ tk_G := tk_inG 896 (by decide +kernel) (by decide +kernel)
theorem wd_897 : (tk_code mX8_reckon) ∈ tk_G := tk_inG 897 (by decide +kernel) (by decide +kernel)
theorem wd_898 : (Cond.methodLink RX8 36 yX8_learn) ∈ tk_G := tk_inG 898 (by decide +kernel) (by decide +kernel)
theorem wd_900 : (Cond.instanceMethod yX8_learn) ∈ tk_G := tk_inG 900 (by decide +kernel) (by decide +kernel)
theorem wd_901 : (tk_code mX8_learn) ∈ tk_G := tk_inG 901 (by decide +kernel) (by decide +kernel)
theorem wd_902 : (Cond.methodLink RX8 78 yX8_note) ∈ tk_G := tk_inG 902 (by decide +kernel) (by decide +kernel)
theorem wd_904 : (Cond.instanceMethod yX8_note) ∈ tk_G := tk_inG 904 (by decide +kernel) (by decide +kernel)
theorem wd_905 : (tk_code mX8_note) ∈ tk_G := tk_inG 905 (by decide +kernel) (by decide +kernel)
theorem wd_906 : (Cond.methodLink RX8 82 yX10_passedOn) ∈ tk_G := tk_inG 906 (by decide +kernel) (by decide +kernel)
theorem wd_907 : (Cond.instanceMethod yX10_passedOn) ∈ tk_G := tk_inG 907 (by decide +kernel) (by decide +kernel)
theorem wd_908 : (Cond.selects RX10 yX10_passedOn yX10_passedOn) ∈ tk_G := tk_inG 908 (by decide +kernel) (by decide +kernel)
theorem wd_909 : (tk_code mX10_passedOn) ∈ tk_G := tk_inG 909 (by decide +kernel) (by decide +kernel)
theorem wd_910 : (Cond.methodLink RX8 46 yJx4a65c_size_8abf5) ∈ tk_G := tk_inG 910 (by decide +kernel) (by decide +kernel)
theorem wd_911 : (Cond.methodLink RX8 52 yJx4a65c_get_915e3) ∈ tk_G := tk_inG 911 (by decide +kernel) (by decide +kernel)
theorem wd_912 : (Cond.classLink RX8 56 RX3) ∈ tk_G := tk_inG 912 (by decide +kernel) (by decide +kernel)
theorem wd_913 : (Cond.methodLink RX8 58 yX3_holdsOf) ∈ tk_G := tk_inG 913 (by decide +kernel) (by decide +kernel)
theorem wd_914 : (Cond.instanceMethod yX3_holdsOf) ∈ tk_G := tk_inG 914 (by decide +kernel) (by decide +kernel)
theorem wd_915 : (Cond.selects RX3 yX3_holdsOf yX3_holdsOf) ∈ tk_G := tk_inG 915 (by decide +kernel) (by decide +kernel)
theorem wd_916 : (tk_code mX3_holdsOf) ∈ tk_G := tk_inG 916 (by decide +kernel) (by decide +kernel)
theorem wd_917 : (Cond.constantLong RX3 28 (-2)) ∈ tk_G := tk_inG 917 (by decide +kernel) (by decide +kernel)
theorem wd_918 : (Cond.methodLink RX3 30 yX3_isTrue) ∈ tk_G := tk_inG 918 (by decide +kernel) (by decide +kernel)
theorem wd_919 : (Cond.static yX3_isTrue) ∈ tk_G := tk_inG 919 (by decide +kernel) (by decide +kernel)
theorem wd_920 : (tk_code mX3_isTrue) ∈ tk_G := tk_inG 920 (by decide +kernel) (by decide +kernel)
theorem wd_921 : (Cond.methodLink RX8 65 yX8_charge) ∈ tk_G := tk_inG 921 (by decide +kernel) (by decide +kernel)
theorem wd_923 : (Cond.instanceMethod yX8_charge) ∈ tk_G := tk_inG 923 (by decide +kernel) (by decide +kernel)
theorem wd_924 : (tk_code mX8_charge) ∈ tk_G := tk_inG 924 (by decide +kernel) (by decide +kernel)
theorem wd_925 : (Cond.methodLink RX8 98 yX10_paidOn) ∈ tk_G := tk_inG 925 (by decide +kernel) (by decide +kernel)
theorem wd_926 : (Cond.instanceMethod yX10_paidOn) ∈ tk_G := tk_inG 926 (by decide +kernel) (by decide +kernel)
theorem wd_927 : (Cond.selects RX10 yX10_paidOn yX10_paidOn) ∈ tk_G := tk_inG 927 (by decide +kernel) (by decide +kernel)
theorem wd_928 : (tk_code mX10_paidOn) ∈ tk_G := tk_inG 928 (by decide +kernel) (by decide +kernel)
theorem wd_929 : (Cond.methodLink RX8 104 Lib.Math.min.name) ∈ tk_G := tk_inG 929 (by decide +kernel) (by decide +kernel)
theorem wd_930 : (Cond.methodLink RX8 110 Lib.Math.max.name) ∈ tk_G := tk_inG 930 (by decide +kernel) (by decide +kernel)
theorem wd_931 : (Cond.methodLink RX8 113 yX8_ahead) ∈ tk_G := tk_inG 931 (by decide +kernel) (by decide +kernel)
theorem wd_932 : (Cond.static yX8_ahead) ∈ tk_G := tk_inG 932 (by decide +kernel) (by decide +kernel)
theorem wd_933 : (tk_code mX8_ahead) ∈ tk_G := tk_inG 933 (by decide +kernel) (by decide +kernel)
theorem wd_934 : (Cond.constantLong RX8 124 (1000000)) ∈ tk_G := tk_inG 934 (by decide +kernel) (by decide +kernel)
theorem wd_935 : (Cond.methodLink RX8 126 Lib.MathLoose.min_long.x) ∈ tk_G := tk_inG 935 (by decide +kernel) (by decide +kernel)
theorem wd_936 : (Cond.static Lib.MathLoose.min_long.x) ∈ tk_G := tk_inG 936 (by decide +kernel) (by decide +kernel)
theorem wd_937 : (Cond.code Lib.MathLoose.min_long.x Lib.MathLoose.min_long.code 4 (some .long)) ∈ tk_G := tk_inG 937 (by decide +kernel) (by decide +kernel)
theorem wd_938 : (Cond.methodLink RX8 117 yX8_timesKept) ∈ tk_G := tk_inG 938 (by decide +kernel) (by decide +kernel)
theorem wd_940 : (Cond.instanceMethod yX8_timesKept) ∈ tk_G := tk_inG 940 (by decide +kernel) (by decide +kernel)
theorem wd_941 : (tk_code mX8_timesKept) ∈ tk_G := tk_inG 941 (by decide +kernel) (by decide +kernel)
theorem wd_942 : (Cond.methodLink RX8 69 yX8_keep) ∈ tk_G := tk_inG 942 (by decide +kernel) (by decide +kernel)
theorem wd_944 : (Cond.instanceMethod yX8_keep) ∈ tk_G := tk_inG 944 (by decide +kernel) (by decide +kernel)
theorem wd_945 : (tk_code mX8_keep) ∈ tk_G := tk_inG 945 (by decide +kernel) (by decide +kernel)
theorem wd_946 : (Cond.methodLink RX11 157 yX11_takeToll) ∈ tk_G := tk_inG 946 (by decide +kernel) (by decide +kernel)
theorem wd_948 : (Cond.instanceMethod yX11_takeToll) ∈ tk_G := tk_inG 948 (by decide +kernel) (by decide +kernel)
theorem wd_949 : (tk_code mX11_takeToll) ∈ tk_G := tk_inG 949 (by decide +kernel) (by decide +kernel)
theorem wd_950 : (Cond.methodLink RX11 214 yX2_change) ∈ tk_G := tk_inG 950 (by decide +kernel) (by decide +kernel)
theorem wd_951 : (Cond.instanceMethod yX2_change) ∈ tk_G := tk_inG 951 (by decide +kernel) (by decide +kernel)
theorem wd_952 : (Cond.selects RX2 yX2_change yX2_change) ∈ tk_G := tk_inG 952 (by decide +kernel) (by decide +kernel)
theorem wd_953 : (tk_code mX2_change) ∈ tk_G := tk_inG 953 (by decide +kernel) (by decide +kernel)
theorem wd_954 : (Cond.methodLink RX2 36 yX2_makeRoom) ∈ tk_G := tk_inG 954 (by decide +kernel) (by decide +kernel)
theorem wd_956 : (Cond.instanceMethod yX2_makeRoom) ∈ tk_G := tk_inG 956 (by decide +kernel) (by decide +kernel)
theorem wd_957 : (tk_code mX2_makeRoom) ∈ tk_G := tk_inG 957 (by decide +kernel) (by decide +kernel)
theorem wd_958 : (Cond.methodLink RX2 39 Lib.Math.min.name) ∈ tk_G := tk_inG 958 (by decide +kernel) (by decide +kernel)
theorem wd_959 : (Cond.methodLink RX2 45 yJ7_copyOf_59c91) ∈ tk_G := tk_inG 959 (by decide +kernel) (by decide +kernel)
theorem wd_960 : (Cond.methodLink RX2 51 yJ7_copyOf_c38d5) ∈ tk_G := tk_inG 960 (by decide +kernel) (by decide +kernel)
theorem wd_961 : (Cond.static yJ7_copyOf_c38d5) ∈ tk_G := tk_inG 961 (by decide +kernel) (by decide +kernel)
theorem wd_962 : (tk_code mJ7_copyOf_c38d5) ∈ tk_G := tk_inG 962 (by decide +kernel) (by decide +kernel)
theorem wd_968 : (Cond.methodLink RX11 161 yX10_noteAt) ∈ tk_G := tk_inG 968 (by decide +kernel) (by decide +kernel)
theorem wd_969 : (Cond.instanceMethod yX10_noteAt) ∈ tk_G := tk_inG 969 (by decide +kernel) (by decide +kernel)
theorem wd_970 : (Cond.selects RX10 yX10_noteAt yX10_noteAt) ∈ tk_G := tk_inG 970 (by decide +kernel) (by decide +kernel)
theorem wd_971 : (tk_code mX10_noteAt) ∈ tk_G := tk_inG 971 (by decide +kernel) (by decide +kernel)
theorem wd_972 : (Cond.constantLong RX11 179 (2)) ∈ tk_G := tk_inG 972 (by decide +kernel) (by decide +kernel)
theorem wd_973 : (Cond.methodLink RX11 181 yX10_harm) ∈ tk_G := tk_inG 973 (by decide +kernel) (by decide +kernel)
theorem wd_974 : (Cond.instanceMethod yX10_harm) ∈ tk_G := tk_inG 974 (by decide +kernel) (by decide +kernel)
theorem wd_975 : (Cond.selects RX10 yX10_harm yX10_harm) ∈ tk_G := tk_inG 975 (by decide +kernel) (by decide +kernel)
theorem wd_976 : (tk_code mX10_harm) ∈ tk_G := tk_inG 976 (by decide +kernel) (by decide +kernel)
theorem wd_1001 : (Cond.methodLink RX11 190 yX11_moveOn) ∈ tk_G := tk_inG 1001 (by decide +kernel) (by decide +kernel)
theorem wd_1003 : (Cond.instanceMethod yX11_moveOn) ∈ tk_G := tk_inG 1003 (by decide +kernel) (by decide +kernel)
theorem wd_1004 : (tk_code mX11_moveOn) ∈ tk_G := tk_inG 1004 (by decide +kernel) (by decide +kernel)
theorem wd_1005 : (Cond.methodLink RX11 321 yX11_payInterest) ∈ tk_G := tk_inG 1005 (by decide +kernel) (by decide +kernel)
theorem wd_1007 : (Cond.instanceMethod yX11_payInterest) ∈ tk_G := tk_inG 1007 (by decide +kernel) (by decide +kernel)
theorem wd_1008 : (tk_code mX11_payInterest) ∈ tk_G := tk_inG 1008 (by decide +kernel) (by decide +kernel)
theorem wd_1009 : (Cond.classLink RX11 280 RX6) ∈ tk_G := tk_inG 1009 (by decide +kernel) (by decide +kernel)
theorem wd_1010 : (Cond.methodLink RX11 331 yX6_growDue) ∈ tk_G := tk_inG 1010 (by decide +kernel) (by decide +kernel)
theorem wd_1011 : (Cond.instanceMethod yX6_growDue) ∈ tk_G := tk_inG 1011 (by decide +kernel) (by decide +kernel)
theorem wd_1012 : (Cond.selects RX6 yX6_growDue yX6_growDue) ∈ tk_G := tk_inG 1012 (by decide +kernel) (by decide +kernel)
theorem wd_1013 : (tk_code mX6_growDue) ∈ tk_G := tk_inG 1013 (by decide +kernel) (by decide +kernel)
theorem wd_1014 : (Cond.constantLong RX6 29 (1000)) ∈ tk_G := tk_inG 1014 (by decide +kernel) (by decide +kernel)
theorem wd_1015 : (Cond.methodLink RX11 334 yX11_dueOf) ∈ tk_G := tk_inG 1015 (by decide +kernel) (by decide +kernel)
theorem wd_1017 : (Cond.instanceMethod yX11_dueOf) ∈ tk_G := tk_inG 1017 (by decide +kernel) (by decide +kernel)
theorem wd_1018 : (tk_code mX11_dueOf) ∈ tk_G := tk_inG 1018 (by decide +kernel) (by decide +kernel)
theorem wd_1019 : (Cond.methodLink RX11 337 yX11_grantAll) ∈ tk_G := tk_inG 1019 (by decide +kernel) (by decide +kernel)
theorem wd_1021 : (Cond.instanceMethod yX11_grantAll) ∈ tk_G := tk_inG 1021 (by decide +kernel) (by decide +kernel)
theorem wd_1022 : (tk_code mX11_grantAll) ∈ tk_G := tk_inG 1022 (by decide +kernel) (by decide +kernel)
theorem wd_1023 : (Cond.methodLink RX11 340 yX11_grantParts) ∈ tk_G := tk_inG 1023 (by decide +kernel) (by decide +kernel)
theorem wd_1025 : (Cond.instanceMethod yX11_grantParts) ∈ tk_G := tk_inG 1025 (by decide +kernel) (by decide +kernel)
theorem wd_1026 : (tk_code mX11_grantParts) ∈ tk_G := tk_inG 1026 (by decide +kernel) (by decide +kernel)
theorem wd_1027 : (Cond.methodLink RX11 350 yX6_grantPart) ∈ tk_G := tk_inG 1027 (by decide +kernel) (by decide +kernel)
theorem wd_1028 : (Cond.instanceMethod yX6_grantPart) ∈ tk_G := tk_inG 1028 (by decide +kernel) (by decide +kernel)
theorem wd_1029 : (Cond.selects RX6 yX6_grantPart yX6_grantPart) ∈ tk_G := tk_inG 1029 (by decide +kernel) (by decide +kernel)
theorem wd_1030 : (tk_code mX6_grantPart) ∈ tk_G := tk_inG 1030 (by decide +kernel) (by decide +kernel)
theorem wd_1031 : (Cond.methodLink RX11 354 yX11_mostCut) ∈ tk_G := tk_inG 1031 (by decide +kernel) (by decide +kernel)
theorem wd_1033 : (Cond.instanceMethod yX11_mostCut) ∈ tk_G := tk_inG 1033 (by decide +kernel) (by decide +kernel)
theorem wd_1034 : (tk_code mX11_mostCut) ∈ tk_G := tk_inG 1034 (by decide +kernel) (by decide +kernel)
theorem wd_1035 : (Cond.methodLink RX11 344 yX11_payGranted) ∈ tk_G := tk_inG 1035 (by decide +kernel) (by decide +kernel)
theorem wd_1037 : (Cond.instanceMethod yX11_payGranted) ∈ tk_G := tk_inG 1037 (by decide +kernel) (by decide +kernel)
theorem wd_1038 : (tk_code mX11_payGranted) ∈ tk_G := tk_inG 1038 (by decide +kernel) (by decide +kernel)
theorem wd_1039 : (Cond.methodLink RX11 257 yX11_keepLease) ∈ tk_G := tk_inG 1039 (by decide +kernel) (by decide +kernel)
theorem wd_1041 : (Cond.instanceMethod yX11_keepLease) ∈ tk_G := tk_inG 1041 (by decide +kernel) (by decide +kernel)
theorem wd_1042 : (tk_code mX11_keepLease) ∈ tk_G := tk_inG 1042 (by decide +kernel) (by decide +kernel)
theorem wd_1043 : (Cond.methodLink RX11 327 yX5_endLease) ∈ tk_G := tk_inG 1043 (by decide +kernel) (by decide +kernel)
theorem wd_1044 : (Cond.instanceMethod yX5_endLease) ∈ tk_G := tk_inG 1044 (by decide +kernel) (by decide +kernel)
theorem wd_1045 : (Cond.selects RX5 yX5_endLease yX5_endLease) ∈ tk_G := tk_inG 1045 (by decide +kernel) (by decide +kernel)
theorem wd_1046 : (tk_code mX5_endLease) ∈ tk_G := tk_inG 1046 (by decide +kernel) (by decide +kernel)
theorem wd_1063 : (Cond.methodLink RX11 197 yX11_worthMost) ∈ tk_G := tk_inG 1063 (by decide +kernel) (by decide +kernel)
theorem wd_1065 : (Cond.instanceMethod yX11_worthMost) ∈ tk_G := tk_inG 1065 (by decide +kernel) (by decide +kernel)
theorem wd_1066 : (tk_code mX11_worthMost) ∈ tk_G := tk_inG 1066 (by decide +kernel) (by decide +kernel)
theorem wd_1067 : (Cond.methodLink RX11 317 yX9_isWorthMoreThan) ∈ tk_G := tk_inG 1067 (by decide +kernel) (by decide +kernel)
theorem wd_1068 : (Cond.instanceMethod yX9_isWorthMoreThan) ∈ tk_G := tk_inG 1068 (by decide +kernel) (by decide +kernel)
theorem wd_1069 : (Cond.selects RX9 yX9_isWorthMoreThan yX9_isWorthMoreThan) ∈ tk_G := tk_inG 1069 (by decide +kernel) (by decide +kernel)
theorem wd_1070 : (tk_code mX9_isWorthMoreThan) ∈ tk_G := tk_inG 1070 (by decide +kernel) (by decide +kernel)
theorem wd_1071 : (Cond.methodLink RX9 30 yX9_loadTakes) ∈ tk_G := tk_inG 1071 (by decide +kernel) (by decide +kernel)
theorem wd_1072 : (Cond.instanceMethod yX9_loadTakes) ∈ tk_G := tk_inG 1072 (by decide +kernel) (by decide +kernel)
theorem wd_1073 : (Cond.selects RX9 yX9_loadTakes yX9_loadTakes) ∈ tk_G := tk_inG 1073 (by decide +kernel) (by decide +kernel)
theorem wd_1074 : (tk_code mX9_loadTakes) ∈ tk_G := tk_inG 1074 (by decide +kernel) (by decide +kernel)
theorem wd_1075 : (Cond.constantLong RX9 22 (50)) ∈ tk_G := tk_inG 1075 (by decide +kernel) (by decide +kernel)
theorem wd_1076 : (Cond.methodLink RX9 24 Lib.MathLoose.min_long.x) ∈ tk_G := tk_inG 1076 (by decide +kernel) (by decide +kernel)
theorem wd_1077 : (Cond.methodLink RX11 207 yX9_loadTakes) ∈ tk_G := tk_inG 1077 (by decide +kernel) (by decide +kernel)
theorem wd_1085 : (Cond.constant RX11 218 (1000000000)) ∈ tk_G := tk_inG 1085 (by decide +kernel) (by decide +kernel)
theorem wd_1088 : (Cond.classLink RX11 223 RX4) ∈ tk_G := tk_inG 1088 (by decide +kernel) (by decide +kernel)
theorem wd_1089 : (Cond.instantiable RX4 2) ∈ tk_G := tk_inG 1089 (by decide +kernel) (by decide +kernel)
theorem wd_1090 : (Cond.methodLink RX11 225 yX4_init) ∈ tk_G := tk_inG 1090 (by decide +kernel) (by decide +kernel)
theorem wd_1091 : (Cond.instanceMethod yX4_init) ∈ tk_G := tk_inG 1091 (by decide +kernel) (by decide +kernel)
theorem wd_1092 : (tk_code mX4_init) ∈ tk_G := tk_inG 1092 (by decide +kernel) (by decide +kernel)
theorem wd_1093 : (Cond.methodLink RX4 1 objectInit) ∈ tk_G := tk_inG 1093 (by decide +kernel) (by decide +kernel)
theorem wd_1094 : (Cond.fieldLink RX4 7 "TurnpikeTrust$Farme\x72" "numbe\x72" "I") ∈ tk_G := tk_inG 1094 (by decide +kernel) (by decide +kernel)
theorem wd_1095 : (Cond.fieldLink RX11 264 "TurnpikeTrust$Farme\x72" "numbe\x72" "I") ∈ tk_G := tk_inG 1095 (by decide +kernel) (by decide +kernel)
theorem wd_1096 : (Cond.fieldLink RX4 13 "TurnpikeTrust$Farme\x72" "purse" "J") ∈ tk_G := tk_inG 1096 (by decide +kernel) (by decide +kernel)
theorem wd_1097 : (Cond.fieldLink RX1 20 "TurnpikeTrust$Farme\x72" "purse" "J") ∈ tk_G := tk_inG 1097 (by decide +kernel) (by decide +kernel)
theorem wd_1098 : (Cond.fieldLink RX5 61 "TurnpikeTrust$Farme\x72" "purse" "J") ∈ tk_G := tk_inG 1098 (by decide +kernel) (by decide +kernel)
theorem wd_1099 : (Cond.fieldLink RX11 298 "TurnpikeTrust$Farme\x72" "purse" "J") ∈ tk_G := tk_inG 1099 (by decide +kernel) (by decide +kernel)
theorem wd_1113 : (Cond.constant RX11 228 (10000000)) ∈ tk_G := tk_inG 1113 (by decide +kernel) (by decide +kernel)
theorem wd_1116 : (Cond.classLink RX11 240 RX1) ∈ tk_G := tk_inG 1116 (by decide +kernel) (by decide +kernel)
theorem wd_1117 : (Cond.instantiable RX1 3) ∈ tk_G := tk_inG 1117 (by decide +kernel) (by decide +kernel)
theorem wd_1118 : (Cond.methodLink RX11 242 yX1_init) ∈ tk_G := tk_inG 1118 (by decide +kernel) (by decide +kernel)
theorem wd_1119 : (Cond.instanceMethod yX1_init) ∈ tk_G := tk_inG 1119 (by decide +kernel) (by decide +kernel)
theorem wd_1120 : (tk_code mX1_init) ∈ tk_G := tk_inG 1120 (by decide +kernel) (by decide +kernel)
theorem wd_1121 : (Cond.methodLink RX1 1 objectInit) ∈ tk_G := tk_inG 1121 (by decide +kernel) (by decide +kernel)
theorem wd_1122 : (Cond.fieldLink RX1 7 "TurnpikeTrust$Bid" "bidde\x72" "LTurnpikeTrust$Farmer;") ∈ tk_G := tk_inG 1122 (by decide +kernel) (by decide +kernel)
theorem wd_1123 : (Cond.fieldLink RX5 58 "TurnpikeTrust$Bid" "bidde\x72" "LTurnpikeTrust$Farmer;") ∈ tk_G := tk_inG 1123 (by decide +kernel) (by decide +kernel)
theorem wd_1124 : (Cond.fieldLink RX11 261 "TurnpikeTrust$Bid" "bidde\x72" "LTurnpikeTrust$Farmer;") ∈ tk_G := tk_inG 1124 (by decide +kernel) (by decide +kernel)
theorem wd_1125 : (Cond.fieldLink RX1 13 "TurnpikeTrust$Bid" "rent" "I") ∈ tk_G := tk_inG 1125 (by decide +kernel) (by decide +kernel)
theorem wd_1126 : (Cond.fieldLink RX5 57 "TurnpikeTrust$Bid" "rent" "I") ∈ tk_G := tk_inG 1126 (by decide +kernel) (by decide +kernel)
theorem wd_1127 : (Cond.fieldLink RX1 17 "TurnpikeTrust$Bid" "surety" "I") ∈ tk_G := tk_inG 1127 (by decide +kernel) (by decide +kernel)
theorem wd_1128 : (Cond.fieldLink RX5 67 "TurnpikeTrust$Bid" "surety" "I") ∈ tk_G := tk_inG 1128 (by decide +kernel) (by decide +kernel)
theorem wd_1145 : (Cond.methodLink RX11 249 yX5_bestBid) ∈ tk_G := tk_inG 1145 (by decide +kernel) (by decide +kernel)
theorem wd_1146 : (Cond.instanceMethod yX5_bestBid) ∈ tk_G := tk_inG 1146 (by decide +kernel) (by decide +kernel)
theorem wd_1147 : (Cond.selects RX5 yX5_bestBid yX5_bestBid) ∈ tk_G := tk_inG 1147 (by decide +kernel) (by decide +kernel)
theorem wd_1148 : (tk_code mX5_bestBid) ∈ tk_G := tk_inG 1148 (by decide +kernel) (by decide +kernel)
theorem wd_1149 : (Cond.methodLink RX5 43 yJx4a65c_size_8abf5) ∈ tk_G := tk_inG 1149 (by decide +kernel) (by decide +kernel)
theorem wd_1150 : (Cond.methodLink RX5 47 yJx4a65c_get_915e3) ∈ tk_G := tk_inG 1150 (by decide +kernel) (by decide +kernel)
theorem wd_1151 : (Cond.classLink RX5 51 RX1) ∈ tk_G := tk_inG 1151 (by decide +kernel) (by decide +kernel)
theorem wd_1152 : (Cond.methodLink RX5 53 yX1_isGood) ∈ tk_G := tk_inG 1152 (by decide +kernel) (by decide +kernel)
theorem wd_1153 : (Cond.instanceMethod yX1_isGood) ∈ tk_G := tk_inG 1153 (by decide +kernel) (by decide +kernel)
theorem wd_1154 : (Cond.selects RX1 yX1_isGood yX1_isGood) ∈ tk_G := tk_inG 1154 (by decide +kernel) (by decide +kernel)
theorem wd_1155 : (tk_code mX1_isGood) ∈ tk_G := tk_inG 1155 (by decide +kernel) (by decide +kernel)
theorem wd_1156 : (Cond.methodLink RX11 253 yX5_beginLease) ∈ tk_G := tk_inG 1156 (by decide +kernel) (by decide +kernel)
theorem wd_1157 : (Cond.instanceMethod yX5_beginLease) ∈ tk_G := tk_inG 1157 (by decide +kernel) (by decide +kernel)
theorem wd_1158 : (Cond.selects RX5 yX5_beginLease yX5_beginLease) ∈ tk_G := tk_inG 1158 (by decide +kernel) (by decide +kernel)
theorem wd_1159 : (tk_code mX5_beginLease) ∈ tk_G := tk_inG 1159 (by decide +kernel) (by decide +kernel)
theorem wd_1160 : (Cond.methodLink RX5 68 yJx4a65c_clear_da8c8) ∈ tk_G := tk_inG 1160 (by decide +kernel) (by decide +kernel)
theorem wd_1161 : (Cond.instanceMethod yJx4a65c_clear_da8c8) ∈ tk_G := tk_inG 1161 (by decide +kernel) (by decide +kernel)
theorem wd_1162 : (Cond.selects RJx4a65c yJx4a65c_clear_da8c8 yJx4a65c_clear_da8c8) ∈ tk_G := tk_inG 1162 (by decide +kernel) (by decide +kernel)
theorem wd_1163 : (tk_code mJx4a65c_clear_da8c8) ∈ tk_G := tk_inG 1163 (by decide +kernel) (by decide +kernel)
theorem wd_1181 : (Cond.instantiable RX6 6) ∈ tk_G := tk_inG 1181 (by decide +kernel) (by decide +kernel)
theorem wd_1182 : (Cond.methodLink RX11 282 yX6_init) ∈ tk_G := tk_inG 1182 (by decide +kernel) (by decide +kernel)
theorem wd_1183 : (Cond.instanceMethod yX6_init) ∈ tk_G := tk_inG 1183 (by decide +kernel) (by decide +kernel)
theorem wd_1184 : (tk_code mX6_init) ∈ tk_G := tk_inG 1184 (by decide +kernel) (by decide +kernel)
theorem wd_1185 : (Cond.methodLink RX6 1 objectInit) ∈ tk_G := tk_inG 1185 (by decide +kernel) (by decide +kernel)
theorem wd_1186 : (Cond.fieldLink RX6 23 "TurnpikeTrust$Loan" "rate" "I") ∈ tk_G := tk_inG 1186 (by decide +kernel) (by decide +kernel)
theorem wd_1187 : (Cond.fieldLink RX11 289 "TurnpikeTrust$Loan" "rate" "I") ∈ tk_G := tk_inG 1187 (by decide +kernel) (by decide +kernel)
theorem wd_1188 : (Cond.fieldLink RX6 26 "TurnpikeTrust$Loan" "rank" "I") ∈ tk_G := tk_inG 1188 (by decide +kernel) (by decide +kernel)
theorem wd_1189 : (Cond.fieldLink RX11 292 "TurnpikeTrust$Loan" "rank" "I") ∈ tk_G := tk_inG 1189 (by decide +kernel) (by decide +kernel)
theorem wd_1190 : (Cond.fieldLink RX6 19 "TurnpikeTrust$Loan" "sum" "I") ∈ tk_G := tk_inG 1190 (by decide +kernel) (by decide +kernel)
theorem wd_1191 : (Cond.fieldLink RX11 286 "TurnpikeTrust$Loan" "sum" "I") ∈ tk_G := tk_inG 1191 (by decide +kernel) (by decide +kernel)
theorem wd_1192 : (Cond.fieldLink RX6 7 "TurnpikeTrust$Loan" "due" "J") ∈ tk_G := tk_inG 1192 (by decide +kernel) (by decide +kernel)
theorem wd_1193 : (Cond.fieldLink RX11 295 "TurnpikeTrust$Loan" "due" "J") ∈ tk_G := tk_inG 1193 (by decide +kernel) (by decide +kernel)
theorem wd_1194 : (Cond.fieldLink RX6 13 "TurnpikeTrust$Loan" "granted" "J") ∈ tk_G := tk_inG 1194 (by decide +kernel) (by decide +kernel)
theorem wd_1195 : (Cond.fieldLink RX11 347 "TurnpikeTrust$Loan" "granted" "J") ∈ tk_G := tk_inG 1195 (by decide +kernel) (by decide +kernel)
theorem wd_1196 : (Cond.fieldLink RX6 16 "TurnpikeTrust$Loan" "rest" "J") ∈ tk_G := tk_inG 1196 (by decide +kernel) (by decide +kernel)
theorem wd_1197 : (Cond.fieldLink RX11 358 "TurnpikeTrust$Loan" "rest" "J") ∈ tk_G := tk_inG 1197 (by decide +kernel) (by decide +kernel)
theorem wd_1247 : (Cond.methodLink RX11 301 yX2_heldBehind) ∈ tk_G := tk_inG 1247 (by decide +kernel) (by decide +kernel)
theorem wd_1248 : (Cond.instanceMethod yX2_heldBehind) ∈ tk_G := tk_inG 1248 (by decide +kernel) (by decide +kernel)
theorem wd_1249 : (Cond.selects RX2 yX2_heldBehind yX2_heldBehind) ∈ tk_G := tk_inG 1249 (by decide +kernel) (by decide +kernel)
theorem wd_1250 : (tk_code mX2_heldBehind) ∈ tk_G := tk_inG 1250 (by decide +kernel) (by decide +kernel)
theorem wd_1259 : (Cond.methodLink RX11 310 yX2_told) ∈ tk_G := tk_inG 1259 (by decide +kernel) (by decide +kernel)
theorem wd_1260 : (Cond.instanceMethod yX2_told) ∈ tk_G := tk_inG 1260 (by decide +kernel) (by decide +kernel)
theorem wd_1261 : (Cond.selects RX2 yX2_told yX2_told) ∈ tk_G := tk_inG 1261 (by decide +kernel) (by decide +kernel)
theorem wd_1262 : (tk_code mX2_told) ∈ tk_G := tk_inG 1262 (by decide +kernel) (by decide +kernel)
theorem wd_1263 : (Cond.constantLong RX2 54 (-1)) ∈ tk_G := tk_inG 1263 (by decide +kernel) (by decide +kernel)
theorem wd_1269 : (Cond.methodLink RX12 1 objectInit) ∈ tk_G := tk_inG 1269 (by decide +kernel) (by decide +kernel)
theorem wd_1270 : (Cond.fieldLink RX12 146 "TurnpikeTrustModel" "thrown" "I") ∈ tk_G := tk_inG 1270 (by decide +kernel) (by decide +kernel)
theorem wd_1271 : (Cond.fieldLink RX12 7 "TurnpikeTrustModel" "tape" "[B") ∈ tk_G := tk_inG 1271 (by decide +kernel) (by decide +kernel)
theorem wd_1272 : (Cond.fieldLink RX12 149 "TurnpikeTrustModel" "taped" "I") ∈ tk_G := tk_inG 1272 (by decide +kernel) (by decide +kernel)
theorem wd_1273 : (Cond.fieldLink RX12 152 "TurnpikeTrustModel" "size" "I") ∈ tk_G := tk_inG 1273 (by decide +kernel) (by decide +kernel)
theorem wd_1274 : (Cond.fieldLink RX12 155 "TurnpikeTrustModel" "at" "I") ∈ tk_G := tk_inG 1274 (by decide +kernel) (by decide +kernel)
theorem wd_1275 : (Cond.fieldLink RX12 162 "TurnpikeTrustModel" "fault" "I") ∈ tk_G := tk_inG 1275 (by decide +kernel) (by decide +kernel)
theorem wd_1276 : (Cond.fieldLink RX12 13 "TurnpikeTrustModel" "place" "I") ∈ tk_G := tk_inG 1276 (by decide +kernel) (by decide +kernel)
theorem wd_1277 : (Cond.fieldLink RX12 228 "TurnpikeTrustModel" "open" "I") ∈ tk_G := tk_inG 1277 (by decide +kernel) (by decide +kernel)
theorem wd_1278 : (Cond.fieldLink RX12 17 "TurnpikeTrustModel" "clauses" "[I") ∈ tk_G := tk_inG 1278 (by decide +kernel) (by decide +kernel)
theorem wd_1279 : (Cond.fieldLink RX12 21 "TurnpikeTrustModel" "since" "[I") ∈ tk_G := tk_inG 1279 (by decide +kernel) (by decide +kernel)
theorem wd_1280 : (Cond.fieldLink RX12 24 "TurnpikeTrustModel" "sort" "[I") ∈ tk_G := tk_inG 1280 (by decide +kernel) (by decide +kernel)
theorem wd_1281 : (Cond.fieldLink RX12 27 "TurnpikeTrustModel" "first" "[I") ∈ tk_G := tk_inG 1281 (by decide +kernel) (by decide +kernel)
theorem wd_1282 : (Cond.fieldLink RX12 30 "TurnpikeTrustModel" "second" "[I") ∈ tk_G := tk_inG 1282 (by decide +kernel) (by decide +kernel)
theorem wd_1283 : (Cond.fieldLink RX12 33 "TurnpikeTrustModel" "codeFrom" "[I") ∈ tk_G := tk_inG 1283 (by decide +kernel) (by decide +kernel)
theorem wd_1284 : (Cond.fieldLink RX12 36 "TurnpikeTrustModel" "codeTo" "[I") ∈ tk_G := tk_inG 1284 (by decide +kernel) (by decide +kernel)
theorem wd_1285 : (Cond.fieldLink RX12 39 "TurnpikeTrustModel" "code" "[I") ∈ tk_G := tk_inG 1285 (by decide +kernel) (by decide +kernel)
theorem wd_1286 : (Cond.fieldLink RX12 42 "TurnpikeTrustModel" "codeNumbe\x72" "[I") ∈ tk_G := tk_inG 1286 (by decide +kernel) (by decide +kernel)
theorem wd_1287 : (Cond.fieldLink RX12 204 "TurnpikeTrustModel" "codes" "I") ∈ tk_G := tk_inG 1287 (by decide +kernel) (by decide +kernel)
theorem wd_1288 : (Cond.fieldLink RX12 289 "TurnpikeTrustModel" "acts" "I") ∈ tk_G := tk_inG 1288 (by decide +kernel) (by decide +kernel)
theorem wd_1289 : (Cond.fieldLink RX12 45 "TurnpikeTrustModel" "kinds" "[I") ∈ tk_G := tk_inG 1289 (by decide +kernel) (by decide +kernel)
theorem wd_1290 : (Cond.fieldLink RX12 48 "TurnpikeTrustModel" "wheels" "[I") ∈ tk_G := tk_inG 1290 (by decide +kernel) (by decide +kernel)
theorem wd_1291 : (Cond.fieldLink RX12 51 "TurnpikeTrustModel" "beasts" "[I") ∈ tk_G := tk_inG 1291 (by decide +kernel) (by decide +kernel)
theorem wd_1292 : (Cond.fieldLink RX12 54 "TurnpikeTrustModel" "bits" "[I") ∈ tk_G := tk_inG 1292 (by decide +kernel) (by decide +kernel)
theorem wd_1293 : (Cond.fieldLink RX12 57 "TurnpikeTrustModel" "passedOn" "[I") ∈ tk_G := tk_inG 1293 (by decide +kernel) (by decide +kernel)
theorem wd_1294 : (Cond.fieldLink RX12 60 "TurnpikeTrustModel" "paidOn" "[I") ∈ tk_G := tk_inG 1294 (by decide +kernel) (by decide +kernel)
theorem wd_1295 : (Cond.fieldLink RX12 324 "TurnpikeTrustModel" "travellers" "I") ∈ tk_G := tk_inG 1295 (by decide +kernel) (by decide +kernel)
theorem wd_1296 : (Cond.fieldLink RX12 63 "TurnpikeTrustModel" "prices" "[I") ∈ tk_G := tk_inG 1296 (by decide +kernel) (by decide +kernel)
theorem wd_1297 : (Cond.fieldLink RX12 66 "TurnpikeTrustModel" "wears" "[J") ∈ tk_G := tk_inG 1297 (by decide +kernel) (by decide +kernel)
theorem wd_1298 : (Cond.fieldLink RX12 318 "TurnpikeTrustModel" "stretches" "I") ∈ tk_G := tk_inG 1298 (by decide +kernel) (by decide +kernel)
theorem wd_1299 : (Cond.fieldLink RX12 70 "TurnpikeTrustModel" "onStretch" "[I") ∈ tk_G := tk_inG 1299 (by decide +kernel) (by decide +kernel)
theorem wd_1300 : (Cond.fieldLink RX12 73 "TurnpikeTrustModel" "passes" "[I") ∈ tk_G := tk_inG 1300 (by decide +kernel) (by decide +kernel)
theorem wd_1301 : (Cond.fieldLink RX12 321 "TurnpikeTrustModel" "gates" "I") ∈ tk_G := tk_inG 1301 (by decide +kernel) (by decide +kernel)
theorem wd_1302 : (Cond.fieldLink RX12 331 "TurnpikeTrustModel" "today" "I") ∈ tk_G := tk_inG 1302 (by decide +kernel) (by decide +kernel)
theorem wd_1303 : (Cond.fieldLink RX12 363 "TurnpikeTrustModel" "rains" "I") ∈ tk_G := tk_inG 1303 (by decide +kernel) (by decide +kernel)
theorem wd_1304 : (Cond.fieldLink RX12 76 "TurnpikeTrustModel" "pile" "[Z") ∈ tk_G := tk_inG 1304 (by decide +kernel) (by decide +kernel)
theorem wd_1305 : (Cond.fieldLink RX12 338 "TurnpikeTrustModel" "by" "I") ∈ tk_G := tk_inG 1305 (by decide +kernel) (by decide +kernel)
theorem wd_1306 : (Cond.fieldLink RX12 80 "TurnpikeTrustModel" "keptTimes" "[I") ∈ tk_G := tk_inG 1306 (by decide +kernel) (by decide +kernel)
theorem wd_1307 : (Cond.fieldLink RX12 83 "TurnpikeTrustModel" "lastBy" "I") ∈ tk_G := tk_inG 1307 (by decide +kernel) (by decide +kernel)
theorem wd_1308 : (Cond.fieldLink RX12 86 "TurnpikeTrustModel" "lineDay" "[I") ∈ tk_G := tk_inG 1308 (by decide +kernel) (by decide +kernel)
theorem wd_1309 : (Cond.fieldLink RX12 89 "TurnpikeTrustModel" "lineKind" "[I") ∈ tk_G := tk_inG 1309 (by decide +kernel) (by decide +kernel)
theorem wd_1310 : (Cond.fieldLink RX12 92 "TurnpikeTrustModel" "lineWho" "[I") ∈ tk_G := tk_inG 1310 (by decide +kernel) (by decide +kernel)
theorem wd_1311 : (Cond.fieldLink RX12 95 "TurnpikeTrustModel" "lineSum" "[I") ∈ tk_G := tk_inG 1311 (by decide +kernel) (by decide +kernel)
theorem wd_1312 : (Cond.fieldLink RX12 370 "TurnpikeTrustModel" "lines" "I") ∈ tk_G := tk_inG 1312 (by decide +kernel) (by decide +kernel)
theorem wd_1313 : (Cond.fieldLink RX12 373 "TurnpikeTrustModel" "box" "J") ∈ tk_G := tk_inG 1313 (by decide +kernel) (by decide +kernel)
theorem wd_1314 : (Cond.fieldLink RX12 98 "TurnpikeTrustModel" "money" "[J") ∈ tk_G := tk_inG 1314 (by decide +kernel) (by decide +kernel)
theorem wd_1315 : (Cond.fieldLink RX12 378 "TurnpikeTrustModel" "farmers" "I") ∈ tk_G := tk_inG 1315 (by decide +kernel) (by decide +kernel)
theorem wd_1316 : (Cond.fieldLink RX12 101 "TurnpikeTrustModel" "bids" "[I") ∈ tk_G := tk_inG 1316 (by decide +kernel) (by decide +kernel)
theorem wd_1317 : (Cond.fieldLink RX12 104 "TurnpikeTrustModel" "bidFarme\x72" "[I") ∈ tk_G := tk_inG 1317 (by decide +kernel) (by decide +kernel)
theorem wd_1318 : (Cond.fieldLink RX12 107 "TurnpikeTrustModel" "bidRent" "[I") ∈ tk_G := tk_inG 1318 (by decide +kernel) (by decide +kernel)
theorem wd_1319 : (Cond.fieldLink RX12 110 "TurnpikeTrustModel" "bidSurety" "[I") ∈ tk_G := tk_inG 1319 (by decide +kernel) (by decide +kernel)
theorem wd_1320 : (Cond.fieldLink RX12 113 "TurnpikeTrustModel" "leased" "[I") ∈ tk_G := tk_inG 1320 (by decide +kernel) (by decide +kernel)
theorem wd_1321 : (Cond.fieldLink RX12 116 "TurnpikeTrustModel" "rent" "[I") ∈ tk_G := tk_inG 1321 (by decide +kernel) (by decide +kernel)
theorem wd_1322 : (Cond.fieldLink RX12 119 "TurnpikeTrustModel" "surety" "[I") ∈ tk_G := tk_inG 1322 (by decide +kernel) (by decide +kernel)
theorem wd_1323 : (Cond.fieldLink RX12 122 "TurnpikeTrustModel" "due" "[I") ∈ tk_G := tk_inG 1323 (by decide +kernel) (by decide +kernel)
theorem wd_1324 : (Cond.fieldLink RX12 125 "TurnpikeTrustModel" "left" "[I") ∈ tk_G := tk_inG 1324 (by decide +kernel) (by decide +kernel)
theorem wd_1325 : (Cond.fieldLink RX12 128 "TurnpikeTrustModel" "sums" "[I") ∈ tk_G := tk_inG 1325 (by decide +kernel) (by decide +kernel)
theorem wd_1326 : (Cond.fieldLink RX12 131 "TurnpikeTrustModel" "rates" "[I") ∈ tk_G := tk_inG 1326 (by decide +kernel) (by decide +kernel)
theorem wd_1327 : (Cond.fieldLink RX12 134 "TurnpikeTrustModel" "ranks" "[I") ∈ tk_G := tk_inG 1327 (by decide +kernel) (by decide +kernel)
theorem wd_1328 : (Cond.fieldLink RX12 137 "TurnpikeTrustModel" "dues" "[J") ∈ tk_G := tk_inG 1328 (by decide +kernel) (by decide +kernel)
theorem wd_1329 : (Cond.fieldLink RX12 140 "TurnpikeTrustModel" "gets" "[J") ∈ tk_G := tk_inG 1329 (by decide +kernel) (by decide +kernel)
theorem wd_1330 : (Cond.fieldLink RX12 143 "TurnpikeTrustModel" "rests" "[J") ∈ tk_G := tk_inG 1330 (by decide +kernel) (by decide +kernel)
theorem wd_1331 : (Cond.fieldLink RX12 388 "TurnpikeTrustModel" "loans" "I") ∈ tk_G := tk_inG 1331 (by decide +kernel) (by decide +kernel)
theorem wd_1457 : (Cond.arrayClass .boolean) ∈ tk_G := tk_inG 1457 (by decide +kernel) (by decide +kernel)
theorem wd_1470 : (Cond.methodLink RX12 308 yX12_bad) ∈ tk_G := tk_inG 1470 (by decide +kernel) (by decide +kernel)
theorem wd_1472 : (Cond.instanceMethod yX12_bad) ∈ tk_G := tk_inG 1472 (by decide +kernel) (by decide +kernel)
theorem wd_1473 : (tk_code mX12_bad) ∈ tk_G := tk_inG 1473 (by decide +kernel) (by decide +kernel)
theorem wd_1474 : (Cond.methodLink RX12 165 yX12_blanks) ∈ tk_G := tk_inG 1474 (by decide +kernel) (by decide +kernel)
theorem wd_1476 : (Cond.instanceMethod yX12_blanks) ∈ tk_G := tk_inG 1476 (by decide +kernel) (by decide +kernel)
theorem wd_1477 : (tk_code mX12_blanks) ∈ tk_G := tk_inG 1477 (by decide +kernel) (by decide +kernel)
theorem wd_1478 : (Cond.methodLink RX12 158 yX12_byteAt) ∈ tk_G := tk_inG 1478 (by decide +kernel) (by decide +kernel)
theorem wd_1480 : (Cond.instanceMethod yX12_byteAt) ∈ tk_G := tk_inG 1480 (by decide +kernel) (by decide +kernel)
theorem wd_1481 : (tk_code mX12_byteAt) ∈ tk_G := tk_inG 1481 (by decide +kernel) (by decide +kernel)
theorem wd_1482 : (Cond.methodLink RX12 312 yX12_clause) ∈ tk_G := tk_inG 1482 (by decide +kernel) (by decide +kernel)
theorem wd_1484 : (Cond.instanceMethod yX12_clause) ∈ tk_G := tk_inG 1484 (by decide +kernel) (by decide +kernel)
theorem wd_1485 : (tk_code mX12_clause) ∈ tk_G := tk_inG 1485 (by decide +kernel) (by decide +kernel)
theorem wd_1487 : (Cond.methodLink RX12 182 yX12_isWord) ∈ tk_G := tk_inG 1487 (by decide +kernel) (by decide +kernel)
theorem wd_1489 : (Cond.instanceMethod yX12_isWord) ∈ tk_G := tk_inG 1489 (by decide +kernel) (by decide +kernel)
theorem wd_1490 : (tk_code mX12_isWord) ∈ tk_G := tk_inG 1490 (by decide +kernel) (by decide +kernel)
theorem wd_1491 : (Cond.methodLink RX12 168 yJ0_length_8abf5) ∈ tk_G := tk_inG 1491 (by decide +kernel) (by decide +kernel)
theorem wd_1492 : (Cond.methodLink RX12 174 yJ0_charAt_5068e) ∈ tk_G := tk_inG 1492 (by decide +kernel) (by decide +kernel)
theorem wd_1493 : (Cond.methodLink RX12 178 yX12_isSmall) ∈ tk_G := tk_inG 1493 (by decide +kernel) (by decide +kernel)
theorem wd_1494 : (Cond.static yX12_isSmall) ∈ tk_G := tk_inG 1494 (by decide +kernel) (by decide +kernel)
theorem wd_1495 : (tk_code mX12_isSmall) ∈ tk_G := tk_inG 1495 (by decide +kernel) (by decide +kernel)
theorem wd_1499 : (Cond.methodLink RX12 189 yX12_wrong) ∈ tk_G := tk_inG 1499 (by decide +kernel) (by decide +kernel)
theorem wd_1501 : (Cond.instanceMethod yX12_wrong) ∈ tk_G := tk_inG 1501 (by decide +kernel) (by decide +kernel)
theorem wd_1502 : (tk_code mX12_wrong) ∈ tk_G := tk_inG 1502 (by decide +kernel) (by decide +kernel)
theorem wd_1503 : (Cond.methodLink RX12 216 yX12_eat) ∈ tk_G := tk_inG 1503 (by decide +kernel) (by decide +kernel)
theorem wd_1505 : (Cond.instanceMethod yX12_eat) ∈ tk_G := tk_inG 1505 (by decide +kernel) (by decide +kernel)
theorem wd_1506 : (tk_code mX12_eat) ∈ tk_G := tk_inG 1506 (by decide +kernel) (by decide +kernel)
theorem wd_1507 : (Cond.methodLink RX12 267 yX12_number) ∈ tk_G := tk_inG 1507 (by decide +kernel) (by decide +kernel)
theorem wd_1509 : (Cond.instanceMethod yX12_number) ∈ tk_G := tk_inG 1509 (by decide +kernel) (by decide +kernel)
theorem wd_1510 : (tk_code mX12_number) ∈ tk_G := tk_inG 1510 (by decide +kernel) (by decide +kernel)
theorem wd_1511 : (Cond.methodLink RX12 193 yX12_isDigit) ∈ tk_G := tk_inG 1511 (by decide +kernel) (by decide +kernel)
theorem wd_1512 : (Cond.static yX12_isDigit) ∈ tk_G := tk_inG 1512 (by decide +kernel) (by decide +kernel)
theorem wd_1513 : (tk_code mX12_isDigit) ∈ tk_G := tk_inG 1513 (by decide +kernel) (by decide +kernel)
theorem wd_1514 : (Cond.constantLong RX12 196 (2000000)) ∈ tk_G := tk_inG 1514 (by decide +kernel) (by decide +kernel)
theorem wd_1515 : (Cond.constantLong RX12 198 (10)) ∈ tk_G := tk_inG 1515 (by decide +kernel) (by decide +kernel)
theorem wd_1516 : (Cond.constantLong RX12 200 (48)) ∈ tk_G := tk_inG 1516 (by decide +kernel) (by decide +kernel)
theorem wd_1517 : (Cond.constantLong RX12 202 (1000000)) ∈ tk_G := tk_inG 1517 (by decide +kernel) (by decide +kernel)
theorem wd_1520 : (Cond.methodLink RX12 240 yX12_need) ∈ tk_G := tk_inG 1520 (by decide +kernel) (by decide +kernel)
theorem wd_1522 : (Cond.instanceMethod yX12_need) ∈ tk_G := tk_inG 1522 (by decide +kernel) (by decide +kernel)
theorem wd_1523 : (tk_code mX12_need) ∈ tk_G := tk_inG 1523 (by decide +kernel) (by decide +kernel)
theorem wd_1524 : (Cond.methodLink RX12 186 yX12_isSign) ∈ tk_G := tk_inG 1524 (by decide +kernel) (by decide +kernel)
theorem wd_1526 : (Cond.instanceMethod yX12_isSign) ∈ tk_G := tk_inG 1526 (by decide +kernel) (by decide +kernel)
theorem wd_1527 : (tk_code mX12_isSign) ∈ tk_G := tk_inG 1527 (by decide +kernel) (by decide +kernel)
theorem wd_1530 : (Cond.methodLink RX12 237 yX12_condition) ∈ tk_G := tk_inG 1530 (by decide +kernel) (by decide +kernel)
theorem wd_1532 : (Cond.instanceMethod yX12_condition) ∈ tk_G := tk_inG 1532 (by decide +kernel) (by decide +kernel)
theorem wd_1533 : (tk_code mX12_condition) ∈ tk_G := tk_inG 1533 (by decide +kernel) (by decide +kernel)
theorem wd_1534 : (Cond.methodLink RX12 211 yX12_joined) ∈ tk_G := tk_inG 1534 (by decide +kernel) (by decide +kernel)
theorem wd_1536 : (Cond.instanceMethod yX12_joined) ∈ tk_G := tk_inG 1536 (by decide +kernel) (by decide +kernel)
theorem wd_1537 : (tk_code mX12_joined) ∈ tk_G := tk_inG 1537 (by decide +kernel) (by decide +kernel)
theorem wd_1538 : (Cond.methodLink RX12 223 yX12_one) ∈ tk_G := tk_inG 1538 (by decide +kernel) (by decide +kernel)
theorem wd_1540 : (Cond.instanceMethod yX12_one) ∈ tk_G := tk_inG 1540 (by decide +kernel) (by decide +kernel)
theorem wd_1541 : (tk_code mX12_one) ∈ tk_G := tk_inG 1541 (by decide +kernel) (by decide +kernel)
theorem wd_1543 : (Cond.methodLink RX12 233 yX12_opens) ∈ tk_G := tk_inG 1543 (by decide +kernel) (by decide +kernel)
theorem wd_1545 : (Cond.instanceMethod yX12_opens) ∈ tk_G := tk_inG 1545 (by decide +kernel) (by decide +kernel)
theorem wd_1546 : (tk_code mX12_opens) ∈ tk_G := tk_inG 1546 (by decide +kernel) (by decide +kernel)
theorem wd_1547 : (Cond.methodLink RX12 219 yX12_emits) ∈ tk_G := tk_inG 1547 (by decide +kernel) (by decide +kernel)
theorem wd_1549 : (Cond.instanceMethod yX12_emits) ∈ tk_G := tk_inG 1549 (by decide +kernel) (by decide +kernel)
theorem wd_1550 : (tk_code mX12_emits) ∈ tk_G := tk_inG 1550 (by decide +kernel) (by decide +kernel)
theorem wd_1551 : (Cond.methodLink RX12 207 yX12_longer) ∈ tk_G := tk_inG 1551 (by decide +kernel) (by decide +kernel)
theorem wd_1552 : (Cond.static yX12_longer) ∈ tk_G := tk_inG 1552 (by decide +kernel) (by decide +kernel)
theorem wd_1553 : (tk_code mX12_longer) ∈ tk_G := tk_inG 1553 (by decide +kernel) (by decide +kernel)
theorem wd_1560 : (Cond.methodLink RX12 254 yX12_relation) ∈ tk_G := tk_inG 1560 (by decide +kernel) (by decide +kernel)
theorem wd_1562 : (Cond.instanceMethod yX12_relation) ∈ tk_G := tk_inG 1562 (by decide +kernel) (by decide +kernel)
theorem wd_1563 : (tk_code mX12_relation) ∈ tk_G := tk_inG 1563 (by decide +kernel) (by decide +kernel)
theorem wd_1568 : (Cond.methodLink RX12 265 yX12_kind) ∈ tk_G := tk_inG 1568 (by decide +kernel) (by decide +kernel)
theorem wd_1570 : (Cond.instanceMethod yX12_kind) ∈ tk_G := tk_inG 1570 (by decide +kernel) (by decide +kernel)
theorem wd_1571 : (tk_code mX12_kind) ∈ tk_G := tk_inG 1571 (by decide +kernel) (by decide +kernel)
theorem wd_1572 : (Cond.methodLink RX12 271 yX12_kindName) ∈ tk_G := tk_inG 1572 (by decide +kernel) (by decide +kernel)
theorem wd_1573 : (Cond.static yX12_kindName) ∈ tk_G := tk_inG 1573 (by decide +kernel) (by decide +kernel)
theorem wd_1574 : (tk_code mX12_kindName) ∈ tk_G := tk_inG 1574 (by decide +kernel) (by decide +kernel)
theorem wd_1592 : (Cond.methodLink RX12 315 yX12_forceOf) ∈ tk_G := tk_inG 1592 (by decide +kernel) (by decide +kernel)
theorem wd_1594 : (Cond.instanceMethod yX12_forceOf) ∈ tk_G := tk_inG 1594 (by decide +kernel) (by decide +kernel)
theorem wd_1595 : (tk_code mX12_forceOf) ∈ tk_G := tk_inG 1595 (by decide +kernel) (by decide +kernel)
theorem wd_1612 : (Cond.methodLink RX12 351 yX12_isPass) ∈ tk_G := tk_inG 1612 (by decide +kernel) (by decide +kernel)
theorem wd_1614 : (Cond.instanceMethod yX12_isPass) ∈ tk_G := tk_inG 1614 (by decide +kernel) (by decide +kernel)
theorem wd_1615 : (tk_code mX12_isPass) ∈ tk_G := tk_inG 1615 (by decide +kernel) (by decide +kernel)
theorem wd_1616 : (Cond.methodLink RX12 354 yX12_toll) ∈ tk_G := tk_inG 1616 (by decide +kernel) (by decide +kernel)
theorem wd_1618 : (Cond.instanceMethod yX12_toll) ∈ tk_G := tk_inG 1618 (by decide +kernel) (by decide +kernel)
theorem wd_1619 : (tk_code mX12_toll) ∈ tk_G := tk_inG 1619 (by decide +kernel) (by decide +kernel)
theorem wd_1620 : (Cond.methodLink RX12 341 yX12_holds) ∈ tk_G := tk_inG 1620 (by decide +kernel) (by decide +kernel)
theorem wd_1622 : (Cond.instanceMethod yX12_holds) ∈ tk_G := tk_inG 1622 (by decide +kernel) (by decide +kernel)
theorem wd_1623 : (tk_code mX12_holds) ∈ tk_G := tk_inG 1623 (by decide +kernel) (by decide +kernel)
theorem wd_1624 : (Cond.methodLink RX12 327 yX12_single) ∈ tk_G := tk_inG 1624 (by decide +kernel) (by decide +kernel)
theorem wd_1626 : (Cond.instanceMethod yX12_single) ∈ tk_G := tk_inG 1626 (by decide +kernel) (by decide +kernel)
theorem wd_1627 : (tk_code mX12_single) ∈ tk_G := tk_inG 1627 (by decide +kernel) (by decide +kernel)
theorem wd_1628 : (Cond.methodLink RX12 334 yX12_isSo) ∈ tk_G := tk_inG 1628 (by decide +kernel) (by decide +kernel)
theorem wd_1629 : (Cond.static yX12_isSo) ∈ tk_G := tk_inG 1629 (by decide +kernel) (by decide +kernel)
theorem wd_1630 : (tk_code mX12_isSo) ∈ tk_G := tk_inG 1630 (by decide +kernel) (by decide +kernel)
theorem wd_1631 : (Cond.methodLink RX12 344 yX12_paid) ∈ tk_G := tk_inG 1631 (by decide +kernel) (by decide +kernel)
theorem wd_1633 : (Cond.instanceMethod yX12_paid) ∈ tk_G := tk_inG 1633 (by decide +kernel) (by decide +kernel)
theorem wd_1634 : (tk_code mX12_paid) ∈ tk_G := tk_inG 1634 (by decide +kernel) (by decide +kernel)
theorem wd_1635 : (Cond.methodLink RX12 348 yX12_paidAnywhere) ∈ tk_G := tk_inG 1635 (by decide +kernel) (by decide +kernel)
theorem wd_1637 : (Cond.instanceMethod yX12_paidAnywhere) ∈ tk_G := tk_inG 1637 (by decide +kernel) (by decide +kernel)
theorem wd_1638 : (tk_code mX12_paidAnywhere) ∈ tk_G := tk_inG 1638 (by decide +kernel) (by decide +kernel)
theorem wd_1639 : (Cond.constantLong RX12 357 (6)) ∈ tk_G := tk_inG 1639 (by decide +kernel) (by decide +kernel)
theorem wd_1640 : (Cond.constantLong RX12 359 (4)) ∈ tk_G := tk_inG 1640 (by decide +kernel) (by decide +kernel)
theorem wd_1641 : (Cond.constantLong RX12 361 (2)) ∈ tk_G := tk_inG 1641 (by decide +kernel) (by decide +kernel)
theorem wd_1642 : (Cond.methodLink RX12 366 yX12_line) ∈ tk_G := tk_inG 1642 (by decide +kernel) (by decide +kernel)
theorem wd_1644 : (Cond.instanceMethod yX12_line) ∈ tk_G := tk_inG 1644 (by decide +kernel) (by decide +kernel)
theorem wd_1645 : (tk_code mX12_line) ∈ tk_G := tk_inG 1645 (by decide +kernel) (by decide +kernel)
theorem wd_1658 : (Cond.constant RX12 377 (1000000000)) ∈ tk_G := tk_inG 1658 (by decide +kernel) (by decide +kernel)
theorem wd_1663 : (Cond.methodLink RX12 382 yX12_isSum) ∈ tk_G := tk_inG 1663 (by decide +kernel) (by decide +kernel)
theorem wd_1664 : (Cond.static yX12_isSum) ∈ tk_G := tk_inG 1664 (by decide +kernel) (by decide +kernel)
theorem wd_1665 : (tk_code mX12_isSum) ∈ tk_G := tk_inG 1665 (by decide +kernel) (by decide +kernel)
theorem wd_1666 : (Cond.constant RX12 381 (10000000)) ∈ tk_G := tk_inG 1666 (by decide +kernel) (by decide +kernel)
theorem wd_1671 : (Cond.methodLink RX12 385 yX12_rentDue) ∈ tk_G := tk_inG 1671 (by decide +kernel) (by decide +kernel)
theorem wd_1673 : (Cond.instanceMethod yX12_rentDue) ∈ tk_G := tk_inG 1673 (by decide +kernel) (by decide +kernel)
theorem wd_1674 : (tk_code mX12_rentDue) ∈ tk_G := tk_inG 1674 (by decide +kernel) (by decide +kernel)
theorem wd_1695 : (Cond.methodLink RX12 396 yX12_interest) ∈ tk_G := tk_inG 1695 (by decide +kernel) (by decide +kernel)
theorem wd_1697 : (Cond.instanceMethod yX12_interest) ∈ tk_G := tk_inG 1697 (by decide +kernel) (by decide +kernel)
theorem wd_1698 : (tk_code mX12_interest) ∈ tk_G := tk_inG 1698 (by decide +kernel) (by decide +kernel)
theorem wd_1699 : (Cond.constantLong RX12 391 (1000)) ∈ tk_G := tk_inG 1699 (by decide +kernel) (by decide +kernel)
theorem wd_1700 : (Cond.methodLink RX12 393 yX12_rank) ∈ tk_G := tk_inG 1700 (by decide +kernel) (by decide +kernel)
theorem wd_1702 : (Cond.instanceMethod yX12_rank) ∈ tk_G := tk_inG 1702 (by decide +kernel) (by decide +kernel)
theorem wd_1703 : (tk_code mX12_rank) ∈ tk_G := tk_inG 1703 (by decide +kernel) (by decide +kernel)
theorem wd_1712 : (Cond.methodLink RX12 399 yX12_takes) ∈ tk_G := tk_inG 1712 (by decide +kernel) (by decide +kernel)
theorem wd_1714 : (Cond.instanceMethod yX12_takes) ∈ tk_G := tk_inG 1714 (by decide +kernel) (by decide +kernel)
theorem wd_1715 : (tk_code mX12_takes) ∈ tk_G := tk_inG 1715 (by decide +kernel) (by decide +kernel)
theorem wd_1716 : (Cond.constantLong RX12 403 (50)) ∈ tk_G := tk_inG 1716 (by decide +kernel) (by decide +kernel)
theorem wd_1721 : (Cond.methodLink RX12 405 yX12_no) ∈ tk_G := tk_inG 1721 (by decide +kernel) (by decide +kernel)
theorem wd_1723 : (Cond.instanceMethod yX12_no) ∈ tk_G := tk_inG 1723 (by decide +kernel) (by decide +kernel)
theorem wd_1724 : (tk_code mX12_no) ∈ tk_G := tk_inG 1724 (by decide +kernel) (by decide +kernel)
theorem wd_1762 : (Cond.selects "[Ljava/lang/Object;" ⟨"java/lang/Object", "getClass", "()Ljava/lang/Class;"⟩ ⟨"java/lang/Object", "getClass", "()Ljava/lang/Class;"⟩) ∈ tk_G := tk_inG 1762 (by decide +kernel) (by decide +kernel)
theorem wd_1769 : (Cond.fieldLink RJ0 9 "java/lang/String" "value" "[B") ∈ tk_G := tk_inG 1769 (by decide +kernel) (by decide +kernel)
theorem wd_1770 : (Cond.fieldLink RJ0 15 "java/lang/String" "code\x72" "B") ∈ tk_G := tk_inG 1770 (by decide +kernel) (by decide +kernel)
theorem co_1746 : Cond.castable RJx4a65c "java/lang/Object" ∈ tk_N := tk_inN1 1746 (by decide +kernel) (by decide +kernel)
theorem co_1750 : Cond.castable RX0 "java/lang/Object" ∈ tk_N := tk_inN1 1750 (by decide +kernel) (by decide +kernel)
theorem co_1757 : Cond.castable RX1 "java/lang/Object" ∈ tk_N := tk_inN1 1757 (by decide +kernel) (by decide +kernel)
theorem co_1745 : Cond.castable RX2 "java/lang/Object" ∈ tk_N := tk_inN1 1745 (by decide +kernel) (by decide +kernel)
theorem co_1751 : Cond.castable RX3 "java/lang/Object" ∈ tk_N := tk_inN1 1751 (by decide +kernel) (by decide +kernel)
theorem co_1756 : Cond.castable RX4 "java/lang/Object" ∈ tk_N := tk_inN1 1756 (by decide +kernel) (by decide +kernel)
theorem co_1754 : Cond.castable RX5 "java/lang/Object" ∈ tk_N := tk_inN1 1754 (by decide +kernel) (by decide +kernel)
theorem co_1758 : Cond.castable RX6 "java/lang/Object" ∈ tk_N := tk_inN1 1758 (by decide +kernel) (by decide +kernel)
theorem co_1743 : Cond.castable RX7 "java/lang/Object" ∈ tk_N := tk_inN1 1743 (by decide +kernel) (by decide +kernel)
theorem co_1744 : Cond.castable RX8 "java/lang/Object" ∈ tk_N := tk_inN1 1744 (by decide +kernel) (by decide +kernel)
theorem co_1752 : Cond.castable RX9 "java/lang/Object" ∈ tk_N := tk_inN1 1752 (by decide +kernel) (by decide +kernel)
theorem co_1755 : Cond.castable RX10 "java/lang/Object" ∈ tk_N := tk_inN1 1755 (by decide +kernel) (by decide +kernel)
theorem co_1742 : Cond.castable RX11 "java/lang/Object" ∈ tk_N := tk_inN1 1742 (by decide +kernel) (by decide +kernel)
theorem co_1747 : Cond.castable RX12 "java/lang/Object" ∈ tk_N := tk_inN1 1747 (by decide +kernel) (by decide +kernel)
theorem castO : ∀ (c : Nat) (r : vw_C), vwCl[c]? = some r → Cond.castable r.1 "java/lang/Object" ∈ tk_N := by
  intro c r h
  have hc : c < 14 := (List.getElem?_eq_some_iff.mp h).1
  match c, hc with
  | 0, _ => cases h; exact co_1746
  | 1, _ => cases h; exact co_1750
  | 2, _ => cases h; exact co_1757
  | 3, _ => cases h; exact co_1745
  | 4, _ => cases h; exact co_1751
  | 5, _ => cases h; exact co_1756
  | 6, _ => cases h; exact co_1754
  | 7, _ => cases h; exact co_1758
  | 8, _ => cases h; exact co_1743
  | 9, _ => cases h; exact co_1744
  | 10, _ => cases h; exact co_1752
  | 11, _ => cases h; exact co_1755
  | 12, _ => cases h; exact co_1742
  | 13, _ => cases h; exact co_1747
  | n + 14, hc => omega
theorem wn_114 : (Cond.methodLinkNest RX11 9 yX7_init RX11) ∈ tk_N := tk_inN1 114 (by decide +kernel) (by decide +kernel)
theorem wn_159 : (Cond.methodLinkNest RX11 18 yX8_init RX11) ∈ tk_N := tk_inN1 159 (by decide +kernel) (by decide +kernel)
theorem wn_189 : (Cond.methodLinkNest RX11 25 yX2_init RX11) ∈ tk_N := tk_inN1 189 (by decide +kernel) (by decide +kernel)
theorem th_IAE : tk_thr RX11 "java/lang/IllegalArgumentException" 77 ["java/lang/RuntimeException", "java/lang/Exception"] := ⟨by decide +kernel, by decide +kernel, tk_inT _ (by decide +kernel) (by decide +kernel), tk_inN _ (by decide +kernel) (by decide +kernel), by decide +kernel, by decide⟩
theorem th_ISE : tk_thr RX11 "java/lang/IllegalStateException" 88 ["java/lang/RuntimeException", "java/lang/Exception"] := ⟨by decide +kernel, by decide +kernel, tk_inT _ (by decide +kernel) (by decide +kernel), tk_inN _ (by decide +kernel) (by decide +kernel), by decide +kernel, by decide⟩
theorem th_IOE : tk_thr RX11 "java/lang/IndexOutOfBoundsException" 120 ["java/lang/RuntimeException", "java/lang/Exception"] := ⟨by decide +kernel, by decide +kernel, tk_inT _ (by decide +kernel) (by decide +kernel), tk_inN _ (by decide +kernel) (by decide +kernel), by decide +kernel, by decide⟩
