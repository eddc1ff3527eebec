section
set_option maxRecDepth 100000
theorem axM_0_1 : isA false 0 1 = true := rfl
theorem axM_0_10 : isA false 0 10 = true := rfl
theorem axM_0_11 : isA false 0 11 = true := rfl
theorem axM_0_12 : isA false 0 12 = true := rfl
theorem axM_0_13 : isA false 0 13 = true := rfl
theorem axM_0_14 : isA false 0 14 = true := rfl
theorem axM_0_15 : isA false 0 15 = true := rfl
theorem axM_0_16 : isA false 0 16 = true := rfl
theorem axM_0_18 : isA false 0 18 = true := rfl
theorem axM_0_19 : isA false 0 19 = true := rfl
theorem axM_0_2 : isA false 0 2 = true := rfl
theorem axM_0_20 : isA false 0 20 = true := rfl
theorem axM_0_21 : isA false 0 21 = true := rfl
theorem axM_0_22 : isA false 0 22 = true := rfl
theorem axM_0_23 : isA false 0 23 = true := rfl
theorem axM_0_24 : isA false 0 24 = true := rfl
theorem axM_0_25 : isA false 0 25 = true := rfl
theorem axM_0_26 : isA false 0 26 = true := rfl
theorem axM_0_27 : isA false 0 27 = true := rfl
theorem axM_0_28 : isA false 0 28 = true := rfl
theorem axM_0_29 : isA false 0 29 = true := rfl
theorem axM_0_3 : isA false 0 3 = true := rfl
theorem axM_0_30 : isA false 0 30 = true := rfl
theorem axM_0_32 : isA false 0 32 = true := rfl
theorem axM_0_33 : isA false 0 33 = true := rfl
theorem axM_0_34 : isA false 0 34 = true := rfl
theorem axM_0_4 : isA false 0 4 = true := rfl
theorem axM_0_5 : isA false 0 5 = true := rfl
theorem axM_0_6 : isA false 0 6 = true := rfl
theorem axM_0_8 : isA false 0 8 = true := rfl
theorem axM_0_9 : isA false 0 9 = true := rfl
theorem axM_1_35 : isA false 1 35 = true := rfl
theorem axM_1_36 : isA false 1 36 = true := rfl
theorem axM_3_17 : isA false 3 17 = true := rfl
theorem axM_3_31 : isA false 3 31 = true := rfl
theorem axM_3_7 : isA false 3 7 = true := rfl
theorem axX_0_1 : isA true 0 1 = true := rfl
theorem axX_0_15 : isA true 0 15 = true := rfl
theorem axX_0_16 : isA true 0 16 = true := rfl
theorem axX_0_17 : isA true 0 17 = true := rfl
theorem axX_0_18 : isA true 0 18 = true := rfl
theorem axX_0_19 : isA true 0 19 = true := rfl
theorem axX_0_21 : isA true 0 21 = true := rfl
theorem axX_0_22 : isA true 0 22 = true := rfl
theorem axX_0_35 : isA true 0 35 = true := rfl
theorem axX_0_36 : isA true 0 36 = true := rfl
theorem axX_0_42 : isA true 0 42 = true := rfl
theorem axX_0_43 : isA true 0 43 = true := rfl
theorem axX_0_44 : isA true 0 44 = true := rfl
theorem axX_0_45 : isA true 0 45 = true := rfl
theorem axX_0_6 : isA true 0 6 = true := rfl
theorem axX_2_3 : isA true 2 3 = true := rfl
theorem axX_3_20 : isA true 3 20 = true := rfl
theorem axX_3_38 : isA true 3 38 = true := rfl
theorem fxM_7_0_0 : fAt false 7 0 0 0 := ⟨_, rfl, rfl⟩
theorem fxM_7_10_0 : fAt false 7 10 0 0 := ⟨_, rfl, rfl⟩
theorem fxM_7_11_0 : fAt false 7 11 0 0 := ⟨_, rfl, rfl⟩
theorem fxM_7_12_0 : fAt false 7 12 0 0 := ⟨_, rfl, rfl⟩
theorem fxM_7_13_0 : fAt false 7 13 0 0 := ⟨_, rfl, rfl⟩
theorem fxM_7_14_0 : fAt false 7 14 0 0 := ⟨_, rfl, rfl⟩
theorem fxM_7_15_0 : fAt false 7 15 10 0 := ⟨_, rfl, rfl⟩
theorem fxM_7_16_0 : fAt false 7 16 11 0 := ⟨_, rfl, rfl⟩
theorem fxM_7_17_0 : fAt false 7 17 12 0 := ⟨_, rfl, rfl⟩
theorem fxM_7_18_0 : fAt false 7 18 13 0 := ⟨_, rfl, rfl⟩
theorem fxM_7_19_0 : fAt false 7 19 14 0 := ⟨_, rfl, rfl⟩
theorem fxM_7_1_0 : fAt false 7 1 0 0 := ⟨_, rfl, rfl⟩
theorem fxM_7_20_0 : fAt false 7 20 15 0 := ⟨_, rfl, rfl⟩
theorem fxM_7_21_0 : fAt false 7 21 16 0 := ⟨_, rfl, rfl⟩
theorem fxM_7_22_0 : fAt false 7 22 17 0 := ⟨_, rfl, rfl⟩
theorem fxM_7_23_0 : fAt false 7 23 0 0 := ⟨_, rfl, rfl⟩
theorem fxM_7_24_0 : fAt false 7 24 0 0 := ⟨_, rfl, rfl⟩
theorem fxM_7_25_0 : fAt false 7 25 0 0 := ⟨_, rfl, rfl⟩
theorem fxM_7_26_0 : fAt false 7 26 18 0 := ⟨_, rfl, rfl⟩
theorem fxM_7_27_0 : fAt false 7 27 0 0 := ⟨_, rfl, rfl⟩
theorem fxM_7_28_0 : fAt false 7 28 19 0 := ⟨_, rfl, rfl⟩
theorem fxM_7_29_0 : fAt false 7 29 20 0 := ⟨_, rfl, rfl⟩
theorem fxM_7_2_0 : fAt false 7 2 0 0 := ⟨_, rfl, rfl⟩
theorem fxM_7_30_0 : fAt false 7 30 21 0 := ⟨_, rfl, rfl⟩
theorem fxM_7_31_0 : fAt false 7 31 0 0 := ⟨_, rfl, rfl⟩
theorem fxM_7_32_0 : fAt false 7 32 0 0 := ⟨_, rfl, rfl⟩
theorem fxM_7_33_0 : fAt false 7 33 22 0 := ⟨_, rfl, rfl⟩
theorem fxM_7_34_0 : fAt false 7 34 0 0 := ⟨_, rfl, rfl⟩
theorem fxM_7_35_0 : fAt false 7 35 0 0 := ⟨_, rfl, rfl⟩
theorem fxM_7_36_0 : fAt false 7 36 23 0 := ⟨_, rfl, rfl⟩
theorem fxM_7_37_0 : fAt false 7 37 24 0 := ⟨_, rfl, rfl⟩
theorem fxM_7_38_0 : fAt false 7 38 0 0 := ⟨_, rfl, rfl⟩
theorem fxM_7_39_0 : fAt false 7 39 25 0 := ⟨_, rfl, rfl⟩
theorem fxM_7_3_0 : fAt false 7 3 3 0 := ⟨_, rfl, rfl⟩
theorem fxM_7_40_0 : fAt false 7 40 0 0 := ⟨_, rfl, rfl⟩
theorem fxM_7_41_0 : fAt false 7 41 0 0 := ⟨_, rfl, rfl⟩
theorem fxM_7_42_0 : fAt false 7 42 0 0 := ⟨_, rfl, rfl⟩
theorem fxM_7_43_0 : fAt false 7 43 0 0 := ⟨_, rfl, rfl⟩
theorem fxM_7_44_0 : fAt false 7 44 0 0 := ⟨_, rfl, rfl⟩
theorem fxM_7_45_0 : fAt false 7 45 0 0 := ⟨_, rfl, rfl⟩
theorem fxM_7_46_0 : fAt false 7 46 26 0 := ⟨_, rfl, rfl⟩
theorem fxM_7_47_0 : fAt false 7 47 27 0 := ⟨_, rfl, rfl⟩
theorem fxM_7_48_0 : fAt false 7 48 28 0 := ⟨_, rfl, rfl⟩
theorem fxM_7_49_0 : fAt false 7 49 29 0 := ⟨_, rfl, rfl⟩
theorem fxM_7_4_0 : fAt false 7 4 4 0 := ⟨_, rfl, rfl⟩
theorem fxM_7_50_0 : fAt false 7 50 30 0 := ⟨_, rfl, rfl⟩
theorem fxM_7_51_0 : fAt false 7 51 31 0 := ⟨_, rfl, rfl⟩
theorem fxM_7_52_0 : fAt false 7 52 32 0 := ⟨_, rfl, rfl⟩
theorem fxM_7_53_0 : fAt false 7 53 33 0 := ⟨_, rfl, rfl⟩
theorem fxM_7_54_0 : fAt false 7 54 0 0 := ⟨_, rfl, rfl⟩
theorem fxM_7_55_0 : fAt false 7 55 34 0 := ⟨_, rfl, rfl⟩
theorem fxM_7_56_0 : fAt false 7 56 35 0 := ⟨_, rfl, rfl⟩
theorem fxM_7_57_0 : fAt false 7 57 36 0 := ⟨_, rfl, rfl⟩
theorem fxM_7_58_0 : fAt false 7 58 37 0 := ⟨_, rfl, rfl⟩
theorem fxM_7_59_0 : fAt false 7 59 38 0 := ⟨_, rfl, rfl⟩
theorem fxM_7_5_0 : fAt false 7 5 5 0 := ⟨_, rfl, rfl⟩
theorem fxM_7_6_0 : fAt false 7 6 6 0 := ⟨_, rfl, rfl⟩
theorem fxM_7_7_0 : fAt false 7 7 7 0 := ⟨_, rfl, rfl⟩
theorem fxM_7_8_0 : fAt false 7 8 8 0 := ⟨_, rfl, rfl⟩
theorem fxM_7_9_0 : fAt false 7 9 9 0 := ⟨_, rfl, rfl⟩
theorem fxX_0_0_5 : fAt true 0 0 8 5 := ⟨_, rfl, rfl⟩
theorem fxX_0_1_5 : fAt true 0 1 0 5 := ⟨_, rfl, rfl⟩
theorem fxX_0_2_5 : fAt true 0 2 0 5 := ⟨_, rfl, rfl⟩
theorem fxX_0_3_5 : fAt true 0 3 0 5 := ⟨_, rfl, rfl⟩
theorem fxX_0_4_5 : fAt true 0 4 0 5 := ⟨_, rfl, rfl⟩
theorem fxX_1_0_41 : fAt true 1 0 1 41 := ⟨_, rfl, rfl⟩
theorem fxX_1_1_41 : fAt true 1 1 0 41 := ⟨_, rfl, rfl⟩
theorem fxX_1_2_41 : fAt true 1 2 0 41 := ⟨_, rfl, rfl⟩
theorem fxX_1_3_41 : fAt true 1 3 0 41 := ⟨_, rfl, rfl⟩
theorem fxX_1_4_41 : fAt true 1 4 0 41 := ⟨_, rfl, rfl⟩
theorem fxX_1_5_41 : fAt true 1 5 44 41 := ⟨_, rfl, rfl⟩
theorem fxX_1_6_41 : fAt true 1 6 45 41 := ⟨_, rfl, rfl⟩
theorem fxX_1_7_41 : fAt true 1 7 46 41 := ⟨_, rfl, rfl⟩
theorem fxX_1_8_41 : fAt true 1 8 47 41 := ⟨_, rfl, rfl⟩
theorem fxX_2_0_14 : fAt true 2 0 0 14 := ⟨_, rfl, rfl⟩
theorem fxX_2_0_23 : fAt true 2 0 0 23 := ⟨_, rfl, rfl⟩
theorem fxX_2_0_32 : fAt true 2 0 0 32 := ⟨_, rfl, rfl⟩
theorem fxX_2_10_14 : fAt true 2 10 22 14 := ⟨_, rfl, rfl⟩
theorem fxX_2_10_32 : fAt true 2 10 40 32 := ⟨_, rfl, rfl⟩
theorem fxX_2_11_14 : fAt true 2 11 23 14 := ⟨_, rfl, rfl⟩
theorem fxX_2_12_14 : fAt true 2 12 24 14 := ⟨_, rfl, rfl⟩
theorem fxX_2_1_14 : fAt true 2 1 0 14 := ⟨_, rfl, rfl⟩
theorem fxX_2_2_14 : fAt true 2 2 0 14 := ⟨_, rfl, rfl⟩
theorem fxX_2_3_14 : fAt true 2 3 0 14 := ⟨_, rfl, rfl⟩
theorem fxX_2_4_14 : fAt true 2 4 1 14 := ⟨_, rfl, rfl⟩
theorem fxX_2_4_32 : fAt true 2 4 1 32 := ⟨_, rfl, rfl⟩
theorem fxX_2_5_14 : fAt true 2 5 17 14 := ⟨_, rfl, rfl⟩
theorem fxX_2_6_14 : fAt true 2 6 18 14 := ⟨_, rfl, rfl⟩
theorem fxX_2_7_14 : fAt true 2 7 19 14 := ⟨_, rfl, rfl⟩
theorem fxX_2_7_32 : fAt true 2 7 37 32 := ⟨_, rfl, rfl⟩
theorem fxX_2_8_14 : fAt true 2 8 20 14 := ⟨_, rfl, rfl⟩
theorem fxX_2_8_32 : fAt true 2 8 38 32 := ⟨_, rfl, rfl⟩
theorem fxX_2_9_14 : fAt true 2 9 21 14 := ⟨_, rfl, rfl⟩
theorem fxX_4_0_2 : fAt true 4 0 5 2 := ⟨_, rfl, rfl⟩
theorem fxX_4_1_2 : fAt true 4 1 0 2 := ⟨_, rfl, rfl⟩
theorem fxX_4_2_2 : fAt true 4 2 0 2 := ⟨_, rfl, rfl⟩
theorem fxX_4_3_2 : fAt true 4 3 0 2 := ⟨_, rfl, rfl⟩
theorem fxX_6_0_0 : fAt true 6 0 16 0 := ⟨_, rfl, rfl⟩
theorem fxX_6_10_0 : fAt true 6 10 9 0 := ⟨_, rfl, rfl⟩
theorem fxX_6_1_0 : fAt true 6 1 25 0 := ⟨_, rfl, rfl⟩
theorem fxX_6_2_0 : fAt true 6 2 34 0 := ⟨_, rfl, rfl⟩
theorem fxX_6_3_0 : fAt true 6 3 0 0 := ⟨_, rfl, rfl⟩
theorem fxX_6_4_0 : fAt true 6 4 43 0 := ⟨_, rfl, rfl⟩
theorem fxX_6_5_0 : fAt true 6 5 3 0 := ⟨_, rfl, rfl⟩
theorem fxX_6_6_0 : fAt true 6 6 4 0 := ⟨_, rfl, rfl⟩
theorem fxX_6_7_0 : fAt true 6 7 6 0 := ⟨_, rfl, rfl⟩
theorem fxX_6_8_0 : fAt true 6 8 0 0 := ⟨_, rfl, rfl⟩
theorem fxX_6_9_0 : fAt true 6 9 7 0 := ⟨_, rfl, rfl⟩
theorem ol_4_41 : Cond.methodLink RX4 41 ⟨"java/lang/String", "length", "()I"⟩ ∈ jG := jG_in 468 rfl rfl
theorem ol_4_49 : Cond.methodLink RX4 49 ⟨"java/lang/String", "charAt", "(I)C"⟩ ∈ jG := jG_in 478 rfl rfl
theorem ol_6_215 : Cond.methodLink RX6 215 ⟨"java/lang/Math", "abs", "(I)I"⟩ ∈ jG := jG_in 688 rfl rfl
theorem og_6_248 : Cond.fieldLink RX6 248 RX6 "ABOVE" "[I" ∈ jG := jG_in 742 rfl rfl
theorem os_2 {sb : Nat → Nat} {s : State} (hs : oxR sb s) : vk_R RX4 35 ";" (sb 2) s := hs.1
theorem os_3 {sb : Nat → Nat} {s : State} (hs : oxR sb s) : vk_R RX4 53 "take " (sb 3) s := hs.2.1
theorem os_4 {sb : Nat → Nat} {s : State} (hs : oxR sb s) : vk_R RX4 58 " " (sb 4) s := hs.2.2.1
theorem os_5 {sb : Nat → Nat} {s : State} (hs : oxR sb s) : vk_R RX4 68 "due " (sb 5) s := hs.2.2.2.1
theorem os_6 {sb : Nat → Nat} {s : State} (hs : oxR sb s) : vk_R RX4 73 "cost " (sb 6) s := hs.2.2.2.2.1
theorem os_7 {sb : Nat → Nat} {s : State} (hs : oxR sb s) : vk_R RX4 78 "feast " (sb 7) s := hs.2.2.2.2.2.1
theorem os_8 {sb : Nat → Nat} {s : State} (hs : oxR sb s) : vk_R RX4 100 ")" (sb 8) s := hs.2.2.2.2.2.2
end
