/-! LAYOUT: what is where -/
theorem la_0 : kA 0 11 := ⟨Nat.le_of_ble_eq_true rfl, rfl⟩
theorem la_1 : kA 1 23 := ⟨Nat.le_of_ble_eq_true rfl, rfl⟩
theorem lt_1 : (tg 1).2 = 6 := rfl
theorem lk_1 : kR 1 := ⟨Nat.le_of_ble_eq_true rfl, Nat.le_of_ble_eq_true rfl, Nat.le_of_ble_eq_true rfl⟩
theorem la_2 : kA 2 5 := ⟨Nat.le_of_ble_eq_true rfl, rfl⟩
theorem lo_2 : kO 2 := ⟨Nat.le_of_ble_eq_true rfl, Nat.le_of_ble_eq_true rfl⟩
theorem la_3 : kA 3 1 := ⟨Nat.le_of_ble_eq_true rfl, rfl⟩
theorem lo_3 : kO 3 := ⟨Nat.le_of_ble_eq_true rfl, Nat.le_of_ble_eq_true rfl⟩
theorem la_4 : kA 4 0 := ⟨Nat.le_of_ble_eq_true rfl, rfl⟩
theorem lo_4 : kO 4 := ⟨Nat.le_of_ble_eq_true rfl, Nat.le_of_ble_eq_true rfl⟩
theorem la_5 : kA 5 3 := ⟨Nat.le_of_ble_eq_true rfl, rfl⟩
theorem lo_5 : kO 5 := ⟨Nat.le_of_ble_eq_true rfl, Nat.le_of_ble_eq_true rfl⟩
theorem la_6 : kA 6 8 := ⟨Nat.le_of_ble_eq_true rfl, rfl⟩
theorem lo_6 : kO 6 := ⟨Nat.le_of_ble_eq_true rfl, Nat.le_of_ble_eq_true rfl⟩
theorem la_7 : kA 7 2 := ⟨Nat.le_of_ble_eq_true rfl, rfl⟩
theorem lo_7 : kO 7 := ⟨Nat.le_of_ble_eq_true rfl, Nat.le_of_ble_eq_true rfl⟩
theorem la_8 : kA 8 9 := ⟨Nat.le_of_ble_eq_true rfl, rfl⟩
theorem la_9 : kA 9 10 := ⟨Nat.le_of_ble_eq_true rfl, rfl⟩
theorem la_10 : kA 10 20 := ⟨Nat.le_of_ble_eq_true rfl, rfl⟩
theorem lt_10 : (tg 10).2 = 8 := rfl
theorem la_11 : kA 11 7 := ⟨Nat.le_of_ble_eq_true rfl, rfl⟩
theorem la_12 : kA 12 20 := ⟨Nat.le_of_ble_eq_true rfl, rfl⟩
theorem lt_12 : (tg 12).2 = 18 := rfl
theorem la_13 : kA 13 7 := ⟨Nat.le_of_ble_eq_true rfl, rfl⟩
theorem la_14 : kA 14 20 := ⟨Nat.le_of_ble_eq_true rfl, rfl⟩
theorem lt_14 : (tg 14).2 = 18 := rfl
theorem la_15 : kA 15 7 := ⟨Nat.le_of_ble_eq_true rfl, rfl⟩
theorem la_16 : kA 16 20 := ⟨Nat.le_of_ble_eq_true rfl, rfl⟩
theorem lt_16 : (tg 16).2 = 18 := rfl
theorem la_17 : kA 17 4 := ⟨Nat.le_of_ble_eq_true rfl, rfl⟩
theorem la_18 : kA 18 20 := ⟨Nat.le_of_ble_eq_true rfl, rfl⟩
theorem lt_18 : (tg 18).2 = 64 := rfl
theorem la_19 : kA 19 20 := ⟨Nat.le_of_ble_eq_true rfl, rfl⟩
theorem lt_19 : (tg 19).2 = 8 := rfl
theorem la_20 : kA 20 20 := ⟨Nat.le_of_ble_eq_true rfl, rfl⟩
theorem lt_20 : (tg 20).2 = 8 := rfl
theorem la_21 : kA 21 9 := ⟨Nat.le_of_ble_eq_true rfl, rfl⟩
theorem la_22 : kA 22 10 := ⟨Nat.le_of_ble_eq_true rfl, rfl⟩
theorem la_23 : kA 23 20 := ⟨Nat.le_of_ble_eq_true rfl, rfl⟩
theorem lt_23 : (tg 23).2 = 8 := rfl
theorem la_24 : kA 24 7 := ⟨Nat.le_of_ble_eq_true rfl, rfl⟩
theorem la_25 : kA 25 20 := ⟨Nat.le_of_ble_eq_true rfl, rfl⟩
theorem lt_25 : (tg 25).2 = 18 := rfl
theorem la_26 : kA 26 7 := ⟨Nat.le_of_ble_eq_true rfl, rfl⟩
theorem la_27 : kA 27 20 := ⟨Nat.le_of_ble_eq_true rfl, rfl⟩
theorem lt_27 : (tg 27).2 = 18 := rfl
theorem la_28 : kA 28 7 := ⟨Nat.le_of_ble_eq_true rfl, rfl⟩
theorem la_29 : kA 29 20 := ⟨Nat.le_of_ble_eq_true rfl, rfl⟩
theorem lt_29 : (tg 29).2 = 18 := rfl
theorem la_30 : kA 30 4 := ⟨Nat.le_of_ble_eq_true rfl, rfl⟩
theorem la_31 : kA 31 20 := ⟨Nat.le_of_ble_eq_true rfl, rfl⟩
theorem lt_31 : (tg 31).2 = 64 := rfl
theorem la_32 : kA 32 20 := ⟨Nat.le_of_ble_eq_true rfl, rfl⟩
theorem lt_32 : (tg 32).2 = 8 := rfl
theorem la_33 : kA 33 20 := ⟨Nat.le_of_ble_eq_true rfl, rfl⟩
theorem lt_33 : (tg 33).2 = 8 := rfl
theorem la_34 : kA 34 24 := ⟨Nat.le_of_ble_eq_true rfl, rfl⟩
theorem lt_34 : (tg 34).2 = 2 := rfl
theorem lk_34 : kR 34 := ⟨Nat.le_of_ble_eq_true rfl, Nat.le_of_ble_eq_true rfl, Nat.le_of_ble_eq_true rfl⟩
theorem la_35 : kA 35 9 := ⟨Nat.le_of_ble_eq_true rfl, rfl⟩
theorem la_36 : kA 36 10 := ⟨Nat.le_of_ble_eq_true rfl, rfl⟩
theorem la_37 : kA 37 20 := ⟨Nat.le_of_ble_eq_true rfl, rfl⟩
theorem lt_37 : (tg 37).2 = 8 := rfl
theorem la_38 : kA 38 7 := ⟨Nat.le_of_ble_eq_true rfl, rfl⟩
theorem la_39 : kA 39 20 := ⟨Nat.le_of_ble_eq_true rfl, rfl⟩
theorem lt_39 : (tg 39).2 = 18 := rfl
theorem la_40 : kA 40 7 := ⟨Nat.le_of_ble_eq_true rfl, rfl⟩
theorem la_41 : kA 41 20 := ⟨Nat.le_of_ble_eq_true rfl, rfl⟩
theorem lt_41 : (tg 41).2 = 18 := rfl
theorem la_42 : kA 42 7 := ⟨Nat.le_of_ble_eq_true rfl, rfl⟩
theorem la_43 : kA 43 20 := ⟨Nat.le_of_ble_eq_true rfl, rfl⟩
theorem lt_43 : (tg 43).2 = 18 := rfl
theorem la_44 : kA 44 4 := ⟨Nat.le_of_ble_eq_true rfl, rfl⟩
theorem la_45 : kA 45 20 := ⟨Nat.le_of_ble_eq_true rfl, rfl⟩
theorem lt_45 : (tg 45).2 = 64 := rfl
theorem la_46 : kA 46 20 := ⟨Nat.le_of_ble_eq_true rfl, rfl⟩
theorem lt_46 : (tg 46).2 = 8 := rfl
theorem la_47 : kA 47 20 := ⟨Nat.le_of_ble_eq_true rfl, rfl⟩
theorem lt_47 : (tg 47).2 = 8 := rfl
theorem la_48 : kA 48 9 := ⟨Nat.le_of_ble_eq_true rfl, rfl⟩
theorem la_49 : kA 49 10 := ⟨Nat.le_of_ble_eq_true rfl, rfl⟩
theorem la_50 : kA 50 20 := ⟨Nat.le_of_ble_eq_true rfl, rfl⟩
theorem lt_50 : (tg 50).2 = 8 := rfl
theorem la_51 : kA 51 7 := ⟨Nat.le_of_ble_eq_true rfl, rfl⟩
theorem la_52 : kA 52 20 := ⟨Nat.le_of_ble_eq_true rfl, rfl⟩
theorem lt_52 : (tg 52).2 = 18 := rfl
theorem la_53 : kA 53 7 := ⟨Nat.le_of_ble_eq_true rfl, rfl⟩
theorem la_54 : kA 54 20 := ⟨Nat.le_of_ble_eq_true rfl, rfl⟩
theorem lt_54 : (tg 54).2 = 18 := rfl
theorem la_55 : kA 55 7 := ⟨Nat.le_of_ble_eq_true rfl, rfl⟩
theorem la_56 : kA 56 20 := ⟨Nat.le_of_ble_eq_true rfl, rfl⟩
theorem lt_56 : (tg 56).2 = 18 := rfl
theorem la_57 : kA 57 4 := ⟨Nat.le_of_ble_eq_true rfl, rfl⟩
theorem la_58 : kA 58 20 := ⟨Nat.le_of_ble_eq_true rfl, rfl⟩
theorem lt_58 : (tg 58).2 = 64 := rfl
theorem la_59 : kA 59 20 := ⟨Nat.le_of_ble_eq_true rfl, rfl⟩
theorem lt_59 : (tg 59).2 = 8 := rfl
theorem la_60 : kA 60 20 := ⟨Nat.le_of_ble_eq_true rfl, rfl⟩
theorem lt_60 : (tg 60).2 = 8 := rfl
theorem la_61 : kA 61 22 := ⟨Nat.le_of_ble_eq_true rfl, rfl⟩
theorem lt_61 : (tg 61).2 = 2 := rfl
theorem la_62 : kA 62 6 := ⟨Nat.le_of_ble_eq_true rfl, rfl⟩
theorem la_63 : kA 63 9 := ⟨Nat.le_of_ble_eq_true rfl, rfl⟩
theorem la_64 : kA 64 10 := ⟨Nat.le_of_ble_eq_true rfl, rfl⟩
theorem la_65 : kA 65 20 := ⟨Nat.le_of_ble_eq_true rfl, rfl⟩
theorem lt_65 : (tg 65).2 = 8 := rfl
theorem la_66 : kA 66 7 := ⟨Nat.le_of_ble_eq_true rfl, rfl⟩
theorem la_67 : kA 67 20 := ⟨Nat.le_of_ble_eq_true rfl, rfl⟩
theorem lt_67 : (tg 67).2 = 18 := rfl
theorem la_68 : kA 68 7 := ⟨Nat.le_of_ble_eq_true rfl, rfl⟩
theorem la_69 : kA 69 20 := ⟨Nat.le_of_ble_eq_true rfl, rfl⟩
theorem lt_69 : (tg 69).2 = 18 := rfl
theorem la_70 : kA 70 7 := ⟨Nat.le_of_ble_eq_true rfl, rfl⟩
theorem la_71 : kA 71 20 := ⟨Nat.le_of_ble_eq_true rfl, rfl⟩
theorem lt_71 : (tg 71).2 = 18 := rfl
theorem la_72 : kA 72 4 := ⟨Nat.le_of_ble_eq_true rfl, rfl⟩
theorem la_73 : kA 73 20 := ⟨Nat.le_of_ble_eq_true rfl, rfl⟩
theorem lt_73 : (tg 73).2 = 64 := rfl
theorem la_74 : kA 74 20 := ⟨Nat.le_of_ble_eq_true rfl, rfl⟩
theorem lt_74 : (tg 74).2 = 8 := rfl
theorem la_75 : kA 75 20 := ⟨Nat.le_of_ble_eq_true rfl, rfl⟩
theorem lt_75 : (tg 75).2 = 8 := rfl
theorem la_76 : kA 76 21 := ⟨Nat.le_of_ble_eq_true rfl, rfl⟩
theorem lt_76 : (tg 76).2 = 150 := rfl
theorem la_77 : kA 77 20 := ⟨Nat.le_of_ble_eq_true rfl, rfl⟩
theorem lt_77 : (tg 77).2 = 3 := rfl
theorem la_78 : kA 78 20 := ⟨Nat.le_of_ble_eq_true rfl, rfl⟩
theorem lt_78 : (tg 78).2 = 8 := rfl
theorem la_79 : kA 79 25 := ⟨Nat.le_of_ble_eq_true rfl, rfl⟩
theorem lt_79 : (tg 79).2 = 6 := rfl
theorem lk_79 : kR 79 := ⟨Nat.le_of_ble_eq_true rfl, Nat.le_of_ble_eq_true rfl, Nat.le_of_ble_eq_true rfl⟩
theorem la_80 : kA 80 20 := ⟨Nat.le_of_ble_eq_true rfl, rfl⟩
theorem lt_80 : (tg 80).2 = 8 := rfl
theorem la_81 : kA 81 20 := ⟨Nat.le_of_ble_eq_true rfl, rfl⟩
theorem lt_81 : (tg 81).2 = 8 := rfl
theorem la_82 : kA 82 20 := ⟨Nat.le_of_ble_eq_true rfl, rfl⟩
theorem lt_82 : (tg 82).2 = 8 := rfl
theorem la_83 : kA 83 20 := ⟨Nat.le_of_ble_eq_true rfl, rfl⟩
theorem lt_83 : (tg 83).2 = 8 := rfl
theorem la_84 : kA 84 20 := ⟨Nat.le_of_ble_eq_true rfl, rfl⟩
theorem lt_84 : (tg 84).2 = 8 := rfl
theorem la_85 : kA 85 20 := ⟨Nat.le_of_ble_eq_true rfl, rfl⟩
theorem lt_85 : (tg 85).2 = 8 := rfl
theorem la_86 : kA 86 12 := ⟨Nat.le_of_ble_eq_true rfl, rfl⟩
theorem la_87 : kA 87 20 := ⟨Nat.le_of_ble_eq_true rfl, rfl⟩
theorem lt_87 : (tg 87).2 = 142 := rfl
theorem la_88 : kA 88 20 := ⟨Nat.le_of_ble_eq_true rfl, rfl⟩
theorem lt_88 : (tg 88).2 = 284 := rfl
theorem la_89 : kA 89 22 := ⟨Nat.le_of_ble_eq_true rfl, rfl⟩
theorem lt_89 : (tg 89).2 = 2 := rfl
theorem la_90 : kA 90 20 := ⟨Nat.le_of_ble_eq_true rfl, rfl⟩
theorem lt_90 : (tg 90).2 = 3 := rfl
theorem la_91 : kA 91 20 := ⟨Nat.le_of_ble_eq_true rfl, rfl⟩
theorem lt_91 : (tg 91).2 = 8 := rfl
theorem la_92 : kA 92 20 := ⟨Nat.le_of_ble_eq_true rfl, rfl⟩
theorem lt_92 : (tg 92).2 = 6 := rfl
theorem la_93 : kA 93 20 := ⟨Nat.le_of_ble_eq_true rfl, rfl⟩
theorem lt_93 : (tg 93).2 = 6 := rfl
theorem la_94 : kA 94 20 := ⟨Nat.le_of_ble_eq_true rfl, rfl⟩
theorem lt_94 : (tg 94).2 = 4 := rfl
theorem la_95 : kA 95 20 := ⟨Nat.le_of_ble_eq_true rfl, rfl⟩
theorem lt_95 : (tg 95).2 = 4 := rfl
theorem la_96 : kA 96 20 := ⟨Nat.le_of_ble_eq_true rfl, rfl⟩
theorem lt_96 : (tg 96).2 = 48 := rfl
theorem la_97 : kA 97 20 := ⟨Nat.le_of_ble_eq_true rfl, rfl⟩
theorem lt_97 : (tg 97).2 = 150 := rfl
theorem la_98 : kA 98 20 := ⟨Nat.le_of_ble_eq_true rfl, rfl⟩
theorem lt_98 : (tg 98).2 = 62 := rfl
theorem la_99 : kA 99 20 := ⟨Nat.le_of_ble_eq_true rfl, rfl⟩
theorem lt_99 : (tg 99).2 = 3 := rfl
theorem lr_0_0 : rf 0 0 = 8 := rfl
theorem lr_0_1 : rf 0 1 = 21 := rfl
theorem lr_0_2 : rf 0 2 = 34 := rfl
theorem lr_0_3 : rf 0 3 = 61 := rfl
theorem lr_0_4 : rf 0 4 = 62 := rfl
theorem lr_0_5 : rf 0 5 = 78 := rfl
theorem lr_0_6 : rf 0 6 = 79 := rfl
theorem lr_1_0 : rf 1 0 = 2 := rfl
theorem lr_1_1 : rf 1 1 = 3 := rfl
theorem lr_1_2 : rf 1 2 = 4 := rfl
theorem lr_1_3 : rf 1 3 = 5 := rfl
theorem lr_1_4 : rf 1 4 = 6 := rfl
theorem lr_1_5 : rf 1 5 = 7 := rfl
theorem lr_8_0 : rf 8 0 = 1 := rfl
theorem lr_8_1 : rf 8 1 = 9 := rfl
theorem lr_8_2 : rf 8 2 = 11 := rfl
theorem lr_8_3 : rf 8 3 = 13 := rfl
theorem lr_8_4 : rf 8 4 = 15 := rfl
theorem lr_8_5 : rf 8 5 = 17 := rfl
theorem lr_9_0 : rf 9 0 = 10 := rfl
theorem lr_11_0 : rf 11 0 = 12 := rfl
theorem lr_13_0 : rf 13 0 = 14 := rfl
theorem lr_15_0 : rf 15 0 = 16 := rfl
theorem lr_17_0 : rf 17 0 = 18 := rfl
theorem lr_17_1 : rf 17 1 = 19 := rfl
theorem lr_17_2 : rf 17 2 = 20 := rfl
theorem lr_21_0 : rf 21 0 = 1 := rfl
theorem lr_21_1 : rf 21 1 = 22 := rfl
theorem lr_21_2 : rf 21 2 = 24 := rfl
theorem lr_21_3 : rf 21 3 = 26 := rfl
theorem lr_21_4 : rf 21 4 = 28 := rfl
theorem lr_21_5 : rf 21 5 = 30 := rfl
theorem lr_22_0 : rf 22 0 = 23 := rfl
theorem lr_24_0 : rf 24 0 = 25 := rfl
theorem lr_26_0 : rf 26 0 = 27 := rfl
theorem lr_28_0 : rf 28 0 = 29 := rfl
theorem lr_30_0 : rf 30 0 = 31 := rfl
theorem lr_30_1 : rf 30 1 = 32 := rfl
theorem lr_30_2 : rf 30 2 = 33 := rfl
theorem lr_34_0 : rf 34 0 = 35 := rfl
theorem lr_34_1 : rf 34 1 = 48 := rfl
theorem lr_35_0 : rf 35 0 = 1 := rfl
theorem lr_35_1 : rf 35 1 = 36 := rfl
theorem lr_35_2 : rf 35 2 = 38 := rfl
theorem lr_35_3 : rf 35 3 = 40 := rfl
theorem lr_35_4 : rf 35 4 = 42 := rfl
theorem lr_35_5 : rf 35 5 = 44 := rfl
theorem lr_36_0 : rf 36 0 = 37 := rfl
theorem lr_38_0 : rf 38 0 = 39 := rfl
theorem lr_40_0 : rf 40 0 = 41 := rfl
theorem lr_42_0 : rf 42 0 = 43 := rfl
theorem lr_44_0 : rf 44 0 = 45 := rfl
theorem lr_44_1 : rf 44 1 = 46 := rfl
theorem lr_44_2 : rf 44 2 = 47 := rfl
theorem lr_48_0 : rf 48 0 = 1 := rfl
theorem lr_48_1 : rf 48 1 = 49 := rfl
theorem lr_48_2 : rf 48 2 = 51 := rfl
theorem lr_48_3 : rf 48 3 = 53 := rfl
theorem lr_48_4 : rf 48 4 = 55 := rfl
theorem lr_48_5 : rf 48 5 = 57 := rfl
theorem lr_49_0 : rf 49 0 = 50 := rfl
theorem lr_51_0 : rf 51 0 = 52 := rfl
theorem lr_53_0 : rf 53 0 = 54 := rfl
theorem lr_55_0 : rf 55 0 = 56 := rfl
theorem lr_57_0 : rf 57 0 = 58 := rfl
theorem lr_57_1 : rf 57 1 = 59 := rfl
theorem lr_57_2 : rf 57 2 = 60 := rfl
theorem lr_62_0 : rf 62 0 = 63 := rfl
theorem lr_62_1 : rf 62 1 = 76 := rfl
theorem lr_62_2 : rf 62 2 = 77 := rfl
theorem lr_63_0 : rf 63 0 = 1 := rfl
theorem lr_63_1 : rf 63 1 = 64 := rfl
theorem lr_63_2 : rf 63 2 = 66 := rfl
theorem lr_63_3 : rf 63 3 = 68 := rfl
theorem lr_63_4 : rf 63 4 = 70 := rfl
theorem lr_63_5 : rf 63 5 = 72 := rfl
theorem lr_64_0 : rf 64 0 = 65 := rfl
theorem lr_66_0 : rf 66 0 = 67 := rfl
theorem lr_68_0 : rf 68 0 = 69 := rfl
theorem lr_70_0 : rf 70 0 = 71 := rfl
theorem lr_72_0 : rf 72 0 = 73 := rfl
theorem lr_72_1 : rf 72 1 = 74 := rfl
theorem lr_72_2 : rf 72 2 = 75 := rfl
theorem lr_79_0 : rf 79 0 = 80 := rfl
theorem lr_79_1 : rf 79 1 = 81 := rfl
theorem lr_79_2 : rf 79 2 = 82 := rfl
theorem lr_79_3 : rf 79 3 = 83 := rfl
theorem lr_79_4 : rf 79 4 = 84 := rfl
theorem lr_79_5 : rf 79 5 = 85 := rfl
theorem lr_86_0 : rf 86 0 = 87 := rfl
theorem lr_86_1 : rf 86 1 = 88 := rfl
theorem lr_86_2 : rf 86 2 = 89 := rfl
theorem lr_86_3 : rf 86 3 = 90 := rfl
theorem lr_86_6 : rf 86 6 = 91 := rfl
theorem lr_86_9 : rf 86 9 = 92 := rfl
theorem lr_86_10 : rf 86 10 = 93 := rfl
theorem lr_86_11 : rf 86 11 = 94 := rfl
theorem lr_86_12 : rf 86 12 = 95 := rfl
theorem lr_86_13 : rf 86 13 = 96 := rfl
theorem lr_86_14 : rf 86 14 = 97 := rfl
theorem lr_86_20 : rf 86 20 = 98 := rfl
theorem lr_86_21 : rf 86 21 = 99 := rfl
abbrev isT (t : Nat) : Prop := t < 99 ∧ (tg t).1 = 7 ∧ rf t 0 = t + 1 ∧ tg (t + 1) = (20, 18)
abbrev isY (y : Nat) : Prop := y < 99 ∧ (tg y).1 = 10 ∧ rf y 0 = y + 1 ∧ tg (y + 1) = (20, 8)
abbrev isP (p : Nat) : Prop := p < 97 ∧ (tg p).1 = 4 ∧ rf p 0 = p + 1 ∧ rf p 1 = p + 2 ∧ rf p 2 = p + 3 ∧ tg (p + 1) = (20, 64) ∧ tg (p + 2) = (20, 8) ∧ tg (p + 3) = (20, 8)
abbrev isV (v : Nat) : Prop := v < 80 ∧ (tg v).1 = 9 ∧ rf v 0 = 1 ∧ rf v 1 = v + 1 ∧ rf v 2 = v + 3 ∧ rf v 3 = v + 5 ∧ rf v 4 = v + 7 ∧ rf v 5 = v + 9 ∧ isY (v + 1) ∧ isT (v + 3) ∧ isT (v + 5) ∧ isT (v + 7) ∧ isP (v + 9)
theorem lisV_8 : isV 8 := by decide +kernel
theorem lisY_9 : isY 9 := by decide +kernel
theorem lisT_11 : isT 11 := by decide +kernel
theorem lisT_13 : isT 13 := by decide +kernel
theorem lisT_15 : isT 15 := by decide +kernel
theorem lisP_17 : isP 17 := by decide +kernel
theorem lisV_21 : isV 21 := by decide +kernel
theorem lisY_22 : isY 22 := by decide +kernel
theorem lisT_24 : isT 24 := by decide +kernel
theorem lisT_26 : isT 26 := by decide +kernel
theorem lisT_28 : isT 28 := by decide +kernel
theorem lisP_30 : isP 30 := by decide +kernel
theorem lisV_35 : isV 35 := by decide +kernel
theorem lisY_36 : isY 36 := by decide +kernel
theorem lisT_38 : isT 38 := by decide +kernel
theorem lisT_40 : isT 40 := by decide +kernel
theorem lisT_42 : isT 42 := by decide +kernel
theorem lisP_44 : isP 44 := by decide +kernel
theorem lisV_48 : isV 48 := by decide +kernel
theorem lisY_49 : isY 49 := by decide +kernel
theorem lisT_51 : isT 51 := by decide +kernel
theorem lisT_53 : isT 53 := by decide +kernel
theorem lisT_55 : isT 55 := by decide +kernel
theorem lisP_57 : isP 57 := by decide +kernel
theorem lisV_63 : isV 63 := by decide +kernel
theorem lisY_64 : isY 64 := by decide +kernel
theorem lisT_66 : isT 66 := by decide +kernel
theorem lisT_68 : isT 68 := by decide +kernel
theorem lisT_70 : isT 70 := by decide +kernel
theorem lisP_72 : isP 72 := by decide +kernel
theorem kLt {x : Nat} (h : x < 1000) : kL x := Or.inl h
theorem kL_s : kL 1000 := Or.inr (Or.inl rfl)
theorem kL_t {x : Nat} (h : 1010 ≤ x ∧ x < 1015) : kL x := Or.inr (Or.inr (Or.inr (Or.inl h)))
theorem kL_b {x : Nat} (h : 1020 ≤ x ∧ x < 1025) : kL x := Or.inr (Or.inr (Or.inr (Or.inr h)))
/-! ARITHMETIC: numbers out of naturals -/
section ARITH
variable {a b k n : Nat}
theorem o_aa : Int32.ofNat a + Int32.ofNat b = Int32.ofNat (a + b) := (Int32.ofNat_add a b).symm
theorem o_al : Int32.ofNat a + no_index (OfNat.ofNat b) = Int32.ofNat (a + (OfNat.ofNat b : Nat)) := (Int32.ofNat_add a b).symm
theorem o_la : no_index (OfNat.ofNat a) + Int32.ofNat b = Int32.ofNat ((OfNat.ofNat a : Nat) + b) := (Int32.ofNat_add a b).symm
theorem o_mm : Int32.ofNat a * Int32.ofNat b = Int32.ofNat (a * b) := (Int32.ofNat_mul a b).symm
theorem o_ml : Int32.ofNat a * no_index (OfNat.ofNat b) = Int32.ofNat (a * (OfNat.ofNat b : Nat)) := (Int32.ofNat_mul a b).symm
theorem o_lm : no_index (OfNat.ofNat a) * Int32.ofNat b = Int32.ofNat ((OfNat.ofNat a : Nat) * b) := (Int32.ofNat_mul a b).symm
theorem o_ss (h : b ≤ a) : Int32.ofNat a - Int32.ofNat b = Int32.ofNat (a - b) := (Int32.ofNat_sub a b h).symm
theorem o_sl (h : (OfNat.ofNat b : Nat) ≤ a) : Int32.ofNat a - no_index (OfNat.ofNat b) = Int32.ofNat (a - (OfNat.ofNat b : Nat)) := (Int32.ofNat_sub a b h).symm
theorem o_ls (h : b ≤ (OfNat.ofNat a : Nat)) : no_index (OfNat.ofNat a) - Int32.ofNat b = Int32.ofNat ((OfNat.ofNat a : Nat) - b) := (Int32.ofNat_sub a b h).symm
theorem o_tn (h : a < 2147483648) : (Int32.ofNat a).toNatClampNeg = a := Int32.toNatClampNeg_ofNat_of_lt h
theorem o_tl (h : (OfNat.ofNat a : Nat) < 2147483648) : (no_index (OfNat.ofNat a) : Int32).toNatClampNeg = (OfNat.ofNat a : Nat) := Int32.toNatClampNeg_ofNat_of_lt h
theorem o_lt (ha : a < 2147483648) (hb : b < 2147483648) : Int32.ofNat a < Int32.ofNat b ↔ a < b := Int32.ofNat_lt_iff_lt ha hb
theorem o_ltl (ha : a < 2147483648) (hb : (OfNat.ofNat b : Nat) < 2147483648) : Int32.ofNat a < no_index (OfNat.ofNat b) ↔ a < (OfNat.ofNat b : Nat) := Int32.ofNat_lt_iff_lt ha hb
theorem o_llt (ha : (OfNat.ofNat a : Nat) < 2147483648) (hb : b < 2147483648) : (no_index (OfNat.ofNat a) : Int32) < Int32.ofNat b ↔ (OfNat.ofNat a : Nat) < b := Int32.ofNat_lt_iff_lt ha hb
theorem o_le (ha : a < 2147483648) (hb : b < 2147483648) : Int32.ofNat a ≤ Int32.ofNat b ↔ a ≤ b := Int32.ofNat_le_iff_le ha hb
theorem o_lel (ha : a < 2147483648) (hb : (OfNat.ofNat b : Nat) < 2147483648) : Int32.ofNat a ≤ no_index (OfNat.ofNat b) ↔ a ≤ (OfNat.ofNat b : Nat) := Int32.ofNat_le_iff_le ha hb
theorem o_lle (ha : (OfNat.ofNat a : Nat) < 2147483648) (hb : b < 2147483648) : (no_index (OfNat.ofNat a) : Int32) ≤ Int32.ofNat b ↔ (OfNat.ofNat a : Nat) ≤ b := Int32.ofNat_le_iff_le ha hb
theorem o_eq (ha : a < 2147483648) (hb : b < 2147483648) : Int32.ofNat a = Int32.ofNat b ↔ a = b := by
  constructor
  · intro h
    have := congrArg Int32.toNatClampNeg h
    rwa [o_tn ha, o_tn hb] at this
  · rintro rfl; rfl
theorem o_eql (ha : a < 2147483648) (hb : (OfNat.ofNat b : Nat) < 2147483648) : Int32.ofNat a = no_index (OfNat.ofNat b) ↔ a = (OfNat.ofNat b : Nat) := o_eq ha hb
theorem o_leq (ha : (OfNat.ofNat a : Nat) < 2147483648) (hb : b < 2147483648) : (no_index (OfNat.ofNat a) : Int32) = Int32.ofNat b ↔ (OfNat.ofNat a : Nat) = b := o_eq ha hb
theorem o_neg (ha : a < 2147483648) : ¬ Int32.ofNat a < 0 := by
  rw [show (0 : Int32) = Int32.ofNat 0 from rfl, o_lt ha (by omega)]
  omega
theorem o_inb (h : a < 2147483648) : inb (Int32.ofNat a) n ↔ a < n := by
  unfold inb
  rw [o_tn h]
  have := o_neg h
  constructor
  · intro q
    apply Nat.lt_of_not_le
    exact fun r => q (Or.inr r)
  · rintro q (r | r)
    · exact this r
    · omega
theorem o_inl (h : (OfNat.ofNat a : Nat) < 2147483648) : inb (no_index (OfNat.ofNat a)) n ↔ (OfNat.ofNat a : Nat) < n := o_inb h
theorem o_in {x : Int32} {m : Nat} (h0 : (0 : Int32) ≤ x) (h1 : x ≤ Int32.ofNat m) (hm : m < 2147483648) : ∃ k, k ≤ m ∧ x = Int32.ofNat k := by
  refine ⟨x.toNatClampNeg, ?_, (Int32.ofNat_toNatClampNeg x h0).symm⟩
  have := Int32.toNatClampNeg_le h1
  rwa [o_tn hm] at this
theorem wI_eq (I : Nat → Nat → Int32) (a k : Nat) (x : Int32) (b j : Nat) : wI I a k x b j = if b = a then (if j = k then x else I a j) else I b j := by
  unfold wI va_up upd
  by_cases h : b = a
  · subst h
    by_cases h2 : j = k <;> simp [h2]
  · simp [h]
end ARITH
/-! LOOPS -/
theorem Rn_loop {m h n : Nat} {Q : Option Value → Sto → Prop} (L : Nat → Vs) (S : Nat → Sto) (hs : ∀ k, k < n → (Rn m h (L k) [] (S k) Q ↔ Rn m h (L (k + 1)) [] (S (k + 1)) Q)) {k : Nat} (hk : k ≤ n) : Rn m h (L k) [] (S k) Q ↔ Rn m h (L n) [] (S n) Q := by
  induction hd : n - k generalizing k with
  | zero =>
    have : k = n := by omega
    subst this
    rfl
  | succ d ih =>
    rw [hs k (by omega)]
    exact ih (by omega) (by omega)
/-- what a run does, told by its end: for calls -/
theorem Ca_is {t m pc : Nat} {l0 ls st : Vs} {σ σ1 : Sto} {r : Option Value} {Q : Option Value → Sto → Prop} (h : ∀ Q : Option Value → Sto → Prop, Rn t 0 l0 [] σ Q ↔ Q r σ1) : Ca t l0 σ m pc ls st Q ↔ Rn m pc ls (r.toList ++ st) σ1 Q := by
  unfold Ca
  rw [h]
