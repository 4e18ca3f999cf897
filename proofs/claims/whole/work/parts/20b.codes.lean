theorem ok_51 : k_chk 51 c_51 = true := by decide +kernel
theorem ok_52 : k_chk 52 c_52 = true := by decide +kernel
theorem ok_53 : k_chk 53 c_53 = true := by decide +kernel
theorem ok_54 : k_chk 54 c_54 = true := by decide +kernel
theorem ok_55 : k_chk 55 c_55 = true := by decide +kernel
theorem ok_56 : k_chk 56 c_56 = true := by decide +kernel
theorem ok_57 : k_chk 57 c_57 = true := by decide +kernel
theorem ok_58 : k_chk 58 c_58 = true := by decide +kernel
theorem ok_59 : k_chk 59 c_59 = true := by decide +kernel
theorem ok_60 : k_chk 60 c_60 = true := by decide +kernel
theorem ok_61 : k_chk 61 c_61 = true := by decide +kernel
theorem ok_62 : k_chk 62 c_62 = true := by decide +kernel
theorem ok_63 : k_chk 63 c_63 = true := by decide +kernel
theorem ok_64 : k_chk 64 c_64 = true := by decide +kernel
theorem ok_65 : k_chk 65 c_65 = true := by decide +kernel
theorem ok_66 : k_chk 66 c_66 = true := by decide +kernel
theorem ok_67 : k_chk 67 c_67 = true := by decide +kernel
theorem ok_68 : k_chk 68 c_68 = true := by decide +kernel
theorem ok_69 : k_chk 69 c_69 = true := by decide +kernel
theorem ok_70 : k_chk 70 c_70 = true := by decide +kernel
theorem ok_71 : k_chk 71 c_71 = true := by decide +kernel
theorem ok_72 : k_chk 72 c_72 = true := by decide +kernel
theorem ok_73 : k_chk 73 c_73 = true := by decide +kernel
theorem ok_74 : k_chk 74 c_74 = true := by decide +kernel
theorem ok_75 : k_chk 75 c_75 = true := by decide +kernel
theorem ok_76 : k_chk 76 c_76 = true := by decide +kernel
theorem ok_77 : k_chk 77 c_77 = true := by decide +kernel
theorem ok_78 : k_chk 78 c_78 = true := by decide +kernel
theorem ok_79 : k_chk 79 c_79 = true := by decide +kernel
theorem ok_80 : k_chk 80 c_80 = true := by decide +kernel
theorem ok_81 : k_chk 81 c_81 = true := by decide +kernel
theorem ok_82 : k_chk 82 c_82 = true := by decide +kernel
theorem ok_83 : k_chk 83 c_83 = true := by decide +kernel
theorem ok_84 : k_chk 84 c_84 = true := by decide +kernel
theorem ok_85 : k_chk 85 c_85 = true := by decide +kernel
theorem ok_86 : k_chk 86 c_86 = true := by decide +kernel
theorem ok_87 : k_chk 87 c_87 = true := by decide +kernel
theorem ok_88 : k_chk 88 c_88 = true := by decide +kernel
theorem ok_89 : k_chk 89 c_89 = true := by decide +kernel
theorem ok_90 : k_chk 90 c_90 = true := by decide +kernel
theorem ok_91 : k_chk 91 c_91 = true := by decide +kernel
theorem ok_92 : k_chk 92 c_92 = true := by decide +kernel
theorem ok_93 : k_chk 93 c_93 = true := by decide +kernel
theorem ok_94 : k_chk 94 c_94 = true := by decide +kernel
theorem ok_95 : k_chk 95 c_95 = true := by decide +kernel
theorem ok_96 : k_chk 96 c_96 = true := by decide +kernel
theorem ok_97 : k_chk 97 c_97 = true := by decide +kernel
theorem ok_98 : k_chk 98 c_98 = true := by decide +kernel
theorem ok_99 : k_chk 99 c_99 = true := by decide +kernel
theorem ok_100 : k_chk 100 c_100 = true := by decide +kernel
theorem ok_101 : k_chk 101 c_101 = true := by decide +kernel
theorem ok_102 : k_chk 102 c_102 = true := by decide +kernel
theorem ok_103 : k_chk 103 c_103 = true := by decide +kernel
theorem ok_104_0 : k_chk 104 (c_104.take 60) = true := by decide +kernel
theorem ok_104_1 : k_chk 104 ((c_104.drop 60).take 60) = true := by decide +kernel
theorem ok_104_2 : k_chk 104 (((c_104.drop 60).drop 60).take 60) = true := by decide +kernel
theorem ok_104_3 : k_chk 104 ((((c_104.drop 60).drop 60).drop 60).take 60) = true := by decide +kernel
theorem ok_104_4 : k_chk 104 ((((c_104.drop 60).drop 60).drop 60).drop 60) = true := by decide +kernel
theorem ok_104 : k_chk 104 c_104 = true := (k_chk_app 60 ok_104_0 (k_chk_app 60 ok_104_1 (k_chk_app 60 ok_104_2 (k_chk_app 60 ok_104_3 ok_104_4))))
