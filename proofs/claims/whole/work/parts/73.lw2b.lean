theorem cl_51 : q_chkR code 14 10 380 816 el_51 = true := by decide +kernel
theorem cl_52 : q_chkR code 14 10 380 832 el_52 = true := by decide +kernel
theorem cl_53 : q_chkR code 14 10 380 848 el_53 = true := by decide +kernel
theorem cl_54 : q_chkR code 14 10 380 864 el_54 = true := by decide +kernel
theorem cl_55 : q_chkR code 14 10 380 880 el_55 = true := by decide +kernel
theorem cl_56 : q_chkR code 14 10 380 896 el_56 = true := by decide +kernel
theorem cl_57 : q_chkR code 14 10 380 912 el_57 = true := by decide +kernel
theorem cl_58 : q_chkR code 14 10 380 928 el_58 = true := by decide +kernel
theorem cl_59 : q_chkR code 14 10 380 944 el_59 = true := by decide +kernel
theorem cl_60 : q_chkR code 14 10 380 960 el_60 = true := by decide +kernel
theorem cl_61 : q_chkR code 14 10 380 976 el_61 = true := by decide +kernel
theorem cl_62 : q_chkR code 14 10 380 992 el_62 = true := by decide +kernel
theorem cl_63 : q_chkR code 14 10 380 1008 el_63 = true := by decide +kernel
theorem cl_64 : q_chkR code 14 10 380 1024 el_64 = true := by decide +kernel
theorem cl_65 : q_chkR code 14 10 380 1040 el_65 = true := by decide +kernel
theorem cl_66 : q_chkR code 14 10 380 1056 el_66 = true := by decide +kernel
theorem cl_67 : q_chkR code 14 10 380 1072 el_67 = true := by decide +kernel
theorem cl_68 : q_chkR code 14 10 380 1088 el_68 = true := by decide +kernel
theorem cl_69 : q_chkR code 14 10 380 1104 el_69 = true := by decide +kernel
theorem cl_70 : q_chkR code 14 10 380 1120 el_70 = true := by decide +kernel
theorem cl_71 : q_chkR code 14 10 380 1136 el_71 = true := by decide +kernel
theorem cl_72 : q_chkR code 14 10 380 1152 el_72 = true := by decide +kernel
theorem cl_73 : q_chkR code 14 10 380 1168 el_73 = true := by decide +kernel
theorem cl_74 : q_chkR code 14 10 380 1184 el_74 = true := by decide +kernel
theorem cl_75 : q_chkR code 14 10 380 1200 el_75 = true := by decide +kernel
theorem cl_76 : q_chkR code 14 10 380 1216 el_76 = true := by decide +kernel
theorem cl_77 : q_chkR code 14 10 380 1232 el_77 = true := by decide +kernel
theorem cl_78 : q_chkR code 14 10 380 1248 el_78 = true := by decide +kernel
theorem cl_79 : q_chkR code 14 10 380 1264 el_79 = true := by decide +kernel
theorem cl_80 : q_chkR code 14 10 380 1280 el_80 = true := by decide +kernel
theorem cl_81 : q_chkR code 14 10 380 1296 el_81 = true := by decide +kernel
theorem cl_82 : q_chkR code 14 10 380 1312 el_82 = true := by decide +kernel
theorem cl_83 : q_chkR code 14 10 380 1328 el_83 = true := by decide +kernel
theorem cl_84 : q_chkR code 14 10 380 1344 el_84 = true := by decide +kernel
theorem cl_85 : q_chkR code 14 10 380 1360 el_85 = true := by decide +kernel
theorem cl_86 : q_chkR code 14 10 380 1376 el_86 = true := by decide +kernel
theorem cl_87 : q_chkR code 14 10 380 1392 el_87 = true := by decide +kernel
theorem cl_88 : q_chkR code 14 10 380 1408 el_88 = true := by decide +kernel
theorem cl_89 : q_chkR code 14 10 380 1424 el_89 = true := by decide +kernel
theorem cl_90 : q_chkR code 14 10 380 1440 el_90 = true := by decide +kernel
theorem cl_91 : q_chkR code 14 10 380 1456 el_91 = true := by decide +kernel
theorem cl_92 : q_chkR code 14 10 380 1472 el_92 = true := by decide +kernel
theorem cl_93 : q_chkR code 14 10 380 1488 el_93 = true := by decide +kernel
theorem cl_94 : q_chkR code 14 10 380 1504 el_94 = true := by decide +kernel
theorem cl_95 : q_chkR code 14 10 380 1520 el_95 = true := by decide +kernel
theorem cl_96 : q_chkR code 14 10 380 1536 el_96 = true := by decide +kernel
theorem cl_97 : q_chkR code 14 10 380 1552 el_97 = true := by decide +kernel
theorem cl_98 : q_chkR code 14 10 380 1568 el_98 = true := by decide +kernel
theorem cl_99 : q_chkR code 14 10 380 1584 el_99 = true := by decide +kernel
theorem cl_100 : q_chkR code 14 10 380 1600 el_100 = true := by decide +kernel
theorem cl_101 : q_chkR code 14 10 380 1616 el_101 = true := by decide +kernel
theorem q_chkM_nil {cc : ByteArray} {o Rf Rl pc : Nat} : q_chkM cc o Rf Rl pc [] = true := rfl
theorem q_chkM_cons {cc : ByteArray} {o Rf Rl pc : Nat} {r : List (Option q_I)} {t : q_T} (h1 : q_chkR cc o Rf Rl pc r = true) (h2 : q_chkM cc o Rf Rl (pc + 16) t = true) : q_chkM cc o Rf Rl pc (r :: t) = true := by
  rw [q_chkM, h1, h2]
  rfl
theorem ck_law : q_chkM code 14 10 380 0 e_law.1 = true := (q_chkM_cons cl_0 (q_chkM_cons cl_1 (q_chkM_cons cl_2 (q_chkM_cons cl_3 (q_chkM_cons cl_4 (q_chkM_cons cl_5 (q_chkM_cons cl_6 (q_chkM_cons cl_7 (q_chkM_cons cl_8 (q_chkM_cons cl_9 (q_chkM_cons cl_10 (q_chkM_cons cl_11 (q_chkM_cons cl_12 (q_chkM_cons cl_13 (q_chkM_cons cl_14 (q_chkM_cons cl_15 (q_chkM_cons cl_16 (q_chkM_cons cl_17 (q_chkM_cons cl_18 (q_chkM_cons cl_19 (q_chkM_cons cl_20 (q_chkM_cons cl_21 (q_chkM_cons cl_22 (q_chkM_cons cl_23 (q_chkM_cons cl_24 (q_chkM_cons cl_25 (q_chkM_cons cl_26 (q_chkM_cons cl_27 (q_chkM_cons cl_28 (q_chkM_cons cl_29 (q_chkM_cons cl_30 (q_chkM_cons cl_31 (q_chkM_cons cl_32 (q_chkM_cons cl_33 (q_chkM_cons cl_34 (q_chkM_cons cl_35 (q_chkM_cons cl_36 (q_chkM_cons cl_37 (q_chkM_cons cl_38 (q_chkM_cons cl_39 (q_chkM_cons cl_40 (q_chkM_cons cl_41 (q_chkM_cons cl_42 (q_chkM_cons cl_43 (q_chkM_cons cl_44 (q_chkM_cons cl_45 (q_chkM_cons cl_46 (q_chkM_cons cl_47 (q_chkM_cons cl_48 (q_chkM_cons cl_49 (q_chkM_cons cl_50 (q_chkM_cons cl_51 (q_chkM_cons cl_52 (q_chkM_cons cl_53 (q_chkM_cons cl_54 (q_chkM_cons cl_55 (q_chkM_cons cl_56 (q_chkM_cons cl_57 (q_chkM_cons cl_58 (q_chkM_cons cl_59 (q_chkM_cons cl_60 (q_chkM_cons cl_61 (q_chkM_cons cl_62 (q_chkM_cons cl_63 (q_chkM_cons cl_64 (q_chkM_cons cl_65 (q_chkM_cons cl_66 (q_chkM_cons cl_67 (q_chkM_cons cl_68 (q_chkM_cons cl_69 (q_chkM_cons cl_70 (q_chkM_cons cl_71 (q_chkM_cons cl_72 (q_chkM_cons cl_73 (q_chkM_cons cl_74 (q_chkM_cons cl_75 (q_chkM_cons cl_76 (q_chkM_cons cl_77 (q_chkM_cons cl_78 (q_chkM_cons cl_79 (q_chkM_cons cl_80 (q_chkM_cons cl_81 (q_chkM_cons cl_82 (q_chkM_cons cl_83 (q_chkM_cons cl_84 (q_chkM_cons cl_85 (q_chkM_cons cl_86 (q_chkM_cons cl_87 (q_chkM_cons cl_88 (q_chkM_cons cl_89 (q_chkM_cons cl_90 (q_chkM_cons cl_91 (q_chkM_cons cl_92 (q_chkM_cons cl_93 (q_chkM_cons cl_94 (q_chkM_cons cl_95 (q_chkM_cons cl_96 (q_chkM_cons cl_97 (q_chkM_cons cl_98 (q_chkM_cons cl_99 (q_chkM_cons cl_100 (q_chkM_cons cl_101 q_chkM_nil))))))))))))))))))))))))))))))))))))))))))))))))))))))))))))))))))))))))))))))))))))))))))))))))))))))
