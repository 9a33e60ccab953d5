def zL_0 : List zh_LC := []
def zM_0 : zh_M := fun _ _ => 0
def zL_1 : List zh_LC := zL_0 ++ [(4, 5, fun _ => none)]
def zM_1 : zh_M := zh_row zM_0 1 (fun _ => 0)
def zL_2 : List zh_LC := zL_1 ++ [(3, 7, fun _ => none)]
def zM_2 : zh_M := zh_row zM_1 2 (fun _ => 0)
def zL_3 : List zh_LC := zL_2 ++ [(100, 256, fun _ => none)]
def zM_3 : zh_M := zh_row zM_2 3 (fun _ => 0)
def zL_4 : List zh_LC := zL_3.set 1 (3, 7, (va_up (fun _ => none) 0 (some 3)))
def zL_5 : List zh_LC := zL_4 ++ [(100, 16, fun _ => none)]
def zM_4 : zh_M := zh_row zM_3 4 (fun _ => 0)
def zL_6 : List zh_LC := zL_5.set 1 (3, 7, (va_up (va_up (fun _ => none) 0 (some 3)) 1 (some 4)))
def zL_7 : List zh_LC := zL_6 ++ [(101, 16, fun _ => none)]
def zM_5 : zh_M := zh_row zM_4 5 (fun _ => 0)
def zL_8 : List zh_LC := zL_7.set 1 (3, 7, (va_up (va_up (va_up (fun _ => none) 0 (some 3)) 1 (some 4)) 2 (some 5)))
def zL_9 : List zh_LC := zL_8 ++ [(100, 128, fun _ => none)]
def zM_6 : zh_M := zh_row zM_5 6 (fun _ => 0)
def zL_10 : List zh_LC := zL_9.set 1 (3, 7, (va_up (va_up (va_up (va_up (fun _ => none) 0 (some 3)) 1 (some 4)) 2 (some 5)) 3 (some 6)))
def zL_11 : List zh_LC := zL_10 ++ [(100, 128, fun _ => none)]
def zM_7 : zh_M := zh_row zM_6 7 (fun _ => 0)
def zL_12 : List zh_LC := zL_11.set 1 (3, 7, (va_up (va_up (va_up (va_up (va_up (fun _ => none) 0 (some 3)) 1 (some 4)) 2 (some 5)) 3 (some 6)) 4 (some 7)))
def zL_13 : List zh_LC := zL_12 ++ [(100, 128, fun _ => none)]
def zM_8 : zh_M := zh_row zM_7 8 (fun _ => 0)
def zL_14 : List zh_LC := zL_13.set 1 (3, 7, (va_up (va_up (va_up (va_up (va_up (va_up (fun _ => none) 0 (some 3)) 1 (some 4)) 2 (some 5)) 3 (some 6)) 4 (some 7)) 5 (some 8)))
def zM_9 : zh_M := zh_set zM_8 2 6 0
def zL_15 : List zh_LC := zL_14.set 0 (4, 5, (va_up (fun _ => none) 0 (some 2)))
def zL_16 : List zh_LC := zL_15 ++ [(102, 6, fun _ => none)]
def zM_10 : zh_M := zh_row zM_9 9 (fun _ => 0)
def zL_17 : List zh_LC := zL_16.set 0 (4, 5, (va_up (va_up (fun _ => none) 0 (some 2)) 1 (some 9)))
def zL_18 : List zh_LC := zL_17 ++ [(2, 12, fun _ => none)]
def zM_11 : zh_M := zh_row zM_10 10 (fun _ => 0)
def zL_19 : List zh_LC := zL_18 ++ [(100, 64, fun _ => none)]
def zM_12 : zh_M := zh_row zM_11 11 (fun _ => 0)
def zL_20 : List zh_LC := zL_19.set 9 (2, 12, (va_up (fun _ => none) 0 (some 11)))
def zL_21 : List zh_LC := zL_20 ++ [(100, 16, fun _ => none)]
def zM_13 : zh_M := zh_row zM_12 12 (fun _ => 0)
def zL_22 : List zh_LC := zL_21.set 9 (2, 12, (va_up (va_up (fun _ => none) 0 (some 11)) 1 (some 12)))
def zM_14 : zh_M := zh_set zM_13 10 2 0
def zM_15 : zh_M := zh_set zM_14 10 3 1
def zM_16 : zh_M := zh_set zM_15 10 4 2
def zM_17 : zh_M := zh_set zM_16 10 7 (-1)
def zL_23 : List zh_LC := zL_22.set 8 (102, 6, (va_up (fun _ => none) 0 (some 10)))
def zL_24 : List zh_LC := zL_23 ++ [(2, 12, fun _ => none)]
def zM_18 : zh_M := zh_row zM_17 13 (fun _ => 0)
def zL_25 : List zh_LC := zL_24 ++ [(100, 64, fun _ => none)]
def zM_19 : zh_M := zh_row zM_18 14 (fun _ => 0)
def zL_26 : List zh_LC := zL_25.set 12 (2, 12, (va_up (fun _ => none) 0 (some 14)))
def zL_27 : List zh_LC := zL_26 ++ [(100, 16, fun _ => none)]
def zM_20 : zh_M := zh_row zM_19 15 (fun _ => 0)
def zL_28 : List zh_LC := zL_27.set 12 (2, 12, (va_up (va_up (fun _ => none) 0 (some 14)) 1 (some 15)))
def zM_21 : zh_M := zh_set zM_20 13 2 0
def zM_22 : zh_M := zh_set zM_21 13 3 1
def zM_23 : zh_M := zh_set zM_22 13 4 2
def zM_24 : zh_M := zh_set zM_23 13 7 (-1)
def zL_29 : List zh_LC := zL_28.set 8 (102, 6, (va_up (va_up (fun _ => none) 0 (some 10)) 1 (some 13)))
def zL_30 : List zh_LC := zL_29 ++ [(2, 12, fun _ => none)]
def zM_25 : zh_M := zh_row zM_24 16 (fun _ => 0)
def zL_31 : List zh_LC := zL_30 ++ [(100, 64, fun _ => none)]
def zM_26 : zh_M := zh_row zM_25 17 (fun _ => 0)
def zL_32 : List zh_LC := zL_31.set 15 (2, 12, (va_up (fun _ => none) 0 (some 17)))
def zL_33 : List zh_LC := zL_32 ++ [(100, 16, fun _ => none)]
def zM_27 : zh_M := zh_row zM_26 18 (fun _ => 0)
def zL_34 : List zh_LC := zL_33.set 15 (2, 12, (va_up (va_up (fun _ => none) 0 (some 17)) 1 (some 18)))
def zM_28 : zh_M := zh_set zM_27 16 2 0
def zM_29 : zh_M := zh_set zM_28 16 3 1
def zM_30 : zh_M := zh_set zM_29 16 4 2
def zM_31 : zh_M := zh_set zM_30 16 7 (-1)
def zL_35 : List zh_LC := zL_34.set 8 (102, 6, (va_up (va_up (va_up (fun _ => none) 0 (some 10)) 1 (some 13)) 2 (some 16)))
def zL_36 : List zh_LC := zL_35 ++ [(2, 12, fun _ => none)]
def zM_32 : zh_M := zh_row zM_31 19 (fun _ => 0)
def zL_37 : List zh_LC := zL_36 ++ [(100, 64, fun _ => none)]
def zM_33 : zh_M := zh_row zM_32 20 (fun _ => 0)
def zL_38 : List zh_LC := zL_37.set 18 (2, 12, (va_up (fun _ => none) 0 (some 20)))
def zL_39 : List zh_LC := zL_38 ++ [(100, 16, fun _ => none)]
def zM_34 : zh_M := zh_row zM_33 21 (fun _ => 0)
def zL_40 : List zh_LC := zL_39.set 18 (2, 12, (va_up (va_up (fun _ => none) 0 (some 20)) 1 (some 21)))
def zM_35 : zh_M := zh_set zM_34 19 2 0
def zM_36 : zh_M := zh_set zM_35 19 3 1
def zM_37 : zh_M := zh_set zM_36 19 4 2
def zM_38 : zh_M := zh_set zM_37 19 7 (-1)
def zL_41 : List zh_LC := zL_40.set 8 (102, 6, (va_up (va_up (va_up (va_up (fun _ => none) 0 (some 10)) 1 (some 13)) 2 (some 16)) 3 (some 19)))
def zL_42 : List zh_LC := zL_41 ++ [(2, 12, fun _ => none)]
def zM_39 : zh_M := zh_row zM_38 22 (fun _ => 0)
def zL_43 : List zh_LC := zL_42 ++ [(100, 64, fun _ => none)]
def zM_40 : zh_M := zh_row zM_39 23 (fun _ => 0)
def zL_44 : List zh_LC := zL_43.set 21 (2, 12, (va_up (fun _ => none) 0 (some 23)))
def zL_45 : List zh_LC := zL_44 ++ [(100, 16, fun _ => none)]
def zM_41 : zh_M := zh_row zM_40 24 (fun _ => 0)
def zL_46 : List zh_LC := zL_45.set 21 (2, 12, (va_up (va_up (fun _ => none) 0 (some 23)) 1 (some 24)))
def zM_42 : zh_M := zh_set zM_41 22 2 0
def zM_43 : zh_M := zh_set zM_42 22 3 1
def zM_44 : zh_M := zh_set zM_43 22 4 2
def zM_45 : zh_M := zh_set zM_44 22 7 (-1)
def zL_47 : List zh_LC := zL_46.set 8 (102, 6, (va_up (va_up (va_up (va_up (va_up (fun _ => none) 0 (some 10)) 1 (some 13)) 2 (some 16)) 3 (some 19)) 4 (some 22)))
def zL_48 : List zh_LC := zL_47 ++ [(2, 12, fun _ => none)]
def zM_46 : zh_M := zh_row zM_45 25 (fun _ => 0)
def zL_49 : List zh_LC := zL_48 ++ [(100, 64, fun _ => none)]
def zM_47 : zh_M := zh_row zM_46 26 (fun _ => 0)
def zL_50 : List zh_LC := zL_49.set 24 (2, 12, (va_up (fun _ => none) 0 (some 26)))
def zL_51 : List zh_LC := zL_50 ++ [(100, 16, fun _ => none)]
def zM_48 : zh_M := zh_row zM_47 27 (fun _ => 0)
def zL_52 : List zh_LC := zL_51.set 24 (2, 12, (va_up (va_up (fun _ => none) 0 (some 26)) 1 (some 27)))
def zM_49 : zh_M := zh_set zM_48 25 2 0
def zM_50 : zh_M := zh_set zM_49 25 3 1
def zM_51 : zh_M := zh_set zM_50 25 4 2
def zM_52 : zh_M := zh_set zM_51 25 7 (-1)
def zL_53 : List zh_LC := zL_52.set 8 (102, 6, (va_up (va_up (va_up (va_up (va_up (va_up (fun _ => none) 0 (some 10)) 1 (some 13)) 2 (some 16)) 3 (some 19)) 4 (some 22)) 5 (some 25)))
def zL_54 : List zh_LC := zL_53 ++ [(103, 4, fun _ => none)]
def zM_53 : zh_M := zh_row zM_52 28 (fun _ => 0)
def zL_55 : List zh_LC := zL_54.set 0 (4, 5, (va_up (va_up (va_up (fun _ => none) 0 (some 2)) 1 (some 9)) 2 (some 28)))
def zL_56 : List zh_LC := zL_55 ++ [(0, 2, fun _ => none)]
def zM_54 : zh_M := zh_row zM_53 29 (fun _ => 0)
def zL_57 : List zh_LC := zL_56 ++ [(100, 0, fun _ => none)]
def zM_55 : zh_M := zh_row zM_54 30 (fun _ => 0)
def zL_58 : List zh_LC := zL_57.set 28 (0, 2, (va_up (fun _ => none) 0 (some 30)))
def zM_56 : zh_M := zh_set zM_55 29 1 0
def zL_59 : List zh_LC := zL_58.set 27 (103, 4, (va_up (fun _ => none) 0 (some 29)))
def zL_60 : List zh_LC := zL_59 ++ [(0, 2, fun _ => none)]
def zM_57 : zh_M := zh_row zM_56 31 (fun _ => 0)
def zL_61 : List zh_LC := zL_60 ++ [(100, 1, fun _ => none)]
def zM_58 : zh_M := zh_row zM_57 32 (fun _ => 0)
def zL_62 : List zh_LC := zL_61.set 30 (0, 2, (va_up (fun _ => none) 0 (some 32)))
def zM_59 : zh_M := zh_set zM_58 31 1 0
def zL_63 : List zh_LC := zL_62.set 27 (103, 4, (va_up (va_up (fun _ => none) 0 (some 29)) 1 (some 31)))
def zL_64 : List zh_LC := zL_63 ++ [(0, 2, fun _ => none)]
def zM_60 : zh_M := zh_row zM_59 33 (fun _ => 0)
def zL_65 : List zh_LC := zL_64 ++ [(100, 2, fun _ => none)]
def zM_61 : zh_M := zh_row zM_60 34 (fun _ => 0)
def zL_66 : List zh_LC := zL_65.set 32 (0, 2, (va_up (fun _ => none) 0 (some 34)))
def zM_62 : zh_M := zh_set zM_61 33 1 0
def zL_67 : List zh_LC := zL_66.set 27 (103, 4, (va_up (va_up (va_up (fun _ => none) 0 (some 29)) 1 (some 31)) 2 (some 33)))
def zL_68 : List zh_LC := zL_67 ++ [(0, 2, fun _ => none)]
def zM_63 : zh_M := zh_row zM_62 35 (fun _ => 0)
def zL_69 : List zh_LC := zL_68 ++ [(100, 3, fun _ => none)]
def zM_64 : zh_M := zh_row zM_63 36 (fun _ => 0)
def zL_70 : List zh_LC := zL_69.set 34 (0, 2, (va_up (fun _ => none) 0 (some 36)))
def zM_65 : zh_M := zh_set zM_64 35 1 0
def zL_71 : List zh_LC := zL_70.set 27 (103, 4, (va_up (va_up (va_up (va_up (fun _ => none) 0 (some 29)) 1 (some 31)) 2 (some 33)) 3 (some 35)))
def zL_72 : List zh_LC := zL_71 ++ [(1, 10, fun _ => none)]
def zM_66 : zh_M := zh_row zM_65 37 (fun _ => 0)
def zL_73 : List zh_LC := zL_72.set 36 (1, 10, (va_up (fun _ => none) 0 (some 2)))
def zL_74 : List zh_LC := zL_73.set 36 (1, 10, (va_up (va_up (fun _ => none) 0 (some 2)) 1 (some 9)))
def zL_75 : List zh_LC := zL_74.set 36 (1, 10, (va_up (va_up (va_up (fun _ => none) 0 (some 2)) 1 (some 9)) 2 (some 28)))
def zL_76 : List zh_LC := zL_75 ++ [(100, 128, fun _ => none)]
def zM_67 : zh_M := zh_row zM_66 38 (fun _ => 0)
def zL_77 : List zh_LC := zL_76.set 36 (1, 10, (va_up (va_up (va_up (va_up (fun _ => none) 0 (some 2)) 1 (some 9)) 2 (some 28)) 3 (some 38)))
def zM_68 : zh_M := zh_set zM_67 37 4 0
def zM_69 : zh_M := zh_set zM_68 37 5 0
def zM_70 : zh_M := zh_set zM_69 37 6 0
def zM_71 : zh_M := zh_set zM_70 37 7 0
def zM_72 : zh_M := zh_set zM_71 37 8 0
def zM_73 : zh_M := zh_set zM_72 37 9 64
def zL_78 : List zh_LC := zL_77.set 0 (4, 5, (va_up (va_up (va_up (va_up (fun _ => none) 0 (some 2)) 1 (some 9)) 2 (some 28)) 3 (some 37)))
def zM_74 : zh_M := zh_set zM_73 1 4 0
def zM_75 : zh_M := zh_set zM_74 10 2 1
def zM_76 : zh_M := zh_set zM_75 10 3 1
def zM_77 : zh_M := zh_set zM_76 10 4 2
def zM_78 : zh_M := zh_set zM_77 10 6 0
def zM_79 : zh_M := zh_set zM_78 10 7 (-1)
def zM_80 : zh_M := zh_set zM_79 11 0 (-1)
def zM_81 : zh_M := zh_set zM_80 11 1 (-1)
def zM_82 : zh_M := zh_set zM_81 11 2 (-1)
def zM_83 : zh_M := zh_set zM_82 11 3 (-1)
def zM_84 : zh_M := zh_set zM_83 12 0 (-1)
def zL_79 : List zh_LC := zL_78 ++ [(5, 31, fun _ => none)]
def zM_85 : zh_M := zh_row zM_84 39 (fun _ => 0)
def zL_80 : List zh_LC := zL_79 ++ [(100, 256, fun _ => none)]
def zM_86 : zh_M := zh_row zM_85 40 (fun _ => 0)
def zL_81 : List zh_LC := zL_80.set 38 (5, 31, (va_up (fun _ => none) 0 (some 40)))
def zL_82 : List zh_LC := zL_81 ++ [(100, 256, fun _ => none)]
def zM_87 : zh_M := zh_row zM_86 41 (fun _ => 0)
def zL_83 : List zh_LC := zL_82.set 38 (5, 31, (va_up (va_up (fun _ => none) 0 (some 40)) 1 (some 41)))
def zL_84 : List zh_LC := zL_83 ++ [(100, 256, fun _ => none)]
def zM_88 : zh_M := zh_row zM_87 42 (fun _ => 0)
def zL_85 : List zh_LC := zL_84.set 38 (5, 31, (va_up (va_up (va_up (fun _ => none) 0 (some 40)) 1 (some 41)) 2 (some 42)))
def zL_86 : List zh_LC := zL_85 ++ [(101, 256, fun _ => none)]
def zM_89 : zh_M := zh_row zM_88 43 (fun _ => 0)
def zL_87 : List zh_LC := zL_86.set 38 (5, 31, (va_up (va_up (va_up (va_up (fun _ => none) 0 (some 40)) 1 (some 41)) 2 (some 42)) 3 (some 43)))
def zL_88 : List zh_LC := zL_87 ++ [(101, 256, fun _ => none)]
def zM_90 : zh_M := zh_row zM_89 44 (fun _ => 0)
def zL_89 : List zh_LC := zL_88.set 38 (5, 31, (va_up (va_up (va_up (va_up (va_up (fun _ => none) 0 (some 40)) 1 (some 41)) 2 (some 42)) 3 (some 43)) 4 (some 44)))
def zL_90 : List zh_LC := zL_89 ++ [(101, 256, fun _ => none)]
def zM_91 : zh_M := zh_row zM_90 45 (fun _ => 0)
def zL_91 : List zh_LC := zL_90.set 38 (5, 31, (va_up (va_up (va_up (va_up (va_up (va_up (fun _ => none) 0 (some 40)) 1 (some 41)) 2 (some 42)) 3 (some 43)) 4 (some 44)) 5 (some 45)))
def zL_92 : List zh_LC := zL_91 ++ [(101, 256, fun _ => none)]
def zM_92 : zh_M := zh_row zM_91 46 (fun _ => 0)
def zL_93 : List zh_LC := zL_92.set 38 (5, 31, (va_up (va_up (va_up (va_up (va_up (va_up (va_up (fun _ => none) 0 (some 40)) 1 (some 41)) 2 (some 42)) 3 (some 43)) 4 (some 44)) 5 (some 45)) 6 (some 46)))
def zL_94 : List zh_LC := zL_93 ++ [(100, 16, fun _ => none)]
def zM_93 : zh_M := zh_row zM_92 47 (fun _ => 0)
def zL_95 : List zh_LC := zL_94.set 38 (5, 31, (va_up (va_up (va_up (va_up (va_up (va_up (va_up (va_up (fun _ => none) 0 (some 40)) 1 (some 41)) 2 (some 42)) 3 (some 43)) 4 (some 44)) 5 (some 45)) 6 (some 46)) 7 (some 47)))
def zL_96 : List zh_LC := zL_95 ++ [(101, 16, fun _ => none)]
def zM_94 : zh_M := zh_row zM_93 48 (fun _ => 0)
def zL_97 : List zh_LC := zL_96.set 38 (5, 31, (va_up (va_up (va_up (va_up (va_up (va_up (va_up (va_up (va_up (fun _ => none) 0 (some 40)) 1 (some 41)) 2 (some 42)) 3 (some 43)) 4 (some 44)) 5 (some 45)) 6 (some 46)) 7 (some 47)) 8 (some 48)))
def zL_98 : List zh_LC := zL_97 ++ [(100, 6, fun _ => none)]
def zM_95 : zh_M := zh_row zM_94 49 (fun _ => 0)
def zL_99 : List zh_LC := zL_98.set 38 (5, 31, (va_up (va_up (va_up (va_up (va_up (va_up (va_up (va_up (va_up (va_up (fun _ => none) 0 (some 40)) 1 (some 41)) 2 (some 42)) 3 (some 43)) 4 (some 44)) 5 (some 45)) 6 (some 46)) 7 (some 47)) 8 (some 48)) 9 (some 49)))
def zL_100 : List zh_LC := zL_99 ++ [(100, 6, fun _ => none)]
def zM_96 : zh_M := zh_row zM_95 50 (fun _ => 0)
def zL_101 : List zh_LC := zL_100.set 38 (5, 31, (va_up (va_up (va_up (va_up (va_up (va_up (va_up (va_up (va_up (va_up (va_up (fun _ => none) 0 (some 40)) 1 (some 41)) 2 (some 42)) 3 (some 43)) 4 (some 44)) 5 (some 45)) 6 (some 46)) 7 (some 47)) 8 (some 48)) 9 (some 49)) 10 (some 50)))
def zL_102 : List zh_LC := zL_101 ++ [(100, 6, fun _ => none)]
def zM_97 : zh_M := zh_row zM_96 51 (fun _ => 0)
def zL_103 : List zh_LC := zL_102.set 38 (5, 31, (va_up (va_up (va_up (va_up (va_up (va_up (va_up (va_up (va_up (va_up (va_up (va_up (fun _ => none) 0 (some 40)) 1 (some 41)) 2 (some 42)) 3 (some 43)) 4 (some 44)) 5 (some 45)) 6 (some 46)) 7 (some 47)) 8 (some 48)) 9 (some 49)) 10 (some 50)) 11 (some 51)))
def zL_104 : List zh_LC := zL_103 ++ [(100, 384, fun _ => none)]
def zM_98 : zh_M := zh_row zM_97 52 (fun _ => 0)
def zL_105 : List zh_LC := zL_104.set 38 (5, 31, (va_up (va_up (va_up (va_up (va_up (va_up (va_up (va_up (va_up (va_up (va_up (va_up (va_up (fun _ => none) 0 (some 40)) 1 (some 41)) 2 (some 42)) 3 (some 43)) 4 (some 44)) 5 (some 45)) 6 (some 46)) 7 (some 47)) 8 (some 48)) 9 (some 49)) 10 (some 50)) 11 (some 51)) 12 (some 52)))
def zL_106 : List zh_LC := zL_105 ++ [(100, 96, fun _ => none)]
def zM_99 : zh_M := zh_row zM_98 53 (fun _ => 0)
def zL_107 : List zh_LC := zL_106.set 38 (5, 31, (va_up (va_up (va_up (va_up (va_up (va_up (va_up (va_up (va_up (va_up (va_up (va_up (va_up (va_up (fun _ => none) 0 (some 40)) 1 (some 41)) 2 (some 42)) 3 (some 43)) 4 (some 44)) 5 (some 45)) 6 (some 46)) 7 (some 47)) 8 (some 48)) 9 (some 49)) 10 (some 50)) 11 (some 51)) 12 (some 52)) 13 (some 53)))
def zL_108 : List zh_LC := zL_107 ++ [(101, 6, fun _ => none)]
def zM_100 : zh_M := zh_row zM_99 54 (fun _ => 0)
def zL_109 : List zh_LC := zL_108.set 38 (5, 31, (va_up (va_up (va_up (va_up (va_up (va_up (va_up (va_up (va_up (va_up (va_up (va_up (va_up (va_up (va_up (fun _ => none) 0 (some 40)) 1 (some 41)) 2 (some 42)) 3 (some 43)) 4 (some 44)) 5 (some 45)) 6 (some 46)) 7 (some 47)) 8 (some 48)) 9 (some 49)) 10 (some 50)) 11 (some 51)) 12 (some 52)) 13 (some 53)) 14 (some 54)))
def zL_110 : List zh_LC := zL_109 ++ [(100, 6, fun _ => none)]
def zM_101 : zh_M := zh_row zM_100 55 (fun _ => 0)
def zL_111 : List zh_LC := zL_110.set 38 (5, 31, (va_up (va_up (va_up (va_up (va_up (va_up (va_up (va_up (va_up (va_up (va_up (va_up (va_up (va_up (va_up (va_up (fun _ => none) 0 (some 40)) 1 (some 41)) 2 (some 42)) 3 (some 43)) 4 (some 44)) 5 (some 45)) 6 (some 46)) 7 (some 47)) 8 (some 48)) 9 (some 49)) 10 (some 50)) 11 (some 51)) 12 (some 52)) 13 (some 53)) 14 (some 54)) 15 (some 55)))
def zL_112 : List zh_LC := zL_111 ++ [(100, 6, fun _ => none)]
def zM_102 : zh_M := zh_row zM_101 56 (fun _ => 0)
def zL_113 : List zh_LC := zL_112.set 38 (5, 31, (va_up (va_up (va_up (va_up (va_up (va_up (va_up (va_up (va_up (va_up (va_up (va_up (va_up (va_up (va_up (va_up (va_up (fun _ => none) 0 (some 40)) 1 (some 41)) 2 (some 42)) 3 (some 43)) 4 (some 44)) 5 (some 45)) 6 (some 46)) 7 (some 47)) 8 (some 48)) 9 (some 49)) 10 (some 50)) 11 (some 51)) 12 (some 52)) 13 (some 53)) 14 (some 54)) 15 (some 55)) 16 (some 56)))
def zL_114 : List zh_LC := zL_113 ++ [(100, 6, fun _ => none)]
def zM_103 : zh_M := zh_row zM_102 57 (fun _ => 0)
def zL_115 : List zh_LC := zL_114.set 38 (5, 31, (va_up (va_up (va_up (va_up (va_up (va_up (va_up (va_up (va_up (va_up (va_up (va_up (va_up (va_up (va_up (va_up (va_up (va_up (fun _ => none) 0 (some 40)) 1 (some 41)) 2 (some 42)) 3 (some 43)) 4 (some 44)) 5 (some 45)) 6 (some 46)) 7 (some 47)) 8 (some 48)) 9 (some 49)) 10 (some 50)) 11 (some 51)) 12 (some 52)) 13 (some 53)) 14 (some 54)) 15 (some 55)) 16 (some 56)) 17 (some 57)))
def zL_116 : List zh_LC := zL_115 ++ [(100, 6, fun _ => none)]
def zM_104 : zh_M := zh_row zM_103 58 (fun _ => 0)
def zL_117 : List zh_LC := zL_116.set 38 (5, 31, (va_up (va_up (va_up (va_up (va_up (va_up (va_up (va_up (va_up (va_up (va_up (va_up (va_up (va_up (va_up (va_up (va_up (va_up (va_up (fun _ => none) 0 (some 40)) 1 (some 41)) 2 (some 42)) 3 (some 43)) 4 (some 44)) 5 (some 45)) 6 (some 46)) 7 (some 47)) 8 (some 48)) 9 (some 49)) 10 (some 50)) 11 (some 51)) 12 (some 52)) 13 (some 53)) 14 (some 54)) 15 (some 55)) 16 (some 56)) 17 (some 57)) 18 (some 58)))
def zL_118 : List zh_LC := zL_117 ++ [(100, 6, fun _ => none)]
def zM_105 : zh_M := zh_row zM_104 59 (fun _ => 0)
def zL_119 : List zh_LC := zL_118.set 38 (5, 31, (va_up (va_up (va_up (va_up (va_up (va_up (va_up (va_up (va_up (va_up (va_up (va_up (va_up (va_up (va_up (va_up (va_up (va_up (va_up (va_up (fun _ => none) 0 (some 40)) 1 (some 41)) 2 (some 42)) 3 (some 43)) 4 (some 44)) 5 (some 45)) 6 (some 46)) 7 (some 47)) 8 (some 48)) 9 (some 49)) 10 (some 50)) 11 (some 51)) 12 (some 52)) 13 (some 53)) 14 (some 54)) 15 (some 55)) 16 (some 56)) 17 (some 57)) 18 (some 58)) 19 (some 59)))
def zL_120 : List zh_LC := zL_119 ++ [(100, 16, fun _ => none)]
def zM_106 : zh_M := zh_row zM_105 60 (fun _ => 0)
def zL_121 : List zh_LC := zL_120.set 38 (5, 31, (va_up (va_up (va_up (va_up (va_up (va_up (va_up (va_up (va_up (va_up (va_up (va_up (va_up (va_up (va_up (va_up (va_up (va_up (va_up (va_up (va_up (fun _ => none) 0 (some 40)) 1 (some 41)) 2 (some 42)) 3 (some 43)) 4 (some 44)) 5 (some 45)) 6 (some 46)) 7 (some 47)) 8 (some 48)) 9 (some 49)) 10 (some 50)) 11 (some 51)) 12 (some 52)) 13 (some 53)) 14 (some 54)) 15 (some 55)) 16 (some 56)) 17 (some 57)) 18 (some 58)) 19 (some 59)) 20 (some 60)))
def zL_122 : List zh_LC := zL_121 ++ [(100, 4, fun _ => none)]
def zM_107 : zh_M := zh_row zM_106 61 (fun _ => 0)
def zL_123 : List zh_LC := zL_122.set 38 (5, 31, (va_up (va_up (va_up (va_up (va_up (va_up (va_up (va_up (va_up (va_up (va_up (va_up (va_up (va_up (va_up (va_up (va_up (va_up (va_up (va_up (va_up (va_up (fun _ => none) 0 (some 40)) 1 (some 41)) 2 (some 42)) 3 (some 43)) 4 (some 44)) 5 (some 45)) 6 (some 46)) 7 (some 47)) 8 (some 48)) 9 (some 49)) 10 (some 50)) 11 (some 51)) 12 (some 52)) 13 (some 53)) 14 (some 54)) 15 (some 55)) 16 (some 56)) 17 (some 57)) 18 (some 58)) 19 (some 59)) 20 (some 60)) 21 (some 61)))
def zM_108 : zh_M := zh_set zM_107 39 29 64
def zM_109 : zh_M := zh_set zM_108 49 0 1
def zM_110 : zh_M := zh_set zM_109 50 0 1
def zM_111 : zh_M := zh_set zM_110 51 0 2
def zM_112 : zh_M := zh_set zM_111 54 0 0
def zM_113 : zh_M := zh_set zM_112 59 0 (-1)
def zM_114 : zh_M := zh_set zM_113 53 0 (-1)
def zM_115 : zh_M := zh_set zM_114 52 0 (-1)
def zM_116 : zh_M := zh_set zM_115 52 1 (-1)
def zM_117 : zh_M := zh_set zM_116 52 2 (-1)
def zM_118 : zh_M := zh_set zM_117 52 3 (-1)
set_option maxRecDepth 100000 in
set_option maxHeartbeats 4000000 in
theorem kt_X3_init_1 {X : Nat × (Nat → Int32)} {d : Nat} : zh_W X (d + 1) yX3_init cX3_init 1 none 0 (zh_en [.ref 2] 1) [] zL_2 zM_2 6 672 (fun r L M => r = none ∧ L = zL_14 ∧ M = zM_9) := by
  show zh_W X (d + 1) yX3_init cX3_init 1 none 0 [some (.ref 2)] [] zL_2 zM_2 6 672 _
  refine zh_aload_n (pn := 1) rfl dX3_init_0 (i := 0) (v := .ref 2) rfl rfl (Or.inr ⟨_, rfl⟩) ?_
  refine zh_obj (pn := 4) rfl dX3_init_1 mc_X3_3 me_obj.1 me_obj.2 (fun _ _ => Nat.le_of_ble_eq_true rfl) ?_
  refine zh_aload_n (pn := 5) rfl dX3_init_4 (i := 0) (v := .ref 2) rfl rfl (Or.inr ⟨_, rfl⟩) ?_
  refine zh_sipush (pn := 8) rfl dX3_init_5 (v := 256) rfl ?_
  refine zh_newa (pn := 10) (bc := 5) (bs := 416) (t := 0) (N := 256) rfl dX3_init_8 rfl me_arr_int (fun _ => rfl) rfl (fun _ _ q => q) rfl (by decide) rfl (by decide) ?_
  show zh_W X (d + 1) yX3_init cX3_init 1 none 10 [some (.ref 2)] [.ref 3, .ref 2] zL_3 zM_3 5 416 _
  refine zh_putF (pn := 13) rfl dX3_init_10 (i := 1) (k := 0) (r := some 3) rfl rfl (by decide) (by decide) in_X3 tyX3_ok nmX3 mf_X3_9 rfl rfl rfl rfl (fun _ _ => rfl) (fun _ _ => rfl) ?_
  show zh_W X (d + 1) yX3_init cX3_init 1 none 13 [some (.ref 2)] [] zL_4 zM_3 5 416 _
  refine zh_aload_n (pn := 14) rfl dX3_init_13 (i := 0) (v := .ref 2) rfl rfl (Or.inr ⟨_, rfl⟩) ?_
  refine zh_bipush (pn := 16) rfl dX3_init_14 (v := 16) rfl ?_
  refine zh_newa (pn := 18) (bc := 4) (bs := 400) (t := 0) (N := 16) rfl dX3_init_16 rfl me_arr_int (fun _ => rfl) rfl (fun _ _ q => q) rfl (by decide) rfl (by decide) ?_
  show zh_W X (d + 1) yX3_init cX3_init 1 none 18 [some (.ref 2)] [.ref 4, .ref 2] zL_5 zM_4 4 400 _
  refine zh_putF (pn := 21) rfl dX3_init_18 (i := 1) (k := 1) (r := some 4) rfl rfl (by decide) (by decide) in_X3 tyX3_ok nmX3 mf_X3_15 rfl rfl rfl rfl (fun _ _ => rfl) (fun _ _ => rfl) ?_
  show zh_W X (d + 1) yX3_init cX3_init 1 none 21 [some (.ref 2)] [] zL_6 zM_4 4 400 _
  refine zh_aload_n (pn := 22) rfl dX3_init_21 (i := 0) (v := .ref 2) rfl rfl (Or.inr ⟨_, rfl⟩) ?_
  refine zh_bipush (pn := 24) rfl dX3_init_22 (v := 16) rfl ?_
  refine zh_newa (pn := 26) (bc := 3) (bs := 384) (t := 1) (N := 16) rfl dX3_init_24 rfl me_arr_boolean (fun _ => rfl) rfl (fun _ _ q => q) rfl (by decide) rfl (by decide) ?_
  show zh_W X (d + 1) yX3_init cX3_init 1 none 26 [some (.ref 2)] [.ref 5, .ref 2] zL_7 zM_5 3 384 _
  refine zh_putF (pn := 29) rfl dX3_init_26 (i := 1) (k := 2) (r := some 5) rfl rfl (by decide) (by decide) in_X3 tyX3_ok nmX3 mf_X3_18 rfl rfl rfl rfl (fun _ _ => rfl) (fun _ _ => rfl) ?_
  show zh_W X (d + 1) yX3_init cX3_init 1 none 29 [some (.ref 2)] [] zL_8 zM_5 3 384 _
  refine zh_aload_n (pn := 30) rfl dX3_init_29 (i := 0) (v := .ref 2) rfl rfl (Or.inr ⟨_, rfl⟩) ?_
  refine zh_sipush (pn := 33) rfl dX3_init_30 (v := 128) rfl ?_
  refine zh_newa (pn := 35) (bc := 2) (bs := 256) (t := 0) (N := 128) rfl dX3_init_33 rfl me_arr_int (fun _ => rfl) rfl (fun _ _ q => q) rfl (by decide) rfl (by decide) ?_
  show zh_W X (d + 1) yX3_init cX3_init 1 none 35 [some (.ref 2)] [.ref 6, .ref 2] zL_9 zM_6 2 256 _
  refine zh_putF (pn := 38) rfl dX3_init_35 (i := 1) (k := 3) (r := some 6) rfl rfl (by decide) (by decide) in_X3 tyX3_ok nmX3 mf_X3_22 rfl rfl rfl rfl (fun _ _ => rfl) (fun _ _ => rfl) ?_
  show zh_W X (d + 1) yX3_init cX3_init 1 none 38 [some (.ref 2)] [] zL_10 zM_6 2 256 _
  refine zh_aload_n (pn := 39) rfl dX3_init_38 (i := 0) (v := .ref 2) rfl rfl (Or.inr ⟨_, rfl⟩) ?_
  refine zh_sipush (pn := 42) rfl dX3_init_39 (v := 128) rfl ?_
  refine zh_newa (pn := 44) (bc := 1) (bs := 128) (t := 0) (N := 128) rfl dX3_init_42 rfl me_arr_int (fun _ => rfl) rfl (fun _ _ q => q) rfl (by decide) rfl (by decide) ?_
  show zh_W X (d + 1) yX3_init cX3_init 1 none 44 [some (.ref 2)] [.ref 7, .ref 2] zL_11 zM_7 1 128 _
  refine zh_putF (pn := 47) rfl dX3_init_44 (i := 1) (k := 4) (r := some 7) rfl rfl (by decide) (by decide) in_X3 tyX3_ok nmX3 mf_X3_25 rfl rfl rfl rfl (fun _ _ => rfl) (fun _ _ => rfl) ?_
  show zh_W X (d + 1) yX3_init cX3_init 1 none 47 [some (.ref 2)] [] zL_12 zM_7 1 128 _
  refine zh_aload_n (pn := 48) rfl dX3_init_47 (i := 0) (v := .ref 2) rfl rfl (Or.inr ⟨_, rfl⟩) ?_
  refine zh_sipush (pn := 51) rfl dX3_init_48 (v := 128) rfl ?_
  refine zh_newa (pn := 53) (bc := 0) (bs := 0) (t := 0) (N := 128) rfl dX3_init_51 rfl me_arr_int (fun _ => rfl) rfl (fun _ _ q => q) rfl (by decide) rfl (by decide) ?_
  show zh_W X (d + 1) yX3_init cX3_init 1 none 53 [some (.ref 2)] [.ref 8, .ref 2] zL_13 zM_8 0 0 _
  refine zh_putF (pn := 56) rfl dX3_init_53 (i := 1) (k := 5) (r := some 8) rfl rfl (by decide) (by decide) in_X3 tyX3_ok nmX3 mf_X3_28 rfl rfl rfl rfl (fun _ _ => rfl) (fun _ _ => rfl) ?_
  show zh_W X (d + 1) yX3_init cX3_init 1 none 56 [some (.ref 2)] [] zL_14 zM_8 0 0 _
  refine zh_aload_n (pn := 57) rfl dX3_init_56 (i := 0) (v := .ref 2) rfl rfl (Or.inr ⟨_, rfl⟩) ?_
  refine zh_iconst (pn := 58) rfl dX3_init_57 (v := 0) rfl ?_
  refine zh_put (pn := 61) rfl dX3_init_58 (k := 6) rfl rfl (by decide) (by decide) in_X3 tyX3_ok nmX3 mf_X3_31 rfl rfl rfl rfl ?_
  show zh_W X (d + 1) yX3_init cX3_init 1 none 61 [some (.ref 2)] [] zL_14 zM_9 0 0 _
  exact zh_vret dX3_init_61 rfl ⟨rfl, rfl, rfl⟩
set_option maxRecDepth 100000 in
set_option maxHeartbeats 4000000 in
theorem kt_X2_init_2 {X : Nat × (Nat → Int32)} {d : Nat} : zh_W X (d + 1) yX2_init cX2_init 1 none 0 (zh_en [.ref 10] 1) [] zL_18 zM_11 2 80 (fun r L M => r = none ∧ L = zL_22 ∧ M = zM_17) := by
  show zh_W X (d + 1) yX2_init cX2_init 1 none 0 [some (.ref 10)] [] zL_18 zM_11 2 80 _
  refine zh_aload_n (pn := 1) rfl dX2_init_0 (i := 0) (v := .ref 10) rfl rfl (Or.inr ⟨_, rfl⟩) ?_
  refine zh_obj (pn := 4) rfl dX2_init_1 mc_X2_3 me_obj.1 me_obj.2 (fun _ _ => Nat.le_of_ble_eq_true rfl) ?_
  refine zh_aload_n (pn := 5) rfl dX2_init_4 (i := 0) (v := .ref 10) rfl rfl (Or.inr ⟨_, rfl⟩) ?_
  refine zh_bipush (pn := 7) rfl dX2_init_5 (v := 64) rfl ?_
  refine zh_newa (pn := 9) (bc := 1) (bs := 16) (t := 0) (N := 64) rfl dX2_init_7 rfl me_arr_int (fun _ => rfl) rfl (fun _ _ q => q) rfl (by decide) rfl (by decide) ?_
  show zh_W X (d + 1) yX2_init cX2_init 1 none 9 [some (.ref 10)] [.ref 11, .ref 10] zL_19 zM_12 1 16 _
  refine zh_putF (pn := 12) rfl dX2_init_9 (i := 9) (k := 0) (r := some 11) rfl rfl (by decide) (by decide) in_X2 tyX2_ok nmX2 mf_X2_9 rfl rfl rfl rfl (fun _ _ => rfl) (fun _ _ => rfl) ?_
  show zh_W X (d + 1) yX2_init cX2_init 1 none 12 [some (.ref 10)] [] zL_20 zM_12 1 16 _
  refine zh_aload_n (pn := 13) rfl dX2_init_12 (i := 0) (v := .ref 10) rfl rfl (Or.inr ⟨_, rfl⟩) ?_
  refine zh_bipush (pn := 15) rfl dX2_init_13 (v := 16) rfl ?_
  refine zh_newa (pn := 17) (bc := 0) (bs := 0) (t := 0) (N := 16) rfl dX2_init_15 rfl me_arr_int (fun _ => rfl) rfl (fun _ _ q => q) rfl (by decide) rfl (by decide) ?_
  show zh_W X (d + 1) yX2_init cX2_init 1 none 17 [some (.ref 10)] [.ref 12, .ref 10] zL_21 zM_13 0 0 _
  refine zh_putF (pn := 20) rfl dX2_init_17 (i := 9) (k := 1) (r := some 12) rfl rfl (by decide) (by decide) in_X2 tyX2_ok nmX2 mf_X2_15 rfl rfl rfl rfl (fun _ _ => rfl) (fun _ _ => rfl) ?_
  show zh_W X (d + 1) yX2_init cX2_init 1 none 20 [some (.ref 10)] [] zL_22 zM_13 0 0 _
  refine zh_aload_n (pn := 21) rfl dX2_init_20 (i := 0) (v := .ref 10) rfl rfl (Or.inr ⟨_, rfl⟩) ?_
  refine zh_iconst (pn := 22) rfl dX2_init_21 (v := 0) rfl ?_
  refine zh_put (pn := 25) rfl dX2_init_22 (k := 2) rfl rfl (by decide) (by decide) in_X2 tyX2_ok nmX2 mf_X2_18 rfl rfl rfl rfl ?_
  show zh_W X (d + 1) yX2_init cX2_init 1 none 25 [some (.ref 10)] [] zL_22 zM_14 0 0 _
  refine zh_aload_n (pn := 26) rfl dX2_init_25 (i := 0) (v := .ref 10) rfl rfl (Or.inr ⟨_, rfl⟩) ?_
  refine zh_iconst (pn := 27) rfl dX2_init_26 (v := 1) rfl ?_
  refine zh_put (pn := 30) rfl dX2_init_27 (k := 3) rfl rfl (by decide) (by decide) in_X2 tyX2_ok nmX2 mf_X2_22 rfl rfl rfl rfl ?_
  show zh_W X (d + 1) yX2_init cX2_init 1 none 30 [some (.ref 10)] [] zL_22 zM_15 0 0 _
  refine zh_aload_n (pn := 31) rfl dX2_init_30 (i := 0) (v := .ref 10) rfl rfl (Or.inr ⟨_, rfl⟩) ?_
  refine zh_iconst (pn := 32) rfl dX2_init_31 (v := 2) rfl ?_
  refine zh_put (pn := 35) rfl dX2_init_32 (k := 4) rfl rfl (by decide) (by decide) in_X2 tyX2_ok nmX2 mf_X2_25 rfl rfl rfl rfl ?_
  show zh_W X (d + 1) yX2_init cX2_init 1 none 35 [some (.ref 10)] [] zL_22 zM_16 0 0 _
  refine zh_aload_n (pn := 36) rfl dX2_init_35 (i := 0) (v := .ref 10) rfl rfl (Or.inr ⟨_, rfl⟩) ?_
  refine zh_iconst (pn := 37) rfl dX2_init_36 (v := (-1)) rfl ?_
  refine zh_put (pn := 40) rfl dX2_init_37 (k := 7) rfl rfl (by decide) (by decide) in_X2 tyX2_ok nmX2 mf_X2_28 rfl rfl rfl rfl ?_
  show zh_W X (d + 1) yX2_init cX2_init 1 none 40 [some (.ref 10)] [] zL_22 zM_17 0 0 _
  exact zh_vret dX2_init_40 rfl ⟨rfl, rfl, rfl⟩
set_option maxRecDepth 100000 in
set_option maxHeartbeats 4000000 in
theorem kt_X2_init_3 {X : Nat × (Nat → Int32)} {d : Nat} : zh_W X (d + 1) yX2_init cX2_init 1 none 0 (zh_en [.ref 13] 1) [] zL_24 zM_18 2 80 (fun r L M => r = none ∧ L = zL_28 ∧ M = zM_24) := by
  show zh_W X (d + 1) yX2_init cX2_init 1 none 0 [some (.ref 13)] [] zL_24 zM_18 2 80 _
  refine zh_aload_n (pn := 1) rfl dX2_init_0 (i := 0) (v := .ref 13) rfl rfl (Or.inr ⟨_, rfl⟩) ?_
  refine zh_obj (pn := 4) rfl dX2_init_1 mc_X2_3 me_obj.1 me_obj.2 (fun _ _ => Nat.le_of_ble_eq_true rfl) ?_
  refine zh_aload_n (pn := 5) rfl dX2_init_4 (i := 0) (v := .ref 13) rfl rfl (Or.inr ⟨_, rfl⟩) ?_
  refine zh_bipush (pn := 7) rfl dX2_init_5 (v := 64) rfl ?_
  refine zh_newa (pn := 9) (bc := 1) (bs := 16) (t := 0) (N := 64) rfl dX2_init_7 rfl me_arr_int (fun _ => rfl) rfl (fun _ _ q => q) rfl (by decide) rfl (by decide) ?_
  show zh_W X (d + 1) yX2_init cX2_init 1 none 9 [some (.ref 13)] [.ref 14, .ref 13] zL_25 zM_19 1 16 _
  refine zh_putF (pn := 12) rfl dX2_init_9 (i := 12) (k := 0) (r := some 14) rfl rfl (by decide) (by decide) in_X2 tyX2_ok nmX2 mf_X2_9 rfl rfl rfl rfl (fun _ _ => rfl) (fun _ _ => rfl) ?_
  show zh_W X (d + 1) yX2_init cX2_init 1 none 12 [some (.ref 13)] [] zL_26 zM_19 1 16 _
  refine zh_aload_n (pn := 13) rfl dX2_init_12 (i := 0) (v := .ref 13) rfl rfl (Or.inr ⟨_, rfl⟩) ?_
  refine zh_bipush (pn := 15) rfl dX2_init_13 (v := 16) rfl ?_
  refine zh_newa (pn := 17) (bc := 0) (bs := 0) (t := 0) (N := 16) rfl dX2_init_15 rfl me_arr_int (fun _ => rfl) rfl (fun _ _ q => q) rfl (by decide) rfl (by decide) ?_
  show zh_W X (d + 1) yX2_init cX2_init 1 none 17 [some (.ref 13)] [.ref 15, .ref 13] zL_27 zM_20 0 0 _
  refine zh_putF (pn := 20) rfl dX2_init_17 (i := 12) (k := 1) (r := some 15) rfl rfl (by decide) (by decide) in_X2 tyX2_ok nmX2 mf_X2_15 rfl rfl rfl rfl (fun _ _ => rfl) (fun _ _ => rfl) ?_
  show zh_W X (d + 1) yX2_init cX2_init 1 none 20 [some (.ref 13)] [] zL_28 zM_20 0 0 _
  refine zh_aload_n (pn := 21) rfl dX2_init_20 (i := 0) (v := .ref 13) rfl rfl (Or.inr ⟨_, rfl⟩) ?_
  refine zh_iconst (pn := 22) rfl dX2_init_21 (v := 0) rfl ?_
  refine zh_put (pn := 25) rfl dX2_init_22 (k := 2) rfl rfl (by decide) (by decide) in_X2 tyX2_ok nmX2 mf_X2_18 rfl rfl rfl rfl ?_
  show zh_W X (d + 1) yX2_init cX2_init 1 none 25 [some (.ref 13)] [] zL_28 zM_21 0 0 _
  refine zh_aload_n (pn := 26) rfl dX2_init_25 (i := 0) (v := .ref 13) rfl rfl (Or.inr ⟨_, rfl⟩) ?_
  refine zh_iconst (pn := 27) rfl dX2_init_26 (v := 1) rfl ?_
  refine zh_put (pn := 30) rfl dX2_init_27 (k := 3) rfl rfl (by decide) (by decide) in_X2 tyX2_ok nmX2 mf_X2_22 rfl rfl rfl rfl ?_
  show zh_W X (d + 1) yX2_init cX2_init 1 none 30 [some (.ref 13)] [] zL_28 zM_22 0 0 _
  refine zh_aload_n (pn := 31) rfl dX2_init_30 (i := 0) (v := .ref 13) rfl rfl (Or.inr ⟨_, rfl⟩) ?_
  refine zh_iconst (pn := 32) rfl dX2_init_31 (v := 2) rfl ?_
  refine zh_put (pn := 35) rfl dX2_init_32 (k := 4) rfl rfl (by decide) (by decide) in_X2 tyX2_ok nmX2 mf_X2_25 rfl rfl rfl rfl ?_
  show zh_W X (d + 1) yX2_init cX2_init 1 none 35 [some (.ref 13)] [] zL_28 zM_23 0 0 _
  refine zh_aload_n (pn := 36) rfl dX2_init_35 (i := 0) (v := .ref 13) rfl rfl (Or.inr ⟨_, rfl⟩) ?_
  refine zh_iconst (pn := 37) rfl dX2_init_36 (v := (-1)) rfl ?_
  refine zh_put (pn := 40) rfl dX2_init_37 (k := 7) rfl rfl (by decide) (by decide) in_X2 tyX2_ok nmX2 mf_X2_28 rfl rfl rfl rfl ?_
  show zh_W X (d + 1) yX2_init cX2_init 1 none 40 [some (.ref 13)] [] zL_28 zM_24 0 0 _
  exact zh_vret dX2_init_40 rfl ⟨rfl, rfl, rfl⟩
set_option maxRecDepth 100000 in
set_option maxHeartbeats 4000000 in
theorem kt_X2_init_4 {X : Nat × (Nat → Int32)} {d : Nat} : zh_W X (d + 1) yX2_init cX2_init 1 none 0 (zh_en [.ref 16] 1) [] zL_30 zM_25 2 80 (fun r L M => r = none ∧ L = zL_34 ∧ M = zM_31) := by
  show zh_W X (d + 1) yX2_init cX2_init 1 none 0 [some (.ref 16)] [] zL_30 zM_25 2 80 _
  refine zh_aload_n (pn := 1) rfl dX2_init_0 (i := 0) (v := .ref 16) rfl rfl (Or.inr ⟨_, rfl⟩) ?_
  refine zh_obj (pn := 4) rfl dX2_init_1 mc_X2_3 me_obj.1 me_obj.2 (fun _ _ => Nat.le_of_ble_eq_true rfl) ?_
  refine zh_aload_n (pn := 5) rfl dX2_init_4 (i := 0) (v := .ref 16) rfl rfl (Or.inr ⟨_, rfl⟩) ?_
  refine zh_bipush (pn := 7) rfl dX2_init_5 (v := 64) rfl ?_
  refine zh_newa (pn := 9) (bc := 1) (bs := 16) (t := 0) (N := 64) rfl dX2_init_7 rfl me_arr_int (fun _ => rfl) rfl (fun _ _ q => q) rfl (by decide) rfl (by decide) ?_
  show zh_W X (d + 1) yX2_init cX2_init 1 none 9 [some (.ref 16)] [.ref 17, .ref 16] zL_31 zM_26 1 16 _
  refine zh_putF (pn := 12) rfl dX2_init_9 (i := 15) (k := 0) (r := some 17) rfl rfl (by decide) (by decide) in_X2 tyX2_ok nmX2 mf_X2_9 rfl rfl rfl rfl (fun _ _ => rfl) (fun _ _ => rfl) ?_
  show zh_W X (d + 1) yX2_init cX2_init 1 none 12 [some (.ref 16)] [] zL_32 zM_26 1 16 _
  refine zh_aload_n (pn := 13) rfl dX2_init_12 (i := 0) (v := .ref 16) rfl rfl (Or.inr ⟨_, rfl⟩) ?_
  refine zh_bipush (pn := 15) rfl dX2_init_13 (v := 16) rfl ?_
  refine zh_newa (pn := 17) (bc := 0) (bs := 0) (t := 0) (N := 16) rfl dX2_init_15 rfl me_arr_int (fun _ => rfl) rfl (fun _ _ q => q) rfl (by decide) rfl (by decide) ?_
  show zh_W X (d + 1) yX2_init cX2_init 1 none 17 [some (.ref 16)] [.ref 18, .ref 16] zL_33 zM_27 0 0 _
  refine zh_putF (pn := 20) rfl dX2_init_17 (i := 15) (k := 1) (r := some 18) rfl rfl (by decide) (by decide) in_X2 tyX2_ok nmX2 mf_X2_15 rfl rfl rfl rfl (fun _ _ => rfl) (fun _ _ => rfl) ?_
  show zh_W X (d + 1) yX2_init cX2_init 1 none 20 [some (.ref 16)] [] zL_34 zM_27 0 0 _
  refine zh_aload_n (pn := 21) rfl dX2_init_20 (i := 0) (v := .ref 16) rfl rfl (Or.inr ⟨_, rfl⟩) ?_
  refine zh_iconst (pn := 22) rfl dX2_init_21 (v := 0) rfl ?_
  refine zh_put (pn := 25) rfl dX2_init_22 (k := 2) rfl rfl (by decide) (by decide) in_X2 tyX2_ok nmX2 mf_X2_18 rfl rfl rfl rfl ?_
  show zh_W X (d + 1) yX2_init cX2_init 1 none 25 [some (.ref 16)] [] zL_34 zM_28 0 0 _
  refine zh_aload_n (pn := 26) rfl dX2_init_25 (i := 0) (v := .ref 16) rfl rfl (Or.inr ⟨_, rfl⟩) ?_
  refine zh_iconst (pn := 27) rfl dX2_init_26 (v := 1) rfl ?_
  refine zh_put (pn := 30) rfl dX2_init_27 (k := 3) rfl rfl (by decide) (by decide) in_X2 tyX2_ok nmX2 mf_X2_22 rfl rfl rfl rfl ?_
  show zh_W X (d + 1) yX2_init cX2_init 1 none 30 [some (.ref 16)] [] zL_34 zM_29 0 0 _
  refine zh_aload_n (pn := 31) rfl dX2_init_30 (i := 0) (v := .ref 16) rfl rfl (Or.inr ⟨_, rfl⟩) ?_
  refine zh_iconst (pn := 32) rfl dX2_init_31 (v := 2) rfl ?_
  refine zh_put (pn := 35) rfl dX2_init_32 (k := 4) rfl rfl (by decide) (by decide) in_X2 tyX2_ok nmX2 mf_X2_25 rfl rfl rfl rfl ?_
  show zh_W X (d + 1) yX2_init cX2_init 1 none 35 [some (.ref 16)] [] zL_34 zM_30 0 0 _
  refine zh_aload_n (pn := 36) rfl dX2_init_35 (i := 0) (v := .ref 16) rfl rfl (Or.inr ⟨_, rfl⟩) ?_
  refine zh_iconst (pn := 37) rfl dX2_init_36 (v := (-1)) rfl ?_
  refine zh_put (pn := 40) rfl dX2_init_37 (k := 7) rfl rfl (by decide) (by decide) in_X2 tyX2_ok nmX2 mf_X2_28 rfl rfl rfl rfl ?_
  show zh_W X (d + 1) yX2_init cX2_init 1 none 40 [some (.ref 16)] [] zL_34 zM_31 0 0 _
  exact zh_vret dX2_init_40 rfl ⟨rfl, rfl, rfl⟩
set_option maxRecDepth 100000 in
set_option maxHeartbeats 4000000 in
theorem kt_X2_init_5 {X : Nat × (Nat → Int32)} {d : Nat} : zh_W X (d + 1) yX2_init cX2_init 1 none 0 (zh_en [.ref 19] 1) [] zL_36 zM_32 2 80 (fun r L M => r = none ∧ L = zL_40 ∧ M = zM_38) := by
  show zh_W X (d + 1) yX2_init cX2_init 1 none 0 [some (.ref 19)] [] zL_36 zM_32 2 80 _
  refine zh_aload_n (pn := 1) rfl dX2_init_0 (i := 0) (v := .ref 19) rfl rfl (Or.inr ⟨_, rfl⟩) ?_
  refine zh_obj (pn := 4) rfl dX2_init_1 mc_X2_3 me_obj.1 me_obj.2 (fun _ _ => Nat.le_of_ble_eq_true rfl) ?_
  refine zh_aload_n (pn := 5) rfl dX2_init_4 (i := 0) (v := .ref 19) rfl rfl (Or.inr ⟨_, rfl⟩) ?_
  refine zh_bipush (pn := 7) rfl dX2_init_5 (v := 64) rfl ?_
  refine zh_newa (pn := 9) (bc := 1) (bs := 16) (t := 0) (N := 64) rfl dX2_init_7 rfl me_arr_int (fun _ => rfl) rfl (fun _ _ q => q) rfl (by decide) rfl (by decide) ?_
  show zh_W X (d + 1) yX2_init cX2_init 1 none 9 [some (.ref 19)] [.ref 20, .ref 19] zL_37 zM_33 1 16 _
  refine zh_putF (pn := 12) rfl dX2_init_9 (i := 18) (k := 0) (r := some 20) rfl rfl (by decide) (by decide) in_X2 tyX2_ok nmX2 mf_X2_9 rfl rfl rfl rfl (fun _ _ => rfl) (fun _ _ => rfl) ?_
  show zh_W X (d + 1) yX2_init cX2_init 1 none 12 [some (.ref 19)] [] zL_38 zM_33 1 16 _
  refine zh_aload_n (pn := 13) rfl dX2_init_12 (i := 0) (v := .ref 19) rfl rfl (Or.inr ⟨_, rfl⟩) ?_
  refine zh_bipush (pn := 15) rfl dX2_init_13 (v := 16) rfl ?_
  refine zh_newa (pn := 17) (bc := 0) (bs := 0) (t := 0) (N := 16) rfl dX2_init_15 rfl me_arr_int (fun _ => rfl) rfl (fun _ _ q => q) rfl (by decide) rfl (by decide) ?_
  show zh_W X (d + 1) yX2_init cX2_init 1 none 17 [some (.ref 19)] [.ref 21, .ref 19] zL_39 zM_34 0 0 _
  refine zh_putF (pn := 20) rfl dX2_init_17 (i := 18) (k := 1) (r := some 21) rfl rfl (by decide) (by decide) in_X2 tyX2_ok nmX2 mf_X2_15 rfl rfl rfl rfl (fun _ _ => rfl) (fun _ _ => rfl) ?_
  show zh_W X (d + 1) yX2_init cX2_init 1 none 20 [some (.ref 19)] [] zL_40 zM_34 0 0 _
  refine zh_aload_n (pn := 21) rfl dX2_init_20 (i := 0) (v := .ref 19) rfl rfl (Or.inr ⟨_, rfl⟩) ?_
  refine zh_iconst (pn := 22) rfl dX2_init_21 (v := 0) rfl ?_
  refine zh_put (pn := 25) rfl dX2_init_22 (k := 2) rfl rfl (by decide) (by decide) in_X2 tyX2_ok nmX2 mf_X2_18 rfl rfl rfl rfl ?_
  show zh_W X (d + 1) yX2_init cX2_init 1 none 25 [some (.ref 19)] [] zL_40 zM_35 0 0 _
  refine zh_aload_n (pn := 26) rfl dX2_init_25 (i := 0) (v := .ref 19) rfl rfl (Or.inr ⟨_, rfl⟩) ?_
  refine zh_iconst (pn := 27) rfl dX2_init_26 (v := 1) rfl ?_
  refine zh_put (pn := 30) rfl dX2_init_27 (k := 3) rfl rfl (by decide) (by decide) in_X2 tyX2_ok nmX2 mf_X2_22 rfl rfl rfl rfl ?_
  show zh_W X (d + 1) yX2_init cX2_init 1 none 30 [some (.ref 19)] [] zL_40 zM_36 0 0 _
  refine zh_aload_n (pn := 31) rfl dX2_init_30 (i := 0) (v := .ref 19) rfl rfl (Or.inr ⟨_, rfl⟩) ?_
  refine zh_iconst (pn := 32) rfl dX2_init_31 (v := 2) rfl ?_
  refine zh_put (pn := 35) rfl dX2_init_32 (k := 4) rfl rfl (by decide) (by decide) in_X2 tyX2_ok nmX2 mf_X2_25 rfl rfl rfl rfl ?_
  show zh_W X (d + 1) yX2_init cX2_init 1 none 35 [some (.ref 19)] [] zL_40 zM_37 0 0 _
  refine zh_aload_n (pn := 36) rfl dX2_init_35 (i := 0) (v := .ref 19) rfl rfl (Or.inr ⟨_, rfl⟩) ?_
  refine zh_iconst (pn := 37) rfl dX2_init_36 (v := (-1)) rfl ?_
  refine zh_put (pn := 40) rfl dX2_init_37 (k := 7) rfl rfl (by decide) (by decide) in_X2 tyX2_ok nmX2 mf_X2_28 rfl rfl rfl rfl ?_
  show zh_W X (d + 1) yX2_init cX2_init 1 none 40 [some (.ref 19)] [] zL_40 zM_38 0 0 _
  exact zh_vret dX2_init_40 rfl ⟨rfl, rfl, rfl⟩
set_option maxRecDepth 100000 in
set_option maxHeartbeats 4000000 in
theorem kt_X2_init_6 {X : Nat × (Nat → Int32)} {d : Nat} : zh_W X (d + 1) yX2_init cX2_init 1 none 0 (zh_en [.ref 22] 1) [] zL_42 zM_39 2 80 (fun r L M => r = none ∧ L = zL_46 ∧ M = zM_45) := by
  show zh_W X (d + 1) yX2_init cX2_init 1 none 0 [some (.ref 22)] [] zL_42 zM_39 2 80 _
  refine zh_aload_n (pn := 1) rfl dX2_init_0 (i := 0) (v := .ref 22) rfl rfl (Or.inr ⟨_, rfl⟩) ?_
  refine zh_obj (pn := 4) rfl dX2_init_1 mc_X2_3 me_obj.1 me_obj.2 (fun _ _ => Nat.le_of_ble_eq_true rfl) ?_
  refine zh_aload_n (pn := 5) rfl dX2_init_4 (i := 0) (v := .ref 22) rfl rfl (Or.inr ⟨_, rfl⟩) ?_
  refine zh_bipush (pn := 7) rfl dX2_init_5 (v := 64) rfl ?_
  refine zh_newa (pn := 9) (bc := 1) (bs := 16) (t := 0) (N := 64) rfl dX2_init_7 rfl me_arr_int (fun _ => rfl) rfl (fun _ _ q => q) rfl (by decide) rfl (by decide) ?_
  show zh_W X (d + 1) yX2_init cX2_init 1 none 9 [some (.ref 22)] [.ref 23, .ref 22] zL_43 zM_40 1 16 _
  refine zh_putF (pn := 12) rfl dX2_init_9 (i := 21) (k := 0) (r := some 23) rfl rfl (by decide) (by decide) in_X2 tyX2_ok nmX2 mf_X2_9 rfl rfl rfl rfl (fun _ _ => rfl) (fun _ _ => rfl) ?_
  show zh_W X (d + 1) yX2_init cX2_init 1 none 12 [some (.ref 22)] [] zL_44 zM_40 1 16 _
  refine zh_aload_n (pn := 13) rfl dX2_init_12 (i := 0) (v := .ref 22) rfl rfl (Or.inr ⟨_, rfl⟩) ?_
  refine zh_bipush (pn := 15) rfl dX2_init_13 (v := 16) rfl ?_
  refine zh_newa (pn := 17) (bc := 0) (bs := 0) (t := 0) (N := 16) rfl dX2_init_15 rfl me_arr_int (fun _ => rfl) rfl (fun _ _ q => q) rfl (by decide) rfl (by decide) ?_
  show zh_W X (d + 1) yX2_init cX2_init 1 none 17 [some (.ref 22)] [.ref 24, .ref 22] zL_45 zM_41 0 0 _
  refine zh_putF (pn := 20) rfl dX2_init_17 (i := 21) (k := 1) (r := some 24) rfl rfl (by decide) (by decide) in_X2 tyX2_ok nmX2 mf_X2_15 rfl rfl rfl rfl (fun _ _ => rfl) (fun _ _ => rfl) ?_
  show zh_W X (d + 1) yX2_init cX2_init 1 none 20 [some (.ref 22)] [] zL_46 zM_41 0 0 _
  refine zh_aload_n (pn := 21) rfl dX2_init_20 (i := 0) (v := .ref 22) rfl rfl (Or.inr ⟨_, rfl⟩) ?_
  refine zh_iconst (pn := 22) rfl dX2_init_21 (v := 0) rfl ?_
  refine zh_put (pn := 25) rfl dX2_init_22 (k := 2) rfl rfl (by decide) (by decide) in_X2 tyX2_ok nmX2 mf_X2_18 rfl rfl rfl rfl ?_
  show zh_W X (d + 1) yX2_init cX2_init 1 none 25 [some (.ref 22)] [] zL_46 zM_42 0 0 _
  refine zh_aload_n (pn := 26) rfl dX2_init_25 (i := 0) (v := .ref 22) rfl rfl (Or.inr ⟨_, rfl⟩) ?_
  refine zh_iconst (pn := 27) rfl dX2_init_26 (v := 1) rfl ?_
  refine zh_put (pn := 30) rfl dX2_init_27 (k := 3) rfl rfl (by decide) (by decide) in_X2 tyX2_ok nmX2 mf_X2_22 rfl rfl rfl rfl ?_
  show zh_W X (d + 1) yX2_init cX2_init 1 none 30 [some (.ref 22)] [] zL_46 zM_43 0 0 _
  refine zh_aload_n (pn := 31) rfl dX2_init_30 (i := 0) (v := .ref 22) rfl rfl (Or.inr ⟨_, rfl⟩) ?_
  refine zh_iconst (pn := 32) rfl dX2_init_31 (v := 2) rfl ?_
  refine zh_put (pn := 35) rfl dX2_init_32 (k := 4) rfl rfl (by decide) (by decide) in_X2 tyX2_ok nmX2 mf_X2_25 rfl rfl rfl rfl ?_
  show zh_W X (d + 1) yX2_init cX2_init 1 none 35 [some (.ref 22)] [] zL_46 zM_44 0 0 _
  refine zh_aload_n (pn := 36) rfl dX2_init_35 (i := 0) (v := .ref 22) rfl rfl (Or.inr ⟨_, rfl⟩) ?_
  refine zh_iconst (pn := 37) rfl dX2_init_36 (v := (-1)) rfl ?_
  refine zh_put (pn := 40) rfl dX2_init_37 (k := 7) rfl rfl (by decide) (by decide) in_X2 tyX2_ok nmX2 mf_X2_28 rfl rfl rfl rfl ?_
  show zh_W X (d + 1) yX2_init cX2_init 1 none 40 [some (.ref 22)] [] zL_46 zM_45 0 0 _
  exact zh_vret dX2_init_40 rfl ⟨rfl, rfl, rfl⟩
set_option maxRecDepth 100000 in
set_option maxHeartbeats 4000000 in
theorem kt_X2_init_7 {X : Nat × (Nat → Int32)} {d : Nat} : zh_W X (d + 1) yX2_init cX2_init 1 none 0 (zh_en [.ref 25] 1) [] zL_48 zM_46 2 80 (fun r L M => r = none ∧ L = zL_52 ∧ M = zM_52) := by
  show zh_W X (d + 1) yX2_init cX2_init 1 none 0 [some (.ref 25)] [] zL_48 zM_46 2 80 _
  refine zh_aload_n (pn := 1) rfl dX2_init_0 (i := 0) (v := .ref 25) rfl rfl (Or.inr ⟨_, rfl⟩) ?_
  refine zh_obj (pn := 4) rfl dX2_init_1 mc_X2_3 me_obj.1 me_obj.2 (fun _ _ => Nat.le_of_ble_eq_true rfl) ?_
  refine zh_aload_n (pn := 5) rfl dX2_init_4 (i := 0) (v := .ref 25) rfl rfl (Or.inr ⟨_, rfl⟩) ?_
  refine zh_bipush (pn := 7) rfl dX2_init_5 (v := 64) rfl ?_
  refine zh_newa (pn := 9) (bc := 1) (bs := 16) (t := 0) (N := 64) rfl dX2_init_7 rfl me_arr_int (fun _ => rfl) rfl (fun _ _ q => q) rfl (by decide) rfl (by decide) ?_
  show zh_W X (d + 1) yX2_init cX2_init 1 none 9 [some (.ref 25)] [.ref 26, .ref 25] zL_49 zM_47 1 16 _
  refine zh_putF (pn := 12) rfl dX2_init_9 (i := 24) (k := 0) (r := some 26) rfl rfl (by decide) (by decide) in_X2 tyX2_ok nmX2 mf_X2_9 rfl rfl rfl rfl (fun _ _ => rfl) (fun _ _ => rfl) ?_
  show zh_W X (d + 1) yX2_init cX2_init 1 none 12 [some (.ref 25)] [] zL_50 zM_47 1 16 _
  refine zh_aload_n (pn := 13) rfl dX2_init_12 (i := 0) (v := .ref 25) rfl rfl (Or.inr ⟨_, rfl⟩) ?_
  refine zh_bipush (pn := 15) rfl dX2_init_13 (v := 16) rfl ?_
  refine zh_newa (pn := 17) (bc := 0) (bs := 0) (t := 0) (N := 16) rfl dX2_init_15 rfl me_arr_int (fun _ => rfl) rfl (fun _ _ q => q) rfl (by decide) rfl (by decide) ?_
  show zh_W X (d + 1) yX2_init cX2_init 1 none 17 [some (.ref 25)] [.ref 27, .ref 25] zL_51 zM_48 0 0 _
  refine zh_putF (pn := 20) rfl dX2_init_17 (i := 24) (k := 1) (r := some 27) rfl rfl (by decide) (by decide) in_X2 tyX2_ok nmX2 mf_X2_15 rfl rfl rfl rfl (fun _ _ => rfl) (fun _ _ => rfl) ?_
  show zh_W X (d + 1) yX2_init cX2_init 1 none 20 [some (.ref 25)] [] zL_52 zM_48 0 0 _
  refine zh_aload_n (pn := 21) rfl dX2_init_20 (i := 0) (v := .ref 25) rfl rfl (Or.inr ⟨_, rfl⟩) ?_
  refine zh_iconst (pn := 22) rfl dX2_init_21 (v := 0) rfl ?_
  refine zh_put (pn := 25) rfl dX2_init_22 (k := 2) rfl rfl (by decide) (by decide) in_X2 tyX2_ok nmX2 mf_X2_18 rfl rfl rfl rfl ?_
  show zh_W X (d + 1) yX2_init cX2_init 1 none 25 [some (.ref 25)] [] zL_52 zM_49 0 0 _
  refine zh_aload_n (pn := 26) rfl dX2_init_25 (i := 0) (v := .ref 25) rfl rfl (Or.inr ⟨_, rfl⟩) ?_
  refine zh_iconst (pn := 27) rfl dX2_init_26 (v := 1) rfl ?_
  refine zh_put (pn := 30) rfl dX2_init_27 (k := 3) rfl rfl (by decide) (by decide) in_X2 tyX2_ok nmX2 mf_X2_22 rfl rfl rfl rfl ?_
  show zh_W X (d + 1) yX2_init cX2_init 1 none 30 [some (.ref 25)] [] zL_52 zM_50 0 0 _
  refine zh_aload_n (pn := 31) rfl dX2_init_30 (i := 0) (v := .ref 25) rfl rfl (Or.inr ⟨_, rfl⟩) ?_
  refine zh_iconst (pn := 32) rfl dX2_init_31 (v := 2) rfl ?_
  refine zh_put (pn := 35) rfl dX2_init_32 (k := 4) rfl rfl (by decide) (by decide) in_X2 tyX2_ok nmX2 mf_X2_25 rfl rfl rfl rfl ?_
  show zh_W X (d + 1) yX2_init cX2_init 1 none 35 [some (.ref 25)] [] zL_52 zM_51 0 0 _
  refine zh_aload_n (pn := 36) rfl dX2_init_35 (i := 0) (v := .ref 25) rfl rfl (Or.inr ⟨_, rfl⟩) ?_
  refine zh_iconst (pn := 37) rfl dX2_init_36 (v := (-1)) rfl ?_
  refine zh_put (pn := 40) rfl dX2_init_37 (k := 7) rfl rfl (by decide) (by decide) in_X2 tyX2_ok nmX2 mf_X2_28 rfl rfl rfl rfl ?_
  show zh_W X (d + 1) yX2_init cX2_init 1 none 40 [some (.ref 25)] [] zL_52 zM_52 0 0 _
  exact zh_vret dX2_init_40 rfl ⟨rfl, rfl, rfl⟩
set_option maxRecDepth 100000 in
set_option maxHeartbeats 4000000 in
theorem kt_X0_init_8 {X : Nat × (Nat → Int32)} {d : Nat} : zh_W X (d + 1) yX0_init cX0_init 2 none 0 (zh_en [.ref 29, .int 0] 2) [] zL_56 zM_54 1 0 (fun r L M => r = none ∧ L = zL_58 ∧ M = zM_56) := by
  show zh_W X (d + 1) yX0_init cX0_init 2 none 0 [some (.ref 29), some (.int 0)] [] zL_56 zM_54 1 0 _
  refine zh_aload_n (pn := 1) rfl dX0_init_0 (i := 0) (v := .ref 29) rfl rfl (Or.inr ⟨_, rfl⟩) ?_
  refine zh_obj (pn := 4) rfl dX0_init_1 mc_X0_3 me_obj.1 me_obj.2 (fun _ _ => Nat.le_of_ble_eq_true rfl) ?_
  refine zh_aload_n (pn := 5) rfl dX0_init_4 (i := 0) (v := .ref 29) rfl rfl (Or.inr ⟨_, rfl⟩) ?_
  refine zh_iload_n (pn := 6) rfl dX0_init_5 (i := 1) (x := 0) rfl rfl ?_
  refine zh_newa (pn := 8) (bc := 0) (bs := 0) (t := 0) (N := 0) rfl dX0_init_6 rfl me_arr_int (fun _ => rfl) rfl (fun _ _ q => q) rfl (by decide) rfl (by decide) ?_
  show zh_W X (d + 1) yX0_init cX0_init 2 none 8 [some (.ref 29), some (.int 0)] [.ref 30, .ref 29] zL_57 zM_55 0 0 _
  refine zh_putF (pn := 11) rfl dX0_init_8 (i := 28) (k := 0) (r := some 30) rfl rfl (by decide) (by decide) in_X0 tyX0_ok nmX0 mf_X0_9 rfl rfl rfl rfl (fun _ _ => rfl) (fun _ _ => rfl) ?_
  show zh_W X (d + 1) yX0_init cX0_init 2 none 11 [some (.ref 29), some (.int 0)] [] zL_58 zM_55 0 0 _
  refine zh_aload_n (pn := 12) rfl dX0_init_11 (i := 0) (v := .ref 29) rfl rfl (Or.inr ⟨_, rfl⟩) ?_
  refine zh_iconst (pn := 13) rfl dX0_init_12 (v := 0) rfl ?_
  refine zh_put (pn := 16) rfl dX0_init_13 (k := 1) rfl rfl (by decide) (by decide) in_X0 tyX0_ok nmX0 mf_X0_15 rfl rfl rfl rfl ?_
  show zh_W X (d + 1) yX0_init cX0_init 2 none 16 [some (.ref 29), some (.int 0)] [] zL_58 zM_56 0 0 _
  exact zh_vret dX0_init_16 rfl ⟨rfl, rfl, rfl⟩
set_option maxRecDepth 100000 in
set_option maxHeartbeats 4000000 in
theorem kt_X0_init_9 {X : Nat × (Nat → Int32)} {d : Nat} : zh_W X (d + 1) yX0_init cX0_init 2 none 0 (zh_en [.ref 31, .int 1] 2) [] zL_60 zM_57 1 1 (fun r L M => r = none ∧ L = zL_62 ∧ M = zM_59) := by
  show zh_W X (d + 1) yX0_init cX0_init 2 none 0 [some (.ref 31), some (.int 1)] [] zL_60 zM_57 1 1 _
  refine zh_aload_n (pn := 1) rfl dX0_init_0 (i := 0) (v := .ref 31) rfl rfl (Or.inr ⟨_, rfl⟩) ?_
  refine zh_obj (pn := 4) rfl dX0_init_1 mc_X0_3 me_obj.1 me_obj.2 (fun _ _ => Nat.le_of_ble_eq_true rfl) ?_
  refine zh_aload_n (pn := 5) rfl dX0_init_4 (i := 0) (v := .ref 31) rfl rfl (Or.inr ⟨_, rfl⟩) ?_
  refine zh_iload_n (pn := 6) rfl dX0_init_5 (i := 1) (x := 1) rfl rfl ?_
  refine zh_newa (pn := 8) (bc := 0) (bs := 0) (t := 0) (N := 1) rfl dX0_init_6 rfl me_arr_int (fun _ => rfl) rfl (fun _ _ q => q) rfl (by decide) rfl (by decide) ?_
  show zh_W X (d + 1) yX0_init cX0_init 2 none 8 [some (.ref 31), some (.int 1)] [.ref 32, .ref 31] zL_61 zM_58 0 0 _
  refine zh_putF (pn := 11) rfl dX0_init_8 (i := 30) (k := 0) (r := some 32) rfl rfl (by decide) (by decide) in_X0 tyX0_ok nmX0 mf_X0_9 rfl rfl rfl rfl (fun _ _ => rfl) (fun _ _ => rfl) ?_
  show zh_W X (d + 1) yX0_init cX0_init 2 none 11 [some (.ref 31), some (.int 1)] [] zL_62 zM_58 0 0 _
  refine zh_aload_n (pn := 12) rfl dX0_init_11 (i := 0) (v := .ref 31) rfl rfl (Or.inr ⟨_, rfl⟩) ?_
  refine zh_iconst (pn := 13) rfl dX0_init_12 (v := 0) rfl ?_
  refine zh_put (pn := 16) rfl dX0_init_13 (k := 1) rfl rfl (by decide) (by decide) in_X0 tyX0_ok nmX0 mf_X0_15 rfl rfl rfl rfl ?_
  show zh_W X (d + 1) yX0_init cX0_init 2 none 16 [some (.ref 31), some (.int 1)] [] zL_62 zM_59 0 0 _
  exact zh_vret dX0_init_16 rfl ⟨rfl, rfl, rfl⟩
set_option maxRecDepth 100000 in
set_option maxHeartbeats 4000000 in
theorem kt_X0_init_10 {X : Nat × (Nat → Int32)} {d : Nat} : zh_W X (d + 1) yX0_init cX0_init 2 none 0 (zh_en [.ref 33, .int 2] 2) [] zL_64 zM_60 1 2 (fun r L M => r = none ∧ L = zL_66 ∧ M = zM_62) := by
  show zh_W X (d + 1) yX0_init cX0_init 2 none 0 [some (.ref 33), some (.int 2)] [] zL_64 zM_60 1 2 _
  refine zh_aload_n (pn := 1) rfl dX0_init_0 (i := 0) (v := .ref 33) rfl rfl (Or.inr ⟨_, rfl⟩) ?_
  refine zh_obj (pn := 4) rfl dX0_init_1 mc_X0_3 me_obj.1 me_obj.2 (fun _ _ => Nat.le_of_ble_eq_true rfl) ?_
  refine zh_aload_n (pn := 5) rfl dX0_init_4 (i := 0) (v := .ref 33) rfl rfl (Or.inr ⟨_, rfl⟩) ?_
  refine zh_iload_n (pn := 6) rfl dX0_init_5 (i := 1) (x := 2) rfl rfl ?_
  refine zh_newa (pn := 8) (bc := 0) (bs := 0) (t := 0) (N := 2) rfl dX0_init_6 rfl me_arr_int (fun _ => rfl) rfl (fun _ _ q => q) rfl (by decide) rfl (by decide) ?_
  show zh_W X (d + 1) yX0_init cX0_init 2 none 8 [some (.ref 33), some (.int 2)] [.ref 34, .ref 33] zL_65 zM_61 0 0 _
  refine zh_putF (pn := 11) rfl dX0_init_8 (i := 32) (k := 0) (r := some 34) rfl rfl (by decide) (by decide) in_X0 tyX0_ok nmX0 mf_X0_9 rfl rfl rfl rfl (fun _ _ => rfl) (fun _ _ => rfl) ?_
  show zh_W X (d + 1) yX0_init cX0_init 2 none 11 [some (.ref 33), some (.int 2)] [] zL_66 zM_61 0 0 _
  refine zh_aload_n (pn := 12) rfl dX0_init_11 (i := 0) (v := .ref 33) rfl rfl (Or.inr ⟨_, rfl⟩) ?_
  refine zh_iconst (pn := 13) rfl dX0_init_12 (v := 0) rfl ?_
  refine zh_put (pn := 16) rfl dX0_init_13 (k := 1) rfl rfl (by decide) (by decide) in_X0 tyX0_ok nmX0 mf_X0_15 rfl rfl rfl rfl ?_
  show zh_W X (d + 1) yX0_init cX0_init 2 none 16 [some (.ref 33), some (.int 2)] [] zL_66 zM_62 0 0 _
  exact zh_vret dX0_init_16 rfl ⟨rfl, rfl, rfl⟩
set_option maxRecDepth 100000 in
set_option maxHeartbeats 4000000 in
theorem kt_X0_init_11 {X : Nat × (Nat → Int32)} {d : Nat} : zh_W X (d + 1) yX0_init cX0_init 2 none 0 (zh_en [.ref 35, .int 3] 2) [] zL_68 zM_63 1 3 (fun r L M => r = none ∧ L = zL_70 ∧ M = zM_65) := by
  show zh_W X (d + 1) yX0_init cX0_init 2 none 0 [some (.ref 35), some (.int 3)] [] zL_68 zM_63 1 3 _
  refine zh_aload_n (pn := 1) rfl dX0_init_0 (i := 0) (v := .ref 35) rfl rfl (Or.inr ⟨_, rfl⟩) ?_
  refine zh_obj (pn := 4) rfl dX0_init_1 mc_X0_3 me_obj.1 me_obj.2 (fun _ _ => Nat.le_of_ble_eq_true rfl) ?_
  refine zh_aload_n (pn := 5) rfl dX0_init_4 (i := 0) (v := .ref 35) rfl rfl (Or.inr ⟨_, rfl⟩) ?_
  refine zh_iload_n (pn := 6) rfl dX0_init_5 (i := 1) (x := 3) rfl rfl ?_
  refine zh_newa (pn := 8) (bc := 0) (bs := 0) (t := 0) (N := 3) rfl dX0_init_6 rfl me_arr_int (fun _ => rfl) rfl (fun _ _ q => q) rfl (by decide) rfl (by decide) ?_
  show zh_W X (d + 1) yX0_init cX0_init 2 none 8 [some (.ref 35), some (.int 3)] [.ref 36, .ref 35] zL_69 zM_64 0 0 _
  refine zh_putF (pn := 11) rfl dX0_init_8 (i := 34) (k := 0) (r := some 36) rfl rfl (by decide) (by decide) in_X0 tyX0_ok nmX0 mf_X0_9 rfl rfl rfl rfl (fun _ _ => rfl) (fun _ _ => rfl) ?_
  show zh_W X (d + 1) yX0_init cX0_init 2 none 11 [some (.ref 35), some (.int 3)] [] zL_70 zM_64 0 0 _
  refine zh_aload_n (pn := 12) rfl dX0_init_11 (i := 0) (v := .ref 35) rfl rfl (Or.inr ⟨_, rfl⟩) ?_
  refine zh_iconst (pn := 13) rfl dX0_init_12 (v := 0) rfl ?_
  refine zh_put (pn := 16) rfl dX0_init_13 (k := 1) rfl rfl (by decide) (by decide) in_X0 tyX0_ok nmX0 mf_X0_15 rfl rfl rfl rfl ?_
  show zh_W X (d + 1) yX0_init cX0_init 2 none 16 [some (.ref 35), some (.int 3)] [] zL_70 zM_65 0 0 _
  exact zh_vret dX0_init_16 rfl ⟨rfl, rfl, rfl⟩
set_option maxRecDepth 100000 in
set_option maxHeartbeats 4000000 in
theorem kt_X1_init_12 {X : Nat × (Nat → Int32)} {d : Nat} : zh_W X (d + 1) yX1_init cX1_init 4 none 0 (zh_en [.ref 37, .ref 2, .ref 9, .ref 28] 4) [] zL_72 zM_66 1 128 (fun r L M => r = none ∧ L = zL_77 ∧ M = zM_73) := by
  show zh_W X (d + 1) yX1_init cX1_init 4 none 0 [some (.ref 37), some (.ref 2), some (.ref 9), some (.ref 28)] [] zL_72 zM_66 1 128 _
  refine zh_aload_n (pn := 1) rfl dX1_init_0 (i := 0) (v := .ref 37) rfl rfl (Or.inr ⟨_, rfl⟩) ?_
  refine zh_obj (pn := 4) rfl dX1_init_1 mc_X1_3 me_obj.1 me_obj.2 (fun _ _ => Nat.le_of_ble_eq_true rfl) ?_
  refine zh_aload_n (pn := 5) rfl dX1_init_4 (i := 0) (v := .ref 37) rfl rfl (Or.inr ⟨_, rfl⟩) ?_
  refine zh_aload_n (pn := 6) rfl dX1_init_5 (i := 1) (v := .ref 2) rfl rfl (Or.inr ⟨_, rfl⟩) ?_
  refine zh_putF (pn := 9) rfl dX1_init_6 (i := 36) (k := 0) (r := some 2) rfl rfl (by decide) (by decide) in_X1 tyX1_ok nmX1 mf_X1_9 rfl rfl rfl rfl (fun _ _ => rfl) (fun _ _ => rfl) ?_
  show zh_W X (d + 1) yX1_init cX1_init 4 none 9 [some (.ref 37), some (.ref 2), some (.ref 9), some (.ref 28)] [] zL_73 zM_66 1 128 _
  refine zh_aload_n (pn := 10) rfl dX1_init_9 (i := 0) (v := .ref 37) rfl rfl (Or.inr ⟨_, rfl⟩) ?_
  refine zh_aload_n (pn := 11) rfl dX1_init_10 (i := 2) (v := .ref 9) rfl rfl (Or.inr ⟨_, rfl⟩) ?_
  refine zh_putF (pn := 14) rfl dX1_init_11 (i := 36) (k := 1) (r := some 9) rfl rfl (by decide) (by decide) in_X1 tyX1_ok nmX1 mf_X1_15 rfl rfl rfl rfl (fun _ _ => rfl) (fun _ _ => rfl) ?_
  show zh_W X (d + 1) yX1_init cX1_init 4 none 14 [some (.ref 37), some (.ref 2), some (.ref 9), some (.ref 28)] [] zL_74 zM_66 1 128 _
  refine zh_aload_n (pn := 15) rfl dX1_init_14 (i := 0) (v := .ref 37) rfl rfl (Or.inr ⟨_, rfl⟩) ?_
  refine zh_aload_n (pn := 16) rfl dX1_init_15 (i := 3) (v := .ref 28) rfl rfl (Or.inr ⟨_, rfl⟩) ?_
  refine zh_putF (pn := 19) rfl dX1_init_16 (i := 36) (k := 2) (r := some 28) rfl rfl (by decide) (by decide) in_X1 tyX1_ok nmX1 mf_X1_19 rfl rfl rfl rfl (fun _ _ => rfl) (fun _ _ => rfl) ?_
  show zh_W X (d + 1) yX1_init cX1_init 4 none 19 [some (.ref 37), some (.ref 2), some (.ref 9), some (.ref 28)] [] zL_75 zM_66 1 128 _
  refine zh_aload_n (pn := 20) rfl dX1_init_19 (i := 0) (v := .ref 37) rfl rfl (Or.inr ⟨_, rfl⟩) ?_
  refine zh_sipush (pn := 23) rfl dX1_init_20 (v := 128) rfl ?_
  refine zh_newa (pn := 25) (bc := 0) (bs := 0) (t := 0) (N := 128) rfl dX1_init_23 rfl me_arr_int (fun _ => rfl) rfl (fun _ _ q => q) rfl (by decide) rfl (by decide) ?_
  show zh_W X (d + 1) yX1_init cX1_init 4 none 25 [some (.ref 37), some (.ref 2), some (.ref 9), some (.ref 28)] [.ref 38, .ref 37] zL_76 zM_67 0 0 _
  refine zh_putF (pn := 28) rfl dX1_init_25 (i := 36) (k := 3) (r := some 38) rfl rfl (by decide) (by decide) in_X1 tyX1_ok nmX1 mf_X1_23 rfl rfl rfl rfl (fun _ _ => rfl) (fun _ _ => rfl) ?_
  show zh_W X (d + 1) yX1_init cX1_init 4 none 28 [some (.ref 37), some (.ref 2), some (.ref 9), some (.ref 28)] [] zL_77 zM_67 0 0 _
  refine zh_aload_n (pn := 29) rfl dX1_init_28 (i := 0) (v := .ref 37) rfl rfl (Or.inr ⟨_, rfl⟩) ?_
  refine zh_iconst (pn := 30) rfl dX1_init_29 (v := 0) rfl ?_
  refine zh_put (pn := 33) rfl dX1_init_30 (k := 4) rfl rfl (by decide) (by decide) in_X1 tyX1_ok nmX1 mf_X1_27 rfl rfl rfl rfl ?_
  show zh_W X (d + 1) yX1_init cX1_init 4 none 33 [some (.ref 37), some (.ref 2), some (.ref 9), some (.ref 28)] [] zL_77 zM_68 0 0 _
  refine zh_aload_n (pn := 34) rfl dX1_init_33 (i := 0) (v := .ref 37) rfl rfl (Or.inr ⟨_, rfl⟩) ?_
  refine zh_iconst (pn := 35) rfl dX1_init_34 (v := 0) rfl ?_
  refine zh_put (pn := 38) rfl dX1_init_35 (k := 5) rfl rfl (by decide) (by decide) in_X1 tyX1_ok nmX1 mf_X1_31 rfl rfl rfl rfl ?_
  show zh_W X (d + 1) yX1_init cX1_init 4 none 38 [some (.ref 37), some (.ref 2), some (.ref 9), some (.ref 28)] [] zL_77 zM_69 0 0 _
  refine zh_aload_n (pn := 39) rfl dX1_init_38 (i := 0) (v := .ref 37) rfl rfl (Or.inr ⟨_, rfl⟩) ?_
  refine zh_iconst (pn := 40) rfl dX1_init_39 (v := 0) rfl ?_
  refine zh_put (pn := 43) rfl dX1_init_40 (k := 6) rfl rfl (by decide) (by decide) in_X1 tyX1_ok nmX1 mf_X1_35 rfl rfl rfl rfl ?_
  show zh_W X (d + 1) yX1_init cX1_init 4 none 43 [some (.ref 37), some (.ref 2), some (.ref 9), some (.ref 28)] [] zL_77 zM_70 0 0 _
  refine zh_aload_n (pn := 44) rfl dX1_init_43 (i := 0) (v := .ref 37) rfl rfl (Or.inr ⟨_, rfl⟩) ?_
  refine zh_iconst (pn := 45) rfl dX1_init_44 (v := 0) rfl ?_
  refine zh_put (pn := 48) rfl dX1_init_45 (k := 7) rfl rfl (by decide) (by decide) in_X1 tyX1_ok nmX1 mf_X1_38 rfl rfl rfl rfl ?_
  show zh_W X (d + 1) yX1_init cX1_init 4 none 48 [some (.ref 37), some (.ref 2), some (.ref 9), some (.ref 28)] [] zL_77 zM_71 0 0 _
  refine zh_aload_n (pn := 49) rfl dX1_init_48 (i := 0) (v := .ref 37) rfl rfl (Or.inr ⟨_, rfl⟩) ?_
  refine zh_iconst (pn := 50) rfl dX1_init_49 (v := 0) rfl ?_
  refine zh_put (pn := 53) rfl dX1_init_50 (k := 8) rfl rfl (by decide) (by decide) in_X1 tyX1_ok nmX1 mf_X1_41 rfl rfl rfl rfl ?_
  show zh_W X (d + 1) yX1_init cX1_init 4 none 53 [some (.ref 37), some (.ref 2), some (.ref 9), some (.ref 28)] [] zL_77 zM_72 0 0 _
  refine zh_aload_n (pn := 54) rfl dX1_init_53 (i := 0) (v := .ref 37) rfl rfl (Or.inr ⟨_, rfl⟩) ?_
  refine zh_bipush (pn := 56) rfl dX1_init_54 (v := 64) rfl ?_
  refine zh_put (pn := 59) rfl dX1_init_56 (k := 9) rfl rfl (by decide) (by decide) in_X1 tyX1_ok nmX1 mf_X1_44 rfl rfl rfl rfl ?_
  show zh_W X (d + 1) yX1_init cX1_init 4 none 59 [some (.ref 37), some (.ref 2), some (.ref 9), some (.ref 28)] [] zL_77 zM_73 0 0 _
  exact zh_vret dX1_init_59 rfl ⟨rfl, rfl, rfl⟩
set_option maxRecDepth 100000 in
set_option maxHeartbeats 4000000 in
theorem kt_X2_beginToLive_13 {X : Nat × (Nat → Int32)} {d : Nat} : zh_W X (d + 0) yX2_beginToLive cX2_beginToLive 3 none 0 (zh_en [.ref 10, .int (-1)] 3) [] zL_78 zM_74 0 0 (fun r L M => r = none ∧ L = zL_78 ∧ M = zM_84) := by
  show zh_W X (d + 0) yX2_beginToLive cX2_beginToLive 3 none 0 [some (.ref 10), some (.int (-1)), none] [] zL_78 zM_74 0 0 _
  refine zh_aload_n (pn := 1) rfl dX2_beginToLive_0 (i := 0) (v := .ref 10) rfl rfl (Or.inr ⟨_, rfl⟩) ?_
  refine zh_iconst (pn := 2) rfl dX2_beginToLive_1 (v := 1) rfl ?_
  refine zh_put (pn := 5) rfl dX2_beginToLive_2 (k := 2) rfl rfl (by decide) (by decide) in_X2 tyX2_ok nmX2 mf_X2_18 rfl rfl rfl rfl ?_
  show zh_W X (d + 0) yX2_beginToLive cX2_beginToLive 3 none 5 [some (.ref 10), some (.int (-1)), none] [] zL_78 zM_75 0 0 _
  refine zh_aload_n (pn := 6) rfl dX2_beginToLive_5 (i := 0) (v := .ref 10) rfl rfl (Or.inr ⟨_, rfl⟩) ?_
  refine zh_iconst (pn := 7) rfl dX2_beginToLive_6 (v := 1) rfl ?_
  refine zh_put (pn := 10) rfl dX2_beginToLive_7 (k := 3) rfl rfl (by decide) (by decide) in_X2 tyX2_ok nmX2 mf_X2_22 rfl rfl rfl rfl ?_
  show zh_W X (d + 0) yX2_beginToLive cX2_beginToLive 3 none 10 [some (.ref 10), some (.int (-1)), none] [] zL_78 zM_76 0 0 _
  refine zh_aload_n (pn := 11) rfl dX2_beginToLive_10 (i := 0) (v := .ref 10) rfl rfl (Or.inr ⟨_, rfl⟩) ?_
  refine zh_iconst (pn := 12) rfl dX2_beginToLive_11 (v := 2) rfl ?_
  refine zh_put (pn := 15) rfl dX2_beginToLive_12 (k := 4) rfl rfl (by decide) (by decide) in_X2 tyX2_ok nmX2 mf_X2_25 rfl rfl rfl rfl ?_
  show zh_W X (d + 0) yX2_beginToLive cX2_beginToLive 3 none 15 [some (.ref 10), some (.int (-1)), none] [] zL_78 zM_77 0 0 _
  refine zh_aload_n (pn := 16) rfl dX2_beginToLive_15 (i := 0) (v := .ref 10) rfl rfl (Or.inr ⟨_, rfl⟩) ?_
  refine zh_iconst (pn := 17) rfl dX2_beginToLive_16 (v := 0) rfl ?_
  refine zh_put (pn := 20) rfl dX2_beginToLive_17 (k := 6) rfl rfl (by decide) (by decide) in_X2 tyX2_ok nmX2 mf_X2_31 rfl rfl rfl rfl ?_
  show zh_W X (d + 0) yX2_beginToLive cX2_beginToLive 3 none 20 [some (.ref 10), some (.int (-1)), none] [] zL_78 zM_78 0 0 _
  refine zh_aload_n (pn := 21) rfl dX2_beginToLive_20 (i := 0) (v := .ref 10) rfl rfl (Or.inr ⟨_, rfl⟩) ?_
  refine zh_iconst (pn := 22) rfl dX2_beginToLive_21 (v := (-1)) rfl ?_
  refine zh_put (pn := 25) rfl dX2_beginToLive_22 (k := 7) rfl rfl (by decide) (by decide) in_X2 tyX2_ok nmX2 mf_X2_28 rfl rfl rfl rfl ?_
  show zh_W X (d + 0) yX2_beginToLive cX2_beginToLive 3 none 25 [some (.ref 10), some (.int (-1)), none] [] zL_78 zM_79 0 0 _
  refine zh_aload_n (pn := 26) rfl dX2_beginToLive_25 (i := 0) (v := .ref 10) rfl rfl (Or.inr ⟨_, rfl⟩) ?_
  refine zh_get (pn := 29) rfl dX2_beginToLive_26 (v := .ref 11) (k := 0) rfl rfl (by decide) (by decide) in_X2 mf_X2_9 rfl ?_
  refine zh_iconst (pn := 30) rfl dX2_beginToLive_29 (v := 0) rfl ?_
  refine zh_iload_n (pn := 31) rfl dX2_beginToLive_30 (i := 1) (x := (-1)) rfl rfl ?_
  refine zh_iast (pn := 32) rfl dX2_beginToLive_31 rfl (by unfold vp_in; decide) ?_
  show zh_W X (d + 0) yX2_beginToLive cX2_beginToLive 3 none 32 [some (.ref 10), some (.int (-1)), none] [] zL_78 zM_80 0 0 _
  refine zh_iconst (pn := 33) rfl dX2_beginToLive_32 (v := 1) rfl ?_
  refine zh_istore_n (pn := 34) rfl dX2_beginToLive_33 (i := 2) (lo' := [some (.ref 10), some (.int (-1)), some (.int 1)]) rfl (by decide) rfl ?_
  refine zh_iload_n (pn := 35) rfl dX2_beginToLive_34 (i := 2) (x := 1) rfl rfl ?_
  refine zh_iconst (pn := 36) rfl dX2_beginToLive_35 (v := 4) rfl ?_
  refine zh_icmp_ge (pn := 39) rfl dX2_beginToLive_36 (tgt := 52) rfl (fun cc1 => absurd cc1 (by decide)) (fun _ => ?_)
  refine zh_aload_n (pn := 40) rfl dX2_beginToLive_39 (i := 0) (v := .ref 10) rfl rfl (Or.inr ⟨_, rfl⟩) ?_
  refine zh_get (pn := 43) rfl dX2_beginToLive_40 (v := .ref 11) (k := 0) rfl rfl (by decide) (by decide) in_X2 mf_X2_9 rfl ?_
  refine zh_iload_n (pn := 44) rfl dX2_beginToLive_43 (i := 2) (x := 1) rfl rfl ?_
  refine zh_iconst (pn := 45) rfl dX2_beginToLive_44 (v := (-1)) rfl ?_
  refine zh_iast (pn := 46) rfl dX2_beginToLive_45 rfl (by unfold vp_in; decide) ?_
  show zh_W X (d + 0) yX2_beginToLive cX2_beginToLive 3 none 46 [some (.ref 10), some (.int (-1)), some (.int 1)] [] zL_78 zM_81 0 0 _
  refine zh_iinc (pn := 49) rfl dX2_beginToLive_46 (i := 2) (x := 1) (v := 2) (lo' := [some (.ref 10), some (.int (-1)), some (.int 2)]) rfl rfl (by decide) rfl ?_
  refine zh_goto dX2_beginToLive_49 (tgt := 34) rfl ?_
  refine zh_iload_n (pn := 35) rfl dX2_beginToLive_34 (i := 2) (x := 2) rfl rfl ?_
  refine zh_iconst (pn := 36) rfl dX2_beginToLive_35 (v := 4) rfl ?_
  refine zh_icmp_ge (pn := 39) rfl dX2_beginToLive_36 (tgt := 52) rfl (fun cc1 => absurd cc1 (by decide)) (fun _ => ?_)
  refine zh_aload_n (pn := 40) rfl dX2_beginToLive_39 (i := 0) (v := .ref 10) rfl rfl (Or.inr ⟨_, rfl⟩) ?_
  refine zh_get (pn := 43) rfl dX2_beginToLive_40 (v := .ref 11) (k := 0) rfl rfl (by decide) (by decide) in_X2 mf_X2_9 rfl ?_
  refine zh_iload_n (pn := 44) rfl dX2_beginToLive_43 (i := 2) (x := 2) rfl rfl ?_
  refine zh_iconst (pn := 45) rfl dX2_beginToLive_44 (v := (-1)) rfl ?_
  refine zh_iast (pn := 46) rfl dX2_beginToLive_45 rfl (by unfold vp_in; decide) ?_
  show zh_W X (d + 0) yX2_beginToLive cX2_beginToLive 3 none 46 [some (.ref 10), some (.int (-1)), some (.int 2)] [] zL_78 zM_82 0 0 _
  refine zh_iinc (pn := 49) rfl dX2_beginToLive_46 (i := 2) (x := 2) (v := 3) (lo' := [some (.ref 10), some (.int (-1)), some (.int 3)]) rfl rfl (by decide) rfl ?_
  refine zh_goto dX2_beginToLive_49 (tgt := 34) rfl ?_
  refine zh_iload_n (pn := 35) rfl dX2_beginToLive_34 (i := 2) (x := 3) rfl rfl ?_
  refine zh_iconst (pn := 36) rfl dX2_beginToLive_35 (v := 4) rfl ?_
  refine zh_icmp_ge (pn := 39) rfl dX2_beginToLive_36 (tgt := 52) rfl (fun cc1 => absurd cc1 (by decide)) (fun _ => ?_)
  refine zh_aload_n (pn := 40) rfl dX2_beginToLive_39 (i := 0) (v := .ref 10) rfl rfl (Or.inr ⟨_, rfl⟩) ?_
  refine zh_get (pn := 43) rfl dX2_beginToLive_40 (v := .ref 11) (k := 0) rfl rfl (by decide) (by decide) in_X2 mf_X2_9 rfl ?_
  refine zh_iload_n (pn := 44) rfl dX2_beginToLive_43 (i := 2) (x := 3) rfl rfl ?_
  refine zh_iconst (pn := 45) rfl dX2_beginToLive_44 (v := (-1)) rfl ?_
  refine zh_iast (pn := 46) rfl dX2_beginToLive_45 rfl (by unfold vp_in; decide) ?_
  show zh_W X (d + 0) yX2_beginToLive cX2_beginToLive 3 none 46 [some (.ref 10), some (.int (-1)), some (.int 3)] [] zL_78 zM_83 0 0 _
  refine zh_iinc (pn := 49) rfl dX2_beginToLive_46 (i := 2) (x := 3) (v := 4) (lo' := [some (.ref 10), some (.int (-1)), some (.int 4)]) rfl rfl (by decide) rfl ?_
  refine zh_goto dX2_beginToLive_49 (tgt := 34) rfl ?_
  refine zh_iload_n (pn := 35) rfl dX2_beginToLive_34 (i := 2) (x := 4) rfl rfl ?_
  refine zh_iconst (pn := 36) rfl dX2_beginToLive_35 (v := 4) rfl ?_
  refine zh_icmp_ge (pn := 39) rfl dX2_beginToLive_36 (tgt := 52) rfl (fun _ => ?_) (fun cc1 => absurd cc1 (by decide))
  refine zh_aload_n (pn := 53) rfl dX2_beginToLive_52 (i := 0) (v := .ref 10) rfl rfl (Or.inr ⟨_, rfl⟩) ?_
  refine zh_get (pn := 56) rfl dX2_beginToLive_53 (v := .ref 12) (k := 1) rfl rfl (by decide) (by decide) in_X2 mf_X2_15 rfl ?_
  refine zh_iconst (pn := 57) rfl dX2_beginToLive_56 (v := 0) rfl ?_
  refine zh_iconst (pn := 58) rfl dX2_beginToLive_57 (v := (-1)) rfl ?_
  refine zh_iast (pn := 59) rfl dX2_beginToLive_58 rfl (by unfold vp_in; decide) ?_
  show zh_W X (d + 0) yX2_beginToLive cX2_beginToLive 3 none 59 [some (.ref 10), some (.int (-1)), some (.int 4)] [] zL_78 zM_84 0 0 _
  exact zh_vret dX2_beginToLive_59 rfl ⟨rfl, rfl, rfl⟩
set_option maxRecDepth 100000 in
set_option maxHeartbeats 4000000 in
theorem kt_X4_init_14 {X : Nat × (Nat → Int32)} {d : Nat} : zh_W X (d + 2) yX4_init cX4_init 2 none 0 (zh_en [.ref 1] 2) [] zL_1 zM_1 37 1393 (fun r L M => r = none ∧ L = zL_78 ∧ M = zM_84) := by
  show zh_W X (d + 2) yX4_init cX4_init 2 none 0 [some (.ref 1), none] [] zL_1 zM_1 37 1393 _
  refine zh_aload_n (pn := 1) rfl dX4_init_0 (i := 0) (v := .ref 1) rfl rfl (Or.inr ⟨_, rfl⟩) ?_
  refine zh_obj (pn := 4) rfl dX4_init_1 mc_X4_3 me_obj.1 me_obj.2 (fun _ _ => Nat.le_of_ble_eq_true rfl) ?_
  refine zh_aload_n (pn := 5) rfl dX4_init_4 (i := 0) (v := .ref 1) rfl rfl (Or.inr ⟨_, rfl⟩) ?_
  refine zh_new (pn := 8) (bc := 36) (bs := 1386) rfl dX4_init_5 rfl (by decide) in_X3 tyX3_ok mk_X4_9 in2_X3.1 in2_X3.2 df_X3 ?_
  show zh_W X (d + 2) yX4_init cX4_init 2 none 8 [some (.ref 1), none] [.ref 2, .ref 1] zL_2 zM_2 36 1386 _
  refine zh_dup (pn := 9) rfl dX4_init_8 (fun _ _ => rfl) ?_
  refine zh_callI (pn := 12) (bc := 30) (bs := 714) (bc' := 6) (bs' := 672) (as := []) (st := [.ref 2, .ref 1]) rfl dX4_init_9 rfl mc_X4_11 me_X3_init.1 me_X3_init.2.1 me_X3_init.2.2 ⟨by decide, by decide, by decide⟩ (by decide +kernel) (fun v hv => by cases hv) (fun _ _ => Nat.le_of_ble_eq_true rfl) (by decide) (by decide) kt_X3_init_1 (fun r L' M' q => by obtain ⟨-, rfl, -⟩ := q; rfl) (fun r L' M' q => ?_)
  obtain ⟨rfl, rfl, rfl⟩ := q
  show zh_W X (d + 2) yX4_init cX4_init 2 none 12 [some (.ref 1), none] [.ref 2, .ref 1] zL_14 zM_9 30 714 _
  refine zh_putF (pn := 15) rfl dX4_init_12 (i := 0) (k := 0) (r := some 2) rfl rfl (by decide) (by decide) in_X4 tyX4_ok nmX4 mf_X4_12 rfl rfl rfl rfl (fun _ _ => rfl) (fun _ _ => rfl) ?_
  show zh_W X (d + 2) yX4_init cX4_init 2 none 15 [some (.ref 1), none] [] zL_15 zM_9 30 714 _
  refine zh_aload_n (pn := 16) rfl dX4_init_15 (i := 0) (v := .ref 1) rfl rfl (Or.inr ⟨_, rfl⟩) ?_
  refine zh_bipush (pn := 18) rfl dX4_init_16 (v := 6) rfl ?_
  refine zh_newq (pn := 21) (bc := 29) (bs := 708) (t := 2) (N := 6) rfl dX4_init_18 mk_X4_16 (Or.inl rfl) (fun _ => rfl) rfl (by decide) rfl (by decide) ?_
  show zh_W X (d + 2) yX4_init cX4_init 2 none 21 [some (.ref 1), none] [.ref 9, .ref 1] zL_16 zM_10 29 708 _
  refine zh_putF (pn := 24) rfl dX4_init_21 (i := 0) (k := 1) (r := some 9) rfl rfl (by decide) (by decide) in_X4 tyX4_ok nmX4 mf_X4_18 rfl rfl rfl rfl (fun _ _ => rfl) (fun _ _ => rfl) ?_
  show zh_W X (d + 2) yX4_init cX4_init 2 none 24 [some (.ref 1), none] [] zL_17 zM_10 29 708 _
  refine zh_iconst (pn := 25) rfl dX4_init_24 (v := 0) rfl ?_
  refine zh_istore_n (pn := 26) rfl dX4_init_25 (i := 1) (lo' := [some (.ref 1), some (.int 0)]) rfl (by decide) rfl ?_
  refine zh_iload_n (pn := 27) rfl dX4_init_26 (i := 1) (x := 0) rfl rfl ?_
  refine zh_bipush (pn := 29) rfl dX4_init_27 (v := 6) rfl ?_
  refine zh_icmp_ge (pn := 32) rfl dX4_init_29 (tgt := 51) rfl (fun cc1 => absurd cc1 (by decide)) (fun _ => ?_)
  refine zh_aload_n (pn := 33) rfl dX4_init_32 (i := 0) (v := .ref 1) rfl rfl (Or.inr ⟨_, rfl⟩) ?_
  refine zh_get (pn := 36) rfl dX4_init_33 (v := .ref 9) (k := 1) rfl rfl (by decide) (by decide) in_X4 mf_X4_18 rfl ?_
  refine zh_iload_n (pn := 37) rfl dX4_init_36 (i := 1) (x := 0) rfl rfl ?_
  refine zh_new (pn := 40) (bc := 28) (bs := 696) rfl dX4_init_37 rfl (by decide) in_X2 tyX2_ok mk_X4_16 in2_X2.1 in2_X2.2 df_X2 ?_
  show zh_W X (d + 2) yX4_init cX4_init 2 none 40 [some (.ref 1), some (.int 0)] [.ref 10, .int 0, .ref 9] zL_18 zM_11 28 696 _
  refine zh_dup (pn := 41) rfl dX4_init_40 (fun _ _ => rfl) ?_
  refine zh_callI (pn := 44) (bc := 26) (bs := 616) (bc' := 2) (bs' := 80) (as := []) (st := [.ref 10, .int 0, .ref 9]) rfl dX4_init_41 rfl mc_X4_22 me_X2_init.1 me_X2_init.2.1 me_X2_init.2.2 ⟨by decide, by decide, by decide⟩ (by decide +kernel) (fun v hv => by cases hv) (fun _ _ => Nat.le_of_ble_eq_true rfl) (by decide) (by decide) kt_X2_init_2 (fun r L' M' q => by obtain ⟨-, rfl, -⟩ := q; rfl) (fun r L' M' q => ?_)
  obtain ⟨rfl, rfl, rfl⟩ := q
  show zh_W X (d + 2) yX4_init cX4_init 2 none 44 [some (.ref 1), some (.int 0)] [.ref 10, .int 0, .ref 9] zL_22 zM_17 26 616 _
  refine zh_aast (pn := 45) rfl dX4_init_44 (j := 8) (q := 9) (t := 2) rfl rfl (fun _ => rfl) rfl (by decide) rfl (by unfold vp_in; decide) ?_
  show zh_W X (d + 2) yX4_init cX4_init 2 none 45 [some (.ref 1), some (.int 0)] [] zL_23 zM_17 26 616 _
  refine zh_iinc (pn := 48) rfl dX4_init_45 (i := 1) (x := 0) (v := 1) (lo' := [some (.ref 1), some (.int 1)]) rfl rfl (by decide) rfl ?_
  refine zh_goto dX4_init_48 (tgt := 26) rfl ?_
  refine zh_iload_n (pn := 27) rfl dX4_init_26 (i := 1) (x := 1) rfl rfl ?_
  refine zh_bipush (pn := 29) rfl dX4_init_27 (v := 6) rfl ?_
  refine zh_icmp_ge (pn := 32) rfl dX4_init_29 (tgt := 51) rfl (fun cc1 => absurd cc1 (by decide)) (fun _ => ?_)
  refine zh_aload_n (pn := 33) rfl dX4_init_32 (i := 0) (v := .ref 1) rfl rfl (Or.inr ⟨_, rfl⟩) ?_
  refine zh_get (pn := 36) rfl dX4_init_33 (v := .ref 9) (k := 1) rfl rfl (by decide) (by decide) in_X4 mf_X4_18 rfl ?_
  refine zh_iload_n (pn := 37) rfl dX4_init_36 (i := 1) (x := 1) rfl rfl ?_
  refine zh_new (pn := 40) (bc := 25) (bs := 604) rfl dX4_init_37 rfl (by decide) in_X2 tyX2_ok mk_X4_16 in2_X2.1 in2_X2.2 df_X2 ?_
  show zh_W X (d + 2) yX4_init cX4_init 2 none 40 [some (.ref 1), some (.int 1)] [.ref 13, .int 1, .ref 9] zL_24 zM_18 25 604 _
  refine zh_dup (pn := 41) rfl dX4_init_40 (fun _ _ => rfl) ?_
  refine zh_callI (pn := 44) (bc := 23) (bs := 524) (bc' := 2) (bs' := 80) (as := []) (st := [.ref 13, .int 1, .ref 9]) rfl dX4_init_41 rfl mc_X4_22 me_X2_init.1 me_X2_init.2.1 me_X2_init.2.2 ⟨by decide, by decide, by decide⟩ (by decide +kernel) (fun v hv => by cases hv) (fun _ _ => Nat.le_of_ble_eq_true rfl) (by decide) (by decide) kt_X2_init_3 (fun r L' M' q => by obtain ⟨-, rfl, -⟩ := q; rfl) (fun r L' M' q => ?_)
  obtain ⟨rfl, rfl, rfl⟩ := q
  show zh_W X (d + 2) yX4_init cX4_init 2 none 44 [some (.ref 1), some (.int 1)] [.ref 13, .int 1, .ref 9] zL_28 zM_24 23 524 _
  refine zh_aast (pn := 45) rfl dX4_init_44 (j := 8) (q := 12) (t := 2) rfl rfl (fun _ => rfl) rfl (by decide) rfl (by unfold vp_in; decide) ?_
  show zh_W X (d + 2) yX4_init cX4_init 2 none 45 [some (.ref 1), some (.int 1)] [] zL_29 zM_24 23 524 _
  refine zh_iinc (pn := 48) rfl dX4_init_45 (i := 1) (x := 1) (v := 2) (lo' := [some (.ref 1), some (.int 2)]) rfl rfl (by decide) rfl ?_
  refine zh_goto dX4_init_48 (tgt := 26) rfl ?_
  refine zh_iload_n (pn := 27) rfl dX4_init_26 (i := 1) (x := 2) rfl rfl ?_
  refine zh_bipush (pn := 29) rfl dX4_init_27 (v := 6) rfl ?_
  refine zh_icmp_ge (pn := 32) rfl dX4_init_29 (tgt := 51) rfl (fun cc1 => absurd cc1 (by decide)) (fun _ => ?_)
  refine zh_aload_n (pn := 33) rfl dX4_init_32 (i := 0) (v := .ref 1) rfl rfl (Or.inr ⟨_, rfl⟩) ?_
  refine zh_get (pn := 36) rfl dX4_init_33 (v := .ref 9) (k := 1) rfl rfl (by decide) (by decide) in_X4 mf_X4_18 rfl ?_
  refine zh_iload_n (pn := 37) rfl dX4_init_36 (i := 1) (x := 2) rfl rfl ?_
  refine zh_new (pn := 40) (bc := 22) (bs := 512) rfl dX4_init_37 rfl (by decide) in_X2 tyX2_ok mk_X4_16 in2_X2.1 in2_X2.2 df_X2 ?_
  show zh_W X (d + 2) yX4_init cX4_init 2 none 40 [some (.ref 1), some (.int 2)] [.ref 16, .int 2, .ref 9] zL_30 zM_25 22 512 _
  refine zh_dup (pn := 41) rfl dX4_init_40 (fun _ _ => rfl) ?_
  refine zh_callI (pn := 44) (bc := 20) (bs := 432) (bc' := 2) (bs' := 80) (as := []) (st := [.ref 16, .int 2, .ref 9]) rfl dX4_init_41 rfl mc_X4_22 me_X2_init.1 me_X2_init.2.1 me_X2_init.2.2 ⟨by decide, by decide, by decide⟩ (by decide +kernel) (fun v hv => by cases hv) (fun _ _ => Nat.le_of_ble_eq_true rfl) (by decide) (by decide) kt_X2_init_4 (fun r L' M' q => by obtain ⟨-, rfl, -⟩ := q; rfl) (fun r L' M' q => ?_)
  obtain ⟨rfl, rfl, rfl⟩ := q
  show zh_W X (d + 2) yX4_init cX4_init 2 none 44 [some (.ref 1), some (.int 2)] [.ref 16, .int 2, .ref 9] zL_34 zM_31 20 432 _
  refine zh_aast (pn := 45) rfl dX4_init_44 (j := 8) (q := 15) (t := 2) rfl rfl (fun _ => rfl) rfl (by decide) rfl (by unfold vp_in; decide) ?_
  show zh_W X (d + 2) yX4_init cX4_init 2 none 45 [some (.ref 1), some (.int 2)] [] zL_35 zM_31 20 432 _
  refine zh_iinc (pn := 48) rfl dX4_init_45 (i := 1) (x := 2) (v := 3) (lo' := [some (.ref 1), some (.int 3)]) rfl rfl (by decide) rfl ?_
  refine zh_goto dX4_init_48 (tgt := 26) rfl ?_
  refine zh_iload_n (pn := 27) rfl dX4_init_26 (i := 1) (x := 3) rfl rfl ?_
  refine zh_bipush (pn := 29) rfl dX4_init_27 (v := 6) rfl ?_
  refine zh_icmp_ge (pn := 32) rfl dX4_init_29 (tgt := 51) rfl (fun cc1 => absurd cc1 (by decide)) (fun _ => ?_)
  refine zh_aload_n (pn := 33) rfl dX4_init_32 (i := 0) (v := .ref 1) rfl rfl (Or.inr ⟨_, rfl⟩) ?_
  refine zh_get (pn := 36) rfl dX4_init_33 (v := .ref 9) (k := 1) rfl rfl (by decide) (by decide) in_X4 mf_X4_18 rfl ?_
  refine zh_iload_n (pn := 37) rfl dX4_init_36 (i := 1) (x := 3) rfl rfl ?_
  refine zh_new (pn := 40) (bc := 19) (bs := 420) rfl dX4_init_37 rfl (by decide) in_X2 tyX2_ok mk_X4_16 in2_X2.1 in2_X2.2 df_X2 ?_
  show zh_W X (d + 2) yX4_init cX4_init 2 none 40 [some (.ref 1), some (.int 3)] [.ref 19, .int 3, .ref 9] zL_36 zM_32 19 420 _
  refine zh_dup (pn := 41) rfl dX4_init_40 (fun _ _ => rfl) ?_
  refine zh_callI (pn := 44) (bc := 17) (bs := 340) (bc' := 2) (bs' := 80) (as := []) (st := [.ref 19, .int 3, .ref 9]) rfl dX4_init_41 rfl mc_X4_22 me_X2_init.1 me_X2_init.2.1 me_X2_init.2.2 ⟨by decide, by decide, by decide⟩ (by decide +kernel) (fun v hv => by cases hv) (fun _ _ => Nat.le_of_ble_eq_true rfl) (by decide) (by decide) kt_X2_init_5 (fun r L' M' q => by obtain ⟨-, rfl, -⟩ := q; rfl) (fun r L' M' q => ?_)
  obtain ⟨rfl, rfl, rfl⟩ := q
  show zh_W X (d + 2) yX4_init cX4_init 2 none 44 [some (.ref 1), some (.int 3)] [.ref 19, .int 3, .ref 9] zL_40 zM_38 17 340 _
  refine zh_aast (pn := 45) rfl dX4_init_44 (j := 8) (q := 18) (t := 2) rfl rfl (fun _ => rfl) rfl (by decide) rfl (by unfold vp_in; decide) ?_
  show zh_W X (d + 2) yX4_init cX4_init 2 none 45 [some (.ref 1), some (.int 3)] [] zL_41 zM_38 17 340 _
  refine zh_iinc (pn := 48) rfl dX4_init_45 (i := 1) (x := 3) (v := 4) (lo' := [some (.ref 1), some (.int 4)]) rfl rfl (by decide) rfl ?_
  refine zh_goto dX4_init_48 (tgt := 26) rfl ?_
  refine zh_iload_n (pn := 27) rfl dX4_init_26 (i := 1) (x := 4) rfl rfl ?_
  refine zh_bipush (pn := 29) rfl dX4_init_27 (v := 6) rfl ?_
  refine zh_icmp_ge (pn := 32) rfl dX4_init_29 (tgt := 51) rfl (fun cc1 => absurd cc1 (by decide)) (fun _ => ?_)
  refine zh_aload_n (pn := 33) rfl dX4_init_32 (i := 0) (v := .ref 1) rfl rfl (Or.inr ⟨_, rfl⟩) ?_
  refine zh_get (pn := 36) rfl dX4_init_33 (v := .ref 9) (k := 1) rfl rfl (by decide) (by decide) in_X4 mf_X4_18 rfl ?_
  refine zh_iload_n (pn := 37) rfl dX4_init_36 (i := 1) (x := 4) rfl rfl ?_
  refine zh_new (pn := 40) (bc := 16) (bs := 328) rfl dX4_init_37 rfl (by decide) in_X2 tyX2_ok mk_X4_16 in2_X2.1 in2_X2.2 df_X2 ?_
  show zh_W X (d + 2) yX4_init cX4_init 2 none 40 [some (.ref 1), some (.int 4)] [.ref 22, .int 4, .ref 9] zL_42 zM_39 16 328 _
  refine zh_dup (pn := 41) rfl dX4_init_40 (fun _ _ => rfl) ?_
  refine zh_callI (pn := 44) (bc := 14) (bs := 248) (bc' := 2) (bs' := 80) (as := []) (st := [.ref 22, .int 4, .ref 9]) rfl dX4_init_41 rfl mc_X4_22 me_X2_init.1 me_X2_init.2.1 me_X2_init.2.2 ⟨by decide, by decide, by decide⟩ (by decide +kernel) (fun v hv => by cases hv) (fun _ _ => Nat.le_of_ble_eq_true rfl) (by decide) (by decide) kt_X2_init_6 (fun r L' M' q => by obtain ⟨-, rfl, -⟩ := q; rfl) (fun r L' M' q => ?_)
  obtain ⟨rfl, rfl, rfl⟩ := q
  show zh_W X (d + 2) yX4_init cX4_init 2 none 44 [some (.ref 1), some (.int 4)] [.ref 22, .int 4, .ref 9] zL_46 zM_45 14 248 _
  refine zh_aast (pn := 45) rfl dX4_init_44 (j := 8) (q := 21) (t := 2) rfl rfl (fun _ => rfl) rfl (by decide) rfl (by unfold vp_in; decide) ?_
  show zh_W X (d + 2) yX4_init cX4_init 2 none 45 [some (.ref 1), some (.int 4)] [] zL_47 zM_45 14 248 _
  refine zh_iinc (pn := 48) rfl dX4_init_45 (i := 1) (x := 4) (v := 5) (lo' := [some (.ref 1), some (.int 5)]) rfl rfl (by decide) rfl ?_
  refine zh_goto dX4_init_48 (tgt := 26) rfl ?_
  refine zh_iload_n (pn := 27) rfl dX4_init_26 (i := 1) (x := 5) rfl rfl ?_
  refine zh_bipush (pn := 29) rfl dX4_init_27 (v := 6) rfl ?_
  refine zh_icmp_ge (pn := 32) rfl dX4_init_29 (tgt := 51) rfl (fun cc1 => absurd cc1 (by decide)) (fun _ => ?_)
  refine zh_aload_n (pn := 33) rfl dX4_init_32 (i := 0) (v := .ref 1) rfl rfl (Or.inr ⟨_, rfl⟩) ?_
  refine zh_get (pn := 36) rfl dX4_init_33 (v := .ref 9) (k := 1) rfl rfl (by decide) (by decide) in_X4 mf_X4_18 rfl ?_
  refine zh_iload_n (pn := 37) rfl dX4_init_36 (i := 1) (x := 5) rfl rfl ?_
  refine zh_new (pn := 40) (bc := 13) (bs := 236) rfl dX4_init_37 rfl (by decide) in_X2 tyX2_ok mk_X4_16 in2_X2.1 in2_X2.2 df_X2 ?_
  show zh_W X (d + 2) yX4_init cX4_init 2 none 40 [some (.ref 1), some (.int 5)] [.ref 25, .int 5, .ref 9] zL_48 zM_46 13 236 _
  refine zh_dup (pn := 41) rfl dX4_init_40 (fun _ _ => rfl) ?_
  refine zh_callI (pn := 44) (bc := 11) (bs := 156) (bc' := 2) (bs' := 80) (as := []) (st := [.ref 25, .int 5, .ref 9]) rfl dX4_init_41 rfl mc_X4_22 me_X2_init.1 me_X2_init.2.1 me_X2_init.2.2 ⟨by decide, by decide, by decide⟩ (by decide +kernel) (fun v hv => by cases hv) (fun _ _ => Nat.le_of_ble_eq_true rfl) (by decide) (by decide) kt_X2_init_7 (fun r L' M' q => by obtain ⟨-, rfl, -⟩ := q; rfl) (fun r L' M' q => ?_)
  obtain ⟨rfl, rfl, rfl⟩ := q
  show zh_W X (d + 2) yX4_init cX4_init 2 none 44 [some (.ref 1), some (.int 5)] [.ref 25, .int 5, .ref 9] zL_52 zM_52 11 156 _
  refine zh_aast (pn := 45) rfl dX4_init_44 (j := 8) (q := 24) (t := 2) rfl rfl (fun _ => rfl) rfl (by decide) rfl (by unfold vp_in; decide) ?_
  show zh_W X (d + 2) yX4_init cX4_init 2 none 45 [some (.ref 1), some (.int 5)] [] zL_53 zM_52 11 156 _
  refine zh_iinc (pn := 48) rfl dX4_init_45 (i := 1) (x := 5) (v := 6) (lo' := [some (.ref 1), some (.int 6)]) rfl rfl (by decide) rfl ?_
  refine zh_goto dX4_init_48 (tgt := 26) rfl ?_
  refine zh_iload_n (pn := 27) rfl dX4_init_26 (i := 1) (x := 6) rfl rfl ?_
  refine zh_bipush (pn := 29) rfl dX4_init_27 (v := 6) rfl ?_
  refine zh_icmp_ge (pn := 32) rfl dX4_init_29 (tgt := 51) rfl (fun _ => ?_) (fun cc1 => absurd cc1 (by decide))
  refine zh_aload_n (pn := 52) rfl dX4_init_51 (i := 0) (v := .ref 1) rfl rfl (Or.inr ⟨_, rfl⟩) ?_
  refine zh_iconst (pn := 53) rfl dX4_init_52 (v := 4) rfl ?_
  refine zh_newq (pn := 56) (bc := 10) (bs := 152) (t := 3) (N := 4) rfl dX4_init_53 mk_X4_23 (Or.inr rfl) (fun _ => rfl) rfl (by decide) rfl (by decide) ?_
  show zh_W X (d + 2) yX4_init cX4_init 2 none 56 [some (.ref 1), some (.int 6)] [.ref 28, .ref 1] zL_54 zM_53 10 152 _
  refine zh_putF (pn := 59) rfl dX4_init_56 (i := 0) (k := 2) (r := some 28) rfl rfl (by decide) (by decide) in_X4 tyX4_ok nmX4 mf_X4_25 rfl rfl rfl rfl (fun _ _ => rfl) (fun _ _ => rfl) ?_
  show zh_W X (d + 2) yX4_init cX4_init 2 none 59 [some (.ref 1), some (.int 6)] [] zL_55 zM_53 10 152 _
  refine zh_iconst (pn := 60) rfl dX4_init_59 (v := 0) rfl ?_
  refine zh_istore_n (pn := 61) rfl dX4_init_60 (i := 1) (lo' := [some (.ref 1), some (.int 0)]) rfl (by decide) rfl ?_
  refine zh_iload_n (pn := 62) rfl dX4_init_61 (i := 1) (x := 0) rfl rfl ?_
  refine zh_iconst (pn := 63) rfl dX4_init_62 (v := 4) rfl ?_
  refine zh_icmp_ge (pn := 66) rfl dX4_init_63 (tgt := 86) rfl (fun cc1 => absurd cc1 (by decide)) (fun _ => ?_)
  refine zh_aload_n (pn := 67) rfl dX4_init_66 (i := 0) (v := .ref 1) rfl rfl (Or.inr ⟨_, rfl⟩) ?_
  refine zh_get (pn := 70) rfl dX4_init_67 (v := .ref 28) (k := 2) rfl rfl (by decide) (by decide) in_X4 mf_X4_25 rfl ?_
  refine zh_iload_n (pn := 71) rfl dX4_init_70 (i := 1) (x := 0) rfl rfl ?_
  refine zh_new (pn := 74) (bc := 9) (bs := 150) rfl dX4_init_71 rfl (by decide) in_X0 tyX0_ok mk_X4_23 in2_X0.1 in2_X0.2 df_X0 ?_
  show zh_W X (d + 2) yX4_init cX4_init 2 none 74 [some (.ref 1), some (.int 0)] [.ref 29, .int 0, .ref 28] zL_56 zM_54 9 150 _
  refine zh_dup (pn := 75) rfl dX4_init_74 (fun _ _ => rfl) ?_
  refine zh_iload_n (pn := 76) rfl dX4_init_75 (i := 1) (x := 0) rfl rfl ?_
  refine zh_callI (pn := 79) (bc := 8) (bs := 150) (bc' := 1) (bs' := 0) (as := [.int 0]) (st := [.ref 29, .int 0, .ref 28]) rfl dX4_init_76 rfl mc_X4_29 me_X0_init.1 me_X0_init.2.1 me_X0_init.2.2 ⟨by decide, by decide, by decide⟩ (by decide +kernel) (by intro v hv; simp only [List.mem_cons, List.not_mem_nil, or_false] at hv; rcases hv with rfl <;> (intro _ _; rfl)) (fun _ _ => Nat.le_of_ble_eq_true rfl) (by decide) (by decide) kt_X0_init_8 (fun r L' M' q => by obtain ⟨-, rfl, -⟩ := q; rfl) (fun r L' M' q => ?_)
  obtain ⟨rfl, rfl, rfl⟩ := q
  show zh_W X (d + 2) yX4_init cX4_init 2 none 79 [some (.ref 1), some (.int 0)] [.ref 29, .int 0, .ref 28] zL_58 zM_56 8 150 _
  refine zh_aast (pn := 80) rfl dX4_init_79 (j := 27) (q := 28) (t := 3) rfl rfl (fun _ => rfl) rfl (by decide) rfl (by unfold vp_in; decide) ?_
  show zh_W X (d + 2) yX4_init cX4_init 2 none 80 [some (.ref 1), some (.int 0)] [] zL_59 zM_56 8 150 _
  refine zh_iinc (pn := 83) rfl dX4_init_80 (i := 1) (x := 0) (v := 1) (lo' := [some (.ref 1), some (.int 1)]) rfl rfl (by decide) rfl ?_
  refine zh_goto dX4_init_83 (tgt := 61) rfl ?_
  refine zh_iload_n (pn := 62) rfl dX4_init_61 (i := 1) (x := 1) rfl rfl ?_
  refine zh_iconst (pn := 63) rfl dX4_init_62 (v := 4) rfl ?_
  refine zh_icmp_ge (pn := 66) rfl dX4_init_63 (tgt := 86) rfl (fun cc1 => absurd cc1 (by decide)) (fun _ => ?_)
  refine zh_aload_n (pn := 67) rfl dX4_init_66 (i := 0) (v := .ref 1) rfl rfl (Or.inr ⟨_, rfl⟩) ?_
  refine zh_get (pn := 70) rfl dX4_init_67 (v := .ref 28) (k := 2) rfl rfl (by decide) (by decide) in_X4 mf_X4_25 rfl ?_
  refine zh_iload_n (pn := 71) rfl dX4_init_70 (i := 1) (x := 1) rfl rfl ?_
  refine zh_new (pn := 74) (bc := 7) (bs := 148) rfl dX4_init_71 rfl (by decide) in_X0 tyX0_ok mk_X4_23 in2_X0.1 in2_X0.2 df_X0 ?_
  show zh_W X (d + 2) yX4_init cX4_init 2 none 74 [some (.ref 1), some (.int 1)] [.ref 31, .int 1, .ref 28] zL_60 zM_57 7 148 _
  refine zh_dup (pn := 75) rfl dX4_init_74 (fun _ _ => rfl) ?_
  refine zh_iload_n (pn := 76) rfl dX4_init_75 (i := 1) (x := 1) rfl rfl ?_
  refine zh_callI (pn := 79) (bc := 6) (bs := 147) (bc' := 1) (bs' := 1) (as := [.int 1]) (st := [.ref 31, .int 1, .ref 28]) rfl dX4_init_76 rfl mc_X4_29 me_X0_init.1 me_X0_init.2.1 me_X0_init.2.2 ⟨by decide, by decide, by decide⟩ (by decide +kernel) (by intro v hv; simp only [List.mem_cons, List.not_mem_nil, or_false] at hv; rcases hv with rfl <;> (intro _ _; rfl)) (fun _ _ => Nat.le_of_ble_eq_true rfl) (by decide) (by decide) kt_X0_init_9 (fun r L' M' q => by obtain ⟨-, rfl, -⟩ := q; rfl) (fun r L' M' q => ?_)
  obtain ⟨rfl, rfl, rfl⟩ := q
  show zh_W X (d + 2) yX4_init cX4_init 2 none 79 [some (.ref 1), some (.int 1)] [.ref 31, .int 1, .ref 28] zL_62 zM_59 6 147 _
  refine zh_aast (pn := 80) rfl dX4_init_79 (j := 27) (q := 30) (t := 3) rfl rfl (fun _ => rfl) rfl (by decide) rfl (by unfold vp_in; decide) ?_
  show zh_W X (d + 2) yX4_init cX4_init 2 none 80 [some (.ref 1), some (.int 1)] [] zL_63 zM_59 6 147 _
  refine zh_iinc (pn := 83) rfl dX4_init_80 (i := 1) (x := 1) (v := 2) (lo' := [some (.ref 1), some (.int 2)]) rfl rfl (by decide) rfl ?_
  refine zh_goto dX4_init_83 (tgt := 61) rfl ?_
  refine zh_iload_n (pn := 62) rfl dX4_init_61 (i := 1) (x := 2) rfl rfl ?_
  refine zh_iconst (pn := 63) rfl dX4_init_62 (v := 4) rfl ?_
  refine zh_icmp_ge (pn := 66) rfl dX4_init_63 (tgt := 86) rfl (fun cc1 => absurd cc1 (by decide)) (fun _ => ?_)
  refine zh_aload_n (pn := 67) rfl dX4_init_66 (i := 0) (v := .ref 1) rfl rfl (Or.inr ⟨_, rfl⟩) ?_
  refine zh_get (pn := 70) rfl dX4_init_67 (v := .ref 28) (k := 2) rfl rfl (by decide) (by decide) in_X4 mf_X4_25 rfl ?_
  refine zh_iload_n (pn := 71) rfl dX4_init_70 (i := 1) (x := 2) rfl rfl ?_
  refine zh_new (pn := 74) (bc := 5) (bs := 145) rfl dX4_init_71 rfl (by decide) in_X0 tyX0_ok mk_X4_23 in2_X0.1 in2_X0.2 df_X0 ?_
  show zh_W X (d + 2) yX4_init cX4_init 2 none 74 [some (.ref 1), some (.int 2)] [.ref 33, .int 2, .ref 28] zL_64 zM_60 5 145 _
  refine zh_dup (pn := 75) rfl dX4_init_74 (fun _ _ => rfl) ?_
  refine zh_iload_n (pn := 76) rfl dX4_init_75 (i := 1) (x := 2) rfl rfl ?_
  refine zh_callI (pn := 79) (bc := 4) (bs := 143) (bc' := 1) (bs' := 2) (as := [.int 2]) (st := [.ref 33, .int 2, .ref 28]) rfl dX4_init_76 rfl mc_X4_29 me_X0_init.1 me_X0_init.2.1 me_X0_init.2.2 ⟨by decide, by decide, by decide⟩ (by decide +kernel) (by intro v hv; simp only [List.mem_cons, List.not_mem_nil, or_false] at hv; rcases hv with rfl <;> (intro _ _; rfl)) (fun _ _ => Nat.le_of_ble_eq_true rfl) (by decide) (by decide) kt_X0_init_10 (fun r L' M' q => by obtain ⟨-, rfl, -⟩ := q; rfl) (fun r L' M' q => ?_)
  obtain ⟨rfl, rfl, rfl⟩ := q
  show zh_W X (d + 2) yX4_init cX4_init 2 none 79 [some (.ref 1), some (.int 2)] [.ref 33, .int 2, .ref 28] zL_66 zM_62 4 143 _
  refine zh_aast (pn := 80) rfl dX4_init_79 (j := 27) (q := 32) (t := 3) rfl rfl (fun _ => rfl) rfl (by decide) rfl (by unfold vp_in; decide) ?_
  show zh_W X (d + 2) yX4_init cX4_init 2 none 80 [some (.ref 1), some (.int 2)] [] zL_67 zM_62 4 143 _
  refine zh_iinc (pn := 83) rfl dX4_init_80 (i := 1) (x := 2) (v := 3) (lo' := [some (.ref 1), some (.int 3)]) rfl rfl (by decide) rfl ?_
  refine zh_goto dX4_init_83 (tgt := 61) rfl ?_
  refine zh_iload_n (pn := 62) rfl dX4_init_61 (i := 1) (x := 3) rfl rfl ?_
  refine zh_iconst (pn := 63) rfl dX4_init_62 (v := 4) rfl ?_
  refine zh_icmp_ge (pn := 66) rfl dX4_init_63 (tgt := 86) rfl (fun cc1 => absurd cc1 (by decide)) (fun _ => ?_)
  refine zh_aload_n (pn := 67) rfl dX4_init_66 (i := 0) (v := .ref 1) rfl rfl (Or.inr ⟨_, rfl⟩) ?_
  refine zh_get (pn := 70) rfl dX4_init_67 (v := .ref 28) (k := 2) rfl rfl (by decide) (by decide) in_X4 mf_X4_25 rfl ?_
  refine zh_iload_n (pn := 71) rfl dX4_init_70 (i := 1) (x := 3) rfl rfl ?_
  refine zh_new (pn := 74) (bc := 3) (bs := 141) rfl dX4_init_71 rfl (by decide) in_X0 tyX0_ok mk_X4_23 in2_X0.1 in2_X0.2 df_X0 ?_
  show zh_W X (d + 2) yX4_init cX4_init 2 none 74 [some (.ref 1), some (.int 3)] [.ref 35, .int 3, .ref 28] zL_68 zM_63 3 141 _
  refine zh_dup (pn := 75) rfl dX4_init_74 (fun _ _ => rfl) ?_
  refine zh_iload_n (pn := 76) rfl dX4_init_75 (i := 1) (x := 3) rfl rfl ?_
  refine zh_callI (pn := 79) (bc := 2) (bs := 138) (bc' := 1) (bs' := 3) (as := [.int 3]) (st := [.ref 35, .int 3, .ref 28]) rfl dX4_init_76 rfl mc_X4_29 me_X0_init.1 me_X0_init.2.1 me_X0_init.2.2 ⟨by decide, by decide, by decide⟩ (by decide +kernel) (by intro v hv; simp only [List.mem_cons, List.not_mem_nil, or_false] at hv; rcases hv with rfl <;> (intro _ _; rfl)) (fun _ _ => Nat.le_of_ble_eq_true rfl) (by decide) (by decide) kt_X0_init_11 (fun r L' M' q => by obtain ⟨-, rfl, -⟩ := q; rfl) (fun r L' M' q => ?_)
  obtain ⟨rfl, rfl, rfl⟩ := q
  show zh_W X (d + 2) yX4_init cX4_init 2 none 79 [some (.ref 1), some (.int 3)] [.ref 35, .int 3, .ref 28] zL_70 zM_65 2 138 _
  refine zh_aast (pn := 80) rfl dX4_init_79 (j := 27) (q := 34) (t := 3) rfl rfl (fun _ => rfl) rfl (by decide) rfl (by unfold vp_in; decide) ?_
  show zh_W X (d + 2) yX4_init cX4_init 2 none 80 [some (.ref 1), some (.int 3)] [] zL_71 zM_65 2 138 _
  refine zh_iinc (pn := 83) rfl dX4_init_80 (i := 1) (x := 3) (v := 4) (lo' := [some (.ref 1), some (.int 4)]) rfl rfl (by decide) rfl ?_
  refine zh_goto dX4_init_83 (tgt := 61) rfl ?_
  refine zh_iload_n (pn := 62) rfl dX4_init_61 (i := 1) (x := 4) rfl rfl ?_
  refine zh_iconst (pn := 63) rfl dX4_init_62 (v := 4) rfl ?_
  refine zh_icmp_ge (pn := 66) rfl dX4_init_63 (tgt := 86) rfl (fun _ => ?_) (fun cc1 => absurd cc1 (by decide))
  refine zh_aload_n (pn := 87) rfl dX4_init_86 (i := 0) (v := .ref 1) rfl rfl (Or.inr ⟨_, rfl⟩) ?_
  refine zh_new (pn := 90) (bc := 1) (bs := 128) rfl dX4_init_87 rfl (by decide) in_X1 tyX1_ok mk_X4_32 in2_X1.1 in2_X1.2 df_X1 ?_
  show zh_W X (d + 2) yX4_init cX4_init 2 none 90 [some (.ref 1), some (.int 4)] [.ref 37, .ref 1] zL_72 zM_66 1 128 _
  refine zh_dup (pn := 91) rfl dX4_init_90 (fun _ _ => rfl) ?_
  refine zh_aload_n (pn := 92) rfl dX4_init_91 (i := 0) (v := .ref 1) rfl rfl (Or.inr ⟨_, rfl⟩) ?_
  refine zh_get (pn := 95) rfl dX4_init_92 (v := .ref 2) (k := 0) rfl rfl (by decide) (by decide) in_X4 mf_X4_12 rfl ?_
  refine zh_aload_n (pn := 96) rfl dX4_init_95 (i := 0) (v := .ref 1) rfl rfl (Or.inr ⟨_, rfl⟩) ?_
  refine zh_get (pn := 99) rfl dX4_init_96 (v := .ref 9) (k := 1) rfl rfl (by decide) (by decide) in_X4 mf_X4_18 rfl ?_
  refine zh_aload_n (pn := 100) rfl dX4_init_99 (i := 0) (v := .ref 1) rfl rfl (Or.inr ⟨_, rfl⟩) ?_
  refine zh_get (pn := 103) rfl dX4_init_100 (v := .ref 28) (k := 2) rfl rfl (by decide) (by decide) in_X4 mf_X4_25 rfl ?_
  refine zh_callI (pn := 106) (bc := 0) (bs := 0) (bc' := 1) (bs' := 128) (as := [.ref 2, .ref 9, .ref 28]) (st := [.ref 37, .ref 1]) rfl dX4_init_103 rfl mc_X4_34 me_X1_init.1 me_X1_init.2.1 me_X1_init.2.2 ⟨by decide, by decide, by decide⟩ (by decide +kernel) (by intro v hv; simp only [List.mem_cons, List.not_mem_nil, or_false] at hv; rcases hv with rfl | rfl | rfl <;> (intro _ _; rfl)) (fun _ _ => Nat.le_of_ble_eq_true rfl) (by decide) (by decide) kt_X1_init_12 (fun r L' M' q => by obtain ⟨-, rfl, -⟩ := q; rfl) (fun r L' M' q => ?_)
  obtain ⟨rfl, rfl, rfl⟩ := q
  show zh_W X (d + 2) yX4_init cX4_init 2 none 106 [some (.ref 1), some (.int 4)] [.ref 37, .ref 1] zL_77 zM_73 0 0 _
  refine zh_putF (pn := 109) rfl dX4_init_106 (i := 0) (k := 3) (r := some 37) rfl rfl (by decide) (by decide) in_X4 tyX4_ok nmX4 mf_X4_37 rfl rfl rfl rfl (fun _ _ => rfl) (fun _ _ => rfl) ?_
  show zh_W X (d + 2) yX4_init cX4_init 2 none 109 [some (.ref 1), some (.int 4)] [] zL_78 zM_73 0 0 _
  refine zh_aload_n (pn := 110) rfl dX4_init_109 (i := 0) (v := .ref 1) rfl rfl (Or.inr ⟨_, rfl⟩) ?_
  refine zh_iconst (pn := 111) rfl dX4_init_110 (v := 0) rfl ?_
  refine zh_put (pn := 114) rfl dX4_init_111 (k := 4) rfl rfl (by decide) (by decide) in_X4 tyX4_ok nmX4 mf_X4_41 rfl rfl rfl rfl ?_
  show zh_W X (d + 2) yX4_init cX4_init 2 none 114 [some (.ref 1), some (.int 4)] [] zL_78 zM_74 0 0 _
  refine zh_aload_n (pn := 115) rfl dX4_init_114 (i := 0) (v := .ref 1) rfl rfl (Or.inr ⟨_, rfl⟩) ?_
  refine zh_get (pn := 118) rfl dX4_init_115 (v := .ref 9) (k := 1) rfl rfl (by decide) (by decide) in_X4 mf_X4_18 rfl ?_
  refine zh_iconst (pn := 119) rfl dX4_init_118 (v := 0) rfl ?_
  refine zh_aald (pn := 120) rfl dX4_init_119 (t := 2) rfl rfl (fun _ => rfl) (by unfold vp_in; decide) ?_
  show zh_W X (d + 2) yX4_init cX4_init 2 none 120 [some (.ref 1), some (.int 4)] [.ref 10] zL_78 zM_74 0 0 _
  refine zh_iconst (pn := 121) rfl dX4_init_120 (v := (-1)) rfl ?_
  refine zh_callV (pn := 124) (bc := 0) (bs := 0) (bc' := 0) (bs' := 0) (as := [.int (-1)]) (st := []) rfl dX4_init_121 rfl (by decide) rfl rfl mc_X4_45 me_X2_beginToLive.1 me_X2_beginToLive.2.1 me_X2_beginToLive.2.2.1 me_X2_beginToLive.2.2.2 ⟨by decide, by decide, by decide⟩ (by decide +kernel) (by intro v hv; simp only [List.mem_cons, List.not_mem_nil, or_false] at hv; rcases hv with rfl <;> (intro _ _; rfl)) (fun _ _ => Nat.le_of_ble_eq_true rfl) (by decide) (by decide) kt_X2_beginToLive_13 (fun r L' M' q => by obtain ⟨-, rfl, -⟩ := q; rfl) (fun r L' M' q => ?_)
  obtain ⟨rfl, rfl, rfl⟩ := q
  show zh_W X (d + 2) yX4_init cX4_init 2 none 124 [some (.ref 1), some (.int 4)] [] zL_78 zM_84 0 0 _
  exact zh_vret dX4_init_124 rfl ⟨rfl, rfl, rfl⟩
set_option maxRecDepth 100000 in
set_option maxHeartbeats 4000000 in
theorem kt_X5_begin_15 {X : Nat × (Nat → Int32)} {d : Nat} : zh_W X (d + 0) yX5_begin cX5_begin 4 none 0 (zh_en [.ref 39, .int 0, .int (-1)] 4) [] zL_123 zM_108 0 0 (fun r L M => r = none ∧ L = zL_123 ∧ M = zM_118) := by
  show zh_W X (d + 0) yX5_begin cX5_begin 4 none 0 [some (.ref 39), some (.int 0), some (.int (-1)), none] [] zL_123 zM_108 0 0 _
  refine zh_aload_n (pn := 1) rfl dX5_begin_0 (i := 0) (v := .ref 39) rfl rfl (Or.inr ⟨_, rfl⟩) ?_
  refine zh_get (pn := 4) rfl dX5_begin_1 (v := .ref 49) (k := 9) rfl rfl (by decide) (by decide) in_X5 mf_X5_38 rfl ?_
  refine zh_iload_n (pn := 5) rfl dX5_begin_4 (i := 1) (x := 0) rfl rfl ?_
  refine zh_iconst (pn := 6) rfl dX5_begin_5 (v := 1) rfl ?_
  refine zh_iast (pn := 7) rfl dX5_begin_6 rfl (by unfold vp_in; decide) ?_
  show zh_W X (d + 0) yX5_begin cX5_begin 4 none 7 [some (.ref 39), some (.int 0), some (.int (-1)), none] [] zL_123 zM_109 0 0 _
  refine zh_aload_n (pn := 8) rfl dX5_begin_7 (i := 0) (v := .ref 39) rfl rfl (Or.inr ⟨_, rfl⟩) ?_
  refine zh_get (pn := 11) rfl dX5_begin_8 (v := .ref 50) (k := 10) rfl rfl (by decide) (by decide) in_X5 mf_X5_41 rfl ?_
  refine zh_iload_n (pn := 12) rfl dX5_begin_11 (i := 1) (x := 0) rfl rfl ?_
  refine zh_iconst (pn := 13) rfl dX5_begin_12 (v := 1) rfl ?_
  refine zh_iast (pn := 14) rfl dX5_begin_13 rfl (by unfold vp_in; decide) ?_
  show zh_W X (d + 0) yX5_begin cX5_begin 4 none 14 [some (.ref 39), some (.int 0), some (.int (-1)), none] [] zL_123 zM_110 0 0 _
  refine zh_aload_n (pn := 15) rfl dX5_begin_14 (i := 0) (v := .ref 39) rfl rfl (Or.inr ⟨_, rfl⟩) ?_
  refine zh_get (pn := 18) rfl dX5_begin_15 (v := .ref 51) (k := 11) rfl rfl (by decide) (by decide) in_X5 mf_X5_44 rfl ?_
  refine zh_iload_n (pn := 19) rfl dX5_begin_18 (i := 1) (x := 0) rfl rfl ?_
  refine zh_iconst (pn := 20) rfl dX5_begin_19 (v := 2) rfl ?_
  refine zh_iast (pn := 21) rfl dX5_begin_20 rfl (by unfold vp_in; decide) ?_
  show zh_W X (d + 0) yX5_begin cX5_begin 4 none 21 [some (.ref 39), some (.int 0), some (.int (-1)), none] [] zL_123 zM_111 0 0 _
  refine zh_aload_n (pn := 22) rfl dX5_begin_21 (i := 0) (v := .ref 39) rfl rfl (Or.inr ⟨_, rfl⟩) ?_
  refine zh_get (pn := 25) rfl dX5_begin_22 (v := .ref 54) (k := 14) rfl rfl (by decide) (by decide) in_X5 mf_X5_53 rfl ?_
  refine zh_iload_n (pn := 26) rfl dX5_begin_25 (i := 1) (x := 0) rfl rfl ?_
  refine zh_iconst (pn := 27) rfl dX5_begin_26 (v := 0) rfl ?_
  refine zh_zast (pn := 28) rfl dX5_begin_27 (x' := 0) rfl (by unfold vp_in; decide) rfl ?_
  show zh_W X (d + 0) yX5_begin cX5_begin 4 none 28 [some (.ref 39), some (.int 0), some (.int (-1)), none] [] zL_123 zM_112 0 0 _
  refine zh_aload_n (pn := 29) rfl dX5_begin_28 (i := 0) (v := .ref 39) rfl rfl (Or.inr ⟨_, rfl⟩) ?_
  refine zh_get (pn := 32) rfl dX5_begin_29 (v := .ref 59) (k := 19) rfl rfl (by decide) (by decide) in_X5 mf_X5_68 rfl ?_
  refine zh_iload_n (pn := 33) rfl dX5_begin_32 (i := 1) (x := 0) rfl rfl ?_
  refine zh_iconst (pn := 34) rfl dX5_begin_33 (v := (-1)) rfl ?_
  refine zh_iast (pn := 35) rfl dX5_begin_34 rfl (by unfold vp_in; decide) ?_
  show zh_W X (d + 0) yX5_begin cX5_begin 4 none 35 [some (.ref 39), some (.int 0), some (.int (-1)), none] [] zL_123 zM_113 0 0 _
  refine zh_aload_n (pn := 36) rfl dX5_begin_35 (i := 0) (v := .ref 39) rfl rfl (Or.inr ⟨_, rfl⟩) ?_
  refine zh_get (pn := 39) rfl dX5_begin_36 (v := .ref 53) (k := 13) rfl rfl (by decide) (by decide) in_X5 mf_X5_50 rfl ?_
  refine zh_bipush (pn := 41) rfl dX5_begin_39 (v := 16) rfl ?_
  refine zh_iload_n (pn := 42) rfl dX5_begin_41 (i := 1) (x := 0) rfl rfl ?_
  refine zh_imul (pn := 43) rfl dX5_begin_42 ?_
  show zh_W X (d + 0) yX5_begin cX5_begin 4 none 43 [some (.ref 39), some (.int 0), some (.int (-1)), none] [.int 0, .ref 53] zL_123 zM_113 0 0 _
  refine zh_iconst (pn := 44) rfl dX5_begin_43 (v := (-1)) rfl ?_
  refine zh_iast (pn := 45) rfl dX5_begin_44 rfl (by unfold vp_in; decide) ?_
  show zh_W X (d + 0) yX5_begin cX5_begin 4 none 45 [some (.ref 39), some (.int 0), some (.int (-1)), none] [] zL_123 zM_114 0 0 _
  refine zh_iconst (pn := 46) rfl dX5_begin_45 (v := 0) rfl ?_
  refine zh_istore_n (pn := 47) rfl dX5_begin_46 (i := 3) (lo' := [some (.ref 39), some (.int 0), some (.int (-1)), some (.int 0)]) rfl (by decide) rfl ?_
  refine zh_iload_n (pn := 48) rfl dX5_begin_47 (i := 3) (x := 0) rfl rfl ?_
  refine zh_iconst (pn := 49) rfl dX5_begin_48 (v := 4) rfl ?_
  refine zh_icmp_ge (pn := 52) rfl dX5_begin_49 (tgt := 78) rfl (fun cc1 => absurd cc1 (by decide)) (fun _ => ?_)
  refine zh_aload_n (pn := 53) rfl dX5_begin_52 (i := 0) (v := .ref 39) rfl rfl (Or.inr ⟨_, rfl⟩) ?_
  refine zh_get (pn := 56) rfl dX5_begin_53 (v := .ref 52) (k := 12) rfl rfl (by decide) (by decide) in_X5 mf_X5_47 rfl ?_
  refine zh_bipush (pn := 58) rfl dX5_begin_56 (v := 64) rfl ?_
  refine zh_iload_n (pn := 59) rfl dX5_begin_58 (i := 1) (x := 0) rfl rfl ?_
  refine zh_imul (pn := 60) rfl dX5_begin_59 ?_
  show zh_W X (d + 0) yX5_begin cX5_begin 4 none 60 [some (.ref 39), some (.int 0), some (.int (-1)), some (.int 0)] [.int 0, .ref 52] zL_123 zM_114 0 0 _
  refine zh_iload_n (pn := 61) rfl dX5_begin_60 (i := 3) (x := 0) rfl rfl ?_
  refine zh_iadd (pn := 62) rfl dX5_begin_61 ?_
  show zh_W X (d + 0) yX5_begin cX5_begin 4 none 62 [some (.ref 39), some (.int 0), some (.int (-1)), some (.int 0)] [.int 0, .ref 52] zL_123 zM_114 0 0 _
  refine zh_iload_n (pn := 63) rfl dX5_begin_62 (i := 3) (x := 0) rfl rfl ?_
  refine zh_if_ne (pn := 66) rfl dX5_begin_63 (tgt := 70) rfl (fun cc1 => absurd cc1 (by decide)) (fun _ => ?_)
  refine zh_iload_n (pn := 67) rfl dX5_begin_66 (i := 2) (x := (-1)) rfl rfl ?_
  refine zh_goto dX5_begin_67 (tgt := 71) rfl ?_
  refine zh_iast (pn := 72) rfl dX5_begin_71 rfl (by unfold vp_in; decide) ?_
  show zh_W X (d + 0) yX5_begin cX5_begin 4 none 72 [some (.ref 39), some (.int 0), some (.int (-1)), some (.int 0)] [] zL_123 zM_115 0 0 _
  refine zh_iinc (pn := 75) rfl dX5_begin_72 (i := 3) (x := 0) (v := 1) (lo' := [some (.ref 39), some (.int 0), some (.int (-1)), some (.int 1)]) rfl rfl (by decide) rfl ?_
  refine zh_goto dX5_begin_75 (tgt := 47) rfl ?_
  refine zh_iload_n (pn := 48) rfl dX5_begin_47 (i := 3) (x := 1) rfl rfl ?_
  refine zh_iconst (pn := 49) rfl dX5_begin_48 (v := 4) rfl ?_
  refine zh_icmp_ge (pn := 52) rfl dX5_begin_49 (tgt := 78) rfl (fun cc1 => absurd cc1 (by decide)) (fun _ => ?_)
  refine zh_aload_n (pn := 53) rfl dX5_begin_52 (i := 0) (v := .ref 39) rfl rfl (Or.inr ⟨_, rfl⟩) ?_
  refine zh_get (pn := 56) rfl dX5_begin_53 (v := .ref 52) (k := 12) rfl rfl (by decide) (by decide) in_X5 mf_X5_47 rfl ?_
  refine zh_bipush (pn := 58) rfl dX5_begin_56 (v := 64) rfl ?_
  refine zh_iload_n (pn := 59) rfl dX5_begin_58 (i := 1) (x := 0) rfl rfl ?_
  refine zh_imul (pn := 60) rfl dX5_begin_59 ?_
  show zh_W X (d + 0) yX5_begin cX5_begin 4 none 60 [some (.ref 39), some (.int 0), some (.int (-1)), some (.int 1)] [.int 0, .ref 52] zL_123 zM_115 0 0 _
  refine zh_iload_n (pn := 61) rfl dX5_begin_60 (i := 3) (x := 1) rfl rfl ?_
  refine zh_iadd (pn := 62) rfl dX5_begin_61 ?_
  show zh_W X (d + 0) yX5_begin cX5_begin 4 none 62 [some (.ref 39), some (.int 0), some (.int (-1)), some (.int 1)] [.int 1, .ref 52] zL_123 zM_115 0 0 _
  refine zh_iload_n (pn := 63) rfl dX5_begin_62 (i := 3) (x := 1) rfl rfl ?_
  refine zh_if_ne (pn := 66) rfl dX5_begin_63 (tgt := 70) rfl (fun _ => ?_) (fun cc1 => absurd cc1 (by decide))
  refine zh_iconst (pn := 71) rfl dX5_begin_70 (v := (-1)) rfl ?_
  refine zh_iast (pn := 72) rfl dX5_begin_71 rfl (by unfold vp_in; decide) ?_
  show zh_W X (d + 0) yX5_begin cX5_begin 4 none 72 [some (.ref 39), some (.int 0), some (.int (-1)), some (.int 1)] [] zL_123 zM_116 0 0 _
  refine zh_iinc (pn := 75) rfl dX5_begin_72 (i := 3) (x := 1) (v := 2) (lo' := [some (.ref 39), some (.int 0), some (.int (-1)), some (.int 2)]) rfl rfl (by decide) rfl ?_
  refine zh_goto dX5_begin_75 (tgt := 47) rfl ?_
  refine zh_iload_n (pn := 48) rfl dX5_begin_47 (i := 3) (x := 2) rfl rfl ?_
  refine zh_iconst (pn := 49) rfl dX5_begin_48 (v := 4) rfl ?_
  refine zh_icmp_ge (pn := 52) rfl dX5_begin_49 (tgt := 78) rfl (fun cc1 => absurd cc1 (by decide)) (fun _ => ?_)
  refine zh_aload_n (pn := 53) rfl dX5_begin_52 (i := 0) (v := .ref 39) rfl rfl (Or.inr ⟨_, rfl⟩) ?_
  refine zh_get (pn := 56) rfl dX5_begin_53 (v := .ref 52) (k := 12) rfl rfl (by decide) (by decide) in_X5 mf_X5_47 rfl ?_
  refine zh_bipush (pn := 58) rfl dX5_begin_56 (v := 64) rfl ?_
  refine zh_iload_n (pn := 59) rfl dX5_begin_58 (i := 1) (x := 0) rfl rfl ?_
  refine zh_imul (pn := 60) rfl dX5_begin_59 ?_
  show zh_W X (d + 0) yX5_begin cX5_begin 4 none 60 [some (.ref 39), some (.int 0), some (.int (-1)), some (.int 2)] [.int 0, .ref 52] zL_123 zM_116 0 0 _
  refine zh_iload_n (pn := 61) rfl dX5_begin_60 (i := 3) (x := 2) rfl rfl ?_
  refine zh_iadd (pn := 62) rfl dX5_begin_61 ?_
  show zh_W X (d + 0) yX5_begin cX5_begin 4 none 62 [some (.ref 39), some (.int 0), some (.int (-1)), some (.int 2)] [.int 2, .ref 52] zL_123 zM_116 0 0 _
  refine zh_iload_n (pn := 63) rfl dX5_begin_62 (i := 3) (x := 2) rfl rfl ?_
  refine zh_if_ne (pn := 66) rfl dX5_begin_63 (tgt := 70) rfl (fun _ => ?_) (fun cc1 => absurd cc1 (by decide))
  refine zh_iconst (pn := 71) rfl dX5_begin_70 (v := (-1)) rfl ?_
  refine zh_iast (pn := 72) rfl dX5_begin_71 rfl (by unfold vp_in; decide) ?_
  show zh_W X (d + 0) yX5_begin cX5_begin 4 none 72 [some (.ref 39), some (.int 0), some (.int (-1)), some (.int 2)] [] zL_123 zM_117 0 0 _
  refine zh_iinc (pn := 75) rfl dX5_begin_72 (i := 3) (x := 2) (v := 3) (lo' := [some (.ref 39), some (.int 0), some (.int (-1)), some (.int 3)]) rfl rfl (by decide) rfl ?_
  refine zh_goto dX5_begin_75 (tgt := 47) rfl ?_
  refine zh_iload_n (pn := 48) rfl dX5_begin_47 (i := 3) (x := 3) rfl rfl ?_
  refine zh_iconst (pn := 49) rfl dX5_begin_48 (v := 4) rfl ?_
  refine zh_icmp_ge (pn := 52) rfl dX5_begin_49 (tgt := 78) rfl (fun cc1 => absurd cc1 (by decide)) (fun _ => ?_)
  refine zh_aload_n (pn := 53) rfl dX5_begin_52 (i := 0) (v := .ref 39) rfl rfl (Or.inr ⟨_, rfl⟩) ?_
  refine zh_get (pn := 56) rfl dX5_begin_53 (v := .ref 52) (k := 12) rfl rfl (by decide) (by decide) in_X5 mf_X5_47 rfl ?_
  refine zh_bipush (pn := 58) rfl dX5_begin_56 (v := 64) rfl ?_
  refine zh_iload_n (pn := 59) rfl dX5_begin_58 (i := 1) (x := 0) rfl rfl ?_
  refine zh_imul (pn := 60) rfl dX5_begin_59 ?_
  show zh_W X (d + 0) yX5_begin cX5_begin 4 none 60 [some (.ref 39), some (.int 0), some (.int (-1)), some (.int 3)] [.int 0, .ref 52] zL_123 zM_117 0 0 _
  refine zh_iload_n (pn := 61) rfl dX5_begin_60 (i := 3) (x := 3) rfl rfl ?_
  refine zh_iadd (pn := 62) rfl dX5_begin_61 ?_
  show zh_W X (d + 0) yX5_begin cX5_begin 4 none 62 [some (.ref 39), some (.int 0), some (.int (-1)), some (.int 3)] [.int 3, .ref 52] zL_123 zM_117 0 0 _
  refine zh_iload_n (pn := 63) rfl dX5_begin_62 (i := 3) (x := 3) rfl rfl ?_
  refine zh_if_ne (pn := 66) rfl dX5_begin_63 (tgt := 70) rfl (fun _ => ?_) (fun cc1 => absurd cc1 (by decide))
  refine zh_iconst (pn := 71) rfl dX5_begin_70 (v := (-1)) rfl ?_
  refine zh_iast (pn := 72) rfl dX5_begin_71 rfl (by unfold vp_in; decide) ?_
  show zh_W X (d + 0) yX5_begin cX5_begin 4 none 72 [some (.ref 39), some (.int 0), some (.int (-1)), some (.int 3)] [] zL_123 zM_118 0 0 _
  refine zh_iinc (pn := 75) rfl dX5_begin_72 (i := 3) (x := 3) (v := 4) (lo' := [some (.ref 39), some (.int 0), some (.int (-1)), some (.int 4)]) rfl rfl (by decide) rfl ?_
  refine zh_goto dX5_begin_75 (tgt := 47) rfl ?_
  refine zh_iload_n (pn := 48) rfl dX5_begin_47 (i := 3) (x := 4) rfl rfl ?_
  refine zh_iconst (pn := 49) rfl dX5_begin_48 (v := 4) rfl ?_
  refine zh_icmp_ge (pn := 52) rfl dX5_begin_49 (tgt := 78) rfl (fun _ => ?_) (fun cc1 => absurd cc1 (by decide))
  exact zh_vret dX5_begin_78 rfl ⟨rfl, rfl, rfl⟩
set_option maxRecDepth 100000 in
set_option maxHeartbeats 4000000 in
theorem kt_X5_init_16 {X : Nat × (Nat → Int32)} {d : Nat} : zh_W X (d + 1) yX5_init cX5_init 1 none 0 (zh_en [.ref 39] 1) [] zL_79 zM_85 22 2378 (fun r L M => r = none ∧ L = zL_123 ∧ M = zM_118) := by
  show zh_W X (d + 1) yX5_init cX5_init 1 none 0 [some (.ref 39)] [] zL_79 zM_85 22 2378 _
  refine zh_aload_n (pn := 1) rfl dX5_init_0 (i := 0) (v := .ref 39) rfl rfl (Or.inr ⟨_, rfl⟩) ?_
  refine zh_obj (pn := 4) rfl dX5_init_1 mc_X5_1 me_obj.1 me_obj.2 (fun _ _ => Nat.le_of_ble_eq_true rfl) ?_
  refine zh_aload_n (pn := 5) rfl dX5_init_4 (i := 0) (v := .ref 39) rfl rfl (Or.inr ⟨_, rfl⟩) ?_
  refine zh_sipush (pn := 8) rfl dX5_init_5 (v := 256) rfl ?_
  refine zh_newa (pn := 10) (bc := 21) (bs := 2122) (t := 0) (N := 256) rfl dX5_init_8 rfl me_arr_int (fun _ => rfl) rfl (fun _ _ q => q) rfl (by decide) rfl (by decide) ?_
  show zh_W X (d + 1) yX5_init cX5_init 1 none 10 [some (.ref 39)] [.ref 40, .ref 39] zL_80 zM_86 21 2122 _
  refine zh_putF (pn := 13) rfl dX5_init_10 (i := 38) (k := 0) (r := some 40) rfl rfl (by decide) (by decide) in_X5 tyX5_ok nmX5 mf_X5_7 rfl rfl rfl rfl (fun _ _ => rfl) (fun _ _ => rfl) ?_
  show zh_W X (d + 1) yX5_init cX5_init 1 none 13 [some (.ref 39)] [] zL_81 zM_86 21 2122 _
  refine zh_aload_n (pn := 14) rfl dX5_init_13 (i := 0) (v := .ref 39) rfl rfl (Or.inr ⟨_, rfl⟩) ?_
  refine zh_sipush (pn := 17) rfl dX5_init_14 (v := 256) rfl ?_
  refine zh_newa (pn := 19) (bc := 20) (bs := 1866) (t := 0) (N := 256) rfl dX5_init_17 rfl me_arr_int (fun _ => rfl) rfl (fun _ _ q => q) rfl (by decide) rfl (by decide) ?_
  show zh_W X (d + 1) yX5_init cX5_init 1 none 19 [some (.ref 39)] [.ref 41, .ref 39] zL_82 zM_87 20 1866 _
  refine zh_putF (pn := 22) rfl dX5_init_19 (i := 38) (k := 1) (r := some 41) rfl rfl (by decide) (by decide) in_X5 tyX5_ok nmX5 mf_X5_13 rfl rfl rfl rfl (fun _ _ => rfl) (fun _ _ => rfl) ?_
  show zh_W X (d + 1) yX5_init cX5_init 1 none 22 [some (.ref 39)] [] zL_83 zM_87 20 1866 _
  refine zh_aload_n (pn := 23) rfl dX5_init_22 (i := 0) (v := .ref 39) rfl rfl (Or.inr ⟨_, rfl⟩) ?_
  refine zh_sipush (pn := 26) rfl dX5_init_23 (v := 256) rfl ?_
  refine zh_newa (pn := 28) (bc := 19) (bs := 1610) (t := 0) (N := 256) rfl dX5_init_26 rfl me_arr_int (fun _ => rfl) rfl (fun _ _ q => q) rfl (by decide) rfl (by decide) ?_
  show zh_W X (d + 1) yX5_init cX5_init 1 none 28 [some (.ref 39)] [.ref 42, .ref 39] zL_84 zM_88 19 1610 _
  refine zh_putF (pn := 31) rfl dX5_init_28 (i := 38) (k := 2) (r := some 42) rfl rfl (by decide) (by decide) in_X5 tyX5_ok nmX5 mf_X5_16 rfl rfl rfl rfl (fun _ _ => rfl) (fun _ _ => rfl) ?_
  show zh_W X (d + 1) yX5_init cX5_init 1 none 31 [some (.ref 39)] [] zL_85 zM_88 19 1610 _
  refine zh_aload_n (pn := 32) rfl dX5_init_31 (i := 0) (v := .ref 39) rfl rfl (Or.inr ⟨_, rfl⟩) ?_
  refine zh_sipush (pn := 35) rfl dX5_init_32 (v := 256) rfl ?_
  refine zh_newa (pn := 37) (bc := 18) (bs := 1354) (t := 1) (N := 256) rfl dX5_init_35 rfl me_arr_boolean (fun _ => rfl) rfl (fun _ _ q => q) rfl (by decide) rfl (by decide) ?_
  show zh_W X (d + 1) yX5_init cX5_init 1 none 37 [some (.ref 39)] [.ref 43, .ref 39] zL_86 zM_89 18 1354 _
  refine zh_putF (pn := 40) rfl dX5_init_37 (i := 38) (k := 3) (r := some 43) rfl rfl (by decide) (by decide) in_X5 tyX5_ok nmX5 mf_X5_19 rfl rfl rfl rfl (fun _ _ => rfl) (fun _ _ => rfl) ?_
  show zh_W X (d + 1) yX5_init cX5_init 1 none 40 [some (.ref 39)] [] zL_87 zM_89 18 1354 _
  refine zh_aload_n (pn := 41) rfl dX5_init_40 (i := 0) (v := .ref 39) rfl rfl (Or.inr ⟨_, rfl⟩) ?_
  refine zh_sipush (pn := 44) rfl dX5_init_41 (v := 256) rfl ?_
  refine zh_newa (pn := 46) (bc := 17) (bs := 1098) (t := 1) (N := 256) rfl dX5_init_44 rfl me_arr_boolean (fun _ => rfl) rfl (fun _ _ q => q) rfl (by decide) rfl (by decide) ?_
  show zh_W X (d + 1) yX5_init cX5_init 1 none 46 [some (.ref 39)] [.ref 44, .ref 39] zL_88 zM_90 17 1098 _
  refine zh_putF (pn := 49) rfl dX5_init_46 (i := 38) (k := 4) (r := some 44) rfl rfl (by decide) (by decide) in_X5 tyX5_ok nmX5 mf_X5_23 rfl rfl rfl rfl (fun _ _ => rfl) (fun _ _ => rfl) ?_
  show zh_W X (d + 1) yX5_init cX5_init 1 none 49 [some (.ref 39)] [] zL_89 zM_90 17 1098 _
  refine zh_aload_n (pn := 50) rfl dX5_init_49 (i := 0) (v := .ref 39) rfl rfl (Or.inr ⟨_, rfl⟩) ?_
  refine zh_sipush (pn := 53) rfl dX5_init_50 (v := 256) rfl ?_
  refine zh_newa (pn := 55) (bc := 16) (bs := 842) (t := 1) (N := 256) rfl dX5_init_53 rfl me_arr_boolean (fun _ => rfl) rfl (fun _ _ q => q) rfl (by decide) rfl (by decide) ?_
  show zh_W X (d + 1) yX5_init cX5_init 1 none 55 [some (.ref 39)] [.ref 45, .ref 39] zL_90 zM_91 16 842 _
  refine zh_putF (pn := 58) rfl dX5_init_55 (i := 38) (k := 5) (r := some 45) rfl rfl (by decide) (by decide) in_X5 tyX5_ok nmX5 mf_X5_26 rfl rfl rfl rfl (fun _ _ => rfl) (fun _ _ => rfl) ?_
  show zh_W X (d + 1) yX5_init cX5_init 1 none 58 [some (.ref 39)] [] zL_91 zM_91 16 842 _
  refine zh_aload_n (pn := 59) rfl dX5_init_58 (i := 0) (v := .ref 39) rfl rfl (Or.inr ⟨_, rfl⟩) ?_
  refine zh_sipush (pn := 62) rfl dX5_init_59 (v := 256) rfl ?_
  refine zh_newa (pn := 64) (bc := 15) (bs := 586) (t := 1) (N := 256) rfl dX5_init_62 rfl me_arr_boolean (fun _ => rfl) rfl (fun _ _ q => q) rfl (by decide) rfl (by decide) ?_
  show zh_W X (d + 1) yX5_init cX5_init 1 none 64 [some (.ref 39)] [.ref 46, .ref 39] zL_92 zM_92 15 586 _
  refine zh_putF (pn := 67) rfl dX5_init_64 (i := 38) (k := 6) (r := some 46) rfl rfl (by decide) (by decide) in_X5 tyX5_ok nmX5 mf_X5_29 rfl rfl rfl rfl (fun _ _ => rfl) (fun _ _ => rfl) ?_
  show zh_W X (d + 1) yX5_init cX5_init 1 none 67 [some (.ref 39)] [] zL_93 zM_92 15 586 _
  refine zh_aload_n (pn := 68) rfl dX5_init_67 (i := 0) (v := .ref 39) rfl rfl (Or.inr ⟨_, rfl⟩) ?_
  refine zh_bipush (pn := 70) rfl dX5_init_68 (v := 16) rfl ?_
  refine zh_newa (pn := 72) (bc := 14) (bs := 570) (t := 0) (N := 16) rfl dX5_init_70 rfl me_arr_int (fun _ => rfl) rfl (fun _ _ q => q) rfl (by decide) rfl (by decide) ?_
  show zh_W X (d + 1) yX5_init cX5_init 1 none 72 [some (.ref 39)] [.ref 47, .ref 39] zL_94 zM_93 14 570 _
  refine zh_putF (pn := 75) rfl dX5_init_72 (i := 38) (k := 7) (r := some 47) rfl rfl (by decide) (by decide) in_X5 tyX5_ok nmX5 mf_X5_32 rfl rfl rfl rfl (fun _ _ => rfl) (fun _ _ => rfl) ?_
  show zh_W X (d + 1) yX5_init cX5_init 1 none 75 [some (.ref 39)] [] zL_95 zM_93 14 570 _
  refine zh_aload_n (pn := 76) rfl dX5_init_75 (i := 0) (v := .ref 39) rfl rfl (Or.inr ⟨_, rfl⟩) ?_
  refine zh_bipush (pn := 78) rfl dX5_init_76 (v := 16) rfl ?_
  refine zh_newa (pn := 80) (bc := 13) (bs := 554) (t := 1) (N := 16) rfl dX5_init_78 rfl me_arr_boolean (fun _ => rfl) rfl (fun _ _ q => q) rfl (by decide) rfl (by decide) ?_
  show zh_W X (d + 1) yX5_init cX5_init 1 none 80 [some (.ref 39)] [.ref 48, .ref 39] zL_96 zM_94 13 554 _
  refine zh_putF (pn := 83) rfl dX5_init_80 (i := 38) (k := 8) (r := some 48) rfl rfl (by decide) (by decide) in_X5 tyX5_ok nmX5 mf_X5_35 rfl rfl rfl rfl (fun _ _ => rfl) (fun _ _ => rfl) ?_
  show zh_W X (d + 1) yX5_init cX5_init 1 none 83 [some (.ref 39)] [] zL_97 zM_94 13 554 _
  refine zh_aload_n (pn := 84) rfl dX5_init_83 (i := 0) (v := .ref 39) rfl rfl (Or.inr ⟨_, rfl⟩) ?_
  refine zh_bipush (pn := 86) rfl dX5_init_84 (v := 6) rfl ?_
  refine zh_newa (pn := 88) (bc := 12) (bs := 548) (t := 0) (N := 6) rfl dX5_init_86 rfl me_arr_int (fun _ => rfl) rfl (fun _ _ q => q) rfl (by decide) rfl (by decide) ?_
  show zh_W X (d + 1) yX5_init cX5_init 1 none 88 [some (.ref 39)] [.ref 49, .ref 39] zL_98 zM_95 12 548 _
  refine zh_putF (pn := 91) rfl dX5_init_88 (i := 38) (k := 9) (r := some 49) rfl rfl (by decide) (by decide) in_X5 tyX5_ok nmX5 mf_X5_38 rfl rfl rfl rfl (fun _ _ => rfl) (fun _ _ => rfl) ?_
  show zh_W X (d + 1) yX5_init cX5_init 1 none 91 [some (.ref 39)] [] zL_99 zM_95 12 548 _
  refine zh_aload_n (pn := 92) rfl dX5_init_91 (i := 0) (v := .ref 39) rfl rfl (Or.inr ⟨_, rfl⟩) ?_
  refine zh_bipush (pn := 94) rfl dX5_init_92 (v := 6) rfl ?_
  refine zh_newa (pn := 96) (bc := 11) (bs := 542) (t := 0) (N := 6) rfl dX5_init_94 rfl me_arr_int (fun _ => rfl) rfl (fun _ _ q => q) rfl (by decide) rfl (by decide) ?_
  show zh_W X (d + 1) yX5_init cX5_init 1 none 96 [some (.ref 39)] [.ref 50, .ref 39] zL_100 zM_96 11 542 _
  refine zh_putF (pn := 99) rfl dX5_init_96 (i := 38) (k := 10) (r := some 50) rfl rfl (by decide) (by decide) in_X5 tyX5_ok nmX5 mf_X5_41 rfl rfl rfl rfl (fun _ _ => rfl) (fun _ _ => rfl) ?_
  show zh_W X (d + 1) yX5_init cX5_init 1 none 99 [some (.ref 39)] [] zL_101 zM_96 11 542 _
  refine zh_aload_n (pn := 100) rfl dX5_init_99 (i := 0) (v := .ref 39) rfl rfl (Or.inr ⟨_, rfl⟩) ?_
  refine zh_bipush (pn := 102) rfl dX5_init_100 (v := 6) rfl ?_
  refine zh_newa (pn := 104) (bc := 10) (bs := 536) (t := 0) (N := 6) rfl dX5_init_102 rfl me_arr_int (fun _ => rfl) rfl (fun _ _ q => q) rfl (by decide) rfl (by decide) ?_
  show zh_W X (d + 1) yX5_init cX5_init 1 none 104 [some (.ref 39)] [.ref 51, .ref 39] zL_102 zM_97 10 536 _
  refine zh_putF (pn := 107) rfl dX5_init_104 (i := 38) (k := 11) (r := some 51) rfl rfl (by decide) (by decide) in_X5 tyX5_ok nmX5 mf_X5_44 rfl rfl rfl rfl (fun _ _ => rfl) (fun _ _ => rfl) ?_
  show zh_W X (d + 1) yX5_init cX5_init 1 none 107 [some (.ref 39)] [] zL_103 zM_97 10 536 _
  refine zh_aload_n (pn := 108) rfl dX5_init_107 (i := 0) (v := .ref 39) rfl rfl (Or.inr ⟨_, rfl⟩) ?_
  refine zh_sipush (pn := 111) rfl dX5_init_108 (v := 384) rfl ?_
  refine zh_newa (pn := 113) (bc := 9) (bs := 152) (t := 0) (N := 384) rfl dX5_init_111 rfl me_arr_int (fun _ => rfl) rfl (fun _ _ q => q) rfl (by decide) rfl (by decide) ?_
  show zh_W X (d + 1) yX5_init cX5_init 1 none 113 [some (.ref 39)] [.ref 52, .ref 39] zL_104 zM_98 9 152 _
  refine zh_putF (pn := 116) rfl dX5_init_113 (i := 38) (k := 12) (r := some 52) rfl rfl (by decide) (by decide) in_X5 tyX5_ok nmX5 mf_X5_47 rfl rfl rfl rfl (fun _ _ => rfl) (fun _ _ => rfl) ?_
  show zh_W X (d + 1) yX5_init cX5_init 1 none 116 [some (.ref 39)] [] zL_105 zM_98 9 152 _
  refine zh_aload_n (pn := 117) rfl dX5_init_116 (i := 0) (v := .ref 39) rfl rfl (Or.inr ⟨_, rfl⟩) ?_
  refine zh_bipush (pn := 119) rfl dX5_init_117 (v := 96) rfl ?_
  refine zh_newa (pn := 121) (bc := 8) (bs := 56) (t := 0) (N := 96) rfl dX5_init_119 rfl me_arr_int (fun _ => rfl) rfl (fun _ _ q => q) rfl (by decide) rfl (by decide) ?_
  show zh_W X (d + 1) yX5_init cX5_init 1 none 121 [some (.ref 39)] [.ref 53, .ref 39] zL_106 zM_99 8 56 _
  refine zh_putF (pn := 124) rfl dX5_init_121 (i := 38) (k := 13) (r := some 53) rfl rfl (by decide) (by decide) in_X5 tyX5_ok nmX5 mf_X5_50 rfl rfl rfl rfl (fun _ _ => rfl) (fun _ _ => rfl) ?_
  show zh_W X (d + 1) yX5_init cX5_init 1 none 124 [some (.ref 39)] [] zL_107 zM_99 8 56 _
  refine zh_aload_n (pn := 125) rfl dX5_init_124 (i := 0) (v := .ref 39) rfl rfl (Or.inr ⟨_, rfl⟩) ?_
  refine zh_bipush (pn := 127) rfl dX5_init_125 (v := 6) rfl ?_
  refine zh_newa (pn := 129) (bc := 7) (bs := 50) (t := 1) (N := 6) rfl dX5_init_127 rfl me_arr_boolean (fun _ => rfl) rfl (fun _ _ q => q) rfl (by decide) rfl (by decide) ?_
  show zh_W X (d + 1) yX5_init cX5_init 1 none 129 [some (.ref 39)] [.ref 54, .ref 39] zL_108 zM_100 7 50 _
  refine zh_putF (pn := 132) rfl dX5_init_129 (i := 38) (k := 14) (r := some 54) rfl rfl (by decide) (by decide) in_X5 tyX5_ok nmX5 mf_X5_53 rfl rfl rfl rfl (fun _ _ => rfl) (fun _ _ => rfl) ?_
  show zh_W X (d + 1) yX5_init cX5_init 1 none 132 [some (.ref 39)] [] zL_109 zM_100 7 50 _
  refine zh_aload_n (pn := 133) rfl dX5_init_132 (i := 0) (v := .ref 39) rfl rfl (Or.inr ⟨_, rfl⟩) ?_
  refine zh_bipush (pn := 135) rfl dX5_init_133 (v := 6) rfl ?_
  refine zh_newa (pn := 137) (bc := 6) (bs := 44) (t := 0) (N := 6) rfl dX5_init_135 rfl me_arr_int (fun _ => rfl) rfl (fun _ _ q => q) rfl (by decide) rfl (by decide) ?_
  show zh_W X (d + 1) yX5_init cX5_init 1 none 137 [some (.ref 39)] [.ref 55, .ref 39] zL_110 zM_101 6 44 _
  refine zh_putF (pn := 140) rfl dX5_init_137 (i := 38) (k := 15) (r := some 55) rfl rfl (by decide) (by decide) in_X5 tyX5_ok nmX5 mf_X5_56 rfl rfl rfl rfl (fun _ _ => rfl) (fun _ _ => rfl) ?_
  show zh_W X (d + 1) yX5_init cX5_init 1 none 140 [some (.ref 39)] [] zL_111 zM_101 6 44 _
  refine zh_aload_n (pn := 141) rfl dX5_init_140 (i := 0) (v := .ref 39) rfl rfl (Or.inr ⟨_, rfl⟩) ?_
  refine zh_bipush (pn := 143) rfl dX5_init_141 (v := 6) rfl ?_
  refine zh_newa (pn := 145) (bc := 5) (bs := 38) (t := 0) (N := 6) rfl dX5_init_143 rfl me_arr_int (fun _ => rfl) rfl (fun _ _ q => q) rfl (by decide) rfl (by decide) ?_
  show zh_W X (d + 1) yX5_init cX5_init 1 none 145 [some (.ref 39)] [.ref 56, .ref 39] zL_112 zM_102 5 38 _
  refine zh_putF (pn := 148) rfl dX5_init_145 (i := 38) (k := 16) (r := some 56) rfl rfl (by decide) (by decide) in_X5 tyX5_ok nmX5 mf_X5_59 rfl rfl rfl rfl (fun _ _ => rfl) (fun _ _ => rfl) ?_
  show zh_W X (d + 1) yX5_init cX5_init 1 none 148 [some (.ref 39)] [] zL_113 zM_102 5 38 _
  refine zh_aload_n (pn := 149) rfl dX5_init_148 (i := 0) (v := .ref 39) rfl rfl (Or.inr ⟨_, rfl⟩) ?_
  refine zh_bipush (pn := 151) rfl dX5_init_149 (v := 6) rfl ?_
  refine zh_newa (pn := 153) (bc := 4) (bs := 32) (t := 0) (N := 6) rfl dX5_init_151 rfl me_arr_int (fun _ => rfl) rfl (fun _ _ q => q) rfl (by decide) rfl (by decide) ?_
  show zh_W X (d + 1) yX5_init cX5_init 1 none 153 [some (.ref 39)] [.ref 57, .ref 39] zL_114 zM_103 4 32 _
  refine zh_putF (pn := 156) rfl dX5_init_153 (i := 38) (k := 17) (r := some 57) rfl rfl (by decide) (by decide) in_X5 tyX5_ok nmX5 mf_X5_62 rfl rfl rfl rfl (fun _ _ => rfl) (fun _ _ => rfl) ?_
  show zh_W X (d + 1) yX5_init cX5_init 1 none 156 [some (.ref 39)] [] zL_115 zM_103 4 32 _
  refine zh_aload_n (pn := 157) rfl dX5_init_156 (i := 0) (v := .ref 39) rfl rfl (Or.inr ⟨_, rfl⟩) ?_
  refine zh_bipush (pn := 159) rfl dX5_init_157 (v := 6) rfl ?_
  refine zh_newa (pn := 161) (bc := 3) (bs := 26) (t := 0) (N := 6) rfl dX5_init_159 rfl me_arr_int (fun _ => rfl) rfl (fun _ _ q => q) rfl (by decide) rfl (by decide) ?_
  show zh_W X (d + 1) yX5_init cX5_init 1 none 161 [some (.ref 39)] [.ref 58, .ref 39] zL_116 zM_104 3 26 _
  refine zh_putF (pn := 164) rfl dX5_init_161 (i := 38) (k := 18) (r := some 58) rfl rfl (by decide) (by decide) in_X5 tyX5_ok nmX5 mf_X5_65 rfl rfl rfl rfl (fun _ _ => rfl) (fun _ _ => rfl) ?_
  show zh_W X (d + 1) yX5_init cX5_init 1 none 164 [some (.ref 39)] [] zL_117 zM_104 3 26 _
  refine zh_aload_n (pn := 165) rfl dX5_init_164 (i := 0) (v := .ref 39) rfl rfl (Or.inr ⟨_, rfl⟩) ?_
  refine zh_bipush (pn := 167) rfl dX5_init_165 (v := 6) rfl ?_
  refine zh_newa (pn := 169) (bc := 2) (bs := 20) (t := 0) (N := 6) rfl dX5_init_167 rfl me_arr_int (fun _ => rfl) rfl (fun _ _ q => q) rfl (by decide) rfl (by decide) ?_
  show zh_W X (d + 1) yX5_init cX5_init 1 none 169 [some (.ref 39)] [.ref 59, .ref 39] zL_118 zM_105 2 20 _
  refine zh_putF (pn := 172) rfl dX5_init_169 (i := 38) (k := 19) (r := some 59) rfl rfl (by decide) (by decide) in_X5 tyX5_ok nmX5 mf_X5_68 rfl rfl rfl rfl (fun _ _ => rfl) (fun _ _ => rfl) ?_
  show zh_W X (d + 1) yX5_init cX5_init 1 none 172 [some (.ref 39)] [] zL_119 zM_105 2 20 _
  refine zh_aload_n (pn := 173) rfl dX5_init_172 (i := 0) (v := .ref 39) rfl rfl (Or.inr ⟨_, rfl⟩) ?_
  refine zh_bipush (pn := 175) rfl dX5_init_173 (v := 16) rfl ?_
  refine zh_newa (pn := 177) (bc := 1) (bs := 4) (t := 0) (N := 16) rfl dX5_init_175 rfl me_arr_int (fun _ => rfl) rfl (fun _ _ q => q) rfl (by decide) rfl (by decide) ?_
  show zh_W X (d + 1) yX5_init cX5_init 1 none 177 [some (.ref 39)] [.ref 60, .ref 39] zL_120 zM_106 1 4 _
  refine zh_putF (pn := 180) rfl dX5_init_177 (i := 38) (k := 20) (r := some 60) rfl rfl (by decide) (by decide) in_X5 tyX5_ok nmX5 mf_X5_71 rfl rfl rfl rfl (fun _ _ => rfl) (fun _ _ => rfl) ?_
  show zh_W X (d + 1) yX5_init cX5_init 1 none 180 [some (.ref 39)] [] zL_121 zM_106 1 4 _
  refine zh_aload_n (pn := 181) rfl dX5_init_180 (i := 0) (v := .ref 39) rfl rfl (Or.inr ⟨_, rfl⟩) ?_
  refine zh_iconst (pn := 182) rfl dX5_init_181 (v := 4) rfl ?_
  refine zh_newa (pn := 184) (bc := 0) (bs := 0) (t := 0) (N := 4) rfl dX5_init_182 rfl me_arr_int (fun _ => rfl) rfl (fun _ _ q => q) rfl (by decide) rfl (by decide) ?_
  show zh_W X (d + 1) yX5_init cX5_init 1 none 184 [some (.ref 39)] [.ref 61, .ref 39] zL_122 zM_107 0 0 _
  refine zh_putF (pn := 187) rfl dX5_init_184 (i := 38) (k := 21) (r := some 61) rfl rfl (by decide) (by decide) in_X5 tyX5_ok nmX5 mf_X5_74 rfl rfl rfl rfl (fun _ _ => rfl) (fun _ _ => rfl) ?_
  show zh_W X (d + 1) yX5_init cX5_init 1 none 187 [some (.ref 39)] [] zL_123 zM_107 0 0 _
  refine zh_aload_n (pn := 188) rfl dX5_init_187 (i := 0) (v := .ref 39) rfl rfl (Or.inr ⟨_, rfl⟩) ?_
  refine zh_bipush (pn := 190) rfl dX5_init_188 (v := 64) rfl ?_
  refine zh_put (pn := 193) rfl dX5_init_190 (k := 29) rfl rfl (by decide) (by decide) in_X5 tyX5_ok nmX5 mf_X5_77 rfl rfl rfl rfl ?_
  show zh_W X (d + 1) yX5_init cX5_init 1 none 193 [some (.ref 39)] [] zL_123 zM_108 0 0 _
  refine zh_aload_n (pn := 194) rfl dX5_init_193 (i := 0) (v := .ref 39) rfl rfl (Or.inr ⟨_, rfl⟩) ?_
  refine zh_iconst (pn := 195) rfl dX5_init_194 (v := 0) rfl ?_
  refine zh_iconst (pn := 196) rfl dX5_init_195 (v := (-1)) rfl ?_
  refine zh_callV (pn := 199) (bc := 0) (bs := 0) (bc' := 0) (bs' := 0) (as := [.int 0, .int (-1)]) (st := []) rfl dX5_init_196 rfl (by decide) rfl rfl mc_X5_81 me_X5_begin.1 me_X5_begin.2.1 me_X5_begin.2.2.1 me_X5_begin.2.2.2 ⟨by decide, by decide, by decide⟩ (by decide +kernel) (by intro v hv; simp only [List.mem_cons, List.not_mem_nil, or_false] at hv; rcases hv with rfl | rfl <;> (intro _ _; rfl)) (fun _ _ => Nat.le_of_ble_eq_true rfl) (by decide) (by decide) kt_X5_begin_15 (fun r L' M' q => by obtain ⟨-, rfl, -⟩ := q; rfl) (fun r L' M' q => ?_)
  obtain ⟨rfl, rfl, rfl⟩ := q
  show zh_W X (d + 1) yX5_init cX5_init 1 none 199 [some (.ref 39)] [] zL_123 zM_118 0 0 _
  exact zh_vret dX5_init_199 rfl ⟨rfl, rfl, rfl⟩
