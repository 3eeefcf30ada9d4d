theorem fd_mok_70 : fd_mok 70 = true := by decide +kernel
theorem fd_mok_71 : fd_mok 71 = true := by decide +kernel
theorem fd_mok_72 : fd_mok 72 = true := by decide +kernel
theorem fd_mok_73 : fd_mok 73 = true := by decide +kernel
theorem fd_mok_74 : fd_mok 74 = true := by decide +kernel
theorem fd_mok_75 : fd_mok 75 = true := by decide +kernel
theorem fd_mok_76 : fd_mok 76 = true := by decide +kernel
theorem fd_mok_77 : fd_mok 77 = true := by decide +kernel
theorem fd_mok_78 : fd_mok 78 = true := by decide +kernel
theorem fd_lawck : fd_ckL 79 (fd_code 79) = true := by decide +kernel
theorem fd_mok_all (mi : Nat) (h : mi < 79) : fd_mok mi = true := by
  match mi, h with
  | 0, _ => exact fd_mok_0
  | 1, _ => exact fd_mok_1
  | 2, _ => exact fd_mok_2
  | 3, _ => exact fd_mok_3
  | 4, _ => exact fd_mok_4
  | 5, _ => exact fd_mok_5
  | 6, _ => exact fd_mok_6
  | 7, _ => exact fd_mok_7
  | 8, _ => exact fd_mok_8
  | 9, _ => exact fd_mok_9
  | 10, _ => exact fd_mok_10
  | 11, _ => exact fd_mok_11
  | 12, _ => exact fd_mok_12
  | 13, _ => exact fd_mok_13
  | 14, _ => exact fd_mok_14
  | 15, _ => exact fd_mok_15
  | 16, _ => exact fd_mok_16
  | 17, _ => exact fd_mok_17
  | 18, _ => exact fd_mok_18
  | 19, _ => exact fd_mok_19
  | 20, _ => exact fd_mok_20
  | 21, _ => exact fd_mok_21
  | 22, _ => exact fd_mok_22
  | 23, _ => exact fd_mok_23
  | 24, _ => exact fd_mok_24
  | 25, _ => exact fd_mok_25
  | 26, _ => exact fd_mok_26
  | 27, _ => exact fd_mok_27
  | 28, _ => exact fd_mok_28
  | 29, _ => exact fd_mok_29
  | 30, _ => exact fd_mok_30
  | 31, _ => exact fd_mok_31
  | 32, _ => exact fd_mok_32
  | 33, _ => exact fd_mok_33
  | 34, _ => exact fd_mok_34
  | 35, _ => exact fd_mok_35
  | 36, _ => exact fd_mok_36
  | 37, _ => exact fd_mok_37
  | 38, _ => exact fd_mok_38
  | 39, _ => exact fd_mok_39
  | 40, _ => exact fd_mok_40
  | 41, _ => exact fd_mok_41
  | 42, _ => exact fd_mok_42
  | 43, _ => exact fd_mok_43
  | 44, _ => exact fd_mok_44
  | 45, _ => exact fd_mok_45
  | 46, _ => exact fd_mok_46
  | 47, _ => exact fd_mok_47
  | 48, _ => exact fd_mok_48
  | 49, _ => exact fd_mok_49
  | 50, _ => exact fd_mok_50
  | 51, _ => exact fd_mok_51
  | 52, _ => exact fd_mok_52
  | 53, _ => exact fd_mok_53
  | 54, _ => exact fd_mok_54
  | 55, _ => exact fd_mok_55
  | 56, _ => exact fd_mok_56
  | 57, _ => exact fd_mok_57
  | 58, _ => exact fd_mok_58
  | 59, _ => exact fd_mok_59
  | 60, _ => exact fd_mok_60
  | 61, _ => exact fd_mok_61
  | 62, _ => exact fd_mok_62
  | 63, _ => exact fd_mok_63
  | 64, _ => exact fd_mok_64
  | 65, _ => exact fd_mok_65
  | 66, _ => exact fd_mok_66
  | 67, _ => exact fd_mok_67
  | 68, _ => exact fd_mok_68
  | 69, _ => exact fd_mok_69
  | 70, _ => exact fd_mok_70
  | 71, _ => exact fd_mok_71
  | 72, _ => exact fd_mok_72
  | 73, _ => exact fd_mok_73
  | 74, _ => exact fd_mok_74
  | 75, _ => exact fd_mok_75
  | 76, _ => exact fd_mok_76
  | 77, _ => exact fd_mok_77
  | 78, _ => exact fd_mok_78
  | n + 79, h => omega
