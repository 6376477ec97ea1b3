/-! every place of the table is as the bytes have it; THE LITTLE MACHINE IS TRUE OF THE MACHINE -/
theorem z_bf {pc n : Nat} (h : n ≤ pc) : Nat.blt pc n = false := by
  cases hz : Nat.blt pc n with
  | false => rfl
  | true => exact absurd (Nat.le_of_ble_eq_true hz) (by omega)
theorem z_tz_0 : ∀ pc, z_szf 0 ≤ pc → z_tb 0 pc = z_bad := fun pc h => by
  show z_tb0 pc = z_bad
  unfold z_tb0
  rw [z_bf (show 179 ≤ pc from h)]
  rfl
theorem z_tz_1 : ∀ pc, z_szf 1 ≤ pc → z_tb 1 pc = z_bad := fun pc h => by
  show z_tb1 pc = z_bad
  unfold z_tb1
  rw [z_bf (show 57 ≤ pc from h)]
  rfl
theorem z_tz_2 : ∀ pc, z_szf 2 ≤ pc → z_tb 2 pc = z_bad := fun pc h => by
  show z_tb2 pc = z_bad
  unfold z_tb2
  rw [z_bf (show 5 ≤ pc from h)]
  rfl
theorem z_tz_3 : ∀ pc, z_szf 3 ≤ pc → z_tb 3 pc = z_bad := fun pc h => by
  show z_tb3 pc = z_bad
  unfold z_tb3
  rw [z_bf (show 37 ≤ pc from h)]
  rfl
theorem z_tz_4 : ∀ pc, z_szf 4 ≤ pc → z_tb 4 pc = z_bad := fun pc h => by
  show z_tb4 pc = z_bad
  unfold z_tb4
  rw [z_bf (show 41 ≤ pc from h)]
  rfl
theorem z_tz_5 : ∀ pc, z_szf 5 ≤ pc → z_tb 5 pc = z_bad := fun pc h => by
  show z_tb5 pc = z_bad
  unfold z_tb5
  rw [z_bf (show 75 ≤ pc from h)]
  rfl
theorem z_tz_6 : ∀ pc, z_szf 6 ≤ pc → z_tb 6 pc = z_bad := fun pc h => by
  show z_tb6 pc = z_bad
  unfold z_tb6
  rw [z_bf (show 26 ≤ pc from h)]
  rfl
theorem z_tz_7 : ∀ pc, z_szf 7 ≤ pc → z_tb 7 pc = z_bad := fun pc h => by
  show z_tb7 pc = z_bad
  unfold z_tb7
  rw [z_bf (show 45 ≤ pc from h)]
  rfl
theorem z_tz_8 : ∀ pc, z_szf 8 ≤ pc → z_tb 8 pc = z_bad := fun pc h => by
  show z_tb8 pc = z_bad
  unfold z_tb8
  rw [z_bf (show 50 ≤ pc from h)]
  rfl
theorem z_tz_9 : ∀ pc, z_szf 9 ≤ pc → z_tb 9 pc = z_bad := fun pc h => by
  show z_tb9 pc = z_bad
  unfold z_tb9
  rw [z_bf (show 16 ≤ pc from h)]
  rfl
theorem z_tz_10 : ∀ pc, z_szf 10 ≤ pc → z_tb 10 pc = z_bad := fun pc h => by
  show z_tb10 pc = z_bad
  unfold z_tb10
  rw [z_bf (show 91 ≤ pc from h)]
  rfl
theorem z_tz_11 : ∀ pc, z_szf 11 ≤ pc → z_tb 11 pc = z_bad := fun pc h => by
  show z_tb11 pc = z_bad
  unfold z_tb11
  rw [z_bf (show 91 ≤ pc from h)]
  rfl
theorem z_tz_12 : ∀ pc, z_szf 12 ≤ pc → z_tb 12 pc = z_bad := fun pc h => by
  show z_tb12 pc = z_bad
  unfold z_tb12
  rw [z_bf (show 18 ≤ pc from h)]
  rfl
theorem z_tz_13 : ∀ pc, z_szf 13 ≤ pc → z_tb 13 pc = z_bad := fun pc h => by
  show z_tb13 pc = z_bad
  unfold z_tb13
  rw [z_bf (show 18 ≤ pc from h)]
  rfl
theorem z_tz_14 : ∀ pc, z_szf 14 ≤ pc → z_tb 14 pc = z_bad := fun pc h => by
  show z_tb14 pc = z_bad
  unfold z_tb14
  rw [z_bf (show 21 ≤ pc from h)]
  rfl
theorem z_tz_15 : ∀ pc, z_szf 15 ≤ pc → z_tb 15 pc = z_bad := fun pc h => by
  show z_tb15 pc = z_bad
  unfold z_tb15
  rw [z_bf (show 9 ≤ pc from h)]
  rfl
theorem z_tz_16 : ∀ pc, z_szf 16 ≤ pc → z_tb 16 pc = z_bad := fun pc h => by
  show z_tb16 pc = z_bad
  unfold z_tb16
  rw [z_bf (show 61 ≤ pc from h)]
  rfl
theorem z_tz_17 : ∀ pc, z_szf 17 ≤ pc → z_tb 17 pc = z_bad := fun pc h => by
  show z_tb17 pc = z_bad
  unfold z_tb17
  rw [z_bf (show 85 ≤ pc from h)]
  rfl
theorem z_tz_18 : ∀ pc, z_szf 18 ≤ pc → z_tb 18 pc = z_bad := fun pc h => by
  show z_tb18 pc = z_bad
  unfold z_tb18
  rw [z_bf (show 61 ≤ pc from h)]
  rfl
theorem z_tz_19 : ∀ pc, z_szf 19 ≤ pc → z_tb 19 pc = z_bad := fun pc h => by
  show z_tb19 pc = z_bad
  unfold z_tb19
  rw [z_bf (show 20 ≤ pc from h)]
  rfl
theorem z_tz_20 : ∀ pc, z_szf 20 ≤ pc → z_tb 20 pc = z_bad := fun pc h => by
  show z_tb20 pc = z_bad
  unfold z_tb20
  rw [z_bf (show 20 ≤ pc from h)]
  rfl
theorem z_tz_21 : ∀ pc, z_szf 21 ≤ pc → z_tb 21 pc = z_bad := fun pc h => by
  show z_tb21 pc = z_bad
  unfold z_tb21
  rw [z_bf (show 62 ≤ pc from h)]
  rfl
theorem z_tz_22 : ∀ pc, z_szf 22 ≤ pc → z_tb 22 pc = z_bad := fun pc h => by
  show z_tb22 pc = z_bad
  unfold z_tb22
  rw [z_bf (show 31 ≤ pc from h)]
  rfl
theorem z_tz_23 : ∀ pc, z_szf 23 ≤ pc → z_tb 23 pc = z_bad := fun pc h => by
  show z_tb23 pc = z_bad
  unfold z_tb23
  rw [z_bf (show 44 ≤ pc from h)]
  rfl
theorem z_tz_24 : ∀ pc, z_szf 24 ≤ pc → z_tb 24 pc = z_bad := fun pc h => by
  show z_tb24 pc = z_bad
  unfold z_tb24
  rw [z_bf (show 29 ≤ pc from h)]
  rfl
theorem z_tz_25 : ∀ pc, z_szf 25 ≤ pc → z_tb 25 pc = z_bad := fun pc h => by
  show z_tb25 pc = z_bad
  unfold z_tb25
  rw [z_bf (show 34 ≤ pc from h)]
  rfl
theorem z_tz_26 : ∀ pc, z_szf 26 ≤ pc → z_tb 26 pc = z_bad := fun pc h => by
  show z_tb26 pc = z_bad
  unfold z_tb26
  rw [z_bf (show 37 ≤ pc from h)]
  rfl
theorem z_tz_27 : ∀ pc, z_szf 27 ≤ pc → z_tb 27 pc = z_bad := fun pc h => by
  show z_tb27 pc = z_bad
  unfold z_tb27
  rw [z_bf (show 22 ≤ pc from h)]
  rfl
theorem z_tz_28 : ∀ pc, z_szf 28 ≤ pc → z_tb 28 pc = z_bad := fun pc h => by
  show z_tb28 pc = z_bad
  unfold z_tb28
  rw [z_bf (show 14 ≤ pc from h)]
  rfl
theorem z_tz_29 : ∀ pc, z_szf 29 ≤ pc → z_tb 29 pc = z_bad := fun pc h => by
  show z_tb29 pc = z_bad
  unfold z_tb29
  rw [z_bf (show 117 ≤ pc from h)]
  rfl
theorem z_tz_30 : ∀ pc, z_szf 30 ≤ pc → z_tb 30 pc = z_bad := fun pc h => by
  show z_tb30 pc = z_bad
  unfold z_tb30
  rw [z_bf (show 67 ≤ pc from h)]
  rfl
theorem z_tz_31 : ∀ pc, z_szf 31 ≤ pc → z_tb 31 pc = z_bad := fun pc h => by
  show z_tb31 pc = z_bad
  unfold z_tb31
  rw [z_bf (show 37 ≤ pc from h)]
  rfl
theorem z_tz_32 : ∀ pc, z_szf 32 ≤ pc → z_tb 32 pc = z_bad := fun pc h => by
  show z_tb32 pc = z_bad
  unfold z_tb32
  rw [z_bf (show 159 ≤ pc from h)]
  rfl
theorem z_tz_33 : ∀ pc, z_szf 33 ≤ pc → z_tb 33 pc = z_bad := fun pc h => by
  show z_tb33 pc = z_bad
  unfold z_tb33
  rw [z_bf (show 157 ≤ pc from h)]
  rfl
theorem z_tz_34 : ∀ pc, z_szf 34 ≤ pc → z_tb 34 pc = z_bad := fun pc h => by
  show z_tb34 pc = z_bad
  unfold z_tb34
  rw [z_bf (show 71 ≤ pc from h)]
  rfl
theorem z_tz_35 : ∀ pc, z_szf 35 ≤ pc → z_tb 35 pc = z_bad := fun pc h => by
  show z_tb35 pc = z_bad
  unfold z_tb35
  rw [z_bf (show 153 ≤ pc from h)]
  rfl
theorem z_tz_36 : ∀ pc, z_szf 36 ≤ pc → z_tb 36 pc = z_bad := fun pc h => by
  show z_tb36 pc = z_bad
  unfold z_tb36
  rw [z_bf (show 32 ≤ pc from h)]
  rfl
theorem z_tz_37 : ∀ pc, z_szf 37 ≤ pc → z_tb 37 pc = z_bad := fun pc h => by
  show z_tb37 pc = z_bad
  unfold z_tb37
  rw [z_bf (show 35 ≤ pc from h)]
  rfl
theorem z_tz_38 : ∀ pc, z_szf 38 ≤ pc → z_tb 38 pc = z_bad := fun pc h => by
  show z_tb38 pc = z_bad
  unfold z_tb38
  rw [z_bf (show 39 ≤ pc from h)]
  rfl
theorem z_tz_39 : ∀ pc, z_szf 39 ≤ pc → z_tb 39 pc = z_bad := fun pc h => by
  show z_tb39 pc = z_bad
  unfold z_tb39
  rw [z_bf (show 57 ≤ pc from h)]
  rfl
theorem z_tz_40 : ∀ pc, z_szf 40 ≤ pc → z_tb 40 pc = z_bad := fun pc h => by
  show z_tb40 pc = z_bad
  unfold z_tb40
  rw [z_bf (show 43 ≤ pc from h)]
  rfl
theorem z_tz_41 : ∀ pc, z_szf 41 ≤ pc → z_tb 41 pc = z_bad := fun pc h => by
  show z_tb41 pc = z_bad
  unfold z_tb41
  rw [z_bf (show 119 ≤ pc from h)]
  rfl
theorem z_tz_42 : ∀ pc, z_szf 42 ≤ pc → z_tb 42 pc = z_bad := fun pc h => by
  show z_tb42 pc = z_bad
  unfold z_tb42
  rw [z_bf (show 116 ≤ pc from h)]
  rfl
theorem z_tz_43 : ∀ pc, z_szf 43 ≤ pc → z_tb 43 pc = z_bad := fun pc h => by
  show z_tb43 pc = z_bad
  unfold z_tb43
  rw [z_bf (show 56 ≤ pc from h)]
  rfl
theorem z_tz_44 : ∀ pc, z_szf 44 ≤ pc → z_tb 44 pc = z_bad := fun pc h => by
  show z_tb44 pc = z_bad
  unfold z_tb44
  rw [z_bf (show 56 ≤ pc from h)]
  rfl
theorem z_tz_45 : ∀ pc, z_szf 45 ≤ pc → z_tb 45 pc = z_bad := fun pc h => by
  show z_tb45 pc = z_bad
  unfold z_tb45
  rw [z_bf (show 40 ≤ pc from h)]
  rfl
theorem z_tz_46 : ∀ pc, z_szf 46 ≤ pc → z_tb 46 pc = z_bad := fun pc h => by
  show z_tb46 pc = z_bad
  unfold z_tb46
  rw [z_bf (show 13 ≤ pc from h)]
  rfl
theorem z_tz_47 : ∀ pc, z_szf 47 ≤ pc → z_tb 47 pc = z_bad := fun pc h => by
  show z_tb47 pc = z_bad
  unfold z_tb47
  rw [z_bf (show 24 ≤ pc from h)]
  rfl
theorem z_tz_48 : ∀ pc, z_szf 48 ≤ pc → z_tb 48 pc = z_bad := fun pc h => by
  show z_tb48 pc = z_bad
  unfold z_tb48
  rw [z_bf (show 48 ≤ pc from h)]
  rfl
theorem z_tz_49 : ∀ pc, z_szf 49 ≤ pc → z_tb 49 pc = z_bad := fun pc h => by
  show z_tb49 pc = z_bad
  unfold z_tb49
  rw [z_bf (show 45 ≤ pc from h)]
  rfl
theorem z_tz_50 : ∀ pc, z_szf 50 ≤ pc → z_tb 50 pc = z_bad := fun pc h => by
  show z_tb50 pc = z_bad
  unfold z_tb50
  rw [z_bf (show 31 ≤ pc from h)]
  rfl
theorem z_tz_51 : ∀ pc, z_szf 51 ≤ pc → z_tb 51 pc = z_bad := fun pc h => by
  show z_tb51 pc = z_bad
  unfold z_tb51
  rw [z_bf (show 60 ≤ pc from h)]
  rfl
theorem z_tz_52 : ∀ pc, z_szf 52 ≤ pc → z_tb 52 pc = z_bad := fun pc h => by
  show z_tb52 pc = z_bad
  unfold z_tb52
  rw [z_bf (show 19 ≤ pc from h)]
  rfl
theorem z_tz_53 : ∀ pc, z_szf 53 ≤ pc → z_tb 53 pc = z_bad := fun pc h => by
  show z_tb53 pc = z_bad
  unfold z_tb53
  rw [z_bf (show 113 ≤ pc from h)]
  rfl
theorem z_tz_54 : ∀ pc, z_szf 54 ≤ pc → z_tb 54 pc = z_bad := fun pc h => by
  show z_tb54 pc = z_bad
  unfold z_tb54
  rw [z_bf (show 72 ≤ pc from h)]
  rfl
theorem z_tz_55 : ∀ pc, z_szf 55 ≤ pc → z_tb 55 pc = z_bad := fun pc h => by
  show z_tb55 pc = z_bad
  unfold z_tb55
  rw [z_bf (show 9 ≤ pc from h)]
  rfl
theorem z_tz_56 : ∀ pc, z_szf 56 ≤ pc → z_tb 56 pc = z_bad := fun pc h => by
  show z_tb56 pc = z_bad
  unfold z_tb56
  rw [z_bf (show 44 ≤ pc from h)]
  rfl
theorem z_tz_57 : ∀ pc, z_szf 57 ≤ pc → z_tb 57 pc = z_bad := fun pc h => by
  show z_tb57 pc = z_bad
  unfold z_tb57
  rw [z_bf (show 21 ≤ pc from h)]
  rfl
theorem z_tz_58 : ∀ pc, z_szf 58 ≤ pc → z_tb 58 pc = z_bad := fun pc h => by
  show z_tb58 pc = z_bad
  unfold z_tb58
  rw [z_bf (show 46 ≤ pc from h)]
  rfl
theorem z_tz_59 : ∀ pc, z_szf 59 ≤ pc → z_tb 59 pc = z_bad := fun pc h => by
  show z_tb59 pc = z_bad
  unfold z_tb59
  rw [z_bf (show 71 ≤ pc from h)]
  rfl
theorem z_tz_60 : ∀ pc, z_szf 60 ≤ pc → z_tb 60 pc = z_bad := fun pc h => by
  show z_tb60 pc = z_bad
  unfold z_tb60
  rw [z_bf (show 55 ≤ pc from h)]
  rfl
theorem z_tz_61 : ∀ pc, z_szf 61 ≤ pc → z_tb 61 pc = z_bad := fun pc h => by
  show z_tb61 pc = z_bad
  unfold z_tb61
  rw [z_bf (show 89 ≤ pc from h)]
  rfl
theorem z_tz_62 : ∀ pc, z_szf 62 ≤ pc → z_tb 62 pc = z_bad := fun pc h => by
  show z_tb62 pc = z_bad
  unfold z_tb62
  rw [z_bf (show 38 ≤ pc from h)]
  rfl
theorem z_tz_63 : ∀ pc, z_szf 63 ≤ pc → z_tb 63 pc = z_bad := fun pc h => by
  show z_tb63 pc = z_bad
  unfold z_tb63
  rw [z_bf (show 109 ≤ pc from h)]
  rfl
theorem z_tz_64 : ∀ pc, z_szf 64 ≤ pc → z_tb 64 pc = z_bad := fun pc h => by
  show z_tb64 pc = z_bad
  unfold z_tb64
  rw [z_bf (show 102 ≤ pc from h)]
  rfl
theorem z_tz_65 : ∀ pc, z_szf 65 ≤ pc → z_tb 65 pc = z_bad := fun pc h => by
  show z_tb65 pc = z_bad
  unfold z_tb65
  rw [z_bf (show 41 ≤ pc from h)]
  rfl
theorem z_tz_66 : ∀ pc, z_szf 66 ≤ pc → z_tb 66 pc = z_bad := fun pc h => by
  show z_tb66 pc = z_bad
  unfold z_tb66
  rw [z_bf (show 81 ≤ pc from h)]
  rfl
theorem z_tz_67 : ∀ pc, z_szf 67 ≤ pc → z_tb 67 pc = z_bad := fun pc h => by
  show z_tb67 pc = z_bad
  unfold z_tb67
  rw [z_bf (show 67 ≤ pc from h)]
  rfl
theorem z_tz_68 : ∀ pc, z_szf 68 ≤ pc → z_tb 68 pc = z_bad := fun pc h => by
  show z_tb68 pc = z_bad
  unfold z_tb68
  rw [z_bf (show 147 ≤ pc from h)]
  rfl
theorem z_tz_69 : ∀ pc, z_szf 69 ≤ pc → z_tb 69 pc = z_bad := fun pc h => by
  show z_tb69 pc = z_bad
  unfold z_tb69
  rw [z_bf (show 156 ≤ pc from h)]
  rfl
theorem z_tz_70 : ∀ pc, z_szf 70 ≤ pc → z_tb 70 pc = z_bad := fun pc h => by
  show z_tb70 pc = z_bad
  unfold z_tb70
  rw [z_bf (show 44 ≤ pc from h)]
  rfl
theorem z_tz_71 : ∀ pc, z_szf 71 ≤ pc → z_tb 71 pc = z_bad := fun pc h => by
  show z_tb71 pc = z_bad
  unfold z_tb71
  rw [z_bf (show 58 ≤ pc from h)]
  rfl
theorem z_tz_72 : ∀ pc, z_szf 72 ≤ pc → z_tb 72 pc = z_bad := fun pc h => by
  show z_tb72 pc = z_bad
  unfold z_tb72
  rw [z_bf (show 27 ≤ pc from h)]
  rfl
theorem z_tz_73 : ∀ pc, z_szf 73 ≤ pc → z_tb 73 pc = z_bad := fun pc h => by
  show z_tb73 pc = z_bad
  unfold z_tb73
  rw [z_bf (show 8 ≤ pc from h)]
  rfl
theorem z_tz_74 : ∀ pc, z_szf 74 ≤ pc → z_tb 74 pc = z_bad := fun pc h => by
  show z_tb74 pc = z_bad
  unfold z_tb74
  rw [z_bf (show 16 ≤ pc from h)]
  rfl
theorem z_tz_75 : ∀ pc, z_szf 75 ≤ pc → z_tb 75 pc = z_bad := fun pc h => by
  show z_tb75 pc = z_bad
  unfold z_tb75
  rw [z_bf (show 101 ≤ pc from h)]
  rfl
theorem z_tz_76 : ∀ pc, z_szf 76 ≤ pc → z_tb 76 pc = z_bad := fun pc h => by
  show z_tb76 pc = z_bad
  unfold z_tb76
  rw [z_bf (show 74 ≤ pc from h)]
  rfl
theorem z_tz_77 : ∀ pc, z_szf 77 ≤ pc → z_tb 77 pc = z_bad := fun pc h => by
  show z_tb77 pc = z_bad
  unfold z_tb77
  rw [z_bf (show 74 ≤ pc from h)]
  rfl
theorem z_tz_78 : ∀ pc, z_szf 78 ≤ pc → z_tb 78 pc = z_bad := fun pc h => by
  show z_tb78 pc = z_bad
  unfold z_tb78
  rw [z_bf (show 123 ≤ pc from h)]
  rfl
theorem z_tz_79 : ∀ pc, z_szf 79 ≤ pc → z_tb 79 pc = z_bad := fun pc h => by
  show z_tb79 pc = z_bad
  unfold z_tb79
  rw [z_bf (show 31 ≤ pc from h)]
  rfl
theorem z_tz_80 : ∀ pc, z_szf 80 ≤ pc → z_tb 80 pc = z_bad := fun pc h => by
  show z_tb80 pc = z_bad
  unfold z_tb80
  rw [z_bf (show 31 ≤ pc from h)]
  rfl
theorem z_tz_81 : ∀ pc, z_szf 81 ≤ pc → z_tb 81 pc = z_bad := fun pc h => by
  show z_tb81 pc = z_bad
  unfold z_tb81
  rw [z_bf (show 50 ≤ pc from h)]
  rfl
theorem z_tz_82 : ∀ pc, z_szf 82 ≤ pc → z_tb 82 pc = z_bad := fun pc h => by
  show z_tb82 pc = z_bad
  unfold z_tb82
  rw [z_bf (show 19 ≤ pc from h)]
  rfl
theorem z_tz_83 : ∀ pc, z_szf 83 ≤ pc → z_tb 83 pc = z_bad := fun pc h => by
  show z_tb83 pc = z_bad
  unfold z_tb83
  rw [z_bf (show 53 ≤ pc from h)]
  rfl
theorem z_tz_84 : ∀ pc, z_szf 84 ≤ pc → z_tb 84 pc = z_bad := fun pc h => by
  show z_tb84 pc = z_bad
  unfold z_tb84
  rw [z_bf (show 45 ≤ pc from h)]
  rfl
theorem z_tz_85 : ∀ pc, z_szf 85 ≤ pc → z_tb 85 pc = z_bad := fun pc h => by
  show z_tb85 pc = z_bad
  unfold z_tb85
  rw [z_bf (show 92 ≤ pc from h)]
  rfl
theorem z_tz_86 : ∀ pc, z_szf 86 ≤ pc → z_tb 86 pc = z_bad := fun pc h => by
  show z_tb86 pc = z_bad
  unfold z_tb86
  rw [z_bf (show 103 ≤ pc from h)]
  rfl
theorem z_tz_87 : ∀ pc, z_szf 87 ≤ pc → z_tb 87 pc = z_bad := fun pc h => by
  show z_tb87 pc = z_bad
  unfold z_tb87
  rw [z_bf (show 31 ≤ pc from h)]
  rfl
theorem z_tz_88 : ∀ pc, z_szf 88 ≤ pc → z_tb 88 pc = z_bad := fun pc h => by
  show z_tb88 pc = z_bad
  unfold z_tb88
  rw [z_bf (show 89 ≤ pc from h)]
  rfl
theorem z_tz_89 : ∀ pc, z_szf 89 ≤ pc → z_tb 89 pc = z_bad := fun pc h => by
  show z_tb89 pc = z_bad
  unfold z_tb89
  rw [z_bf (show 23 ≤ pc from h)]
  rfl
theorem z_tz_90 : ∀ pc, z_szf 90 ≤ pc → z_tb 90 pc = z_bad := fun pc h => by
  show z_tb90 pc = z_bad
  unfold z_tb90
  rw [z_bf (show 55 ≤ pc from h)]
  rfl
theorem z_tz_91 : ∀ pc, z_szf 91 ≤ pc → z_tb 91 pc = z_bad := fun pc h => by
  show z_tb91 pc = z_bad
  unfold z_tb91
  rw [z_bf (show 37 ≤ pc from h)]
  rfl
theorem z_tz_92 : ∀ pc, z_szf 92 ≤ pc → z_tb 92 pc = z_bad := fun pc h => by
  show z_tb92 pc = z_bad
  unfold z_tb92
  rw [z_bf (show 74 ≤ pc from h)]
  rfl
theorem z_tz_93 : ∀ pc, z_szf 93 ≤ pc → z_tb 93 pc = z_bad := fun pc h => by
  show z_tb93 pc = z_bad
  unfold z_tb93
  rw [z_bf (show 119 ≤ pc from h)]
  rfl
theorem z_tz_94 : ∀ pc, z_szf 94 ≤ pc → z_tb 94 pc = z_bad := fun pc h => by
  show z_tb94 pc = z_bad
  unfold z_tb94
  rw [z_bf (show 100 ≤ pc from h)]
  rfl
theorem z_tz_95 : ∀ pc, z_szf 95 ≤ pc → z_tb 95 pc = z_bad := fun pc h => by
  show z_tb95 pc = z_bad
  unfold z_tb95
  rw [z_bf (show 72 ≤ pc from h)]
  rfl
theorem z_tz_96 : ∀ pc, z_szf 96 ≤ pc → z_tb 96 pc = z_bad := fun pc h => by
  show z_tb96 pc = z_bad
  unfold z_tb96
  rw [z_bf (show 68 ≤ pc from h)]
  rfl
theorem z_tz_97 : ∀ pc, z_szf 97 ≤ pc → z_tb 97 pc = z_bad := fun pc h => by
  show z_tb97 pc = z_bad
  unfold z_tb97
  rw [z_bf (show 12 ≤ pc from h)]
  rfl
theorem z_tz_98 : ∀ pc, z_szf 98 ≤ pc → z_tb 98 pc = z_bad := fun pc h => by
  show z_tb98 pc = z_bad
  unfold z_tb98
  rw [z_bf (show 17 ≤ pc from h)]
  rfl
theorem z_tz_99 : ∀ pc, z_szf 99 ≤ pc → z_tb 99 pc = z_bad := fun pc h => by
  show z_tb99 pc = z_bad
  unfold z_tb99
  rw [z_bf (show 24 ≤ pc from h)]
  rfl
theorem z_tz_100 : ∀ pc, z_szf 100 ≤ pc → z_tb 100 pc = z_bad := fun pc h => by
  show z_tb100 pc = z_bad
  unfold z_tb100
  rw [z_bf (show 34 ≤ pc from h)]
  rfl
theorem z_tz_101 : ∀ pc, z_szf 101 ≤ pc → z_tb 101 pc = z_bad := fun pc h => by
  show z_tb101 pc = z_bad
  unfold z_tb101
  rw [z_bf (show 88 ≤ pc from h)]
  rfl
theorem z_tz_102 : ∀ pc, z_szf 102 ≤ pc → z_tb 102 pc = z_bad := fun pc h => by
  show z_tb102 pc = z_bad
  unfold z_tb102
  rw [z_bf (show 51 ≤ pc from h)]
  rfl
theorem z_tz_103 : ∀ pc, z_szf 103 ≤ pc → z_tb 103 pc = z_bad := fun pc h => by
  show z_tb103 pc = z_bad
  unfold z_tb103
  rw [z_bf (show 15 ≤ pc from h)]
  rfl
theorem z_tz_104 : ∀ pc, z_szf 104 ≤ pc → z_tb 104 pc = z_bad := fun pc h => by
  show z_tb104 pc = z_bad
  unfold z_tb104
  rw [z_bf (show 15 ≤ pc from h)]
  rfl
theorem z_tz_105 : ∀ pc, z_szf 105 ≤ pc → z_tb 105 pc = z_bad := fun pc h => by
  show z_tb105 pc = z_bad
  unfold z_tb105
  rw [z_bf (show 18 ≤ pc from h)]
  rfl
theorem z_tz_106 : ∀ pc, z_szf 106 ≤ pc → z_tb 106 pc = z_bad := fun pc h => by
  show z_tb106 pc = z_bad
  unfold z_tb106
  rw [z_bf (show 30 ≤ pc from h)]
  rfl
theorem z_tz_107 : ∀ pc, z_szf 107 ≤ pc → z_tb 107 pc = z_bad := fun pc h => by
  show z_tb107 pc = z_bad
  unfold z_tb107
  rw [z_bf (show 12 ≤ pc from h)]
  rfl
theorem z_tz_108 : ∀ pc, z_szf 108 ≤ pc → z_tb 108 pc = z_bad := fun pc h => by
  show z_tb108 pc = z_bad
  unfold z_tb108
  rw [z_bf (show 18 ≤ pc from h)]
  rfl
theorem z_tz_109 : ∀ pc, z_szf 109 ≤ pc → z_tb 109 pc = z_bad := fun pc h => by
  show z_tb109 pc = z_bad
  unfold z_tb109
  rw [z_bf (show 18 ≤ pc from h)]
  rfl
theorem z_tz_110 : ∀ pc, z_szf 110 ≤ pc → z_tb 110 pc = z_bad := fun pc h => by
  show z_tb110 pc = z_bad
  unfold z_tb110
  rw [z_bf (show 15 ≤ pc from h)]
  rfl
theorem z_tz_111 : ∀ pc, z_szf 111 ≤ pc → z_tb 111 pc = z_bad := fun pc h => by
  show z_tb111 pc = z_bad
  unfold z_tb111
  rw [z_bf (show 26 ≤ pc from h)]
  rfl
theorem z_tz_112 : ∀ pc, z_szf 112 ≤ pc → z_tb 112 pc = z_bad := fun pc h => by
  show z_tb112 pc = z_bad
  unfold z_tb112
  rw [z_bf (show 9 ≤ pc from h)]
  rfl
theorem z_tz_113 : ∀ pc, z_szf 113 ≤ pc → z_tb 113 pc = z_bad := fun pc h => by
  show z_tb113 pc = z_bad
  unfold z_tb113
  rw [z_bf (show 222 ≤ pc from h)]
  rfl
theorem z_tz_114 : ∀ pc, z_szf 114 ≤ pc → z_tb 114 pc = z_bad := fun pc h => by
  show z_tb114 pc = z_bad
  unfold z_tb114
  rw [z_bf (show 72 ≤ pc from h)]
  rfl
theorem z_tz_115 : ∀ pc, z_szf 115 ≤ pc → z_tb 115 pc = z_bad := fun pc h => by
  show z_tb115 pc = z_bad
  unfold z_tb115
  rw [z_bf (show 41 ≤ pc from h)]
  rfl
theorem z_tz_116 : ∀ pc, z_szf 116 ≤ pc → z_tb 116 pc = z_bad := fun pc h => by
  show z_tb116 pc = z_bad
  unfold z_tb116
  rw [z_bf (show 26 ≤ pc from h)]
  rfl
theorem z_tz_117 : ∀ pc, z_szf 117 ≤ pc → z_tb 117 pc = z_bad := fun pc h => by
  show z_tb117 pc = z_bad
  unfold z_tb117
  rw [z_bf (show 37 ≤ pc from h)]
  rfl
theorem z_tz_118 : ∀ pc, z_szf 118 ≤ pc → z_tb 118 pc = z_bad := fun pc h => by
  show z_tb118 pc = z_bad
  unfold z_tb118
  rw [z_bf (show 51 ≤ pc from h)]
  rfl
theorem z_tz_119 : ∀ pc, z_szf 119 ≤ pc → z_tb 119 pc = z_bad := fun pc h => by
  show z_tb119 pc = z_bad
  unfold z_tb119
  rw [z_bf (show 56 ≤ pc from h)]
  rfl
theorem z_tz_120 : ∀ pc, z_szf 120 ≤ pc → z_tb 120 pc = z_bad := fun pc h => by
  show z_tb120 pc = z_bad
  unfold z_tb120
  rw [z_bf (show 46 ≤ pc from h)]
  rfl
theorem z_tz_121 : ∀ pc, z_szf 121 ≤ pc → z_tb 121 pc = z_bad := fun pc h => by
  show z_tb121 pc = z_bad
  unfold z_tb121
  rw [z_bf (show 31 ≤ pc from h)]
  rfl
theorem z_tz_122 : ∀ pc, z_szf 122 ≤ pc → z_tb 122 pc = z_bad := fun pc h => by
  show z_tb122 pc = z_bad
  unfold z_tb122
  rw [z_bf (show 65 ≤ pc from h)]
  rfl
theorem z_tz_123 : ∀ pc, z_szf 123 ≤ pc → z_tb 123 pc = z_bad := fun pc h => by
  show z_tb123 pc = z_bad
  unfold z_tb123
  rw [z_bf (show 83 ≤ pc from h)]
  rfl
theorem z_tz_124 : ∀ pc, z_szf 124 ≤ pc → z_tb 124 pc = z_bad := fun pc h => by
  show z_tb124 pc = z_bad
  unfold z_tb124
  rw [z_bf (show 29 ≤ pc from h)]
  rfl
theorem z_tz_125 : ∀ pc, z_szf 125 ≤ pc → z_tb 125 pc = z_bad := fun pc h => by
  show z_tb125 pc = z_bad
  unfold z_tb125
  rw [z_bf (show 22 ≤ pc from h)]
  rfl
theorem z_tz_126 : ∀ pc, z_szf 126 ≤ pc → z_tb 126 pc = z_bad := fun pc h => by
  show z_tb126 pc = z_bad
  unfold z_tb126
  rw [z_bf (show 179 ≤ pc from h)]
  rfl
theorem z_tz_127 : ∀ pc, z_szf 127 ≤ pc → z_tb 127 pc = z_bad := fun pc h => by
  show z_tb127 pc = z_bad
  unfold z_tb127
  rw [z_bf (show 76 ≤ pc from h)]
  rfl
theorem z_tz_128 : ∀ pc, z_szf 128 ≤ pc → z_tb 128 pc = z_bad := fun pc h => by
  show z_tb128 pc = z_bad
  unfold z_tb128
  rw [z_bf (show 15 ≤ pc from h)]
  rfl
theorem z_tz_129 : ∀ pc, z_szf 129 ≤ pc → z_tb 129 pc = z_bad := fun pc h => by
  show z_tb129 pc = z_bad
  unfold z_tb129
  rw [z_bf (show 118 ≤ pc from h)]
  rfl
theorem z_tz_130 : ∀ pc, z_szf 130 ≤ pc → z_tb 130 pc = z_bad := fun pc h => by
  show z_tb130 pc = z_bad
  unfold z_tb130
  rw [z_bf (show 97 ≤ pc from h)]
  rfl
theorem z_tz_131 : ∀ pc, z_szf 131 ≤ pc → z_tb 131 pc = z_bad := fun pc h => by
  show z_tb131 pc = z_bad
  unfold z_tb131
  rw [z_bf (show 36 ≤ pc from h)]
  rfl
theorem z_tz_132 : ∀ pc, z_szf 132 ≤ pc → z_tb 132 pc = z_bad := fun pc h => by
  show z_tb132 pc = z_bad
  unfold z_tb132
  rw [z_bf (show 176 ≤ pc from h)]
  rfl
theorem z_tz_133 : ∀ pc, z_szf 133 ≤ pc → z_tb 133 pc = z_bad := fun pc h => by
  show z_tb133 pc = z_bad
  unfold z_tb133
  rw [z_bf (show 148 ≤ pc from h)]
  rfl
theorem z_tz_134 : ∀ pc, z_szf 134 ≤ pc → z_tb 134 pc = z_bad := fun pc h => by
  show z_tb134 pc = z_bad
  unfold z_tb134
  rw [z_bf (show 38 ≤ pc from h)]
  rfl
theorem z_tz_135 : ∀ pc, z_szf 135 ≤ pc → z_tb 135 pc = z_bad := fun pc h => by
  show z_tb135 pc = z_bad
  unfold z_tb135
  rw [z_bf (show 18 ≤ pc from h)]
  rfl
theorem z_tz_136 : ∀ pc, z_szf 136 ≤ pc → z_tb 136 pc = z_bad := fun pc h => by
  show z_tb136 pc = z_bad
  unfold z_tb136
  rw [z_bf (show 46 ≤ pc from h)]
  rfl
theorem z_tz_137 : ∀ pc, z_szf 137 ≤ pc → z_tb 137 pc = z_bad := fun pc h => by
  show z_tb137 pc = z_bad
  unfold z_tb137
  rw [z_bf (show 70 ≤ pc from h)]
  rfl
theorem z_tz_138 : ∀ pc, z_szf 138 ≤ pc → z_tb 138 pc = z_bad := fun pc h => by
  show z_tb138 pc = z_bad
  unfold z_tb138
  rw [z_bf (show 23 ≤ pc from h)]
  rfl
theorem z_tz_139 : ∀ pc, z_szf 139 ≤ pc → z_tb 139 pc = z_bad := fun pc h => by
  show z_tb139 pc = z_bad
  unfold z_tb139
  rw [z_bf (show 36 ≤ pc from h)]
  rfl
theorem z_tz_140 : ∀ pc, z_szf 140 ≤ pc → z_tb 140 pc = z_bad := fun pc h => by
  show z_tb140 pc = z_bad
  unfold z_tb140
  rw [z_bf (show 60 ≤ pc from h)]
  rfl
theorem z_tz_141 : ∀ pc, z_szf 141 ≤ pc → z_tb 141 pc = z_bad := fun pc h => by
  show z_tb141 pc = z_bad
  unfold z_tb141
  rw [z_bf (show 21 ≤ pc from h)]
  rfl
theorem z_tz_142 : ∀ pc, z_szf 142 ≤ pc → z_tb 142 pc = z_bad := fun pc h => by
  show z_tb142 pc = z_bad
  unfold z_tb142
  rw [z_bf (show 65 ≤ pc from h)]
  rfl
theorem z_tz_143 : ∀ pc, z_szf 143 ≤ pc → z_tb 143 pc = z_bad := fun pc h => by
  show z_tb143 pc = z_bad
  unfold z_tb143
  rw [z_bf (show 95 ≤ pc from h)]
  rfl
theorem z_tz_144 : ∀ pc, z_szf 144 ≤ pc → z_tb 144 pc = z_bad := fun pc h => by
  show z_tb144 pc = z_bad
  unfold z_tb144
  rw [z_bf (show 271 ≤ pc from h)]
  rfl
theorem z_tz_145 : ∀ pc, z_szf 145 ≤ pc → z_tb 145 pc = z_bad := fun pc h => by
  show z_tb145 pc = z_bad
  unfold z_tb145
  rw [z_bf (show 85 ≤ pc from h)]
  rfl
theorem z_tz_146 : ∀ pc, z_szf 146 ≤ pc → z_tb 146 pc = z_bad := fun pc h => by
  show z_tb146 pc = z_bad
  unfold z_tb146
  rw [z_bf (show 58 ≤ pc from h)]
  rfl
theorem z_tz_147 : ∀ pc, z_szf 147 ≤ pc → z_tb 147 pc = z_bad := fun pc h => by
  show z_tb147 pc = z_bad
  unfold z_tb147
  rw [z_bf (show 51 ≤ pc from h)]
  rfl
theorem z_tz_148 : ∀ pc, z_szf 148 ≤ pc → z_tb 148 pc = z_bad := fun pc h => by
  show z_tb148 pc = z_bad
  unfold z_tb148
  rw [z_bf (show 43 ≤ pc from h)]
  rfl
theorem z_tz_149 : ∀ pc, z_szf 149 ≤ pc → z_tb 149 pc = z_bad := fun pc h => by
  show z_tb149 pc = z_bad
  unfold z_tb149
  rw [z_bf (show 269 ≤ pc from h)]
  rfl
theorem z_tz_150 : ∀ pc, z_szf 150 ≤ pc → z_tb 150 pc = z_bad := fun pc h => by
  show z_tb150 pc = z_bad
  unfold z_tb150
  rw [z_bf (show 110 ≤ pc from h)]
  rfl
theorem z_tz_151 : ∀ pc, z_szf 151 ≤ pc → z_tb 151 pc = z_bad := fun pc h => by
  show z_tb151 pc = z_bad
  unfold z_tb151
  rw [z_bf (show 157 ≤ pc from h)]
  rfl
theorem z_tz_152 : ∀ pc, z_szf 152 ≤ pc → z_tb 152 pc = z_bad := fun pc h => by
  show z_tb152 pc = z_bad
  unfold z_tb152
  rw [z_bf (show 16 ≤ pc from h)]
  rfl
theorem z_tz_153 : ∀ pc, z_szf 153 ≤ pc → z_tb 153 pc = z_bad := fun pc h => by
  show z_tb153 pc = z_bad
  unfold z_tb153
  rw [z_bf (show 95 ≤ pc from h)]
  rfl
theorem z_tz_154 : ∀ pc, z_szf 154 ≤ pc → z_tb 154 pc = z_bad := fun pc h => by
  show z_tb154 pc = z_bad
  unfold z_tb154
  rw [z_bf (show 29 ≤ pc from h)]
  rfl
theorem z_tz_155 : ∀ pc, z_szf 155 ≤ pc → z_tb 155 pc = z_bad := fun pc h => by
  show z_tb155 pc = z_bad
  unfold z_tb155
  rw [z_bf (show 29 ≤ pc from h)]
  rfl
theorem z_tz_156 : ∀ pc, z_szf 156 ≤ pc → z_tb 156 pc = z_bad := fun pc h => by
  show z_tb156 pc = z_bad
  unfold z_tb156
  rw [z_bf (show 58 ≤ pc from h)]
  rfl
theorem z_tz_157 : ∀ pc, z_szf 157 ≤ pc → z_tb 157 pc = z_bad := fun pc h => by
  show z_tb157 pc = z_bad
  unfold z_tb157
  rw [z_bf (show 55 ≤ pc from h)]
  rfl
theorem z_tz_158 : ∀ pc, z_szf 158 ≤ pc → z_tb 158 pc = z_bad := fun pc h => by
  show z_tb158 pc = z_bad
  unfold z_tb158
  rw [z_bf (show 5 ≤ pc from h)]
  rfl
theorem z_tz_159 : ∀ pc, z_szf 159 ≤ pc → z_tb 159 pc = z_bad := fun pc h => by
  show z_tb159 pc = z_bad
  unfold z_tb159
  rw [z_bf (show 126 ≤ pc from h)]
  rfl
theorem z_tz_160 : ∀ pc, z_szf 160 ≤ pc → z_tb 160 pc = z_bad := fun pc h => by
  show z_tb160 pc = z_bad
  unfold z_tb160
  rw [z_bf (show 53 ≤ pc from h)]
  rfl
theorem z_tz_161 : ∀ pc, z_szf 161 ≤ pc → z_tb 161 pc = z_bad := fun pc h => by
  show z_tb161 pc = z_bad
  unfold z_tb161
  rw [z_bf (show 39 ≤ pc from h)]
  rfl
theorem z_tz_162 : ∀ pc, z_szf 162 ≤ pc → z_tb 162 pc = z_bad := fun pc h => by
  show z_tb162 pc = z_bad
  unfold z_tb162
  rw [z_bf (show 76 ≤ pc from h)]
  rfl
theorem z_tz_163 : ∀ pc, z_szf 163 ≤ pc → z_tb 163 pc = z_bad := fun pc h => by
  show z_tb163 pc = z_bad
  unfold z_tb163
  rw [z_bf (show 180 ≤ pc from h)]
  rfl
theorem z_tz_164 : ∀ pc, z_szf 164 ≤ pc → z_tb 164 pc = z_bad := fun pc h => by
  show z_tb164 pc = z_bad
  unfold z_tb164
  rw [z_bf (show 57 ≤ pc from h)]
  rfl
theorem z_tz_165 : ∀ pc, z_szf 165 ≤ pc → z_tb 165 pc = z_bad := fun pc h => by
  show z_tb165 pc = z_bad
  unfold z_tb165
  rw [z_bf (show 105 ≤ pc from h)]
  rfl
theorem z_tz_166 : ∀ pc, z_szf 166 ≤ pc → z_tb 166 pc = z_bad := fun pc h => by
  show z_tb166 pc = z_bad
  unfold z_tb166
  rw [z_bf (show 54 ≤ pc from h)]
  rfl
theorem z_tz_167 : ∀ pc, z_szf 167 ≤ pc → z_tb 167 pc = z_bad := fun pc h => by
  show z_tb167 pc = z_bad
  unfold z_tb167
  rw [z_bf (show 115 ≤ pc from h)]
  rfl
theorem z_tz_168 : ∀ pc, z_szf 168 ≤ pc → z_tb 168 pc = z_bad := fun pc h => by
  show z_tb168 pc = z_bad
  unfold z_tb168
  rw [z_bf (show 138 ≤ pc from h)]
  rfl
theorem z_tz_169 : ∀ pc, z_szf 169 ≤ pc → z_tb 169 pc = z_bad := fun pc h => by
  show z_tb169 pc = z_bad
  unfold z_tb169
  rw [z_bf (show 62 ≤ pc from h)]
  rfl
theorem z_tz_170 : ∀ pc, z_szf 170 ≤ pc → z_tb 170 pc = z_bad := fun pc h => by
  show z_tb170 pc = z_bad
  unfold z_tb170
  rw [z_bf (show 26 ≤ pc from h)]
  rfl
theorem z_tz_171 : ∀ pc, z_szf 171 ≤ pc → z_tb 171 pc = z_bad := fun pc h => by
  show z_tb171 pc = z_bad
  unfold z_tb171
  rw [z_bf (show 28 ≤ pc from h)]
  rfl
theorem z_tz_172 : ∀ pc, z_szf 172 ≤ pc → z_tb 172 pc = z_bad := fun pc h => by
  show z_tb172 pc = z_bad
  unfold z_tb172
  rw [z_bf (show 22 ≤ pc from h)]
  rfl
theorem z_tz_173 : ∀ pc, z_szf 173 ≤ pc → z_tb 173 pc = z_bad := fun pc h => by
  show z_tb173 pc = z_bad
  unfold z_tb173
  rw [z_bf (show 156 ≤ pc from h)]
  rfl
theorem z_tz_174 : ∀ pc, z_szf 174 ≤ pc → z_tb 174 pc = z_bad := fun pc h => by
  show z_tb174 pc = z_bad
  unfold z_tb174
  rw [z_bf (show 35 ≤ pc from h)]
  rfl
theorem z_tz_175 : ∀ pc, z_szf 175 ≤ pc → z_tb 175 pc = z_bad := fun pc h => by
  show z_tb175 pc = z_bad
  unfold z_tb175
  rw [z_bf (show 15 ≤ pc from h)]
  rfl
theorem z_tz_176 : ∀ pc, z_szf 176 ≤ pc → z_tb 176 pc = z_bad := fun pc h => by
  show z_tb176 pc = z_bad
  unfold z_tb176
  rw [z_bf (show 116 ≤ pc from h)]
  rfl
theorem z_tz_177 : ∀ pc, z_szf 177 ≤ pc → z_tb 177 pc = z_bad := fun pc h => by
  show z_tb177 pc = z_bad
  unfold z_tb177
  rw [z_bf (show 46 ≤ pc from h)]
  rfl
theorem z_tz_178 : ∀ pc, z_szf 178 ≤ pc → z_tb 178 pc = z_bad := fun pc h => by
  show z_tb178 pc = z_bad
  unfold z_tb178
  rw [z_bf (show 70 ≤ pc from h)]
  rfl
theorem z_tz_179 : ∀ pc, z_szf 179 ≤ pc → z_tb 179 pc = z_bad := fun pc h => by
  show z_tb179 pc = z_bad
  unfold z_tb179
  rw [z_bf (show 105 ≤ pc from h)]
  rfl
theorem z_tz_180 : ∀ pc, z_szf 180 ≤ pc → z_tb 180 pc = z_bad := fun pc h => by
  show z_tb180 pc = z_bad
  unfold z_tb180
  rw [z_bf (show 88 ≤ pc from h)]
  rfl
theorem z_tz_181 : ∀ pc, z_szf 181 ≤ pc → z_tb 181 pc = z_bad := fun pc h => by
  show z_tb181 pc = z_bad
  unfold z_tb181
  rw [z_bf (show 81 ≤ pc from h)]
  rfl
theorem z_tz_182 : ∀ pc, z_szf 182 ≤ pc → z_tb 182 pc = z_bad := fun pc h => by
  show z_tb182 pc = z_bad
  unfold z_tb182
  rw [z_bf (show 54 ≤ pc from h)]
  rfl
theorem z_tz_183 : ∀ pc, z_szf 183 ≤ pc → z_tb 183 pc = z_bad := fun pc h => by
  show z_tb183 pc = z_bad
  unfold z_tb183
  rw [z_bf (show 53 ≤ pc from h)]
  rfl
theorem z_tz_184 : ∀ pc, z_szf 184 ≤ pc → z_tb 184 pc = z_bad := fun pc h => by
  show z_tb184 pc = z_bad
  unfold z_tb184
  rw [z_bf (show 20 ≤ pc from h)]
  rfl
theorem z_tz_185 : ∀ pc, z_szf 185 ≤ pc → z_tb 185 pc = z_bad := fun pc h => by
  show z_tb185 pc = z_bad
  unfold z_tb185
  rw [z_bf (show 11 ≤ pc from h)]
  rfl
theorem z_tz_186 : ∀ pc, z_szf 186 ≤ pc → z_tb 186 pc = z_bad := fun pc h => by
  show z_tb186 pc = z_bad
  unfold z_tb186
  rw [z_bf (show 13 ≤ pc from h)]
  rfl
theorem z_tz_187 : ∀ pc, z_szf 187 ≤ pc → z_tb 187 pc = z_bad := fun pc h => by
  show z_tb187 pc = z_bad
  unfold z_tb187
  rw [z_bf (show 11 ≤ pc from h)]
  rfl
theorem z_tz_188 : ∀ pc, z_szf 188 ≤ pc → z_tb 188 pc = z_bad := fun pc h => by
  show z_tb188 pc = z_bad
  unfold z_tb188
  rw [z_bf (show 11 ≤ pc from h)]
  rfl
theorem z_tz_189 : ∀ pc, z_szf 189 ≤ pc → z_tb 189 pc = z_bad := fun pc h => by
  show z_tb189 pc = z_bad
  unfold z_tb189
  rw [z_bf (show 1251 ≤ pc from h)]
  rfl
theorem z_tq_0 : ∀ M, M < 0 → ∀ pc, z_szf M ≤ pc → z_tb M pc = z_bad := lt_0
theorem z_tq_1 : ∀ M, M < 1 → ∀ pc, z_szf M ≤ pc → z_tb M pc = z_bad := lt_s z_tq_0 z_tz_0
theorem z_tq_2 : ∀ M, M < 2 → ∀ pc, z_szf M ≤ pc → z_tb M pc = z_bad := lt_s z_tq_1 z_tz_1
theorem z_tq_3 : ∀ M, M < 3 → ∀ pc, z_szf M ≤ pc → z_tb M pc = z_bad := lt_s z_tq_2 z_tz_2
theorem z_tq_4 : ∀ M, M < 4 → ∀ pc, z_szf M ≤ pc → z_tb M pc = z_bad := lt_s z_tq_3 z_tz_3
theorem z_tq_5 : ∀ M, M < 5 → ∀ pc, z_szf M ≤ pc → z_tb M pc = z_bad := lt_s z_tq_4 z_tz_4
theorem z_tq_6 : ∀ M, M < 6 → ∀ pc, z_szf M ≤ pc → z_tb M pc = z_bad := lt_s z_tq_5 z_tz_5
theorem z_tq_7 : ∀ M, M < 7 → ∀ pc, z_szf M ≤ pc → z_tb M pc = z_bad := lt_s z_tq_6 z_tz_6
theorem z_tq_8 : ∀ M, M < 8 → ∀ pc, z_szf M ≤ pc → z_tb M pc = z_bad := lt_s z_tq_7 z_tz_7
theorem z_tq_9 : ∀ M, M < 9 → ∀ pc, z_szf M ≤ pc → z_tb M pc = z_bad := lt_s z_tq_8 z_tz_8
theorem z_tq_10 : ∀ M, M < 10 → ∀ pc, z_szf M ≤ pc → z_tb M pc = z_bad := lt_s z_tq_9 z_tz_9
theorem z_tq_11 : ∀ M, M < 11 → ∀ pc, z_szf M ≤ pc → z_tb M pc = z_bad := lt_s z_tq_10 z_tz_10
theorem z_tq_12 : ∀ M, M < 12 → ∀ pc, z_szf M ≤ pc → z_tb M pc = z_bad := lt_s z_tq_11 z_tz_11
theorem z_tq_13 : ∀ M, M < 13 → ∀ pc, z_szf M ≤ pc → z_tb M pc = z_bad := lt_s z_tq_12 z_tz_12
theorem z_tq_14 : ∀ M, M < 14 → ∀ pc, z_szf M ≤ pc → z_tb M pc = z_bad := lt_s z_tq_13 z_tz_13
theorem z_tq_15 : ∀ M, M < 15 → ∀ pc, z_szf M ≤ pc → z_tb M pc = z_bad := lt_s z_tq_14 z_tz_14
theorem z_tq_16 : ∀ M, M < 16 → ∀ pc, z_szf M ≤ pc → z_tb M pc = z_bad := lt_s z_tq_15 z_tz_15
theorem z_tq_17 : ∀ M, M < 17 → ∀ pc, z_szf M ≤ pc → z_tb M pc = z_bad := lt_s z_tq_16 z_tz_16
theorem z_tq_18 : ∀ M, M < 18 → ∀ pc, z_szf M ≤ pc → z_tb M pc = z_bad := lt_s z_tq_17 z_tz_17
theorem z_tq_19 : ∀ M, M < 19 → ∀ pc, z_szf M ≤ pc → z_tb M pc = z_bad := lt_s z_tq_18 z_tz_18
theorem z_tq_20 : ∀ M, M < 20 → ∀ pc, z_szf M ≤ pc → z_tb M pc = z_bad := lt_s z_tq_19 z_tz_19
theorem z_tq_21 : ∀ M, M < 21 → ∀ pc, z_szf M ≤ pc → z_tb M pc = z_bad := lt_s z_tq_20 z_tz_20
theorem z_tq_22 : ∀ M, M < 22 → ∀ pc, z_szf M ≤ pc → z_tb M pc = z_bad := lt_s z_tq_21 z_tz_21
theorem z_tq_23 : ∀ M, M < 23 → ∀ pc, z_szf M ≤ pc → z_tb M pc = z_bad := lt_s z_tq_22 z_tz_22
theorem z_tq_24 : ∀ M, M < 24 → ∀ pc, z_szf M ≤ pc → z_tb M pc = z_bad := lt_s z_tq_23 z_tz_23
theorem z_tq_25 : ∀ M, M < 25 → ∀ pc, z_szf M ≤ pc → z_tb M pc = z_bad := lt_s z_tq_24 z_tz_24
theorem z_tq_26 : ∀ M, M < 26 → ∀ pc, z_szf M ≤ pc → z_tb M pc = z_bad := lt_s z_tq_25 z_tz_25
theorem z_tq_27 : ∀ M, M < 27 → ∀ pc, z_szf M ≤ pc → z_tb M pc = z_bad := lt_s z_tq_26 z_tz_26
theorem z_tq_28 : ∀ M, M < 28 → ∀ pc, z_szf M ≤ pc → z_tb M pc = z_bad := lt_s z_tq_27 z_tz_27
theorem z_tq_29 : ∀ M, M < 29 → ∀ pc, z_szf M ≤ pc → z_tb M pc = z_bad := lt_s z_tq_28 z_tz_28
theorem z_tq_30 : ∀ M, M < 30 → ∀ pc, z_szf M ≤ pc → z_tb M pc = z_bad := lt_s z_tq_29 z_tz_29
theorem z_tq_31 : ∀ M, M < 31 → ∀ pc, z_szf M ≤ pc → z_tb M pc = z_bad := lt_s z_tq_30 z_tz_30
theorem z_tq_32 : ∀ M, M < 32 → ∀ pc, z_szf M ≤ pc → z_tb M pc = z_bad := lt_s z_tq_31 z_tz_31
theorem z_tq_33 : ∀ M, M < 33 → ∀ pc, z_szf M ≤ pc → z_tb M pc = z_bad := lt_s z_tq_32 z_tz_32
theorem z_tq_34 : ∀ M, M < 34 → ∀ pc, z_szf M ≤ pc → z_tb M pc = z_bad := lt_s z_tq_33 z_tz_33
theorem z_tq_35 : ∀ M, M < 35 → ∀ pc, z_szf M ≤ pc → z_tb M pc = z_bad := lt_s z_tq_34 z_tz_34
theorem z_tq_36 : ∀ M, M < 36 → ∀ pc, z_szf M ≤ pc → z_tb M pc = z_bad := lt_s z_tq_35 z_tz_35
theorem z_tq_37 : ∀ M, M < 37 → ∀ pc, z_szf M ≤ pc → z_tb M pc = z_bad := lt_s z_tq_36 z_tz_36
theorem z_tq_38 : ∀ M, M < 38 → ∀ pc, z_szf M ≤ pc → z_tb M pc = z_bad := lt_s z_tq_37 z_tz_37
theorem z_tq_39 : ∀ M, M < 39 → ∀ pc, z_szf M ≤ pc → z_tb M pc = z_bad := lt_s z_tq_38 z_tz_38
theorem z_tq_40 : ∀ M, M < 40 → ∀ pc, z_szf M ≤ pc → z_tb M pc = z_bad := lt_s z_tq_39 z_tz_39
theorem z_tq_41 : ∀ M, M < 41 → ∀ pc, z_szf M ≤ pc → z_tb M pc = z_bad := lt_s z_tq_40 z_tz_40
theorem z_tq_42 : ∀ M, M < 42 → ∀ pc, z_szf M ≤ pc → z_tb M pc = z_bad := lt_s z_tq_41 z_tz_41
theorem z_tq_43 : ∀ M, M < 43 → ∀ pc, z_szf M ≤ pc → z_tb M pc = z_bad := lt_s z_tq_42 z_tz_42
theorem z_tq_44 : ∀ M, M < 44 → ∀ pc, z_szf M ≤ pc → z_tb M pc = z_bad := lt_s z_tq_43 z_tz_43
theorem z_tq_45 : ∀ M, M < 45 → ∀ pc, z_szf M ≤ pc → z_tb M pc = z_bad := lt_s z_tq_44 z_tz_44
theorem z_tq_46 : ∀ M, M < 46 → ∀ pc, z_szf M ≤ pc → z_tb M pc = z_bad := lt_s z_tq_45 z_tz_45
theorem z_tq_47 : ∀ M, M < 47 → ∀ pc, z_szf M ≤ pc → z_tb M pc = z_bad := lt_s z_tq_46 z_tz_46
theorem z_tq_48 : ∀ M, M < 48 → ∀ pc, z_szf M ≤ pc → z_tb M pc = z_bad := lt_s z_tq_47 z_tz_47
theorem z_tq_49 : ∀ M, M < 49 → ∀ pc, z_szf M ≤ pc → z_tb M pc = z_bad := lt_s z_tq_48 z_tz_48
theorem z_tq_50 : ∀ M, M < 50 → ∀ pc, z_szf M ≤ pc → z_tb M pc = z_bad := lt_s z_tq_49 z_tz_49
theorem z_tq_51 : ∀ M, M < 51 → ∀ pc, z_szf M ≤ pc → z_tb M pc = z_bad := lt_s z_tq_50 z_tz_50
theorem z_tq_52 : ∀ M, M < 52 → ∀ pc, z_szf M ≤ pc → z_tb M pc = z_bad := lt_s z_tq_51 z_tz_51
theorem z_tq_53 : ∀ M, M < 53 → ∀ pc, z_szf M ≤ pc → z_tb M pc = z_bad := lt_s z_tq_52 z_tz_52
theorem z_tq_54 : ∀ M, M < 54 → ∀ pc, z_szf M ≤ pc → z_tb M pc = z_bad := lt_s z_tq_53 z_tz_53
theorem z_tq_55 : ∀ M, M < 55 → ∀ pc, z_szf M ≤ pc → z_tb M pc = z_bad := lt_s z_tq_54 z_tz_54
theorem z_tq_56 : ∀ M, M < 56 → ∀ pc, z_szf M ≤ pc → z_tb M pc = z_bad := lt_s z_tq_55 z_tz_55
theorem z_tq_57 : ∀ M, M < 57 → ∀ pc, z_szf M ≤ pc → z_tb M pc = z_bad := lt_s z_tq_56 z_tz_56
theorem z_tq_58 : ∀ M, M < 58 → ∀ pc, z_szf M ≤ pc → z_tb M pc = z_bad := lt_s z_tq_57 z_tz_57
theorem z_tq_59 : ∀ M, M < 59 → ∀ pc, z_szf M ≤ pc → z_tb M pc = z_bad := lt_s z_tq_58 z_tz_58
theorem z_tq_60 : ∀ M, M < 60 → ∀ pc, z_szf M ≤ pc → z_tb M pc = z_bad := lt_s z_tq_59 z_tz_59
theorem z_tq_61 : ∀ M, M < 61 → ∀ pc, z_szf M ≤ pc → z_tb M pc = z_bad := lt_s z_tq_60 z_tz_60
theorem z_tq_62 : ∀ M, M < 62 → ∀ pc, z_szf M ≤ pc → z_tb M pc = z_bad := lt_s z_tq_61 z_tz_61
theorem z_tq_63 : ∀ M, M < 63 → ∀ pc, z_szf M ≤ pc → z_tb M pc = z_bad := lt_s z_tq_62 z_tz_62
theorem z_tq_64 : ∀ M, M < 64 → ∀ pc, z_szf M ≤ pc → z_tb M pc = z_bad := lt_s z_tq_63 z_tz_63
theorem z_tq_65 : ∀ M, M < 65 → ∀ pc, z_szf M ≤ pc → z_tb M pc = z_bad := lt_s z_tq_64 z_tz_64
theorem z_tq_66 : ∀ M, M < 66 → ∀ pc, z_szf M ≤ pc → z_tb M pc = z_bad := lt_s z_tq_65 z_tz_65
theorem z_tq_67 : ∀ M, M < 67 → ∀ pc, z_szf M ≤ pc → z_tb M pc = z_bad := lt_s z_tq_66 z_tz_66
theorem z_tq_68 : ∀ M, M < 68 → ∀ pc, z_szf M ≤ pc → z_tb M pc = z_bad := lt_s z_tq_67 z_tz_67
theorem z_tq_69 : ∀ M, M < 69 → ∀ pc, z_szf M ≤ pc → z_tb M pc = z_bad := lt_s z_tq_68 z_tz_68
theorem z_tq_70 : ∀ M, M < 70 → ∀ pc, z_szf M ≤ pc → z_tb M pc = z_bad := lt_s z_tq_69 z_tz_69
theorem z_tq_71 : ∀ M, M < 71 → ∀ pc, z_szf M ≤ pc → z_tb M pc = z_bad := lt_s z_tq_70 z_tz_70
theorem z_tq_72 : ∀ M, M < 72 → ∀ pc, z_szf M ≤ pc → z_tb M pc = z_bad := lt_s z_tq_71 z_tz_71
theorem z_tq_73 : ∀ M, M < 73 → ∀ pc, z_szf M ≤ pc → z_tb M pc = z_bad := lt_s z_tq_72 z_tz_72
theorem z_tq_74 : ∀ M, M < 74 → ∀ pc, z_szf M ≤ pc → z_tb M pc = z_bad := lt_s z_tq_73 z_tz_73
theorem z_tq_75 : ∀ M, M < 75 → ∀ pc, z_szf M ≤ pc → z_tb M pc = z_bad := lt_s z_tq_74 z_tz_74
theorem z_tq_76 : ∀ M, M < 76 → ∀ pc, z_szf M ≤ pc → z_tb M pc = z_bad := lt_s z_tq_75 z_tz_75
theorem z_tq_77 : ∀ M, M < 77 → ∀ pc, z_szf M ≤ pc → z_tb M pc = z_bad := lt_s z_tq_76 z_tz_76
theorem z_tq_78 : ∀ M, M < 78 → ∀ pc, z_szf M ≤ pc → z_tb M pc = z_bad := lt_s z_tq_77 z_tz_77
theorem z_tq_79 : ∀ M, M < 79 → ∀ pc, z_szf M ≤ pc → z_tb M pc = z_bad := lt_s z_tq_78 z_tz_78
theorem z_tq_80 : ∀ M, M < 80 → ∀ pc, z_szf M ≤ pc → z_tb M pc = z_bad := lt_s z_tq_79 z_tz_79
theorem z_tq_81 : ∀ M, M < 81 → ∀ pc, z_szf M ≤ pc → z_tb M pc = z_bad := lt_s z_tq_80 z_tz_80
theorem z_tq_82 : ∀ M, M < 82 → ∀ pc, z_szf M ≤ pc → z_tb M pc = z_bad := lt_s z_tq_81 z_tz_81
theorem z_tq_83 : ∀ M, M < 83 → ∀ pc, z_szf M ≤ pc → z_tb M pc = z_bad := lt_s z_tq_82 z_tz_82
theorem z_tq_84 : ∀ M, M < 84 → ∀ pc, z_szf M ≤ pc → z_tb M pc = z_bad := lt_s z_tq_83 z_tz_83
theorem z_tq_85 : ∀ M, M < 85 → ∀ pc, z_szf M ≤ pc → z_tb M pc = z_bad := lt_s z_tq_84 z_tz_84
theorem z_tq_86 : ∀ M, M < 86 → ∀ pc, z_szf M ≤ pc → z_tb M pc = z_bad := lt_s z_tq_85 z_tz_85
theorem z_tq_87 : ∀ M, M < 87 → ∀ pc, z_szf M ≤ pc → z_tb M pc = z_bad := lt_s z_tq_86 z_tz_86
theorem z_tq_88 : ∀ M, M < 88 → ∀ pc, z_szf M ≤ pc → z_tb M pc = z_bad := lt_s z_tq_87 z_tz_87
theorem z_tq_89 : ∀ M, M < 89 → ∀ pc, z_szf M ≤ pc → z_tb M pc = z_bad := lt_s z_tq_88 z_tz_88
theorem z_tq_90 : ∀ M, M < 90 → ∀ pc, z_szf M ≤ pc → z_tb M pc = z_bad := lt_s z_tq_89 z_tz_89
theorem z_tq_91 : ∀ M, M < 91 → ∀ pc, z_szf M ≤ pc → z_tb M pc = z_bad := lt_s z_tq_90 z_tz_90
theorem z_tq_92 : ∀ M, M < 92 → ∀ pc, z_szf M ≤ pc → z_tb M pc = z_bad := lt_s z_tq_91 z_tz_91
theorem z_tq_93 : ∀ M, M < 93 → ∀ pc, z_szf M ≤ pc → z_tb M pc = z_bad := lt_s z_tq_92 z_tz_92
theorem z_tq_94 : ∀ M, M < 94 → ∀ pc, z_szf M ≤ pc → z_tb M pc = z_bad := lt_s z_tq_93 z_tz_93
theorem z_tq_95 : ∀ M, M < 95 → ∀ pc, z_szf M ≤ pc → z_tb M pc = z_bad := lt_s z_tq_94 z_tz_94
theorem z_tq_96 : ∀ M, M < 96 → ∀ pc, z_szf M ≤ pc → z_tb M pc = z_bad := lt_s z_tq_95 z_tz_95
theorem z_tq_97 : ∀ M, M < 97 → ∀ pc, z_szf M ≤ pc → z_tb M pc = z_bad := lt_s z_tq_96 z_tz_96
theorem z_tq_98 : ∀ M, M < 98 → ∀ pc, z_szf M ≤ pc → z_tb M pc = z_bad := lt_s z_tq_97 z_tz_97
theorem z_tq_99 : ∀ M, M < 99 → ∀ pc, z_szf M ≤ pc → z_tb M pc = z_bad := lt_s z_tq_98 z_tz_98
theorem z_tq_100 : ∀ M, M < 100 → ∀ pc, z_szf M ≤ pc → z_tb M pc = z_bad := lt_s z_tq_99 z_tz_99
theorem z_tq_101 : ∀ M, M < 101 → ∀ pc, z_szf M ≤ pc → z_tb M pc = z_bad := lt_s z_tq_100 z_tz_100
theorem z_tq_102 : ∀ M, M < 102 → ∀ pc, z_szf M ≤ pc → z_tb M pc = z_bad := lt_s z_tq_101 z_tz_101
theorem z_tq_103 : ∀ M, M < 103 → ∀ pc, z_szf M ≤ pc → z_tb M pc = z_bad := lt_s z_tq_102 z_tz_102
theorem z_tq_104 : ∀ M, M < 104 → ∀ pc, z_szf M ≤ pc → z_tb M pc = z_bad := lt_s z_tq_103 z_tz_103
theorem z_tq_105 : ∀ M, M < 105 → ∀ pc, z_szf M ≤ pc → z_tb M pc = z_bad := lt_s z_tq_104 z_tz_104
theorem z_tq_106 : ∀ M, M < 106 → ∀ pc, z_szf M ≤ pc → z_tb M pc = z_bad := lt_s z_tq_105 z_tz_105
theorem z_tq_107 : ∀ M, M < 107 → ∀ pc, z_szf M ≤ pc → z_tb M pc = z_bad := lt_s z_tq_106 z_tz_106
theorem z_tq_108 : ∀ M, M < 108 → ∀ pc, z_szf M ≤ pc → z_tb M pc = z_bad := lt_s z_tq_107 z_tz_107
theorem z_tq_109 : ∀ M, M < 109 → ∀ pc, z_szf M ≤ pc → z_tb M pc = z_bad := lt_s z_tq_108 z_tz_108
theorem z_tq_110 : ∀ M, M < 110 → ∀ pc, z_szf M ≤ pc → z_tb M pc = z_bad := lt_s z_tq_109 z_tz_109
theorem z_tq_111 : ∀ M, M < 111 → ∀ pc, z_szf M ≤ pc → z_tb M pc = z_bad := lt_s z_tq_110 z_tz_110
theorem z_tq_112 : ∀ M, M < 112 → ∀ pc, z_szf M ≤ pc → z_tb M pc = z_bad := lt_s z_tq_111 z_tz_111
theorem z_tq_113 : ∀ M, M < 113 → ∀ pc, z_szf M ≤ pc → z_tb M pc = z_bad := lt_s z_tq_112 z_tz_112
theorem z_tq_114 : ∀ M, M < 114 → ∀ pc, z_szf M ≤ pc → z_tb M pc = z_bad := lt_s z_tq_113 z_tz_113
theorem z_tq_115 : ∀ M, M < 115 → ∀ pc, z_szf M ≤ pc → z_tb M pc = z_bad := lt_s z_tq_114 z_tz_114
theorem z_tq_116 : ∀ M, M < 116 → ∀ pc, z_szf M ≤ pc → z_tb M pc = z_bad := lt_s z_tq_115 z_tz_115
theorem z_tq_117 : ∀ M, M < 117 → ∀ pc, z_szf M ≤ pc → z_tb M pc = z_bad := lt_s z_tq_116 z_tz_116
theorem z_tq_118 : ∀ M, M < 118 → ∀ pc, z_szf M ≤ pc → z_tb M pc = z_bad := lt_s z_tq_117 z_tz_117
theorem z_tq_119 : ∀ M, M < 119 → ∀ pc, z_szf M ≤ pc → z_tb M pc = z_bad := lt_s z_tq_118 z_tz_118
theorem z_tq_120 : ∀ M, M < 120 → ∀ pc, z_szf M ≤ pc → z_tb M pc = z_bad := lt_s z_tq_119 z_tz_119
theorem z_tq_121 : ∀ M, M < 121 → ∀ pc, z_szf M ≤ pc → z_tb M pc = z_bad := lt_s z_tq_120 z_tz_120
theorem z_tq_122 : ∀ M, M < 122 → ∀ pc, z_szf M ≤ pc → z_tb M pc = z_bad := lt_s z_tq_121 z_tz_121
theorem z_tq_123 : ∀ M, M < 123 → ∀ pc, z_szf M ≤ pc → z_tb M pc = z_bad := lt_s z_tq_122 z_tz_122
theorem z_tq_124 : ∀ M, M < 124 → ∀ pc, z_szf M ≤ pc → z_tb M pc = z_bad := lt_s z_tq_123 z_tz_123
theorem z_tq_125 : ∀ M, M < 125 → ∀ pc, z_szf M ≤ pc → z_tb M pc = z_bad := lt_s z_tq_124 z_tz_124
theorem z_tq_126 : ∀ M, M < 126 → ∀ pc, z_szf M ≤ pc → z_tb M pc = z_bad := lt_s z_tq_125 z_tz_125
theorem z_tq_127 : ∀ M, M < 127 → ∀ pc, z_szf M ≤ pc → z_tb M pc = z_bad := lt_s z_tq_126 z_tz_126
theorem z_tq_128 : ∀ M, M < 128 → ∀ pc, z_szf M ≤ pc → z_tb M pc = z_bad := lt_s z_tq_127 z_tz_127
theorem z_tq_129 : ∀ M, M < 129 → ∀ pc, z_szf M ≤ pc → z_tb M pc = z_bad := lt_s z_tq_128 z_tz_128
theorem z_tq_130 : ∀ M, M < 130 → ∀ pc, z_szf M ≤ pc → z_tb M pc = z_bad := lt_s z_tq_129 z_tz_129
theorem z_tq_131 : ∀ M, M < 131 → ∀ pc, z_szf M ≤ pc → z_tb M pc = z_bad := lt_s z_tq_130 z_tz_130
theorem z_tq_132 : ∀ M, M < 132 → ∀ pc, z_szf M ≤ pc → z_tb M pc = z_bad := lt_s z_tq_131 z_tz_131
theorem z_tq_133 : ∀ M, M < 133 → ∀ pc, z_szf M ≤ pc → z_tb M pc = z_bad := lt_s z_tq_132 z_tz_132
theorem z_tq_134 : ∀ M, M < 134 → ∀ pc, z_szf M ≤ pc → z_tb M pc = z_bad := lt_s z_tq_133 z_tz_133
theorem z_tq_135 : ∀ M, M < 135 → ∀ pc, z_szf M ≤ pc → z_tb M pc = z_bad := lt_s z_tq_134 z_tz_134
theorem z_tq_136 : ∀ M, M < 136 → ∀ pc, z_szf M ≤ pc → z_tb M pc = z_bad := lt_s z_tq_135 z_tz_135
theorem z_tq_137 : ∀ M, M < 137 → ∀ pc, z_szf M ≤ pc → z_tb M pc = z_bad := lt_s z_tq_136 z_tz_136
theorem z_tq_138 : ∀ M, M < 138 → ∀ pc, z_szf M ≤ pc → z_tb M pc = z_bad := lt_s z_tq_137 z_tz_137
theorem z_tq_139 : ∀ M, M < 139 → ∀ pc, z_szf M ≤ pc → z_tb M pc = z_bad := lt_s z_tq_138 z_tz_138
theorem z_tq_140 : ∀ M, M < 140 → ∀ pc, z_szf M ≤ pc → z_tb M pc = z_bad := lt_s z_tq_139 z_tz_139
theorem z_tq_141 : ∀ M, M < 141 → ∀ pc, z_szf M ≤ pc → z_tb M pc = z_bad := lt_s z_tq_140 z_tz_140
theorem z_tq_142 : ∀ M, M < 142 → ∀ pc, z_szf M ≤ pc → z_tb M pc = z_bad := lt_s z_tq_141 z_tz_141
theorem z_tq_143 : ∀ M, M < 143 → ∀ pc, z_szf M ≤ pc → z_tb M pc = z_bad := lt_s z_tq_142 z_tz_142
theorem z_tq_144 : ∀ M, M < 144 → ∀ pc, z_szf M ≤ pc → z_tb M pc = z_bad := lt_s z_tq_143 z_tz_143
theorem z_tq_145 : ∀ M, M < 145 → ∀ pc, z_szf M ≤ pc → z_tb M pc = z_bad := lt_s z_tq_144 z_tz_144
theorem z_tq_146 : ∀ M, M < 146 → ∀ pc, z_szf M ≤ pc → z_tb M pc = z_bad := lt_s z_tq_145 z_tz_145
theorem z_tq_147 : ∀ M, M < 147 → ∀ pc, z_szf M ≤ pc → z_tb M pc = z_bad := lt_s z_tq_146 z_tz_146
theorem z_tq_148 : ∀ M, M < 148 → ∀ pc, z_szf M ≤ pc → z_tb M pc = z_bad := lt_s z_tq_147 z_tz_147
theorem z_tq_149 : ∀ M, M < 149 → ∀ pc, z_szf M ≤ pc → z_tb M pc = z_bad := lt_s z_tq_148 z_tz_148
theorem z_tq_150 : ∀ M, M < 150 → ∀ pc, z_szf M ≤ pc → z_tb M pc = z_bad := lt_s z_tq_149 z_tz_149
theorem z_tq_151 : ∀ M, M < 151 → ∀ pc, z_szf M ≤ pc → z_tb M pc = z_bad := lt_s z_tq_150 z_tz_150
theorem z_tq_152 : ∀ M, M < 152 → ∀ pc, z_szf M ≤ pc → z_tb M pc = z_bad := lt_s z_tq_151 z_tz_151
theorem z_tq_153 : ∀ M, M < 153 → ∀ pc, z_szf M ≤ pc → z_tb M pc = z_bad := lt_s z_tq_152 z_tz_152
theorem z_tq_154 : ∀ M, M < 154 → ∀ pc, z_szf M ≤ pc → z_tb M pc = z_bad := lt_s z_tq_153 z_tz_153
theorem z_tq_155 : ∀ M, M < 155 → ∀ pc, z_szf M ≤ pc → z_tb M pc = z_bad := lt_s z_tq_154 z_tz_154
theorem z_tq_156 : ∀ M, M < 156 → ∀ pc, z_szf M ≤ pc → z_tb M pc = z_bad := lt_s z_tq_155 z_tz_155
theorem z_tq_157 : ∀ M, M < 157 → ∀ pc, z_szf M ≤ pc → z_tb M pc = z_bad := lt_s z_tq_156 z_tz_156
theorem z_tq_158 : ∀ M, M < 158 → ∀ pc, z_szf M ≤ pc → z_tb M pc = z_bad := lt_s z_tq_157 z_tz_157
theorem z_tq_159 : ∀ M, M < 159 → ∀ pc, z_szf M ≤ pc → z_tb M pc = z_bad := lt_s z_tq_158 z_tz_158
theorem z_tq_160 : ∀ M, M < 160 → ∀ pc, z_szf M ≤ pc → z_tb M pc = z_bad := lt_s z_tq_159 z_tz_159
theorem z_tq_161 : ∀ M, M < 161 → ∀ pc, z_szf M ≤ pc → z_tb M pc = z_bad := lt_s z_tq_160 z_tz_160
theorem z_tq_162 : ∀ M, M < 162 → ∀ pc, z_szf M ≤ pc → z_tb M pc = z_bad := lt_s z_tq_161 z_tz_161
theorem z_tq_163 : ∀ M, M < 163 → ∀ pc, z_szf M ≤ pc → z_tb M pc = z_bad := lt_s z_tq_162 z_tz_162
theorem z_tq_164 : ∀ M, M < 164 → ∀ pc, z_szf M ≤ pc → z_tb M pc = z_bad := lt_s z_tq_163 z_tz_163
theorem z_tq_165 : ∀ M, M < 165 → ∀ pc, z_szf M ≤ pc → z_tb M pc = z_bad := lt_s z_tq_164 z_tz_164
theorem z_tq_166 : ∀ M, M < 166 → ∀ pc, z_szf M ≤ pc → z_tb M pc = z_bad := lt_s z_tq_165 z_tz_165
theorem z_tq_167 : ∀ M, M < 167 → ∀ pc, z_szf M ≤ pc → z_tb M pc = z_bad := lt_s z_tq_166 z_tz_166
theorem z_tq_168 : ∀ M, M < 168 → ∀ pc, z_szf M ≤ pc → z_tb M pc = z_bad := lt_s z_tq_167 z_tz_167
theorem z_tq_169 : ∀ M, M < 169 → ∀ pc, z_szf M ≤ pc → z_tb M pc = z_bad := lt_s z_tq_168 z_tz_168
theorem z_tq_170 : ∀ M, M < 170 → ∀ pc, z_szf M ≤ pc → z_tb M pc = z_bad := lt_s z_tq_169 z_tz_169
theorem z_tq_171 : ∀ M, M < 171 → ∀ pc, z_szf M ≤ pc → z_tb M pc = z_bad := lt_s z_tq_170 z_tz_170
theorem z_tq_172 : ∀ M, M < 172 → ∀ pc, z_szf M ≤ pc → z_tb M pc = z_bad := lt_s z_tq_171 z_tz_171
theorem z_tq_173 : ∀ M, M < 173 → ∀ pc, z_szf M ≤ pc → z_tb M pc = z_bad := lt_s z_tq_172 z_tz_172
theorem z_tq_174 : ∀ M, M < 174 → ∀ pc, z_szf M ≤ pc → z_tb M pc = z_bad := lt_s z_tq_173 z_tz_173
theorem z_tq_175 : ∀ M, M < 175 → ∀ pc, z_szf M ≤ pc → z_tb M pc = z_bad := lt_s z_tq_174 z_tz_174
theorem z_tq_176 : ∀ M, M < 176 → ∀ pc, z_szf M ≤ pc → z_tb M pc = z_bad := lt_s z_tq_175 z_tz_175
theorem z_tq_177 : ∀ M, M < 177 → ∀ pc, z_szf M ≤ pc → z_tb M pc = z_bad := lt_s z_tq_176 z_tz_176
theorem z_tq_178 : ∀ M, M < 178 → ∀ pc, z_szf M ≤ pc → z_tb M pc = z_bad := lt_s z_tq_177 z_tz_177
theorem z_tq_179 : ∀ M, M < 179 → ∀ pc, z_szf M ≤ pc → z_tb M pc = z_bad := lt_s z_tq_178 z_tz_178
theorem z_tq_180 : ∀ M, M < 180 → ∀ pc, z_szf M ≤ pc → z_tb M pc = z_bad := lt_s z_tq_179 z_tz_179
theorem z_tq_181 : ∀ M, M < 181 → ∀ pc, z_szf M ≤ pc → z_tb M pc = z_bad := lt_s z_tq_180 z_tz_180
theorem z_tq_182 : ∀ M, M < 182 → ∀ pc, z_szf M ≤ pc → z_tb M pc = z_bad := lt_s z_tq_181 z_tz_181
theorem z_tq_183 : ∀ M, M < 183 → ∀ pc, z_szf M ≤ pc → z_tb M pc = z_bad := lt_s z_tq_182 z_tz_182
theorem z_tq_184 : ∀ M, M < 184 → ∀ pc, z_szf M ≤ pc → z_tb M pc = z_bad := lt_s z_tq_183 z_tz_183
theorem z_tq_185 : ∀ M, M < 185 → ∀ pc, z_szf M ≤ pc → z_tb M pc = z_bad := lt_s z_tq_184 z_tz_184
theorem z_tq_186 : ∀ M, M < 186 → ∀ pc, z_szf M ≤ pc → z_tb M pc = z_bad := lt_s z_tq_185 z_tz_185
theorem z_tq_187 : ∀ M, M < 187 → ∀ pc, z_szf M ≤ pc → z_tb M pc = z_bad := lt_s z_tq_186 z_tz_186
theorem z_tq_188 : ∀ M, M < 188 → ∀ pc, z_szf M ≤ pc → z_tb M pc = z_bad := lt_s z_tq_187 z_tz_187
theorem z_tq_189 : ∀ M, M < 189 → ∀ pc, z_szf M ≤ pc → z_tb M pc = z_bad := lt_s z_tq_188 z_tz_188
theorem z_tq_190 : ∀ M, M < 190 → ∀ pc, z_szf M ≤ pc → z_tb M pc = z_bad := lt_s z_tq_189 z_tz_189
theorem z_ck_in : ∀ M, M < 190 → ∀ pc, pc < z_szf M → z_okE M pc (z_tb M pc) = true := by
  intro M hM pc hpc
  rcases Nat.lt_or_ge M 12 with q | q
  · obtain ⟨t, rfl⟩ : ∃ t, M = 0 + t := ⟨M - 0, by omega⟩
    exact z_ck_0 t (by omega) pc hpc
  rcases Nat.lt_or_ge M 30 with q | q
  · obtain ⟨t, rfl⟩ : ∃ t, M = 12 + t := ⟨M - 12, by omega⟩
    exact z_ck_1 t (by omega) pc hpc
  rcases Nat.lt_or_ge M 38 with q | q
  · obtain ⟨t, rfl⟩ : ∃ t, M = 30 + t := ⟨M - 30, by omega⟩
    exact z_ck_2 t (by omega) pc hpc
  rcases Nat.lt_or_ge M 53 with q | q
  · obtain ⟨t, rfl⟩ : ∃ t, M = 38 + t := ⟨M - 38, by omega⟩
    exact z_ck_3 t (by omega) pc hpc
  rcases Nat.lt_or_ge M 66 with q | q
  · obtain ⟨t, rfl⟩ : ∃ t, M = 53 + t := ⟨M - 53, by omega⟩
    exact z_ck_4 t (by omega) pc hpc
  rcases Nat.lt_or_ge M 77 with q | q
  · obtain ⟨t, rfl⟩ : ∃ t, M = 66 + t := ⟨M - 66, by omega⟩
    exact z_ck_5 t (by omega) pc hpc
  rcases Nat.lt_or_ge M 92 with q | q
  · obtain ⟨t, rfl⟩ : ∃ t, M = 77 + t := ⟨M - 77, by omega⟩
    exact z_ck_6 t (by omega) pc hpc
  rcases Nat.lt_or_ge M 113 with q | q
  · obtain ⟨t, rfl⟩ : ∃ t, M = 92 + t := ⟨M - 92, by omega⟩
    exact z_ck_7 t (by omega) pc hpc
  rcases Nat.lt_or_ge M 124 with q | q
  · obtain ⟨t, rfl⟩ : ∃ t, M = 113 + t := ⟨M - 113, by omega⟩
    exact z_ck_8 t (by omega) pc hpc
  rcases Nat.lt_or_ge M 133 with q | q
  · obtain ⟨t, rfl⟩ : ∃ t, M = 124 + t := ⟨M - 124, by omega⟩
    exact z_ck_9 t (by omega) pc hpc
  rcases Nat.lt_or_ge M 144 with q | q
  · obtain ⟨t, rfl⟩ : ∃ t, M = 133 + t := ⟨M - 133, by omega⟩
    exact z_ck_10 t (by omega) pc hpc
  rcases Nat.lt_or_ge M 150 with q | q
  · obtain ⟨t, rfl⟩ : ∃ t, M = 144 + t := ⟨M - 144, by omega⟩
    exact z_ck_11 t (by omega) pc hpc
  rcases Nat.lt_or_ge M 162 with q | q
  · obtain ⟨t, rfl⟩ : ∃ t, M = 150 + t := ⟨M - 150, by omega⟩
    exact z_ck_12 t (by omega) pc hpc
  rcases Nat.lt_or_ge M 170 with q | q
  · obtain ⟨t, rfl⟩ : ∃ t, M = 162 + t := ⟨M - 162, by omega⟩
    exact z_ck_13 t (by omega) pc hpc
  rcases Nat.lt_or_ge M 181 with q | q
  · obtain ⟨t, rfl⟩ : ∃ t, M = 170 + t := ⟨M - 170, by omega⟩
    exact z_ck_14 t (by omega) pc hpc
  rcases Nat.lt_or_ge M 189 with q | q
  · obtain ⟨t, rfl⟩ : ∃ t, M = 181 + t := ⟨M - 181, by omega⟩
    exact z_ck_15 t (by omega) pc hpc
  obtain rfl : M = 189 := by omega
  have hpc : pc < 1251 := hpc
  rcases Nat.lt_or_ge pc 100 with q | q
  · obtain ⟨t, rfl⟩ : ∃ t, pc = 0 + t := ⟨pc - 0, by omega⟩
    exact z_cl_0 t (by omega)
  rcases Nat.lt_or_ge pc 200 with q | q
  · obtain ⟨t, rfl⟩ : ∃ t, pc = 100 + t := ⟨pc - 100, by omega⟩
    exact z_cl_1 t (by omega)
  rcases Nat.lt_or_ge pc 300 with q | q
  · obtain ⟨t, rfl⟩ : ∃ t, pc = 200 + t := ⟨pc - 200, by omega⟩
    exact z_cl_2 t (by omega)
  rcases Nat.lt_or_ge pc 400 with q | q
  · obtain ⟨t, rfl⟩ : ∃ t, pc = 300 + t := ⟨pc - 300, by omega⟩
    exact z_cl_3 t (by omega)
  rcases Nat.lt_or_ge pc 500 with q | q
  · obtain ⟨t, rfl⟩ : ∃ t, pc = 400 + t := ⟨pc - 400, by omega⟩
    exact z_cl_4 t (by omega)
  rcases Nat.lt_or_ge pc 600 with q | q
  · obtain ⟨t, rfl⟩ : ∃ t, pc = 500 + t := ⟨pc - 500, by omega⟩
    exact z_cl_5 t (by omega)
  rcases Nat.lt_or_ge pc 700 with q | q
  · obtain ⟨t, rfl⟩ : ∃ t, pc = 600 + t := ⟨pc - 600, by omega⟩
    exact z_cl_6 t (by omega)
  rcases Nat.lt_or_ge pc 800 with q | q
  · obtain ⟨t, rfl⟩ : ∃ t, pc = 700 + t := ⟨pc - 700, by omega⟩
    exact z_cl_7 t (by omega)
  rcases Nat.lt_or_ge pc 900 with q | q
  · obtain ⟨t, rfl⟩ : ∃ t, pc = 800 + t := ⟨pc - 800, by omega⟩
    exact z_cl_8 t (by omega)
  rcases Nat.lt_or_ge pc 1000 with q | q
  · obtain ⟨t, rfl⟩ : ∃ t, pc = 900 + t := ⟨pc - 900, by omega⟩
    exact z_cl_9 t (by omega)
  rcases Nat.lt_or_ge pc 1100 with q | q
  · obtain ⟨t, rfl⟩ : ∃ t, pc = 1000 + t := ⟨pc - 1000, by omega⟩
    exact z_cl_10 t (by omega)
  rcases Nat.lt_or_ge pc 1200 with q | q
  · obtain ⟨t, rfl⟩ : ∃ t, pc = 1100 + t := ⟨pc - 1100, by omega⟩
    exact z_cl_11 t (by omega)
  rcases Nat.lt_or_ge pc 1300 with q | q
  · obtain ⟨t, rfl⟩ : ∃ t, pc = 1200 + t := ⟨pc - 1200, by omega⟩
    exact z_cl_12 t (by omega)
  omega
theorem z_ck {M : Nat} (hM : M < 190) (pc : Nat) : z_okE M pc (z_tb M pc) = true := by
  rcases Nat.lt_or_ge pc (z_szf M) with h | h
  · exact z_ck_in M hM pc h
  · rw [z_tq_190 M hM pc h]
    rfl
theorem z_ent_ok {ad : Nat → Nat} : ∀ {as : List Value} {n : Nat} {k : z_L → Prop}, z_entK as n k → ∃ L, k L ∧ (lg_sl (as.map (z_tr ad))).length ≤ n ∧ ∀ (j i : Nat) (v : Value), z_get L i = some v → (j + i, z_tr ad v) ∈ lv_args j (as.map (z_tr ad))
  | [], n, k, h => by
    have hr : ∀ (n : Nat) (k : z_L → Prop), z_repK n k → ∃ L, k L ∧ ∀ i, z_get L i = none := by
      intro n
      induction n with
      | zero => intro k h; exact ⟨_, h, fun i => by cases i <;> rfl⟩
      | succ n ih =>
        intro k h
        obtain ⟨L, h1, h2⟩ := ih _ h
        refine ⟨_, h1, fun i => ?_⟩
        cases i with
        | zero => rfl
        | succ i => exact h2 i
    have h' : z_repK n k := by cases n <;> exact h
    obtain ⟨L, h1, h2⟩ := hr n k h'
    exact ⟨L, h1, Nat.zero_le _, fun j i v hv => by rw [h2 i] at hv; cases hv⟩
  | .int x :: vs, n + 1, k, h => by
    obtain ⟨L, h1, h2, h3⟩ := z_ent_ok (ad := ad) (as := vs) (n := n) h
    refine ⟨_, h1, by simp [lg_sl, z_tr, Value.category] at h2 ⊢; omega, fun j i v hv => ?_⟩
    cases i with
    | zero => cases hv; exact List.mem_cons_self
    | succ i =>
      refine List.mem_cons_of_mem _ ?_
      have := h3 (j + 1) i v hv
      rw [show j + (i + 1) = j + 1 + i by omega]
      exact this
  | .ref x :: vs, n + 1, k, h => by
    obtain ⟨L, h1, h2, h3⟩ := z_ent_ok (ad := ad) (as := vs) (n := n) h
    refine ⟨_, h1, by simp [lg_sl, z_tr, Value.category] at h2 ⊢; omega, fun j i v hv => ?_⟩
    cases i with
    | zero => cases hv; exact List.mem_cons_self
    | succ i =>
      refine List.mem_cons_of_mem _ ?_
      have := h3 (j + 1) i v hv
      rw [show j + (i + 1) = j + 1 + i by omega]
      exact this
  | .long x :: vs, n + 2, k, h => by
    obtain ⟨L, h1, h2, h3⟩ := z_ent_ok (ad := ad) (as := vs) (n := n) h
    refine ⟨_, h1, by simp [lg_sl, z_tr, Value.category] at h2 ⊢; omega, fun j i v hv => ?_⟩
    match i, hv with
    | 0, hv => cases hv; exact List.mem_cons_self
    | 1, hv => cases hv
    | i + 2, hv =>
      refine List.mem_cons_of_mem _ ?_
      have := h3 (j + 2) i v hv
      rw [show j + (i + 2) = j + 2 + i by omega]
      exact this
  | .int x :: vs, 0, k, h => h.elim
  | .ref x :: vs, 0, k, h => h.elim
  | .long x :: vs, 0, k, h => h.elim
  | .long x :: vs, 1, k, h => h.elim
  | .float x :: vs, n, k, h => by cases n <;> exact h.elim
  | .double x :: vs, n, k, h => by cases n <;> exact h.elim
  | .null :: vs, n, k, h => by cases n <;> exact h.elim
  | .retAddr x :: vs, n, k, h => by cases n <;> exact h.elim
theorem z_rt1 {M : Nat} (h : z_rk M = 1) : z_rt M = some .int := by unfold z_rt; rw [h]; rfl
theorem z_rt2 {M : Nat} (h : z_rk M = 2) : z_rt M = some .long := by unfold z_rt; rw [h]; rfl
theorem z_rt3 {M : Nat} (h : z_rk M = 3) : z_rt M = some .boolean := by unfold z_rt; rw [h]; rfl
theorem z_rt0 {M : Nat} (h : z_rk M = 0) : z_rt M = none := by unfold z_rt; rw [h]; rfl
set_option maxHeartbeats 4000000 in
/-- A CALL OF THE LITTLE MACHINE IS A CONTRACT OF THE METHOD -/
theorem z_sound (l : Launch) (dC : Nat → ClassId) (dI : Nat → Nat → Nat) (ad : Nat → Nat) (cA : z_C4) (A : Nat → Prop) : ∀ (d M : Nat) (as : List Value) (σ : z_M) (r : Option Value) (σ' : z_M), z_call d M as σ r σ' → z_Mt l dC dI ad cA A d M as σ r σ' := by
  intro d
  induction d with
  | zero => intro M as σ r σ' h; exact h.elim
  | succ d ih =>
    intro M as σ r σ' h
    obtain ⟨hM, hent⟩ := h
    rw [Nat.blt_eq] at hM
    refine z_ofW (cc := z_by M) (maxL := z_mx M) (ret := z_rt M) (z_plain_ok M hM) rfl ?_
    intro p e s m args below meth c s₁ B hml hv
    obtain ⟨rfl, hP, hK, hD⟩ := hv
    have hr := B.returns
    have hlocks := B.notSynchronized
    have hown : s.vm.findClass (z_cs (z_cn M)) = some m.cls := by
      rw [← (z_own_ok M hM).1]
      exact findClass_of_methodNamed B.named
    have hts : ∀ w ∈ z_tbl, w.before (as.map (z_tr ad)).toArray s = true := fun w hw => atoms_spec (ws := z_wd M) B.pre w (List.mem_cons_of_mem _ hw)
    obtain ⟨L, hwp, hlen, hL⟩ := z_ent_ok (ad := ad) hent
    rw [lg_entry_eq]
    have hl0 := lv_entry (as.map (z_tr ad)) hlen
    have hlv : z_lv ad ((lg_sl (as.map (z_tr ad)) ++ List.replicate (z_mx M - (lg_sl (as.map (z_tr ad))).length) Slot.unset).toArray) (z_mx M) L := ⟨hl0.1, hl0.2.1, fun i v hv => hl0.2.2 (i, z_tr ad v) (by have := hL 0 i v hv; rwa [Nat.zero_add] at this)⟩
    refine hwp (z_PP p l e (z_rm (d + 1)) s m (as.map (z_tr ad)).toArray below meth c 0 0 (MQ below (z_Qc dC dI ad cA A r σ') (as.map (z_tr ad)).toArray s 0 0 A) dC dI ad cA A (z_mx M)) (fun pc L st σ h => ?_) s.heap [] _ hP hD va_S.rf hlv
    refine z_snd (d := d) B.exec B.bytes hml hown hts hK ⟨Nat.le_refl _, Nat.le_refl _⟩ ⟨Nat.le_refl _, Nat.le_refl _⟩ ih (fun n xs q => by cases q) ?_ ?_ ?_ (z_ck (by omega) pc) h
    · rintro x σ pc ls H locs hk ⟨rfl, rfl⟩ hd hP hD hS
      rcases hk with hk | ⟨hk, h01⟩
      · exact W.zret B.exec B.bytes (hr.trans (z_rt1 hk)) rfl (fun t ht hW => ⟨rfl, by rw [ht]; exact hP, hD, hS.F ht⟩) hS.2.2 hd
      · exact W.zret B.exec B.bytes (hr.trans (z_rt3 hk)) (by rcases h01 with rfl | rfl <;> rfl) (fun t ht hW => ⟨rfl, by rw [ht]; exact hP, hD, hS.F ht⟩) hS.2.2 hd
    · rintro x σ pc ls H locs hk ⟨rfl, rfl⟩ hd hP hD hS
      exact W.lret B.exec B.bytes (hr.trans (z_rt2 hk)) (fun t ht hW => ⟨rfl, by rw [ht]; exact hP, hD, hS.F ht⟩) hS.2.2 hd
    · rintro σ pc ls H locs hk ⟨rfl, rfl⟩ hd hP hD hS
      exact W.vret B.exec B.bytes (hr.trans (z_rt0 hk)) (fun t ht hW => ⟨rfl, by rw [ht]; exact hP, hD, hS.F ht⟩) hS.2.2 hd
