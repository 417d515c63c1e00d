abbrev b_Row_init : ByteArray := prog_8_method_1_code
def y_Row_init : MethodName := ⟨R_Row, "<init>", "(I)V"⟩
theorem mc_Row_init : Cond.code y_Row_init b_Row_init 2 none ∈ TB := tb 249 (by decide +kernel) rfl
abbrev b_Table_init : ByteArray := prog_11_method_1_code
def y_Table_init : MethodName := ⟨R_Table, "<init>", "(II)V"⟩
theorem mc_Table_init : Cond.code y_Table_init b_Table_init 3 none ∈ TB := tb 161 (by decide +kernel) rfl
abbrev b_X_init : ByteArray := prog_1_method_1_code
def y_X_init : MethodName := ⟨R_X, "<init>", "()V"⟩
theorem mc_X_init : Cond.code y_X_init b_X_init 1 none ∈ TB := tb 147 (by decide +kernel) rfl
abbrev b_Cont_init : ByteArray := prog_2_method_1_code
def y_Cont_init : MethodName := ⟨R_Cont, "<init>", "()V"⟩
theorem mc_Cont_init : Cond.code y_Cont_init b_Cont_init 1 none ∈ TB := tb 155 (by decide +kernel) rfl
abbrev b_Rd_init : ByteArray := prog_5_method_1_code
def y_Rd_init : MethodName := ⟨R_Rd, "<init>", "(LWasmMachine$Contents;)V"⟩
theorem mc_Rd_init : Cond.code y_Rd_init b_Rd_init 2 none ∈ TB := tb 243 (by decide +kernel) rfl
abbrev b_Val_init : ByteArray := prog_12_method_1_code
def y_Val_init : MethodName := ⟨R_Val, "<init>", "(LWasmMachine$Contents;)V"⟩
theorem mc_Val_init : Cond.code y_Val_init b_Val_init 2 none ∈ TB := tb 288 (by decide +kernel) rfl
abbrev b_RC_init : ByteArray := prog_6_method_1_code
def y_RC_init : MethodName := ⟨R_RC, "<init>", "(LWasmMachine$Contents;)V"⟩
theorem mc_RC_init : Cond.code y_RC_init b_RC_init 2 none ∈ TB := tb 315 (by decide +kernel) rfl
abbrev b_Store_init : ByteArray := prog_10_method_1_code
def y_Store_init : MethodName := ⟨R_Store, "<init>", "()V"⟩
theorem mc_Store_init : Cond.code y_Store_init b_Store_init 1 none ∈ TB := tb 343 (by decide +kernel) rfl
abbrev b_SE_init : ByteArray := prog_9_method_1_code
def y_SE_init : MethodName := ⟨R_SE, "<init>", "(LWasmMachine$Store;LWasmMachine$Contents;)V"⟩
theorem mc_SE_init : Cond.code y_SE_init b_SE_init 3 none ∈ TB := tb 372 (by decide +kernel) rfl
abbrev b_RE_init : ByteArray := prog_7_method_1_code
def y_RE_init : MethodName := ⟨R_RE, "<init>", "(LWasmMachine$Store;LWasmMachine$RegisterCode;)V"⟩
theorem mc_RE_init : Cond.code y_RE_init b_RE_init 3 none ∈ TB := tb 449 (by decide +kernel) rfl
abbrev b_M_init : ByteArray := prog_14_method_1_code
def y_M_init : MethodName := ⟨R_M, "<init>", "()V"⟩
theorem mc_M_init : Cond.code y_M_init b_M_init 1 none ∈ TB := tb 1156 (by decide +kernel) rfl
abbrev b_Eng_init : ByteArray := prog_3_method_1_code
def y_Eng_init : MethodName := ⟨R_Eng, "<init>", "(LWasmMachine$Store;)V"⟩
theorem mc_Eng_init : Cond.code y_Eng_init b_Eng_init 2 none ∈ TB := tb 375 (by decide +kernel) rfl
theorem df_Row : ∀ j, j < 1 → defaultValue (t_Row j) = vp_V [.null] j := by
  intro j hj
  rcases (show j = 0 by omega) with rfl <;> rfl
theorem df_Table : ∀ j, j < 4 → defaultValue (t_Table j) = vp_V [.null, .int 0, .int 0, .int 0] j := by
  intro j hj
  rcases (show j = 0 ∨ j = 1 ∨ j = 2 ∨ j = 3 by omega) with rfl | rfl | rfl | rfl <;> rfl
theorem df_X : ∀ j, j < 13 → defaultValue (t_X j) = vp_V [.null, .null, .null, .null, .null, .null, .null, .null, .int 0, .int 0, .int 0, .int 0, .int 0] j := by
  intro j hj
  rcases (show j = 0 ∨ j = 1 ∨ j = 2 ∨ j = 3 ∨ j = 4 ∨ j = 5 ∨ j = 6 ∨ j = 7 ∨ j = 8 ∨ j = 9 ∨ j = 10 ∨ j = 11 ∨ j = 12 by omega) with rfl | rfl | rfl | rfl | rfl | rfl | rfl | rfl | rfl | rfl | rfl | rfl | rfl <;> rfl
theorem df_Cont : ∀ j, j < 10 → defaultValue (t_Cont j) = vp_V [.null, .null, .null, .null, .null, .null, .null, .int 0, .int 0, .int 0] j := by
  intro j hj
  rcases (show j = 0 ∨ j = 1 ∨ j = 2 ∨ j = 3 ∨ j = 4 ∨ j = 5 ∨ j = 6 ∨ j = 7 ∨ j = 8 ∨ j = 9 by omega) with rfl | rfl | rfl | rfl | rfl | rfl | rfl | rfl | rfl | rfl <;> rfl
theorem df_Rd : ∀ j, j < 9 → defaultValue (t_Rd j) = vp_V [.null, .null, .null, .int 0, .int 0, .int 0, .int 0, .int 0, .int 0] j := by
  intro j hj
  rcases (show j = 0 ∨ j = 1 ∨ j = 2 ∨ j = 3 ∨ j = 4 ∨ j = 5 ∨ j = 6 ∨ j = 7 ∨ j = 8 by omega) with rfl | rfl | rfl | rfl | rfl | rfl | rfl | rfl | rfl <;> rfl
theorem df_Val : ∀ j, j < 6 → defaultValue (t_Val j) = vp_V [.null, .null, .int 0, .int 0, .int 0, .int 0] j := by
  intro j hj
  rcases (show j = 0 ∨ j = 1 ∨ j = 2 ∨ j = 3 ∨ j = 4 ∨ j = 5 by omega) with rfl | rfl | rfl | rfl | rfl | rfl <;> rfl
theorem df_RC : ∀ j, j < 6 → defaultValue (t_RC j) = vp_V [.null, .null, .null, .int 0, .int 0, .int 0] j := by
  intro j hj
  rcases (show j = 0 ∨ j = 1 ∨ j = 2 ∨ j = 3 ∨ j = 4 ∨ j = 5 by omega) with rfl | rfl | rfl | rfl | rfl | rfl <;> rfl
theorem df_Store : ∀ j, j < 5 → defaultValue (t_Store j) = vp_V [.null, .null, .null, .int 0, .int 0] j := by
  intro j hj
  rcases (show j = 0 ∨ j = 1 ∨ j = 2 ∨ j = 3 ∨ j = 4 by omega) with rfl | rfl | rfl | rfl | rfl <;> rfl
theorem df_SE : ∀ j, j < 14 → defaultValue (t_SE j) = vp_V [.null, .null, .null, .int 0, .int 0, .int 0, .int 0, .int 0, .null, .null, .null, .null, .int 0, .int 0] j := by
  intro j hj
  rcases (show j = 0 ∨ j = 1 ∨ j = 2 ∨ j = 3 ∨ j = 4 ∨ j = 5 ∨ j = 6 ∨ j = 7 ∨ j = 8 ∨ j = 9 ∨ j = 10 ∨ j = 11 ∨ j = 12 ∨ j = 13 by omega) with rfl | rfl | rfl | rfl | rfl | rfl | rfl | rfl | rfl | rfl | rfl | rfl | rfl | rfl <;> rfl
theorem df_RE : ∀ j, j < 9 → defaultValue (t_RE j) = vp_V [.null, .null, .null, .int 0, .int 0, .int 0, .int 0, .int 0, .null] j := by
  intro j hj
  rcases (show j = 0 ∨ j = 1 ∨ j = 2 ∨ j = 3 ∨ j = 4 ∨ j = 5 ∨ j = 6 ∨ j = 7 ∨ j = 8 by omega) with rfl | rfl | rfl | rfl | rfl | rfl | rfl | rfl | rfl <;> rfl
theorem df_M : ∀ j, j < 64 → defaultValue (t_M j) = vp_V [.int 0, .int 0, .null, .int 0, .int 0, .int 0, .int 0, .int 0, .null, .null, .int 0, .int 0, .null, .int 0, .int 0, .long 0, .long 0, .int 0, .null, .null, .int 0, .null, .null, .null, .int 0, .null, .null, .null, .null, .int 0, .null, .null, .null, .null, .null, .null, .null, .null, .null, .null, .null, .int 0, .null, .int 0, .int 0, .null, .null, .null, .int 0, .null, .null, .int 0, .null, .int 0, .int 0, .int 0, .int 0, .null, .null, .null, .null, .int 0, .int 0, .null] j := by
  intro j hj
  rcases (show j = 0 ∨ j = 1 ∨ j = 2 ∨ j = 3 ∨ j = 4 ∨ j = 5 ∨ j = 6 ∨ j = 7 ∨ j = 8 ∨ j = 9 ∨ j = 10 ∨ j = 11 ∨ j = 12 ∨ j = 13 ∨ j = 14 ∨ j = 15 ∨ j = 16 ∨ j = 17 ∨ j = 18 ∨ j = 19 ∨ j = 20 ∨ j = 21 ∨ j = 22 ∨ j = 23 ∨ j = 24 ∨ j = 25 ∨ j = 26 ∨ j = 27 ∨ j = 28 ∨ j = 29 ∨ j = 30 ∨ j = 31 ∨ j = 32 ∨ j = 33 ∨ j = 34 ∨ j = 35 ∨ j = 36 ∨ j = 37 ∨ j = 38 ∨ j = 39 ∨ j = 40 ∨ j = 41 ∨ j = 42 ∨ j = 43 ∨ j = 44 ∨ j = 45 ∨ j = 46 ∨ j = 47 ∨ j = 48 ∨ j = 49 ∨ j = 50 ∨ j = 51 ∨ j = 52 ∨ j = 53 ∨ j = 54 ∨ j = 55 ∨ j = 56 ∨ j = 57 ∨ j = 58 ∨ j = 59 ∨ j = 60 ∨ j = 61 ∨ j = 62 ∨ j = 63 by omega) with rfl | rfl | rfl | rfl | rfl | rfl | rfl | rfl | rfl | rfl | rfl | rfl | rfl | rfl | rfl | rfl | rfl | rfl | rfl | rfl | rfl | rfl | rfl | rfl | rfl | rfl | rfl | rfl | rfl | rfl | rfl | rfl | rfl | rfl | rfl | rfl | rfl | rfl | rfl | rfl | rfl | rfl | rfl | rfl | rfl | rfl | rfl | rfl | rfl | rfl | rfl | rfl | rfl | rfl | rfl | rfl | rfl | rfl | rfl | rfl | rfl | rfl | rfl | rfl <;> rfl
theorem d_Row_init_0 : decode b_Row_init 0 = .ok (.aload_n 0, 1) := by decide +kernel
theorem d_Row_init_1 : decode b_Row_init 1 = .ok (.invokespecial 1, 3) := by decide +kernel
theorem d_Row_init_4 : decode b_Row_init 4 = .ok (.aload_n 0, 1) := by decide +kernel
theorem d_Row_init_5 : decode b_Row_init 5 = .ok (.iload_n 1, 1) := by decide +kernel
theorem d_Row_init_6 : decode b_Row_init 6 = .ok (.iconst 0, 1) := by decide +kernel
theorem d_Row_init_7 : decode b_Row_init 7 = .ok (.invokestatic 7, 3) := by decide +kernel
theorem d_Row_init_10 : decode b_Row_init 10 = .ok (.newarray .int, 2) := by decide +kernel
theorem d_Row_init_12 : decode b_Row_init 12 = .ok (.putfield 13, 3) := by decide +kernel
theorem d_Row_init_15 : decode b_Row_init 15 = .ok (.return_, 1) := by decide +kernel
theorem d_Table_init_0 : decode b_Table_init 0 = .ok (.aload_n 0, 1) := by decide +kernel
theorem d_Table_init_1 : decode b_Table_init 1 = .ok (.invokespecial 1, 3) := by decide +kernel
theorem d_Table_init_4 : decode b_Table_init 4 = .ok (.aload_n 0, 1) := by decide +kernel
theorem d_Table_init_5 : decode b_Table_init 5 = .ok (.iload_n 1, 1) := by decide +kernel
theorem d_Table_init_6 : decode b_Table_init 6 = .ok (.iload_n 2, 1) := by decide +kernel
theorem d_Table_init_7 : decode b_Table_init 7 = .ok (.imul, 1) := by decide +kernel
theorem d_Table_init_8 : decode b_Table_init 8 = .ok (.iconst 0, 1) := by decide +kernel
theorem d_Table_init_9 : decode b_Table_init 9 = .ok (.invokestatic 7, 3) := by decide +kernel
theorem d_Table_init_12 : decode b_Table_init 12 = .ok (.newarray .int, 2) := by decide +kernel
theorem d_Table_init_14 : decode b_Table_init 14 = .ok (.putfield 13, 3) := by decide +kernel
theorem d_Table_init_17 : decode b_Table_init 17 = .ok (.aload_n 0, 1) := by decide +kernel
theorem d_Table_init_18 : decode b_Table_init 18 = .ok (.iload_n 1, 1) := by decide +kernel
theorem d_Table_init_19 : decode b_Table_init 19 = .ok (.putfield 19, 3) := by decide +kernel
theorem d_Table_init_22 : decode b_Table_init 22 = .ok (.aload_n 0, 1) := by decide +kernel
theorem d_Table_init_23 : decode b_Table_init 23 = .ok (.iload_n 2, 1) := by decide +kernel
theorem d_Table_init_24 : decode b_Table_init 24 = .ok (.putfield 23, 3) := by decide +kernel
theorem d_Table_init_27 : decode b_Table_init 27 = .ok (.return_, 1) := by decide +kernel
theorem d_X_init_0 : decode b_X_init 0 = .ok (.aload_n 0, 1) := by decide +kernel
theorem d_X_init_1 : decode b_X_init 1 = .ok (.invokespecial 1, 3) := by decide +kernel
theorem d_X_init_4 : decode b_X_init 4 = .ok (.aload_n 0, 1) := by decide +kernel
theorem d_X_init_5 : decode b_X_init 5 = .ok (.new 7, 3) := by decide +kernel
theorem d_X_init_8 : decode b_X_init 8 = .ok (.dup, 1) := by decide +kernel
theorem d_X_init_9 : decode b_X_init 9 = .ok (.invokespecial 9, 3) := by decide +kernel
theorem d_X_init_12 : decode b_X_init 12 = .ok (.putfield 10, 3) := by decide +kernel
theorem d_X_init_15 : decode b_X_init 15 = .ok (.aload_n 0, 1) := by decide +kernel
theorem d_X_init_16 : decode b_X_init 16 = .ok (.new 16, 3) := by decide +kernel
theorem d_X_init_19 : decode b_X_init 19 = .ok (.dup, 1) := by decide +kernel
theorem d_X_init_20 : decode b_X_init 20 = .ok (.aload_n 0, 1) := by decide +kernel
theorem d_X_init_21 : decode b_X_init 21 = .ok (.getfield 10, 3) := by decide +kernel
theorem d_X_init_24 : decode b_X_init 24 = .ok (.invokespecial 18, 3) := by decide +kernel
theorem d_X_init_27 : decode b_X_init 27 = .ok (.putfield 21, 3) := by decide +kernel
theorem d_X_init_30 : decode b_X_init 30 = .ok (.aload_n 0, 1) := by decide +kernel
theorem d_X_init_31 : decode b_X_init 31 = .ok (.new 25, 3) := by decide +kernel
theorem d_X_init_34 : decode b_X_init 34 = .ok (.dup, 1) := by decide +kernel
theorem d_X_init_35 : decode b_X_init 35 = .ok (.aload_n 0, 1) := by decide +kernel
theorem d_X_init_36 : decode b_X_init 36 = .ok (.getfield 10, 3) := by decide +kernel
theorem d_X_init_39 : decode b_X_init 39 = .ok (.invokespecial 27, 3) := by decide +kernel
theorem d_X_init_42 : decode b_X_init 42 = .ok (.putfield 28, 3) := by decide +kernel
theorem d_X_init_45 : decode b_X_init 45 = .ok (.aload_n 0, 1) := by decide +kernel
theorem d_X_init_46 : decode b_X_init 46 = .ok (.new 32, 3) := by decide +kernel
theorem d_X_init_49 : decode b_X_init 49 = .ok (.dup, 1) := by decide +kernel
theorem d_X_init_50 : decode b_X_init 50 = .ok (.aload_n 0, 1) := by decide +kernel
theorem d_X_init_51 : decode b_X_init 51 = .ok (.getfield 10, 3) := by decide +kernel
theorem d_X_init_54 : decode b_X_init 54 = .ok (.invokespecial 34, 3) := by decide +kernel
theorem d_X_init_57 : decode b_X_init 57 = .ok (.putfield 35, 3) := by decide +kernel
theorem d_X_init_60 : decode b_X_init 60 = .ok (.aload_n 0, 1) := by decide +kernel
theorem d_X_init_61 : decode b_X_init 61 = .ok (.new 39, 3) := by decide +kernel
theorem d_X_init_64 : decode b_X_init 64 = .ok (.dup, 1) := by decide +kernel
theorem d_X_init_65 : decode b_X_init 65 = .ok (.invokespecial 41, 3) := by decide +kernel
theorem d_X_init_68 : decode b_X_init 68 = .ok (.putfield 42, 3) := by decide +kernel
theorem d_X_init_71 : decode b_X_init 71 = .ok (.aload_n 0, 1) := by decide +kernel
theorem d_X_init_72 : decode b_X_init 72 = .ok (.new 46, 3) := by decide +kernel
theorem d_X_init_75 : decode b_X_init 75 = .ok (.dup, 1) := by decide +kernel
theorem d_X_init_76 : decode b_X_init 76 = .ok (.aload_n 0, 1) := by decide +kernel
theorem d_X_init_77 : decode b_X_init 77 = .ok (.getfield 42, 3) := by decide +kernel
theorem d_X_init_80 : decode b_X_init 80 = .ok (.aload_n 0, 1) := by decide +kernel
theorem d_X_init_81 : decode b_X_init 81 = .ok (.getfield 10, 3) := by decide +kernel
theorem d_X_init_84 : decode b_X_init 84 = .ok (.invokespecial 48, 3) := by decide +kernel
theorem d_X_init_87 : decode b_X_init 87 = .ok (.putfield 51, 3) := by decide +kernel
theorem d_X_init_90 : decode b_X_init 90 = .ok (.aload_n 0, 1) := by decide +kernel
theorem d_X_init_91 : decode b_X_init 91 = .ok (.new 55, 3) := by decide +kernel
theorem d_X_init_94 : decode b_X_init 94 = .ok (.dup, 1) := by decide +kernel
theorem d_X_init_95 : decode b_X_init 95 = .ok (.aload_n 0, 1) := by decide +kernel
theorem d_X_init_96 : decode b_X_init 96 = .ok (.getfield 42, 3) := by decide +kernel
theorem d_X_init_99 : decode b_X_init 99 = .ok (.aload_n 0, 1) := by decide +kernel
theorem d_X_init_100 : decode b_X_init 100 = .ok (.getfield 35, 3) := by decide +kernel
theorem d_X_init_103 : decode b_X_init 103 = .ok (.invokespecial 57, 3) := by decide +kernel
theorem d_X_init_106 : decode b_X_init 106 = .ok (.putfield 60, 3) := by decide +kernel
theorem d_X_init_109 : decode b_X_init 109 = .ok (.aload_n 0, 1) := by decide +kernel
theorem d_X_init_110 : decode b_X_init 110 = .ok (.new 63, 3) := by decide +kernel
theorem d_X_init_113 : decode b_X_init 113 = .ok (.dup, 1) := by decide +kernel
theorem d_X_init_114 : decode b_X_init 114 = .ok (.iconst 4, 1) := by decide +kernel
theorem d_X_init_115 : decode b_X_init 115 = .ok (.invokespecial 65, 3) := by decide +kernel
theorem d_X_init_118 : decode b_X_init 118 = .ok (.putfield 68, 3) := by decide +kernel
theorem d_X_init_121 : decode b_X_init 121 = .ok (.aload_n 0, 1) := by decide +kernel
theorem d_X_init_122 : decode b_X_init 122 = .ok (.iconst (-1), 1) := by decide +kernel
theorem d_X_init_123 : decode b_X_init 123 = .ok (.putfield 72, 3) := by decide +kernel
theorem d_X_init_126 : decode b_X_init 126 = .ok (.return_, 1) := by decide +kernel
theorem d_Cont_init_0 : decode b_Cont_init 0 = .ok (.aload_n 0, 1) := by decide +kernel
theorem d_Cont_init_1 : decode b_Cont_init 1 = .ok (.invokespecial 3, 3) := by decide +kernel
theorem d_Cont_init_4 : decode b_Cont_init 4 = .ok (.aload_n 0, 1) := by decide +kernel
theorem d_Cont_init_5 : decode b_Cont_init 5 = .ok (.new 9, 3) := by decide +kernel
theorem d_Cont_init_8 : decode b_Cont_init 8 = .ok (.dup, 1) := by decide +kernel
theorem d_Cont_init_9 : decode b_Cont_init 9 = .ok (.bipush 8, 2) := by decide +kernel
theorem d_Cont_init_11 : decode b_Cont_init 11 = .ok (.iconst 2, 1) := by decide +kernel
theorem d_Cont_init_12 : decode b_Cont_init 12 = .ok (.invokespecial 11, 3) := by decide +kernel
theorem d_Cont_init_15 : decode b_Cont_init 15 = .ok (.putfield 14, 3) := by decide +kernel
theorem d_Cont_init_18 : decode b_Cont_init 18 = .ok (.aload_n 0, 1) := by decide +kernel
theorem d_Cont_init_19 : decode b_Cont_init 19 = .ok (.new 9, 3) := by decide +kernel
theorem d_Cont_init_22 : decode b_Cont_init 22 = .ok (.dup, 1) := by decide +kernel
theorem d_Cont_init_23 : decode b_Cont_init 23 = .ok (.bipush 8, 2) := by decide +kernel
theorem d_Cont_init_25 : decode b_Cont_init 25 = .ok (.iconst 4, 1) := by decide +kernel
theorem d_Cont_init_26 : decode b_Cont_init 26 = .ok (.invokespecial 11, 3) := by decide +kernel
theorem d_Cont_init_29 : decode b_Cont_init 29 = .ok (.putfield 20, 3) := by decide +kernel
theorem d_Cont_init_32 : decode b_Cont_init 32 = .ok (.aload_n 0, 1) := by decide +kernel
theorem d_Cont_init_33 : decode b_Cont_init 33 = .ok (.new 9, 3) := by decide +kernel
theorem d_Cont_init_36 : decode b_Cont_init 36 = .ok (.dup, 1) := by decide +kernel
theorem d_Cont_init_37 : decode b_Cont_init 37 = .ok (.iconst 4, 1) := by decide +kernel
theorem d_Cont_init_38 : decode b_Cont_init 38 = .ok (.iconst 2, 1) := by decide +kernel
theorem d_Cont_init_39 : decode b_Cont_init 39 = .ok (.invokespecial 11, 3) := by decide +kernel
theorem d_Cont_init_42 : decode b_Cont_init 42 = .ok (.putfield 23, 3) := by decide +kernel
theorem d_Cont_init_45 : decode b_Cont_init 45 = .ok (.aload_n 0, 1) := by decide +kernel
theorem d_Cont_init_46 : decode b_Cont_init 46 = .ok (.new 9, 3) := by decide +kernel
theorem d_Cont_init_49 : decode b_Cont_init 49 = .ok (.dup, 1) := by decide +kernel
theorem d_Cont_init_50 : decode b_Cont_init 50 = .ok (.bipush 8, 2) := by decide +kernel
theorem d_Cont_init_52 : decode b_Cont_init 52 = .ok (.bipush 11, 2) := by decide +kernel
theorem d_Cont_init_54 : decode b_Cont_init 54 = .ok (.invokespecial 11, 3) := by decide +kernel
theorem d_Cont_init_57 : decode b_Cont_init 57 = .ok (.putfield 26, 3) := by decide +kernel
theorem d_Cont_init_60 : decode b_Cont_init 60 = .ok (.aload_n 0, 1) := by decide +kernel
theorem d_Cont_init_61 : decode b_Cont_init 61 = .ok (.new 9, 3) := by decide +kernel
theorem d_Cont_init_64 : decode b_Cont_init 64 = .ok (.dup, 1) := by decide +kernel
theorem d_Cont_init_65 : decode b_Cont_init 65 = .ok (.iconst 4, 1) := by decide +kernel
theorem d_Cont_init_66 : decode b_Cont_init 66 = .ok (.iconst 4, 1) := by decide +kernel
theorem d_Cont_init_67 : decode b_Cont_init 67 = .ok (.invokespecial 11, 3) := by decide +kernel
theorem d_Cont_init_70 : decode b_Cont_init 70 = .ok (.putfield 29, 3) := by decide +kernel
theorem d_Cont_init_73 : decode b_Cont_init 73 = .ok (.aload_n 0, 1) := by decide +kernel
theorem d_Cont_init_74 : decode b_Cont_init 74 = .ok (.new 9, 3) := by decide +kernel
theorem d_Cont_init_77 : decode b_Cont_init 77 = .ok (.dup, 1) := by decide +kernel
theorem d_Cont_init_78 : decode b_Cont_init 78 = .ok (.sipush 240, 3) := by decide +kernel
theorem d_Cont_init_81 : decode b_Cont_init 81 = .ok (.bipush 7, 2) := by decide +kernel
theorem d_Cont_init_83 : decode b_Cont_init 83 = .ok (.invokespecial 11, 3) := by decide +kernel
theorem d_Cont_init_86 : decode b_Cont_init 86 = .ok (.putfield 32, 3) := by decide +kernel
theorem d_Cont_init_89 : decode b_Cont_init 89 = .ok (.aload_n 0, 1) := by decide +kernel
theorem d_Cont_init_90 : decode b_Cont_init 90 = .ok (.new 9, 3) := by decide +kernel
theorem d_Cont_init_93 : decode b_Cont_init 93 = .ok (.dup, 1) := by decide +kernel
theorem d_Cont_init_94 : decode b_Cont_init 94 = .ok (.sipush 240, 3) := by decide +kernel
theorem d_Cont_init_97 : decode b_Cont_init 97 = .ok (.iconst 1, 1) := by decide +kernel
theorem d_Cont_init_98 : decode b_Cont_init 98 = .ok (.invokespecial 11, 3) := by decide +kernel
theorem d_Cont_init_101 : decode b_Cont_init 101 = .ok (.putfield 35, 3) := by decide +kernel
theorem d_Cont_init_104 : decode b_Cont_init 104 = .ok (.return_, 1) := by decide +kernel
theorem d_Rd_init_0 : decode b_Rd_init 0 = .ok (.aload_n 0, 1) := by decide +kernel
theorem d_Rd_init_1 : decode b_Rd_init 1 = .ok (.invokespecial 3, 3) := by decide +kernel
theorem d_Rd_init_4 : decode b_Rd_init 4 = .ok (.aload_n 0, 1) := by decide +kernel
theorem d_Rd_init_5 : decode b_Rd_init 5 = .ok (.sipush 240, 3) := by decide +kernel
theorem d_Rd_init_8 : decode b_Rd_init 8 = .ok (.newarray .int, 2) := by decide +kernel
theorem d_Rd_init_10 : decode b_Rd_init 10 = .ok (.putfield 9, 3) := by decide +kernel
theorem d_Rd_init_13 : decode b_Rd_init 13 = .ok (.aload_n 0, 1) := by decide +kernel
theorem d_Rd_init_14 : decode b_Rd_init 14 = .ok (.new 15, 3) := by decide +kernel
theorem d_Rd_init_17 : decode b_Rd_init 17 = .ok (.dup, 1) := by decide +kernel
theorem d_Rd_init_18 : decode b_Rd_init 18 = .ok (.bipush 11, 2) := by decide +kernel
theorem d_Rd_init_20 : decode b_Rd_init 20 = .ok (.invokespecial 17, 3) := by decide +kernel
theorem d_Rd_init_23 : decode b_Rd_init 23 = .ok (.putfield 20, 3) := by decide +kernel
theorem d_Rd_init_26 : decode b_Rd_init 26 = .ok (.aload_n 0, 1) := by decide +kernel
theorem d_Rd_init_27 : decode b_Rd_init 27 = .ok (.aload_n 1, 1) := by decide +kernel
theorem d_Rd_init_28 : decode b_Rd_init 28 = .ok (.putfield 24, 3) := by decide +kernel
theorem d_Rd_init_31 : decode b_Rd_init 31 = .ok (.return_, 1) := by decide +kernel
theorem d_Val_init_0 : decode b_Val_init 0 = .ok (.aload_n 0, 1) := by decide +kernel
theorem d_Val_init_1 : decode b_Val_init 1 = .ok (.invokespecial 3, 3) := by decide +kernel
theorem d_Val_init_4 : decode b_Val_init 4 = .ok (.aload_n 0, 1) := by decide +kernel
theorem d_Val_init_5 : decode b_Val_init 5 = .ok (.new 9, 3) := by decide +kernel
theorem d_Val_init_8 : decode b_Val_init 8 = .ok (.dup, 1) := by decide +kernel
theorem d_Val_init_9 : decode b_Val_init 9 = .ok (.bipush 11, 2) := by decide +kernel
theorem d_Val_init_11 : decode b_Val_init 11 = .ok (.bipush 6, 2) := by decide +kernel
theorem d_Val_init_13 : decode b_Val_init 13 = .ok (.invokespecial 11, 3) := by decide +kernel
theorem d_Val_init_16 : decode b_Val_init 16 = .ok (.putfield 14, 3) := by decide +kernel
theorem d_Val_init_19 : decode b_Val_init 19 = .ok (.aload_n 0, 1) := by decide +kernel
theorem d_Val_init_20 : decode b_Val_init 20 = .ok (.aload_n 1, 1) := by decide +kernel
theorem d_Val_init_21 : decode b_Val_init 21 = .ok (.putfield 20, 3) := by decide +kernel
theorem d_Val_init_24 : decode b_Val_init 24 = .ok (.return_, 1) := by decide +kernel
theorem d_RC_init_0 : decode b_RC_init 0 = .ok (.aload_n 0, 1) := by decide +kernel
theorem d_RC_init_1 : decode b_RC_init 1 = .ok (.invokespecial 3, 3) := by decide +kernel
theorem d_RC_init_4 : decode b_RC_init 4 = .ok (.aload_n 0, 1) := by decide +kernel
theorem d_RC_init_5 : decode b_RC_init 5 = .ok (.new 9, 3) := by decide +kernel
theorem d_RC_init_8 : decode b_RC_init 8 = .ok (.dup, 1) := by decide +kernel
theorem d_RC_init_9 : decode b_RC_init 9 = .ok (.sipush 960, 3) := by decide +kernel
theorem d_RC_init_12 : decode b_RC_init 12 = .ok (.invokespecial 13, 3) := by decide +kernel
theorem d_RC_init_15 : decode b_RC_init 15 = .ok (.putfield 16, 3) := by decide +kernel
theorem d_RC_init_18 : decode b_RC_init 18 = .ok (.aload_n 0, 1) := by decide +kernel
theorem d_RC_init_19 : decode b_RC_init 19 = .ok (.new 9, 3) := by decide +kernel
theorem d_RC_init_22 : decode b_RC_init 22 = .ok (.dup, 1) := by decide +kernel
theorem d_RC_init_23 : decode b_RC_init 23 = .ok (.bipush 10, 2) := by decide +kernel
theorem d_RC_init_25 : decode b_RC_init 25 = .ok (.invokespecial 13, 3) := by decide +kernel
theorem d_RC_init_28 : decode b_RC_init 28 = .ok (.putfield 20, 3) := by decide +kernel
theorem d_RC_init_31 : decode b_RC_init 31 = .ok (.aload_n 0, 1) := by decide +kernel
theorem d_RC_init_32 : decode b_RC_init 32 = .ok (.aload_n 1, 1) := by decide +kernel
theorem d_RC_init_33 : decode b_RC_init 33 = .ok (.putfield 23, 3) := by decide +kernel
theorem d_RC_init_36 : decode b_RC_init 36 = .ok (.return_, 1) := by decide +kernel
theorem d_Store_init_0 : decode b_Store_init 0 = .ok (.aload_n 0, 1) := by decide +kernel
theorem d_Store_init_1 : decode b_Store_init 1 = .ok (.invokespecial 3, 3) := by decide +kernel
theorem d_Store_init_4 : decode b_Store_init 4 = .ok (.aload_n 0, 1) := by decide +kernel
theorem d_Store_init_5 : decode b_Store_init 5 = .ok (.new 9, 3) := by decide +kernel
theorem d_Store_init_8 : decode b_Store_init 8 = .ok (.dup, 1) := by decide +kernel
theorem d_Store_init_9 : decode b_Store_init 9 = .ok (.sipush 256, 3) := by decide +kernel
theorem d_Store_init_12 : decode b_Store_init 12 = .ok (.invokespecial 11, 3) := by decide +kernel
theorem d_Store_init_15 : decode b_Store_init 15 = .ok (.putfield 14, 3) := by decide +kernel
theorem d_Store_init_18 : decode b_Store_init 18 = .ok (.aload_n 0, 1) := by decide +kernel
theorem d_Store_init_19 : decode b_Store_init 19 = .ok (.new 9, 3) := by decide +kernel
theorem d_Store_init_22 : decode b_Store_init 22 = .ok (.dup, 1) := by decide +kernel
theorem d_Store_init_23 : decode b_Store_init 23 = .ok (.sipush 224, 3) := by decide +kernel
theorem d_Store_init_26 : decode b_Store_init 26 = .ok (.invokespecial 11, 3) := by decide +kernel
theorem d_Store_init_29 : decode b_Store_init 29 = .ok (.putfield 20, 3) := by decide +kernel
theorem d_Store_init_32 : decode b_Store_init 32 = .ok (.aload_n 0, 1) := by decide +kernel
theorem d_Store_init_33 : decode b_Store_init 33 = .ok (.new 9, 3) := by decide +kernel
theorem d_Store_init_36 : decode b_Store_init 36 = .ok (.dup, 1) := by decide +kernel
theorem d_Store_init_37 : decode b_Store_init 37 = .ok (.iconst 4, 1) := by decide +kernel
theorem d_Store_init_38 : decode b_Store_init 38 = .ok (.invokespecial 11, 3) := by decide +kernel
theorem d_Store_init_41 : decode b_Store_init 41 = .ok (.putfield 23, 3) := by decide +kernel
theorem d_Store_init_44 : decode b_Store_init 44 = .ok (.return_, 1) := by decide +kernel
theorem d_SE_init_0 : decode b_SE_init 0 = .ok (.aload_n 0, 1) := by decide +kernel
theorem d_SE_init_1 : decode b_SE_init 1 = .ok (.aload_n 1, 1) := by decide +kernel
theorem d_SE_init_2 : decode b_SE_init 2 = .ok (.invokespecial 3, 3) := by decide +kernel
theorem d_SE_init_5 : decode b_SE_init 5 = .ok (.aload_n 0, 1) := by decide +kernel
theorem d_SE_init_6 : decode b_SE_init 6 = .ok (.new 9, 3) := by decide +kernel
theorem d_SE_init_9 : decode b_SE_init 9 = .ok (.dup, 1) := by decide +kernel
theorem d_SE_init_10 : decode b_SE_init 10 = .ok (.bipush 80, 2) := by decide +kernel
theorem d_SE_init_12 : decode b_SE_init 12 = .ok (.iconst 2, 1) := by decide +kernel
theorem d_SE_init_13 : decode b_SE_init 13 = .ok (.invokespecial 13, 3) := by decide +kernel
theorem d_SE_init_16 : decode b_SE_init 16 = .ok (.putfield 16, 3) := by decide +kernel
theorem d_SE_init_19 : decode b_SE_init 19 = .ok (.aload_n 0, 1) := by decide +kernel
theorem d_SE_init_20 : decode b_SE_init 20 = .ok (.new 20, 3) := by decide +kernel
theorem d_SE_init_23 : decode b_SE_init 23 = .ok (.dup, 1) := by decide +kernel
theorem d_SE_init_24 : decode b_SE_init 24 = .ok (.bipush 8, 2) := by decide +kernel
theorem d_SE_init_26 : decode b_SE_init 26 = .ok (.invokespecial 22, 3) := by decide +kernel
theorem d_SE_init_29 : decode b_SE_init 29 = .ok (.putfield 25, 3) := by decide +kernel
theorem d_SE_init_32 : decode b_SE_init 32 = .ok (.aload_n 0, 1) := by decide +kernel
theorem d_SE_init_33 : decode b_SE_init 33 = .ok (.new 20, 3) := by decide +kernel
theorem d_SE_init_36 : decode b_SE_init 36 = .ok (.dup, 1) := by decide +kernel
theorem d_SE_init_37 : decode b_SE_init 37 = .ok (.bipush 8, 2) := by decide +kernel
theorem d_SE_init_39 : decode b_SE_init 39 = .ok (.invokespecial 22, 3) := by decide +kernel
theorem d_SE_init_42 : decode b_SE_init 42 = .ok (.putfield 29, 3) := by decide +kernel
theorem d_SE_init_45 : decode b_SE_init 45 = .ok (.aload_n 0, 1) := by decide +kernel
theorem d_SE_init_46 : decode b_SE_init 46 = .ok (.aload_n 2, 1) := by decide +kernel
theorem d_SE_init_47 : decode b_SE_init 47 = .ok (.putfield 32, 3) := by decide +kernel
theorem d_SE_init_50 : decode b_SE_init 50 = .ok (.return_, 1) := by decide +kernel
theorem d_RE_init_0 : decode b_RE_init 0 = .ok (.aload_n 0, 1) := by decide +kernel
theorem d_RE_init_1 : decode b_RE_init 1 = .ok (.aload_n 1, 1) := by decide +kernel
theorem d_RE_init_2 : decode b_RE_init 2 = .ok (.invokespecial 3, 3) := by decide +kernel
theorem d_RE_init_5 : decode b_RE_init 5 = .ok (.aload_n 0, 1) := by decide +kernel
theorem d_RE_init_6 : decode b_RE_init 6 = .ok (.aload_n 2, 1) := by decide +kernel
theorem d_RE_init_7 : decode b_RE_init 7 = .ok (.putfield 9, 3) := by decide +kernel
theorem d_RE_init_10 : decode b_RE_init 10 = .ok (.return_, 1) := by decide +kernel
theorem d_M_init_0 : decode b_M_init 0 = .ok (.aload_n 0, 1) := by decide +kernel
theorem d_M_init_1 : decode b_M_init 1 = .ok (.invokespecial 1, 3) := by decide +kernel
theorem d_M_init_4 : decode b_M_init 4 = .ok (.aload_n 0, 1) := by decide +kernel
theorem d_M_init_5 : decode b_M_init 5 = .ok (.sipush 240, 3) := by decide +kernel
theorem d_M_init_8 : decode b_M_init 8 = .ok (.newarray .int, 2) := by decide +kernel
theorem d_M_init_10 : decode b_M_init 10 = .ok (.putfield 7, 3) := by decide +kernel
theorem d_M_init_13 : decode b_M_init 13 = .ok (.aload_n 0, 1) := by decide +kernel
theorem d_M_init_14 : decode b_M_init 14 = .ok (.bipush 8, 2) := by decide +kernel
theorem d_M_init_16 : decode b_M_init 16 = .ok (.newarray .int, 2) := by decide +kernel
theorem d_M_init_18 : decode b_M_init 18 = .ok (.putfield 13, 3) := by decide +kernel
theorem d_M_init_21 : decode b_M_init 21 = .ok (.aload_n 0, 1) := by decide +kernel
theorem d_M_init_22 : decode b_M_init 22 = .ok (.bipush 8, 2) := by decide +kernel
theorem d_M_init_24 : decode b_M_init 24 = .ok (.newarray .int, 2) := by decide +kernel
theorem d_M_init_26 : decode b_M_init 26 = .ok (.putfield 16, 3) := by decide +kernel
theorem d_M_init_29 : decode b_M_init 29 = .ok (.aload_n 0, 1) := by decide +kernel
theorem d_M_init_30 : decode b_M_init 30 = .ok (.bipush 8, 2) := by decide +kernel
theorem d_M_init_32 : decode b_M_init 32 = .ok (.newarray .long, 2) := by decide +kernel
theorem d_M_init_34 : decode b_M_init 34 = .ok (.putfield 19, 3) := by decide +kernel
theorem d_M_init_37 : decode b_M_init 37 = .ok (.aload_n 0, 1) := by decide +kernel
theorem d_M_init_38 : decode b_M_init 38 = .ok (.iconst 4, 1) := by decide +kernel
theorem d_M_init_39 : decode b_M_init 39 = .ok (.newarray .boolean, 2) := by decide +kernel
theorem d_M_init_41 : decode b_M_init 41 = .ok (.putfield 23, 3) := by decide +kernel
theorem d_M_init_44 : decode b_M_init 44 = .ok (.aload_n 0, 1) := by decide +kernel
theorem d_M_init_45 : decode b_M_init 45 = .ok (.iconst 4, 1) := by decide +kernel
theorem d_M_init_46 : decode b_M_init 46 = .ok (.newarray .int, 2) := by decide +kernel
theorem d_M_init_48 : decode b_M_init 48 = .ok (.putfield 27, 3) := by decide +kernel
theorem d_M_init_51 : decode b_M_init 51 = .ok (.aload_n 0, 1) := by decide +kernel
theorem d_M_init_52 : decode b_M_init 52 = .ok (.bipush 8, 2) := by decide +kernel
theorem d_M_init_54 : decode b_M_init 54 = .ok (.newarray .long, 2) := by decide +kernel
theorem d_M_init_56 : decode b_M_init 56 = .ok (.putfield 30, 3) := by decide +kernel
theorem d_M_init_59 : decode b_M_init 59 = .ok (.aload_n 0, 1) := by decide +kernel
theorem d_M_init_60 : decode b_M_init 60 = .ok (.bipush 8, 2) := by decide +kernel
theorem d_M_init_62 : decode b_M_init 62 = .ok (.newarray .int, 2) := by decide +kernel
theorem d_M_init_64 : decode b_M_init 64 = .ok (.putfield 33, 3) := by decide +kernel
theorem d_M_init_67 : decode b_M_init 67 = .ok (.aload_n 0, 1) := by decide +kernel
theorem d_M_init_68 : decode b_M_init 68 = .ok (.bipush 8, 2) := by decide +kernel
theorem d_M_init_70 : decode b_M_init 70 = .ok (.newarray .long, 2) := by decide +kernel
theorem d_M_init_72 : decode b_M_init 72 = .ok (.putfield 36, 3) := by decide +kernel
theorem d_M_init_75 : decode b_M_init 75 = .ok (.aload_n 0, 1) := by decide +kernel
theorem d_M_init_76 : decode b_M_init 76 = .ok (.iconst 4, 1) := by decide +kernel
theorem d_M_init_77 : decode b_M_init 77 = .ok (.newarray .long, 2) := by decide +kernel
theorem d_M_init_79 : decode b_M_init 79 = .ok (.putfield 39, 3) := by decide +kernel
theorem d_M_init_82 : decode b_M_init 82 = .ok (.aload_n 0, 1) := by decide +kernel
theorem d_M_init_83 : decode b_M_init 83 = .ok (.iconst 4, 1) := by decide +kernel
theorem d_M_init_84 : decode b_M_init 84 = .ok (.newarray .int, 2) := by decide +kernel
theorem d_M_init_86 : decode b_M_init 86 = .ok (.putfield 42, 3) := by decide +kernel
theorem d_M_init_89 : decode b_M_init 89 = .ok (.aload_n 0, 1) := by decide +kernel
theorem d_M_init_90 : decode b_M_init 90 = .ok (.iconst 4, 1) := by decide +kernel
theorem d_M_init_91 : decode b_M_init 91 = .ok (.newarray .int, 2) := by decide +kernel
theorem d_M_init_93 : decode b_M_init 93 = .ok (.putfield 45, 3) := by decide +kernel
theorem d_M_init_96 : decode b_M_init 96 = .ok (.aload_n 0, 1) := by decide +kernel
theorem d_M_init_97 : decode b_M_init 97 = .ok (.iconst 4, 1) := by decide +kernel
theorem d_M_init_98 : decode b_M_init 98 = .ok (.newarray .int, 2) := by decide +kernel
theorem d_M_init_100 : decode b_M_init 100 = .ok (.putfield 48, 3) := by decide +kernel
theorem d_M_init_103 : decode b_M_init 103 = .ok (.aload_n 0, 1) := by decide +kernel
theorem d_M_init_104 : decode b_M_init 104 = .ok (.sipush 250, 3) := by decide +kernel
theorem d_M_init_107 : decode b_M_init 107 = .ok (.newarray .int, 2) := by decide +kernel
theorem d_M_init_109 : decode b_M_init 109 = .ok (.putfield 51, 3) := by decide +kernel
theorem d_M_init_112 : decode b_M_init 112 = .ok (.aload_n 0, 1) := by decide +kernel
theorem d_M_init_113 : decode b_M_init 113 = .ok (.sipush 250, 3) := by decide +kernel
theorem d_M_init_116 : decode b_M_init 116 = .ok (.newarray .long, 2) := by decide +kernel
theorem d_M_init_118 : decode b_M_init 118 = .ok (.putfield 54, 3) := by decide +kernel
theorem d_M_init_121 : decode b_M_init 121 = .ok (.aload_n 0, 1) := by decide +kernel
theorem d_M_init_122 : decode b_M_init 122 = .ok (.sipush 250, 3) := by decide +kernel
theorem d_M_init_125 : decode b_M_init 125 = .ok (.newarray .long, 2) := by decide +kernel
theorem d_M_init_127 : decode b_M_init 127 = .ok (.putfield 57, 3) := by decide +kernel
theorem d_M_init_130 : decode b_M_init 130 = .ok (.aload_n 0, 1) := by decide +kernel
theorem d_M_init_131 : decode b_M_init 131 = .ok (.sipush 250, 3) := by decide +kernel
theorem d_M_init_134 : decode b_M_init 134 = .ok (.newarray .int, 2) := by decide +kernel
theorem d_M_init_136 : decode b_M_init 136 = .ok (.putfield 60, 3) := by decide +kernel
theorem d_M_init_139 : decode b_M_init 139 = .ok (.aload_n 0, 1) := by decide +kernel
theorem d_M_init_140 : decode b_M_init 140 = .ok (.sipush 250, 3) := by decide +kernel
theorem d_M_init_143 : decode b_M_init 143 = .ok (.newarray .int, 2) := by decide +kernel
theorem d_M_init_145 : decode b_M_init 145 = .ok (.putfield 63, 3) := by decide +kernel
theorem d_M_init_148 : decode b_M_init 148 = .ok (.aload_n 0, 1) := by decide +kernel
theorem d_M_init_149 : decode b_M_init 149 = .ok (.sipush 250, 3) := by decide +kernel
theorem d_M_init_152 : decode b_M_init 152 = .ok (.newarray .int, 2) := by decide +kernel
theorem d_M_init_154 : decode b_M_init 154 = .ok (.putfield 66, 3) := by decide +kernel
theorem d_M_init_157 : decode b_M_init 157 = .ok (.aload_n 0, 1) := by decide +kernel
theorem d_M_init_158 : decode b_M_init 158 = .ok (.sipush 250, 3) := by decide +kernel
theorem d_M_init_161 : decode b_M_init 161 = .ok (.newarray .int, 2) := by decide +kernel
theorem d_M_init_163 : decode b_M_init 163 = .ok (.putfield 69, 3) := by decide +kernel
theorem d_M_init_166 : decode b_M_init 166 = .ok (.aload_n 0, 1) := by decide +kernel
theorem d_M_init_167 : decode b_M_init 167 = .ok (.sipush 251, 3) := by decide +kernel
theorem d_M_init_170 : decode b_M_init 170 = .ok (.newarray .int, 2) := by decide +kernel
theorem d_M_init_172 : decode b_M_init 172 = .ok (.putfield 72, 3) := by decide +kernel
theorem d_M_init_175 : decode b_M_init 175 = .ok (.aload_n 0, 1) := by decide +kernel
theorem d_M_init_176 : decode b_M_init 176 = .ok (.bipush 8, 2) := by decide +kernel
theorem d_M_init_178 : decode b_M_init 178 = .ok (.newarray .int, 2) := by decide +kernel
theorem d_M_init_180 : decode b_M_init 180 = .ok (.putfield 75, 3) := by decide +kernel
theorem d_M_init_183 : decode b_M_init 183 = .ok (.aload_n 0, 1) := by decide +kernel
theorem d_M_init_184 : decode b_M_init 184 = .ok (.bipush 8, 2) := by decide +kernel
theorem d_M_init_186 : decode b_M_init 186 = .ok (.newarray .int, 2) := by decide +kernel
theorem d_M_init_188 : decode b_M_init 188 = .ok (.putfield 78, 3) := by decide +kernel
theorem d_M_init_191 : decode b_M_init 191 = .ok (.aload_n 0, 1) := by decide +kernel
theorem d_M_init_192 : decode b_M_init 192 = .ok (.bipush 8, 2) := by decide +kernel
theorem d_M_init_194 : decode b_M_init 194 = .ok (.newarray .int, 2) := by decide +kernel
theorem d_M_init_196 : decode b_M_init 196 = .ok (.putfield 81, 3) := by decide +kernel
theorem d_M_init_199 : decode b_M_init 199 = .ok (.aload_n 0, 1) := by decide +kernel
theorem d_M_init_200 : decode b_M_init 200 = .ok (.sipush 250, 3) := by decide +kernel
theorem d_M_init_203 : decode b_M_init 203 = .ok (.newarray .long, 2) := by decide +kernel
theorem d_M_init_205 : decode b_M_init 205 = .ok (.putfield 84, 3) := by decide +kernel
theorem d_M_init_208 : decode b_M_init 208 = .ok (.aload_n 0, 1) := by decide +kernel
theorem d_M_init_209 : decode b_M_init 209 = .ok (.bipush 16, 2) := by decide +kernel
theorem d_M_init_211 : decode b_M_init 211 = .ok (.newarray .int, 2) := by decide +kernel
theorem d_M_init_213 : decode b_M_init 213 = .ok (.putfield 87, 3) := by decide +kernel
theorem d_M_init_216 : decode b_M_init 216 = .ok (.aload_n 0, 1) := by decide +kernel
theorem d_M_init_217 : decode b_M_init 217 = .ok (.bipush 16, 2) := by decide +kernel
theorem d_M_init_219 : decode b_M_init 219 = .ok (.newarray .int, 2) := by decide +kernel
theorem d_M_init_221 : decode b_M_init 221 = .ok (.putfield 90, 3) := by decide +kernel
theorem d_M_init_224 : decode b_M_init 224 = .ok (.aload_n 0, 1) := by decide +kernel
theorem d_M_init_225 : decode b_M_init 225 = .ok (.bipush 16, 2) := by decide +kernel
theorem d_M_init_227 : decode b_M_init 227 = .ok (.newarray .boolean, 2) := by decide +kernel
theorem d_M_init_229 : decode b_M_init 229 = .ok (.putfield 93, 3) := by decide +kernel
theorem d_M_init_232 : decode b_M_init 232 = .ok (.aload_n 0, 1) := by decide +kernel
theorem d_M_init_233 : decode b_M_init 233 = .ok (.sipush 256, 3) := by decide +kernel
theorem d_M_init_236 : decode b_M_init 236 = .ok (.newarray .int, 2) := by decide +kernel
theorem d_M_init_238 : decode b_M_init 238 = .ok (.putfield 96, 3) := by decide +kernel
theorem d_M_init_241 : decode b_M_init 241 = .ok (.aload_n 0, 1) := by decide +kernel
theorem d_M_init_242 : decode b_M_init 242 = .ok (.iconst 4, 1) := by decide +kernel
theorem d_M_init_243 : decode b_M_init 243 = .ok (.newarray .int, 2) := by decide +kernel
theorem d_M_init_245 : decode b_M_init 245 = .ok (.putfield 99, 3) := by decide +kernel
theorem d_M_init_248 : decode b_M_init 248 = .ok (.aload_n 0, 1) := by decide +kernel
theorem d_M_init_249 : decode b_M_init 249 = .ok (.iconst 4, 1) := by decide +kernel
theorem d_M_init_250 : decode b_M_init 250 = .ok (.newarray .int, 2) := by decide +kernel
theorem d_M_init_252 : decode b_M_init 252 = .ok (.putfield 102, 3) := by decide +kernel
theorem d_M_init_255 : decode b_M_init 255 = .ok (.aload_n 0, 1) := by decide +kernel
theorem d_M_init_256 : decode b_M_init 256 = .ok (.bipush 9, 2) := by decide +kernel
theorem d_M_init_258 : decode b_M_init 258 = .ok (.newarray .int, 2) := by decide +kernel
theorem d_M_init_260 : decode b_M_init 260 = .ok (.putfield 105, 3) := by decide +kernel
theorem d_M_init_263 : decode b_M_init 263 = .ok (.aload_n 0, 1) := by decide +kernel
theorem d_M_init_264 : decode b_M_init 264 = .ok (.bipush 9, 2) := by decide +kernel
theorem d_M_init_266 : decode b_M_init 266 = .ok (.newarray .int, 2) := by decide +kernel
theorem d_M_init_268 : decode b_M_init 268 = .ok (.putfield 108, 3) := by decide +kernel
theorem d_M_init_271 : decode b_M_init 271 = .ok (.aload_n 0, 1) := by decide +kernel
theorem d_M_init_272 : decode b_M_init 272 = .ok (.bipush 9, 2) := by decide +kernel
theorem d_M_init_274 : decode b_M_init 274 = .ok (.newarray .int, 2) := by decide +kernel
theorem d_M_init_276 : decode b_M_init 276 = .ok (.putfield 111, 3) := by decide +kernel
theorem d_M_init_279 : decode b_M_init 279 = .ok (.aload_n 0, 1) := by decide +kernel
theorem d_M_init_280 : decode b_M_init 280 = .ok (.sipush 400, 3) := by decide +kernel
theorem d_M_init_283 : decode b_M_init 283 = .ok (.newarray .int, 2) := by decide +kernel
theorem d_M_init_285 : decode b_M_init 285 = .ok (.putfield 114, 3) := by decide +kernel
theorem d_M_init_288 : decode b_M_init 288 = .ok (.aload_n 0, 1) := by decide +kernel
theorem d_M_init_289 : decode b_M_init 289 = .ok (.sipush 2400, 3) := by decide +kernel
theorem d_M_init_292 : decode b_M_init 292 = .ok (.newarray .int, 2) := by decide +kernel
theorem d_M_init_294 : decode b_M_init 294 = .ok (.putfield 117, 3) := by decide +kernel
theorem d_M_init_297 : decode b_M_init 297 = .ok (.return_, 1) := by decide +kernel
theorem d_Eng_init_0 : decode b_Eng_init 0 = .ok (.aload_n 0, 1) := by decide +kernel
theorem d_Eng_init_1 : decode b_Eng_init 1 = .ok (.invokespecial 3, 3) := by decide +kernel
theorem d_Eng_init_4 : decode b_Eng_init 4 = .ok (.aload_n 0, 1) := by decide +kernel
theorem d_Eng_init_5 : decode b_Eng_init 5 = .ok (.new 9, 3) := by decide +kernel
theorem d_Eng_init_8 : decode b_Eng_init 8 = .ok (.dup, 1) := by decide +kernel
theorem d_Eng_init_9 : decode b_Eng_init 9 = .ok (.bipush 8, 2) := by decide +kernel
theorem d_Eng_init_11 : decode b_Eng_init 11 = .ok (.invokespecial 11, 3) := by decide +kernel
theorem d_Eng_init_14 : decode b_Eng_init 14 = .ok (.putfield 14, 3) := by decide +kernel
theorem d_Eng_init_17 : decode b_Eng_init 17 = .ok (.aload_n 0, 1) := by decide +kernel
theorem d_Eng_init_18 : decode b_Eng_init 18 = .ok (.new 9, 3) := by decide +kernel
theorem d_Eng_init_21 : decode b_Eng_init 21 = .ok (.dup, 1) := by decide +kernel
theorem d_Eng_init_22 : decode b_Eng_init 22 = .ok (.bipush 8, 2) := by decide +kernel
theorem d_Eng_init_24 : decode b_Eng_init 24 = .ok (.invokespecial 11, 3) := by decide +kernel
theorem d_Eng_init_27 : decode b_Eng_init 27 = .ok (.putfield 20, 3) := by decide +kernel
theorem d_Eng_init_30 : decode b_Eng_init 30 = .ok (.aload_n 0, 1) := by decide +kernel
theorem d_Eng_init_31 : decode b_Eng_init 31 = .ok (.aload_n 1, 1) := by decide +kernel
theorem d_Eng_init_32 : decode b_Eng_init 32 = .ok (.putfield 23, 3) := by decide +kernel
theorem d_Eng_init_35 : decode b_Eng_init 35 = .ok (.return_, 1) := by decide +kernel
theorem mn_Row_init : Cond.instanceMethod y_Row_init ∈ TB := tb 248 (by decide +kernel) rfl
theorem mn_Table_init : Cond.instanceMethod y_Table_init ∈ TB := tb 160 (by decide +kernel) rfl
theorem mn_X_init : Cond.instanceMethod y_X_init ∈ TB := tb 146 (by decide +kernel) rfl
theorem mn_Cont_init : Cond.instanceMethod y_Cont_init ∈ TB := tb 154 (by decide +kernel) rfl
theorem mn_Rd_init : Cond.instanceMethod y_Rd_init ∈ TB := tb 242 (by decide +kernel) rfl
theorem mn_Val_init : Cond.instanceMethod y_Val_init ∈ TB := tb 287 (by decide +kernel) rfl
theorem mn_RC_init : Cond.instanceMethod y_RC_init ∈ TB := tb 314 (by decide +kernel) rfl
theorem mn_Store_init : Cond.instanceMethod y_Store_init ∈ TB := tb 342 (by decide +kernel) rfl
theorem mn_SE_init : Cond.instanceMethod y_SE_init ∈ TB := tb 371 (by decide +kernel) rfl
theorem mn_RE_init : Cond.instanceMethod y_RE_init ∈ TB := tb 448 (by decide +kernel) rfl
theorem mn_M_init : Cond.instanceMethod y_M_init ∈ TB := tb 1155 (by decide +kernel) rfl
theorem mn_Eng_init : Cond.instanceMethod y_Eng_init ∈ TB := tb 374 (by decide +kernel) rfl
theorem mn_obj : Cond.instanceMethod objectInit ∈ TB := tb 149 (by decide +kernel) rfl
theorem mc_obj : Cond.code objectInit ⟨#[0xb1]⟩ 1 none ∈ TB := tb 150 (by decide +kernel) rfl
theorem ma_int : Cond.arrayClass .int ∈ TB := tb 179 (by decide +kernel) rfl
theorem ma_long : Cond.arrayClass .long ∈ TB := tb 1351 (by decide +kernel) rfl
theorem ma_boolean : Cond.arrayClass .boolean ∈ TB := tb 1352 (by decide +kernel) rfl
theorem ms_Math_max : Cond.static Lib.Math.max.name ∈ TB := tb 164 (by decide +kernel) rfl
theorem mc_Math_max : Cond.code Lib.Math.max.name Lib.Math.max.code 2 (some .int) ∈ TB := tb 165 (by decide +kernel) rfl
theorem mk_Row : Cond.instantiable R_Row 1 ∈ TB := tb 246 (by decide +kernel) rfl
theorem mk_Table : Cond.instantiable R_Table 4 ∈ TB := tb 158 (by decide +kernel) rfl
theorem mk_X : Cond.instantiable R_X 13 ∈ TB := tb 144 (by decide +kernel) rfl
theorem mk_Cont : Cond.instantiable R_Cont 10 ∈ TB := tb 152 (by decide +kernel) rfl
theorem mk_Rd : Cond.instantiable R_Rd 9 ∈ TB := tb 240 (by decide +kernel) rfl
theorem mk_Val : Cond.instantiable R_Val 6 ∈ TB := tb 285 (by decide +kernel) rfl
theorem mk_RC : Cond.instantiable R_RC 6 ∈ TB := tb 312 (by decide +kernel) rfl
theorem mk_Store : Cond.instantiable R_Store 5 ∈ TB := tb 340 (by decide +kernel) rfl
theorem mk_SE : Cond.instantiable R_SE 14 ∈ TB := tb 369 (by decide +kernel) rfl
theorem mk_RE : Cond.instantiable R_RE 9 ∈ TB := tb 446 (by decide +kernel) rfl
theorem mk_M : Cond.instantiable R_M 64 ∈ TB := tb 1153 (by decide +kernel) rfl
theorem fl_Row_13 : Cond.fieldLink R_Row 13 "WasmMachine$Row" "cells" "[I" ∈ TB := tb 252 (by decide +kernel) rfl
theorem fl_Table_13 : Cond.fieldLink R_Table 13 "WasmMachine$Table" "cells" "[I" ∈ TB := tb 166 (by decide +kernel) rfl
theorem fl_Table_19 : Cond.fieldLink R_Table 19 "WasmMachine$Table" "height" "I" ∈ TB := tb 167 (by decide +kernel) rfl
theorem fl_Table_23 : Cond.fieldLink R_Table 23 "WasmMachine$Table" "width" "I" ∈ TB := tb 168 (by decide +kernel) rfl
theorem mcl_X_7 : Cond.classLink R_X 7 R_Cont ∈ TB := tb 151 (by decide +kernel) rfl
theorem mcl_X_16 : Cond.classLink R_X 16 R_Rd ∈ TB := tb 239 (by decide +kernel) rfl
theorem mcl_X_25 : Cond.classLink R_X 25 R_Val ∈ TB := tb 284 (by decide +kernel) rfl
theorem mcl_X_32 : Cond.classLink R_X 32 R_RC ∈ TB := tb 311 (by decide +kernel) rfl
theorem mcl_X_39 : Cond.classLink R_X 39 R_Store ∈ TB := tb 339 (by decide +kernel) rfl
theorem mcl_X_46 : Cond.classLink R_X 46 R_SE ∈ TB := tb 368 (by decide +kernel) rfl
theorem mcl_X_55 : Cond.classLink R_X 55 R_RE ∈ TB := tb 445 (by decide +kernel) rfl
theorem mcl_X_63 : Cond.classLink R_X 63 R_Row ∈ TB := tb 463 (by decide +kernel) rfl
theorem mcl_Cont_9 : Cond.classLink R_Cont 9 R_Table ∈ TB := tb 157 (by decide +kernel) rfl
theorem mcl_Rd_15 : Cond.classLink R_Rd 15 R_Row ∈ TB := tb 245 (by decide +kernel) rfl
theorem mcl_Val_9 : Cond.classLink R_Val 9 R_Table ∈ TB := tb 290 (by decide +kernel) rfl
theorem mcl_RC_9 : Cond.classLink R_RC 9 R_Row ∈ TB := tb 317 (by decide +kernel) rfl
theorem mcl_Store_9 : Cond.classLink R_Store 9 R_Row ∈ TB := tb 345 (by decide +kernel) rfl
theorem mcl_SE_9 : Cond.classLink R_SE 9 R_Table ∈ TB := tb 379 (by decide +kernel) rfl
theorem mcl_SE_20 : Cond.classLink R_SE 20 R_Row ∈ TB := tb 381 (by decide +kernel) rfl
theorem mcl_Eng_9 : Cond.classLink R_Eng 9 R_Row ∈ TB := tb 377 (by decide +kernel) rfl
theorem ml_Cont_3o : Cond.methodLink R_Cont 3 objectInit ∈ TB := tb 156 (by decide +kernel) rfl
theorem ml_Cont_11 : Cond.methodLink R_Cont 11 y_Table_init ∈ TB := tb 159 (by decide +kernel) rfl
theorem cwn_Cont_11_1_16 {R : Room} {s : State} {args : Array Value} (hts : ∀ w ∈ TB, w.before args s = true) (hN : NW s) (hR : 1 + 1 ≤ R.frames ∧ 8 + (3 + 11) + 21 ≤ R.locals) : CallB R s args R_Cont 11 y_Table_init b_Table_init 3 none (Cond.code y_Table_init b_Table_init 3 none :: TB) (rmC 1 21 1 16) 1 16 2 ∧ y_Table_init.name = "<init>" ∧ (Cond.instanceMethod y_Table_init).before args s = true := ⟨callB_of 2 hts (x_good mc_Table_init) rfl rfl rfl (hts _ mi_Table) (hts _ ml_Cont_11) (by decide +kernel) hR, rfl, hts _ mn_Table_init⟩
theorem cwn_Cont_11_1_32 {R : Room} {s : State} {args : Array Value} (hts : ∀ w ∈ TB, w.before args s = true) (hN : NW s) (hR : 1 + 1 ≤ R.frames ∧ 8 + (3 + 11) + 21 ≤ R.locals) : CallB R s args R_Cont 11 y_Table_init b_Table_init 3 none (Cond.code y_Table_init b_Table_init 3 none :: TB) (rmC 1 21 1 32) 1 32 2 ∧ y_Table_init.name = "<init>" ∧ (Cond.instanceMethod y_Table_init).before args s = true := ⟨callB_of 2 hts (x_good mc_Table_init) rfl rfl rfl (hts _ mi_Table) (hts _ ml_Cont_11) (by decide +kernel) hR, rfl, hts _ mn_Table_init⟩
theorem cwn_Cont_11_1_8 {R : Room} {s : State} {args : Array Value} (hts : ∀ w ∈ TB, w.before args s = true) (hN : NW s) (hR : 1 + 1 ≤ R.frames ∧ 8 + (3 + 11) + 21 ≤ R.locals) : CallB R s args R_Cont 11 y_Table_init b_Table_init 3 none (Cond.code y_Table_init b_Table_init 3 none :: TB) (rmC 1 21 1 8) 1 8 2 ∧ y_Table_init.name = "<init>" ∧ (Cond.instanceMethod y_Table_init).before args s = true := ⟨callB_of 2 hts (x_good mc_Table_init) rfl rfl rfl (hts _ mi_Table) (hts _ ml_Cont_11) (by decide +kernel) hR, rfl, hts _ mn_Table_init⟩
theorem cwn_Cont_11_1_88 {R : Room} {s : State} {args : Array Value} (hts : ∀ w ∈ TB, w.before args s = true) (hN : NW s) (hR : 1 + 1 ≤ R.frames ∧ 8 + (3 + 11) + 21 ≤ R.locals) : CallB R s args R_Cont 11 y_Table_init b_Table_init 3 none (Cond.code y_Table_init b_Table_init 3 none :: TB) (rmC 1 21 1 88) 1 88 2 ∧ y_Table_init.name = "<init>" ∧ (Cond.instanceMethod y_Table_init).before args s = true := ⟨callB_of 2 hts (x_good mc_Table_init) rfl rfl rfl (hts _ mi_Table) (hts _ ml_Cont_11) (by decide +kernel) hR, rfl, hts _ mn_Table_init⟩
theorem cwn_Cont_11_1_1680 {R : Room} {s : State} {args : Array Value} (hts : ∀ w ∈ TB, w.before args s = true) (hN : NW s) (hR : 1 + 1 ≤ R.frames ∧ 8 + (3 + 11) + 21 ≤ R.locals) : CallB R s args R_Cont 11 y_Table_init b_Table_init 3 none (Cond.code y_Table_init b_Table_init 3 none :: TB) (rmC 1 21 1 1680) 1 1680 2 ∧ y_Table_init.name = "<init>" ∧ (Cond.instanceMethod y_Table_init).before args s = true := ⟨callB_of 2 hts (x_good mc_Table_init) rfl rfl rfl (hts _ mi_Table) (hts _ ml_Cont_11) (by decide +kernel) hR, rfl, hts _ mn_Table_init⟩
theorem cwn_Cont_11_1_240 {R : Room} {s : State} {args : Array Value} (hts : ∀ w ∈ TB, w.before args s = true) (hN : NW s) (hR : 1 + 1 ≤ R.frames ∧ 8 + (3 + 11) + 21 ≤ R.locals) : CallB R s args R_Cont 11 y_Table_init b_Table_init 3 none (Cond.code y_Table_init b_Table_init 3 none :: TB) (rmC 1 21 1 240) 1 240 2 ∧ y_Table_init.name = "<init>" ∧ (Cond.instanceMethod y_Table_init).before args s = true := ⟨callB_of 2 hts (x_good mc_Table_init) rfl rfl rfl (hts _ mi_Table) (hts _ ml_Cont_11) (by decide +kernel) hR, rfl, hts _ mn_Table_init⟩
theorem ml_Rd_3o : Cond.methodLink R_Rd 3 objectInit ∈ TB := tb 244 (by decide +kernel) rfl
theorem ml_Rd_17 : Cond.methodLink R_Rd 17 y_Row_init ∈ TB := tb 247 (by decide +kernel) rfl
theorem cwn_Rd_17_1_11 {R : Room} {s : State} {args : Array Value} (hts : ∀ w ∈ TB, w.before args s = true) (hN : NW s) (hR : 1 + 1 ≤ R.frames ∧ 8 + (2 + 11) + 21 ≤ R.locals) : CallB R s args R_Rd 17 y_Row_init b_Row_init 2 none (Cond.code y_Row_init b_Row_init 2 none :: TB) (rmC 1 21 1 11) 1 11 1 ∧ y_Row_init.name = "<init>" ∧ (Cond.instanceMethod y_Row_init).before args s = true := ⟨callB_of 1 hts (x_good mc_Row_init) rfl rfl rfl (hts _ mi_Row) (hts _ ml_Rd_17) (by decide +kernel) hR, rfl, hts _ mn_Row_init⟩
theorem ml_Val_3o : Cond.methodLink R_Val 3 objectInit ∈ TB := tb 289 (by decide +kernel) rfl
theorem ml_Val_11 : Cond.methodLink R_Val 11 y_Table_init ∈ TB := tb 291 (by decide +kernel) rfl
theorem cwn_Val_11_1_66 {R : Room} {s : State} {args : Array Value} (hts : ∀ w ∈ TB, w.before args s = true) (hN : NW s) (hR : 1 + 1 ≤ R.frames ∧ 8 + (3 + 11) + 21 ≤ R.locals) : CallB R s args R_Val 11 y_Table_init b_Table_init 3 none (Cond.code y_Table_init b_Table_init 3 none :: TB) (rmC 1 21 1 66) 1 66 2 ∧ y_Table_init.name = "<init>" ∧ (Cond.instanceMethod y_Table_init).before args s = true := ⟨callB_of 2 hts (x_good mc_Table_init) rfl rfl rfl (hts _ mi_Table) (hts _ ml_Val_11) (by decide +kernel) hR, rfl, hts _ mn_Table_init⟩
theorem ml_RC_3o : Cond.methodLink R_RC 3 objectInit ∈ TB := tb 316 (by decide +kernel) rfl
theorem ml_RC_13 : Cond.methodLink R_RC 13 y_Row_init ∈ TB := tb 318 (by decide +kernel) rfl
theorem cwn_RC_13_1_960 {R : Room} {s : State} {args : Array Value} (hts : ∀ w ∈ TB, w.before args s = true) (hN : NW s) (hR : 1 + 1 ≤ R.frames ∧ 8 + (2 + 11) + 21 ≤ R.locals) : CallB R s args R_RC 13 y_Row_init b_Row_init 2 none (Cond.code y_Row_init b_Row_init 2 none :: TB) (rmC 1 21 1 960) 1 960 1 ∧ y_Row_init.name = "<init>" ∧ (Cond.instanceMethod y_Row_init).before args s = true := ⟨callB_of 1 hts (x_good mc_Row_init) rfl rfl rfl (hts _ mi_Row) (hts _ ml_RC_13) (by decide +kernel) hR, rfl, hts _ mn_Row_init⟩
theorem cwn_RC_13_1_10 {R : Room} {s : State} {args : Array Value} (hts : ∀ w ∈ TB, w.before args s = true) (hN : NW s) (hR : 1 + 1 ≤ R.frames ∧ 8 + (2 + 11) + 21 ≤ R.locals) : CallB R s args R_RC 13 y_Row_init b_Row_init 2 none (Cond.code y_Row_init b_Row_init 2 none :: TB) (rmC 1 21 1 10) 1 10 1 ∧ y_Row_init.name = "<init>" ∧ (Cond.instanceMethod y_Row_init).before args s = true := ⟨callB_of 1 hts (x_good mc_Row_init) rfl rfl rfl (hts _ mi_Row) (hts _ ml_RC_13) (by decide +kernel) hR, rfl, hts _ mn_Row_init⟩
theorem ml_Store_3o : Cond.methodLink R_Store 3 objectInit ∈ TB := tb 344 (by decide +kernel) rfl
theorem ml_Store_11 : Cond.methodLink R_Store 11 y_Row_init ∈ TB := tb 346 (by decide +kernel) rfl
theorem cwn_Store_11_1_256 {R : Room} {s : State} {args : Array Value} (hts : ∀ w ∈ TB, w.before args s = true) (hN : NW s) (hR : 1 + 1 ≤ R.frames ∧ 8 + (2 + 11) + 21 ≤ R.locals) : CallB R s args R_Store 11 y_Row_init b_Row_init 2 none (Cond.code y_Row_init b_Row_init 2 none :: TB) (rmC 1 21 1 256) 1 256 1 ∧ y_Row_init.name = "<init>" ∧ (Cond.instanceMethod y_Row_init).before args s = true := ⟨callB_of 1 hts (x_good mc_Row_init) rfl rfl rfl (hts _ mi_Row) (hts _ ml_Store_11) (by decide +kernel) hR, rfl, hts _ mn_Row_init⟩
theorem cwn_Store_11_1_224 {R : Room} {s : State} {args : Array Value} (hts : ∀ w ∈ TB, w.before args s = true) (hN : NW s) (hR : 1 + 1 ≤ R.frames ∧ 8 + (2 + 11) + 21 ≤ R.locals) : CallB R s args R_Store 11 y_Row_init b_Row_init 2 none (Cond.code y_Row_init b_Row_init 2 none :: TB) (rmC 1 21 1 224) 1 224 1 ∧ y_Row_init.name = "<init>" ∧ (Cond.instanceMethod y_Row_init).before args s = true := ⟨callB_of 1 hts (x_good mc_Row_init) rfl rfl rfl (hts _ mi_Row) (hts _ ml_Store_11) (by decide +kernel) hR, rfl, hts _ mn_Row_init⟩
theorem cwn_Store_11_1_4 {R : Room} {s : State} {args : Array Value} (hts : ∀ w ∈ TB, w.before args s = true) (hN : NW s) (hR : 1 + 1 ≤ R.frames ∧ 8 + (2 + 11) + 21 ≤ R.locals) : CallB R s args R_Store 11 y_Row_init b_Row_init 2 none (Cond.code y_Row_init b_Row_init 2 none :: TB) (rmC 1 21 1 4) 1 4 1 ∧ y_Row_init.name = "<init>" ∧ (Cond.instanceMethod y_Row_init).before args s = true := ⟨callB_of 1 hts (x_good mc_Row_init) rfl rfl rfl (hts _ mi_Row) (hts _ ml_Store_11) (by decide +kernel) hR, rfl, hts _ mn_Row_init⟩
theorem ml_Eng_3o : Cond.methodLink R_Eng 3 objectInit ∈ TB := tb 376 (by decide +kernel) rfl
theorem ml_Eng_11 : Cond.methodLink R_Eng 11 y_Row_init ∈ TB := tb 378 (by decide +kernel) rfl
theorem cwn_Eng_11_1_8 {R : Room} {s : State} {args : Array Value} (hts : ∀ w ∈ TB, w.before args s = true) (hN : NW s) (hR : 1 + 1 ≤ R.frames ∧ 8 + (2 + 11) + 21 ≤ R.locals) : CallB R s args R_Eng 11 y_Row_init b_Row_init 2 none (Cond.code y_Row_init b_Row_init 2 none :: TB) (rmC 1 21 1 8) 1 8 1 ∧ y_Row_init.name = "<init>" ∧ (Cond.instanceMethod y_Row_init).before args s = true := ⟨callB_of 1 hts (x_good mc_Row_init) rfl rfl rfl (hts _ mi_Row) (hts _ ml_Eng_11) (by decide +kernel) hR, rfl, hts _ mn_Row_init⟩
theorem ml_SE_3 : Cond.methodLink R_SE 3 y_Eng_init ∈ TB := tb 373 (by decide +kernel) rfl
theorem cwn_SE_3_4_18 {R : Room} {s : State} {args : Array Value} (hts : ∀ w ∈ TB, w.before args s = true) (hN : NW s) (hR : 2 + 1 ≤ R.frames ∧ 8 + (2 + 11) + 42 ≤ R.locals) : CallB R s args R_SE 3 y_Eng_init b_Eng_init 2 none (Cond.code y_Eng_init b_Eng_init 2 none :: TB) (rmC 2 42 4 18) 4 18 1 ∧ y_Eng_init.name = "<init>" ∧ (Cond.instanceMethod y_Eng_init).before args s = true := ⟨callB_of 1 hts (x_good mc_Eng_init) rfl rfl rfl (hts _ mi_Eng) (hts _ ml_SE_3) (by decide +kernel) hR, rfl, hts _ mn_Eng_init⟩
theorem ml_SE_13 : Cond.methodLink R_SE 13 y_Table_init ∈ TB := tb 380 (by decide +kernel) rfl
theorem cwn_SE_13_1_160 {R : Room} {s : State} {args : Array Value} (hts : ∀ w ∈ TB, w.before args s = true) (hN : NW s) (hR : 1 + 1 ≤ R.frames ∧ 8 + (3 + 11) + 21 ≤ R.locals) : CallB R s args R_SE 13 y_Table_init b_Table_init 3 none (Cond.code y_Table_init b_Table_init 3 none :: TB) (rmC 1 21 1 160) 1 160 2 ∧ y_Table_init.name = "<init>" ∧ (Cond.instanceMethod y_Table_init).before args s = true := ⟨callB_of 2 hts (x_good mc_Table_init) rfl rfl rfl (hts _ mi_Table) (hts _ ml_SE_13) (by decide +kernel) hR, rfl, hts _ mn_Table_init⟩
theorem ml_SE_22 : Cond.methodLink R_SE 22 y_Row_init ∈ TB := tb 382 (by decide +kernel) rfl
theorem cwn_SE_22_1_8 {R : Room} {s : State} {args : Array Value} (hts : ∀ w ∈ TB, w.before args s = true) (hN : NW s) (hR : 1 + 1 ≤ R.frames ∧ 8 + (2 + 11) + 21 ≤ R.locals) : CallB R s args R_SE 22 y_Row_init b_Row_init 2 none (Cond.code y_Row_init b_Row_init 2 none :: TB) (rmC 1 21 1 8) 1 8 1 ∧ y_Row_init.name = "<init>" ∧ (Cond.instanceMethod y_Row_init).before args s = true := ⟨callB_of 1 hts (x_good mc_Row_init) rfl rfl rfl (hts _ mi_Row) (hts _ ml_SE_22) (by decide +kernel) hR, rfl, hts _ mn_Row_init⟩
theorem ml_RE_3 : Cond.methodLink R_RE 3 y_Eng_init ∈ TB := tb 450 (by decide +kernel) rfl
theorem cwn_RE_3_4_18 {R : Room} {s : State} {args : Array Value} (hts : ∀ w ∈ TB, w.before args s = true) (hN : NW s) (hR : 2 + 1 ≤ R.frames ∧ 8 + (2 + 11) + 42 ≤ R.locals) : CallB R s args R_RE 3 y_Eng_init b_Eng_init 2 none (Cond.code y_Eng_init b_Eng_init 2 none :: TB) (rmC 2 42 4 18) 4 18 1 ∧ y_Eng_init.name = "<init>" ∧ (Cond.instanceMethod y_Eng_init).before args s = true := ⟨callB_of 1 hts (x_good mc_Eng_init) rfl rfl rfl (hts _ mi_Eng) (hts _ ml_RE_3) (by decide +kernel) hR, rfl, hts _ mn_Eng_init⟩
theorem ml_X_1o : Cond.methodLink R_X 1 objectInit ∈ TB := tb 148 (by decide +kernel) rfl
theorem cwn_X_9_14_2108 {R : Room} {s : State} {args : Array Value} (hts : ∀ w ∈ TB, w.before args s = true) (hN : NW s) (hR : 2 + 1 ≤ R.frames ∧ 8 + (1 + 11) + 43 ≤ R.locals) : va_CN R s args R_X 9 y_Cont_init "WasmMachine" b_Cont_init 1 none (Cond.code y_Cont_init b_Cont_init 1 none :: TB) (rmC 2 43 14 2108) 14 2108 0 ∧ y_Cont_init.name = "<init>" ∧ (Cond.instanceMethod y_Cont_init).before args s = true := ⟨va_cnB 0 hts (x_good mc_Cont_init) rfl rfl rfl (hN _ (List.mem_of_getElem? (i := 10) rfl)) (hts _ mi_Cont) (by decide +kernel) hR, rfl, hts _ mn_Cont_init⟩
theorem ml_X_18 : Cond.methodLink R_X 18 y_Rd_init ∈ TB := tb 241 (by decide +kernel) rfl
theorem cwn_X_18_3_252 {R : Room} {s : State} {args : Array Value} (hts : ∀ w ∈ TB, w.before args s = true) (hN : NW s) (hR : 2 + 1 ≤ R.frames ∧ 8 + (2 + 11) + 42 ≤ R.locals) : CallB R s args R_X 18 y_Rd_init b_Rd_init 2 none (Cond.code y_Rd_init b_Rd_init 2 none :: TB) (rmC 2 42 3 252) 3 252 1 ∧ y_Rd_init.name = "<init>" ∧ (Cond.instanceMethod y_Rd_init).before args s = true := ⟨callB_of 1 hts (x_good mc_Rd_init) rfl rfl rfl (hts _ mi_Rd) (hts _ ml_X_18) (by decide +kernel) hR, rfl, hts _ mn_Rd_init⟩
theorem ml_X_27 : Cond.methodLink R_X 27 y_Val_init ∈ TB := tb 286 (by decide +kernel) rfl
theorem cwn_X_27_2_70 {R : Room} {s : State} {args : Array Value} (hts : ∀ w ∈ TB, w.before args s = true) (hN : NW s) (hR : 2 + 1 ≤ R.frames ∧ 8 + (2 + 11) + 43 ≤ R.locals) : CallB R s args R_X 27 y_Val_init b_Val_init 2 none (Cond.code y_Val_init b_Val_init 2 none :: TB) (rmC 2 43 2 70) 2 70 1 ∧ y_Val_init.name = "<init>" ∧ (Cond.instanceMethod y_Val_init).before args s = true := ⟨callB_of 1 hts (x_good mc_Val_init) rfl rfl rfl (hts _ mi_Val) (hts _ ml_X_27) (by decide +kernel) hR, rfl, hts _ mn_Val_init⟩
theorem ml_X_34 : Cond.methodLink R_X 34 y_RC_init ∈ TB := tb 313 (by decide +kernel) rfl
theorem cwn_X_34_4_972 {R : Room} {s : State} {args : Array Value} (hts : ∀ w ∈ TB, w.before args s = true) (hN : NW s) (hR : 2 + 1 ≤ R.frames ∧ 8 + (2 + 11) + 42 ≤ R.locals) : CallB R s args R_X 34 y_RC_init b_RC_init 2 none (Cond.code y_RC_init b_RC_init 2 none :: TB) (rmC 2 42 4 972) 4 972 1 ∧ y_RC_init.name = "<init>" ∧ (Cond.instanceMethod y_RC_init).before args s = true := ⟨callB_of 1 hts (x_good mc_RC_init) rfl rfl rfl (hts _ mi_RC) (hts _ ml_X_34) (by decide +kernel) hR, rfl, hts _ mn_RC_init⟩
theorem cwn_X_41_6_487 {R : Room} {s : State} {args : Array Value} (hts : ∀ w ∈ TB, w.before args s = true) (hN : NW s) (hR : 2 + 1 ≤ R.frames ∧ 8 + (1 + 11) + 42 ≤ R.locals) : va_CN R s args R_X 41 y_Store_init "WasmMachine" b_Store_init 1 none (Cond.code y_Store_init b_Store_init 1 none :: TB) (rmC 2 42 6 487) 6 487 0 ∧ y_Store_init.name = "<init>" ∧ (Cond.instanceMethod y_Store_init).before args s = true := ⟨va_cnB 0 hts (x_good mc_Store_init) rfl rfl rfl (hN _ (List.mem_of_getElem? (i := 11) rfl)) (hts _ mi_Store) (by decide +kernel) hR, rfl, hts _ mn_Store_init⟩
theorem ml_X_48 : Cond.methodLink R_X 48 y_SE_init ∈ TB := tb 370 (by decide +kernel) rfl
theorem cwn_X_48_10_200 {R : Room} {s : State} {args : Array Value} (hts : ∀ w ∈ TB, w.before args s = true) (hN : NW s) (hR : 3 + 1 ≤ R.frames ∧ 8 + (3 + 11) + 63 ≤ R.locals) : CallB R s args R_X 48 y_SE_init b_SE_init 3 none (Cond.code y_SE_init b_SE_init 3 none :: TB) (rmC 3 63 10 200) 10 200 2 ∧ y_SE_init.name = "<init>" ∧ (Cond.instanceMethod y_SE_init).before args s = true := ⟨callB_of 2 hts (x_good mc_SE_init) rfl rfl rfl (hts _ mi_SE) (hts _ ml_X_48) (by decide +kernel) hR, rfl, hts _ mn_SE_init⟩
theorem ml_X_57 : Cond.methodLink R_X 57 y_RE_init ∈ TB := tb 447 (by decide +kernel) rfl
theorem cwn_X_57_4_18 {R : Room} {s : State} {args : Array Value} (hts : ∀ w ∈ TB, w.before args s = true) (hN : NW s) (hR : 3 + 1 ≤ R.frames ∧ 8 + (3 + 11) + 63 ≤ R.locals) : CallB R s args R_X 57 y_RE_init b_RE_init 3 none (Cond.code y_RE_init b_RE_init 3 none :: TB) (rmC 3 63 4 18) 4 18 2 ∧ y_RE_init.name = "<init>" ∧ (Cond.instanceMethod y_RE_init).before args s = true := ⟨callB_of 2 hts (x_good mc_RE_init) rfl rfl rfl (hts _ mi_RE) (hts _ ml_X_57) (by decide +kernel) hR, rfl, hts _ mn_RE_init⟩
theorem ml_X_65 : Cond.methodLink R_X 65 y_Row_init ∈ TB := tb 464 (by decide +kernel) rfl
theorem cwn_X_65_1_4 {R : Room} {s : State} {args : Array Value} (hts : ∀ w ∈ TB, w.before args s = true) (hN : NW s) (hR : 1 + 1 ≤ R.frames ∧ 8 + (2 + 11) + 21 ≤ R.locals) : CallB R s args R_X 65 y_Row_init b_Row_init 2 none (Cond.code y_Row_init b_Row_init 2 none :: TB) (rmC 1 21 1 4) 1 4 1 ∧ y_Row_init.name = "<init>" ∧ (Cond.instanceMethod y_Row_init).before args s = true := ⟨callB_of 1 hts (x_good mc_Row_init) rfl rfl rfl (hts _ mi_Row) (hts _ ml_X_65) (by decide +kernel) hR, rfl, hts _ mn_Row_init⟩
theorem ml_M_1o : Cond.methodLink R_M 1 objectInit ∈ TB := tb 1157 (by decide +kernel) rfl
theorem ml_Row_obj : Cond.methodLink R_Row 1 objectInit ∈ TB := tb 250 (by decide +kernel) rfl
theorem ml_Row_max : Cond.methodLink R_Row 7 Lib.Math.max.name ∈ TB := tb 251 (by decide +kernel) rfl
theorem ml_Table_obj : Cond.methodLink R_Table 1 objectInit ∈ TB := tb 162 (by decide +kernel) rfl
theorem ml_Table_max : Cond.methodLink R_Table 7 Lib.Math.max.name ∈ TB := tb 163 (by decide +kernel) rfl
