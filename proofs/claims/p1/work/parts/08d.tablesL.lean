def zTL_unit : zTb := [(0, (.aload 7, 2, [])), (2, (.iconst 0, 3, [])), (3, (.aload_n 0, 4, [])), (4, (.iload_n 1, 5, [])), (5, (.iload_n 2, 6, [])), (6, (.iload_n 3, 7, [])), (7, (.iload 4, 9, [])), (9, (.iload 5, 11, [])), (11, (.iload 6, 13, [])), (13, (.invokevirtual 7, 16, [])), (16, (.i2l, 17, [])), (17, (.lastore, 18, [])), (18, (.goto 11, 21, [29])), (29, (.iconst 0, 30, [])), (30, (.ireturn, 31, []))]
def zCL_unit (calls : List (Nat × (Nat × Nat × zSp × Nat × Nat))) : zC := (zTL_unit, [], [(2, 0), (29, 0)], [], calls, [(100001, 1), (100002, 2)], 1)
def zpL_unit : List (Nat × Nat) := []
set_option maxRecDepth 100000 in
theorem zkL_unit : zTL_unit.all (zck RL zpL_unit cL_unit 9 (zCL_unit [])) = true := by decide +kernel
def zhL_unit : List (Nat × Nat × Nat × Nat) := [(0, 18, 21, 13), (0, 18, 25, 15)]
theorem zwL_unit : Cond.static yL_unit ∈ zW ∧ Cond.initialized yL_unit.cls ∈ zW ∧ Cond.codeWith yL_unit cL_unit 9 (some .int) zhL_unit ∈ zW := ⟨(zwd_ok (i := 600) (by decide +kernel)), (zwd_ok (i := 67) (by decide +kernel)), (zwd_ok (i := 601) (by decide +kernel))⟩
theorem zdL_unit : yL_unit.cls ≠ "java/lang/invoke/MethodHandle" ∧ yL_unit.cls ≠ "java/lang/invoke/VarHandle" ∧ (parseMethodDescriptor yL_unit.desc).map (fun d => d.parameters.length) = some 8 := by decide +kernel
theorem zlL_unit_7 : Cond.methodLink RL 7 yX7_unit ∈ zW := zwd_ok (i := 604) (by decide +kernel)
def zTL_variable : zTb := [(0, (.aload_n 2, 1, [])), (1, (.iconst 0, 2, [])), (2, (.aload_n 0, 3, [])), (3, (.iload_n 1, 4, [])), (4, (.invokevirtual 17, 7, [])), (7, (.i2l, 8, [])), (8, (.lastore, 9, [])), (9, (.goto 9, 12, [18])), (18, (.iconst 0, 19, [])), (19, (.ireturn, 20, []))]
def zCL_variable (calls : List (Nat × (Nat × Nat × zSp × Nat × Nat))) : zC := (zTL_variable, [], [(1, 0), (18, 0)], [], calls, [(100000, 1), (100002, 2)], 1)
def zpL_variable : List (Nat × Nat) := []
set_option maxRecDepth 100000 in
theorem zkL_variable : zTL_variable.all (zck RL zpL_variable cL_variable 4 (zCL_variable [])) = true := by decide +kernel
def zhL_variable : List (Nat × Nat × Nat × Nat) := [(0, 9, 12, 21), (0, 9, 15, 15)]
theorem zwL_variable : Cond.static yL_variable ∈ zW ∧ Cond.initialized yL_variable.cls ∈ zW ∧ Cond.codeWith yL_variable cL_variable 4 (some .int) zhL_variable ∈ zW := ⟨(zwd_ok (i := 695) (by decide +kernel)), (zwd_ok (i := 67) (by decide +kernel)), (zwd_ok (i := 696) (by decide +kernel))⟩
theorem zdL_variable : yL_variable.cls ≠ "java/lang/invoke/MethodHandle" ∧ yL_variable.cls ≠ "java/lang/invoke/VarHandle" ∧ (parseMethodDescriptor yL_variable.desc).map (fun d => d.parameters.length) = some 3 := by decide +kernel
theorem zlL_variable_17 : Cond.methodLink RL 17 yX7_variable ∈ zW := zwd_ok (i := 698) (by decide +kernel)
def zTL_number : zTb := [(0, (.aload_n 3, 1, [])), (1, (.iconst 0, 2, [])), (2, (.aload_n 0, 3, [])), (3, (.iload_n 1, 4, [])), (4, (.iload_n 2, 5, [])), (5, (.invokevirtual 23, 8, [])), (8, (.i2l, 9, [])), (9, (.lastore, 10, [])), (10, (.goto 15, 13, [25])), (25, (.iconst 0, 26, [])), (26, (.ireturn, 27, []))]
def zCL_number (calls : List (Nat × (Nat × Nat × zSp × Nat × Nat))) : zC := (zTL_number, [], [(1, 0), (25, 0)], [], calls, [(100000, 1), (100001, 2), (100002, 3)], 1)
def zpL_number : List (Nat × Nat) := []
set_option maxRecDepth 100000 in
theorem zkL_number : zTL_number.all (zck RL zpL_number cL_number 5 (zCL_number [])) = true := by decide +kernel
def zhL_number : List (Nat × Nat × Nat × Nat) := [(0, 10, 13, 21), (0, 10, 17, 13), (0, 10, 21, 15)]
theorem zwL_number : Cond.static yL_number ∈ zW ∧ Cond.initialized yL_number.cls ∈ zW ∧ Cond.codeWith yL_number cL_number 5 (some .int) zhL_number ∈ zW := ⟨(zwd_ok (i := 738) (by decide +kernel)), (zwd_ok (i := 67) (by decide +kernel)), (zwd_ok (i := 739) (by decide +kernel))⟩
theorem zdL_number : yL_number.cls ≠ "java/lang/invoke/MethodHandle" ∧ yL_number.cls ≠ "java/lang/invoke/VarHandle" ∧ (parseMethodDescriptor yL_number.desc).map (fun d => d.parameters.length) = some 4 := by decide +kernel
theorem zlL_number_23 : Cond.methodLink RL 23 yX7_number ∈ zW := zwd_ok (i := 740) (by decide +kernel)
def zTL_of : zTb := [(0, (.aload_n 2, 1, [])), (1, (.iconst 0, 2, [])), (2, (.aload_n 0, 3, [])), (3, (.iload_n 1, 4, [])), (4, (.invokevirtual 27, 7, [])), (7, (.i2l, 8, [])), (8, (.lastore, 9, [])), (9, (.goto 9, 12, [18])), (18, (.iconst 0, 19, [])), (19, (.ireturn, 20, []))]
def zCL_of (calls : List (Nat × (Nat × Nat × zSp × Nat × Nat))) : zC := (zTL_of, [], [(1, 0), (18, 0)], [], calls, [(100000, 1), (100002, 2)], 1)
def zpL_of : List (Nat × Nat) := []
set_option maxRecDepth 100000 in
theorem zkL_of : zTL_of.all (zck RL zpL_of cL_of 4 (zCL_of [])) = true := by decide +kernel
def zhL_of : List (Nat × Nat × Nat × Nat) := [(0, 9, 12, 21), (0, 9, 15, 15)]
theorem zwL_of : Cond.static yL_of ∈ zW ∧ Cond.initialized yL_of.cls ∈ zW ∧ Cond.codeWith yL_of cL_of 4 (some .int) zhL_of ∈ zW := ⟨(zwd_ok (i := 759) (by decide +kernel)), (zwd_ok (i := 67) (by decide +kernel)), (zwd_ok (i := 760) (by decide +kernel))⟩
theorem zdL_of : yL_of.cls ≠ "java/lang/invoke/MethodHandle" ∧ yL_of.cls ≠ "java/lang/invoke/VarHandle" ∧ (parseMethodDescriptor yL_of.desc).map (fun d => d.parameters.length) = some 3 := by decide +kernel
theorem zlL_of_27 : Cond.methodLink RL 27 yX7_of ∈ zW := zwd_ok (i := 761) (by decide +kernel)
def zTL_join : zTb := [(0, (.aload 4, 2, [])), (2, (.iconst 0, 3, [])), (3, (.aload_n 0, 4, [])), (4, (.iload_n 1, 5, [])), (5, (.iload_n 2, 6, [])), (6, (.iload_n 3, 7, [])), (7, (.invokevirtual 30, 10, [])), (10, (.i2l, 11, [])), (11, (.lastore, 12, [])), (12, (.goto 15, 15, [27])), (27, (.iconst 0, 28, [])), (28, (.ireturn, 29, []))]
def zCL_join (calls : List (Nat × (Nat × Nat × zSp × Nat × Nat))) : zC := (zTL_join, [], [(2, 0), (27, 0)], [], calls, [(100000, 1), (100001, 2), (100002, 3)], 1)
def zpL_join : List (Nat × Nat) := []
set_option maxRecDepth 100000 in
theorem zkL_join : zTL_join.all (zck RL zpL_join cL_join 6 (zCL_join [])) = true := by decide +kernel
def zhL_join : List (Nat × Nat × Nat × Nat) := [(0, 12, 15, 21), (0, 12, 19, 13), (0, 12, 23, 15)]
theorem zwL_join : Cond.static yL_join ∈ zW ∧ Cond.initialized yL_join.cls ∈ zW ∧ Cond.codeWith yL_join cL_join 6 (some .int) zhL_join ∈ zW := ⟨(zwd_ok (i := 774) (by decide +kernel)), (zwd_ok (i := 67) (by decide +kernel)), (zwd_ok (i := 775) (by decide +kernel))⟩
theorem zdL_join : yL_join.cls ≠ "java/lang/invoke/MethodHandle" ∧ yL_join.cls ≠ "java/lang/invoke/VarHandle" ∧ (parseMethodDescriptor yL_join.desc).map (fun d => d.parameters.length) = some 5 := by decide +kernel
theorem zlL_join_30 : Cond.methodLink RL 30 yX7_join ∈ zW := zwd_ok (i := 776) (by decide +kernel)
def zTL_when : zTb := [(0, (.aload 4, 2, [])), (2, (.iconst 0, 3, [])), (3, (.aload_n 0, 4, [])), (4, (.iload_n 1, 5, [])), (5, (.iload_n 2, 6, [])), (6, (.iload_n 3, 7, [])), (7, (.invokevirtual 34, 10, [])), (10, (.i2l, 11, [])), (11, (.lastore, 12, [])), (12, (.goto 11, 15, [23])), (23, (.iconst 0, 24, [])), (24, (.ireturn, 25, []))]
def zCL_when (calls : List (Nat × (Nat × Nat × zSp × Nat × Nat))) : zC := (zTL_when, [], [(2, 0), (23, 0)], [], calls, [(100000, 1), (100002, 2)], 1)
def zpL_when : List (Nat × Nat) := []
set_option maxRecDepth 100000 in
theorem zkL_when : zTL_when.all (zck RL zpL_when cL_when 6 (zCL_when [])) = true := by decide +kernel
def zhL_when : List (Nat × Nat × Nat × Nat) := [(0, 12, 15, 21), (0, 12, 19, 15)]
theorem zwL_when : Cond.static yL_when ∈ zW ∧ Cond.initialized yL_when.cls ∈ zW ∧ Cond.codeWith yL_when cL_when 6 (some .int) zhL_when ∈ zW := ⟨(zwd_ok (i := 804) (by decide +kernel)), (zwd_ok (i := 67) (by decide +kernel)), (zwd_ok (i := 805) (by decide +kernel))⟩
theorem zdL_when : yL_when.cls ≠ "java/lang/invoke/MethodHandle" ∧ yL_when.cls ≠ "java/lang/invoke/VarHandle" ∧ (parseMethodDescriptor yL_when.desc).map (fun d => d.parameters.length) = some 5 := by decide +kernel
theorem zlL_when_34 : Cond.methodLink RL 34 yX7_when ∈ zW := zwd_ok (i := 806) (by decide +kernel)
def zTL_root : zTb := [(0, (.aload_n 2, 1, [])), (1, (.iconst 0, 2, [])), (2, (.aload_n 0, 3, [])), (3, (.iload_n 1, 4, [])), (4, (.invokevirtual 37, 7, [])), (7, (.i2l, 8, [])), (8, (.lastore, 9, [])), (9, (.goto 9, 12, [18])), (18, (.iconst 0, 19, [])), (19, (.ireturn, 20, []))]
def zCL_root (calls : List (Nat × (Nat × Nat × zSp × Nat × Nat))) : zC := (zTL_root, [], [(1, 0), (18, 0)], [], calls, [(100000, 1), (100002, 2)], 1)
def zpL_root : List (Nat × Nat) := []
set_option maxRecDepth 100000 in
theorem zkL_root : zTL_root.all (zck RL zpL_root cL_root 4 (zCL_root [])) = true := by decide +kernel
def zhL_root : List (Nat × Nat × Nat × Nat) := [(0, 9, 12, 21), (0, 9, 15, 15)]
theorem zwL_root : Cond.static yL_root ∈ zW ∧ Cond.initialized yL_root.cls ∈ zW ∧ Cond.codeWith yL_root cL_root 4 (some .int) zhL_root ∈ zW := ⟨(zwd_ok (i := 811) (by decide +kernel)), (zwd_ok (i := 67) (by decide +kernel)), (zwd_ok (i := 812) (by decide +kernel))⟩
theorem zdL_root : yL_root.cls ≠ "java/lang/invoke/MethodHandle" ∧ yL_root.cls ≠ "java/lang/invoke/VarHandle" ∧ (parseMethodDescriptor yL_root.desc).map (fun d => d.parameters.length) = some 3 := by decide +kernel
theorem zlL_root_37 : Cond.methodLink RL 37 yX7_root ∈ zW := zwd_ok (i := 813) (by decide +kernel)
def zTL_define : zTb := [(0, (.aload_n 3, 1, [])), (1, (.iconst 0, 2, [])), (2, (.aload_n 0, 3, [])), (3, (.iload_n 1, 4, [])), (4, (.iload_n 2, 5, [])), (5, (.invokevirtual 40, 8, [])), (8, (.i2l, 9, [])), (9, (.lastore, 10, [])), (10, (.goto 7, 13, [17])), (17, (.iconst 0, 18, [])), (18, (.ireturn, 19, []))]
def zCL_define (calls : List (Nat × (Nat × Nat × zSp × Nat × Nat))) : zC := (zTL_define, [], [(1, 0), (17, 0)], [], calls, [(100000, 1)], 1)
def zpL_define : List (Nat × Nat) := []
set_option maxRecDepth 100000 in
theorem zkL_define : zTL_define.all (zck RL zpL_define cL_define 5 (zCL_define [])) = true := by decide +kernel
def zhL_define : List (Nat × Nat × Nat × Nat) := [(0, 10, 13, 21)]
theorem zwL_define : Cond.static yL_define ∈ zW ∧ Cond.initialized yL_define.cls ∈ zW ∧ Cond.codeWith yL_define cL_define 5 (some .int) zhL_define ∈ zW := ⟨(zwd_ok (i := 818) (by decide +kernel)), (zwd_ok (i := 67) (by decide +kernel)), (zwd_ok (i := 819) (by decide +kernel))⟩
theorem zdL_define : yL_define.cls ≠ "java/lang/invoke/MethodHandle" ∧ yL_define.cls ≠ "java/lang/invoke/VarHandle" ∧ (parseMethodDescriptor yL_define.desc).map (fun d => d.parameters.length) = some 4 := by decide +kernel
theorem zlL_define_40 : Cond.methodLink RL 40 yX7_define ∈ zW := zwd_ok (i := 820) (by decide +kernel)
def zTL_set : zTb := [(0, (.aload_n 3, 1, [])), (1, (.iconst 0, 2, [])), (2, (.aload_n 0, 3, [])), (3, (.iload_n 1, 4, [])), (4, (.iload_n 2, 5, [])), (5, (.invokevirtual 43, 8, [])), (8, (.i2l, 9, [])), (9, (.lastore, 10, [])), (10, (.goto 15, 13, [25])), (25, (.iconst 0, 26, [])), (26, (.ireturn, 27, []))]
def zCL_set (calls : List (Nat × (Nat × Nat × zSp × Nat × Nat))) : zC := (zTL_set, [], [(1, 0), (25, 0)], [], calls, [(100000, 1), (100001, 2), (100002, 3)], 1)
def zpL_set : List (Nat × Nat) := []
set_option maxRecDepth 100000 in
theorem zkL_set : zTL_set.all (zck RL zpL_set cL_set 5 (zCL_set [])) = true := by decide +kernel
def zhL_set : List (Nat × Nat × Nat × Nat) := [(0, 10, 13, 21), (0, 10, 17, 13), (0, 10, 21, 15)]
theorem zwL_set : Cond.static yL_set ∈ zW ∧ Cond.initialized yL_set.cls ∈ zW ∧ Cond.codeWith yL_set cL_set 5 (some .int) zhL_set ∈ zW := ⟨(zwd_ok (i := 825) (by decide +kernel)), (zwd_ok (i := 67) (by decide +kernel)), (zwd_ok (i := 826) (by decide +kernel))⟩
theorem zdL_set : yL_set.cls ≠ "java/lang/invoke/MethodHandle" ∧ yL_set.cls ≠ "java/lang/invoke/VarHandle" ∧ (parseMethodDescriptor yL_set.desc).map (fun d => d.parameters.length) = some 4 := by decide +kernel
theorem zlL_set_43 : Cond.methodLink RL 43 yX7_set ∈ zW := zwd_ok (i := 827) (by decide +kernel)
def zTL_setTurns : zTb := [(0, (.aload_n 3, 1, [])), (1, (.iconst 0, 2, [])), (2, (.aload_n 0, 3, [])), (3, (.iload_n 1, 4, [])), (4, (.iload_n 2, 5, [])), (5, (.invokevirtual 46, 8, [])), (8, (.i2l, 9, [])), (9, (.lastore, 10, [])), (10, (.goto 7, 13, [17])), (17, (.iconst 0, 18, [])), (18, (.ireturn, 19, []))]
def zCL_setTurns (calls : List (Nat × (Nat × Nat × zSp × Nat × Nat))) : zC := (zTL_setTurns, [], [(1, 0), (17, 0)], [], calls, [(100001, 1)], 1)
def zpL_setTurns : List (Nat × Nat) := []
set_option maxRecDepth 100000 in
theorem zkL_setTurns : zTL_setTurns.all (zck RL zpL_setTurns cL_setTurns 5 (zCL_setTurns [])) = true := by decide +kernel
def zhL_setTurns : List (Nat × Nat × Nat × Nat) := [(0, 10, 13, 13)]
theorem zwL_setTurns : Cond.static yL_setTurns ∈ zW ∧ Cond.initialized yL_setTurns.cls ∈ zW ∧ Cond.codeWith yL_setTurns cL_setTurns 5 (some .int) zhL_setTurns ∈ zW := ⟨(zwd_ok (i := 836) (by decide +kernel)), (zwd_ok (i := 67) (by decide +kernel)), (zwd_ok (i := 837) (by decide +kernel))⟩
theorem zdL_setTurns : yL_setTurns.cls ≠ "java/lang/invoke/MethodHandle" ∧ yL_setTurns.cls ≠ "java/lang/invoke/VarHandle" ∧ (parseMethodDescriptor yL_setTurns.desc).map (fun d => d.parameters.length) = some 4 := by decide +kernel
theorem zlL_setTurns_46 : Cond.methodLink RL 46 yX7_setTurns ∈ zW := zwd_ok (i := 838) (by decide +kernel)
def zTL_exponent : zTb := [(0, (.aload_n 3, 1, [])), (1, (.iconst 0, 2, [])), (2, (.aload_n 0, 3, [])), (3, (.iload_n 1, 4, [])), (4, (.iload_n 2, 5, [])), (5, (.invokevirtual 49, 8, [])), (8, (.i2l, 9, [])), (9, (.lastore, 10, [])), (10, (.goto 7, 13, [17])), (17, (.iconst 0, 18, [])), (18, (.ireturn, 19, []))]
def zCL_exponent (calls : List (Nat × (Nat × Nat × zSp × Nat × Nat))) : zC := (zTL_exponent, [], [(1, 0), (17, 0)], [], calls, [(100000, 1)], 1)
def zpL_exponent : List (Nat × Nat) := []
set_option maxRecDepth 100000 in
theorem zkL_exponent : zTL_exponent.all (zck RL zpL_exponent cL_exponent 5 (zCL_exponent [])) = true := by decide +kernel
def zhL_exponent : List (Nat × Nat × Nat × Nat) := [(0, 10, 13, 21)]
theorem zwL_exponent : Cond.static yL_exponent ∈ zW ∧ Cond.initialized yL_exponent.cls ∈ zW ∧ Cond.codeWith yL_exponent cL_exponent 5 (some .int) zhL_exponent ∈ zW := ⟨(zwd_ok (i := 843) (by decide +kernel)), (zwd_ok (i := 67) (by decide +kernel)), (zwd_ok (i := 844) (by decide +kernel))⟩
theorem zdL_exponent : yL_exponent.cls ≠ "java/lang/invoke/MethodHandle" ∧ yL_exponent.cls ≠ "java/lang/invoke/VarHandle" ∧ (parseMethodDescriptor yL_exponent.desc).map (fun d => d.parameters.length) = some 4 := by decide +kernel
theorem zlL_exponent_49 : Cond.methodLink RL 49 yX7_exponent ∈ zW := zwd_ok (i := 845) (by decide +kernel)
def zTL_ofFault : zTb := [(0, (.aload_n 3, 1, [])), (1, (.iconst 0, 2, [])), (2, (.aload_n 0, 3, [])), (3, (.iload_n 1, 4, [])), (4, (.iload_n 2, 5, [])), (5, (.invokevirtual 52, 8, [])), (8, (.i2l, 9, [])), (9, (.lastore, 10, [])), (10, (.goto 11, 13, [21])), (21, (.iconst 0, 22, [])), (22, (.ireturn, 23, []))]
def zCL_ofFault (calls : List (Nat × (Nat × Nat × zSp × Nat × Nat))) : zC := (zTL_ofFault, [], [(1, 0), (21, 0)], [], calls, [(100000, 1), (100001, 2)], 1)
def zpL_ofFault : List (Nat × Nat) := []
set_option maxRecDepth 100000 in
theorem zkL_ofFault : zTL_ofFault.all (zck RL zpL_ofFault cL_ofFault 5 (zCL_ofFault [])) = true := by decide +kernel
def zhL_ofFault : List (Nat × Nat × Nat × Nat) := [(0, 10, 13, 21), (0, 10, 17, 13)]
theorem zwL_ofFault : Cond.static yL_ofFault ∈ zW ∧ Cond.initialized yL_ofFault.cls ∈ zW ∧ Cond.codeWith yL_ofFault cL_ofFault 5 (some .int) zhL_ofFault ∈ zW := ⟨(zwd_ok (i := 850) (by decide +kernel)), (zwd_ok (i := 67) (by decide +kernel)), (zwd_ok (i := 851) (by decide +kernel))⟩
theorem zdL_ofFault : yL_ofFault.cls ≠ "java/lang/invoke/MethodHandle" ∧ yL_ofFault.cls ≠ "java/lang/invoke/VarHandle" ∧ (parseMethodDescriptor yL_ofFault.desc).map (fun d => d.parameters.length) = some 4 := by decide +kernel
theorem zlL_ofFault_52 : Cond.methodLink RL 52 yX7_ofFault ∈ zW := zwd_ok (i := 852) (by decide +kernel)
def zTL_leansOn : zTb := [(0, (.aload_n 2, 1, [])), (1, (.iconst 0, 2, [])), (2, (.aload_n 0, 3, [])), (3, (.iload_n 1, 4, [])), (4, (.invokevirtual 55, 7, [])), (7, (.i2l, 8, [])), (8, (.lastore, 9, [])), (9, (.goto 6, 12, [15])), (15, (.iconst 0, 16, [])), (16, (.ireturn, 17, []))]
def zCL_leansOn (calls : List (Nat × (Nat × Nat × zSp × Nat × Nat))) : zC := (zTL_leansOn, [], [(1, 0), (15, 0)], [], calls, [(100000, 1)], 1)
def zpL_leansOn : List (Nat × Nat) := []
set_option maxRecDepth 100000 in
theorem zkL_leansOn : zTL_leansOn.all (zck RL zpL_leansOn cL_leansOn 4 (zCL_leansOn [])) = true := by decide +kernel
def zhL_leansOn : List (Nat × Nat × Nat × Nat) := [(0, 9, 12, 21)]
theorem zwL_leansOn : Cond.static yL_leansOn ∈ zW ∧ Cond.initialized yL_leansOn.cls ∈ zW ∧ Cond.codeWith yL_leansOn cL_leansOn 4 (some .int) zhL_leansOn ∈ zW := ⟨(zwd_ok (i := 857) (by decide +kernel)), (zwd_ok (i := 67) (by decide +kernel)), (zwd_ok (i := 858) (by decide +kernel))⟩
theorem zdL_leansOn : yL_leansOn.cls ≠ "java/lang/invoke/MethodHandle" ∧ yL_leansOn.cls ≠ "java/lang/invoke/VarHandle" ∧ (parseMethodDescriptor yL_leansOn.desc).map (fun d => d.parameters.length) = some 3 := by decide +kernel
theorem zlL_leansOn_55 : Cond.methodLink RL 55 yX7_leansOn ∈ zW := zwd_ok (i := 859) (by decide +kernel)
def zTL_circle : zTb := [(0, (.aload_n 3, 1, [])), (1, (.iconst 0, 2, [])), (2, (.aload_n 0, 3, [])), (3, (.iload_n 1, 4, [])), (4, (.iload_n 2, 5, [])), (5, (.invokevirtual 58, 8, [])), (8, (.i2l, 9, [])), (9, (.lastore, 10, [])), (10, (.goto 11, 13, [21])), (21, (.iconst 0, 22, [])), (22, (.ireturn, 23, []))]
def zCL_circle (calls : List (Nat × (Nat × Nat × zSp × Nat × Nat))) : zC := (zTL_circle, [], [(1, 0), (21, 0)], [], calls, [(100000, 1), (100001, 2)], 1)
def zpL_circle : List (Nat × Nat) := []
set_option maxRecDepth 100000 in
theorem zkL_circle : zTL_circle.all (zck RL zpL_circle cL_circle 5 (zCL_circle [])) = true := by decide +kernel
def zhL_circle : List (Nat × Nat × Nat × Nat) := [(0, 10, 13, 21), (0, 10, 17, 13)]
theorem zwL_circle : Cond.static yL_circle ∈ zW ∧ Cond.initialized yL_circle.cls ∈ zW ∧ Cond.codeWith yL_circle cL_circle 5 (some .int) zhL_circle ∈ zW := ⟨(zwd_ok (i := 864) (by decide +kernel)), (zwd_ok (i := 67) (by decide +kernel)), (zwd_ok (i := 865) (by decide +kernel))⟩
theorem zdL_circle : yL_circle.cls ≠ "java/lang/invoke/MethodHandle" ∧ yL_circle.cls ≠ "java/lang/invoke/VarHandle" ∧ (parseMethodDescriptor yL_circle.desc).map (fun d => d.parameters.length) = some 4 := by decide +kernel
theorem zlL_circle_58 : Cond.methodLink RL 58 yX7_circle ∈ zW := zwd_ok (i := 866) (by decide +kernel)
def zTL_amount : zTb := [(0, (.aload_n 2, 1, [])), (1, (.iconst 0, 2, [])), (2, (.aload_n 0, 3, [])), (3, (.iload_n 1, 4, [])), (4, (.invokevirtual 61, 7, [])), (7, (.i2l, 8, [])), (8, (.lastore, 9, [])), (9, (.goto 6, 12, [15])), (15, (.iconst 0, 16, [])), (16, (.ireturn, 17, []))]
def zCL_amount (calls : List (Nat × (Nat × Nat × zSp × Nat × Nat))) : zC := (zTL_amount, [], [(1, 0), (15, 0)], [], calls, [(100000, 1)], 1)
def zpL_amount : List (Nat × Nat) := []
set_option maxRecDepth 100000 in
theorem zkL_amount : zTL_amount.all (zck RL zpL_amount cL_amount 4 (zCL_amount [])) = true := by decide +kernel
def zhL_amount : List (Nat × Nat × Nat × Nat) := [(0, 9, 12, 21)]
theorem zwL_amount : Cond.static yL_amount ∈ zW ∧ Cond.initialized yL_amount.cls ∈ zW ∧ Cond.codeWith yL_amount cL_amount 4 (some .int) zhL_amount ∈ zW := ⟨(zwd_ok (i := 871) (by decide +kernel)), (zwd_ok (i := 67) (by decide +kernel)), (zwd_ok (i := 872) (by decide +kernel))⟩
theorem zdL_amount : yL_amount.cls ≠ "java/lang/invoke/MethodHandle" ∧ yL_amount.cls ≠ "java/lang/invoke/VarHandle" ∧ (parseMethodDescriptor yL_amount.desc).map (fun d => d.parameters.length) = some 3 := by decide +kernel
theorem zlL_amount_61 : Cond.methodLink RL 61 yX7_amount ∈ zW := zwd_ok (i := 873) (by decide +kernel)
def zTL_amountIn : zTb := [(0, (.aload_n 3, 1, [])), (1, (.iconst 0, 2, [])), (2, (.aload_n 0, 3, [])), (3, (.iload_n 1, 4, [])), (4, (.iload_n 2, 5, [])), (5, (.invokevirtual 64, 8, [])), (8, (.i2l, 9, [])), (9, (.lastore, 10, [])), (10, (.goto 11, 13, [21])), (21, (.iconst 0, 22, [])), (22, (.ireturn, 23, []))]
def zCL_amountIn (calls : List (Nat × (Nat × Nat × zSp × Nat × Nat))) : zC := (zTL_amountIn, [], [(1, 0), (21, 0)], [], calls, [(100000, 1), (100001, 2)], 1)
def zpL_amountIn : List (Nat × Nat) := []
set_option maxRecDepth 100000 in
theorem zkL_amountIn : zTL_amountIn.all (zck RL zpL_amountIn cL_amountIn 5 (zCL_amountIn [])) = true := by decide +kernel
def zhL_amountIn : List (Nat × Nat × Nat × Nat) := [(0, 10, 13, 21), (0, 10, 17, 13)]
theorem zwL_amountIn : Cond.static yL_amountIn ∈ zW ∧ Cond.initialized yL_amountIn.cls ∈ zW ∧ Cond.codeWith yL_amountIn cL_amountIn 5 (some .int) zhL_amountIn ∈ zW := ⟨(zwd_ok (i := 878) (by decide +kernel)), (zwd_ok (i := 67) (by decide +kernel)), (zwd_ok (i := 879) (by decide +kernel))⟩
theorem zdL_amountIn : yL_amountIn.cls ≠ "java/lang/invoke/MethodHandle" ∧ yL_amountIn.cls ≠ "java/lang/invoke/VarHandle" ∧ (parseMethodDescriptor yL_amountIn.desc).map (fun d => d.parameters.length) = some 4 := by decide +kernel
theorem zlL_amountIn_64 : Cond.methodLink RL 64 yX7_amountIn ∈ zW := zwd_ok (i := 880) (by decide +kernel)
def zTL_isBroken : zTb := [(0, (.aload_n 2, 1, [])), (1, (.iconst 0, 2, [])), (2, (.aload_n 0, 3, [])), (3, (.iload_n 1, 4, [])), (4, (.invokevirtual 67, 7, [])), (7, (.ifCond .eq 7, 10, [14])), (10, (.lconst 1, 11, [])), (11, (.goto 4, 14, [15])), (14, (.lconst 0, 15, [])), (15, (.lastore, 16, [])), (16, (.goto 6, 19, [22])), (22, (.iconst 0, 23, [])), (23, (.ireturn, 24, []))]
def zCL_isBroken (calls : List (Nat × (Nat × Nat × zSp × Nat × Nat))) : zC := (zTL_isBroken, [], [(1, 0), (22, 0)], [(10, 1), (14, 0)], calls, [(100000, 1)], 1)
def zpL_isBroken : List (Nat × Nat) := []
set_option maxRecDepth 100000 in
theorem zkL_isBroken : zTL_isBroken.all (zck RL zpL_isBroken cL_isBroken 4 (zCL_isBroken [])) = true := by decide +kernel
def zhL_isBroken : List (Nat × Nat × Nat × Nat) := [(0, 16, 19, 21)]
theorem zwL_isBroken : Cond.static yL_isBroken ∈ zW ∧ Cond.initialized yL_isBroken.cls ∈ zW ∧ Cond.codeWith yL_isBroken cL_isBroken 4 (some .int) zhL_isBroken ∈ zW := ⟨(zwd_ok (i := 890) (by decide +kernel)), (zwd_ok (i := 67) (by decide +kernel)), (zwd_ok (i := 891) (by decide +kernel))⟩
theorem zdL_isBroken : yL_isBroken.cls ≠ "java/lang/invoke/MethodHandle" ∧ yL_isBroken.cls ≠ "java/lang/invoke/VarHandle" ∧ (parseMethodDescriptor yL_isBroken.desc).map (fun d => d.parameters.length) = some 3 := by decide +kernel
theorem zlL_isBroken_67 : Cond.methodLink RL 67 yX7_isBroken ∈ zW := zwd_ok (i := 892) (by decide +kernel)
def zTL_worth : zTb := [(0, (.aload_n 2, 1, [])), (1, (.iconst 0, 2, [])), (2, (.aload_n 0, 3, [])), (3, (.iload_n 1, 4, [])), (4, (.invokevirtual 71, 7, [])), (7, (.i2l, 8, [])), (8, (.lastore, 9, [])), (9, (.goto 6, 12, [15])), (15, (.iconst 0, 16, [])), (16, (.ireturn, 17, []))]
def zCL_worth (calls : List (Nat × (Nat × Nat × zSp × Nat × Nat))) : zC := (zTL_worth, [], [(1, 0), (15, 0)], [], calls, [(100000, 1)], 1)
def zpL_worth : List (Nat × Nat) := []
set_option maxRecDepth 100000 in
theorem zkL_worth : zTL_worth.all (zck RL zpL_worth cL_worth 4 (zCL_worth [])) = true := by decide +kernel
def zhL_worth : List (Nat × Nat × Nat × Nat) := [(0, 9, 12, 21)]
theorem zwL_worth : Cond.static yL_worth ∈ zW ∧ Cond.initialized yL_worth.cls ∈ zW ∧ Cond.codeWith yL_worth cL_worth 4 (some .int) zhL_worth ∈ zW := ⟨(zwd_ok (i := 897) (by decide +kernel)), (zwd_ok (i := 67) (by decide +kernel)), (zwd_ok (i := 898) (by decide +kernel))⟩
theorem zdL_worth : yL_worth.cls ≠ "java/lang/invoke/MethodHandle" ∧ yL_worth.cls ≠ "java/lang/invoke/VarHandle" ∧ (parseMethodDescriptor yL_worth.desc).map (fun d => d.parameters.length) = some 3 := by decide +kernel
theorem zlL_worth_71 : Cond.methodLink RL 71 yX7_worth ∈ zW := zwd_ok (i := 899) (by decide +kernel)
def zTL_seek : zTb := [(0, (.aload 6, 2, [])), (2, (.iconst 0, 3, [])), (3, (.aload_n 0, 4, [])), (4, (.iload_n 1, 5, [])), (5, (.iload_n 2, 6, [])), (6, (.iload_n 3, 7, [])), (7, (.iload 4, 9, [])), (9, (.iload 5, 11, [])), (11, (.invokevirtual 74, 14, [])), (14, (.i2l, 15, [])), (15, (.lastore, 16, [])), (16, (.goto 15, 19, [31])), (31, (.iconst 0, 32, [])), (32, (.ireturn, 33, []))]
def zCL_seek (calls : List (Nat × (Nat × Nat × zSp × Nat × Nat))) : zC := (zTL_seek, [], [(2, 0), (31, 0)], [], calls, [(100000, 1), (100001, 2), (100002, 3)], 1)
def zpL_seek : List (Nat × Nat) := []
set_option maxRecDepth 100000 in
theorem zkL_seek : zTL_seek.all (zck RL zpL_seek cL_seek 8 (zCL_seek [])) = true := by decide +kernel
def zhL_seek : List (Nat × Nat × Nat × Nat) := [(0, 16, 19, 21), (0, 16, 23, 13), (0, 16, 27, 15)]
theorem zwL_seek : Cond.static yL_seek ∈ zW ∧ Cond.initialized yL_seek.cls ∈ zW ∧ Cond.codeWith yL_seek cL_seek 8 (some .int) zhL_seek ∈ zW := ⟨(zwd_ok (i := 904) (by decide +kernel)), (zwd_ok (i := 67) (by decide +kernel)), (zwd_ok (i := 905) (by decide +kernel))⟩
theorem zdL_seek : yL_seek.cls ≠ "java/lang/invoke/MethodHandle" ∧ yL_seek.cls ≠ "java/lang/invoke/VarHandle" ∧ (parseMethodDescriptor yL_seek.desc).map (fun d => d.parameters.length) = some 7 := by decide +kernel
theorem zlL_seek_74 : Cond.methodLink RL 74 yX7_seek ∈ zW := zwd_ok (i := 906) (by decide +kernel)
def zTL_amountWith : zTb := [(0, (.aload 4, 2, [])), (2, (.iconst 0, 3, [])), (3, (.aload_n 0, 4, [])), (4, (.iload_n 1, 5, [])), (5, (.iload_n 2, 6, [])), (6, (.iload_n 3, 7, [])), (7, (.invokevirtual 78, 10, [])), (10, (.i2l, 11, [])), (11, (.lastore, 12, [])), (12, (.goto 15, 15, [27])), (27, (.iconst 0, 28, [])), (28, (.ireturn, 29, []))]
def zCL_amountWith (calls : List (Nat × (Nat × Nat × zSp × Nat × Nat))) : zC := (zTL_amountWith, [], [(2, 0), (27, 0)], [], calls, [(100000, 1), (100001, 2), (100002, 3)], 1)
def zpL_amountWith : List (Nat × Nat) := []
set_option maxRecDepth 100000 in
theorem zkL_amountWith : zTL_amountWith.all (zck RL zpL_amountWith cL_amountWith 6 (zCL_amountWith [])) = true := by decide +kernel
def zhL_amountWith : List (Nat × Nat × Nat × Nat) := [(0, 12, 15, 21), (0, 12, 19, 13), (0, 12, 23, 15)]
theorem zwL_amountWith : Cond.static yL_amountWith ∈ zW ∧ Cond.initialized yL_amountWith.cls ∈ zW ∧ Cond.codeWith yL_amountWith cL_amountWith 6 (some .int) zhL_amountWith ∈ zW := ⟨(zwd_ok (i := 916) (by decide +kernel)), (zwd_ok (i := 67) (by decide +kernel)), (zwd_ok (i := 917) (by decide +kernel))⟩
theorem zdL_amountWith : yL_amountWith.cls ≠ "java/lang/invoke/MethodHandle" ∧ yL_amountWith.cls ≠ "java/lang/invoke/VarHandle" ∧ (parseMethodDescriptor yL_amountWith.desc).map (fun d => d.parameters.length) = some 5 := by decide +kernel
theorem zlL_amountWith_78 : Cond.methodLink RL 78 yX7_amountWith ∈ zW := zwd_ok (i := 918) (by decide +kernel)
def zTL_slope : zTb := [(0, (.aload 4, 2, [])), (2, (.iconst 0, 3, [])), (3, (.aload_n 0, 4, [])), (4, (.iload_n 1, 5, [])), (5, (.iload_n 2, 6, [])), (6, (.iload_n 3, 7, [])), (7, (.invokevirtual 81, 10, [])), (10, (.dastore, 11, [])), (11, (.goto 15, 14, [26])), (26, (.iconst 0, 27, [])), (27, (.ireturn, 28, []))]
def zCL_slope (calls : List (Nat × (Nat × Nat × zSp × Nat × Nat))) : zC := (zTL_slope, [], [(2, 0), (26, 0)], [], calls, [(100000, 1), (100001, 2), (100002, 3)], 1)
def zpL_slope : List (Nat × Nat) := []
set_option maxRecDepth 100000 in
theorem zkL_slope : zTL_slope.all (zck RL zpL_slope cL_slope 6 (zCL_slope [])) = true := by decide +kernel
def zhL_slope : List (Nat × Nat × Nat × Nat) := [(0, 11, 14, 21), (0, 11, 18, 13), (0, 11, 22, 15)]
theorem zwL_slope : Cond.static yL_slope ∈ zW ∧ Cond.initialized yL_slope.cls ∈ zW ∧ Cond.codeWith yL_slope cL_slope 6 (some .int) zhL_slope ∈ zW := ⟨(zwd_ok (i := 923) (by decide +kernel)), (zwd_ok (i := 67) (by decide +kernel)), (zwd_ok (i := 924) (by decide +kernel))⟩
theorem zdL_slope : yL_slope.cls ≠ "java/lang/invoke/MethodHandle" ∧ yL_slope.cls ≠ "java/lang/invoke/VarHandle" ∧ (parseMethodDescriptor yL_slope.desc).map (fun d => d.parameters.length) = some 5 := by decide +kernel
theorem zlL_slope_81 : Cond.methodLink RL 81 yX7_slope ∈ zW := zwd_ok (i := 925) (by decide +kernel)
def zTL_movedBy : zTb := [(0, (.aload_n 2, 1, [])), (1, (.iconst 0, 2, [])), (2, (.aload_n 0, 3, [])), (3, (.iload_n 1, 4, [])), (4, (.invokevirtual 85, 7, [])), (7, (.i2l, 8, [])), (8, (.lastore, 9, [])), (9, (.goto 6, 12, [15])), (15, (.iconst 0, 16, [])), (16, (.ireturn, 17, []))]
def zCL_movedBy (calls : List (Nat × (Nat × Nat × zSp × Nat × Nat))) : zC := (zTL_movedBy, [], [(1, 0), (15, 0)], [], calls, [(100000, 1)], 1)
def zpL_movedBy : List (Nat × Nat) := []
set_option maxRecDepth 100000 in
theorem zkL_movedBy : zTL_movedBy.all (zck RL zpL_movedBy cL_movedBy 4 (zCL_movedBy [])) = true := by decide +kernel
def zhL_movedBy : List (Nat × Nat × Nat × Nat) := [(0, 9, 12, 21)]
theorem zwL_movedBy : Cond.static yL_movedBy ∈ zW ∧ Cond.initialized yL_movedBy.cls ∈ zW ∧ Cond.codeWith yL_movedBy cL_movedBy 4 (some .int) zhL_movedBy ∈ zW := ⟨(zwd_ok (i := 932) (by decide +kernel)), (zwd_ok (i := 67) (by decide +kernel)), (zwd_ok (i := 933) (by decide +kernel))⟩
theorem zdL_movedBy : yL_movedBy.cls ≠ "java/lang/invoke/MethodHandle" ∧ yL_movedBy.cls ≠ "java/lang/invoke/VarHandle" ∧ (parseMethodDescriptor yL_movedBy.desc).map (fun d => d.parameters.length) = some 3 := by decide +kernel
theorem zlL_movedBy_85 : Cond.methodLink RL 85 yX7_movedBy ∈ zW := zwd_ok (i := 934) (by decide +kernel)
def zTL_best : zTb := [(0, (.aload 6, 2, [])), (2, (.iconst 0, 3, [])), (3, (.aload_n 0, 4, [])), (4, (.iload_n 1, 5, [])), (5, (.iload_n 2, 6, [])), (6, (.iload_n 3, 7, [])), (7, (.iload 4, 9, [])), (9, (.iload 5, 11, [])), (11, (.invokevirtual 88, 14, [])), (14, (.i2l, 15, [])), (15, (.lastore, 16, [])), (16, (.goto 15, 19, [31])), (31, (.iconst 0, 32, [])), (32, (.ireturn, 33, []))]
def zCL_best (calls : List (Nat × (Nat × Nat × zSp × Nat × Nat))) : zC := (zTL_best, [], [(2, 0), (31, 0)], [], calls, [(100000, 1), (100001, 2), (100002, 3)], 1)
def zpL_best : List (Nat × Nat) := []
set_option maxRecDepth 100000 in
theorem zkL_best : zTL_best.all (zck RL zpL_best cL_best 8 (zCL_best [])) = true := by decide +kernel
def zhL_best : List (Nat × Nat × Nat × Nat) := [(0, 16, 19, 21), (0, 16, 23, 13), (0, 16, 27, 15)]
theorem zwL_best : Cond.static yL_best ∈ zW ∧ Cond.initialized yL_best.cls ∈ zW ∧ Cond.codeWith yL_best cL_best 8 (some .int) zhL_best ∈ zW := ⟨(zwd_ok (i := 939) (by decide +kernel)), (zwd_ok (i := 67) (by decide +kernel)), (zwd_ok (i := 940) (by decide +kernel))⟩
theorem zdL_best : yL_best.cls ≠ "java/lang/invoke/MethodHandle" ∧ yL_best.cls ≠ "java/lang/invoke/VarHandle" ∧ (parseMethodDescriptor yL_best.desc).map (fun d => d.parameters.length) = some 7 := by decide +kernel
theorem zlL_best_88 : Cond.methodLink RL 88 yX7_best ∈ zW := zwd_ok (i := 941) (by decide +kernel)
def zTL_faultsWith : zTb := [(0, (.aload_n 3, 1, [])), (1, (.iconst 0, 2, [])), (2, (.aload_n 0, 3, [])), (3, (.iload_n 1, 4, [])), (4, (.iload_n 2, 5, [])), (5, (.invokevirtual 91, 8, [])), (8, (.i2l, 9, [])), (9, (.lastore, 10, [])), (10, (.goto 7, 13, [17])), (17, (.iconst 0, 18, [])), (18, (.ireturn, 19, []))]
def zCL_faultsWith (calls : List (Nat × (Nat × Nat × zSp × Nat × Nat))) : zC := (zTL_faultsWith, [], [(1, 0), (17, 0)], [], calls, [(100000, 1)], 1)
def zpL_faultsWith : List (Nat × Nat) := []
set_option maxRecDepth 100000 in
theorem zkL_faultsWith : zTL_faultsWith.all (zck RL zpL_faultsWith cL_faultsWith 5 (zCL_faultsWith [])) = true := by decide +kernel
def zhL_faultsWith : List (Nat × Nat × Nat × Nat) := [(0, 10, 13, 21)]
theorem zwL_faultsWith : Cond.static yL_faultsWith ∈ zW ∧ Cond.initialized yL_faultsWith.cls ∈ zW ∧ Cond.codeWith yL_faultsWith cL_faultsWith 5 (some .int) zhL_faultsWith ∈ zW := ⟨(zwd_ok (i := 947) (by decide +kernel)), (zwd_ok (i := 67) (by decide +kernel)), (zwd_ok (i := 948) (by decide +kernel))⟩
theorem zdL_faultsWith : yL_faultsWith.cls ≠ "java/lang/invoke/MethodHandle" ∧ yL_faultsWith.cls ≠ "java/lang/invoke/VarHandle" ∧ (parseMethodDescriptor yL_faultsWith.desc).map (fun d => d.parameters.length) = some 4 := by decide +kernel
theorem zlL_faultsWith_91 : Cond.methodLink RL 91 yX7_faultsWith ∈ zW := zwd_ok (i := 949) (by decide +kernel)
def zTL_keep : zTb := [(0, (.aload_n 2, 1, [])), (1, (.iconst 0, 2, [])), (2, (.aload_n 0, 3, [])), (3, (.iload_n 1, 4, [])), (4, (.invokevirtual 94, 7, [])), (7, (.i2l, 8, [])), (8, (.lastore, 9, [])), (9, (.goto 6, 12, [15])), (15, (.iconst 0, 16, [])), (16, (.ireturn, 17, []))]
def zCL_keep (calls : List (Nat × (Nat × Nat × zSp × Nat × Nat))) : zC := (zTL_keep, [], [(1, 0), (15, 0)], [], calls, [(100000, 1)], 1)
def zpL_keep : List (Nat × Nat) := []
set_option maxRecDepth 100000 in
theorem zkL_keep : zTL_keep.all (zck RL zpL_keep cL_keep 4 (zCL_keep [])) = true := by decide +kernel
def zhL_keep : List (Nat × Nat × Nat × Nat) := [(0, 9, 12, 21)]
theorem zwL_keep : Cond.static yL_keep ∈ zW ∧ Cond.initialized yL_keep.cls ∈ zW ∧ Cond.codeWith yL_keep cL_keep 4 (some .int) zhL_keep ∈ zW := ⟨(zwd_ok (i := 964) (by decide +kernel)), (zwd_ok (i := 67) (by decide +kernel)), (zwd_ok (i := 965) (by decide +kernel))⟩
theorem zdL_keep : yL_keep.cls ≠ "java/lang/invoke/MethodHandle" ∧ yL_keep.cls ≠ "java/lang/invoke/VarHandle" ∧ (parseMethodDescriptor yL_keep.desc).map (fun d => d.parameters.length) = some 3 := by decide +kernel
theorem zlL_keep_94 : Cond.methodLink RL 94 yX7_keep ∈ zW := zwd_ok (i := 966) (by decide +kernel)
def zTL_load : zTb := [(0, (.aload_n 2, 1, [])), (1, (.iconst 0, 2, [])), (2, (.aload_n 0, 3, [])), (3, (.iload_n 1, 4, [])), (4, (.invokevirtual 97, 7, [])), (7, (.i2l, 8, [])), (8, (.lastore, 9, [])), (9, (.goto 9, 12, [18])), (18, (.iconst 0, 19, [])), (19, (.ireturn, 20, []))]
def zCL_load (calls : List (Nat × (Nat × Nat × zSp × Nat × Nat))) : zC := (zTL_load, [], [(1, 0), (18, 0)], [], calls, [(100000, 1), (100002, 2)], 1)
def zpL_load : List (Nat × Nat) := []
set_option maxRecDepth 100000 in
theorem zkL_load : zTL_load.all (zck RL zpL_load cL_load 4 (zCL_load [])) = true := by decide +kernel
def zhL_load : List (Nat × Nat × Nat × Nat) := [(0, 9, 12, 21), (0, 9, 15, 15)]
theorem zwL_load : Cond.static yL_load ∈ zW ∧ Cond.initialized yL_load.cls ∈ zW ∧ Cond.codeWith yL_load cL_load 4 (some .int) zhL_load ∈ zW := ⟨(zwd_ok (i := 975) (by decide +kernel)), (zwd_ok (i := 67) (by decide +kernel)), (zwd_ok (i := 976) (by decide +kernel))⟩
theorem zdL_load : yL_load.cls ≠ "java/lang/invoke/MethodHandle" ∧ yL_load.cls ≠ "java/lang/invoke/VarHandle" ∧ (parseMethodDescriptor yL_load.desc).map (fun d => d.parameters.length) = some 3 := by decide +kernel
theorem zlL_load_97 : Cond.methodLink RL 97 yX7_load ∈ zW := zwd_ok (i := 977) (by decide +kernel)
def zTL_amountOf : zTb := [(0, (.aload_n 3, 1, [])), (1, (.iconst 0, 2, [])), (2, (.aload_n 0, 3, [])), (3, (.iload_n 1, 4, [])), (4, (.iload_n 2, 5, [])), (5, (.invokevirtual 100, 8, [])), (8, (.i2l, 9, [])), (9, (.lastore, 10, [])), (10, (.goto 11, 13, [21])), (21, (.iconst 0, 22, [])), (22, (.ireturn, 23, []))]
def zCL_amountOf (calls : List (Nat × (Nat × Nat × zSp × Nat × Nat))) : zC := (zTL_amountOf, [], [(1, 0), (21, 0)], [], calls, [(100000, 1), (100002, 2)], 1)
def zpL_amountOf : List (Nat × Nat) := []
set_option maxRecDepth 100000 in
theorem zkL_amountOf : zTL_amountOf.all (zck RL zpL_amountOf cL_amountOf 5 (zCL_amountOf [])) = true := by decide +kernel
def zhL_amountOf : List (Nat × Nat × Nat × Nat) := [(0, 10, 13, 21), (0, 10, 17, 15)]
theorem zwL_amountOf : Cond.static yL_amountOf ∈ zW ∧ Cond.initialized yL_amountOf.cls ∈ zW ∧ Cond.codeWith yL_amountOf cL_amountOf 5 (some .int) zhL_amountOf ∈ zW := ⟨(zwd_ok (i := 986) (by decide +kernel)), (zwd_ok (i := 67) (by decide +kernel)), (zwd_ok (i := 987) (by decide +kernel))⟩
theorem zdL_amountOf : yL_amountOf.cls ≠ "java/lang/invoke/MethodHandle" ∧ yL_amountOf.cls ≠ "java/lang/invoke/VarHandle" ∧ (parseMethodDescriptor yL_amountOf.desc).map (fun d => d.parameters.length) = some 4 := by decide +kernel
theorem zlL_amountOf_100 : Cond.methodLink RL 100 yX7_amountOf ∈ zW := zwd_ok (i := 988) (by decide +kernel)
