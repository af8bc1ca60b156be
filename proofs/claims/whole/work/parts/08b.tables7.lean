def zTX7_isUnitExponent : zTb := [(0, (.iload_n 0, 1, [])), (1, (.bipush (-3), 3, [])), (3, (.if_icmp .lt 12, 6, [15])), (6, (.iload_n 0, 7, [])), (7, (.iconst 3, 8, [])), (8, (.if_icmp .gt 7, 11, [15])), (11, (.iconst 1, 12, [])), (12, (.goto 4, 15, [16])), (15, (.iconst 0, 16, [])), (16, (.ireturn, 17, []))]
def zCX7_isUnitExponent (calls : List (Nat × (Nat × Nat × zSp × Nat × Nat))) : zC := (zTX7_isUnitExponent, [], [(1, (-3)), (7, 3), (11, 1), (15, 0)], [], calls, [], 2)
def zpX7_isUnitExponent : List (Nat × Nat) := []
set_option maxRecDepth 100000 in
theorem zkX7_isUnitExponent : zTX7_isUnitExponent.all (zck RX7 zpX7_isUnitExponent cX7_isUnitExponent 1 (zCX7_isUnitExponent [])) = true := by decide +kernel
theorem zwX7_isUnitExponent : Cond.static yX7_isUnitExponent ∈ zW ∧ Cond.initialized yX7_isUnitExponent.cls ∈ zW ∧ Cond.code yX7_isUnitExponent cX7_isUnitExponent 1 (some .boolean) ∈ zW := ⟨(zwd_ok (i := 609) (by decide +kernel)), (zwd_ok (i := 68) (by decide +kernel)), (zwd_ok (i := 610) (by decide +kernel))⟩
theorem zdX7_isUnitExponent : yX7_isUnitExponent.cls ≠ "java/lang/invoke/MethodHandle" ∧ yX7_isUnitExponent.cls ≠ "java/lang/invoke/VarHandle" ∧ (parseMethodDescriptor yX7_isUnitExponent.desc).map (fun d => d.parameters.length) = some 1 := by decide +kernel
def zTX7_kept : zTb := [(0, (.lload_n 0, 1, [])), (1, (.ldc2_w 313, 4, [])), (4, (.lcmp, 5, [])), (5, (.ifCond .le 7, 8, [12])), (8, (.ldc_w 312, 11, [])), (11, (.ireturn, 12, [])), (12, (.lload_n 0, 13, [])), (13, (.ldc2_w 315, 16, [])), (16, (.lcmp, 17, [])), (17, (.ifCond .ge 9, 20, [26])), (20, (.ldc_w 311, 23, [])), (23, (.goto 5, 26, [28])), (26, (.lload_n 0, 27, [])), (27, (.l2i, 28, [])), (28, (.ireturn, 29, []))]
def zCX7_kept (calls : List (Nat × (Nat × Nat × zSp × Nat × Nat))) : zC := (zTX7_kept, [], [(8, 1000000000), (20, (-1000000000))], [(1, 1000000000), (13, (-1000000000))], calls, [], 1)
def zpX7_kept : List (Nat × Nat) := [(1, 503), (8, 504), (13, 505), (20, 506)]
set_option maxRecDepth 100000 in
theorem zkX7_kept : zTX7_kept.all (zck RX7 zpX7_kept cX7_kept 2 (zCX7_kept [])) = true := by decide +kernel
theorem zwX7_kept : Cond.static yX7_kept ∈ zW ∧ Cond.initialized yX7_kept.cls ∈ zW ∧ Cond.code yX7_kept cX7_kept 2 (some .int) ∈ zW := ⟨(zwd_ok (i := 501) (by decide +kernel)), (zwd_ok (i := 68) (by decide +kernel)), (zwd_ok (i := 502) (by decide +kernel))⟩
theorem zdX7_kept : yX7_kept.cls ≠ "java/lang/invoke/MethodHandle" ∧ yX7_kept.cls ≠ "java/lang/invoke/VarHandle" ∧ (parseMethodDescriptor yX7_kept.desc).map (fun d => d.parameters.length) = some 1 := by decide +kernel
def zTX7_shown : zTb := [(0, (.iload_n 0, 1, [])), (1, (.ldc 203, 3, [])), (3, (.if_icmp .ne 7, 6, [10])), (6, (.iconst 0, 7, [])), (7, (.goto 4, 10, [11])), (10, (.iload_n 0, 11, [])), (11, (.ireturn, 12, []))]
def zCX7_shown (calls : List (Nat × (Nat × Nat × zSp × Nat × Nat))) : zC := (zTX7_shown, [], [(1, (-2000000000)), (6, 0)], [], calls, [], 1)
def zpX7_shown : List (Nat × Nat) := [(1, 566)]
set_option maxRecDepth 100000 in
theorem zkX7_shown : zTX7_shown.all (zck RX7 zpX7_shown cX7_shown 1 (zCX7_shown [])) = true := by decide +kernel
theorem zwX7_shown : Cond.static yX7_shown ∈ zW ∧ Cond.initialized yX7_shown.cls ∈ zW ∧ Cond.code yX7_shown cX7_shown 1 (some .int) ∈ zW := ⟨(zwd_ok (i := 564) (by decide +kernel)), (zwd_ok (i := 68) (by decide +kernel)), (zwd_ok (i := 565) (by decide +kernel))⟩
theorem zdX7_shown : yX7_shown.cls ≠ "java/lang/invoke/MethodHandle" ∧ yX7_shown.cls ≠ "java/lang/invoke/VarHandle" ∧ (parseMethodDescriptor yX7_shown.desc).map (fun d => d.parameters.length) = some 1 := by decide +kernel
def zTX7_isIn : zTb := [(0, (.iload_n 0, 1, [])), (1, (.iload_n 1, 2, [])), (2, (.ishr, 3, [])), (3, (.iconst 1, 4, [])), (4, (.iand, 5, [])), (5, (.ifCond .eq 7, 8, [12])), (8, (.iconst 1, 9, [])), (9, (.goto 4, 12, [13])), (12, (.iconst 0, 13, [])), (13, (.ireturn, 14, []))]
def zCX7_isIn (calls : List (Nat × (Nat × Nat × zSp × Nat × Nat))) : zC := (zTX7_isIn, [], [(3, 1), (8, 1), (12, 0)], [], calls, [], 2)
def zpX7_isIn : List (Nat × Nat) := []
set_option maxRecDepth 100000 in
theorem zkX7_isIn : zTX7_isIn.all (zck RX7 zpX7_isIn cX7_isIn 2 (zCX7_isIn [])) = true := by decide +kernel
theorem zwX7_isIn : Cond.static yX7_isIn ∈ zW ∧ Cond.initialized yX7_isIn.cls ∈ zW ∧ Cond.code yX7_isIn cX7_isIn 2 (some .boolean) ∈ zW := ⟨(zwd_ok (i := 438) (by decide +kernel)), (zwd_ok (i := 68) (by decide +kernel)), (zwd_ok (i := 439) (by decide +kernel))⟩
theorem zdX7_isIn : yX7_isIn.cls ≠ "java/lang/invoke/MethodHandle" ∧ yX7_isIn.cls ≠ "java/lang/invoke/VarHandle" ∧ (parseMethodDescriptor yX7_isIn.desc).map (fun d => d.parameters.length) = some 2 := by decide +kernel
def zTX7_isPartIn : zTb := [(0, (.lload_n 0, 1, [])), (1, (.iload_n 2, 2, [])), (2, (.lshr, 3, [])), (3, (.lconst 1, 4, [])), (4, (.land, 5, [])), (5, (.lconst 0, 6, [])), (6, (.lcmp, 7, [])), (7, (.ifCond .eq 7, 10, [14])), (10, (.iconst 1, 11, [])), (11, (.goto 4, 14, [15])), (14, (.iconst 0, 15, [])), (15, (.ireturn, 16, []))]
def zCX7_isPartIn (calls : List (Nat × (Nat × Nat × zSp × Nat × Nat))) : zC := (zTX7_isPartIn, [], [(10, 1), (14, 0)], [(3, 1), (5, 0)], calls, [], 2)
def zpX7_isPartIn : List (Nat × Nat) := []
set_option maxRecDepth 100000 in
theorem zkX7_isPartIn : zTX7_isPartIn.all (zck RX7 zpX7_isPartIn cX7_isPartIn 3 (zCX7_isPartIn [])) = true := by decide +kernel
theorem zwX7_isPartIn : Cond.static yX7_isPartIn ∈ zW ∧ Cond.initialized yX7_isPartIn.cls ∈ zW ∧ Cond.code yX7_isPartIn cX7_isPartIn 3 (some .boolean) ∈ zW := ⟨(zwd_ok (i := 414) (by decide +kernel)), (zwd_ok (i := 68) (by decide +kernel)), (zwd_ok (i := 415) (by decide +kernel))⟩
theorem zdX7_isPartIn : yX7_isPartIn.cls ≠ "java/lang/invoke/MethodHandle" ∧ yX7_isPartIn.cls ≠ "java/lang/invoke/VarHandle" ∧ (parseMethodDescriptor yX7_isPartIn.desc).map (fun d => d.parameters.length) = some 2 := by decide +kernel
