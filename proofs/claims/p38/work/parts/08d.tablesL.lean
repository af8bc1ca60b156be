def zTL_below : zTb := [(0, (.iload_n 0, 1, [])), (1, (.ldc 7, 3, [])), (3, (.iand, 4, [])), (4, (.iload_n 1, 5, [])), (5, (.irem, 6, [])), (6, (.ireturn, 7, []))]
def zCL_below (calls : List (Nat × (Nat × Nat × zSp × Nat × Nat))) : zC := (zTL_below, [], [(1, 2147483647)], [], calls, [], 1)
def zpL_below : List (Nat × Nat) := [(1, 816)]
set_option maxRecDepth 100000 in
theorem zkL_below : zTL_below.all (zck RL zpL_below cL_below 2 (zCL_below [])) = true := by decide +kernel
theorem zwL_below : Cond.static yL_below ∈ zW ∧ Cond.initialized yL_below.cls ∈ zW ∧ Cond.code yL_below cL_below 2 (some .int) ∈ zW := ⟨(zwd_ok (i := 814) (by decide +kernel)), (zwd_ok (i := 36) (by decide +kernel)), (zwd_ok (i := 815) (by decide +kernel))⟩
theorem zdL_below : yL_below.cls ≠ "java/lang/invoke/MethodHandle" ∧ yL_below.cls ≠ "java/lang/invoke/VarHandle" ∧ (parseMethodDescriptor yL_below.desc).map (fun d => d.parameters.length) = some 2 := by decide +kernel
def zTL_cell : zTb := [(0, (.iload_n 1, 1, [])), (1, (.aload_n 0, 2, [])), (2, (.arraylength, 3, [])), (3, (.if_icmp .ge 9, 6, [12])), (6, (.aload_n 0, 7, [])), (7, (.iload_n 1, 8, [])), (8, (.iaload, 9, [])), (9, (.goto 9, 12, [18])), (12, (.ldc 8, 14, [])), (14, (.iload_n 1, 15, [])), (15, (.iconst 3, 16, [])), (16, (.iadd, 17, [])), (17, (.imul, 18, [])), (18, (.ireturn, 19, []))]
def zCL_cell (calls : List (Nat × (Nat × Nat × zSp × Nat × Nat))) : zC := (zTL_cell, [], [(12, 790386105), (15, 3)], [], calls, [], 1)
def zpL_cell : List (Nat × Nat) := [(12, 812)]
set_option maxRecDepth 100000 in
theorem zkL_cell : zTL_cell.all (zck RL zpL_cell cL_cell 2 (zCL_cell [])) = true := by decide +kernel
theorem zwL_cell : Cond.static yL_cell ∈ zW ∧ Cond.initialized yL_cell.cls ∈ zW ∧ Cond.code yL_cell cL_cell 2 (some .int) ∈ zW := ⟨(zwd_ok (i := 810) (by decide +kernel)), (zwd_ok (i := 36) (by decide +kernel)), (zwd_ok (i := 811) (by decide +kernel))⟩
theorem zdL_cell : yL_cell.cls ≠ "java/lang/invoke/MethodHandle" ∧ yL_cell.cls ≠ "java/lang/invoke/VarHandle" ∧ (parseMethodDescriptor yL_cell.desc).map (fun d => d.parameters.length) = some 2 := by decide +kernel
