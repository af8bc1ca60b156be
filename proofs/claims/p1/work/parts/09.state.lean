/-! ===== the cells of one Waterline, by the order in which they are made ===== -/
def zSHt : List (Nat × (Nat × Nat)) := [(0, (7, 0)), (1, (5, 0)), (2, (104, 12)), (15, (100, 12)), (16, (100, 12)), (17, (2, 0)), (18, (100, 60)), (19, (100, 60)), (20, (100, 60)), (21, (100, 60)), (22, (104, 60)), (83, (100, 60)), (84, (101, 60)), (85, (100, 60)), (86, (6, 0)), (87, (100, 16)), (88, (100, 16)), (89, (100, 16)), (90, (0, 0)), (91, (100, 960)), (92, (100, 960)), (93, (100, 960)), (94, (1, 0)), (95, (100, 16)), (96, (100, 16)), (97, (100, 16)), (98, (100, 16)), (99, (102, 16)), (100, (4, 0)), (101, (100, 60)), (102, (3, 0)), (103, (100, 16)), (104, (100, 16)), (105, (102, 16)), (106, (3, 0)), (107, (100, 16)), (108, (100, 16)), (109, (102, 16)), (110, (100, 16)), (111, (100, 16)), (112, (100, 16)), (113, (104, 4)), (118, (100, 4))]
def zSH (n : Nat) : Nat × Nat := match zlk zSHt n with
  | some x => x
  | none => match Nat.ble n 100 with
    | true => (100, 4)
    | false => match Nat.ble n 118 with
      | true => (100, 16)
      | false => (999, 0)
def zRHt : List (Nat × List Nat) := [(0, [1, 17, 86, 90, 94, 100, 102, 106, 110, 111, 112, 113, 118]), (1, [2, 15, 16]), (17, [18, 19, 20, 21, 22, 83, 84, 85]), (86, [87, 88, 89]), (90, [1, 17, 86, 91, 92, 93]), (94, [17, 86, 95, 96, 97, 98, 99]), (100, [1, 17, 86, 90, 94, 101]), (102, [103, 104, 105]), (106, [107, 108, 109])]
def zrl : List Nat → Nat → Option Nat
  | [], _ => none
  | a :: _, 0 => some a
  | _ :: l, n + 1 => zrl l n
def zRH (n j : Nat) : Option Nat := match zlk zRHt n with
  | some l => zrl l j
  | none => match n with
    | 2 => match Nat.blt j 12 with
      | true => some (3 + j)
      | false => none
    | 22 => match Nat.blt j 60 with
      | true => some (23 + j)
      | false => none
    | 113 => match Nat.blt j 4 with
      | true => some (114 + j)
      | false => none
    | _ => none
abbrev zW0 (σ : zIn) (τ : zLo) : zM := (119, zSH, zRH, σ, τ)
theorem zi {v n : Nat} (h : v < n) (hn : n < 2 ^ 31 := by decide) : vp_in (nI v) n := vp_in_nI h hn
