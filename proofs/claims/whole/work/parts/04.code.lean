abbrev n_Ahead_in : Nat := 1
def b_Ahead_in : Nat → List Item
  | 0 => [(.aload_n 0, 0, []), (.getfield 11, 0, [11, 0, 2, 12, 0]), (.iconst 0, 0, []), (.aaload, 0, []), (.aload_n 1, 0, []), (.invokevirtual 28, 24, [2, 0, 22, 2]), (.aload_n 0, 0, []), (.getfield 11, 0, [11, 0, 2, 12, 0]), (.iconst 0, 0, []), (.aaload, 0, []), (.iload_n 2, 0, []), (.invokevirtual 32, 34, [2, 1, 22, 4]), (.pop, 0, []), (.aload_n 0, 0, []), (.getfield 11, 0, [11, 0, 2, 12, 0]), (.iconst 0, 0, []), (.aaload, 0, []), (.areturn, 0, [])]
  | _ => []
abbrev n_Ahead_firstPause : Nat := 2
def b_Ahead_firstPause : Nat → List Item
  | 0 => [(.aload_n 0, 0, []), (.aload_n 1, 0, []), (.iconst 0, 0, []), (.invokevirtual 36, 1, [3, 1, 11, 3]), (.iload_n 2, 0, []), (.invokestatic 40, 3, [2, 1, 0, 3]), (.ireturn, 0, [])]
  | _ => []
abbrev n_Ahead_firstPauseOf : Nat := 3
def b_Ahead_firstPauseOf : Nat → List Item
  | 0 => [(.iconst 0, 0, []), (.istore_n 2, 0, []), (.nop, 2, [])]
  | 2 => [(.iload_n 2, 0, []), (.iload_n 1, 0, []), (.if_icmp .ge 18, 22, []), (.aload_n 0, 0, []), (.invokevirtual 44, 35, [1, 1, 22, 2]), (.ifCond .ne 5, 16, []), (.iload_n 2, 0, []), (.ireturn, 0, [])]
  | 16 => [(.iinc 2 1, 0, []), (.goto (-17), 2, [])]
  | 22 => [(.iconst (-1), 0, []), (.ireturn, 0, [])]
  | _ => []
abbrev n_Ahead_suffices : Nat := 4
def b_Ahead_suffices : Nat → List Item
  | 0 => [(.aload_n 0, 0, []), (.getfield 11, 0, [11, 0, 2, 12, 0]), (.iconst 0, 0, []), (.aaload, 0, []), (.astore 4, 0, []), (.aload 4, 0, []), (.aload_n 1, 0, []), (.invokevirtual 28, 24, [2, 0, 22, 2]), (.aload 4, 0, []), (.getfield 48, 3, [22, 1, 2, 27, 0]), (.iload_n 2, 0, []), (.putfield 52, 6, [27, 7, 0, 0, 0]), (.aload 4, 0, []), (.iload_n 3, 0, []), (.invokestatic 40, 3, [2, 1, 0, 3]), (.iconst (-1), 0, []), (.if_icmp .ne 7, 37, []), (.iconst 1, 0, []), (.goto 4, 38, [])]
  | 37 => [(.iconst 0, 0, []), (.nop, 38, [])]
  | 38 => [(.ireturn, 1, [])]
  | _ => []
abbrev n_Ahead_smallest : Nat := 5
def b_Ahead_smallest : Nat → List Item
  | 0 => [(.iconst 1, 0, []), (.aload_n 1, 0, []), (.getfield 48, 3, [22, 1, 2, 27, 0]), (.getfield 58, 6, [27, 8, 0, 0, 0]), (.ishl, 0, []), (.istore_n 3, 0, []), (.iconst 0, 0, []), (.istore 4, 0, []), (.nop, 13, [])]
  | 13 => [(.iload 4, 0, []), (.aload_n 1, 0, []), (.getfield 48, 3, [22, 1, 2, 27, 0]), (.getfield 58, 6, [27, 8, 0, 0, 0]), (.if_icmp .gt 48, 70, []), (.iconst 0, 0, []), (.istore 5, 0, []), (.nop, 28, [])]
  | 28 => [(.iload 5, 0, []), (.iload_n 3, 0, []), (.if_icmp .ge 33, 64, []), (.iload 5, 0, []), (.invokestatic 61, 332, [1, 1, 0, 1]), (.iload 4, 0, []), (.if_icmp .ne 17, 58, []), (.aload_n 0, 0, []), (.aload_n 1, 0, []), (.iload 5, 0, []), (.iload_n 2, 0, []), (.invokevirtual 66, 4, [4, 1, 11, 5]), (.ifCond .eq 6, 58, []), (.iload 5, 0, []), (.ireturn, 0, [])]
  | 58 => [(.iinc 5 1, 0, []), (.goto (-33), 28, [])]
  | 64 => [(.iinc 4 1, 0, []), (.goto (-54), 13, [])]
  | 70 => [(.iconst (-1), 0, []), (.ireturn, 0, [])]
  | _ => []
abbrev n_Ahead_easiest : Nat := 6
def b_Ahead_easiest : Nat → List Item
  | 0 => [(.aload_n 0, 0, []), (.getfield 11, 0, [11, 0, 2, 12, 0]), (.iconst 0, 0, []), (.aaload, 0, []), (.aload_n 1, 0, []), (.invokevirtual 28, 24, [2, 0, 22, 2]), (.aload_n 0, 0, []), (.iload_n 2, 0, []), (.putfield 70, 0, [11, 3, 0, 0, 0]), (.aload_n 0, 0, []), (.iconst (-1), 0, []), (.putfield 73, 0, [11, 4, 0, 0, 0]), (.aload_n 0, 0, []), (.iconst 0, 0, []), (.invokevirtual 76, 7, [2, 0, 11, 8]), (.aload_n 0, 0, []), (.getfield 73, 0, [11, 4, 0, 0, 0]), (.ireturn, 0, [])]
  | _ => []
abbrev n_Ahead_tryMinute : Nat := 7
def b_Ahead_tryMinute : Nat → List Item
  | 0 => [(.iload_n 1, 0, []), (.aload_n 0, 0, []), (.getfield 70, 0, [11, 3, 0, 0, 0]), (.if_icmp .ge 8, 13, []), (.iload_n 1, 0, []), (.iconst 3, 0, []), (.if_icmp .lt 4, 14, []), (.nop, 13, [])]
  | 13 => [(.return_, 0, [])]
  | 14 => [(.aload_n 0, 0, []), (.getfield 11, 0, [11, 0, 2, 12, 0]), (.iload_n 1, 0, []), (.aaload, 0, []), (.astore_n 2, 0, []), (.aload_n 2, 0, []), (.getfield 48, 3, [22, 1, 2, 27, 0]), (.iconst (-1), 0, []), (.aload_n 0, 0, []), (.getfield 70, 0, [11, 3, 0, 0, 0]), (.iload_n 1, 0, []), (.isub, 0, []), (.invokevirtual 80, 64, [3, 1, 27, 5]), (.aload_n 0, 0, []), (.getfield 73, 0, [11, 4, 0, 0, 0]), (.if_icmp .gt 4, 43, []), (.return_, 0, [])]
  | 43 => [(.iconst 0, 0, []), (.istore_n 3, 0, []), (.nop, 45, [])]
  | 45 => [(.iload_n 3, 0, []), (.aload_n 2, 0, []), (.getfield 48, 3, [22, 1, 2, 27, 0]), (.getfield 58, 6, [27, 8, 0, 0, 0]), (.if_icmp .ge 129, 182, []), (.aload_n 2, 0, []), (.iload_n 3, 0, []), (.invokevirtual 84, 30, [2, 1, 22, 2]), (.istore 4, 0, []), (.aload_n 2, 0, []), (.getfield 48, 3, [22, 1, 2, 27, 0]), (.iload_n 3, 0, []), (.iconst 1, 0, []), (.invokevirtual 80, 64, [3, 1, 27, 5]), (.istore 5, 0, []), (.iconst 0, 0, []), (.istore 6, 0, []), (.nop, 77, [])]
  | 77 => [(.iload 6, 0, []), (.bipush 6, 0, []), (.if_icmp .ge 95, 176, []), (.iload 4, 0, []), (.iload 6, 0, []), (.invokestatic 87, 173, [2, 1, 0, 2]), (.ifCond .ne 6, 97, []), (.goto 76, 170, [])]
  | 97 => [(.aload_n 0, 0, []), (.getfield 17, 0, [11, 1, 2, 13, 0]), (.iload_n 1, 0, []), (.iload_n 3, 0, []), (.iload 6, 0, []), (.invokestatic 91, 177, [2, 1, 0, 2]), (.iastore, 0, []), (.iload_n 1, 0, []), (.iconst 1, 0, []), (.iadd, 0, []), (.aload_n 0, 0, []), (.getfield 70, 0, [11, 3, 0, 0, 0]), (.if_icmp .ne 39, 155, []), (.aload_n 2, 0, []), (.getfield 48, 3, [22, 1, 2, 27, 0]), (.getfield 94, 6, [27, 1, 2, 29, 0]), (.iload_n 3, 0, []), (.iaload, 0, []), (.aload_n 2, 0, []), (.getfield 97, 3, [22, 0, 2, 23, 0]), (.getfield 101, 9, [23, 1, 2, 25, 0]), (.iload 6, 0, []), (.iaload, 0, []), (.isub, 0, []), (.istore 7, 0, []), (.aload_n 0, 0, []), (.iload 5, 0, []), (.iload 7, 0, []), (.invokestatic 106, 335, [2, 1, 0, 2]), (.invokevirtual 111, 8, [2, 0, 11, 2]), (.goto 18, 170, [])]
  | 155 => [(.aload_n 0, 0, []), (.iload_n 1, 0, []), (.iload_n 3, 0, []), (.iload 6, 0, []), (.invokevirtual 114, 9, [4, 0, 11, 4]), (.aload_n 0, 0, []), (.iload_n 1, 0, []), (.iconst 1, 0, []), (.iadd, 0, []), (.invokevirtual 76, 7, [2, 0, 11, 8]), (.nop, 170, [])]
  | 170 => [(.iinc 6 1, 0, []), (.goto (-96), 77, [])]
  | 176 => [(.iinc 3 1, 0, []), (.goto (-134), 45, [])]
  | 182 => [(.return_, 0, [])]
  | _ => []
abbrev n_Ahead_weigh : Nat := 8
def b_Ahead_weigh : Nat → List Item
  | 0 => [(.iload_n 1, 0, []), (.aload_n 0, 0, []), (.getfield 73, 0, [11, 4, 0, 0, 0]), (.if_icmp .le 25, 30, []), (.aload_n 0, 0, []), (.iload_n 1, 0, []), (.putfield 73, 0, [11, 4, 0, 0, 0]), (.aload_n 0, 0, []), (.getfield 17, 0, [11, 1, 2, 13, 0]), (.iconst 0, 0, []), (.aload_n 0, 0, []), (.getfield 24, 0, [11, 6, 2, 15, 0]), (.iconst 0, 0, []), (.aload_n 0, 0, []), (.getfield 70, 0, [11, 3, 0, 0, 0]), (.invokestatic 118, 0, [1000]), (.nop, 30, [])]
  | 30 => [(.return_, 0, [])]
  | _ => []
abbrev n_Ahead_next : Nat := 9
def b_Ahead_next : Nat → List Item
  | 0 => [(.aload_n 0, 0, []), (.getfield 11, 0, [11, 0, 2, 12, 0]), (.iload_n 1, 0, []), (.iconst 1, 0, []), (.iadd, 0, []), (.aaload, 0, []), (.aload_n 0, 0, []), (.getfield 11, 0, [11, 0, 2, 12, 0]), (.iload_n 1, 0, []), (.aaload, 0, []), (.invokevirtual 28, 24, [2, 0, 22, 2]), (.aload_n 0, 0, []), (.getfield 11, 0, [11, 0, 2, 12, 0]), (.iload_n 1, 0, []), (.iconst 1, 0, []), (.iadd, 0, []), (.aaload, 0, []), (.iload_n 2, 0, []), (.iload_n 3, 0, []), (.invokevirtual 124, 36, [3, 0, 22, 4]), (.return_, 0, [])]
  | _ => []
abbrev n_Ahead_ways : Nat := 10
def b_Ahead_ways : Nat → List Item
  | 0 => [(.aload_n 0, 0, []), (.getfield 11, 0, [11, 0, 2, 12, 0]), (.iconst 0, 0, []), (.aaload, 0, []), (.aload_n 1, 0, []), (.invokevirtual 28, 24, [2, 0, 22, 2]), (.aload_n 0, 0, []), (.iload_n 3, 0, []), (.putfield 70, 0, [11, 3, 0, 0, 0]), (.aload_n 0, 0, []), (.iload 4, 0, []), (.putfield 128, 0, [11, 5, 0, 0, 0]), (.aload_n 0, 0, []), (.iconst 0, 0, []), (.putfield 131, 0, [11, 7, 0, 0, 0]), (.iconst 0, 0, []), (.istore 5, 0, []), (.nop, 29, [])]
  | 29 => [(.iload 5, 0, []), (.iload_n 3, 0, []), (.if_icmp .ge 24, 56, []), (.aload_n 0, 0, []), (.getfield 21, 0, [11, 2, 2, 14, 0]), (.iload 5, 0, []), (.aload_n 2, 0, []), (.getfield 134, 10, [44, 0, 2, 45, 0]), (.iload 5, 0, []), (.laload, 0, []), (.l2i, 0, []), (.iastore, 0, []), (.iinc 5 1, 0, []), (.goto (-24), 29, [])]
  | 56 => [(.aload_n 0, 0, []), (.iconst 0, 0, []), (.invokevirtual 140, 11, [2, 1, 11, 7]), (.ireturn, 0, [])]
  | _ => []
abbrev n_Ahead_waysFrom : Nat := 11
def b_Ahead_waysFrom : Nat → List Item
  | 0 => [(.iload_n 1, 0, []), (.aload_n 0, 0, []), (.getfield 70, 0, [11, 3, 0, 0, 0]), (.if_icmp .ge 8, 13, []), (.iload_n 1, 0, []), (.iconst 4, 0, []), (.if_icmp .lt 5, 15, []), (.nop, 13, [])]
  | 13 => [(.iconst 1, 0, []), (.ireturn, 0, [])]
  | 15 => [(.aload_n 0, 0, []), (.getfield 11, 0, [11, 0, 2, 12, 0]), (.iload_n 1, 0, []), (.aaload, 0, []), (.astore_n 2, 0, []), (.aload_n 0, 0, []), (.getfield 21, 0, [11, 2, 2, 14, 0]), (.iload_n 1, 0, []), (.iaload, 0, []), (.istore_n 3, 0, []), (.iconst 0, 0, []), (.istore 4, 0, []), (.iconst 0, 0, []), (.istore 5, 0, []), (.nop, 35, [])]
  | 35 => [(.iload 5, 0, []), (.aload_n 2, 0, []), (.getfield 48, 3, [22, 1, 2, 27, 0]), (.getfield 58, 6, [27, 8, 0, 0, 0]), (.if_icmp .ge 85, 129, []), (.aload_n 2, 0, []), (.iload 5, 0, []), (.iload_n 3, 0, []), (.invokevirtual 143, 29, [3, 1, 22, 3]), (.ifCond .ne 6, 60, []), (.goto 66, 123, [])]
  | 60 => [(.iconst 1, 0, []), (.istore 6, 0, []), (.iload_n 1, 0, []), (.iconst 1, 0, []), (.iadd, 0, []), (.aload_n 0, 0, []), (.getfield 70, 0, [11, 3, 0, 0, 0]), (.if_icmp .ge 20, 90, []), (.aload_n 0, 0, []), (.iload_n 1, 0, []), (.iload 5, 0, []), (.iload_n 3, 0, []), (.invokevirtual 114, 9, [4, 0, 11, 4]), (.aload_n 0, 0, []), (.iload_n 1, 0, []), (.iconst 1, 0, []), (.iadd, 0, []), (.invokevirtual 140, 11, [2, 1, 11, 7]), (.istore 6, 0, []), (.nop, 90, [])]
  | 90 => [(.iload 6, 0, []), (.ifCond .le 24, 116, []), (.iload_n 1, 0, []), (.aload_n 0, 0, []), (.getfield 128, 0, [11, 5, 0, 0, 0]), (.if_icmp .ne 16, 116, []), (.aload_n 0, 0, []), (.dup, 0, []), (.getfield 131, 0, [11, 7, 0, 0, 0]), (.iconst 1, 0, []), (.iload 5, 0, []), (.ishl, 0, []), (.ior, 0, []), (.putfield 131, 0, [11, 7, 0, 0, 0]), (.nop, 116, [])]
  | 116 => [(.iload 4, 0, []), (.iload 6, 0, []), (.iadd, 0, []), (.istore 4, 0, []), (.nop, 123, [])]
  | 123 => [(.iinc 5 1, 0, []), (.goto (-91), 35, [])]
  | 129 => [(.iload 4, 0, []), (.ireturn, 0, [])]
  | _ => []
abbrev n_Days_clear : Nat := 12
def b_Days_clear : Nat → List Item
  | 0 => [(.aload_n 0, 0, []), (.iconst 0, 0, []), (.putfield 30, 1, [37, 6, 0, 0, 0]), (.aload_n 0, 0, []), (.iconst 0, 0, []), (.putfield 34, 1, [37, 7, 0, 0, 0]), (.aload_n 0, 0, []), (.iconst 0, 0, []), (.putfield 37, 1, [37, 8, 5, 0, 0]), (.return_, 0, [])]
  | _ => []
abbrev n_Days_copy : Nat := 13
def b_Days_copy : Nat → List Item
  | 0 => [(.aload_n 1, 0, []), (.getfield 11, 1, [37, 0, 2, 38, 0]), (.iconst 0, 0, []), (.aload_n 0, 0, []), (.getfield 11, 1, [37, 0, 2, 38, 0]), (.iconst 0, 0, []), (.aload_n 1, 0, []), (.getfield 30, 1, [37, 6, 0, 0, 0]), (.invokestatic 41, 0, [1000]), (.aload_n 1, 0, []), (.getfield 15, 1, [37, 1, 2, 39, 0]), (.iconst 0, 0, []), (.aload_n 0, 0, []), (.getfield 15, 1, [37, 1, 2, 39, 0]), (.iconst 0, 0, []), (.aload_n 1, 0, []), (.getfield 30, 1, [37, 6, 0, 0, 0]), (.invokestatic 41, 0, [1000]), (.aload_n 1, 0, []), (.getfield 18, 1, [37, 2, 2, 40, 0]), (.iconst 0, 0, []), (.aload_n 0, 0, []), (.getfield 18, 1, [37, 2, 2, 40, 0]), (.iconst 0, 0, []), (.aload_n 1, 0, []), (.getfield 30, 1, [37, 6, 0, 0, 0]), (.invokestatic 41, 0, [1000]), (.aload_n 1, 0, []), (.getfield 21, 1, [37, 3, 2, 41, 0]), (.iconst 0, 0, []), (.aload_n 0, 0, []), (.getfield 21, 1, [37, 3, 2, 41, 0]), (.iconst 0, 0, []), (.aload_n 1, 0, []), (.getfield 30, 1, [37, 6, 0, 0, 0]), (.invokestatic 41, 0, [1000]), (.aload_n 1, 0, []), (.getfield 24, 1, [37, 4, 2, 42, 0]), (.iconst 0, 0, []), (.aload_n 0, 0, []), (.getfield 24, 1, [37, 4, 2, 42, 0]), (.iconst 0, 0, []), (.aload_n 1, 0, []), (.getfield 30, 1, [37, 6, 0, 0, 0]), (.invokestatic 41, 0, [1000]), (.aload_n 1, 0, []), (.getfield 27, 1, [37, 5, 2, 43, 0]), (.iconst 0, 0, []), (.aload_n 0, 0, []), (.getfield 27, 1, [37, 5, 2, 43, 0]), (.iconst 0, 0, []), (.aload_n 1, 0, []), (.getfield 30, 1, [37, 6, 0, 0, 0]), (.invokestatic 41, 0, [1000]), (.aload_n 0, 0, []), (.aload_n 1, 0, []), (.getfield 30, 1, [37, 6, 0, 0, 0]), (.putfield 30, 1, [37, 6, 0, 0, 0]), (.aload_n 0, 0, []), (.aload_n 1, 0, []), (.getfield 34, 1, [37, 7, 0, 0, 0]), (.putfield 34, 1, [37, 7, 0, 0, 0]), (.aload_n 0, 0, []), (.aload_n 1, 0, []), (.getfield 37, 1, [37, 8, 5, 0, 0]), (.putfield 37, 1, [37, 8, 5, 0, 0]), (.return_, 0, [])]
  | _ => []
abbrev n_Days_add : Nat := 14
def b_Days_add : Nat → List Item
  | 0 => [(.aload_n 0, 0, []), (.getfield 30, 1, [37, 6, 0, 0, 0]), (.bipush 60, 0, []), (.if_icmp .lt 5, 11, []), (.iconst (-1), 0, []), (.ireturn, 0, [])]
  | 11 => [(.aload_n 0, 0, []), (.getfield 11, 1, [37, 0, 2, 38, 0]), (.aload_n 0, 0, []), (.getfield 30, 1, [37, 6, 0, 0, 0]), (.iload_n 1, 0, []), (.iastore, 0, []), (.aload_n 0, 0, []), (.getfield 15, 1, [37, 1, 2, 39, 0]), (.aload_n 0, 0, []), (.getfield 30, 1, [37, 6, 0, 0, 0]), (.iconst (-1), 0, []), (.iastore, 0, []), (.aload_n 0, 0, []), (.getfield 18, 1, [37, 2, 2, 40, 0]), (.aload_n 0, 0, []), (.getfield 30, 1, [37, 6, 0, 0, 0]), (.iconst 0, 0, []), (.iastore, 0, []), (.aload_n 0, 0, []), (.getfield 21, 1, [37, 3, 2, 41, 0]), (.aload_n 0, 0, []), (.getfield 30, 1, [37, 6, 0, 0, 0]), (.iconst (-1), 0, []), (.iastore, 0, []), (.aload_n 0, 0, []), (.getfield 24, 1, [37, 4, 2, 42, 0]), (.aload_n 0, 0, []), (.getfield 30, 1, [37, 6, 0, 0, 0]), (.iconst (-1), 0, []), (.iastore, 0, []), (.aload_n 0, 0, []), (.getfield 27, 1, [37, 5, 2, 43, 0]), (.aload_n 0, 0, []), (.getfield 30, 1, [37, 6, 0, 0, 0]), (.iconst (-1), 0, []), (.iastore, 0, []), (.aload_n 0, 0, []), (.dup, 0, []), (.getfield 30, 1, [37, 6, 0, 0, 0]), (.iconst 1, 0, []), (.iadd, 0, []), (.putfield 30, 1, [37, 6, 0, 0, 0]), (.aload_n 0, 0, []), (.getfield 30, 1, [37, 6, 0, 0, 0]), (.iconst 1, 0, []), (.isub, 0, []), (.ireturn, 0, [])]
  | _ => []
abbrev n_DaysReader_takes : Nat := 15
def b_DaysReader_takes : Nat → List Item
  | 0 => [(.aload_n 0, 0, []), (.aload_n 1, 0, []), (.putfield 19, 2, [7, 3, 3, 37, 5]), (.aload_n 0, 0, []), (.aload_n 2, 0, []), (.putfield 23, 2, [7, 4, 3, 22, 9]), (.aload_n 0, 0, []), (.getfield 19, 2, [7, 3, 3, 37, 5]), (.invokevirtual 27, 12, [1, 0, 37, 1]), (.aload_n 0, 0, []), (.iconst 0, 0, []), (.putfield 32, 2, [7, 2, 0, 0, 0]), (.iconst 0, 0, []), (.istore_n 3, 0, []), (.nop, 24, [])]
  | 24 => [(.iload_n 3, 0, []), (.sipush 300, 0, []), (.if_icmp .gt 50, 78, []), (.aload_n 0, 0, []), (.getfield 15, 2, [7, 0, 2, 3, 0]), (.getfield 36, 8, [3, 5, 0, 0, 0]), (.ifCond .eq 40, 78, []), (.aload_n 0, 0, []), (.getfield 15, 2, [7, 0, 2, 3, 0]), (.getfield 41, 8, [3, 7, 0, 0, 0]), (.bipush 21, 0, []), (.if_icmp .ne 13, 63, []), (.aload_n 0, 0, []), (.invokevirtual 44, 16, [1, 1, 7, 3]), (.ifCond .eq 13, 70, []), (.goto 12, 72, [])]
  | 63 => [(.aload_n 0, 0, []), (.invokevirtual 48, 17, [1, 1, 7, 3]), (.ifCond .ne 5, 72, []), (.nop, 70, [])]
  | 70 => [(.iconst 0, 0, []), (.ireturn, 1, [])]
  | 72 => [(.iinc 3 1, 0, []), (.goto (-51), 24, [])]
  | 78 => [(.aload_n 0, 0, []), (.getfield 19, 2, [7, 3, 3, 37, 5]), (.aload_n 0, 0, []), (.getfield 32, 2, [7, 2, 0, 0, 0]), (.ifCond .ne 7, 93, []), (.iconst 1, 0, []), (.goto 4, 94, [])]
  | 93 => [(.iconst 0, 0, []), (.nop, 94, [])]
  | 94 => [(.putfield 51, 1, [37, 8, 5, 0, 0]), (.aload_n 0, 0, []), (.getfield 19, 2, [7, 3, 3, 37, 5]), (.getfield 51, 1, [37, 8, 5, 0, 0]), (.ifCond .ne 14, 118, []), (.aload_n 0, 0, []), (.getfield 15, 2, [7, 0, 2, 3, 0]), (.iconst 2, 0, []), (.invokevirtual 55, 79, [2, 1, 3, 2]), (.ifCond .eq 7, 122, []), (.nop, 118, [])]
  | 118 => [(.iconst 1, 0, []), (.goto 4, 123, [])]
  | 122 => [(.iconst 0, 0, []), (.nop, 123, [])]
  | 123 => [(.ireturn, 1, [])]
  | _ => []
abbrev n_DaysReader_takesEnd : Nat := 16
def b_DaysReader_takesEnd : Nat → List Item
  | 0 => [(.aload_n 0, 0, []), (.getfield 32, 2, [7, 2, 0, 0, 0]), (.ifCond .gt 12, 16, []), (.aload_n 0, 0, []), (.getfield 15, 2, [7, 0, 2, 3, 0]), (.iconst 2, 0, []), (.invokevirtual 55, 79, [2, 1, 3, 2]), (.ireturn, 1, [])]
  | 16 => [(.aload_n 0, 0, []), (.dup, 0, []), (.getfield 32, 2, [7, 2, 0, 0, 0]), (.iconst 1, 0, []), (.isub, 0, []), (.putfield 32, 2, [7, 2, 0, 0, 0]), (.aload_n 0, 0, []), (.getfield 19, 2, [7, 3, 3, 37, 5]), (.bipush 21, 0, []), (.invokevirtual 59, 14, [2, 1, 37, 2]), (.istore_n 1, 0, []), (.aload_n 0, 0, []), (.getfield 9, 2, [7, 1, 2, 8, 0]), (.aload_n 0, 0, []), (.getfield 32, 2, [7, 2, 0, 0, 0]), (.iaload, 0, []), (.istore_n 2, 0, []), (.iload_n 1, 0, []), (.iconst (-1), 0, []), (.if_icmp .eq 7, 55, []), (.iload_n 2, 0, []), (.ifCond .ge 12, 64, []), (.nop, 55, [])]
  | 55 => [(.aload_n 0, 0, []), (.getfield 15, 2, [7, 0, 2, 3, 0]), (.iconst 2, 0, []), (.invokevirtual 55, 79, [2, 1, 3, 2]), (.ireturn, 1, [])]
  | 64 => [(.aload_n 0, 0, []), (.getfield 19, 2, [7, 3, 3, 37, 5]), (.getfield 63, 1, [37, 5, 2, 43, 0]), (.iload_n 1, 0, []), (.iload_n 2, 0, []), (.iastore, 0, []), (.aload_n 0, 0, []), (.getfield 19, 2, [7, 3, 3, 37, 5]), (.getfield 63, 1, [37, 5, 2, 43, 0]), (.iload_n 2, 0, []), (.iload_n 1, 0, []), (.iastore, 0, []), (.aload_n 0, 0, []), (.getfield 15, 2, [7, 0, 2, 3, 0]), (.invokevirtual 66, 75, [1, 0, 3, 1]), (.aload_n 0, 0, []), (.getfield 15, 2, [7, 0, 2, 3, 0]), (.invokevirtual 69, 82, [1, 1, 3, 1]), (.ireturn, 1, [])]
  | _ => []
abbrev n_DaysReader_takesStep : Nat := 17
def b_DaysReader_takesStep : Nat → List Item
  | 0 => [(.aload_n 0, 0, []), (.getfield 15, 2, [7, 0, 2, 3, 0]), (.getfield 41, 8, [3, 7, 0, 0, 0]), (.istore_n 1, 0, []), (.aload_n 0, 0, []), (.iload_n 1, 0, []), (.invokevirtual 72, 18, [2, 1, 7, 5]), (.istore_n 2, 0, []), (.iload_n 2, 0, []), (.iconst (-1), 0, []), (.if_icmp .ne 5, 21, []), (.iconst 0, 0, []), (.ireturn, 1, [])]
  | 21 => [(.aload_n 0, 0, []), (.getfield 15, 2, [7, 0, 2, 3, 0]), (.invokevirtual 66, 75, [1, 0, 3, 1]), (.iload_n 1, 0, []), (.tableswitch 157 11 20 #[55, 109, 109, 109, 157, 133, 157, 157, 157, 82], 186, [84, 138, 138, 138, 186, 162, 186, 186, 186, 111])]
  | 84 => [(.aload_n 0, 0, []), (.iload_n 2, 0, []), (.iconst 1, 0, []), (.bipush 60, 0, []), (.invokevirtual 75, 22, [4, 1, 7, 4]), (.ifCond .eq 17, 109, []), (.aload_n 0, 0, []), (.getfield 15, 2, [7, 0, 2, 3, 0]), (.invokevirtual 69, 82, [1, 1, 3, 1]), (.ifCond .eq 7, 109, []), (.iconst 1, 0, []), (.goto 4, 110, [])]
  | 109 => [(.iconst 0, 0, []), (.nop, 110, [])]
  | 110 => [(.ireturn, 1, [])]
  | 111 => [(.aload_n 0, 0, []), (.iload_n 2, 0, []), (.iconst 1, 0, []), (.bipush 99, 0, []), (.invokevirtual 75, 22, [4, 1, 7, 4]), (.ifCond .eq 17, 136, []), (.aload_n 0, 0, []), (.getfield 15, 2, [7, 0, 2, 3, 0]), (.invokevirtual 69, 82, [1, 1, 3, 1]), (.ifCond .eq 7, 136, []), (.iconst 1, 0, []), (.goto 4, 137, [])]
  | 136 => [(.iconst 0, 0, []), (.nop, 137, [])]
  | 137 => [(.ireturn, 1, [])]
  | 138 => [(.aload_n 0, 0, []), (.iload_n 2, 0, []), (.invokevirtual 79, 21, [2, 1, 7, 2]), (.ifCond .eq 17, 160, []), (.aload_n 0, 0, []), (.getfield 15, 2, [7, 0, 2, 3, 0]), (.invokevirtual 69, 82, [1, 1, 3, 1]), (.ifCond .eq 7, 160, []), (.iconst 1, 0, []), (.goto 4, 161, [])]
  | 160 => [(.iconst 0, 0, []), (.nop, 161, [])]
  | 161 => [(.ireturn, 1, [])]
  | 162 => [(.aload_n 0, 0, []), (.iload_n 2, 0, []), (.invokevirtual 82, 20, [2, 1, 7, 3]), (.ifCond .eq 17, 184, []), (.aload_n 0, 0, []), (.getfield 15, 2, [7, 0, 2, 3, 0]), (.invokevirtual 69, 82, [1, 1, 3, 1]), (.ifCond .eq 7, 184, []), (.iconst 1, 0, []), (.goto 4, 185, [])]
  | 184 => [(.iconst 0, 0, []), (.nop, 185, [])]
  | 185 => [(.ireturn, 1, [])]
  | 186 => [(.aload_n 0, 0, []), (.getfield 15, 2, [7, 0, 2, 3, 0]), (.invokevirtual 69, 82, [1, 1, 3, 1]), (.ireturn, 1, [])]
  | _ => []
abbrev n_DaysReader_addStep : Nat := 18
def b_DaysReader_addStep : Nat → List Item
  | 0 => [(.iload_n 1, 0, []), (.bipush 16, 0, []), (.if_icmp .eq 9, 12, []), (.iload_n 1, 0, []), (.bipush 20, 0, []), (.if_icmp .ne 7, 16, []), (.nop, 12, [])]
  | 12 => [(.iconst 1, 0, []), (.goto 4, 17, [])]
  | 16 => [(.iconst 0, 0, []), (.nop, 17, [])]
  | 17 => [(.istore_n 2, 0, []), (.iconst 0, 0, []), (.istore_n 3, 0, []), (.iload_n 1, 0, []), (.invokestatic 85, 19, [1, 1, 0, 1]), (.ifCond .ne 8, 32, []), (.iconst 2, 0, []), (.istore_n 3, 0, []), (.goto 36, 65, [])]
  | 32 => [(.aload_n 0, 0, []), (.getfield 19, 2, [7, 3, 3, 37, 5]), (.getfield 88, 1, [37, 7, 0, 0, 0]), (.bipush 30, 0, []), (.if_icmp .lt 9, 50, []), (.bipush 6, 0, []), (.istore_n 3, 0, []), (.goto 18, 65, [])]
  | 50 => [(.iload_n 2, 0, []), (.ifCond .eq 14, 65, []), (.aload_n 0, 0, []), (.getfield 32, 2, [7, 2, 0, 0, 0]), (.iconst 3, 0, []), (.if_icmp .lt 6, 65, []), (.bipush 7, 0, []), (.istore_n 3, 0, []), (.nop, 65, [])]
  | 65 => [(.iload_n 3, 0, []), (.ifCond .eq 14, 80, []), (.aload_n 0, 0, []), (.getfield 15, 2, [7, 0, 2, 3, 0]), (.iload_n 3, 0, []), (.invokevirtual 55, 79, [2, 1, 3, 2]), (.pop, 0, []), (.iconst (-1), 0, []), (.ireturn, 0, [])]
  | 80 => [(.aload_n 0, 0, []), (.getfield 19, 2, [7, 3, 3, 37, 5]), (.iload_n 1, 0, []), (.invokevirtual 59, 14, [2, 1, 37, 2]), (.istore 4, 0, []), (.aload_n 0, 0, []), (.getfield 19, 2, [7, 3, 3, 37, 5]), (.dup, 0, []), (.getfield 88, 1, [37, 7, 0, 0, 0]), (.iconst 1, 0, []), (.iadd, 0, []), (.putfield 88, 1, [37, 7, 0, 0, 0]), (.iload_n 2, 0, []), (.ifCond .eq 24, 128, []), (.aload_n 0, 0, []), (.getfield 9, 2, [7, 1, 2, 8, 0]), (.aload_n 0, 0, []), (.getfield 32, 2, [7, 2, 0, 0, 0]), (.iload 4, 0, []), (.iastore, 0, []), (.aload_n 0, 0, []), (.dup, 0, []), (.getfield 32, 2, [7, 2, 0, 0, 0]), (.iconst 1, 0, []), (.iadd, 0, []), (.putfield 32, 2, [7, 2, 0, 0, 0]), (.nop, 128, [])]
  | 128 => [(.iload 4, 0, []), (.ireturn, 0, [])]
  | _ => []
abbrev n_DaysReader_isStepWord : Nat := 19
def b_DaysReader_isStepWord : Nat → List Item
  | 0 => [(.iload_n 0, 0, []), (.bipush 11, 0, []), (.if_icmp .eq 45, 48, []), (.iload_n 0, 0, []), (.bipush 12, 0, []), (.if_icmp .eq 39, 48, []), (.iload_n 0, 0, []), (.bipush 13, 0, []), (.if_icmp .eq 33, 48, []), (.iload_n 0, 0, []), (.bipush 14, 0, []), (.if_icmp .eq 27, 48, []), (.iload_n 0, 0, []), (.bipush 15, 0, []), (.if_icmp .eq 21, 48, []), (.iload_n 0, 0, []), (.bipush 16, 0, []), (.if_icmp .eq 15, 48, []), (.iload_n 0, 0, []), (.bipush 20, 0, []), (.if_icmp .eq 9, 48, []), (.iload_n 0, 0, []), (.bipush 22, 0, []), (.if_icmp .ne 7, 52, []), (.nop, 48, [])]
  | 48 => [(.iconst 1, 0, []), (.goto 4, 53, [])]
  | 52 => [(.iconst 0, 0, []), (.nop, 53, [])]
  | 53 => [(.ireturn, 1, [])]
  | _ => []
abbrev n_DaysReader_takesTest : Nat := 20
def b_DaysReader_takesTest : Nat → List Item
  | 0 => [(.aload_n 0, 0, []), (.getfield 15, 2, [7, 0, 2, 3, 0]), (.getfield 41, 8, [3, 7, 0, 0, 0]), (.istore_n 2, 0, []), (.iload_n 2, 0, []), (.bipush 17, 0, []), (.if_icmp .eq 29, 40, []), (.iload_n 2, 0, []), (.bipush 18, 0, []), (.if_icmp .eq 23, 40, []), (.iload_n 2, 0, []), (.iconst 5, 0, []), (.if_icmp .eq 18, 40, []), (.iload_n 2, 0, []), (.bipush 19, 0, []), (.if_icmp .eq 12, 40, []), (.aload_n 0, 0, []), (.getfield 15, 2, [7, 0, 2, 3, 0]), (.iconst 2, 0, []), (.invokevirtual 55, 79, [2, 1, 3, 2]), (.ireturn, 1, [])]
  | 40 => [(.aload_n 0, 0, []), (.getfield 19, 2, [7, 3, 3, 37, 5]), (.getfield 91, 1, [37, 3, 2, 41, 0]), (.iload_n 1, 0, []), (.iload_n 2, 0, []), (.iastore, 0, []), (.aload_n 0, 0, []), (.getfield 15, 2, [7, 0, 2, 3, 0]), (.invokevirtual 66, 75, [1, 0, 3, 1]), (.iload_n 2, 0, []), (.bipush 18, 0, []), (.if_icmp .ne 46, 106, []), (.aload_n 0, 0, []), (.getfield 19, 2, [7, 3, 3, 37, 5]), (.getfield 94, 1, [37, 1, 2, 39, 0]), (.iload_n 1, 0, []), (.aload_n 0, 0, []), (.getfield 23, 2, [7, 4, 3, 22, 9]), (.getfield 97, 3, [22, 0, 2, 23, 0]), (.aload_n 0, 0, []), (.getfield 15, 2, [7, 0, 2, 3, 0]), (.getfield 103, 8, [3, 9, 1, 0, 0]), (.invokevirtual 107, 88, [2, 1, 23, 4]), (.iastore, 0, []), (.aload_n 0, 0, []), (.getfield 15, 2, [7, 0, 2, 3, 0]), (.aload_n 0, 0, []), (.getfield 19, 2, [7, 3, 3, 37, 5]), (.getfield 94, 1, [37, 1, 2, 39, 0]), (.iload_n 1, 0, []), (.iaload, 0, []), (.invokevirtual 113, 83, [2, 1, 3, 2]), (.ireturn, 1, [])]
  | 106 => [(.iload_n 2, 0, []), (.bipush 19, 0, []), (.if_icmp .eq 13, 122, []), (.aload_n 0, 0, []), (.iload_n 1, 0, []), (.invokevirtual 79, 21, [2, 1, 7, 2]), (.ifCond .ne 5, 122, []), (.iconst 0, 0, []), (.ireturn, 1, [])]
  | 122 => [(.iload_n 2, 0, []), (.bipush 17, 0, []), (.if_icmp .ne 5, 130, []), (.iconst 1, 0, []), (.ireturn, 1, [])]
  | 130 => [(.aload_n 0, 0, []), (.getfield 19, 2, [7, 3, 3, 37, 5]), (.getfield 116, 1, [37, 4, 2, 42, 0]), (.iload_n 1, 0, []), (.aload_n 0, 0, []), (.getfield 15, 2, [7, 0, 2, 3, 0]), (.invokevirtual 119, 84, [1, 1, 3, 2]), (.iastore, 0, []), (.aload_n 0, 0, []), (.getfield 19, 2, [7, 3, 3, 37, 5]), (.getfield 116, 1, [37, 4, 2, 42, 0]), (.iload_n 1, 0, []), (.iaload, 0, []), (.iconst (-1), 0, []), (.if_icmp .ne 5, 161, []), (.iconst 0, 0, []), (.ireturn, 1, [])]
  | 161 => [(.aload_n 0, 0, []), (.iload_n 1, 0, []), (.iconst 0, 0, []), (.iload_n 2, 0, []), (.iconst 5, 0, []), (.if_icmp .ne 8, 174, []), (.bipush 99, 0, []), (.goto 6, 177, [])]
  | 174 => [(.sipush 9999, 0, []), (.nop, 177, [])]
  | 177 => [(.invokevirtual 75, 22, [4, 1, 7, 4]), (.ireturn, 1, [])]
  | _ => []
abbrev n_DaysReader_takesMonk : Nat := 21
def b_DaysReader_takesMonk : Nat → List Item
  | 0 => [(.aload_n 0, 0, []), (.getfield 19, 2, [7, 3, 3, 37, 5]), (.getfield 94, 1, [37, 1, 2, 39, 0]), (.iload_n 1, 0, []), (.aload_n 0, 0, []), (.getfield 23, 2, [7, 4, 3, 22, 9]), (.getfield 123, 3, [22, 1, 2, 27, 0]), (.aload_n 0, 0, []), (.getfield 15, 2, [7, 0, 2, 3, 0]), (.getfield 103, 8, [3, 9, 1, 0, 0]), (.invokevirtual 127, 59, [2, 1, 27, 4]), (.iastore, 0, []), (.aload_n 0, 0, []), (.getfield 15, 2, [7, 0, 2, 3, 0]), (.aload_n 0, 0, []), (.getfield 19, 2, [7, 3, 3, 37, 5]), (.getfield 94, 1, [37, 1, 2, 39, 0]), (.iload_n 1, 0, []), (.iaload, 0, []), (.invokevirtual 113, 83, [2, 1, 3, 2]), (.ireturn, 1, [])]
  | _ => []
abbrev n_DaysReader_takesNumber : Nat := 22
def b_DaysReader_takesNumber : Nat → List Item
  | 0 => [(.aload_n 0, 0, []), (.getfield 19, 2, [7, 3, 3, 37, 5]), (.getfield 130, 1, [37, 2, 2, 40, 0]), (.iload_n 1, 0, []), (.aload_n 0, 0, []), (.getfield 15, 2, [7, 0, 2, 3, 0]), (.iload_n 2, 0, []), (.iload_n 3, 0, []), (.invokevirtual 133, 85, [3, 1, 3, 4]), (.iastore, 0, []), (.aload_n 0, 0, []), (.getfield 19, 2, [7, 3, 3, 37, 5]), (.getfield 130, 1, [37, 2, 2, 40, 0]), (.iload_n 1, 0, []), (.iaload, 0, []), (.iconst (-1), 0, []), (.if_icmp .eq 7, 35, []), (.iconst 1, 0, []), (.goto 4, 36, [])]
  | 35 => [(.iconst 0, 0, []), (.nop, 36, [])]
  | 36 => [(.ireturn, 1, [])]
  | _ => []
abbrev n_House_clear : Nat := 23
def b_House_clear : Nat → List Item
  | 0 => [(.aload_n 0, 0, []), (.getfield 12, 3, [22, 0, 2, 23, 0]), (.iconst 0, 0, []), (.putfield 42, 9, [23, 3, 0, 0, 0]), (.aload_n 0, 0, []), (.getfield 21, 3, [22, 1, 2, 27, 0]), (.invokevirtual 45, 56, [1, 0, 27, 1]), (.aload_n 0, 0, []), (.iconst 0, 0, []), (.putfield 48, 3, [22, 4, 0, 0, 0]), (.aload_n 0, 0, []), (.bipush 10, 0, []), (.putfield 32, 3, [22, 5, 0, 0, 0]), (.aload_n 0, 0, []), (.iconst 1, 0, []), (.putfield 36, 3, [22, 6, 0, 0, 0]), (.aload_n 0, 0, []), (.iconst 0, 0, []), (.putfield 51, 3, [22, 7, 0, 0, 0]), (.aload_n 0, 0, []), (.iconst 0, 0, []), (.putfield 54, 3, [22, 8, 0, 0, 0]), (.aload_n 0, 0, []), (.iconst 0, 0, []), (.putfield 57, 3, [22, 9, 0, 0, 0]), (.aload_n 0, 0, []), (.iconst 0, 0, []), (.putfield 60, 3, [22, 10, 0, 0, 0]), (.aload_n 0, 0, []), (.iconst (-1), 0, []), (.putfield 39, 3, [22, 11, 0, 0, 0]), (.return_, 0, [])]
  | _ => []
abbrev n_House_copy : Nat := 24
def b_House_copy : Nat → List Item
  | 0 => [(.aload_n 0, 0, []), (.getfield 12, 3, [22, 0, 2, 23, 0]), (.aload_n 1, 0, []), (.getfield 12, 3, [22, 0, 2, 23, 0]), (.invokevirtual 63, 86, [2, 0, 23, 2]), (.aload_n 0, 0, []), (.getfield 21, 3, [22, 1, 2, 27, 0]), (.aload_n 1, 0, []), (.getfield 21, 3, [22, 1, 2, 27, 0]), (.invokevirtual 67, 57, [2, 0, 27, 2]), (.aload_n 1, 0, []), (.getfield 25, 3, [22, 2, 2, 35, 0]), (.iconst 0, 0, []), (.aload_n 0, 0, []), (.getfield 25, 3, [22, 2, 2, 35, 0]), (.iconst 0, 0, []), (.bipush 12, 0, []), (.invokestatic 70, 0, [1000]), (.aload_n 1, 0, []), (.getfield 29, 3, [22, 3, 2, 36, 0]), (.iconst 0, 0, []), (.aload_n 0, 0, []), (.getfield 29, 3, [22, 3, 2, 36, 0]), (.iconst 0, 0, []), (.bipush 12, 0, []), (.invokestatic 70, 0, [1000]), (.aload_n 0, 0, []), (.aload_n 1, 0, []), (.getfield 48, 3, [22, 4, 0, 0, 0]), (.putfield 48, 3, [22, 4, 0, 0, 0]), (.aload_n 0, 0, []), (.aload_n 1, 0, []), (.getfield 32, 3, [22, 5, 0, 0, 0]), (.putfield 32, 3, [22, 5, 0, 0, 0]), (.aload_n 0, 0, []), (.aload_n 1, 0, []), (.getfield 36, 3, [22, 6, 0, 0, 0]), (.putfield 36, 3, [22, 6, 0, 0, 0]), (.aload_n 0, 0, []), (.aload_n 1, 0, []), (.getfield 51, 3, [22, 7, 0, 0, 0]), (.putfield 51, 3, [22, 7, 0, 0, 0]), (.aload_n 0, 0, []), (.aload_n 1, 0, []), (.getfield 54, 3, [22, 8, 0, 0, 0]), (.putfield 54, 3, [22, 8, 0, 0, 0]), (.aload_n 0, 0, []), (.aload_n 1, 0, []), (.getfield 57, 3, [22, 9, 0, 0, 0]), (.putfield 57, 3, [22, 9, 0, 0, 0]), (.aload_n 0, 0, []), (.aload_n 1, 0, []), (.getfield 60, 3, [22, 10, 0, 0, 0]), (.putfield 60, 3, [22, 10, 0, 0, 0]), (.aload_n 0, 0, []), (.aload_n 1, 0, []), (.getfield 39, 3, [22, 11, 0, 0, 0]), (.putfield 39, 3, [22, 11, 0, 0, 0]), (.return_, 0, [])]
  | _ => []
abbrev n_House_addEntry : Nat := 25
def b_House_addEntry : Nat → List Item
  | 0 => [(.aload_n 0, 0, []), (.getfield 48, 3, [22, 4, 0, 0, 0]), (.bipush 12, 0, []), (.if_icmp .lt 4, 10, []), (.return_, 0, [])]
  | 10 => [(.aload_n 0, 0, []), (.getfield 25, 3, [22, 2, 2, 35, 0]), (.aload_n 0, 0, []), (.getfield 48, 3, [22, 4, 0, 0, 0]), (.iload_n 1, 0, []), (.iastore, 0, []), (.aload_n 0, 0, []), (.getfield 29, 3, [22, 3, 2, 36, 0]), (.aload_n 0, 0, []), (.getfield 48, 3, [22, 4, 0, 0, 0]), (.iload_n 2, 0, []), (.iastore, 0, []), (.aload_n 0, 0, []), (.dup, 0, []), (.getfield 48, 3, [22, 4, 0, 0, 0]), (.iconst 1, 0, []), (.iadd, 0, []), (.putfield 48, 3, [22, 4, 0, 0, 0]), (.return_, 0, [])]
  | _ => []
abbrev n_House_dropEntry : Nat := 26
def b_House_dropEntry : Nat → List Item
  | 0 => [(.iload_n 1, 0, []), (.iconst 1, 0, []), (.iadd, 0, []), (.istore_n 2, 0, []), (.nop, 4, [])]
  | 4 => [(.iload_n 2, 0, []), (.aload_n 0, 0, []), (.getfield 48, 3, [22, 4, 0, 0, 0]), (.if_icmp .ge 37, 46, []), (.aload_n 0, 0, []), (.getfield 25, 3, [22, 2, 2, 35, 0]), (.iload_n 2, 0, []), (.iconst 1, 0, []), (.isub, 0, []), (.aload_n 0, 0, []), (.getfield 25, 3, [22, 2, 2, 35, 0]), (.iload_n 2, 0, []), (.iaload, 0, []), (.iastore, 0, []), (.aload_n 0, 0, []), (.getfield 29, 3, [22, 3, 2, 36, 0]), (.iload_n 2, 0, []), (.iconst 1, 0, []), (.isub, 0, []), (.aload_n 0, 0, []), (.getfield 29, 3, [22, 3, 2, 36, 0]), (.iload_n 2, 0, []), (.iaload, 0, []), (.iastore, 0, []), (.iinc 2 1, 0, []), (.goto (-39), 4, [])]
  | 46 => [(.aload_n 0, 0, []), (.dup, 0, []), (.getfield 48, 3, [22, 4, 0, 0, 0]), (.iconst 1, 0, []), (.isub, 0, []), (.putfield 48, 3, [22, 4, 0, 0, 0]), (.return_, 0, [])]
  | _ => []
abbrev n_House_mayTalk : Nat := 27
def b_House_mayTalk : Nat → List Item
  | 0 => [(.iload_n 1, 0, []), (.aload_n 0, 0, []), (.getfield 60, 3, [22, 10, 0, 0, 0]), (.if_icmp .eq 22, 27, []), (.aload_n 0, 0, []), (.getfield 21, 3, [22, 1, 2, 27, 0]), (.getfield 76, 6, [27, 7, 0, 0, 0]), (.iload_n 1, 0, []), (.ishr, 0, []), (.iconst 1, 0, []), (.iand, 0, []), (.iconst 1, 0, []), (.if_icmp .ne 7, 27, []), (.iconst 1, 0, []), (.goto 4, 28, [])]
  | 27 => [(.iconst 0, 0, []), (.nop, 28, [])]
  | 28 => [(.ireturn, 1, [])]
  | _ => []
abbrev n_House_open : Nat := 28
def b_House_open : Nat → List Item
  | 0 => [(.aload_n 0, 0, []), (.getfield 39, 3, [22, 11, 0, 0, 0]), (.iconst (-1), 0, []), (.if_icmp .ne 17, 22, []), (.iconst 1, 0, []), (.aload_n 0, 0, []), (.getfield 12, 3, [22, 0, 2, 23, 0]), (.getfield 42, 9, [23, 3, 0, 0, 0]), (.ishl, 0, []), (.iconst 1, 0, []), (.isub, 0, []), (.goto 15, 34, [])]
  | 22 => [(.aload_n 0, 0, []), (.getfield 12, 3, [22, 0, 2, 23, 0]), (.getfield 79, 9, [23, 2, 2, 26, 0]), (.aload_n 0, 0, []), (.getfield 39, 3, [22, 11, 0, 0, 0]), (.iaload, 0, []), (.nop, 34, [])]
  | 34 => [(.ireturn, 0, [])]
  | _ => []
abbrev n_House_canSay : Nat := 29
def b_House_canSay : Nat → List Item
  | 0 => [(.aload_n 0, 0, []), (.iload_n 1, 0, []), (.invokevirtual 82, 27, [2, 1, 22, 2]), (.ifCond .eq 39, 44, []), (.aload_n 0, 0, []), (.getfield 12, 3, [22, 0, 2, 23, 0]), (.getfield 86, 9, [23, 1, 2, 25, 0]), (.iload_n 2, 0, []), (.iaload, 0, []), (.aload_n 0, 0, []), (.getfield 21, 3, [22, 1, 2, 27, 0]), (.getfield 89, 6, [27, 1, 2, 29, 0]), (.iload_n 1, 0, []), (.iaload, 0, []), (.if_icmp .gt 18, 44, []), (.aload_n 0, 0, []), (.invokevirtual 92, 28, [1, 1, 22, 1]), (.iload_n 2, 0, []), (.invokestatic 96, 173, [2, 1, 0, 2]), (.ifCond .eq 7, 44, []), (.iconst 1, 0, []), (.goto 4, 45, [])]
  | 44 => [(.iconst 0, 0, []), (.nop, 45, [])]
  | 45 => [(.ireturn, 1, [])]
  | _ => []
abbrev n_House_sayable : Nat := 30
def b_House_sayable : Nat → List Item
  | 0 => [(.aload_n 0, 0, []), (.iload_n 1, 0, []), (.invokevirtual 82, 27, [2, 1, 22, 2]), (.ifCond .eq 26, 31, []), (.aload_n 0, 0, []), (.getfield 12, 3, [22, 0, 2, 23, 0]), (.aload_n 0, 0, []), (.invokevirtual 92, 28, [1, 1, 22, 1]), (.aload_n 0, 0, []), (.getfield 21, 3, [22, 1, 2, 27, 0]), (.getfield 89, 6, [27, 1, 2, 29, 0]), (.iload_n 1, 0, []), (.iaload, 0, []), (.invokevirtual 100, 90, [3, 1, 23, 5]), (.goto 4, 32, [])]
  | 31 => [(.iconst 0, 0, []), (.nop, 32, [])]
  | 32 => [(.ireturn, 0, [])]
  | _ => []
abbrev n_House_speech : Nat := 31
def b_House_speech : Nat → List Item
  | 0 => [(.aload_n 0, 0, []), (.invokevirtual 104, 32, [1, 1, 22, 4]), (.istore_n 1, 0, []), (.iload_n 1, 0, []), (.iconst (-1), 0, []), (.if_icmp .ne 10, 17, []), (.aload_n 0, 0, []), (.invokevirtual 107, 33, [1, 1, 22, 3]), (.goto 4, 18, [])]
  | 17 => [(.iload_n 1, 0, []), (.nop, 18, [])]
  | 18 => [(.ireturn, 0, [])]
  | _ => []
abbrev n_House_rosteredSpeech : Nat := 32
def b_House_rosteredSpeech : Nat → List Item
  | 0 => [(.aload_n 0, 0, []), (.getfield 48, 3, [22, 4, 0, 0, 0]), (.ifCond .gt 5, 9, []), (.iconst (-1), 0, []), (.ireturn, 0, [])]
  | 9 => [(.aload_n 0, 0, []), (.getfield 51, 3, [22, 7, 0, 0, 0]), (.aload_n 0, 0, []), (.getfield 48, 3, [22, 4, 0, 0, 0]), (.irem, 0, []), (.istore_n 1, 0, []), (.aload_n 0, 0, []), (.getfield 25, 3, [22, 2, 2, 35, 0]), (.iload_n 1, 0, []), (.iaload, 0, []), (.istore_n 2, 0, []), (.aload_n 0, 0, []), (.getfield 29, 3, [22, 3, 2, 36, 0]), (.iload_n 1, 0, []), (.iaload, 0, []), (.istore_n 3, 0, []), (.aload_n 0, 0, []), (.iload_n 2, 0, []), (.iload_n 3, 0, []), (.invokevirtual 110, 29, [3, 1, 22, 3]), (.ifCond .eq 11, 50, []), (.iload_n 2, 0, []), (.iload_n 3, 0, []), (.invokestatic 113, 177, [2, 1, 0, 2]), (.goto 4, 51, [])]
  | 50 => [(.iconst (-1), 0, []), (.nop, 51, [])]
  | 51 => [(.ireturn, 0, [])]
  | _ => []
abbrev n_House_helpingSpeech : Nat := 33
def b_House_helpingSpeech : Nat → List Item
  | 0 => [(.iconst 0, 0, []), (.istore_n 1, 0, []), (.nop, 2, [])]
  | 2 => [(.iload_n 1, 0, []), (.aload_n 0, 0, []), (.getfield 21, 3, [22, 1, 2, 27, 0]), (.getfield 116, 6, [27, 8, 0, 0, 0]), (.if_icmp .ge 53, 63, []), (.aload_n 0, 0, []), (.iload_n 1, 0, []), (.invokevirtual 82, 27, [2, 1, 22, 2]), (.ifCond .eq 26, 44, []), (.aload_n 0, 0, []), (.getfield 12, 3, [22, 0, 2, 23, 0]), (.aload_n 0, 0, []), (.invokevirtual 92, 28, [1, 1, 22, 1]), (.aload_n 0, 0, []), (.getfield 21, 3, [22, 1, 2, 27, 0]), (.getfield 89, 6, [27, 1, 2, 29, 0]), (.iload_n 1, 0, []), (.iaload, 0, []), (.invokevirtual 117, 91, [3, 1, 23, 4]), (.goto 4, 45, [])]
  | 44 => [(.iconst (-1), 0, []), (.nop, 45, [])]
  | 45 => [(.istore_n 2, 0, []), (.iload_n 2, 0, []), (.iconst (-1), 0, []), (.if_icmp .eq 9, 57, []), (.iload_n 1, 0, []), (.iload_n 2, 0, []), (.invokestatic 113, 177, [2, 1, 0, 2]), (.ireturn, 0, [])]
  | 57 => [(.iinc 1 1, 0, []), (.goto (-58), 2, [])]
  | 63 => [(.iconst (-1), 0, []), (.ireturn, 0, [])]
  | _ => []
abbrev n_House_pass : Nat := 34
def b_House_pass : Nat → List Item
  | 0 => [(.aload_n 0, 0, []), (.getfield 54, 3, [22, 8, 0, 0, 0]), (.istore_n 2, 0, []), (.iconst 0, 0, []), (.istore_n 3, 0, []), (.nop, 7, [])]
  | 7 => [(.iload_n 3, 0, []), (.iload_n 1, 0, []), (.if_icmp .ge 14, 23, []), (.aload_n 0, 0, []), (.invokevirtual 120, 35, [1, 1, 22, 2]), (.pop, 0, []), (.iinc 3 1, 0, []), (.goto (-13), 7, [])]
  | 23 => [(.aload_n 0, 0, []), (.getfield 54, 3, [22, 8, 0, 0, 0]), (.iload_n 2, 0, []), (.isub, 0, []), (.ireturn, 0, [])]
  | _ => []
abbrev n_House_passOne : Nat := 35
def b_House_passOne : Nat → List Item
  | 0 => [(.aload_n 0, 0, []), (.invokevirtual 104, 32, [1, 1, 22, 4]), (.istore_n 1, 0, []), (.iload_n 1, 0, []), (.iconst (-1), 0, []), (.if_icmp .ne 36, 43, []), (.aload_n 0, 0, []), (.invokevirtual 107, 33, [1, 1, 22, 3]), (.istore_n 1, 0, []), (.iload_n 1, 0, []), (.iconst (-1), 0, []), (.if_icmp .ne 16, 33, []), (.aload_n 0, 0, []), (.dup, 0, []), (.getfield 54, 3, [22, 8, 0, 0, 0]), (.iconst 1, 0, []), (.iadd, 0, []), (.putfield 54, 3, [22, 8, 0, 0, 0]), (.goto 13, 43, [])]
  | 33 => [(.aload_n 0, 0, []), (.dup, 0, []), (.getfield 57, 3, [22, 9, 0, 0, 0]), (.iconst 1, 0, []), (.iadd, 0, []), (.putfield 57, 3, [22, 9, 0, 0, 0]), (.nop, 43, [])]
  | 43 => [(.aload_n 0, 0, []), (.iload_n 1, 0, []), (.invokestatic 124, 178, [1, 1, 0, 1]), (.iload_n 1, 0, []), (.invokestatic 128, 179, [1, 1, 0, 1]), (.invokevirtual 131, 36, [3, 0, 22, 4]), (.iload_n 1, 0, []), (.iconst (-1), 0, []), (.if_icmp .eq 7, 64, []), (.iconst 1, 0, []), (.goto 4, 65, [])]
  | 64 => [(.iconst 0, 0, []), (.nop, 65, [])]
  | 65 => [(.ireturn, 1, [])]
  | _ => []
abbrev n_House_goBy : Nat := 36
def b_House_goBy : Nat → List Item
  | 0 => [(.iconst 0, 0, []), (.istore_n 3, 0, []), (.nop, 2, [])]
  | 2 => [(.iload_n 3, 0, []), (.aload_n 0, 0, []), (.getfield 21, 3, [22, 1, 2, 27, 0]), (.getfield 116, 6, [27, 8, 0, 0, 0]), (.if_icmp .ge 73, 83, []), (.iload_n 3, 0, []), (.iload_n 1, 0, []), (.if_icmp .eq 24, 39, []), (.aload_n 0, 0, []), (.getfield 21, 3, [22, 1, 2, 27, 0]), (.getfield 89, 6, [27, 1, 2, 29, 0]), (.iload_n 3, 0, []), (.aload_n 0, 0, []), (.getfield 21, 3, [22, 1, 2, 27, 0]), (.iload_n 3, 0, []), (.iconst 1, 0, []), (.invokevirtual 135, 63, [3, 1, 27, 4]), (.iastore, 0, []), (.goto 41, 77, [])]
  | 39 => [(.iload_n 2, 0, []), (.ifCond .lt 37, 77, []), (.aload_n 0, 0, []), (.getfield 21, 3, [22, 1, 2, 27, 0]), (.getfield 89, 6, [27, 1, 2, 29, 0]), (.iload_n 3, 0, []), (.dup2, 0, []), (.iaload, 0, []), (.aload_n 0, 0, []), (.getfield 12, 3, [22, 0, 2, 23, 0]), (.getfield 86, 9, [23, 1, 2, 25, 0]), (.iload_n 2, 0, []), (.iaload, 0, []), (.isub, 0, []), (.iastore, 0, []), (.aload_n 0, 0, []), (.getfield 21, 3, [22, 1, 2, 27, 0]), (.getfield 138, 6, [27, 4, 2, 32, 0]), (.iload_n 3, 0, []), (.dup2, 0, []), (.iaload, 0, []), (.iconst 1, 0, []), (.iadd, 0, []), (.iastore, 0, []), (.nop, 77, [])]
  | 77 => [(.iinc 3 1, 0, []), (.goto (-78), 2, [])]
  | 83 => [(.aload_n 0, 0, []), (.iload_n 2, 0, []), (.putfield 39, 3, [22, 11, 0, 0, 0]), (.aload_n 0, 0, []), (.dup, 0, []), (.getfield 51, 3, [22, 7, 0, 0, 0]), (.iconst 1, 0, []), (.iadd, 0, []), (.putfield 51, 3, [22, 7, 0, 0, 0]), (.aload_n 0, 0, []), (.getfield 21, 3, [22, 1, 2, 27, 0]), (.getfield 116, 6, [27, 8, 0, 0, 0]), (.ifCond .gt 4, 109, []), (.return_, 0, [])]
  | 109 => [(.aload_n 0, 0, []), (.getfield 21, 3, [22, 1, 2, 27, 0]), (.getfield 141, 6, [27, 5, 2, 33, 0]), (.aload_n 0, 0, []), (.getfield 60, 3, [22, 10, 0, 0, 0]), (.dup2, 0, []), (.iaload, 0, []), (.iconst 1, 0, []), (.iadd, 0, []), (.iastore, 0, []), (.aload_n 0, 0, []), (.getfield 32, 3, [22, 5, 0, 0, 0]), (.ifCond .le 33, 162, []), (.aload_n 0, 0, []), (.getfield 51, 3, [22, 7, 0, 0, 0]), (.aload_n 0, 0, []), (.getfield 32, 3, [22, 5, 0, 0, 0]), (.irem, 0, []), (.ifCond .ne 21, 162, []), (.aload_n 0, 0, []), (.aload_n 0, 0, []), (.getfield 60, 3, [22, 10, 0, 0, 0]), (.iconst 1, 0, []), (.iadd, 0, []), (.aload_n 0, 0, []), (.getfield 21, 3, [22, 1, 2, 27, 0]), (.getfield 116, 6, [27, 8, 0, 0, 0]), (.irem, 0, []), (.putfield 60, 3, [22, 10, 0, 0, 0]), (.nop, 162, [])]
  | 162 => [(.return_, 0, [])]
  | _ => []
abbrev n_House_untilSilent : Nat := 37
def b_House_untilSilent : Nat → List Item
  | 0 => [(.aload_n 0, 0, []), (.getfield 21, 3, [22, 1, 2, 27, 0]), (.getfield 116, 6, [27, 8, 0, 0, 0]), (.ifCond .le 18, 25, []), (.aload_n 0, 0, []), (.getfield 32, 3, [22, 5, 0, 0, 0]), (.ifCond .le 11, 25, []), (.iload_n 1, 0, []), (.aload_n 0, 0, []), (.getfield 60, 3, [22, 10, 0, 0, 0]), (.if_icmp .ne 5, 27, []), (.nop, 25, [])]
  | 25 => [(.iconst 0, 0, []), (.ireturn, 0, [])]
  | 27 => [(.iload_n 1, 0, []), (.aload_n 0, 0, []), (.getfield 60, 3, [22, 10, 0, 0, 0]), (.isub, 0, []), (.aload_n 0, 0, []), (.getfield 21, 3, [22, 1, 2, 27, 0]), (.getfield 116, 6, [27, 8, 0, 0, 0]), (.invokestatic 144, 333, [2, 1, 0, 3]), (.istore_n 2, 0, []), (.aload_n 0, 0, []), (.getfield 32, 3, [22, 5, 0, 0, 0]), (.aload_n 0, 0, []), (.getfield 51, 3, [22, 7, 0, 0, 0]), (.aload_n 0, 0, []), (.getfield 32, 3, [22, 5, 0, 0, 0]), (.irem, 0, []), (.isub, 0, []), (.iload_n 2, 0, []), (.iconst 1, 0, []), (.isub, 0, []), (.aload_n 0, 0, []), (.getfield 32, 3, [22, 5, 0, 0, 0]), (.imul, 0, []), (.iadd, 0, []), (.ireturn, 0, [])]
  | _ => []
abbrev n_HouseReader_takes : Nat := 38
def b_HouseReader_takes : Nat → List Item
  | 0 => [(.aload_n 0, 0, []), (.aload_n 1, 0, []), (.putfield 15, 4, [6, 1, 3, 22, 9]), (.aload_n 0, 0, []), (.getfield 15, 4, [6, 1, 3, 22, 9]), (.invokevirtual 19, 23, [1, 0, 22, 1]), (.aload_n 0, 0, []), (.iconst 0, 0, []), (.putfield 24, 4, [6, 2, 5, 0, 0]), (.aload_n 0, 0, []), (.iconst 0, 0, []), (.putfield 28, 4, [6, 3, 5, 0, 0]), (.iconst 0, 0, []), (.istore_n 2, 0, []), (.nop, 24, [])]
  | 24 => [(.iload_n 2, 0, []), (.sipush 900, 0, []), (.if_icmp .gt 28, 56, []), (.aload_n 0, 0, []), (.getfield 9, 4, [6, 0, 2, 3, 0]), (.getfield 31, 8, [3, 5, 0, 0, 0]), (.ifCond .eq 18, 56, []), (.aload_n 0, 0, []), (.invokevirtual 37, 39, [1, 1, 6, 1]), (.ifCond .ne 5, 50, []), (.iconst 0, 0, []), (.ireturn, 1, [])]
  | 50 => [(.iinc 2 1, 0, []), (.goto (-29), 24, [])]
  | 56 => [(.iconst 1, 0, []), (.ireturn, 1, [])]
  | _ => []
abbrev n_HouseReader_takesPart : Nat := 39
def b_HouseReader_takesPart : Nat → List Item
  | 0 => [(.aload_n 0, 0, []), (.getfield 9, 4, [6, 0, 2, 3, 0]), (.getfield 41, 8, [3, 7, 0, 0, 0]), (.tableswitch 92 0 10 #[57, 62, 67, 92, 72, 92, 92, 92, 77, 82, 87], 99, [64, 69, 74, 99, 79, 99, 99, 99, 84, 89, 94])]
  | 64 => [(.aload_n 0, 0, []), (.invokevirtual 44, 40, [1, 1, 6, 2]), (.ireturn, 1, [])]
  | 69 => [(.aload_n 0, 0, []), (.invokevirtual 47, 41, [1, 1, 6, 2]), (.ireturn, 1, [])]
  | 74 => [(.aload_n 0, 0, []), (.invokevirtual 50, 42, [1, 1, 6, 4]), (.ireturn, 1, [])]
  | 79 => [(.aload_n 0, 0, []), (.invokevirtual 53, 43, [1, 1, 6, 6]), (.ireturn, 1, [])]
  | 84 => [(.aload_n 0, 0, []), (.invokevirtual 56, 45, [1, 1, 6, 3]), (.ireturn, 1, [])]
  | 89 => [(.aload_n 0, 0, []), (.invokevirtual 59, 46, [1, 1, 6, 3]), (.ireturn, 1, [])]
  | 94 => [(.aload_n 0, 0, []), (.invokevirtual 62, 47, [1, 1, 6, 3]), (.ireturn, 1, [])]
  | 99 => [(.aload_n 0, 0, []), (.getfield 9, 4, [6, 0, 2, 3, 0]), (.iconst 2, 0, []), (.invokevirtual 65, 79, [2, 1, 3, 2]), (.ireturn, 1, [])]
  | _ => []
abbrev n_HouseReader_takesTurn : Nat := 40
def b_HouseReader_takesTurn : Nat → List Item
  | 0 => [(.aload_n 0, 0, []), (.getfield 24, 4, [6, 2, 5, 0, 0]), (.ifCond .eq 12, 16, []), (.aload_n 0, 0, []), (.getfield 9, 4, [6, 0, 2, 3, 0]), (.iconst 5, 0, []), (.invokevirtual 65, 79, [2, 1, 3, 2]), (.ireturn, 1, [])]
  | 16 => [(.aload_n 0, 0, []), (.iconst 1, 0, []), (.putfield 24, 4, [6, 2, 5, 0, 0]), (.aload_n 0, 0, []), (.getfield 9, 4, [6, 0, 2, 3, 0]), (.invokevirtual 69, 75, [1, 0, 3, 1]), (.aload_n 0, 0, []), (.getfield 9, 4, [6, 0, 2, 3, 0]), (.iconst 1, 0, []), (.bipush 99, 0, []), (.invokevirtual 72, 85, [3, 1, 3, 4]), (.istore_n 1, 0, []), (.iload_n 1, 0, []), (.iconst (-1), 0, []), (.if_icmp .ne 5, 46, []), (.iconst 0, 0, []), (.ireturn, 1, [])]
  | 46 => [(.aload_n 0, 0, []), (.getfield 15, 4, [6, 1, 3, 22, 9]), (.iload_n 1, 0, []), (.putfield 76, 3, [22, 5, 0, 0, 0]), (.aload_n 0, 0, []), (.getfield 9, 4, [6, 0, 2, 3, 0]), (.invokevirtual 79, 82, [1, 1, 3, 1]), (.ireturn, 1, [])]
  | _ => []
abbrev n_HouseReader_takesOdds : Nat := 41
def b_HouseReader_takesOdds : Nat → List Item
  | 0 => [(.aload_n 0, 0, []), (.getfield 28, 4, [6, 3, 5, 0, 0]), (.ifCond .eq 12, 16, []), (.aload_n 0, 0, []), (.getfield 9, 4, [6, 0, 2, 3, 0]), (.iconst 5, 0, []), (.invokevirtual 65, 79, [2, 1, 3, 2]), (.ireturn, 1, [])]
  | 16 => [(.aload_n 0, 0, []), (.iconst 1, 0, []), (.putfield 28, 4, [6, 3, 5, 0, 0]), (.aload_n 0, 0, []), (.getfield 9, 4, [6, 0, 2, 3, 0]), (.invokevirtual 69, 75, [1, 0, 3, 1]), (.aload_n 0, 0, []), (.getfield 9, 4, [6, 0, 2, 3, 0]), (.iconst 0, 0, []), (.bipush 16, 0, []), (.invokevirtual 72, 85, [3, 1, 3, 4]), (.istore_n 1, 0, []), (.iload_n 1, 0, []), (.iconst (-1), 0, []), (.if_icmp .ne 5, 46, []), (.iconst 0, 0, []), (.ireturn, 1, [])]
  | 46 => [(.aload_n 0, 0, []), (.getfield 15, 4, [6, 1, 3, 22, 9]), (.iload_n 1, 0, []), (.putfield 82, 3, [22, 6, 0, 0, 0]), (.aload_n 0, 0, []), (.getfield 9, 4, [6, 0, 2, 3, 0]), (.invokevirtual 79, 82, [1, 1, 3, 1]), (.ireturn, 1, [])]
  | _ => []
abbrev n_HouseReader_takesTopic : Nat := 42
def b_HouseReader_takesTopic : Nat → List Item
  | 0 => [(.aload_n 0, 0, []), (.getfield 15, 4, [6, 1, 3, 22, 9]), (.getfield 85, 3, [22, 0, 2, 23, 0]), (.getfield 89, 9, [23, 3, 0, 0, 0]), (.bipush 6, 0, []), (.if_icmp .lt 13, 25, []), (.aload_n 0, 0, []), (.getfield 9, 4, [6, 0, 2, 3, 0]), (.bipush 6, 0, []), (.invokevirtual 65, 79, [2, 1, 3, 2]), (.ireturn, 1, [])]
  | 25 => [(.aload_n 0, 0, []), (.getfield 9, 4, [6, 0, 2, 3, 0]), (.invokevirtual 69, 75, [1, 0, 3, 1]), (.aload_n 0, 0, []), (.invokevirtual 94, 44, [1, 1, 6, 3]), (.lstore_n 1, 0, []), (.lload_n 1, 0, []), (.lconst 0, 0, []), (.lcmp, 0, []), (.ifCond .eq 14, 54, []), (.aload_n 0, 0, []), (.getfield 9, 4, [6, 0, 2, 3, 0]), (.iconst 3, 0, []), (.invokevirtual 98, 81, [2, 1, 3, 2]), (.ifCond .ne 5, 56, []), (.nop, 54, [])]
  | 54 => [(.iconst 0, 0, []), (.ireturn, 1, [])]
  | 56 => [(.aload_n 0, 0, []), (.getfield 9, 4, [6, 0, 2, 3, 0]), (.iconst 0, 0, []), (.bipush 20, 0, []), (.invokevirtual 72, 85, [3, 1, 3, 4]), (.istore_n 3, 0, []), (.iload_n 3, 0, []), (.iconst (-1), 0, []), (.if_icmp .ne 5, 74, []), (.iconst 0, 0, []), (.ireturn, 1, [])]
  | 74 => [(.aload_n 0, 0, []), (.getfield 15, 4, [6, 1, 3, 22, 9]), (.getfield 85, 3, [22, 0, 2, 23, 0]), (.lload_n 1, 0, []), (.iload_n 3, 0, []), (.invokevirtual 101, 87, [3, 0, 23, 4]), (.aload_n 0, 0, []), (.getfield 9, 4, [6, 0, 2, 3, 0]), (.invokevirtual 79, 82, [1, 1, 3, 1]), (.ireturn, 1, [])]
  | _ => []
abbrev n_HouseReader_takesMonk : Nat := 43
def b_HouseReader_takesMonk : Nat → List Item
  | 0 => [(.aload_n 0, 0, []), (.getfield 15, 4, [6, 1, 3, 22, 9]), (.getfield 105, 3, [22, 1, 2, 27, 0]), (.getfield 109, 6, [27, 8, 0, 0, 0]), (.bipush 7, 0, []), (.if_icmp .lt 13, 25, []), (.aload_n 0, 0, []), (.getfield 9, 4, [6, 0, 2, 3, 0]), (.bipush 6, 0, []), (.invokevirtual 65, 79, [2, 1, 3, 2]), (.ireturn, 1, [])]
  | 25 => [(.aload_n 0, 0, []), (.getfield 9, 4, [6, 0, 2, 3, 0]), (.invokevirtual 69, 75, [1, 0, 3, 1]), (.aload_n 0, 0, []), (.invokevirtual 94, 44, [1, 1, 6, 3]), (.lstore_n 1, 0, []), (.lload_n 1, 0, []), (.lconst 0, 0, []), (.lcmp, 0, []), (.ifCond .eq 14, 54, []), (.aload_n 0, 0, []), (.getfield 9, 4, [6, 0, 2, 3, 0]), (.iconst 5, 0, []), (.invokevirtual 98, 81, [2, 1, 3, 2]), (.ifCond .ne 5, 56, []), (.nop, 54, [])]
  | 54 => [(.iconst 0, 0, []), (.ireturn, 1, [])]
  | 56 => [(.aload_n 0, 0, []), (.getfield 9, 4, [6, 0, 2, 3, 0]), (.iconst 0, 0, []), (.bipush 99, 0, []), (.invokevirtual 72, 85, [3, 1, 3, 4]), (.istore_n 3, 0, []), (.iload_n 3, 0, []), (.iconst (-1), 0, []), (.if_icmp .ne 5, 74, []), (.iconst 0, 0, []), (.ireturn, 1, [])]
  | 74 => [(.iconst 1, 0, []), (.istore 4, 0, []), (.aload_n 0, 0, []), (.getfield 9, 4, [6, 0, 2, 3, 0]), (.getfield 41, 8, [3, 7, 0, 0, 0]), (.bipush 6, 0, []), (.if_icmp .ne 22, 108, []), (.aload_n 0, 0, []), (.getfield 9, 4, [6, 0, 2, 3, 0]), (.invokevirtual 69, 75, [1, 0, 3, 1]), (.aload_n 0, 0, []), (.getfield 9, 4, [6, 0, 2, 3, 0]), (.iconst 0, 0, []), (.bipush 9, 0, []), (.invokevirtual 72, 85, [3, 1, 3, 4]), (.istore 4, 0, []), (.nop, 108, [])]
  | 108 => [(.iload 4, 0, []), (.iconst (-1), 0, []), (.if_icmp .ne 5, 116, []), (.iconst 0, 0, []), (.ireturn, 1, [])]
  | 116 => [(.aload_n 0, 0, []), (.getfield 9, 4, [6, 0, 2, 3, 0]), (.getfield 41, 8, [3, 7, 0, 0, 0]), (.bipush 7, 0, []), (.if_icmp .ne 7, 132, []), (.iconst 1, 0, []), (.goto 4, 133, [])]
  | 132 => [(.iconst 0, 0, []), (.nop, 133, [])]
  | 133 => [(.istore 5, 0, []), (.iload 5, 0, []), (.ifCond .eq 10, 147, []), (.aload_n 0, 0, []), (.getfield 9, 4, [6, 0, 2, 3, 0]), (.invokevirtual 69, 75, [1, 0, 3, 1]), (.nop, 147, [])]
  | 147 => [(.aload_n 0, 0, []), (.getfield 15, 4, [6, 1, 3, 22, 9]), (.getfield 105, 3, [22, 1, 2, 27, 0]), (.lload_n 1, 0, []), (.iload_n 3, 0, []), (.iload 4, 0, []), (.iload 5, 0, []), (.ifCond .ne 7, 167, []), (.iconst 1, 0, []), (.goto 4, 168, [])]
  | 167 => [(.iconst 0, 0, []), (.nop, 168, [])]
  | 168 => [(.invokevirtual 112, 58, [5, 0, 27, 6]), (.aload_n 0, 0, []), (.getfield 9, 4, [6, 0, 2, 3, 0]), (.invokevirtual 79, 82, [1, 1, 3, 1]), (.ireturn, 1, [])]
  | _ => []
abbrev n_HouseReader_takeNewName : Nat := 44
def b_HouseReader_takeNewName : Nat → List Item
  | 0 => [(.aload_n 0, 0, []), (.getfield 9, 4, [6, 0, 2, 3, 0]), (.invokevirtual 115, 80, [1, 1, 3, 1]), (.ifCond .ne 14, 21, []), (.aload_n 0, 0, []), (.getfield 9, 4, [6, 0, 2, 3, 0]), (.iconst 2, 0, []), (.invokevirtual 65, 79, [2, 1, 3, 2]), (.pop, 0, []), (.lconst 0, 0, []), (.lreturn, 0, [])]
  | 21 => [(.aload_n 0, 0, []), (.getfield 9, 4, [6, 0, 2, 3, 0]), (.getfield 118, 8, [3, 9, 1, 0, 0]), (.lstore_n 1, 0, []), (.aload_n 0, 0, []), (.getfield 15, 4, [6, 1, 3, 22, 9]), (.getfield 85, 3, [22, 0, 2, 23, 0]), (.lload_n 1, 0, []), (.invokevirtual 122, 88, [2, 1, 23, 4]), (.iconst (-1), 0, []), (.if_icmp .ne 18, 59, []), (.aload_n 0, 0, []), (.getfield 15, 4, [6, 1, 3, 22, 9]), (.getfield 105, 3, [22, 1, 2, 27, 0]), (.lload_n 1, 0, []), (.invokevirtual 126, 59, [2, 1, 27, 4]), (.iconst (-1), 0, []), (.if_icmp .eq 14, 70, []), (.nop, 59, [])]
  | 59 => [(.aload_n 0, 0, []), (.getfield 9, 4, [6, 0, 2, 3, 0]), (.iconst 3, 0, []), (.invokevirtual 65, 79, [2, 1, 3, 2]), (.pop, 0, []), (.lconst 0, 0, []), (.lreturn, 0, [])]
  | 70 => [(.aload_n 0, 0, []), (.getfield 9, 4, [6, 0, 2, 3, 0]), (.invokevirtual 69, 75, [1, 0, 3, 1]), (.lload_n 1, 0, []), (.lreturn, 0, [])]
  | _ => []
abbrev n_HouseReader_takesFollows : Nat := 45
def b_HouseReader_takesFollows : Nat → List Item
  | 0 => [(.aload_n 0, 0, []), (.getfield 9, 4, [6, 0, 2, 3, 0]), (.invokevirtual 69, 75, [1, 0, 3, 1]), (.aload_n 0, 0, []), (.getfield 15, 4, [6, 1, 3, 22, 9]), (.getfield 85, 3, [22, 0, 2, 23, 0]), (.aload_n 0, 0, []), (.getfield 9, 4, [6, 0, 2, 3, 0]), (.getfield 118, 8, [3, 9, 1, 0, 0]), (.invokevirtual 122, 88, [2, 1, 23, 4]), (.istore_n 1, 0, []), (.aload_n 0, 0, []), (.getfield 9, 4, [6, 0, 2, 3, 0]), (.iload_n 1, 0, []), (.invokevirtual 127, 83, [2, 1, 3, 2]), (.ifCond .ne 5, 38, []), (.iconst 0, 0, []), (.ireturn, 1, [])]
  | 38 => [(.aload_n 0, 0, []), (.getfield 15, 4, [6, 1, 3, 22, 9]), (.getfield 85, 3, [22, 0, 2, 23, 0]), (.aload_n 0, 0, []), (.getfield 9, 4, [6, 0, 2, 3, 0]), (.getfield 118, 8, [3, 9, 1, 0, 0]), (.invokevirtual 122, 88, [2, 1, 23, 4]), (.istore_n 2, 0, []), (.aload_n 0, 0, []), (.getfield 9, 4, [6, 0, 2, 3, 0]), (.iload_n 2, 0, []), (.invokevirtual 127, 83, [2, 1, 3, 2]), (.ifCond .ne 5, 69, []), (.iconst 0, 0, []), (.ireturn, 1, [])]
  | 69 => [(.aload_n 0, 0, []), (.getfield 15, 4, [6, 1, 3, 22, 9]), (.getfield 85, 3, [22, 0, 2, 23, 0]), (.getfield 130, 9, [23, 2, 2, 26, 0]), (.iload_n 1, 0, []), (.aload_n 0, 0, []), (.getfield 15, 4, [6, 1, 3, 22, 9]), (.getfield 85, 3, [22, 0, 2, 23, 0]), (.getfield 130, 9, [23, 2, 2, 26, 0]), (.iload_n 1, 0, []), (.iaload, 0, []), (.iload_n 2, 0, []), (.iconst 1, 0, []), (.invokestatic 134, 174, [3, 1, 0, 3]), (.iastore, 0, []), (.aload_n 0, 0, []), (.getfield 9, 4, [6, 0, 2, 3, 0]), (.invokevirtual 79, 82, [1, 1, 3, 1]), (.ireturn, 1, [])]
  | _ => []
abbrev n_HouseReader_takesRoster : Nat := 46
def b_HouseReader_takesRoster : Nat → List Item
  | 0 => [(.aload_n 0, 0, []), (.getfield 15, 4, [6, 1, 3, 22, 9]), (.getfield 138, 3, [22, 4, 0, 0, 0]), (.bipush 12, 0, []), (.if_icmp .lt 13, 22, []), (.aload_n 0, 0, []), (.getfield 9, 4, [6, 0, 2, 3, 0]), (.bipush 6, 0, []), (.invokevirtual 65, 79, [2, 1, 3, 2]), (.ireturn, 1, [])]
  | 22 => [(.aload_n 0, 0, []), (.getfield 9, 4, [6, 0, 2, 3, 0]), (.invokevirtual 69, 75, [1, 0, 3, 1]), (.aload_n 0, 0, []), (.getfield 15, 4, [6, 1, 3, 22, 9]), (.getfield 105, 3, [22, 1, 2, 27, 0]), (.aload_n 0, 0, []), (.getfield 9, 4, [6, 0, 2, 3, 0]), (.getfield 118, 8, [3, 9, 1, 0, 0]), (.invokevirtual 126, 59, [2, 1, 27, 4]), (.istore_n 1, 0, []), (.aload_n 0, 0, []), (.getfield 9, 4, [6, 0, 2, 3, 0]), (.iload_n 1, 0, []), (.invokevirtual 127, 83, [2, 1, 3, 2]), (.ifCond .ne 5, 60, []), (.iconst 0, 0, []), (.ireturn, 1, [])]
  | 60 => [(.aload_n 0, 0, []), (.getfield 15, 4, [6, 1, 3, 22, 9]), (.getfield 85, 3, [22, 0, 2, 23, 0]), (.aload_n 0, 0, []), (.getfield 9, 4, [6, 0, 2, 3, 0]), (.getfield 118, 8, [3, 9, 1, 0, 0]), (.invokevirtual 122, 88, [2, 1, 23, 4]), (.istore_n 2, 0, []), (.aload_n 0, 0, []), (.getfield 9, 4, [6, 0, 2, 3, 0]), (.iload_n 2, 0, []), (.invokevirtual 127, 83, [2, 1, 3, 2]), (.ifCond .ne 5, 91, []), (.iconst 0, 0, []), (.ireturn, 1, [])]
  | 91 => [(.aload_n 0, 0, []), (.getfield 15, 4, [6, 1, 3, 22, 9]), (.iload_n 1, 0, []), (.iload_n 2, 0, []), (.invokevirtual 141, 25, [3, 0, 22, 3]), (.aload_n 0, 0, []), (.getfield 9, 4, [6, 0, 2, 3, 0]), (.invokevirtual 79, 82, [1, 1, 3, 1]), (.ireturn, 1, [])]
  | _ => []
abbrev n_HouseReader_takesHears : Nat := 47
def b_HouseReader_takesHears : Nat → List Item
  | 0 => [(.aload_n 0, 0, []), (.getfield 9, 4, [6, 0, 2, 3, 0]), (.invokevirtual 69, 75, [1, 0, 3, 1]), (.aload_n 0, 0, []), (.getfield 15, 4, [6, 1, 3, 22, 9]), (.getfield 105, 3, [22, 1, 2, 27, 0]), (.aload_n 0, 0, []), (.getfield 9, 4, [6, 0, 2, 3, 0]), (.getfield 118, 8, [3, 9, 1, 0, 0]), (.invokevirtual 126, 59, [2, 1, 27, 4]), (.istore_n 1, 0, []), (.aload_n 0, 0, []), (.getfield 9, 4, [6, 0, 2, 3, 0]), (.iload_n 1, 0, []), (.invokevirtual 127, 83, [2, 1, 3, 2]), (.ifCond .ne 5, 38, []), (.iconst 0, 0, []), (.ireturn, 1, [])]
  | 38 => [(.aload_n 0, 0, []), (.getfield 15, 4, [6, 1, 3, 22, 9]), (.getfield 105, 3, [22, 1, 2, 27, 0]), (.aload_n 0, 0, []), (.getfield 9, 4, [6, 0, 2, 3, 0]), (.getfield 118, 8, [3, 9, 1, 0, 0]), (.invokevirtual 126, 59, [2, 1, 27, 4]), (.istore_n 2, 0, []), (.iload_n 2, 0, []), (.iload_n 1, 0, []), (.if_icmp .ne 12, 70, []), (.aload_n 0, 0, []), (.getfield 9, 4, [6, 0, 2, 3, 0]), (.iconst 5, 0, []), (.invokevirtual 65, 79, [2, 1, 3, 2]), (.ireturn, 1, [])]
  | 70 => [(.aload_n 0, 0, []), (.getfield 9, 4, [6, 0, 2, 3, 0]), (.iload_n 2, 0, []), (.invokevirtual 127, 83, [2, 1, 3, 2]), (.ifCond .ne 5, 83, []), (.iconst 0, 0, []), (.ireturn, 1, [])]
  | 83 => [(.aload_n 0, 0, []), (.getfield 15, 4, [6, 1, 3, 22, 9]), (.getfield 105, 3, [22, 1, 2, 27, 0]), (.iload_n 1, 0, []), (.iload_n 2, 0, []), (.iconst 1, 0, []), (.invokevirtual 145, 62, [4, 0, 27, 4]), (.aload_n 0, 0, []), (.getfield 9, 4, [6, 0, 2, 3, 0]), (.invokevirtual 79, 82, [1, 1, 3, 1]), (.ireturn, 1, [])]
  | _ => []
abbrev n_Life_run : Nat := 48
def b_Life_run : Nat → List Item
  | 0 => [(.aload_n 0, 0, []), (.aload_n 1, 0, []), (.putfield 15, 5, [19, 1, 3, 22, 9]), (.aload_n 0, 0, []), (.aload_n 2, 0, []), (.putfield 19, 5, [19, 2, 3, 37, 5]), (.aload_n 0, 0, []), (.iload_n 3, 0, []), (.putfield 23, 5, [19, 3, 0, 0, 0]), (.aload_n 0, 0, []), (.iconst 0, 0, []), (.putfield 27, 5, [19, 4, 0, 0, 0]), (.aload_n 0, 0, []), (.iconst 0, 0, []), (.putfield 30, 5, [19, 5, 0, 0, 0]), (.aload_n 0, 0, []), (.iconst 0, 0, []), (.putfield 33, 5, [19, 9, 5, 0, 0]), (.aload_n 0, 0, []), (.iconst 1, 0, []), (.putfield 37, 5, [19, 10, 5, 0, 0]), (.aload_n 0, 0, []), (.aload_n 0, 0, []), (.getfield 15, 5, [19, 1, 3, 22, 9]), (.getfield 40, 3, [22, 7, 0, 0, 0]), (.ineg, 0, []), (.putfield 45, 5, [19, 6, 0, 0, 0]), (.aload_n 0, 0, []), (.aload_n 0, 0, []), (.getfield 15, 5, [19, 1, 3, 22, 9]), (.getfield 46, 3, [22, 8, 0, 0, 0]), (.ineg, 0, []), (.putfield 49, 5, [19, 7, 0, 0, 0]), (.aload_n 0, 0, []), (.aload_n 0, 0, []), (.getfield 15, 5, [19, 1, 3, 22, 9]), (.getfield 50, 3, [22, 9, 0, 0, 0]), (.ineg, 0, []), (.putfield 53, 5, [19, 8, 0, 0, 0]), (.iconst 0, 0, []), (.istore 4, 0, []), (.iconst 0, 0, []), (.istore 5, 0, []), (.nop, 77, [])]
  | 77 => [(.iload 5, 0, []), (.sipush 10000, 0, []), (.if_icmp .ge 96, 178, []), (.iload 4, 0, []), (.iconst 0, 0, []), (.aload_n 0, 0, []), (.getfield 19, 5, [19, 2, 3, 37, 5]), (.getfield 54, 1, [37, 6, 0, 0, 0]), (.iconst 1, 0, []), (.isub, 0, []), (.invokestatic 59, 171, [3, 1, 0, 3]), (.ifCond .eq 78, 178, []), (.aload_n 0, 0, []), (.getfield 33, 5, [19, 9, 5, 0, 0]), (.ifCond .ne 71, 178, []), (.aload_n 0, 0, []), (.getfield 19, 5, [19, 2, 3, 37, 5]), (.getfield 63, 1, [37, 0, 2, 38, 0]), (.iload 4, 0, []), (.iaload, 0, []), (.bipush 21, 0, []), (.if_icmp .ne 14, 136, []), (.aload_n 0, 0, []), (.iload 4, 0, []), (.invokevirtual 66, 49, [2, 1, 19, 3]), (.istore 4, 0, []), (.goto 39, 172, [])]
  | 136 => [(.aload_n 0, 0, []), (.getfield 27, 5, [19, 4, 0, 0, 0]), (.sipush 300, 0, []), (.if_icmp .ge 24, 167, []), (.aload_n 0, 0, []), (.dup, 0, []), (.getfield 27, 5, [19, 4, 0, 0, 0]), (.iconst 1, 0, []), (.iadd, 0, []), (.putfield 27, 5, [19, 4, 0, 0, 0]), (.aload_n 0, 0, []), (.iload 4, 0, []), (.invokevirtual 70, 50, [2, 1, 19, 4]), (.istore 4, 0, []), (.goto 8, 172, [])]
  | 167 => [(.aload_n 0, 0, []), (.iconst 1, 0, []), (.putfield 33, 5, [19, 9, 5, 0, 0]), (.nop, 172, [])]
  | 172 => [(.iinc 5 1, 0, []), (.goto (-98), 77, [])]
  | 178 => [(.aload_n 0, 0, []), (.dup, 0, []), (.getfield 45, 5, [19, 6, 0, 0, 0]), (.aload_n 0, 0, []), (.getfield 15, 5, [19, 1, 3, 22, 9]), (.getfield 40, 3, [22, 7, 0, 0, 0]), (.iadd, 0, []), (.putfield 45, 5, [19, 6, 0, 0, 0]), (.aload_n 0, 0, []), (.dup, 0, []), (.getfield 49, 5, [19, 7, 0, 0, 0]), (.aload_n 0, 0, []), (.getfield 15, 5, [19, 1, 3, 22, 9]), (.getfield 46, 3, [22, 8, 0, 0, 0]), (.iadd, 0, []), (.putfield 49, 5, [19, 7, 0, 0, 0]), (.aload_n 0, 0, []), (.dup, 0, []), (.getfield 53, 5, [19, 8, 0, 0, 0]), (.aload_n 0, 0, []), (.getfield 15, 5, [19, 1, 3, 22, 9]), (.getfield 50, 3, [22, 9, 0, 0, 0]), (.iadd, 0, []), (.putfield 53, 5, [19, 8, 0, 0, 0]), (.return_, 0, [])]
  | _ => []
abbrev n_Life_behindEnd : Nat := 49
def b_Life_behindEnd : Nat → List Item
  | 0 => [(.aload_n 0, 0, []), (.getfield 19, 5, [19, 2, 3, 37, 5]), (.getfield 73, 1, [37, 5, 2, 43, 0]), (.iload_n 1, 0, []), (.iaload, 0, []), (.istore_n 2, 0, []), (.iload_n 2, 0, []), (.ifCond .lt 24, 35, []), (.aload_n 0, 0, []), (.getfield 19, 5, [19, 2, 3, 37, 5]), (.getfield 63, 1, [37, 0, 2, 38, 0]), (.iload_n 2, 0, []), (.iaload, 0, []), (.bipush 20, 0, []), (.if_icmp .ne 10, 35, []), (.iload_n 2, 0, []), (.iconst 1, 0, []), (.iadd, 0, []), (.iload_n 1, 0, []), (.if_icmp .ne 7, 39, []), (.nop, 35, [])]
  | 35 => [(.iload_n 1, 0, []), (.iconst 1, 0, []), (.iadd, 0, []), (.ireturn, 0, [])]
  | 39 => [(.aload_n 0, 0, []), (.getfield 9, 5, [19, 0, 2, 20, 0]), (.iload_n 2, 0, []), (.dup2, 0, []), (.iaload, 0, []), (.iconst 1, 0, []), (.isub, 0, []), (.iastore, 0, []), (.aload_n 0, 0, []), (.getfield 9, 5, [19, 0, 2, 20, 0]), (.iload_n 2, 0, []), (.iaload, 0, []), (.ifCond .le 9, 64, []), (.iload_n 2, 0, []), (.iconst 1, 0, []), (.iadd, 0, []), (.goto 6, 67, [])]
  | 64 => [(.iload_n 1, 0, []), (.iconst 1, 0, []), (.iadd, 0, []), (.nop, 67, [])]
  | 67 => [(.ireturn, 0, [])]
  | _ => []
abbrev n_Life_behindStep : Nat := 50
def b_Life_behindStep : Nat → List Item
  | 0 => [(.aload_n 0, 0, []), (.getfield 19, 5, [19, 2, 3, 37, 5]), (.getfield 76, 1, [37, 1, 2, 39, 0]), (.iload_n 1, 0, []), (.iaload, 0, []), (.istore_n 2, 0, []), (.aload_n 0, 0, []), (.getfield 19, 5, [19, 2, 3, 37, 5]), (.getfield 79, 1, [37, 2, 2, 40, 0]), (.iload_n 1, 0, []), (.iaload, 0, []), (.istore_n 3, 0, []), (.aload_n 0, 0, []), (.getfield 19, 5, [19, 2, 3, 37, 5]), (.getfield 63, 1, [37, 0, 2, 38, 0]), (.iload_n 1, 0, []), (.iaload, 0, []), (.tableswitch 264 11 20 #[55, 110, 141, 171, 209, 238, 264, 264, 264, 228], 293, [84, 139, 170, 200, 238, 267, 293, 293, 293, 257])]
  | 84 => [(.aload_n 0, 0, []), (.aload_n 0, 0, []), (.getfield 15, 5, [19, 1, 3, 22, 9]), (.getfield 40, 3, [22, 7, 0, 0, 0]), (.iload_n 3, 0, []), (.iadd, 0, []), (.sipush 9999, 0, []), (.if_icmp .le 7, 104, []), (.iconst 1, 0, []), (.goto 4, 105, [])]
  | 104 => [(.iconst 0, 0, []), (.nop, 105, [])]
  | 105 => [(.invokevirtual 82, 51, [2, 0, 19, 2]), (.aload_n 0, 0, []), (.getfield 15, 5, [19, 1, 3, 22, 9]), (.aload_n 0, 0, []), (.getfield 15, 5, [19, 1, 3, 22, 9]), (.getfield 40, 3, [22, 7, 0, 0, 0]), (.iload_n 3, 0, []), (.iadd, 0, []), (.sipush 9999, 0, []), (.if_icmp .le 7, 131, []), (.iconst 0, 0, []), (.goto 4, 132, [])]
  | 131 => [(.iload_n 3, 0, []), (.nop, 132, [])]
  | 132 => [(.invokevirtual 86, 34, [2, 1, 22, 4]), (.pop, 0, []), (.goto 165, 301, [])]
  | 139 => [(.aload_n 0, 0, []), (.aload_n 0, 0, []), (.getfield 15, 5, [19, 1, 3, 22, 9]), (.getfield 89, 3, [22, 10, 0, 0, 0]), (.iload_n 2, 0, []), (.if_icmp .ne 7, 155, []), (.iconst 1, 0, []), (.goto 4, 156, [])]
  | 155 => [(.iconst 0, 0, []), (.nop, 156, [])]
  | 156 => [(.invokevirtual 82, 51, [2, 0, 19, 2]), (.aload_n 0, 0, []), (.getfield 15, 5, [19, 1, 3, 22, 9]), (.iload_n 2, 0, []), (.putfield 89, 3, [22, 10, 0, 0, 0]), (.goto 134, 301, [])]
  | 170 => [(.aload_n 0, 0, []), (.aload_n 0, 0, []), (.getfield 15, 5, [19, 1, 3, 22, 9]), (.getfield 92, 3, [22, 1, 2, 27, 0]), (.iload_n 2, 0, []), (.invokevirtual 96, 60, [2, 1, 27, 2]), (.invokevirtual 82, 51, [2, 0, 19, 2]), (.aload_n 0, 0, []), (.getfield 15, 5, [19, 1, 3, 22, 9]), (.getfield 92, 3, [22, 1, 2, 27, 0]), (.iload_n 2, 0, []), (.iconst 1, 0, []), (.invokevirtual 102, 61, [3, 0, 27, 3]), (.goto 104, 301, [])]
  | 200 => [(.aload_n 0, 0, []), (.aload_n 0, 0, []), (.getfield 15, 5, [19, 1, 3, 22, 9]), (.getfield 92, 3, [22, 1, 2, 27, 0]), (.iload_n 2, 0, []), (.invokevirtual 96, 60, [2, 1, 27, 2]), (.ifCond .ne 7, 219, []), (.iconst 1, 0, []), (.goto 4, 220, [])]
  | 219 => [(.iconst 0, 0, []), (.nop, 220, [])]
  | 220 => [(.invokevirtual 82, 51, [2, 0, 19, 2]), (.aload_n 0, 0, []), (.getfield 15, 5, [19, 1, 3, 22, 9]), (.getfield 92, 3, [22, 1, 2, 27, 0]), (.iload_n 2, 0, []), (.iconst 0, 0, []), (.invokevirtual 102, 61, [3, 0, 27, 3]), (.goto 66, 301, [])]
  | 238 => [(.aload_n 0, 0, []), (.aload_n 0, 0, []), (.invokevirtual 106, 52, [1, 1, 19, 3]), (.ifCond .ne 7, 250, []), (.iconst 1, 0, []), (.goto 4, 251, [])]
  | 250 => [(.iconst 0, 0, []), (.nop, 251, [])]
  | 251 => [(.invokevirtual 82, 51, [2, 0, 19, 2]), (.goto 47, 301, [])]
  | 257 => [(.aload_n 0, 0, []), (.getfield 9, 5, [19, 0, 2, 20, 0]), (.iload_n 1, 0, []), (.iload_n 3, 0, []), (.iastore, 0, []), (.goto 37, 301, [])]
  | 267 => [(.aload_n 0, 0, []), (.iload_n 1, 0, []), (.invokevirtual 110, 54, [2, 1, 19, 3]), (.ifCond .eq 9, 281, []), (.iload_n 1, 0, []), (.iconst 1, 0, []), (.iadd, 0, []), (.goto 14, 292, [])]
  | 281 => [(.aload_n 0, 0, []), (.getfield 19, 5, [19, 2, 3, 37, 5]), (.getfield 73, 1, [37, 5, 2, 43, 0]), (.iload_n 1, 0, []), (.iaload, 0, []), (.iconst 1, 0, []), (.iadd, 0, []), (.nop, 292, [])]
  | 292 => [(.ireturn, 0, [])]
  | 293 => [(.aload_n 0, 0, []), (.getfield 19, 5, [19, 2, 3, 37, 5]), (.getfield 54, 1, [37, 6, 0, 0, 0]), (.ireturn, 0, [])]
  | 301 => [(.iload_n 1, 0, []), (.iconst 1, 0, []), (.iadd, 0, []), (.ireturn, 0, [])]
  | _ => []
abbrev n_Life_miss : Nat := 51
def b_Life_miss : Nat → List Item
  | 0 => [(.aload_n 0, 0, []), (.dup, 0, []), (.getfield 30, 5, [19, 5, 0, 0, 0]), (.iload_n 1, 0, []), (.invokestatic 113, 172, [1, 1, 0, 1]), (.iadd, 0, []), (.putfield 30, 5, [19, 5, 0, 0, 0]), (.return_, 0, [])]
  | _ => []
abbrev n_Life_coughed : Nat := 52
def b_Life_coughed : Nat → List Item
  | 0 => [(.aload_n 0, 0, []), (.getfield 15, 5, [19, 1, 3, 22, 9]), (.getfield 92, 3, [22, 1, 2, 27, 0]), (.getfield 117, 6, [27, 8, 0, 0, 0]), (.ifCond .gt 5, 15, []), (.iconst 0, 0, []), (.ireturn, 1, [])]
  | 15 => [(.aload_n 0, 0, []), (.aload_n 0, 0, []), (.getfield 15, 5, [19, 1, 3, 22, 9]), (.getfield 92, 3, [22, 1, 2, 27, 0]), (.getfield 117, 6, [27, 8, 0, 0, 0]), (.invokevirtual 120, 53, [2, 1, 19, 2]), (.istore_n 1, 0, []), (.aload_n 0, 0, []), (.bipush 8, 0, []), (.invokevirtual 120, 53, [2, 1, 19, 2]), (.istore_n 2, 0, []), (.aload_n 0, 0, []), (.getfield 15, 5, [19, 1, 3, 22, 9]), (.getfield 92, 3, [22, 1, 2, 27, 0]), (.getfield 123, 6, [27, 1, 2, 29, 0]), (.iload_n 1, 0, []), (.iconst 0, 0, []), (.aload_n 0, 0, []), (.getfield 15, 5, [19, 1, 3, 22, 9]), (.getfield 92, 3, [22, 1, 2, 27, 0]), (.getfield 123, 6, [27, 1, 2, 29, 0]), (.iload_n 1, 0, []), (.iaload, 0, []), (.iload_n 2, 0, []), (.isub, 0, []), (.invokestatic 126, 334, [2, 1, 0, 2]), (.iastore, 0, []), (.iconst 1, 0, []), (.ireturn, 1, [])]
  | _ => []
abbrev n_Life_draw : Nat := 53
def b_Life_draw : Nat → List Item
  | 0 => [(.aload_n 0, 0, []), (.aload_n 0, 0, []), (.getfield 23, 5, [19, 3, 0, 0, 0]), (.sipush 3119, 0, []), (.imul, 0, []), (.sipush 11329, 0, []), (.iadd, 0, []), (.ldc 132, 65536, []), (.irem, 0, []), (.putfield 23, 5, [19, 3, 0, 0, 0]), (.iload_n 1, 0, []), (.ifCond .le 15, 35, []), (.aload_n 0, 0, []), (.getfield 23, 5, [19, 3, 0, 0, 0]), (.bipush 8, 0, []), (.idiv, 0, []), (.iload_n 1, 0, []), (.irem, 0, []), (.goto 4, 36, [])]
  | 35 => [(.iconst 0, 0, []), (.nop, 36, [])]
  | 36 => [(.ireturn, 0, [])]
  | _ => []
abbrev n_Life_holds : Nat := 54
def b_Life_holds : Nat → List Item
  | 0 => [(.aload_n 0, 0, []), (.getfield 19, 5, [19, 2, 3, 37, 5]), (.getfield 76, 1, [37, 1, 2, 39, 0]), (.iload_n 1, 0, []), (.iaload, 0, []), (.istore_n 2, 0, []), (.aload_n 0, 0, []), (.getfield 19, 5, [19, 2, 3, 37, 5]), (.getfield 133, 1, [37, 3, 2, 41, 0]), (.iload_n 1, 0, []), (.iaload, 0, []), (.lookupswitch 101 #[(5, 67), (17, 33), (18, 50)], 120, [86, 52, 69])]
  | 52 => [(.aload_n 0, 0, []), (.getfield 15, 5, [19, 1, 3, 22, 9]), (.getfield 89, 3, [22, 10, 0, 0, 0]), (.iload_n 2, 0, []), (.if_icmp .ne 7, 67, []), (.iconst 1, 0, []), (.goto 4, 68, [])]
  | 67 => [(.iconst 0, 0, []), (.nop, 68, [])]
  | 68 => [(.ireturn, 1, [])]
  | 69 => [(.aload_n 0, 0, []), (.getfield 15, 5, [19, 1, 3, 22, 9]), (.getfield 136, 3, [22, 11, 0, 0, 0]), (.iload_n 2, 0, []), (.if_icmp .ne 7, 84, []), (.iconst 1, 0, []), (.goto 4, 85, [])]
  | 84 => [(.iconst 0, 0, []), (.nop, 85, [])]
  | 85 => [(.ireturn, 1, [])]
  | 86 => [(.aload_n 0, 0, []), (.getfield 15, 5, [19, 1, 3, 22, 9]), (.getfield 92, 3, [22, 1, 2, 27, 0]), (.getfield 123, 6, [27, 1, 2, 29, 0]), (.iload_n 2, 0, []), (.iaload, 0, []), (.aload_n 0, 0, []), (.getfield 19, 5, [19, 2, 3, 37, 5]), (.getfield 139, 1, [37, 4, 2, 42, 0]), (.iload_n 1, 0, []), (.iaload, 0, []), (.aload_n 0, 0, []), (.getfield 19, 5, [19, 2, 3, 37, 5]), (.getfield 79, 1, [37, 2, 2, 40, 0]), (.iload_n 1, 0, []), (.iaload, 0, []), (.invokestatic 142, 55, [3, 1, 0, 3]), (.ireturn, 1, [])]
  | 120 => [(.aload_n 0, 0, []), (.getfield 15, 5, [19, 1, 3, 22, 9]), (.getfield 46, 3, [22, 8, 0, 0, 0]), (.aload_n 0, 0, []), (.getfield 19, 5, [19, 2, 3, 37, 5]), (.getfield 139, 1, [37, 4, 2, 42, 0]), (.iload_n 1, 0, []), (.iaload, 0, []), (.aload_n 0, 0, []), (.getfield 19, 5, [19, 2, 3, 37, 5]), (.getfield 79, 1, [37, 2, 2, 40, 0]), (.iload_n 1, 0, []), (.iaload, 0, []), (.invokestatic 142, 55, [3, 1, 0, 3]), (.ireturn, 1, [])]
  | _ => []
abbrev n_Life_compares : Nat := 55
def b_Life_compares : Nat → List Item
  | 0 => [(.iload_n 1, 0, []), (.lookupswitch 49 #[(60, 27), (62, 38)], 50, [28, 39])]
  | 28 => [(.iload_n 0, 0, []), (.iload_n 2, 0, []), (.if_icmp .ge 7, 37, []), (.iconst 1, 0, []), (.goto 4, 38, [])]
  | 37 => [(.iconst 0, 0, []), (.nop, 38, [])]
  | 38 => [(.ireturn, 1, [])]
  | 39 => [(.iload_n 0, 0, []), (.iload_n 2, 0, []), (.if_icmp .le 7, 48, []), (.iconst 1, 0, []), (.goto 4, 49, [])]
  | 48 => [(.iconst 0, 0, []), (.nop, 49, [])]
  | 49 => [(.ireturn, 1, [])]
  | 50 => [(.iload_n 0, 0, []), (.iload_n 2, 0, []), (.if_icmp .ne 7, 59, []), (.iconst 1, 0, []), (.goto 4, 60, [])]
  | 59 => [(.iconst 0, 0, []), (.nop, 60, [])]
  | 60 => [(.ireturn, 1, [])]
  | _ => []
abbrev n_Monks_clear : Nat := 56
def b_Monks_clear : Nat → List Item
  | 0 => [(.aload_n 0, 0, []), (.iconst 0, 0, []), (.putfield 34, 6, [27, 8, 0, 0, 0]), (.aload_n 0, 0, []), (.iconst 0, 0, []), (.putfield 38, 6, [27, 7, 0, 0, 0]), (.return_, 0, [])]
  | _ => []
abbrev n_Monks_copy : Nat := 57
def b_Monks_copy : Nat → List Item
  | 0 => [(.aload_n 1, 0, []), (.getfield 9, 6, [27, 0, 2, 28, 0]), (.iconst 0, 0, []), (.aload_n 0, 0, []), (.getfield 9, 6, [27, 0, 2, 28, 0]), (.iconst 0, 0, []), (.bipush 7, 0, []), (.invokestatic 41, 0, [1000]), (.aload_n 1, 0, []), (.getfield 15, 6, [27, 1, 2, 29, 0]), (.iconst 0, 0, []), (.aload_n 0, 0, []), (.getfield 15, 6, [27, 1, 2, 29, 0]), (.iconst 0, 0, []), (.bipush 7, 0, []), (.invokestatic 41, 0, [1000]), (.aload_n 1, 0, []), (.getfield 19, 6, [27, 2, 2, 30, 0]), (.iconst 0, 0, []), (.aload_n 0, 0, []), (.getfield 19, 6, [27, 2, 2, 30, 0]), (.iconst 0, 0, []), (.bipush 7, 0, []), (.invokestatic 41, 0, [1000]), (.aload_n 1, 0, []), (.getfield 22, 6, [27, 3, 2, 31, 0]), (.iconst 0, 0, []), (.aload_n 0, 0, []), (.getfield 22, 6, [27, 3, 2, 31, 0]), (.iconst 0, 0, []), (.bipush 7, 0, []), (.invokestatic 41, 0, [1000]), (.aload_n 1, 0, []), (.getfield 25, 6, [27, 4, 2, 32, 0]), (.iconst 0, 0, []), (.aload_n 0, 0, []), (.getfield 25, 6, [27, 4, 2, 32, 0]), (.iconst 0, 0, []), (.bipush 7, 0, []), (.invokestatic 41, 0, [1000]), (.aload_n 1, 0, []), (.getfield 28, 6, [27, 5, 2, 33, 0]), (.iconst 0, 0, []), (.aload_n 0, 0, []), (.getfield 28, 6, [27, 5, 2, 33, 0]), (.iconst 0, 0, []), (.bipush 7, 0, []), (.invokestatic 41, 0, [1000]), (.aload_n 1, 0, []), (.getfield 31, 6, [27, 6, 2, 34, 0]), (.iconst 0, 0, []), (.aload_n 0, 0, []), (.getfield 31, 6, [27, 6, 2, 34, 0]), (.iconst 0, 0, []), (.bipush 7, 0, []), (.invokestatic 41, 0, [1000]), (.aload_n 0, 0, []), (.aload_n 1, 0, []), (.getfield 38, 6, [27, 7, 0, 0, 0]), (.putfield 38, 6, [27, 7, 0, 0, 0]), (.aload_n 0, 0, []), (.aload_n 1, 0, []), (.getfield 34, 6, [27, 8, 0, 0, 0]), (.putfield 34, 6, [27, 8, 0, 0, 0]), (.return_, 0, [])]
  | _ => []
abbrev n_Monks_add : Nat := 58
def b_Monks_add : Nat → List Item
  | 0 => [(.aload_n 0, 0, []), (.getfield 34, 6, [27, 8, 0, 0, 0]), (.bipush 7, 0, []), (.if_icmp .lt 4, 10, []), (.return_, 0, [])]
  | 10 => [(.aload_n 0, 0, []), (.getfield 9, 6, [27, 0, 2, 28, 0]), (.aload_n 0, 0, []), (.getfield 34, 6, [27, 8, 0, 0, 0]), (.lload_n 1, 0, []), (.lastore, 0, []), (.aload_n 0, 0, []), (.getfield 15, 6, [27, 1, 2, 29, 0]), (.aload_n 0, 0, []), (.getfield 34, 6, [27, 8, 0, 0, 0]), (.iload_n 3, 0, []), (.iastore, 0, []), (.aload_n 0, 0, []), (.getfield 19, 6, [27, 2, 2, 30, 0]), (.aload_n 0, 0, []), (.getfield 34, 6, [27, 8, 0, 0, 0]), (.iload_n 3, 0, []), (.iastore, 0, []), (.aload_n 0, 0, []), (.getfield 22, 6, [27, 3, 2, 31, 0]), (.aload_n 0, 0, []), (.getfield 34, 6, [27, 8, 0, 0, 0]), (.iload 4, 0, []), (.iastore, 0, []), (.aload_n 0, 0, []), (.getfield 25, 6, [27, 4, 2, 32, 0]), (.aload_n 0, 0, []), (.getfield 34, 6, [27, 8, 0, 0, 0]), (.iconst 0, 0, []), (.iastore, 0, []), (.aload_n 0, 0, []), (.getfield 28, 6, [27, 5, 2, 33, 0]), (.aload_n 0, 0, []), (.getfield 34, 6, [27, 8, 0, 0, 0]), (.iconst 0, 0, []), (.iastore, 0, []), (.aload_n 0, 0, []), (.getfield 31, 6, [27, 6, 2, 34, 0]), (.aload_n 0, 0, []), (.getfield 34, 6, [27, 8, 0, 0, 0]), (.iconst 0, 0, []), (.iastore, 0, []), (.aload_n 0, 0, []), (.aload_n 0, 0, []), (.getfield 34, 6, [27, 8, 0, 0, 0]), (.iload 5, 0, []), (.invokevirtual 47, 61, [3, 0, 27, 3]), (.aload_n 0, 0, []), (.dup, 0, []), (.getfield 34, 6, [27, 8, 0, 0, 0]), (.iconst 1, 0, []), (.iadd, 0, []), (.putfield 34, 6, [27, 8, 0, 0, 0]), (.return_, 0, [])]
  | _ => []
abbrev n_Monks_find : Nat := 59
def b_Monks_find : Nat → List Item
  | 0 => [(.iconst 0, 0, []), (.istore_n 3, 0, []), (.nop, 2, [])]
  | 2 => [(.iload_n 3, 0, []), (.aload_n 0, 0, []), (.getfield 34, 6, [27, 8, 0, 0, 0]), (.if_icmp .ge 22, 29, []), (.aload_n 0, 0, []), (.getfield 9, 6, [27, 0, 2, 28, 0]), (.iload_n 3, 0, []), (.laload, 0, []), (.lload_n 1, 0, []), (.lcmp, 0, []), (.ifCond .ne 5, 23, []), (.iload_n 3, 0, []), (.ireturn, 0, [])]
  | 23 => [(.iinc 3 1, 0, []), (.goto (-24), 2, [])]
  | 29 => [(.iconst (-1), 0, []), (.ireturn, 0, [])]
  | _ => []
abbrev n_Monks_isAwake : Nat := 60
def b_Monks_isAwake : Nat → List Item
  | 0 => [(.aload_n 0, 0, []), (.getfield 38, 6, [27, 7, 0, 0, 0]), (.iload_n 1, 0, []), (.invokestatic 51, 173, [2, 1, 0, 2]), (.ireturn, 1, [])]
  | _ => []
abbrev n_Monks_rouse : Nat := 61
def b_Monks_rouse : Nat → List Item
  | 0 => [(.aload_n 0, 0, []), (.aload_n 0, 0, []), (.getfield 38, 6, [27, 7, 0, 0, 0]), (.iload_n 1, 0, []), (.iload_n 2, 0, []), (.invokestatic 55, 174, [3, 1, 0, 3]), (.putfield 38, 6, [27, 7, 0, 0, 0]), (.return_, 0, [])]
  | _ => []
abbrev n_Monks_lend : Nat := 62
def b_Monks_lend : Nat → List Item
  | 0 => [(.aload_n 0, 0, []), (.getfield 31, 6, [27, 6, 2, 34, 0]), (.iload_n 1, 0, []), (.aload_n 0, 0, []), (.getfield 31, 6, [27, 6, 2, 34, 0]), (.iload_n 1, 0, []), (.iaload, 0, []), (.iload_n 2, 0, []), (.iload_n 3, 0, []), (.invokestatic 55, 174, [3, 1, 0, 3]), (.iastore, 0, []), (.aload_n 0, 0, []), (.getfield 31, 6, [27, 6, 2, 34, 0]), (.iload_n 2, 0, []), (.aload_n 0, 0, []), (.getfield 31, 6, [27, 6, 2, 34, 0]), (.iload_n 2, 0, []), (.iaload, 0, []), (.iload_n 1, 0, []), (.iload_n 3, 0, []), (.invokestatic 55, 174, [3, 1, 0, 3]), (.iastore, 0, []), (.return_, 0, [])]
  | _ => []
abbrev n_Monks_rested : Nat := 63
def b_Monks_rested : Nat → List Item
  | 0 => [(.aload_n 0, 0, []), (.getfield 15, 6, [27, 1, 2, 29, 0]), (.iload_n 1, 0, []), (.iaload, 0, []), (.aload_n 0, 0, []), (.getfield 22, 6, [27, 3, 2, 31, 0]), (.iload_n 1, 0, []), (.iaload, 0, []), (.iload_n 2, 0, []), (.imul, 0, []), (.iadd, 0, []), (.istore_n 3, 0, []), (.iload_n 3, 0, []), (.aload_n 0, 0, []), (.getfield 19, 6, [27, 2, 2, 30, 0]), (.iload_n 1, 0, []), (.iaload, 0, []), (.if_icmp .ge 7, 30, []), (.iload_n 3, 0, []), (.goto 9, 36, [])]
  | 30 => [(.aload_n 0, 0, []), (.getfield 19, 6, [27, 2, 2, 30, 0]), (.iload_n 1, 0, []), (.iaload, 0, []), (.nop, 36, [])]
  | 36 => [(.ireturn, 0, [])]
  | _ => []
abbrev n_Monks_leastRested : Nat := 64
def b_Monks_leastRested : Nat → List Item
  | 0 => [(.bipush 99, 0, []), (.istore_n 3, 0, []), (.iconst 0, 0, []), (.istore 4, 0, []), (.nop, 6, [])]
  | 6 => [(.iload 4, 0, []), (.aload_n 0, 0, []), (.getfield 34, 6, [27, 8, 0, 0, 0]), (.if_icmp .ge 27, 39, []), (.iload 4, 0, []), (.iload_n 1, 0, []), (.if_icmp .eq 15, 33, []), (.iload_n 3, 0, []), (.aload_n 0, 0, []), (.iload 4, 0, []), (.iload_n 2, 0, []), (.invokevirtual 59, 63, [3, 1, 27, 4]), (.invokestatic 63, 335, [2, 1, 0, 2]), (.istore_n 3, 0, []), (.nop, 33, [])]
  | 33 => [(.iinc 4 1, 0, []), (.goto (-30), 6, [])]
  | 39 => [(.iload_n 3, 0, []), (.ireturn, 0, [])]
  | _ => []
abbrev n_Monks_keptApart : Nat := 65
def b_Monks_keptApart : Nat → List Item
  | 0 => [(.aload_n 0, 0, []), (.getfield 34, 6, [27, 8, 0, 0, 0]), (.ifCond .ne 5, 9, []), (.iconst 0, 0, []), (.ireturn, 0, [])]
  | 9 => [(.aload_n 0, 0, []), (.getfield 28, 6, [27, 5, 2, 33, 0]), (.iconst 0, 0, []), (.iaload, 0, []), (.istore_n 1, 0, []), (.aload_n 0, 0, []), (.getfield 28, 6, [27, 5, 2, 33, 0]), (.iconst 0, 0, []), (.iaload, 0, []), (.istore_n 2, 0, []), (.iconst 1, 0, []), (.istore_n 3, 0, []), (.nop, 25, [])]
  | 25 => [(.iload_n 3, 0, []), (.aload_n 0, 0, []), (.getfield 34, 6, [27, 8, 0, 0, 0]), (.if_icmp .ge 31, 61, []), (.iload_n 1, 0, []), (.aload_n 0, 0, []), (.getfield 28, 6, [27, 5, 2, 33, 0]), (.iload_n 3, 0, []), (.iaload, 0, []), (.invokestatic 63, 335, [2, 1, 0, 2]), (.istore_n 1, 0, []), (.iload_n 2, 0, []), (.aload_n 0, 0, []), (.getfield 28, 6, [27, 5, 2, 33, 0]), (.iload_n 3, 0, []), (.iaload, 0, []), (.invokestatic 68, 334, [2, 1, 0, 2]), (.istore_n 2, 0, []), (.iinc 3 1, 0, []), (.goto (-33), 25, [])]
  | 61 => [(.iload_n 2, 0, []), (.iload_n 1, 0, []), (.isub, 0, []), (.ireturn, 0, [])]
  | _ => []
abbrev n_Monks_pairs : Nat := 66
def b_Monks_pairs : Nat → List Item
  | 0 => [(.iload_n 1, 0, []), (.invokestatic 71, 175, [1, 1, 0, 2]), (.istore_n 2, 0, []), (.iload_n 2, 0, []), (.iconst (-1), 0, []), (.if_icmp .ne 5, 12, []), (.iconst 0, 0, []), (.ireturn, 0, [])]
  | 12 => [(.iload_n 1, 0, []), (.iload_n 2, 0, []), (.iconst 0, 0, []), (.invokestatic 55, 174, [3, 1, 0, 3]), (.istore_n 3, 0, []), (.aload_n 0, 0, []), (.iload_n 3, 0, []), (.invokestatic 75, 66, [2, 1, 0, 6]), (.istore 4, 0, []), (.iload_n 2, 0, []), (.iconst 1, 0, []), (.iadd, 0, []), (.istore 5, 0, []), (.nop, 31, [])]
  | 31 => [(.iload 5, 0, []), (.bipush 7, 0, []), (.if_icmp .ge 42, 77, []), (.iload_n 3, 0, []), (.aload_n 0, 0, []), (.iload_n 2, 0, []), (.iaload, 0, []), (.iand, 0, []), (.iload 5, 0, []), (.invokestatic 51, 173, [2, 1, 0, 2]), (.ifCond .eq 23, 71, []), (.iload 4, 0, []), (.iconst 1, 0, []), (.aload_n 0, 0, []), (.iload_n 3, 0, []), (.iload 5, 0, []), (.iconst 0, 0, []), (.invokestatic 55, 174, [3, 1, 0, 3]), (.invokestatic 75, 66, [2, 1, 0, 6]), (.iadd, 0, []), (.invokestatic 68, 334, [2, 1, 0, 2]), (.istore 4, 0, []), (.nop, 71, [])]
  | 71 => [(.iinc 5 1, 0, []), (.goto (-43), 31, [])]
  | 77 => [(.iload 4, 0, []), (.ireturn, 0, [])]
  | _ => []
abbrev n_Talk_longest : Nat := 67
def b_Talk_longest : Nat → List Item
  | 0 => [(.aload_n 0, 0, []), (.iconst 0, 0, []), (.putfield 18, 7, [16, 2, 0, 0, 0]), (.aload_n 0, 0, []), (.aload_n 1, 0, []), (.iload_n 2, 0, []), (.iconst 0, 0, []), (.iconst 0, 0, []), (.invokevirtual 22, 68, [5, 0, 16, 8]), (.aload_n 0, 0, []), (.getfield 18, 7, [16, 2, 0, 0, 0]), (.ireturn, 0, [])]
  | _ => []
abbrev n_Talk_goOn : Nat := 68
def b_Talk_goOn : Nat → List Item
  | 0 => [(.iload_n 3, 0, []), (.bipush 6, 0, []), (.if_icmp .lt 4, 7, []), (.return_, 0, [])]
  | 7 => [(.aload_n 0, 0, []), (.getfield 9, 7, [16, 0, 2, 17, 0]), (.iload_n 3, 0, []), (.iload_n 2, 0, []), (.iastore, 0, []), (.iload_n 3, 0, []), (.aload_n 0, 0, []), (.getfield 18, 7, [16, 2, 0, 0, 0]), (.if_icmp .lt 27, 46, []), (.aload_n 0, 0, []), (.iload_n 3, 0, []), (.iconst 1, 0, []), (.iadd, 0, []), (.putfield 18, 7, [16, 2, 0, 0, 0]), (.aload_n 0, 0, []), (.getfield 9, 7, [16, 0, 2, 17, 0]), (.iconst 0, 0, []), (.aload_n 0, 0, []), (.getfield 15, 7, [16, 1, 2, 18, 0]), (.iconst 0, 0, []), (.aload_n 0, 0, []), (.getfield 18, 7, [16, 2, 0, 0, 0]), (.invokestatic 26, 0, [1000]), (.nop, 46, [])]
  | 46 => [(.iload 4, 0, []), (.iload_n 2, 0, []), (.iconst 1, 0, []), (.invokestatic 32, 174, [3, 1, 0, 3]), (.istore 5, 0, []), (.aload_n 1, 0, []), (.getfield 36, 9, [23, 2, 2, 26, 0]), (.iload_n 2, 0, []), (.iaload, 0, []), (.iload 5, 0, []), (.iconst (-1), 0, []), (.ixor, 0, []), (.iand, 0, []), (.istore 6, 0, []), (.iconst 0, 0, []), (.istore 7, 0, []), (.nop, 71, [])]
  | 71 => [(.iload 7, 0, []), (.aload_n 1, 0, []), (.getfield 41, 9, [23, 3, 0, 0, 0]), (.if_icmp .ge 31, 108, []), (.iload 6, 0, []), (.iload 7, 0, []), (.invokestatic 44, 173, [2, 1, 0, 2]), (.ifCond .eq 15, 102, []), (.aload_n 0, 0, []), (.aload_n 1, 0, []), (.iload 7, 0, []), (.iload_n 3, 0, []), (.iconst 1, 0, []), (.iadd, 0, []), (.iload 5, 0, []), (.invokevirtual 22, 68, [5, 0, 16, 8]), (.nop, 102, [])]
  | 102 => [(.iinc 7 1, 0, []), (.goto (-34), 71, [])]
  | 108 => [(.return_, 0, [])]
  | _ => []
abbrev n_Talk_shortestRing : Nat := 69
def b_Talk_shortestRing : Nat → List Item
  | 0 => [(.iconst 1, 0, []), (.istore_n 2, 0, []), (.nop, 2, [])]
  | 2 => [(.iload_n 2, 0, []), (.aload_n 1, 0, []), (.getfield 41, 9, [23, 3, 0, 0, 0]), (.if_icmp .gt 44, 51, []), (.iconst 0, 0, []), (.istore_n 3, 0, []), (.nop, 12, [])]
  | 12 => [(.iload_n 3, 0, []), (.aload_n 1, 0, []), (.getfield 41, 9, [23, 3, 0, 0, 0]), (.if_icmp .ge 28, 45, []), (.aload_n 0, 0, []), (.getfield 9, 7, [16, 0, 2, 17, 0]), (.iconst 0, 0, []), (.iload_n 3, 0, []), (.iastore, 0, []), (.aload_n 0, 0, []), (.aload_n 1, 0, []), (.iconst 1, 0, []), (.iload_n 2, 0, []), (.invokevirtual 48, 70, [4, 1, 16, 6]), (.ifCond .eq 5, 39, []), (.iload_n 2, 0, []), (.ireturn, 0, [])]
  | 39 => [(.iinc 3 1, 0, []), (.goto (-30), 12, [])]
  | 45 => [(.iinc 2 1, 0, []), (.goto (-46), 2, [])]
  | 51 => [(.iconst (-1), 0, []), (.ireturn, 0, [])]
  | _ => []
abbrev n_Talk_closes : Nat := 70
def b_Talk_closes : Nat → List Item
  | 0 => [(.iload_n 2, 0, []), (.iconst 1, 0, []), (.if_icmp .lt 9, 11, []), (.iload_n 2, 0, []), (.bipush 6, 0, []), (.if_icmp .le 5, 13, []), (.nop, 11, [])]
  | 11 => [(.iconst 0, 0, []), (.ireturn, 1, [])]
  | 13 => [(.aload_n 1, 0, []), (.getfield 36, 9, [23, 2, 2, 26, 0]), (.aload_n 0, 0, []), (.getfield 9, 7, [16, 0, 2, 17, 0]), (.iload_n 2, 0, []), (.iconst 1, 0, []), (.isub, 0, []), (.iaload, 0, []), (.iaload, 0, []), (.istore 4, 0, []), (.iload_n 2, 0, []), (.iload_n 3, 0, []), (.if_icmp .ne 15, 45, []), (.iload 4, 0, []), (.aload_n 0, 0, []), (.getfield 9, 7, [16, 0, 2, 17, 0]), (.iconst 0, 0, []), (.iaload, 0, []), (.invokestatic 44, 173, [2, 1, 0, 2]), (.ireturn, 1, [])]
  | 45 => [(.iconst 0, 0, []), (.istore 5, 0, []), (.nop, 48, [])]
  | 48 => [(.iload 5, 0, []), (.aload_n 1, 0, []), (.getfield 41, 9, [23, 3, 0, 0, 0]), (.if_icmp .ge 41, 95, []), (.iload 4, 0, []), (.iload 5, 0, []), (.invokestatic 44, 173, [2, 1, 0, 2]), (.ifCond .eq 25, 89, []), (.aload_n 0, 0, []), (.getfield 9, 7, [16, 0, 2, 17, 0]), (.iload_n 2, 0, []), (.iload 5, 0, []), (.iastore, 0, []), (.aload_n 0, 0, []), (.aload_n 1, 0, []), (.iload_n 2, 0, []), (.iconst 1, 0, []), (.iadd, 0, []), (.iload_n 3, 0, []), (.invokevirtual 48, 70, [4, 1, 16, 6]), (.ifCond .eq 5, 89, []), (.iconst 1, 0, []), (.ireturn, 1, [])]
  | 89 => [(.iinc 5 1, 0, []), (.goto (-44), 48, [])]
  | 95 => [(.iconst 0, 0, []), (.ireturn, 1, [])]
  | _ => []
abbrev n_Talk_behind : Nat := 71
def b_Talk_behind : Nat → List Item
  | 0 => [(.aload_n 0, 0, []), (.getfield 36, 9, [23, 2, 2, 26, 0]), (.iload_n 1, 0, []), (.iaload, 0, []), (.istore_n 2, 0, []), (.iconst 0, 0, []), (.istore_n 3, 0, []), (.nop, 9, [])]
  | 9 => [(.iload_n 3, 0, []), (.aload_n 0, 0, []), (.getfield 41, 9, [23, 3, 0, 0, 0]), (.if_icmp .ge 46, 60, []), (.iconst 0, 0, []), (.istore 4, 0, []), (.nop, 20, [])]
  | 20 => [(.iload 4, 0, []), (.aload_n 0, 0, []), (.getfield 41, 9, [23, 3, 0, 0, 0]), (.if_icmp .ge 28, 54, []), (.iload_n 2, 0, []), (.iload 4, 0, []), (.invokestatic 44, 173, [2, 1, 0, 2]), (.ifCond .eq 13, 48, []), (.iload_n 2, 0, []), (.aload_n 0, 0, []), (.getfield 36, 9, [23, 2, 2, 26, 0]), (.iload 4, 0, []), (.iaload, 0, []), (.ior, 0, []), (.istore_n 2, 0, []), (.nop, 48, [])]
  | 48 => [(.iinc 4 1, 0, []), (.goto (-31), 20, [])]
  | 54 => [(.iinc 3 1, 0, []), (.goto (-48), 9, [])]
  | 60 => [(.iload_n 2, 0, []), (.ireturn, 0, [])]
  | _ => []
abbrev n_Talk_winner : Nat := 72
def b_Talk_winner : Nat → List Item
  | 0 => [(.aload_n 0, 0, []), (.getfield 36, 9, [23, 2, 2, 26, 0]), (.iload_n 1, 0, []), (.iaload, 0, []), (.iload_n 2, 0, []), (.iconst (-1), 0, []), (.ixor, 0, []), (.iand, 0, []), (.istore_n 3, 0, []), (.iconst 0, 0, []), (.istore 4, 0, []), (.nop, 14, [])]
  | 14 => [(.iload 4, 0, []), (.aload_n 0, 0, []), (.getfield 41, 9, [23, 3, 0, 0, 0]), (.if_icmp .ge 38, 58, []), (.iload_n 3, 0, []), (.iload 4, 0, []), (.invokestatic 44, 173, [2, 1, 0, 2]), (.ifCond .eq 23, 52, []), (.aload_n 0, 0, []), (.iload 4, 0, []), (.iload_n 2, 0, []), (.iload 4, 0, []), (.iconst 1, 0, []), (.invokestatic 32, 174, [3, 1, 0, 3]), (.invokestatic 52, 72, [3, 1, 0, 5]), (.iconst (-1), 0, []), (.if_icmp .ne 6, 52, []), (.iload 4, 0, []), (.ireturn, 0, [])]
  | 52 => [(.iinc 4 1, 0, []), (.goto (-41), 14, [])]
  | 58 => [(.iconst (-1), 0, []), (.ireturn, 0, [])]
  | _ => []
abbrev n_Tape_put : Nat := 73
def b_Tape_put : Nat → List Item
  | 0 => [(.aload_n 0, 0, []), (.getfield 38, 8, [3, 2, 0, 0, 0]), (.iconst 4, 0, []), (.iadd, 0, []), (.sipush 900, 0, []), (.if_icmp .le 4, 13, []), (.return_, 0, [])]
  | 13 => [(.bipush 24, 0, []), (.istore_n 2, 0, []), (.nop, 16, [])]
  | 16 => [(.iload_n 2, 0, []), (.ifCond .lt 35, 52, []), (.aload_n 0, 0, []), (.getfield 9, 8, [3, 0, 2, 4, 0]), (.aload_n 0, 0, []), (.getfield 38, 8, [3, 2, 0, 0, 0]), (.iload_n 1, 0, []), (.iload_n 2, 0, []), (.iushr, 0, []), (.sipush 255, 0, []), (.iand, 0, []), (.iastore, 0, []), (.aload_n 0, 0, []), (.dup, 0, []), (.getfield 38, 8, [3, 2, 0, 0, 0]), (.iconst 1, 0, []), (.iadd, 0, []), (.putfield 38, 8, [3, 2, 0, 0, 0]), (.iinc 2 (-8), 0, []), (.goto (-33), 16, [])]
  | 52 => [(.return_, 0, [])]
  | _ => []
abbrev n_Tape_begin : Nat := 74
def b_Tape_begin : Nat → List Item
  | 0 => [(.aload_n 0, 0, []), (.iload_n 1, 0, []), (.putfield 41, 8, [3, 10, 0, 0, 0]), (.aload_n 0, 0, []), (.iconst 0, 0, []), (.putfield 43, 8, [3, 11, 0, 0, 0]), (.aload_n 0, 0, []), (.iconst 0, 0, []), (.putfield 38, 8, [3, 2, 0, 0, 0]), (.aload_n 0, 0, []), (.iconst 0, 0, []), (.putfield 19, 8, [3, 3, 0, 0, 0]), (.aload_n 0, 0, []), (.iconst (-1), 0, []), (.putfield 23, 8, [3, 4, 0, 0, 0]), (.aload_n 0, 0, []), (.invokevirtual 46, 75, [1, 0, 3, 1]), (.return_, 0, [])]
  | _ => []
abbrev n_Tape_advance : Nat := 75
def b_Tape_advance : Nat → List Item
  | 0 => [(.aload_n 0, 0, []), (.getfield 43, 8, [3, 11, 0, 0, 0]), (.aload_n 0, 0, []), (.getfield 41, 8, [3, 10, 0, 0, 0]), (.if_icmp .ge 44, 52, []), (.aload_n 0, 0, []), (.getfield 9, 8, [3, 0, 2, 4, 0]), (.aload_n 0, 0, []), (.getfield 43, 8, [3, 11, 0, 0, 0]), (.iaload, 0, []), (.bipush 10, 0, []), (.if_icmp .eq 17, 39, []), (.aload_n 0, 0, []), (.getfield 9, 8, [3, 0, 2, 4, 0]), (.aload_n 0, 0, []), (.getfield 43, 8, [3, 11, 0, 0, 0]), (.iaload, 0, []), (.bipush 32, 0, []), (.if_icmp .ne 16, 52, []), (.nop, 39, [])]
  | 39 => [(.aload_n 0, 0, []), (.dup, 0, []), (.getfield 43, 8, [3, 11, 0, 0, 0]), (.iconst 1, 0, []), (.iadd, 0, []), (.putfield 43, 8, [3, 11, 0, 0, 0]), (.goto (-49), 0, [])]
  | 52 => [(.aload_n 0, 0, []), (.aload_n 0, 0, []), (.getfield 43, 8, [3, 11, 0, 0, 0]), (.putfield 49, 8, [3, 6, 0, 0, 0]), (.aload_n 0, 0, []), (.iconst (-1), 0, []), (.putfield 52, 8, [3, 7, 0, 0, 0]), (.aload_n 0, 0, []), (.lconst 0, 0, []), (.putfield 55, 8, [3, 9, 1, 0, 0]), (.aload_n 0, 0, []), (.iconst 0, 0, []), (.putfield 59, 8, [3, 8, 0, 0, 0]), (.aload_n 0, 0, []), (.getfield 43, 8, [3, 11, 0, 0, 0]), (.aload_n 0, 0, []), (.getfield 41, 8, [3, 10, 0, 0, 0]), (.if_icmp .lt 11, 94, []), (.aload_n 0, 0, []), (.iconst 0, 0, []), (.putfield 62, 8, [3, 5, 0, 0, 0]), (.goto 77, 168, [])]
  | 94 => [(.aload_n 0, 0, []), (.getfield 9, 8, [3, 0, 2, 4, 0]), (.aload_n 0, 0, []), (.getfield 43, 8, [3, 11, 0, 0, 0]), (.iaload, 0, []), (.bipush 97, 0, []), (.if_icmp .lt 24, 129, []), (.aload_n 0, 0, []), (.getfield 9, 8, [3, 0, 2, 4, 0]), (.aload_n 0, 0, []), (.getfield 43, 8, [3, 11, 0, 0, 0]), (.iaload, 0, []), (.bipush 122, 0, []), (.if_icmp .gt 10, 129, []), (.aload_n 0, 0, []), (.invokevirtual 65, 76, [1, 0, 3, 4]), (.goto 42, 168, [])]
  | 129 => [(.aload_n 0, 0, []), (.getfield 9, 8, [3, 0, 2, 4, 0]), (.aload_n 0, 0, []), (.getfield 43, 8, [3, 11, 0, 0, 0]), (.iaload, 0, []), (.bipush 48, 0, []), (.if_icmp .lt 24, 164, []), (.aload_n 0, 0, []), (.getfield 9, 8, [3, 0, 2, 4, 0]), (.aload_n 0, 0, []), (.getfield 43, 8, [3, 11, 0, 0, 0]), (.iaload, 0, []), (.bipush 57, 0, []), (.if_icmp .gt 10, 164, []), (.aload_n 0, 0, []), (.invokevirtual 68, 77, [1, 0, 3, 1]), (.goto 7, 168, [])]
  | 164 => [(.aload_n 0, 0, []), (.invokevirtual 71, 78, [1, 0, 3, 3]), (.nop, 168, [])]
  | 168 => [(.return_, 0, [])]
  | _ => []
abbrev n_Tape_readWord : Nat := 76
def b_Tape_readWord : Nat → List Item
  | 0 => [(.aload_n 0, 0, []), (.iconst 1, 0, []), (.putfield 62, 8, [3, 5, 0, 0, 0]), (.lconst 0, 0, []), (.lstore_n 1, 0, []), (.nop, 7, [])]
  | 7 => [(.aload_n 0, 0, []), (.getfield 43, 8, [3, 11, 0, 0, 0]), (.aload_n 0, 0, []), (.getfield 41, 8, [3, 10, 0, 0, 0]), (.if_icmp .ge 64, 79, []), (.aload_n 0, 0, []), (.getfield 9, 8, [3, 0, 2, 4, 0]), (.aload_n 0, 0, []), (.getfield 43, 8, [3, 11, 0, 0, 0]), (.iaload, 0, []), (.bipush 97, 0, []), (.if_icmp .lt 50, 79, []), (.aload_n 0, 0, []), (.getfield 9, 8, [3, 0, 2, 4, 0]), (.aload_n 0, 0, []), (.getfield 43, 8, [3, 11, 0, 0, 0]), (.iaload, 0, []), (.bipush 122, 0, []), (.if_icmp .gt 36, 79, []), (.lload_n 1, 0, []), (.iconst 5, 0, []), (.lshl, 0, []), (.aload_n 0, 0, []), (.getfield 9, 8, [3, 0, 2, 4, 0]), (.aload_n 0, 0, []), (.getfield 43, 8, [3, 11, 0, 0, 0]), (.iaload, 0, []), (.bipush 97, 0, []), (.isub, 0, []), (.iconst 1, 0, []), (.iadd, 0, []), (.i2l, 0, []), (.lor, 0, []), (.lstore_n 1, 0, []), (.aload_n 0, 0, []), (.dup, 0, []), (.getfield 43, 8, [3, 11, 0, 0, 0]), (.iconst 1, 0, []), (.iadd, 0, []), (.putfield 43, 8, [3, 11, 0, 0, 0]), (.goto (-69), 7, [])]
  | 79 => [(.aload_n 0, 0, []), (.getfield 43, 8, [3, 11, 0, 0, 0]), (.aload_n 0, 0, []), (.getfield 49, 8, [3, 6, 0, 0, 0]), (.isub, 0, []), (.bipush 8, 0, []), (.if_icmp .le 4, 94, []), (.return_, 0, [])]
  | 94 => [(.aload_n 0, 0, []), (.lload_n 1, 0, []), (.putfield 55, 8, [3, 9, 1, 0, 0]), (.iconst 0, 0, []), (.istore_n 3, 0, []), (.nop, 101, [])]
  | 101 => [(.iload_n 3, 0, []), (.bipush 23, 0, []), (.if_icmp .ge 28, 132, []), (.aload_n 0, 0, []), (.getfield 15, 8, [3, 1, 2, 5, 0]), (.iload_n 3, 0, []), (.laload, 0, []), (.aload_n 0, 0, []), (.getfield 55, 8, [3, 9, 1, 0, 0]), (.lcmp, 0, []), (.ifCond .ne 8, 126, []), (.aload_n 0, 0, []), (.iload_n 3, 0, []), (.putfield 52, 8, [3, 7, 0, 0, 0]), (.nop, 126, [])]
  | 126 => [(.iinc 3 1, 0, []), (.goto (-28), 101, [])]
  | 132 => [(.return_, 0, [])]
  | _ => []
abbrev n_Tape_readNumber : Nat := 77
def b_Tape_readNumber : Nat → List Item
  | 0 => [(.aload_n 0, 0, []), (.getfield 43, 8, [3, 11, 0, 0, 0]), (.aload_n 0, 0, []), (.getfield 41, 8, [3, 10, 0, 0, 0]), (.if_icmp .ge 68, 76, []), (.aload_n 0, 0, []), (.getfield 9, 8, [3, 0, 2, 4, 0]), (.aload_n 0, 0, []), (.getfield 43, 8, [3, 11, 0, 0, 0]), (.iaload, 0, []), (.bipush 48, 0, []), (.if_icmp .lt 54, 76, []), (.aload_n 0, 0, []), (.getfield 9, 8, [3, 0, 2, 4, 0]), (.aload_n 0, 0, []), (.getfield 43, 8, [3, 11, 0, 0, 0]), (.iaload, 0, []), (.bipush 57, 0, []), (.if_icmp .gt 40, 76, []), (.aload_n 0, 0, []), (.aload_n 0, 0, []), (.getfield 59, 8, [3, 8, 0, 0, 0]), (.bipush 10, 0, []), (.imul, 0, []), (.aload_n 0, 0, []), (.getfield 9, 8, [3, 0, 2, 4, 0]), (.aload_n 0, 0, []), (.getfield 43, 8, [3, 11, 0, 0, 0]), (.iaload, 0, []), (.iadd, 0, []), (.bipush 48, 0, []), (.isub, 0, []), (.putfield 59, 8, [3, 8, 0, 0, 0]), (.aload_n 0, 0, []), (.dup, 0, []), (.getfield 43, 8, [3, 11, 0, 0, 0]), (.iconst 1, 0, []), (.iadd, 0, []), (.putfield 43, 8, [3, 11, 0, 0, 0]), (.goto (-73), 0, [])]
  | 76 => [(.aload_n 0, 0, []), (.aload_n 0, 0, []), (.getfield 43, 8, [3, 11, 0, 0, 0]), (.aload_n 0, 0, []), (.getfield 49, 8, [3, 6, 0, 0, 0]), (.isub, 0, []), (.iconst 4, 0, []), (.if_icmp .le 7, 94, []), (.iconst 4, 0, []), (.goto 4, 95, [])]
  | 94 => [(.iconst 2, 0, []), (.nop, 95, [])]
  | 95 => [(.putfield 62, 8, [3, 5, 0, 0, 0]), (.return_, 0, [])]
  | _ => []
abbrev n_Tape_readSign : Nat := 78
def b_Tape_readSign : Nat → List Item
  | 0 => [(.aload_n 0, 0, []), (.getfield 9, 8, [3, 0, 2, 4, 0]), (.aload_n 0, 0, []), (.getfield 43, 8, [3, 11, 0, 0, 0]), (.iaload, 0, []), (.istore_n 1, 0, []), (.iload_n 1, 0, []), (.bipush 59, 0, []), (.if_icmp .eq 21, 34, []), (.iload_n 1, 0, []), (.bipush 60, 0, []), (.if_icmp .eq 15, 34, []), (.iload_n 1, 0, []), (.bipush 62, 0, []), (.if_icmp .eq 9, 34, []), (.iload_n 1, 0, []), (.bipush 61, 0, []), (.if_icmp .ne 7, 38, []), (.nop, 34, [])]
  | 34 => [(.iconst 1, 0, []), (.goto 4, 39, [])]
  | 38 => [(.iconst 0, 0, []), (.nop, 39, [])]
  | 39 => [(.istore_n 2, 0, []), (.aload_n 0, 0, []), (.iload_n 2, 0, []), (.ifCond .eq 7, 49, []), (.iconst 3, 0, []), (.goto 4, 50, [])]
  | 49 => [(.iconst 4, 0, []), (.nop, 50, [])]
  | 50 => [(.putfield 62, 8, [3, 5, 0, 0, 0]), (.aload_n 0, 0, []), (.iload_n 1, 0, []), (.putfield 59, 8, [3, 8, 0, 0, 0]), (.aload_n 0, 0, []), (.dup, 0, []), (.getfield 43, 8, [3, 11, 0, 0, 0]), (.iconst 1, 0, []), (.iadd, 0, []), (.putfield 43, 8, [3, 11, 0, 0, 0]), (.return_, 0, [])]
  | _ => []
abbrev n_Tape_fail : Nat := 79
def b_Tape_fail : Nat → List Item
  | 0 => [(.aload_n 0, 0, []), (.aload_n 0, 0, []), (.getfield 62, 8, [3, 5, 0, 0, 0]), (.iconst 4, 0, []), (.if_icmp .ne 7, 13, []), (.iconst 1, 0, []), (.goto 4, 14, [])]
  | 13 => [(.iload_n 1, 0, []), (.nop, 14, [])]
  | 14 => [(.putfield 19, 8, [3, 3, 0, 0, 0]), (.aload_n 0, 0, []), (.aload_n 0, 0, []), (.getfield 49, 8, [3, 6, 0, 0, 0]), (.putfield 23, 8, [3, 4, 0, 0, 0]), (.iconst 0, 0, []), (.ireturn, 1, [])]
  | _ => []
abbrev n_Tape_isName : Nat := 80
def b_Tape_isName : Nat → List Item
  | 0 => [(.aload_n 0, 0, []), (.getfield 62, 8, [3, 5, 0, 0, 0]), (.iconst 1, 0, []), (.if_icmp .ne 24, 29, []), (.aload_n 0, 0, []), (.getfield 55, 8, [3, 9, 1, 0, 0]), (.lconst 0, 0, []), (.lcmp, 0, []), (.ifCond .eq 15, 29, []), (.aload_n 0, 0, []), (.getfield 52, 8, [3, 7, 0, 0, 0]), (.iconst (-1), 0, []), (.if_icmp .ne 7, 29, []), (.iconst 1, 0, []), (.goto 4, 30, [])]
  | 29 => [(.iconst 0, 0, []), (.nop, 30, [])]
  | 30 => [(.ireturn, 1, [])]
  | _ => []
abbrev n_Tape_skipWord : Nat := 81
def b_Tape_skipWord : Nat → List Item
  | 0 => [(.aload_n 0, 0, []), (.getfield 52, 8, [3, 7, 0, 0, 0]), (.iload_n 1, 0, []), (.if_icmp .eq 9, 14, []), (.aload_n 0, 0, []), (.iconst 2, 0, []), (.invokevirtual 74, 79, [2, 1, 3, 2]), (.ireturn, 1, [])]
  | 14 => [(.aload_n 0, 0, []), (.invokevirtual 46, 75, [1, 0, 3, 1]), (.iconst 1, 0, []), (.ireturn, 1, [])]
  | _ => []
abbrev n_Tape_skipSemicolon : Nat := 82
def b_Tape_skipSemicolon : Nat → List Item
  | 0 => [(.aload_n 0, 0, []), (.getfield 62, 8, [3, 5, 0, 0, 0]), (.iconst 3, 0, []), (.if_icmp .ne 12, 17, []), (.aload_n 0, 0, []), (.getfield 59, 8, [3, 8, 0, 0, 0]), (.bipush 59, 0, []), (.if_icmp .eq 9, 23, []), (.nop, 17, [])]
  | 17 => [(.aload_n 0, 0, []), (.iconst 2, 0, []), (.invokevirtual 74, 79, [2, 1, 3, 2]), (.ireturn, 1, [])]
  | 23 => [(.aload_n 0, 0, []), (.invokevirtual 46, 75, [1, 0, 3, 1]), (.iconst 1, 0, []), (.ireturn, 1, [])]
  | _ => []
abbrev n_Tape_skipName : Nat := 83
def b_Tape_skipName : Nat → List Item
  | 0 => [(.aload_n 0, 0, []), (.invokevirtual 78, 80, [1, 1, 3, 1]), (.ifCond .ne 9, 13, []), (.aload_n 0, 0, []), (.iconst 2, 0, []), (.invokevirtual 74, 79, [2, 1, 3, 2]), (.ireturn, 1, [])]
  | 13 => [(.iload_n 1, 0, []), (.iconst (-1), 0, []), (.if_icmp .ne 9, 24, []), (.aload_n 0, 0, []), (.iconst 3, 0, []), (.invokevirtual 74, 79, [2, 1, 3, 2]), (.ireturn, 1, [])]
  | 24 => [(.aload_n 0, 0, []), (.invokevirtual 46, 75, [1, 0, 3, 1]), (.iconst 1, 0, []), (.ireturn, 1, [])]
  | _ => []
abbrev n_Tape_takeCompare : Nat := 84
def b_Tape_takeCompare : Nat → List Item
  | 0 => [(.aload_n 0, 0, []), (.getfield 62, 8, [3, 5, 0, 0, 0]), (.iconst 3, 0, []), (.if_icmp .ne 12, 17, []), (.aload_n 0, 0, []), (.getfield 59, 8, [3, 8, 0, 0, 0]), (.bipush 59, 0, []), (.if_icmp .ne 11, 25, []), (.nop, 17, [])]
  | 17 => [(.aload_n 0, 0, []), (.iconst 2, 0, []), (.invokevirtual 74, 79, [2, 1, 3, 2]), (.pop, 0, []), (.iconst (-1), 0, []), (.ireturn, 0, [])]
  | 25 => [(.aload_n 0, 0, []), (.getfield 59, 8, [3, 8, 0, 0, 0]), (.istore_n 1, 0, []), (.aload_n 0, 0, []), (.invokevirtual 46, 75, [1, 0, 3, 1]), (.iload_n 1, 0, []), (.ireturn, 0, [])]
  | _ => []
abbrev n_Tape_takeNumber : Nat := 85
def b_Tape_takeNumber : Nat → List Item
  | 0 => [(.aload_n 0, 0, []), (.getfield 62, 8, [3, 5, 0, 0, 0]), (.iconst 2, 0, []), (.if_icmp .ne 15, 20, []), (.aload_n 0, 0, []), (.getfield 59, 8, [3, 8, 0, 0, 0]), (.iload_n 1, 0, []), (.iload_n 2, 0, []), (.invokestatic 82, 171, [3, 1, 0, 3]), (.ifCond .ne 23, 40, []), (.nop, 20, [])]
  | 20 => [(.aload_n 0, 0, []), (.aload_n 0, 0, []), (.getfield 62, 8, [3, 5, 0, 0, 0]), (.iconst 2, 0, []), (.if_icmp .ne 7, 33, []), (.iconst 4, 0, []), (.goto 4, 34, [])]
  | 33 => [(.iconst 2, 0, []), (.nop, 34, [])]
  | 34 => [(.invokevirtual 74, 79, [2, 1, 3, 2]), (.pop, 0, []), (.iconst (-1), 0, []), (.ireturn, 0, [])]
  | 40 => [(.aload_n 0, 0, []), (.getfield 59, 8, [3, 8, 0, 0, 0]), (.istore_n 3, 0, []), (.aload_n 0, 0, []), (.invokevirtual 46, 75, [1, 0, 3, 1]), (.iload_n 3, 0, []), (.ireturn, 0, [])]
  | _ => []
abbrev n_Topics_copy : Nat := 86
def b_Topics_copy : Nat → List Item
  | 0 => [(.aload_n 1, 0, []), (.getfield 9, 9, [23, 0, 2, 24, 0]), (.iconst 0, 0, []), (.aload_n 0, 0, []), (.getfield 9, 9, [23, 0, 2, 24, 0]), (.iconst 0, 0, []), (.bipush 6, 0, []), (.invokestatic 22, 0, [1000]), (.aload_n 1, 0, []), (.getfield 15, 9, [23, 1, 2, 25, 0]), (.iconst 0, 0, []), (.aload_n 0, 0, []), (.getfield 15, 9, [23, 1, 2, 25, 0]), (.iconst 0, 0, []), (.bipush 6, 0, []), (.invokestatic 22, 0, [1000]), (.aload_n 1, 0, []), (.getfield 19, 9, [23, 2, 2, 26, 0]), (.iconst 0, 0, []), (.aload_n 0, 0, []), (.getfield 19, 9, [23, 2, 2, 26, 0]), (.iconst 0, 0, []), (.bipush 6, 0, []), (.invokestatic 22, 0, [1000]), (.aload_n 0, 0, []), (.aload_n 1, 0, []), (.getfield 28, 9, [23, 3, 0, 0, 0]), (.putfield 28, 9, [23, 3, 0, 0, 0]), (.return_, 0, [])]
  | _ => []
abbrev n_Topics_add : Nat := 87
def b_Topics_add : Nat → List Item
  | 0 => [(.aload_n 0, 0, []), (.getfield 28, 9, [23, 3, 0, 0, 0]), (.bipush 6, 0, []), (.if_icmp .lt 4, 10, []), (.return_, 0, [])]
  | 10 => [(.aload_n 0, 0, []), (.getfield 9, 9, [23, 0, 2, 24, 0]), (.aload_n 0, 0, []), (.getfield 28, 9, [23, 3, 0, 0, 0]), (.lload_n 1, 0, []), (.lastore, 0, []), (.aload_n 0, 0, []), (.getfield 15, 9, [23, 1, 2, 25, 0]), (.aload_n 0, 0, []), (.getfield 28, 9, [23, 3, 0, 0, 0]), (.iload_n 3, 0, []), (.iastore, 0, []), (.aload_n 0, 0, []), (.getfield 19, 9, [23, 2, 2, 26, 0]), (.aload_n 0, 0, []), (.getfield 28, 9, [23, 3, 0, 0, 0]), (.iconst 0, 0, []), (.iastore, 0, []), (.aload_n 0, 0, []), (.dup, 0, []), (.getfield 28, 9, [23, 3, 0, 0, 0]), (.iconst 1, 0, []), (.iadd, 0, []), (.putfield 28, 9, [23, 3, 0, 0, 0]), (.return_, 0, [])]
  | _ => []
abbrev n_Topics_find : Nat := 88
def b_Topics_find : Nat → List Item
  | 0 => [(.iconst 0, 0, []), (.istore_n 3, 0, []), (.nop, 2, [])]
  | 2 => [(.iload_n 3, 0, []), (.aload_n 0, 0, []), (.getfield 28, 9, [23, 3, 0, 0, 0]), (.if_icmp .ge 22, 29, []), (.aload_n 0, 0, []), (.getfield 9, 9, [23, 0, 2, 24, 0]), (.iload_n 3, 0, []), (.laload, 0, []), (.lload_n 1, 0, []), (.lcmp, 0, []), (.ifCond .ne 5, 23, []), (.iload_n 3, 0, []), (.ireturn, 0, [])]
  | 23 => [(.iinc 3 1, 0, []), (.goto (-24), 2, [])]
  | 29 => [(.iconst (-1), 0, []), (.ireturn, 0, [])]
  | _ => []
abbrev n_Topics_before : Nat := 89
def b_Topics_before : Nat → List Item
  | 0 => [(.iconst 0, 0, []), (.istore_n 2, 0, []), (.iconst 0, 0, []), (.istore_n 3, 0, []), (.nop, 4, [])]
  | 4 => [(.iload_n 3, 0, []), (.aload_n 0, 0, []), (.getfield 28, 9, [23, 3, 0, 0, 0]), (.if_icmp .ge 25, 34, []), (.iload_n 2, 0, []), (.iload_n 3, 0, []), (.aload_n 0, 0, []), (.getfield 19, 9, [23, 2, 2, 26, 0]), (.iload_n 3, 0, []), (.iaload, 0, []), (.iload_n 1, 0, []), (.invokestatic 32, 173, [2, 1, 0, 2]), (.invokestatic 36, 174, [3, 1, 0, 3]), (.istore_n 2, 0, []), (.iinc 3 1, 0, []), (.goto (-27), 4, [])]
  | 34 => [(.iload_n 2, 0, []), (.ireturn, 0, [])]
  | _ => []
abbrev n_Topics_costingAtMost : Nat := 90
def b_Topics_costingAtMost : Nat → List Item
  | 0 => [(.iconst 0, 0, []), (.istore_n 3, 0, []), (.iconst 0, 0, []), (.istore 4, 0, []), (.nop, 5, [])]
  | 5 => [(.iload 4, 0, []), (.aload_n 0, 0, []), (.getfield 28, 9, [23, 3, 0, 0, 0]), (.if_icmp .ge 29, 40, []), (.aload_n 0, 0, []), (.getfield 15, 9, [23, 1, 2, 25, 0]), (.iload 4, 0, []), (.iaload, 0, []), (.iload_n 2, 0, []), (.if_icmp .gt 12, 34, []), (.iload_n 3, 0, []), (.iload_n 1, 0, []), (.iconst 1, 0, []), (.iload 4, 0, []), (.ishl, 0, []), (.iand, 0, []), (.ior, 0, []), (.istore_n 3, 0, []), (.nop, 34, [])]
  | 34 => [(.iinc 4 1, 0, []), (.goto (-32), 5, [])]
  | 40 => [(.iload_n 3, 0, []), (.ireturn, 0, [])]
  | _ => []
abbrev n_Topics_firstCosting : Nat := 91
def b_Topics_firstCosting : Nat → List Item
  | 0 => [(.iconst 0, 0, []), (.istore_n 3, 0, []), (.nop, 2, [])]
  | 2 => [(.iload_n 3, 0, []), (.aload_n 0, 0, []), (.getfield 28, 9, [23, 3, 0, 0, 0]), (.if_icmp .ge 29, 36, []), (.aload_n 0, 0, []), (.getfield 15, 9, [23, 1, 2, 25, 0]), (.iload_n 3, 0, []), (.iaload, 0, []), (.iload_n 2, 0, []), (.if_icmp .gt 13, 30, []), (.iload_n 1, 0, []), (.iload_n 3, 0, []), (.invokestatic 32, 173, [2, 1, 0, 2]), (.ifCond .eq 5, 30, []), (.iload_n 3, 0, []), (.ireturn, 0, [])]
  | 30 => [(.iinc 3 1, 0, []), (.goto (-31), 2, [])]
  | 36 => [(.iconst (-1), 0, []), (.ireturn, 0, [])]
  | _ => []
abbrev n_Tray_lay : Nat := 92
def b_Tray_lay : Nat → List Item
  | 0 => [(.aload_n 0, 0, []), (.getfield 9, 10, [44, 0, 2, 45, 0]), (.lconst 0, 0, []), (.invokestatic 15, 336, [2, 0, 0, 5]), (.aload_n 0, 0, []), (.iload_n 1, 0, []), (.putfield 21, 10, [44, 2, 0, 0, 0]), (.aload_n 0, 0, []), (.iload_n 2, 0, []), (.putfield 25, 10, [44, 3, 0, 0, 0]), (.aload_n 0, 0, []), (.iconst 1, 0, []), (.putfield 28, 10, [44, 1, 5, 0, 0]), (.return_, 0, [])]
  | _ => []
abbrev n_Tray_holds : Nat := 93
def b_Tray_holds : Nat → List Item
  | 0 => [(.iload_n 1, 0, []), (.aload_n 0, 0, []), (.getfield 25, 10, [44, 3, 0, 0, 0]), (.if_icmp .gt 17, 22, []), (.iload_n 2, 0, []), (.aload_n 0, 0, []), (.getfield 25, 10, [44, 3, 0, 0, 0]), (.iload_n 1, 0, []), (.isub, 0, []), (.if_icmp .gt 7, 22, []), (.iconst 1, 0, []), (.goto 4, 23, [])]
  | 22 => [(.iconst 0, 0, []), (.nop, 23, [])]
  | 23 => [(.ireturn, 1, [])]
  | _ => []
abbrev n_Tray_put : Nat := 94
def b_Tray_put : Nat → List Item
  | 0 => [(.aload_n 0, 0, []), (.getfield 9, 10, [44, 0, 2, 45, 0]), (.iload_n 1, 0, []), (.aload_n 0, 0, []), (.lload_n 2, 0, []), (.invokevirtual 32, 95, [2, 1, 44, 3]), (.lastore, 0, []), (.return_, 0, [])]
  | _ => []
abbrev n_Tray_cut : Nat := 95
def b_Tray_cut : Nat → List Item
  | 0 => [(.aload_n 0, 0, []), (.getfield 21, 10, [44, 2, 0, 0, 0]), (.tableswitch 42 0 2 #[28, 33, 38], 46, [32, 37, 42])]
  | 32 => [(.lload_n 1, 0, []), (.l2i, 0, []), (.i2b, 0, []), (.i2l, 0, []), (.lreturn, 0, [])]
  | 37 => [(.lload_n 1, 0, []), (.l2i, 0, []), (.i2s, 0, []), (.i2l, 0, []), (.lreturn, 0, [])]
  | 42 => [(.lload_n 1, 0, []), (.l2i, 0, []), (.i2l, 0, []), (.lreturn, 0, [])]
  | 46 => [(.lload_n 1, 0, []), (.lreturn, 0, [])]
  | _ => []
abbrev n_x_status : Nat := 96
def b_x_status : Nat → List Item
  | 0 => [(.aload_n 0, 0, []), (.getfield 99, 11, [1, 16, 0, 0, 0]), (.ireturn, 0, [])]
  | _ => []
abbrev n_x_top : Nat := 97
def b_x_top : Nat → List Item
  | 0 => [(.aload_n 0, 0, []), (.getfield 103, 11, [1, 17, 1, 0, 0]), (.lreturn, 0, [])]
  | _ => []
abbrev n_x_bottom : Nat := 98
def b_x_bottom : Nat → List Item
  | 0 => [(.aload_n 0, 0, []), (.getfield 94, 11, [1, 18, 1, 0, 0]), (.lreturn, 0, [])]
  | _ => []
abbrev n_x_tray : Nat := 99
def b_x_tray : Nat → List Item
  | 0 => [(.aload_n 0, 0, []), (.iload_n 1, 0, []), (.invokevirtual 106, 162, [2, 1, 1, 2]), (.ifCond .eq 22, 27, []), (.iload_n 2, 0, []), (.iconst 0, 0, []), (.iconst 3, 0, []), (.invokestatic 110, 171, [3, 1, 0, 3]), (.ifCond .eq 13, 27, []), (.iload_n 3, 0, []), (.iconst 0, 0, []), (.bipush 60, 0, []), (.invokestatic 110, 171, [3, 1, 0, 3]), (.ifCond .ne 9, 33, []), (.nop, 27, [])]
  | 27 => [(.aload_n 0, 0, []), (.iconst 1, 0, []), (.invokevirtual 114, 161, [2, 1, 1, 2]), (.ireturn, 1, [])]
  | 33 => [(.aload_n 0, 0, []), (.getfield 11, 11, [1, 0, 2, 2, 0]), (.iload_n 1, 0, []), (.aaload, 0, []), (.iload_n 2, 0, []), (.iload_n 3, 0, []), (.invokevirtual 117, 92, [3, 0, 44, 3]), (.aload_n 0, 0, []), (.invokevirtual 121, 160, [1, 1, 1, 1]), (.ireturn, 1, [])]
  | _ => []
abbrev n_x_write : Nat := 100
def b_x_write : Nat → List Item
  | 0 => [(.aload_n 0, 0, []), (.iload_n 1, 0, []), (.iload_n 2, 0, []), (.invokevirtual 125, 166, [3, 1, 1, 3]), (.istore 5, 0, []), (.iload 5, 0, []), (.ifCond .eq 10, 20, []), (.aload_n 0, 0, []), (.iload 5, 0, []), (.invokevirtual 114, 161, [2, 1, 1, 2]), (.ireturn, 1, [])]
  | 20 => [(.aload_n 0, 0, []), (.getfield 11, 11, [1, 0, 2, 2, 0]), (.iload_n 1, 0, []), (.aaload, 0, []), (.iload_n 2, 0, []), (.lload_n 3, 0, []), (.invokevirtual 129, 94, [3, 0, 44, 4]), (.aload_n 0, 0, []), (.invokevirtual 121, 160, [1, 1, 1, 1]), (.ireturn, 1, [])]
  | _ => []
abbrev n_x_read : Nat := 101
def b_x_read : Nat → List Item
  | 0 => [(.aload_n 0, 0, []), (.iload_n 1, 0, []), (.iload_n 2, 0, []), (.invokevirtual 125, 166, [3, 1, 1, 3]), (.istore_n 3, 0, []), (.iload_n 3, 0, []), (.ifCond .eq 10, 18, []), (.aload_n 0, 0, []), (.iload_n 3, 0, []), (.invokevirtual 133, 159, [2, 1, 1, 2]), (.i2l, 0, []), (.lreturn, 0, [])]
  | 18 => [(.aload_n 0, 0, []), (.iconst 0, 0, []), (.putfield 99, 11, [1, 16, 0, 0, 0]), (.aload_n 0, 0, []), (.getfield 11, 11, [1, 0, 2, 2, 0]), (.iload_n 1, 0, []), (.aaload, 0, []), (.getfield 137, 10, [44, 0, 2, 45, 0]), (.iload_n 2, 0, []), (.laload, 0, []), (.lreturn, 0, [])]
  | _ => []
abbrev n_x_pour : Nat := 102
def b_x_pour : Nat → List Item
  | 0 => [(.aload_n 0, 0, []), (.iload_n 1, 0, []), (.invokevirtual 106, 162, [2, 1, 1, 2]), (.ifCond .eq 25, 30, []), (.aload_n 0, 0, []), (.iload_n 3, 0, []), (.invokevirtual 106, 162, [2, 1, 1, 2]), (.ifCond .eq 17, 30, []), (.iload_n 2, 0, []), (.ifCond .lt 13, 30, []), (.iload 4, 0, []), (.ifCond .lt 8, 30, []), (.iload 5, 0, []), (.ifCond .ge 9, 36, []), (.nop, 30, [])]
  | 30 => [(.aload_n 0, 0, []), (.iconst 1, 0, []), (.invokevirtual 114, 161, [2, 1, 1, 2]), (.ireturn, 1, [])]
  | 36 => [(.aload_n 0, 0, []), (.getfield 11, 11, [1, 0, 2, 2, 0]), (.iload_n 1, 0, []), (.aaload, 0, []), (.astore 6, 0, []), (.aload_n 0, 0, []), (.getfield 11, 11, [1, 0, 2, 2, 0]), (.iload_n 3, 0, []), (.aaload, 0, []), (.astore 7, 0, []), (.aload 6, 0, []), (.getfield 140, 10, [44, 1, 5, 0, 0]), (.ifCond .eq 11, 68, []), (.aload 7, 0, []), (.getfield 140, 10, [44, 1, 5, 0, 0]), (.ifCond .ne 9, 74, []), (.nop, 68, [])]
  | 68 => [(.aload_n 0, 0, []), (.iconst 2, 0, []), (.invokevirtual 114, 161, [2, 1, 1, 2]), (.ireturn, 1, [])]
  | 74 => [(.aload 6, 0, []), (.getfield 144, 10, [44, 2, 0, 0, 0]), (.aload 7, 0, []), (.getfield 144, 10, [44, 2, 0, 0, 0]), (.if_icmp .eq 10, 94, []), (.aload_n 0, 0, []), (.bipush 8, 0, []), (.invokevirtual 114, 161, [2, 1, 1, 2]), (.ireturn, 1, [])]
  | 94 => [(.aload 6, 0, []), (.iload_n 2, 0, []), (.iload 5, 0, []), (.invokevirtual 147, 93, [3, 1, 44, 3]), (.ifCond .eq 15, 117, []), (.aload 7, 0, []), (.iload 4, 0, []), (.iload 5, 0, []), (.invokevirtual 147, 93, [3, 1, 44, 3]), (.ifCond .ne 9, 123, []), (.nop, 117, [])]
  | 117 => [(.aload_n 0, 0, []), (.iconst 3, 0, []), (.invokevirtual 114, 161, [2, 1, 1, 2]), (.ireturn, 1, [])]
  | 123 => [(.aload 6, 0, []), (.getfield 137, 10, [44, 0, 2, 45, 0]), (.iload_n 2, 0, []), (.aload 7, 0, []), (.getfield 137, 10, [44, 0, 2, 45, 0]), (.iload 4, 0, []), (.iload 5, 0, []), (.invokestatic 151, 0, [1000]), (.aload_n 0, 0, []), (.invokevirtual 121, 160, [1, 1, 1, 1]), (.ireturn, 1, [])]
  | _ => []
abbrev n_x_feed : Nat := 103
def b_x_feed : Nat → List Item
  | 0 => [(.aload_n 0, 0, []), (.getfield 18, 11, [1, 1, 2, 3, 0]), (.getfield 157, 8, [3, 2, 0, 0, 0]), (.bipush 20, 0, []), (.iadd, 0, []), (.sipush 900, 0, []), (.if_icmp .le 5, 18, []), (.iconst (-1), 0, []), (.ireturn, 0, [])]
  | 18 => [(.aload_n 0, 0, []), (.getfield 18, 11, [1, 1, 2, 3, 0]), (.iload_n 1, 0, []), (.invokevirtual 160, 73, [2, 0, 3, 3]), (.aload_n 0, 0, []), (.getfield 18, 11, [1, 1, 2, 3, 0]), (.iload_n 2, 0, []), (.invokevirtual 160, 73, [2, 0, 3, 3]), (.aload_n 0, 0, []), (.getfield 18, 11, [1, 1, 2, 3, 0]), (.iload_n 3, 0, []), (.invokevirtual 160, 73, [2, 0, 3, 3]), (.aload_n 0, 0, []), (.getfield 18, 11, [1, 1, 2, 3, 0]), (.iload 4, 0, []), (.invokevirtual 160, 73, [2, 0, 3, 3]), (.aload_n 0, 0, []), (.getfield 18, 11, [1, 1, 2, 3, 0]), (.iload 5, 0, []), (.invokevirtual 160, 73, [2, 0, 3, 3]), (.aload_n 0, 0, []), (.getfield 18, 11, [1, 1, 2, 3, 0]), (.getfield 157, 8, [3, 2, 0, 0, 0]), (.ireturn, 0, [])]
  | _ => []
abbrev n_x_house : Nat := 104
def b_x_house : Nat → List Item
  | 0 => [(.iload_n 1, 0, []), (.iconst 0, 0, []), (.aload_n 0, 0, []), (.getfield 18, 11, [1, 1, 2, 3, 0]), (.getfield 157, 8, [3, 2, 0, 0, 0]), (.invokestatic 110, 171, [3, 1, 0, 3]), (.ifCond .ne 9, 21, []), (.aload_n 0, 0, []), (.iconst 1, 0, []), (.invokevirtual 133, 159, [2, 1, 1, 2]), (.ireturn, 0, [])]
  | 21 => [(.aload_n 0, 0, []), (.getfield 18, 11, [1, 1, 2, 3, 0]), (.iload_n 1, 0, []), (.invokevirtual 163, 74, [2, 0, 3, 2]), (.aload_n 0, 0, []), (.getfield 27, 11, [1, 2, 2, 6, 0]), (.aload_n 0, 0, []), (.getfield 83, 11, [1, 12, 3, 22, 9]), (.invokevirtual 166, 38, [2, 1, 6, 3]), (.ifCond .ne 10, 50, []), (.aload_n 0, 0, []), (.bipush 9, 0, []), (.invokevirtual 133, 159, [2, 1, 1, 2]), (.ireturn, 0, [])]
  | 50 => [(.aload_n 0, 0, []), (.getfield 79, 11, [1, 11, 3, 22, 9]), (.astore_n 2, 0, []), (.aload_n 0, 0, []), (.aload_n 0, 0, []), (.getfield 83, 11, [1, 12, 3, 22, 9]), (.putfield 79, 11, [1, 11, 3, 22, 9]), (.aload_n 0, 0, []), (.aload_n 2, 0, []), (.putfield 83, 11, [1, 12, 3, 22, 9]), (.aload_n 0, 0, []), (.getfield 87, 11, [1, 13, 3, 37, 5]), (.invokevirtual 170, 12, [1, 0, 37, 1]), (.aload_n 0, 0, []), (.aload_n 0, 0, []), (.getfield 79, 11, [1, 11, 3, 22, 9]), (.getfield 173, 3, [22, 1, 2, 27, 0]), (.getfield 177, 6, [27, 8, 0, 0, 0]), (.invokevirtual 182, 157, [2, 1, 1, 2]), (.ireturn, 0, [])]
  | _ => []
abbrev n_x_days : Nat := 105
def b_x_days : Nat → List Item
  | 0 => [(.iload_n 1, 0, []), (.iconst 0, 0, []), (.aload_n 0, 0, []), (.getfield 18, 11, [1, 1, 2, 3, 0]), (.getfield 157, 8, [3, 2, 0, 0, 0]), (.invokestatic 110, 171, [3, 1, 0, 3]), (.ifCond .eq 10, 22, []), (.iload_n 1, 0, []), (.sipush 300, 0, []), (.if_icmp .le 9, 28, []), (.nop, 22, [])]
  | 22 => [(.aload_n 0, 0, []), (.iconst 1, 0, []), (.invokevirtual 133, 159, [2, 1, 1, 2]), (.ireturn, 0, [])]
  | 28 => [(.aload_n 0, 0, []), (.getfield 18, 11, [1, 1, 2, 3, 0]), (.iload_n 1, 0, []), (.invokevirtual 163, 74, [2, 0, 3, 2]), (.aload_n 0, 0, []), (.getfield 34, 11, [1, 3, 2, 7, 0]), (.aload_n 0, 0, []), (.getfield 91, 11, [1, 14, 3, 37, 5]), (.aload_n 0, 0, []), (.getfield 79, 11, [1, 11, 3, 22, 9]), (.invokevirtual 185, 15, [3, 1, 7, 4]), (.ifCond .ne 10, 61, []), (.aload_n 0, 0, []), (.bipush 9, 0, []), (.invokevirtual 133, 159, [2, 1, 1, 2]), (.ireturn, 0, [])]
  | 61 => [(.aload_n 0, 0, []), (.getfield 87, 11, [1, 13, 3, 37, 5]), (.astore_n 2, 0, []), (.aload_n 0, 0, []), (.aload_n 0, 0, []), (.getfield 91, 11, [1, 14, 3, 37, 5]), (.putfield 87, 11, [1, 13, 3, 37, 5]), (.aload_n 0, 0, []), (.aload_n 2, 0, []), (.putfield 91, 11, [1, 14, 3, 37, 5]), (.aload_n 0, 0, []), (.aload_n 0, 0, []), (.getfield 87, 11, [1, 13, 3, 37, 5]), (.getfield 188, 1, [37, 7, 0, 0, 0]), (.invokevirtual 182, 157, [2, 1, 1, 2]), (.ireturn, 0, [])]
  | _ => []
abbrev n_x_fault : Nat := 106
def b_x_fault : Nat → List Item
  | 0 => [(.iload_n 1, 0, []), (.ifCond .ne 11, 12, []), (.aload_n 0, 0, []), (.getfield 18, 11, [1, 1, 2, 3, 0]), (.getfield 191, 8, [3, 3, 0, 0, 0]), (.ireturn, 0, [])]
  | 12 => [(.iload_n 1, 0, []), (.iconst 1, 0, []), (.if_icmp .ne 13, 27, []), (.aload_n 0, 0, []), (.getfield 18, 11, [1, 1, 2, 3, 0]), (.getfield 194, 8, [3, 4, 0, 0, 0]), (.goto 4, 28, [])]
  | 27 => [(.iconst (-1), 0, []), (.nop, 28, [])]
  | 28 => [(.ireturn, 0, [])]
  | _ => []
abbrev n_x_told : Nat := 107
def b_x_told : Nat → List Item
  | 0 => [(.iload_n 1, 0, []), (.tableswitch 168 0 8 #[51, 66, 81, 93, 105, 117, 129, 141, 153], 169, [52, 67, 82, 94, 106, 118, 130, 142, 154])]
  | 52 => [(.aload_n 0, 0, []), (.aload_n 0, 0, []), (.getfield 79, 11, [1, 11, 3, 22, 9]), (.getfield 197, 3, [22, 0, 2, 23, 0]), (.getfield 201, 9, [23, 3, 0, 0, 0]), (.invokevirtual 182, 157, [2, 1, 1, 2]), (.ireturn, 0, [])]
  | 67 => [(.aload_n 0, 0, []), (.aload_n 0, 0, []), (.getfield 79, 11, [1, 11, 3, 22, 9]), (.getfield 173, 3, [22, 1, 2, 27, 0]), (.getfield 177, 6, [27, 8, 0, 0, 0]), (.invokevirtual 182, 157, [2, 1, 1, 2]), (.ireturn, 0, [])]
  | 82 => [(.aload_n 0, 0, []), (.aload_n 0, 0, []), (.getfield 79, 11, [1, 11, 3, 22, 9]), (.getfield 204, 3, [22, 4, 0, 0, 0]), (.invokevirtual 182, 157, [2, 1, 1, 2]), (.ireturn, 0, [])]
  | 94 => [(.aload_n 0, 0, []), (.aload_n 0, 0, []), (.getfield 79, 11, [1, 11, 3, 22, 9]), (.getfield 207, 3, [22, 5, 0, 0, 0]), (.invokevirtual 182, 157, [2, 1, 1, 2]), (.ireturn, 0, [])]
  | 106 => [(.aload_n 0, 0, []), (.aload_n 0, 0, []), (.getfield 79, 11, [1, 11, 3, 22, 9]), (.getfield 210, 3, [22, 6, 0, 0, 0]), (.invokevirtual 182, 157, [2, 1, 1, 2]), (.ireturn, 0, [])]
  | 118 => [(.aload_n 0, 0, []), (.aload_n 0, 0, []), (.getfield 79, 11, [1, 11, 3, 22, 9]), (.getfield 213, 3, [22, 7, 0, 0, 0]), (.invokevirtual 182, 157, [2, 1, 1, 2]), (.ireturn, 0, [])]
  | 130 => [(.aload_n 0, 0, []), (.aload_n 0, 0, []), (.getfield 79, 11, [1, 11, 3, 22, 9]), (.getfield 216, 3, [22, 8, 0, 0, 0]), (.invokevirtual 182, 157, [2, 1, 1, 2]), (.ireturn, 0, [])]
  | 142 => [(.aload_n 0, 0, []), (.aload_n 0, 0, []), (.getfield 79, 11, [1, 11, 3, 22, 9]), (.getfield 219, 3, [22, 9, 0, 0, 0]), (.invokevirtual 182, 157, [2, 1, 1, 2]), (.ireturn, 0, [])]
  | 154 => [(.aload_n 0, 0, []), (.aload_n 0, 0, []), (.getfield 79, 11, [1, 11, 3, 22, 9]), (.getfield 173, 3, [22, 1, 2, 27, 0]), (.getfield 222, 6, [27, 7, 0, 0, 0]), (.invokevirtual 182, 157, [2, 1, 1, 2]), (.ireturn, 0, [])]
  | 169 => [(.aload_n 0, 0, []), (.iconst 1, 0, []), (.invokevirtual 133, 159, [2, 1, 1, 2]), (.ireturn, 0, [])]
  | _ => []
abbrev n_x_topic : Nat := 108
def b_x_topic : Nat → List Item
  | 0 => [(.aload_n 0, 0, []), (.iload_n 1, 0, []), (.invokevirtual 225, 163, [2, 1, 1, 2]), (.ifCond .ne 9, 14, []), (.aload_n 0, 0, []), (.iconst 1, 0, []), (.invokevirtual 133, 159, [2, 1, 1, 2]), (.ireturn, 0, [])]
  | 14 => [(.iload_n 2, 0, []), (.tableswitch 75 0 2 #[25, 42, 59], 90, [40, 57, 74])]
  | 40 => [(.aload_n 0, 0, []), (.aload_n 0, 0, []), (.getfield 79, 11, [1, 11, 3, 22, 9]), (.getfield 197, 3, [22, 0, 2, 23, 0]), (.getfield 228, 9, [23, 1, 2, 25, 0]), (.iload_n 1, 0, []), (.iaload, 0, []), (.invokevirtual 182, 157, [2, 1, 1, 2]), (.ireturn, 0, [])]
  | 57 => [(.aload_n 0, 0, []), (.aload_n 0, 0, []), (.getfield 79, 11, [1, 11, 3, 22, 9]), (.getfield 197, 3, [22, 0, 2, 23, 0]), (.getfield 232, 9, [23, 2, 2, 26, 0]), (.iload_n 1, 0, []), (.iaload, 0, []), (.invokevirtual 182, 157, [2, 1, 1, 2]), (.ireturn, 0, [])]
  | 74 => [(.aload_n 0, 0, []), (.aload_n 0, 0, []), (.getfield 79, 11, [1, 11, 3, 22, 9]), (.getfield 197, 3, [22, 0, 2, 23, 0]), (.iload_n 1, 0, []), (.invokevirtual 235, 89, [2, 1, 23, 4]), (.invokevirtual 182, 157, [2, 1, 1, 2]), (.ireturn, 0, [])]
  | 90 => [(.aload_n 0, 0, []), (.iconst 1, 0, []), (.invokevirtual 133, 159, [2, 1, 1, 2]), (.ireturn, 0, [])]
  | _ => []
abbrev n_x_monk : Nat := 109
def b_x_monk : Nat → List Item
  | 0 => [(.aload_n 0, 0, []), (.iload_n 1, 0, []), (.invokevirtual 238, 164, [2, 1, 1, 2]), (.ifCond .ne 9, 14, []), (.aload_n 0, 0, []), (.iconst 1, 0, []), (.invokevirtual 133, 159, [2, 1, 1, 2]), (.ireturn, 0, [])]
  | 14 => [(.iload_n 2, 0, []), (.tableswitch 162 0 6 #[41, 58, 75, 92, 111, 128, 145], 177, [56, 73, 90, 107, 126, 143, 160])]
  | 56 => [(.aload_n 0, 0, []), (.aload_n 0, 0, []), (.getfield 79, 11, [1, 11, 3, 22, 9]), (.getfield 173, 3, [22, 1, 2, 27, 0]), (.getfield 241, 6, [27, 1, 2, 29, 0]), (.iload_n 1, 0, []), (.iaload, 0, []), (.invokevirtual 182, 157, [2, 1, 1, 2]), (.ireturn, 0, [])]
  | 73 => [(.aload_n 0, 0, []), (.aload_n 0, 0, []), (.getfield 79, 11, [1, 11, 3, 22, 9]), (.getfield 173, 3, [22, 1, 2, 27, 0]), (.getfield 244, 6, [27, 2, 2, 30, 0]), (.iload_n 1, 0, []), (.iaload, 0, []), (.invokevirtual 182, 157, [2, 1, 1, 2]), (.ireturn, 0, [])]
  | 90 => [(.aload_n 0, 0, []), (.aload_n 0, 0, []), (.getfield 79, 11, [1, 11, 3, 22, 9]), (.getfield 173, 3, [22, 1, 2, 27, 0]), (.getfield 247, 6, [27, 3, 2, 31, 0]), (.iload_n 1, 0, []), (.iaload, 0, []), (.invokevirtual 182, 157, [2, 1, 1, 2]), (.ireturn, 0, [])]
  | 107 => [(.aload_n 0, 0, []), (.aload_n 0, 0, []), (.getfield 79, 11, [1, 11, 3, 22, 9]), (.getfield 173, 3, [22, 1, 2, 27, 0]), (.iload_n 1, 0, []), (.invokevirtual 250, 60, [2, 1, 27, 2]), (.invokestatic 253, 172, [1, 1, 0, 1]), (.invokevirtual 182, 157, [2, 1, 1, 2]), (.ireturn, 0, [])]
  | 126 => [(.aload_n 0, 0, []), (.aload_n 0, 0, []), (.getfield 79, 11, [1, 11, 3, 22, 9]), (.getfield 173, 3, [22, 1, 2, 27, 0]), (.getfield 257, 6, [27, 4, 2, 32, 0]), (.iload_n 1, 0, []), (.iaload, 0, []), (.invokevirtual 182, 157, [2, 1, 1, 2]), (.ireturn, 0, [])]
  | 143 => [(.aload_n 0, 0, []), (.aload_n 0, 0, []), (.getfield 79, 11, [1, 11, 3, 22, 9]), (.getfield 173, 3, [22, 1, 2, 27, 0]), (.getfield 260, 6, [27, 5, 2, 33, 0]), (.iload_n 1, 0, []), (.iaload, 0, []), (.invokevirtual 182, 157, [2, 1, 1, 2]), (.ireturn, 0, [])]
  | 160 => [(.aload_n 0, 0, []), (.aload_n 0, 0, []), (.getfield 79, 11, [1, 11, 3, 22, 9]), (.getfield 173, 3, [22, 1, 2, 27, 0]), (.getfield 263, 6, [27, 6, 2, 34, 0]), (.iload_n 1, 0, []), (.iaload, 0, []), (.invokevirtual 182, 157, [2, 1, 1, 2]), (.ireturn, 0, [])]
  | 177 => [(.aload_n 0, 0, []), (.iconst 1, 0, []), (.invokevirtual 133, 159, [2, 1, 1, 2]), (.ireturn, 0, [])]
  | _ => []
abbrev n_x_entry : Nat := 110
def b_x_entry : Nat → List Item
  | 0 => [(.iload_n 1, 0, []), (.iconst 0, 0, []), (.aload_n 0, 0, []), (.getfield 79, 11, [1, 11, 3, 22, 9]), (.getfield 204, 3, [22, 4, 0, 0, 0]), (.iconst 1, 0, []), (.isub, 0, []), (.invokestatic 110, 171, [3, 1, 0, 3]), (.ifCond .eq 12, 26, []), (.iload_n 2, 0, []), (.iconst 0, 0, []), (.iconst 1, 0, []), (.invokestatic 110, 171, [3, 1, 0, 3]), (.ifCond .ne 9, 32, []), (.nop, 26, [])]
  | 26 => [(.aload_n 0, 0, []), (.iconst 1, 0, []), (.invokevirtual 133, 159, [2, 1, 1, 2]), (.ireturn, 0, [])]
  | 32 => [(.aload_n 0, 0, []), (.iload_n 2, 0, []), (.ifCond .ne 15, 49, []), (.aload_n 0, 0, []), (.getfield 79, 11, [1, 11, 3, 22, 9]), (.getfield 266, 3, [22, 2, 2, 35, 0]), (.iload_n 1, 0, []), (.iaload, 0, []), (.goto 12, 58, [])]
  | 49 => [(.aload_n 0, 0, []), (.getfield 79, 11, [1, 11, 3, 22, 9]), (.getfield 269, 3, [22, 3, 2, 36, 0]), (.iload_n 1, 0, []), (.iaload, 0, []), (.nop, 58, [])]
  | 58 => [(.invokevirtual 182, 157, [2, 1, 1, 2]), (.ireturn, 0, [])]
  | _ => []
abbrev n_x_silent : Nat := 111
def b_x_silent : Nat → List Item
  | 0 => [(.aload_n 0, 0, []), (.getfield 79, 11, [1, 11, 3, 22, 9]), (.getfield 173, 3, [22, 1, 2, 27, 0]), (.getfield 177, 6, [27, 8, 0, 0, 0]), (.ifCond .ne 12, 22, []), (.aload_n 0, 0, []), (.bipush 6, 0, []), (.invokevirtual 133, 159, [2, 1, 1, 2]), (.goto 14, 33, [])]
  | 22 => [(.aload_n 0, 0, []), (.aload_n 0, 0, []), (.getfield 79, 11, [1, 11, 3, 22, 9]), (.getfield 272, 3, [22, 10, 0, 0, 0]), (.invokevirtual 182, 157, [2, 1, 1, 2]), (.nop, 33, [])]
  | 33 => [(.ireturn, 0, [])]
  | _ => []
abbrev n_x_last : Nat := 112
def b_x_last : Nat → List Item
  | 0 => [(.aload_n 0, 0, []), (.aload_n 0, 0, []), (.getfield 79, 11, [1, 11, 3, 22, 9]), (.getfield 275, 3, [22, 11, 0, 0, 0]), (.invokevirtual 278, 158, [2, 1, 1, 2]), (.ireturn, 0, [])]
  | _ => []
abbrev n_x_minute : Nat := 113
def b_x_minute : Nat → List Item
  | 0 => [(.iload_n 1, 0, []), (.iconst 1, 0, []), (.bipush 99, 0, []), (.invokestatic 110, 171, [3, 1, 0, 3]), (.ifCond .ne 9, 16, []), (.aload_n 0, 0, []), (.iconst 1, 0, []), (.invokevirtual 133, 159, [2, 1, 1, 2]), (.ireturn, 0, [])]
  | 16 => [(.aload_n 0, 0, []), (.getfield 79, 11, [1, 11, 3, 22, 9]), (.getfield 213, 3, [22, 7, 0, 0, 0]), (.iload_n 1, 0, []), (.iadd, 0, []), (.sipush 9999, 0, []), (.if_icmp .le 9, 37, []), (.aload_n 0, 0, []), (.iconst 4, 0, []), (.invokevirtual 133, 159, [2, 1, 1, 2]), (.ireturn, 0, [])]
  | 37 => [(.aload_n 0, 0, []), (.aload_n 0, 0, []), (.getfield 79, 11, [1, 11, 3, 22, 9]), (.iload_n 1, 0, []), (.invokevirtual 281, 34, [2, 1, 22, 4]), (.invokevirtual 182, 157, [2, 1, 1, 2]), (.ireturn, 0, [])]
  | _ => []
abbrev n_x_change : Nat := 114
def b_x_change : Nat → List Item
  | 0 => [(.aload_n 0, 0, []), (.iload_n 1, 0, []), (.invokevirtual 238, 164, [2, 1, 1, 2]), (.ifCond .ne 9, 14, []), (.aload_n 0, 0, []), (.iconst 1, 0, []), (.invokevirtual 133, 159, [2, 1, 1, 2]), (.ireturn, 0, [])]
  | 14 => [(.aload_n 0, 0, []), (.getfield 79, 11, [1, 11, 3, 22, 9]), (.getfield 272, 3, [22, 10, 0, 0, 0]), (.iload_n 1, 0, []), (.if_icmp .ne 10, 32, []), (.aload_n 0, 0, []), (.bipush 7, 0, []), (.invokevirtual 133, 159, [2, 1, 1, 2]), (.ireturn, 0, [])]
  | 32 => [(.aload_n 0, 0, []), (.getfield 79, 11, [1, 11, 3, 22, 9]), (.getfield 272, 3, [22, 10, 0, 0, 0]), (.istore_n 2, 0, []), (.aload_n 0, 0, []), (.getfield 79, 11, [1, 11, 3, 22, 9]), (.iload_n 1, 0, []), (.putfield 272, 3, [22, 10, 0, 0, 0]), (.aload_n 0, 0, []), (.iload_n 2, 0, []), (.invokevirtual 182, 157, [2, 1, 1, 2]), (.ireturn, 0, [])]
  | _ => []
abbrev n_x_wake : Nat := 115
def b_x_wake : Nat → List Item
  | 0 => [(.aload_n 0, 0, []), (.iload_n 1, 0, []), (.invokevirtual 238, 164, [2, 1, 1, 2]), (.ifCond .ne 9, 14, []), (.aload_n 0, 0, []), (.iconst 1, 0, []), (.invokevirtual 114, 161, [2, 1, 1, 2]), (.ireturn, 1, [])]
  | 14 => [(.aload_n 0, 0, []), (.getfield 79, 11, [1, 11, 3, 22, 9]), (.getfield 173, 3, [22, 1, 2, 27, 0]), (.iload_n 1, 0, []), (.invokevirtual 250, 60, [2, 1, 27, 2]), (.iload_n 2, 0, []), (.if_icmp .ne 10, 36, []), (.aload_n 0, 0, []), (.bipush 7, 0, []), (.invokevirtual 114, 161, [2, 1, 1, 2]), (.ireturn, 1, [])]
  | 36 => [(.aload_n 0, 0, []), (.getfield 79, 11, [1, 11, 3, 22, 9]), (.getfield 173, 3, [22, 1, 2, 27, 0]), (.iload_n 1, 0, []), (.iload_n 2, 0, []), (.invokevirtual 284, 61, [3, 0, 27, 3]), (.aload_n 0, 0, []), (.invokevirtual 121, 160, [1, 1, 1, 1]), (.ireturn, 1, [])]
  | _ => []
abbrev n_x_follow : Nat := 116
def b_x_follow : Nat → List Item
  | 0 => [(.aload_n 0, 0, []), (.iload_n 1, 0, []), (.invokevirtual 225, 163, [2, 1, 1, 2]), (.ifCond .eq 11, 16, []), (.aload_n 0, 0, []), (.iload_n 2, 0, []), (.invokevirtual 225, 163, [2, 1, 1, 2]), (.ifCond .ne 9, 22, []), (.nop, 16, [])]
  | 16 => [(.aload_n 0, 0, []), (.iconst 1, 0, []), (.invokevirtual 114, 161, [2, 1, 1, 2]), (.ireturn, 1, [])]
  | 22 => [(.aload_n 0, 0, []), (.getfield 79, 11, [1, 11, 3, 22, 9]), (.getfield 197, 3, [22, 0, 2, 23, 0]), (.getfield 232, 9, [23, 2, 2, 26, 0]), (.iload_n 1, 0, []), (.iaload, 0, []), (.iload_n 2, 0, []), (.invokestatic 288, 173, [2, 1, 0, 2]), (.iload_n 3, 0, []), (.if_icmp .ne 10, 49, []), (.aload_n 0, 0, []), (.bipush 7, 0, []), (.invokevirtual 114, 161, [2, 1, 1, 2]), (.ireturn, 1, [])]
  | 49 => [(.aload_n 0, 0, []), (.getfield 79, 11, [1, 11, 3, 22, 9]), (.getfield 197, 3, [22, 0, 2, 23, 0]), (.getfield 232, 9, [23, 2, 2, 26, 0]), (.iload_n 1, 0, []), (.aload_n 0, 0, []), (.getfield 79, 11, [1, 11, 3, 22, 9]), (.getfield 197, 3, [22, 0, 2, 23, 0]), (.getfield 232, 9, [23, 2, 2, 26, 0]), (.iload_n 1, 0, []), (.iaload, 0, []), (.iload_n 2, 0, []), (.iload_n 3, 0, []), (.invokestatic 291, 174, [3, 1, 0, 3]), (.iastore, 0, []), (.aload_n 0, 0, []), (.invokevirtual 121, 160, [1, 1, 1, 1]), (.ireturn, 1, [])]
  | _ => []
abbrev n_x_hear : Nat := 117
def b_x_hear : Nat → List Item
  | 0 => [(.aload_n 0, 0, []), (.iload_n 1, 0, []), (.invokevirtual 238, 164, [2, 1, 1, 2]), (.ifCond .eq 16, 21, []), (.aload_n 0, 0, []), (.iload_n 2, 0, []), (.invokevirtual 238, 164, [2, 1, 1, 2]), (.ifCond .eq 8, 21, []), (.iload_n 1, 0, []), (.iload_n 2, 0, []), (.if_icmp .ne 9, 27, []), (.nop, 21, [])]
  | 21 => [(.aload_n 0, 0, []), (.iconst 1, 0, []), (.invokevirtual 114, 161, [2, 1, 1, 2]), (.ireturn, 1, [])]
  | 27 => [(.aload_n 0, 0, []), (.getfield 79, 11, [1, 11, 3, 22, 9]), (.getfield 173, 3, [22, 1, 2, 27, 0]), (.getfield 263, 6, [27, 6, 2, 34, 0]), (.iload_n 1, 0, []), (.iaload, 0, []), (.iload_n 2, 0, []), (.invokestatic 288, 173, [2, 1, 0, 2]), (.iload_n 3, 0, []), (.if_icmp .ne 10, 54, []), (.aload_n 0, 0, []), (.bipush 7, 0, []), (.invokevirtual 114, 161, [2, 1, 1, 2]), (.ireturn, 1, [])]
  | 54 => [(.aload_n 0, 0, []), (.getfield 79, 11, [1, 11, 3, 22, 9]), (.getfield 173, 3, [22, 1, 2, 27, 0]), (.iload_n 1, 0, []), (.iload_n 2, 0, []), (.iload_n 3, 0, []), (.invokevirtual 295, 62, [4, 0, 27, 4]), (.aload_n 0, 0, []), (.invokevirtual 121, 160, [1, 1, 1, 1]), (.ireturn, 1, [])]
  | _ => []
abbrev n_x_enter : Nat := 118
def b_x_enter : Nat → List Item
  | 0 => [(.aload_n 0, 0, []), (.iload_n 1, 0, []), (.invokevirtual 238, 164, [2, 1, 1, 2]), (.ifCond .eq 11, 16, []), (.aload_n 0, 0, []), (.iload_n 2, 0, []), (.invokevirtual 225, 163, [2, 1, 1, 2]), (.ifCond .ne 9, 22, []), (.nop, 16, [])]
  | 16 => [(.aload_n 0, 0, []), (.iconst 1, 0, []), (.invokevirtual 133, 159, [2, 1, 1, 2]), (.ireturn, 0, [])]
  | 22 => [(.aload_n 0, 0, []), (.getfield 79, 11, [1, 11, 3, 22, 9]), (.getfield 204, 3, [22, 4, 0, 0, 0]), (.bipush 12, 0, []), (.if_icmp .lt 9, 40, []), (.aload_n 0, 0, []), (.iconst 4, 0, []), (.invokevirtual 133, 159, [2, 1, 1, 2]), (.ireturn, 0, [])]
  | 40 => [(.aload_n 0, 0, []), (.getfield 79, 11, [1, 11, 3, 22, 9]), (.iload_n 1, 0, []), (.iload_n 2, 0, []), (.invokevirtual 299, 25, [3, 0, 22, 3]), (.aload_n 0, 0, []), (.aload_n 0, 0, []), (.getfield 79, 11, [1, 11, 3, 22, 9]), (.getfield 204, 3, [22, 4, 0, 0, 0]), (.invokevirtual 182, 157, [2, 1, 1, 2]), (.ireturn, 0, [])]
  | _ => []
abbrev n_x_strike : Nat := 119
def b_x_strike : Nat → List Item
  | 0 => [(.iload_n 1, 0, []), (.iconst 0, 0, []), (.aload_n 0, 0, []), (.getfield 79, 11, [1, 11, 3, 22, 9]), (.getfield 204, 3, [22, 4, 0, 0, 0]), (.iconst 1, 0, []), (.isub, 0, []), (.invokestatic 110, 171, [3, 1, 0, 3]), (.ifCond .ne 9, 23, []), (.aload_n 0, 0, []), (.iconst 1, 0, []), (.invokevirtual 133, 159, [2, 1, 1, 2]), (.ireturn, 0, [])]
  | 23 => [(.aload_n 0, 0, []), (.getfield 79, 11, [1, 11, 3, 22, 9]), (.iload_n 1, 0, []), (.invokevirtual 302, 26, [2, 0, 22, 3]), (.aload_n 0, 0, []), (.aload_n 0, 0, []), (.getfield 79, 11, [1, 11, 3, 22, 9]), (.getfield 204, 3, [22, 4, 0, 0, 0]), (.invokevirtual 182, 157, [2, 1, 1, 2]), (.ireturn, 0, [])]
  | _ => []
abbrev n_x_breathe : Nat := 120
def b_x_breathe : Nat → List Item
  | 0 => [(.aload_n 0, 0, []), (.iload_n 1, 0, []), (.invokevirtual 238, 164, [2, 1, 1, 2]), (.ifCond .eq 23, 28, []), (.iload_n 2, 0, []), (.iconst 0, 0, []), (.aload_n 0, 0, []), (.getfield 79, 11, [1, 11, 3, 22, 9]), (.getfield 173, 3, [22, 1, 2, 27, 0]), (.getfield 244, 6, [27, 2, 2, 30, 0]), (.iload_n 1, 0, []), (.iaload, 0, []), (.invokestatic 110, 171, [3, 1, 0, 3]), (.ifCond .ne 9, 34, []), (.nop, 28, [])]
  | 28 => [(.aload_n 0, 0, []), (.iconst 1, 0, []), (.invokevirtual 114, 161, [2, 1, 1, 2]), (.ireturn, 1, [])]
  | 34 => [(.aload_n 0, 0, []), (.getfield 79, 11, [1, 11, 3, 22, 9]), (.getfield 173, 3, [22, 1, 2, 27, 0]), (.getfield 241, 6, [27, 1, 2, 29, 0]), (.iload_n 1, 0, []), (.iload_n 2, 0, []), (.iastore, 0, []), (.aload_n 0, 0, []), (.invokevirtual 121, 160, [1, 1, 1, 1]), (.ireturn, 1, [])]
  | _ => []
abbrev n_x_price : Nat := 121
def b_x_price : Nat → List Item
  | 0 => [(.aload_n 0, 0, []), (.iload_n 1, 0, []), (.invokevirtual 225, 163, [2, 1, 1, 2]), (.ifCond .eq 13, 18, []), (.iload_n 2, 0, []), (.iconst 0, 0, []), (.bipush 20, 0, []), (.invokestatic 110, 171, [3, 1, 0, 3]), (.ifCond .ne 9, 24, []), (.nop, 18, [])]
  | 18 => [(.aload_n 0, 0, []), (.iconst 1, 0, []), (.invokevirtual 114, 161, [2, 1, 1, 2]), (.ireturn, 1, [])]
  | 24 => [(.aload_n 0, 0, []), (.getfield 79, 11, [1, 11, 3, 22, 9]), (.getfield 197, 3, [22, 0, 2, 23, 0]), (.getfield 228, 9, [23, 1, 2, 25, 0]), (.iload_n 1, 0, []), (.iload_n 2, 0, []), (.iastore, 0, []), (.aload_n 0, 0, []), (.invokevirtual 121, 160, [1, 1, 1, 1]), (.ireturn, 1, [])]
  | _ => []
abbrev n_x_rule : Nat := 122
def b_x_rule : Nat → List Item
  | 0 => [(.iload_n 1, 0, []), (.iconst 3, 0, []), (.if_icmp .ne 26, 28, []), (.iload_n 2, 0, []), (.iconst 1, 0, []), (.bipush 99, 0, []), (.invokestatic 110, 171, [3, 1, 0, 3]), (.ifCond .eq 16, 28, []), (.aload_n 0, 0, []), (.getfield 79, 11, [1, 11, 3, 22, 9]), (.iload_n 2, 0, []), (.putfield 207, 3, [22, 5, 0, 0, 0]), (.aload_n 0, 0, []), (.invokevirtual 121, 160, [1, 1, 1, 1]), (.ireturn, 1, [])]
  | 28 => [(.iload_n 1, 0, []), (.iconst 4, 0, []), (.if_icmp .ne 26, 56, []), (.iload_n 2, 0, []), (.iconst 0, 0, []), (.bipush 16, 0, []), (.invokestatic 110, 171, [3, 1, 0, 3]), (.ifCond .eq 16, 56, []), (.aload_n 0, 0, []), (.getfield 79, 11, [1, 11, 3, 22, 9]), (.iload_n 2, 0, []), (.putfield 210, 3, [22, 6, 0, 0, 0]), (.aload_n 0, 0, []), (.invokevirtual 121, 160, [1, 1, 1, 1]), (.ireturn, 1, [])]
  | 56 => [(.aload_n 0, 0, []), (.iconst 1, 0, []), (.invokevirtual 114, 161, [2, 1, 1, 2]), (.ireturn, 1, [])]
  | _ => []
abbrev n_x_can : Nat := 123
def b_x_can : Nat → List Item
  | 0 => [(.aload_n 0, 0, []), (.iload_n 1, 0, []), (.invokevirtual 238, 164, [2, 1, 1, 2]), (.ifCond .eq 11, 16, []), (.aload_n 0, 0, []), (.iload_n 2, 0, []), (.invokevirtual 225, 163, [2, 1, 1, 2]), (.ifCond .ne 9, 22, []), (.nop, 16, [])]
  | 16 => [(.aload_n 0, 0, []), (.iconst 1, 0, []), (.invokevirtual 133, 159, [2, 1, 1, 2]), (.ireturn, 0, [])]
  | 22 => [(.aload_n 0, 0, []), (.aload_n 0, 0, []), (.getfield 79, 11, [1, 11, 3, 22, 9]), (.iload_n 1, 0, []), (.iload_n 2, 0, []), (.invokevirtual 305, 29, [3, 1, 22, 3]), (.invokestatic 253, 172, [1, 1, 0, 1]), (.invokevirtual 182, 157, [2, 1, 1, 2]), (.ireturn, 0, [])]
  | _ => []
abbrev n_x_topics : Nat := 124
def b_x_topics : Nat → List Item
  | 0 => [(.aload_n 0, 0, []), (.iload_n 1, 0, []), (.invokevirtual 238, 164, [2, 1, 1, 2]), (.ifCond .eq 18, 23, []), (.aload_n 0, 0, []), (.aload_n 0, 0, []), (.getfield 79, 11, [1, 11, 3, 22, 9]), (.iload_n 1, 0, []), (.invokevirtual 308, 30, [2, 1, 22, 2]), (.invokevirtual 182, 157, [2, 1, 1, 2]), (.goto 8, 28, [])]
  | 23 => [(.aload_n 0, 0, []), (.iconst 1, 0, []), (.invokevirtual 133, 159, [2, 1, 1, 2]), (.nop, 28, [])]
  | 28 => [(.ireturn, 0, [])]
  | _ => []
abbrev n_x_speakers : Nat := 125
def b_x_speakers : Nat → List Item
  | 0 => [(.aload_n 0, 0, []), (.iload_n 1, 0, []), (.invokevirtual 225, 163, [2, 1, 1, 2]), (.ifCond .ne 9, 14, []), (.aload_n 0, 0, []), (.iconst 1, 0, []), (.invokevirtual 133, 159, [2, 1, 1, 2]), (.ireturn, 0, [])]
  | 14 => [(.iconst 0, 0, []), (.istore_n 2, 0, []), (.iconst 0, 0, []), (.istore_n 3, 0, []), (.nop, 18, [])]
  | 18 => [(.iload_n 3, 0, []), (.aload_n 0, 0, []), (.getfield 79, 11, [1, 11, 3, 22, 9]), (.getfield 173, 3, [22, 1, 2, 27, 0]), (.getfield 177, 6, [27, 8, 0, 0, 0]), (.if_icmp .ge 24, 53, []), (.iload_n 2, 0, []), (.iload_n 3, 0, []), (.aload_n 0, 0, []), (.getfield 79, 11, [1, 11, 3, 22, 9]), (.iload_n 3, 0, []), (.iload_n 1, 0, []), (.invokevirtual 305, 29, [3, 1, 22, 3]), (.invokestatic 291, 174, [3, 1, 0, 3]), (.istore_n 2, 0, []), (.iinc 3 1, 0, []), (.goto (-32), 18, [])]
  | 53 => [(.aload_n 0, 0, []), (.iload_n 2, 0, []), (.invokevirtual 182, 157, [2, 1, 1, 2]), (.ireturn, 0, [])]
  | _ => []
abbrev n_x_speaker : Nat := 126
def b_x_speaker : Nat → List Item
  | 0 => [(.aload_n 0, 0, []), (.aload_n 0, 0, []), (.getfield 79, 11, [1, 11, 3, 22, 9]), (.invokevirtual 311, 31, [1, 1, 22, 2]), (.invokestatic 315, 178, [1, 1, 0, 1]), (.invokevirtual 278, 158, [2, 1, 1, 2]), (.ireturn, 0, [])]
  | _ => []
abbrev n_x_spoken : Nat := 127
def b_x_spoken : Nat → List Item
  | 0 => [(.aload_n 0, 0, []), (.aload_n 0, 0, []), (.getfield 79, 11, [1, 11, 3, 22, 9]), (.invokevirtual 311, 31, [1, 1, 22, 2]), (.invokestatic 318, 179, [1, 1, 0, 1]), (.invokevirtual 278, 158, [2, 1, 1, 2]), (.ireturn, 0, [])]
  | _ => []
abbrev n_x_speakerIn : Nat := 128
def b_x_speakerIn : Nat → List Item
  | 0 => [(.iload_n 1, 0, []), (.iconst 0, 0, []), (.sipush 300, 0, []), (.invokestatic 110, 171, [3, 1, 0, 3]), (.ifCond .ne 9, 17, []), (.aload_n 0, 0, []), (.iconst 1, 0, []), (.invokevirtual 133, 159, [2, 1, 1, 2]), (.ireturn, 0, [])]
  | 17 => [(.aload_n 0, 0, []), (.aload_n 0, 0, []), (.getfield 53, 11, [1, 6, 2, 11, 0]), (.aload_n 0, 0, []), (.getfield 79, 11, [1, 11, 3, 22, 9]), (.iload_n 1, 0, []), (.invokevirtual 321, 1, [3, 1, 11, 3]), (.invokevirtual 311, 31, [1, 1, 22, 2]), (.invokestatic 315, 178, [1, 1, 0, 1]), (.invokevirtual 278, 158, [2, 1, 1, 2]), (.ireturn, 0, [])]
  | _ => []
abbrev n_x_breathIn : Nat := 129
def b_x_breathIn : Nat → List Item
  | 0 => [(.aload_n 0, 0, []), (.iload_n 1, 0, []), (.invokevirtual 238, 164, [2, 1, 1, 2]), (.ifCond .eq 14, 19, []), (.iload_n 2, 0, []), (.iconst 0, 0, []), (.sipush 300, 0, []), (.invokestatic 110, 171, [3, 1, 0, 3]), (.ifCond .ne 9, 25, []), (.nop, 19, [])]
  | 19 => [(.aload_n 0, 0, []), (.iconst 1, 0, []), (.invokevirtual 133, 159, [2, 1, 1, 2]), (.ireturn, 0, [])]
  | 25 => [(.aload_n 0, 0, []), (.aload_n 0, 0, []), (.getfield 53, 11, [1, 6, 2, 11, 0]), (.aload_n 0, 0, []), (.getfield 79, 11, [1, 11, 3, 22, 9]), (.iload_n 2, 0, []), (.invokevirtual 321, 1, [3, 1, 11, 3]), (.getfield 173, 3, [22, 1, 2, 27, 0]), (.getfield 241, 6, [27, 1, 2, 29, 0]), (.iload_n 1, 0, []), (.iaload, 0, []), (.invokevirtual 182, 157, [2, 1, 1, 2]), (.ireturn, 0, [])]
  | _ => []
abbrev n_x_pauseIn : Nat := 130
def b_x_pauseIn : Nat → List Item
  | 0 => [(.aload_n 0, 0, []), (.aload_n 0, 0, []), (.getfield 53, 11, [1, 6, 2, 11, 0]), (.aload_n 0, 0, []), (.getfield 79, 11, [1, 11, 3, 22, 9]), (.sipush 301, 0, []), (.invokevirtual 325, 2, [3, 1, 11, 3]), (.invokevirtual 278, 158, [2, 1, 1, 2]), (.ireturn, 0, [])]
  | _ => []
abbrev n_x_pausesIn : Nat := 131
def b_x_pausesIn : Nat → List Item
  | 0 => [(.iload_n 1, 0, []), (.iconst 0, 0, []), (.sipush 300, 0, []), (.invokestatic 110, 171, [3, 1, 0, 3]), (.ifCond .ne 9, 17, []), (.aload_n 0, 0, []), (.iconst 1, 0, []), (.invokevirtual 133, 159, [2, 1, 1, 2]), (.ireturn, 0, [])]
  | 17 => [(.aload_n 0, 0, []), (.aload_n 0, 0, []), (.getfield 53, 11, [1, 6, 2, 11, 0]), (.aload_n 0, 0, []), (.getfield 79, 11, [1, 11, 3, 22, 9]), (.iload_n 1, 0, []), (.invokevirtual 321, 1, [3, 1, 11, 3]), (.getfield 216, 3, [22, 8, 0, 0, 0]), (.aload_n 0, 0, []), (.getfield 79, 11, [1, 11, 3, 22, 9]), (.getfield 216, 3, [22, 8, 0, 0, 0]), (.isub, 0, []), (.invokevirtual 182, 157, [2, 1, 1, 2]), (.ireturn, 0, [])]
  | _ => []
abbrev n_x_turnIn : Nat := 132
def b_x_turnIn : Nat → List Item
  | 0 => [(.aload_n 0, 0, []), (.iload_n 1, 0, []), (.invokevirtual 238, 164, [2, 1, 1, 2]), (.ifCond .eq 18, 23, []), (.aload_n 0, 0, []), (.aload_n 0, 0, []), (.getfield 79, 11, [1, 11, 3, 22, 9]), (.iload_n 1, 0, []), (.invokevirtual 329, 37, [2, 1, 22, 3]), (.invokevirtual 182, 157, [2, 1, 1, 2]), (.goto 8, 28, [])]
  | 23 => [(.aload_n 0, 0, []), (.iconst 1, 0, []), (.invokevirtual 133, 159, [2, 1, 1, 2]), (.nop, 28, [])]
  | 28 => [(.ireturn, 0, [])]
  | _ => []
abbrev n_x_unfair : Nat := 133
def b_x_unfair : Nat → List Item
  | 0 => [(.aload_n 0, 0, []), (.aload_n 0, 0, []), (.getfield 79, 11, [1, 11, 3, 22, 9]), (.getfield 173, 3, [22, 1, 2, 27, 0]), (.invokevirtual 332, 65, [1, 1, 27, 4]), (.invokevirtual 182, 157, [2, 1, 1, 2]), (.ireturn, 0, [])]
  | _ => []
abbrev n_x_enough : Nat := 134
def b_x_enough : Nat → List Item
  | 0 => [(.aload_n 0, 0, []), (.iload_n 1, 0, []), (.invokevirtual 335, 165, [2, 1, 1, 2]), (.ifCond .eq 13, 18, []), (.iload_n 2, 0, []), (.iconst 0, 0, []), (.bipush 60, 0, []), (.invokestatic 110, 171, [3, 1, 0, 3]), (.ifCond .ne 9, 24, []), (.nop, 18, [])]
  | 18 => [(.aload_n 0, 0, []), (.iconst 1, 0, []), (.invokevirtual 133, 159, [2, 1, 1, 2]), (.ireturn, 0, [])]
  | 24 => [(.aload_n 0, 0, []), (.aload_n 0, 0, []), (.getfield 53, 11, [1, 6, 2, 11, 0]), (.aload_n 0, 0, []), (.getfield 79, 11, [1, 11, 3, 22, 9]), (.iload_n 1, 0, []), (.iload_n 2, 0, []), (.invokevirtual 338, 4, [4, 1, 11, 5]), (.invokestatic 253, 172, [1, 1, 0, 1]), (.invokevirtual 182, 157, [2, 1, 1, 2]), (.ireturn, 0, [])]
  | _ => []
abbrev n_x_fewest : Nat := 135
def b_x_fewest : Nat → List Item
  | 0 => [(.iload_n 1, 0, []), (.iconst 0, 0, []), (.bipush 60, 0, []), (.invokestatic 110, 171, [3, 1, 0, 3]), (.ifCond .ne 9, 16, []), (.aload_n 0, 0, []), (.iconst 1, 0, []), (.invokevirtual 133, 159, [2, 1, 1, 2]), (.ireturn, 0, [])]
  | 16 => [(.aload_n 0, 0, []), (.getfield 53, 11, [1, 6, 2, 11, 0]), (.aload_n 0, 0, []), (.getfield 79, 11, [1, 11, 3, 22, 9]), (.iload_n 1, 0, []), (.invokevirtual 342, 5, [3, 1, 11, 6]), (.istore_n 2, 0, []), (.iload_n 2, 0, []), (.iconst (-1), 0, []), (.if_icmp .ne 12, 43, []), (.aload_n 0, 0, []), (.bipush 6, 0, []), (.invokevirtual 133, 159, [2, 1, 1, 2]), (.goto 11, 51, [])]
  | 43 => [(.aload_n 0, 0, []), (.iload_n 2, 0, []), (.invokestatic 345, 332, [1, 1, 0, 1]), (.invokevirtual 182, 157, [2, 1, 1, 2]), (.nop, 51, [])]
  | 51 => [(.ireturn, 0, [])]
  | _ => []
abbrev n_x_fewestSet : Nat := 136
def b_x_fewestSet : Nat → List Item
  | 0 => [(.iload_n 1, 0, []), (.iconst 0, 0, []), (.bipush 60, 0, []), (.invokestatic 110, 171, [3, 1, 0, 3]), (.ifCond .ne 9, 16, []), (.aload_n 0, 0, []), (.iconst 1, 0, []), (.invokevirtual 133, 159, [2, 1, 1, 2]), (.ireturn, 0, [])]
  | 16 => [(.aload_n 0, 0, []), (.aload_n 0, 0, []), (.getfield 53, 11, [1, 6, 2, 11, 0]), (.aload_n 0, 0, []), (.getfield 79, 11, [1, 11, 3, 22, 9]), (.iload_n 1, 0, []), (.invokevirtual 342, 5, [3, 1, 11, 6]), (.invokevirtual 278, 158, [2, 1, 1, 2]), (.ireturn, 0, [])]
  | _ => []
abbrev n_x_shift : Nat := 137
def b_x_shift : Nat → List Item
  | 0 => [(.iload_n 1, 0, []), (.iconst 1, 0, []), (.iconst 3, 0, []), (.invokestatic 110, 171, [3, 1, 0, 3]), (.ifCond .ne 9, 15, []), (.aload_n 0, 0, []), (.iconst 1, 0, []), (.invokevirtual 133, 159, [2, 1, 1, 2]), (.ireturn, 0, [])]
  | 15 => [(.aload_n 0, 0, []), (.aload_n 0, 0, []), (.getfield 53, 11, [1, 6, 2, 11, 0]), (.aload_n 0, 0, []), (.getfield 79, 11, [1, 11, 3, 22, 9]), (.iload_n 1, 0, []), (.invokevirtual 350, 6, [3, 1, 11, 3]), (.invokevirtual 278, 158, [2, 1, 1, 2]), (.ireturn, 0, [])]
  | _ => []
abbrev n_x_shiftAt : Nat := 138
def b_x_shiftAt : Nat → List Item
  | 0 => [(.iload_n 1, 0, []), (.iconst 1, 0, []), (.iconst 3, 0, []), (.invokestatic 110, 171, [3, 1, 0, 3]), (.ifCond .eq 23, 29, []), (.iload_n 2, 0, []), (.iconst 0, 0, []), (.iload_n 1, 0, []), (.iconst 1, 0, []), (.isub, 0, []), (.invokestatic 110, 171, [3, 1, 0, 3]), (.ifCond .eq 12, 29, []), (.iload_n 3, 0, []), (.iconst 0, 0, []), (.iconst 1, 0, []), (.invokestatic 110, 171, [3, 1, 0, 3]), (.ifCond .ne 9, 35, []), (.nop, 29, [])]
  | 29 => [(.aload_n 0, 0, []), (.iconst 1, 0, []), (.invokevirtual 133, 159, [2, 1, 1, 2]), (.ireturn, 0, [])]
  | 35 => [(.aload_n 0, 0, []), (.getfield 53, 11, [1, 6, 2, 11, 0]), (.aload_n 0, 0, []), (.getfield 79, 11, [1, 11, 3, 22, 9]), (.iload_n 1, 0, []), (.invokevirtual 350, 6, [3, 1, 11, 3]), (.iconst (-1), 0, []), (.if_icmp .ne 10, 58, []), (.aload_n 0, 0, []), (.bipush 6, 0, []), (.invokevirtual 133, 159, [2, 1, 1, 2]), (.ireturn, 0, [])]
  | 58 => [(.aload_n 0, 0, []), (.getfield 53, 11, [1, 6, 2, 11, 0]), (.getfield 353, 0, [11, 6, 2, 15, 0]), (.iload_n 2, 0, []), (.iaload, 0, []), (.istore 4, 0, []), (.aload_n 0, 0, []), (.iload_n 3, 0, []), (.ifCond .ne 11, 82, []), (.iload 4, 0, []), (.invokestatic 315, 178, [1, 1, 0, 1]), (.goto 8, 87, [])]
  | 82 => [(.iload 4, 0, []), (.invokestatic 318, 179, [1, 1, 0, 1]), (.nop, 87, [])]
  | 87 => [(.invokevirtual 182, 157, [2, 1, 1, 2]), (.ireturn, 0, [])]
  | _ => []
abbrev n_x_talk : Nat := 139
def b_x_talk : Nat → List Item
  | 0 => [(.aload_n 0, 0, []), (.iload_n 1, 0, []), (.invokevirtual 225, 163, [2, 1, 1, 2]), (.ifCond .eq 25, 30, []), (.aload_n 0, 0, []), (.aload_n 0, 0, []), (.getfield 60, 11, [1, 7, 2, 16, 0]), (.aload_n 0, 0, []), (.getfield 79, 11, [1, 11, 3, 22, 9]), (.getfield 197, 3, [22, 0, 2, 23, 0]), (.iload_n 1, 0, []), (.invokevirtual 356, 67, [3, 1, 16, 3]), (.invokevirtual 182, 157, [2, 1, 1, 2]), (.goto 8, 35, [])]
  | 30 => [(.aload_n 0, 0, []), (.iconst 1, 0, []), (.invokevirtual 133, 159, [2, 1, 1, 2]), (.nop, 35, [])]
  | 35 => [(.ireturn, 0, [])]
  | _ => []
abbrev n_x_talkAt : Nat := 140
def b_x_talkAt : Nat → List Item
  | 0 => [(.aload_n 0, 0, []), (.iload_n 1, 0, []), (.invokevirtual 225, 163, [2, 1, 1, 2]), (.ifCond .eq 7, 12, []), (.iload_n 2, 0, []), (.ifCond .ge 9, 18, []), (.nop, 12, [])]
  | 12 => [(.aload_n 0, 0, []), (.iconst 1, 0, []), (.invokevirtual 133, 159, [2, 1, 1, 2]), (.ireturn, 0, [])]
  | 18 => [(.iload_n 2, 0, []), (.aload_n 0, 0, []), (.getfield 60, 11, [1, 7, 2, 16, 0]), (.aload_n 0, 0, []), (.getfield 79, 11, [1, 11, 3, 22, 9]), (.getfield 197, 3, [22, 0, 2, 23, 0]), (.iload_n 1, 0, []), (.invokevirtual 356, 67, [3, 1, 16, 3]), (.if_icmp .ge 19, 53, []), (.aload_n 0, 0, []), (.aload_n 0, 0, []), (.getfield 60, 11, [1, 7, 2, 16, 0]), (.getfield 360, 7, [16, 1, 2, 18, 0]), (.iload_n 2, 0, []), (.iaload, 0, []), (.invokevirtual 182, 157, [2, 1, 1, 2]), (.goto 9, 59, [])]
  | 53 => [(.aload_n 0, 0, []), (.bipush 6, 0, []), (.invokevirtual 133, 159, [2, 1, 1, 2]), (.nop, 59, [])]
  | 59 => [(.ireturn, 0, [])]
  | _ => []
abbrev n_x_ring : Nat := 141
def b_x_ring : Nat → List Item
  | 0 => [(.aload_n 0, 0, []), (.aload_n 0, 0, []), (.getfield 60, 11, [1, 7, 2, 16, 0]), (.aload_n 0, 0, []), (.getfield 79, 11, [1, 11, 3, 22, 9]), (.getfield 197, 3, [22, 0, 2, 23, 0]), (.invokevirtual 363, 69, [2, 1, 16, 4]), (.invokevirtual 278, 158, [2, 1, 1, 2]), (.ireturn, 0, [])]
  | _ => []
abbrev n_x_ringAt : Nat := 142
def b_x_ringAt : Nat → List Item
  | 0 => [(.iload_n 1, 0, []), (.ifCond .ge 9, 10, []), (.aload_n 0, 0, []), (.iconst 1, 0, []), (.invokevirtual 133, 159, [2, 1, 1, 2]), (.ireturn, 0, [])]
  | 10 => [(.iload_n 1, 0, []), (.aload_n 0, 0, []), (.getfield 60, 11, [1, 7, 2, 16, 0]), (.aload_n 0, 0, []), (.getfield 79, 11, [1, 11, 3, 22, 9]), (.getfield 197, 3, [22, 0, 2, 23, 0]), (.invokevirtual 363, 69, [2, 1, 16, 4]), (.if_icmp .ge 19, 44, []), (.aload_n 0, 0, []), (.aload_n 0, 0, []), (.getfield 60, 11, [1, 7, 2, 16, 0]), (.getfield 367, 7, [16, 0, 2, 17, 0]), (.iload_n 1, 0, []), (.iaload, 0, []), (.invokevirtual 182, 157, [2, 1, 1, 2]), (.goto 9, 50, [])]
  | 44 => [(.aload_n 0, 0, []), (.bipush 6, 0, []), (.invokevirtual 133, 159, [2, 1, 1, 2]), (.nop, 50, [])]
  | 50 => [(.ireturn, 0, [])]
  | _ => []
abbrev n_x_reach : Nat := 143
def b_x_reach : Nat → List Item
  | 0 => [(.aload_n 0, 0, []), (.iload_n 1, 0, []), (.invokevirtual 225, 163, [2, 1, 1, 2]), (.ifCond .eq 21, 26, []), (.aload_n 0, 0, []), (.aload_n 0, 0, []), (.getfield 79, 11, [1, 11, 3, 22, 9]), (.getfield 197, 3, [22, 0, 2, 23, 0]), (.iload_n 1, 0, []), (.invokestatic 369, 71, [2, 1, 0, 5]), (.invokevirtual 182, 157, [2, 1, 1, 2]), (.goto 8, 31, [])]
  | 26 => [(.aload_n 0, 0, []), (.iconst 1, 0, []), (.invokevirtual 133, 159, [2, 1, 1, 2]), (.nop, 31, [])]
  | 31 => [(.ireturn, 0, [])]
  | _ => []
abbrev n_x_wins : Nat := 144
def b_x_wins : Nat → List Item
  | 0 => [(.aload_n 0, 0, []), (.iload_n 1, 0, []), (.invokevirtual 225, 163, [2, 1, 1, 2]), (.ifCond .ne 9, 14, []), (.aload_n 0, 0, []), (.iconst 1, 0, []), (.invokevirtual 133, 159, [2, 1, 1, 2]), (.ireturn, 0, [])]
  | 14 => [(.aload_n 0, 0, []), (.aload_n 0, 0, []), (.getfield 79, 11, [1, 11, 3, 22, 9]), (.getfield 197, 3, [22, 0, 2, 23, 0]), (.iload_n 1, 0, []), (.iconst 1, 0, []), (.iload_n 1, 0, []), (.ishl, 0, []), (.invokestatic 372, 72, [3, 1, 0, 5]), (.iconst (-1), 0, []), (.if_icmp .eq 7, 37, []), (.iconst 1, 0, []), (.goto 4, 38, [])]
  | 37 => [(.iconst 0, 0, []), (.nop, 38, [])]
  | 38 => [(.invokestatic 253, 172, [1, 1, 0, 1]), (.invokevirtual 182, 157, [2, 1, 1, 2]), (.ireturn, 0, [])]
  | _ => []
abbrev n_x_best : Nat := 145
def b_x_best : Nat → List Item
  | 0 => [(.aload_n 0, 0, []), (.iload_n 1, 0, []), (.invokevirtual 225, 163, [2, 1, 1, 2]), (.ifCond .eq 24, 29, []), (.aload_n 0, 0, []), (.aload_n 0, 0, []), (.getfield 79, 11, [1, 11, 3, 22, 9]), (.getfield 197, 3, [22, 0, 2, 23, 0]), (.iload_n 1, 0, []), (.iconst 1, 0, []), (.iload_n 1, 0, []), (.ishl, 0, []), (.invokestatic 372, 72, [3, 1, 0, 5]), (.invokevirtual 278, 158, [2, 1, 1, 2]), (.goto 8, 34, [])]
  | 29 => [(.aload_n 0, 0, []), (.iconst 1, 0, []), (.invokevirtual 133, 159, [2, 1, 1, 2]), (.nop, 34, [])]
  | 34 => [(.ireturn, 0, [])]
  | _ => []
abbrev n_x_heard : Nat := 146
def b_x_heard : Nat → List Item
  | 0 => [(.iload_n 2, 0, []), (.iconst 0, 0, []), (.iconst 4, 0, []), (.invokestatic 110, 171, [3, 1, 0, 3]), (.ifCond .ne 9, 15, []), (.aload_n 0, 0, []), (.iconst 1, 0, []), (.invokevirtual 133, 159, [2, 1, 1, 2]), (.ireturn, 0, [])]
  | 15 => [(.aload_n 0, 0, []), (.iload_n 1, 0, []), (.iload_n 2, 0, []), (.invokevirtual 376, 167, [3, 1, 1, 6]), (.istore_n 3, 0, []), (.iload_n 3, 0, []), (.ifCond .ne 29, 52, []), (.aload_n 0, 0, []), (.aload_n 0, 0, []), (.getfield 53, 11, [1, 6, 2, 11, 0]), (.aload_n 0, 0, []), (.getfield 79, 11, [1, 11, 3, 22, 9]), (.aload_n 0, 0, []), (.getfield 11, 11, [1, 0, 2, 2, 0]), (.iload_n 1, 0, []), (.aaload, 0, []), (.iload_n 2, 0, []), (.iconst (-1), 0, []), (.invokevirtual 379, 10, [5, 1, 11, 6]), (.invokevirtual 182, 157, [2, 1, 1, 2]), (.goto 8, 57, [])]
  | 52 => [(.aload_n 0, 0, []), (.iload_n 3, 0, []), (.invokevirtual 133, 159, [2, 1, 1, 2]), (.nop, 57, [])]
  | 57 => [(.ireturn, 0, [])]
  | _ => []
abbrev n_x_sure : Nat := 147
def b_x_sure : Nat → List Item
  | 0 => [(.iload_n 2, 0, []), (.iconst 0, 0, []), (.iconst 4, 0, []), (.invokestatic 110, 171, [3, 1, 0, 3]), (.ifCond .eq 14, 20, []), (.iload_n 3, 0, []), (.iconst 0, 0, []), (.iload_n 2, 0, []), (.iconst 1, 0, []), (.isub, 0, []), (.invokestatic 110, 171, [3, 1, 0, 3]), (.ifCond .ne 9, 26, []), (.nop, 20, [])]
  | 20 => [(.aload_n 0, 0, []), (.iconst 1, 0, []), (.invokevirtual 133, 159, [2, 1, 1, 2]), (.ireturn, 0, [])]
  | 26 => [(.aload_n 0, 0, []), (.iload_n 1, 0, []), (.iload_n 2, 0, []), (.invokevirtual 376, 167, [3, 1, 1, 6]), (.istore 4, 0, []), (.iload 4, 0, []), (.ifCond .eq 10, 46, []), (.aload_n 0, 0, []), (.iload 4, 0, []), (.invokevirtual 133, 159, [2, 1, 1, 2]), (.ireturn, 0, [])]
  | 46 => [(.aload_n 0, 0, []), (.getfield 53, 11, [1, 6, 2, 11, 0]), (.aload_n 0, 0, []), (.getfield 79, 11, [1, 11, 3, 22, 9]), (.aload_n 0, 0, []), (.getfield 11, 11, [1, 0, 2, 2, 0]), (.iload_n 1, 0, []), (.aaload, 0, []), (.iload_n 2, 0, []), (.iload_n 3, 0, []), (.invokevirtual 379, 10, [5, 1, 11, 6]), (.pop, 0, []), (.aload_n 0, 0, []), (.aload_n 0, 0, []), (.getfield 53, 11, [1, 6, 2, 11, 0]), (.getfield 383, 0, [11, 7, 0, 0, 0]), (.invokestatic 386, 176, [1, 1, 0, 1]), (.invokevirtual 278, 158, [2, 1, 1, 2]), (.ireturn, 0, [])]
  | _ => []
abbrev n_x_couples : Nat := 148
def b_x_couples : Nat → List Item
  | 0 => [(.aload_n 0, 0, []), (.iload_n 1, 0, []), (.invokevirtual 335, 165, [2, 1, 1, 2]), (.ifCond .eq 24, 29, []), (.aload_n 0, 0, []), (.aload_n 0, 0, []), (.getfield 79, 11, [1, 11, 3, 22, 9]), (.getfield 173, 3, [22, 1, 2, 27, 0]), (.getfield 263, 6, [27, 6, 2, 34, 0]), (.iload_n 1, 0, []), (.invokestatic 389, 66, [2, 1, 0, 6]), (.invokevirtual 182, 157, [2, 1, 1, 2]), (.goto 8, 34, [])]
  | 29 => [(.aload_n 0, 0, []), (.iconst 1, 0, []), (.invokevirtual 133, 159, [2, 1, 1, 2]), (.nop, 34, [])]
  | 34 => [(.ireturn, 0, [])]
  | _ => []
abbrev n_x_allRead : Nat := 149
def b_x_allRead : Nat → List Item
  | 0 => [(.aload_n 0, 0, []), (.iload_n 1, 0, []), (.invokevirtual 335, 165, [2, 1, 1, 2]), (.ifCond .ne 9, 14, []), (.aload_n 0, 0, []), (.iconst 1, 0, []), (.invokevirtual 133, 159, [2, 1, 1, 2]), (.ireturn, 0, [])]
  | 14 => [(.aload_n 0, 0, []), (.iconst 2, 0, []), (.aload_n 0, 0, []), (.getfield 79, 11, [1, 11, 3, 22, 9]), (.getfield 173, 3, [22, 1, 2, 27, 0]), (.getfield 263, 6, [27, 6, 2, 34, 0]), (.iload_n 1, 0, []), (.invokestatic 389, 66, [2, 1, 0, 6]), (.imul, 0, []), (.iload_n 1, 0, []), (.invokestatic 345, 332, [1, 1, 0, 1]), (.if_icmp .ne 7, 42, []), (.iconst 1, 0, []), (.goto 4, 43, [])]
  | 42 => [(.iconst 0, 0, []), (.nop, 43, [])]
  | 43 => [(.invokestatic 253, 172, [1, 1, 0, 1]), (.invokevirtual 182, 157, [2, 1, 1, 2]), (.ireturn, 0, [])]
  | _ => []
abbrev n_x_coughs : Nat := 150
def b_x_coughs : Nat → List Item
  | 0 => [(.iload_n 1, 0, []), (.iconst 0, 0, []), (.bipush 7, 0, []), (.invokestatic 110, 171, [3, 1, 0, 3]), (.ifCond .ne 9, 16, []), (.aload_n 0, 0, []), (.iconst 1, 0, []), (.invokevirtual 114, 161, [2, 1, 1, 2]), (.ireturn, 1, [])]
  | 16 => [(.aload_n 0, 0, []), (.invokevirtual 393, 168, [1, 0, 1, 3]), (.lconst 0, 0, []), (.lstore_n 2, 0, []), (.lconst 0, 0, []), (.lstore 4, 0, []), (.iconst 0, 0, []), (.istore 6, 0, []), (.nop, 28, [])]
  | 28 => [(.iload 6, 0, []), (.bipush 7, 0, []), (.if_icmp .gt 41, 73, []), (.lload_n 2, 0, []), (.aload_n 0, 0, []), (.getfield 74, 11, [1, 10, 2, 21, 0]), (.iload 6, 0, []), (.laload, 0, []), (.ladd, 0, []), (.lstore_n 2, 0, []), (.lload 4, 0, []), (.iload 6, 0, []), (.iload_n 1, 0, []), (.if_icmp .lt 13, 63, []), (.aload_n 0, 0, []), (.getfield 74, 11, [1, 10, 2, 21, 0]), (.iload 6, 0, []), (.laload, 0, []), (.goto 4, 64, [])]
  | 63 => [(.lconst 0, 0, []), (.nop, 64, [])]
  | 64 => [(.ladd, 0, []), (.lstore 4, 0, []), (.iinc 6 1, 0, []), (.goto (-42), 28, [])]
  | 73 => [(.aload_n 0, 0, []), (.lload 4, 0, []), (.lload_n 2, 0, []), (.invokevirtual 396, 169, [3, 0, 1, 7]), (.aload_n 0, 0, []), (.invokevirtual 121, 160, [1, 1, 1, 1]), (.ireturn, 1, [])]
  | _ => []
abbrev n_x_copyBreath : Nat := 151
def b_x_copyBreath : Nat → List Item
  | 0 => [(.aload_n 0, 0, []), (.iload_n 1, 0, []), (.invokevirtual 106, 162, [2, 1, 1, 2]), (.ifCond .ne 9, 14, []), (.aload_n 0, 0, []), (.iconst 1, 0, []), (.invokevirtual 133, 159, [2, 1, 1, 2]), (.ireturn, 0, [])]
  | 14 => [(.aload_n 0, 0, []), (.getfield 11, 11, [1, 0, 2, 2, 0]), (.iload_n 1, 0, []), (.aaload, 0, []), (.getfield 140, 10, [44, 1, 5, 0, 0]), (.ifCond .ne 9, 32, []), (.aload_n 0, 0, []), (.iconst 2, 0, []), (.invokevirtual 133, 159, [2, 1, 1, 2]), (.ireturn, 0, [])]
  | 32 => [(.aload_n 0, 0, []), (.getfield 11, 11, [1, 0, 2, 2, 0]), (.iload_n 1, 0, []), (.aaload, 0, []), (.iconst 0, 0, []), (.aload_n 0, 0, []), (.getfield 79, 11, [1, 11, 3, 22, 9]), (.getfield 173, 3, [22, 1, 2, 27, 0]), (.getfield 177, 6, [27, 8, 0, 0, 0]), (.invokevirtual 147, 93, [3, 1, 44, 3]), (.ifCond .ne 9, 61, []), (.aload_n 0, 0, []), (.iconst 3, 0, []), (.invokevirtual 133, 159, [2, 1, 1, 2]), (.ireturn, 0, [])]
  | 61 => [(.iconst 0, 0, []), (.istore_n 2, 0, []), (.nop, 63, [])]
  | 63 => [(.iload_n 2, 0, []), (.aload_n 0, 0, []), (.getfield 79, 11, [1, 11, 3, 22, 9]), (.getfield 173, 3, [22, 1, 2, 27, 0]), (.getfield 177, 6, [27, 8, 0, 0, 0]), (.if_icmp .ge 32, 106, []), (.aload_n 0, 0, []), (.getfield 11, 11, [1, 0, 2, 2, 0]), (.iload_n 1, 0, []), (.aaload, 0, []), (.iload_n 2, 0, []), (.aload_n 0, 0, []), (.getfield 79, 11, [1, 11, 3, 22, 9]), (.getfield 173, 3, [22, 1, 2, 27, 0]), (.getfield 241, 6, [27, 1, 2, 29, 0]), (.iload_n 2, 0, []), (.iaload, 0, []), (.i2l, 0, []), (.invokevirtual 129, 94, [3, 0, 44, 4]), (.iinc 2 1, 0, []), (.goto (-40), 63, [])]
  | 106 => [(.aload_n 0, 0, []), (.aload_n 0, 0, []), (.getfield 79, 11, [1, 11, 3, 22, 9]), (.getfield 173, 3, [22, 1, 2, 27, 0]), (.getfield 177, 6, [27, 8, 0, 0, 0]), (.invokevirtual 182, 157, [2, 1, 1, 2]), (.ireturn, 0, [])]
  | _ => []
abbrev n_x_live : Nat := 152
def b_x_live : Nat → List Item
  | 0 => [(.iload_n 1, 0, []), (.iconst 0, 0, []), (.sipush 9999, 0, []), (.invokestatic 110, 171, [3, 1, 0, 3]), (.ifCond .ne 9, 17, []), (.aload_n 0, 0, []), (.iconst 1, 0, []), (.invokevirtual 133, 159, [2, 1, 1, 2]), (.ireturn, 0, [])]
  | 17 => [(.aload_n 0, 0, []), (.getfield 87, 11, [1, 13, 3, 37, 5]), (.getfield 400, 1, [37, 8, 5, 0, 0]), (.ifCond .ne 10, 34, []), (.aload_n 0, 0, []), (.bipush 6, 0, []), (.invokevirtual 133, 159, [2, 1, 1, 2]), (.ireturn, 0, [])]
  | 34 => [(.aload_n 0, 0, []), (.getfield 67, 11, [1, 8, 2, 19, 0]), (.aload_n 0, 0, []), (.getfield 79, 11, [1, 11, 3, 22, 9]), (.aload_n 0, 0, []), (.getfield 87, 11, [1, 13, 3, 37, 5]), (.iload_n 1, 0, []), (.invokevirtual 401, 48, [4, 0, 19, 6]), (.aload_n 0, 0, []), (.aload_n 0, 0, []), (.getfield 67, 11, [1, 8, 2, 19, 0]), (.getfield 405, 5, [19, 4, 0, 0, 0]), (.invokevirtual 182, 157, [2, 1, 1, 2]), (.ireturn, 0, [])]
  | _ => []
abbrev n_x_lived : Nat := 153
def b_x_lived : Nat → List Item
  | 0 => [(.iload_n 1, 0, []), (.iconst 0, 0, []), (.iconst 4, 0, []), (.invokestatic 110, 171, [3, 1, 0, 3]), (.ifCond .ne 9, 15, []), (.aload_n 0, 0, []), (.iconst 1, 0, []), (.invokevirtual 133, 159, [2, 1, 1, 2]), (.ireturn, 0, [])]
  | 15 => [(.aload_n 0, 0, []), (.getfield 67, 11, [1, 8, 2, 19, 0]), (.getfield 406, 5, [19, 10, 5, 0, 0]), (.ifCond .ne 10, 32, []), (.aload_n 0, 0, []), (.bipush 6, 0, []), (.invokevirtual 133, 159, [2, 1, 1, 2]), (.ireturn, 0, [])]
  | 32 => [(.iload_n 1, 0, []), (.tableswitch 79 0 3 #[31, 43, 55, 67], 112, [64, 76, 88, 100])]
  | 64 => [(.aload_n 0, 0, []), (.aload_n 0, 0, []), (.getfield 67, 11, [1, 8, 2, 19, 0]), (.getfield 407, 5, [19, 5, 0, 0, 0]), (.invokevirtual 182, 157, [2, 1, 1, 2]), (.ireturn, 0, [])]
  | 76 => [(.aload_n 0, 0, []), (.aload_n 0, 0, []), (.getfield 67, 11, [1, 8, 2, 19, 0]), (.getfield 410, 5, [19, 6, 0, 0, 0]), (.invokevirtual 182, 157, [2, 1, 1, 2]), (.ireturn, 0, [])]
  | 88 => [(.aload_n 0, 0, []), (.aload_n 0, 0, []), (.getfield 67, 11, [1, 8, 2, 19, 0]), (.getfield 411, 5, [19, 7, 0, 0, 0]), (.invokevirtual 182, 157, [2, 1, 1, 2]), (.ireturn, 0, [])]
  | 100 => [(.aload_n 0, 0, []), (.aload_n 0, 0, []), (.getfield 67, 11, [1, 8, 2, 19, 0]), (.getfield 412, 5, [19, 8, 0, 0, 0]), (.invokevirtual 182, 157, [2, 1, 1, 2]), (.ireturn, 0, [])]
  | 112 => [(.aload_n 0, 0, []), (.aload_n 0, 0, []), (.getfield 67, 11, [1, 8, 2, 19, 0]), (.getfield 413, 5, [19, 9, 5, 0, 0]), (.invokestatic 253, 172, [1, 1, 0, 1]), (.invokevirtual 182, 157, [2, 1, 1, 2]), (.ireturn, 0, [])]
  | _ => []
abbrev n_x_mean : Nat := 154
def b_x_mean : Nat → List Item
  | 0 => [(.iload_n 1, 0, []), (.iconst 0, 0, []), (.sipush 9999, 0, []), (.invokestatic 110, 171, [3, 1, 0, 3]), (.ifCond .eq 24, 32, []), (.iload_n 2, 0, []), (.iconst 1, 0, []), (.bipush 20, 0, []), (.invokestatic 110, 171, [3, 1, 0, 3]), (.ifCond .eq 14, 32, []), (.iload_n 1, 0, []), (.iload_n 2, 0, []), (.iadd, 0, []), (.iconst 1, 0, []), (.isub, 0, []), (.sipush 9999, 0, []), (.if_icmp .le 9, 38, []), (.nop, 32, [])]
  | 32 => [(.aload_n 0, 0, []), (.iconst 1, 0, []), (.invokevirtual 114, 161, [2, 1, 1, 2]), (.ireturn, 1, [])]
  | 38 => [(.aload_n 0, 0, []), (.getfield 87, 11, [1, 13, 3, 37, 5]), (.getfield 400, 1, [37, 8, 5, 0, 0]), (.ifCond .ne 10, 55, []), (.aload_n 0, 0, []), (.bipush 6, 0, []), (.invokevirtual 114, 161, [2, 1, 1, 2]), (.ireturn, 1, [])]
  | 55 => [(.lconst 0, 0, []), (.lstore_n 3, 0, []), (.iconst 0, 0, []), (.istore 5, 0, []), (.nop, 60, [])]
  | 60 => [(.iload 5, 0, []), (.iload_n 2, 0, []), (.if_icmp .ge 49, 112, []), (.aload_n 0, 0, []), (.getfield 53, 11, [1, 6, 2, 11, 0]), (.aload_n 0, 0, []), (.getfield 79, 11, [1, 11, 3, 22, 9]), (.iconst 0, 0, []), (.invokevirtual 321, 1, [3, 1, 11, 3]), (.astore 6, 0, []), (.aload_n 0, 0, []), (.getfield 71, 11, [1, 9, 4, 19, 1]), (.aload 6, 0, []), (.aload_n 0, 0, []), (.getfield 87, 11, [1, 13, 3, 37, 5]), (.iload_n 1, 0, []), (.iload 5, 0, []), (.iadd, 0, []), (.invokevirtual 401, 48, [4, 0, 19, 6]), (.lload_n 3, 0, []), (.aload 6, 0, []), (.getfield 216, 3, [22, 8, 0, 0, 0]), (.i2l, 0, []), (.ladd, 0, []), (.lstore_n 3, 0, []), (.iinc 5 1, 0, []), (.goto (-49), 60, [])]
  | 112 => [(.aload_n 0, 0, []), (.lload_n 3, 0, []), (.iload_n 2, 0, []), (.i2l, 0, []), (.invokevirtual 396, 169, [3, 0, 1, 7]), (.aload_n 0, 0, []), (.invokevirtual 121, 160, [1, 1, 1, 1]), (.ireturn, 1, [])]
  | _ => []
abbrev n_x_mark : Nat := 155
def b_x_mark : Nat → List Item
  | 0 => [(.aload_n 0, 0, []), (.getfield 416, 11, [1, 15, 0, 0, 0]), (.iconst 3, 0, []), (.if_icmp .lt 9, 14, []), (.aload_n 0, 0, []), (.iconst 4, 0, []), (.invokevirtual 133, 159, [2, 1, 1, 2]), (.ireturn, 0, [])]
  | 14 => [(.aload_n 0, 0, []), (.getfield 40, 11, [1, 4, 2, 9, 0]), (.aload_n 0, 0, []), (.getfield 416, 11, [1, 15, 0, 0, 0]), (.aaload, 0, []), (.aload_n 0, 0, []), (.getfield 79, 11, [1, 11, 3, 22, 9]), (.invokevirtual 419, 24, [2, 0, 22, 2]), (.aload_n 0, 0, []), (.getfield 46, 11, [1, 5, 2, 10, 0]), (.aload_n 0, 0, []), (.getfield 416, 11, [1, 15, 0, 0, 0]), (.aaload, 0, []), (.aload_n 0, 0, []), (.getfield 87, 11, [1, 13, 3, 37, 5]), (.invokevirtual 423, 13, [2, 0, 37, 2]), (.aload_n 0, 0, []), (.dup, 0, []), (.getfield 416, 11, [1, 15, 0, 0, 0]), (.iconst 1, 0, []), (.iadd, 0, []), (.putfield 416, 11, [1, 15, 0, 0, 0]), (.aload_n 0, 0, []), (.aload_n 0, 0, []), (.getfield 416, 11, [1, 15, 0, 0, 0]), (.invokevirtual 182, 157, [2, 1, 1, 2]), (.ireturn, 0, [])]
  | _ => []
abbrev n_x_undo : Nat := 156
def b_x_undo : Nat → List Item
  | 0 => [(.aload_n 0, 0, []), (.getfield 416, 11, [1, 15, 0, 0, 0]), (.ifCond .gt 10, 14, []), (.aload_n 0, 0, []), (.bipush 6, 0, []), (.invokevirtual 133, 159, [2, 1, 1, 2]), (.ireturn, 0, [])]
  | 14 => [(.aload_n 0, 0, []), (.dup, 0, []), (.getfield 416, 11, [1, 15, 0, 0, 0]), (.iconst 1, 0, []), (.isub, 0, []), (.putfield 416, 11, [1, 15, 0, 0, 0]), (.aload_n 0, 0, []), (.getfield 79, 11, [1, 11, 3, 22, 9]), (.aload_n 0, 0, []), (.getfield 40, 11, [1, 4, 2, 9, 0]), (.aload_n 0, 0, []), (.getfield 416, 11, [1, 15, 0, 0, 0]), (.aaload, 0, []), (.invokevirtual 419, 24, [2, 0, 22, 2]), (.aload_n 0, 0, []), (.getfield 87, 11, [1, 13, 3, 37, 5]), (.aload_n 0, 0, []), (.getfield 46, 11, [1, 5, 2, 10, 0]), (.aload_n 0, 0, []), (.getfield 416, 11, [1, 15, 0, 0, 0]), (.aaload, 0, []), (.invokevirtual 423, 13, [2, 0, 37, 2]), (.aload_n 0, 0, []), (.aload_n 0, 0, []), (.getfield 416, 11, [1, 15, 0, 0, 0]), (.invokevirtual 182, 157, [2, 1, 1, 2]), (.ireturn, 0, [])]
  | _ => []
abbrev n_x_give : Nat := 157
def b_x_give : Nat → List Item
  | 0 => [(.aload_n 0, 0, []), (.iconst 0, 0, []), (.putfield 99, 11, [1, 16, 0, 0, 0]), (.iload_n 1, 0, []), (.ireturn, 0, [])]
  | _ => []
abbrev n_x_giveOrNone : Nat := 158
def b_x_giveOrNone : Nat → List Item
  | 0 => [(.iload_n 1, 0, []), (.iconst (-1), 0, []), (.if_icmp .ne 12, 14, []), (.aload_n 0, 0, []), (.bipush 6, 0, []), (.invokevirtual 133, 159, [2, 1, 1, 2]), (.goto 8, 19, [])]
  | 14 => [(.aload_n 0, 0, []), (.iload_n 1, 0, []), (.invokevirtual 182, 157, [2, 1, 1, 2]), (.nop, 19, [])]
  | 19 => [(.ireturn, 0, [])]
  | _ => []
abbrev n_x_none : Nat := 159
def b_x_none : Nat → List Item
  | 0 => [(.aload_n 0, 0, []), (.iload_n 1, 0, []), (.putfield 99, 11, [1, 16, 0, 0, 0]), (.iconst (-1), 0, []), (.ireturn, 0, [])]
  | _ => []
abbrev n_x_agree : Nat := 160
def b_x_agree : Nat → List Item
  | 0 => [(.aload_n 0, 0, []), (.iconst 0, 0, []), (.putfield 99, 11, [1, 16, 0, 0, 0]), (.iconst 1, 0, []), (.ireturn, 1, [])]
  | _ => []
abbrev n_x_refuse : Nat := 161
def b_x_refuse : Nat → List Item
  | 0 => [(.aload_n 0, 0, []), (.iload_n 1, 0, []), (.putfield 99, 11, [1, 16, 0, 0, 0]), (.iconst 0, 0, []), (.ireturn, 1, [])]
  | _ => []
abbrev n_x_isTray : Nat := 162
def b_x_isTray : Nat → List Item
  | 0 => [(.iload_n 1, 0, []), (.iconst 0, 0, []), (.iconst 3, 0, []), (.invokestatic 110, 171, [3, 1, 0, 3]), (.ireturn, 1, [])]
  | _ => []
abbrev n_x_isTopic : Nat := 163
def b_x_isTopic : Nat → List Item
  | 0 => [(.iload_n 1, 0, []), (.iconst 0, 0, []), (.aload_n 0, 0, []), (.getfield 79, 11, [1, 11, 3, 22, 9]), (.getfield 197, 3, [22, 0, 2, 23, 0]), (.getfield 201, 9, [23, 3, 0, 0, 0]), (.iconst 1, 0, []), (.isub, 0, []), (.invokestatic 110, 171, [3, 1, 0, 3]), (.ireturn, 1, [])]
  | _ => []
abbrev n_x_isMonk : Nat := 164
def b_x_isMonk : Nat → List Item
  | 0 => [(.iload_n 1, 0, []), (.iconst 0, 0, []), (.aload_n 0, 0, []), (.getfield 79, 11, [1, 11, 3, 22, 9]), (.getfield 173, 3, [22, 1, 2, 27, 0]), (.getfield 177, 6, [27, 8, 0, 0, 0]), (.iconst 1, 0, []), (.isub, 0, []), (.invokestatic 110, 171, [3, 1, 0, 3]), (.ireturn, 1, [])]
  | _ => []
abbrev n_x_isSet : Nat := 165
def b_x_isSet : Nat → List Item
  | 0 => [(.iload_n 1, 0, []), (.iconst 0, 0, []), (.iconst 1, 0, []), (.aload_n 0, 0, []), (.getfield 79, 11, [1, 11, 3, 22, 9]), (.getfield 173, 3, [22, 1, 2, 27, 0]), (.getfield 177, 6, [27, 8, 0, 0, 0]), (.ishl, 0, []), (.iconst 1, 0, []), (.isub, 0, []), (.invokestatic 110, 171, [3, 1, 0, 3]), (.ireturn, 1, [])]
  | _ => []
abbrev n_x_placeStatus : Nat := 166
def b_x_placeStatus : Nat → List Item
  | 0 => [(.aload_n 0, 0, []), (.iload_n 1, 0, []), (.invokevirtual 106, 162, [2, 1, 1, 2]), (.ifCond .ne 5, 10, []), (.iconst 1, 0, []), (.ireturn, 0, [])]
  | 10 => [(.aload_n 0, 0, []), (.getfield 11, 11, [1, 0, 2, 2, 0]), (.iload_n 1, 0, []), (.aaload, 0, []), (.getfield 140, 10, [44, 1, 5, 0, 0]), (.ifCond .ne 5, 24, []), (.iconst 2, 0, []), (.ireturn, 0, [])]
  | 24 => [(.iload_n 2, 0, []), (.iconst 0, 0, []), (.aload_n 0, 0, []), (.getfield 11, 11, [1, 0, 2, 2, 0]), (.iload_n 1, 0, []), (.aaload, 0, []), (.getfield 426, 10, [44, 3, 0, 0, 0]), (.iconst 1, 0, []), (.isub, 0, []), (.invokestatic 110, 171, [3, 1, 0, 3]), (.ifCond .eq 7, 47, []), (.iconst 0, 0, []), (.goto 4, 48, [])]
  | 47 => [(.iconst 3, 0, []), (.nop, 48, [])]
  | 48 => [(.ireturn, 0, [])]
  | _ => []
abbrev n_x_heardStatus : Nat := 167
def b_x_heardStatus : Nat → List Item
  | 0 => [(.aload_n 0, 0, []), (.iload_n 1, 0, []), (.invokevirtual 106, 162, [2, 1, 1, 2]), (.ifCond .ne 5, 10, []), (.iconst 1, 0, []), (.ireturn, 0, [])]
  | 10 => [(.aload_n 0, 0, []), (.getfield 11, 11, [1, 0, 2, 2, 0]), (.iload_n 1, 0, []), (.aaload, 0, []), (.getfield 140, 10, [44, 1, 5, 0, 0]), (.ifCond .ne 5, 24, []), (.iconst 2, 0, []), (.ireturn, 0, [])]
  | 24 => [(.aload_n 0, 0, []), (.getfield 11, 11, [1, 0, 2, 2, 0]), (.iload_n 1, 0, []), (.aaload, 0, []), (.iconst 0, 0, []), (.iload_n 2, 0, []), (.invokevirtual 147, 93, [3, 1, 44, 3]), (.ifCond .ne 5, 40, []), (.iconst 3, 0, []), (.ireturn, 0, [])]
  | 40 => [(.iconst 0, 0, []), (.istore_n 3, 0, []), (.nop, 42, [])]
  | 42 => [(.iload_n 3, 0, []), (.iload_n 2, 0, []), (.if_icmp .ge 48, 92, []), (.aload_n 0, 0, []), (.getfield 11, 11, [1, 0, 2, 2, 0]), (.iload_n 1, 0, []), (.aaload, 0, []), (.getfield 137, 10, [44, 0, 2, 45, 0]), (.iload_n 3, 0, []), (.laload, 0, []), (.lstore 4, 0, []), (.lload 4, 0, []), (.lconst 0, 0, []), (.lcmp, 0, []), (.ifCond .lt 20, 84, []), (.lload 4, 0, []), (.aload_n 0, 0, []), (.getfield 79, 11, [1, 11, 3, 22, 9]), (.getfield 197, 3, [22, 0, 2, 23, 0]), (.getfield 201, 9, [23, 3, 0, 0, 0]), (.i2l, 0, []), (.lcmp, 0, []), (.ifCond .lt 5, 86, []), (.nop, 84, [])]
  | 84 => [(.iconst 5, 0, []), (.ireturn, 0, [])]
  | 86 => [(.iinc 3 1, 0, []), (.goto (-47), 42, [])]
  | 92 => [(.iconst 0, 0, []), (.ireturn, 0, [])]
  | _ => []
abbrev n_x_weighCoughs : Nat := 168
def b_x_weighCoughs : Nat → List Item
  | 0 => [(.aload_n 0, 0, []), (.getfield 74, 11, [1, 10, 2, 21, 0]), (.lconst 0, 0, []), (.invokestatic 429, 336, [2, 0, 0, 5]), (.aload_n 0, 0, []), (.getfield 74, 11, [1, 10, 2, 21, 0]), (.iconst 0, 0, []), (.lconst 1, 0, []), (.lastore, 0, []), (.iconst 0, 0, []), (.istore_n 1, 0, []), (.nop, 17, [])]
  | 17 => [(.iload_n 1, 0, []), (.aload_n 0, 0, []), (.getfield 79, 11, [1, 11, 3, 22, 9]), (.getfield 173, 3, [22, 1, 2, 27, 0]), (.getfield 177, 6, [27, 8, 0, 0, 0]), (.if_icmp .ge 112, 140, []), (.aload_n 0, 0, []), (.getfield 79, 11, [1, 11, 3, 22, 9]), (.getfield 173, 3, [22, 1, 2, 27, 0]), (.iload_n 1, 0, []), (.invokevirtual 250, 60, [2, 1, 27, 2]), (.ifCond .eq 92, 134, []), (.iload_n 1, 0, []), (.aload_n 0, 0, []), (.getfield 79, 11, [1, 11, 3, 22, 9]), (.getfield 272, 3, [22, 10, 0, 0, 0]), (.if_icmp .ne 6, 59, []), (.goto 78, 134, [])]
  | 59 => [(.bipush 7, 0, []), (.istore_n 2, 0, []), (.nop, 62, [])]
  | 62 => [(.iload_n 2, 0, []), (.ifCond .le 51, 114, []), (.aload_n 0, 0, []), (.getfield 74, 11, [1, 10, 2, 21, 0]), (.iload_n 2, 0, []), (.aload_n 0, 0, []), (.getfield 74, 11, [1, 10, 2, 21, 0]), (.iload_n 2, 0, []), (.laload, 0, []), (.bipush 16, 0, []), (.aload_n 0, 0, []), (.getfield 79, 11, [1, 11, 3, 22, 9]), (.getfield 210, 3, [22, 6, 0, 0, 0]), (.isub, 0, []), (.i2l, 0, []), (.lmul, 0, []), (.aload_n 0, 0, []), (.getfield 74, 11, [1, 10, 2, 21, 0]), (.iload_n 2, 0, []), (.iconst 1, 0, []), (.isub, 0, []), (.laload, 0, []), (.aload_n 0, 0, []), (.getfield 79, 11, [1, 11, 3, 22, 9]), (.getfield 210, 3, [22, 6, 0, 0, 0]), (.i2l, 0, []), (.lmul, 0, []), (.ladd, 0, []), (.lastore, 0, []), (.iinc 2 (-1), 0, []), (.goto (-49), 62, [])]
  | 114 => [(.aload_n 0, 0, []), (.getfield 74, 11, [1, 10, 2, 21, 0]), (.iconst 0, 0, []), (.dup2, 0, []), (.laload, 0, []), (.bipush 16, 0, []), (.aload_n 0, 0, []), (.getfield 79, 11, [1, 11, 3, 22, 9]), (.getfield 210, 3, [22, 6, 0, 0, 0]), (.isub, 0, []), (.i2l, 0, []), (.lmul, 0, []), (.lastore, 0, []), (.nop, 134, [])]
  | 134 => [(.iinc 1 1, 0, []), (.goto (-120), 17, [])]
  | 140 => [(.return_, 0, [])]
  | _ => []
abbrev n_x_tellFraction : Nat := 169
def b_x_tellFraction : Nat → List Item
  | 0 => [(.lload_n 1, 0, []), (.lload_n 3, 0, []), (.invokestatic 435, 170, [2, 1, 0, 11]), (.lstore 5, 0, []), (.lload 5, 0, []), (.lconst 0, 0, []), (.lcmp, 0, []), (.ifCond .le 19, 30, []), (.aload_n 0, 0, []), (.lload_n 1, 0, []), (.lload 5, 0, []), (.ldiv, 0, []), (.putfield 103, 11, [1, 17, 1, 0, 0]), (.aload_n 0, 0, []), (.lload_n 3, 0, []), (.lload 5, 0, []), (.ldiv, 0, []), (.putfield 94, 11, [1, 18, 1, 0, 0]), (.nop, 30, [])]
  | 30 => [(.return_, 0, [])]
  | _ => []
abbrev n_x_commonDivisor : Nat := 170
def b_x_commonDivisor : Nat → List Item
  | 0 => [(.lload_n 0, 0, []), (.lstore 4, 0, []), (.lload_n 2, 0, []), (.lstore 6, 0, []), (.iconst 0, 0, []), (.istore 8, 0, []), (.nop, 9, [])]
  | 9 => [(.iload 8, 0, []), (.sipush 200, 0, []), (.if_icmp .ge 31, 45, []), (.lload 6, 0, []), (.lconst 0, 0, []), (.lcmp, 0, []), (.ifCond .eq 24, 45, []), (.lload 4, 0, []), (.lload 6, 0, []), (.lrem, 0, []), (.lstore 9, 0, []), (.lload 6, 0, []), (.lstore 4, 0, []), (.lload 9, 0, []), (.lstore 6, 0, []), (.iinc 8 1, 0, []), (.goto (-33), 9, [])]
  | 45 => [(.lload 4, 0, []), (.lreturn, 0, [])]
  | _ => []
abbrev n_x_within : Nat := 171
def b_x_within : Nat → List Item
  | 0 => [(.iload_n 0, 0, []), (.iload_n 1, 0, []), (.if_icmp .lt 12, 14, []), (.iload_n 0, 0, []), (.iload_n 2, 0, []), (.if_icmp .gt 7, 14, []), (.iconst 1, 0, []), (.goto 4, 15, [])]
  | 14 => [(.iconst 0, 0, []), (.nop, 15, [])]
  | 15 => [(.ireturn, 1, [])]
  | _ => []
abbrev n_x_truth : Nat := 172
def b_x_truth : Nat → List Item
  | 0 => [(.iload_n 0, 0, []), (.ifCond .eq 7, 8, []), (.iconst 1, 0, []), (.goto 4, 9, [])]
  | 8 => [(.iconst 0, 0, []), (.nop, 9, [])]
  | 9 => [(.ireturn, 0, [])]
  | _ => []
abbrev n_x_has : Nat := 173
def b_x_has : Nat → List Item
  | 0 => [(.iload_n 0, 0, []), (.iload_n 1, 0, []), (.ishr, 0, []), (.iconst 1, 0, []), (.iand, 0, []), (.iconst 1, 0, []), (.if_icmp .ne 7, 13, []), (.iconst 1, 0, []), (.goto 4, 14, [])]
  | 13 => [(.iconst 0, 0, []), (.nop, 14, [])]
  | 14 => [(.ireturn, 1, [])]
  | _ => []
abbrev n_x_with : Nat := 174
def b_x_with : Nat → List Item
  | 0 => [(.iload_n 2, 0, []), (.ifCond .eq 11, 12, []), (.iload_n 0, 0, []), (.iconst 1, 0, []), (.iload_n 1, 0, []), (.ishl, 0, []), (.ior, 0, []), (.goto 10, 19, [])]
  | 12 => [(.iload_n 0, 0, []), (.iconst 1, 0, []), (.iload_n 1, 0, []), (.ishl, 0, []), (.iconst (-1), 0, []), (.ixor, 0, []), (.iand, 0, []), (.nop, 19, [])]
  | 19 => [(.ireturn, 0, [])]
  | _ => []
abbrev n_x_leastOf : Nat := 175
def b_x_leastOf : Nat → List Item
  | 0 => [(.iconst 0, 0, []), (.istore_n 1, 0, []), (.nop, 2, [])]
  | 2 => [(.iload_n 1, 0, []), (.bipush 7, 0, []), (.if_icmp .ge 19, 24, []), (.iload_n 0, 0, []), (.iload_n 1, 0, []), (.invokestatic 288, 173, [2, 1, 0, 2]), (.ifCond .eq 5, 18, []), (.iload_n 1, 0, []), (.ireturn, 0, [])]
  | 18 => [(.iinc 1 1, 0, []), (.goto (-19), 2, [])]
  | 24 => [(.iconst (-1), 0, []), (.ireturn, 0, [])]
  | _ => []
abbrev n_x_onlyOneOf : Nat := 176
def b_x_onlyOneOf : Nat → List Item
  | 0 => [(.iload_n 0, 0, []), (.invokestatic 345, 332, [1, 1, 0, 1]), (.iconst 1, 0, []), (.if_icmp .ne 10, 15, []), (.iload_n 0, 0, []), (.invokestatic 439, 175, [1, 1, 0, 2]), (.goto 4, 16, [])]
  | 15 => [(.iconst (-1), 0, []), (.nop, 16, [])]
  | 16 => [(.ireturn, 0, [])]
  | _ => []
abbrev n_x_speechOf : Nat := 177
def b_x_speechOf : Nat → List Item
  | 0 => [(.iload_n 0, 0, []), (.bipush 6, 0, []), (.imul, 0, []), (.iload_n 1, 0, []), (.iadd, 0, []), (.ireturn, 0, [])]
  | _ => []
abbrev n_x_monkOf : Nat := 178
def b_x_monkOf : Nat → List Item
  | 0 => [(.iload_n 0, 0, []), (.ifCond .ge 7, 8, []), (.iconst (-1), 0, []), (.goto 7, 12, [])]
  | 8 => [(.iload_n 0, 0, []), (.bipush 6, 0, []), (.idiv, 0, []), (.nop, 12, [])]
  | 12 => [(.ireturn, 0, [])]
  | _ => []
abbrev n_x_topicOf : Nat := 179
def b_x_topicOf : Nat → List Item
  | 0 => [(.iload_n 0, 0, []), (.ifCond .ge 7, 8, []), (.iconst (-1), 0, []), (.goto 7, 12, [])]
  | 8 => [(.iload_n 0, 0, []), (.bipush 6, 0, []), (.irem, 0, []), (.nop, 12, [])]
  | 12 => [(.ireturn, 0, [])]
  | _ => []
abbrev n_m_plain : Nat := 180
def b_m_plain : Nat → List Item
  | 0 => [(.iconst 0, 0, []), (.istore_n 2, 0, []), (.nop, 2, [])]
  | 2 => [(.iload_n 2, 0, []), (.sipush 465, 0, []), (.if_icmp .ge 18, 24, []), (.aload_n 0, 0, []), (.getfield 7, 12, [46, 0, 2, 47, 0]), (.iload_n 1, 0, []), (.iload_n 2, 0, []), (.iadd, 0, []), (.iconst 0, 0, []), (.iastore, 0, []), (.iinc 2 1, 0, []), (.goto (-19), 2, [])]
  | 24 => [(.aload_n 0, 0, []), (.getfield 7, 12, [46, 0, 2, 47, 0]), (.iload_n 1, 0, []), (.iconst 3, 0, []), (.iadd, 0, []), (.bipush 10, 0, []), (.iastore, 0, []), (.aload_n 0, 0, []), (.getfield 7, 12, [46, 0, 2, 47, 0]), (.iload_n 1, 0, []), (.iconst 4, 0, []), (.iadd, 0, []), (.iconst 1, 0, []), (.iastore, 0, []), (.aload_n 0, 0, []), (.getfield 7, 12, [46, 0, 2, 47, 0]), (.iload_n 1, 0, []), (.bipush 9, 0, []), (.iadd, 0, []), (.iconst (-1), 0, []), (.iastore, 0, []), (.aload_n 0, 0, []), (.getfield 7, 12, [46, 0, 2, 47, 0]), (.iload_n 1, 0, []), (.bipush 10, 0, []), (.iadd, 0, []), (.iconst (-1), 0, []), (.iastore, 0, []), (.return_, 0, [])]
  | _ => []
abbrev n_m_status : Nat := 181
def b_m_status : Nat → List Item
  | 0 => [(.aload_n 0, 0, []), (.getfield 88, 12, [46, 2, 0, 0, 0]), (.ireturn, 0, [])]
  | _ => []
abbrev n_m_top : Nat := 182
def b_m_top : Nat → List Item
  | 0 => [(.aload_n 0, 0, []), (.getfield 91, 12, [46, 3, 1, 0, 0]), (.lreturn, 0, [])]
  | _ => []
abbrev n_m_bottom : Nat := 183
def b_m_bottom : Nat → List Item
  | 0 => [(.aload_n 0, 0, []), (.getfield 17, 12, [46, 4, 1, 0, 0]), (.lreturn, 0, [])]
  | _ => []
abbrev n_m_is : Nat := 184
def b_m_is : Nat → List Item
  | 0 => [(.aload_n 0, 0, []), (.iload_n 1, 0, []), (.putfield 88, 12, [46, 2, 0, 0, 0]), (.iload_n 1, 0, []), (.ifCond .ne 7, 13, []), (.iconst 1, 0, []), (.goto 4, 14, [])]
  | 13 => [(.iconst 0, 0, []), (.nop, 14, [])]
  | 14 => [(.ireturn, 1, [])]
  | _ => []
abbrev n_m_refuse : Nat := 185
def b_m_refuse : Nat → List Item
  | 0 => [(.aload_n 0, 0, []), (.iload_n 1, 0, []), (.putfield 88, 12, [46, 2, 0, 0, 0]), (.iconst (-1), 0, []), (.ireturn, 0, [])]
  | _ => []
abbrev n_m_gives : Nat := 186
def b_m_gives : Nat → List Item
  | 0 => [(.aload_n 0, 0, []), (.iconst 0, 0, []), (.putfield 88, 12, [46, 2, 0, 0, 0]), (.iload_n 1, 0, []), (.ireturn, 0, [])]
  | _ => []
abbrev n_m_orNone : Nat := 187
def b_m_orNone : Nat → List Item
  | 0 => [(.iload_n 1, 0, []), (.iconst (-1), 0, []), (.if_icmp .ne 12, 14, []), (.aload_n 0, 0, []), (.bipush 6, 0, []), (.invokevirtual 94, 185, [2, 1, 46, 2]), (.goto 8, 19, [])]
  | 14 => [(.aload_n 0, 0, []), (.iload_n 1, 0, []), (.invokevirtual 98, 186, [2, 1, 46, 2]), (.nop, 19, [])]
  | 19 => [(.ireturn, 0, [])]
  | _ => []
abbrev n_m_tellsBy : Nat := 188
def b_m_tellsBy : Nat → List Item
  | 0 => [(.lload_n 1, 0, []), (.lstore 5, 0, []), (.lload_n 3, 0, []), (.lstore 7, 0, []), (.nop, 6, [])]
  | 6 => [(.lload 7, 0, []), (.lconst 0, 0, []), (.lcmp, 0, []), (.ifCond .eq 21, 31, []), (.lload 5, 0, []), (.lload 7, 0, []), (.lrem, 0, []), (.lstore 9, 0, []), (.lload 7, 0, []), (.lstore 5, 0, []), (.lload 9, 0, []), (.lstore 7, 0, []), (.goto (-22), 6, [])]
  | 31 => [(.aload_n 0, 0, []), (.lload_n 1, 0, []), (.lload 5, 0, []), (.ldiv, 0, []), (.putfield 91, 12, [46, 3, 1, 0, 0]), (.aload_n 0, 0, []), (.lload_n 3, 0, []), (.lload 5, 0, []), (.ldiv, 0, []), (.putfield 17, 12, [46, 4, 1, 0, 0]), (.aload_n 0, 0, []), (.iconst 0, 0, []), (.invokevirtual 101, 184, [2, 1, 46, 2]), (.ireturn, 1, [])]
  | _ => []
abbrev n_m_isTray : Nat := 189
def b_m_isTray : Nat → List Item
  | 0 => [(.iload_n 0, 0, []), (.ifCond .lt 12, 13, []), (.iload_n 0, 0, []), (.iconst 4, 0, []), (.if_icmp .ge 7, 13, []), (.iconst 1, 0, []), (.goto 4, 14, [])]
  | 13 => [(.iconst 0, 0, []), (.nop, 14, [])]
  | 14 => [(.ireturn, 1, [])]
  | _ => []
abbrev n_m_cut : Nat := 190
def b_m_cut : Nat → List Item
  | 0 => [(.iload_n 2, 0, []), (.ifCond .ne 10, 11, []), (.lload_n 0, 0, []), (.l2i, 0, []), (.i2b, 0, []), (.i2l, 0, []), (.goto 27, 35, [])]
  | 11 => [(.iload_n 2, 0, []), (.iconst 1, 0, []), (.if_icmp .ne 10, 23, []), (.lload_n 0, 0, []), (.l2i, 0, []), (.i2s, 0, []), (.i2l, 0, []), (.goto 15, 35, [])]
  | 23 => [(.iload_n 2, 0, []), (.iconst 2, 0, []), (.if_icmp .ne 9, 34, []), (.lload_n 0, 0, []), (.l2i, 0, []), (.i2l, 0, []), (.goto 4, 35, [])]
  | 34 => [(.lload_n 0, 0, []), (.nop, 35, [])]
  | 35 => [(.lreturn, 0, [])]
  | _ => []
abbrev n_m_tray : Nat := 191
def b_m_tray : Nat → List Item
  | 0 => [(.iload_n 1, 0, []), (.invokestatic 105, 189, [1, 1, 0, 1]), (.ifCond .eq 22, 26, []), (.iload_n 2, 0, []), (.ifCond .lt 18, 26, []), (.iload_n 2, 0, []), (.iconst 3, 0, []), (.if_icmp .gt 13, 26, []), (.iload_n 3, 0, []), (.ifCond .lt 9, 26, []), (.iload_n 3, 0, []), (.bipush 60, 0, []), (.if_icmp .le 9, 32, []), (.nop, 26, [])]
  | 26 => [(.aload_n 0, 0, []), (.iconst 1, 0, []), (.invokevirtual 101, 184, [2, 1, 46, 2]), (.ireturn, 1, [])]
  | 32 => [(.aload_n 0, 0, []), (.getfield 21, 12, [46, 5, 2, 49, 0]), (.iload_n 1, 0, []), (.iload_n 2, 0, []), (.iastore, 0, []), (.aload_n 0, 0, []), (.getfield 24, 12, [46, 6, 2, 50, 0]), (.iload_n 1, 0, []), (.iload_n 3, 0, []), (.iastore, 0, []), (.iconst 0, 0, []), (.istore 4, 0, []), (.nop, 49, [])]
  | 49 => [(.iload 4, 0, []), (.iload_n 3, 0, []), (.if_icmp .ge 22, 74, []), (.aload_n 0, 0, []), (.getfield 27, 12, [46, 7, 2, 51, 0]), (.bipush 60, 0, []), (.iload_n 1, 0, []), (.imul, 0, []), (.iload 4, 0, []), (.iadd, 0, []), (.lconst 0, 0, []), (.lastore, 0, []), (.iinc 4 1, 0, []), (.goto (-22), 49, [])]
  | 74 => [(.aload_n 0, 0, []), (.iconst 0, 0, []), (.invokevirtual 101, 184, [2, 1, 46, 2]), (.ireturn, 1, [])]
  | _ => []
abbrev n_m_wrongPlace : Nat := 192
def b_m_wrongPlace : Nat → List Item
  | 0 => [(.iload_n 1, 0, []), (.invokestatic 105, 189, [1, 1, 0, 1]), (.ifCond .ne 7, 11, []), (.iconst 1, 0, []), (.goto 36, 44, [])]
  | 11 => [(.aload_n 0, 0, []), (.getfield 24, 12, [46, 6, 2, 50, 0]), (.iload_n 1, 0, []), (.iaload, 0, []), (.iconst (-1), 0, []), (.if_icmp .ne 7, 25, []), (.iconst 2, 0, []), (.goto 22, 44, [])]
  | 25 => [(.iload_n 2, 0, []), (.ifCond .lt 13, 39, []), (.iload_n 2, 0, []), (.aload_n 0, 0, []), (.getfield 24, 12, [46, 6, 2, 50, 0]), (.iload_n 1, 0, []), (.iaload, 0, []), (.if_icmp .lt 7, 43, []), (.nop, 39, [])]
  | 39 => [(.iconst 3, 0, []), (.goto 4, 44, [])]
  | 43 => [(.iconst 0, 0, []), (.nop, 44, [])]
  | 44 => [(.ireturn, 0, [])]
  | _ => []
abbrev n_m_write : Nat := 193
def b_m_write : Nat → List Item
  | 0 => [(.aload_n 0, 0, []), (.iload_n 1, 0, []), (.iload_n 2, 0, []), (.invokevirtual 108, 192, [3, 1, 46, 3]), (.istore 5, 0, []), (.iload 5, 0, []), (.ifCond .ne 24, 34, []), (.aload_n 0, 0, []), (.getfield 27, 12, [46, 7, 2, 51, 0]), (.bipush 60, 0, []), (.iload_n 1, 0, []), (.imul, 0, []), (.iload_n 2, 0, []), (.iadd, 0, []), (.lload_n 3, 0, []), (.aload_n 0, 0, []), (.getfield 21, 12, [46, 5, 2, 49, 0]), (.iload_n 1, 0, []), (.iaload, 0, []), (.invokestatic 112, 190, [2, 1, 0, 3]), (.lastore, 0, []), (.nop, 34, [])]
  | 34 => [(.aload_n 0, 0, []), (.iload 5, 0, []), (.invokevirtual 101, 184, [2, 1, 46, 2]), (.ireturn, 1, [])]
  | _ => []
abbrev n_m_read : Nat := 194
def b_m_read : Nat → List Item
  | 0 => [(.aload_n 0, 0, []), (.aload_n 0, 0, []), (.iload_n 1, 0, []), (.iload_n 2, 0, []), (.invokevirtual 108, 192, [3, 1, 46, 3]), (.putfield 88, 12, [46, 2, 0, 0, 0]), (.aload_n 0, 0, []), (.getfield 88, 12, [46, 2, 0, 0, 0]), (.ifCond .le 9, 23, []), (.ldc2_w 116, 1, [1]), (.goto 14, 34, [])]
  | 23 => [(.aload_n 0, 0, []), (.getfield 27, 12, [46, 7, 2, 51, 0]), (.bipush 60, 0, []), (.iload_n 1, 0, []), (.imul, 0, []), (.iload_n 2, 0, []), (.iadd, 0, []), (.laload, 0, []), (.nop, 34, [])]
  | 34 => [(.lreturn, 0, [])]
  | _ => []
abbrev n_m_pour : Nat := 195
def b_m_pour : Nat → List Item
  | 0 => [(.iload_n 1, 0, []), (.invokestatic 105, 189, [1, 1, 0, 1]), (.ifCond .eq 24, 28, []), (.iload_n 3, 0, []), (.invokestatic 105, 189, [1, 1, 0, 1]), (.ifCond .eq 17, 28, []), (.iload_n 2, 0, []), (.ifCond .lt 13, 28, []), (.iload 4, 0, []), (.ifCond .lt 8, 28, []), (.iload 5, 0, []), (.ifCond .ge 9, 34, []), (.nop, 28, [])]
  | 28 => [(.aload_n 0, 0, []), (.iconst 1, 0, []), (.invokevirtual 101, 184, [2, 1, 46, 2]), (.ireturn, 1, [])]
  | 34 => [(.aload_n 0, 0, []), (.getfield 24, 12, [46, 6, 2, 50, 0]), (.iload_n 1, 0, []), (.iaload, 0, []), (.iconst (-1), 0, []), (.if_icmp .eq 13, 54, []), (.aload_n 0, 0, []), (.getfield 24, 12, [46, 6, 2, 50, 0]), (.iload_n 3, 0, []), (.iaload, 0, []), (.iconst (-1), 0, []), (.if_icmp .ne 9, 60, []), (.nop, 54, [])]
  | 54 => [(.aload_n 0, 0, []), (.iconst 2, 0, []), (.invokevirtual 101, 184, [2, 1, 46, 2]), (.ireturn, 1, [])]
  | 60 => [(.aload_n 0, 0, []), (.getfield 21, 12, [46, 5, 2, 49, 0]), (.iload_n 1, 0, []), (.iaload, 0, []), (.aload_n 0, 0, []), (.getfield 21, 12, [46, 5, 2, 49, 0]), (.iload_n 3, 0, []), (.iaload, 0, []), (.if_icmp .eq 10, 82, []), (.aload_n 0, 0, []), (.bipush 8, 0, []), (.invokevirtual 101, 184, [2, 1, 46, 2]), (.ireturn, 1, [])]
  | 82 => [(.iload 5, 0, []), (.aload_n 0, 0, []), (.getfield 24, 12, [46, 6, 2, 50, 0]), (.iload_n 1, 0, []), (.iaload, 0, []), (.iload_n 2, 0, []), (.isub, 0, []), (.if_icmp .gt 17, 109, []), (.iload 5, 0, []), (.aload_n 0, 0, []), (.getfield 24, 12, [46, 6, 2, 50, 0]), (.iload_n 3, 0, []), (.iaload, 0, []), (.iload 4, 0, []), (.isub, 0, []), (.if_icmp .le 9, 115, []), (.nop, 109, [])]
  | 109 => [(.aload_n 0, 0, []), (.iconst 3, 0, []), (.invokevirtual 101, 184, [2, 1, 46, 2]), (.ireturn, 1, [])]
  | 115 => [(.iconst 0, 0, []), (.istore 6, 0, []), (.nop, 118, [])]
  | 118 => [(.iload 6, 0, []), (.iload 5, 0, []), (.if_icmp .ge 58, 180, []), (.iload_n 2, 0, []), (.iload 4, 0, []), (.if_icmp .ge 13, 141, []), (.iload 5, 0, []), (.iconst 1, 0, []), (.isub, 0, []), (.iload 6, 0, []), (.isub, 0, []), (.goto 5, 143, [])]
  | 141 => [(.iload 6, 0, []), (.nop, 143, [])]
  | 143 => [(.istore 7, 0, []), (.aload_n 0, 0, []), (.getfield 27, 12, [46, 7, 2, 51, 0]), (.bipush 60, 0, []), (.iload_n 3, 0, []), (.imul, 0, []), (.iload 4, 0, []), (.iadd, 0, []), (.iload 7, 0, []), (.iadd, 0, []), (.aload_n 0, 0, []), (.getfield 27, 12, [46, 7, 2, 51, 0]), (.bipush 60, 0, []), (.iload_n 1, 0, []), (.imul, 0, []), (.iload_n 2, 0, []), (.iadd, 0, []), (.iload 7, 0, []), (.iadd, 0, []), (.laload, 0, []), (.lastore, 0, []), (.iinc 6 1, 0, []), (.goto (-59), 118, [])]
  | 180 => [(.aload_n 0, 0, []), (.iconst 0, 0, []), (.invokevirtual 101, 184, [2, 1, 46, 2]), (.ireturn, 1, [])]
  | _ => []
abbrev n_m_isFrom : Nat := 196
def b_m_isFrom : Nat → List Item
  | 0 => [(.lload_n 0, 0, []), (.lload_n 2, 0, []), (.lcmp, 0, []), (.ifCond .lt 14, 17, []), (.lload_n 0, 0, []), (.lload 4, 0, []), (.lcmp, 0, []), (.ifCond .gt 7, 17, []), (.iconst 1, 0, []), (.goto 4, 18, [])]
  | 17 => [(.iconst 0, 0, []), (.nop, 18, [])]
  | 18 => [(.ireturn, 1, [])]
  | _ => []
abbrev n_m_feed : Nat := 197
def b_m_feed : Nat → List Item
  | 0 => [(.aload_n 0, 0, []), (.getfield 118, 12, [46, 10, 0, 0, 0]), (.bipush 20, 0, []), (.iadd, 0, []), (.sipush 900, 0, []), (.if_icmp .le 5, 15, []), (.iconst (-1), 0, []), (.ireturn, 0, [])]
  | 15 => [(.aload_n 0, 0, []), (.iload_n 1, 0, []), (.invokevirtual 121, 198, [2, 0, 46, 3]), (.aload_n 0, 0, []), (.iload_n 2, 0, []), (.invokevirtual 121, 198, [2, 0, 46, 3]), (.aload_n 0, 0, []), (.iload_n 3, 0, []), (.invokevirtual 121, 198, [2, 0, 46, 3]), (.aload_n 0, 0, []), (.iload 4, 0, []), (.invokevirtual 121, 198, [2, 0, 46, 3]), (.aload_n 0, 0, []), (.iload 5, 0, []), (.invokevirtual 121, 198, [2, 0, 46, 3]), (.aload_n 0, 0, []), (.getfield 118, 12, [46, 10, 0, 0, 0]), (.ireturn, 0, [])]
  | _ => []
abbrev n_m_four : Nat := 198
def b_m_four : Nat → List Item
  | 0 => [(.bipush 24, 0, []), (.istore_n 2, 0, []), (.nop, 3, [])]
  | 3 => [(.iload_n 2, 0, []), (.ifCond .lt 32, 36, []), (.aload_n 0, 0, []), (.getfield 30, 12, [46, 8, 2, 52, 0]), (.aload_n 0, 0, []), (.getfield 118, 12, [46, 10, 0, 0, 0]), (.iload_n 1, 0, []), (.iload_n 2, 0, []), (.ishr, 0, []), (.i2b, 0, []), (.bastore, 0, []), (.aload_n 0, 0, []), (.dup, 0, []), (.getfield 118, 12, [46, 10, 0, 0, 0]), (.iconst 1, 0, []), (.iadd, 0, []), (.putfield 118, 12, [46, 10, 0, 0, 0]), (.iinc 2 (-8), 0, []), (.goto (-30), 3, [])]
  | 36 => [(.return_, 0, [])]
  | _ => []
abbrev n_m_byteAt : Nat := 199
def b_m_byteAt : Nat → List Item
  | 0 => [(.iload_n 1, 0, []), (.aload_n 0, 0, []), (.getfield 124, 12, [46, 11, 0, 0, 0]), (.if_icmp .ge 16, 21, []), (.aload_n 0, 0, []), (.getfield 34, 12, [46, 9, 2, 53, 0]), (.iload_n 1, 0, []), (.baload, 0, []), (.sipush 255, 0, []), (.iand, 0, []), (.goto 4, 22, [])]
  | 21 => [(.iconst (-1), 0, []), (.nop, 22, [])]
  | 22 => [(.ireturn, 0, [])]
  | _ => []
abbrev n_m_isSmall : Nat := 200
def b_m_isSmall : Nat → List Item
  | 0 => [(.iload_n 0, 0, []), (.bipush 97, 0, []), (.if_icmp .lt 13, 16, []), (.iload_n 0, 0, []), (.bipush 122, 0, []), (.if_icmp .gt 7, 16, []), (.iconst 1, 0, []), (.goto 4, 17, [])]
  | 16 => [(.iconst 0, 0, []), (.nop, 17, [])]
  | 17 => [(.ireturn, 1, [])]
  | _ => []
abbrev n_m_isDigit : Nat := 201
def b_m_isDigit : Nat → List Item
  | 0 => [(.iload_n 0, 0, []), (.bipush 48, 0, []), (.if_icmp .lt 13, 16, []), (.iload_n 0, 0, []), (.bipush 57, 0, []), (.if_icmp .gt 7, 16, []), (.iconst 1, 0, []), (.goto 4, 17, [])]
  | 16 => [(.iconst 0, 0, []), (.nop, 17, [])]
  | 17 => [(.ireturn, 1, [])]
  | _ => []
abbrev n_m_ahead : Nat := 202
def b_m_ahead : Nat → List Item
  | 0 => [(.aload_n 0, 0, []), (.aload_n 0, 0, []), (.getfield 127, 12, [46, 14, 0, 0, 0]), (.invokevirtual 130, 199, [2, 1, 46, 2]), (.bipush 32, 0, []), (.if_icmp .eq 16, 26, []), (.aload_n 0, 0, []), (.aload_n 0, 0, []), (.getfield 127, 12, [46, 14, 0, 0, 0]), (.invokevirtual 130, 199, [2, 1, 46, 2]), (.bipush 10, 0, []), (.if_icmp .ne 16, 39, []), (.nop, 26, [])]
  | 26 => [(.aload_n 0, 0, []), (.dup, 0, []), (.getfield 127, 12, [46, 14, 0, 0, 0]), (.iconst 1, 0, []), (.iadd, 0, []), (.putfield 127, 12, [46, 14, 0, 0, 0]), (.goto (-36), 0, [])]
  | 39 => [(.aload_n 0, 0, []), (.aload_n 0, 0, []), (.getfield 127, 12, [46, 14, 0, 0, 0]), (.putfield 133, 12, [46, 13, 0, 0, 0]), (.aload_n 0, 0, []), (.aload_n 0, 0, []), (.getfield 127, 12, [46, 14, 0, 0, 0]), (.invokevirtual 130, 199, [2, 1, 46, 2]), (.istore_n 1, 0, []), (.aload_n 0, 0, []), (.iload_n 1, 0, []), (.putfield 136, 12, [46, 15, 0, 0, 0]), (.iload_n 1, 0, []), (.iconst (-1), 0, []), (.if_icmp .ne 11, 74, []), (.aload_n 0, 0, []), (.iconst 0, 0, []), (.putfield 139, 12, [46, 12, 0, 0, 0]), (.goto 180, 251, [])]
  | 74 => [(.iload_n 1, 0, []), (.invokestatic 142, 200, [1, 1, 0, 1]), (.ifCond .eq 38, 116, []), (.nop, 81, [])]
  | 81 => [(.aload_n 0, 0, []), (.aload_n 0, 0, []), (.getfield 127, 12, [46, 14, 0, 0, 0]), (.invokevirtual 130, 199, [2, 1, 46, 2]), (.invokestatic 142, 200, [1, 1, 0, 1]), (.ifCond .eq 16, 108, []), (.aload_n 0, 0, []), (.dup, 0, []), (.getfield 127, 12, [46, 14, 0, 0, 0]), (.iconst 1, 0, []), (.iadd, 0, []), (.putfield 127, 12, [46, 14, 0, 0, 0]), (.goto (-24), 81, [])]
  | 108 => [(.aload_n 0, 0, []), (.iconst 2, 0, []), (.putfield 139, 12, [46, 12, 0, 0, 0]), (.goto 138, 251, [])]
  | 116 => [(.iload_n 1, 0, []), (.invokestatic 145, 201, [1, 1, 0, 1]), (.ifCond .eq 88, 208, []), (.aload_n 0, 0, []), (.iconst 0, 0, []), (.putfield 136, 12, [46, 15, 0, 0, 0]), (.nop, 128, [])]
  | 128 => [(.aload_n 0, 0, []), (.aload_n 0, 0, []), (.getfield 127, 12, [46, 14, 0, 0, 0]), (.invokevirtual 130, 199, [2, 1, 46, 2]), (.invokestatic 145, 201, [1, 1, 0, 1]), (.ifCond .eq 44, 183, []), (.aload_n 0, 0, []), (.ldc 148, 100000, []), (.bipush 10, 0, []), (.aload_n 0, 0, []), (.getfield 136, 12, [46, 15, 0, 0, 0]), (.imul, 0, []), (.aload_n 0, 0, []), (.aload_n 0, 0, []), (.getfield 127, 12, [46, 14, 0, 0, 0]), (.invokevirtual 130, 199, [2, 1, 46, 2]), (.iadd, 0, []), (.bipush 48, 0, []), (.isub, 0, []), (.invokestatic 149, 335, [2, 1, 0, 2]), (.putfield 136, 12, [46, 15, 0, 0, 0]), (.aload_n 0, 0, []), (.dup, 0, []), (.getfield 127, 12, [46, 14, 0, 0, 0]), (.iconst 1, 0, []), (.iadd, 0, []), (.putfield 127, 12, [46, 14, 0, 0, 0]), (.goto (-52), 128, [])]
  | 183 => [(.aload_n 0, 0, []), (.aload_n 0, 0, []), (.getfield 127, 12, [46, 14, 0, 0, 0]), (.aload_n 0, 0, []), (.getfield 133, 12, [46, 13, 0, 0, 0]), (.isub, 0, []), (.iconst 4, 0, []), (.if_icmp .le 7, 201, []), (.iconst 1, 0, []), (.goto 4, 202, [])]
  | 201 => [(.iconst 3, 0, []), (.nop, 202, [])]
  | 202 => [(.putfield 139, 12, [46, 12, 0, 0, 0]), (.goto 46, 251, [])]
  | 208 => [(.aload_n 0, 0, []), (.dup, 0, []), (.getfield 127, 12, [46, 14, 0, 0, 0]), (.iconst 1, 0, []), (.iadd, 0, []), (.putfield 127, 12, [46, 14, 0, 0, 0]), (.aload_n 0, 0, []), (.iload_n 1, 0, []), (.bipush 59, 0, []), (.if_icmp .eq 21, 243, []), (.iload_n 1, 0, []), (.bipush 60, 0, []), (.if_icmp .eq 15, 243, []), (.iload_n 1, 0, []), (.bipush 62, 0, []), (.if_icmp .eq 9, 243, []), (.iload_n 1, 0, []), (.bipush 61, 0, []), (.if_icmp .ne 7, 247, []), (.nop, 243, [])]
  | 243 => [(.iconst 4, 0, []), (.goto 4, 248, [])]
  | 247 => [(.iconst 1, 0, []), (.nop, 248, [])]
  | 248 => [(.putfield 139, 12, [46, 12, 0, 0, 0]), (.nop, 251, [])]
  | 251 => [(.return_, 0, [])]
  | _ => []
abbrev n_m_isSign : Nat := 203
def b_m_isSign : Nat → List Item
  | 0 => [(.aload_n 0, 0, []), (.getfield 139, 12, [46, 12, 0, 0, 0]), (.iconst 4, 0, []), (.if_icmp .ne 15, 20, []), (.aload_n 0, 0, []), (.getfield 136, 12, [46, 15, 0, 0, 0]), (.iload_n 1, 0, []), (.if_icmp .ne 7, 20, []), (.iconst 1, 0, []), (.goto 4, 21, [])]
  | 20 => [(.iconst 0, 0, []), (.nop, 21, [])]
  | 21 => [(.ireturn, 1, [])]
  | _ => []
abbrev n_m_inWords : Nat := 204
def b_m_inWords : Nat → List Item
  | 0 => [(.aload_n 0, 0, []), (.getfield 139, 12, [46, 12, 0, 0, 0]), (.iconst 2, 0, []), (.if_icmp .eq 5, 10, []), (.iconst (-1), 0, []), (.ireturn, 0, [])]
  | 10 => [(.iconst 0, 0, []), (.istore_n 2, 0, []), (.iconst 1, 0, []), (.istore_n 3, 0, []), (.nop, 14, [])]
  | 14 => [(.iload_n 3, 0, []), (.aload_n 1, 0, []), (.invokevirtual 154, 0, [1001]), (.if_icmp .ge 114, 133, []), (.iload_n 3, 0, []), (.istore 4, 0, []), (.nop, 25, [])]
  | 25 => [(.aload_n 1, 0, []), (.iload 4, 0, []), (.invokevirtual 160, 0, [1002]), (.bipush 32, 0, []), (.if_icmp .eq 9, 42, []), (.iinc 4 1, 0, []), (.goto (-14), 25, [])]
  | 42 => [(.iload 4, 0, []), (.iload_n 3, 0, []), (.isub, 0, []), (.aload_n 0, 0, []), (.getfield 127, 12, [46, 14, 0, 0, 0]), (.aload_n 0, 0, []), (.getfield 133, 12, [46, 13, 0, 0, 0]), (.isub, 0, []), (.if_icmp .ne 7, 62, []), (.iconst 1, 0, []), (.goto 4, 63, [])]
  | 62 => [(.iconst 0, 0, []), (.nop, 63, [])]
  | 63 => [(.istore 5, 0, []), (.iload_n 3, 0, []), (.istore 6, 0, []), (.nop, 68, [])]
  | 68 => [(.iload 6, 0, []), (.iload 4, 0, []), (.if_icmp .ge 43, 115, []), (.iload 5, 0, []), (.ifCond .eq 38, 115, []), (.aload_n 1, 0, []), (.iload 6, 0, []), (.invokevirtual 160, 0, [1002]), (.aload_n 0, 0, []), (.aload_n 0, 0, []), (.getfield 133, 12, [46, 13, 0, 0, 0]), (.iload 6, 0, []), (.iadd, 0, []), (.iload_n 3, 0, []), (.isub, 0, []), (.invokevirtual 130, 199, [2, 1, 46, 2]), (.if_icmp .ne 7, 106, []), (.iconst 1, 0, []), (.goto 4, 107, [])]
  | 106 => [(.iconst 0, 0, []), (.nop, 107, [])]
  | 107 => [(.istore 5, 0, []), (.iinc 6 1, 0, []), (.goto (-44), 68, [])]
  | 115 => [(.iload 5, 0, []), (.ifCond .eq 5, 122, []), (.iload_n 2, 0, []), (.ireturn, 0, [])]
  | 122 => [(.iinc 2 1, 0, []), (.iload 4, 0, []), (.iconst 1, 0, []), (.iadd, 0, []), (.istore_n 3, 0, []), (.goto (-116), 14, [])]
  | 133 => [(.iconst (-1), 0, []), (.ireturn, 0, [])]
  | _ => []
abbrev n_m_fails : Nat := 205
def b_m_fails : Nat → List Item
  | 0 => [(.aload_n 0, 0, []), (.getfield 164, 12, [46, 18, 0, 0, 0]), (.ifCond .ne 28, 32, []), (.aload_n 0, 0, []), (.aload_n 0, 0, []), (.getfield 139, 12, [46, 12, 0, 0, 0]), (.iconst 1, 0, []), (.if_icmp .ne 7, 20, []), (.iconst 1, 0, []), (.goto 4, 21, [])]
  | 20 => [(.iload_n 1, 0, []), (.nop, 21, [])]
  | 21 => [(.putfield 164, 12, [46, 18, 0, 0, 0]), (.aload_n 0, 0, []), (.aload_n 0, 0, []), (.getfield 133, 12, [46, 13, 0, 0, 0]), (.putfield 41, 12, [46, 17, 0, 0, 0]), (.nop, 32, [])]
  | 32 => [(.iconst 0, 0, []), (.ireturn, 1, [])]
  | _ => []
abbrev n_m_begins : Nat := 206
def b_m_begins : Nat → List Item
  | 0 => [(.iload_n 1, 0, []), (.ifCond .lt 16, 17, []), (.iload_n 1, 0, []), (.aload_n 0, 0, []), (.getfield 118, 12, [46, 10, 0, 0, 0]), (.if_icmp .gt 8, 17, []), (.iload_n 1, 0, []), (.iload_n 2, 0, []), (.if_icmp .le 5, 19, []), (.nop, 17, [])]
  | 17 => [(.iconst 0, 0, []), (.ireturn, 1, [])]
  | 19 => [(.aload_n 0, 0, []), (.iload_n 1, 0, []), (.putfield 124, 12, [46, 11, 0, 0, 0]), (.iconst 0, 0, []), (.istore_n 3, 0, []), (.nop, 26, [])]
  | 26 => [(.iload_n 3, 0, []), (.iload_n 1, 0, []), (.if_icmp .ge 21, 49, []), (.aload_n 0, 0, []), (.getfield 34, 12, [46, 9, 2, 53, 0]), (.iload_n 3, 0, []), (.aload_n 0, 0, []), (.getfield 30, 12, [46, 8, 2, 52, 0]), (.iload_n 3, 0, []), (.baload, 0, []), (.bastore, 0, []), (.iinc 3 1, 0, []), (.goto (-20), 26, [])]
  | 49 => [(.aload_n 0, 0, []), (.iconst 0, 0, []), (.putfield 118, 12, [46, 10, 0, 0, 0]), (.aload_n 0, 0, []), (.iconst 0, 0, []), (.putfield 164, 12, [46, 18, 0, 0, 0]), (.aload_n 0, 0, []), (.iconst (-1), 0, []), (.putfield 41, 12, [46, 17, 0, 0, 0]), (.aload_n 0, 0, []), (.iconst 0, 0, []), (.putfield 127, 12, [46, 14, 0, 0, 0]), (.aload_n 0, 0, []), (.iconst 0, 0, []), (.putfield 167, 12, [46, 19, 0, 0, 0]), (.aload_n 0, 0, []), (.invokevirtual 170, 202, [1, 0, 46, 2]), (.iconst 1, 0, []), (.ireturn, 1, [])]
  | _ => []
abbrev n_m_wantSign : Nat := 207
def b_m_wantSign : Nat → List Item
  | 0 => [(.aload_n 0, 0, []), (.iload_n 1, 0, []), (.invokevirtual 173, 203, [2, 1, 46, 2]), (.ifCond .ne 9, 14, []), (.aload_n 0, 0, []), (.iconst 2, 0, []), (.invokevirtual 176, 205, [2, 1, 46, 2]), (.ireturn, 1, [])]
  | 14 => [(.aload_n 0, 0, []), (.invokevirtual 170, 202, [1, 0, 46, 2]), (.iconst 1, 0, []), (.ireturn, 1, [])]
  | _ => []
abbrev n_m_wantWord : Nat := 208
def b_m_wantWord : Nat → List Item
  | 0 => [(.aload_n 0, 0, []), (.aload_n 1, 0, []), (.invokevirtual 179, 204, [2, 1, 46, 7]), (.iload_n 2, 0, []), (.if_icmp .eq 9, 15, []), (.aload_n 0, 0, []), (.iconst 2, 0, []), (.invokevirtual 176, 205, [2, 1, 46, 2]), (.ireturn, 1, [])]
  | 15 => [(.aload_n 0, 0, []), (.invokevirtual 170, 202, [1, 0, 46, 2]), (.iconst 1, 0, []), (.ireturn, 1, [])]
  | _ => []
abbrev n_m_number : Nat := 209
def b_m_number : Nat → List Item
  | 0 => [(.aload_n 0, 0, []), (.getfield 139, 12, [46, 12, 0, 0, 0]), (.iconst 3, 0, []), (.if_icmp .eq 9, 14, []), (.aload_n 0, 0, []), (.iconst 2, 0, []), (.invokevirtual 176, 205, [2, 1, 46, 2]), (.ireturn, 1, [])]
  | 14 => [(.aload_n 0, 0, []), (.getfield 136, 12, [46, 15, 0, 0, 0]), (.iload_n 2, 0, []), (.if_icmp .lt 11, 30, []), (.aload_n 0, 0, []), (.getfield 136, 12, [46, 15, 0, 0, 0]), (.iload_n 3, 0, []), (.if_icmp .le 9, 36, []), (.nop, 30, [])]
  | 30 => [(.aload_n 0, 0, []), (.iconst 4, 0, []), (.invokevirtual 176, 205, [2, 1, 46, 2]), (.ireturn, 1, [])]
  | 36 => [(.aload_n 0, 0, []), (.getfield 7, 12, [46, 0, 2, 47, 0]), (.iload_n 1, 0, []), (.aload_n 0, 0, []), (.getfield 136, 12, [46, 15, 0, 0, 0]), (.iastore, 0, []), (.aload_n 0, 0, []), (.invokevirtual 170, 202, [1, 0, 46, 2]), (.iconst 1, 0, []), (.ireturn, 1, [])]
  | _ => []
abbrev n_m_isName : Nat := 210
def b_m_isName : Nat → List Item
  | 0 => [(.aload_n 0, 0, []), (.getfield 139, 12, [46, 12, 0, 0, 0]), (.iconst 2, 0, []), (.if_icmp .ne 30, 35, []), (.aload_n 0, 0, []), (.getfield 127, 12, [46, 14, 0, 0, 0]), (.aload_n 0, 0, []), (.getfield 133, 12, [46, 13, 0, 0, 0]), (.isub, 0, []), (.bipush 8, 0, []), (.if_icmp .gt 16, 35, []), (.aload_n 0, 0, []), (.aload_n 1, 0, []), (.invokevirtual 179, 204, [2, 1, 46, 7]), (.iconst (-1), 0, []), (.if_icmp .ne 7, 35, []), (.iconst 1, 0, []), (.goto 4, 36, [])]
  | 35 => [(.iconst 0, 0, []), (.nop, 36, [])]
  | 36 => [(.ireturn, 1, [])]
  | _ => []
abbrev n_m_nameHere : Nat := 211
def b_m_nameHere : Nat → List Item
  | 0 => [(.lconst 0, 0, []), (.lstore_n 1, 0, []), (.aload_n 0, 0, []), (.getfield 133, 12, [46, 13, 0, 0, 0]), (.istore_n 3, 0, []), (.nop, 7, [])]
  | 7 => [(.iload_n 3, 0, []), (.aload_n 0, 0, []), (.getfield 127, 12, [46, 14, 0, 0, 0]), (.if_icmp .ge 21, 33, []), (.lload_n 1, 0, []), (.bipush 8, 0, []), (.lshl, 0, []), (.aload_n 0, 0, []), (.iload_n 3, 0, []), (.invokevirtual 130, 199, [2, 1, 46, 2]), (.i2l, 0, []), (.lor, 0, []), (.lstore_n 1, 0, []), (.iinc 3 1, 0, []), (.goto (-23), 7, [])]
  | 33 => [(.lload_n 1, 0, []), (.lreturn, 0, [])]
  | _ => []
abbrev n_m_findHere : Nat := 212
def b_m_findHere : Nat → List Item
  | 0 => [(.iconst 0, 0, []), (.istore_n 3, 0, []), (.nop, 2, [])]
  | 2 => [(.iload_n 3, 0, []), (.iload_n 2, 0, []), (.if_icmp .ge 27, 31, []), (.aload_n 0, 0, []), (.getfield 13, 12, [46, 1, 2, 48, 0]), (.iload_n 1, 0, []), (.iload_n 3, 0, []), (.iadd, 0, []), (.laload, 0, []), (.aload_n 0, 0, []), (.invokevirtual 183, 211, [1, 1, 46, 4]), (.lcmp, 0, []), (.ifCond .ne 5, 25, []), (.iload_n 3, 0, []), (.ireturn, 0, [])]
  | 25 => [(.iinc 3 1, 0, []), (.goto (-26), 2, [])]
  | 31 => [(.iconst (-1), 0, []), (.ireturn, 0, [])]
  | _ => []
abbrev n_m_fault : Nat := 213
def b_m_fault : Nat → List Item
  | 0 => [(.iload_n 1, 0, []), (.ifCond .ne 10, 11, []), (.aload_n 0, 0, []), (.getfield 37, 12, [46, 16, 0, 0, 0]), (.goto 16, 24, [])]
  | 11 => [(.iload_n 1, 0, []), (.iconst 1, 0, []), (.if_icmp .ne 10, 23, []), (.aload_n 0, 0, []), (.getfield 41, 12, [46, 17, 0, 0, 0]), (.goto 4, 24, [])]
  | 23 => [(.iconst (-1), 0, []), (.nop, 24, [])]
  | 24 => [(.ireturn, 0, [])]
  | _ => []
abbrev n_m_taken : Nat := 214
def b_m_taken : Nat → List Item
  | 0 => [(.aload_n 0, 0, []), (.aload_n 0, 0, []), (.getfield 164, 12, [46, 18, 0, 0, 0]), (.putfield 37, 12, [46, 16, 0, 0, 0]), (.aload_n 0, 0, []), (.getfield 164, 12, [46, 18, 0, 0, 0]), (.ifCond .le 12, 24, []), (.aload_n 0, 0, []), (.bipush 9, 0, []), (.invokevirtual 94, 185, [2, 1, 46, 2]), (.goto 8, 29, [])]
  | 24 => [(.aload_n 0, 0, []), (.iload_n 1, 0, []), (.invokevirtual 98, 186, [2, 1, 46, 2]), (.nop, 29, [])]
  | 29 => [(.ireturn, 0, [])]
  | _ => []
abbrev n_m_isThere : Nat := 215
def b_m_isThere : Nat → List Item
  | 0 => [(.aload_n 0, 0, []), (.ldc 187, 1, [67]), (.invokevirtual 179, 204, [2, 1, 46, 7]), (.iload_n 1, 0, []), (.if_icmp .eq 5, 12, []), (.iconst 0, 0, []), (.ireturn, 1, [])]
  | 12 => [(.aload_n 0, 0, []), (.invokevirtual 170, 202, [1, 0, 46, 2]), (.iconst 1, 0, []), (.ireturn, 1, [])]
  | _ => []
abbrev n_m_newOne : Nat := 216
def b_m_newOne : Nat → List Item
  | 0 => [(.aload_n 0, 0, []), (.getfield 7, 12, [46, 0, 2, 47, 0]), (.sipush 1860, 0, []), (.iload_n 1, 0, []), (.iadd, 0, []), (.iaload, 0, []), (.iload_n 2, 0, []), (.if_icmp .ne 10, 21, []), (.aload_n 0, 0, []), (.bipush 6, 0, []), (.invokevirtual 176, 205, [2, 1, 46, 2]), (.ireturn, 1, [])]
  | 21 => [(.aload_n 0, 0, []), (.invokevirtual 170, 202, [1, 0, 46, 2]), (.aload_n 0, 0, []), (.ldc 187, 1, [67]), (.invokevirtual 189, 210, [2, 1, 46, 2]), (.ifCond .ne 9, 40, []), (.aload_n 0, 0, []), (.iconst 2, 0, []), (.invokevirtual 176, 205, [2, 1, 46, 2]), (.ireturn, 1, [])]
  | 40 => [(.aload_n 0, 0, []), (.bipush 52, 0, []), (.aload_n 0, 0, []), (.getfield 7, 12, [46, 0, 2, 47, 0]), (.sipush 1860, 0, []), (.iaload, 0, []), (.invokevirtual 193, 212, [3, 1, 46, 4]), (.iconst (-1), 0, []), (.if_icmp .ne 21, 76, []), (.aload_n 0, 0, []), (.bipush 58, 0, []), (.aload_n 0, 0, []), (.getfield 7, 12, [46, 0, 2, 47, 0]), (.sipush 1861, 0, []), (.iaload, 0, []), (.invokevirtual 193, 212, [3, 1, 46, 4]), (.iconst (-1), 0, []), (.if_icmp .eq 9, 82, []), (.nop, 76, [])]
  | 76 => [(.aload_n 0, 0, []), (.iconst 3, 0, []), (.invokevirtual 176, 205, [2, 1, 46, 2]), (.ireturn, 1, [])]
  | 82 => [(.aload_n 0, 0, []), (.getfield 13, 12, [46, 1, 2, 48, 0]), (.bipush 52, 0, []), (.iload_n 3, 0, []), (.iadd, 0, []), (.aload_n 0, 0, []), (.getfield 7, 12, [46, 0, 2, 47, 0]), (.sipush 1860, 0, []), (.iload_n 1, 0, []), (.iadd, 0, []), (.iaload, 0, []), (.iadd, 0, []), (.aload_n 0, 0, []), (.invokevirtual 183, 211, [1, 1, 46, 4]), (.lastore, 0, []), (.aload_n 0, 0, []), (.invokevirtual 170, 202, [1, 0, 46, 2]), (.iconst 1, 0, []), (.ireturn, 1, [])]
  | _ => []
abbrev n_m_oldOne : Nat := 217
def b_m_oldOne : Nat → List Item
  | 0 => [(.aload_n 0, 0, []), (.ldc 187, 1, [67]), (.invokevirtual 189, 210, [2, 1, 46, 2]), (.ifCond .ne 9, 15, []), (.aload_n 0, 0, []), (.iconst 2, 0, []), (.invokevirtual 176, 205, [2, 1, 46, 2]), (.ireturn, 1, [])]
  | 15 => [(.aload_n 0, 0, []), (.getfield 7, 12, [46, 0, 2, 47, 0]), (.iload_n 3, 0, []), (.aload_n 0, 0, []), (.iload_n 1, 0, []), (.iload_n 2, 0, []), (.invokevirtual 193, 212, [3, 1, 46, 4]), (.iastore, 0, []), (.aload_n 0, 0, []), (.getfield 7, 12, [46, 0, 2, 47, 0]), (.iload_n 3, 0, []), (.iaload, 0, []), (.iconst (-1), 0, []), (.if_icmp .ne 9, 43, []), (.aload_n 0, 0, []), (.iconst 3, 0, []), (.invokevirtual 176, 205, [2, 1, 46, 2]), (.ireturn, 1, [])]
  | 43 => [(.aload_n 0, 0, []), (.invokevirtual 170, 202, [1, 0, 46, 2]), (.iconst 1, 0, []), (.ireturn, 1, [])]
  | _ => []
abbrev n_m_newTopicTo : Nat := 218
def b_m_newTopicTo : Nat → List Item
  | 0 => [(.aload_n 0, 0, []), (.bipush 52, 0, []), (.aload_n 0, 0, []), (.getfield 7, 12, [46, 0, 2, 47, 0]), (.sipush 1860, 0, []), (.iaload, 0, []), (.iload_n 1, 0, []), (.invokevirtual 196, 217, [4, 1, 46, 4]), (.ireturn, 1, [])]
  | _ => []
abbrev n_m_newMonkTo : Nat := 219
def b_m_newMonkTo : Nat → List Item
  | 0 => [(.aload_n 0, 0, []), (.bipush 58, 0, []), (.aload_n 0, 0, []), (.getfield 7, 12, [46, 0, 2, 47, 0]), (.sipush 1861, 0, []), (.iaload, 0, []), (.iload_n 1, 0, []), (.invokevirtual 196, 217, [4, 1, 46, 4]), (.ireturn, 1, [])]
  | _ => []
abbrev n_m_aTopic : Nat := 220
def b_m_aTopic : Nat → List Item
  | 0 => [(.sipush 1860, 0, []), (.aload_n 0, 0, []), (.getfield 7, 12, [46, 0, 2, 47, 0]), (.sipush 1860, 0, []), (.iaload, 0, []), (.invokestatic 200, 232, [1, 1, 0, 1]), (.iadd, 0, []), (.istore_n 1, 0, []), (.aload_n 0, 0, []), (.iconst 0, 0, []), (.bipush 6, 0, []), (.iconst 0, 0, []), (.invokevirtual 203, 216, [4, 1, 46, 4]), (.ifCond .eq 25, 49, []), (.aload_n 0, 0, []), (.ldc 187, 1, [67]), (.bipush 7, 0, []), (.invokevirtual 206, 208, [3, 1, 46, 3]), (.ifCond .eq 14, 49, []), (.aload_n 0, 0, []), (.iload_n 1, 0, []), (.iconst 0, 0, []), (.bipush 20, 0, []), (.invokevirtual 210, 209, [4, 1, 46, 4]), (.ifCond .ne 5, 51, []), (.nop, 49, [])]
  | 49 => [(.iconst 0, 0, []), (.ireturn, 1, [])]
  | 51 => [(.aload_n 0, 0, []), (.getfield 7, 12, [46, 0, 2, 47, 0]), (.sipush 1860, 0, []), (.dup2, 0, []), (.iaload, 0, []), (.iconst 1, 0, []), (.iadd, 0, []), (.iastore, 0, []), (.iconst 1, 0, []), (.ireturn, 1, [])]
  | _ => []
abbrev n_m_aMonk : Nat := 221
def b_m_aMonk : Nat → List Item
  | 0 => [(.sipush 1860, 0, []), (.aload_n 0, 0, []), (.getfield 7, 12, [46, 0, 2, 47, 0]), (.sipush 1861, 0, []), (.iaload, 0, []), (.invokestatic 213, 233, [1, 1, 0, 1]), (.iadd, 0, []), (.istore_n 1, 0, []), (.aload_n 0, 0, []), (.iconst 1, 0, []), (.bipush 7, 0, []), (.bipush 6, 0, []), (.invokevirtual 203, 216, [4, 1, 46, 4]), (.ifCond .eq 25, 50, []), (.aload_n 0, 0, []), (.ldc 187, 1, [67]), (.bipush 8, 0, []), (.invokevirtual 206, 208, [3, 1, 46, 3]), (.ifCond .eq 14, 50, []), (.aload_n 0, 0, []), (.iload_n 1, 0, []), (.iconst 0, 0, []), (.bipush 99, 0, []), (.invokevirtual 210, 209, [4, 1, 46, 4]), (.ifCond .ne 5, 52, []), (.nop, 50, [])]
  | 50 => [(.iconst 0, 0, []), (.ireturn, 1, [])]
  | 52 => [(.aload_n 0, 0, []), (.getfield 7, 12, [46, 0, 2, 47, 0]), (.iload_n 1, 0, []), (.iconst 1, 0, []), (.iadd, 0, []), (.aload_n 0, 0, []), (.getfield 7, 12, [46, 0, 2, 47, 0]), (.iload_n 1, 0, []), (.iaload, 0, []), (.iastore, 0, []), (.aload_n 0, 0, []), (.getfield 7, 12, [46, 0, 2, 47, 0]), (.iload_n 1, 0, []), (.iconst 2, 0, []), (.iadd, 0, []), (.iconst 1, 0, []), (.iastore, 0, []), (.aload_n 0, 0, []), (.bipush 9, 0, []), (.invokevirtual 216, 215, [2, 1, 46, 2]), (.ifCond .eq 18, 99, []), (.aload_n 0, 0, []), (.iload_n 1, 0, []), (.iconst 2, 0, []), (.iadd, 0, []), (.iconst 0, 0, []), (.bipush 9, 0, []), (.invokevirtual 210, 209, [4, 1, 46, 4]), (.ifCond .ne 5, 99, []), (.iconst 0, 0, []), (.ireturn, 1, [])]
  | 99 => [(.aload_n 0, 0, []), (.getfield 7, 12, [46, 0, 2, 47, 0]), (.iload_n 1, 0, []), (.iconst 3, 0, []), (.iadd, 0, []), (.aload_n 0, 0, []), (.bipush 10, 0, []), (.invokevirtual 216, 215, [2, 1, 46, 2]), (.ifCond .eq 7, 119, []), (.iconst 0, 0, []), (.goto 4, 120, [])]
  | 119 => [(.iconst 1, 0, []), (.nop, 120, [])]
  | 120 => [(.iastore, 0, []), (.aload_n 0, 0, []), (.getfield 7, 12, [46, 0, 2, 47, 0]), (.sipush 1861, 0, []), (.dup2, 0, []), (.iaload, 0, []), (.iconst 1, 0, []), (.iadd, 0, []), (.iastore, 0, []), (.iconst 1, 0, []), (.ireturn, 1, [])]
  | _ => []
abbrev n_m_aFollowing : Nat := 222
def b_m_aFollowing : Nat → List Item
  | 0 => [(.sipush 2317, 0, []), (.istore_n 1, 0, []), (.aload_n 0, 0, []), (.invokevirtual 170, 202, [1, 0, 46, 2]), (.aload_n 0, 0, []), (.iload_n 1, 0, []), (.invokevirtual 219, 218, [2, 1, 46, 2]), (.ifCond .eq 13, 26, []), (.aload_n 0, 0, []), (.iload_n 1, 0, []), (.iconst 1, 0, []), (.iadd, 0, []), (.invokevirtual 219, 218, [2, 1, 46, 2]), (.ifCond .ne 5, 28, []), (.nop, 26, [])]
  | 26 => [(.iconst 0, 0, []), (.ireturn, 1, [])]
  | 28 => [(.aload_n 0, 0, []), (.getfield 7, 12, [46, 0, 2, 47, 0]), (.sipush 1860, 0, []), (.aload_n 0, 0, []), (.getfield 7, 12, [46, 0, 2, 47, 0]), (.iload_n 1, 0, []), (.iaload, 0, []), (.invokestatic 200, 232, [1, 1, 0, 1]), (.iadd, 0, []), (.iconst 1, 0, []), (.iadd, 0, []), (.dup2, 0, []), (.iaload, 0, []), (.iconst 1, 0, []), (.aload_n 0, 0, []), (.getfield 7, 12, [46, 0, 2, 47, 0]), (.iload_n 1, 0, []), (.iconst 1, 0, []), (.iadd, 0, []), (.iaload, 0, []), (.ishl, 0, []), (.ior, 0, []), (.iastore, 0, []), (.iconst 1, 0, []), (.ireturn, 1, [])]
  | _ => []
abbrev n_m_anEntry : Nat := 223
def b_m_anEntry : Nat → List Item
  | 0 => [(.aload_n 0, 0, []), (.getfield 7, 12, [46, 0, 2, 47, 0]), (.sipush 1862, 0, []), (.iaload, 0, []), (.bipush 12, 0, []), (.if_icmp .ne 10, 20, []), (.aload_n 0, 0, []), (.bipush 6, 0, []), (.invokevirtual 176, 205, [2, 1, 46, 2]), (.ireturn, 1, [])]
  | 20 => [(.sipush 1860, 0, []), (.aload_n 0, 0, []), (.getfield 7, 12, [46, 0, 2, 47, 0]), (.sipush 1862, 0, []), (.iaload, 0, []), (.invokestatic 222, 234, [1, 1, 0, 1]), (.iadd, 0, []), (.istore_n 1, 0, []), (.aload_n 0, 0, []), (.invokevirtual 170, 202, [1, 0, 46, 2]), (.aload_n 0, 0, []), (.iload_n 1, 0, []), (.invokevirtual 225, 219, [2, 1, 46, 2]), (.ifCond .eq 13, 58, []), (.aload_n 0, 0, []), (.iload_n 1, 0, []), (.iconst 1, 0, []), (.iadd, 0, []), (.invokevirtual 219, 218, [2, 1, 46, 2]), (.ifCond .ne 5, 60, []), (.nop, 58, [])]
  | 58 => [(.iconst 0, 0, []), (.ireturn, 1, [])]
  | 60 => [(.aload_n 0, 0, []), (.getfield 7, 12, [46, 0, 2, 47, 0]), (.sipush 1862, 0, []), (.dup2, 0, []), (.iaload, 0, []), (.iconst 1, 0, []), (.iadd, 0, []), (.iastore, 0, []), (.iconst 1, 0, []), (.ireturn, 1, [])]
  | _ => []
abbrev n_m_aHearing : Nat := 224
def b_m_aHearing : Nat → List Item
  | 0 => [(.sipush 2317, 0, []), (.istore_n 1, 0, []), (.aload_n 0, 0, []), (.invokevirtual 170, 202, [1, 0, 46, 2]), (.aload_n 0, 0, []), (.iload_n 1, 0, []), (.invokevirtual 225, 219, [2, 1, 46, 2]), (.ifCond .ne 5, 18, []), (.iconst 0, 0, []), (.ireturn, 1, [])]
  | 18 => [(.aload_n 0, 0, []), (.ldc 187, 1, [67]), (.invokevirtual 189, 210, [2, 1, 46, 2]), (.ifCond .eq 32, 56, []), (.aload_n 0, 0, []), (.bipush 58, 0, []), (.aload_n 0, 0, []), (.getfield 7, 12, [46, 0, 2, 47, 0]), (.sipush 1861, 0, []), (.iaload, 0, []), (.invokevirtual 193, 212, [3, 1, 46, 4]), (.aload_n 0, 0, []), (.getfield 7, 12, [46, 0, 2, 47, 0]), (.iload_n 1, 0, []), (.iaload, 0, []), (.if_icmp .ne 9, 56, []), (.aload_n 0, 0, []), (.iconst 5, 0, []), (.invokevirtual 176, 205, [2, 1, 46, 2]), (.ireturn, 1, [])]
  | 56 => [(.aload_n 0, 0, []), (.iload_n 1, 0, []), (.iconst 1, 0, []), (.iadd, 0, []), (.invokevirtual 225, 219, [2, 1, 46, 2]), (.ifCond .ne 5, 68, []), (.iconst 0, 0, []), (.ireturn, 1, [])]
  | 68 => [(.aload_n 0, 0, []), (.getfield 7, 12, [46, 0, 2, 47, 0]), (.sipush 1860, 0, []), (.aload_n 0, 0, []), (.getfield 7, 12, [46, 0, 2, 47, 0]), (.iload_n 1, 0, []), (.iaload, 0, []), (.invokestatic 213, 233, [1, 1, 0, 1]), (.iadd, 0, []), (.bipush 6, 0, []), (.iadd, 0, []), (.dup2, 0, []), (.iaload, 0, []), (.iconst 1, 0, []), (.aload_n 0, 0, []), (.getfield 7, 12, [46, 0, 2, 47, 0]), (.iload_n 1, 0, []), (.iconst 1, 0, []), (.iadd, 0, []), (.iaload, 0, []), (.ishl, 0, []), (.ior, 0, []), (.iastore, 0, []), (.aload_n 0, 0, []), (.getfield 7, 12, [46, 0, 2, 47, 0]), (.sipush 1860, 0, []), (.aload_n 0, 0, []), (.getfield 7, 12, [46, 0, 2, 47, 0]), (.iload_n 1, 0, []), (.iconst 1, 0, []), (.iadd, 0, []), (.iaload, 0, []), (.invokestatic 213, 233, [1, 1, 0, 1]), (.iadd, 0, []), (.bipush 6, 0, []), (.iadd, 0, []), (.dup2, 0, []), (.iaload, 0, []), (.iconst 1, 0, []), (.aload_n 0, 0, []), (.getfield 7, 12, [46, 0, 2, 47, 0]), (.iload_n 1, 0, []), (.iaload, 0, []), (.ishl, 0, []), (.ior, 0, []), (.iastore, 0, []), (.iconst 1, 0, []), (.ireturn, 1, [])]
  | _ => []
abbrev n_m_housePart : Nat := 225
def b_m_housePart : Nat → List Item
  | 0 => [(.aload_n 0, 0, []), (.ldc 187, 1, [67]), (.invokevirtual 179, 204, [2, 1, 46, 7]), (.istore_n 1, 0, []), (.iload_n 1, 0, []), (.ifCond .lt 9, 17, []), (.iload_n 1, 0, []), (.bipush 6, 0, []), (.if_icmp .le 9, 23, []), (.nop, 17, [])]
  | 17 => [(.aload_n 0, 0, []), (.iconst 2, 0, []), (.invokevirtual 176, 205, [2, 1, 46, 2]), (.ireturn, 1, [])]
  | 23 => [(.iload_n 1, 0, []), (.iconst 1, 0, []), (.if_icmp .gt 21, 46, []), (.aload_n 0, 0, []), (.getfield 228, 12, [46, 20, 0, 0, 0]), (.iload_n 1, 0, []), (.ishr, 0, []), (.iconst 1, 0, []), (.iand, 0, []), (.iconst 1, 0, []), (.if_icmp .ne 9, 46, []), (.aload_n 0, 0, []), (.iconst 5, 0, []), (.invokevirtual 176, 205, [2, 1, 46, 2]), (.ireturn, 1, [])]
  | 46 => [(.aload_n 0, 0, []), (.dup, 0, []), (.getfield 228, 12, [46, 20, 0, 0, 0]), (.iconst 1, 0, []), (.iload_n 1, 0, []), (.ishl, 0, []), (.ior, 0, []), (.putfield 228, 12, [46, 20, 0, 0, 0]), (.iload_n 1, 0, []), (.iconst 1, 0, []), (.if_icmp .gt 7, 67, []), (.aload_n 0, 0, []), (.invokevirtual 170, 202, [1, 0, 46, 2]), (.nop, 67, [])]
  | 67 => [(.iload_n 1, 0, []), (.tableswitch 100 0 5 #[40, 54, 68, 76, 84, 92], 168, [108, 122, 136, 144, 152, 160])]
  | 108 => [(.aload_n 0, 0, []), (.sipush 1863, 0, []), (.iconst 1, 0, []), (.bipush 99, 0, []), (.invokevirtual 210, 209, [4, 1, 46, 4]), (.istore_n 2, 0, []), (.goto 54, 173, [])]
  | 122 => [(.aload_n 0, 0, []), (.sipush 1864, 0, []), (.iconst 0, 0, []), (.bipush 16, 0, []), (.invokevirtual 210, 209, [4, 1, 46, 4]), (.istore_n 2, 0, []), (.goto 40, 173, [])]
  | 136 => [(.aload_n 0, 0, []), (.invokevirtual 231, 220, [1, 1, 46, 2]), (.istore_n 2, 0, []), (.goto 32, 173, [])]
  | 144 => [(.aload_n 0, 0, []), (.invokevirtual 235, 221, [1, 1, 46, 2]), (.istore_n 2, 0, []), (.goto 24, 173, [])]
  | 152 => [(.aload_n 0, 0, []), (.invokevirtual 238, 222, [1, 1, 46, 2]), (.istore_n 2, 0, []), (.goto 16, 173, [])]
  | 160 => [(.aload_n 0, 0, []), (.invokevirtual 241, 223, [1, 1, 46, 2]), (.istore_n 2, 0, []), (.goto 8, 173, [])]
  | 168 => [(.aload_n 0, 0, []), (.invokevirtual 244, 224, [1, 1, 46, 2]), (.istore_n 2, 0, []), (.nop, 173, [])]
  | 173 => [(.iload_n 2, 0, []), (.ifCond .eq 16, 190, []), (.aload_n 0, 0, []), (.bipush 59, 0, []), (.invokevirtual 247, 207, [2, 1, 46, 2]), (.ifCond .eq 7, 190, []), (.iconst 1, 0, []), (.goto 4, 191, [])]
  | 190 => [(.iconst 0, 0, []), (.nop, 191, [])]
  | 191 => [(.ireturn, 1, [])]
  | _ => []
abbrev n_m_house : Nat := 226
def b_m_house : Nat → List Item
  | 0 => [(.aload_n 0, 0, []), (.iload_n 1, 0, []), (.sipush 900, 0, []), (.invokevirtual 250, 206, [3, 1, 46, 4]), (.ifCond .ne 9, 17, []), (.aload_n 0, 0, []), (.iconst 1, 0, []), (.invokevirtual 94, 185, [2, 1, 46, 2]), (.ireturn, 0, [])]
  | 17 => [(.aload_n 0, 0, []), (.sipush 1860, 0, []), (.invokevirtual 84, 180, [2, 0, 46, 3]), (.aload_n 0, 0, []), (.iconst 0, 0, []), (.putfield 228, 12, [46, 20, 0, 0, 0]), (.iconst 1, 0, []), (.istore_n 2, 0, []), (.nop, 31, [])]
  | 31 => [(.iload_n 2, 0, []), (.ifCond .eq 18, 50, []), (.aload_n 0, 0, []), (.getfield 139, 12, [46, 12, 0, 0, 0]), (.ifCond .eq 11, 50, []), (.aload_n 0, 0, []), (.invokevirtual 254, 225, [1, 1, 46, 3]), (.istore_n 2, 0, []), (.goto (-16), 31, [])]
  | 50 => [(.aload_n 0, 0, []), (.getfield 164, 12, [46, 18, 0, 0, 0]), (.ifCond .ne 63, 117, []), (.iconst 0, 0, []), (.istore_n 3, 0, []), (.nop, 59, [])]
  | 59 => [(.iload_n 3, 0, []), (.sipush 465, 0, []), (.if_icmp .ge 25, 88, []), (.aload_n 0, 0, []), (.getfield 7, 12, [46, 0, 2, 47, 0]), (.iload_n 3, 0, []), (.aload_n 0, 0, []), (.getfield 7, 12, [46, 0, 2, 47, 0]), (.sipush 1860, 0, []), (.iload_n 3, 0, []), (.iadd, 0, []), (.iaload, 0, []), (.iastore, 0, []), (.iinc 3 1, 0, []), (.goto (-26), 59, [])]
  | 88 => [(.iconst 0, 0, []), (.istore_n 3, 0, []), (.nop, 90, [])]
  | 90 => [(.iload_n 3, 0, []), (.bipush 13, 0, []), (.if_icmp .ge 24, 117, []), (.aload_n 0, 0, []), (.getfield 13, 12, [46, 1, 2, 48, 0]), (.iload_n 3, 0, []), (.aload_n 0, 0, []), (.getfield 13, 12, [46, 1, 2, 48, 0]), (.bipush 52, 0, []), (.iload_n 3, 0, []), (.iadd, 0, []), (.laload, 0, []), (.lastore, 0, []), (.iinc 3 1, 0, []), (.goto (-24), 90, [])]
  | 117 => [(.aload_n 0, 0, []), (.aload_n 0, 0, []), (.getfield 7, 12, [46, 0, 2, 47, 0]), (.iconst 1, 0, []), (.iaload, 0, []), (.invokevirtual 257, 214, [2, 1, 46, 2]), (.ireturn, 0, [])]
  | _ => []
abbrev n_m_monkTo : Nat := 227
def b_m_monkTo : Nat → List Item
  | 0 => [(.aload_n 0, 0, []), (.bipush 6, 0, []), (.aload_n 0, 0, []), (.getfield 7, 12, [46, 0, 2, 47, 0]), (.iconst 1, 0, []), (.iaload, 0, []), (.iload_n 1, 0, []), (.invokevirtual 196, 217, [4, 1, 46, 4]), (.ireturn, 1, [])]
  | _ => []
abbrev n_m_test : Nat := 228
def b_m_test : Nat → List Item
  | 0 => [(.aload_n 0, 0, []), (.ldc 187, 1, [67]), (.invokevirtual 179, 204, [2, 1, 46, 7]), (.istore_n 2, 0, []), (.iload_n 2, 0, []), (.bipush 8, 0, []), (.if_icmp .eq 15, 25, []), (.iload_n 2, 0, []), (.bipush 20, 0, []), (.if_icmp .ge 9, 25, []), (.aload_n 0, 0, []), (.iconst 2, 0, []), (.invokevirtual 176, 205, [2, 1, 46, 2]), (.ireturn, 1, [])]
  | 25 => [(.aload_n 0, 0, []), (.getfield 7, 12, [46, 0, 2, 47, 0]), (.iload_n 1, 0, []), (.sipush 1600, 0, []), (.iload_n 2, 0, []), (.iadd, 0, []), (.iastore, 0, []), (.aload_n 0, 0, []), (.invokevirtual 170, 202, [1, 0, 46, 2]), (.iload_n 2, 0, []), (.bipush 20, 0, []), (.if_icmp .ne 11, 54, []), (.aload_n 0, 0, []), (.iload_n 1, 0, []), (.iconst 1, 0, []), (.iadd, 0, []), (.invokevirtual 260, 227, [2, 1, 46, 2]), (.ireturn, 1, [])]
  | 54 => [(.iload_n 2, 0, []), (.bipush 21, 0, []), (.if_icmp .ne 18, 75, []), (.aload_n 0, 0, []), (.iconst 0, 0, []), (.aload_n 0, 0, []), (.getfield 7, 12, [46, 0, 2, 47, 0]), (.iconst 0, 0, []), (.iaload, 0, []), (.iload_n 1, 0, []), (.iconst 1, 0, []), (.iadd, 0, []), (.invokevirtual 196, 217, [4, 1, 46, 4]), (.ireturn, 1, [])]
  | 75 => [(.iload_n 2, 0, []), (.bipush 8, 0, []), (.if_icmp .ne 15, 93, []), (.aload_n 0, 0, []), (.iload_n 1, 0, []), (.iconst 1, 0, []), (.iadd, 0, []), (.invokevirtual 260, 227, [2, 1, 46, 2]), (.ifCond .ne 5, 93, []), (.iconst 0, 0, []), (.ireturn, 1, [])]
  | 93 => [(.aload_n 0, 0, []), (.bipush 60, 0, []), (.invokevirtual 173, 203, [2, 1, 46, 2]), (.ifCond .ne 27, 126, []), (.aload_n 0, 0, []), (.bipush 62, 0, []), (.invokevirtual 173, 203, [2, 1, 46, 2]), (.ifCond .ne 18, 126, []), (.aload_n 0, 0, []), (.bipush 61, 0, []), (.invokevirtual 173, 203, [2, 1, 46, 2]), (.ifCond .ne 9, 126, []), (.aload_n 0, 0, []), (.iconst 2, 0, []), (.invokevirtual 176, 205, [2, 1, 46, 2]), (.ireturn, 1, [])]
  | 126 => [(.aload_n 0, 0, []), (.getfield 7, 12, [46, 0, 2, 47, 0]), (.iload_n 1, 0, []), (.iconst 5, 0, []), (.iadd, 0, []), (.aload_n 0, 0, []), (.getfield 136, 12, [46, 15, 0, 0, 0]), (.iastore, 0, []), (.aload_n 0, 0, []), (.invokevirtual 170, 202, [1, 0, 46, 2]), (.aload_n 0, 0, []), (.iload_n 1, 0, []), (.iconst 2, 0, []), (.iadd, 0, []), (.iconst 0, 0, []), (.iload_n 2, 0, []), (.bipush 8, 0, []), (.if_icmp .ne 8, 158, []), (.bipush 99, 0, []), (.goto 6, 161, [])]
  | 158 => [(.sipush 9999, 0, []), (.nop, 161, [])]
  | 161 => [(.invokevirtual 210, 209, [4, 1, 46, 4]), (.ireturn, 1, [])]
  | _ => []
abbrev n_m_dayOrder : Nat := 229
def b_m_dayOrder : Nat → List Item
  | 0 => [(.iload_n 1, 0, []), (.tableswitch 79 11 17 #[43, 65, 65, 65, 79, 73, 54], 80, [44, 66, 66, 66, 80, 74, 55])]
  | 44 => [(.aload_n 0, 0, []), (.iload_n 2, 0, []), (.iconst 1, 0, []), (.iadd, 0, []), (.iconst 1, 0, []), (.bipush 60, 0, []), (.invokevirtual 210, 209, [4, 1, 46, 4]), (.ireturn, 1, [])]
  | 55 => [(.aload_n 0, 0, []), (.iload_n 2, 0, []), (.iconst 1, 0, []), (.iadd, 0, []), (.iconst 1, 0, []), (.bipush 99, 0, []), (.invokevirtual 210, 209, [4, 1, 46, 4]), (.ireturn, 1, [])]
  | 66 => [(.aload_n 0, 0, []), (.iload_n 2, 0, []), (.iconst 1, 0, []), (.iadd, 0, []), (.invokevirtual 260, 227, [2, 1, 46, 2]), (.ireturn, 1, [])]
  | 74 => [(.aload_n 0, 0, []), (.iload_n 2, 0, []), (.invokevirtual 263, 228, [2, 1, 46, 3]), (.ireturn, 1, [])]
  | 80 => [(.iconst 1, 0, []), (.ireturn, 1, [])]
  | _ => []
abbrev n_m_dayStep : Nat := 230
def b_m_dayStep : Nat → List Item
  | 0 => [(.aload_n 0, 0, []), (.ldc 187, 1, [67]), (.invokevirtual 179, 204, [2, 1, 46, 7]), (.istore_n 1, 0, []), (.aload_n 0, 0, []), (.getfield 7, 12, [46, 0, 2, 47, 0]), (.sipush 1870, 0, []), (.iaload, 0, []), (.istore_n 2, 0, []), (.sipush 1957, 0, []), (.bipush 6, 0, []), (.iload_n 2, 0, []), (.imul, 0, []), (.iadd, 0, []), (.istore_n 3, 0, []), (.iload_n 1, 0, []), (.bipush 16, 0, []), (.if_icmp .eq 9, 37, []), (.iload_n 1, 0, []), (.bipush 17, 0, []), (.if_icmp .ne 7, 41, []), (.nop, 37, [])]
  | 37 => [(.iconst 1, 0, []), (.goto 4, 42, [])]
  | 41 => [(.iconst 0, 0, []), (.nop, 42, [])]
  | 42 => [(.istore 4, 0, []), (.iload_n 1, 0, []), (.bipush 11, 0, []), (.if_icmp .lt 22, 69, []), (.iload_n 1, 0, []), (.bipush 19, 0, []), (.if_icmp .gt 16, 69, []), (.iload_n 1, 0, []), (.bipush 18, 0, []), (.if_icmp .ne 16, 75, []), (.aload_n 0, 0, []), (.getfield 266, 12, [46, 22, 0, 0, 0]), (.ifCond .ne 9, 75, []), (.nop, 69, [])]
  | 69 => [(.aload_n 0, 0, []), (.iconst 2, 0, []), (.invokevirtual 176, 205, [2, 1, 46, 2]), (.ireturn, 1, [])]
  | 75 => [(.iload_n 1, 0, []), (.bipush 18, 0, []), (.if_icmp .eq 19, 97, []), (.aload_n 0, 0, []), (.getfield 269, 12, [46, 23, 0, 0, 0]), (.bipush 30, 0, []), (.if_icmp .ne 10, 97, []), (.aload_n 0, 0, []), (.bipush 6, 0, []), (.invokevirtual 176, 205, [2, 1, 46, 2]), (.ireturn, 1, [])]
  | 97 => [(.iload 4, 0, []), (.ifCond .eq 18, 117, []), (.aload_n 0, 0, []), (.getfield 266, 12, [46, 22, 0, 0, 0]), (.iconst 3, 0, []), (.if_icmp .ne 10, 117, []), (.aload_n 0, 0, []), (.bipush 7, 0, []), (.invokevirtual 176, 205, [2, 1, 46, 2]), (.ireturn, 1, [])]
  | 117 => [(.aload_n 0, 0, []), (.dup, 0, []), (.getfield 269, 12, [46, 23, 0, 0, 0]), (.iload_n 1, 0, []), (.bipush 18, 0, []), (.if_icmp .ne 7, 132, []), (.iconst 0, 0, []), (.goto 4, 133, [])]
  | 132 => [(.iconst 1, 0, []), (.nop, 133, [])]
  | 133 => [(.iadd, 0, []), (.putfield 269, 12, [46, 23, 0, 0, 0]), (.aload_n 0, 0, []), (.getfield 7, 12, [46, 0, 2, 47, 0]), (.iload_n 3, 0, []), (.iload_n 1, 0, []), (.iastore, 0, []), (.iconst 1, 0, []), (.istore 5, 0, []), (.nop, 147, [])]
  | 147 => [(.iload 5, 0, []), (.bipush 6, 0, []), (.if_icmp .ge 19, 170, []), (.aload_n 0, 0, []), (.getfield 7, 12, [46, 0, 2, 47, 0]), (.iload_n 3, 0, []), (.iload 5, 0, []), (.iadd, 0, []), (.iconst 0, 0, []), (.iastore, 0, []), (.iinc 5 1, 0, []), (.goto (-20), 147, [])]
  | 170 => [(.aload_n 0, 0, []), (.getfield 7, 12, [46, 0, 2, 47, 0]), (.sipush 1870, 0, []), (.dup2, 0, []), (.iaload, 0, []), (.iconst 1, 0, []), (.iadd, 0, []), (.iastore, 0, []), (.aload_n 0, 0, []), (.invokevirtual 170, 202, [1, 0, 46, 2]), (.aload_n 0, 0, []), (.iload_n 1, 0, []), (.iload_n 3, 0, []), (.invokevirtual 272, 229, [3, 1, 46, 3]), (.ifCond .ne 5, 197, []), (.iconst 0, 0, []), (.ireturn, 1, [])]
  | 197 => [(.iload 4, 0, []), (.ifCond .eq 23, 222, []), (.aload_n 0, 0, []), (.getfield 44, 12, [46, 21, 2, 54, 0]), (.aload_n 0, 0, []), (.getfield 266, 12, [46, 22, 0, 0, 0]), (.iload_n 2, 0, []), (.iastore, 0, []), (.aload_n 0, 0, []), (.dup, 0, []), (.getfield 266, 12, [46, 22, 0, 0, 0]), (.iconst 1, 0, []), (.iadd, 0, []), (.putfield 266, 12, [46, 22, 0, 0, 0]), (.nop, 222, [])]
  | 222 => [(.iload_n 1, 0, []), (.bipush 18, 0, []), (.if_icmp .ne 54, 279, []), (.aload_n 0, 0, []), (.dup, 0, []), (.getfield 266, 12, [46, 22, 0, 0, 0]), (.iconst 1, 0, []), (.isub, 0, []), (.putfield 266, 12, [46, 22, 0, 0, 0]), (.aload_n 0, 0, []), (.getfield 7, 12, [46, 0, 2, 47, 0]), (.iload_n 3, 0, []), (.iconst 4, 0, []), (.iadd, 0, []), (.aload_n 0, 0, []), (.getfield 44, 12, [46, 21, 2, 54, 0]), (.aload_n 0, 0, []), (.getfield 266, 12, [46, 22, 0, 0, 0]), (.iaload, 0, []), (.iastore, 0, []), (.aload_n 0, 0, []), (.getfield 7, 12, [46, 0, 2, 47, 0]), (.sipush 1957, 0, []), (.bipush 6, 0, []), (.aload_n 0, 0, []), (.getfield 44, 12, [46, 21, 2, 54, 0]), (.aload_n 0, 0, []), (.getfield 266, 12, [46, 22, 0, 0, 0]), (.iaload, 0, []), (.imul, 0, []), (.iadd, 0, []), (.iconst 4, 0, []), (.iadd, 0, []), (.iload_n 2, 0, []), (.iastore, 0, []), (.nop, 279, [])]
  | 279 => [(.aload_n 0, 0, []), (.bipush 59, 0, []), (.invokevirtual 247, 207, [2, 1, 46, 2]), (.ireturn, 1, [])]
  | _ => []
abbrev n_m_days : Nat := 231
def b_m_days : Nat → List Item
  | 0 => [(.aload_n 0, 0, []), (.iload_n 1, 0, []), (.sipush 300, 0, []), (.invokevirtual 250, 206, [3, 1, 46, 4]), (.ifCond .ne 9, 17, []), (.aload_n 0, 0, []), (.iconst 1, 0, []), (.invokevirtual 94, 185, [2, 1, 46, 2]), (.ireturn, 0, [])]
  | 17 => [(.aload_n 0, 0, []), (.getfield 7, 12, [46, 0, 2, 47, 0]), (.sipush 1870, 0, []), (.iconst 0, 0, []), (.iastore, 0, []), (.aload_n 0, 0, []), (.iconst 0, 0, []), (.putfield 266, 12, [46, 22, 0, 0, 0]), (.aload_n 0, 0, []), (.iconst 0, 0, []), (.putfield 269, 12, [46, 23, 0, 0, 0]), (.iconst 1, 0, []), (.istore_n 2, 0, []), (.nop, 38, [])]
  | 38 => [(.iload_n 2, 0, []), (.ifCond .eq 18, 57, []), (.aload_n 0, 0, []), (.getfield 139, 12, [46, 12, 0, 0, 0]), (.ifCond .eq 11, 57, []), (.aload_n 0, 0, []), (.invokevirtual 275, 230, [1, 1, 46, 6]), (.istore_n 2, 0, []), (.goto (-16), 38, [])]
  | 57 => [(.aload_n 0, 0, []), (.getfield 164, 12, [46, 18, 0, 0, 0]), (.ifCond .ne 16, 77, []), (.aload_n 0, 0, []), (.getfield 266, 12, [46, 22, 0, 0, 0]), (.ifCond .le 9, 77, []), (.aload_n 0, 0, []), (.iconst 2, 0, []), (.invokevirtual 176, 205, [2, 1, 46, 2]), (.pop, 0, []), (.nop, 77, [])]
  | 77 => [(.aload_n 0, 0, []), (.getfield 164, 12, [46, 18, 0, 0, 0]), (.ifCond .ne 50, 131, []), (.aload_n 0, 0, []), (.getfield 7, 12, [46, 0, 2, 47, 0]), (.bipush 10, 0, []), (.aload_n 0, 0, []), (.getfield 7, 12, [46, 0, 2, 47, 0]), (.sipush 1870, 0, []), (.iaload, 0, []), (.iastore, 0, []), (.bipush 97, 0, []), (.istore_n 3, 0, []), (.nop, 102, [])]
  | 102 => [(.iload_n 3, 0, []), (.sipush 457, 0, []), (.if_icmp .ge 25, 131, []), (.aload_n 0, 0, []), (.getfield 7, 12, [46, 0, 2, 47, 0]), (.iload_n 3, 0, []), (.aload_n 0, 0, []), (.getfield 7, 12, [46, 0, 2, 47, 0]), (.sipush 1860, 0, []), (.iload_n 3, 0, []), (.iadd, 0, []), (.iaload, 0, []), (.iastore, 0, []), (.iinc 3 1, 0, []), (.goto (-26), 102, [])]
  | 131 => [(.aload_n 0, 0, []), (.aload_n 0, 0, []), (.getfield 269, 12, [46, 23, 0, 0, 0]), (.invokevirtual 257, 214, [2, 1, 46, 2]), (.ireturn, 0, [])]
  | _ => []
abbrev n_m_topicRow : Nat := 232
def b_m_topicRow : Nat → List Item
  | 0 => [(.bipush 12, 0, []), (.iconst 2, 0, []), (.iload_n 0, 0, []), (.imul, 0, []), (.iadd, 0, []), (.ireturn, 0, [])]
  | _ => []
abbrev n_m_monkRow : Nat := 233
def b_m_monkRow : Nat → List Item
  | 0 => [(.bipush 24, 0, []), (.bipush 7, 0, []), (.iload_n 0, 0, []), (.imul, 0, []), (.iadd, 0, []), (.ireturn, 0, [])]
  | _ => []
abbrev n_m_entryRow : Nat := 234
def b_m_entryRow : Nat → List Item
  | 0 => [(.bipush 73, 0, []), (.iconst 2, 0, []), (.iload_n 0, 0, []), (.imul, 0, []), (.iadd, 0, []), (.ireturn, 0, [])]
  | _ => []
abbrev n_m_isTopic : Nat := 235
def b_m_isTopic : Nat → List Item
  | 0 => [(.lload_n 1, 0, []), (.lconst 0, 0, []), (.lcmp, 0, []), (.ifCond .lt 19, 22, []), (.lload_n 1, 0, []), (.aload_n 0, 0, []), (.getfield 7, 12, [46, 0, 2, 47, 0]), (.iconst 0, 0, []), (.iaload, 0, []), (.i2l, 0, []), (.lcmp, 0, []), (.ifCond .ge 7, 22, []), (.iconst 1, 0, []), (.goto 4, 23, [])]
  | 22 => [(.iconst 0, 0, []), (.nop, 23, [])]
  | 23 => [(.ireturn, 1, [])]
  | _ => []
abbrev n_m_isMonk : Nat := 236
def b_m_isMonk : Nat → List Item
  | 0 => [(.iload_n 1, 0, []), (.ifCond .lt 17, 18, []), (.iload_n 1, 0, []), (.aload_n 0, 0, []), (.getfield 7, 12, [46, 0, 2, 47, 0]), (.iconst 1, 0, []), (.iaload, 0, []), (.if_icmp .ge 7, 18, []), (.iconst 1, 0, []), (.goto 4, 19, [])]
  | 18 => [(.iconst 0, 0, []), (.nop, 19, [])]
  | 19 => [(.ireturn, 1, [])]
  | _ => []
abbrev n_m_isEntry : Nat := 237
def b_m_isEntry : Nat → List Item
  | 0 => [(.iload_n 1, 0, []), (.ifCond .lt 17, 18, []), (.iload_n 1, 0, []), (.aload_n 0, 0, []), (.getfield 7, 12, [46, 0, 2, 47, 0]), (.iconst 2, 0, []), (.iaload, 0, []), (.if_icmp .ge 7, 18, []), (.iconst 1, 0, []), (.goto 4, 19, [])]
  | 18 => [(.iconst 0, 0, []), (.nop, 19, [])]
  | 19 => [(.ireturn, 1, [])]
  | _ => []
abbrev n_m_areMonks : Nat := 238
def b_m_areMonks : Nat → List Item
  | 0 => [(.iload_n 1, 0, []), (.i2l, 0, []), (.lconst 0, 0, []), (.lconst 1, 0, []), (.aload_n 0, 0, []), (.getfield 7, 12, [46, 0, 2, 47, 0]), (.iconst 1, 0, []), (.iaload, 0, []), (.lshl, 0, []), (.lconst 1, 0, []), (.lsub, 0, []), (.invokestatic 278, 196, [3, 1, 0, 6]), (.ireturn, 1, [])]
  | _ => []
abbrev n_m_isIn : Nat := 239
def b_m_isIn : Nat → List Item
  | 0 => [(.iload_n 1, 0, []), (.iload_n 2, 0, []), (.ishr, 0, []), (.iconst 1, 0, []), (.iand, 0, []), (.iconst 1, 0, []), (.if_icmp .ne 7, 13, []), (.iconst 1, 0, []), (.goto 4, 14, [])]
  | 13 => [(.iconst 0, 0, []), (.nop, 14, [])]
  | 14 => [(.ireturn, 1, [])]
  | _ => []
abbrev n_m_bits : Nat := 240
def b_m_bits : Nat → List Item
  | 0 => [(.iconst 0, 0, []), (.istore_n 1, 0, []), (.iload_n 0, 0, []), (.istore_n 2, 0, []), (.nop, 4, [])]
  | 4 => [(.iload_n 2, 0, []), (.ifCond .eq 15, 20, []), (.iinc 1 1, 0, []), (.iload_n 2, 0, []), (.iload_n 2, 0, []), (.iconst 1, 0, []), (.isub, 0, []), (.iand, 0, []), (.istore_n 2, 0, []), (.goto (-13), 4, [])]
  | 20 => [(.iload_n 1, 0, []), (.ireturn, 0, [])]
  | _ => []
abbrev n_m_monkOf : Nat := 241
def b_m_monkOf : Nat → List Item
  | 0 => [(.aload_n 0, 0, []), (.getfield 7, 12, [46, 0, 2, 47, 0]), (.iload_n 1, 0, []), (.invokestatic 213, 233, [1, 1, 0, 1]), (.iload_n 2, 0, []), (.iadd, 0, []), (.iaload, 0, []), (.ireturn, 0, [])]
  | _ => []
abbrev n_m_costOf : Nat := 242
def b_m_costOf : Nat → List Item
  | 0 => [(.aload_n 0, 0, []), (.getfield 7, 12, [46, 0, 2, 47, 0]), (.iload_n 1, 0, []), (.invokestatic 200, 232, [1, 1, 0, 1]), (.iaload, 0, []), (.ireturn, 0, [])]
  | _ => []
abbrev n_m_nextOf : Nat := 243
def b_m_nextOf : Nat → List Item
  | 0 => [(.aload_n 0, 0, []), (.getfield 7, 12, [46, 0, 2, 47, 0]), (.iload_n 1, 0, []), (.invokestatic 200, 232, [1, 1, 0, 1]), (.iconst 1, 0, []), (.iadd, 0, []), (.iaload, 0, []), (.ireturn, 0, [])]
  | _ => []
abbrev n_m_awake : Nat := 244
def b_m_awake : Nat → List Item
  | 0 => [(.iconst 0, 0, []), (.istore_n 1, 0, []), (.iconst 0, 0, []), (.istore_n 2, 0, []), (.nop, 4, [])]
  | 4 => [(.iload_n 2, 0, []), (.aload_n 0, 0, []), (.getfield 7, 12, [46, 0, 2, 47, 0]), (.iconst 1, 0, []), (.iaload, 0, []), (.if_icmp .ge 29, 40, []), (.iload_n 1, 0, []), (.aload_n 0, 0, []), (.iload_n 2, 0, []), (.iconst 3, 0, []), (.invokevirtual 282, 241, [3, 1, 46, 3]), (.iconst 1, 0, []), (.if_icmp .ne 9, 31, []), (.iconst 1, 0, []), (.iload_n 2, 0, []), (.ishl, 0, []), (.goto 4, 32, [])]
  | 31 => [(.iconst 0, 0, []), (.nop, 32, [])]
  | 32 => [(.ior, 0, []), (.istore_n 1, 0, []), (.iinc 2 1, 0, []), (.goto (-33), 4, [])]
  | 40 => [(.iload_n 1, 0, []), (.ireturn, 0, [])]
  | _ => []
abbrev n_m_aheadOf : Nat := 245
def b_m_aheadOf : Nat → List Item
  | 0 => [(.iconst 0, 0, []), (.istore_n 2, 0, []), (.iconst 0, 0, []), (.istore_n 3, 0, []), (.nop, 4, [])]
  | 4 => [(.iload_n 3, 0, []), (.aload_n 0, 0, []), (.getfield 7, 12, [46, 0, 2, 47, 0]), (.iconst 0, 0, []), (.iaload, 0, []), (.if_icmp .ge 32, 43, []), (.iload_n 2, 0, []), (.aload_n 0, 0, []), (.aload_n 0, 0, []), (.iload_n 3, 0, []), (.invokevirtual 285, 243, [2, 1, 46, 2]), (.iload_n 1, 0, []), (.invokevirtual 288, 239, [3, 1, 46, 3]), (.ifCond .eq 9, 34, []), (.iconst 1, 0, []), (.iload_n 3, 0, []), (.ishl, 0, []), (.goto 4, 35, [])]
  | 34 => [(.iconst 0, 0, []), (.nop, 35, [])]
  | 35 => [(.ior, 0, []), (.istore_n 2, 0, []), (.iinc 3 1, 0, []), (.goto (-36), 4, [])]
  | 43 => [(.iload_n 2, 0, []), (.ireturn, 0, [])]
  | _ => []
abbrev n_m_told : Nat := 246
def b_m_told : Nat → List Item
  | 0 => [(.iload_n 1, 0, []), (.ifCond .lt 9, 10, []), (.iload_n 1, 0, []), (.bipush 8, 0, []), (.if_icmp .le 9, 16, []), (.nop, 10, [])]
  | 10 => [(.aload_n 0, 0, []), (.iconst 1, 0, []), (.invokevirtual 94, 185, [2, 1, 46, 2]), (.ireturn, 0, [])]
  | 16 => [(.aload_n 0, 0, []), (.iload_n 1, 0, []), (.bipush 8, 0, []), (.if_icmp .ne 10, 30, []), (.aload_n 0, 0, []), (.invokevirtual 291, 244, [1, 1, 46, 3]), (.goto 9, 36, [])]
  | 30 => [(.aload_n 0, 0, []), (.getfield 7, 12, [46, 0, 2, 47, 0]), (.iload_n 1, 0, []), (.iaload, 0, []), (.nop, 36, [])]
  | 36 => [(.invokevirtual 98, 186, [2, 1, 46, 2]), (.ireturn, 0, [])]
  | _ => []
abbrev n_m_topic : Nat := 247
def b_m_topic : Nat → List Item
  | 0 => [(.aload_n 0, 0, []), (.iload_n 1, 0, []), (.i2l, 0, []), (.invokevirtual 294, 235, [2, 1, 46, 3]), (.ifCond .eq 12, 18, []), (.iload_n 2, 0, []), (.ifCond .lt 8, 18, []), (.iload_n 2, 0, []), (.iconst 2, 0, []), (.if_icmp .le 9, 24, []), (.nop, 18, [])]
  | 18 => [(.aload_n 0, 0, []), (.iconst 1, 0, []), (.invokevirtual 94, 185, [2, 1, 46, 2]), (.ireturn, 0, [])]
  | 24 => [(.aload_n 0, 0, []), (.iload_n 2, 0, []), (.iconst 2, 0, []), (.if_icmp .ne 11, 38, []), (.aload_n 0, 0, []), (.iload_n 1, 0, []), (.invokevirtual 298, 245, [2, 1, 46, 4]), (.goto 14, 49, [])]
  | 38 => [(.aload_n 0, 0, []), (.getfield 7, 12, [46, 0, 2, 47, 0]), (.iload_n 1, 0, []), (.invokestatic 200, 232, [1, 1, 0, 1]), (.iload_n 2, 0, []), (.iadd, 0, []), (.iaload, 0, []), (.nop, 49, [])]
  | 49 => [(.invokevirtual 98, 186, [2, 1, 46, 2]), (.ireturn, 0, [])]
  | _ => []
abbrev n_m_monk : Nat := 248
def b_m_monk : Nat → List Item
  | 0 => [(.aload_n 0, 0, []), (.iload_n 1, 0, []), (.invokevirtual 301, 236, [2, 1, 46, 2]), (.ifCond .eq 13, 18, []), (.iload_n 2, 0, []), (.ifCond .lt 9, 18, []), (.iload_n 2, 0, []), (.bipush 6, 0, []), (.if_icmp .le 9, 24, []), (.nop, 18, [])]
  | 18 => [(.aload_n 0, 0, []), (.iconst 1, 0, []), (.invokevirtual 94, 185, [2, 1, 46, 2]), (.ireturn, 0, [])]
  | 24 => [(.aload_n 0, 0, []), (.aload_n 0, 0, []), (.iload_n 1, 0, []), (.iload_n 2, 0, []), (.invokevirtual 282, 241, [3, 1, 46, 3]), (.invokevirtual 98, 186, [2, 1, 46, 2]), (.ireturn, 0, [])]
  | _ => []
abbrev n_m_entry : Nat := 249
def b_m_entry : Nat → List Item
  | 0 => [(.aload_n 0, 0, []), (.iload_n 1, 0, []), (.invokevirtual 304, 237, [2, 1, 46, 2]), (.ifCond .eq 12, 17, []), (.iload_n 2, 0, []), (.ifCond .lt 8, 17, []), (.iload_n 2, 0, []), (.iconst 1, 0, []), (.if_icmp .le 9, 23, []), (.nop, 17, [])]
  | 17 => [(.aload_n 0, 0, []), (.iconst 1, 0, []), (.invokevirtual 94, 185, [2, 1, 46, 2]), (.ireturn, 0, [])]
  | 23 => [(.aload_n 0, 0, []), (.aload_n 0, 0, []), (.getfield 7, 12, [46, 0, 2, 47, 0]), (.iload_n 1, 0, []), (.invokestatic 222, 234, [1, 1, 0, 1]), (.iload_n 2, 0, []), (.iadd, 0, []), (.iaload, 0, []), (.invokevirtual 98, 186, [2, 1, 46, 2]), (.ireturn, 0, [])]
  | _ => []
abbrev n_m_silent : Nat := 250
def b_m_silent : Nat → List Item
  | 0 => [(.aload_n 0, 0, []), (.getfield 7, 12, [46, 0, 2, 47, 0]), (.iconst 1, 0, []), (.iaload, 0, []), (.ifCond .ne 12, 18, []), (.aload_n 0, 0, []), (.bipush 6, 0, []), (.invokevirtual 94, 185, [2, 1, 46, 2]), (.goto 14, 29, [])]
  | 18 => [(.aload_n 0, 0, []), (.aload_n 0, 0, []), (.getfield 7, 12, [46, 0, 2, 47, 0]), (.bipush 8, 0, []), (.iaload, 0, []), (.invokevirtual 98, 186, [2, 1, 46, 2]), (.nop, 29, [])]
  | 29 => [(.ireturn, 0, [])]
  | _ => []
abbrev n_m_last : Nat := 251
def b_m_last : Nat → List Item
  | 0 => [(.aload_n 0, 0, []), (.aload_n 0, 0, []), (.getfield 7, 12, [46, 0, 2, 47, 0]), (.bipush 9, 0, []), (.iaload, 0, []), (.invokevirtual 307, 187, [2, 1, 46, 2]), (.ireturn, 0, [])]
  | _ => []
abbrev n_m_doesFollow : Nat := 252
def b_m_doesFollow : Nat → List Item
  | 0 => [(.aload_n 0, 0, []), (.getfield 7, 12, [46, 0, 2, 47, 0]), (.bipush 9, 0, []), (.iaload, 0, []), (.iconst (-1), 0, []), (.if_icmp .eq 22, 30, []), (.aload_n 0, 0, []), (.aload_n 0, 0, []), (.aload_n 0, 0, []), (.getfield 7, 12, [46, 0, 2, 47, 0]), (.bipush 9, 0, []), (.iaload, 0, []), (.invokevirtual 285, 243, [2, 1, 46, 2]), (.iload_n 1, 0, []), (.invokevirtual 288, 239, [3, 1, 46, 3]), (.ifCond .eq 7, 34, []), (.nop, 30, [])]
  | 30 => [(.iconst 1, 0, []), (.goto 4, 35, [])]
  | 34 => [(.iconst 0, 0, []), (.nop, 35, [])]
  | 35 => [(.ireturn, 1, [])]
  | _ => []
abbrev n_m_canSay : Nat := 253
def b_m_canSay : Nat → List Item
  | 0 => [(.aload_n 0, 0, []), (.iload_n 1, 0, []), (.iconst 3, 0, []), (.invokevirtual 282, 241, [3, 1, 46, 3]), (.iconst 1, 0, []), (.if_icmp .ne 40, 47, []), (.iload_n 1, 0, []), (.aload_n 0, 0, []), (.getfield 7, 12, [46, 0, 2, 47, 0]), (.bipush 8, 0, []), (.iaload, 0, []), (.if_icmp .eq 29, 47, []), (.aload_n 0, 0, []), (.iload_n 1, 0, []), (.iconst 0, 0, []), (.invokevirtual 282, 241, [3, 1, 46, 3]), (.aload_n 0, 0, []), (.iload_n 2, 0, []), (.invokevirtual 310, 242, [2, 1, 46, 2]), (.if_icmp .lt 15, 47, []), (.aload_n 0, 0, []), (.iload_n 2, 0, []), (.invokevirtual 313, 252, [2, 1, 46, 2]), (.ifCond .eq 7, 47, []), (.iconst 1, 0, []), (.goto 4, 48, [])]
  | 47 => [(.iconst 0, 0, []), (.nop, 48, [])]
  | 48 => [(.ireturn, 1, [])]
  | _ => []
abbrev n_m_topicsOf : Nat := 254
def b_m_topicsOf : Nat → List Item
  | 0 => [(.iconst 0, 0, []), (.istore_n 2, 0, []), (.iconst 0, 0, []), (.istore_n 3, 0, []), (.nop, 4, [])]
  | 4 => [(.iload_n 3, 0, []), (.aload_n 0, 0, []), (.getfield 7, 12, [46, 0, 2, 47, 0]), (.iconst 0, 0, []), (.iaload, 0, []), (.if_icmp .ge 28, 39, []), (.iload_n 2, 0, []), (.aload_n 0, 0, []), (.iload_n 1, 0, []), (.iload_n 3, 0, []), (.invokevirtual 316, 253, [3, 1, 46, 3]), (.ifCond .eq 9, 30, []), (.iconst 1, 0, []), (.iload_n 3, 0, []), (.ishl, 0, []), (.goto 4, 31, [])]
  | 30 => [(.iconst 0, 0, []), (.nop, 31, [])]
  | 31 => [(.ior, 0, []), (.istore_n 2, 0, []), (.iinc 3 1, 0, []), (.goto (-32), 4, [])]
  | 39 => [(.iload_n 2, 0, []), (.ireturn, 0, [])]
  | _ => []
abbrev n_m_can : Nat := 255
def b_m_can : Nat → List Item
  | 0 => [(.aload_n 0, 0, []), (.iload_n 1, 0, []), (.invokevirtual 301, 236, [2, 1, 46, 2]), (.ifCond .eq 33, 38, []), (.aload_n 0, 0, []), (.iload_n 2, 0, []), (.i2l, 0, []), (.invokevirtual 294, 235, [2, 1, 46, 3]), (.ifCond .eq 24, 38, []), (.aload_n 0, 0, []), (.aload_n 0, 0, []), (.iload_n 1, 0, []), (.iload_n 2, 0, []), (.invokevirtual 316, 253, [3, 1, 46, 3]), (.ifCond .eq 7, 31, []), (.iconst 1, 0, []), (.goto 4, 32, [])]
  | 31 => [(.iconst 0, 0, []), (.nop, 32, [])]
  | 32 => [(.invokevirtual 98, 186, [2, 1, 46, 2]), (.goto 8, 43, [])]
  | 38 => [(.aload_n 0, 0, []), (.iconst 1, 0, []), (.invokevirtual 94, 185, [2, 1, 46, 2]), (.nop, 43, [])]
  | 43 => [(.ireturn, 0, [])]
  | _ => []
abbrev n_m_topics : Nat := 256
def b_m_topics : Nat → List Item
  | 0 => [(.aload_n 0, 0, []), (.iload_n 1, 0, []), (.invokevirtual 301, 236, [2, 1, 46, 2]), (.ifCond .eq 15, 20, []), (.aload_n 0, 0, []), (.aload_n 0, 0, []), (.iload_n 1, 0, []), (.invokevirtual 319, 254, [2, 1, 46, 4]), (.invokevirtual 98, 186, [2, 1, 46, 2]), (.goto 8, 25, [])]
  | 20 => [(.aload_n 0, 0, []), (.iconst 1, 0, []), (.invokevirtual 94, 185, [2, 1, 46, 2]), (.nop, 25, [])]
  | 25 => [(.ireturn, 0, [])]
  | _ => []
abbrev n_m_speakers : Nat := 257
def b_m_speakers : Nat → List Item
  | 0 => [(.aload_n 0, 0, []), (.iload_n 1, 0, []), (.i2l, 0, []), (.invokevirtual 294, 235, [2, 1, 46, 3]), (.ifCond .ne 9, 15, []), (.aload_n 0, 0, []), (.iconst 1, 0, []), (.invokevirtual 94, 185, [2, 1, 46, 2]), (.ireturn, 0, [])]
  | 15 => [(.iconst 0, 0, []), (.istore_n 2, 0, []), (.iconst 0, 0, []), (.istore_n 3, 0, []), (.nop, 19, [])]
  | 19 => [(.iload_n 3, 0, []), (.aload_n 0, 0, []), (.getfield 7, 12, [46, 0, 2, 47, 0]), (.iconst 1, 0, []), (.iaload, 0, []), (.if_icmp .ge 28, 54, []), (.iload_n 2, 0, []), (.aload_n 0, 0, []), (.iload_n 3, 0, []), (.iload_n 1, 0, []), (.invokevirtual 316, 253, [3, 1, 46, 3]), (.ifCond .eq 9, 45, []), (.iconst 1, 0, []), (.iload_n 3, 0, []), (.ishl, 0, []), (.goto 4, 46, [])]
  | 45 => [(.iconst 0, 0, []), (.nop, 46, [])]
  | 46 => [(.ior, 0, []), (.istore_n 2, 0, []), (.iinc 3 1, 0, []), (.goto (-32), 19, [])]
  | 54 => [(.aload_n 0, 0, []), (.iload_n 2, 0, []), (.invokevirtual 98, 186, [2, 1, 46, 2]), (.ireturn, 0, [])]
  | _ => []
abbrev n_m_laysSpeaker : Nat := 258
def b_m_laysSpeaker : Nat → List Item
  | 0 => [(.aload_n 0, 0, []), (.iconst 0, 0, []), (.putfield 322, 12, [46, 26, 5, 0, 0]), (.aload_n 0, 0, []), (.getfield 7, 12, [46, 0, 2, 47, 0]), (.iconst 2, 0, []), (.iaload, 0, []), (.ifCond .le 58, 69, []), (.aload_n 0, 0, []), (.getfield 7, 12, [46, 0, 2, 47, 0]), (.iconst 5, 0, []), (.iaload, 0, []), (.aload_n 0, 0, []), (.getfield 7, 12, [46, 0, 2, 47, 0]), (.iconst 2, 0, []), (.iaload, 0, []), (.irem, 0, []), (.invokestatic 222, 234, [1, 1, 0, 1]), (.istore_n 1, 0, []), (.aload_n 0, 0, []), (.aload_n 0, 0, []), (.getfield 7, 12, [46, 0, 2, 47, 0]), (.iload_n 1, 0, []), (.iaload, 0, []), (.putfield 326, 12, [46, 24, 0, 0, 0]), (.aload_n 0, 0, []), (.aload_n 0, 0, []), (.getfield 7, 12, [46, 0, 2, 47, 0]), (.iload_n 1, 0, []), (.iconst 1, 0, []), (.iadd, 0, []), (.iaload, 0, []), (.putfield 329, 12, [46, 25, 0, 0, 0]), (.aload_n 0, 0, []), (.aload_n 0, 0, []), (.getfield 326, 12, [46, 24, 0, 0, 0]), (.aload_n 0, 0, []), (.getfield 329, 12, [46, 25, 0, 0, 0]), (.invokevirtual 316, 253, [3, 1, 46, 3]), (.ifCond .eq 4, 69, []), (.return_, 0, [])]
  | 69 => [(.iconst 0, 0, []), (.istore_n 1, 0, []), (.nop, 71, [])]
  | 71 => [(.iload_n 1, 0, []), (.aload_n 0, 0, []), (.getfield 7, 12, [46, 0, 2, 47, 0]), (.iconst 1, 0, []), (.iaload, 0, []), (.if_icmp .ge 55, 133, []), (.iconst 0, 0, []), (.istore_n 2, 0, []), (.nop, 83, [])]
  | 83 => [(.iload_n 2, 0, []), (.aload_n 0, 0, []), (.getfield 7, 12, [46, 0, 2, 47, 0]), (.iconst 0, 0, []), (.iaload, 0, []), (.if_icmp .ge 37, 127, []), (.aload_n 0, 0, []), (.iload_n 1, 0, []), (.iload_n 2, 0, []), (.invokevirtual 316, 253, [3, 1, 46, 3]), (.ifCond .ne 6, 105, []), (.goto 19, 121, [])]
  | 105 => [(.aload_n 0, 0, []), (.iload_n 1, 0, []), (.putfield 326, 12, [46, 24, 0, 0, 0]), (.aload_n 0, 0, []), (.iload_n 2, 0, []), (.putfield 329, 12, [46, 25, 0, 0, 0]), (.aload_n 0, 0, []), (.iconst 1, 0, []), (.putfield 322, 12, [46, 26, 5, 0, 0]), (.return_, 0, [])]
  | 121 => [(.iinc 2 1, 0, []), (.goto (-41), 83, [])]
  | 127 => [(.iinc 1 1, 0, []), (.goto (-59), 71, [])]
  | 133 => [(.aload_n 0, 0, []), (.iconst (-1), 0, []), (.putfield 326, 12, [46, 24, 0, 0, 0]), (.aload_n 0, 0, []), (.iconst (-1), 0, []), (.putfield 329, 12, [46, 25, 0, 0, 0]), (.return_, 0, [])]
  | _ => []
abbrev n_m_speaker : Nat := 259
def b_m_speaker : Nat → List Item
  | 0 => [(.aload_n 0, 0, []), (.invokevirtual 332, 258, [1, 0, 46, 3]), (.aload_n 0, 0, []), (.aload_n 0, 0, []), (.getfield 326, 12, [46, 24, 0, 0, 0]), (.invokevirtual 307, 187, [2, 1, 46, 2]), (.ireturn, 0, [])]
  | _ => []
abbrev n_m_spoken : Nat := 260
def b_m_spoken : Nat → List Item
  | 0 => [(.aload_n 0, 0, []), (.invokevirtual 332, 258, [1, 0, 46, 3]), (.aload_n 0, 0, []), (.aload_n 0, 0, []), (.getfield 329, 12, [46, 25, 0, 0, 0]), (.invokevirtual 307, 187, [2, 1, 46, 2]), (.ireturn, 0, [])]
  | _ => []
abbrev n_m_saysBy : Nat := 261
def b_m_saysBy : Nat → List Item
  | 0 => [(.iconst 0, 0, []), (.istore_n 3, 0, []), (.nop, 2, [])]
  | 2 => [(.iload_n 3, 0, []), (.aload_n 0, 0, []), (.getfield 7, 12, [46, 0, 2, 47, 0]), (.iconst 1, 0, []), (.iaload, 0, []), (.if_icmp .ge 115, 124, []), (.iload_n 3, 0, []), (.invokestatic 213, 233, [1, 1, 0, 1]), (.istore 4, 0, []), (.iload_n 3, 0, []), (.iload_n 1, 0, []), (.if_icmp .ne 34, 54, []), (.aload_n 0, 0, []), (.getfield 7, 12, [46, 0, 2, 47, 0]), (.iload 4, 0, []), (.dup2, 0, []), (.iaload, 0, []), (.aload_n 0, 0, []), (.iload_n 2, 0, []), (.invokevirtual 310, 242, [2, 1, 46, 2]), (.isub, 0, []), (.iastore, 0, []), (.aload_n 0, 0, []), (.getfield 7, 12, [46, 0, 2, 47, 0]), (.iload 4, 0, []), (.iconst 4, 0, []), (.iadd, 0, []), (.dup2, 0, []), (.iaload, 0, []), (.iconst 1, 0, []), (.iadd, 0, []), (.iastore, 0, []), (.goto 39, 90, [])]
  | 54 => [(.aload_n 0, 0, []), (.getfield 7, 12, [46, 0, 2, 47, 0]), (.iload 4, 0, []), (.aload_n 0, 0, []), (.getfield 7, 12, [46, 0, 2, 47, 0]), (.iload 4, 0, []), (.iconst 1, 0, []), (.iadd, 0, []), (.iaload, 0, []), (.aload_n 0, 0, []), (.getfield 7, 12, [46, 0, 2, 47, 0]), (.iload 4, 0, []), (.iaload, 0, []), (.aload_n 0, 0, []), (.getfield 7, 12, [46, 0, 2, 47, 0]), (.iload 4, 0, []), (.iconst 2, 0, []), (.iadd, 0, []), (.iaload, 0, []), (.iadd, 0, []), (.invokestatic 149, 335, [2, 1, 0, 2]), (.iastore, 0, []), (.nop, 90, [])]
  | 90 => [(.aload_n 0, 0, []), (.getfield 7, 12, [46, 0, 2, 47, 0]), (.iload 4, 0, []), (.iconst 5, 0, []), (.iadd, 0, []), (.dup2, 0, []), (.iaload, 0, []), (.iload_n 3, 0, []), (.aload_n 0, 0, []), (.getfield 7, 12, [46, 0, 2, 47, 0]), (.bipush 8, 0, []), (.iaload, 0, []), (.if_icmp .ne 7, 115, []), (.iconst 1, 0, []), (.goto 4, 116, [])]
  | 115 => [(.iconst 0, 0, []), (.nop, 116, [])]
  | 116 => [(.iadd, 0, []), (.iastore, 0, []), (.iinc 3 1, 0, []), (.goto (-119), 2, [])]
  | 124 => [(.aload_n 0, 0, []), (.getfield 7, 12, [46, 0, 2, 47, 0]), (.bipush 9, 0, []), (.iload_n 2, 0, []), (.iastore, 0, []), (.aload_n 0, 0, []), (.getfield 7, 12, [46, 0, 2, 47, 0]), (.iconst 5, 0, []), (.dup2, 0, []), (.iaload, 0, []), (.iconst 1, 0, []), (.iadd, 0, []), (.iastore, 0, []), (.aload_n 0, 0, []), (.getfield 7, 12, [46, 0, 2, 47, 0]), (.iconst 5, 0, []), (.iaload, 0, []), (.aload_n 0, 0, []), (.getfield 7, 12, [46, 0, 2, 47, 0]), (.iconst 3, 0, []), (.iaload, 0, []), (.irem, 0, []), (.ifCond .ne 35, 190, []), (.aload_n 0, 0, []), (.getfield 7, 12, [46, 0, 2, 47, 0]), (.iconst 1, 0, []), (.iaload, 0, []), (.ifCond .le 26, 190, []), (.aload_n 0, 0, []), (.getfield 7, 12, [46, 0, 2, 47, 0]), (.bipush 8, 0, []), (.aload_n 0, 0, []), (.getfield 7, 12, [46, 0, 2, 47, 0]), (.bipush 8, 0, []), (.iaload, 0, []), (.iconst 1, 0, []), (.iadd, 0, []), (.aload_n 0, 0, []), (.getfield 7, 12, [46, 0, 2, 47, 0]), (.iconst 1, 0, []), (.iaload, 0, []), (.irem, 0, []), (.iastore, 0, []), (.nop, 190, [])]
  | 190 => [(.return_, 0, [])]
  | _ => []
abbrev n_m_minuteGoes : Nat := 262
def b_m_minuteGoes : Nat → List Item
  | 0 => [(.aload_n 0, 0, []), (.invokevirtual 332, 258, [1, 0, 46, 3]), (.aload_n 0, 0, []), (.getfield 7, 12, [46, 0, 2, 47, 0]), (.bipush 6, 0, []), (.dup2, 0, []), (.iaload, 0, []), (.aload_n 0, 0, []), (.getfield 326, 12, [46, 24, 0, 0, 0]), (.iconst (-1), 0, []), (.if_icmp .ne 7, 24, []), (.iconst 1, 0, []), (.goto 4, 25, [])]
  | 24 => [(.iconst 0, 0, []), (.nop, 25, [])]
  | 25 => [(.iadd, 0, []), (.iastore, 0, []), (.aload_n 0, 0, []), (.getfield 7, 12, [46, 0, 2, 47, 0]), (.bipush 7, 0, []), (.dup2, 0, []), (.iaload, 0, []), (.aload_n 0, 0, []), (.getfield 322, 12, [46, 26, 5, 0, 0]), (.ifCond .eq 7, 46, []), (.iconst 1, 0, []), (.goto 4, 47, [])]
  | 46 => [(.iconst 0, 0, []), (.nop, 47, [])]
  | 47 => [(.iadd, 0, []), (.iastore, 0, []), (.aload_n 0, 0, []), (.aload_n 0, 0, []), (.getfield 326, 12, [46, 24, 0, 0, 0]), (.aload_n 0, 0, []), (.getfield 329, 12, [46, 25, 0, 0, 0]), (.invokevirtual 335, 261, [3, 0, 46, 5]), (.return_, 0, [])]
  | _ => []
abbrev n_m_minutesGo : Nat := 263
def b_m_minutesGo : Nat → List Item
  | 0 => [(.aload_n 0, 0, []), (.getfield 7, 12, [46, 0, 2, 47, 0]), (.bipush 6, 0, []), (.iaload, 0, []), (.istore_n 2, 0, []), (.iconst 0, 0, []), (.istore_n 3, 0, []), (.nop, 10, [])]
  | 10 => [(.iload_n 3, 0, []), (.iload_n 1, 0, []), (.if_icmp .ge 13, 25, []), (.aload_n 0, 0, []), (.invokevirtual 339, 262, [1, 0, 46, 1]), (.iinc 3 1, 0, []), (.goto (-12), 10, [])]
  | 25 => [(.aload_n 0, 0, []), (.getfield 7, 12, [46, 0, 2, 47, 0]), (.bipush 6, 0, []), (.iaload, 0, []), (.iload_n 2, 0, []), (.isub, 0, []), (.ireturn, 0, [])]
  | _ => []
abbrev n_m_minute : Nat := 264
def b_m_minute : Nat → List Item
  | 0 => [(.iload_n 1, 0, []), (.i2l, 0, []), (.lconst 1, 0, []), (.ldc2_w 342, 99, []), (.invokestatic 278, 196, [3, 1, 0, 6]), (.ifCond .ne 9, 18, []), (.aload_n 0, 0, []), (.iconst 1, 0, []), (.invokevirtual 94, 185, [2, 1, 46, 2]), (.ireturn, 0, [])]
  | 18 => [(.aload_n 0, 0, []), (.getfield 7, 12, [46, 0, 2, 47, 0]), (.iconst 5, 0, []), (.iaload, 0, []), (.iload_n 1, 0, []), (.iadd, 0, []), (.sipush 9999, 0, []), (.if_icmp .le 11, 40, []), (.aload_n 0, 0, []), (.iconst 4, 0, []), (.invokevirtual 94, 185, [2, 1, 46, 2]), (.goto 12, 49, [])]
  | 40 => [(.aload_n 0, 0, []), (.aload_n 0, 0, []), (.iload_n 1, 0, []), (.invokevirtual 344, 263, [2, 1, 46, 4]), (.invokevirtual 98, 186, [2, 1, 46, 2]), (.nop, 49, [])]
  | 49 => [(.ireturn, 0, [])]
  | _ => []
abbrev n_m_changes : Nat := 265
def b_m_changes : Nat → List Item
  | 0 => [(.aload_n 0, 0, []), (.getfield 7, 12, [46, 0, 2, 47, 0]), (.bipush 8, 0, []), (.iaload, 0, []), (.iload_n 1, 0, []), (.if_icmp .eq 7, 15, []), (.iconst 1, 0, []), (.goto 4, 16, [])]
  | 15 => [(.iconst 0, 0, []), (.nop, 16, [])]
  | 16 => [(.istore_n 2, 0, []), (.aload_n 0, 0, []), (.getfield 7, 12, [46, 0, 2, 47, 0]), (.bipush 8, 0, []), (.iload_n 1, 0, []), (.iastore, 0, []), (.iload_n 2, 0, []), (.ireturn, 1, [])]
  | _ => []
abbrev n_m_change : Nat := 266
def b_m_change : Nat → List Item
  | 0 => [(.aload_n 0, 0, []), (.iload_n 1, 0, []), (.invokevirtual 301, 236, [2, 1, 46, 2]), (.ifCond .ne 9, 14, []), (.aload_n 0, 0, []), (.iconst 1, 0, []), (.invokevirtual 94, 185, [2, 1, 46, 2]), (.ireturn, 0, [])]
  | 14 => [(.aload_n 0, 0, []), (.getfield 7, 12, [46, 0, 2, 47, 0]), (.bipush 8, 0, []), (.iaload, 0, []), (.istore_n 2, 0, []), (.aload_n 0, 0, []), (.iload_n 1, 0, []), (.invokevirtual 347, 265, [2, 1, 46, 3]), (.ifCond .eq 11, 38, []), (.aload_n 0, 0, []), (.iload_n 2, 0, []), (.invokevirtual 98, 186, [2, 1, 46, 2]), (.goto 9, 44, [])]
  | 38 => [(.aload_n 0, 0, []), (.bipush 7, 0, []), (.invokevirtual 94, 185, [2, 1, 46, 2]), (.nop, 44, [])]
  | 44 => [(.ireturn, 0, [])]
  | _ => []
abbrev n_m_wakes : Nat := 267
def b_m_wakes : Nat → List Item
  | 0 => [(.aload_n 0, 0, []), (.iload_n 1, 0, []), (.iconst 3, 0, []), (.invokevirtual 282, 241, [3, 1, 46, 3]), (.iload_n 2, 0, []), (.if_icmp .eq 7, 14, []), (.iconst 1, 0, []), (.goto 4, 15, [])]
  | 14 => [(.iconst 0, 0, []), (.nop, 15, [])]
  | 15 => [(.istore_n 3, 0, []), (.aload_n 0, 0, []), (.getfield 7, 12, [46, 0, 2, 47, 0]), (.iload_n 1, 0, []), (.invokestatic 213, 233, [1, 1, 0, 1]), (.iconst 3, 0, []), (.iadd, 0, []), (.iload_n 2, 0, []), (.iastore, 0, []), (.iload_n 3, 0, []), (.ireturn, 1, [])]
  | _ => []
abbrev n_m_wake : Nat := 268
def b_m_wake : Nat → List Item
  | 0 => [(.aload_n 0, 0, []), (.iload_n 1, 0, []), (.invokevirtual 301, 236, [2, 1, 46, 2]), (.ifCond .ne 9, 14, []), (.aload_n 0, 0, []), (.iconst 1, 0, []), (.invokevirtual 101, 184, [2, 1, 46, 2]), (.ireturn, 1, [])]
  | 14 => [(.aload_n 0, 0, []), (.aload_n 0, 0, []), (.iload_n 1, 0, []), (.iload_n 2, 0, []), (.ifCond .eq 7, 25, []), (.iconst 1, 0, []), (.goto 4, 26, [])]
  | 25 => [(.iconst 0, 0, []), (.nop, 26, [])]
  | 26 => [(.invokevirtual 350, 267, [3, 1, 46, 4]), (.ifCond .eq 7, 36, []), (.iconst 0, 0, []), (.goto 5, 38, [])]
  | 36 => [(.bipush 7, 0, []), (.nop, 38, [])]
  | 38 => [(.invokevirtual 101, 184, [2, 1, 46, 2]), (.ireturn, 1, [])]
  | _ => []
abbrev n_m_follow : Nat := 269
def b_m_follow : Nat → List Item
  | 0 => [(.aload_n 0, 0, []), (.iload_n 1, 0, []), (.i2l, 0, []), (.invokevirtual 294, 235, [2, 1, 46, 3]), (.ifCond .eq 12, 18, []), (.aload_n 0, 0, []), (.iload_n 2, 0, []), (.i2l, 0, []), (.invokevirtual 294, 235, [2, 1, 46, 3]), (.ifCond .ne 9, 24, []), (.nop, 18, [])]
  | 18 => [(.aload_n 0, 0, []), (.iconst 1, 0, []), (.invokevirtual 101, 184, [2, 1, 46, 2]), (.ireturn, 1, [])]
  | 24 => [(.aload_n 0, 0, []), (.aload_n 0, 0, []), (.iload_n 1, 0, []), (.invokevirtual 285, 243, [2, 1, 46, 2]), (.iload_n 2, 0, []), (.invokevirtual 288, 239, [3, 1, 46, 3]), (.iload_n 3, 0, []), (.if_icmp .ne 10, 45, []), (.aload_n 0, 0, []), (.bipush 7, 0, []), (.invokevirtual 101, 184, [2, 1, 46, 2]), (.ireturn, 1, [])]
  | 45 => [(.aload_n 0, 0, []), (.getfield 7, 12, [46, 0, 2, 47, 0]), (.iload_n 1, 0, []), (.invokestatic 200, 232, [1, 1, 0, 1]), (.iconst 1, 0, []), (.iadd, 0, []), (.dup2, 0, []), (.iaload, 0, []), (.iconst 1, 0, []), (.iload_n 2, 0, []), (.ishl, 0, []), (.ixor, 0, []), (.iastore, 0, []), (.aload_n 0, 0, []), (.iconst 0, 0, []), (.invokevirtual 101, 184, [2, 1, 46, 2]), (.ireturn, 1, [])]
  | _ => []
abbrev n_m_hear : Nat := 270
def b_m_hear : Nat → List Item
  | 0 => [(.aload_n 0, 0, []), (.iload_n 1, 0, []), (.invokevirtual 301, 236, [2, 1, 46, 2]), (.ifCond .eq 16, 21, []), (.aload_n 0, 0, []), (.iload_n 2, 0, []), (.invokevirtual 301, 236, [2, 1, 46, 2]), (.ifCond .eq 8, 21, []), (.iload_n 1, 0, []), (.iload_n 2, 0, []), (.if_icmp .ne 9, 27, []), (.nop, 21, [])]
  | 21 => [(.aload_n 0, 0, []), (.iconst 1, 0, []), (.invokevirtual 101, 184, [2, 1, 46, 2]), (.ireturn, 1, [])]
  | 27 => [(.aload_n 0, 0, []), (.aload_n 0, 0, []), (.iload_n 1, 0, []), (.bipush 6, 0, []), (.invokevirtual 282, 241, [3, 1, 46, 3]), (.iload_n 2, 0, []), (.invokevirtual 288, 239, [3, 1, 46, 3]), (.iload_n 3, 0, []), (.if_icmp .ne 10, 50, []), (.aload_n 0, 0, []), (.bipush 7, 0, []), (.invokevirtual 101, 184, [2, 1, 46, 2]), (.ireturn, 1, [])]
  | 50 => [(.aload_n 0, 0, []), (.getfield 7, 12, [46, 0, 2, 47, 0]), (.iload_n 1, 0, []), (.invokestatic 213, 233, [1, 1, 0, 1]), (.bipush 6, 0, []), (.iadd, 0, []), (.dup2, 0, []), (.iaload, 0, []), (.iconst 1, 0, []), (.iload_n 2, 0, []), (.ishl, 0, []), (.ixor, 0, []), (.iastore, 0, []), (.aload_n 0, 0, []), (.getfield 7, 12, [46, 0, 2, 47, 0]), (.iload_n 2, 0, []), (.invokestatic 213, 233, [1, 1, 0, 1]), (.bipush 6, 0, []), (.iadd, 0, []), (.dup2, 0, []), (.iaload, 0, []), (.iconst 1, 0, []), (.iload_n 1, 0, []), (.ishl, 0, []), (.ixor, 0, []), (.iastore, 0, []), (.aload_n 0, 0, []), (.iconst 0, 0, []), (.invokevirtual 101, 184, [2, 1, 46, 2]), (.ireturn, 1, [])]
  | _ => []
abbrev n_m_enter : Nat := 271
def b_m_enter : Nat → List Item
  | 0 => [(.aload_n 0, 0, []), (.iload_n 1, 0, []), (.invokevirtual 301, 236, [2, 1, 46, 2]), (.ifCond .eq 12, 17, []), (.aload_n 0, 0, []), (.iload_n 2, 0, []), (.i2l, 0, []), (.invokevirtual 294, 235, [2, 1, 46, 3]), (.ifCond .ne 9, 23, []), (.nop, 17, [])]
  | 17 => [(.aload_n 0, 0, []), (.iconst 1, 0, []), (.invokevirtual 94, 185, [2, 1, 46, 2]), (.ireturn, 0, [])]
  | 23 => [(.aload_n 0, 0, []), (.getfield 7, 12, [46, 0, 2, 47, 0]), (.iconst 2, 0, []), (.iaload, 0, []), (.bipush 12, 0, []), (.if_icmp .ne 9, 40, []), (.aload_n 0, 0, []), (.iconst 4, 0, []), (.invokevirtual 94, 185, [2, 1, 46, 2]), (.ireturn, 0, [])]
  | 40 => [(.aload_n 0, 0, []), (.getfield 7, 12, [46, 0, 2, 47, 0]), (.iconst 2, 0, []), (.iaload, 0, []), (.invokestatic 222, 234, [1, 1, 0, 1]), (.istore_n 3, 0, []), (.aload_n 0, 0, []), (.getfield 7, 12, [46, 0, 2, 47, 0]), (.iload_n 3, 0, []), (.iload_n 1, 0, []), (.iastore, 0, []), (.aload_n 0, 0, []), (.getfield 7, 12, [46, 0, 2, 47, 0]), (.iload_n 3, 0, []), (.iconst 1, 0, []), (.iadd, 0, []), (.iload_n 2, 0, []), (.iastore, 0, []), (.aload_n 0, 0, []), (.getfield 7, 12, [46, 0, 2, 47, 0]), (.iconst 2, 0, []), (.dup2, 0, []), (.iaload, 0, []), (.iconst 1, 0, []), (.iadd, 0, []), (.iastore, 0, []), (.aload_n 0, 0, []), (.aload_n 0, 0, []), (.getfield 7, 12, [46, 0, 2, 47, 0]), (.iconst 2, 0, []), (.iaload, 0, []), (.invokevirtual 98, 186, [2, 1, 46, 2]), (.ireturn, 0, [])]
  | _ => []
abbrev n_m_strike : Nat := 272
def b_m_strike : Nat → List Item
  | 0 => [(.aload_n 0, 0, []), (.iload_n 1, 0, []), (.invokevirtual 304, 237, [2, 1, 46, 2]), (.ifCond .ne 9, 14, []), (.aload_n 0, 0, []), (.iconst 1, 0, []), (.invokevirtual 94, 185, [2, 1, 46, 2]), (.ireturn, 0, [])]
  | 14 => [(.aload_n 0, 0, []), (.getfield 7, 12, [46, 0, 2, 47, 0]), (.iconst 2, 0, []), (.dup2, 0, []), (.iaload, 0, []), (.iconst 1, 0, []), (.isub, 0, []), (.iastore, 0, []), (.iload_n 1, 0, []), (.invokestatic 222, 234, [1, 1, 0, 1]), (.istore_n 2, 0, []), (.nop, 29, [])]
  | 29 => [(.iload_n 2, 0, []), (.aload_n 0, 0, []), (.getfield 7, 12, [46, 0, 2, 47, 0]), (.iconst 2, 0, []), (.iaload, 0, []), (.invokestatic 222, 234, [1, 1, 0, 1]), (.if_icmp .ge 23, 62, []), (.aload_n 0, 0, []), (.getfield 7, 12, [46, 0, 2, 47, 0]), (.iload_n 2, 0, []), (.aload_n 0, 0, []), (.getfield 7, 12, [46, 0, 2, 47, 0]), (.iload_n 2, 0, []), (.iconst 2, 0, []), (.iadd, 0, []), (.iaload, 0, []), (.iastore, 0, []), (.iinc 2 1, 0, []), (.goto (-30), 29, [])]
  | 62 => [(.aload_n 0, 0, []), (.aload_n 0, 0, []), (.getfield 7, 12, [46, 0, 2, 47, 0]), (.iconst 2, 0, []), (.iaload, 0, []), (.invokevirtual 98, 186, [2, 1, 46, 2]), (.ireturn, 0, [])]
  | _ => []
abbrev n_m_breathe : Nat := 273
def b_m_breathe : Nat → List Item
  | 0 => [(.aload_n 0, 0, []), (.iload_n 1, 0, []), (.invokevirtual 301, 236, [2, 1, 46, 2]), (.ifCond .eq 19, 24, []), (.iload_n 2, 0, []), (.i2l, 0, []), (.lconst 0, 0, []), (.aload_n 0, 0, []), (.iload_n 1, 0, []), (.iconst 1, 0, []), (.invokevirtual 282, 241, [3, 1, 46, 3]), (.i2l, 0, []), (.invokestatic 278, 196, [3, 1, 0, 6]), (.ifCond .ne 9, 30, []), (.nop, 24, [])]
  | 24 => [(.aload_n 0, 0, []), (.iconst 1, 0, []), (.invokevirtual 101, 184, [2, 1, 46, 2]), (.ireturn, 1, [])]
  | 30 => [(.aload_n 0, 0, []), (.getfield 7, 12, [46, 0, 2, 47, 0]), (.iload_n 1, 0, []), (.invokestatic 213, 233, [1, 1, 0, 1]), (.iload_n 2, 0, []), (.iastore, 0, []), (.aload_n 0, 0, []), (.iconst 0, 0, []), (.invokevirtual 101, 184, [2, 1, 46, 2]), (.ireturn, 1, [])]
  | _ => []
abbrev n_m_price : Nat := 274
def b_m_price : Nat → List Item
  | 0 => [(.aload_n 0, 0, []), (.iload_n 1, 0, []), (.i2l, 0, []), (.invokevirtual 294, 235, [2, 1, 46, 3]), (.ifCond .eq 15, 21, []), (.iload_n 2, 0, []), (.i2l, 0, []), (.lconst 0, 0, []), (.ldc2_w 353, 20, []), (.invokestatic 278, 196, [3, 1, 0, 6]), (.ifCond .ne 9, 27, []), (.nop, 21, [])]
  | 21 => [(.aload_n 0, 0, []), (.iconst 1, 0, []), (.invokevirtual 101, 184, [2, 1, 46, 2]), (.ireturn, 1, [])]
  | 27 => [(.aload_n 0, 0, []), (.getfield 7, 12, [46, 0, 2, 47, 0]), (.iload_n 1, 0, []), (.invokestatic 200, 232, [1, 1, 0, 1]), (.iload_n 2, 0, []), (.iastore, 0, []), (.aload_n 0, 0, []), (.iconst 0, 0, []), (.invokevirtual 101, 184, [2, 1, 46, 2]), (.ireturn, 1, [])]
  | _ => []
abbrev n_m_rule : Nat := 275
def b_m_rule : Nat → List Item
  | 0 => [(.iload_n 1, 0, []), (.iconst 3, 0, []), (.if_icmp .lt 40, 42, []), (.iload_n 1, 0, []), (.iconst 4, 0, []), (.if_icmp .gt 35, 42, []), (.iload_n 2, 0, []), (.i2l, 0, []), (.iload_n 1, 0, []), (.iconst 3, 0, []), (.if_icmp .ne 7, 21, []), (.lconst 1, 0, []), (.goto 4, 22, [])]
  | 21 => [(.lconst 0, 0, []), (.nop, 22, [])]
  | 22 => [(.iload_n 1, 0, []), (.iconst 3, 0, []), (.if_icmp .ne 9, 33, []), (.ldc2_w 342, 99, []), (.goto 6, 36, [])]
  | 33 => [(.ldc2_w 355, 16, []), (.nop, 36, [])]
  | 36 => [(.invokestatic 278, 196, [3, 1, 0, 6]), (.ifCond .ne 9, 48, []), (.nop, 42, [])]
  | 42 => [(.aload_n 0, 0, []), (.iconst 1, 0, []), (.invokevirtual 101, 184, [2, 1, 46, 2]), (.ireturn, 1, [])]
  | 48 => [(.aload_n 0, 0, []), (.getfield 7, 12, [46, 0, 2, 47, 0]), (.iload_n 1, 0, []), (.iload_n 2, 0, []), (.iastore, 0, []), (.aload_n 0, 0, []), (.iconst 0, 0, []), (.invokevirtual 101, 184, [2, 1, 46, 2]), (.ireturn, 1, [])]
  | _ => []
abbrev n_m_keeps : Nat := 276
def b_m_keeps : Nat → List Item
  | 0 => [(.iconst 0, 0, []), (.istore_n 2, 0, []), (.nop, 2, [])]
  | 2 => [(.iload_n 2, 0, []), (.bipush 97, 0, []), (.if_icmp .ge 23, 28, []), (.aload_n 0, 0, []), (.getfield 7, 12, [46, 0, 2, 47, 0]), (.iload_n 1, 0, []), (.iload_n 2, 0, []), (.iadd, 0, []), (.aload_n 0, 0, []), (.getfield 7, 12, [46, 0, 2, 47, 0]), (.iload_n 2, 0, []), (.iaload, 0, []), (.iastore, 0, []), (.iinc 2 1, 0, []), (.goto (-23), 2, [])]
  | 28 => [(.return_, 0, [])]
  | _ => []
abbrev n_m_restores : Nat := 277
def b_m_restores : Nat → List Item
  | 0 => [(.iconst 0, 0, []), (.istore_n 2, 0, []), (.nop, 2, [])]
  | 2 => [(.iload_n 2, 0, []), (.bipush 97, 0, []), (.if_icmp .ge 23, 28, []), (.aload_n 0, 0, []), (.getfield 7, 12, [46, 0, 2, 47, 0]), (.iload_n 2, 0, []), (.aload_n 0, 0, []), (.getfield 7, 12, [46, 0, 2, 47, 0]), (.iload_n 1, 0, []), (.iload_n 2, 0, []), (.iadd, 0, []), (.iaload, 0, []), (.iastore, 0, []), (.iinc 2 1, 0, []), (.goto (-23), 2, [])]
  | 28 => [(.return_, 0, [])]
  | _ => []
abbrev n_m_isSpan : Nat := 278
def b_m_isSpan : Nat → List Item
  | 0 => [(.iload_n 0, 0, []), (.i2l, 0, []), (.lconst 0, 0, []), (.ldc2_w 357, 300, []), (.invokestatic 278, 196, [3, 1, 0, 6]), (.ireturn, 1, [])]
  | _ => []
abbrev n_m_speakerIn : Nat := 279
def b_m_speakerIn : Nat → List Item
  | 0 => [(.iload_n 1, 0, []), (.invokestatic 359, 278, [1, 1, 0, 1]), (.ifCond .ne 9, 13, []), (.aload_n 0, 0, []), (.iconst 1, 0, []), (.invokevirtual 94, 185, [2, 1, 46, 2]), (.ireturn, 0, [])]
  | 13 => [(.aload_n 0, 0, []), (.sipush 2790, 0, []), (.invokevirtual 362, 276, [2, 0, 46, 3]), (.aload_n 0, 0, []), (.iload_n 1, 0, []), (.invokevirtual 344, 263, [2, 1, 46, 4]), (.pop, 0, []), (.aload_n 0, 0, []), (.invokevirtual 332, 258, [1, 0, 46, 3]), (.aload_n 0, 0, []), (.sipush 2790, 0, []), (.invokevirtual 365, 277, [2, 0, 46, 3]), (.aload_n 0, 0, []), (.aload_n 0, 0, []), (.getfield 326, 12, [46, 24, 0, 0, 0]), (.invokevirtual 307, 187, [2, 1, 46, 2]), (.ireturn, 0, [])]
  | _ => []
abbrev n_m_breathIn : Nat := 280
def b_m_breathIn : Nat → List Item
  | 0 => [(.aload_n 0, 0, []), (.iload_n 1, 0, []), (.invokevirtual 301, 236, [2, 1, 46, 2]), (.ifCond .eq 10, 15, []), (.iload_n 2, 0, []), (.invokestatic 359, 278, [1, 1, 0, 1]), (.ifCond .ne 9, 21, []), (.nop, 15, [])]
  | 15 => [(.aload_n 0, 0, []), (.iconst 1, 0, []), (.invokevirtual 94, 185, [2, 1, 46, 2]), (.ireturn, 0, [])]
  | 21 => [(.aload_n 0, 0, []), (.sipush 2790, 0, []), (.invokevirtual 362, 276, [2, 0, 46, 3]), (.aload_n 0, 0, []), (.iload_n 2, 0, []), (.invokevirtual 344, 263, [2, 1, 46, 4]), (.pop, 0, []), (.aload_n 0, 0, []), (.iload_n 1, 0, []), (.iconst 0, 0, []), (.invokevirtual 282, 241, [3, 1, 46, 3]), (.istore_n 3, 0, []), (.aload_n 0, 0, []), (.sipush 2790, 0, []), (.invokevirtual 365, 277, [2, 0, 46, 3]), (.aload_n 0, 0, []), (.iload_n 3, 0, []), (.invokevirtual 98, 186, [2, 1, 46, 2]), (.ireturn, 0, [])]
  | _ => []
abbrev n_m_firstPause : Nat := 281
def b_m_firstPause : Nat → List Item
  | 0 => [(.aload_n 0, 0, []), (.sipush 2790, 0, []), (.invokevirtual 362, 276, [2, 0, 46, 3]), (.iconst (-1), 0, []), (.istore_n 2, 0, []), (.iconst 0, 0, []), (.istore_n 3, 0, []), (.nop, 11, [])]
  | 11 => [(.iload_n 3, 0, []), (.iload_n 1, 0, []), (.if_icmp .ge 24, 37, []), (.iload_n 2, 0, []), (.iconst (-1), 0, []), (.if_icmp .ne 19, 37, []), (.aload_n 0, 0, []), (.iconst 1, 0, []), (.invokevirtual 344, 263, [2, 1, 46, 4]), (.ifCond .le 5, 31, []), (.iload_n 3, 0, []), (.istore_n 2, 0, []), (.nop, 31, [])]
  | 31 => [(.iinc 3 1, 0, []), (.goto (-23), 11, [])]
  | 37 => [(.aload_n 0, 0, []), (.sipush 2790, 0, []), (.invokevirtual 365, 277, [2, 0, 46, 3]), (.iload_n 2, 0, []), (.ireturn, 0, [])]
  | _ => []
abbrev n_m_pauseIn : Nat := 282
def b_m_pauseIn : Nat → List Item
  | 0 => [(.aload_n 0, 0, []), (.aload_n 0, 0, []), (.sipush 301, 0, []), (.invokevirtual 368, 281, [2, 1, 46, 4]), (.invokevirtual 307, 187, [2, 1, 46, 2]), (.ireturn, 0, [])]
  | _ => []
abbrev n_m_pausesIn : Nat := 283
def b_m_pausesIn : Nat → List Item
  | 0 => [(.iload_n 1, 0, []), (.invokestatic 359, 278, [1, 1, 0, 1]), (.ifCond .ne 9, 13, []), (.aload_n 0, 0, []), (.iconst 1, 0, []), (.invokevirtual 94, 185, [2, 1, 46, 2]), (.ireturn, 0, [])]
  | 13 => [(.aload_n 0, 0, []), (.sipush 2790, 0, []), (.invokevirtual 362, 276, [2, 0, 46, 3]), (.aload_n 0, 0, []), (.iload_n 1, 0, []), (.invokevirtual 344, 263, [2, 1, 46, 4]), (.istore_n 2, 0, []), (.aload_n 0, 0, []), (.sipush 2790, 0, []), (.invokevirtual 365, 277, [2, 0, 46, 3]), (.aload_n 0, 0, []), (.iload_n 2, 0, []), (.invokevirtual 98, 186, [2, 1, 46, 2]), (.ireturn, 0, [])]
  | _ => []
abbrev n_m_turnIn : Nat := 284
def b_m_turnIn : Nat → List Item
  | 0 => [(.aload_n 0, 0, []), (.iload_n 1, 0, []), (.invokevirtual 301, 236, [2, 1, 46, 2]), (.ifCond .ne 9, 14, []), (.aload_n 0, 0, []), (.iconst 1, 0, []), (.invokevirtual 94, 185, [2, 1, 46, 2]), (.ireturn, 0, [])]
  | 14 => [(.aload_n 0, 0, []), (.getfield 7, 12, [46, 0, 2, 47, 0]), (.bipush 8, 0, []), (.iaload, 0, []), (.istore_n 2, 0, []), (.iconst 0, 0, []), (.istore_n 3, 0, []), (.nop, 24, [])]
  | 24 => [(.iload_n 2, 0, []), (.iload_n 1, 0, []), (.if_icmp .eq 38, 64, []), (.iinc 3 1, 0, []), (.aload_n 0, 0, []), (.getfield 7, 12, [46, 0, 2, 47, 0]), (.iconst 5, 0, []), (.iaload, 0, []), (.iload_n 3, 0, []), (.iadd, 0, []), (.aload_n 0, 0, []), (.getfield 7, 12, [46, 0, 2, 47, 0]), (.iconst 3, 0, []), (.iaload, 0, []), (.irem, 0, []), (.ifCond .ne (-23), 24, []), (.iload_n 2, 0, []), (.iconst 1, 0, []), (.iadd, 0, []), (.aload_n 0, 0, []), (.getfield 7, 12, [46, 0, 2, 47, 0]), (.iconst 1, 0, []), (.iaload, 0, []), (.irem, 0, []), (.istore_n 2, 0, []), (.goto (-37), 24, [])]
  | 64 => [(.aload_n 0, 0, []), (.iload_n 3, 0, []), (.invokevirtual 98, 186, [2, 1, 46, 2]), (.ireturn, 0, [])]
  | _ => []
abbrev n_m_unfair : Nat := 285
def b_m_unfair : Nat → List Item
  | 0 => [(.iconst 0, 0, []), (.istore_n 1, 0, []), (.aload_n 0, 0, []), (.getfield 7, 12, [46, 0, 2, 47, 0]), (.iconst 1, 0, []), (.iaload, 0, []), (.ifCond .ne 7, 15, []), (.iconst 0, 0, []), (.goto 6, 18, [])]
  | 15 => [(.ldc_w 371, 1000000, []), (.nop, 18, [])]
  | 18 => [(.istore_n 2, 0, []), (.iconst 0, 0, []), (.istore_n 3, 0, []), (.nop, 21, [])]
  | 21 => [(.iload_n 3, 0, []), (.aload_n 0, 0, []), (.getfield 7, 12, [46, 0, 2, 47, 0]), (.iconst 1, 0, []), (.iaload, 0, []), (.if_icmp .ge 31, 59, []), (.iload_n 1, 0, []), (.aload_n 0, 0, []), (.iload_n 3, 0, []), (.iconst 5, 0, []), (.invokevirtual 282, 241, [3, 1, 46, 3]), (.invokestatic 372, 334, [2, 1, 0, 2]), (.istore_n 1, 0, []), (.iload_n 2, 0, []), (.aload_n 0, 0, []), (.iload_n 3, 0, []), (.iconst 5, 0, []), (.invokevirtual 282, 241, [3, 1, 46, 3]), (.invokestatic 149, 335, [2, 1, 0, 2]), (.istore_n 2, 0, []), (.iinc 3 1, 0, []), (.goto (-35), 21, [])]
  | 59 => [(.aload_n 0, 0, []), (.iload_n 1, 0, []), (.iload_n 2, 0, []), (.isub, 0, []), (.invokevirtual 98, 186, [2, 1, 46, 2]), (.ireturn, 0, [])]
  | _ => []
abbrev n_m_areEnough : Nat := 286
def b_m_areEnough : Nat → List Item
  | 0 => [(.aload_n 0, 0, []), (.sipush 2887, 0, []), (.invokevirtual 362, 276, [2, 0, 46, 3]), (.iconst 0, 0, []), (.istore_n 3, 0, []), (.nop, 9, [])]
  | 9 => [(.iload_n 3, 0, []), (.aload_n 0, 0, []), (.getfield 7, 12, [46, 0, 2, 47, 0]), (.iconst 1, 0, []), (.iaload, 0, []), (.if_icmp .ge 34, 50, []), (.aload_n 0, 0, []), (.getfield 7, 12, [46, 0, 2, 47, 0]), (.iload_n 3, 0, []), (.invokestatic 213, 233, [1, 1, 0, 1]), (.iconst 3, 0, []), (.iadd, 0, []), (.aload_n 0, 0, []), (.iload_n 1, 0, []), (.iload_n 3, 0, []), (.invokevirtual 288, 239, [3, 1, 46, 3]), (.ifCond .eq 7, 42, []), (.iconst 1, 0, []), (.goto 4, 43, [])]
  | 42 => [(.iconst 0, 0, []), (.nop, 43, [])]
  | 43 => [(.iastore, 0, []), (.iinc 3 1, 0, []), (.goto (-38), 9, [])]
  | 50 => [(.aload_n 0, 0, []), (.iload_n 2, 0, []), (.invokevirtual 368, 281, [2, 1, 46, 4]), (.iconst (-1), 0, []), (.if_icmp .ne 7, 63, []), (.iconst 1, 0, []), (.goto 4, 64, [])]
  | 63 => [(.iconst 0, 0, []), (.nop, 64, [])]
  | 64 => [(.istore_n 3, 0, []), (.aload_n 0, 0, []), (.sipush 2887, 0, []), (.invokevirtual 365, 277, [2, 0, 46, 3]), (.iload_n 3, 0, []), (.ireturn, 1, [])]
  | _ => []
abbrev n_m_isShort : Nat := 287
def b_m_isShort : Nat → List Item
  | 0 => [(.iload_n 0, 0, []), (.i2l, 0, []), (.lconst 0, 0, []), (.ldc2_w 375, 60, []), (.invokestatic 278, 196, [3, 1, 0, 6]), (.ireturn, 1, [])]
  | _ => []
abbrev n_m_enough : Nat := 288
def b_m_enough : Nat → List Item
  | 0 => [(.aload_n 0, 0, []), (.iload_n 1, 0, []), (.invokevirtual 377, 238, [2, 1, 46, 2]), (.ifCond .eq 31, 36, []), (.iload_n 2, 0, []), (.invokestatic 380, 287, [1, 1, 0, 1]), (.ifCond .eq 24, 36, []), (.aload_n 0, 0, []), (.aload_n 0, 0, []), (.iload_n 1, 0, []), (.iload_n 2, 0, []), (.invokevirtual 383, 286, [3, 1, 46, 4]), (.ifCond .eq 7, 29, []), (.iconst 1, 0, []), (.goto 4, 30, [])]
  | 29 => [(.iconst 0, 0, []), (.nop, 30, [])]
  | 30 => [(.invokevirtual 98, 186, [2, 1, 46, 2]), (.goto 8, 41, [])]
  | 36 => [(.aload_n 0, 0, []), (.iconst 1, 0, []), (.invokevirtual 94, 185, [2, 1, 46, 2]), (.nop, 41, [])]
  | 41 => [(.ireturn, 0, [])]
  | _ => []
abbrev n_m_fewestOf : Nat := 289
def b_m_fewestOf : Nat → List Item
  | 0 => [(.iconst (-1), 0, []), (.istore_n 2, 0, []), (.iconst 0, 0, []), (.istore_n 3, 0, []), (.nop, 4, [])]
  | 4 => [(.iload_n 3, 0, []), (.iconst 1, 0, []), (.aload_n 0, 0, []), (.getfield 7, 12, [46, 0, 2, 47, 0]), (.iconst 1, 0, []), (.iaload, 0, []), (.ishl, 0, []), (.if_icmp .ge 36, 49, []), (.iload_n 2, 0, []), (.iconst (-1), 0, []), (.if_icmp .eq 14, 32, []), (.iload_n 3, 0, []), (.invokestatic 386, 240, [1, 1, 0, 3]), (.iload_n 2, 0, []), (.invokestatic 386, 240, [1, 1, 0, 3]), (.if_icmp .ge 14, 43, []), (.nop, 32, [])]
  | 32 => [(.aload_n 0, 0, []), (.iload_n 3, 0, []), (.iload_n 1, 0, []), (.invokevirtual 383, 286, [3, 1, 46, 4]), (.ifCond .eq 5, 43, []), (.iload_n 3, 0, []), (.istore_n 2, 0, []), (.nop, 43, [])]
  | 43 => [(.iinc 3 1, 0, []), (.goto (-42), 4, [])]
  | 49 => [(.iload_n 2, 0, []), (.ireturn, 0, [])]
  | _ => []
abbrev n_m_fewest : Nat := 290
def b_m_fewest : Nat → List Item
  | 0 => [(.iload_n 1, 0, []), (.invokestatic 380, 287, [1, 1, 0, 1]), (.ifCond .ne 9, 13, []), (.aload_n 0, 0, []), (.iconst 1, 0, []), (.invokevirtual 94, 185, [2, 1, 46, 2]), (.ireturn, 0, [])]
  | 13 => [(.aload_n 0, 0, []), (.iload_n 1, 0, []), (.invokevirtual 389, 289, [2, 1, 46, 4]), (.istore_n 2, 0, []), (.iload_n 2, 0, []), (.iconst (-1), 0, []), (.if_icmp .ne 12, 33, []), (.aload_n 0, 0, []), (.bipush 6, 0, []), (.invokevirtual 94, 185, [2, 1, 46, 2]), (.goto 11, 41, [])]
  | 33 => [(.aload_n 0, 0, []), (.iload_n 2, 0, []), (.invokestatic 386, 240, [1, 1, 0, 3]), (.invokevirtual 98, 186, [2, 1, 46, 2]), (.nop, 41, [])]
  | 41 => [(.ireturn, 0, [])]
  | _ => []
abbrev n_m_fewestSet : Nat := 291
def b_m_fewestSet : Nat → List Item
  | 0 => [(.iload_n 1, 0, []), (.invokestatic 380, 287, [1, 1, 0, 1]), (.ifCond .eq 15, 19, []), (.aload_n 0, 0, []), (.aload_n 0, 0, []), (.iload_n 1, 0, []), (.invokevirtual 389, 289, [2, 1, 46, 4]), (.invokevirtual 307, 187, [2, 1, 46, 2]), (.goto 8, 24, [])]
  | 19 => [(.aload_n 0, 0, []), (.iconst 1, 0, []), (.invokevirtual 94, 185, [2, 1, 46, 2]), (.nop, 24, [])]
  | 24 => [(.ireturn, 0, [])]
  | _ => []
abbrev n_m_levelAt : Nat := 292
def b_m_levelAt : Nat → List Item
  | 0 => [(.sipush 2790, 0, []), (.bipush 97, 0, []), (.iload_n 0, 0, []), (.imul, 0, []), (.iadd, 0, []), (.ireturn, 0, [])]
  | _ => []
abbrev n_m_leastBreath : Nat := 293
def b_m_leastBreath : Nat → List Item
  | 0 => [(.ldc_w 371, 1000000, []), (.istore_n 1, 0, []), (.iconst 0, 0, []), (.istore_n 2, 0, []), (.nop, 6, [])]
  | 6 => [(.iload_n 2, 0, []), (.aload_n 0, 0, []), (.getfield 7, 12, [46, 0, 2, 47, 0]), (.iconst 1, 0, []), (.iaload, 0, []), (.if_icmp .ge 20, 33, []), (.iload_n 1, 0, []), (.aload_n 0, 0, []), (.iload_n 2, 0, []), (.iconst 0, 0, []), (.invokevirtual 282, 241, [3, 1, 46, 3]), (.invokestatic 149, 335, [2, 1, 0, 2]), (.istore_n 1, 0, []), (.iinc 2 1, 0, []), (.goto (-24), 6, [])]
  | 33 => [(.iload_n 1, 0, []), (.ireturn, 0, [])]
  | _ => []
abbrev n_m_shifting : Nat := 294
def b_m_shifting : Nat → List Item
  | 0 => [(.aload_n 0, 0, []), (.iconst (-1), 0, []), (.putfield 392, 12, [46, 29, 0, 0, 0]), (.iconst 0, 0, []), (.istore_n 2, 0, []), (.aload_n 0, 0, []), (.getfield 47, 12, [46, 27, 2, 55, 0]), (.iconst 0, 0, []), (.iconst (-1), 0, []), (.iastore, 0, []), (.aload_n 0, 0, []), (.iconst 0, 0, []), (.invokestatic 395, 292, [1, 1, 0, 1]), (.invokevirtual 362, 276, [2, 0, 46, 3]), (.nop, 22, [])]
  | 22 => [(.iload_n 2, 0, []), (.ifCond .lt 167, 190, []), (.aload_n 0, 0, []), (.iload_n 2, 0, []), (.invokestatic 395, 292, [1, 1, 0, 1]), (.invokevirtual 365, 277, [2, 0, 46, 3]), (.aload_n 0, 0, []), (.getfield 47, 12, [46, 27, 2, 55, 0]), (.iload_n 2, 0, []), (.dup2, 0, []), (.iaload, 0, []), (.iconst 1, 0, []), (.iadd, 0, []), (.iastore, 0, []), (.aload_n 0, 0, []), (.getfield 47, 12, [46, 27, 2, 55, 0]), (.iload_n 2, 0, []), (.iaload, 0, []), (.bipush 6, 0, []), (.idiv, 0, []), (.istore_n 3, 0, []), (.aload_n 0, 0, []), (.getfield 47, 12, [46, 27, 2, 55, 0]), (.iload_n 2, 0, []), (.iaload, 0, []), (.bipush 6, 0, []), (.irem, 0, []), (.istore 4, 0, []), (.iload_n 3, 0, []), (.aload_n 0, 0, []), (.getfield 7, 12, [46, 0, 2, 47, 0]), (.iconst 1, 0, []), (.iaload, 0, []), (.if_icmp .lt 9, 81, []), (.iinc 2 (-1), 0, []), (.goto (-56), 22, [])]
  | 81 => [(.aload_n 0, 0, []), (.iload 4, 0, []), (.i2l, 0, []), (.invokevirtual 294, 235, [2, 1, 46, 3]), (.ifCond .eq (-66), 22, []), (.aload_n 0, 0, []), (.iload_n 3, 0, []), (.iload 4, 0, []), (.invokevirtual 316, 253, [3, 1, 46, 3]), (.ifCond .ne 6, 104, []), (.goto (-79), 22, [])]
  | 104 => [(.aload_n 0, 0, []), (.iload_n 3, 0, []), (.iload 4, 0, []), (.invokevirtual 335, 261, [3, 0, 46, 5]), (.iload_n 2, 0, []), (.iconst 1, 0, []), (.iadd, 0, []), (.iload_n 1, 0, []), (.if_icmp .ge 24, 139, []), (.iinc 2 1, 0, []), (.aload_n 0, 0, []), (.getfield 47, 12, [46, 27, 2, 55, 0]), (.iload_n 2, 0, []), (.iconst (-1), 0, []), (.iastore, 0, []), (.aload_n 0, 0, []), (.iload_n 2, 0, []), (.invokestatic 395, 292, [1, 1, 0, 1]), (.invokevirtual 362, 276, [2, 0, 46, 3]), (.goto 51, 187, [])]
  | 139 => [(.aload_n 0, 0, []), (.invokevirtual 398, 293, [1, 1, 46, 3]), (.aload_n 0, 0, []), (.getfield 392, 12, [46, 29, 0, 0, 0]), (.if_icmp .le 40, 187, []), (.aload_n 0, 0, []), (.aload_n 0, 0, []), (.invokevirtual 398, 293, [1, 1, 46, 3]), (.putfield 392, 12, [46, 29, 0, 0, 0]), (.iconst 0, 0, []), (.istore 5, 0, []), (.nop, 161, [])]
  | 161 => [(.iload 5, 0, []), (.iload_n 1, 0, []), (.if_icmp .ge 23, 187, []), (.aload_n 0, 0, []), (.getfield 50, 12, [46, 28, 2, 56, 0]), (.iload 5, 0, []), (.aload_n 0, 0, []), (.getfield 47, 12, [46, 27, 2, 55, 0]), (.iload 5, 0, []), (.iaload, 0, []), (.iastore, 0, []), (.iinc 5 1, 0, []), (.goto (-23), 161, [])]
  | 187 => [(.goto (-165), 22, [])]
  | 190 => [(.aload_n 0, 0, []), (.iconst 0, 0, []), (.invokestatic 395, 292, [1, 1, 0, 1]), (.invokevirtual 365, 277, [2, 0, 46, 3]), (.aload_n 0, 0, []), (.getfield 392, 12, [46, 29, 0, 0, 0]), (.ireturn, 0, [])]
  | _ => []
abbrev n_m_shift : Nat := 295
def b_m_shift : Nat → List Item
  | 0 => [(.iload_n 1, 0, []), (.i2l, 0, []), (.lconst 1, 0, []), (.ldc2_w 401, 3, []), (.invokestatic 278, 196, [3, 1, 0, 6]), (.ifCond .eq 15, 24, []), (.aload_n 0, 0, []), (.aload_n 0, 0, []), (.iload_n 1, 0, []), (.invokevirtual 403, 294, [2, 1, 46, 6]), (.invokevirtual 307, 187, [2, 1, 46, 2]), (.goto 8, 29, [])]
  | 24 => [(.aload_n 0, 0, []), (.iconst 1, 0, []), (.invokevirtual 94, 185, [2, 1, 46, 2]), (.nop, 29, [])]
  | 29 => [(.ireturn, 0, [])]
  | _ => []
abbrev n_m_shiftAt : Nat := 296
def b_m_shiftAt : Nat → List Item
  | 0 => [(.iload_n 1, 0, []), (.i2l, 0, []), (.lconst 1, 0, []), (.ldc2_w 401, 3, []), (.invokestatic 278, 196, [3, 1, 0, 6]), (.ifCond .eq 26, 35, []), (.iload_n 2, 0, []), (.i2l, 0, []), (.lconst 0, 0, []), (.iload_n 1, 0, []), (.i2l, 0, []), (.lconst 1, 0, []), (.lsub, 0, []), (.invokestatic 278, 196, [3, 1, 0, 6]), (.ifCond .eq 13, 35, []), (.iload_n 3, 0, []), (.i2l, 0, []), (.lconst 0, 0, []), (.lconst 1, 0, []), (.invokestatic 278, 196, [3, 1, 0, 6]), (.ifCond .ne 9, 41, []), (.nop, 35, [])]
  | 35 => [(.aload_n 0, 0, []), (.iconst 1, 0, []), (.invokevirtual 94, 185, [2, 1, 46, 2]), (.ireturn, 0, [])]
  | 41 => [(.aload_n 0, 0, []), (.iload_n 1, 0, []), (.invokevirtual 403, 294, [2, 1, 46, 6]), (.iconst (-1), 0, []), (.if_icmp .ne 10, 57, []), (.aload_n 0, 0, []), (.bipush 6, 0, []), (.invokevirtual 94, 185, [2, 1, 46, 2]), (.ireturn, 0, [])]
  | 57 => [(.aload_n 0, 0, []), (.iload_n 3, 0, []), (.ifCond .ne 15, 74, []), (.aload_n 0, 0, []), (.getfield 50, 12, [46, 28, 2, 56, 0]), (.iload_n 2, 0, []), (.iaload, 0, []), (.bipush 6, 0, []), (.idiv, 0, []), (.goto 12, 83, [])]
  | 74 => [(.aload_n 0, 0, []), (.getfield 50, 12, [46, 28, 2, 56, 0]), (.iload_n 2, 0, []), (.iaload, 0, []), (.bipush 6, 0, []), (.irem, 0, []), (.nop, 83, [])]
  | 83 => [(.invokevirtual 98, 186, [2, 1, 46, 2]), (.ireturn, 0, [])]
  | _ => []
abbrev n_m_laysTalk : Nat := 297
def b_m_laysTalk : Nat → List Item
  | 0 => [(.iconst 1, 0, []), (.aload_n 0, 0, []), (.getfield 7, 12, [46, 0, 2, 47, 0]), (.iconst 0, 0, []), (.iaload, 0, []), (.ishl, 0, []), (.iconst 1, 0, []), (.isub, 0, []), (.istore_n 1, 0, []), (.nop, 11, [])]
  | 11 => [(.iload_n 1, 0, []), (.ifCond .le 150, 162, []), (.iconst 0, 0, []), (.istore_n 2, 0, []), (.nop, 17, [])]
  | 17 => [(.iload_n 2, 0, []), (.aload_n 0, 0, []), (.getfield 7, 12, [46, 0, 2, 47, 0]), (.iconst 0, 0, []), (.iaload, 0, []), (.if_icmp .ge 132, 156, []), (.bipush 6, 0, []), (.iload_n 1, 0, []), (.imul, 0, []), (.iload_n 2, 0, []), (.iadd, 0, []), (.istore_n 3, 0, []), (.aload_n 0, 0, []), (.getfield 53, 12, [46, 30, 2, 57, 0]), (.iload_n 3, 0, []), (.iconst 0, 0, []), (.iastore, 0, []), (.aload_n 0, 0, []), (.getfield 56, 12, [46, 31, 2, 58, 0]), (.iload_n 3, 0, []), (.iconst 0, 0, []), (.bastore, 0, []), (.iconst 0, 0, []), (.istore 4, 0, []), (.nop, 51, [])]
  | 51 => [(.iload 4, 0, []), (.aload_n 0, 0, []), (.getfield 7, 12, [46, 0, 2, 47, 0]), (.iconst 0, 0, []), (.iaload, 0, []), (.if_icmp .ge 91, 150, []), (.aload_n 0, 0, []), (.aload_n 0, 0, []), (.iload_n 2, 0, []), (.invokevirtual 285, 243, [2, 1, 46, 2]), (.iload 4, 0, []), (.invokevirtual 288, 239, [3, 1, 46, 3]), (.ifCond .eq 71, 144, []), (.aload_n 0, 0, []), (.iload_n 1, 0, []), (.iload 4, 0, []), (.invokevirtual 288, 239, [3, 1, 46, 3]), (.ifCond .eq 6, 89, []), (.goto 58, 144, [])]
  | 89 => [(.bipush 6, 0, []), (.iload_n 1, 0, []), (.iconst 1, 0, []), (.iload 4, 0, []), (.ishl, 0, []), (.ior, 0, []), (.imul, 0, []), (.iload 4, 0, []), (.iadd, 0, []), (.istore 5, 0, []), (.aload_n 0, 0, []), (.getfield 53, 12, [46, 30, 2, 57, 0]), (.iload_n 3, 0, []), (.aload_n 0, 0, []), (.getfield 53, 12, [46, 30, 2, 57, 0]), (.iload_n 3, 0, []), (.iaload, 0, []), (.iconst 1, 0, []), (.aload_n 0, 0, []), (.getfield 53, 12, [46, 30, 2, 57, 0]), (.iload 5, 0, []), (.iaload, 0, []), (.iadd, 0, []), (.invokestatic 372, 334, [2, 1, 0, 2]), (.iastore, 0, []), (.aload_n 0, 0, []), (.getfield 56, 12, [46, 31, 2, 58, 0]), (.iload 5, 0, []), (.baload, 0, []), (.ifCond .ne 10, 144, []), (.aload_n 0, 0, []), (.getfield 56, 12, [46, 31, 2, 58, 0]), (.iload_n 3, 0, []), (.iconst 1, 0, []), (.bastore, 0, []), (.nop, 144, [])]
  | 144 => [(.iinc 4 1, 0, []), (.goto (-96), 51, [])]
  | 150 => [(.iinc 2 1, 0, []), (.goto (-136), 17, [])]
  | 156 => [(.iinc 1 (-1), 0, []), (.goto (-148), 11, [])]
  | 162 => [(.return_, 0, [])]
  | _ => []
abbrev n_m_talkFrom : Nat := 298
def b_m_talkFrom : Nat → List Item
  | 0 => [(.aload_n 0, 0, []), (.invokevirtual 406, 297, [1, 0, 46, 6]), (.iconst 1, 0, []), (.aload_n 0, 0, []), (.getfield 53, 12, [46, 30, 2, 57, 0]), (.bipush 6, 0, []), (.iconst 1, 0, []), (.iload_n 1, 0, []), (.ishl, 0, []), (.imul, 0, []), (.iload_n 1, 0, []), (.iadd, 0, []), (.iaload, 0, []), (.iadd, 0, []), (.ireturn, 0, [])]
  | _ => []
abbrev n_m_talk : Nat := 299
def b_m_talk : Nat → List Item
  | 0 => [(.aload_n 0, 0, []), (.iload_n 1, 0, []), (.i2l, 0, []), (.invokevirtual 294, 235, [2, 1, 46, 3]), (.ifCond .eq 15, 21, []), (.aload_n 0, 0, []), (.aload_n 0, 0, []), (.iload_n 1, 0, []), (.invokevirtual 409, 298, [2, 1, 46, 2]), (.invokevirtual 98, 186, [2, 1, 46, 2]), (.goto 8, 26, [])]
  | 21 => [(.aload_n 0, 0, []), (.iconst 1, 0, []), (.invokevirtual 94, 185, [2, 1, 46, 2]), (.nop, 26, [])]
  | 26 => [(.ireturn, 0, [])]
  | _ => []
abbrev n_m_talkAt : Nat := 300
def b_m_talkAt : Nat → List Item
  | 0 => [(.aload_n 0, 0, []), (.iload_n 1, 0, []), (.i2l, 0, []), (.invokevirtual 294, 235, [2, 1, 46, 3]), (.ifCond .eq 7, 13, []), (.iload_n 2, 0, []), (.ifCond .ge 9, 19, []), (.nop, 13, [])]
  | 13 => [(.aload_n 0, 0, []), (.iconst 1, 0, []), (.invokevirtual 94, 185, [2, 1, 46, 2]), (.ireturn, 0, [])]
  | 19 => [(.iload_n 2, 0, []), (.aload_n 0, 0, []), (.iload_n 1, 0, []), (.invokevirtual 409, 298, [2, 1, 46, 2]), (.if_icmp .lt 10, 35, []), (.aload_n 0, 0, []), (.bipush 6, 0, []), (.invokevirtual 94, 185, [2, 1, 46, 2]), (.ireturn, 0, [])]
  | 35 => [(.iconst 1, 0, []), (.iload_n 1, 0, []), (.ishl, 0, []), (.istore_n 3, 0, []), (.iload_n 1, 0, []), (.istore 4, 0, []), (.iconst 0, 0, []), (.istore 5, 0, []), (.nop, 45, [])]
  | 45 => [(.iload 5, 0, []), (.iload_n 2, 0, []), (.if_icmp .ge 92, 140, []), (.aload_n 0, 0, []), (.getfield 53, 12, [46, 30, 2, 57, 0]), (.bipush 6, 0, []), (.iload_n 3, 0, []), (.imul, 0, []), (.iload 4, 0, []), (.iadd, 0, []), (.iaload, 0, []), (.istore 6, 0, []), (.iconst 0, 0, []), (.istore 7, 0, []), (.nop, 68, [])]
  | 68 => [(.aload_n 0, 0, []), (.aload_n 0, 0, []), (.iload 4, 0, []), (.invokevirtual 285, 243, [2, 1, 46, 2]), (.iload 7, 0, []), (.invokevirtual 288, 239, [3, 1, 46, 3]), (.ifCond .eq 37, 117, []), (.aload_n 0, 0, []), (.iload_n 3, 0, []), (.iload 7, 0, []), (.invokevirtual 288, 239, [3, 1, 46, 3]), (.ifCond .ne 27, 117, []), (.iconst 1, 0, []), (.aload_n 0, 0, []), (.getfield 53, 12, [46, 30, 2, 57, 0]), (.bipush 6, 0, []), (.iload_n 3, 0, []), (.iconst 1, 0, []), (.iload 7, 0, []), (.ishl, 0, []), (.ior, 0, []), (.imul, 0, []), (.iload 7, 0, []), (.iadd, 0, []), (.iaload, 0, []), (.iadd, 0, []), (.iload 6, 0, []), (.if_icmp .eq 9, 123, []), (.nop, 117, [])]
  | 117 => [(.iinc 7 1, 0, []), (.goto (-52), 68, [])]
  | 123 => [(.iload 7, 0, []), (.istore 4, 0, []), (.iload_n 3, 0, []), (.iconst 1, 0, []), (.iload 4, 0, []), (.ishl, 0, []), (.ior, 0, []), (.istore_n 3, 0, []), (.iinc 5 1, 0, []), (.goto (-92), 45, [])]
  | 140 => [(.aload_n 0, 0, []), (.iload 4, 0, []), (.invokevirtual 98, 186, [2, 1, 46, 2]), (.ireturn, 0, [])]
  | _ => []
abbrev n_m_laysFar : Nat := 301
def b_m_laysFar : Nat → List Item
  | 0 => [(.iconst 0, 0, []), (.istore_n 2, 0, []), (.nop, 2, [])]
  | 2 => [(.iload_n 2, 0, []), (.bipush 6, 0, []), (.if_icmp .ge 27, 32, []), (.aload_n 0, 0, []), (.getfield 60, 12, [46, 32, 2, 59, 0]), (.iload_n 2, 0, []), (.iload_n 2, 0, []), (.iload_n 1, 0, []), (.if_icmp .ne 7, 22, []), (.iconst 0, 0, []), (.goto 6, 25, [])]
  | 22 => [(.ldc_w 371, 1000000, []), (.nop, 25, [])]
  | 25 => [(.iastore, 0, []), (.iinc 2 1, 0, []), (.goto (-27), 2, [])]
  | 32 => [(.iconst 0, 0, []), (.istore_n 2, 0, []), (.nop, 34, [])]
  | 34 => [(.iload_n 2, 0, []), (.bipush 6, 0, []), (.if_icmp .ge 49, 86, []), (.iconst 0, 0, []), (.istore_n 3, 0, []), (.nop, 42, [])]
  | 42 => [(.iload_n 3, 0, []), (.aload_n 0, 0, []), (.getfield 7, 12, [46, 0, 2, 47, 0]), (.iconst 0, 0, []), (.iaload, 0, []), (.if_icmp .ge 31, 80, []), (.aload_n 0, 0, []), (.getfield 60, 12, [46, 32, 2, 59, 0]), (.iload_n 3, 0, []), (.aload_n 0, 0, []), (.getfield 60, 12, [46, 32, 2, 59, 0]), (.iload_n 3, 0, []), (.iaload, 0, []), (.iconst 1, 0, []), (.aload_n 0, 0, []), (.iload_n 3, 0, []), (.invokevirtual 412, 302, [2, 1, 46, 4]), (.iadd, 0, []), (.invokestatic 149, 335, [2, 1, 0, 2]), (.iastore, 0, []), (.iinc 3 1, 0, []), (.goto (-35), 42, [])]
  | 80 => [(.iinc 2 1, 0, []), (.goto (-49), 34, [])]
  | 86 => [(.return_, 0, [])]
  | _ => []
abbrev n_m_nearest : Nat := 302
def b_m_nearest : Nat → List Item
  | 0 => [(.ldc_w 371, 1000000, []), (.istore_n 2, 0, []), (.iconst 0, 0, []), (.istore_n 3, 0, []), (.nop, 6, [])]
  | 6 => [(.iload_n 3, 0, []), (.aload_n 0, 0, []), (.getfield 7, 12, [46, 0, 2, 47, 0]), (.iconst 0, 0, []), (.iaload, 0, []), (.if_icmp .ge 33, 46, []), (.aload_n 0, 0, []), (.aload_n 0, 0, []), (.iload_n 1, 0, []), (.invokevirtual 285, 243, [2, 1, 46, 2]), (.iload_n 3, 0, []), (.invokevirtual 288, 239, [3, 1, 46, 3]), (.ifCond .eq 14, 40, []), (.iload_n 2, 0, []), (.aload_n 0, 0, []), (.getfield 60, 12, [46, 32, 2, 59, 0]), (.iload_n 3, 0, []), (.iaload, 0, []), (.invokestatic 149, 335, [2, 1, 0, 2]), (.istore_n 2, 0, []), (.nop, 40, [])]
  | 40 => [(.iinc 3 1, 0, []), (.goto (-37), 6, [])]
  | 46 => [(.iload_n 2, 0, []), (.ireturn, 0, [])]
  | _ => []
abbrev n_m_laysRing : Nat := 303
def b_m_laysRing : Nat → List Item
  | 0 => [(.aload_n 0, 0, []), (.ldc_w 371, 1000000, []), (.putfield 415, 12, [46, 34, 0, 0, 0]), (.iconst 0, 0, []), (.istore_n 1, 0, []), (.nop, 9, [])]
  | 9 => [(.iload_n 1, 0, []), (.aload_n 0, 0, []), (.getfield 7, 12, [46, 0, 2, 47, 0]), (.iconst 0, 0, []), (.iaload, 0, []), (.if_icmp .ge 43, 59, []), (.aload_n 0, 0, []), (.iload_n 1, 0, []), (.invokevirtual 418, 301, [2, 0, 46, 4]), (.iconst 1, 0, []), (.aload_n 0, 0, []), (.iload_n 1, 0, []), (.invokevirtual 412, 302, [2, 1, 46, 4]), (.iadd, 0, []), (.istore_n 2, 0, []), (.iload_n 2, 0, []), (.aload_n 0, 0, []), (.getfield 415, 12, [46, 34, 0, 0, 0]), (.if_icmp .lt 6, 43, []), (.goto 13, 53, [])]
  | 43 => [(.aload_n 0, 0, []), (.iload_n 2, 0, []), (.putfield 415, 12, [46, 34, 0, 0, 0]), (.aload_n 0, 0, []), (.iload_n 1, 0, []), (.putfield 421, 12, [46, 33, 0, 0, 0]), (.nop, 53, [])]
  | 53 => [(.iinc 1 1, 0, []), (.goto (-47), 9, [])]
  | 59 => [(.return_, 0, [])]
  | _ => []
abbrev n_m_ring : Nat := 304
def b_m_ring : Nat → List Item
  | 0 => [(.aload_n 0, 0, []), (.invokevirtual 424, 303, [1, 0, 46, 3]), (.aload_n 0, 0, []), (.getfield 415, 12, [46, 34, 0, 0, 0]), (.ldc_w 371, 1000000, []), (.if_icmp .lt 12, 23, []), (.aload_n 0, 0, []), (.bipush 6, 0, []), (.invokevirtual 94, 185, [2, 1, 46, 2]), (.goto 11, 31, [])]
  | 23 => [(.aload_n 0, 0, []), (.aload_n 0, 0, []), (.getfield 415, 12, [46, 34, 0, 0, 0]), (.invokevirtual 98, 186, [2, 1, 46, 2]), (.nop, 31, [])]
  | 31 => [(.ireturn, 0, [])]
  | _ => []
abbrev n_m_ringAt : Nat := 305
def b_m_ringAt : Nat → List Item
  | 0 => [(.iload_n 1, 0, []), (.ifCond .ge 9, 10, []), (.aload_n 0, 0, []), (.iconst 1, 0, []), (.invokevirtual 94, 185, [2, 1, 46, 2]), (.ireturn, 0, [])]
  | 10 => [(.aload_n 0, 0, []), (.invokevirtual 424, 303, [1, 0, 46, 3]), (.aload_n 0, 0, []), (.getfield 415, 12, [46, 34, 0, 0, 0]), (.ldc_w 371, 1000000, []), (.if_icmp .ge 11, 32, []), (.iload_n 1, 0, []), (.aload_n 0, 0, []), (.getfield 415, 12, [46, 34, 0, 0, 0]), (.if_icmp .lt 10, 39, []), (.nop, 32, [])]
  | 32 => [(.aload_n 0, 0, []), (.bipush 6, 0, []), (.invokevirtual 94, 185, [2, 1, 46, 2]), (.ireturn, 0, [])]
  | 39 => [(.aload_n 0, 0, []), (.aload_n 0, 0, []), (.getfield 421, 12, [46, 33, 0, 0, 0]), (.invokevirtual 418, 301, [2, 0, 46, 4]), (.aload_n 0, 0, []), (.getfield 421, 12, [46, 33, 0, 0, 0]), (.istore_n 2, 0, []), (.iconst 0, 0, []), (.istore_n 3, 0, []), (.nop, 54, [])]
  | 54 => [(.iload_n 3, 0, []), (.iload_n 1, 0, []), (.if_icmp .ge 53, 109, []), (.iconst 0, 0, []), (.istore 4, 0, []), (.nop, 62, [])]
  | 62 => [(.aload_n 0, 0, []), (.aload_n 0, 0, []), (.iload_n 2, 0, []), (.invokevirtual 285, 243, [2, 1, 46, 2]), (.iload 4, 0, []), (.invokevirtual 288, 239, [3, 1, 46, 3]), (.ifCond .eq 21, 94, []), (.aload_n 0, 0, []), (.getfield 60, 12, [46, 32, 2, 59, 0]), (.iload 4, 0, []), (.iaload, 0, []), (.aload_n 0, 0, []), (.getfield 415, 12, [46, 34, 0, 0, 0]), (.iconst 1, 0, []), (.isub, 0, []), (.iload_n 3, 0, []), (.isub, 0, []), (.if_icmp .eq 9, 100, []), (.nop, 94, [])]
  | 94 => [(.iinc 4 1, 0, []), (.goto (-35), 62, [])]
  | 100 => [(.iload 4, 0, []), (.istore_n 2, 0, []), (.iinc 3 1, 0, []), (.goto (-52), 54, [])]
  | 109 => [(.aload_n 0, 0, []), (.iload_n 2, 0, []), (.invokevirtual 98, 186, [2, 1, 46, 2]), (.ireturn, 0, [])]
  | _ => []
abbrev n_m_reach : Nat := 306
def b_m_reach : Nat → List Item
  | 0 => [(.aload_n 0, 0, []), (.iload_n 1, 0, []), (.i2l, 0, []), (.invokevirtual 294, 235, [2, 1, 46, 3]), (.ifCond .ne 9, 15, []), (.aload_n 0, 0, []), (.iconst 1, 0, []), (.invokevirtual 94, 185, [2, 1, 46, 2]), (.ireturn, 0, [])]
  | 15 => [(.aload_n 0, 0, []), (.iload_n 1, 0, []), (.invokevirtual 285, 243, [2, 1, 46, 2]), (.istore_n 2, 0, []), (.iconst 0, 0, []), (.istore_n 3, 0, []), (.nop, 23, [])]
  | 23 => [(.iload_n 3, 0, []), (.bipush 6, 0, []), (.if_icmp .ge 52, 78, []), (.iconst 0, 0, []), (.istore 4, 0, []), (.nop, 32, [])]
  | 32 => [(.iload 4, 0, []), (.aload_n 0, 0, []), (.getfield 7, 12, [46, 0, 2, 47, 0]), (.iconst 0, 0, []), (.iaload, 0, []), (.if_icmp .ge 32, 72, []), (.iload_n 2, 0, []), (.aload_n 0, 0, []), (.iload_n 2, 0, []), (.iload 4, 0, []), (.invokevirtual 288, 239, [3, 1, 46, 3]), (.ifCond .eq 12, 63, []), (.aload_n 0, 0, []), (.iload 4, 0, []), (.invokevirtual 285, 243, [2, 1, 46, 2]), (.goto 4, 64, [])]
  | 63 => [(.iconst 0, 0, []), (.nop, 64, [])]
  | 64 => [(.ior, 0, []), (.istore_n 2, 0, []), (.iinc 4 1, 0, []), (.goto (-37), 32, [])]
  | 72 => [(.iinc 3 1, 0, []), (.goto (-52), 23, [])]
  | 78 => [(.aload_n 0, 0, []), (.iload_n 2, 0, []), (.invokevirtual 98, 186, [2, 1, 46, 2]), (.ireturn, 0, [])]
  | _ => []
abbrev n_m_wins : Nat := 307
def b_m_wins : Nat → List Item
  | 0 => [(.aload_n 0, 0, []), (.iload_n 1, 0, []), (.i2l, 0, []), (.invokevirtual 294, 235, [2, 1, 46, 3]), (.ifCond .ne 9, 15, []), (.aload_n 0, 0, []), (.iconst 1, 0, []), (.invokevirtual 94, 185, [2, 1, 46, 2]), (.ireturn, 0, [])]
  | 15 => [(.aload_n 0, 0, []), (.invokevirtual 406, 297, [1, 0, 46, 6]), (.aload_n 0, 0, []), (.aload_n 0, 0, []), (.getfield 56, 12, [46, 31, 2, 58, 0]), (.bipush 6, 0, []), (.iconst 1, 0, []), (.iload_n 1, 0, []), (.ishl, 0, []), (.imul, 0, []), (.iload_n 1, 0, []), (.iadd, 0, []), (.baload, 0, []), (.ifCond .eq 7, 40, []), (.iconst 1, 0, []), (.goto 4, 41, [])]
  | 40 => [(.iconst 0, 0, []), (.nop, 41, [])]
  | 41 => [(.invokevirtual 98, 186, [2, 1, 46, 2]), (.ireturn, 0, [])]
  | _ => []
abbrev n_m_best : Nat := 308
def b_m_best : Nat → List Item
  | 0 => [(.aload_n 0, 0, []), (.iload_n 1, 0, []), (.i2l, 0, []), (.invokevirtual 294, 235, [2, 1, 46, 3]), (.ifCond .ne 9, 15, []), (.aload_n 0, 0, []), (.iconst 1, 0, []), (.invokevirtual 94, 185, [2, 1, 46, 2]), (.ireturn, 0, [])]
  | 15 => [(.aload_n 0, 0, []), (.invokevirtual 406, 297, [1, 0, 46, 6]), (.iconst 0, 0, []), (.istore_n 2, 0, []), (.nop, 21, [])]
  | 21 => [(.iload_n 2, 0, []), (.aload_n 0, 0, []), (.getfield 7, 12, [46, 0, 2, 47, 0]), (.iconst 0, 0, []), (.iaload, 0, []), (.if_icmp .ge 56, 84, []), (.aload_n 0, 0, []), (.aload_n 0, 0, []), (.iload_n 1, 0, []), (.invokevirtual 285, 243, [2, 1, 46, 2]), (.iload_n 2, 0, []), (.invokevirtual 288, 239, [3, 1, 46, 3]), (.ifCond .eq 37, 78, []), (.iload_n 2, 0, []), (.iload_n 1, 0, []), (.if_icmp .ne 6, 52, []), (.goto 29, 78, [])]
  | 52 => [(.aload_n 0, 0, []), (.getfield 56, 12, [46, 31, 2, 58, 0]), (.bipush 6, 0, []), (.iconst 1, 0, []), (.iload_n 1, 0, []), (.ishl, 0, []), (.iconst 1, 0, []), (.iload_n 2, 0, []), (.ishl, 0, []), (.ior, 0, []), (.imul, 0, []), (.iload_n 2, 0, []), (.iadd, 0, []), (.baload, 0, []), (.ifCond .ne 9, 78, []), (.aload_n 0, 0, []), (.iload_n 2, 0, []), (.invokevirtual 98, 186, [2, 1, 46, 2]), (.ireturn, 0, [])]
  | 78 => [(.iinc 2 1, 0, []), (.goto (-60), 21, [])]
  | 84 => [(.aload_n 0, 0, []), (.bipush 6, 0, []), (.invokevirtual 94, 185, [2, 1, 46, 2]), (.ireturn, 0, [])]
  | _ => []
abbrev n_m_wrongHeard : Nat := 309
def b_m_wrongHeard : Nat → List Item
  | 0 => [(.iload_n 1, 0, []), (.invokestatic 105, 189, [1, 1, 0, 1]), (.ifCond .eq 15, 19, []), (.iload_n 2, 0, []), (.i2l, 0, []), (.lconst 0, 0, []), (.ldc2_w 427, 4, []), (.invokestatic 278, 196, [3, 1, 0, 6]), (.ifCond .ne 5, 21, []), (.nop, 19, [])]
  | 19 => [(.iconst 1, 0, []), (.ireturn, 0, [])]
  | 21 => [(.aload_n 0, 0, []), (.getfield 24, 12, [46, 6, 2, 50, 0]), (.iload_n 1, 0, []), (.iaload, 0, []), (.iconst (-1), 0, []), (.if_icmp .ne 5, 33, []), (.iconst 2, 0, []), (.ireturn, 0, [])]
  | 33 => [(.aload_n 0, 0, []), (.getfield 24, 12, [46, 6, 2, 50, 0]), (.iload_n 1, 0, []), (.iaload, 0, []), (.iload_n 2, 0, []), (.if_icmp .ge 5, 45, []), (.iconst 3, 0, []), (.ireturn, 0, [])]
  | 45 => [(.iconst 0, 0, []), (.istore_n 3, 0, []), (.nop, 47, [])]
  | 47 => [(.iload_n 3, 0, []), (.iload_n 2, 0, []), (.if_icmp .ge 29, 78, []), (.aload_n 0, 0, []), (.aload_n 0, 0, []), (.getfield 27, 12, [46, 7, 2, 51, 0]), (.bipush 60, 0, []), (.iload_n 1, 0, []), (.imul, 0, []), (.iload_n 3, 0, []), (.iadd, 0, []), (.laload, 0, []), (.invokevirtual 294, 235, [2, 1, 46, 3]), (.ifCond .ne 5, 72, []), (.iconst 5, 0, []), (.ireturn, 0, [])]
  | 72 => [(.iinc 3 1, 0, []), (.goto (-28), 47, [])]
  | 78 => [(.iconst 0, 0, []), (.ireturn, 0, [])]
  | _ => []
abbrev n_m_counts : Nat := 310
def b_m_counts : Nat → List Item
  | 0 => [(.iconst 0, 0, []), (.istore_n 2, 0, []), (.nop, 2, [])]
  | 2 => [(.iload_n 2, 0, []), (.iload_n 1, 0, []), (.if_icmp .ge 49, 53, []), (.aload_n 0, 0, []), (.getfield 66, 12, [46, 36, 2, 61, 0]), (.iload_n 2, 0, []), (.aload_n 0, 0, []), (.getfield 429, 12, [46, 37, 0, 0, 0]), (.ifCond .eq 18, 34, []), (.aload_n 0, 0, []), (.getfield 66, 12, [46, 36, 2, 61, 0]), (.iload_n 2, 0, []), (.iaload, 0, []), (.aload_n 0, 0, []), (.getfield 63, 12, [46, 35, 2, 60, 0]), (.iload_n 2, 0, []), (.iaload, 0, []), (.if_icmp .ne 12, 43, []), (.nop, 34, [])]
  | 34 => [(.aload_n 0, 0, []), (.getfield 63, 12, [46, 35, 2, 60, 0]), (.iload_n 2, 0, []), (.iaload, 0, []), (.goto 6, 46, [])]
  | 43 => [(.ldc_w 371, 1000000, []), (.nop, 46, [])]
  | 46 => [(.iastore, 0, []), (.iinc 2 1, 0, []), (.goto (-48), 2, [])]
  | 53 => [(.aload_n 0, 0, []), (.dup, 0, []), (.getfield 429, 12, [46, 37, 0, 0, 0]), (.iconst 1, 0, []), (.iadd, 0, []), (.putfield 429, 12, [46, 37, 0, 0, 0]), (.return_, 0, [])]
  | _ => []
abbrev n_m_laysHeard : Nat := 311
def b_m_laysHeard : Nat → List Item
  | 0 => [(.aload_n 0, 0, []), (.iload_n 2, 0, []), (.ifCond .ne 7, 9, []), (.iconst 1, 0, []), (.goto 4, 10, [])]
  | 9 => [(.iconst 0, 0, []), (.nop, 10, [])]
  | 10 => [(.putfield 429, 12, [46, 37, 0, 0, 0]), (.iload_n 2, 0, []), (.ifCond .ne 4, 18, []), (.return_, 0, [])]
  | 18 => [(.iconst 0, 0, []), (.istore_n 3, 0, []), (.aload_n 0, 0, []), (.getfield 63, 12, [46, 35, 2, 60, 0]), (.iconst 0, 0, []), (.iconst (-1), 0, []), (.iastore, 0, []), (.aload_n 0, 0, []), (.iconst 0, 0, []), (.invokestatic 395, 292, [1, 1, 0, 1]), (.invokevirtual 362, 276, [2, 0, 46, 3]), (.nop, 35, [])]
  | 35 => [(.iload_n 3, 0, []), (.ifCond .lt 122, 158, []), (.aload_n 0, 0, []), (.iload_n 3, 0, []), (.invokestatic 395, 292, [1, 1, 0, 1]), (.invokevirtual 365, 277, [2, 0, 46, 3]), (.aload_n 0, 0, []), (.getfield 63, 12, [46, 35, 2, 60, 0]), (.iload_n 3, 0, []), (.dup2, 0, []), (.iaload, 0, []), (.iconst 1, 0, []), (.iadd, 0, []), (.iastore, 0, []), (.aload_n 0, 0, []), (.getfield 63, 12, [46, 35, 2, 60, 0]), (.iload_n 3, 0, []), (.iaload, 0, []), (.aload_n 0, 0, []), (.getfield 7, 12, [46, 0, 2, 47, 0]), (.iconst 1, 0, []), (.iaload, 0, []), (.if_icmp .ne 9, 78, []), (.iinc 3 (-1), 0, []), (.goto (-40), 35, [])]
  | 78 => [(.aload_n 0, 0, []), (.getfield 27, 12, [46, 7, 2, 51, 0]), (.bipush 60, 0, []), (.iload_n 1, 0, []), (.imul, 0, []), (.iload_n 3, 0, []), (.iadd, 0, []), (.laload, 0, []), (.l2i, 0, []), (.istore 4, 0, []), (.aload_n 0, 0, []), (.aload_n 0, 0, []), (.getfield 63, 12, [46, 35, 2, 60, 0]), (.iload_n 3, 0, []), (.iaload, 0, []), (.iload 4, 0, []), (.invokevirtual 316, 253, [3, 1, 46, 3]), (.ifCond .ne 6, 110, []), (.goto (-72), 35, [])]
  | 110 => [(.aload_n 0, 0, []), (.aload_n 0, 0, []), (.getfield 63, 12, [46, 35, 2, 60, 0]), (.iload_n 3, 0, []), (.iaload, 0, []), (.iload 4, 0, []), (.invokevirtual 335, 261, [3, 0, 46, 5]), (.iload_n 3, 0, []), (.iconst 1, 0, []), (.iadd, 0, []), (.iload_n 2, 0, []), (.if_icmp .ge 24, 150, []), (.iinc 3 1, 0, []), (.aload_n 0, 0, []), (.getfield 63, 12, [46, 35, 2, 60, 0]), (.iload_n 3, 0, []), (.iconst (-1), 0, []), (.iastore, 0, []), (.aload_n 0, 0, []), (.iload_n 3, 0, []), (.invokestatic 395, 292, [1, 1, 0, 1]), (.invokevirtual 362, 276, [2, 0, 46, 3]), (.goto 8, 155, [])]
  | 150 => [(.aload_n 0, 0, []), (.iload_n 2, 0, []), (.invokevirtual 432, 310, [2, 0, 46, 3]), (.nop, 155, [])]
  | 155 => [(.goto (-120), 35, [])]
  | 158 => [(.aload_n 0, 0, []), (.iconst 0, 0, []), (.invokestatic 395, 292, [1, 1, 0, 1]), (.invokevirtual 365, 277, [2, 0, 46, 3]), (.return_, 0, [])]
  | _ => []
abbrev n_m_heard : Nat := 312
def b_m_heard : Nat → List Item
  | 0 => [(.aload_n 0, 0, []), (.iload_n 1, 0, []), (.iload_n 2, 0, []), (.invokevirtual 435, 309, [3, 1, 46, 4]), (.istore_n 3, 0, []), (.iload_n 3, 0, []), (.ifCond .le 9, 17, []), (.aload_n 0, 0, []), (.iload_n 3, 0, []), (.invokevirtual 94, 185, [2, 1, 46, 2]), (.ireturn, 0, [])]
  | 17 => [(.aload_n 0, 0, []), (.iload_n 1, 0, []), (.iload_n 2, 0, []), (.invokevirtual 438, 311, [3, 0, 46, 5]), (.aload_n 0, 0, []), (.aload_n 0, 0, []), (.getfield 429, 12, [46, 37, 0, 0, 0]), (.invokevirtual 98, 186, [2, 1, 46, 2]), (.ireturn, 0, [])]
  | _ => []
abbrev n_m_sure : Nat := 313
def b_m_sure : Nat → List Item
  | 0 => [(.iload_n 3, 0, []), (.ifCond .lt 8, 9, []), (.iload_n 3, 0, []), (.iload_n 2, 0, []), (.if_icmp .lt 7, 13, []), (.nop, 9, [])]
  | 9 => [(.iconst 1, 0, []), (.goto 9, 19, [])]
  | 13 => [(.aload_n 0, 0, []), (.iload_n 1, 0, []), (.iload_n 2, 0, []), (.invokevirtual 435, 309, [3, 1, 46, 4]), (.nop, 19, [])]
  | 19 => [(.istore 4, 0, []), (.iload 4, 0, []), (.ifCond .le 10, 33, []), (.aload_n 0, 0, []), (.iload 4, 0, []), (.invokevirtual 94, 185, [2, 1, 46, 2]), (.ireturn, 0, [])]
  | 33 => [(.aload_n 0, 0, []), (.iload_n 1, 0, []), (.iload_n 2, 0, []), (.invokevirtual 438, 311, [3, 0, 46, 5]), (.aload_n 0, 0, []), (.getfield 429, 12, [46, 37, 0, 0, 0]), (.ifCond .eq 15, 58, []), (.aload_n 0, 0, []), (.getfield 66, 12, [46, 36, 2, 61, 0]), (.iload_n 3, 0, []), (.iaload, 0, []), (.ldc_w 371, 1000000, []), (.if_icmp .ne 12, 67, []), (.nop, 58, [])]
  | 58 => [(.aload_n 0, 0, []), (.bipush 6, 0, []), (.invokevirtual 94, 185, [2, 1, 46, 2]), (.goto 13, 77, [])]
  | 67 => [(.aload_n 0, 0, []), (.aload_n 0, 0, []), (.getfield 66, 12, [46, 36, 2, 61, 0]), (.iload_n 3, 0, []), (.iaload, 0, []), (.invokevirtual 98, 186, [2, 1, 46, 2]), (.nop, 77, [])]
  | 77 => [(.ireturn, 0, [])]
  | _ => []
abbrev n_m_couplesOf : Nat := 314
def b_m_couplesOf : Nat → List Item
  | 0 => [(.iconst 0, 0, []), (.istore_n 2, 0, []), (.nop, 2, [])]
  | 2 => [(.iload_n 2, 0, []), (.iload_n 1, 0, []), (.if_icmp .gt 122, 126, []), (.aload_n 0, 0, []), (.getfield 69, 12, [46, 38, 2, 62, 0]), (.iload_n 2, 0, []), (.iconst 0, 0, []), (.iastore, 0, []), (.iconst 0, 0, []), (.istore_n 3, 0, []), (.nop, 16, [])]
  | 16 => [(.iload_n 3, 0, []), (.bipush 7, 0, []), (.if_icmp .ge 101, 120, []), (.iload_n 3, 0, []), (.iconst 1, 0, []), (.iadd, 0, []), (.istore 4, 0, []), (.nop, 27, [])]
  | 27 => [(.iload 4, 0, []), (.bipush 7, 0, []), (.if_icmp .ge 83, 114, []), (.aload_n 0, 0, []), (.iload_n 2, 0, []), (.iload_n 3, 0, []), (.invokevirtual 288, 239, [3, 1, 46, 3]), (.ifCond .eq 68, 108, []), (.aload_n 0, 0, []), (.iload_n 2, 0, []), (.iload 4, 0, []), (.invokevirtual 288, 239, [3, 1, 46, 3]), (.ifCond .eq 58, 108, []), (.aload_n 0, 0, []), (.aload_n 0, 0, []), (.iload_n 3, 0, []), (.bipush 6, 0, []), (.invokevirtual 282, 241, [3, 1, 46, 3]), (.iload 4, 0, []), (.invokevirtual 288, 239, [3, 1, 46, 3]), (.ifCond .ne 6, 72, []), (.goto 39, 108, [])]
  | 72 => [(.aload_n 0, 0, []), (.getfield 69, 12, [46, 38, 2, 62, 0]), (.iload_n 2, 0, []), (.aload_n 0, 0, []), (.getfield 69, 12, [46, 38, 2, 62, 0]), (.iload_n 2, 0, []), (.iaload, 0, []), (.iconst 1, 0, []), (.aload_n 0, 0, []), (.getfield 69, 12, [46, 38, 2, 62, 0]), (.iload_n 2, 0, []), (.iconst 1, 0, []), (.iload_n 3, 0, []), (.ishl, 0, []), (.iconst (-1), 0, []), (.ixor, 0, []), (.iand, 0, []), (.iconst 1, 0, []), (.iload 4, 0, []), (.ishl, 0, []), (.iconst (-1), 0, []), (.ixor, 0, []), (.iand, 0, []), (.iaload, 0, []), (.iadd, 0, []), (.invokestatic 372, 334, [2, 1, 0, 2]), (.iastore, 0, []), (.nop, 108, [])]
  | 108 => [(.iinc 4 1, 0, []), (.goto (-84), 27, [])]
  | 114 => [(.iinc 3 1, 0, []), (.goto (-101), 16, [])]
  | 120 => [(.iinc 2 1, 0, []), (.goto (-121), 2, [])]
  | 126 => [(.aload_n 0, 0, []), (.getfield 69, 12, [46, 38, 2, 62, 0]), (.iload_n 1, 0, []), (.iaload, 0, []), (.ireturn, 0, [])]
  | _ => []
abbrev n_m_couples : Nat := 315
def b_m_couples : Nat → List Item
  | 0 => [(.aload_n 0, 0, []), (.iload_n 1, 0, []), (.invokevirtual 377, 238, [2, 1, 46, 2]), (.ifCond .eq 15, 20, []), (.aload_n 0, 0, []), (.aload_n 0, 0, []), (.iload_n 1, 0, []), (.invokevirtual 441, 314, [2, 1, 46, 5]), (.invokevirtual 98, 186, [2, 1, 46, 2]), (.goto 8, 25, [])]
  | 20 => [(.aload_n 0, 0, []), (.iconst 1, 0, []), (.invokevirtual 94, 185, [2, 1, 46, 2]), (.nop, 25, [])]
  | 25 => [(.ireturn, 0, [])]
  | _ => []
abbrev n_m_allRead : Nat := 316
def b_m_allRead : Nat → List Item
  | 0 => [(.aload_n 0, 0, []), (.iload_n 1, 0, []), (.invokevirtual 377, 238, [2, 1, 46, 2]), (.ifCond .eq 29, 34, []), (.aload_n 0, 0, []), (.iconst 2, 0, []), (.aload_n 0, 0, []), (.iload_n 1, 0, []), (.invokevirtual 441, 314, [2, 1, 46, 5]), (.imul, 0, []), (.iload_n 1, 0, []), (.invokestatic 386, 240, [1, 1, 0, 3]), (.if_icmp .ne 7, 27, []), (.iconst 1, 0, []), (.goto 4, 28, [])]
  | 27 => [(.iconst 0, 0, []), (.nop, 28, [])]
  | 28 => [(.invokevirtual 98, 186, [2, 1, 46, 2]), (.goto 8, 39, [])]
  | 34 => [(.aload_n 0, 0, []), (.iconst 1, 0, []), (.invokevirtual 94, 185, [2, 1, 46, 2]), (.nop, 39, [])]
  | 39 => [(.ireturn, 0, [])]
  | _ => []
abbrev n_m_coughs : Nat := 317
def b_m_coughs : Nat → List Item
  | 0 => [(.iload_n 1, 0, []), (.i2l, 0, []), (.lconst 0, 0, []), (.ldc2_w 444, 7, []), (.invokestatic 278, 196, [3, 1, 0, 6]), (.ifCond .ne 9, 18, []), (.aload_n 0, 0, []), (.iconst 1, 0, []), (.invokevirtual 101, 184, [2, 1, 46, 2]), (.ireturn, 1, [])]
  | 18 => [(.aload_n 0, 0, []), (.invokevirtual 291, 244, [1, 1, 46, 3]), (.iconst 1, 0, []), (.aload_n 0, 0, []), (.getfield 7, 12, [46, 0, 2, 47, 0]), (.bipush 8, 0, []), (.iaload, 0, []), (.ishl, 0, []), (.iconst (-1), 0, []), (.ixor, 0, []), (.iand, 0, []), (.invokestatic 386, 240, [1, 1, 0, 3]), (.istore_n 2, 0, []), (.lconst 1, 0, []), (.lstore_n 3, 0, []), (.iconst 0, 0, []), (.istore 5, 0, []), (.nop, 43, [])]
  | 43 => [(.iload 5, 0, []), (.bipush 8, 0, []), (.if_icmp .ge 26, 73, []), (.aload_n 0, 0, []), (.getfield 72, 12, [46, 39, 2, 63, 0]), (.iload 5, 0, []), (.iload 5, 0, []), (.ifCond .ne 7, 65, []), (.lconst 1, 0, []), (.goto 4, 66, [])]
  | 65 => [(.lconst 0, 0, []), (.nop, 66, [])]
  | 66 => [(.lastore, 0, []), (.iinc 5 1, 0, []), (.goto (-27), 43, [])]
  | 73 => [(.iconst 0, 0, []), (.istore 5, 0, []), (.nop, 76, [])]
  | 76 => [(.iload 5, 0, []), (.iload_n 2, 0, []), (.if_icmp .ge 82, 161, []), (.bipush 7, 0, []), (.istore 6, 0, []), (.nop, 86, [])]
  | 86 => [(.iload 6, 0, []), (.ifCond .lt 61, 149, []), (.aload_n 0, 0, []), (.getfield 72, 12, [46, 39, 2, 63, 0]), (.iload 6, 0, []), (.aload_n 0, 0, []), (.getfield 72, 12, [46, 39, 2, 63, 0]), (.iload 6, 0, []), (.laload, 0, []), (.bipush 16, 0, []), (.aload_n 0, 0, []), (.getfield 7, 12, [46, 0, 2, 47, 0]), (.iconst 4, 0, []), (.iaload, 0, []), (.isub, 0, []), (.i2l, 0, []), (.lmul, 0, []), (.iload 6, 0, []), (.ifCond .ne 7, 124, []), (.lconst 0, 0, []), (.goto 20, 141, [])]
  | 124 => [(.aload_n 0, 0, []), (.getfield 72, 12, [46, 39, 2, 63, 0]), (.iload 6, 0, []), (.iconst 1, 0, []), (.isub, 0, []), (.laload, 0, []), (.aload_n 0, 0, []), (.getfield 7, 12, [46, 0, 2, 47, 0]), (.iconst 4, 0, []), (.iaload, 0, []), (.i2l, 0, []), (.lmul, 0, []), (.nop, 141, [])]
  | 141 => [(.ladd, 0, []), (.lastore, 0, []), (.iinc 6 (-1), 0, []), (.goto (-60), 86, [])]
  | 149 => [(.lload_n 3, 0, []), (.ldc2_w 355, 16, []), (.lmul, 0, []), (.lstore_n 3, 0, []), (.iinc 5 1, 0, []), (.goto (-82), 76, [])]
  | 161 => [(.lconst 0, 0, []), (.lstore 5, 0, []), (.iload_n 1, 0, []), (.istore 7, 0, []), (.nop, 167, [])]
  | 167 => [(.iload 7, 0, []), (.bipush 8, 0, []), (.if_icmp .ge 21, 192, []), (.lload 5, 0, []), (.aload_n 0, 0, []), (.getfield 72, 12, [46, 39, 2, 63, 0]), (.iload 7, 0, []), (.laload, 0, []), (.ladd, 0, []), (.lstore 5, 0, []), (.iinc 7 1, 0, []), (.goto (-22), 167, [])]
  | 192 => [(.aload_n 0, 0, []), (.lload 5, 0, []), (.lload_n 3, 0, []), (.invokevirtual 446, 188, [3, 1, 46, 11]), (.ireturn, 1, [])]
  | _ => []
abbrev n_m_copyBreath : Nat := 318
def b_m_copyBreath : Nat → List Item
  | 0 => [(.iload_n 1, 0, []), (.invokestatic 105, 189, [1, 1, 0, 1]), (.ifCond .ne 9, 13, []), (.aload_n 0, 0, []), (.iconst 1, 0, []), (.invokevirtual 94, 185, [2, 1, 46, 2]), (.ireturn, 0, [])]
  | 13 => [(.aload_n 0, 0, []), (.getfield 24, 12, [46, 6, 2, 50, 0]), (.iload_n 1, 0, []), (.iaload, 0, []), (.iconst (-1), 0, []), (.if_icmp .ne 9, 29, []), (.aload_n 0, 0, []), (.iconst 2, 0, []), (.invokevirtual 94, 185, [2, 1, 46, 2]), (.ireturn, 0, [])]
  | 29 => [(.aload_n 0, 0, []), (.getfield 24, 12, [46, 6, 2, 50, 0]), (.iload_n 1, 0, []), (.iaload, 0, []), (.aload_n 0, 0, []), (.getfield 7, 12, [46, 0, 2, 47, 0]), (.iconst 1, 0, []), (.iaload, 0, []), (.if_icmp .ge 9, 50, []), (.aload_n 0, 0, []), (.iconst 3, 0, []), (.invokevirtual 94, 185, [2, 1, 46, 2]), (.ireturn, 0, [])]
  | 50 => [(.iconst 0, 0, []), (.istore_n 2, 0, []), (.nop, 52, [])]
  | 52 => [(.iload_n 2, 0, []), (.aload_n 0, 0, []), (.getfield 7, 12, [46, 0, 2, 47, 0]), (.iconst 1, 0, []), (.iaload, 0, []), (.if_icmp .ge 36, 95, []), (.aload_n 0, 0, []), (.getfield 27, 12, [46, 7, 2, 51, 0]), (.bipush 60, 0, []), (.iload_n 1, 0, []), (.imul, 0, []), (.iload_n 2, 0, []), (.iadd, 0, []), (.aload_n 0, 0, []), (.iload_n 2, 0, []), (.iconst 0, 0, []), (.invokevirtual 282, 241, [3, 1, 46, 3]), (.i2l, 0, []), (.aload_n 0, 0, []), (.getfield 21, 12, [46, 5, 2, 49, 0]), (.iload_n 1, 0, []), (.iaload, 0, []), (.invokestatic 112, 190, [2, 1, 0, 3]), (.lastore, 0, []), (.iinc 2 1, 0, []), (.goto (-40), 52, [])]
  | 95 => [(.aload_n 0, 0, []), (.aload_n 0, 0, []), (.getfield 7, 12, [46, 0, 2, 47, 0]), (.iconst 1, 0, []), (.iaload, 0, []), (.invokevirtual 98, 186, [2, 1, 46, 2]), (.ireturn, 0, [])]
  | _ => []
abbrev n_m_draw : Nat := 319
def b_m_draw : Nat → List Item
  | 0 => [(.aload_n 0, 0, []), (.aload_n 0, 0, []), (.getfield 450, 12, [46, 40, 0, 0, 0]), (.sipush 3119, 0, []), (.imul, 0, []), (.sipush 11329, 0, []), (.iadd, 0, []), (.ldc_w 453, 65536, []), (.irem, 0, []), (.putfield 450, 12, [46, 40, 0, 0, 0]), (.aload_n 0, 0, []), (.getfield 450, 12, [46, 40, 0, 0, 0]), (.bipush 8, 0, []), (.idiv, 0, []), (.iload_n 1, 0, []), (.irem, 0, []), (.ireturn, 0, [])]
  | _ => []
abbrev n_m_minutesBy : Nat := 320
def b_m_minutesBy : Nat → List Item
  | 0 => [(.aload_n 0, 0, []), (.getfield 7, 12, [46, 0, 2, 47, 0]), (.iconst 5, 0, []), (.iaload, 0, []), (.iload_n 1, 0, []), (.iadd, 0, []), (.sipush 9999, 0, []), (.if_icmp .le 5, 16, []), (.iconst 0, 0, []), (.ireturn, 1, [])]
  | 16 => [(.aload_n 0, 0, []), (.getfield 7, 12, [46, 0, 2, 47, 0]), (.bipush 7, 0, []), (.iaload, 0, []), (.istore_n 2, 0, []), (.aload_n 0, 0, []), (.getfield 78, 12, [46, 43, 2, 65, 0]), (.iconst 2, 0, []), (.dup2, 0, []), (.iaload, 0, []), (.aload_n 0, 0, []), (.iload_n 1, 0, []), (.invokevirtual 344, 263, [2, 1, 46, 4]), (.iadd, 0, []), (.iastore, 0, []), (.aload_n 0, 0, []), (.getfield 78, 12, [46, 43, 2, 65, 0]), (.iconst 1, 0, []), (.dup2, 0, []), (.iaload, 0, []), (.iload_n 1, 0, []), (.iadd, 0, []), (.iastore, 0, []), (.aload_n 0, 0, []), (.getfield 78, 12, [46, 43, 2, 65, 0]), (.iconst 3, 0, []), (.dup2, 0, []), (.iaload, 0, []), (.aload_n 0, 0, []), (.getfield 7, 12, [46, 0, 2, 47, 0]), (.bipush 7, 0, []), (.iaload, 0, []), (.iload_n 2, 0, []), (.isub, 0, []), (.iadd, 0, []), (.iastore, 0, []), (.iconst 1, 0, []), (.ireturn, 1, [])]
  | _ => []
abbrev n_m_coughsAny : Nat := 321
def b_m_coughsAny : Nat → List Item
  | 0 => [(.aload_n 0, 0, []), (.getfield 7, 12, [46, 0, 2, 47, 0]), (.iconst 1, 0, []), (.iaload, 0, []), (.ifCond .ne 5, 11, []), (.iconst 0, 0, []), (.ireturn, 1, [])]
  | 11 => [(.aload_n 0, 0, []), (.aload_n 0, 0, []), (.getfield 7, 12, [46, 0, 2, 47, 0]), (.iconst 1, 0, []), (.iaload, 0, []), (.invokevirtual 454, 319, [2, 1, 46, 2]), (.invokestatic 213, 233, [1, 1, 0, 1]), (.istore_n 1, 0, []), (.aload_n 0, 0, []), (.getfield 7, 12, [46, 0, 2, 47, 0]), (.iload_n 1, 0, []), (.iconst 0, 0, []), (.aload_n 0, 0, []), (.getfield 7, 12, [46, 0, 2, 47, 0]), (.iload_n 1, 0, []), (.iaload, 0, []), (.aload_n 0, 0, []), (.bipush 8, 0, []), (.invokevirtual 454, 319, [2, 1, 46, 2]), (.isub, 0, []), (.invokestatic 372, 334, [2, 1, 0, 2]), (.iastore, 0, []), (.iconst 1, 0, []), (.ireturn, 1, [])]
  | _ => []
abbrev n_m_does : Nat := 322
def b_m_does : Nat → List Item
  | 0 => [(.aload_n 0, 0, []), (.getfield 7, 12, [46, 0, 2, 47, 0]), (.iload_n 1, 0, []), (.iconst 1, 0, []), (.iadd, 0, []), (.iaload, 0, []), (.istore_n 2, 0, []), (.aload_n 0, 0, []), (.getfield 7, 12, [46, 0, 2, 47, 0]), (.iload_n 1, 0, []), (.iaload, 0, []), (.tableswitch 64 11 15 #[33, 39, 45, 52, 59], 79, [48, 54, 60, 67, 74])]
  | 48 => [(.aload_n 0, 0, []), (.iload_n 2, 0, []), (.invokevirtual 457, 320, [2, 1, 46, 3]), (.ireturn, 1, [])]
  | 54 => [(.aload_n 0, 0, []), (.iload_n 2, 0, []), (.invokevirtual 347, 265, [2, 1, 46, 3]), (.ireturn, 1, [])]
  | 60 => [(.aload_n 0, 0, []), (.iload_n 2, 0, []), (.iconst 1, 0, []), (.invokevirtual 350, 267, [3, 1, 46, 4]), (.ireturn, 1, [])]
  | 67 => [(.aload_n 0, 0, []), (.iload_n 2, 0, []), (.iconst 0, 0, []), (.invokevirtual 350, 267, [3, 1, 46, 4]), (.ireturn, 1, [])]
  | 74 => [(.aload_n 0, 0, []), (.invokevirtual 460, 321, [1, 1, 46, 2]), (.ireturn, 1, [])]
  | 79 => [(.iconst 1, 0, []), (.ireturn, 1, [])]
  | _ => []
abbrev n_m_holds : Nat := 323
def b_m_holds : Nat → List Item
  | 0 => [(.aload_n 0, 0, []), (.getfield 7, 12, [46, 0, 2, 47, 0]), (.iload_n 1, 0, []), (.iaload, 0, []), (.sipush 1600, 0, []), (.isub, 0, []), (.istore_n 2, 0, []), (.iload_n 2, 0, []), (.bipush 20, 0, []), (.if_icmp .ne 27, 41, []), (.aload_n 0, 0, []), (.getfield 7, 12, [46, 0, 2, 47, 0]), (.bipush 8, 0, []), (.iaload, 0, []), (.aload_n 0, 0, []), (.getfield 7, 12, [46, 0, 2, 47, 0]), (.iload_n 1, 0, []), (.iconst 1, 0, []), (.iadd, 0, []), (.iaload, 0, []), (.if_icmp .ne 7, 39, []), (.iconst 1, 0, []), (.goto 4, 40, [])]
  | 39 => [(.iconst 0, 0, []), (.nop, 40, [])]
  | 40 => [(.ireturn, 1, [])]
  | 41 => [(.iload_n 2, 0, []), (.bipush 21, 0, []), (.if_icmp .ne 27, 71, []), (.aload_n 0, 0, []), (.getfield 7, 12, [46, 0, 2, 47, 0]), (.bipush 9, 0, []), (.iaload, 0, []), (.aload_n 0, 0, []), (.getfield 7, 12, [46, 0, 2, 47, 0]), (.iload_n 1, 0, []), (.iconst 1, 0, []), (.iadd, 0, []), (.iaload, 0, []), (.if_icmp .ne 7, 69, []), (.iconst 1, 0, []), (.goto 4, 70, [])]
  | 69 => [(.iconst 0, 0, []), (.nop, 70, [])]
  | 70 => [(.ireturn, 1, [])]
  | 71 => [(.iload_n 2, 0, []), (.bipush 8, 0, []), (.if_icmp .ne 19, 93, []), (.aload_n 0, 0, []), (.aload_n 0, 0, []), (.getfield 7, 12, [46, 0, 2, 47, 0]), (.iload_n 1, 0, []), (.iconst 1, 0, []), (.iadd, 0, []), (.iaload, 0, []), (.iconst 0, 0, []), (.invokevirtual 282, 241, [3, 1, 46, 3]), (.goto 10, 100, [])]
  | 93 => [(.aload_n 0, 0, []), (.getfield 7, 12, [46, 0, 2, 47, 0]), (.bipush 6, 0, []), (.iaload, 0, []), (.nop, 100, [])]
  | 100 => [(.istore_n 3, 0, []), (.aload_n 0, 0, []), (.getfield 7, 12, [46, 0, 2, 47, 0]), (.iload_n 1, 0, []), (.iconst 5, 0, []), (.iadd, 0, []), (.iaload, 0, []), (.bipush 60, 0, []), (.if_icmp .ne 23, 134, []), (.iload_n 3, 0, []), (.aload_n 0, 0, []), (.getfield 7, 12, [46, 0, 2, 47, 0]), (.iload_n 1, 0, []), (.iconst 2, 0, []), (.iadd, 0, []), (.iaload, 0, []), (.if_icmp .ge 7, 130, []), (.iconst 1, 0, []), (.goto 57, 184, [])]
  | 130 => [(.iconst 0, 0, []), (.goto 53, 184, [])]
  | 134 => [(.aload_n 0, 0, []), (.getfield 7, 12, [46, 0, 2, 47, 0]), (.iload_n 1, 0, []), (.iconst 5, 0, []), (.iadd, 0, []), (.iaload, 0, []), (.bipush 62, 0, []), (.if_icmp .ne 23, 167, []), (.iload_n 3, 0, []), (.aload_n 0, 0, []), (.getfield 7, 12, [46, 0, 2, 47, 0]), (.iload_n 1, 0, []), (.iconst 2, 0, []), (.iadd, 0, []), (.iaload, 0, []), (.if_icmp .le 7, 163, []), (.iconst 1, 0, []), (.goto 24, 184, [])]
  | 163 => [(.iconst 0, 0, []), (.goto 20, 184, [])]
  | 167 => [(.iload_n 3, 0, []), (.aload_n 0, 0, []), (.getfield 7, 12, [46, 0, 2, 47, 0]), (.iload_n 1, 0, []), (.iconst 2, 0, []), (.iadd, 0, []), (.iaload, 0, []), (.if_icmp .ne 7, 183, []), (.iconst 1, 0, []), (.goto 4, 184, [])]
  | 183 => [(.iconst 0, 0, []), (.nop, 184, [])]
  | 184 => [(.ireturn, 1, [])]
  | _ => []
abbrev n_m_behindEnds : Nat := 324
def b_m_behindEnds : Nat → List Item
  | 0 => [(.iload_n 1, 0, []), (.istore_n 2, 0, []), (.nop, 2, [])]
  | 2 => [(.iload_n 2, 0, []), (.aload_n 0, 0, []), (.getfield 7, 12, [46, 0, 2, 47, 0]), (.bipush 10, 0, []), (.iaload, 0, []), (.if_icmp .ge 105, 115, []), (.aload_n 0, 0, []), (.getfield 7, 12, [46, 0, 2, 47, 0]), (.bipush 97, 0, []), (.bipush 6, 0, []), (.iload_n 2, 0, []), (.imul, 0, []), (.iadd, 0, []), (.iaload, 0, []), (.bipush 18, 0, []), (.if_icmp .ne 88, 115, []), (.aload_n 0, 0, []), (.getfield 7, 12, [46, 0, 2, 47, 0]), (.bipush 97, 0, []), (.bipush 6, 0, []), (.iload_n 2, 0, []), (.imul, 0, []), (.iadd, 0, []), (.iconst 4, 0, []), (.iadd, 0, []), (.iaload, 0, []), (.istore_n 3, 0, []), (.aload_n 0, 0, []), (.getfield 7, 12, [46, 0, 2, 47, 0]), (.bipush 97, 0, []), (.bipush 6, 0, []), (.iload_n 3, 0, []), (.imul, 0, []), (.iadd, 0, []), (.iaload, 0, []), (.bipush 17, 0, []), (.if_icmp .ne 16, 75, []), (.aload_n 0, 0, []), (.getfield 75, 12, [46, 42, 2, 64, 0]), (.iload_n 3, 0, []), (.iaload, 0, []), (.ifCond .le 7, 75, []), (.iconst 1, 0, []), (.goto 4, 76, [])]
  | 75 => [(.iconst 0, 0, []), (.nop, 76, [])]
  | 76 => [(.istore 4, 0, []), (.aload_n 0, 0, []), (.getfield 75, 12, [46, 42, 2, 64, 0]), (.iload_n 3, 0, []), (.dup2, 0, []), (.iaload, 0, []), (.iload 4, 0, []), (.ifCond .eq 7, 94, []), (.iconst 1, 0, []), (.goto 4, 95, [])]
  | 94 => [(.iconst 0, 0, []), (.nop, 95, [])]
  | 95 => [(.isub, 0, []), (.iastore, 0, []), (.iload 4, 0, []), (.ifCond .eq 9, 108, []), (.iload_n 3, 0, []), (.iconst 1, 0, []), (.iadd, 0, []), (.goto 6, 111, [])]
  | 108 => [(.iload_n 2, 0, []), (.iconst 1, 0, []), (.iadd, 0, []), (.nop, 111, [])]
  | 111 => [(.istore_n 2, 0, []), (.goto (-110), 2, [])]
  | 115 => [(.iload_n 2, 0, []), (.ireturn, 0, [])]
  | _ => []
abbrev n_m_lives : Nat := 325
def b_m_lives : Nat → List Item
  | 0 => [(.aload_n 0, 0, []), (.iload_n 1, 0, []), (.putfield 450, 12, [46, 40, 0, 0, 0]), (.aload_n 0, 0, []), (.iconst 0, 0, []), (.putfield 463, 12, [46, 41, 0, 0, 0]), (.iconst 0, 0, []), (.istore_n 2, 0, []), (.nop, 12, [])]
  | 12 => [(.iload_n 2, 0, []), (.iconst 5, 0, []), (.if_icmp .ge 16, 30, []), (.aload_n 0, 0, []), (.getfield 78, 12, [46, 43, 2, 65, 0]), (.iload_n 2, 0, []), (.iconst 0, 0, []), (.iastore, 0, []), (.iinc 2 1, 0, []), (.goto (-15), 12, [])]
  | 30 => [(.iconst 0, 0, []), (.istore_n 2, 0, []), (.nop, 32, [])]
  | 32 => [(.iload_n 2, 0, []), (.aload_n 0, 0, []), (.getfield 7, 12, [46, 0, 2, 47, 0]), (.bipush 10, 0, []), (.iaload, 0, []), (.if_icmp .ge 144, 184, []), (.aload_n 0, 0, []), (.getfield 463, 12, [46, 41, 0, 0, 0]), (.sipush 300, 0, []), (.if_icmp .ne 11, 61, []), (.aload_n 0, 0, []), (.getfield 78, 12, [46, 43, 2, 65, 0]), (.iconst 4, 0, []), (.iconst 1, 0, []), (.iastore, 0, []), (.return_, 0, [])]
  | 61 => [(.bipush 97, 0, []), (.bipush 6, 0, []), (.iload_n 2, 0, []), (.imul, 0, []), (.iadd, 0, []), (.istore_n 3, 0, []), (.aload_n 0, 0, []), (.dup, 0, []), (.getfield 463, 12, [46, 41, 0, 0, 0]), (.iconst 1, 0, []), (.iadd, 0, []), (.putfield 463, 12, [46, 41, 0, 0, 0]), (.aload_n 0, 0, []), (.getfield 7, 12, [46, 0, 2, 47, 0]), (.iload_n 3, 0, []), (.iaload, 0, []), (.bipush 19, 0, []), (.if_icmp .ne 4, 91, []), (.return_, 0, [])]
  | 91 => [(.aload_n 0, 0, []), (.getfield 78, 12, [46, 43, 2, 65, 0]), (.iconst 0, 0, []), (.dup2, 0, []), (.iaload, 0, []), (.aload_n 0, 0, []), (.iload_n 3, 0, []), (.invokevirtual 466, 322, [2, 1, 46, 3]), (.ifCond .eq 7, 110, []), (.iconst 0, 0, []), (.goto 4, 111, [])]
  | 110 => [(.iconst 1, 0, []), (.nop, 111, [])]
  | 111 => [(.iadd, 0, []), (.iastore, 0, []), (.aload_n 0, 0, []), (.getfield 7, 12, [46, 0, 2, 47, 0]), (.iload_n 3, 0, []), (.iaload, 0, []), (.bipush 17, 0, []), (.if_icmp .ne 19, 140, []), (.aload_n 0, 0, []), (.getfield 75, 12, [46, 42, 2, 64, 0]), (.iload_n 2, 0, []), (.aload_n 0, 0, []), (.getfield 7, 12, [46, 0, 2, 47, 0]), (.iload_n 3, 0, []), (.iconst 1, 0, []), (.iadd, 0, []), (.iaload, 0, []), (.iconst 1, 0, []), (.isub, 0, []), (.iastore, 0, []), (.nop, 140, [])]
  | 140 => [(.aload_n 0, 0, []), (.aload_n 0, 0, []), (.getfield 7, 12, [46, 0, 2, 47, 0]), (.iload_n 3, 0, []), (.iaload, 0, []), (.sipush 1600, 0, []), (.if_icmp .lt 24, 174, []), (.aload_n 0, 0, []), (.iload_n 3, 0, []), (.invokevirtual 469, 323, [2, 1, 46, 4]), (.ifCond .ne 16, 174, []), (.aload_n 0, 0, []), (.getfield 7, 12, [46, 0, 2, 47, 0]), (.iload_n 3, 0, []), (.iconst 4, 0, []), (.iadd, 0, []), (.iaload, 0, []), (.iconst 1, 0, []), (.iadd, 0, []), (.goto 6, 177, [])]
  | 174 => [(.iload_n 2, 0, []), (.iconst 1, 0, []), (.iadd, 0, []), (.nop, 177, [])]
  | 177 => [(.invokevirtual 472, 324, [2, 1, 46, 5]), (.istore_n 2, 0, []), (.goto (-149), 32, [])]
  | 184 => [(.return_, 0, [])]
  | _ => []
abbrev n_m_live : Nat := 326
def b_m_live : Nat → List Item
  | 0 => [(.iload_n 1, 0, []), (.i2l, 0, []), (.lconst 0, 0, []), (.ldc2_w 475, 9999, []), (.invokestatic 278, 196, [3, 1, 0, 6]), (.ifCond .ne 9, 18, []), (.aload_n 0, 0, []), (.iconst 1, 0, []), (.invokevirtual 94, 185, [2, 1, 46, 2]), (.ireturn, 0, [])]
  | 18 => [(.aload_n 0, 0, []), (.getfield 7, 12, [46, 0, 2, 47, 0]), (.bipush 10, 0, []), (.iaload, 0, []), (.iconst (-1), 0, []), (.if_icmp .ne 10, 36, []), (.aload_n 0, 0, []), (.bipush 6, 0, []), (.invokevirtual 94, 185, [2, 1, 46, 2]), (.ireturn, 0, [])]
  | 36 => [(.aload_n 0, 0, []), (.iload_n 1, 0, []), (.invokevirtual 477, 325, [2, 0, 46, 4]), (.iconst 0, 0, []), (.istore_n 2, 0, []), (.nop, 43, [])]
  | 43 => [(.iload_n 2, 0, []), (.iconst 5, 0, []), (.if_icmp .ge 21, 66, []), (.aload_n 0, 0, []), (.getfield 81, 12, [46, 44, 2, 66, 0]), (.iload_n 2, 0, []), (.aload_n 0, 0, []), (.getfield 78, 12, [46, 43, 2, 65, 0]), (.iload_n 2, 0, []), (.iaload, 0, []), (.iastore, 0, []), (.iinc 2 1, 0, []), (.goto (-20), 43, [])]
  | 66 => [(.aload_n 0, 0, []), (.iconst 1, 0, []), (.putfield 480, 12, [46, 45, 5, 0, 0]), (.aload_n 0, 0, []), (.aload_n 0, 0, []), (.getfield 463, 12, [46, 41, 0, 0, 0]), (.invokevirtual 98, 186, [2, 1, 46, 2]), (.ireturn, 0, [])]
  | _ => []
abbrev n_m_lived : Nat := 327
def b_m_lived : Nat → List Item
  | 0 => [(.iload_n 1, 0, []), (.ifCond .lt 8, 9, []), (.iload_n 1, 0, []), (.iconst 4, 0, []), (.if_icmp .le 11, 17, []), (.nop, 9, [])]
  | 9 => [(.aload_n 0, 0, []), (.iconst 1, 0, []), (.invokevirtual 94, 185, [2, 1, 46, 2]), (.goto 29, 43, [])]
  | 17 => [(.aload_n 0, 0, []), (.getfield 480, 12, [46, 45, 5, 0, 0]), (.ifCond .eq 16, 37, []), (.aload_n 0, 0, []), (.aload_n 0, 0, []), (.getfield 81, 12, [46, 44, 2, 66, 0]), (.iload_n 1, 0, []), (.iaload, 0, []), (.invokevirtual 98, 186, [2, 1, 46, 2]), (.goto 9, 43, [])]
  | 37 => [(.aload_n 0, 0, []), (.bipush 6, 0, []), (.invokevirtual 94, 185, [2, 1, 46, 2]), (.nop, 43, [])]
  | 43 => [(.ireturn, 0, [])]
  | _ => []
abbrev n_m_mean : Nat := 328
def b_m_mean : Nat → List Item
  | 0 => [(.iload_n 1, 0, []), (.i2l, 0, []), (.lconst 0, 0, []), (.ldc2_w 475, 9999, []), (.invokestatic 278, 196, [3, 1, 0, 6]), (.ifCond .eq 26, 35, []), (.iload_n 2, 0, []), (.i2l, 0, []), (.lconst 1, 0, []), (.ldc2_w 353, 20, []), (.invokestatic 278, 196, [3, 1, 0, 6]), (.ifCond .eq 14, 35, []), (.iload_n 1, 0, []), (.iload_n 2, 0, []), (.iadd, 0, []), (.iconst 1, 0, []), (.isub, 0, []), (.sipush 9999, 0, []), (.if_icmp .le 9, 41, []), (.nop, 35, [])]
  | 35 => [(.aload_n 0, 0, []), (.iconst 1, 0, []), (.invokevirtual 101, 184, [2, 1, 46, 2]), (.ireturn, 1, [])]
  | 41 => [(.aload_n 0, 0, []), (.getfield 7, 12, [46, 0, 2, 47, 0]), (.bipush 10, 0, []), (.iaload, 0, []), (.iconst (-1), 0, []), (.if_icmp .ne 10, 59, []), (.aload_n 0, 0, []), (.bipush 6, 0, []), (.invokevirtual 101, 184, [2, 1, 46, 2]), (.ireturn, 1, [])]
  | 59 => [(.aload_n 0, 0, []), (.sipush 2325, 0, []), (.invokevirtual 362, 276, [2, 0, 46, 3]), (.lconst 0, 0, []), (.lstore_n 3, 0, []), (.iconst 0, 0, []), (.istore 5, 0, []), (.nop, 71, [])]
  | 71 => [(.iload 5, 0, []), (.iload_n 2, 0, []), (.if_icmp .ge 35, 109, []), (.aload_n 0, 0, []), (.iload_n 1, 0, []), (.iload 5, 0, []), (.iadd, 0, []), (.invokevirtual 477, 325, [2, 0, 46, 4]), (.lload_n 3, 0, []), (.aload_n 0, 0, []), (.getfield 7, 12, [46, 0, 2, 47, 0]), (.bipush 6, 0, []), (.iaload, 0, []), (.i2l, 0, []), (.ladd, 0, []), (.lstore_n 3, 0, []), (.aload_n 0, 0, []), (.sipush 2325, 0, []), (.invokevirtual 365, 277, [2, 0, 46, 3]), (.iinc 5 1, 0, []), (.goto (-35), 71, [])]
  | 109 => [(.aload_n 0, 0, []), (.lload_n 3, 0, []), (.iload_n 2, 0, []), (.i2l, 0, []), (.invokevirtual 446, 188, [3, 1, 46, 11]), (.ireturn, 1, [])]
  | _ => []
abbrev n_m_copies : Nat := 329
def b_m_copies : Nat → List Item
  | 0 => [(.iconst 0, 0, []), (.istore_n 3, 0, []), (.nop, 2, [])]
  | 2 => [(.iload_n 3, 0, []), (.sipush 465, 0, []), (.if_icmp .ge 33, 39, []), (.aload_n 0, 0, []), (.getfield 7, 12, [46, 0, 2, 47, 0]), (.sipush 465, 0, []), (.iload_n 2, 0, []), (.imul, 0, []), (.iload_n 3, 0, []), (.iadd, 0, []), (.aload_n 0, 0, []), (.getfield 7, 12, [46, 0, 2, 47, 0]), (.sipush 465, 0, []), (.iload_n 1, 0, []), (.imul, 0, []), (.iload_n 3, 0, []), (.iadd, 0, []), (.iaload, 0, []), (.iastore, 0, []), (.iinc 3 1, 0, []), (.goto (-34), 2, [])]
  | 39 => [(.iconst 0, 0, []), (.istore_n 3, 0, []), (.nop, 41, [])]
  | 41 => [(.iload_n 3, 0, []), (.bipush 13, 0, []), (.if_icmp .ge 31, 75, []), (.aload_n 0, 0, []), (.getfield 13, 12, [46, 1, 2, 48, 0]), (.bipush 13, 0, []), (.iload_n 2, 0, []), (.imul, 0, []), (.iload_n 3, 0, []), (.iadd, 0, []), (.aload_n 0, 0, []), (.getfield 13, 12, [46, 1, 2, 48, 0]), (.bipush 13, 0, []), (.iload_n 1, 0, []), (.imul, 0, []), (.iload_n 3, 0, []), (.iadd, 0, []), (.laload, 0, []), (.lastore, 0, []), (.iinc 3 1, 0, []), (.goto (-31), 41, [])]
  | 75 => [(.return_, 0, [])]
  | _ => []
abbrev n_m_mark : Nat := 330
def b_m_mark : Nat → List Item
  | 0 => [(.aload_n 0, 0, []), (.getfield 483, 12, [46, 46, 0, 0, 0]), (.iconst 3, 0, []), (.if_icmp .ne 9, 14, []), (.aload_n 0, 0, []), (.iconst 4, 0, []), (.invokevirtual 94, 185, [2, 1, 46, 2]), (.ireturn, 0, [])]
  | 14 => [(.aload_n 0, 0, []), (.dup, 0, []), (.getfield 483, 12, [46, 46, 0, 0, 0]), (.iconst 1, 0, []), (.iadd, 0, []), (.putfield 483, 12, [46, 46, 0, 0, 0]), (.aload_n 0, 0, []), (.iconst 0, 0, []), (.aload_n 0, 0, []), (.getfield 483, 12, [46, 46, 0, 0, 0]), (.invokevirtual 486, 329, [3, 0, 46, 4]), (.aload_n 0, 0, []), (.aload_n 0, 0, []), (.getfield 483, 12, [46, 46, 0, 0, 0]), (.invokevirtual 98, 186, [2, 1, 46, 2]), (.ireturn, 0, [])]
  | _ => []
abbrev n_m_undo : Nat := 331
def b_m_undo : Nat → List Item
  | 0 => [(.aload_n 0, 0, []), (.getfield 483, 12, [46, 46, 0, 0, 0]), (.ifCond .ne 10, 14, []), (.aload_n 0, 0, []), (.bipush 6, 0, []), (.invokevirtual 94, 185, [2, 1, 46, 2]), (.ireturn, 0, [])]
  | 14 => [(.aload_n 0, 0, []), (.aload_n 0, 0, []), (.getfield 483, 12, [46, 46, 0, 0, 0]), (.iconst 0, 0, []), (.invokevirtual 486, 329, [3, 0, 46, 4]), (.aload_n 0, 0, []), (.dup, 0, []), (.getfield 483, 12, [46, 46, 0, 0, 0]), (.iconst 1, 0, []), (.isub, 0, []), (.putfield 483, 12, [46, 46, 0, 0, 0]), (.aload_n 0, 0, []), (.aload_n 0, 0, []), (.getfield 483, 12, [46, 46, 0, 0, 0]), (.invokevirtual 98, 186, [2, 1, 46, 2]), (.ireturn, 0, [])]
  | _ => []
abbrev n_Integer_bitCount : Nat := 332
def b_Integer_bitCount : Nat → List Item
  | 0 => [(.iload_n 0, 0, []), (.iload_n 0, 0, []), (.iconst 1, 0, []), (.iushr, 0, []), (.ldc_w 265, 1431655765, []), (.iand, 0, []), (.isub, 0, []), (.istore_n 0, 0, []), (.iload_n 0, 0, []), (.ldc_w 266, 858993459, []), (.iand, 0, []), (.iload_n 0, 0, []), (.iconst 2, 0, []), (.iushr, 0, []), (.ldc_w 266, 858993459, []), (.iand, 0, []), (.iadd, 0, []), (.istore_n 0, 0, []), (.iload_n 0, 0, []), (.iload_n 0, 0, []), (.iconst 4, 0, []), (.iushr, 0, []), (.iadd, 0, []), (.ldc_w 267, 252645135, []), (.iand, 0, []), (.istore_n 0, 0, []), (.iload_n 0, 0, []), (.iload_n 0, 0, []), (.bipush 8, 0, []), (.iushr, 0, []), (.iadd, 0, []), (.istore_n 0, 0, []), (.iload_n 0, 0, []), (.iload_n 0, 0, []), (.bipush 16, 0, []), (.iushr, 0, []), (.iadd, 0, []), (.istore_n 0, 0, []), (.iload_n 0, 0, []), (.bipush 63, 0, []), (.iand, 0, []), (.ireturn, 0, [])]
  | _ => []
abbrev n_Math_floorMod : Nat := 333
def b_Math_floorMod : Nat → List Item
  | 0 => [(.iload_n 0, 0, []), (.iload_n 1, 0, []), (.irem, 0, []), (.istore_n 2, 0, []), (.iload_n 0, 0, []), (.iload_n 1, 0, []), (.ixor, 0, []), (.ifCond .ge 11, 18, []), (.iload_n 2, 0, []), (.ifCond .eq 7, 18, []), (.iload_n 2, 0, []), (.iload_n 1, 0, []), (.iadd, 0, []), (.ireturn, 0, [])]
  | 18 => [(.iload_n 2, 0, []), (.ireturn, 0, [])]
  | _ => []
abbrev n_Math_max : Nat := 334
def b_Math_max : Nat → List Item
  | 0 => [(.iload_n 0, 0, []), (.iload_n 1, 0, []), (.if_icmp .lt 7, 9, []), (.iload_n 0, 0, []), (.goto 4, 10, [])]
  | 9 => [(.iload_n 1, 0, []), (.nop, 10, [])]
  | 10 => [(.ireturn, 0, [])]
  | _ => []
abbrev n_Math_min : Nat := 335
def b_Math_min : Nat → List Item
  | 0 => [(.iload_n 0, 0, []), (.iload_n 1, 0, []), (.if_icmp .gt 7, 9, []), (.iload_n 0, 0, []), (.goto 4, 10, [])]
  | 9 => [(.iload_n 1, 0, []), (.nop, 10, [])]
  | 10 => [(.ireturn, 0, [])]
  | _ => []
abbrev n_Arrays_fill : Nat := 336
def b_Arrays_fill : Nat → List Item
  | 0 => [(.iconst 0, 0, []), (.istore_n 3, 0, []), (.aload_n 0, 0, []), (.arraylength, 0, []), (.istore 4, 0, []), (.nop, 6, [])]
  | 6 => [(.iload_n 3, 0, []), (.iload 4, 0, []), (.if_icmp .ge 13, 22, []), (.aload_n 0, 0, []), (.iload_n 3, 0, []), (.lload_n 1, 0, []), (.lastore, 0, []), (.iinc 3 1, 0, []), (.goto (-13), 6, [])]
  | 22 => [(.return_, 0, [])]
  | _ => []
def blk (y : Nat) : Nat → List Item := (bif Nat.ble y 168 then (bif Nat.ble y 84 then (bif Nat.ble y 42 then (bif Nat.ble y 21 then (bif Nat.ble y 10 then (bif Nat.ble y 5 then (bif Nat.ble y 2 then (bif Nat.ble y 1 then (bif Nat.ble y 0 then b_Ahead_in else b_Ahead_in) else b_Ahead_firstPause) else (bif Nat.ble y 4 then (bif Nat.ble y 3 then b_Ahead_firstPauseOf else b_Ahead_suffices) else b_Ahead_smallest)) else (bif Nat.ble y 8 then (bif Nat.ble y 7 then (bif Nat.ble y 6 then b_Ahead_easiest else b_Ahead_tryMinute) else b_Ahead_weigh) else (bif Nat.ble y 9 then b_Ahead_next else b_Ahead_ways))) else (bif Nat.ble y 16 then (bif Nat.ble y 13 then (bif Nat.ble y 12 then (bif Nat.ble y 11 then b_Ahead_waysFrom else b_Days_clear) else b_Days_copy) else (bif Nat.ble y 15 then (bif Nat.ble y 14 then b_Days_add else b_DaysReader_takes) else b_DaysReader_takesEnd)) else (bif Nat.ble y 19 then (bif Nat.ble y 18 then (bif Nat.ble y 17 then b_DaysReader_takesStep else b_DaysReader_addStep) else b_DaysReader_isStepWord) else (bif Nat.ble y 20 then b_DaysReader_takesTest else b_DaysReader_takesMonk)))) else (bif Nat.ble y 32 then (bif Nat.ble y 27 then (bif Nat.ble y 24 then (bif Nat.ble y 23 then (bif Nat.ble y 22 then b_DaysReader_takesNumber else b_House_clear) else b_House_copy) else (bif Nat.ble y 26 then (bif Nat.ble y 25 then b_House_addEntry else b_House_dropEntry) else b_House_mayTalk)) else (bif Nat.ble y 30 then (bif Nat.ble y 29 then (bif Nat.ble y 28 then b_House_open else b_House_canSay) else b_House_sayable) else (bif Nat.ble y 31 then b_House_speech else b_House_rosteredSpeech))) else (bif Nat.ble y 37 then (bif Nat.ble y 35 then (bif Nat.ble y 34 then (bif Nat.ble y 33 then b_House_helpingSpeech else b_House_pass) else b_House_passOne) else (bif Nat.ble y 36 then b_House_goBy else b_House_untilSilent)) else (bif Nat.ble y 40 then (bif Nat.ble y 39 then (bif Nat.ble y 38 then b_HouseReader_takes else b_HouseReader_takesPart) else b_HouseReader_takesTurn) else (bif Nat.ble y 41 then b_HouseReader_takesOdds else b_HouseReader_takesTopic))))) else (bif Nat.ble y 63 then (bif Nat.ble y 53 then (bif Nat.ble y 48 then (bif Nat.ble y 45 then (bif Nat.ble y 44 then (bif Nat.ble y 43 then b_HouseReader_takesMonk else b_HouseReader_takeNewName) else b_HouseReader_takesFollows) else (bif Nat.ble y 47 then (bif Nat.ble y 46 then b_HouseReader_takesRoster else b_HouseReader_takesHears) else b_Life_run)) else (bif Nat.ble y 51 then (bif Nat.ble y 50 then (bif Nat.ble y 49 then b_Life_behindEnd else b_Life_behindStep) else b_Life_miss) else (bif Nat.ble y 52 then b_Life_coughed else b_Life_draw))) else (bif Nat.ble y 58 then (bif Nat.ble y 56 then (bif Nat.ble y 55 then (bif Nat.ble y 54 then b_Life_holds else b_Life_compares) else b_Monks_clear) else (bif Nat.ble y 57 then b_Monks_copy else b_Monks_add)) else (bif Nat.ble y 61 then (bif Nat.ble y 60 then (bif Nat.ble y 59 then b_Monks_find else b_Monks_isAwake) else b_Monks_rouse) else (bif Nat.ble y 62 then b_Monks_lend else b_Monks_rested)))) else (bif Nat.ble y 74 then (bif Nat.ble y 69 then (bif Nat.ble y 66 then (bif Nat.ble y 65 then (bif Nat.ble y 64 then b_Monks_leastRested else b_Monks_keptApart) else b_Monks_pairs) else (bif Nat.ble y 68 then (bif Nat.ble y 67 then b_Talk_longest else b_Talk_goOn) else b_Talk_shortestRing)) else (bif Nat.ble y 72 then (bif Nat.ble y 71 then (bif Nat.ble y 70 then b_Talk_closes else b_Talk_behind) else b_Talk_winner) else (bif Nat.ble y 73 then b_Tape_put else b_Tape_begin))) else (bif Nat.ble y 79 then (bif Nat.ble y 77 then (bif Nat.ble y 76 then (bif Nat.ble y 75 then b_Tape_advance else b_Tape_readWord) else b_Tape_readNumber) else (bif Nat.ble y 78 then b_Tape_readSign else b_Tape_fail)) else (bif Nat.ble y 82 then (bif Nat.ble y 81 then (bif Nat.ble y 80 then b_Tape_isName else b_Tape_skipWord) else b_Tape_skipSemicolon) else (bif Nat.ble y 83 then b_Tape_skipName else b_Tape_takeCompare)))))) else (bif Nat.ble y 126 then (bif Nat.ble y 105 then (bif Nat.ble y 95 then (bif Nat.ble y 90 then (bif Nat.ble y 87 then (bif Nat.ble y 86 then (bif Nat.ble y 85 then b_Tape_takeNumber else b_Topics_copy) else b_Topics_add) else (bif Nat.ble y 89 then (bif Nat.ble y 88 then b_Topics_find else b_Topics_before) else b_Topics_costingAtMost)) else (bif Nat.ble y 93 then (bif Nat.ble y 92 then (bif Nat.ble y 91 then b_Topics_firstCosting else b_Tray_lay) else b_Tray_holds) else (bif Nat.ble y 94 then b_Tray_put else b_Tray_cut))) else (bif Nat.ble y 100 then (bif Nat.ble y 98 then (bif Nat.ble y 97 then (bif Nat.ble y 96 then b_x_status else b_x_top) else b_x_bottom) else (bif Nat.ble y 99 then b_x_tray else b_x_write)) else (bif Nat.ble y 103 then (bif Nat.ble y 102 then (bif Nat.ble y 101 then b_x_read else b_x_pour) else b_x_feed) else (bif Nat.ble y 104 then b_x_house else b_x_days)))) else (bif Nat.ble y 116 then (bif Nat.ble y 111 then (bif Nat.ble y 108 then (bif Nat.ble y 107 then (bif Nat.ble y 106 then b_x_fault else b_x_told) else b_x_topic) else (bif Nat.ble y 110 then (bif Nat.ble y 109 then b_x_monk else b_x_entry) else b_x_silent)) else (bif Nat.ble y 114 then (bif Nat.ble y 113 then (bif Nat.ble y 112 then b_x_last else b_x_minute) else b_x_change) else (bif Nat.ble y 115 then b_x_wake else b_x_follow))) else (bif Nat.ble y 121 then (bif Nat.ble y 119 then (bif Nat.ble y 118 then (bif Nat.ble y 117 then b_x_hear else b_x_enter) else b_x_strike) else (bif Nat.ble y 120 then b_x_breathe else b_x_price)) else (bif Nat.ble y 124 then (bif Nat.ble y 123 then (bif Nat.ble y 122 then b_x_rule else b_x_can) else b_x_topics) else (bif Nat.ble y 125 then b_x_speakers else b_x_speaker))))) else (bif Nat.ble y 147 then (bif Nat.ble y 137 then (bif Nat.ble y 132 then (bif Nat.ble y 129 then (bif Nat.ble y 128 then (bif Nat.ble y 127 then b_x_spoken else b_x_speakerIn) else b_x_breathIn) else (bif Nat.ble y 131 then (bif Nat.ble y 130 then b_x_pauseIn else b_x_pausesIn) else b_x_turnIn)) else (bif Nat.ble y 135 then (bif Nat.ble y 134 then (bif Nat.ble y 133 then b_x_unfair else b_x_enough) else b_x_fewest) else (bif Nat.ble y 136 then b_x_fewestSet else b_x_shift))) else (bif Nat.ble y 142 then (bif Nat.ble y 140 then (bif Nat.ble y 139 then (bif Nat.ble y 138 then b_x_shiftAt else b_x_talk) else b_x_talkAt) else (bif Nat.ble y 141 then b_x_ring else b_x_ringAt)) else (bif Nat.ble y 145 then (bif Nat.ble y 144 then (bif Nat.ble y 143 then b_x_reach else b_x_wins) else b_x_best) else (bif Nat.ble y 146 then b_x_heard else b_x_sure)))) else (bif Nat.ble y 158 then (bif Nat.ble y 153 then (bif Nat.ble y 150 then (bif Nat.ble y 149 then (bif Nat.ble y 148 then b_x_couples else b_x_allRead) else b_x_coughs) else (bif Nat.ble y 152 then (bif Nat.ble y 151 then b_x_copyBreath else b_x_live) else b_x_lived)) else (bif Nat.ble y 156 then (bif Nat.ble y 155 then (bif Nat.ble y 154 then b_x_mean else b_x_mark) else b_x_undo) else (bif Nat.ble y 157 then b_x_give else b_x_giveOrNone))) else (bif Nat.ble y 163 then (bif Nat.ble y 161 then (bif Nat.ble y 160 then (bif Nat.ble y 159 then b_x_none else b_x_agree) else b_x_refuse) else (bif Nat.ble y 162 then b_x_isTray else b_x_isTopic)) else (bif Nat.ble y 166 then (bif Nat.ble y 165 then (bif Nat.ble y 164 then b_x_isMonk else b_x_isSet) else b_x_placeStatus) else (bif Nat.ble y 167 then b_x_heardStatus else b_x_weighCoughs))))))) else (bif Nat.ble y 252 then (bif Nat.ble y 210 then (bif Nat.ble y 189 then (bif Nat.ble y 179 then (bif Nat.ble y 174 then (bif Nat.ble y 171 then (bif Nat.ble y 170 then (bif Nat.ble y 169 then b_x_tellFraction else b_x_commonDivisor) else b_x_within) else (bif Nat.ble y 173 then (bif Nat.ble y 172 then b_x_truth else b_x_has) else b_x_with)) else (bif Nat.ble y 177 then (bif Nat.ble y 176 then (bif Nat.ble y 175 then b_x_leastOf else b_x_onlyOneOf) else b_x_speechOf) else (bif Nat.ble y 178 then b_x_monkOf else b_x_topicOf))) else (bif Nat.ble y 184 then (bif Nat.ble y 182 then (bif Nat.ble y 181 then (bif Nat.ble y 180 then b_m_plain else b_m_status) else b_m_top) else (bif Nat.ble y 183 then b_m_bottom else b_m_is)) else (bif Nat.ble y 187 then (bif Nat.ble y 186 then (bif Nat.ble y 185 then b_m_refuse else b_m_gives) else b_m_orNone) else (bif Nat.ble y 188 then b_m_tellsBy else b_m_isTray)))) else (bif Nat.ble y 200 then (bif Nat.ble y 195 then (bif Nat.ble y 192 then (bif Nat.ble y 191 then (bif Nat.ble y 190 then b_m_cut else b_m_tray) else b_m_wrongPlace) else (bif Nat.ble y 194 then (bif Nat.ble y 193 then b_m_write else b_m_read) else b_m_pour)) else (bif Nat.ble y 198 then (bif Nat.ble y 197 then (bif Nat.ble y 196 then b_m_isFrom else b_m_feed) else b_m_four) else (bif Nat.ble y 199 then b_m_byteAt else b_m_isSmall))) else (bif Nat.ble y 205 then (bif Nat.ble y 203 then (bif Nat.ble y 202 then (bif Nat.ble y 201 then b_m_isDigit else b_m_ahead) else b_m_isSign) else (bif Nat.ble y 204 then b_m_inWords else b_m_fails)) else (bif Nat.ble y 208 then (bif Nat.ble y 207 then (bif Nat.ble y 206 then b_m_begins else b_m_wantSign) else b_m_wantWord) else (bif Nat.ble y 209 then b_m_number else b_m_isName))))) else (bif Nat.ble y 231 then (bif Nat.ble y 221 then (bif Nat.ble y 216 then (bif Nat.ble y 213 then (bif Nat.ble y 212 then (bif Nat.ble y 211 then b_m_nameHere else b_m_findHere) else b_m_fault) else (bif Nat.ble y 215 then (bif Nat.ble y 214 then b_m_taken else b_m_isThere) else b_m_newOne)) else (bif Nat.ble y 219 then (bif Nat.ble y 218 then (bif Nat.ble y 217 then b_m_oldOne else b_m_newTopicTo) else b_m_newMonkTo) else (bif Nat.ble y 220 then b_m_aTopic else b_m_aMonk))) else (bif Nat.ble y 226 then (bif Nat.ble y 224 then (bif Nat.ble y 223 then (bif Nat.ble y 222 then b_m_aFollowing else b_m_anEntry) else b_m_aHearing) else (bif Nat.ble y 225 then b_m_housePart else b_m_house)) else (bif Nat.ble y 229 then (bif Nat.ble y 228 then (bif Nat.ble y 227 then b_m_monkTo else b_m_test) else b_m_dayOrder) else (bif Nat.ble y 230 then b_m_dayStep else b_m_days)))) else (bif Nat.ble y 242 then (bif Nat.ble y 237 then (bif Nat.ble y 234 then (bif Nat.ble y 233 then (bif Nat.ble y 232 then b_m_topicRow else b_m_monkRow) else b_m_entryRow) else (bif Nat.ble y 236 then (bif Nat.ble y 235 then b_m_isTopic else b_m_isMonk) else b_m_isEntry)) else (bif Nat.ble y 240 then (bif Nat.ble y 239 then (bif Nat.ble y 238 then b_m_areMonks else b_m_isIn) else b_m_bits) else (bif Nat.ble y 241 then b_m_monkOf else b_m_costOf))) else (bif Nat.ble y 247 then (bif Nat.ble y 245 then (bif Nat.ble y 244 then (bif Nat.ble y 243 then b_m_nextOf else b_m_awake) else b_m_aheadOf) else (bif Nat.ble y 246 then b_m_told else b_m_topic)) else (bif Nat.ble y 250 then (bif Nat.ble y 249 then (bif Nat.ble y 248 then b_m_monk else b_m_entry) else b_m_silent) else (bif Nat.ble y 251 then b_m_last else b_m_doesFollow)))))) else (bif Nat.ble y 294 then (bif Nat.ble y 273 then (bif Nat.ble y 263 then (bif Nat.ble y 258 then (bif Nat.ble y 255 then (bif Nat.ble y 254 then (bif Nat.ble y 253 then b_m_canSay else b_m_topicsOf) else b_m_can) else (bif Nat.ble y 257 then (bif Nat.ble y 256 then b_m_topics else b_m_speakers) else b_m_laysSpeaker)) else (bif Nat.ble y 261 then (bif Nat.ble y 260 then (bif Nat.ble y 259 then b_m_speaker else b_m_spoken) else b_m_saysBy) else (bif Nat.ble y 262 then b_m_minuteGoes else b_m_minutesGo))) else (bif Nat.ble y 268 then (bif Nat.ble y 266 then (bif Nat.ble y 265 then (bif Nat.ble y 264 then b_m_minute else b_m_changes) else b_m_change) else (bif Nat.ble y 267 then b_m_wakes else b_m_wake)) else (bif Nat.ble y 271 then (bif Nat.ble y 270 then (bif Nat.ble y 269 then b_m_follow else b_m_hear) else b_m_enter) else (bif Nat.ble y 272 then b_m_strike else b_m_breathe)))) else (bif Nat.ble y 284 then (bif Nat.ble y 279 then (bif Nat.ble y 276 then (bif Nat.ble y 275 then (bif Nat.ble y 274 then b_m_price else b_m_rule) else b_m_keeps) else (bif Nat.ble y 278 then (bif Nat.ble y 277 then b_m_restores else b_m_isSpan) else b_m_speakerIn)) else (bif Nat.ble y 282 then (bif Nat.ble y 281 then (bif Nat.ble y 280 then b_m_breathIn else b_m_firstPause) else b_m_pauseIn) else (bif Nat.ble y 283 then b_m_pausesIn else b_m_turnIn))) else (bif Nat.ble y 289 then (bif Nat.ble y 287 then (bif Nat.ble y 286 then (bif Nat.ble y 285 then b_m_unfair else b_m_areEnough) else b_m_isShort) else (bif Nat.ble y 288 then b_m_enough else b_m_fewestOf)) else (bif Nat.ble y 292 then (bif Nat.ble y 291 then (bif Nat.ble y 290 then b_m_fewest else b_m_fewestSet) else b_m_levelAt) else (bif Nat.ble y 293 then b_m_leastBreath else b_m_shifting))))) else (bif Nat.ble y 315 then (bif Nat.ble y 305 then (bif Nat.ble y 300 then (bif Nat.ble y 297 then (bif Nat.ble y 296 then (bif Nat.ble y 295 then b_m_shift else b_m_shiftAt) else b_m_laysTalk) else (bif Nat.ble y 299 then (bif Nat.ble y 298 then b_m_talkFrom else b_m_talk) else b_m_talkAt)) else (bif Nat.ble y 303 then (bif Nat.ble y 302 then (bif Nat.ble y 301 then b_m_laysFar else b_m_nearest) else b_m_laysRing) else (bif Nat.ble y 304 then b_m_ring else b_m_ringAt))) else (bif Nat.ble y 310 then (bif Nat.ble y 308 then (bif Nat.ble y 307 then (bif Nat.ble y 306 then b_m_reach else b_m_wins) else b_m_best) else (bif Nat.ble y 309 then b_m_wrongHeard else b_m_counts)) else (bif Nat.ble y 313 then (bif Nat.ble y 312 then (bif Nat.ble y 311 then b_m_laysHeard else b_m_heard) else b_m_sure) else (bif Nat.ble y 314 then b_m_couplesOf else b_m_couples)))) else (bif Nat.ble y 326 then (bif Nat.ble y 321 then (bif Nat.ble y 318 then (bif Nat.ble y 317 then (bif Nat.ble y 316 then b_m_allRead else b_m_coughs) else b_m_copyBreath) else (bif Nat.ble y 320 then (bif Nat.ble y 319 then b_m_draw else b_m_minutesBy) else b_m_coughsAny)) else (bif Nat.ble y 324 then (bif Nat.ble y 323 then (bif Nat.ble y 322 then b_m_does else b_m_holds) else b_m_behindEnds) else (bif Nat.ble y 325 then b_m_lives else b_m_live))) else (bif Nat.ble y 331 then (bif Nat.ble y 329 then (bif Nat.ble y 328 then (bif Nat.ble y 327 then b_m_lived else b_m_mean) else b_m_copies) else (bif Nat.ble y 330 then b_m_mark else b_m_undo)) else (bif Nat.ble y 334 then (bif Nat.ble y 333 then (bif Nat.ble y 332 then b_Integer_bitCount else b_Math_floorMod) else b_Math_max) else (bif Nat.ble y 335 then b_Math_min else b_Arrays_fill))))))))
def mxl (y : Nat) : Nat := (bif Nat.ble y 168 then (bif Nat.ble y 84 then (bif Nat.ble y 42 then (bif Nat.ble y 21 then (bif Nat.ble y 10 then (bif Nat.ble y 5 then (bif Nat.ble y 2 then (bif Nat.ble y 1 then (bif Nat.ble y 0 then 3 else 3) else 3) else (bif Nat.ble y 4 then (bif Nat.ble y 3 then 3 else 5) else 6)) else (bif Nat.ble y 8 then (bif Nat.ble y 7 then (bif Nat.ble y 6 then 3 else 8) else 2) else (bif Nat.ble y 9 then 4 else 6))) else (bif Nat.ble y 16 then (bif Nat.ble y 13 then (bif Nat.ble y 12 then (bif Nat.ble y 11 then 7 else 1) else 2) else (bif Nat.ble y 15 then (bif Nat.ble y 14 then 2 else 4) else 3)) else (bif Nat.ble y 19 then (bif Nat.ble y 18 then (bif Nat.ble y 17 then 3 else 5) else 1) else (bif Nat.ble y 20 then 3 else 2)))) else (bif Nat.ble y 32 then (bif Nat.ble y 27 then (bif Nat.ble y 24 then (bif Nat.ble y 23 then (bif Nat.ble y 22 then 4 else 1) else 2) else (bif Nat.ble y 26 then (bif Nat.ble y 25 then 3 else 3) else 2)) else (bif Nat.ble y 30 then (bif Nat.ble y 29 then (bif Nat.ble y 28 then 1 else 3) else 2) else (bif Nat.ble y 31 then 2 else 4))) else (bif Nat.ble y 37 then (bif Nat.ble y 35 then (bif Nat.ble y 34 then (bif Nat.ble y 33 then 3 else 4) else 2) else (bif Nat.ble y 36 then 4 else 3)) else (bif Nat.ble y 40 then (bif Nat.ble y 39 then (bif Nat.ble y 38 then 3 else 1) else 2) else (bif Nat.ble y 41 then 2 else 4))))) else (bif Nat.ble y 63 then (bif Nat.ble y 53 then (bif Nat.ble y 48 then (bif Nat.ble y 45 then (bif Nat.ble y 44 then (bif Nat.ble y 43 then 6 else 3) else 3) else (bif Nat.ble y 47 then (bif Nat.ble y 46 then 3 else 3) else 6)) else (bif Nat.ble y 51 then (bif Nat.ble y 50 then (bif Nat.ble y 49 then 3 else 4) else 2) else (bif Nat.ble y 52 then 3 else 2))) else (bif Nat.ble y 58 then (bif Nat.ble y 56 then (bif Nat.ble y 55 then (bif Nat.ble y 54 then 3 else 3) else 1) else (bif Nat.ble y 57 then 2 else 6)) else (bif Nat.ble y 61 then (bif Nat.ble y 60 then (bif Nat.ble y 59 then 4 else 2) else 3) else (bif Nat.ble y 62 then 4 else 4)))) else (bif Nat.ble y 74 then (bif Nat.ble y 69 then (bif Nat.ble y 66 then (bif Nat.ble y 65 then (bif Nat.ble y 64 then 5 else 4) else 6) else (bif Nat.ble y 68 then (bif Nat.ble y 67 then 3 else 8) else 4)) else (bif Nat.ble y 72 then (bif Nat.ble y 71 then (bif Nat.ble y 70 then 6 else 5) else 5) else (bif Nat.ble y 73 then 3 else 2))) else (bif Nat.ble y 79 then (bif Nat.ble y 77 then (bif Nat.ble y 76 then (bif Nat.ble y 75 then 1 else 4) else 1) else (bif Nat.ble y 78 then 3 else 2)) else (bif Nat.ble y 82 then (bif Nat.ble y 81 then (bif Nat.ble y 80 then 1 else 2) else 1) else (bif Nat.ble y 83 then 2 else 2)))))) else (bif Nat.ble y 126 then (bif Nat.ble y 105 then (bif Nat.ble y 95 then (bif Nat.ble y 90 then (bif Nat.ble y 87 then (bif Nat.ble y 86 then (bif Nat.ble y 85 then 4 else 2) else 4) else (bif Nat.ble y 89 then (bif Nat.ble y 88 then 4 else 4) else 5)) else (bif Nat.ble y 93 then (bif Nat.ble y 92 then (bif Nat.ble y 91 then 4 else 3) else 3) else (bif Nat.ble y 94 then 4 else 3))) else (bif Nat.ble y 100 then (bif Nat.ble y 98 then (bif Nat.ble y 97 then (bif Nat.ble y 96 then 1 else 1) else 1) else (bif Nat.ble y 99 then 4 else 6)) else (bif Nat.ble y 103 then (bif Nat.ble y 102 then (bif Nat.ble y 101 then 4 else 8) else 6) else (bif Nat.ble y 104 then 3 else 3)))) else (bif Nat.ble y 116 then (bif Nat.ble y 111 then (bif Nat.ble y 108 then (bif Nat.ble y 107 then (bif Nat.ble y 106 then 2 else 2) else 3) else (bif Nat.ble y 110 then (bif Nat.ble y 109 then 3 else 3) else 1)) else (bif Nat.ble y 114 then (bif Nat.ble y 113 then (bif Nat.ble y 112 then 1 else 2) else 3) else (bif Nat.ble y 115 then 3 else 4))) else (bif Nat.ble y 121 then (bif Nat.ble y 119 then (bif Nat.ble y 118 then (bif Nat.ble y 117 then 4 else 3) else 2) else (bif Nat.ble y 120 then 3 else 3)) else (bif Nat.ble y 124 then (bif Nat.ble y 123 then (bif Nat.ble y 122 then 3 else 3) else 2) else (bif Nat.ble y 125 then 4 else 1))))) else (bif Nat.ble y 147 then (bif Nat.ble y 137 then (bif Nat.ble y 132 then (bif Nat.ble y 129 then (bif Nat.ble y 128 then (bif Nat.ble y 127 then 1 else 2) else 3) else (bif Nat.ble y 131 then (bif Nat.ble y 130 then 1 else 2) else 2)) else (bif Nat.ble y 135 then (bif Nat.ble y 134 then (bif Nat.ble y 133 then 1 else 3) else 3) else (bif Nat.ble y 136 then 2 else 2))) else (bif Nat.ble y 142 then (bif Nat.ble y 140 then (bif Nat.ble y 139 then (bif Nat.ble y 138 then 5 else 2) else 3) else (bif Nat.ble y 141 then 1 else 2)) else (bif Nat.ble y 145 then (bif Nat.ble y 144 then (bif Nat.ble y 143 then 2 else 2) else 2) else (bif Nat.ble y 146 then 4 else 5)))) else (bif Nat.ble y 158 then (bif Nat.ble y 153 then (bif Nat.ble y 150 then (bif Nat.ble y 149 then (bif Nat.ble y 148 then 2 else 2) else 7) else (bif Nat.ble y 152 then (bif Nat.ble y 151 then 3 else 2) else 2)) else (bif Nat.ble y 156 then (bif Nat.ble y 155 then (bif Nat.ble y 154 then 7 else 1) else 1) else (bif Nat.ble y 157 then 2 else 2))) else (bif Nat.ble y 163 then (bif Nat.ble y 161 then (bif Nat.ble y 160 then (bif Nat.ble y 159 then 2 else 1) else 2) else (bif Nat.ble y 162 then 2 else 2)) else (bif Nat.ble y 166 then (bif Nat.ble y 165 then (bif Nat.ble y 164 then 2 else 2) else 3) else (bif Nat.ble y 167 then 6 else 3))))))) else (bif Nat.ble y 252 then (bif Nat.ble y 210 then (bif Nat.ble y 189 then (bif Nat.ble y 179 then (bif Nat.ble y 174 then (bif Nat.ble y 171 then (bif Nat.ble y 170 then (bif Nat.ble y 169 then 7 else 11) else 3) else (bif Nat.ble y 173 then (bif Nat.ble y 172 then 1 else 2) else 3)) else (bif Nat.ble y 177 then (bif Nat.ble y 176 then (bif Nat.ble y 175 then 2 else 1) else 2) else (bif Nat.ble y 178 then 1 else 1))) else (bif Nat.ble y 184 then (bif Nat.ble y 182 then (bif Nat.ble y 181 then (bif Nat.ble y 180 then 3 else 1) else 1) else (bif Nat.ble y 183 then 1 else 2)) else (bif Nat.ble y 187 then (bif Nat.ble y 186 then (bif Nat.ble y 185 then 2 else 2) else 2) else (bif Nat.ble y 188 then 11 else 1)))) else (bif Nat.ble y 200 then (bif Nat.ble y 195 then (bif Nat.ble y 192 then (bif Nat.ble y 191 then (bif Nat.ble y 190 then 3 else 5) else 3) else (bif Nat.ble y 194 then (bif Nat.ble y 193 then 6 else 3) else 8)) else (bif Nat.ble y 198 then (bif Nat.ble y 197 then (bif Nat.ble y 196 then 6 else 6) else 3) else (bif Nat.ble y 199 then 2 else 1))) else (bif Nat.ble y 205 then (bif Nat.ble y 203 then (bif Nat.ble y 202 then (bif Nat.ble y 201 then 1 else 2) else 2) else (bif Nat.ble y 204 then 7 else 2)) else (bif Nat.ble y 208 then (bif Nat.ble y 207 then (bif Nat.ble y 206 then 4 else 2) else 3) else (bif Nat.ble y 209 then 4 else 2))))) else (bif Nat.ble y 231 then (bif Nat.ble y 221 then (bif Nat.ble y 216 then (bif Nat.ble y 213 then (bif Nat.ble y 212 then (bif Nat.ble y 211 then 4 else 4) else 2) else (bif Nat.ble y 215 then (bif Nat.ble y 214 then 2 else 2) else 4)) else (bif Nat.ble y 219 then (bif Nat.ble y 218 then (bif Nat.ble y 217 then 4 else 2) else 2) else (bif Nat.ble y 220 then 2 else 2))) else (bif Nat.ble y 226 then (bif Nat.ble y 224 then (bif Nat.ble y 223 then (bif Nat.ble y 222 then 2 else 2) else 2) else (bif Nat.ble y 225 then 3 else 4)) else (bif Nat.ble y 229 then (bif Nat.ble y 228 then (bif Nat.ble y 227 then 2 else 3) else 3) else (bif Nat.ble y 230 then 6 else 4)))) else (bif Nat.ble y 242 then (bif Nat.ble y 237 then (bif Nat.ble y 234 then (bif Nat.ble y 233 then (bif Nat.ble y 232 then 1 else 1) else 1) else (bif Nat.ble y 236 then (bif Nat.ble y 235 then 3 else 2) else 2)) else (bif Nat.ble y 240 then (bif Nat.ble y 239 then (bif Nat.ble y 238 then 2 else 3) else 3) else (bif Nat.ble y 241 then 3 else 2))) else (bif Nat.ble y 247 then (bif Nat.ble y 245 then (bif Nat.ble y 244 then (bif Nat.ble y 243 then 2 else 3) else 4) else (bif Nat.ble y 246 then 2 else 3)) else (bif Nat.ble y 250 then (bif Nat.ble y 249 then (bif Nat.ble y 248 then 3 else 3) else 1) else (bif Nat.ble y 251 then 1 else 2)))))) else (bif Nat.ble y 294 then (bif Nat.ble y 273 then (bif Nat.ble y 263 then (bif Nat.ble y 258 then (bif Nat.ble y 255 then (bif Nat.ble y 254 then (bif Nat.ble y 253 then 3 else 4) else 3) else (bif Nat.ble y 257 then (bif Nat.ble y 256 then 2 else 4) else 3)) else (bif Nat.ble y 261 then (bif Nat.ble y 260 then (bif Nat.ble y 259 then 1 else 1) else 5) else (bif Nat.ble y 262 then 1 else 4))) else (bif Nat.ble y 268 then (bif Nat.ble y 266 then (bif Nat.ble y 265 then (bif Nat.ble y 264 then 2 else 3) else 3) else (bif Nat.ble y 267 then 4 else 3)) else (bif Nat.ble y 271 then (bif Nat.ble y 270 then (bif Nat.ble y 269 then 4 else 4) else 4) else (bif Nat.ble y 272 then 3 else 3)))) else (bif Nat.ble y 284 then (bif Nat.ble y 279 then (bif Nat.ble y 276 then (bif Nat.ble y 275 then (bif Nat.ble y 274 then 3 else 3) else 3) else (bif Nat.ble y 278 then (bif Nat.ble y 277 then 3 else 1) else 2)) else (bif Nat.ble y 282 then (bif Nat.ble y 281 then (bif Nat.ble y 280 then 4 else 4) else 1) else (bif Nat.ble y 283 then 3 else 4))) else (bif Nat.ble y 289 then (bif Nat.ble y 287 then (bif Nat.ble y 286 then (bif Nat.ble y 285 then 4 else 4) else 1) else (bif Nat.ble y 288 then 3 else 4)) else (bif Nat.ble y 292 then (bif Nat.ble y 291 then (bif Nat.ble y 290 then 3 else 2) else 1) else (bif Nat.ble y 293 then 3 else 6))))) else (bif Nat.ble y 315 then (bif Nat.ble y 305 then (bif Nat.ble y 300 then (bif Nat.ble y 297 then (bif Nat.ble y 296 then (bif Nat.ble y 295 then 2 else 4) else 6) else (bif Nat.ble y 299 then (bif Nat.ble y 298 then 2 else 2) else 8)) else (bif Nat.ble y 303 then (bif Nat.ble y 302 then (bif Nat.ble y 301 then 4 else 4) else 3) else (bif Nat.ble y 304 then 1 else 5))) else (bif Nat.ble y 310 then (bif Nat.ble y 308 then (bif Nat.ble y 307 then (bif Nat.ble y 306 then 5 else 2) else 3) else (bif Nat.ble y 309 then 4 else 3)) else (bif Nat.ble y 313 then (bif Nat.ble y 312 then (bif Nat.ble y 311 then 5 else 4) else 5) else (bif Nat.ble y 314 then 5 else 2)))) else (bif Nat.ble y 326 then (bif Nat.ble y 321 then (bif Nat.ble y 318 then (bif Nat.ble y 317 then (bif Nat.ble y 316 then 2 else 8) else 3) else (bif Nat.ble y 320 then (bif Nat.ble y 319 then 2 else 3) else 2)) else (bif Nat.ble y 324 then (bif Nat.ble y 323 then (bif Nat.ble y 322 then 3 else 4) else 5) else (bif Nat.ble y 325 then 4 else 3))) else (bif Nat.ble y 331 then (bif Nat.ble y 329 then (bif Nat.ble y 328 then (bif Nat.ble y 327 then 2 else 6) else 4) else (bif Nat.ble y 330 then 1 else 1)) else (bif Nat.ble y 334 then (bif Nat.ble y 333 then (bif Nat.ble y 332 then 1 else 3) else 2) else (bif Nat.ble y 335 then 2 else 5))))))))
/-- a method is done by its blocks, its calls a level below -/
def RuleAll (CALL : Nat → Nat → List AV → AM → (AV → AM → Prop) → Prop) : Prop := ∀ (r y : Nat) (args : List AV) (σ : AM) (K : AV → AM → Prop), 1 ≤ y → y ≤ 336 → (∀ J : Nat → List AV → List AV → AM → Prop, (∀ pc lv st σ, wpb (CALL r) K J (blk y pc) lv st σ → J pc lv st σ) → J 0 (ent (mxl y) args) [] σ) → CALL (r + 1) y args σ K
