/-! The code of every method as a list: place, instruction, length, and three numbers that the tables resolve. -/
def cd_X0_choose : List nl_E := [(0, .aload_n 0, 1, 0, 0, 0), (1, .aload_n 1, 1, 0, 0, 0), (2, .invokevirtual 31, 3, 1, 1, 0), (5, .aload_n 1, 1, 0, 0, 0), (6, .getfield 35, 3, 4, 0, 0), (9, .istore_n 2, 1, 0, 0, 0),
  (10, .iconst 1, 1, 0, 0, 0), (11, .iload_n 2, 1, 0, 0, 0), (12, .ishl, 1, 0, 0, 0), (13, .iconst 1, 1, 0, 0, 0), (14, .isub, 1, 0, 0, 0), (15, .istore_n 3, 1, 0, 0, 0),
  (16, .iload_n 3, 1, 0, 0, 0), (17, .ifCond .lt 21, 3, 38, 0, 0), (20, .aload_n 0, 1, 0, 0, 0), (21, .getfield 15, 3, 0, 1, 1), (24, .iload_n 3, 1, 0, 0, 0), (25, .aload_n 0, 1, 0, 0, 0),
  (26, .iload_n 3, 1, 0, 0, 0), (27, .iload_n 2, 1, 0, 0, 0), (28, .invokevirtual 40, 3, 2, 2, 1), (31, .iastore, 1, 0, 0, 0), (32, .iinc 3 (-1), 3, 0, 0, 0), (35, .goto (-19), 3, 16, 0, 0),
  (38, .aload_n 0, 1, 0, 0, 0), (39, .iload_n 2, 1, 0, 0, 0), (40, .invokevirtual 44, 3, 4, 1, 0), (43, .return_, 1, 0, 0, 0)]
def ct_X0_choose : List Nat := [16]
def cd_X0_weigh : List nl_E := [(0, .iconst 0, 1, 0, 0, 0), (1, .istore_n 2, 1, 0, 0, 0), (2, .iload_n 2, 1, 0, 0, 0), (3, .aload_n 1, 1, 0, 0, 0), (4, .getfield 35, 3, 4, 0, 0), (7, .if_icmp .ge 96, 3, 103, 0, 0),
  (10, .aload_n 0, 1, 0, 0, 0), (11, .getfield 21, 3, 0, 3, 1), (14, .iload_n 2, 1, 0, 0, 0), (15, .iconst 0, 1, 0, 0, 0), (16, .iastore, 1, 0, 0, 0), (17, .iconst 0, 1, 0, 0, 0),
  (18, .istore_n 3, 1, 0, 0, 0), (19, .iload_n 3, 1, 0, 0, 0), (20, .aload_n 1, 1, 0, 0, 0), (21, .getfield 35, 3, 4, 0, 0), (24, .if_icmp .ge 73, 3, 97, 0, 0), (27, .aload_n 1, 1, 0, 0, 0),
  (28, .iload_n 2, 1, 0, 0, 0), (29, .iload_n 3, 1, 0, 0, 0), (30, .aload_n 1, 1, 0, 0, 0), (31, .getfield 48, 3, 4, 7, 1), (34, .iload_n 2, 1, 0, 0, 0), (35, .iaload, 1, 0, 0, 0),
  (36, .invokevirtual 51, 3, 31, 3, 17), (39, .istore 4, 2, 0, 0, 0), (41, .aload_n 0, 1, 0, 0, 0), (42, .getfield 11, 3, 0, 0, 1), (45, .iload_n 2, 1, 0, 0, 0), (46, .bipush 7, 2, 0, 0, 0),
  (48, .imul, 1, 0, 0, 0), (49, .iload_n 3, 1, 0, 0, 0), (50, .iadd, 1, 0, 0, 0), (51, .iload 4, 2, 0, 0, 0), (53, .ifCond .eq 13, 3, 66, 0, 0), (56, .aload_n 1, 1, 0, 0, 0),
  (57, .iload_n 2, 1, 0, 0, 0), (58, .iload_n 3, 1, 0, 0, 0), (59, .invokevirtual 55, 3, 29, 2, 17), (62, .ineg, 1, 0, 0, 0), (63, .goto 6, 3, 69, 0, 0), (66, .sipush 1000, 3, 0, 0, 0),
  (69, .iastore, 1, 0, 0, 0), (70, .aload_n 0, 1, 0, 0, 0), (71, .getfield 21, 3, 0, 3, 1), (74, .iload_n 2, 1, 0, 0, 0), (75, .dup2, 1, 0, 0, 0), (76, .iaload, 1, 0, 0, 0),
  (77, .iload 4, 2, 0, 0, 0), (79, .ifCond .eq 9, 3, 88, 0, 0), (82, .iconst 1, 1, 0, 0, 0), (83, .iload_n 3, 1, 0, 0, 0), (84, .ishl, 1, 0, 0, 0), (85, .goto 4, 3, 89, 0, 0),
  (88, .iconst 0, 1, 0, 0, 0), (89, .ior, 1, 0, 0, 0), (90, .iastore, 1, 0, 0, 0), (91, .iinc 3 1, 3, 0, 0, 0), (94, .goto (-75), 3, 19, 0, 0), (97, .iinc 2 1, 3, 0, 0, 0),
  (100, .goto (-98), 3, 2, 0, 0), (103, .return_, 1, 0, 0, 0)]
def ct_X0_weigh : List Nat := [2, 19]
def cd_X0_leastOf : List nl_E := [(0, .iload_n 1, 1, 0, 0, 0), (1, .invokestatic 58, 3, 142, 1, 1), (4, .istore_n 3, 1, 0, 0, 0), (5, .iload_n 3, 1, 0, 0, 0), (6, .iload_n 2, 1, 0, 0, 0), (7, .if_icmp .lt 5, 3, 12, 0, 0),
  (10, .iconst 0, 1, 0, 0, 0), (11, .ireturn, 1, 0, 0, 0), (12, .sipush 8000, 3, 0, 0, 0), (15, .istore 4, 2, 0, 0, 0), (17, .iconst 0, 1, 0, 0, 0), (18, .istore 5, 2, 0, 0, 0),
  (20, .iload 5, 2, 0, 0, 0), (22, .iload_n 2, 1, 0, 0, 0), (23, .if_icmp .ge 33, 3, 56, 0, 0), (26, .iload_n 1, 1, 0, 0, 0), (27, .iload 5, 2, 0, 0, 0), (29, .ishr, 1, 0, 0, 0),
  (30, .iconst 1, 1, 0, 0, 0), (31, .iand, 1, 0, 0, 0), (32, .ifCond .ne 18, 3, 50, 0, 0), (35, .iload 4, 2, 0, 0, 0), (37, .aload_n 0, 1, 0, 0, 0), (38, .iload_n 1, 1, 0, 0, 0),
  (39, .iload_n 3, 1, 0, 0, 0), (40, .iload 5, 2, 0, 0, 0), (42, .invokevirtual 64, 3, 3, 3, 1), (45, .invokestatic 68, 3, 0, 0, 4), (48, .istore 4, 2, 0, 0, 0), (50, .iinc 5 1, 3, 0, 0, 0),
  (53, .goto (-33), 3, 20, 0, 0), (56, .iload 4, 2, 0, 0, 0), (58, .ireturn, 1, 0, 0, 0)]
def ct_X0_leastOf : List Nat := [20]
def cd_X0_priceWith : List nl_E := [(0, .aload_n 0, 1, 0, 0, 0), (1, .getfield 11, 3, 0, 0, 1), (4, .iload_n 2, 1, 0, 0, 0), (5, .bipush 7, 2, 0, 0, 0), (7, .imul, 1, 0, 0, 0), (8, .iload_n 3, 1, 0, 0, 0),
  (9, .iadd, 1, 0, 0, 0), (10, .iaload, 1, 0, 0, 0), (11, .aload_n 0, 1, 0, 0, 0), (12, .getfield 15, 3, 0, 1, 1), (15, .iload_n 1, 1, 0, 0, 0), (16, .iconst 1, 1, 0, 0, 0),
  (17, .iload_n 3, 1, 0, 0, 0), (18, .ishl, 1, 0, 0, 0), (19, .ior, 1, 0, 0, 0), (20, .iaload, 1, 0, 0, 0), (21, .iadd, 1, 0, 0, 0), (22, .ireturn, 1, 0, 0, 0)]
def ct_X0_priceWith : List Nat := []
def cd_X0_dealOut : List nl_E := [(0, .iconst 0, 1, 0, 0, 0), (1, .istore_n 2, 1, 0, 0, 0), (2, .aload_n 0, 1, 0, 0, 0), (3, .iconst 0, 1, 0, 0, 0), (4, .putfield 27, 3, 0, 5, 0), (7, .iconst 0, 1, 0, 0, 0),
  (8, .istore_n 3, 1, 0, 0, 0), (9, .iload_n 3, 1, 0, 0, 0), (10, .iload_n 1, 1, 0, 0, 0), (11, .if_icmp .ge 61, 3, 72, 0, 0), (14, .aload_n 0, 1, 0, 0, 0), (15, .iload_n 2, 1, 0, 0, 0),
  (16, .iload_n 3, 1, 0, 0, 0), (17, .iload_n 1, 1, 0, 0, 0), (18, .invokevirtual 73, 3, 5, 3, 1), (21, .istore 4, 2, 0, 0, 0), (23, .aload_n 0, 1, 0, 0, 0), (24, .getfield 18, 3, 0, 2, 1),
  (27, .iload_n 3, 1, 0, 0, 0), (28, .iload 4, 2, 0, 0, 0), (30, .iastore, 1, 0, 0, 0), (31, .aload_n 0, 1, 0, 0, 0), (32, .dup, 1, 0, 0, 0), (33, .getfield 27, 3, 0, 5, 0),
  (36, .aload_n 0, 1, 0, 0, 0), (37, .getfield 21, 3, 0, 3, 1), (40, .iload_n 3, 1, 0, 0, 0), (41, .iaload, 1, 0, 0, 0), (42, .iload 4, 2, 0, 0, 0), (44, .ishr, 1, 0, 0, 0),
  (45, .iconst 1, 1, 0, 0, 0), (46, .iand, 1, 0, 0, 0), (47, .ifCond .ne 7, 3, 54, 0, 0), (50, .iconst 1, 1, 0, 0, 0), (51, .goto 4, 3, 55, 0, 0), (54, .iconst 0, 1, 0, 0, 0),
  (55, .iadd, 1, 0, 0, 0), (56, .putfield 27, 3, 0, 5, 0), (59, .iload_n 2, 1, 0, 0, 0), (60, .iconst 1, 1, 0, 0, 0), (61, .iload 4, 2, 0, 0, 0), (63, .ishl, 1, 0, 0, 0),
  (64, .ior, 1, 0, 0, 0), (65, .istore_n 2, 1, 0, 0, 0), (66, .iinc 3 1, 3, 0, 0, 0), (69, .goto (-60), 3, 9, 0, 0), (72, .return_, 1, 0, 0, 0)]
def ct_X0_dealOut : List Nat := [9]
def cd_X0_lowestOfLeast : List nl_E := [(0, .iconst 0, 1, 0, 0, 0), (1, .istore 4, 2, 0, 0, 0), (3, .iload 4, 2, 0, 0, 0), (5, .iload_n 3, 1, 0, 0, 0), (6, .if_icmp .ge 38, 3, 44, 0, 0), (9, .iload_n 1, 1, 0, 0, 0),
  (10, .iload 4, 2, 0, 0, 0), (12, .ishr, 1, 0, 0, 0), (13, .iconst 1, 1, 0, 0, 0), (14, .iand, 1, 0, 0, 0), (15, .ifCond .ne 23, 3, 38, 0, 0), (18, .aload_n 0, 1, 0, 0, 0),
  (19, .iload_n 1, 1, 0, 0, 0), (20, .iload_n 2, 1, 0, 0, 0), (21, .iload 4, 2, 0, 0, 0), (23, .invokevirtual 64, 3, 3, 3, 1), (26, .aload_n 0, 1, 0, 0, 0), (27, .getfield 15, 3, 0, 1, 1),
  (30, .iload_n 1, 1, 0, 0, 0), (31, .iaload, 1, 0, 0, 0), (32, .if_icmp .ne 6, 3, 38, 0, 0), (35, .iload 4, 2, 0, 0, 0), (37, .ireturn, 1, 0, 0, 0), (38, .iinc 4 1, 3, 0, 0, 0),
  (41, .goto (-38), 3, 3, 0, 0), (44, .iconst 0, 1, 0, 0, 0), (45, .ireturn, 1, 0, 0, 0)]
def ct_X0_lowestOfLeast : List Nat := [3]
def cd_X0_fewestSwaps : List nl_E := [(0, .iconst 0, 1, 0, 0, 0), (1, .istore_n 2, 1, 0, 0, 0), (2, .iload_n 2, 1, 0, 0, 0), (3, .aload_n 1, 1, 0, 0, 0), (4, .getfield 35, 3, 4, 0, 0), (7, .if_icmp .ge 21, 3, 28, 0, 0),
  (10, .aload_n 0, 1, 0, 0, 0), (11, .getfield 24, 3, 0, 4, 1), (14, .iload_n 2, 1, 0, 0, 0), (15, .aload_n 1, 1, 0, 0, 0), (16, .getfield 76, 3, 4, 8, 1), (19, .iload_n 2, 1, 0, 0, 0),
  (20, .iaload, 1, 0, 0, 0), (21, .iastore, 1, 0, 0, 0), (22, .iinc 2 1, 3, 0, 0, 0), (25, .goto (-23), 3, 2, 0, 0), (28, .iconst 0, 1, 0, 0, 0), (29, .istore_n 2, 1, 0, 0, 0),
  (30, .iload_n 2, 1, 0, 0, 0), (31, .aload_n 1, 1, 0, 0, 0), (32, .getfield 35, 3, 4, 0, 0), (35, .if_icmp .ge 31, 3, 66, 0, 0), (38, .aload_n 0, 1, 0, 0, 0), (39, .getfield 24, 3, 0, 4, 1),
  (42, .aload_n 0, 1, 0, 0, 0), (43, .getfield 21, 3, 0, 3, 1), (46, .aload_n 1, 1, 0, 0, 0), (47, .getfield 35, 3, 4, 0, 0), (50, .iconst 0, 1, 0, 0, 0), (51, .iload_n 2, 1, 0, 0, 0),
  (52, .invokestatic 79, 3, 7, 5, 1), (55, .ifCond .eq 5, 3, 60, 0, 0), (58, .iload_n 2, 1, 0, 0, 0), (59, .ireturn, 1, 0, 0, 0), (60, .iinc 2 1, 3, 0, 0, 0), (63, .goto (-33), 3, 30, 0, 0),
  (66, .bipush (-4), 2, 0, 0, 0), (68, .ireturn, 1, 0, 0, 0)]
def ct_X0_fewestSwaps : List Nat := [2, 30]
def cd_X0_canBridge : List nl_E := [(0, .iload_n 3, 1, 0, 0, 0), (1, .iload_n 2, 1, 0, 0, 0), (2, .if_icmp .lt 5, 3, 7, 0, 0), (5, .iconst 1, 1, 0, 0, 0), (6, .ireturn, 1, 0, 0, 0), (7, .iload 4, 2, 0, 0, 0),
  (9, .ifCond .le 9, 3, 18, 0, 0), (12, .iload_n 2, 1, 0, 0, 0), (13, .iconst 1, 1, 0, 0, 0), (14, .isub, 1, 0, 0, 0), (15, .goto 4, 3, 19, 0, 0), (18, .iload_n 3, 1, 0, 0, 0),
  (19, .istore 5, 2, 0, 0, 0), (21, .iload_n 3, 1, 0, 0, 0), (22, .istore 6, 2, 0, 0, 0), (24, .iload 6, 2, 0, 0, 0), (26, .iload 5, 2, 0, 0, 0), (28, .if_icmp .gt 77, 3, 105, 0, 0),
  (31, .aload_n 0, 1, 0, 0, 0), (32, .iload_n 3, 1, 0, 0, 0), (33, .iload 6, 2, 0, 0, 0), (35, .invokestatic 83, 3, 8, 3, 0), (38, .aload_n 1, 1, 0, 0, 0), (39, .iload_n 3, 1, 0, 0, 0),
  (40, .iaload, 1, 0, 0, 0), (41, .aload_n 0, 1, 0, 0, 0), (42, .iload_n 3, 1, 0, 0, 0), (43, .iaload, 1, 0, 0, 0), (44, .ishr, 1, 0, 0, 0), (45, .iconst 1, 1, 0, 0, 0),
  (46, .iand, 1, 0, 0, 0), (47, .iconst 1, 1, 0, 0, 0), (48, .if_icmp .ne 34, 3, 82, 0, 0), (51, .aload_n 0, 1, 0, 0, 0), (52, .aload_n 1, 1, 0, 0, 0), (53, .iload_n 2, 1, 0, 0, 0),
  (54, .iload_n 3, 1, 0, 0, 0), (55, .iconst 1, 1, 0, 0, 0), (56, .iadd, 1, 0, 0, 0), (57, .iload 6, 2, 0, 0, 0), (59, .iload_n 3, 1, 0, 0, 0), (60, .if_icmp .ne 8, 3, 68, 0, 0),
  (63, .iload 4, 2, 0, 0, 0), (65, .goto 7, 3, 72, 0, 0), (68, .iload 4, 2, 0, 0, 0), (70, .iconst 1, 1, 0, 0, 0), (71, .isub, 1, 0, 0, 0), (72, .invokestatic 79, 3, 7, 5, 1),
  (75, .ifCond .eq 7, 3, 82, 0, 0), (78, .iconst 1, 1, 0, 0, 0), (79, .goto 4, 3, 83, 0, 0), (82, .iconst 0, 1, 0, 0, 0), (83, .istore 7, 2, 0, 0, 0), (85, .aload_n 0, 1, 0, 0, 0),
  (86, .iload_n 3, 1, 0, 0, 0), (87, .iload 6, 2, 0, 0, 0), (89, .invokestatic 83, 3, 8, 3, 0), (92, .iload 7, 2, 0, 0, 0), (94, .ifCond .eq 5, 3, 99, 0, 0), (97, .iconst 1, 1, 0, 0, 0),
  (98, .ireturn, 1, 0, 0, 0), (99, .iinc 6 1, 3, 0, 0, 0), (102, .goto (-78), 3, 24, 0, 0), (105, .iconst 0, 1, 0, 0, 0), (106, .ireturn, 1, 0, 0, 0)]
def ct_X0_canBridge : List Nat := [24]
def cd_X0_exchange : List nl_E := [(0, .aload_n 0, 1, 0, 0, 0), (1, .iload_n 1, 1, 0, 0, 0), (2, .iaload, 1, 0, 0, 0), (3, .istore_n 3, 1, 0, 0, 0), (4, .aload_n 0, 1, 0, 0, 0), (5, .iload_n 1, 1, 0, 0, 0),
  (6, .aload_n 0, 1, 0, 0, 0), (7, .iload_n 2, 1, 0, 0, 0), (8, .iaload, 1, 0, 0, 0), (9, .iastore, 1, 0, 0, 0), (10, .aload_n 0, 1, 0, 0, 0), (11, .iload_n 2, 1, 0, 0, 0),
  (12, .iload_n 3, 1, 0, 0, 0), (13, .iastore, 1, 0, 0, 0), (14, .return_, 1, 0, 0, 0)]
def ct_X0_exchange : List Nat := []
def cd_X1_read : List nl_E := [(0, .aload_n 0, 1, 0, 0, 0), (1, .iconst 0, 1, 0, 0, 0), (2, .putfield 27, 3, 1, 5, 0), (5, .aload_n 0, 1, 0, 0, 0), (6, .iconst 0, 1, 0, 0, 0), (7, .putfield 31, 3, 1, 6, 0),
  (10, .aload_n 0, 1, 0, 0, 0), (11, .iconst (-1), 1, 0, 0, 0), (12, .putfield 34, 3, 1, 7, 0), (15, .iconst 0, 1, 0, 0, 0), (16, .istore_n 3, 1, 0, 0, 0), (17, .iload_n 3, 1, 0, 0, 0),
  (18, .iload_n 2, 1, 0, 0, 0), (19, .if_icmp .ge 30, 3, 49, 0, 0), (22, .aload_n 0, 1, 0, 0, 0), (23, .aload_n 1, 1, 0, 0, 0), (24, .iload_n 2, 1, 0, 0, 0), (25, .iload_n 3, 1, 0, 0, 0),
  (26, .invokevirtual 37, 3, 11, 3, 5), (29, .istore 4, 2, 0, 0, 0), (31, .iload 4, 2, 0, 0, 0), (33, .iload_n 3, 1, 0, 0, 0), (34, .if_icmp .gt 9, 3, 43, 0, 0), (37, .aload_n 0, 1, 0, 0, 0),
  (38, .iload_n 3, 1, 0, 0, 0), (39, .putfield 34, 3, 1, 7, 0), (42, .return_, 1, 0, 0, 0), (43, .iload 4, 2, 0, 0, 0), (45, .istore_n 3, 1, 0, 0, 0), (46, .goto (-29), 3, 17, 0, 0),
  (49, .return_, 1, 0, 0, 0)]
def ct_X1_read : List Nat := [17]
def cd_X1_canBeLaid : List nl_E := [(0, .aload_n 0, 1, 0, 0, 0), (1, .getfield 34, 3, 1, 7, 0), (4, .iconst (-1), 1, 0, 0, 0), (5, .if_icmp .ne 26, 3, 31, 0, 0), (8, .aload_n 0, 1, 0, 0, 0), (9, .getfield 27, 3, 1, 5, 0),
  (12, .iconst 2, 1, 0, 0, 0), (13, .if_icmp .lt 18, 3, 31, 0, 0), (16, .aload_n 0, 1, 0, 0, 0), (17, .getfield 27, 3, 1, 5, 0), (20, .aload_n 0, 1, 0, 0, 0), (21, .getfield 31, 3, 1, 6, 0),
  (24, .if_icmp .ne 7, 3, 31, 0, 0), (27, .iconst 1, 1, 0, 0, 0), (28, .goto 4, 3, 32, 0, 0), (31, .iconst 0, 1, 0, 0, 0), (32, .ireturn, 1, 0, 0, 0)]
def ct_X1_canBeLaid : List Nat := []
def cd_X1_readItem : List nl_E := [(0, .aload_n 1, 1, 0, 0, 0), (1, .iload_n 3, 1, 0, 0, 0), (2, .iaload, 1, 0, 0, 0), (3, .bipush 110, 2, 0, 0, 0), (5, .if_icmp .ne 7, 3, 12, 0, 0), (8, .iconst 1, 1, 0, 0, 0),
  (9, .goto 4, 3, 13, 0, 0), (12, .iconst 0, 1, 0, 0, 0), (13, .istore 4, 2, 0, 0, 0), (15, .iload 4, 2, 0, 0, 0), (17, .ifCond .ne 13, 3, 30, 0, 0), (20, .aload_n 1, 1, 0, 0, 0),
  (21, .iload_n 3, 1, 0, 0, 0), (22, .iaload, 1, 0, 0, 0), (23, .bipush 104, 2, 0, 0, 0), (25, .if_icmp .eq 5, 3, 30, 0, 0), (28, .iconst (-1), 1, 0, 0, 0), (29, .ireturn, 1, 0, 0, 0),
  (30, .iload 4, 2, 0, 0, 0), (32, .ifCond .eq 7, 3, 39, 0, 0), (35, .iconst 1, 1, 0, 0, 0), (36, .goto 4, 3, 40, 0, 0), (39, .iconst 3, 1, 0, 0, 0), (40, .istore 5, 2, 0, 0, 0),
  (42, .iload_n 3, 1, 0, 0, 0), (43, .iconst 1, 1, 0, 0, 0), (44, .iadd, 1, 0, 0, 0), (45, .istore 6, 2, 0, 0, 0), (47, .iconst 0, 1, 0, 0, 0), (48, .istore 7, 2, 0, 0, 0),
  (50, .iload 7, 2, 0, 0, 0), (52, .iload 5, 2, 0, 0, 0), (54, .if_icmp .ge 69, 3, 123, 0, 0), (57, .aload_n 0, 1, 0, 0, 0), (58, .aload_n 1, 1, 0, 0, 0), (59, .iload_n 2, 1, 0, 0, 0),
  (60, .iload 6, 2, 0, 0, 0), (62, .iload 7, 2, 0, 0, 0), (64, .invokevirtual 41, 3, 12, 4, 5), (67, .istore 8, 2, 0, 0, 0), (69, .iload 7, 2, 0, 0, 0), (71, .iload 5, 2, 0, 0, 0),
  (73, .iconst 1, 1, 0, 0, 0), (74, .isub, 1, 0, 0, 0), (75, .if_icmp .ne 8, 3, 83, 0, 0), (78, .bipush 59, 2, 0, 0, 0), (80, .goto 5, 3, 85, 0, 0), (83, .bipush 44, 2, 0, 0, 0),
  (85, .istore 9, 2, 0, 0, 0), (87, .iload 8, 2, 0, 0, 0), (89, .iload 6, 2, 0, 0, 0), (91, .if_icmp .le 18, 3, 109, 0, 0), (94, .iload 8, 2, 0, 0, 0), (96, .iload_n 2, 1, 0, 0, 0),
  (97, .if_icmp .ge 12, 3, 109, 0, 0), (100, .aload_n 1, 1, 0, 0, 0), (101, .iload 8, 2, 0, 0, 0), (103, .iaload, 1, 0, 0, 0), (104, .iload 9, 2, 0, 0, 0), (106, .if_icmp .eq 5, 3, 111, 0, 0),
  (109, .iconst (-1), 1, 0, 0, 0), (110, .ireturn, 1, 0, 0, 0), (111, .iload 8, 2, 0, 0, 0), (113, .iconst 1, 1, 0, 0, 0), (114, .iadd, 1, 0, 0, 0), (115, .istore 6, 2, 0, 0, 0),
  (117, .iinc 7 1, 3, 0, 0, 0), (120, .goto (-70), 3, 50, 0, 0), (123, .iload 4, 2, 0, 0, 0), (125, .ifCond .eq 10, 3, 135, 0, 0), (128, .aload_n 0, 1, 0, 0, 0), (129, .invokevirtual 45, 3, 13, 0, 5),
  (132, .goto 7, 3, 139, 0, 0), (135, .aload_n 0, 1, 0, 0, 0), (136, .invokevirtual 49, 3, 14, 0, 5), (139, .istore 7, 2, 0, 0, 0), (141, .iload 7, 2, 0, 0, 0), (143, .ifCond .eq 8, 3, 151, 0, 0),
  (146, .iload 6, 2, 0, 0, 0), (148, .goto 4, 3, 152, 0, 0), (151, .iconst (-1), 1, 0, 0, 0), (152, .ireturn, 1, 0, 0, 0)]
def ct_X1_readItem : List Nat := [50]
def cd_X1_readNumber : List nl_E := [(0, .iconst 0, 1, 0, 0, 0), (1, .istore 5, 2, 0, 0, 0), (3, .iload_n 3, 1, 0, 0, 0), (4, .istore 6, 2, 0, 0, 0), (6, .iload 6, 2, 0, 0, 0), (8, .iload_n 2, 1, 0, 0, 0),
  (9, .if_icmp .ge 46, 3, 55, 0, 0), (12, .iload 6, 2, 0, 0, 0), (14, .iload_n 3, 1, 0, 0, 0), (15, .iconst 2, 1, 0, 0, 0), (16, .iadd, 1, 0, 0, 0), (17, .if_icmp .ge 38, 3, 55, 0, 0),
  (20, .aload_n 1, 1, 0, 0, 0), (21, .iload 6, 2, 0, 0, 0), (23, .iaload, 1, 0, 0, 0), (24, .bipush 48, 2, 0, 0, 0), (26, .bipush 57, 2, 0, 0, 0), (28, .invokestatic 52, 3, 71, 3, 1),
  (31, .ifCond .eq 24, 3, 55, 0, 0), (34, .iload 5, 2, 0, 0, 0), (36, .bipush 10, 2, 0, 0, 0), (38, .imul, 1, 0, 0, 0), (39, .aload_n 1, 1, 0, 0, 0), (40, .iload 6, 2, 0, 0, 0),
  (42, .iaload, 1, 0, 0, 0), (43, .iadd, 1, 0, 0, 0), (44, .bipush 48, 2, 0, 0, 0), (46, .isub, 1, 0, 0, 0), (47, .istore 5, 2, 0, 0, 0), (49, .iinc 6 1, 3, 0, 0, 0),
  (52, .goto (-46), 3, 6, 0, 0), (55, .aload_n 0, 1, 0, 0, 0), (56, .getfield 24, 3, 1, 4, 1), (59, .iload 4, 2, 0, 0, 0), (61, .iload 5, 2, 0, 0, 0), (63, .iastore, 1, 0, 0, 0),
  (64, .iload 6, 2, 0, 0, 0), (66, .ireturn, 1, 0, 0, 0)]
def ct_X1_readNumber : List Nat := [6]
def cd_X1_addHour : List nl_E := [(0, .aload_n 0, 1, 0, 0, 0), (1, .getfield 27, 3, 1, 5, 0), (4, .bipush 7, 2, 0, 0, 0), (6, .if_icmp .ge 14, 3, 20, 0, 0), (9, .aload_n 0, 1, 0, 0, 0), (10, .getfield 24, 3, 1, 4, 1),
  (13, .iconst 0, 1, 0, 0, 0), (14, .iaload, 1, 0, 0, 0), (15, .bipush 20, 2, 0, 0, 0), (17, .if_icmp .le 5, 3, 22, 0, 0), (20, .iconst 0, 1, 0, 0, 0), (21, .ireturn, 1, 0, 0, 0),
  (22, .aload_n 0, 1, 0, 0, 0), (23, .getfield 9, 3, 1, 0, 1), (26, .aload_n 0, 1, 0, 0, 0), (27, .getfield 27, 3, 1, 5, 0), (30, .aload_n 0, 1, 0, 0, 0), (31, .getfield 24, 3, 1, 4, 1),
  (34, .iconst 0, 1, 0, 0, 0), (35, .iaload, 1, 0, 0, 0), (36, .iastore, 1, 0, 0, 0), (37, .aload_n 0, 1, 0, 0, 0), (38, .dup, 1, 0, 0, 0), (39, .getfield 27, 3, 1, 5, 0),
  (42, .iconst 1, 1, 0, 0, 0), (43, .iadd, 1, 0, 0, 0), (44, .putfield 27, 3, 1, 5, 0), (47, .iconst 1, 1, 0, 0, 0), (48, .ireturn, 1, 0, 0, 0)]
def ct_X1_addHour : List Nat := []
def cd_X1_addHouse : List nl_E := [(0, .aload_n 0, 1, 0, 0, 0), (1, .getfield 31, 3, 1, 6, 0), (4, .aload_n 0, 1, 0, 0, 0), (5, .getfield 27, 3, 1, 5, 0), (8, .if_icmp .ge 35, 3, 43, 0, 0), (11, .aload_n 0, 1, 0, 0, 0),
  (12, .getfield 24, 3, 1, 4, 1), (15, .iconst 0, 1, 0, 0, 0), (16, .iaload, 1, 0, 0, 0), (17, .iconst 3, 1, 0, 0, 0), (18, .if_icmp .gt 25, 3, 43, 0, 0), (21, .aload_n 0, 1, 0, 0, 0),
  (22, .getfield 24, 3, 1, 4, 1), (25, .iconst 1, 1, 0, 0, 0), (26, .iaload, 1, 0, 0, 0), (27, .bipush 40, 2, 0, 0, 0), (29, .if_icmp .gt 14, 3, 43, 0, 0), (32, .aload_n 0, 1, 0, 0, 0),
  (33, .getfield 24, 3, 1, 4, 1), (36, .iconst 2, 1, 0, 0, 0), (37, .iaload, 1, 0, 0, 0), (38, .bipush 99, 2, 0, 0, 0), (40, .if_icmp .le 5, 3, 45, 0, 0), (43, .iconst 0, 1, 0, 0, 0),
  (44, .ireturn, 1, 0, 0, 0), (45, .aload_n 0, 1, 0, 0, 0), (46, .getfield 15, 3, 1, 1, 1), (49, .aload_n 0, 1, 0, 0, 0), (50, .getfield 31, 3, 1, 6, 0), (53, .aload_n 0, 1, 0, 0, 0),
  (54, .getfield 24, 3, 1, 4, 1), (57, .iconst 0, 1, 0, 0, 0), (58, .iaload, 1, 0, 0, 0), (59, .iastore, 1, 0, 0, 0), (60, .aload_n 0, 1, 0, 0, 0), (61, .getfield 18, 3, 1, 2, 1),
  (64, .aload_n 0, 1, 0, 0, 0), (65, .getfield 31, 3, 1, 6, 0), (68, .aload_n 0, 1, 0, 0, 0), (69, .getfield 24, 3, 1, 4, 1), (72, .iconst 1, 1, 0, 0, 0), (73, .iaload, 1, 0, 0, 0),
  (74, .iastore, 1, 0, 0, 0), (75, .aload_n 0, 1, 0, 0, 0), (76, .getfield 21, 3, 1, 3, 1), (79, .aload_n 0, 1, 0, 0, 0), (80, .getfield 31, 3, 1, 6, 0), (83, .aload_n 0, 1, 0, 0, 0),
  (84, .getfield 24, 3, 1, 4, 1), (87, .iconst 2, 1, 0, 0, 0), (88, .iaload, 1, 0, 0, 0), (89, .iastore, 1, 0, 0, 0), (90, .aload_n 0, 1, 0, 0, 0), (91, .dup, 1, 0, 0, 0),
  (92, .getfield 31, 3, 1, 6, 0), (95, .iconst 1, 1, 0, 0, 0), (96, .iadd, 1, 0, 0, 0), (97, .putfield 31, 3, 1, 6, 0), (100, .iconst 1, 1, 0, 0, 0), (101, .ireturn, 1, 0, 0, 0)]
def ct_X1_addHouse : List Nat := []
def cd_X2_clear : List nl_E := [(0, .aload_n 0, 1, 0, 0, 0), (1, .iconst 0, 1, 0, 0, 0), (2, .putfield 7, 3, 2, 1, 0), (5, .return_, 1, 0, 0, 0)]
def ct_X2_clear : List Nat := []
def cd_X2_put : List nl_E := [(0, .aload_n 0, 1, 0, 0, 0), (1, .getfield 7, 3, 2, 1, 0), (4, .aload_n 0, 1, 0, 0, 0), (5, .getfield 21, 3, 2, 0, 1), (8, .arraylength, 1, 0, 0, 0), (9, .if_icmp .lt 7, 3, 16, 0, 0),
  (12, .aload_n 0, 1, 0, 0, 0), (13, .invokevirtual 26, 3, 17, 0, 8), (16, .aload_n 0, 1, 0, 0, 0), (17, .getfield 21, 3, 2, 0, 1), (20, .aload_n 0, 1, 0, 0, 0), (21, .getfield 7, 3, 2, 1, 0),
  (24, .aaload, 1, 0, 0, 0), (25, .aload_n 1, 1, 0, 0, 0), (26, .invokevirtual 29, 3, 24, 1, 16), (29, .aload_n 0, 1, 0, 0, 0), (30, .dup, 1, 0, 0, 0), (31, .getfield 7, 3, 2, 1, 0),
  (34, .iconst 1, 1, 0, 0, 0), (35, .iadd, 1, 0, 0, 0), (36, .putfield 7, 3, 2, 1, 0), (39, .return_, 1, 0, 0, 0)]
def ct_X2_put : List Nat := []
def cd_X2_dropOldest : List nl_E := [(0, .aload_n 0, 1, 0, 0, 0), (1, .getfield 21, 3, 2, 0, 1), (4, .iconst 0, 1, 0, 0, 0), (5, .aaload, 1, 0, 0, 0), (6, .astore_n 1, 1, 0, 0, 0), (7, .iconst 1, 1, 0, 0, 0),
  (8, .istore_n 2, 1, 0, 0, 0), (9, .iload_n 2, 1, 0, 0, 0), (10, .aload_n 0, 1, 0, 0, 0), (11, .getfield 21, 3, 2, 0, 1), (14, .arraylength, 1, 0, 0, 0), (15, .if_icmp .ge 23, 3, 38, 0, 0),
  (18, .aload_n 0, 1, 0, 0, 0), (19, .getfield 21, 3, 2, 0, 1), (22, .iload_n 2, 1, 0, 0, 0), (23, .iconst 1, 1, 0, 0, 0), (24, .isub, 1, 0, 0, 0), (25, .aload_n 0, 1, 0, 0, 0),
  (26, .getfield 21, 3, 2, 0, 1), (29, .iload_n 2, 1, 0, 0, 0), (30, .aaload, 1, 0, 0, 0), (31, .aastore, 1, 0, 0, 0), (32, .iinc 2 1, 3, 0, 0, 0), (35, .goto (-26), 3, 9, 0, 0),
  (38, .aload_n 0, 1, 0, 0, 0), (39, .getfield 21, 3, 2, 0, 1), (42, .aload_n 0, 1, 0, 0, 0), (43, .getfield 21, 3, 2, 0, 1), (46, .arraylength, 1, 0, 0, 0), (47, .iconst 1, 1, 0, 0, 0),
  (48, .isub, 1, 0, 0, 0), (49, .aload_n 1, 1, 0, 0, 0), (50, .aastore, 1, 0, 0, 0), (51, .aload_n 0, 1, 0, 0, 0), (52, .aload_n 0, 1, 0, 0, 0), (53, .getfield 21, 3, 2, 0, 1),
  (56, .arraylength, 1, 0, 0, 0), (57, .iconst 1, 1, 0, 0, 0), (58, .isub, 1, 0, 0, 0), (59, .putfield 7, 3, 2, 1, 0), (62, .return_, 1, 0, 0, 0)]
def ct_X2_dropOldest : List Nat := [9]
def cd_X2_takeInto : List nl_E := [(0, .aload_n 0, 1, 0, 0, 0), (1, .getfield 7, 3, 2, 1, 0), (4, .iconst 1, 1, 0, 0, 0), (5, .if_icmp .ge 5, 3, 10, 0, 0), (8, .iconst 0, 1, 0, 0, 0), (9, .ireturn, 1, 0, 0, 0),
  (10, .aload_n 0, 1, 0, 0, 0), (11, .dup, 1, 0, 0, 0), (12, .getfield 7, 3, 2, 1, 0), (15, .iconst 1, 1, 0, 0, 0), (16, .isub, 1, 0, 0, 0), (17, .putfield 7, 3, 2, 1, 0),
  (20, .aload_n 1, 1, 0, 0, 0), (21, .aload_n 0, 1, 0, 0, 0), (22, .getfield 21, 3, 2, 0, 1), (25, .aload_n 0, 1, 0, 0, 0), (26, .getfield 7, 3, 2, 1, 0), (29, .aaload, 1, 0, 0, 0),
  (30, .invokevirtual 29, 3, 24, 1, 16), (33, .iconst 1, 1, 0, 0, 0), (34, .ireturn, 1, 0, 0, 0)]
def ct_X2_takeInto : List Nat := []
def cd_X3_clear : List nl_E := [(0, .aload_n 0, 1, 0, 0, 0), (1, .iconst 0, 1, 0, 0, 0), (2, .putfield 22, 3, 3, 3, 0), (5, .return_, 1, 0, 0, 0)]
def ct_X3_clear : List Nat := []
def cd_X3_add : List nl_E := [(0, .aload_n 0, 1, 0, 0, 0), (1, .getfield 22, 3, 3, 3, 0), (4, .bipush 6, 2, 0, 0, 0), (6, .if_icmp .ge 43, 3, 49, 0, 0), (9, .aload_n 0, 1, 0, 0, 0), (10, .getfield 9, 3, 3, 0, 1),
  (13, .aload_n 0, 1, 0, 0, 0), (14, .getfield 22, 3, 3, 3, 0), (17, .iload_n 1, 1, 0, 0, 0), (18, .iastore, 1, 0, 0, 0), (19, .aload_n 0, 1, 0, 0, 0), (20, .getfield 15, 3, 3, 1, 1),
  (23, .aload_n 0, 1, 0, 0, 0), (24, .getfield 22, 3, 3, 3, 0), (27, .iload_n 2, 1, 0, 0, 0), (28, .iastore, 1, 0, 0, 0), (29, .aload_n 0, 1, 0, 0, 0), (30, .getfield 18, 3, 3, 2, 1),
  (33, .aload_n 0, 1, 0, 0, 0), (34, .getfield 22, 3, 3, 3, 0), (37, .iload_n 3, 1, 0, 0, 0), (38, .bastore, 1, 0, 0, 0), (39, .aload_n 0, 1, 0, 0, 0), (40, .dup, 1, 0, 0, 0),
  (41, .getfield 22, 3, 3, 3, 0), (44, .iconst 1, 1, 0, 0, 0), (45, .iadd, 1, 0, 0, 0), (46, .putfield 22, 3, 3, 3, 0), (49, .return_, 1, 0, 0, 0)]
def ct_X3_add : List Nat := []
def cd_X3_lastNight : List nl_E := [(0, .iconst (-1), 1, 0, 0, 0), (1, .istore_n 1, 1, 0, 0, 0), (2, .iconst 0, 1, 0, 0, 0), (3, .istore_n 2, 1, 0, 0, 0), (4, .iload_n 2, 1, 0, 0, 0), (5, .aload_n 0, 1, 0, 0, 0),
  (6, .getfield 22, 3, 3, 3, 0), (9, .if_icmp .ge 20, 3, 29, 0, 0), (12, .iload_n 1, 1, 0, 0, 0), (13, .aload_n 0, 1, 0, 0, 0), (14, .getfield 9, 3, 3, 0, 1), (17, .iload_n 2, 1, 0, 0, 0),
  (18, .iaload, 1, 0, 0, 0), (19, .invokestatic 26, 3, 0, 0, 3), (22, .istore_n 1, 1, 0, 0, 0), (23, .iinc 2 1, 3, 0, 0, 0), (26, .goto (-22), 3, 4, 0, 0), (29, .iload_n 1, 1, 0, 0, 0),
  (30, .ireturn, 1, 0, 0, 0)]
def ct_X3_lastNight : List Nat := [4]
def cd_X3_fit : List nl_E := [(0, .iconst 0, 1, 0, 0, 0), (1, .istore_n 3, 1, 0, 0, 0), (2, .iload_n 3, 1, 0, 0, 0), (3, .aload_n 0, 1, 0, 0, 0), (4, .getfield 22, 3, 3, 3, 0), (7, .if_icmp .ge 40, 3, 47, 0, 0),
  (10, .aload_n 0, 1, 0, 0, 0), (11, .getfield 9, 3, 3, 0, 1), (14, .iload_n 3, 1, 0, 0, 0), (15, .iaload, 1, 0, 0, 0), (16, .iload_n 2, 1, 0, 0, 0), (17, .if_icmp .ne 24, 3, 41, 0, 0),
  (20, .aload_n 1, 1, 0, 0, 0), (21, .aload_n 0, 1, 0, 0, 0), (22, .getfield 15, 3, 3, 1, 1), (25, .iload_n 3, 1, 0, 0, 0), (26, .iaload, 1, 0, 0, 0), (27, .invokevirtual 32, 3, 32, 1, 17),
  (30, .aload_n 0, 1, 0, 0, 0), (31, .getfield 18, 3, 3, 2, 1), (34, .iload_n 3, 1, 0, 0, 0), (35, .baload, 1, 0, 0, 0), (36, .if_icmp .eq 5, 3, 41, 0, 0), (39, .iconst 0, 1, 0, 0, 0),
  (40, .ireturn, 1, 0, 0, 0), (41, .iinc 3 1, 3, 0, 0, 0), (44, .goto (-42), 3, 2, 0, 0), (47, .iconst 1, 1, 0, 0, 0), (48, .ireturn, 1, 0, 0, 0)]
def ct_X3_fit : List Nat := [2]
def cd_X4_settle : List nl_E := [(0, .aload_n 0, 1, 0, 0, 0), (1, .aload_n 1, 1, 0, 0, 0), (2, .getfield 46, 3, 1, 6, 0), (5, .bipush 7, 2, 0, 0, 0), (7, .invokestatic 49, 3, 0, 0, 4), (10, .putfield 9, 3, 4, 0, 0),
  (13, .aload_n 0, 1, 0, 0, 0), (14, .iconst 0, 1, 0, 0, 0), (15, .putfield 15, 3, 4, 1, 0), (18, .aload_n 0, 1, 0, 0, 0), (19, .iconst 0, 1, 0, 0, 0), (20, .putfield 18, 3, 4, 2, 0),
  (23, .iconst 0, 1, 0, 0, 0), (24, .istore_n 2, 1, 0, 0, 0), (25, .iload_n 2, 1, 0, 0, 0), (26, .bipush 7, 2, 0, 0, 0), (28, .if_icmp .ge 78, 3, 106, 0, 0), (31, .aload_n 0, 1, 0, 0, 0),
  (32, .getfield 21, 3, 4, 3, 1), (35, .iload_n 2, 1, 0, 0, 0), (36, .aload_n 1, 1, 0, 0, 0), (37, .getfield 55, 3, 1, 0, 1), (40, .iload_n 2, 1, 0, 0, 0), (41, .iaload, 1, 0, 0, 0),
  (42, .iastore, 1, 0, 0, 0), (43, .aload_n 0, 1, 0, 0, 0), (44, .getfield 25, 3, 4, 4, 1), (47, .iload_n 2, 1, 0, 0, 0), (48, .aload_n 1, 1, 0, 0, 0), (49, .getfield 56, 3, 1, 1, 1),
  (52, .iload_n 2, 1, 0, 0, 0), (53, .iaload, 1, 0, 0, 0), (54, .iastore, 1, 0, 0, 0), (55, .aload_n 0, 1, 0, 0, 0), (56, .getfield 28, 3, 4, 5, 1), (59, .iload_n 2, 1, 0, 0, 0),
  (60, .aload_n 1, 1, 0, 0, 0), (61, .getfield 57, 3, 1, 2, 1), (64, .iload_n 2, 1, 0, 0, 0), (65, .iaload, 1, 0, 0, 0), (66, .iastore, 1, 0, 0, 0), (67, .aload_n 0, 1, 0, 0, 0),
  (68, .getfield 31, 3, 4, 6, 1), (71, .iload_n 2, 1, 0, 0, 0), (72, .aload_n 1, 1, 0, 0, 0), (73, .getfield 58, 3, 1, 3, 1), (76, .iload_n 2, 1, 0, 0, 0), (77, .iaload, 1, 0, 0, 0),
  (78, .iastore, 1, 0, 0, 0), (79, .aload_n 0, 1, 0, 0, 0), (80, .getfield 34, 3, 4, 7, 1), (83, .iload_n 2, 1, 0, 0, 0), (84, .iconst 0, 1, 0, 0, 0), (85, .iastore, 1, 0, 0, 0),
  (86, .aload_n 0, 1, 0, 0, 0), (87, .getfield 37, 3, 4, 8, 1), (90, .iload_n 2, 1, 0, 0, 0), (91, .iload_n 2, 1, 0, 0, 0), (92, .iastore, 1, 0, 0, 0), (93, .aload_n 0, 1, 0, 0, 0),
  (94, .getfield 40, 3, 4, 9, 1), (97, .iload_n 2, 1, 0, 0, 0), (98, .iconst 0, 1, 0, 0, 0), (99, .iastore, 1, 0, 0, 0), (100, .iinc 2 1, 3, 0, 0, 0), (103, .goto (-78), 3, 25, 0, 0),
  (106, .iconst 0, 1, 0, 0, 0), (107, .istore_n 2, 1, 0, 0, 0), (108, .iload_n 2, 1, 0, 0, 0), (109, .aload_n 0, 1, 0, 0, 0), (110, .getfield 43, 3, 4, 10, 1), (113, .arraylength, 1, 0, 0, 0),
  (114, .if_icmp .ge 16, 3, 130, 0, 0), (117, .aload_n 0, 1, 0, 0, 0), (118, .getfield 43, 3, 4, 10, 1), (121, .iload_n 2, 1, 0, 0, 0), (122, .iconst 0, 1, 0, 0, 0), (123, .iastore, 1, 0, 0, 0),
  (124, .iinc 2 1, 3, 0, 0, 0), (127, .goto (-19), 3, 108, 0, 0), (130, .return_, 1, 0, 0, 0)]
def ct_X4_settle : List Nat := [25, 108]
def cd_X4_copyFrom : List nl_E := [(0, .aload_n 0, 1, 0, 0, 0), (1, .aload_n 1, 1, 0, 0, 0), (2, .getfield 9, 3, 4, 0, 0), (5, .putfield 9, 3, 4, 0, 0), (8, .aload_n 0, 1, 0, 0, 0), (9, .aload_n 1, 1, 0, 0, 0),
  (10, .getfield 15, 3, 4, 1, 0), (13, .putfield 15, 3, 4, 1, 0), (16, .aload_n 0, 1, 0, 0, 0), (17, .aload_n 1, 1, 0, 0, 0), (18, .getfield 18, 3, 4, 2, 0), (21, .putfield 18, 3, 4, 2, 0),
  (24, .iconst 0, 1, 0, 0, 0), (25, .istore_n 2, 1, 0, 0, 0), (26, .iload_n 2, 1, 0, 0, 0), (27, .bipush 7, 2, 0, 0, 0), (29, .if_icmp .ge 93, 3, 122, 0, 0), (32, .aload_n 0, 1, 0, 0, 0),
  (33, .getfield 21, 3, 4, 3, 1), (36, .iload_n 2, 1, 0, 0, 0), (37, .aload_n 1, 1, 0, 0, 0), (38, .getfield 21, 3, 4, 3, 1), (41, .iload_n 2, 1, 0, 0, 0), (42, .iaload, 1, 0, 0, 0),
  (43, .iastore, 1, 0, 0, 0), (44, .aload_n 0, 1, 0, 0, 0), (45, .getfield 25, 3, 4, 4, 1), (48, .iload_n 2, 1, 0, 0, 0), (49, .aload_n 1, 1, 0, 0, 0), (50, .getfield 25, 3, 4, 4, 1),
  (53, .iload_n 2, 1, 0, 0, 0), (54, .iaload, 1, 0, 0, 0), (55, .iastore, 1, 0, 0, 0), (56, .aload_n 0, 1, 0, 0, 0), (57, .getfield 28, 3, 4, 5, 1), (60, .iload_n 2, 1, 0, 0, 0),
  (61, .aload_n 1, 1, 0, 0, 0), (62, .getfield 28, 3, 4, 5, 1), (65, .iload_n 2, 1, 0, 0, 0), (66, .iaload, 1, 0, 0, 0), (67, .iastore, 1, 0, 0, 0), (68, .aload_n 0, 1, 0, 0, 0),
  (69, .getfield 31, 3, 4, 6, 1), (72, .iload_n 2, 1, 0, 0, 0), (73, .aload_n 1, 1, 0, 0, 0), (74, .getfield 31, 3, 4, 6, 1), (77, .iload_n 2, 1, 0, 0, 0), (78, .iaload, 1, 0, 0, 0),
  (79, .iastore, 1, 0, 0, 0), (80, .aload_n 0, 1, 0, 0, 0), (81, .getfield 34, 3, 4, 7, 1), (84, .iload_n 2, 1, 0, 0, 0), (85, .aload_n 1, 1, 0, 0, 0), (86, .getfield 34, 3, 4, 7, 1),
  (89, .iload_n 2, 1, 0, 0, 0), (90, .iaload, 1, 0, 0, 0), (91, .iastore, 1, 0, 0, 0), (92, .aload_n 0, 1, 0, 0, 0), (93, .getfield 37, 3, 4, 8, 1), (96, .iload_n 2, 1, 0, 0, 0),
  (97, .aload_n 1, 1, 0, 0, 0), (98, .getfield 37, 3, 4, 8, 1), (101, .iload_n 2, 1, 0, 0, 0), (102, .iaload, 1, 0, 0, 0), (103, .iastore, 1, 0, 0, 0), (104, .aload_n 0, 1, 0, 0, 0),
  (105, .getfield 40, 3, 4, 9, 1), (108, .iload_n 2, 1, 0, 0, 0), (109, .aload_n 1, 1, 0, 0, 0), (110, .getfield 40, 3, 4, 9, 1), (113, .iload_n 2, 1, 0, 0, 0), (114, .iaload, 1, 0, 0, 0),
  (115, .iastore, 1, 0, 0, 0), (116, .iinc 2 1, 3, 0, 0, 0), (119, .goto (-93), 3, 26, 0, 0), (122, .iconst 0, 1, 0, 0, 0), (123, .istore_n 2, 1, 0, 0, 0), (124, .iload_n 2, 1, 0, 0, 0),
  (125, .aload_n 0, 1, 0, 0, 0), (126, .getfield 43, 3, 4, 10, 1), (129, .arraylength, 1, 0, 0, 0), (130, .if_icmp .ge 21, 3, 151, 0, 0), (133, .aload_n 0, 1, 0, 0, 0), (134, .getfield 43, 3, 4, 10, 1),
  (137, .iload_n 2, 1, 0, 0, 0), (138, .aload_n 1, 1, 0, 0, 0), (139, .getfield 43, 3, 4, 10, 1), (142, .iload_n 2, 1, 0, 0, 0), (143, .iaload, 1, 0, 0, 0), (144, .iastore, 1, 0, 0, 0),
  (145, .iinc 2 1, 3, 0, 0, 0), (148, .goto (-24), 3, 124, 0, 0), (151, .return_, 1, 0, 0, 0)]
def ct_X4_copyFrom : List Nat := [26, 124]
def cd_X4_isHouse : List nl_E := [(0, .iload_n 1, 1, 0, 0, 0), (1, .ifCond .lt 15, 3, 16, 0, 0), (4, .iload_n 1, 1, 0, 0, 0), (5, .aload_n 0, 1, 0, 0, 0), (6, .getfield 9, 3, 4, 0, 0), (9, .if_icmp .ge 7, 3, 16, 0, 0),
  (12, .iconst 1, 1, 0, 0, 0), (13, .goto 4, 3, 17, 0, 0), (16, .iconst 0, 1, 0, 0, 0), (17, .ireturn, 1, 0, 0, 0)]
def ct_X4_isHouse : List Nat := []
def cd_X4_isHour : List nl_E := [(0, .iload_n 1, 1, 0, 0, 0), (1, .ifCond .lt 15, 3, 16, 0, 0), (4, .iload_n 1, 1, 0, 0, 0), (5, .aload_n 0, 1, 0, 0, 0), (6, .getfield 9, 3, 4, 0, 0), (9, .if_icmp .ge 7, 3, 16, 0, 0),
  (12, .iconst 1, 1, 0, 0, 0), (13, .goto 4, 3, 17, 0, 0), (16, .iconst 0, 1, 0, 0, 0), (17, .ireturn, 1, 0, 0, 0)]
def ct_X4_isHour : List Nat := []
def cd_X4_houseWith : List nl_E := [(0, .iconst 0, 1, 0, 0, 0), (1, .istore_n 2, 1, 0, 0, 0), (2, .iload_n 2, 1, 0, 0, 0), (3, .aload_n 0, 1, 0, 0, 0), (4, .getfield 9, 3, 4, 0, 0), (7, .if_icmp .ge 21, 3, 28, 0, 0),
  (10, .aload_n 0, 1, 0, 0, 0), (11, .getfield 37, 3, 4, 8, 1), (14, .iload_n 2, 1, 0, 0, 0), (15, .iaload, 1, 0, 0, 0), (16, .iload_n 1, 1, 0, 0, 0), (17, .if_icmp .ne 5, 3, 22, 0, 0),
  (20, .iload_n 2, 1, 0, 0, 0), (21, .ireturn, 1, 0, 0, 0), (22, .iinc 2 1, 3, 0, 0, 0), (25, .goto (-23), 3, 2, 0, 0), (28, .iconst (-1), 1, 0, 0, 0), (29, .ireturn, 1, 0, 0, 0)]
def ct_X4_houseWith : List Nat := [2]
def cd_X4_timesHad : List nl_E := [(0, .aload_n 0, 1, 0, 0, 0), (1, .getfield 43, 3, 4, 10, 1), (4, .iload_n 1, 1, 0, 0, 0), (5, .bipush 7, 2, 0, 0, 0), (7, .imul, 1, 0, 0, 0), (8, .iload_n 2, 1, 0, 0, 0),
  (9, .iadd, 1, 0, 0, 0), (10, .iaload, 1, 0, 0, 0), (11, .ireturn, 1, 0, 0, 0)]
def ct_X4_timesHad : List Nat := []
def cd_X4_heaviness : List nl_E := [(0, .aload_n 0, 1, 0, 0, 0), (1, .getfield 21, 3, 4, 3, 1), (4, .iload_n 2, 1, 0, 0, 0), (5, .iaload, 1, 0, 0, 0), (6, .istore_n 3, 1, 0, 0, 0), (7, .aload_n 0, 1, 0, 0, 0),
  (8, .getfield 25, 3, 4, 4, 1), (11, .iload_n 1, 1, 0, 0, 0), (12, .iaload, 1, 0, 0, 0), (13, .tableswitch 74 1 3 #[27, 31, 48], 27, 87, 64008232, 3), (40, .iconst 2, 1, 0, 0, 0), (41, .iload_n 3, 1, 0, 0, 0),
  (42, .imul, 1, 0, 0, 0), (43, .ireturn, 1, 0, 0, 0), (44, .iload_n 2, 1, 0, 0, 0), (45, .aload_n 0, 1, 0, 0, 0), (46, .iload_n 1, 1, 0, 0, 0), (47, .invokevirtual 59, 3, 30, 1, 17),
  (50, .if_icmp .ne 9, 3, 59, 0, 0), (53, .iload_n 3, 1, 0, 0, 0), (54, .iconst 2, 1, 0, 0, 0), (55, .idiv, 1, 0, 0, 0), (56, .goto 4, 3, 60, 0, 0), (59, .iload_n 3, 1, 0, 0, 0),
  (60, .ireturn, 1, 0, 0, 0), (61, .iload_n 2, 1, 0, 0, 0), (62, .ifCond .eq 13, 3, 75, 0, 0), (65, .iload_n 2, 1, 0, 0, 0), (66, .aload_n 0, 1, 0, 0, 0), (67, .getfield 9, 3, 4, 0, 0),
  (70, .iconst 1, 1, 0, 0, 0), (71, .isub, 1, 0, 0, 0), (72, .if_icmp .ne 13, 3, 85, 0, 0), (75, .iload_n 3, 1, 0, 0, 0), (76, .iconst 3, 1, 0, 0, 0), (77, .isub, 1, 0, 0, 0),
  (78, .iconst 0, 1, 0, 0, 0), (79, .invokestatic 63, 3, 0, 0, 3), (82, .goto 4, 3, 86, 0, 0), (85, .iload_n 3, 1, 0, 0, 0), (86, .ireturn, 1, 0, 0, 0), (87, .iload_n 3, 1, 0, 0, 0),
  (88, .ireturn, 1, 0, 0, 0)]
def ct_X4_heaviness : List Nat := []
def cd_X4_hourHadMost : List nl_E := [(0, .iconst 0, 1, 0, 0, 0), (1, .istore_n 2, 1, 0, 0, 0), (2, .iconst (-1), 1, 0, 0, 0), (3, .istore_n 3, 1, 0, 0, 0), (4, .iconst 0, 1, 0, 0, 0), (5, .istore 4, 2, 0, 0, 0),
  (7, .iload 4, 2, 0, 0, 0), (9, .aload_n 0, 1, 0, 0, 0), (10, .getfield 9, 3, 4, 0, 0), (13, .if_icmp .ge 35, 3, 48, 0, 0), (16, .aload_n 0, 1, 0, 0, 0), (17, .getfield 43, 3, 4, 10, 1),
  (20, .iload_n 1, 1, 0, 0, 0), (21, .bipush 7, 2, 0, 0, 0), (23, .imul, 1, 0, 0, 0), (24, .iload 4, 2, 0, 0, 0), (26, .iadd, 1, 0, 0, 0), (27, .iaload, 1, 0, 0, 0),
  (28, .istore 5, 2, 0, 0, 0), (30, .iload 5, 2, 0, 0, 0), (32, .iload_n 2, 1, 0, 0, 0), (33, .if_icmp .le 9, 3, 42, 0, 0), (36, .iload 5, 2, 0, 0, 0), (38, .istore_n 2, 1, 0, 0, 0),
  (39, .iload 4, 2, 0, 0, 0), (41, .istore_n 3, 1, 0, 0, 0), (42, .iinc 4 1, 3, 0, 0, 0), (45, .goto (-38), 3, 7, 0, 0), (48, .iload_n 3, 1, 0, 0, 0), (49, .ireturn, 1, 0, 0, 0)]
def ct_X4_hourHadMost : List Nat := [7]
def cd_X4_wouldKeep : List nl_E := [(0, .aload_n 0, 1, 0, 0, 0), (1, .iload_n 1, 1, 0, 0, 0), (2, .iload_n 2, 1, 0, 0, 0), (3, .invokevirtual 66, 3, 29, 2, 17), (6, .aload_n 0, 1, 0, 0, 0), (7, .getfield 28, 3, 4, 5, 1),
  (10, .iload_n 1, 1, 0, 0, 0), (11, .iaload, 1, 0, 0, 0), (12, .iload_n 3, 1, 0, 0, 0), (13, .isub, 1, 0, 0, 0), (14, .if_icmp .gt 7, 3, 21, 0, 0), (17, .iconst 1, 1, 0, 0, 0),
  (18, .goto 4, 3, 22, 0, 0), (21, .iconst 0, 1, 0, 0, 0), (22, .ireturn, 1, 0, 0, 0)]
def ct_X4_wouldKeep : List Nat := []
def cd_X4_isGapAt : List nl_E := [(0, .aload_n 0, 1, 0, 0, 0), (1, .iload_n 1, 1, 0, 0, 0), (2, .invokevirtual 69, 3, 27, 1, 17), (5, .istore_n 2, 1, 0, 0, 0), (6, .iload_n 2, 1, 0, 0, 0), (7, .iconst (-1), 1, 0, 0, 0),
  (8, .if_icmp .eq 22, 3, 30, 0, 0), (11, .aload_n 0, 1, 0, 0, 0), (12, .iload_n 2, 1, 0, 0, 0), (13, .iload_n 1, 1, 0, 0, 0), (14, .aload_n 0, 1, 0, 0, 0), (15, .getfield 34, 3, 4, 7, 1),
  (18, .iload_n 2, 1, 0, 0, 0), (19, .iaload, 1, 0, 0, 0), (20, .invokevirtual 72, 3, 31, 3, 17), (23, .ifCond .ne 7, 3, 30, 0, 0), (26, .iconst 1, 1, 0, 0, 0), (27, .goto 4, 3, 31, 0, 0),
  (30, .iconst 0, 1, 0, 0, 0), (31, .ireturn, 1, 0, 0, 0)]
def ct_X4_isGapAt : List Nat := []
def cd_X4_seeThrough : List nl_E := [(0, .aload_n 0, 1, 0, 0, 0), (1, .getfield 37, 3, 4, 8, 1), (4, .iload_n 1, 1, 0, 0, 0), (5, .iaload, 1, 0, 0, 0), (6, .istore_n 2, 1, 0, 0, 0), (7, .aload_n 0, 1, 0, 0, 0),
  (8, .iload_n 2, 1, 0, 0, 0), (9, .invokevirtual 76, 3, 26, 1, 17), (12, .ifCond .ne 5, 3, 17, 0, 0), (15, .iconst 1, 1, 0, 0, 0), (16, .ireturn, 1, 0, 0, 0), (17, .aload_n 0, 1, 0, 0, 0),
  (18, .iload_n 1, 1, 0, 0, 0), (19, .iload_n 2, 1, 0, 0, 0), (20, .aload_n 0, 1, 0, 0, 0), (21, .getfield 34, 3, 4, 7, 1), (24, .iload_n 1, 1, 0, 0, 0), (25, .iaload, 1, 0, 0, 0),
  (26, .invokevirtual 72, 3, 31, 3, 17), (29, .istore_n 3, 1, 0, 0, 0), (30, .iload_n 3, 1, 0, 0, 0), (31, .ifCond .eq 25, 3, 56, 0, 0), (34, .aload_n 0, 1, 0, 0, 0), (35, .getfield 34, 3, 4, 7, 1),
  (38, .iload_n 1, 1, 0, 0, 0), (39, .aload_n 0, 1, 0, 0, 0), (40, .getfield 34, 3, 4, 7, 1), (43, .iload_n 1, 1, 0, 0, 0), (44, .iaload, 1, 0, 0, 0), (45, .iconst 2, 1, 0, 0, 0),
  (46, .iadd, 1, 0, 0, 0), (47, .bipush 40, 2, 0, 0, 0), (49, .invokestatic 49, 3, 0, 0, 4), (52, .iastore, 1, 0, 0, 0), (53, .goto 31, 3, 84, 0, 0), (56, .aload_n 0, 1, 0, 0, 0),
  (57, .getfield 34, 3, 4, 7, 1), (60, .iload_n 1, 1, 0, 0, 0), (61, .aload_n 0, 1, 0, 0, 0), (62, .getfield 34, 3, 4, 7, 1), (65, .iload_n 1, 1, 0, 0, 0), (66, .iaload, 1, 0, 0, 0),
  (67, .iconst 3, 1, 0, 0, 0), (68, .isub, 1, 0, 0, 0), (69, .iconst 0, 1, 0, 0, 0), (70, .invokestatic 63, 3, 0, 0, 3), (73, .iastore, 1, 0, 0, 0), (74, .aload_n 0, 1, 0, 0, 0),
  (75, .getfield 40, 3, 4, 9, 1), (78, .iload_n 1, 1, 0, 0, 0), (79, .dup2, 1, 0, 0, 0), (80, .iaload, 1, 0, 0, 0), (81, .iconst 1, 1, 0, 0, 0), (82, .iadd, 1, 0, 0, 0),
  (83, .iastore, 1, 0, 0, 0), (84, .aload_n 0, 1, 0, 0, 0), (85, .getfield 43, 3, 4, 10, 1), (88, .iload_n 1, 1, 0, 0, 0), (89, .bipush 7, 2, 0, 0, 0), (91, .imul, 1, 0, 0, 0),
  (92, .iload_n 2, 1, 0, 0, 0), (93, .iadd, 1, 0, 0, 0), (94, .dup2, 1, 0, 0, 0), (95, .iaload, 1, 0, 0, 0), (96, .iconst 1, 1, 0, 0, 0), (97, .iadd, 1, 0, 0, 0),
  (98, .iastore, 1, 0, 0, 0), (99, .aload_n 0, 1, 0, 0, 0), (100, .getfield 37, 3, 4, 8, 1), (103, .iload_n 1, 1, 0, 0, 0), (104, .iload_n 2, 1, 0, 0, 0), (105, .iconst 1, 1, 0, 0, 0),
  (106, .iadd, 1, 0, 0, 0), (107, .aload_n 0, 1, 0, 0, 0), (108, .getfield 9, 3, 4, 0, 0), (111, .if_icmp .ge 9, 3, 120, 0, 0), (114, .iload_n 2, 1, 0, 0, 0), (115, .iconst 1, 1, 0, 0, 0),
  (116, .iadd, 1, 0, 0, 0), (117, .goto 4, 3, 121, 0, 0), (120, .iconst 0, 1, 0, 0, 0), (121, .iastore, 1, 0, 0, 0), (122, .iload_n 3, 1, 0, 0, 0), (123, .ireturn, 1, 0, 0, 0)]
def ct_X4_seeThrough : List Nat := []
def cd_X4_letNightsPass : List nl_E := [(0, .iconst 0, 1, 0, 0, 0), (1, .istore_n 2, 1, 0, 0, 0), (2, .iconst 0, 1, 0, 0, 0), (3, .istore_n 3, 1, 0, 0, 0), (4, .iload_n 3, 1, 0, 0, 0), (5, .iload_n 1, 1, 0, 0, 0),
  (6, .if_icmp .ge 54, 3, 60, 0, 0), (9, .iconst 0, 1, 0, 0, 0), (10, .istore 4, 2, 0, 0, 0), (12, .iload 4, 2, 0, 0, 0), (14, .aload_n 0, 1, 0, 0, 0), (15, .getfield 9, 3, 4, 0, 0),
  (18, .if_icmp .ge 26, 3, 44, 0, 0), (21, .iload_n 2, 1, 0, 0, 0), (22, .aload_n 0, 1, 0, 0, 0), (23, .iload 4, 2, 0, 0, 0), (25, .invokevirtual 80, 3, 33, 1, 17), (28, .ifCond .eq 7, 3, 35, 0, 0),
  (31, .iconst 0, 1, 0, 0, 0), (32, .goto 4, 3, 36, 0, 0), (35, .iconst 1, 1, 0, 0, 0), (36, .iadd, 1, 0, 0, 0), (37, .istore_n 2, 1, 0, 0, 0), (38, .iinc 4 1, 3, 0, 0, 0),
  (41, .goto (-29), 3, 12, 0, 0), (44, .aload_n 0, 1, 0, 0, 0), (45, .dup, 1, 0, 0, 0), (46, .getfield 15, 3, 4, 1, 0), (49, .iconst 1, 1, 0, 0, 0), (50, .iadd, 1, 0, 0, 0),
  (51, .putfield 15, 3, 4, 1, 0), (54, .iinc 3 1, 3, 0, 0, 0), (57, .goto (-53), 3, 4, 0, 0), (60, .aload_n 0, 1, 0, 0, 0), (61, .dup, 1, 0, 0, 0), (62, .getfield 18, 3, 4, 2, 0),
  (65, .iload_n 2, 1, 0, 0, 0), (66, .iadd, 1, 0, 0, 0), (67, .putfield 18, 3, 4, 2, 0), (70, .iload_n 2, 1, 0, 0, 0), (71, .ireturn, 1, 0, 0, 0)]
def ct_X4_letNightsPass : List Nat := [4, 12]
def cd_X4_trade : List nl_E := [(0, .aload_n 0, 1, 0, 0, 0), (1, .getfield 37, 3, 4, 8, 1), (4, .iload_n 1, 1, 0, 0, 0), (5, .iaload, 1, 0, 0, 0), (6, .istore_n 3, 1, 0, 0, 0), (7, .aload_n 0, 1, 0, 0, 0),
  (8, .getfield 37, 3, 4, 8, 1), (11, .iload_n 1, 1, 0, 0, 0), (12, .aload_n 0, 1, 0, 0, 0), (13, .getfield 37, 3, 4, 8, 1), (16, .iload_n 2, 1, 0, 0, 0), (17, .iaload, 1, 0, 0, 0),
  (18, .iastore, 1, 0, 0, 0), (19, .aload_n 0, 1, 0, 0, 0), (20, .getfield 37, 3, 4, 8, 1), (23, .iload_n 2, 1, 0, 0, 0), (24, .iload_n 3, 1, 0, 0, 0), (25, .iastore, 1, 0, 0, 0),
  (26, .return_, 1, 0, 0, 0)]
def ct_X4_trade : List Nat := []
def cd_X4_giveRest : List nl_E := [(0, .aload_n 0, 1, 0, 0, 0), (1, .getfield 34, 3, 4, 7, 1), (4, .iload_n 1, 1, 0, 0, 0), (5, .aload_n 0, 1, 0, 0, 0), (6, .getfield 34, 3, 4, 7, 1), (9, .iload_n 1, 1, 0, 0, 0),
  (10, .iaload, 1, 0, 0, 0), (11, .iconst 5, 1, 0, 0, 0), (12, .isub, 1, 0, 0, 0), (13, .iconst 0, 1, 0, 0, 0), (14, .invokestatic 63, 3, 0, 0, 3), (17, .iastore, 1, 0, 0, 0),
  (18, .return_, 1, 0, 0, 0)]
def ct_X4_giveRest : List Nat := []
def cd_X4_setBurden : List nl_E := [(0, .aload_n 0, 1, 0, 0, 0), (1, .iload_n 1, 1, 0, 0, 0), (2, .invokevirtual 76, 3, 26, 1, 17), (5, .ifCond .eq 10, 3, 15, 0, 0), (8, .aload_n 0, 1, 0, 0, 0), (9, .getfield 21, 3, 4, 3, 1),
  (12, .iload_n 1, 1, 0, 0, 0), (13, .iload_n 2, 1, 0, 0, 0), (14, .iastore, 1, 0, 0, 0), (15, .return_, 1, 0, 0, 0)]
def ct_X4_setBurden : List Nat := []
def cd_X4_tiredTogether : List nl_E := [(0, .iconst 0, 1, 0, 0, 0), (1, .istore_n 1, 1, 0, 0, 0), (2, .iconst 0, 1, 0, 0, 0), (3, .istore_n 2, 1, 0, 0, 0), (4, .iload_n 2, 1, 0, 0, 0), (5, .aload_n 0, 1, 0, 0, 0),
  (6, .getfield 9, 3, 4, 0, 0), (9, .if_icmp .ge 18, 3, 27, 0, 0), (12, .iload_n 1, 1, 0, 0, 0), (13, .aload_n 0, 1, 0, 0, 0), (14, .getfield 34, 3, 4, 7, 1), (17, .iload_n 2, 1, 0, 0, 0),
  (18, .iaload, 1, 0, 0, 0), (19, .iadd, 1, 0, 0, 0), (20, .istore_n 1, 1, 0, 0, 0), (21, .iinc 2 1, 3, 0, 0, 0), (24, .goto (-20), 3, 4, 0, 0), (27, .iload_n 1, 1, 0, 0, 0),
  (28, .ireturn, 1, 0, 0, 0)]
def ct_X4_tiredTogether : List Nat := [4]
def cd_X4_handingOver : List nl_E := [(0, .iconst 0, 1, 0, 0, 0), (1, .istore_n 1, 1, 0, 0, 0), (2, .iconst 1, 1, 0, 0, 0), (3, .istore_n 2, 1, 0, 0, 0), (4, .iload_n 2, 1, 0, 0, 0), (5, .aload_n 0, 1, 0, 0, 0),
  (6, .getfield 9, 3, 4, 0, 0), (9, .if_icmp .ge 55, 3, 64, 0, 0), (12, .aload_n 0, 1, 0, 0, 0), (13, .iload_n 2, 1, 0, 0, 0), (14, .iconst 1, 1, 0, 0, 0), (15, .isub, 1, 0, 0, 0),
  (16, .invokevirtual 69, 3, 27, 1, 17), (19, .istore_n 3, 1, 0, 0, 0), (20, .aload_n 0, 1, 0, 0, 0), (21, .iload_n 2, 1, 0, 0, 0), (22, .invokevirtual 69, 3, 27, 1, 17), (25, .istore 4, 2, 0, 0, 0),
  (27, .iload_n 3, 1, 0, 0, 0), (28, .iconst (-1), 1, 0, 0, 0), (29, .if_icmp .eq 29, 3, 58, 0, 0), (32, .iload 4, 2, 0, 0, 0), (34, .iconst (-1), 1, 0, 0, 0), (35, .if_icmp .eq 23, 3, 58, 0, 0),
  (38, .iload_n 1, 1, 0, 0, 0), (39, .aload_n 0, 1, 0, 0, 0), (40, .getfield 31, 3, 4, 6, 1), (43, .iload 4, 2, 0, 0, 0), (45, .iaload, 1, 0, 0, 0), (46, .aload_n 0, 1, 0, 0, 0),
  (47, .getfield 31, 3, 4, 6, 1), (50, .iload_n 3, 1, 0, 0, 0), (51, .iaload, 1, 0, 0, 0), (52, .isub, 1, 0, 0, 0), (53, .invokestatic 83, 3, 0, 0, 5), (56, .iadd, 1, 0, 0, 0),
  (57, .istore_n 1, 1, 0, 0, 0), (58, .iinc 2 1, 3, 0, 0, 0), (61, .goto (-57), 3, 4, 0, 0), (64, .iload_n 1, 1, 0, 0, 0), (65, .ireturn, 1, 0, 0, 0)]
def ct_X4_handingOver : List Nat := [4]
def cd_X4_lengthOfRoad : List nl_E := [(0, .bipush 99, 2, 0, 0, 0), (2, .istore_n 1, 1, 0, 0, 0), (3, .iconst 0, 1, 0, 0, 0), (4, .istore_n 2, 1, 0, 0, 0), (5, .iconst 0, 1, 0, 0, 0), (6, .istore_n 3, 1, 0, 0, 0),
  (7, .iload_n 3, 1, 0, 0, 0), (8, .aload_n 0, 1, 0, 0, 0), (9, .getfield 9, 3, 4, 0, 0), (12, .if_icmp .ge 31, 3, 43, 0, 0), (15, .iload_n 1, 1, 0, 0, 0), (16, .aload_n 0, 1, 0, 0, 0),
  (17, .getfield 31, 3, 4, 6, 1), (20, .iload_n 3, 1, 0, 0, 0), (21, .iaload, 1, 0, 0, 0), (22, .invokestatic 49, 3, 0, 0, 4), (25, .istore_n 1, 1, 0, 0, 0), (26, .iload_n 2, 1, 0, 0, 0),
  (27, .aload_n 0, 1, 0, 0, 0), (28, .getfield 31, 3, 4, 6, 1), (31, .iload_n 3, 1, 0, 0, 0), (32, .iaload, 1, 0, 0, 0), (33, .invokestatic 63, 3, 0, 0, 3), (36, .istore_n 2, 1, 0, 0, 0),
  (37, .iinc 3 1, 3, 0, 0, 0), (40, .goto (-33), 3, 7, 0, 0), (43, .iload_n 2, 1, 0, 0, 0), (44, .iload_n 1, 1, 0, 0, 0), (45, .isub, 1, 0, 0, 0), (46, .iconst 0, 1, 0, 0, 0),
  (47, .invokestatic 63, 3, 0, 0, 3), (50, .ireturn, 1, 0, 0, 0)]
def ct_X4_lengthOfRoad : List Nat := [7]
def cd_X4_stir : List nl_E := [(0, .aload_n 0, 1, 0, 0, 0), (1, .getfield 9, 3, 4, 0, 0), (4, .iconst 1, 1, 0, 0, 0), (5, .if_icmp .lt 7, 3, 12, 0, 0), (8, .iload_n 1, 1, 0, 0, 0), (9, .ifCond .ge 4, 3, 13, 0, 0),
  (12, .return_, 1, 0, 0, 0), (13, .iload_n 1, 1, 0, 0, 0), (14, .aload_n 0, 1, 0, 0, 0), (15, .getfield 9, 3, 4, 0, 0), (18, .irem, 1, 0, 0, 0), (19, .istore_n 2, 1, 0, 0, 0),
  (20, .iload_n 1, 1, 0, 0, 0), (21, .bipush 8, 2, 0, 0, 0), (23, .idiv, 1, 0, 0, 0), (24, .aload_n 0, 1, 0, 0, 0), (25, .getfield 9, 3, 4, 0, 0), (28, .irem, 1, 0, 0, 0),
  (29, .istore_n 3, 1, 0, 0, 0), (30, .iload_n 1, 1, 0, 0, 0), (31, .bipush 64, 2, 0, 0, 0), (33, .idiv, 1, 0, 0, 0), (34, .iconst 4, 1, 0, 0, 0), (35, .irem, 1, 0, 0, 0),
  (36, .tableswitch 66 0 2 #[28, 37, 45], 28, 102, 85009472, 3), (64, .aload_n 0, 1, 0, 0, 0), (65, .iload_n 2, 1, 0, 0, 0), (66, .iload_n 3, 1, 0, 0, 0), (67, .invokevirtual 86, 3, 35, 2, 16), (70, .goto 32, 3, 102, 0, 0),
  (73, .aload_n 0, 1, 0, 0, 0), (74, .iload_n 2, 1, 0, 0, 0), (75, .invokevirtual 90, 3, 36, 1, 16), (78, .goto 24, 3, 102, 0, 0), (81, .aload_n 0, 1, 0, 0, 0), (82, .aload_n 0, 1, 0, 0, 0),
  (83, .getfield 37, 3, 4, 8, 1), (86, .iload_n 2, 1, 0, 0, 0), (87, .iaload, 1, 0, 0, 0), (88, .iload_n 1, 1, 0, 0, 0), (89, .sipush 256, 3, 0, 0, 0), (92, .idiv, 1, 0, 0, 0),
  (93, .bipush 21, 2, 0, 0, 0), (95, .irem, 1, 0, 0, 0), (96, .invokevirtual 94, 3, 37, 2, 16), (99, .goto 3, 3, 102, 0, 0), (102, .return_, 1, 0, 0, 0)]
def ct_X4_stir : List Nat := [30]
def cd_X5_write : List nl_E := [(0, .iload_n 1, 1, 0, 0, 0), (1, .bipush 32, 2, 0, 0, 0), (3, .bipush 126, 2, 0, 0, 0), (5, .invokestatic 82, 3, 71, 3, 1), (8, .ifCond .ne 5, 3, 13, 0, 0), (11, .iconst (-1), 1, 0, 0, 0),
  (12, .ireturn, 1, 0, 0, 0), (13, .aload_n 0, 1, 0, 0, 0), (14, .getfield 13, 3, 5, 1, 0), (17, .sipush 200, 3, 0, 0, 0), (20, .if_icmp .lt 6, 3, 26, 0, 0), (23, .bipush (-3), 2, 0, 0, 0),
  (25, .ireturn, 1, 0, 0, 0), (26, .aload_n 0, 1, 0, 0, 0), (27, .getfield 9, 3, 5, 0, 1), (30, .aload_n 0, 1, 0, 0, 0), (31, .getfield 13, 3, 5, 1, 0), (34, .iload_n 1, 1, 0, 0, 0),
  (35, .iastore, 1, 0, 0, 0), (36, .aload_n 0, 1, 0, 0, 0), (37, .dup, 1, 0, 0, 0), (38, .getfield 13, 3, 5, 1, 0), (41, .iconst 1, 1, 0, 0, 0), (42, .iadd, 1, 0, 0, 0),
  (43, .putfield 13, 3, 5, 1, 0), (46, .aload_n 0, 1, 0, 0, 0), (47, .getfield 13, 3, 5, 1, 0), (50, .ireturn, 1, 0, 0, 0)]
def ct_X5_write : List Nat := []
def cd_X5_wipe : List nl_E := [(0, .aload_n 0, 1, 0, 0, 0), (1, .getfield 13, 3, 5, 1, 0), (4, .istore_n 1, 1, 0, 0, 0), (5, .aload_n 0, 1, 0, 0, 0), (6, .iconst 0, 1, 0, 0, 0), (7, .putfield 13, 3, 5, 1, 0),
  (10, .iload_n 1, 1, 0, 0, 0), (11, .ireturn, 1, 0, 0, 0)]
def ct_X5_wipe : List Nat := []
def cd_X5_fault : List nl_E := [(0, .aload_n 0, 1, 0, 0, 0), (1, .getfield 20, 3, 5, 2, 34), (4, .aload_n 0, 1, 0, 0, 0), (5, .getfield 9, 3, 5, 0, 1), (8, .aload_n 0, 1, 0, 0, 0), (9, .getfield 13, 3, 5, 1, 0),
  (12, .invokevirtual 86, 3, 9, 2, 4), (15, .aload_n 0, 1, 0, 0, 0), (16, .getfield 20, 3, 5, 2, 34), (19, .getfield 90, 3, 1, 7, 0), (22, .iconst (-1), 1, 0, 0, 0), (23, .if_icmp .ne 8, 3, 31, 0, 0),
  (26, .bipush (-4), 2, 0, 0, 0), (28, .goto 10, 3, 38, 0, 0), (31, .aload_n 0, 1, 0, 0, 0), (32, .getfield 20, 3, 5, 2, 34), (35, .getfield 90, 3, 1, 7, 0), (38, .ireturn, 1, 0, 0, 0)]
def ct_X5_fault : List Nat := []
def cd_X5_lay : List nl_E := [(0, .aload_n 0, 1, 0, 0, 0), (1, .getfield 20, 3, 5, 2, 34), (4, .aload_n 0, 1, 0, 0, 0), (5, .getfield 9, 3, 5, 0, 1), (8, .aload_n 0, 1, 0, 0, 0), (9, .getfield 13, 3, 5, 1, 0),
  (12, .invokevirtual 86, 3, 9, 2, 4), (15, .aload_n 0, 1, 0, 0, 0), (16, .getfield 20, 3, 5, 2, 34), (19, .invokevirtual 93, 3, 10, 0, 5), (22, .ifCond .ne 6, 3, 28, 0, 0), (25, .bipush (-2), 2, 0, 0, 0),
  (27, .ireturn, 1, 0, 0, 0), (28, .aload_n 0, 1, 0, 0, 0), (29, .getfield 27, 3, 5, 3, 130), (32, .aload_n 0, 1, 0, 0, 0), (33, .getfield 20, 3, 5, 2, 34), (36, .invokevirtual 97, 3, 23, 1, 16),
  (39, .aload_n 0, 1, 0, 0, 0), (40, .getfield 39, 3, 5, 5, 66), (43, .invokevirtual 101, 3, 15, 0, 8), (46, .aload_n 0, 1, 0, 0, 0), (47, .getfield 43, 3, 5, 6, 67), (50, .invokevirtual 101, 3, 15, 0, 8),
  (53, .aload_n 0, 1, 0, 0, 0), (54, .getfield 49, 3, 5, 7, 98), (57, .invokevirtual 104, 3, 19, 0, 12), (60, .aload_n 0, 1, 0, 0, 0), (61, .getfield 27, 3, 5, 3, 130), (64, .getfield 105, 3, 4, 0, 0),
  (67, .ireturn, 1, 0, 0, 0)]
def ct_X5_lay : List Nat := []
def cd_X5_house : List nl_E := [(0, .aload_n 0, 1, 0, 0, 0), (1, .getfield 27, 3, 5, 3, 130), (4, .iload_n 1, 1, 0, 0, 0), (5, .invokevirtual 108, 3, 25, 1, 17), (8, .ifCond .ne 5, 3, 13, 0, 0), (11, .iconst (-1), 1, 0, 0, 0),
  (12, .ireturn, 1, 0, 0, 0), (13, .iload_n 2, 1, 0, 0, 0), (14, .tableswitch 98 0 5 #[38, 48, 58, 68, 78, 88], 38, 112, 114943033690093620, 6), (52, .aload_n 0, 1, 0, 0, 0), (53, .getfield 27, 3, 5, 3, 130), (56, .getfield 112, 3, 4, 4, 1),
  (59, .iload_n 1, 1, 0, 0, 0), (60, .iaload, 1, 0, 0, 0), (61, .ireturn, 1, 0, 0, 0), (62, .aload_n 0, 1, 0, 0, 0), (63, .getfield 27, 3, 5, 3, 130), (66, .getfield 115, 3, 4, 5, 1),
  (69, .iload_n 1, 1, 0, 0, 0), (70, .iaload, 1, 0, 0, 0), (71, .ireturn, 1, 0, 0, 0), (72, .aload_n 0, 1, 0, 0, 0), (73, .getfield 27, 3, 5, 3, 130), (76, .getfield 118, 3, 4, 6, 1),
  (79, .iload_n 1, 1, 0, 0, 0), (80, .iaload, 1, 0, 0, 0), (81, .ireturn, 1, 0, 0, 0), (82, .aload_n 0, 1, 0, 0, 0), (83, .getfield 27, 3, 5, 3, 130), (86, .getfield 121, 3, 4, 7, 1),
  (89, .iload_n 1, 1, 0, 0, 0), (90, .iaload, 1, 0, 0, 0), (91, .ireturn, 1, 0, 0, 0), (92, .aload_n 0, 1, 0, 0, 0), (93, .getfield 27, 3, 5, 3, 130), (96, .getfield 124, 3, 4, 8, 1),
  (99, .iload_n 1, 1, 0, 0, 0), (100, .iaload, 1, 0, 0, 0), (101, .ireturn, 1, 0, 0, 0), (102, .aload_n 0, 1, 0, 0, 0), (103, .getfield 27, 3, 5, 3, 130), (106, .getfield 127, 3, 4, 9, 1),
  (109, .iload_n 1, 1, 0, 0, 0), (110, .iaload, 1, 0, 0, 0), (111, .ireturn, 1, 0, 0, 0), (112, .iconst (-1), 1, 0, 0, 0), (113, .ireturn, 1, 0, 0, 0)]
def ct_X5_house : List Nat := []
def cd_X5_hour : List nl_E := [(0, .aload_n 0, 1, 0, 0, 0), (1, .getfield 27, 3, 5, 3, 130), (4, .iload_n 1, 1, 0, 0, 0), (5, .invokevirtual 130, 3, 26, 1, 17), (8, .ifCond .eq 12, 3, 20, 0, 0), (11, .iload_n 2, 1, 0, 0, 0),
  (12, .iconst 0, 1, 0, 0, 0), (13, .iconst 1, 1, 0, 0, 0), (14, .invokestatic 82, 3, 71, 3, 1), (17, .ifCond .ne 5, 3, 22, 0, 0), (20, .iconst (-1), 1, 0, 0, 0), (21, .ireturn, 1, 0, 0, 0),
  (22, .iload_n 2, 1, 0, 0, 0), (23, .ifCond .ne 15, 3, 38, 0, 0), (26, .aload_n 0, 1, 0, 0, 0), (27, .getfield 27, 3, 5, 3, 130), (30, .getfield 133, 3, 4, 3, 1), (33, .iload_n 1, 1, 0, 0, 0),
  (34, .iaload, 1, 0, 0, 0), (35, .goto 11, 3, 46, 0, 0), (38, .aload_n 0, 1, 0, 0, 0), (39, .getfield 27, 3, 5, 3, 130), (42, .iload_n 1, 1, 0, 0, 0), (43, .invokevirtual 136, 3, 27, 1, 17),
  (46, .ireturn, 1, 0, 0, 0)]
def ct_X5_hour : List Nat := []
def cd_X5_heavy : List nl_E := [(0, .aload_n 0, 1, 0, 0, 0), (1, .getfield 27, 3, 5, 3, 130), (4, .iload_n 1, 1, 0, 0, 0), (5, .invokevirtual 108, 3, 25, 1, 17), (8, .ifCond .eq 14, 3, 22, 0, 0), (11, .aload_n 0, 1, 0, 0, 0),
  (12, .getfield 27, 3, 5, 3, 130), (15, .iload_n 2, 1, 0, 0, 0), (16, .invokevirtual 130, 3, 26, 1, 17), (19, .ifCond .ne 5, 3, 24, 0, 0), (22, .iconst (-1), 1, 0, 0, 0), (23, .ireturn, 1, 0, 0, 0),
  (24, .aload_n 0, 1, 0, 0, 0), (25, .getfield 27, 3, 5, 3, 130), (28, .iload_n 1, 1, 0, 0, 0), (29, .iload_n 2, 1, 0, 0, 0), (30, .invokevirtual 139, 3, 29, 2, 17), (33, .ireturn, 1, 0, 0, 0)]
def ct_X5_heavy : List Nat := []
def cd_X5_had : List nl_E := [(0, .aload_n 0, 1, 0, 0, 0), (1, .getfield 27, 3, 5, 3, 130), (4, .iload_n 1, 1, 0, 0, 0), (5, .invokevirtual 108, 3, 25, 1, 17), (8, .ifCond .eq 14, 3, 22, 0, 0), (11, .aload_n 0, 1, 0, 0, 0),
  (12, .getfield 27, 3, 5, 3, 130), (15, .iload_n 2, 1, 0, 0, 0), (16, .invokevirtual 130, 3, 26, 1, 17), (19, .ifCond .ne 5, 3, 24, 0, 0), (22, .iconst (-1), 1, 0, 0, 0), (23, .ireturn, 1, 0, 0, 0),
  (24, .aload_n 0, 1, 0, 0, 0), (25, .getfield 27, 3, 5, 3, 130), (28, .iload_n 1, 1, 0, 0, 0), (29, .iload_n 2, 1, 0, 0, 0), (30, .invokevirtual 143, 3, 28, 2, 17), (33, .ireturn, 1, 0, 0, 0)]
def ct_X5_had : List Nat := []
def cd_X5_pass : List nl_E := [(0, .iload_n 1, 1, 0, 0, 0), (1, .iconst 1, 1, 0, 0, 0), (2, .bipush 20, 2, 0, 0, 0), (4, .invokestatic 82, 3, 71, 3, 1), (7, .ifCond .ne 5, 3, 12, 0, 0), (10, .iconst (-1), 1, 0, 0, 0),
  (11, .ireturn, 1, 0, 0, 0), (12, .aload_n 0, 1, 0, 0, 0), (13, .getfield 27, 3, 5, 3, 130), (16, .getfield 146, 3, 4, 1, 0), (19, .iload_n 1, 1, 0, 0, 0), (20, .iadd, 1, 0, 0, 0),
  (21, .sipush 999, 3, 0, 0, 0), (24, .if_icmp .le 6, 3, 30, 0, 0), (27, .bipush (-2), 2, 0, 0, 0), (29, .ireturn, 1, 0, 0, 0), (30, .aload_n 0, 1, 0, 0, 0), (31, .getfield 39, 3, 5, 5, 66),
  (34, .aload_n 0, 1, 0, 0, 0), (35, .getfield 27, 3, 5, 3, 130), (38, .invokevirtual 149, 3, 16, 1, 8), (41, .aload_n 0, 1, 0, 0, 0), (42, .getfield 27, 3, 5, 3, 130), (45, .iload_n 1, 1, 0, 0, 0),
  (46, .invokevirtual 153, 3, 34, 1, 17), (49, .ireturn, 1, 0, 0, 0)]
def ct_X5_pass : List Nat := []
def cd_X5_swap : List nl_E := [(0, .aload_n 0, 1, 0, 0, 0), (1, .getfield 27, 3, 5, 3, 130), (4, .iload_n 1, 1, 0, 0, 0), (5, .invokevirtual 108, 3, 25, 1, 17), (8, .ifCond .eq 19, 3, 27, 0, 0), (11, .aload_n 0, 1, 0, 0, 0),
  (12, .getfield 27, 3, 5, 3, 130), (15, .iload_n 2, 1, 0, 0, 0), (16, .invokevirtual 108, 3, 25, 1, 17), (19, .ifCond .eq 8, 3, 27, 0, 0), (22, .iload_n 1, 1, 0, 0, 0), (23, .iload_n 2, 1, 0, 0, 0),
  (24, .if_icmp .ne 5, 3, 29, 0, 0), (27, .iconst (-1), 1, 0, 0, 0), (28, .ireturn, 1, 0, 0, 0), (29, .aload_n 0, 1, 0, 0, 0), (30, .getfield 39, 3, 5, 5, 66), (33, .aload_n 0, 1, 0, 0, 0),
  (34, .getfield 27, 3, 5, 3, 130), (37, .invokevirtual 149, 3, 16, 1, 8), (40, .aload_n 0, 1, 0, 0, 0), (41, .getfield 27, 3, 5, 3, 130), (44, .iload_n 1, 1, 0, 0, 0), (45, .iload_n 2, 1, 0, 0, 0),
  (46, .invokevirtual 156, 3, 35, 2, 16), (49, .aload_n 0, 1, 0, 0, 0), (50, .getfield 27, 3, 5, 3, 130), (53, .getfield 124, 3, 4, 8, 1), (56, .iload_n 1, 1, 0, 0, 0), (57, .iaload, 1, 0, 0, 0),
  (58, .ireturn, 1, 0, 0, 0)]
def ct_X5_swap : List Nat := []
def cd_X5_rest : List nl_E := [(0, .aload_n 0, 1, 0, 0, 0), (1, .getfield 27, 3, 5, 3, 130), (4, .iload_n 1, 1, 0, 0, 0), (5, .invokevirtual 108, 3, 25, 1, 17), (8, .ifCond .ne 5, 3, 13, 0, 0), (11, .iconst (-1), 1, 0, 0, 0),
  (12, .ireturn, 1, 0, 0, 0), (13, .aload_n 0, 1, 0, 0, 0), (14, .getfield 27, 3, 5, 3, 130), (17, .getfield 121, 3, 4, 7, 1), (20, .iload_n 1, 1, 0, 0, 0), (21, .iaload, 1, 0, 0, 0),
  (22, .ifCond .ne 6, 3, 28, 0, 0), (25, .bipush (-2), 2, 0, 0, 0), (27, .ireturn, 1, 0, 0, 0), (28, .aload_n 0, 1, 0, 0, 0), (29, .getfield 39, 3, 5, 5, 66), (32, .aload_n 0, 1, 0, 0, 0),
  (33, .getfield 27, 3, 5, 3, 130), (36, .invokevirtual 149, 3, 16, 1, 8), (39, .aload_n 0, 1, 0, 0, 0), (40, .getfield 27, 3, 5, 3, 130), (43, .iload_n 1, 1, 0, 0, 0), (44, .invokevirtual 160, 3, 36, 1, 16),
  (47, .aload_n 0, 1, 0, 0, 0), (48, .getfield 27, 3, 5, 3, 130), (51, .getfield 121, 3, 4, 7, 1), (54, .iload_n 1, 1, 0, 0, 0), (55, .iaload, 1, 0, 0, 0), (56, .ireturn, 1, 0, 0, 0)]
def ct_X5_rest : List Nat := []
def cd_X5_burden : List nl_E := [(0, .aload_n 0, 1, 0, 0, 0), (1, .getfield 27, 3, 5, 3, 130), (4, .iload_n 1, 1, 0, 0, 0), (5, .invokevirtual 130, 3, 26, 1, 17), (8, .ifCond .eq 13, 3, 21, 0, 0), (11, .iload_n 2, 1, 0, 0, 0),
  (12, .iconst 0, 1, 0, 0, 0), (13, .bipush 20, 2, 0, 0, 0), (15, .invokestatic 82, 3, 71, 3, 1), (18, .ifCond .ne 5, 3, 23, 0, 0), (21, .iconst (-1), 1, 0, 0, 0), (22, .ireturn, 1, 0, 0, 0),
  (23, .aload_n 0, 1, 0, 0, 0), (24, .getfield 27, 3, 5, 3, 130), (27, .getfield 133, 3, 4, 3, 1), (30, .iload_n 1, 1, 0, 0, 0), (31, .iaload, 1, 0, 0, 0), (32, .istore_n 3, 1, 0, 0, 0),
  (33, .iload_n 3, 1, 0, 0, 0), (34, .iload_n 2, 1, 0, 0, 0), (35, .if_icmp .ne 6, 3, 41, 0, 0), (38, .bipush (-2), 2, 0, 0, 0), (40, .ireturn, 1, 0, 0, 0), (41, .aload_n 0, 1, 0, 0, 0),
  (42, .getfield 39, 3, 5, 5, 66), (45, .aload_n 0, 1, 0, 0, 0), (46, .getfield 27, 3, 5, 3, 130), (49, .invokevirtual 149, 3, 16, 1, 8), (52, .aload_n 0, 1, 0, 0, 0), (53, .getfield 27, 3, 5, 3, 130),
  (56, .iload_n 1, 1, 0, 0, 0), (57, .iload_n 2, 1, 0, 0, 0), (58, .invokevirtual 163, 3, 37, 2, 16), (61, .iload_n 3, 1, 0, 0, 0), (62, .ireturn, 1, 0, 0, 0)]
def ct_X5_burden : List Nat := []
def cd_X5_undo : List nl_E := [(0, .aload_n 0, 1, 0, 0, 0), (1, .getfield 39, 3, 5, 5, 66), (4, .aload_n 0, 1, 0, 0, 0), (5, .getfield 27, 3, 5, 3, 130), (8, .invokevirtual 166, 3, 18, 1, 9), (11, .ifCond .ne 6, 3, 17, 0, 0),
  (14, .bipush (-2), 2, 0, 0, 0), (16, .ireturn, 1, 0, 0, 0), (17, .aload_n 0, 1, 0, 0, 0), (18, .getfield 39, 3, 5, 5, 66), (21, .getfield 170, 3, 2, 1, 0), (24, .ireturn, 1, 0, 0, 0)]
def ct_X5_undo : List Nat := []
def cd_X5_behind : List nl_E := [(0, .iload_n 1, 1, 0, 0, 0), (1, .iconst 0, 1, 0, 0, 0), (2, .bipush 40, 2, 0, 0, 0), (4, .invokestatic 82, 3, 71, 3, 1), (7, .ifCond .eq 23, 3, 30, 0, 0), (10, .aload_n 0, 1, 0, 0, 0),
  (11, .getfield 27, 3, 5, 3, 130), (14, .iload_n 2, 1, 0, 0, 0), (15, .invokevirtual 108, 3, 25, 1, 17), (18, .ifCond .eq 12, 3, 30, 0, 0), (21, .iload_n 3, 1, 0, 0, 0), (22, .iconst 0, 1, 0, 0, 0),
  (23, .iconst 1, 1, 0, 0, 0), (24, .invokestatic 82, 3, 71, 3, 1), (27, .ifCond .ne 5, 3, 32, 0, 0), (30, .iconst (-1), 1, 0, 0, 0), (31, .ireturn, 1, 0, 0, 0), (32, .aload_n 0, 1, 0, 0, 0),
  (33, .getfield 31, 3, 5, 4, 131), (36, .aload_n 0, 1, 0, 0, 0), (37, .getfield 27, 3, 5, 3, 130), (40, .invokevirtual 173, 3, 24, 1, 16), (43, .aload_n 0, 1, 0, 0, 0), (44, .getfield 31, 3, 5, 4, 131),
  (47, .iload_n 1, 1, 0, 0, 0), (48, .invokevirtual 153, 3, 34, 1, 17), (51, .pop, 1, 0, 0, 0), (52, .iload_n 3, 1, 0, 0, 0), (53, .ifCond .ne 15, 3, 68, 0, 0), (56, .aload_n 0, 1, 0, 0, 0),
  (57, .getfield 31, 3, 5, 4, 131), (60, .getfield 121, 3, 4, 7, 1), (63, .iload_n 2, 1, 0, 0, 0), (64, .iaload, 1, 0, 0, 0), (65, .goto 12, 3, 77, 0, 0), (68, .aload_n 0, 1, 0, 0, 0),
  (69, .getfield 31, 3, 5, 4, 131), (72, .getfield 124, 3, 4, 8, 1), (75, .iload_n 2, 1, 0, 0, 0), (76, .iaload, 1, 0, 0, 0), (77, .ireturn, 1, 0, 0, 0)]
def ct_X5_behind : List Nat := []
def cd_X5_gaps : List nl_E := [(0, .iconst 0, 1, 0, 0, 0), (1, .istore_n 1, 1, 0, 0, 0), (2, .iconst 0, 1, 0, 0, 0), (3, .istore_n 2, 1, 0, 0, 0), (4, .iload_n 2, 1, 0, 0, 0), (5, .aload_n 0, 1, 0, 0, 0),
  (6, .getfield 27, 3, 5, 3, 130), (9, .getfield 105, 3, 4, 0, 0), (12, .if_icmp .ge 26, 3, 38, 0, 0), (15, .aload_n 0, 1, 0, 0, 0), (16, .getfield 27, 3, 5, 3, 130), (19, .iload_n 2, 1, 0, 0, 0),
  (20, .invokevirtual 176, 3, 32, 1, 17), (23, .ifCond .eq 9, 3, 32, 0, 0), (26, .iload_n 1, 1, 0, 0, 0), (27, .iconst 1, 1, 0, 0, 0), (28, .iload_n 2, 1, 0, 0, 0), (29, .ishl, 1, 0, 0, 0),
  (30, .ior, 1, 0, 0, 0), (31, .istore_n 1, 1, 0, 0, 0), (32, .iinc 2 1, 3, 0, 0, 0), (35, .goto (-31), 3, 4, 0, 0), (38, .iload_n 1, 1, 0, 0, 0), (39, .ireturn, 1, 0, 0, 0)]
def ct_X5_gaps : List Nat := [4]
def cd_X5_first : List nl_E := [(0, .aload_n 0, 1, 0, 0, 0), (1, .getfield 27, 3, 5, 3, 130), (4, .iload_n 1, 1, 0, 0, 0), (5, .invokevirtual 108, 3, 25, 1, 17), (8, .ifCond .ne 5, 3, 13, 0, 0), (11, .iconst (-1), 1, 0, 0, 0),
  (12, .ireturn, 1, 0, 0, 0), (13, .aload_n 0, 1, 0, 0, 0), (14, .getfield 31, 3, 5, 4, 131), (17, .aload_n 0, 1, 0, 0, 0), (18, .getfield 27, 3, 5, 3, 130), (21, .invokevirtual 173, 3, 24, 1, 16),
  (24, .aload_n 0, 1, 0, 0, 0), (25, .iload_n 1, 1, 0, 0, 0), (26, .bipush 40, 2, 0, 0, 0), (28, .invokevirtual 179, 3, 74, 2, 21), (31, .istore_n 2, 1, 0, 0, 0), (32, .iload_n 2, 1, 0, 0, 0),
  (33, .iconst (-1), 1, 0, 0, 0), (34, .if_icmp .ne 8, 3, 42, 0, 0), (37, .bipush (-4), 2, 0, 0, 0), (39, .goto 4, 3, 43, 0, 0), (42, .iload_n 2, 1, 0, 0, 0), (43, .ireturn, 1, 0, 0, 0)]
def ct_X5_first : List Nat := []
def cd_X5_even : List nl_E := [(0, .iload_n 1, 1, 0, 0, 0), (1, .iconst (-1), 1, 0, 0, 0), (2, .if_icmp .eq 16, 3, 18, 0, 0), (5, .aload_n 0, 1, 0, 0, 0), (6, .getfield 27, 3, 5, 3, 130), (9, .iload_n 1, 1, 0, 0, 0),
  (10, .invokevirtual 108, 3, 25, 1, 17), (13, .ifCond .ne 5, 3, 18, 0, 0), (16, .iconst (-1), 1, 0, 0, 0), (17, .ireturn, 1, 0, 0, 0), (18, .aload_n 0, 1, 0, 0, 0), (19, .getfield 56, 3, 5, 8, 2),
  (22, .aload_n 0, 1, 0, 0, 0), (23, .getfield 27, 3, 5, 3, 130), (26, .invokevirtual 182, 3, 0, 1, 0), (29, .iload_n 1, 1, 0, 0, 0), (30, .iconst (-1), 1, 0, 0, 0), (31, .if_icmp .ne 13, 3, 44, 0, 0),
  (34, .aload_n 0, 1, 0, 0, 0), (35, .getfield 56, 3, 5, 8, 2), (38, .getfield 185, 3, 0, 5, 0), (41, .goto 12, 3, 53, 0, 0), (44, .aload_n 0, 1, 0, 0, 0), (45, .getfield 56, 3, 5, 8, 2),
  (48, .getfield 188, 3, 0, 2, 1), (51, .iload_n 1, 1, 0, 0, 0), (52, .iaload, 1, 0, 0, 0), (53, .ireturn, 1, 0, 0, 0)]
def ct_X5_even : List Nat := []
def cd_X5_swaps : List nl_E := [(0, .aload_n 0, 1, 0, 0, 0), (1, .getfield 56, 3, 5, 8, 2), (4, .aload_n 0, 1, 0, 0, 0), (5, .getfield 27, 3, 5, 3, 130), (8, .invokevirtual 182, 3, 0, 1, 0), (11, .aload_n 0, 1, 0, 0, 0),
  (12, .getfield 56, 3, 5, 8, 2), (15, .getfield 185, 3, 0, 5, 0), (18, .ifCond .le 6, 3, 24, 0, 0), (21, .bipush (-4), 2, 0, 0, 0), (23, .ireturn, 1, 0, 0, 0), (24, .aload_n 0, 1, 0, 0, 0),
  (25, .getfield 56, 3, 5, 8, 2), (28, .aload_n 0, 1, 0, 0, 0), (29, .getfield 27, 3, 5, 3, 130), (32, .invokevirtual 191, 3, 6, 1, 1), (35, .ireturn, 1, 0, 0, 0)]
def ct_X5_swaps : List Nat := []
def cd_X5_far : List nl_E := [(0, .iload_n 1, 1, 0, 0, 0), (1, .iconst 0, 1, 0, 0, 0), (2, .iconst 1, 1, 0, 0, 0), (3, .invokestatic 82, 3, 71, 3, 1), (6, .ifCond .ne 5, 3, 11, 0, 0), (9, .iconst (-1), 1, 0, 0, 0),
  (10, .ireturn, 1, 0, 0, 0), (11, .iload_n 1, 1, 0, 0, 0), (12, .ifCond .ne 13, 3, 25, 0, 0), (15, .aload_n 0, 1, 0, 0, 0), (16, .getfield 27, 3, 5, 3, 130), (19, .invokevirtual 195, 3, 39, 0, 17),
  (22, .goto 10, 3, 32, 0, 0), (25, .aload_n 0, 1, 0, 0, 0), (26, .getfield 27, 3, 5, 3, 130), (29, .invokevirtual 198, 3, 40, 0, 17), (32, .ireturn, 1, 0, 0, 0)]
def ct_X5_far : List Nat := []
def cd_X5_lamps : List nl_E := [(0, .iload_n 1, 1, 0, 0, 0), (1, .iconst 1, 1, 0, 0, 0), (2, .bipush 40, 2, 0, 0, 0), (4, .invokestatic 82, 3, 71, 3, 1), (7, .ifCond .eq 12, 3, 19, 0, 0), (10, .iload_n 2, 1, 0, 0, 0),
  (11, .iconst 0, 1, 0, 0, 0), (12, .iconst 1, 1, 0, 0, 0), (13, .invokestatic 82, 3, 71, 3, 1), (16, .ifCond .ne 5, 3, 21, 0, 0), (19, .iconst (-1), 1, 0, 0, 0), (20, .ireturn, 1, 0, 0, 0),
  (21, .iconst 0, 1, 0, 0, 0), (22, .istore_n 3, 1, 0, 0, 0), (23, .iconst 0, 1, 0, 0, 0), (24, .istore 4, 2, 0, 0, 0), (26, .iload 4, 2, 0, 0, 0), (28, .aload_n 0, 1, 0, 0, 0),
  (29, .getfield 27, 3, 5, 3, 130), (32, .getfield 105, 3, 4, 0, 0), (35, .if_icmp .ge 72, 3, 107, 0, 0), (38, .aload_n 0, 1, 0, 0, 0), (39, .getfield 31, 3, 5, 4, 131), (42, .aload_n 0, 1, 0, 0, 0),
  (43, .getfield 27, 3, 5, 3, 130), (46, .invokevirtual 173, 3, 24, 1, 16), (49, .aload_n 0, 1, 0, 0, 0), (50, .iload 4, 2, 0, 0, 0), (52, .iload_n 1, 1, 0, 0, 0), (53, .invokevirtual 179, 3, 74, 2, 21),
  (56, .iconst (-1), 1, 0, 0, 0), (57, .if_icmp .eq 44, 3, 101, 0, 0), (60, .aload_n 0, 1, 0, 0, 0), (61, .getfield 31, 3, 5, 4, 131), (64, .aload_n 0, 1, 0, 0, 0), (65, .getfield 27, 3, 5, 3, 130),
  (68, .invokevirtual 173, 3, 24, 1, 16), (71, .aload_n 0, 1, 0, 0, 0), (72, .getfield 31, 3, 5, 4, 131), (75, .iload 4, 2, 0, 0, 0), (77, .invokevirtual 160, 3, 36, 1, 16), (80, .aload_n 0, 1, 0, 0, 0),
  (81, .iload 4, 2, 0, 0, 0), (83, .iload_n 1, 1, 0, 0, 0), (84, .invokevirtual 179, 3, 74, 2, 21), (87, .iconst (-1), 1, 0, 0, 0), (88, .if_icmp .eq 6, 3, 94, 0, 0), (91, .bipush (-4), 2, 0, 0, 0),
  (93, .ireturn, 1, 0, 0, 0), (94, .iload_n 3, 1, 0, 0, 0), (95, .iconst 1, 1, 0, 0, 0), (96, .iload 4, 2, 0, 0, 0), (98, .ishl, 1, 0, 0, 0), (99, .ior, 1, 0, 0, 0),
  (100, .istore_n 3, 1, 0, 0, 0), (101, .iinc 4 1, 3, 0, 0, 0), (104, .goto (-78), 3, 26, 0, 0), (107, .iload_n 2, 1, 0, 0, 0), (108, .ifCond .ne 10, 3, 118, 0, 0), (111, .iload_n 3, 1, 0, 0, 0),
  (112, .invokestatic 201, 3, 142, 1, 1), (115, .goto 4, 3, 119, 0, 0), (118, .iload_n 3, 1, 0, 0, 0), (119, .ireturn, 1, 0, 0, 0)]
def ct_X5_lamps : List Nat := [26]
def cd_X5_seen : List nl_E := [(0, .iload_n 1, 1, 0, 0, 0), (1, .iconst 0, 1, 0, 0, 0), (2, .bipush 20, 2, 0, 0, 0), (4, .invokestatic 82, 3, 71, 3, 1), (7, .ifCond .eq 23, 3, 30, 0, 0), (10, .aload_n 0, 1, 0, 0, 0),
  (11, .getfield 27, 3, 5, 3, 130), (14, .iload_n 2, 1, 0, 0, 0), (15, .invokevirtual 130, 3, 26, 1, 17), (18, .ifCond .eq 12, 3, 30, 0, 0), (21, .iload_n 3, 1, 0, 0, 0), (22, .iconst 0, 1, 0, 0, 0),
  (23, .iconst 1, 1, 0, 0, 0), (24, .invokestatic 82, 3, 71, 3, 1), (27, .ifCond .ne 5, 3, 32, 0, 0), (30, .iconst (-1), 1, 0, 0, 0), (31, .ireturn, 1, 0, 0, 0), (32, .aload_n 0, 1, 0, 0, 0),
  (33, .getfield 49, 3, 5, 7, 98), (36, .getfield 206, 3, 3, 3, 0), (39, .bipush 6, 2, 0, 0, 0), (41, .if_icmp .lt 6, 3, 47, 0, 0), (44, .bipush (-3), 2, 0, 0, 0), (46, .ireturn, 1, 0, 0, 0),
  (47, .aload_n 0, 1, 0, 0, 0), (48, .getfield 49, 3, 5, 7, 98), (51, .iload_n 1, 1, 0, 0, 0), (52, .iload_n 2, 1, 0, 0, 0), (53, .iload_n 3, 1, 0, 0, 0), (54, .iconst 1, 1, 0, 0, 0),
  (55, .if_icmp .ne 7, 3, 62, 0, 0), (58, .iconst 1, 1, 0, 0, 0), (59, .goto 4, 3, 63, 0, 0), (62, .iconst 0, 1, 0, 0, 0), (63, .invokevirtual 207, 3, 20, 3, 12), (66, .aload_n 0, 1, 0, 0, 0),
  (67, .getfield 49, 3, 5, 7, 98), (70, .getfield 206, 3, 3, 3, 0), (73, .ireturn, 1, 0, 0, 0)]
def ct_X5_seen : List Nat := []
def cd_X5_forget : List nl_E := [(0, .aload_n 0, 1, 0, 0, 0), (1, .getfield 49, 3, 5, 7, 98), (4, .getfield 206, 3, 3, 3, 0), (7, .istore_n 1, 1, 0, 0, 0), (8, .aload_n 0, 1, 0, 0, 0), (9, .getfield 49, 3, 5, 7, 98),
  (12, .invokevirtual 104, 3, 19, 0, 12), (15, .iload_n 1, 1, 0, 0, 0), (16, .ireturn, 1, 0, 0, 0)]
def ct_X5_forget : List Nat := []
def cd_X5_kinds : List nl_E := [(0, .aload_n 0, 1, 0, 0, 0), (1, .getfield 27, 3, 5, 3, 130), (4, .iload_n 1, 1, 0, 0, 0), (5, .invokevirtual 108, 3, 25, 1, 17), (8, .ifCond .ne 5, 3, 13, 0, 0), (11, .iconst (-1), 1, 0, 0, 0),
  (12, .ireturn, 1, 0, 0, 0), (13, .iconst 0, 1, 0, 0, 0), (14, .istore_n 2, 1, 0, 0, 0), (15, .iconst 0, 1, 0, 0, 0), (16, .istore_n 3, 1, 0, 0, 0), (17, .iload_n 3, 1, 0, 0, 0),
  (18, .iconst 3, 1, 0, 0, 0), (19, .if_icmp .gt 33, 3, 52, 0, 0), (22, .aload_n 0, 1, 0, 0, 0), (23, .iload_n 1, 1, 0, 0, 0), (24, .iload_n 3, 1, 0, 0, 0), (25, .aload_n 0, 1, 0, 0, 0),
  (26, .getfield 27, 3, 5, 3, 130), (29, .getfield 115, 3, 4, 5, 1), (32, .iload_n 1, 1, 0, 0, 0), (33, .iaload, 1, 0, 0, 0), (34, .invokevirtual 211, 3, 75, 3, 21), (37, .ifCond .eq 9, 3, 46, 0, 0),
  (40, .iload_n 2, 1, 0, 0, 0), (41, .iconst 1, 1, 0, 0, 0), (42, .iload_n 3, 1, 0, 0, 0), (43, .ishl, 1, 0, 0, 0), (44, .ior, 1, 0, 0, 0), (45, .istore_n 2, 1, 0, 0, 0),
  (46, .iinc 3 1, 3, 0, 0, 0), (49, .goto (-32), 3, 17, 0, 0), (52, .iload_n 2, 1, 0, 0, 0), (53, .ireturn, 1, 0, 0, 0)]
def ct_X5_kinds : List Nat := [17]
def cd_X5_strengths : List nl_E := [(0, .aload_n 0, 1, 0, 0, 0), (1, .getfield 27, 3, 5, 3, 130), (4, .iload_n 1, 1, 0, 0, 0), (5, .invokevirtual 108, 3, 25, 1, 17), (8, .ifCond .eq 12, 3, 20, 0, 0), (11, .iload_n 2, 1, 0, 0, 0),
  (12, .iconst 0, 1, 0, 0, 0), (13, .iconst 1, 1, 0, 0, 0), (14, .invokestatic 82, 3, 71, 3, 1), (17, .ifCond .ne 5, 3, 22, 0, 0), (20, .iconst (-1), 1, 0, 0, 0), (21, .ireturn, 1, 0, 0, 0),
  (22, .iconst 0, 1, 0, 0, 0), (23, .istore_n 3, 1, 0, 0, 0), (24, .bipush (-4), 2, 0, 0, 0), (26, .istore 4, 2, 0, 0, 0), (28, .bipush 40, 2, 0, 0, 0), (30, .istore 5, 2, 0, 0, 0),
  (32, .iload 5, 2, 0, 0, 0), (34, .ifCond .lt 35, 3, 69, 0, 0), (37, .aload_n 0, 1, 0, 0, 0), (38, .iload_n 1, 1, 0, 0, 0), (39, .aload_n 0, 1, 0, 0, 0), (40, .getfield 27, 3, 5, 3, 130),
  (43, .getfield 112, 3, 4, 4, 1), (46, .iload_n 1, 1, 0, 0, 0), (47, .iaload, 1, 0, 0, 0), (48, .iload 5, 2, 0, 0, 0), (50, .invokevirtual 211, 3, 75, 3, 21), (53, .ifCond .eq 10, 3, 63, 0, 0),
  (56, .iinc 3 1, 3, 0, 0, 0), (59, .iload 5, 2, 0, 0, 0), (61, .istore 4, 2, 0, 0, 0), (63, .iinc 5 (-1), 3, 0, 0, 0), (66, .goto (-34), 3, 32, 0, 0), (69, .iload_n 2, 1, 0, 0, 0),
  (70, .ifCond .ne 7, 3, 77, 0, 0), (73, .iload_n 3, 1, 0, 0, 0), (74, .goto 5, 3, 79, 0, 0), (77, .iload 4, 2, 0, 0, 0), (79, .ireturn, 1, 0, 0, 0)]
def ct_X5_strengths : List Nat := [32]
def cd_X5_likely : List nl_E := [(0, .aload_n 0, 1, 0, 0, 0), (1, .getfield 27, 3, 5, 3, 130), (4, .iload_n 1, 1, 0, 0, 0), (5, .invokevirtual 108, 3, 25, 1, 17), (8, .ifCond .eq 22, 3, 30, 0, 0), (11, .iload_n 2, 1, 0, 0, 0),
  (12, .iconst 0, 1, 0, 0, 0), (13, .bipush 9, 2, 0, 0, 0), (15, .invokestatic 82, 3, 71, 3, 1), (18, .ifCond .eq 12, 3, 30, 0, 0), (21, .iload_n 3, 1, 0, 0, 0), (22, .iconst 0, 1, 0, 0, 0),
  (23, .iconst 1, 1, 0, 0, 0), (24, .invokestatic 82, 3, 71, 3, 1), (27, .ifCond .ne 5, 3, 32, 0, 0), (30, .iconst (-1), 1, 0, 0, 0), (31, .ireturn, 1, 0, 0, 0), (32, .aload_n 0, 1, 0, 0, 0),
  (33, .getfield 27, 3, 5, 3, 130), (36, .getfield 121, 3, 4, 7, 1), (39, .iload_n 1, 1, 0, 0, 0), (40, .iaload, 1, 0, 0, 0), (41, .istore 4, 2, 0, 0, 0), (43, .iload 4, 2, 0, 0, 0),
  (45, .iload_n 2, 1, 0, 0, 0), (46, .iadd, 1, 0, 0, 0), (47, .bipush 40, 2, 0, 0, 0), (49, .invokestatic 214, 3, 0, 0, 4), (52, .istore 5, 2, 0, 0, 0), (54, .iconst 0, 1, 0, 0, 0),
  (55, .istore 6, 2, 0, 0, 0), (57, .iconst 0, 1, 0, 0, 0), (58, .istore 7, 2, 0, 0, 0), (60, .iload 7, 2, 0, 0, 0), (62, .aload_n 0, 1, 0, 0, 0), (63, .getfield 27, 3, 5, 3, 130),
  (66, .getfield 105, 3, 4, 0, 0), (69, .if_icmp .ge 62, 3, 131, 0, 0), (72, .iload 6, 2, 0, 0, 0), (74, .aload_n 0, 1, 0, 0, 0), (75, .getfield 27, 3, 5, 3, 130), (78, .iload_n 1, 1, 0, 0, 0),
  (79, .iload 7, 2, 0, 0, 0), (81, .iload 4, 2, 0, 0, 0), (83, .invokevirtual 219, 3, 31, 3, 17), (86, .ifCond .eq 10, 3, 96, 0, 0), (89, .bipush 10, 2, 0, 0, 0), (91, .iload_n 2, 1, 0, 0, 0),
  (92, .isub, 1, 0, 0, 0), (93, .goto 4, 3, 97, 0, 0), (96, .iconst 0, 1, 0, 0, 0), (97, .iadd, 1, 0, 0, 0), (98, .istore 6, 2, 0, 0, 0), (100, .iload 6, 2, 0, 0, 0),
  (102, .aload_n 0, 1, 0, 0, 0), (103, .getfield 27, 3, 5, 3, 130), (106, .iload_n 1, 1, 0, 0, 0), (107, .iload 7, 2, 0, 0, 0), (109, .iload 5, 2, 0, 0, 0), (111, .invokevirtual 219, 3, 31, 3, 17),
  (114, .ifCond .eq 7, 3, 121, 0, 0), (117, .iload_n 2, 1, 0, 0, 0), (118, .goto 4, 3, 122, 0, 0), (121, .iconst 0, 1, 0, 0, 0), (122, .iadd, 1, 0, 0, 0), (123, .istore 6, 2, 0, 0, 0),
  (125, .iinc 7 1, 3, 0, 0, 0), (128, .goto (-68), 3, 60, 0, 0), (131, .bipush 10, 2, 0, 0, 0), (133, .aload_n 0, 1, 0, 0, 0), (134, .getfield 27, 3, 5, 3, 130), (137, .getfield 105, 3, 4, 0, 0),
  (140, .imul, 1, 0, 0, 0), (141, .istore 7, 2, 0, 0, 0), (143, .iload 6, 2, 0, 0, 0), (145, .iload 7, 2, 0, 0, 0), (147, .invokestatic 222, 3, 72, 2, 1), (150, .istore 8, 2, 0, 0, 0),
  (152, .iload_n 3, 1, 0, 0, 0), (153, .ifCond .ne 11, 3, 164, 0, 0), (156, .iload 6, 2, 0, 0, 0), (158, .iload 8, 2, 0, 0, 0), (160, .idiv, 1, 0, 0, 0), (161, .goto 8, 3, 169, 0, 0),
  (164, .iload 7, 2, 0, 0, 0), (166, .iload 8, 2, 0, 0, 0), (168, .idiv, 1, 0, 0, 0), (169, .ireturn, 1, 0, 0, 0)]
def ct_X5_likely : List Nat := [60]
def cd_X5_winter : List nl_E := [(0, .iload_n 1, 1, 0, 0, 0), (1, .iconst 0, 1, 0, 0, 0), (2, .sipush 9999, 3, 0, 0, 0), (5, .invokestatic 82, 3, 71, 3, 1), (8, .ifCond .eq 22, 3, 30, 0, 0), (11, .iload_n 2, 1, 0, 0, 0),
  (12, .iconst 1, 1, 0, 0, 0), (13, .bipush 60, 2, 0, 0, 0), (15, .invokestatic 82, 3, 71, 3, 1), (18, .ifCond .eq 12, 3, 30, 0, 0), (21, .iload_n 3, 1, 0, 0, 0), (22, .iconst 0, 1, 0, 0, 0),
  (23, .iconst 2, 1, 0, 0, 0), (24, .invokestatic 82, 3, 71, 3, 1), (27, .ifCond .ne 5, 3, 32, 0, 0), (30, .iconst (-1), 1, 0, 0, 0), (31, .ireturn, 1, 0, 0, 0), (32, .aload_n 0, 1, 0, 0, 0),
  (33, .getfield 31, 3, 5, 4, 131), (36, .aload_n 0, 1, 0, 0, 0), (37, .getfield 27, 3, 5, 3, 130), (40, .invokevirtual 173, 3, 24, 1, 16), (43, .iconst 0, 1, 0, 0, 0), (44, .istore 4, 2, 0, 0, 0),
  (46, .iconst 0, 1, 0, 0, 0), (47, .istore 5, 2, 0, 0, 0), (49, .iload 5, 2, 0, 0, 0), (51, .iload_n 2, 1, 0, 0, 0), (52, .if_icmp .ge 35, 3, 87, 0, 0), (55, .aload_n 0, 1, 0, 0, 0),
  (56, .getfield 31, 3, 5, 4, 131), (59, .iload_n 1, 1, 0, 0, 0), (60, .iload 5, 2, 0, 0, 0), (62, .invokestatic 225, 3, 73, 2, 1), (65, .invokevirtual 228, 3, 41, 1, 16), (68, .iload 4, 2, 0, 0, 0),
  (70, .aload_n 0, 1, 0, 0, 0), (71, .getfield 31, 3, 5, 4, 131), (74, .iconst 1, 1, 0, 0, 0), (75, .invokevirtual 153, 3, 34, 1, 17), (78, .iadd, 1, 0, 0, 0), (79, .istore 4, 2, 0, 0, 0),
  (81, .iinc 5 1, 3, 0, 0, 0), (84, .goto (-35), 3, 49, 0, 0), (87, .iload_n 3, 1, 0, 0, 0), (88, .ifCond .ne 6, 3, 94, 0, 0), (91, .iload 4, 2, 0, 0, 0), (93, .ireturn, 1, 0, 0, 0),
  (94, .iload_n 3, 1, 0, 0, 0), (95, .iconst 1, 1, 0, 0, 0), (96, .if_icmp .ne 13, 3, 109, 0, 0), (99, .aload_n 0, 1, 0, 0, 0), (100, .getfield 31, 3, 5, 4, 131), (103, .invokevirtual 231, 3, 38, 0, 17),
  (106, .goto 12, 3, 118, 0, 0), (109, .aload_n 0, 1, 0, 0, 0), (110, .getfield 31, 3, 5, 4, 131), (113, .getfield 124, 3, 4, 8, 1), (116, .iconst 0, 1, 0, 0, 0), (117, .iaload, 1, 0, 0, 0),
  (118, .ireturn, 1, 0, 0, 0)]
def ct_X5_winter : List Nat := [49]
def cd_X5_keep : List nl_E := [(0, .aload_n 0, 1, 0, 0, 0), (1, .getfield 43, 3, 5, 6, 67), (4, .getfield 170, 3, 2, 1, 0), (7, .iconst 2, 1, 0, 0, 0), (8, .if_icmp .lt 6, 3, 14, 0, 0), (11, .bipush (-3), 2, 0, 0, 0),
  (13, .ireturn, 1, 0, 0, 0), (14, .aload_n 0, 1, 0, 0, 0), (15, .getfield 43, 3, 5, 6, 67), (18, .aload_n 0, 1, 0, 0, 0), (19, .getfield 27, 3, 5, 3, 130), (22, .invokevirtual 149, 3, 16, 1, 8),
  (25, .aload_n 0, 1, 0, 0, 0), (26, .getfield 43, 3, 5, 6, 67), (29, .getfield 170, 3, 2, 1, 0), (32, .ireturn, 1, 0, 0, 0)]
def ct_X5_keep : List Nat := []
def cd_X5_back : List nl_E := [(0, .aload_n 0, 1, 0, 0, 0), (1, .getfield 43, 3, 5, 6, 67), (4, .aload_n 0, 1, 0, 0, 0), (5, .getfield 27, 3, 5, 3, 130), (8, .invokevirtual 166, 3, 18, 1, 9), (11, .ifCond .ne 6, 3, 17, 0, 0),
  (14, .bipush (-2), 2, 0, 0, 0), (16, .ireturn, 1, 0, 0, 0), (17, .aload_n 0, 1, 0, 0, 0), (18, .getfield 39, 3, 5, 5, 66), (21, .invokevirtual 101, 3, 15, 0, 8), (24, .aload_n 0, 1, 0, 0, 0),
  (25, .getfield 43, 3, 5, 6, 67), (28, .getfield 170, 3, 2, 1, 0), (31, .ireturn, 1, 0, 0, 0)]
def ct_X5_back : List Nat := []
def cd_X5_count : List nl_E := [(0, .iload_n 1, 1, 0, 0, 0), (1, .tableswitch 108 0 7 #[47, 55, 63, 71, 79, 87, 95, 103], 47, 109, 122892308186283141816368, 8), (48, .aload_n 0, 1, 0, 0, 0), (49, .getfield 27, 3, 5, 3, 130), (52, .getfield 105, 3, 4, 0, 0), (55, .ireturn, 1, 0, 0, 0),
  (56, .aload_n 0, 1, 0, 0, 0), (57, .getfield 27, 3, 5, 3, 130), (60, .getfield 146, 3, 4, 1, 0), (63, .ireturn, 1, 0, 0, 0), (64, .aload_n 0, 1, 0, 0, 0), (65, .getfield 27, 3, 5, 3, 130),
  (68, .getfield 234, 3, 4, 2, 0), (71, .ireturn, 1, 0, 0, 0), (72, .aload_n 0, 1, 0, 0, 0), (73, .getfield 27, 3, 5, 3, 130), (76, .invokevirtual 231, 3, 38, 0, 17), (79, .ireturn, 1, 0, 0, 0),
  (80, .aload_n 0, 1, 0, 0, 0), (81, .getfield 49, 3, 5, 7, 98), (84, .getfield 206, 3, 3, 3, 0), (87, .ireturn, 1, 0, 0, 0), (88, .aload_n 0, 1, 0, 0, 0), (89, .getfield 39, 3, 5, 5, 66),
  (92, .getfield 170, 3, 2, 1, 0), (95, .ireturn, 1, 0, 0, 0), (96, .aload_n 0, 1, 0, 0, 0), (97, .getfield 43, 3, 5, 6, 67), (100, .getfield 170, 3, 2, 1, 0), (103, .ireturn, 1, 0, 0, 0),
  (104, .aload_n 0, 1, 0, 0, 0), (105, .getfield 13, 3, 5, 1, 0), (108, .ireturn, 1, 0, 0, 0), (109, .iconst (-1), 1, 0, 0, 0), (110, .ireturn, 1, 0, 0, 0)]
def ct_X5_count : List Nat := []
def cd_X5_isWithin : List nl_E := [(0, .iload_n 0, 1, 0, 0, 0), (1, .iload_n 1, 1, 0, 0, 0), (2, .if_icmp .lt 12, 3, 14, 0, 0), (5, .iload_n 0, 1, 0, 0, 0), (6, .iload_n 2, 1, 0, 0, 0), (7, .if_icmp .gt 7, 3, 14, 0, 0),
  (10, .iconst 1, 1, 0, 0, 0), (11, .goto 4, 3, 15, 0, 0), (14, .iconst 0, 1, 0, 0, 0), (15, .ireturn, 1, 0, 0, 0)]
def ct_X5_isWithin : List Nat := []
def cd_X5_largestDivisor : List nl_E := [(0, .iload_n 1, 1, 0, 0, 0), (1, .istore_n 2, 1, 0, 0, 0), (2, .iload_n 2, 1, 0, 0, 0), (3, .iconst 1, 1, 0, 0, 0), (4, .if_icmp .le 23, 3, 27, 0, 0), (7, .iload_n 0, 1, 0, 0, 0),
  (8, .iload_n 2, 1, 0, 0, 0), (9, .irem, 1, 0, 0, 0), (10, .ifCond .ne 11, 3, 21, 0, 0), (13, .iload_n 1, 1, 0, 0, 0), (14, .iload_n 2, 1, 0, 0, 0), (15, .irem, 1, 0, 0, 0),
  (16, .ifCond .ne 5, 3, 21, 0, 0), (19, .iload_n 2, 1, 0, 0, 0), (20, .ireturn, 1, 0, 0, 0), (21, .iinc 2 (-1), 3, 0, 0, 0), (24, .goto (-22), 3, 2, 0, 0), (27, .iconst 1, 1, 0, 0, 0),
  (28, .ireturn, 1, 0, 0, 0)]
def ct_X5_largestDivisor : List Nat := [2]
def cd_X5_drawFor : List nl_E := [(0, .ldc2_w 237, 3, 7919, 0, 0), (3, .iload_n 0, 1, 0, 0, 0), (4, .i2l, 1, 0, 0, 0), (5, .lmul, 1, 0, 0, 0), (6, .ldc2_w 239, 3, 6151, 0, 0), (9, .iload_n 1, 1, 0, 0, 0),
  (10, .i2l, 1, 0, 0, 0), (11, .lmul, 1, 0, 0, 0), (12, .ladd, 1, 0, 0, 0), (13, .lconst 1, 1, 0, 0, 0), (14, .ladd, 1, 0, 0, 0), (15, .lstore_n 2, 1, 0, 0, 0),
  (16, .lload_n 2, 1, 0, 0, 0), (17, .lload_n 2, 1, 0, 0, 0), (18, .lmul, 1, 0, 0, 0), (19, .ldc2_w 241, 3, 65521, 0, 0), (22, .lrem, 1, 0, 0, 0), (23, .ldc2_w 243, 3, 2, 0, 0),
  (26, .ldiv, 1, 0, 0, 0), (27, .l2i, 1, 0, 0, 0), (28, .ireturn, 1, 0, 0, 0)]
def ct_X5_drawFor : List Nat := []
def cd_X5_nextMissAhead : List nl_E := [(0, .iconst 1, 1, 0, 0, 0), (1, .istore_n 3, 1, 0, 0, 0), (2, .iload_n 3, 1, 0, 0, 0), (3, .iload_n 2, 1, 0, 0, 0), (4, .if_icmp .gt 22, 3, 26, 0, 0), (7, .aload_n 0, 1, 0, 0, 0),
  (8, .getfield 31, 3, 5, 4, 131), (11, .iload_n 1, 1, 0, 0, 0), (12, .invokevirtual 245, 3, 33, 1, 17), (15, .ifCond .ne 5, 3, 20, 0, 0), (18, .iload_n 3, 1, 0, 0, 0), (19, .ireturn, 1, 0, 0, 0),
  (20, .iinc 3 1, 3, 0, 0, 0), (23, .goto (-21), 3, 2, 0, 0), (26, .iconst (-1), 1, 0, 0, 0), (27, .ireturn, 1, 0, 0, 0)]
def ct_X5_nextMissAhead : List Nat := [2]
def cd_X5_fitsAllSeen : List nl_E := [(0, .aload_n 0, 1, 0, 0, 0), (1, .getfield 31, 3, 5, 4, 131), (4, .aload_n 0, 1, 0, 0, 0), (5, .getfield 27, 3, 5, 3, 130), (8, .invokevirtual 173, 3, 24, 1, 16), (11, .aload_n 0, 1, 0, 0, 0),
  (12, .getfield 31, 3, 5, 4, 131), (15, .getfield 112, 3, 4, 4, 1), (18, .iload_n 1, 1, 0, 0, 0), (19, .iload_n 2, 1, 0, 0, 0), (20, .iastore, 1, 0, 0, 0), (21, .aload_n 0, 1, 0, 0, 0),
  (22, .getfield 31, 3, 5, 4, 131), (25, .getfield 115, 3, 4, 5, 1), (28, .iload_n 1, 1, 0, 0, 0), (29, .iload_n 3, 1, 0, 0, 0), (30, .iastore, 1, 0, 0, 0), (31, .aload_n 0, 1, 0, 0, 0),
  (32, .getfield 49, 3, 5, 7, 98), (35, .invokevirtual 248, 3, 21, 0, 13), (38, .istore 4, 2, 0, 0, 0), (40, .iconst 0, 1, 0, 0, 0), (41, .istore 5, 2, 0, 0, 0), (43, .iload 5, 2, 0, 0, 0),
  (45, .iload 4, 2, 0, 0, 0), (47, .if_icmp .gt 36, 3, 83, 0, 0), (50, .aload_n 0, 1, 0, 0, 0), (51, .getfield 49, 3, 5, 7, 98), (54, .aload_n 0, 1, 0, 0, 0), (55, .getfield 31, 3, 5, 4, 131),
  (58, .iload 5, 2, 0, 0, 0), (60, .invokevirtual 251, 3, 22, 2, 13), (63, .ifCond .ne 5, 3, 68, 0, 0), (66, .iconst 0, 1, 0, 0, 0), (67, .ireturn, 1, 0, 0, 0), (68, .aload_n 0, 1, 0, 0, 0),
  (69, .getfield 31, 3, 5, 4, 131), (72, .iconst 1, 1, 0, 0, 0), (73, .invokevirtual 153, 3, 34, 1, 17), (76, .pop, 1, 0, 0, 0), (77, .iinc 5 1, 3, 0, 0, 0), (80, .goto (-37), 3, 43, 0, 0),
  (83, .iconst 1, 1, 0, 0, 0), (84, .ireturn, 1, 0, 0, 0)]
def ct_X5_fitsAllSeen : List Nat := [43]
def cd_X6_in : List nl_E := [(0, .iload_n 0, 1, 0, 0, 0), (1, .iload_n 1, 1, 0, 0, 0), (2, .if_icmp .lt 12, 3, 14, 0, 0), (5, .iload_n 0, 1, 0, 0, 0), (6, .iload_n 2, 1, 0, 0, 0), (7, .if_icmp .gt 7, 3, 14, 0, 0),
  (10, .iconst 1, 1, 0, 0, 0), (11, .goto 4, 3, 15, 0, 0), (14, .iconst 0, 1, 0, 0, 0), (15, .ireturn, 1, 0, 0, 0)]
def ct_X6_in : List Nat := []
def cd_X6_has : List nl_E := [(0, .iload_n 0, 1, 0, 0, 0), (1, .iload_n 1, 1, 0, 0, 0), (2, .ishr, 1, 0, 0, 0), (3, .iconst 1, 1, 0, 0, 0), (4, .iand, 1, 0, 0, 0), (5, .iconst 1, 1, 0, 0, 0),
  (6, .if_icmp .ne 7, 3, 13, 0, 0), (9, .iconst 1, 1, 0, 0, 0), (10, .goto 4, 3, 14, 0, 0), (13, .iconst 0, 1, 0, 0, 0), (14, .ireturn, 1, 0, 0, 0)]
def ct_X6_has : List Nat := []
def cd_X6_bits : List nl_E := [(0, .iconst 0, 1, 0, 0, 0), (1, .istore_n 1, 1, 0, 0, 0), (2, .iconst 0, 1, 0, 0, 0), (3, .istore_n 2, 1, 0, 0, 0), (4, .iload_n 2, 1, 0, 0, 0), (5, .bipush 7, 2, 0, 0, 0),
  (7, .if_icmp .ge 17, 3, 24, 0, 0), (10, .iload_n 1, 1, 0, 0, 0), (11, .iload_n 0, 1, 0, 0, 0), (12, .iload_n 2, 1, 0, 0, 0), (13, .ishr, 1, 0, 0, 0), (14, .iconst 1, 1, 0, 0, 0),
  (15, .iand, 1, 0, 0, 0), (16, .iadd, 1, 0, 0, 0), (17, .istore_n 1, 1, 0, 0, 0), (18, .iinc 2 1, 3, 0, 0, 0), (21, .goto (-17), 3, 4, 0, 0), (24, .iload_n 1, 1, 0, 0, 0),
  (25, .ireturn, 1, 0, 0, 0)]
def ct_X6_bits : List Nat := [4]
def cd_X6_lesser : List nl_E := [(0, .iload_n 0, 1, 0, 0, 0), (1, .iload_n 1, 1, 0, 0, 0), (2, .if_icmp .ge 7, 3, 9, 0, 0), (5, .iload_n 0, 1, 0, 0, 0), (6, .goto 4, 3, 10, 0, 0), (9, .iload_n 1, 1, 0, 0, 0),
  (10, .ireturn, 1, 0, 0, 0)]
def ct_X6_lesser : List Nat := []
def cd_X6_greater : List nl_E := [(0, .iload_n 0, 1, 0, 0, 0), (1, .iload_n 1, 1, 0, 0, 0), (2, .if_icmp .le 7, 3, 9, 0, 0), (5, .iload_n 0, 1, 0, 0, 0), (6, .goto 4, 3, 10, 0, 0), (9, .iload_n 1, 1, 0, 0, 0),
  (10, .ireturn, 1, 0, 0, 0)]
def ct_X6_greater : List Nat := []
def cd_X6_firstHouse : List nl_E := [(0, .aload_n 0, 1, 0, 0, 0), (1, .getfield 9, 3, 6, 1, 1), (4, .aload_n 0, 1, 0, 0, 0), (5, .getfield 74, 3, 6, 0, 0), (8, .iload_n 1, 1, 0, 0, 0), (9, .iastore, 1, 0, 0, 0),
  (10, .aload_n 0, 1, 0, 0, 0), (11, .getfield 13, 3, 6, 2, 1), (14, .aload_n 0, 1, 0, 0, 0), (15, .getfield 74, 3, 6, 0, 0), (18, .iload_n 2, 1, 0, 0, 0), (19, .iastore, 1, 0, 0, 0),
  (20, .aload_n 0, 1, 0, 0, 0), (21, .getfield 16, 3, 6, 3, 1), (24, .aload_n 0, 1, 0, 0, 0), (25, .getfield 74, 3, 6, 0, 0), (28, .iload_n 3, 1, 0, 0, 0), (29, .iastore, 1, 0, 0, 0),
  (30, .aload_n 0, 1, 0, 0, 0), (31, .getfield 31, 3, 6, 10, 1), (34, .aload_n 0, 1, 0, 0, 0), (35, .getfield 74, 3, 6, 0, 0), (38, .iload 4, 2, 0, 0, 0), (40, .iastore, 1, 0, 0, 0),
  (41, .aload_n 0, 1, 0, 0, 0), (42, .dup, 1, 0, 0, 0), (43, .getfield 74, 3, 6, 0, 0), (46, .iconst 1, 1, 0, 0, 0), (47, .iadd, 1, 0, 0, 0), (48, .putfield 74, 3, 6, 0, 0),
  (51, .return_, 1, 0, 0, 0)]
def ct_X6_firstHouse : List Nat := []
def cd_X6_begin : List nl_E := [(0, .aload_n 0, 1, 0, 0, 0), (1, .iconst 0, 1, 0, 0, 0), (2, .putfield 78, 3, 6, 4, 0), (5, .aload_n 0, 1, 0, 0, 0), (6, .iconst 0, 1, 0, 0, 0), (7, .putfield 81, 3, 6, 5, 0),
  (10, .iconst 0, 1, 0, 0, 0), (11, .istore_n 1, 1, 0, 0, 0), (12, .iload_n 1, 1, 0, 0, 0), (13, .bipush 7, 2, 0, 0, 0), (15, .if_icmp .ge 30, 3, 45, 0, 0), (18, .aload_n 0, 1, 0, 0, 0),
  (19, .getfield 19, 3, 6, 6, 1), (22, .iload_n 1, 1, 0, 0, 0), (23, .iload_n 1, 1, 0, 0, 0), (24, .iastore, 1, 0, 0, 0), (25, .aload_n 0, 1, 0, 0, 0), (26, .getfield 22, 3, 6, 7, 1),
  (29, .iload_n 1, 1, 0, 0, 0), (30, .iconst 0, 1, 0, 0, 0), (31, .iastore, 1, 0, 0, 0), (32, .aload_n 0, 1, 0, 0, 0), (33, .getfield 25, 3, 6, 8, 1), (36, .iload_n 1, 1, 0, 0, 0),
  (37, .iconst 0, 1, 0, 0, 0), (38, .iastore, 1, 0, 0, 0), (39, .iinc 1 1, 3, 0, 0, 0), (42, .goto (-30), 3, 12, 0, 0), (45, .iconst 0, 1, 0, 0, 0), (46, .istore_n 1, 1, 0, 0, 0),
  (47, .iload_n 1, 1, 0, 0, 0), (48, .bipush 49, 2, 0, 0, 0), (50, .if_icmp .ge 16, 3, 66, 0, 0), (53, .aload_n 0, 1, 0, 0, 0), (54, .getfield 28, 3, 6, 9, 1), (57, .iload_n 1, 1, 0, 0, 0),
  (58, .iconst 0, 1, 0, 0, 0), (59, .iastore, 1, 0, 0, 0), (60, .iinc 1 1, 3, 0, 0, 0), (63, .goto (-16), 3, 47, 0, 0), (66, .return_, 1, 0, 0, 0)]
def ct_X6_begin : List Nat := [12, 47]
def cd_X6_isOne : List nl_E := [(0, .iload_n 1, 1, 0, 0, 0), (1, .iconst 0, 1, 0, 0, 0), (2, .aload_n 0, 1, 0, 0, 0), (3, .getfield 74, 3, 6, 0, 0), (6, .iconst 1, 1, 0, 0, 0), (7, .isub, 1, 0, 0, 0),
  (8, .invokestatic 84, 3, 76, 3, 1), (11, .ireturn, 1, 0, 0, 0)]
def ct_X6_isOne : List Nat := []
def cd_X6_write : List nl_E := [(0, .iload_n 1, 1, 0, 0, 0), (1, .bipush 32, 2, 0, 0, 0), (3, .bipush 126, 2, 0, 0, 0), (5, .invokestatic 84, 3, 76, 3, 1), (8, .ifCond .ne 5, 3, 13, 0, 0), (11, .iconst (-1), 1, 0, 0, 0),
  (12, .ireturn, 1, 0, 0, 0), (13, .aload_n 0, 1, 0, 0, 0), (14, .getfield 88, 3, 6, 16, 0), (17, .sipush 200, 3, 0, 0, 0), (20, .if_icmp .ne 6, 3, 26, 0, 0), (23, .bipush (-3), 2, 0, 0, 0),
  (25, .ireturn, 1, 0, 0, 0), (26, .aload_n 0, 1, 0, 0, 0), (27, .getfield 43, 3, 6, 15, 1), (30, .aload_n 0, 1, 0, 0, 0), (31, .getfield 88, 3, 6, 16, 0), (34, .iload_n 1, 1, 0, 0, 0),
  (35, .iastore, 1, 0, 0, 0), (36, .aload_n 0, 1, 0, 0, 0), (37, .dup, 1, 0, 0, 0), (38, .getfield 88, 3, 6, 16, 0), (41, .iconst 1, 1, 0, 0, 0), (42, .iadd, 1, 0, 0, 0),
  (43, .putfield 88, 3, 6, 16, 0), (46, .aload_n 0, 1, 0, 0, 0), (47, .getfield 88, 3, 6, 16, 0), (50, .ireturn, 1, 0, 0, 0)]
def ct_X6_write : List Nat := []
def cd_X6_wipe : List nl_E := [(0, .aload_n 0, 1, 0, 0, 0), (1, .getfield 88, 3, 6, 16, 0), (4, .istore_n 1, 1, 0, 0, 0), (5, .aload_n 0, 1, 0, 0, 0), (6, .iconst 0, 1, 0, 0, 0), (7, .putfield 88, 3, 6, 16, 0),
  (10, .iload_n 1, 1, 0, 0, 0), (11, .ireturn, 1, 0, 0, 0)]
def ct_X6_wipe : List Nat := []
def cd_X6_here : List nl_E := [(0, .aload_n 0, 1, 0, 0, 0), (1, .getfield 91, 3, 6, 17, 0), (4, .aload_n 0, 1, 0, 0, 0), (5, .getfield 88, 3, 6, 16, 0), (8, .if_icmp .ge 15, 3, 23, 0, 0), (11, .aload_n 0, 1, 0, 0, 0),
  (12, .getfield 43, 3, 6, 15, 1), (15, .aload_n 0, 1, 0, 0, 0), (16, .getfield 91, 3, 6, 17, 0), (19, .iaload, 1, 0, 0, 0), (20, .goto 4, 3, 24, 0, 0), (23, .iconst 0, 1, 0, 0, 0),
  (24, .ireturn, 1, 0, 0, 0)]
def ct_X6_here : List Nat := []
def cd_X6_isFigure : List nl_E := [(0, .aload_n 0, 1, 0, 0, 0), (1, .invokevirtual 94, 3, 86, 0, 25), (4, .bipush 48, 2, 0, 0, 0), (6, .bipush 57, 2, 0, 0, 0), (8, .invokestatic 84, 3, 76, 3, 1), (11, .ireturn, 1, 0, 0, 0)]
def ct_X6_isFigure : List Nat := []
def cd_X6_number : List nl_E := [(0, .aload_n 0, 1, 0, 0, 0), (1, .invokevirtual 98, 3, 87, 0, 25), (4, .ifCond .ne 5, 3, 9, 0, 0), (7, .iconst 0, 1, 0, 0, 0), (8, .ireturn, 1, 0, 0, 0), (9, .aload_n 0, 1, 0, 0, 0),
  (10, .invokevirtual 94, 3, 86, 0, 25), (13, .bipush 48, 2, 0, 0, 0), (15, .isub, 1, 0, 0, 0), (16, .istore 4, 2, 0, 0, 0), (18, .aload_n 0, 1, 0, 0, 0), (19, .dup, 1, 0, 0, 0),
  (20, .getfield 91, 3, 6, 17, 0), (23, .iconst 1, 1, 0, 0, 0), (24, .iadd, 1, 0, 0, 0), (25, .putfield 91, 3, 6, 17, 0), (28, .aload_n 0, 1, 0, 0, 0), (29, .invokevirtual 98, 3, 87, 0, 25),
  (32, .ifCond .eq 28, 3, 60, 0, 0), (35, .bipush 10, 2, 0, 0, 0), (37, .iload 4, 2, 0, 0, 0), (39, .imul, 1, 0, 0, 0), (40, .aload_n 0, 1, 0, 0, 0), (41, .invokevirtual 94, 3, 86, 0, 25),
  (44, .iadd, 1, 0, 0, 0), (45, .bipush 48, 2, 0, 0, 0), (47, .isub, 1, 0, 0, 0), (48, .istore 4, 2, 0, 0, 0), (50, .aload_n 0, 1, 0, 0, 0), (51, .dup, 1, 0, 0, 0),
  (52, .getfield 91, 3, 6, 17, 0), (55, .iconst 1, 1, 0, 0, 0), (56, .iadd, 1, 0, 0, 0), (57, .putfield 91, 3, 6, 17, 0), (60, .aload_n 0, 1, 0, 0, 0), (61, .iload 4, 2, 0, 0, 0),
  (63, .putfield 102, 3, 6, 22, 0), (66, .aload_n 0, 1, 0, 0, 0), (67, .invokevirtual 94, 3, 86, 0, 25), (70, .iload_n 3, 1, 0, 0, 0), (71, .if_icmp .ne 13, 3, 84, 0, 0), (74, .iload 4, 2, 0, 0, 0),
  (76, .iload_n 1, 1, 0, 0, 0), (77, .iload_n 2, 1, 0, 0, 0), (78, .invokestatic 84, 3, 76, 3, 1), (81, .ifCond .ne 5, 3, 86, 0, 0), (84, .iconst 0, 1, 0, 0, 0), (85, .ireturn, 1, 0, 0, 0),
  (86, .aload_n 0, 1, 0, 0, 0), (87, .dup, 1, 0, 0, 0), (88, .getfield 91, 3, 6, 17, 0), (91, .iconst 1, 1, 0, 0, 0), (92, .iadd, 1, 0, 0, 0), (93, .putfield 91, 3, 6, 17, 0),
  (96, .iconst 1, 1, 0, 0, 0), (97, .ireturn, 1, 0, 0, 0)]
def ct_X6_number : List Nat := []
def cd_X6_readsHour : List nl_E := [(0, .aload_n 0, 1, 0, 0, 0), (1, .getfield 105, 3, 6, 18, 0), (4, .bipush 7, 2, 0, 0, 0), (6, .if_icmp .eq 15, 3, 21, 0, 0), (9, .aload_n 0, 1, 0, 0, 0), (10, .iconst 0, 1, 0, 0, 0),
  (11, .bipush 20, 2, 0, 0, 0), (13, .bipush 59, 2, 0, 0, 0), (15, .invokevirtual 108, 3, 88, 3, 25), (18, .ifCond .ne 5, 3, 23, 0, 0), (21, .iconst 0, 1, 0, 0, 0), (22, .ireturn, 1, 0, 0, 0),
  (23, .aload_n 0, 1, 0, 0, 0), (24, .getfield 46, 3, 6, 20, 1), (27, .aload_n 0, 1, 0, 0, 0), (28, .getfield 105, 3, 6, 18, 0), (31, .aload_n 0, 1, 0, 0, 0), (32, .getfield 102, 3, 6, 22, 0),
  (35, .iastore, 1, 0, 0, 0), (36, .aload_n 0, 1, 0, 0, 0), (37, .dup, 1, 0, 0, 0), (38, .getfield 105, 3, 6, 18, 0), (41, .iconst 1, 1, 0, 0, 0), (42, .iadd, 1, 0, 0, 0),
  (43, .putfield 105, 3, 6, 18, 0), (46, .iconst 1, 1, 0, 0, 0), (47, .ireturn, 1, 0, 0, 0)]
def ct_X6_readsHour : List Nat := []
def cd_X6_readsHouse : List nl_E := [(0, .aload_n 0, 1, 0, 0, 0), (1, .getfield 111, 3, 6, 19, 0), (4, .aload_n 0, 1, 0, 0, 0), (5, .getfield 105, 3, 6, 18, 0), (8, .if_icmp .eq 14, 3, 22, 0, 0), (11, .aload_n 0, 1, 0, 0, 0),
  (12, .iconst 0, 1, 0, 0, 0), (13, .iconst 3, 1, 0, 0, 0), (14, .bipush 44, 2, 0, 0, 0), (16, .invokevirtual 108, 3, 88, 3, 25), (19, .ifCond .ne 5, 3, 24, 0, 0), (22, .iconst 0, 1, 0, 0, 0),
  (23, .ireturn, 1, 0, 0, 0), (24, .iconst 3, 1, 0, 0, 0), (25, .aload_n 0, 1, 0, 0, 0), (26, .getfield 111, 3, 6, 19, 0), (29, .imul, 1, 0, 0, 0), (30, .istore_n 1, 1, 0, 0, 0),
  (31, .aload_n 0, 1, 0, 0, 0), (32, .getfield 49, 3, 6, 21, 1), (35, .iload_n 1, 1, 0, 0, 0), (36, .aload_n 0, 1, 0, 0, 0), (37, .getfield 102, 3, 6, 22, 0), (40, .iastore, 1, 0, 0, 0),
  (41, .aload_n 0, 1, 0, 0, 0), (42, .iconst 0, 1, 0, 0, 0), (43, .bipush 40, 2, 0, 0, 0), (45, .bipush 44, 2, 0, 0, 0), (47, .invokevirtual 108, 3, 88, 3, 25), (50, .ifCond .ne 5, 3, 55, 0, 0),
  (53, .iconst 0, 1, 0, 0, 0), (54, .ireturn, 1, 0, 0, 0), (55, .aload_n 0, 1, 0, 0, 0), (56, .getfield 49, 3, 6, 21, 1), (59, .iload_n 1, 1, 0, 0, 0), (60, .iconst 1, 1, 0, 0, 0),
  (61, .iadd, 1, 0, 0, 0), (62, .aload_n 0, 1, 0, 0, 0), (63, .getfield 102, 3, 6, 22, 0), (66, .iastore, 1, 0, 0, 0), (67, .aload_n 0, 1, 0, 0, 0), (68, .iconst 0, 1, 0, 0, 0),
  (69, .bipush 99, 2, 0, 0, 0), (71, .bipush 59, 2, 0, 0, 0), (73, .invokevirtual 108, 3, 88, 3, 25), (76, .ifCond .ne 5, 3, 81, 0, 0), (79, .iconst 0, 1, 0, 0, 0), (80, .ireturn, 1, 0, 0, 0),
  (81, .aload_n 0, 1, 0, 0, 0), (82, .getfield 49, 3, 6, 21, 1), (85, .iload_n 1, 1, 0, 0, 0), (86, .iconst 2, 1, 0, 0, 0), (87, .iadd, 1, 0, 0, 0), (88, .aload_n 0, 1, 0, 0, 0),
  (89, .getfield 102, 3, 6, 22, 0), (92, .iastore, 1, 0, 0, 0), (93, .aload_n 0, 1, 0, 0, 0), (94, .dup, 1, 0, 0, 0), (95, .getfield 111, 3, 6, 19, 0), (98, .iconst 1, 1, 0, 0, 0),
  (99, .iadd, 1, 0, 0, 0), (100, .putfield 111, 3, 6, 19, 0), (103, .iconst 1, 1, 0, 0, 0), (104, .ireturn, 1, 0, 0, 0)]
def ct_X6_readsHouse : List Nat := []
def cd_X6_readsItem : List nl_E := [(0, .aload_n 0, 1, 0, 0, 0), (1, .invokevirtual 94, 3, 86, 0, 25), (4, .istore_n 1, 1, 0, 0, 0), (5, .aload_n 0, 1, 0, 0, 0), (6, .dup, 1, 0, 0, 0), (7, .getfield 91, 3, 6, 17, 0),
  (10, .iconst 1, 1, 0, 0, 0), (11, .iadd, 1, 0, 0, 0), (12, .putfield 91, 3, 6, 17, 0), (15, .iload_n 1, 1, 0, 0, 0), (16, .bipush 110, 2, 0, 0, 0), (18, .if_icmp .ne 10, 3, 28, 0, 0),
  (21, .aload_n 0, 1, 0, 0, 0), (22, .invokevirtual 114, 3, 89, 0, 25), (25, .goto 21, 3, 46, 0, 0), (28, .iload_n 1, 1, 0, 0, 0), (29, .bipush 104, 2, 0, 0, 0), (31, .if_icmp .ne 14, 3, 45, 0, 0),
  (34, .aload_n 0, 1, 0, 0, 0), (35, .invokevirtual 117, 3, 90, 0, 25), (38, .ifCond .eq 7, 3, 45, 0, 0), (41, .iconst 1, 1, 0, 0, 0), (42, .goto 4, 3, 46, 0, 0), (45, .iconst 0, 1, 0, 0, 0),
  (46, .ireturn, 1, 0, 0, 0)]
def ct_X6_readsItem : List Nat := []
def cd_X6_fault : List nl_E := [(0, .aload_n 0, 1, 0, 0, 0), (1, .iconst 0, 1, 0, 0, 0), (2, .putfield 91, 3, 6, 17, 0), (5, .aload_n 0, 1, 0, 0, 0), (6, .iconst 0, 1, 0, 0, 0), (7, .putfield 105, 3, 6, 18, 0),
  (10, .aload_n 0, 1, 0, 0, 0), (11, .iconst 0, 1, 0, 0, 0), (12, .putfield 111, 3, 6, 19, 0), (15, .aload_n 0, 1, 0, 0, 0), (16, .getfield 91, 3, 6, 17, 0), (19, .aload_n 0, 1, 0, 0, 0),
  (20, .getfield 88, 3, 6, 16, 0), (23, .if_icmp .ge 20, 3, 43, 0, 0), (26, .aload_n 0, 1, 0, 0, 0), (27, .getfield 91, 3, 6, 17, 0), (30, .istore_n 1, 1, 0, 0, 0), (31, .aload_n 0, 1, 0, 0, 0),
  (32, .invokevirtual 120, 3, 91, 0, 25), (35, .ifCond .ne 5, 3, 40, 0, 0), (38, .iload_n 1, 1, 0, 0, 0), (39, .ireturn, 1, 0, 0, 0), (40, .goto (-25), 3, 15, 0, 0), (43, .bipush (-4), 2, 0, 0, 0),
  (45, .ireturn, 1, 0, 0, 0)]
def ct_X6_fault : List Nat := [15]
def cd_X6_lay : List nl_E := [(0, .aload_n 0, 1, 0, 0, 0), (1, .invokevirtual 123, 3, 92, 0, 25), (4, .bipush (-4), 2, 0, 0, 0), (6, .if_icmp .ne 22, 3, 28, 0, 0), (9, .aload_n 0, 1, 0, 0, 0), (10, .getfield 105, 3, 6, 18, 0),
  (13, .iconst 2, 1, 0, 0, 0), (14, .if_icmp .lt 14, 3, 28, 0, 0), (17, .aload_n 0, 1, 0, 0, 0), (18, .getfield 111, 3, 6, 19, 0), (21, .aload_n 0, 1, 0, 0, 0), (22, .getfield 105, 3, 6, 18, 0),
  (25, .if_icmp .eq 6, 3, 31, 0, 0), (28, .bipush (-2), 2, 0, 0, 0), (30, .ireturn, 1, 0, 0, 0), (31, .aload_n 0, 1, 0, 0, 0), (32, .iconst 0, 1, 0, 0, 0), (33, .putfield 74, 3, 6, 0, 0),
  (36, .iconst 0, 1, 0, 0, 0), (37, .istore_n 1, 1, 0, 0, 0), (38, .iload_n 1, 1, 0, 0, 0), (39, .aload_n 0, 1, 0, 0, 0), (40, .getfield 111, 3, 6, 19, 0), (43, .if_icmp .ge 47, 3, 90, 0, 0),
  (46, .aload_n 0, 1, 0, 0, 0), (47, .aload_n 0, 1, 0, 0, 0), (48, .getfield 49, 3, 6, 21, 1), (51, .iconst 3, 1, 0, 0, 0), (52, .iload_n 1, 1, 0, 0, 0), (53, .imul, 1, 0, 0, 0),
  (54, .iaload, 1, 0, 0, 0), (55, .aload_n 0, 1, 0, 0, 0), (56, .getfield 49, 3, 6, 21, 1), (59, .iconst 3, 1, 0, 0, 0), (60, .iload_n 1, 1, 0, 0, 0), (61, .imul, 1, 0, 0, 0),
  (62, .iconst 1, 1, 0, 0, 0), (63, .iadd, 1, 0, 0, 0), (64, .iaload, 1, 0, 0, 0), (65, .aload_n 0, 1, 0, 0, 0), (66, .getfield 49, 3, 6, 21, 1), (69, .iconst 3, 1, 0, 0, 0),
  (70, .iload_n 1, 1, 0, 0, 0), (71, .imul, 1, 0, 0, 0), (72, .iconst 2, 1, 0, 0, 0), (73, .iadd, 1, 0, 0, 0), (74, .iaload, 1, 0, 0, 0), (75, .aload_n 0, 1, 0, 0, 0),
  (76, .getfield 46, 3, 6, 20, 1), (79, .iload_n 1, 1, 0, 0, 0), (80, .iaload, 1, 0, 0, 0), (81, .invokevirtual 67, 3, 81, 4, 24), (84, .iinc 1 1, 3, 0, 0, 0), (87, .goto (-49), 3, 38, 0, 0),
  (90, .aload_n 0, 1, 0, 0, 0), (91, .invokevirtual 71, 3, 82, 0, 24), (94, .aload_n 0, 1, 0, 0, 0), (95, .iconst 0, 1, 0, 0, 0), (96, .putfield 126, 3, 6, 11, 0), (99, .aload_n 0, 1, 0, 0, 0),
  (100, .iconst 0, 1, 0, 0, 0), (101, .putfield 129, 3, 6, 24, 0), (104, .aload_n 0, 1, 0, 0, 0), (105, .iconst 0, 1, 0, 0, 0), (106, .putfield 132, 3, 6, 29, 0), (109, .aload_n 0, 1, 0, 0, 0),
  (110, .getfield 74, 3, 6, 0, 0), (113, .ireturn, 1, 0, 0, 0)]
def ct_X6_lay : List Nat := [38]
def cd_X6_mostOften : List nl_E := [(0, .bipush (-4), 2, 0, 0, 0), (2, .istore_n 2, 1, 0, 0, 0), (3, .iconst 0, 1, 0, 0, 0), (4, .istore_n 3, 1, 0, 0, 0), (5, .iconst 0, 1, 0, 0, 0), (6, .istore 4, 2, 0, 0, 0),
  (8, .iload 4, 2, 0, 0, 0), (10, .aload_n 0, 1, 0, 0, 0), (11, .getfield 74, 3, 6, 0, 0), (14, .if_icmp .ge 43, 3, 57, 0, 0), (17, .aload_n 0, 1, 0, 0, 0), (18, .getfield 28, 3, 6, 9, 1),
  (21, .bipush 7, 2, 0, 0, 0), (23, .iload_n 1, 1, 0, 0, 0), (24, .imul, 1, 0, 0, 0), (25, .iload 4, 2, 0, 0, 0), (27, .iadd, 1, 0, 0, 0), (28, .iaload, 1, 0, 0, 0),
  (29, .istore 5, 2, 0, 0, 0), (31, .iload 5, 2, 0, 0, 0), (33, .iload_n 3, 1, 0, 0, 0), (34, .if_icmp .le 8, 3, 42, 0, 0), (37, .iload 4, 2, 0, 0, 0), (39, .goto 4, 3, 43, 0, 0),
  (42, .iload_n 2, 1, 0, 0, 0), (43, .istore_n 2, 1, 0, 0, 0), (44, .iload_n 3, 1, 0, 0, 0), (45, .iload 5, 2, 0, 0, 0), (47, .invokestatic 135, 3, 80, 2, 1), (50, .istore_n 3, 1, 0, 0, 0),
  (51, .iinc 4 1, 3, 0, 0, 0), (54, .goto (-46), 3, 8, 0, 0), (57, .iload_n 2, 1, 0, 0, 0), (58, .ireturn, 1, 0, 0, 0)]
def ct_X6_mostOften : List Nat := [8]
def cd_X6_weight : List nl_E := [(0, .aload_n 0, 1, 0, 0, 0), (1, .getfield 31, 3, 6, 10, 1), (4, .iload_n 2, 1, 0, 0, 0), (5, .iaload, 1, 0, 0, 0), (6, .istore_n 3, 1, 0, 0, 0), (7, .aload_n 0, 1, 0, 0, 0),
  (8, .getfield 9, 3, 6, 1, 1), (11, .iload_n 1, 1, 0, 0, 0), (12, .iaload, 1, 0, 0, 0), (13, .tableswitch 74 1 3 #[27, 31, 48], 27, 87, 64008232, 3), (40, .iconst 2, 1, 0, 0, 0), (41, .iload_n 3, 1, 0, 0, 0),
  (42, .imul, 1, 0, 0, 0), (43, .ireturn, 1, 0, 0, 0), (44, .aload_n 0, 1, 0, 0, 0), (45, .iload_n 1, 1, 0, 0, 0), (46, .invokevirtual 139, 3, 94, 1, 25), (49, .iload_n 2, 1, 0, 0, 0),
  (50, .if_icmp .ne 9, 3, 59, 0, 0), (53, .iload_n 3, 1, 0, 0, 0), (54, .iconst 2, 1, 0, 0, 0), (55, .idiv, 1, 0, 0, 0), (56, .goto 4, 3, 60, 0, 0), (59, .iload_n 3, 1, 0, 0, 0),
  (60, .ireturn, 1, 0, 0, 0), (61, .iload_n 2, 1, 0, 0, 0), (62, .ifCond .eq 13, 3, 75, 0, 0), (65, .iload_n 2, 1, 0, 0, 0), (66, .aload_n 0, 1, 0, 0, 0), (67, .getfield 74, 3, 6, 0, 0),
  (70, .iconst 1, 1, 0, 0, 0), (71, .isub, 1, 0, 0, 0), (72, .if_icmp .ne 13, 3, 85, 0, 0), (75, .iconst 0, 1, 0, 0, 0), (76, .iload_n 3, 1, 0, 0, 0), (77, .iconst 3, 1, 0, 0, 0),
  (78, .isub, 1, 0, 0, 0), (79, .invokestatic 135, 3, 80, 2, 1), (82, .goto 4, 3, 86, 0, 0), (85, .iload_n 3, 1, 0, 0, 0), (86, .ireturn, 1, 0, 0, 0), (87, .iload_n 3, 1, 0, 0, 0),
  (88, .ireturn, 1, 0, 0, 0)]
def ct_X6_weight : List Nat := []
def cd_X6_keeps : List nl_E := [(0, .aload_n 0, 1, 0, 0, 0), (1, .iload_n 1, 1, 0, 0, 0), (2, .iload_n 2, 1, 0, 0, 0), (3, .invokevirtual 143, 3, 95, 2, 25), (6, .aload_n 0, 1, 0, 0, 0), (7, .getfield 13, 3, 6, 2, 1),
  (10, .iload_n 1, 1, 0, 0, 0), (11, .iaload, 1, 0, 0, 0), (12, .aload_n 0, 1, 0, 0, 0), (13, .getfield 22, 3, 6, 7, 1), (16, .iload_n 1, 1, 0, 0, 0), (17, .iaload, 1, 0, 0, 0),
  (18, .isub, 1, 0, 0, 0), (19, .if_icmp .gt 7, 3, 26, 0, 0), (22, .iconst 1, 1, 0, 0, 0), (23, .goto 4, 3, 27, 0, 0), (26, .iconst 0, 1, 0, 0, 0), (27, .ireturn, 1, 0, 0, 0)]
def ct_X6_keeps : List Nat := []
def cd_X6_gapSet : List nl_E := [(0, .iconst 0, 1, 0, 0, 0), (1, .istore_n 1, 1, 0, 0, 0), (2, .iconst 0, 1, 0, 0, 0), (3, .istore_n 2, 1, 0, 0, 0), (4, .iload_n 2, 1, 0, 0, 0), (5, .aload_n 0, 1, 0, 0, 0),
  (6, .getfield 74, 3, 6, 0, 0), (9, .if_icmp .ge 38, 3, 47, 0, 0), (12, .iload_n 1, 1, 0, 0, 0), (13, .aload_n 0, 1, 0, 0, 0), (14, .iload_n 2, 1, 0, 0, 0), (15, .aload_n 0, 1, 0, 0, 0),
  (16, .getfield 19, 3, 6, 6, 1), (19, .iload_n 2, 1, 0, 0, 0), (20, .iaload, 1, 0, 0, 0), (21, .invokevirtual 146, 3, 96, 2, 25), (24, .ifCond .eq 7, 3, 31, 0, 0), (27, .iconst 0, 1, 0, 0, 0),
  (28, .goto 11, 3, 39, 0, 0), (31, .iconst 1, 1, 0, 0, 0), (32, .aload_n 0, 1, 0, 0, 0), (33, .getfield 19, 3, 6, 6, 1), (36, .iload_n 2, 1, 0, 0, 0), (37, .iaload, 1, 0, 0, 0),
  (38, .ishl, 1, 0, 0, 0), (39, .ior, 1, 0, 0, 0), (40, .istore_n 1, 1, 0, 0, 0), (41, .iinc 2 1, 3, 0, 0, 0), (44, .goto (-40), 3, 4, 0, 0), (47, .iload_n 1, 1, 0, 0, 0),
  (48, .ireturn, 1, 0, 0, 0)]
def ct_X6_gapSet : List Nat := [4]
def cd_X6_passes : List nl_E := [(0, .iconst 0, 1, 0, 0, 0), (1, .istore_n 1, 1, 0, 0, 0), (2, .iconst 0, 1, 0, 0, 0), (3, .istore_n 2, 1, 0, 0, 0), (4, .iload_n 2, 1, 0, 0, 0), (5, .aload_n 0, 1, 0, 0, 0),
  (6, .getfield 74, 3, 6, 0, 0), (9, .if_icmp .ge 116, 3, 125, 0, 0), (12, .aload_n 0, 1, 0, 0, 0), (13, .getfield 19, 3, 6, 6, 1), (16, .iload_n 2, 1, 0, 0, 0), (17, .iaload, 1, 0, 0, 0),
  (18, .istore_n 3, 1, 0, 0, 0), (19, .aload_n 0, 1, 0, 0, 0), (20, .iload_n 2, 1, 0, 0, 0), (21, .iload_n 3, 1, 0, 0, 0), (22, .invokevirtual 146, 3, 96, 2, 25), (25, .ifCond .eq 25, 3, 50, 0, 0),
  (28, .aload_n 0, 1, 0, 0, 0), (29, .getfield 22, 3, 6, 7, 1), (32, .iload_n 2, 1, 0, 0, 0), (33, .bipush 40, 2, 0, 0, 0), (35, .aload_n 0, 1, 0, 0, 0), (36, .getfield 22, 3, 6, 7, 1),
  (39, .iload_n 2, 1, 0, 0, 0), (40, .iaload, 1, 0, 0, 0), (41, .iconst 2, 1, 0, 0, 0), (42, .iadd, 1, 0, 0, 0), (43, .invokestatic 150, 3, 79, 2, 1), (46, .iastore, 1, 0, 0, 0),
  (47, .goto 34, 3, 81, 0, 0), (50, .aload_n 0, 1, 0, 0, 0), (51, .getfield 22, 3, 6, 7, 1), (54, .iload_n 2, 1, 0, 0, 0), (55, .iconst 0, 1, 0, 0, 0), (56, .aload_n 0, 1, 0, 0, 0),
  (57, .getfield 22, 3, 6, 7, 1), (60, .iload_n 2, 1, 0, 0, 0), (61, .iaload, 1, 0, 0, 0), (62, .iconst 3, 1, 0, 0, 0), (63, .isub, 1, 0, 0, 0), (64, .invokestatic 135, 3, 80, 2, 1),
  (67, .iastore, 1, 0, 0, 0), (68, .aload_n 0, 1, 0, 0, 0), (69, .getfield 25, 3, 6, 8, 1), (72, .iload_n 2, 1, 0, 0, 0), (73, .dup2, 1, 0, 0, 0), (74, .iaload, 1, 0, 0, 0),
  (75, .iconst 1, 1, 0, 0, 0), (76, .iadd, 1, 0, 0, 0), (77, .iastore, 1, 0, 0, 0), (78, .iinc 1 1, 3, 0, 0, 0), (81, .aload_n 0, 1, 0, 0, 0), (82, .getfield 28, 3, 6, 9, 1),
  (85, .bipush 7, 2, 0, 0, 0), (87, .iload_n 2, 1, 0, 0, 0), (88, .imul, 1, 0, 0, 0), (89, .iload_n 3, 1, 0, 0, 0), (90, .iadd, 1, 0, 0, 0), (91, .dup2, 1, 0, 0, 0),
  (92, .iaload, 1, 0, 0, 0), (93, .iconst 1, 1, 0, 0, 0), (94, .iadd, 1, 0, 0, 0), (95, .iastore, 1, 0, 0, 0), (96, .aload_n 0, 1, 0, 0, 0), (97, .getfield 19, 3, 6, 6, 1),
  (100, .iload_n 2, 1, 0, 0, 0), (101, .iload_n 3, 1, 0, 0, 0), (102, .iconst 1, 1, 0, 0, 0), (103, .iadd, 1, 0, 0, 0), (104, .aload_n 0, 1, 0, 0, 0), (105, .getfield 74, 3, 6, 0, 0),
  (108, .if_icmp .ge 9, 3, 117, 0, 0), (111, .iload_n 3, 1, 0, 0, 0), (112, .iconst 1, 1, 0, 0, 0), (113, .iadd, 1, 0, 0, 0), (114, .goto 4, 3, 118, 0, 0), (117, .iconst 0, 1, 0, 0, 0),
  (118, .iastore, 1, 0, 0, 0), (119, .iinc 2 1, 3, 0, 0, 0), (122, .goto (-118), 3, 4, 0, 0), (125, .aload_n 0, 1, 0, 0, 0), (126, .dup, 1, 0, 0, 0), (127, .getfield 78, 3, 6, 4, 0),
  (130, .iconst 1, 1, 0, 0, 0), (131, .iadd, 1, 0, 0, 0), (132, .putfield 78, 3, 6, 4, 0), (135, .aload_n 0, 1, 0, 0, 0), (136, .dup, 1, 0, 0, 0), (137, .getfield 81, 3, 6, 5, 0),
  (140, .iload_n 1, 1, 0, 0, 0), (141, .iadd, 1, 0, 0, 0), (142, .putfield 81, 3, 6, 5, 0), (145, .iload_n 1, 1, 0, 0, 0), (146, .ireturn, 1, 0, 0, 0)]
def ct_X6_passes : List Nat := [4]
def cd_X6_goesOn : List nl_E := [(0, .iconst 0, 1, 0, 0, 0), (1, .istore_n 2, 1, 0, 0, 0), (2, .iconst 0, 1, 0, 0, 0), (3, .istore_n 3, 1, 0, 0, 0), (4, .iload_n 3, 1, 0, 0, 0), (5, .iload_n 1, 1, 0, 0, 0),
  (6, .if_icmp .ge 16, 3, 22, 0, 0), (9, .iload_n 2, 1, 0, 0, 0), (10, .aload_n 0, 1, 0, 0, 0), (11, .invokevirtual 153, 3, 98, 0, 25), (14, .iadd, 1, 0, 0, 0), (15, .istore_n 2, 1, 0, 0, 0),
  (16, .iinc 3 1, 3, 0, 0, 0), (19, .goto (-15), 3, 4, 0, 0), (22, .iload_n 2, 1, 0, 0, 0), (23, .ireturn, 1, 0, 0, 0)]
def ct_X6_goesOn : List Nat := [4]
def cd_X6_house : List nl_E := [(0, .aload_n 0, 1, 0, 0, 0), (1, .iload_n 1, 1, 0, 0, 0), (2, .invokevirtual 156, 3, 83, 1, 25), (5, .ifCond .eq 12, 3, 17, 0, 0), (8, .iload_n 2, 1, 0, 0, 0), (9, .iconst 0, 1, 0, 0, 0),
  (10, .iconst 5, 1, 0, 0, 0), (11, .invokestatic 84, 3, 76, 3, 1), (14, .ifCond .ne 5, 3, 19, 0, 0), (17, .iconst (-1), 1, 0, 0, 0), (18, .ireturn, 1, 0, 0, 0), (19, .iload_n 2, 1, 0, 0, 0),
  (20, .tableswitch 71 0 4 #[36, 43, 50, 57, 64], 36, 91, 92441728318520, 5), (56, .aload_n 0, 1, 0, 0, 0), (57, .getfield 9, 3, 6, 1, 1), (60, .iload_n 1, 1, 0, 0, 0), (61, .iaload, 1, 0, 0, 0), (62, .ireturn, 1, 0, 0, 0),
  (63, .aload_n 0, 1, 0, 0, 0), (64, .getfield 13, 3, 6, 2, 1), (67, .iload_n 1, 1, 0, 0, 0), (68, .iaload, 1, 0, 0, 0), (69, .ireturn, 1, 0, 0, 0), (70, .aload_n 0, 1, 0, 0, 0),
  (71, .getfield 16, 3, 6, 3, 1), (74, .iload_n 1, 1, 0, 0, 0), (75, .iaload, 1, 0, 0, 0), (76, .ireturn, 1, 0, 0, 0), (77, .aload_n 0, 1, 0, 0, 0), (78, .getfield 22, 3, 6, 7, 1),
  (81, .iload_n 1, 1, 0, 0, 0), (82, .iaload, 1, 0, 0, 0), (83, .ireturn, 1, 0, 0, 0), (84, .aload_n 0, 1, 0, 0, 0), (85, .getfield 19, 3, 6, 6, 1), (88, .iload_n 1, 1, 0, 0, 0),
  (89, .iaload, 1, 0, 0, 0), (90, .ireturn, 1, 0, 0, 0), (91, .aload_n 0, 1, 0, 0, 0), (92, .getfield 25, 3, 6, 8, 1), (95, .iload_n 1, 1, 0, 0, 0), (96, .iaload, 1, 0, 0, 0),
  (97, .ireturn, 1, 0, 0, 0)]
def ct_X6_house : List Nat := []
def cd_X6_whoHas : List nl_E := [(0, .iconst 0, 1, 0, 0, 0), (1, .istore_n 2, 1, 0, 0, 0), (2, .aload_n 0, 1, 0, 0, 0), (3, .getfield 19, 3, 6, 6, 1), (6, .iload_n 2, 1, 0, 0, 0), (7, .iaload, 1, 0, 0, 0),
  (8, .iload_n 1, 1, 0, 0, 0), (9, .if_icmp .eq 9, 3, 18, 0, 0), (12, .iinc 2 1, 3, 0, 0, 0), (15, .goto (-13), 3, 2, 0, 0), (18, .iload_n 2, 1, 0, 0, 0), (19, .ireturn, 1, 0, 0, 0)]
def ct_X6_whoHas : List Nat := [2]
def cd_X6_hour : List nl_E := [(0, .aload_n 0, 1, 0, 0, 0), (1, .iload_n 1, 1, 0, 0, 0), (2, .invokevirtual 156, 3, 83, 1, 25), (5, .ifCond .eq 12, 3, 17, 0, 0), (8, .iload_n 2, 1, 0, 0, 0), (9, .iconst 0, 1, 0, 0, 0),
  (10, .iconst 1, 1, 0, 0, 0), (11, .invokestatic 84, 3, 76, 3, 1), (14, .ifCond .ne 5, 3, 19, 0, 0), (17, .iconst (-1), 1, 0, 0, 0), (18, .ireturn, 1, 0, 0, 0), (19, .iload_n 2, 1, 0, 0, 0),
  (20, .ifCond .ne 12, 3, 32, 0, 0), (23, .aload_n 0, 1, 0, 0, 0), (24, .getfield 31, 3, 6, 10, 1), (27, .iload_n 1, 1, 0, 0, 0), (28, .iaload, 1, 0, 0, 0), (29, .goto 8, 3, 37, 0, 0),
  (32, .aload_n 0, 1, 0, 0, 0), (33, .iload_n 1, 1, 0, 0, 0), (34, .invokevirtual 160, 3, 101, 1, 25), (37, .ireturn, 1, 0, 0, 0)]
def ct_X6_hour : List Nat := []
def cd_X6_heavy : List nl_E := [(0, .aload_n 0, 1, 0, 0, 0), (1, .iload_n 1, 1, 0, 0, 0), (2, .invokevirtual 156, 3, 83, 1, 25), (5, .ifCond .eq 20, 3, 25, 0, 0), (8, .aload_n 0, 1, 0, 0, 0), (9, .iload_n 2, 1, 0, 0, 0),
  (10, .invokevirtual 156, 3, 83, 1, 25), (13, .ifCond .eq 12, 3, 25, 0, 0), (16, .aload_n 0, 1, 0, 0, 0), (17, .iload_n 1, 1, 0, 0, 0), (18, .iload_n 2, 1, 0, 0, 0), (19, .invokevirtual 143, 3, 95, 2, 25),
  (22, .goto 4, 3, 26, 0, 0), (25, .iconst (-1), 1, 0, 0, 0), (26, .ireturn, 1, 0, 0, 0)]
def ct_X6_heavy : List Nat := []
def cd_X6_had : List nl_E := [(0, .aload_n 0, 1, 0, 0, 0), (1, .iload_n 1, 1, 0, 0, 0), (2, .invokevirtual 156, 3, 83, 1, 25), (5, .ifCond .eq 25, 3, 30, 0, 0), (8, .aload_n 0, 1, 0, 0, 0), (9, .iload_n 2, 1, 0, 0, 0),
  (10, .invokevirtual 156, 3, 83, 1, 25), (13, .ifCond .eq 17, 3, 30, 0, 0), (16, .aload_n 0, 1, 0, 0, 0), (17, .getfield 28, 3, 6, 9, 1), (20, .bipush 7, 2, 0, 0, 0), (22, .iload_n 1, 1, 0, 0, 0),
  (23, .imul, 1, 0, 0, 0), (24, .iload_n 2, 1, 0, 0, 0), (25, .iadd, 1, 0, 0, 0), (26, .iaload, 1, 0, 0, 0), (27, .goto 4, 3, 31, 0, 0), (30, .iconst (-1), 1, 0, 0, 0),
  (31, .ireturn, 1, 0, 0, 0)]
def ct_X6_had : List Nat := []
def cd_X6_lays : List nl_E := [(0, .aload_n 1, 1, 0, 0, 0), (1, .iload_n 2, 1, 0, 0, 0), (2, .aload_n 0, 1, 0, 0, 0), (3, .getfield 78, 3, 6, 4, 0), (6, .iastore, 1, 0, 0, 0), (7, .aload_n 1, 1, 0, 0, 0),
  (8, .iload_n 2, 1, 0, 0, 0), (9, .iconst 1, 1, 0, 0, 0), (10, .iadd, 1, 0, 0, 0), (11, .aload_n 0, 1, 0, 0, 0), (12, .getfield 81, 3, 6, 5, 0), (15, .iastore, 1, 0, 0, 0),
  (16, .iconst 0, 1, 0, 0, 0), (17, .istore_n 3, 1, 0, 0, 0), (18, .iload_n 3, 1, 0, 0, 0), (19, .bipush 7, 2, 0, 0, 0), (21, .if_icmp .ge 64, 3, 85, 0, 0), (24, .aload_n 1, 1, 0, 0, 0),
  (25, .iload_n 2, 1, 0, 0, 0), (26, .iconst 2, 1, 0, 0, 0), (27, .iadd, 1, 0, 0, 0), (28, .iload_n 3, 1, 0, 0, 0), (29, .iadd, 1, 0, 0, 0), (30, .aload_n 0, 1, 0, 0, 0),
  (31, .getfield 19, 3, 6, 6, 1), (34, .iload_n 3, 1, 0, 0, 0), (35, .iaload, 1, 0, 0, 0), (36, .iastore, 1, 0, 0, 0), (37, .aload_n 1, 1, 0, 0, 0), (38, .iload_n 2, 1, 0, 0, 0),
  (39, .bipush 9, 2, 0, 0, 0), (41, .iadd, 1, 0, 0, 0), (42, .iload_n 3, 1, 0, 0, 0), (43, .iadd, 1, 0, 0, 0), (44, .aload_n 0, 1, 0, 0, 0), (45, .getfield 22, 3, 6, 7, 1),
  (48, .iload_n 3, 1, 0, 0, 0), (49, .iaload, 1, 0, 0, 0), (50, .iastore, 1, 0, 0, 0), (51, .aload_n 1, 1, 0, 0, 0), (52, .iload_n 2, 1, 0, 0, 0), (53, .bipush 16, 2, 0, 0, 0),
  (55, .iadd, 1, 0, 0, 0), (56, .iload_n 3, 1, 0, 0, 0), (57, .iadd, 1, 0, 0, 0), (58, .aload_n 0, 1, 0, 0, 0), (59, .getfield 25, 3, 6, 8, 1), (62, .iload_n 3, 1, 0, 0, 0),
  (63, .iaload, 1, 0, 0, 0), (64, .iastore, 1, 0, 0, 0), (65, .aload_n 1, 1, 0, 0, 0), (66, .iload_n 2, 1, 0, 0, 0), (67, .bipush 23, 2, 0, 0, 0), (69, .iadd, 1, 0, 0, 0),
  (70, .iload_n 3, 1, 0, 0, 0), (71, .iadd, 1, 0, 0, 0), (72, .aload_n 0, 1, 0, 0, 0), (73, .getfield 31, 3, 6, 10, 1), (76, .iload_n 3, 1, 0, 0, 0), (77, .iaload, 1, 0, 0, 0),
  (78, .iastore, 1, 0, 0, 0), (79, .iinc 3 1, 3, 0, 0, 0), (82, .goto (-64), 3, 18, 0, 0), (85, .iconst 0, 1, 0, 0, 0), (86, .istore_n 3, 1, 0, 0, 0), (87, .iload_n 3, 1, 0, 0, 0),
  (88, .bipush 49, 2, 0, 0, 0), (90, .if_icmp .ge 23, 3, 113, 0, 0), (93, .aload_n 1, 1, 0, 0, 0), (94, .iload_n 2, 1, 0, 0, 0), (95, .bipush 30, 2, 0, 0, 0), (97, .iadd, 1, 0, 0, 0),
  (98, .iload_n 3, 1, 0, 0, 0), (99, .iadd, 1, 0, 0, 0), (100, .aload_n 0, 1, 0, 0, 0), (101, .getfield 28, 3, 6, 9, 1), (104, .iload_n 3, 1, 0, 0, 0), (105, .iaload, 1, 0, 0, 0),
  (106, .iastore, 1, 0, 0, 0), (107, .iinc 3 1, 3, 0, 0, 0), (110, .goto (-23), 3, 87, 0, 0), (113, .return_, 1, 0, 0, 0)]
def ct_X6_lays : List Nat := [18, 87]
def cd_X6_takes : List nl_E := [(0, .aload_n 0, 1, 0, 0, 0), (1, .aload_n 1, 1, 0, 0, 0), (2, .iload_n 2, 1, 0, 0, 0), (3, .iaload, 1, 0, 0, 0), (4, .putfield 78, 3, 6, 4, 0), (7, .aload_n 0, 1, 0, 0, 0),
  (8, .aload_n 1, 1, 0, 0, 0), (9, .iload_n 2, 1, 0, 0, 0), (10, .iconst 1, 1, 0, 0, 0), (11, .iadd, 1, 0, 0, 0), (12, .iaload, 1, 0, 0, 0), (13, .putfield 81, 3, 6, 5, 0),
  (16, .iconst 0, 1, 0, 0, 0), (17, .istore_n 3, 1, 0, 0, 0), (18, .iload_n 3, 1, 0, 0, 0), (19, .bipush 7, 2, 0, 0, 0), (21, .if_icmp .ge 64, 3, 85, 0, 0), (24, .aload_n 0, 1, 0, 0, 0),
  (25, .getfield 19, 3, 6, 6, 1), (28, .iload_n 3, 1, 0, 0, 0), (29, .aload_n 1, 1, 0, 0, 0), (30, .iload_n 2, 1, 0, 0, 0), (31, .iconst 2, 1, 0, 0, 0), (32, .iadd, 1, 0, 0, 0),
  (33, .iload_n 3, 1, 0, 0, 0), (34, .iadd, 1, 0, 0, 0), (35, .iaload, 1, 0, 0, 0), (36, .iastore, 1, 0, 0, 0), (37, .aload_n 0, 1, 0, 0, 0), (38, .getfield 22, 3, 6, 7, 1),
  (41, .iload_n 3, 1, 0, 0, 0), (42, .aload_n 1, 1, 0, 0, 0), (43, .iload_n 2, 1, 0, 0, 0), (44, .bipush 9, 2, 0, 0, 0), (46, .iadd, 1, 0, 0, 0), (47, .iload_n 3, 1, 0, 0, 0),
  (48, .iadd, 1, 0, 0, 0), (49, .iaload, 1, 0, 0, 0), (50, .iastore, 1, 0, 0, 0), (51, .aload_n 0, 1, 0, 0, 0), (52, .getfield 25, 3, 6, 8, 1), (55, .iload_n 3, 1, 0, 0, 0),
  (56, .aload_n 1, 1, 0, 0, 0), (57, .iload_n 2, 1, 0, 0, 0), (58, .bipush 16, 2, 0, 0, 0), (60, .iadd, 1, 0, 0, 0), (61, .iload_n 3, 1, 0, 0, 0), (62, .iadd, 1, 0, 0, 0),
  (63, .iaload, 1, 0, 0, 0), (64, .iastore, 1, 0, 0, 0), (65, .aload_n 0, 1, 0, 0, 0), (66, .getfield 31, 3, 6, 10, 1), (69, .iload_n 3, 1, 0, 0, 0), (70, .aload_n 1, 1, 0, 0, 0),
  (71, .iload_n 2, 1, 0, 0, 0), (72, .bipush 23, 2, 0, 0, 0), (74, .iadd, 1, 0, 0, 0), (75, .iload_n 3, 1, 0, 0, 0), (76, .iadd, 1, 0, 0, 0), (77, .iaload, 1, 0, 0, 0),
  (78, .iastore, 1, 0, 0, 0), (79, .iinc 3 1, 3, 0, 0, 0), (82, .goto (-64), 3, 18, 0, 0), (85, .iconst 0, 1, 0, 0, 0), (86, .istore_n 3, 1, 0, 0, 0), (87, .iload_n 3, 1, 0, 0, 0),
  (88, .bipush 49, 2, 0, 0, 0), (90, .if_icmp .ge 23, 3, 113, 0, 0), (93, .aload_n 0, 1, 0, 0, 0), (94, .getfield 28, 3, 6, 9, 1), (97, .iload_n 3, 1, 0, 0, 0), (98, .aload_n 1, 1, 0, 0, 0),
  (99, .iload_n 2, 1, 0, 0, 0), (100, .bipush 30, 2, 0, 0, 0), (102, .iadd, 1, 0, 0, 0), (103, .iload_n 3, 1, 0, 0, 0), (104, .iadd, 1, 0, 0, 0), (105, .iaload, 1, 0, 0, 0),
  (106, .iastore, 1, 0, 0, 0), (107, .iinc 3 1, 3, 0, 0, 0), (110, .goto (-23), 3, 87, 0, 0), (113, .return_, 1, 0, 0, 0)]
def ct_X6_takes : List Nat := [18, 87]
def cd_X6_notes : List nl_E := [(0, .aload_n 0, 1, 0, 0, 0), (1, .getfield 129, 3, 6, 24, 0), (4, .bipush 8, 2, 0, 0, 0), (6, .if_icmp .ne 43, 3, 49, 0, 0), (9, .iconst 0, 1, 0, 0, 0), (10, .istore_n 1, 1, 0, 0, 0),
  (11, .iload_n 1, 1, 0, 0, 0), (12, .sipush 553, 3, 0, 0, 0), (15, .if_icmp .ge 24, 3, 39, 0, 0), (18, .aload_n 0, 1, 0, 0, 0), (19, .getfield 52, 3, 6, 23, 1), (22, .iload_n 1, 1, 0, 0, 0),
  (23, .aload_n 0, 1, 0, 0, 0), (24, .getfield 52, 3, 6, 23, 1), (27, .iload_n 1, 1, 0, 0, 0), (28, .bipush 79, 2, 0, 0, 0), (30, .iadd, 1, 0, 0, 0), (31, .iaload, 1, 0, 0, 0),
  (32, .iastore, 1, 0, 0, 0), (33, .iinc 1 1, 3, 0, 0, 0), (36, .goto (-25), 3, 11, 0, 0), (39, .aload_n 0, 1, 0, 0, 0), (40, .dup, 1, 0, 0, 0), (41, .getfield 129, 3, 6, 24, 0),
  (44, .iconst 1, 1, 0, 0, 0), (45, .isub, 1, 0, 0, 0), (46, .putfield 129, 3, 6, 24, 0), (49, .aload_n 0, 1, 0, 0, 0), (50, .aload_n 0, 1, 0, 0, 0), (51, .getfield 52, 3, 6, 23, 1),
  (54, .bipush 79, 2, 0, 0, 0), (56, .aload_n 0, 1, 0, 0, 0), (57, .getfield 129, 3, 6, 24, 0), (60, .imul, 1, 0, 0, 0), (61, .invokevirtual 163, 3, 105, 2, 24), (64, .aload_n 0, 1, 0, 0, 0),
  (65, .dup, 1, 0, 0, 0), (66, .getfield 129, 3, 6, 24, 0), (69, .iconst 1, 1, 0, 0, 0), (70, .iadd, 1, 0, 0, 0), (71, .putfield 129, 3, 6, 24, 0), (74, .return_, 1, 0, 0, 0)]
def ct_X6_notes : List Nat := [11]
def cd_X6_pass : List nl_E := [(0, .iload_n 1, 1, 0, 0, 0), (1, .iconst 1, 1, 0, 0, 0), (2, .bipush 20, 2, 0, 0, 0), (4, .invokestatic 84, 3, 76, 3, 1), (7, .ifCond .ne 5, 3, 12, 0, 0), (10, .iconst (-1), 1, 0, 0, 0),
  (11, .ireturn, 1, 0, 0, 0), (12, .aload_n 0, 1, 0, 0, 0), (13, .getfield 78, 3, 6, 4, 0), (16, .iload_n 1, 1, 0, 0, 0), (17, .iadd, 1, 0, 0, 0), (18, .sipush 999, 3, 0, 0, 0),
  (21, .if_icmp .le 6, 3, 27, 0, 0), (24, .bipush (-2), 2, 0, 0, 0), (26, .ireturn, 1, 0, 0, 0), (27, .aload_n 0, 1, 0, 0, 0), (28, .invokevirtual 167, 3, 107, 0, 24), (31, .aload_n 0, 1, 0, 0, 0),
  (32, .iload_n 1, 1, 0, 0, 0), (33, .invokevirtual 170, 3, 99, 1, 25), (36, .ireturn, 1, 0, 0, 0)]
def ct_X6_pass : List Nat := []
def cd_X6_trades : List nl_E := [(0, .aload_n 0, 1, 0, 0, 0), (1, .getfield 19, 3, 6, 6, 1), (4, .iload_n 1, 1, 0, 0, 0), (5, .iaload, 1, 0, 0, 0), (6, .istore_n 3, 1, 0, 0, 0), (7, .aload_n 0, 1, 0, 0, 0),
  (8, .getfield 19, 3, 6, 6, 1), (11, .iload_n 1, 1, 0, 0, 0), (12, .aload_n 0, 1, 0, 0, 0), (13, .getfield 19, 3, 6, 6, 1), (16, .iload_n 2, 1, 0, 0, 0), (17, .iaload, 1, 0, 0, 0),
  (18, .iastore, 1, 0, 0, 0), (19, .aload_n 0, 1, 0, 0, 0), (20, .getfield 19, 3, 6, 6, 1), (23, .iload_n 2, 1, 0, 0, 0), (24, .iload_n 3, 1, 0, 0, 0), (25, .iastore, 1, 0, 0, 0),
  (26, .return_, 1, 0, 0, 0)]
def ct_X6_trades : List Nat := []
def cd_X6_swap : List nl_E := [(0, .aload_n 0, 1, 0, 0, 0), (1, .iload_n 1, 1, 0, 0, 0), (2, .invokevirtual 156, 3, 83, 1, 25), (5, .ifCond .eq 16, 3, 21, 0, 0), (8, .aload_n 0, 1, 0, 0, 0), (9, .iload_n 2, 1, 0, 0, 0),
  (10, .invokevirtual 156, 3, 83, 1, 25), (13, .ifCond .eq 8, 3, 21, 0, 0), (16, .iload_n 1, 1, 0, 0, 0), (17, .iload_n 2, 1, 0, 0, 0), (18, .if_icmp .ne 5, 3, 23, 0, 0), (21, .iconst (-1), 1, 0, 0, 0),
  (22, .ireturn, 1, 0, 0, 0), (23, .aload_n 0, 1, 0, 0, 0), (24, .invokevirtual 167, 3, 107, 0, 24), (27, .aload_n 0, 1, 0, 0, 0), (28, .iload_n 1, 1, 0, 0, 0), (29, .iload_n 2, 1, 0, 0, 0),
  (30, .invokevirtual 173, 3, 109, 2, 24), (33, .aload_n 0, 1, 0, 0, 0), (34, .getfield 19, 3, 6, 6, 1), (37, .iload_n 1, 1, 0, 0, 0), (38, .iaload, 1, 0, 0, 0), (39, .ireturn, 1, 0, 0, 0)]
def ct_X6_swap : List Nat := []
def cd_X6_rests : List nl_E := [(0, .aload_n 0, 1, 0, 0, 0), (1, .getfield 22, 3, 6, 7, 1), (4, .iload_n 1, 1, 0, 0, 0), (5, .iconst 0, 1, 0, 0, 0), (6, .aload_n 0, 1, 0, 0, 0), (7, .getfield 22, 3, 6, 7, 1),
  (10, .iload_n 1, 1, 0, 0, 0), (11, .iaload, 1, 0, 0, 0), (12, .iconst 5, 1, 0, 0, 0), (13, .isub, 1, 0, 0, 0), (14, .invokestatic 135, 3, 80, 2, 1), (17, .iastore, 1, 0, 0, 0),
  (18, .return_, 1, 0, 0, 0)]
def ct_X6_rests : List Nat := []
def cd_X6_rest : List nl_E := [(0, .aload_n 0, 1, 0, 0, 0), (1, .iload_n 1, 1, 0, 0, 0), (2, .invokevirtual 156, 3, 83, 1, 25), (5, .ifCond .ne 5, 3, 10, 0, 0), (8, .iconst (-1), 1, 0, 0, 0), (9, .ireturn, 1, 0, 0, 0),
  (10, .aload_n 0, 1, 0, 0, 0), (11, .getfield 22, 3, 6, 7, 1), (14, .iload_n 1, 1, 0, 0, 0), (15, .iaload, 1, 0, 0, 0), (16, .ifCond .ne 6, 3, 22, 0, 0), (19, .bipush (-2), 2, 0, 0, 0),
  (21, .ireturn, 1, 0, 0, 0), (22, .aload_n 0, 1, 0, 0, 0), (23, .invokevirtual 167, 3, 107, 0, 24), (26, .aload_n 0, 1, 0, 0, 0), (27, .iload_n 1, 1, 0, 0, 0), (28, .invokevirtual 177, 3, 111, 1, 24),
  (31, .aload_n 0, 1, 0, 0, 0), (32, .getfield 22, 3, 6, 7, 1), (35, .iload_n 1, 1, 0, 0, 0), (36, .iaload, 1, 0, 0, 0), (37, .ireturn, 1, 0, 0, 0)]
def ct_X6_rest : List Nat := []
def cd_X6_burden : List nl_E := [(0, .aload_n 0, 1, 0, 0, 0), (1, .iload_n 1, 1, 0, 0, 0), (2, .invokevirtual 156, 3, 83, 1, 25), (5, .ifCond .eq 13, 3, 18, 0, 0), (8, .iload_n 2, 1, 0, 0, 0), (9, .iconst 0, 1, 0, 0, 0),
  (10, .bipush 20, 2, 0, 0, 0), (12, .invokestatic 84, 3, 76, 3, 1), (15, .ifCond .ne 5, 3, 20, 0, 0), (18, .iconst (-1), 1, 0, 0, 0), (19, .ireturn, 1, 0, 0, 0), (20, .aload_n 0, 1, 0, 0, 0),
  (21, .getfield 31, 3, 6, 10, 1), (24, .iload_n 1, 1, 0, 0, 0), (25, .iaload, 1, 0, 0, 0), (26, .istore_n 3, 1, 0, 0, 0), (27, .iload_n 3, 1, 0, 0, 0), (28, .iload_n 2, 1, 0, 0, 0),
  (29, .if_icmp .ne 6, 3, 35, 0, 0), (32, .bipush (-2), 2, 0, 0, 0), (34, .ireturn, 1, 0, 0, 0), (35, .aload_n 0, 1, 0, 0, 0), (36, .invokevirtual 167, 3, 107, 0, 24), (39, .aload_n 0, 1, 0, 0, 0),
  (40, .getfield 31, 3, 6, 10, 1), (43, .iload_n 1, 1, 0, 0, 0), (44, .iload_n 2, 1, 0, 0, 0), (45, .iastore, 1, 0, 0, 0), (46, .iload_n 3, 1, 0, 0, 0), (47, .ireturn, 1, 0, 0, 0)]
def ct_X6_burden : List Nat := []
def cd_X6_undo : List nl_E := [(0, .aload_n 0, 1, 0, 0, 0), (1, .getfield 129, 3, 6, 24, 0), (4, .ifCond .ne 6, 3, 10, 0, 0), (7, .bipush (-2), 2, 0, 0, 0), (9, .ireturn, 1, 0, 0, 0), (10, .aload_n 0, 1, 0, 0, 0),
  (11, .dup, 1, 0, 0, 0), (12, .getfield 129, 3, 6, 24, 0), (15, .iconst 1, 1, 0, 0, 0), (16, .isub, 1, 0, 0, 0), (17, .putfield 129, 3, 6, 24, 0), (20, .aload_n 0, 1, 0, 0, 0),
  (21, .aload_n 0, 1, 0, 0, 0), (22, .getfield 52, 3, 6, 23, 1), (25, .bipush 79, 2, 0, 0, 0), (27, .aload_n 0, 1, 0, 0, 0), (28, .getfield 129, 3, 6, 24, 0), (31, .imul, 1, 0, 0, 0),
  (32, .invokevirtual 181, 3, 106, 2, 24), (35, .aload_n 0, 1, 0, 0, 0), (36, .getfield 129, 3, 6, 24, 0), (39, .ireturn, 1, 0, 0, 0)]
def ct_X6_undo : List Nat := []
def cd_X6_start : List nl_E := [(0, .aload_n 0, 1, 0, 0, 0), (1, .aload_n 0, 1, 0, 0, 0), (2, .getfield 55, 3, 6, 25, 1), (5, .iconst 0, 1, 0, 0, 0), (6, .invokevirtual 163, 3, 105, 2, 24), (9, .return_, 1, 0, 0, 0)]
def ct_X6_start : List Nat := []
def cd_X6_putBack : List nl_E := [(0, .aload_n 0, 1, 0, 0, 0), (1, .aload_n 0, 1, 0, 0, 0), (2, .getfield 55, 3, 6, 25, 1), (5, .iconst 0, 1, 0, 0, 0), (6, .invokevirtual 181, 3, 106, 2, 24), (9, .return_, 1, 0, 0, 0)]
def ct_X6_putBack : List Nat := []
def cd_X6_behind : List nl_E := [(0, .iload_n 1, 1, 0, 0, 0), (1, .iconst 0, 1, 0, 0, 0), (2, .bipush 40, 2, 0, 0, 0), (4, .invokestatic 84, 3, 76, 3, 1), (7, .ifCond .eq 20, 3, 27, 0, 0), (10, .aload_n 0, 1, 0, 0, 0),
  (11, .iload_n 2, 1, 0, 0, 0), (12, .invokevirtual 156, 3, 83, 1, 25), (15, .ifCond .eq 12, 3, 27, 0, 0), (18, .iload_n 3, 1, 0, 0, 0), (19, .iconst 0, 1, 0, 0, 0), (20, .iconst 1, 1, 0, 0, 0),
  (21, .invokestatic 84, 3, 76, 3, 1), (24, .ifCond .ne 5, 3, 29, 0, 0), (27, .iconst (-1), 1, 0, 0, 0), (28, .ireturn, 1, 0, 0, 0), (29, .aload_n 0, 1, 0, 0, 0), (30, .invokevirtual 184, 3, 115, 0, 24),
  (33, .aload_n 0, 1, 0, 0, 0), (34, .iload_n 1, 1, 0, 0, 0), (35, .invokevirtual 170, 3, 99, 1, 25), (38, .pop, 1, 0, 0, 0), (39, .iload_n 3, 1, 0, 0, 0), (40, .ifCond .ne 12, 3, 52, 0, 0),
  (43, .aload_n 0, 1, 0, 0, 0), (44, .getfield 22, 3, 6, 7, 1), (47, .iload_n 2, 1, 0, 0, 0), (48, .iaload, 1, 0, 0, 0), (49, .goto 9, 3, 58, 0, 0), (52, .aload_n 0, 1, 0, 0, 0),
  (53, .getfield 19, 3, 6, 6, 1), (56, .iload_n 2, 1, 0, 0, 0), (57, .iaload, 1, 0, 0, 0), (58, .istore 4, 2, 0, 0, 0), (60, .aload_n 0, 1, 0, 0, 0), (61, .invokevirtual 187, 3, 116, 0, 24),
  (64, .iload 4, 2, 0, 0, 0), (66, .ireturn, 1, 0, 0, 0)]
def ct_X6_behind : List Nat := []
def cd_X6_gaps : List nl_E := [(0, .aload_n 0, 1, 0, 0, 0), (1, .invokevirtual 190, 3, 97, 0, 25), (4, .ireturn, 1, 0, 0, 0)]
def ct_X6_gaps : List Nat := []
def cd_X6_first : List nl_E := [(0, .aload_n 0, 1, 0, 0, 0), (1, .iload_n 1, 1, 0, 0, 0), (2, .invokevirtual 156, 3, 83, 1, 25), (5, .ifCond .ne 5, 3, 10, 0, 0), (8, .iconst (-1), 1, 0, 0, 0), (9, .ireturn, 1, 0, 0, 0),
  (10, .aload_n 0, 1, 0, 0, 0), (11, .invokevirtual 184, 3, 115, 0, 24), (14, .aload_n 0, 1, 0, 0, 0), (15, .getfield 25, 3, 6, 8, 1), (18, .iload_n 1, 1, 0, 0, 0), (19, .iaload, 1, 0, 0, 0),
  (20, .istore_n 2, 1, 0, 0, 0), (21, .iconst 0, 1, 0, 0, 0), (22, .istore_n 3, 1, 0, 0, 0), (23, .iload_n 3, 1, 0, 0, 0), (24, .bipush 40, 2, 0, 0, 0), (26, .if_icmp .ge 24, 3, 50, 0, 0),
  (29, .aload_n 0, 1, 0, 0, 0), (30, .getfield 25, 3, 6, 8, 1), (33, .iload_n 1, 1, 0, 0, 0), (34, .iaload, 1, 0, 0, 0), (35, .iload_n 2, 1, 0, 0, 0), (36, .if_icmp .ne 14, 3, 50, 0, 0),
  (39, .aload_n 0, 1, 0, 0, 0), (40, .invokevirtual 153, 3, 98, 0, 25), (43, .pop, 1, 0, 0, 0), (44, .iinc 3 1, 3, 0, 0, 0), (47, .goto (-24), 3, 23, 0, 0), (50, .aload_n 0, 1, 0, 0, 0),
  (51, .getfield 25, 3, 6, 8, 1), (54, .iload_n 1, 1, 0, 0, 0), (55, .iaload, 1, 0, 0, 0), (56, .iload_n 2, 1, 0, 0, 0), (57, .if_icmp .le 7, 3, 64, 0, 0), (60, .iconst 1, 1, 0, 0, 0),
  (61, .goto 4, 3, 65, 0, 0), (64, .iconst 0, 1, 0, 0, 0), (65, .istore 4, 2, 0, 0, 0), (67, .aload_n 0, 1, 0, 0, 0), (68, .invokevirtual 187, 3, 116, 0, 24), (71, .iload 4, 2, 0, 0, 0),
  (73, .ifCond .eq 7, 3, 80, 0, 0), (76, .iload_n 3, 1, 0, 0, 0), (77, .goto 5, 3, 82, 0, 0), (80, .bipush (-4), 2, 0, 0, 0), (82, .ireturn, 1, 0, 0, 0)]
def ct_X6_first : List Nat := [23]
def cd_X6_firstRow : List nl_E := [(0, .iconst 0, 1, 0, 0, 0), (1, .istore_n 1, 1, 0, 0, 0), (2, .iload_n 1, 1, 0, 0, 0), (3, .aload_n 0, 1, 0, 0, 0), (4, .getfield 74, 3, 6, 0, 0), (7, .if_icmp .ge 16, 3, 23, 0, 0),
  (10, .aload_n 0, 1, 0, 0, 0), (11, .getfield 58, 3, 6, 26, 1), (14, .iload_n 1, 1, 0, 0, 0), (15, .iload_n 1, 1, 0, 0, 0), (16, .iastore, 1, 0, 0, 0), (17, .iinc 1 1, 3, 0, 0, 0),
  (20, .goto (-18), 3, 2, 0, 0), (23, .return_, 1, 0, 0, 0)]
def ct_X6_firstRow : List Nat := [2]
def cd_X6_nextRow : List nl_E := [(0, .aload_n 0, 1, 0, 0, 0), (1, .getfield 74, 3, 6, 0, 0), (4, .iconst 2, 1, 0, 0, 0), (5, .isub, 1, 0, 0, 0), (6, .istore_n 1, 1, 0, 0, 0), (7, .iload_n 1, 1, 0, 0, 0),
  (8, .ifCond .lt 26, 3, 34, 0, 0), (11, .aload_n 0, 1, 0, 0, 0), (12, .getfield 58, 3, 6, 26, 1), (15, .iload_n 1, 1, 0, 0, 0), (16, .iaload, 1, 0, 0, 0), (17, .aload_n 0, 1, 0, 0, 0),
  (18, .getfield 58, 3, 6, 26, 1), (21, .iload_n 1, 1, 0, 0, 0), (22, .iconst 1, 1, 0, 0, 0), (23, .iadd, 1, 0, 0, 0), (24, .iaload, 1, 0, 0, 0), (25, .if_icmp .le 9, 3, 34, 0, 0),
  (28, .iinc 1 (-1), 3, 0, 0, 0), (31, .goto (-24), 3, 7, 0, 0), (34, .iload_n 1, 1, 0, 0, 0), (35, .ifCond .ge 5, 3, 40, 0, 0), (38, .iconst 0, 1, 0, 0, 0), (39, .ireturn, 1, 0, 0, 0),
  (40, .aload_n 0, 1, 0, 0, 0), (41, .getfield 74, 3, 6, 0, 0), (44, .iconst 1, 1, 0, 0, 0), (45, .isub, 1, 0, 0, 0), (46, .istore_n 2, 1, 0, 0, 0), (47, .aload_n 0, 1, 0, 0, 0),
  (48, .getfield 58, 3, 6, 26, 1), (51, .iload_n 2, 1, 0, 0, 0), (52, .iaload, 1, 0, 0, 0), (53, .aload_n 0, 1, 0, 0, 0), (54, .getfield 58, 3, 6, 26, 1), (57, .iload_n 1, 1, 0, 0, 0),
  (58, .iaload, 1, 0, 0, 0), (59, .if_icmp .ge 9, 3, 68, 0, 0), (62, .iinc 2 (-1), 3, 0, 0, 0), (65, .goto (-18), 3, 47, 0, 0), (68, .aload_n 0, 1, 0, 0, 0), (69, .getfield 58, 3, 6, 26, 1),
  (72, .iload_n 1, 1, 0, 0, 0), (73, .iaload, 1, 0, 0, 0), (74, .istore_n 3, 1, 0, 0, 0), (75, .aload_n 0, 1, 0, 0, 0), (76, .getfield 58, 3, 6, 26, 1), (79, .iload_n 1, 1, 0, 0, 0),
  (80, .aload_n 0, 1, 0, 0, 0), (81, .getfield 58, 3, 6, 26, 1), (84, .iload_n 2, 1, 0, 0, 0), (85, .iaload, 1, 0, 0, 0), (86, .iastore, 1, 0, 0, 0), (87, .aload_n 0, 1, 0, 0, 0),
  (88, .getfield 58, 3, 6, 26, 1), (91, .iload_n 2, 1, 0, 0, 0), (92, .iload_n 3, 1, 0, 0, 0), (93, .iastore, 1, 0, 0, 0), (94, .aload_n 0, 1, 0, 0, 0), (95, .getfield 74, 3, 6, 0, 0),
  (98, .iconst 1, 1, 0, 0, 0), (99, .isub, 1, 0, 0, 0), (100, .istore 4, 2, 0, 0, 0), (102, .iload_n 1, 1, 0, 0, 0), (103, .iconst 1, 1, 0, 0, 0), (104, .iadd, 1, 0, 0, 0),
  (105, .istore 5, 2, 0, 0, 0), (107, .iload 5, 2, 0, 0, 0), (109, .iload 4, 2, 0, 0, 0), (111, .if_icmp .ge 44, 3, 155, 0, 0), (114, .aload_n 0, 1, 0, 0, 0), (115, .getfield 58, 3, 6, 26, 1),
  (118, .iload 5, 2, 0, 0, 0), (120, .iaload, 1, 0, 0, 0), (121, .istore 6, 2, 0, 0, 0), (123, .aload_n 0, 1, 0, 0, 0), (124, .getfield 58, 3, 6, 26, 1), (127, .iload 5, 2, 0, 0, 0),
  (129, .aload_n 0, 1, 0, 0, 0), (130, .getfield 58, 3, 6, 26, 1), (133, .iload 4, 2, 0, 0, 0), (135, .iaload, 1, 0, 0, 0), (136, .iastore, 1, 0, 0, 0), (137, .aload_n 0, 1, 0, 0, 0),
  (138, .getfield 58, 3, 6, 26, 1), (141, .iload 4, 2, 0, 0, 0), (143, .iload 6, 2, 0, 0, 0), (145, .iastore, 1, 0, 0, 0), (146, .iinc 4 (-1), 3, 0, 0, 0), (149, .iinc 5 1, 3, 0, 0, 0),
  (152, .goto (-45), 3, 107, 0, 0), (155, .iconst 1, 1, 0, 0, 0), (156, .ireturn, 1, 0, 0, 0)]
def ct_X6_nextRow : List Nat := [7, 47, 107]
def cd_X6_gapsBy : List nl_E := [(0, .iconst 0, 1, 0, 0, 0), (1, .istore_n 1, 1, 0, 0, 0), (2, .iconst 0, 1, 0, 0, 0), (3, .istore_n 2, 1, 0, 0, 0), (4, .iload_n 2, 1, 0, 0, 0), (5, .aload_n 0, 1, 0, 0, 0),
  (6, .getfield 74, 3, 6, 0, 0), (9, .if_icmp .ge 31, 3, 40, 0, 0), (12, .iload_n 1, 1, 0, 0, 0), (13, .aload_n 0, 1, 0, 0, 0), (14, .iload_n 2, 1, 0, 0, 0), (15, .aload_n 0, 1, 0, 0, 0),
  (16, .getfield 58, 3, 6, 26, 1), (19, .iload_n 2, 1, 0, 0, 0), (20, .iaload, 1, 0, 0, 0), (21, .invokevirtual 146, 3, 96, 2, 25), (24, .ifCond .eq 7, 3, 31, 0, 0), (27, .iconst 0, 1, 0, 0, 0),
  (28, .goto 4, 3, 32, 0, 0), (31, .iconst 1, 1, 0, 0, 0), (32, .iadd, 1, 0, 0, 0), (33, .istore_n 1, 1, 0, 0, 0), (34, .iinc 2 1, 3, 0, 0, 0), (37, .goto (-33), 3, 4, 0, 0),
  (40, .iload_n 1, 1, 0, 0, 0), (41, .ireturn, 1, 0, 0, 0)]
def ct_X6_gapsBy : List Nat := [4]
def cd_X6_keptWeight : List nl_E := [(0, .iconst 0, 1, 0, 0, 0), (1, .istore_n 1, 1, 0, 0, 0), (2, .iconst 0, 1, 0, 0, 0), (3, .istore_n 2, 1, 0, 0, 0), (4, .iload_n 2, 1, 0, 0, 0), (5, .aload_n 0, 1, 0, 0, 0),
  (6, .getfield 74, 3, 6, 0, 0), (9, .if_icmp .ge 41, 3, 50, 0, 0), (12, .iload_n 1, 1, 0, 0, 0), (13, .aload_n 0, 1, 0, 0, 0), (14, .iload_n 2, 1, 0, 0, 0), (15, .aload_n 0, 1, 0, 0, 0),
  (16, .getfield 58, 3, 6, 26, 1), (19, .iload_n 2, 1, 0, 0, 0), (20, .iaload, 1, 0, 0, 0), (21, .invokevirtual 146, 3, 96, 2, 25), (24, .ifCond .eq 17, 3, 41, 0, 0), (27, .aload_n 0, 1, 0, 0, 0),
  (28, .iload_n 2, 1, 0, 0, 0), (29, .aload_n 0, 1, 0, 0, 0), (30, .getfield 58, 3, 6, 26, 1), (33, .iload_n 2, 1, 0, 0, 0), (34, .iaload, 1, 0, 0, 0), (35, .invokevirtual 143, 3, 95, 2, 25),
  (38, .goto 4, 3, 42, 0, 0), (41, .iconst 0, 1, 0, 0, 0), (42, .iadd, 1, 0, 0, 0), (43, .istore_n 1, 1, 0, 0, 0), (44, .iinc 2 1, 3, 0, 0, 0), (47, .goto (-43), 3, 4, 0, 0),
  (50, .iload_n 1, 1, 0, 0, 0), (51, .ireturn, 1, 0, 0, 0)]
def ct_X6_keptWeight : List Nat := [4]
def cd_X6_even : List nl_E := [(0, .iload_n 1, 1, 0, 0, 0), (1, .iconst (-1), 1, 0, 0, 0), (2, .aload_n 0, 1, 0, 0, 0), (3, .getfield 74, 3, 6, 0, 0), (6, .iconst 1, 1, 0, 0, 0), (7, .isub, 1, 0, 0, 0),
  (8, .invokestatic 84, 3, 76, 3, 1), (11, .ifCond .ne 5, 3, 16, 0, 0), (14, .iconst (-1), 1, 0, 0, 0), (15, .ireturn, 1, 0, 0, 0), (16, .ldc 193, 2, 1048576, 0, 0), (18, .istore_n 2, 1, 0, 0, 0),
  (19, .bipush (-4), 2, 0, 0, 0), (21, .istore_n 3, 1, 0, 0, 0), (22, .aload_n 0, 1, 0, 0, 0), (23, .invokevirtual 194, 3, 120, 0, 24), (26, .iconst 1, 1, 0, 0, 0), (27, .istore 4, 2, 0, 0, 0),
  (29, .iload 4, 2, 0, 0, 0), (31, .ifCond .eq 80, 3, 111, 0, 0), (34, .aload_n 0, 1, 0, 0, 0), (35, .invokevirtual 197, 3, 122, 0, 25), (38, .istore 5, 2, 0, 0, 0), (40, .aload_n 0, 1, 0, 0, 0),
  (41, .invokevirtual 200, 3, 123, 0, 25), (44, .istore 6, 2, 0, 0, 0), (46, .iload 5, 2, 0, 0, 0), (48, .iload_n 2, 1, 0, 0, 0), (49, .if_icmp .lt 15, 3, 64, 0, 0), (52, .iload 5, 2, 0, 0, 0),
  (54, .iload_n 2, 1, 0, 0, 0), (55, .if_icmp .ne 47, 3, 102, 0, 0), (58, .iload 6, 2, 0, 0, 0), (60, .iload_n 3, 1, 0, 0, 0), (61, .if_icmp .le 41, 3, 102, 0, 0), (64, .iload 5, 2, 0, 0, 0),
  (66, .istore_n 2, 1, 0, 0, 0), (67, .iload 6, 2, 0, 0, 0), (69, .istore_n 3, 1, 0, 0, 0), (70, .iconst 0, 1, 0, 0, 0), (71, .istore 7, 2, 0, 0, 0), (73, .iload 7, 2, 0, 0, 0),
  (75, .aload_n 0, 1, 0, 0, 0), (76, .getfield 74, 3, 6, 0, 0), (79, .if_icmp .ge 23, 3, 102, 0, 0), (82, .aload_n 0, 1, 0, 0, 0), (83, .getfield 61, 3, 6, 27, 1), (86, .iload 7, 2, 0, 0, 0),
  (88, .aload_n 0, 1, 0, 0, 0), (89, .getfield 58, 3, 6, 26, 1), (92, .iload 7, 2, 0, 0, 0), (94, .iaload, 1, 0, 0, 0), (95, .iastore, 1, 0, 0, 0), (96, .iinc 7 1, 3, 0, 0, 0),
  (99, .goto (-26), 3, 73, 0, 0), (102, .aload_n 0, 1, 0, 0, 0), (103, .invokevirtual 203, 3, 121, 0, 25), (106, .istore 4, 2, 0, 0, 0), (108, .goto (-79), 3, 29, 0, 0), (111, .iload_n 1, 1, 0, 0, 0),
  (112, .ifCond .ge 7, 3, 119, 0, 0), (115, .iload_n 2, 1, 0, 0, 0), (116, .goto 9, 3, 125, 0, 0), (119, .aload_n 0, 1, 0, 0, 0), (120, .getfield 61, 3, 6, 27, 1), (123, .iload_n 1, 1, 0, 0, 0),
  (124, .iaload, 1, 0, 0, 0), (125, .ireturn, 1, 0, 0, 0)]
def ct_X6_even : List Nat := [29, 73]
def cd_X6_swapsTo : List nl_E := [(0, .aload_n 0, 1, 0, 0, 0), (1, .getfield 74, 3, 6, 0, 0), (4, .istore_n 1, 1, 0, 0, 0), (5, .iconst 0, 1, 0, 0, 0), (6, .istore_n 2, 1, 0, 0, 0), (7, .iconst 0, 1, 0, 0, 0),
  (8, .istore_n 3, 1, 0, 0, 0), (9, .iload_n 3, 1, 0, 0, 0), (10, .aload_n 0, 1, 0, 0, 0), (11, .getfield 74, 3, 6, 0, 0), (14, .if_icmp .ge 60, 3, 74, 0, 0), (17, .iload_n 3, 1, 0, 0, 0),
  (18, .istore 4, 2, 0, 0, 0), (20, .iload_n 1, 1, 0, 0, 0), (21, .iload_n 2, 1, 0, 0, 0), (22, .iload_n 3, 1, 0, 0, 0), (23, .invokestatic 206, 3, 77, 2, 1), (26, .ifCond .eq 7, 3, 33, 0, 0),
  (29, .iconst 0, 1, 0, 0, 0), (30, .goto 4, 3, 34, 0, 0), (33, .iconst 1, 1, 0, 0, 0), (34, .isub, 1, 0, 0, 0), (35, .istore_n 1, 1, 0, 0, 0), (36, .iload_n 2, 1, 0, 0, 0),
  (37, .iload 4, 2, 0, 0, 0), (39, .invokestatic 206, 3, 77, 2, 1), (42, .ifCond .ne 26, 3, 68, 0, 0), (45, .iload_n 2, 1, 0, 0, 0), (46, .iconst 1, 1, 0, 0, 0), (47, .iload 4, 2, 0, 0, 0),
  (49, .ishl, 1, 0, 0, 0), (50, .ior, 1, 0, 0, 0), (51, .istore_n 2, 1, 0, 0, 0), (52, .aload_n 0, 1, 0, 0, 0), (53, .aload_n 0, 1, 0, 0, 0), (54, .getfield 58, 3, 6, 26, 1),
  (57, .iload 4, 2, 0, 0, 0), (59, .iaload, 1, 0, 0, 0), (60, .invokevirtual 160, 3, 101, 1, 25), (63, .istore 4, 2, 0, 0, 0), (65, .goto (-29), 3, 36, 0, 0), (68, .iinc 3 1, 3, 0, 0, 0),
  (71, .goto (-62), 3, 9, 0, 0), (74, .iload_n 1, 1, 0, 0, 0), (75, .ireturn, 1, 0, 0, 0)]
def ct_X6_swapsTo : List Nat := [9, 36]
def cd_X6_swaps : List nl_E := [(0, .ldc 193, 2, 1048576, 0, 0), (2, .istore_n 1, 1, 0, 0, 0), (3, .aload_n 0, 1, 0, 0, 0), (4, .invokevirtual 194, 3, 120, 0, 24), (7, .iconst 1, 1, 0, 0, 0), (8, .istore_n 2, 1, 0, 0, 0),
  (9, .iload_n 2, 1, 0, 0, 0), (10, .ifCond .eq 27, 3, 37, 0, 0), (13, .aload_n 0, 1, 0, 0, 0), (14, .invokevirtual 197, 3, 122, 0, 25), (17, .ifCond .ne 12, 3, 29, 0, 0), (20, .iload_n 1, 1, 0, 0, 0),
  (21, .aload_n 0, 1, 0, 0, 0), (22, .invokevirtual 209, 3, 125, 0, 25), (25, .invokestatic 150, 3, 79, 2, 1), (28, .istore_n 1, 1, 0, 0, 0), (29, .aload_n 0, 1, 0, 0, 0), (30, .invokevirtual 203, 3, 121, 0, 25),
  (33, .istore_n 2, 1, 0, 0, 0), (34, .goto (-25), 3, 9, 0, 0), (37, .iload_n 1, 1, 0, 0, 0), (38, .ldc 193, 2, 1048576, 0, 0), (40, .if_icmp .ne 8, 3, 48, 0, 0), (43, .bipush (-4), 2, 0, 0, 0),
  (45, .goto 4, 3, 49, 0, 0), (48, .iload_n 1, 1, 0, 0, 0), (49, .ireturn, 1, 0, 0, 0)]
def ct_X6_swaps : List Nat := [9]
def cd_X6_off : List nl_E := [(0, .iload_n 0, 1, 0, 0, 0), (1, .iload_n 1, 1, 0, 0, 0), (2, .if_icmp .le 9, 3, 11, 0, 0), (5, .iload_n 0, 1, 0, 0, 0), (6, .iload_n 1, 1, 0, 0, 0), (7, .isub, 1, 0, 0, 0),
  (8, .goto 6, 3, 14, 0, 0), (11, .iload_n 1, 1, 0, 0, 0), (12, .iload_n 0, 1, 0, 0, 0), (13, .isub, 1, 0, 0, 0), (14, .ireturn, 1, 0, 0, 0)]
def ct_X6_off : List Nat := []
def cd_X6_far : List nl_E := [(0, .iload_n 1, 1, 0, 0, 0), (1, .iconst 0, 1, 0, 0, 0), (2, .iconst 1, 1, 0, 0, 0), (3, .invokestatic 84, 3, 76, 3, 1), (6, .ifCond .ne 5, 3, 11, 0, 0), (9, .iconst (-1), 1, 0, 0, 0),
  (10, .ireturn, 1, 0, 0, 0), (11, .iconst 0, 1, 0, 0, 0), (12, .istore_n 2, 1, 0, 0, 0), (13, .aload_n 0, 1, 0, 0, 0), (14, .getfield 16, 3, 6, 3, 1), (17, .iconst 0, 1, 0, 0, 0),
  (18, .iaload, 1, 0, 0, 0), (19, .istore_n 3, 1, 0, 0, 0), (20, .aload_n 0, 1, 0, 0, 0), (21, .getfield 16, 3, 6, 3, 1), (24, .iconst 0, 1, 0, 0, 0), (25, .iaload, 1, 0, 0, 0),
  (26, .istore 4, 2, 0, 0, 0), (28, .iconst 1, 1, 0, 0, 0), (29, .istore 5, 2, 0, 0, 0), (31, .iload 5, 2, 0, 0, 0), (33, .aload_n 0, 1, 0, 0, 0), (34, .getfield 74, 3, 6, 0, 0),
  (37, .if_icmp .ge 65, 3, 102, 0, 0), (40, .iload_n 2, 1, 0, 0, 0), (41, .aload_n 0, 1, 0, 0, 0), (42, .getfield 16, 3, 6, 3, 1), (45, .aload_n 0, 1, 0, 0, 0), (46, .iload 5, 2, 0, 0, 0),
  (48, .iconst 1, 1, 0, 0, 0), (49, .isub, 1, 0, 0, 0), (50, .invokevirtual 160, 3, 101, 1, 25), (53, .iaload, 1, 0, 0, 0), (54, .aload_n 0, 1, 0, 0, 0), (55, .getfield 16, 3, 6, 3, 1),
  (58, .aload_n 0, 1, 0, 0, 0), (59, .iload 5, 2, 0, 0, 0), (61, .invokevirtual 160, 3, 101, 1, 25), (64, .iaload, 1, 0, 0, 0), (65, .invokestatic 212, 3, 127, 2, 1), (68, .iadd, 1, 0, 0, 0),
  (69, .istore_n 2, 1, 0, 0, 0), (70, .iload_n 3, 1, 0, 0, 0), (71, .aload_n 0, 1, 0, 0, 0), (72, .getfield 16, 3, 6, 3, 1), (75, .iload 5, 2, 0, 0, 0), (77, .iaload, 1, 0, 0, 0),
  (78, .invokestatic 150, 3, 79, 2, 1), (81, .istore_n 3, 1, 0, 0, 0), (82, .iload 4, 2, 0, 0, 0), (84, .aload_n 0, 1, 0, 0, 0), (85, .getfield 16, 3, 6, 3, 1), (88, .iload 5, 2, 0, 0, 0),
  (90, .iaload, 1, 0, 0, 0), (91, .invokestatic 135, 3, 80, 2, 1), (94, .istore 4, 2, 0, 0, 0), (96, .iinc 5 1, 3, 0, 0, 0), (99, .goto (-68), 3, 31, 0, 0), (102, .iload_n 1, 1, 0, 0, 0),
  (103, .ifCond .ne 7, 3, 110, 0, 0), (106, .iload_n 2, 1, 0, 0, 0), (107, .goto 7, 3, 114, 0, 0), (110, .iload 4, 2, 0, 0, 0), (112, .iload_n 3, 1, 0, 0, 0), (113, .isub, 1, 0, 0, 0),
  (114, .ireturn, 1, 0, 0, 0)]
def ct_X6_far : List Nat := [31]
def cd_X6_lamps : List nl_E := [(0, .iload_n 1, 1, 0, 0, 0), (1, .iconst 1, 1, 0, 0, 0), (2, .bipush 40, 2, 0, 0, 0), (4, .invokestatic 84, 3, 76, 3, 1), (7, .ifCond .eq 12, 3, 19, 0, 0), (10, .iload_n 2, 1, 0, 0, 0),
  (11, .iconst 0, 1, 0, 0, 0), (12, .iconst 1, 1, 0, 0, 0), (13, .invokestatic 84, 3, 76, 3, 1), (16, .ifCond .ne 5, 3, 21, 0, 0), (19, .iconst (-1), 1, 0, 0, 0), (20, .ireturn, 1, 0, 0, 0),
  (21, .bipush (-4), 2, 0, 0, 0), (23, .istore_n 3, 1, 0, 0, 0), (24, .ldc 193, 2, 1048576, 0, 0), (26, .istore 4, 2, 0, 0, 0), (28, .iconst 0, 1, 0, 0, 0), (29, .istore 5, 2, 0, 0, 0),
  (31, .iload 5, 2, 0, 0, 0), (33, .iconst 1, 1, 0, 0, 0), (34, .aload_n 0, 1, 0, 0, 0), (35, .getfield 74, 3, 6, 0, 0), (38, .ishl, 1, 0, 0, 0), (39, .if_icmp .ge 79, 3, 118, 0, 0),
  (42, .iload 5, 2, 0, 0, 0), (44, .invokestatic 215, 3, 78, 1, 1), (47, .iload 4, 2, 0, 0, 0), (49, .if_icmp .ge 63, 3, 112, 0, 0), (52, .aload_n 0, 1, 0, 0, 0), (53, .invokevirtual 184, 3, 115, 0, 24),
  (56, .iconst 0, 1, 0, 0, 0), (57, .istore 6, 2, 0, 0, 0), (59, .iload 6, 2, 0, 0, 0), (61, .aload_n 0, 1, 0, 0, 0), (62, .getfield 74, 3, 6, 0, 0), (65, .if_icmp .ge 25, 3, 90, 0, 0),
  (68, .iload 5, 2, 0, 0, 0), (70, .iload 6, 2, 0, 0, 0), (72, .invokestatic 206, 3, 77, 2, 1), (75, .ifCond .eq 9, 3, 84, 0, 0), (78, .aload_n 0, 1, 0, 0, 0), (79, .iload 6, 2, 0, 0, 0),
  (81, .invokevirtual 177, 3, 111, 1, 24), (84, .iinc 6 1, 3, 0, 0, 0), (87, .goto (-28), 3, 59, 0, 0), (90, .aload_n 0, 1, 0, 0, 0), (91, .iload_n 1, 1, 0, 0, 0), (92, .invokevirtual 170, 3, 99, 1, 25),
  (95, .ifCond .ne 13, 3, 108, 0, 0), (98, .iload 5, 2, 0, 0, 0), (100, .istore_n 3, 1, 0, 0, 0), (101, .iload 5, 2, 0, 0, 0), (103, .invokestatic 215, 3, 78, 1, 1), (106, .istore 4, 2, 0, 0, 0),
  (108, .aload_n 0, 1, 0, 0, 0), (109, .invokevirtual 187, 3, 116, 0, 24), (112, .iinc 5 1, 3, 0, 0, 0), (115, .goto (-84), 3, 31, 0, 0), (118, .iload_n 3, 1, 0, 0, 0), (119, .bipush (-4), 2, 0, 0, 0),
  (121, .if_icmp .eq 8, 3, 129, 0, 0), (124, .iload_n 2, 1, 0, 0, 0), (125, .iconst 1, 1, 0, 0, 0), (126, .if_icmp .ne 7, 3, 133, 0, 0), (129, .iload_n 3, 1, 0, 0, 0), (130, .goto 5, 3, 135, 0, 0),
  (133, .iload 4, 2, 0, 0, 0), (135, .ireturn, 1, 0, 0, 0)]
def ct_X6_lamps : List Nat := [31, 59]
def cd_X6_seen : List nl_E := [(0, .iload_n 1, 1, 0, 0, 0), (1, .iconst 0, 1, 0, 0, 0), (2, .bipush 20, 2, 0, 0, 0), (4, .invokestatic 84, 3, 76, 3, 1), (7, .ifCond .eq 20, 3, 27, 0, 0), (10, .aload_n 0, 1, 0, 0, 0),
  (11, .iload_n 2, 1, 0, 0, 0), (12, .invokevirtual 156, 3, 83, 1, 25), (15, .ifCond .eq 12, 3, 27, 0, 0), (18, .iload_n 3, 1, 0, 0, 0), (19, .iconst 0, 1, 0, 0, 0), (20, .iconst 1, 1, 0, 0, 0),
  (21, .invokestatic 84, 3, 76, 3, 1), (24, .ifCond .ne 5, 3, 29, 0, 0), (27, .iconst (-1), 1, 0, 0, 0), (28, .ireturn, 1, 0, 0, 0), (29, .aload_n 0, 1, 0, 0, 0), (30, .getfield 126, 3, 6, 11, 0),
  (33, .bipush 6, 2, 0, 0, 0), (35, .if_icmp .ne 6, 3, 41, 0, 0), (38, .bipush (-3), 2, 0, 0, 0), (40, .ireturn, 1, 0, 0, 0), (41, .aload_n 0, 1, 0, 0, 0), (42, .getfield 34, 3, 6, 12, 1),
  (45, .aload_n 0, 1, 0, 0, 0), (46, .getfield 126, 3, 6, 11, 0), (49, .iload_n 1, 1, 0, 0, 0), (50, .iastore, 1, 0, 0, 0), (51, .aload_n 0, 1, 0, 0, 0), (52, .getfield 37, 3, 6, 13, 1),
  (55, .aload_n 0, 1, 0, 0, 0), (56, .getfield 126, 3, 6, 11, 0), (59, .iload_n 2, 1, 0, 0, 0), (60, .iastore, 1, 0, 0, 0), (61, .aload_n 0, 1, 0, 0, 0), (62, .getfield 40, 3, 6, 14, 1),
  (65, .aload_n 0, 1, 0, 0, 0), (66, .getfield 126, 3, 6, 11, 0), (69, .iload_n 3, 1, 0, 0, 0), (70, .iastore, 1, 0, 0, 0), (71, .aload_n 0, 1, 0, 0, 0), (72, .dup, 1, 0, 0, 0),
  (73, .getfield 126, 3, 6, 11, 0), (76, .iconst 1, 1, 0, 0, 0), (77, .iadd, 1, 0, 0, 0), (78, .putfield 126, 3, 6, 11, 0), (81, .aload_n 0, 1, 0, 0, 0), (82, .getfield 126, 3, 6, 11, 0),
  (85, .ireturn, 1, 0, 0, 0)]
def ct_X6_seen : List Nat := []
def cd_X6_forget : List nl_E := [(0, .aload_n 0, 1, 0, 0, 0), (1, .getfield 126, 3, 6, 11, 0), (4, .istore_n 1, 1, 0, 0, 0), (5, .aload_n 0, 1, 0, 0, 0), (6, .iconst 0, 1, 0, 0, 0), (7, .putfield 126, 3, 6, 11, 0),
  (10, .iload_n 1, 1, 0, 0, 0), (11, .ireturn, 1, 0, 0, 0)]
def ct_X6_forget : List Nat := []
def cd_X6_isSo : List nl_E := [(0, .aload_n 0, 1, 0, 0, 0), (1, .invokevirtual 184, 3, 115, 0, 24), (4, .iconst 1, 1, 0, 0, 0), (5, .istore_n 1, 1, 0, 0, 0), (6, .iconst 0, 1, 0, 0, 0), (7, .istore_n 2, 1, 0, 0, 0),
  (8, .iload_n 2, 1, 0, 0, 0), (9, .bipush 20, 2, 0, 0, 0), (11, .if_icmp .gt 79, 3, 90, 0, 0), (14, .aload_n 0, 1, 0, 0, 0), (15, .invokevirtual 190, 3, 97, 0, 25), (18, .istore_n 3, 1, 0, 0, 0),
  (19, .iconst 0, 1, 0, 0, 0), (20, .istore 4, 2, 0, 0, 0), (22, .iload 4, 2, 0, 0, 0), (24, .aload_n 0, 1, 0, 0, 0), (25, .getfield 126, 3, 6, 11, 0), (28, .if_icmp .ge 51, 3, 79, 0, 0),
  (31, .iload_n 1, 1, 0, 0, 0), (32, .ifCond .eq 39, 3, 71, 0, 0), (35, .aload_n 0, 1, 0, 0, 0), (36, .getfield 34, 3, 6, 12, 1), (39, .iload 4, 2, 0, 0, 0), (41, .iaload, 1, 0, 0, 0),
  (42, .iload_n 2, 1, 0, 0, 0), (43, .if_icmp .ne 24, 3, 67, 0, 0), (46, .iload_n 3, 1, 0, 0, 0), (47, .aload_n 0, 1, 0, 0, 0), (48, .getfield 37, 3, 6, 13, 1), (51, .iload 4, 2, 0, 0, 0),
  (53, .iaload, 1, 0, 0, 0), (54, .ishr, 1, 0, 0, 0), (55, .iconst 1, 1, 0, 0, 0), (56, .iand, 1, 0, 0, 0), (57, .aload_n 0, 1, 0, 0, 0), (58, .getfield 40, 3, 6, 14, 1),
  (61, .iload 4, 2, 0, 0, 0), (63, .iaload, 1, 0, 0, 0), (64, .if_icmp .ne 7, 3, 71, 0, 0), (67, .iconst 1, 1, 0, 0, 0), (68, .goto 4, 3, 72, 0, 0), (71, .iconst 0, 1, 0, 0, 0),
  (72, .istore_n 1, 1, 0, 0, 0), (73, .iinc 4 1, 3, 0, 0, 0), (76, .goto (-54), 3, 22, 0, 0), (79, .aload_n 0, 1, 0, 0, 0), (80, .invokevirtual 153, 3, 98, 0, 25), (83, .pop, 1, 0, 0, 0),
  (84, .iinc 2 1, 3, 0, 0, 0), (87, .goto (-79), 3, 8, 0, 0), (90, .aload_n 0, 1, 0, 0, 0), (91, .invokevirtual 187, 3, 116, 0, 24), (94, .iload_n 1, 1, 0, 0, 0), (95, .ireturn, 1, 0, 0, 0)]
def ct_X6_isSo : List Nat := [8, 22]
def cd_X6_kinds : List nl_E := [(0, .aload_n 0, 1, 0, 0, 0), (1, .iload_n 1, 1, 0, 0, 0), (2, .invokevirtual 156, 3, 83, 1, 25), (5, .ifCond .ne 5, 3, 10, 0, 0), (8, .iconst (-1), 1, 0, 0, 0), (9, .ireturn, 1, 0, 0, 0),
  (10, .aload_n 0, 1, 0, 0, 0), (11, .getfield 9, 3, 6, 1, 1), (14, .iload_n 1, 1, 0, 0, 0), (15, .iaload, 1, 0, 0, 0), (16, .istore_n 2, 1, 0, 0, 0), (17, .iconst 0, 1, 0, 0, 0),
  (18, .istore_n 3, 1, 0, 0, 0), (19, .iconst 0, 1, 0, 0, 0), (20, .istore 4, 2, 0, 0, 0), (22, .iload 4, 2, 0, 0, 0), (24, .iconst 3, 1, 0, 0, 0), (25, .if_icmp .gt 35, 3, 60, 0, 0),
  (28, .aload_n 0, 1, 0, 0, 0), (29, .getfield 9, 3, 6, 1, 1), (32, .iload_n 1, 1, 0, 0, 0), (33, .iload 4, 2, 0, 0, 0), (35, .iastore, 1, 0, 0, 0), (36, .iload_n 3, 1, 0, 0, 0),
  (37, .aload_n 0, 1, 0, 0, 0), (38, .invokevirtual 218, 3, 132, 0, 25), (41, .ifCond .eq 10, 3, 51, 0, 0), (44, .iconst 1, 1, 0, 0, 0), (45, .iload 4, 2, 0, 0, 0), (47, .ishl, 1, 0, 0, 0),
  (48, .goto 4, 3, 52, 0, 0), (51, .iconst 0, 1, 0, 0, 0), (52, .ior, 1, 0, 0, 0), (53, .istore_n 3, 1, 0, 0, 0), (54, .iinc 4 1, 3, 0, 0, 0), (57, .goto (-35), 3, 22, 0, 0),
  (60, .aload_n 0, 1, 0, 0, 0), (61, .getfield 9, 3, 6, 1, 1), (64, .iload_n 1, 1, 0, 0, 0), (65, .iload_n 2, 1, 0, 0, 0), (66, .iastore, 1, 0, 0, 0), (67, .iload_n 3, 1, 0, 0, 0),
  (68, .ireturn, 1, 0, 0, 0)]
def ct_X6_kinds : List Nat := [22]
def cd_X6_strengths : List nl_E := [(0, .aload_n 0, 1, 0, 0, 0), (1, .iload_n 1, 1, 0, 0, 0), (2, .invokevirtual 156, 3, 83, 1, 25), (5, .ifCond .eq 12, 3, 17, 0, 0), (8, .iload_n 2, 1, 0, 0, 0), (9, .iconst 0, 1, 0, 0, 0),
  (10, .iconst 1, 1, 0, 0, 0), (11, .invokestatic 84, 3, 76, 3, 1), (14, .ifCond .ne 5, 3, 19, 0, 0), (17, .iconst (-1), 1, 0, 0, 0), (18, .ireturn, 1, 0, 0, 0), (19, .aload_n 0, 1, 0, 0, 0),
  (20, .getfield 13, 3, 6, 2, 1), (23, .iload_n 1, 1, 0, 0, 0), (24, .iaload, 1, 0, 0, 0), (25, .istore_n 3, 1, 0, 0, 0), (26, .iconst 0, 1, 0, 0, 0), (27, .istore 4, 2, 0, 0, 0),
  (29, .bipush (-4), 2, 0, 0, 0), (31, .istore 5, 2, 0, 0, 0), (33, .bipush 40, 2, 0, 0, 0), (35, .istore 6, 2, 0, 0, 0), (37, .iload 6, 2, 0, 0, 0), (39, .ifCond .lt 52, 3, 91, 0, 0),
  (42, .aload_n 0, 1, 0, 0, 0), (43, .getfield 13, 3, 6, 2, 1), (46, .iload_n 1, 1, 0, 0, 0), (47, .iload 6, 2, 0, 0, 0), (49, .iastore, 1, 0, 0, 0), (50, .aload_n 0, 1, 0, 0, 0),
  (51, .invokevirtual 218, 3, 132, 0, 25), (54, .istore 7, 2, 0, 0, 0), (56, .iload 4, 2, 0, 0, 0), (58, .iload 7, 2, 0, 0, 0), (60, .ifCond .eq 7, 3, 67, 0, 0), (63, .iconst 1, 1, 0, 0, 0),
  (64, .goto 4, 3, 68, 0, 0), (67, .iconst 0, 1, 0, 0, 0), (68, .iadd, 1, 0, 0, 0), (69, .istore 4, 2, 0, 0, 0), (71, .iload 7, 2, 0, 0, 0), (73, .ifCond .eq 8, 3, 81, 0, 0),
  (76, .iload 6, 2, 0, 0, 0), (78, .goto 5, 3, 83, 0, 0), (81, .iload 5, 2, 0, 0, 0), (83, .istore 5, 2, 0, 0, 0), (85, .iinc 6 (-1), 3, 0, 0, 0), (88, .goto (-51), 3, 37, 0, 0),
  (91, .aload_n 0, 1, 0, 0, 0), (92, .getfield 13, 3, 6, 2, 1), (95, .iload_n 1, 1, 0, 0, 0), (96, .iload_n 3, 1, 0, 0, 0), (97, .iastore, 1, 0, 0, 0), (98, .iload_n 2, 1, 0, 0, 0),
  (99, .ifCond .ne 8, 3, 107, 0, 0), (102, .iload 4, 2, 0, 0, 0), (104, .goto 5, 3, 109, 0, 0), (107, .iload 5, 2, 0, 0, 0), (109, .ireturn, 1, 0, 0, 0)]
def ct_X6_strengths : List Nat := [37]
def cd_X6_common : List nl_E := [(0, .lload_n 0, 1, 0, 0, 0), (1, .lstore 4, 2, 0, 0, 0), (3, .lload_n 2, 1, 0, 0, 0), (4, .lstore 6, 2, 0, 0, 0), (6, .lload 6, 2, 0, 0, 0), (8, .lconst 0, 1, 0, 0, 0),
  (9, .lcmp, 1, 0, 0, 0), (10, .ifCond .eq 21, 3, 31, 0, 0), (13, .lload 4, 2, 0, 0, 0), (15, .lload 6, 2, 0, 0, 0), (17, .lrem, 1, 0, 0, 0), (18, .lstore 8, 2, 0, 0, 0),
  (20, .lload 6, 2, 0, 0, 0), (22, .lstore 4, 2, 0, 0, 0), (24, .lload 8, 2, 0, 0, 0), (26, .lstore 6, 2, 0, 0, 0), (28, .goto (-22), 3, 6, 0, 0), (31, .lload 4, 2, 0, 0, 0),
  (33, .lreturn, 1, 0, 0, 0)]
def ct_X6_common : List Nat := [6]
def cd_X6_likely : List nl_E := [(0, .aload_n 0, 1, 0, 0, 0), (1, .iload_n 1, 1, 0, 0, 0), (2, .invokevirtual 156, 3, 83, 1, 25), (5, .ifCond .eq 22, 3, 27, 0, 0), (8, .iload_n 2, 1, 0, 0, 0), (9, .iconst 0, 1, 0, 0, 0),
  (10, .bipush 9, 2, 0, 0, 0), (12, .invokestatic 84, 3, 76, 3, 1), (15, .ifCond .eq 12, 3, 27, 0, 0), (18, .iload_n 3, 1, 0, 0, 0), (19, .iconst 0, 1, 0, 0, 0), (20, .iconst 1, 1, 0, 0, 0),
  (21, .invokestatic 84, 3, 76, 3, 1), (24, .ifCond .ne 5, 3, 29, 0, 0), (27, .iconst (-1), 1, 0, 0, 0), (28, .ireturn, 1, 0, 0, 0), (29, .aload_n 0, 1, 0, 0, 0), (30, .getfield 22, 3, 6, 7, 1),
  (33, .iload_n 1, 1, 0, 0, 0), (34, .iaload, 1, 0, 0, 0), (35, .istore 4, 2, 0, 0, 0), (37, .lconst 0, 1, 0, 0, 0), (38, .lstore 5, 2, 0, 0, 0), (40, .iconst 0, 1, 0, 0, 0),
  (41, .istore 7, 2, 0, 0, 0), (43, .iload 7, 2, 0, 0, 0), (45, .aload_n 0, 1, 0, 0, 0), (46, .getfield 74, 3, 6, 0, 0), (49, .if_icmp .ge 77, 3, 126, 0, 0), (52, .aload_n 0, 1, 0, 0, 0),
  (53, .getfield 22, 3, 6, 7, 1), (56, .iload_n 1, 1, 0, 0, 0), (57, .bipush 40, 2, 0, 0, 0), (59, .iload 4, 2, 0, 0, 0), (61, .iload_n 2, 1, 0, 0, 0), (62, .iadd, 1, 0, 0, 0),
  (63, .invokestatic 150, 3, 79, 2, 1), (66, .iastore, 1, 0, 0, 0), (67, .lload 5, 2, 0, 0, 0), (69, .aload_n 0, 1, 0, 0, 0), (70, .iload_n 1, 1, 0, 0, 0), (71, .iload 7, 2, 0, 0, 0),
  (73, .invokevirtual 146, 3, 96, 2, 25), (76, .ifCond .eq 8, 3, 84, 0, 0), (79, .iload_n 2, 1, 0, 0, 0), (80, .i2l, 1, 0, 0, 0), (81, .goto 4, 3, 85, 0, 0), (84, .lconst 0, 1, 0, 0, 0),
  (85, .ladd, 1, 0, 0, 0), (86, .lstore 5, 2, 0, 0, 0), (88, .aload_n 0, 1, 0, 0, 0), (89, .getfield 22, 3, 6, 7, 1), (92, .iload_n 1, 1, 0, 0, 0), (93, .iload 4, 2, 0, 0, 0),
  (95, .iastore, 1, 0, 0, 0), (96, .lload 5, 2, 0, 0, 0), (98, .aload_n 0, 1, 0, 0, 0), (99, .iload_n 1, 1, 0, 0, 0), (100, .iload 7, 2, 0, 0, 0), (102, .invokevirtual 146, 3, 96, 2, 25),
  (105, .ifCond .eq 11, 3, 116, 0, 0), (108, .bipush 10, 2, 0, 0, 0), (110, .iload_n 2, 1, 0, 0, 0), (111, .isub, 1, 0, 0, 0), (112, .i2l, 1, 0, 0, 0), (113, .goto 4, 3, 117, 0, 0),
  (116, .lconst 0, 1, 0, 0, 0), (117, .ladd, 1, 0, 0, 0), (118, .lstore 5, 2, 0, 0, 0), (120, .iinc 7 1, 3, 0, 0, 0), (123, .goto (-80), 3, 43, 0, 0), (126, .ldc2_w 221, 3, 10, 0, 0),
  (129, .aload_n 0, 1, 0, 0, 0), (130, .getfield 74, 3, 6, 0, 0), (133, .i2l, 1, 0, 0, 0), (134, .lmul, 1, 0, 0, 0), (135, .lstore 7, 2, 0, 0, 0), (137, .lload 5, 2, 0, 0, 0),
  (139, .lload 7, 2, 0, 0, 0), (141, .invokestatic 223, 3, 135, 2, 2), (144, .lstore 9, 2, 0, 0, 0), (146, .iload_n 3, 1, 0, 0, 0), (147, .ifCond .ne 11, 3, 158, 0, 0), (150, .lload 5, 2, 0, 0, 0),
  (152, .lload 9, 2, 0, 0, 0), (154, .ldiv, 1, 0, 0, 0), (155, .goto 8, 3, 163, 0, 0), (158, .lload 7, 2, 0, 0, 0), (160, .lload 9, 2, 0, 0, 0), (162, .ldiv, 1, 0, 0, 0),
  (163, .l2i, 1, 0, 0, 0), (164, .ireturn, 1, 0, 0, 0)]
def ct_X6_likely : List Nat := [43]
def cd_X6_tiredAll : List nl_E := [(0, .iconst 0, 1, 0, 0, 0), (1, .istore_n 1, 1, 0, 0, 0), (2, .iconst 0, 1, 0, 0, 0), (3, .istore_n 2, 1, 0, 0, 0), (4, .iload_n 2, 1, 0, 0, 0), (5, .aload_n 0, 1, 0, 0, 0),
  (6, .getfield 74, 3, 6, 0, 0), (9, .if_icmp .ge 18, 3, 27, 0, 0), (12, .iload_n 1, 1, 0, 0, 0), (13, .aload_n 0, 1, 0, 0, 0), (14, .getfield 22, 3, 6, 7, 1), (17, .iload_n 2, 1, 0, 0, 0),
  (18, .iaload, 1, 0, 0, 0), (19, .iadd, 1, 0, 0, 0), (20, .istore_n 1, 1, 0, 0, 0), (21, .iinc 2 1, 3, 0, 0, 0), (24, .goto (-20), 3, 4, 0, 0), (27, .iload_n 1, 1, 0, 0, 0),
  (28, .ireturn, 1, 0, 0, 0)]
def ct_X6_tiredAll : List Nat := [4]
def cd_X6_winter : List nl_E := [(0, .iload_n 1, 1, 0, 0, 0), (1, .iconst 0, 1, 0, 0, 0), (2, .sipush 9999, 3, 0, 0, 0), (5, .invokestatic 84, 3, 76, 3, 1), (8, .ifCond .eq 22, 3, 30, 0, 0), (11, .iload_n 2, 1, 0, 0, 0),
  (12, .iconst 1, 1, 0, 0, 0), (13, .bipush 60, 2, 0, 0, 0), (15, .invokestatic 84, 3, 76, 3, 1), (18, .ifCond .eq 12, 3, 30, 0, 0), (21, .iload_n 3, 1, 0, 0, 0), (22, .iconst 0, 1, 0, 0, 0),
  (23, .iconst 2, 1, 0, 0, 0), (24, .invokestatic 84, 3, 76, 3, 1), (27, .ifCond .ne 5, 3, 32, 0, 0), (30, .iconst (-1), 1, 0, 0, 0), (31, .ireturn, 1, 0, 0, 0), (32, .aload_n 0, 1, 0, 0, 0),
  (33, .invokevirtual 184, 3, 115, 0, 24), (36, .iconst 0, 1, 0, 0, 0), (37, .istore 4, 2, 0, 0, 0), (39, .iconst 0, 1, 0, 0, 0), (40, .istore 5, 2, 0, 0, 0), (42, .iload 5, 2, 0, 0, 0),
  (44, .iload_n 2, 1, 0, 0, 0), (45, .if_icmp .ge 147, 3, 192, 0, 0), (48, .ldc2_w 227, 3, 7919, 0, 0), (51, .iload_n 1, 1, 0, 0, 0), (52, .i2l, 1, 0, 0, 0), (53, .lmul, 1, 0, 0, 0),
  (54, .ldc2_w 229, 3, 6151, 0, 0), (57, .iload 5, 2, 0, 0, 0), (59, .i2l, 1, 0, 0, 0), (60, .lmul, 1, 0, 0, 0), (61, .ladd, 1, 0, 0, 0), (62, .lconst 1, 1, 0, 0, 0),
  (63, .ladd, 1, 0, 0, 0), (64, .lstore 6, 2, 0, 0, 0), (66, .lload 6, 2, 0, 0, 0), (68, .lload 6, 2, 0, 0, 0), (70, .lmul, 1, 0, 0, 0), (71, .ldc2_w 231, 3, 65521, 0, 0),
  (74, .lrem, 1, 0, 0, 0), (75, .ldc2_w 233, 3, 2, 0, 0), (78, .ldiv, 1, 0, 0, 0), (79, .l2i, 1, 0, 0, 0), (80, .istore 8, 2, 0, 0, 0), (82, .iload 8, 2, 0, 0, 0),
  (84, .aload_n 0, 1, 0, 0, 0), (85, .getfield 74, 3, 6, 0, 0), (88, .irem, 1, 0, 0, 0), (89, .istore 9, 2, 0, 0, 0), (91, .iload 8, 2, 0, 0, 0), (93, .bipush 8, 2, 0, 0, 0),
  (95, .idiv, 1, 0, 0, 0), (96, .aload_n 0, 1, 0, 0, 0), (97, .getfield 74, 3, 6, 0, 0), (100, .irem, 1, 0, 0, 0), (101, .istore 10, 2, 0, 0, 0), (103, .iload 8, 2, 0, 0, 0),
  (105, .bipush 64, 2, 0, 0, 0), (107, .idiv, 1, 0, 0, 0), (108, .iconst 4, 1, 0, 0, 0), (109, .irem, 1, 0, 0, 0), (110, .istore 11, 2, 0, 0, 0), (112, .iload 11, 2, 0, 0, 0),
  (114, .ifCond .ne 21, 3, 135, 0, 0), (117, .iload 9, 2, 0, 0, 0), (119, .iload 10, 2, 0, 0, 0), (121, .if_icmp .eq 14, 3, 135, 0, 0), (124, .aload_n 0, 1, 0, 0, 0), (125, .iload 9, 2, 0, 0, 0),
  (127, .iload 10, 2, 0, 0, 0), (129, .invokevirtual 173, 3, 109, 2, 24), (132, .goto 45, 3, 177, 0, 0), (135, .iload 11, 2, 0, 0, 0), (137, .iconst 1, 1, 0, 0, 0), (138, .if_icmp .ne 12, 3, 150, 0, 0),
  (141, .aload_n 0, 1, 0, 0, 0), (142, .iload 9, 2, 0, 0, 0), (144, .invokevirtual 177, 3, 111, 1, 24), (147, .goto 30, 3, 177, 0, 0), (150, .iload 11, 2, 0, 0, 0), (152, .iconst 2, 1, 0, 0, 0),
  (153, .if_icmp .ne 24, 3, 177, 0, 0), (156, .aload_n 0, 1, 0, 0, 0), (157, .getfield 31, 3, 6, 10, 1), (160, .aload_n 0, 1, 0, 0, 0), (161, .getfield 19, 3, 6, 6, 1), (164, .iload 9, 2, 0, 0, 0),
  (166, .iaload, 1, 0, 0, 0), (167, .iload 8, 2, 0, 0, 0), (169, .sipush 256, 3, 0, 0, 0), (172, .idiv, 1, 0, 0, 0), (173, .bipush 21, 2, 0, 0, 0), (175, .irem, 1, 0, 0, 0),
  (176, .iastore, 1, 0, 0, 0), (177, .iload 4, 2, 0, 0, 0), (179, .aload_n 0, 1, 0, 0, 0), (180, .invokevirtual 153, 3, 98, 0, 25), (183, .iadd, 1, 0, 0, 0), (184, .istore 4, 2, 0, 0, 0),
  (186, .iinc 5 1, 3, 0, 0, 0), (189, .goto (-147), 3, 42, 0, 0), (192, .iload_n 3, 1, 0, 0, 0), (193, .ifCond .ne 8, 3, 201, 0, 0), (196, .iload 4, 2, 0, 0, 0), (198, .goto 21, 3, 219, 0, 0),
  (201, .iload_n 3, 1, 0, 0, 0), (202, .iconst 1, 1, 0, 0, 0), (203, .if_icmp .ne 10, 3, 213, 0, 0), (206, .aload_n 0, 1, 0, 0, 0), (207, .invokevirtual 235, 3, 137, 0, 25), (210, .goto 9, 3, 219, 0, 0),
  (213, .aload_n 0, 1, 0, 0, 0), (214, .getfield 19, 3, 6, 6, 1), (217, .iconst 0, 1, 0, 0, 0), (218, .iaload, 1, 0, 0, 0), (219, .istore 5, 2, 0, 0, 0), (221, .aload_n 0, 1, 0, 0, 0),
  (222, .invokevirtual 187, 3, 116, 0, 24), (225, .iload 5, 2, 0, 0, 0), (227, .ireturn, 1, 0, 0, 0)]
def ct_X6_winter : List Nat := [42]
def cd_X6_keep : List nl_E := [(0, .aload_n 0, 1, 0, 0, 0), (1, .getfield 132, 3, 6, 29, 0), (4, .iconst 2, 1, 0, 0, 0), (5, .if_icmp .ne 6, 3, 11, 0, 0), (8, .bipush (-3), 2, 0, 0, 0), (10, .ireturn, 1, 0, 0, 0),
  (11, .aload_n 0, 1, 0, 0, 0), (12, .aload_n 0, 1, 0, 0, 0), (13, .getfield 64, 3, 6, 28, 1), (16, .bipush 79, 2, 0, 0, 0), (18, .aload_n 0, 1, 0, 0, 0), (19, .getfield 132, 3, 6, 29, 0),
  (22, .imul, 1, 0, 0, 0), (23, .invokevirtual 163, 3, 105, 2, 24), (26, .aload_n 0, 1, 0, 0, 0), (27, .dup, 1, 0, 0, 0), (28, .getfield 132, 3, 6, 29, 0), (31, .iconst 1, 1, 0, 0, 0),
  (32, .iadd, 1, 0, 0, 0), (33, .putfield 132, 3, 6, 29, 0), (36, .aload_n 0, 1, 0, 0, 0), (37, .getfield 132, 3, 6, 29, 0), (40, .ireturn, 1, 0, 0, 0)]
def ct_X6_keep : List Nat := []
def cd_X6_back : List nl_E := [(0, .aload_n 0, 1, 0, 0, 0), (1, .getfield 132, 3, 6, 29, 0), (4, .ifCond .ne 6, 3, 10, 0, 0), (7, .bipush (-2), 2, 0, 0, 0), (9, .ireturn, 1, 0, 0, 0), (10, .aload_n 0, 1, 0, 0, 0),
  (11, .dup, 1, 0, 0, 0), (12, .getfield 132, 3, 6, 29, 0), (15, .iconst 1, 1, 0, 0, 0), (16, .isub, 1, 0, 0, 0), (17, .putfield 132, 3, 6, 29, 0), (20, .aload_n 0, 1, 0, 0, 0),
  (21, .aload_n 0, 1, 0, 0, 0), (22, .getfield 64, 3, 6, 28, 1), (25, .bipush 79, 2, 0, 0, 0), (27, .aload_n 0, 1, 0, 0, 0), (28, .getfield 132, 3, 6, 29, 0), (31, .imul, 1, 0, 0, 0),
  (32, .invokevirtual 181, 3, 106, 2, 24), (35, .aload_n 0, 1, 0, 0, 0), (36, .iconst 0, 1, 0, 0, 0), (37, .putfield 129, 3, 6, 24, 0), (40, .aload_n 0, 1, 0, 0, 0), (41, .getfield 132, 3, 6, 29, 0),
  (44, .ireturn, 1, 0, 0, 0)]
def ct_X6_back : List Nat := []
def cd_X6_count : List nl_E := [(0, .iload_n 1, 1, 0, 0, 0), (1, .iconst 0, 1, 0, 0, 0), (2, .bipush 7, 2, 0, 0, 0), (4, .invokestatic 84, 3, 76, 3, 1), (7, .ifCond .ne 5, 3, 12, 0, 0), (10, .iconst (-1), 1, 0, 0, 0),
  (11, .ireturn, 1, 0, 0, 0), (12, .iload_n 1, 1, 0, 0, 0), (13, .tableswitch 78 0 6 #[43, 48, 53, 58, 63, 68, 73], 43, 91, 99242530927831741496, 7), (56, .aload_n 0, 1, 0, 0, 0), (57, .getfield 74, 3, 6, 0, 0), (60, .ireturn, 1, 0, 0, 0),
  (61, .aload_n 0, 1, 0, 0, 0), (62, .getfield 78, 3, 6, 4, 0), (65, .ireturn, 1, 0, 0, 0), (66, .aload_n 0, 1, 0, 0, 0), (67, .getfield 81, 3, 6, 5, 0), (70, .ireturn, 1, 0, 0, 0),
  (71, .aload_n 0, 1, 0, 0, 0), (72, .invokevirtual 235, 3, 137, 0, 25), (75, .ireturn, 1, 0, 0, 0), (76, .aload_n 0, 1, 0, 0, 0), (77, .getfield 126, 3, 6, 11, 0), (80, .ireturn, 1, 0, 0, 0),
  (81, .aload_n 0, 1, 0, 0, 0), (82, .getfield 129, 3, 6, 24, 0), (85, .ireturn, 1, 0, 0, 0), (86, .aload_n 0, 1, 0, 0, 0), (87, .getfield 132, 3, 6, 29, 0), (90, .ireturn, 1, 0, 0, 0),
  (91, .aload_n 0, 1, 0, 0, 0), (92, .getfield 88, 3, 6, 16, 0), (95, .ireturn, 1, 0, 0, 0)]
def ct_X6_count : List Nat := []
def cd_J6_bitCount_0f7a4 : List nl_E := [(0, .iload_n 0, 1, 0, 0, 0), (1, .iload_n 0, 1, 0, 0, 0), (2, .iconst 1, 1, 0, 0, 0), (3, .iushr, 1, 0, 0, 0), (4, .ldc_w 265, 3, 1431655765, 0, 0), (7, .iand, 1, 0, 0, 0),
  (8, .isub, 1, 0, 0, 0), (9, .istore_n 0, 1, 0, 0, 0), (10, .iload_n 0, 1, 0, 0, 0), (11, .ldc_w 266, 3, 858993459, 0, 0), (14, .iand, 1, 0, 0, 0), (15, .iload_n 0, 1, 0, 0, 0),
  (16, .iconst 2, 1, 0, 0, 0), (17, .iushr, 1, 0, 0, 0), (18, .ldc_w 266, 3, 858993459, 0, 0), (21, .iand, 1, 0, 0, 0), (22, .iadd, 1, 0, 0, 0), (23, .istore_n 0, 1, 0, 0, 0),
  (24, .iload_n 0, 1, 0, 0, 0), (25, .iload_n 0, 1, 0, 0, 0), (26, .iconst 4, 1, 0, 0, 0), (27, .iushr, 1, 0, 0, 0), (28, .iadd, 1, 0, 0, 0), (29, .ldc_w 267, 3, 252645135, 0, 0),
  (32, .iand, 1, 0, 0, 0), (33, .istore_n 0, 1, 0, 0, 0), (34, .iload_n 0, 1, 0, 0, 0), (35, .iload_n 0, 1, 0, 0, 0), (36, .bipush 8, 2, 0, 0, 0), (38, .iushr, 1, 0, 0, 0),
  (39, .iadd, 1, 0, 0, 0), (40, .istore_n 0, 1, 0, 0, 0), (41, .iload_n 0, 1, 0, 0, 0), (42, .iload_n 0, 1, 0, 0, 0), (43, .bipush 16, 2, 0, 0, 0), (45, .iushr, 1, 0, 0, 0),
  (46, .iadd, 1, 0, 0, 0), (47, .istore_n 0, 1, 0, 0, 0), (48, .iload_n 0, 1, 0, 0, 0), (49, .bipush 63, 2, 0, 0, 0), (51, .iand, 1, 0, 0, 0), (52, .ireturn, 1, 0, 0, 0)]
def ct_J6_bitCount_0f7a4 : List Nat := []
def cd_L_law : List nl_E := [(16, .iconst 0, 1, 0, 0, 0), (17, .istore_n 3, 1, 0, 0, 0), (18, .iload_n 3, 1, 0, 0, 0), (19, .aload_n 0, 1, 0, 0, 0), (20, .arraylength, 1, 0, 0, 0), (21, .iconst 4, 1, 0, 0, 0),
  (22, .isub, 1, 0, 0, 0), (23, .if_icmp .gt 884, 3, 907, 0, 0), (26, .aload_n 0, 1, 0, 0, 0), (27, .iload_n 3, 1, 0, 0, 0), (28, .iaload, 1, 0, 0, 0), (29, .bipush 31, 2, 0, 0, 0),
  (31, .iand, 1, 0, 0, 0), (32, .tableswitch 869 0 28 #[132, 155, 168, 181, 194, 227, 260, 293, 326, 349, 382, 405, 438, 451, 494, 507, 530, 553, 566, 589, 622, 665, 678, 701, 734, 777, 820, 833, 846], 132, 901, 1707305891332395179263381610569150620517447052024088268201288260251232719436449300278436, 29), (164, .aload_n 1, 1, 0, 0, 0), (165, .aload_n 0, 1, 0, 0, 0), (166, .iload_n 3, 1, 0, 0, 0), (167, .iconst 1, 1, 0, 0, 0),
  (168, .iadd, 1, 0, 0, 0), (169, .iaload, 1, 0, 0, 0), (170, .invokevirtual 13, 3, 42, 1, 21), (173, .aload_n 2, 1, 0, 0, 0), (174, .aload_n 0, 1, 0, 0, 0), (175, .iload_n 3, 1, 0, 0, 0),
  (176, .iconst 1, 1, 0, 0, 0), (177, .iadd, 1, 0, 0, 0), (178, .iaload, 1, 0, 0, 0), (179, .invokevirtual 17, 3, 84, 1, 25), (182, .if_icmp .eq 719, 3, 901, 0, 0), (185, .iconst 0, 1, 0, 0, 0),
  (186, .ireturn, 1, 0, 0, 0), (187, .aload_n 1, 1, 0, 0, 0), (188, .invokevirtual 18, 3, 43, 0, 21), (191, .aload_n 2, 1, 0, 0, 0), (192, .invokevirtual 22, 3, 85, 0, 25), (195, .if_icmp .eq 706, 3, 901, 0, 0),
  (198, .iconst 0, 1, 0, 0, 0), (199, .ireturn, 1, 0, 0, 0), (200, .aload_n 1, 1, 0, 0, 0), (201, .invokevirtual 23, 3, 44, 0, 21), (204, .aload_n 2, 1, 0, 0, 0), (205, .invokevirtual 26, 3, 92, 0, 25),
  (208, .if_icmp .eq 693, 3, 901, 0, 0), (211, .iconst 0, 1, 0, 0, 0), (212, .ireturn, 1, 0, 0, 0), (213, .aload_n 1, 1, 0, 0, 0), (214, .invokevirtual 27, 3, 45, 0, 21), (217, .aload_n 2, 1, 0, 0, 0),
  (218, .invokevirtual 30, 3, 93, 0, 25), (221, .if_icmp .eq 680, 3, 901, 0, 0), (224, .iconst 0, 1, 0, 0, 0), (225, .ireturn, 1, 0, 0, 0), (226, .aload_n 1, 1, 0, 0, 0), (227, .aload_n 0, 1, 0, 0, 0),
  (228, .iload_n 3, 1, 0, 0, 0), (229, .iconst 1, 1, 0, 0, 0), (230, .iadd, 1, 0, 0, 0), (231, .iaload, 1, 0, 0, 0), (232, .aload_n 0, 1, 0, 0, 0), (233, .iload_n 3, 1, 0, 0, 0),
  (234, .iconst 2, 1, 0, 0, 0), (235, .iadd, 1, 0, 0, 0), (236, .iaload, 1, 0, 0, 0), (237, .invokevirtual 31, 3, 46, 2, 21), (240, .aload_n 2, 1, 0, 0, 0), (241, .aload_n 0, 1, 0, 0, 0),
  (242, .iload_n 3, 1, 0, 0, 0), (243, .iconst 1, 1, 0, 0, 0), (244, .iadd, 1, 0, 0, 0), (245, .iaload, 1, 0, 0, 0), (246, .aload_n 0, 1, 0, 0, 0), (247, .iload_n 3, 1, 0, 0, 0),
  (248, .iconst 2, 1, 0, 0, 0), (249, .iadd, 1, 0, 0, 0), (250, .iaload, 1, 0, 0, 0), (251, .invokevirtual 35, 3, 100, 2, 25), (254, .if_icmp .eq 647, 3, 901, 0, 0), (257, .iconst 0, 1, 0, 0, 0),
  (258, .ireturn, 1, 0, 0, 0), (259, .aload_n 1, 1, 0, 0, 0), (260, .aload_n 0, 1, 0, 0, 0), (261, .iload_n 3, 1, 0, 0, 0), (262, .iconst 1, 1, 0, 0, 0), (263, .iadd, 1, 0, 0, 0),
  (264, .iaload, 1, 0, 0, 0), (265, .aload_n 0, 1, 0, 0, 0), (266, .iload_n 3, 1, 0, 0, 0), (267, .iconst 2, 1, 0, 0, 0), (268, .iadd, 1, 0, 0, 0), (269, .iaload, 1, 0, 0, 0),
  (270, .invokevirtual 36, 3, 47, 2, 21), (273, .aload_n 2, 1, 0, 0, 0), (274, .aload_n 0, 1, 0, 0, 0), (275, .iload_n 3, 1, 0, 0, 0), (276, .iconst 1, 1, 0, 0, 0), (277, .iadd, 1, 0, 0, 0),
  (278, .iaload, 1, 0, 0, 0), (279, .aload_n 0, 1, 0, 0, 0), (280, .iload_n 3, 1, 0, 0, 0), (281, .iconst 2, 1, 0, 0, 0), (282, .iadd, 1, 0, 0, 0), (283, .iaload, 1, 0, 0, 0),
  (284, .invokevirtual 39, 3, 102, 2, 25), (287, .if_icmp .eq 614, 3, 901, 0, 0), (290, .iconst 0, 1, 0, 0, 0), (291, .ireturn, 1, 0, 0, 0), (292, .aload_n 1, 1, 0, 0, 0), (293, .aload_n 0, 1, 0, 0, 0),
  (294, .iload_n 3, 1, 0, 0, 0), (295, .iconst 1, 1, 0, 0, 0), (296, .iadd, 1, 0, 0, 0), (297, .iaload, 1, 0, 0, 0), (298, .aload_n 0, 1, 0, 0, 0), (299, .iload_n 3, 1, 0, 0, 0),
  (300, .iconst 2, 1, 0, 0, 0), (301, .iadd, 1, 0, 0, 0), (302, .iaload, 1, 0, 0, 0), (303, .invokevirtual 40, 3, 48, 2, 21), (306, .aload_n 2, 1, 0, 0, 0), (307, .aload_n 0, 1, 0, 0, 0),
  (308, .iload_n 3, 1, 0, 0, 0), (309, .iconst 1, 1, 0, 0, 0), (310, .iadd, 1, 0, 0, 0), (311, .iaload, 1, 0, 0, 0), (312, .aload_n 0, 1, 0, 0, 0), (313, .iload_n 3, 1, 0, 0, 0),
  (314, .iconst 2, 1, 0, 0, 0), (315, .iadd, 1, 0, 0, 0), (316, .iaload, 1, 0, 0, 0), (317, .invokevirtual 43, 3, 103, 2, 25), (320, .if_icmp .eq 581, 3, 901, 0, 0), (323, .iconst 0, 1, 0, 0, 0),
  (324, .ireturn, 1, 0, 0, 0), (325, .aload_n 1, 1, 0, 0, 0), (326, .aload_n 0, 1, 0, 0, 0), (327, .iload_n 3, 1, 0, 0, 0), (328, .iconst 1, 1, 0, 0, 0), (329, .iadd, 1, 0, 0, 0),
  (330, .iaload, 1, 0, 0, 0), (331, .aload_n 0, 1, 0, 0, 0), (332, .iload_n 3, 1, 0, 0, 0), (333, .iconst 2, 1, 0, 0, 0), (334, .iadd, 1, 0, 0, 0), (335, .iaload, 1, 0, 0, 0),
  (336, .invokevirtual 44, 3, 49, 2, 21), (339, .aload_n 2, 1, 0, 0, 0), (340, .aload_n 0, 1, 0, 0, 0), (341, .iload_n 3, 1, 0, 0, 0), (342, .iconst 1, 1, 0, 0, 0), (343, .iadd, 1, 0, 0, 0),
  (344, .iaload, 1, 0, 0, 0), (345, .aload_n 0, 1, 0, 0, 0), (346, .iload_n 3, 1, 0, 0, 0), (347, .iconst 2, 1, 0, 0, 0), (348, .iadd, 1, 0, 0, 0), (349, .iaload, 1, 0, 0, 0),
  (350, .invokevirtual 47, 3, 104, 2, 25), (353, .if_icmp .eq 548, 3, 901, 0, 0), (356, .iconst 0, 1, 0, 0, 0), (357, .ireturn, 1, 0, 0, 0), (358, .aload_n 1, 1, 0, 0, 0), (359, .aload_n 0, 1, 0, 0, 0),
  (360, .iload_n 3, 1, 0, 0, 0), (361, .iconst 1, 1, 0, 0, 0), (362, .iadd, 1, 0, 0, 0), (363, .iaload, 1, 0, 0, 0), (364, .invokevirtual 48, 3, 50, 1, 21), (367, .aload_n 2, 1, 0, 0, 0),
  (368, .aload_n 0, 1, 0, 0, 0), (369, .iload_n 3, 1, 0, 0, 0), (370, .iconst 1, 1, 0, 0, 0), (371, .iadd, 1, 0, 0, 0), (372, .iaload, 1, 0, 0, 0), (373, .invokevirtual 51, 3, 108, 1, 25),
  (376, .if_icmp .eq 525, 3, 901, 0, 0), (379, .iconst 0, 1, 0, 0, 0), (380, .ireturn, 1, 0, 0, 0), (381, .aload_n 1, 1, 0, 0, 0), (382, .aload_n 0, 1, 0, 0, 0), (383, .iload_n 3, 1, 0, 0, 0),
  (384, .iconst 1, 1, 0, 0, 0), (385, .iadd, 1, 0, 0, 0), (386, .iaload, 1, 0, 0, 0), (387, .aload_n 0, 1, 0, 0, 0), (388, .iload_n 3, 1, 0, 0, 0), (389, .iconst 2, 1, 0, 0, 0),
  (390, .iadd, 1, 0, 0, 0), (391, .iaload, 1, 0, 0, 0), (392, .invokevirtual 52, 3, 51, 2, 21), (395, .aload_n 2, 1, 0, 0, 0), (396, .aload_n 0, 1, 0, 0, 0), (397, .iload_n 3, 1, 0, 0, 0),
  (398, .iconst 1, 1, 0, 0, 0), (399, .iadd, 1, 0, 0, 0), (400, .iaload, 1, 0, 0, 0), (401, .aload_n 0, 1, 0, 0, 0), (402, .iload_n 3, 1, 0, 0, 0), (403, .iconst 2, 1, 0, 0, 0),
  (404, .iadd, 1, 0, 0, 0), (405, .iaload, 1, 0, 0, 0), (406, .invokevirtual 55, 3, 110, 2, 25), (409, .if_icmp .eq 492, 3, 901, 0, 0), (412, .iconst 0, 1, 0, 0, 0), (413, .ireturn, 1, 0, 0, 0),
  (414, .aload_n 1, 1, 0, 0, 0), (415, .aload_n 0, 1, 0, 0, 0), (416, .iload_n 3, 1, 0, 0, 0), (417, .iconst 1, 1, 0, 0, 0), (418, .iadd, 1, 0, 0, 0), (419, .iaload, 1, 0, 0, 0),
  (420, .invokevirtual 56, 3, 52, 1, 21), (423, .aload_n 2, 1, 0, 0, 0), (424, .aload_n 0, 1, 0, 0, 0), (425, .iload_n 3, 1, 0, 0, 0), (426, .iconst 1, 1, 0, 0, 0), (427, .iadd, 1, 0, 0, 0),
  (428, .iaload, 1, 0, 0, 0), (429, .invokevirtual 59, 3, 112, 1, 25), (432, .if_icmp .eq 469, 3, 901, 0, 0), (435, .iconst 0, 1, 0, 0, 0), (436, .ireturn, 1, 0, 0, 0), (437, .aload_n 1, 1, 0, 0, 0),
  (438, .aload_n 0, 1, 0, 0, 0), (439, .iload_n 3, 1, 0, 0, 0), (440, .iconst 1, 1, 0, 0, 0), (441, .iadd, 1, 0, 0, 0), (442, .iaload, 1, 0, 0, 0), (443, .aload_n 0, 1, 0, 0, 0),
  (444, .iload_n 3, 1, 0, 0, 0), (445, .iconst 2, 1, 0, 0, 0), (446, .iadd, 1, 0, 0, 0), (447, .iaload, 1, 0, 0, 0), (448, .invokevirtual 60, 3, 53, 2, 21), (451, .aload_n 2, 1, 0, 0, 0),
  (452, .aload_n 0, 1, 0, 0, 0), (453, .iload_n 3, 1, 0, 0, 0), (454, .iconst 1, 1, 0, 0, 0), (455, .iadd, 1, 0, 0, 0), (456, .iaload, 1, 0, 0, 0), (457, .aload_n 0, 1, 0, 0, 0),
  (458, .iload_n 3, 1, 0, 0, 0), (459, .iconst 2, 1, 0, 0, 0), (460, .iadd, 1, 0, 0, 0), (461, .iaload, 1, 0, 0, 0), (462, .invokevirtual 63, 3, 113, 2, 25), (465, .if_icmp .eq 436, 3, 901, 0, 0),
  (468, .iconst 0, 1, 0, 0, 0), (469, .ireturn, 1, 0, 0, 0), (470, .aload_n 1, 1, 0, 0, 0), (471, .invokevirtual 64, 3, 54, 0, 21), (474, .aload_n 2, 1, 0, 0, 0), (475, .invokevirtual 67, 3, 114, 0, 25),
  (478, .if_icmp .eq 423, 3, 901, 0, 0), (481, .iconst 0, 1, 0, 0, 0), (482, .ireturn, 1, 0, 0, 0), (483, .aload_n 1, 1, 0, 0, 0), (484, .aload_n 0, 1, 0, 0, 0), (485, .iload_n 3, 1, 0, 0, 0),
  (486, .iconst 1, 1, 0, 0, 0), (487, .iadd, 1, 0, 0, 0), (488, .iaload, 1, 0, 0, 0), (489, .aload_n 0, 1, 0, 0, 0), (490, .iload_n 3, 1, 0, 0, 0), (491, .iconst 2, 1, 0, 0, 0),
  (492, .iadd, 1, 0, 0, 0), (493, .iaload, 1, 0, 0, 0), (494, .aload_n 0, 1, 0, 0, 0), (495, .iload_n 3, 1, 0, 0, 0), (496, .iconst 3, 1, 0, 0, 0), (497, .iadd, 1, 0, 0, 0),
  (498, .iaload, 1, 0, 0, 0), (499, .invokevirtual 68, 3, 55, 3, 21), (502, .aload_n 2, 1, 0, 0, 0), (503, .aload_n 0, 1, 0, 0, 0), (504, .iload_n 3, 1, 0, 0, 0), (505, .iconst 1, 1, 0, 0, 0),
  (506, .iadd, 1, 0, 0, 0), (507, .iaload, 1, 0, 0, 0), (508, .aload_n 0, 1, 0, 0, 0), (509, .iload_n 3, 1, 0, 0, 0), (510, .iconst 2, 1, 0, 0, 0), (511, .iadd, 1, 0, 0, 0),
  (512, .iaload, 1, 0, 0, 0), (513, .aload_n 0, 1, 0, 0, 0), (514, .iload_n 3, 1, 0, 0, 0), (515, .iconst 3, 1, 0, 0, 0), (516, .iadd, 1, 0, 0, 0), (517, .iaload, 1, 0, 0, 0),
  (518, .invokevirtual 72, 3, 117, 3, 25), (521, .if_icmp .eq 380, 3, 901, 0, 0), (524, .iconst 0, 1, 0, 0, 0), (525, .ireturn, 1, 0, 0, 0), (526, .aload_n 1, 1, 0, 0, 0), (527, .invokevirtual 73, 3, 56, 0, 21),
  (530, .aload_n 2, 1, 0, 0, 0), (531, .invokevirtual 76, 3, 118, 0, 25), (534, .if_icmp .eq 367, 3, 901, 0, 0), (537, .iconst 0, 1, 0, 0, 0), (538, .ireturn, 1, 0, 0, 0), (539, .aload_n 1, 1, 0, 0, 0),
  (540, .aload_n 0, 1, 0, 0, 0), (541, .iload_n 3, 1, 0, 0, 0), (542, .iconst 1, 1, 0, 0, 0), (543, .iadd, 1, 0, 0, 0), (544, .iaload, 1, 0, 0, 0), (545, .invokevirtual 77, 3, 57, 1, 21),
  (548, .aload_n 2, 1, 0, 0, 0), (549, .aload_n 0, 1, 0, 0, 0), (550, .iload_n 3, 1, 0, 0, 0), (551, .iconst 1, 1, 0, 0, 0), (552, .iadd, 1, 0, 0, 0), (553, .iaload, 1, 0, 0, 0),
  (554, .invokevirtual 80, 3, 119, 1, 25), (557, .if_icmp .eq 344, 3, 901, 0, 0), (560, .iconst 0, 1, 0, 0, 0), (561, .ireturn, 1, 0, 0, 0), (562, .aload_n 1, 1, 0, 0, 0), (563, .aload_n 0, 1, 0, 0, 0),
  (564, .iload_n 3, 1, 0, 0, 0), (565, .iconst 1, 1, 0, 0, 0), (566, .iadd, 1, 0, 0, 0), (567, .iaload, 1, 0, 0, 0), (568, .invokevirtual 81, 3, 58, 1, 21), (571, .aload_n 2, 1, 0, 0, 0),
  (572, .aload_n 0, 1, 0, 0, 0), (573, .iload_n 3, 1, 0, 0, 0), (574, .iconst 1, 1, 0, 0, 0), (575, .iadd, 1, 0, 0, 0), (576, .iaload, 1, 0, 0, 0), (577, .invokevirtual 84, 3, 124, 1, 25),
  (580, .if_icmp .eq 321, 3, 901, 0, 0), (583, .iconst 0, 1, 0, 0, 0), (584, .ireturn, 1, 0, 0, 0), (585, .aload_n 1, 1, 0, 0, 0), (586, .invokevirtual 85, 3, 59, 0, 21), (589, .aload_n 2, 1, 0, 0, 0),
  (590, .invokevirtual 88, 3, 126, 0, 25), (593, .if_icmp .eq 308, 3, 901, 0, 0), (596, .iconst 0, 1, 0, 0, 0), (597, .ireturn, 1, 0, 0, 0), (598, .aload_n 1, 1, 0, 0, 0), (599, .aload_n 0, 1, 0, 0, 0),
  (600, .iload_n 3, 1, 0, 0, 0), (601, .iconst 1, 1, 0, 0, 0), (602, .iadd, 1, 0, 0, 0), (603, .iaload, 1, 0, 0, 0), (604, .invokevirtual 89, 3, 60, 1, 21), (607, .aload_n 2, 1, 0, 0, 0),
  (608, .aload_n 0, 1, 0, 0, 0), (609, .iload_n 3, 1, 0, 0, 0), (610, .iconst 1, 1, 0, 0, 0), (611, .iadd, 1, 0, 0, 0), (612, .iaload, 1, 0, 0, 0), (613, .invokevirtual 92, 3, 128, 1, 25),
  (616, .if_icmp .eq 285, 3, 901, 0, 0), (619, .iconst 0, 1, 0, 0, 0), (620, .ireturn, 1, 0, 0, 0), (621, .aload_n 1, 1, 0, 0, 0), (622, .aload_n 0, 1, 0, 0, 0), (623, .iload_n 3, 1, 0, 0, 0),
  (624, .iconst 1, 1, 0, 0, 0), (625, .iadd, 1, 0, 0, 0), (626, .iaload, 1, 0, 0, 0), (627, .aload_n 0, 1, 0, 0, 0), (628, .iload_n 3, 1, 0, 0, 0), (629, .iconst 2, 1, 0, 0, 0),
  (630, .iadd, 1, 0, 0, 0), (631, .iaload, 1, 0, 0, 0), (632, .invokevirtual 93, 3, 61, 2, 21), (635, .aload_n 2, 1, 0, 0, 0), (636, .aload_n 0, 1, 0, 0, 0), (637, .iload_n 3, 1, 0, 0, 0),
  (638, .iconst 1, 1, 0, 0, 0), (639, .iadd, 1, 0, 0, 0), (640, .iaload, 1, 0, 0, 0), (641, .aload_n 0, 1, 0, 0, 0), (642, .iload_n 3, 1, 0, 0, 0), (643, .iconst 2, 1, 0, 0, 0),
  (644, .iadd, 1, 0, 0, 0), (645, .iaload, 1, 0, 0, 0), (646, .invokevirtual 96, 3, 129, 2, 25), (649, .if_icmp .eq 252, 3, 901, 0, 0), (652, .iconst 0, 1, 0, 0, 0), (653, .ireturn, 1, 0, 0, 0),
  (654, .aload_n 1, 1, 0, 0, 0), (655, .aload_n 0, 1, 0, 0, 0), (656, .iload_n 3, 1, 0, 0, 0), (657, .iconst 1, 1, 0, 0, 0), (658, .iadd, 1, 0, 0, 0), (659, .iaload, 1, 0, 0, 0),
  (660, .aload_n 0, 1, 0, 0, 0), (661, .iload_n 3, 1, 0, 0, 0), (662, .iconst 2, 1, 0, 0, 0), (663, .iadd, 1, 0, 0, 0), (664, .iaload, 1, 0, 0, 0), (665, .aload_n 0, 1, 0, 0, 0),
  (666, .iload_n 3, 1, 0, 0, 0), (667, .iconst 3, 1, 0, 0, 0), (668, .iadd, 1, 0, 0, 0), (669, .iaload, 1, 0, 0, 0), (670, .invokevirtual 97, 3, 62, 3, 21), (673, .aload_n 2, 1, 0, 0, 0),
  (674, .aload_n 0, 1, 0, 0, 0), (675, .iload_n 3, 1, 0, 0, 0), (676, .iconst 1, 1, 0, 0, 0), (677, .iadd, 1, 0, 0, 0), (678, .iaload, 1, 0, 0, 0), (679, .aload_n 0, 1, 0, 0, 0),
  (680, .iload_n 3, 1, 0, 0, 0), (681, .iconst 2, 1, 0, 0, 0), (682, .iadd, 1, 0, 0, 0), (683, .iaload, 1, 0, 0, 0), (684, .aload_n 0, 1, 0, 0, 0), (685, .iload_n 3, 1, 0, 0, 0),
  (686, .iconst 3, 1, 0, 0, 0), (687, .iadd, 1, 0, 0, 0), (688, .iaload, 1, 0, 0, 0), (689, .invokevirtual 100, 3, 130, 3, 25), (692, .if_icmp .eq 209, 3, 901, 0, 0), (695, .iconst 0, 1, 0, 0, 0),
  (696, .ireturn, 1, 0, 0, 0), (697, .aload_n 1, 1, 0, 0, 0), (698, .invokevirtual 101, 3, 63, 0, 21), (701, .aload_n 2, 1, 0, 0, 0), (702, .invokevirtual 104, 3, 131, 0, 25), (705, .if_icmp .eq 196, 3, 901, 0, 0),
  (708, .iconst 0, 1, 0, 0, 0), (709, .ireturn, 1, 0, 0, 0), (710, .aload_n 1, 1, 0, 0, 0), (711, .aload_n 0, 1, 0, 0, 0), (712, .iload_n 3, 1, 0, 0, 0), (713, .iconst 1, 1, 0, 0, 0),
  (714, .iadd, 1, 0, 0, 0), (715, .iaload, 1, 0, 0, 0), (716, .invokevirtual 105, 3, 64, 1, 21), (719, .aload_n 2, 1, 0, 0, 0), (720, .aload_n 0, 1, 0, 0, 0), (721, .iload_n 3, 1, 0, 0, 0),
  (722, .iconst 1, 1, 0, 0, 0), (723, .iadd, 1, 0, 0, 0), (724, .iaload, 1, 0, 0, 0), (725, .invokevirtual 108, 3, 133, 1, 25), (728, .if_icmp .eq 173, 3, 901, 0, 0), (731, .iconst 0, 1, 0, 0, 0),
  (732, .ireturn, 1, 0, 0, 0), (733, .aload_n 1, 1, 0, 0, 0), (734, .aload_n 0, 1, 0, 0, 0), (735, .iload_n 3, 1, 0, 0, 0), (736, .iconst 1, 1, 0, 0, 0), (737, .iadd, 1, 0, 0, 0),
  (738, .iaload, 1, 0, 0, 0), (739, .aload_n 0, 1, 0, 0, 0), (740, .iload_n 3, 1, 0, 0, 0), (741, .iconst 2, 1, 0, 0, 0), (742, .iadd, 1, 0, 0, 0), (743, .iaload, 1, 0, 0, 0),
  (744, .invokevirtual 109, 3, 65, 2, 21), (747, .aload_n 2, 1, 0, 0, 0), (748, .aload_n 0, 1, 0, 0, 0), (749, .iload_n 3, 1, 0, 0, 0), (750, .iconst 1, 1, 0, 0, 0), (751, .iadd, 1, 0, 0, 0),
  (752, .iaload, 1, 0, 0, 0), (753, .aload_n 0, 1, 0, 0, 0), (754, .iload_n 3, 1, 0, 0, 0), (755, .iconst 2, 1, 0, 0, 0), (756, .iadd, 1, 0, 0, 0), (757, .iaload, 1, 0, 0, 0),
  (758, .invokevirtual 112, 3, 134, 2, 25), (761, .if_icmp .eq 140, 3, 901, 0, 0), (764, .iconst 0, 1, 0, 0, 0), (765, .ireturn, 1, 0, 0, 0), (766, .aload_n 1, 1, 0, 0, 0), (767, .aload_n 0, 1, 0, 0, 0),
  (768, .iload_n 3, 1, 0, 0, 0), (769, .iconst 1, 1, 0, 0, 0), (770, .iadd, 1, 0, 0, 0), (771, .iaload, 1, 0, 0, 0), (772, .aload_n 0, 1, 0, 0, 0), (773, .iload_n 3, 1, 0, 0, 0),
  (774, .iconst 2, 1, 0, 0, 0), (775, .iadd, 1, 0, 0, 0), (776, .iaload, 1, 0, 0, 0), (777, .aload_n 0, 1, 0, 0, 0), (778, .iload_n 3, 1, 0, 0, 0), (779, .iconst 3, 1, 0, 0, 0),
  (780, .iadd, 1, 0, 0, 0), (781, .iaload, 1, 0, 0, 0), (782, .invokevirtual 113, 3, 66, 3, 21), (785, .aload_n 2, 1, 0, 0, 0), (786, .aload_n 0, 1, 0, 0, 0), (787, .iload_n 3, 1, 0, 0, 0),
  (788, .iconst 1, 1, 0, 0, 0), (789, .iadd, 1, 0, 0, 0), (790, .iaload, 1, 0, 0, 0), (791, .aload_n 0, 1, 0, 0, 0), (792, .iload_n 3, 1, 0, 0, 0), (793, .iconst 2, 1, 0, 0, 0),
  (794, .iadd, 1, 0, 0, 0), (795, .iaload, 1, 0, 0, 0), (796, .aload_n 0, 1, 0, 0, 0), (797, .iload_n 3, 1, 0, 0, 0), (798, .iconst 3, 1, 0, 0, 0), (799, .iadd, 1, 0, 0, 0),
  (800, .iaload, 1, 0, 0, 0), (801, .invokevirtual 116, 3, 136, 3, 25), (804, .if_icmp .eq 97, 3, 901, 0, 0), (807, .iconst 0, 1, 0, 0, 0), (808, .ireturn, 1, 0, 0, 0), (809, .aload_n 1, 1, 0, 0, 0),
  (810, .aload_n 0, 1, 0, 0, 0), (811, .iload_n 3, 1, 0, 0, 0), (812, .iconst 1, 1, 0, 0, 0), (813, .iadd, 1, 0, 0, 0), (814, .iaload, 1, 0, 0, 0), (815, .aload_n 0, 1, 0, 0, 0),
  (816, .iload_n 3, 1, 0, 0, 0), (817, .iconst 2, 1, 0, 0, 0), (818, .iadd, 1, 0, 0, 0), (819, .iaload, 1, 0, 0, 0), (820, .aload_n 0, 1, 0, 0, 0), (821, .iload_n 3, 1, 0, 0, 0),
  (822, .iconst 3, 1, 0, 0, 0), (823, .iadd, 1, 0, 0, 0), (824, .iaload, 1, 0, 0, 0), (825, .invokevirtual 117, 3, 67, 3, 21), (828, .aload_n 2, 1, 0, 0, 0), (829, .aload_n 0, 1, 0, 0, 0),
  (830, .iload_n 3, 1, 0, 0, 0), (831, .iconst 1, 1, 0, 0, 0), (832, .iadd, 1, 0, 0, 0), (833, .iaload, 1, 0, 0, 0), (834, .aload_n 0, 1, 0, 0, 0), (835, .iload_n 3, 1, 0, 0, 0),
  (836, .iconst 2, 1, 0, 0, 0), (837, .iadd, 1, 0, 0, 0), (838, .iaload, 1, 0, 0, 0), (839, .aload_n 0, 1, 0, 0, 0), (840, .iload_n 3, 1, 0, 0, 0), (841, .iconst 3, 1, 0, 0, 0),
  (842, .iadd, 1, 0, 0, 0), (843, .iaload, 1, 0, 0, 0), (844, .invokevirtual 120, 3, 138, 3, 25), (847, .if_icmp .eq 54, 3, 901, 0, 0), (850, .iconst 0, 1, 0, 0, 0), (851, .ireturn, 1, 0, 0, 0),
  (852, .aload_n 1, 1, 0, 0, 0), (853, .invokevirtual 121, 3, 68, 0, 21), (856, .aload_n 2, 1, 0, 0, 0), (857, .invokevirtual 124, 3, 139, 0, 25), (860, .if_icmp .eq 41, 3, 901, 0, 0), (863, .iconst 0, 1, 0, 0, 0),
  (864, .ireturn, 1, 0, 0, 0), (865, .aload_n 1, 1, 0, 0, 0), (866, .invokevirtual 125, 3, 69, 0, 21), (869, .aload_n 2, 1, 0, 0, 0), (870, .invokevirtual 128, 3, 140, 0, 25), (873, .if_icmp .eq 28, 3, 901, 0, 0),
  (876, .iconst 0, 1, 0, 0, 0), (877, .ireturn, 1, 0, 0, 0), (878, .aload_n 1, 1, 0, 0, 0), (879, .aload_n 0, 1, 0, 0, 0), (880, .iload_n 3, 1, 0, 0, 0), (881, .iconst 1, 1, 0, 0, 0),
  (882, .iadd, 1, 0, 0, 0), (883, .iaload, 1, 0, 0, 0), (884, .invokevirtual 129, 3, 70, 1, 21), (887, .aload_n 2, 1, 0, 0, 0), (888, .aload_n 0, 1, 0, 0, 0), (889, .iload_n 3, 1, 0, 0, 0),
  (890, .iconst 1, 1, 0, 0, 0), (891, .iadd, 1, 0, 0, 0), (892, .iaload, 1, 0, 0, 0), (893, .invokevirtual 132, 3, 141, 1, 25), (896, .if_icmp .eq 5, 3, 901, 0, 0), (899, .iconst 0, 1, 0, 0, 0),
  (900, .ireturn, 1, 0, 0, 0), (901, .iinc 3 4, 3, 0, 0, 0), (904, .goto (-886), 3, 18, 0, 0), (907, .iconst 1, 1, 0, 0, 0), (908, .ireturn, 1, 0, 0, 0)]
def ct_L_law : List Nat := [18]
def nl_mts : List nl_M := [(cd_X0_choose, ct_X0_choose, 0, 4),
  (cd_X0_weigh, ct_X0_weigh, 0, 5),
  (cd_X0_leastOf, ct_X0_leastOf, 1, 6),
  (cd_X0_priceWith, ct_X0_priceWith, 1, 4),
  (cd_X0_dealOut, ct_X0_dealOut, 0, 5),
  (cd_X0_lowestOfLeast, ct_X0_lowestOfLeast, 1, 5),
  (cd_X0_fewestSwaps, ct_X0_fewestSwaps, 1, 3),
  (cd_X0_canBridge, ct_X0_canBridge, 3, 8),
  (cd_X0_exchange, ct_X0_exchange, 0, 4),
  (cd_X1_read, ct_X1_read, 0, 5),
  (cd_X1_canBeLaid, ct_X1_canBeLaid, 3, 1),
  (cd_X1_readItem, ct_X1_readItem, 1, 10),
  (cd_X1_readNumber, ct_X1_readNumber, 1, 7),
  (cd_X1_addHour, ct_X1_addHour, 3, 1),
  (cd_X1_addHouse, ct_X1_addHouse, 3, 1),
  (cd_X2_clear, ct_X2_clear, 0, 1),
  (cd_X2_put, ct_X2_put, 0, 2),
  (cd_X2_dropOldest, ct_X2_dropOldest, 0, 3),
  (cd_X2_takeInto, ct_X2_takeInto, 3, 2),
  (cd_X3_clear, ct_X3_clear, 0, 1),
  (cd_X3_add, ct_X3_add, 0, 4),
  (cd_X3_lastNight, ct_X3_lastNight, 1, 3),
  (cd_X3_fit, ct_X3_fit, 3, 4),
  (cd_X4_settle, ct_X4_settle, 0, 3),
  (cd_X4_copyFrom, ct_X4_copyFrom, 0, 3),
  (cd_X4_isHouse, ct_X4_isHouse, 3, 2),
  (cd_X4_isHour, ct_X4_isHour, 3, 2),
  (cd_X4_houseWith, ct_X4_houseWith, 1, 3),
  (cd_X4_timesHad, ct_X4_timesHad, 1, 3),
  (cd_X4_heaviness, ct_X4_heaviness, 1, 4),
  (cd_X4_hourHadMost, ct_X4_hourHadMost, 1, 6),
  (cd_X4_wouldKeep, ct_X4_wouldKeep, 3, 4),
  (cd_X4_isGapAt, ct_X4_isGapAt, 3, 3),
  (cd_X4_seeThrough, ct_X4_seeThrough, 3, 4),
  (cd_X4_letNightsPass, ct_X4_letNightsPass, 1, 5),
  (cd_X4_trade, ct_X4_trade, 0, 4),
  (cd_X4_giveRest, ct_X4_giveRest, 0, 2),
  (cd_X4_setBurden, ct_X4_setBurden, 0, 3),
  (cd_X4_tiredTogether, ct_X4_tiredTogether, 1, 3),
  (cd_X4_handingOver, ct_X4_handingOver, 1, 5),
  (cd_X4_lengthOfRoad, ct_X4_lengthOfRoad, 1, 4),
  (cd_X4_stir, ct_X4_stir, 0, 4),
  (cd_X5_write, ct_X5_write, 1, 2),
  (cd_X5_wipe, ct_X5_wipe, 1, 2),
  (cd_X5_fault, ct_X5_fault, 1, 1),
  (cd_X5_lay, ct_X5_lay, 1, 1),
  (cd_X5_house, ct_X5_house, 1, 3),
  (cd_X5_hour, ct_X5_hour, 1, 3),
  (cd_X5_heavy, ct_X5_heavy, 1, 3),
  (cd_X5_had, ct_X5_had, 1, 3),
  (cd_X5_pass, ct_X5_pass, 1, 2),
  (cd_X5_swap, ct_X5_swap, 1, 3),
  (cd_X5_rest, ct_X5_rest, 1, 2),
  (cd_X5_burden, ct_X5_burden, 1, 4),
  (cd_X5_undo, ct_X5_undo, 1, 1),
  (cd_X5_behind, ct_X5_behind, 1, 4),
  (cd_X5_gaps, ct_X5_gaps, 1, 3),
  (cd_X5_first, ct_X5_first, 1, 3),
  (cd_X5_even, ct_X5_even, 1, 2),
  (cd_X5_swaps, ct_X5_swaps, 1, 1),
  (cd_X5_far, ct_X5_far, 1, 2),
  (cd_X5_lamps, ct_X5_lamps, 1, 5),
  (cd_X5_seen, ct_X5_seen, 1, 4),
  (cd_X5_forget, ct_X5_forget, 1, 2),
  (cd_X5_kinds, ct_X5_kinds, 1, 4),
  (cd_X5_strengths, ct_X5_strengths, 1, 6),
  (cd_X5_likely, ct_X5_likely, 1, 9),
  (cd_X5_winter, ct_X5_winter, 1, 6),
  (cd_X5_keep, ct_X5_keep, 1, 1),
  (cd_X5_back, ct_X5_back, 1, 1),
  (cd_X5_count, ct_X5_count, 1, 2),
  (cd_X5_isWithin, ct_X5_isWithin, 3, 3),
  (cd_X5_largestDivisor, ct_X5_largestDivisor, 1, 3),
  (cd_X5_drawFor, ct_X5_drawFor, 1, 4),
  (cd_X5_nextMissAhead, ct_X5_nextMissAhead, 1, 4),
  (cd_X5_fitsAllSeen, ct_X5_fitsAllSeen, 3, 6),
  (cd_X6_in, ct_X6_in, 3, 3),
  (cd_X6_has, ct_X6_has, 3, 2),
  (cd_X6_bits, ct_X6_bits, 1, 3),
  (cd_X6_lesser, ct_X6_lesser, 1, 2),
  (cd_X6_greater, ct_X6_greater, 1, 2),
  (cd_X6_firstHouse, ct_X6_firstHouse, 0, 5),
  (cd_X6_begin, ct_X6_begin, 0, 2),
  (cd_X6_isOne, ct_X6_isOne, 3, 2),
  (cd_X6_write, ct_X6_write, 1, 2),
  (cd_X6_wipe, ct_X6_wipe, 1, 2),
  (cd_X6_here, ct_X6_here, 1, 1),
  (cd_X6_isFigure, ct_X6_isFigure, 3, 1),
  (cd_X6_number, ct_X6_number, 3, 5),
  (cd_X6_readsHour, ct_X6_readsHour, 3, 1),
  (cd_X6_readsHouse, ct_X6_readsHouse, 3, 2),
  (cd_X6_readsItem, ct_X6_readsItem, 3, 2),
  (cd_X6_fault, ct_X6_fault, 1, 2),
  (cd_X6_lay, ct_X6_lay, 1, 2),
  (cd_X6_mostOften, ct_X6_mostOften, 1, 6),
  (cd_X6_weight, ct_X6_weight, 1, 4),
  (cd_X6_keeps, ct_X6_keeps, 3, 3),
  (cd_X6_gapSet, ct_X6_gapSet, 1, 3),
  (cd_X6_passes, ct_X6_passes, 1, 4),
  (cd_X6_goesOn, ct_X6_goesOn, 1, 4),
  (cd_X6_house, ct_X6_house, 1, 3),
  (cd_X6_whoHas, ct_X6_whoHas, 1, 3),
  (cd_X6_hour, ct_X6_hour, 1, 3),
  (cd_X6_heavy, ct_X6_heavy, 1, 3),
  (cd_X6_had, ct_X6_had, 1, 3),
  (cd_X6_lays, ct_X6_lays, 0, 4),
  (cd_X6_takes, ct_X6_takes, 0, 4),
  (cd_X6_notes, ct_X6_notes, 0, 2),
  (cd_X6_pass, ct_X6_pass, 1, 2),
  (cd_X6_trades, ct_X6_trades, 0, 4),
  (cd_X6_swap, ct_X6_swap, 1, 3),
  (cd_X6_rests, ct_X6_rests, 0, 2),
  (cd_X6_rest, ct_X6_rest, 1, 2),
  (cd_X6_burden, ct_X6_burden, 1, 4),
  (cd_X6_undo, ct_X6_undo, 1, 1),
  (cd_X6_start, ct_X6_start, 0, 1),
  (cd_X6_putBack, ct_X6_putBack, 0, 1),
  (cd_X6_behind, ct_X6_behind, 1, 5),
  (cd_X6_gaps, ct_X6_gaps, 1, 1),
  (cd_X6_first, ct_X6_first, 1, 5),
  (cd_X6_firstRow, ct_X6_firstRow, 0, 2),
  (cd_X6_nextRow, ct_X6_nextRow, 3, 7),
  (cd_X6_gapsBy, ct_X6_gapsBy, 1, 3),
  (cd_X6_keptWeight, ct_X6_keptWeight, 1, 3),
  (cd_X6_even, ct_X6_even, 1, 8),
  (cd_X6_swapsTo, ct_X6_swapsTo, 1, 5),
  (cd_X6_swaps, ct_X6_swaps, 1, 3),
  (cd_X6_off, ct_X6_off, 1, 2),
  (cd_X6_far, ct_X6_far, 1, 6),
  (cd_X6_lamps, ct_X6_lamps, 1, 7),
  (cd_X6_seen, ct_X6_seen, 1, 4),
  (cd_X6_forget, ct_X6_forget, 1, 2),
  (cd_X6_isSo, ct_X6_isSo, 3, 5),
  (cd_X6_kinds, ct_X6_kinds, 1, 5),
  (cd_X6_strengths, ct_X6_strengths, 1, 8),
  (cd_X6_common, ct_X6_common, 2, 10),
  (cd_X6_likely, ct_X6_likely, 1, 11),
  (cd_X6_tiredAll, ct_X6_tiredAll, 1, 3),
  (cd_X6_winter, ct_X6_winter, 1, 12),
  (cd_X6_keep, ct_X6_keep, 1, 1),
  (cd_X6_back, ct_X6_back, 1, 1),
  (cd_X6_count, ct_X6_count, 1, 2),
  (cd_J6_bitCount_0f7a4, ct_J6_bitCount_0f7a4, 1, 1)]
abbrev m_X0_choose : Nat := 0
abbrev m_X0_weigh : Nat := 1
abbrev m_X0_leastOf : Nat := 2
abbrev m_X0_priceWith : Nat := 3
abbrev m_X0_dealOut : Nat := 4
abbrev m_X0_lowestOfLeast : Nat := 5
abbrev m_X0_fewestSwaps : Nat := 6
abbrev m_X0_canBridge : Nat := 7
abbrev m_X0_exchange : Nat := 8
abbrev m_X1_read : Nat := 9
abbrev m_X1_canBeLaid : Nat := 10
abbrev m_X1_readItem : Nat := 11
abbrev m_X1_readNumber : Nat := 12
abbrev m_X1_addHour : Nat := 13
abbrev m_X1_addHouse : Nat := 14
abbrev m_X2_clear : Nat := 15
abbrev m_X2_put : Nat := 16
abbrev m_X2_dropOldest : Nat := 17
abbrev m_X2_takeInto : Nat := 18
abbrev m_X3_clear : Nat := 19
abbrev m_X3_add : Nat := 20
abbrev m_X3_lastNight : Nat := 21
abbrev m_X3_fit : Nat := 22
abbrev m_X4_settle : Nat := 23
abbrev m_X4_copyFrom : Nat := 24
abbrev m_X4_isHouse : Nat := 25
abbrev m_X4_isHour : Nat := 26
abbrev m_X4_houseWith : Nat := 27
abbrev m_X4_timesHad : Nat := 28
abbrev m_X4_heaviness : Nat := 29
abbrev m_X4_hourHadMost : Nat := 30
abbrev m_X4_wouldKeep : Nat := 31
abbrev m_X4_isGapAt : Nat := 32
abbrev m_X4_seeThrough : Nat := 33
abbrev m_X4_letNightsPass : Nat := 34
abbrev m_X4_trade : Nat := 35
abbrev m_X4_giveRest : Nat := 36
abbrev m_X4_setBurden : Nat := 37
abbrev m_X4_tiredTogether : Nat := 38
abbrev m_X4_handingOver : Nat := 39
abbrev m_X4_lengthOfRoad : Nat := 40
abbrev m_X4_stir : Nat := 41
abbrev m_X5_write : Nat := 42
abbrev m_X5_wipe : Nat := 43
abbrev m_X5_fault : Nat := 44
abbrev m_X5_lay : Nat := 45
abbrev m_X5_house : Nat := 46
abbrev m_X5_hour : Nat := 47
abbrev m_X5_heavy : Nat := 48
abbrev m_X5_had : Nat := 49
abbrev m_X5_pass : Nat := 50
abbrev m_X5_swap : Nat := 51
abbrev m_X5_rest : Nat := 52
abbrev m_X5_burden : Nat := 53
abbrev m_X5_undo : Nat := 54
abbrev m_X5_behind : Nat := 55
abbrev m_X5_gaps : Nat := 56
abbrev m_X5_first : Nat := 57
abbrev m_X5_even : Nat := 58
abbrev m_X5_swaps : Nat := 59
abbrev m_X5_far : Nat := 60
abbrev m_X5_lamps : Nat := 61
abbrev m_X5_seen : Nat := 62
abbrev m_X5_forget : Nat := 63
abbrev m_X5_kinds : Nat := 64
abbrev m_X5_strengths : Nat := 65
abbrev m_X5_likely : Nat := 66
abbrev m_X5_winter : Nat := 67
abbrev m_X5_keep : Nat := 68
abbrev m_X5_back : Nat := 69
abbrev m_X5_count : Nat := 70
abbrev m_X5_isWithin : Nat := 71
abbrev m_X5_largestDivisor : Nat := 72
abbrev m_X5_drawFor : Nat := 73
abbrev m_X5_nextMissAhead : Nat := 74
abbrev m_X5_fitsAllSeen : Nat := 75
abbrev m_X6_in : Nat := 76
abbrev m_X6_has : Nat := 77
abbrev m_X6_bits : Nat := 78
abbrev m_X6_lesser : Nat := 79
abbrev m_X6_greater : Nat := 80
abbrev m_X6_firstHouse : Nat := 81
abbrev m_X6_begin : Nat := 82
abbrev m_X6_isOne : Nat := 83
abbrev m_X6_write : Nat := 84
abbrev m_X6_wipe : Nat := 85
abbrev m_X6_here : Nat := 86
abbrev m_X6_isFigure : Nat := 87
abbrev m_X6_number : Nat := 88
abbrev m_X6_readsHour : Nat := 89
abbrev m_X6_readsHouse : Nat := 90
abbrev m_X6_readsItem : Nat := 91
abbrev m_X6_fault : Nat := 92
abbrev m_X6_lay : Nat := 93
abbrev m_X6_mostOften : Nat := 94
abbrev m_X6_weight : Nat := 95
abbrev m_X6_keeps : Nat := 96
abbrev m_X6_gapSet : Nat := 97
abbrev m_X6_passes : Nat := 98
abbrev m_X6_goesOn : Nat := 99
abbrev m_X6_house : Nat := 100
abbrev m_X6_whoHas : Nat := 101
abbrev m_X6_hour : Nat := 102
abbrev m_X6_heavy : Nat := 103
abbrev m_X6_had : Nat := 104
abbrev m_X6_lays : Nat := 105
abbrev m_X6_takes : Nat := 106
abbrev m_X6_notes : Nat := 107
abbrev m_X6_pass : Nat := 108
abbrev m_X6_trades : Nat := 109
abbrev m_X6_swap : Nat := 110
abbrev m_X6_rests : Nat := 111
abbrev m_X6_rest : Nat := 112
abbrev m_X6_burden : Nat := 113
abbrev m_X6_undo : Nat := 114
abbrev m_X6_start : Nat := 115
abbrev m_X6_putBack : Nat := 116
abbrev m_X6_behind : Nat := 117
abbrev m_X6_gaps : Nat := 118
abbrev m_X6_first : Nat := 119
abbrev m_X6_firstRow : Nat := 120
abbrev m_X6_nextRow : Nat := 121
abbrev m_X6_gapsBy : Nat := 122
abbrev m_X6_keptWeight : Nat := 123
abbrev m_X6_even : Nat := 124
abbrev m_X6_swapsTo : Nat := 125
abbrev m_X6_swaps : Nat := 126
abbrev m_X6_off : Nat := 127
abbrev m_X6_far : Nat := 128
abbrev m_X6_lamps : Nat := 129
abbrev m_X6_seen : Nat := 130
abbrev m_X6_forget : Nat := 131
abbrev m_X6_isSo : Nat := 132
abbrev m_X6_kinds : Nat := 133
abbrev m_X6_strengths : Nat := 134
abbrev m_X6_common : Nat := 135
abbrev m_X6_likely : Nat := 136
abbrev m_X6_tiredAll : Nat := 137
abbrev m_X6_winter : Nat := 138
abbrev m_X6_keep : Nat := 139
abbrev m_X6_back : Nat := 140
abbrev m_X6_count : Nat := 141
abbrev m_J6_bitCount : Nat := 142
