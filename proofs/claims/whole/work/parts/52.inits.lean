/-! constructors: their tables, and the words for making cells -/
set_option maxRecDepth 20000 in
theorem wn_6 : Cond.initialized RX6 ∈ TB := tb_i 37 rfl rfl
set_option maxRecDepth 20000 in
theorem wn_5 : Cond.initialized RX5 ∈ TB := tb_i 38 rfl rfl
set_option maxRecDepth 20000 in
theorem wn_2 : Cond.initialized RX2 ∈ TB := tb_i 39 rfl rfl
set_option maxRecDepth 20000 in
theorem wn_3 : Cond.initialized RX3 ∈ TB := tb_i 40 rfl rfl
set_option maxRecDepth 20000 in
theorem wn_0 : Cond.initialized RX0 ∈ TB := tb_i 42 rfl rfl
set_option maxRecDepth 20000 in
theorem wn_1 : Cond.initialized RX1 ∈ TB := tb_i 43 rfl rfl
set_option maxRecDepth 20000 in
theorem wn_4 : Cond.initialized RX4 ∈ TB := tb_i 44 rfl rfl
set_option maxRecDepth 20000 in
theorem wn_7 : Cond.initialized RX7 ∈ TB := tb_i 45 rfl rfl
set_option maxRecDepth 20000 in
theorem wc_8_7 : Cond.classLink (clsN 8) 7 RX6 ∈ TB := tb_i 47 rfl rfl
set_option maxRecDepth 20000 in
theorem wi_6 : Cond.instantiable RX6 9 ∈ TB := tb_i 48 rfl rfl
set_option maxRecDepth 20000 in
theorem wl_8_9 : Cond.methodLink (clsN 8) 9 yX6_init ∈ TB := tb_i 49 rfl rfl
set_option maxRecDepth 20000 in
theorem wm_6 : Cond.instanceMethod yX6_init ∈ TB := tb_i 50 rfl rfl
set_option maxRecDepth 20000 in
theorem wo_6 : Cond.methodLink (clsN 6) 1 Lib.objectInit ∈ TB := tb_i 52 rfl rfl
set_option maxRecDepth 20000 in
theorem wo_in : Cond.instanceMethod Lib.objectInit ∈ TB := tb_i 53 rfl rfl
set_option maxRecDepth 20000 in
theorem wo_cd : Cond.code Lib.objectInit ⟨#[0xb1]⟩ 1 none ∈ TB := tb_i 54 rfl rfl
set_option maxRecDepth 20000 in
theorem wc_6_7 : Cond.classLink (clsN 6) 7 RX5 ∈ TB := tb_i 55 rfl rfl
set_option maxRecDepth 20000 in
theorem wi_5 : Cond.instantiable RX5 2 ∈ TB := tb_i 56 rfl rfl
set_option maxRecDepth 20000 in
theorem wm_5 : Cond.instanceMethod yX5_init ∈ TB := tb_i 58 rfl rfl
set_option maxRecDepth 20000 in
theorem wo_5 : Cond.methodLink (clsN 5) 3 Lib.objectInit ∈ TB := tb_i 60 rfl rfl
set_option maxRecDepth 20000 in
theorem wa_int : Cond.arrayClass .int ∈ TB := tb_i 68 rfl rfl
set_option maxRecDepth 20000 in
theorem wc_6_16 : Cond.classLink (clsN 6) 16 RX2 ∈ TB := tb_i 69 rfl rfl
set_option maxRecDepth 20000 in
theorem wi_2 : Cond.instantiable RX2 2 ∈ TB := tb_i 70 rfl rfl
set_option maxRecDepth 20000 in
theorem wl_6_18 : Cond.methodLink (clsN 6) 18 yX2_init ∈ TB := tb_i 71 rfl rfl
set_option maxRecDepth 20000 in
theorem wm_2 : Cond.instanceMethod yX2_init ∈ TB := tb_i 72 rfl rfl
set_option maxRecDepth 20000 in
theorem wo_2 : Cond.methodLink (clsN 2) 3 Lib.objectInit ∈ TB := tb_i 74 rfl rfl
set_option maxRecDepth 20000 in
theorem wc_6_29 : Cond.classLink (clsN 6) 29 RX3 ∈ TB := tb_i 82 rfl rfl
set_option maxRecDepth 20000 in
theorem wi_3 : Cond.instantiable RX3 3 ∈ TB := tb_i 83 rfl rfl
set_option maxRecDepth 20000 in
theorem wl_6_31 : Cond.methodLink (clsN 6) 31 yX3_init ∈ TB := tb_i 84 rfl rfl
set_option maxRecDepth 20000 in
theorem wm_3 : Cond.instanceMethod yX3_init ∈ TB := tb_i 85 rfl rfl
set_option maxRecDepth 20000 in
theorem wo_3 : Cond.methodLink (clsN 3) 1 Lib.objectInit ∈ TB := tb_i 87 rfl rfl
set_option maxRecDepth 20000 in
theorem wc_3_22 : Cond.classLink (clsN 3) 22 RX2 ∈ TB := tb_i 91 rfl rfl
set_option maxRecDepth 20000 in
theorem wl_3_28 : Cond.methodLink (clsN 3) 28 yX2_init ∈ TB := tb_i 93 rfl rfl
set_option maxRecDepth 20000 in
theorem wc_6_41 : Cond.classLink (clsN 6) 41 RX0 ∈ TB := tb_i 104 rfl rfl
set_option maxRecDepth 20000 in
theorem wi_0 : Cond.instantiable RX0 3 ∈ TB := tb_i 105 rfl rfl
set_option maxRecDepth 20000 in
theorem wm_0 : Cond.instanceMethod yX0_init ∈ TB := tb_i 107 rfl rfl
set_option maxRecDepth 20000 in
theorem wo_0 : Cond.methodLink (clsN 0) 3 Lib.objectInit ∈ TB := tb_i 109 rfl rfl
set_option maxRecDepth 20000 in
theorem wc_6_48 : Cond.classLink (clsN 6) 48 RX1 ∈ TB := tb_i 120 rfl rfl
set_option maxRecDepth 20000 in
theorem wi_1 : Cond.instantiable RX1 4 ∈ TB := tb_i 121 rfl rfl
set_option maxRecDepth 20000 in
theorem wm_1 : Cond.instanceMethod yX1_init ∈ TB := tb_i 123 rfl rfl
set_option maxRecDepth 20000 in
theorem wo_1 : Cond.methodLink (clsN 1) 3 Lib.objectInit ∈ TB := tb_i 125 rfl rfl
set_option maxRecDepth 20000 in
theorem wc_6_55 : Cond.classLink (clsN 6) 55 RX4 ∈ TB := tb_i 139 rfl rfl
set_option maxRecDepth 20000 in
theorem wi_4 : Cond.instantiable RX4 4 ∈ TB := tb_i 140 rfl rfl
set_option maxRecDepth 20000 in
theorem wm_4 : Cond.instanceMethod yX4_init ∈ TB := tb_i 142 rfl rfl
set_option maxRecDepth 20000 in
theorem wo_4 : Cond.methodLink (clsN 4) 3 Lib.objectInit ∈ TB := tb_i 144 rfl rfl
set_option maxRecDepth 20000 in
theorem wa_long : Cond.arrayClass .long ∈ TB := tb_i 158 rfl rfl
set_option maxRecDepth 20000 in
theorem wc_8_10 : Cond.classLink (clsN 8) 10 RX7 ∈ TB := tb_i 611 rfl rfl
set_option maxRecDepth 20000 in
theorem wi_7 : Cond.instantiable RX7 18 ∈ TB := tb_i 612 rfl rfl
set_option maxRecDepth 20000 in
theorem wl_8_12 : Cond.methodLink (clsN 8) 12 yX7_init ∈ TB := tb_i 613 rfl rfl
set_option maxRecDepth 20000 in
theorem wm_7 : Cond.instanceMethod yX7_init ∈ TB := tb_i 614 rfl rfl
set_option maxRecDepth 20000 in
theorem wo_7 : Cond.methodLink (clsN 7) 1 Lib.objectInit ∈ TB := tb_i 616 rfl rfl
set_option maxRecDepth 20000 in
theorem wa_boolean : Cond.arrayClass .boolean ∈ TB := tb_i 673 rfl rfl
def tX6_init : Tab := [(0, .aload_n 0, 1), (1, .invokespecial 1, 3), (4, .aload_n 0, 1), (5, .new 7, 3), (8, .dup, 1), (9, .invokespecial 9, 3), (12, .putfield 10, 3), (15, .aload_n 0, 1), (16, .new 16, 3), (19, .dup, 1), (20, .invokespecial 18, 3), (23, .putfield 19, 3), (26, .aload_n 0, 1), (27, .new 16, 3), (30, .dup, 1), (31, .invokespecial 18, 3), (34, .putfield 23, 3), (37, .aload_n 0, 1), (38, .new 16, 3), (41, .dup, 1), (42, .invokespecial 18, 3), (45, .putfield 26, 3), (48, .aload_n 0, 1), (49, .new 29, 3), (52, .dup, 1), (53, .bipush 8, 2), (55, .invokespecial 31, 3), (58, .putfield 34, 3), (61, .aload_n 0, 1), (62, .new 29, 3), (65, .dup, 1), (66, .iconst 2, 1), (67, .invokespecial 31, 3), (70, .putfield 38, 3), (73, .aload_n 0, 1), (74, .new 41, 3), (77, .dup, 1), (78, .invokespecial 43, 3), (81, .putfield 44, 3), (84, .aload_n 0, 1), (85, .new 48, 3), (88, .dup, 1), (89, .invokespecial 50, 3), (92, .putfield 51, 3), (95, .aload_n 0, 1), (96, .new 55, 3), (99, .dup, 1), (100, .invokespecial 57, 3), (103, .putfield 58, 3), (106, .return_, 1)]
def mX6_init : MI := (yX6_init, cX6_init, 1, none, 6, 0, tX6_init)
set_option maxRecDepth 20000 in
theorem cd_6 : Cond.code yX6_init cX6_init 1 none ∈ TB := tb_i 51 rfl rfl
set_option maxRecDepth 20000 in
theorem kX6_init : MOK mX6_init := ⟨cd_6, wn_6, rfl, by decide +kernel, by decide, by decide +kernel, by decide +kernel, by decide +kernel, by decide +kernel⟩
def tX5_init : Tab := [(0, .aload_n 0, 1), (1, .invokespecial 3, 3), (4, .aload_n 0, 1), (5, .bipush 40, 2), (7, .newarray .int, 2), (9, .putfield 9, 3), (12, .aload_n 0, 1), (13, .iconst 0, 1), (14, .putfield 15, 3), (17, .return_, 1)]
def mX5_init : MI := (yX5_init, cX5_init, 1, none, 5, 0, tX5_init)
set_option maxRecDepth 20000 in
theorem cd_5 : Cond.code yX5_init cX5_init 1 none ∈ TB := tb_i 59 rfl rfl
set_option maxRecDepth 20000 in
theorem kX5_init : MOK mX5_init := ⟨cd_5, wn_5, rfl, by decide +kernel, by decide, by decide +kernel, by decide +kernel, by decide +kernel, by decide +kernel⟩
def tX2_init : Tab := [(0, .aload_n 0, 1), (1, .invokespecial 3, 3), (4, .aload_n 0, 1), (5, .bipush 10, 2), (7, .newarray .int, 2), (9, .putfield 9, 3), (12, .aload_n 0, 1), (13, .iconst 3, 1), (14, .putfield 15, 3), (17, .aload_n 0, 1), (18, .getfield 9, 3), (21, .iconst 0, 1), (22, .iconst 5, 1), (23, .iastore, 1), (24, .aload_n 0, 1), (25, .getfield 9, 3), (28, .iconst 1, 1), (29, .iconst 3, 1), (30, .iastore, 1), (31, .aload_n 0, 1), (32, .getfield 9, 3), (35, .iconst 2, 1), (36, .iconst 1, 1), (37, .iastore, 1), (38, .return_, 1)]
def mX2_init : MI := (yX2_init, cX2_init, 1, none, 2, 0, tX2_init)
set_option maxRecDepth 20000 in
theorem cd_2 : Cond.code yX2_init cX2_init 1 none ∈ TB := tb_i 73 rfl rfl
set_option maxRecDepth 20000 in
theorem kX2_init : MOK mX2_init := ⟨cd_2, wn_2, rfl, by decide +kernel, by decide, by decide +kernel, by decide +kernel, by decide +kernel, by decide +kernel⟩
def tX3_init : Tab := [(0, .aload_n 0, 1), (1, .invokespecial 1, 3), (4, .aload_n 0, 1), (5, .iconst 0, 1), (6, .putfield 7, 3), (9, .aload_n 0, 1), (10, .iconst 0, 1), (11, .putfield 13, 3), (14, .aload_n 0, 1), (15, .iconst 1, 1), (16, .iload_n 1, 1), (17, .invokestatic 16, 3), (20, .anewarray 22, 3), (23, .putfield 24, 3), (26, .iconst 0, 1), (27, .istore_n 2, 1), (28, .iload_n 2, 1), (29, .aload_n 0, 1), (30, .getfield 24, 3), (33, .arraylength, 1), (34, .if_icmp .ge 22, 3), (37, .aload_n 0, 1), (38, .getfield 24, 3), (41, .iload_n 2, 1), (42, .new 22, 3), (45, .dup, 1), (46, .invokespecial 28, 3), (49, .aastore, 1), (50, .iinc 2 1, 3), (53, .goto (-25), 3), (56, .return_, 1)]
def mX3_init : MI := (yX3_init, cX3_init, 3, none, 3, 1, tX3_init)
set_option maxRecDepth 20000 in
theorem cd_3 : Cond.code yX3_init cX3_init 3 none ∈ TB := tb_i 86 rfl rfl
set_option maxRecDepth 20000 in
theorem kX3_init : MOK mX3_init := ⟨cd_3, wn_3, rfl, by decide +kernel, by decide, by decide +kernel, by decide +kernel, by decide +kernel, by decide +kernel⟩
def tX0_init : Tab := [(0, .aload_n 0, 1), (1, .invokespecial 3, 3), (4, .aload_n 0, 1), (5, .sipush 1792, 3), (8, .newarray .int, 2), (10, .putfield 11, 3), (13, .aload_n 0, 1), (14, .iconst 0, 1), (15, .putfield 15, 3), (18, .aload_n 0, 1), (19, .iconst 0, 1), (20, .putfield 19, 3), (23, .return_, 1)]
def mX0_init : MI := (yX0_init, cX0_init, 1, none, 0, 0, tX0_init)
set_option maxRecDepth 20000 in
theorem cd_0 : Cond.code yX0_init cX0_init 1 none ∈ TB := tb_i 108 rfl rfl
set_option maxRecDepth 20000 in
theorem kX0_init : MOK mX0_init := ⟨cd_0, wn_0, rfl, by decide +kernel, by decide, by decide +kernel, by decide +kernel, by decide +kernel, by decide +kernel⟩
def tX1_init : Tab := [(0, .aload_n 0, 1), (1, .invokespecial 3, 3), (4, .aload_n 0, 1), (5, .sipush 512, 3), (8, .newarray .int, 2), (10, .putfield 9, 3), (13, .aload_n 0, 1), (14, .sipush 512, 3), (17, .newarray .int, 2), (19, .putfield 15, 3), (22, .aload_n 0, 1), (23, .iconst 0, 1), (24, .putfield 18, 3), (27, .aload_n 0, 1), (28, .sipush 512, 3), (31, .newarray .int, 2), (33, .putfield 22, 3), (36, .return_, 1)]
def mX1_init : MI := (yX1_init, cX1_init, 1, none, 1, 0, tX1_init)
set_option maxRecDepth 20000 in
theorem cd_1 : Cond.code yX1_init cX1_init 1 none ∈ TB := tb_i 124 rfl rfl
set_option maxRecDepth 20000 in
theorem kX1_init : MOK mX1_init := ⟨cd_1, wn_1, rfl, by decide +kernel, by decide, by decide +kernel, by decide +kernel, by decide +kernel, by decide +kernel⟩
def tX4_init : Tab := [(0, .aload_n 0, 1), (1, .invokespecial 3, 3), (4, .aload_n 0, 1), (5, .bipush 120, 2), (7, .newarray .int, 2), (9, .putfield 9, 3), (12, .aload_n 0, 1), (13, .bipush 120, 2), (15, .newarray .int, 2), (17, .putfield 15, 3), (20, .aload_n 0, 1), (21, .sipush 1563, 3), (24, .newarray .long, 2), (26, .putfield 18, 3), (29, .aload_n 0, 1), (30, .iconst 0, 1), (31, .putfield 22, 3), (34, .return_, 1)]
def mX4_init : MI := (yX4_init, cX4_init, 1, none, 4, 0, tX4_init)
set_option maxRecDepth 20000 in
theorem cd_4 : Cond.code yX4_init cX4_init 1 none ∈ TB := tb_i 143 rfl rfl
set_option maxRecDepth 20000 in
theorem kX4_init : MOK mX4_init := ⟨cd_4, wn_4, rfl, by decide +kernel, by decide, by decide +kernel, by decide +kernel, by decide +kernel, by decide +kernel⟩
def tX7_init : Tab := [(0, .aload_n 0, 1), (1, .invokespecial 1, 3), (4, .aload_n 0, 1), (5, .bipush 40, 2), (7, .newarray .int, 2), (9, .putfield 7, 3), (12, .aload_n 0, 1), (13, .iconst 3, 1), (14, .putfield 13, 3), (17, .aload_n 0, 1), (18, .bipush 10, 2), (20, .newarray .int, 2), (22, .putfield 17, 3), (25, .aload_n 0, 1), (26, .iconst 3, 1), (27, .putfield 20, 3), (30, .aload_n 0, 1), (31, .bipush 10, 2), (33, .newarray .int, 2), (35, .putfield 23, 3), (38, .aload_n 0, 1), (39, .bipush 88, 2), (41, .newarray .int, 2), (43, .putfield 26, 3), (46, .aload_n 0, 1), (47, .bipush 22, 2), (49, .newarray .int, 2), (51, .putfield 29, 3), (54, .aload_n 0, 1), (55, .bipush 10, 2), (57, .newarray .int, 2), (59, .putfield 32, 3), (62, .aload_n 0, 1), (63, .bipush 10, 2), (65, .newarray .int, 2), (67, .putfield 35, 3), (70, .aload_n 0, 1), (71, .sipush 12544, 3), (74, .newarray .long, 2), (76, .putfield 38, 3), (79, .aload_n 0, 1), (80, .sipush 512, 3), (83, .newarray .int, 2), (85, .putfield 42, 3), (88, .aload_n 0, 1), (89, .ldc 45, 2), (91, .newarray .int, 2), (93, .putfield 46, 3), (96, .aload_n 0, 1), (97, .ldc 45, 2), (99, .newarray .int, 2), (101, .putfield 49, 3), (104, .aload_n 0, 1), (105, .sipush 512, 3), (108, .newarray .boolean, 2), (110, .putfield 52, 3), (113, .aload_n 0, 1), (114, .sipush 512, 3), (117, .newarray .boolean, 2), (119, .putfield 56, 3), (122, .aload_n 0, 1), (123, .getfield 17, 3), (126, .iconst 0, 1), (127, .iconst 5, 1), (128, .iastore, 1), (129, .aload_n 0, 1), (130, .getfield 17, 3), (133, .iconst 1, 1), (134, .iconst 3, 1), (135, .iastore, 1), (136, .aload_n 0, 1), (137, .getfield 17, 3), (140, .iconst 2, 1), (141, .iconst 1, 1), (142, .iastore, 1), (143, .iconst 0, 1), (144, .istore_n 1, 1), (145, .iload_n 1, 1), (146, .iconst 3, 1), (147, .if_icmp .ge 21, 3), (150, .aload_n 0, 1), (151, .getfield 23, 3), (154, .iload_n 1, 1), (155, .aload_n 0, 1), (156, .getfield 17, 3), (159, .iload_n 1, 1), (160, .iaload, 1), (161, .iastore, 1), (162, .iinc 1 1, 3), (165, .goto (-20), 3), (168, .return_, 1)]
def mX7_init : MI := (yX7_init, cX7_init, 2, none, 7, 0, tX7_init)
set_option maxRecDepth 20000 in
theorem cd_7 : Cond.code yX7_init cX7_init 2 none ∈ TB := tb_i 615 rfl rfl
set_option maxRecDepth 20000 in
theorem kX7_init : MOK mX7_init := ⟨cd_7, wn_7, rfl, by decide +kernel, by decide, by decide +kernel, by decide +kernel, by decide +kernel, by decide +kernel⟩
