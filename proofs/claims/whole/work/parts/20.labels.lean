/-! THE LABELS, a row each: what stands at a label; a method, a row each. By wip/whole/gen.py. -/
theorem ae_0 : aP.1 (aP.2.1 0).1 = [.aload 0, .invokedynamic 0, .aload 0, .iconst 40, .newarray .long, .putfield 194, .aload 0, .iconst 2, .putfield 3, .aload 0, .iconst 2, .putfield 4, .aload 0, .iconst 1, .putfield 6, .aload 0, .iconst 20, .newarray .int, .putfield 199, .aload 0, .iconst 111, .newarray .int, .putfield 200, .aload 0, .iconst 111, .newarray .int, .putfield 201, .aload 0, .iconst 80, .newarray .int, .putfield 202, .aload 0, .iconst 36, .newarray .int, .putfield 207, .aload 0, .iconst 80, .newarray .int, .putfield 208, .aload 0, .iconst 80, .newarray .int, .putfield 209, .aload 0, .iconst 80, .newarray .int, .putfield 212, .aload 0, .iconst 7, .newarray .int, .putfield 213, .aload 0, .iconst 36, .newarray .int, .putfield 214, .aload 0, .iconst 36, .newarray .boolean, .putfield 215, .aload 0, .iconst 1776, .newarray .int, .putfield 219, .aload 0, .iconst 60, .newarray .int, .putfield 220, .aload 0, .iconst 60, .newarray .int, .putfield 221, .aload 0, .iconst 60, .newarray .int, .putfield 222, .aload 0, .iconst 60, .newarray .int, .putfield 223, .aload 0, .iconst 36, .newarray .int, .putfield 225, .aload 0, .iconst 6, .newarray .int, .putfield 227, .aload 0, .iconst 3, .newarray .int, .putfield 228, .aload 0, .iconst 8, .newarray .int, .putfield 230, .aload 0, .iconst 20, .newarray .int, .putfield 231, .aload 0, .iconst 20, .newarray .int, .putfield 232, .aload 0, .iconst 20, .newarray .boolean, .putfield 233, .aload 0, .iconst 20, .newarray .boolean, .putfield 234, .aload 0, .iconst 36, .newarray .int, .putfield 235, .aload 0, .iconst 36, .newarray .int, .putfield 236, .aload 0, .iconst 10, .newarray .int, .putfield 239, .aload 0, .iconst 10, .newarray .int, .putfield 240, .aload 0, .iconst 10, .newarray .int, .putfield 241, .aload 0, .iconst 6, .newarray .long, .putfield 242, .aload 0, .iconst 10, .newarray .int, .putfield 244, .aload 0, .iconst 10, .newarray .int, .putfield 245, .aload 0, .iconst 610, .newarray .int, .putfield 246, .aload 0, .iconst 80, .newarray .int, .putfield 247, .aload 0, .iconst 3, .newarray .boolean, .putfield 249, .aload 0, .iconst 3, .newarray .int, .putfield 250, .aload 0, .iconst 333, .newarray .int, .putfield 251, .return_] := rfl
theorem al_0 : aP.1 (Int.toNat 0) = [.aload 0, .invokedynamic 0, .aload 0, .iconst 40, .newarray .long, .putfield 194, .aload 0, .iconst 2, .putfield 3, .aload 0, .iconst 2, .putfield 4, .aload 0, .iconst 1, .putfield 6, .aload 0, .iconst 20, .newarray .int, .putfield 199, .aload 0, .iconst 111, .newarray .int, .putfield 200, .aload 0, .iconst 111, .newarray .int, .putfield 201, .aload 0, .iconst 80, .newarray .int, .putfield 202, .aload 0, .iconst 36, .newarray .int, .putfield 207, .aload 0, .iconst 80, .newarray .int, .putfield 208, .aload 0, .iconst 80, .newarray .int, .putfield 209, .aload 0, .iconst 80, .newarray .int, .putfield 212, .aload 0, .iconst 7, .newarray .int, .putfield 213, .aload 0, .iconst 36, .newarray .int, .putfield 214, .aload 0, .iconst 36, .newarray .boolean, .putfield 215, .aload 0, .iconst 1776, .newarray .int, .putfield 219, .aload 0, .iconst 60, .newarray .int, .putfield 220, .aload 0, .iconst 60, .newarray .int, .putfield 221, .aload 0, .iconst 60, .newarray .int, .putfield 222, .aload 0, .iconst 60, .newarray .int, .putfield 223, .aload 0, .iconst 36, .newarray .int, .putfield 225, .aload 0, .iconst 6, .newarray .int, .putfield 227, .aload 0, .iconst 3, .newarray .int, .putfield 228, .aload 0, .iconst 8, .newarray .int, .putfield 230, .aload 0, .iconst 20, .newarray .int, .putfield 231, .aload 0, .iconst 20, .newarray .int, .putfield 232, .aload 0, .iconst 20, .newarray .boolean, .putfield 233, .aload 0, .iconst 20, .newarray .boolean, .putfield 234, .aload 0, .iconst 36, .newarray .int, .putfield 235, .aload 0, .iconst 36, .newarray .int, .putfield 236, .aload 0, .iconst 10, .newarray .int, .putfield 239, .aload 0, .iconst 10, .newarray .int, .putfield 240, .aload 0, .iconst 10, .newarray .int, .putfield 241, .aload 0, .iconst 6, .newarray .long, .putfield 242, .aload 0, .iconst 10, .newarray .int, .putfield 244, .aload 0, .iconst 10, .newarray .int, .putfield 245, .aload 0, .iconst 610, .newarray .int, .putfield 246, .aload 0, .iconst 80, .newarray .int, .putfield 247, .aload 0, .iconst 3, .newarray .boolean, .putfield 249, .aload 0, .iconst 3, .newarray .int, .putfield 250, .aload 0, .iconst 333, .newarray .int, .putfield 251, .return_] := rfl
theorem am_0 : aP.2.1 0 = (0, 1, 1, 0, some 999, none) := rfl
theorem ae_1 : aP.1 (aP.2.1 1).1 = [.aload 0, .getfield 0, .ireturn] := rfl
theorem al_64 : aP.1 (Int.toNat 64) = [.aload 0, .getfield 0, .ireturn] := rfl
theorem am_1 : aP.2.1 1 = (64, 1, 1, 0, some 0, none) := rfl
theorem ae_2 : aP.1 (aP.2.1 2).1 = [.aload 0, .iconst 0, .putfield 0, .aload 0, .getfield 11, .iconst 76, .if_icmp .le 129, .iconst (-1), .ireturn] := rfl
theorem al_128 : aP.1 (Int.toNat 128) = [.aload 0, .iconst 0, .putfield 0, .aload 0, .getfield 11, .iconst 76, .if_icmp .le 129, .iconst (-1), .ireturn] := rfl
theorem al_129 : aP.1 (Int.toNat 129) = [.iconst 0, .istore 2, .jsr 130] := rfl
theorem al_130 : aP.1 (Int.toNat 130) = [.iload 2, .iconst 4, .if_icmp .ge 131, .aload 0, .getfield 10, .aload 0, .getfield 11, .iload 2, .iadd, .iload 1, .iconst 24, .iconst 8, .iload 2, .imul, .isub, .ishr, .iconst 255, .iand, .iastore, .iinc 2 (1), .goto 130] := rfl
theorem al_131 : aP.1 (Int.toNat 131) = [.aload 0, .dup, .getfield 11, .iconst 4, .iadd, .putfield 11, .aload 0, .getfield 11, .ireturn] := rfl
theorem am_2 : aP.2.1 2 = (128, 2, 3, 0, some 0, none) := rfl
theorem ae_3 : aP.1 (aP.2.1 3).1 = [.aload 0, .iconst 0, .putfield 0, .iload 1, .i2l, .ldc2_w 16, .aload 0, .getfield 11, .i2l, .invokestatic 4, .ifCond .ne 193, .iconst 0, .freturn] := rfl
theorem al_192 : aP.1 (Int.toNat 192) = [.aload 0, .iconst 0, .putfield 0, .iload 1, .i2l, .ldc2_w 16, .aload 0, .getfield 11, .i2l, .invokestatic 4, .ifCond .ne 193, .iconst 0, .freturn] := rfl
theorem al_193 : aP.1 (Int.toNat 193) = [.aload 0, .iload 1, .putfield 11, .iconst 1, .freturn] := rfl
theorem am_3 : aP.2.1 3 = (192, 2, 2, 1, some 0, none) := rfl
theorem ae_4 : aP.1 (aP.2.1 4).1 = [.lload 0, .lload 2, .lcmp, .ifCond .lt 257, .lload 0, .lload 4, .lcmp, .ifCond .gt 257, .iconst 1, .goto 258] := rfl
theorem al_256 : aP.1 (Int.toNat 256) = [.lload 0, .lload 2, .lcmp, .ifCond .lt 257, .lload 0, .lload 4, .lcmp, .ifCond .gt 257, .iconst 1, .goto 258] := rfl
theorem al_257 : aP.1 (Int.toNat 257) = [.iconst 0, .jsr 258] := rfl
theorem al_258 : aP.1 (Int.toNat 258) = [.freturn] := rfl
theorem am_4 : aP.2.1 4 = (256, 3, 6, 0, none, none) := rfl
theorem ae_5 : aP.1 (aP.2.1 5).1 = [.aload 0, .iconst 0, .putfield 0, .aload 0, .iconst 80, .invokestatic 6, .pop, .aload 0, .iconst 2, .iconst 6, .invokestatic 7, .istore 1, .iload 1, .ifCond .ge 321, .iconst (-1), .goto 322] := rfl
theorem al_320 : aP.1 (Int.toNat 320) = [.aload 0, .iconst 0, .putfield 0, .aload 0, .iconst 80, .invokestatic 6, .pop, .aload 0, .iconst 2, .iconst 6, .invokestatic 7, .istore 1, .iload 1, .ifCond .ge 321, .iconst (-1), .goto 322] := rfl
theorem al_321 : aP.1 (Int.toNat 321) = [.aload 0, .iconst 2, .iconst 6, .invokestatic 7, .jsr 322] := rfl
theorem al_322 : aP.1 (Int.toNat 322) = [.istore 2, .iload 2, .ifCond .le 323, .iconst 1, .goto 324] := rfl
theorem al_323 : aP.1 (Int.toNat 323) = [.iconst 0, .jsr 324] := rfl
theorem al_324 : aP.1 (Int.toNat 324) = [.istore 3, .iconst 0, .istore 4, .jsr 325] := rfl
theorem al_325 : aP.1 (Int.toNat 325) = [.iload 3, .ifCond .eq 328, .iload 4, .iload 1, .iload 2, .imul, .if_icmp .ge 328, .aload 0, .getfield 15, .iload 4, .aload 0, .iconst 1, .invokestatic 8, .iastore, .aload 0, .getfield 15, .iload 4, .iaload, .ifCond .lt 326, .iconst 1, .goto 327] := rfl
theorem al_326 : aP.1 (Int.toNat 326) = [.iconst 0, .jsr 327] := rfl
theorem al_327 : aP.1 (Int.toNat 327) = [.istore 3, .iinc 4 (1), .goto 325] := rfl
theorem al_328 : aP.1 (Int.toNat 328) = [.iload 3, .ifCond .eq 329, .aload 0, .getfield 12, .aload 0, .getfield 13, .if_icmp .ge 330, .jsr 329] := rfl
theorem al_329 : aP.1 (Int.toNat 329) = [.iconst (-1), .aload 0, .getfield 12, .isub, .ireturn] := rfl
theorem al_330 : aP.1 (Int.toNat 330) = [.aload 0, .iload 1, .putfield 3, .aload 0, .iload 2, .putfield 4, .iconst 0, .istore 4, .jsr 331] := rfl
theorem al_331 : aP.1 (Int.toNat 331) = [.iload 4, .iconst 36, .if_icmp .ge 334, .aload 0, .getfield 8, .iload 4, .iload 4, .iload 1, .iload 2, .imul, .if_icmp .ge 332, .aload 0, .getfield 15, .iload 4, .iaload, .goto 333] := rfl
theorem al_332 : aP.1 (Int.toNat 332) = [.iconst 0, .jsr 333] := rfl
theorem al_333 : aP.1 (Int.toNat 333) = [.iastore, .aload 0, .getfield 8, .iconst 36, .iload 4, .iadd, .iconst 0, .iastore, .aload 0, .getfield 8, .iconst 72, .iload 4, .iadd, .iconst 0, .iastore, .iinc 4 (1), .goto 331] := rfl
theorem al_334 : aP.1 (Int.toNat 334) = [.aload 0, .getfield 8, .iconst 108, .iconst 0, .iastore, .aload 0, .getfield 8, .iconst 109, .iconst 0, .iastore, .aload 0, .getfield 8, .iconst 110, .iconst 0, .iastore, .aload 0, .iconst 0, .putfield 26, .aload 0, .dup, .getfield 5, .iconst 1, .iadd, .putfield 5, .aload 0, .iconst 0, .putfield 46, .aload 0, .iconst 0, .putfield 51, .aload 0, .invokestatic 10, .ireturn] := rfl
theorem am_5 : aP.2.1 5 = (320, 1, 5, 3, some 0, none) := rfl
theorem ae_6 : aP.1 (aP.2.1 6).1 = [.aload 0, .getfield 11, .istore 2, .aload 0, .iconst 0, .putfield 11, .aload 0, .iconst 0, .putfield 12, .aload 0, .iconst 0, .putfield 14, .aload 0, .iload 2, .iload 1, .invokedynamic 5, .putfield 13, .iload 2, .ireturn] := rfl
theorem al_384 : aP.1 (Int.toNat 384) = [.aload 0, .getfield 11, .istore 2, .aload 0, .iconst 0, .putfield 11, .aload 0, .iconst 0, .putfield 12, .aload 0, .iconst 0, .putfield 14, .aload 0, .iload 2, .iload 1, .invokedynamic 5, .putfield 13, .iload 2, .ireturn] := rfl
theorem am_6 : aP.2.1 6 = (384, 2, 3, 0, some 0, none) := rfl
theorem ae_7 : aP.1 (aP.2.1 7).1 = [.aload 0, .getfield 12, .aload 0, .getfield 13, .if_icmp .ge 449, .aload 0, .getfield 10, .aload 0, .getfield 12, .iaload, .iconst 48, .isub, .i2l, .iload 1, .i2l, .iload 2, .i2l, .invokestatic 4, .ifCond .ne 450, .jsr 449] := rfl
theorem al_448 : aP.1 (Int.toNat 448) = [.aload 0, .getfield 12, .aload 0, .getfield 13, .if_icmp .ge 449, .aload 0, .getfield 10, .aload 0, .getfield 12, .iaload, .iconst 48, .isub, .i2l, .iload 1, .i2l, .iload 2, .i2l, .invokestatic 4, .ifCond .ne 450, .jsr 449] := rfl
theorem al_449 : aP.1 (Int.toNat 449) = [.iconst (-1), .ireturn] := rfl
theorem al_450 : aP.1 (Int.toNat 450) = [.aload 0, .dup, .getfield 12, .iconst 1, .iadd, .putfield 12, .aload 0, .getfield 10, .aload 0, .getfield 12, .iconst 1, .isub, .iaload, .iconst 48, .isub, .ireturn] := rfl
theorem am_7 : aP.2.1 7 = (448, 3, 3, 1, some 0, none) := rfl
theorem ae_8 : aP.1 (aP.2.1 8).1 = [.aload 0, .invokestatic 9, .ifCond .ne 513, .iconst (-1), .ireturn] := rfl
theorem al_512 : aP.1 (Int.toNat 512) = [.aload 0, .invokestatic 9, .ifCond .ne 513, .iconst (-1), .ireturn] := rfl
theorem al_513 : aP.1 (Int.toNat 513) = [.iconst 0, .istore 2, .iconst 0, .istore 3, .jsr 514] := rfl
theorem al_514 : aP.1 (Int.toNat 514) = [.iload 3, .iload 1, .if_icmp .ge 515, .aload 0, .invokestatic 9, .ifCond .eq 515, .iconst 10, .iload 2, .imul, .aload 0, .getfield 10, .aload 0, .getfield 12, .iaload, .iadd, .iconst 48, .isub, .istore 2, .aload 0, .dup, .getfield 12, .iconst 1, .iadd, .putfield 12, .iinc 3 (1), .goto 514] := rfl
theorem al_515 : aP.1 (Int.toNat 515) = [.iload 2, .ireturn] := rfl
theorem am_8 : aP.2.1 8 = (512, 2, 4, 2, some 0, none) := rfl
theorem ae_9 : aP.1 (aP.2.1 9).1 = [.aload 0, .getfield 12, .aload 0, .getfield 13, .if_icmp .ge 577, .aload 0, .getfield 10, .aload 0, .getfield 12, .iaload, .i2l, .ldc2_w 64, .ldc2_w 73, .invokestatic 4, .ifCond .eq 577, .iconst 1, .goto 578] := rfl
theorem al_576 : aP.1 (Int.toNat 576) = [.aload 0, .getfield 12, .aload 0, .getfield 13, .if_icmp .ge 577, .aload 0, .getfield 10, .aload 0, .getfield 12, .iaload, .i2l, .ldc2_w 64, .ldc2_w 73, .invokestatic 4, .ifCond .eq 577, .iconst 1, .goto 578] := rfl
theorem al_577 : aP.1 (Int.toNat 577) = [.iconst 0, .jsr 578] := rfl
theorem al_578 : aP.1 (Int.toNat 578) = [.freturn] := rfl
theorem am_9 : aP.2.1 9 = (576, 1, 1, 1, some 0, none) := rfl
theorem ae_10 : aP.1 (aP.2.1 10).1 = [.aload 0, .getfield 3, .aload 0, .getfield 4, .imul, .ireturn] := rfl
theorem al_640 : aP.1 (Int.toNat 640) = [.aload 0, .getfield 3, .aload 0, .getfield 4, .imul, .ireturn] := rfl
theorem am_10 : aP.2.1 10 = (640, 1, 1, 0, some 0, none) := rfl
theorem ae_11 : aP.1 (aP.2.1 11).1 = [.aload 0, .iconst 0, .putfield 0, .aload 0, .iconst 80, .invokestatic 6, .pop, .iconst 0, .istore 1, .jsr 705] := rfl
theorem al_704 : aP.1 (Int.toNat 704) = [.aload 0, .iconst 0, .putfield 0, .aload 0, .iconst 80, .invokestatic 6, .pop, .iconst 0, .istore 1, .jsr 705] := rfl
theorem al_705 : aP.1 (Int.toNat 705) = [.iload 1, .iconst 20, .if_icmp .ge 706, .aload 0, .invokestatic 9, .ifCond .eq 706, .aload 0, .getfield 15, .iload 1, .aload 0, .iconst 1, .invokestatic 8, .iastore, .iinc 1 (1), .goto 705] := rfl
theorem al_706 : aP.1 (Int.toNat 706) = [.iload 1, .ifCond .eq 707, .aload 0, .getfield 12, .aload 0, .getfield 13, .if_icmp .ge 708, .jsr 707] := rfl
theorem al_707 : aP.1 (Int.toNat 707) = [.iconst (-1), .aload 0, .getfield 12, .isub, .ireturn] := rfl
theorem al_708 : aP.1 (Int.toNat 708) = [.aload 0, .iload 1, .putfield 6, .iconst 0, .istore 2, .jsr 709] := rfl
theorem al_709 : aP.1 (Int.toNat 709) = [.iload 2, .iload 1, .if_icmp .ge 710, .aload 0, .getfield 7, .iload 2, .aload 0, .getfield 15, .iload 2, .iaload, .iastore, .iinc 2 (1), .goto 709] := rfl
theorem al_710 : aP.1 (Int.toNat 710) = [.iload 1, .ireturn] := rfl
theorem am_11 : aP.2.1 11 = (704, 1, 3, 3, some 0, none) := rfl
theorem ae_12 : aP.1 (aP.2.1 12).1 = [.aload 0, .iconst 0, .putfield 0, .aload 0, .invokestatic 13, .istore 1, .iload 1, .ifCond .ne 769, .aload 0, .aload 0, .getfield 17, .aload 0, .getfield 19, .invokestatic 21, .jsr 769] := rfl
theorem al_768 : aP.1 (Int.toNat 768) = [.aload 0, .iconst 0, .putfield 0, .aload 0, .invokestatic 13, .istore 1, .iload 1, .ifCond .ne 769, .aload 0, .aload 0, .getfield 17, .aload 0, .getfield 19, .invokestatic 21, .jsr 769] := rfl
theorem al_769 : aP.1 (Int.toNat 769) = [.iload 1, .ireturn] := rfl
theorem am_12 : aP.2.1 12 = (768, 1, 2, 5, some 0, none) := rfl
theorem ae_13 : aP.1 (aP.2.1 13).1 = [.aload 0, .iconst 40, .invokestatic 6, .istore 1, .aload 0, .iconst 0, .putfield 19, .iload 1, .ifCond .eq 833, .aload 0, .iconst 0, .invokestatic 14, .ifCond .eq 834, .jsr 833] := rfl
theorem al_832 : aP.1 (Int.toNat 832) = [.aload 0, .iconst 40, .invokestatic 6, .istore 1, .aload 0, .iconst 0, .putfield 19, .iload 1, .ifCond .eq 833, .aload 0, .iconst 0, .invokestatic 14, .ifCond .eq 834, .jsr 833] := rfl
theorem al_833 : aP.1 (Int.toNat 833) = [.iconst 1, .goto 835] := rfl
theorem al_834 : aP.1 (Int.toNat 834) = [.iconst 0, .jsr 835] := rfl
theorem al_835 : aP.1 (Int.toNat 835) = [.istore 2, .aload 0, .iload 1, .iconst 40, .iload 2, .invokestatic 20, .ireturn] := rfl
theorem am_13 : aP.2.1 13 = (832, 1, 3, 4, some 0, none) := rfl
theorem ae_14 : aP.1 (aP.2.1 14).1 = [.iload 1, .iconst 3, .if_icmp .ne 897, .aload 0, .invokestatic 15, .freturn] := rfl
theorem al_896 : aP.1 (Int.toNat 896) = [.iload 1, .iconst 3, .if_icmp .ne 897, .aload 0, .invokestatic 15, .freturn] := rfl
theorem al_897 : aP.1 (Int.toNat 897) = [.aload 0, .iload 1, .iconst 1, .iadd, .invokestatic 14, .ifCond .ne 898, .iconst 0, .freturn] := rfl
theorem al_898 : aP.1 (Int.toNat 898) = [.iconst 1, .istore 2, .jsr 899] := rfl
theorem al_899 : aP.1 (Int.toNat 899) = [.iload 2, .ifCond .eq 910, .aload 0, .iload 1, .ifCond .ne 900, .ldc 4, .goto 902] := rfl
theorem al_900 : aP.1 (Int.toNat 900) = [.iload 1, .iconst 1, .if_icmp .ne 901, .ldc 5, .goto 902] := rfl
theorem al_901 : aP.1 (Int.toNat 901) = [.ldc 6, .jsr 902] := rfl
theorem al_902 : aP.1 (Int.toNat 902) = [.invokestatic 19, .istore 3, .iload 3, .ifCond .ge 903, .iconst 1, .freturn] := rfl
theorem al_903 : aP.1 (Int.toNat 903) = [.aload 0, .iload 1, .iconst 1, .iadd, .invokestatic 14, .ifCond .ne 904, .iconst 0, .freturn] := rfl
theorem al_904 : aP.1 (Int.toNat 904) = [.aload 0, .iconst 2000, .iload 3, .iadd, .iload 1, .ifCond .ne 905, .iconst 0, .goto 907] := rfl
theorem al_905 : aP.1 (Int.toNat 905) = [.iload 1, .iconst 1, .if_icmp .ne 906, .iconst 3, .goto 907] := rfl
theorem al_906 : aP.1 (Int.toNat 906) = [.iconst 5, .jsr 907] := rfl
theorem al_907 : aP.1 (Int.toNat 907) = [.iadd, .invokestatic 18, .iload 1, .ifCond .le 908, .iconst 1, .goto 909] := rfl
theorem al_908 : aP.1 (Int.toNat 908) = [.iconst 0, .jsr 909] := rfl
theorem al_909 : aP.1 (Int.toNat 909) = [.istore 2, .goto 899] := rfl
theorem al_910 : aP.1 (Int.toNat 910) = [.iconst 1, .freturn] := rfl
theorem am_14 : aP.2.1 14 = (896, 2, 4, 3, some 0, none) := rfl
theorem ae_15 : aP.1 (aP.2.1 15).1 = [.aload 0, .iconst 45, .invokestatic 16, .ifCond .eq 961, .aload 0, .invokestatic 15, .istore 1, .aload 0, .iconst 3000, .invokestatic 18, .iload 1, .freturn] := rfl
theorem al_960 : aP.1 (Int.toNat 960) = [.aload 0, .iconst 45, .invokestatic 16, .ifCond .eq 961, .aload 0, .invokestatic 15, .istore 1, .aload 0, .iconst 3000, .invokestatic 18, .iload 1, .freturn] := rfl
theorem al_961 : aP.1 (Int.toNat 961) = [.aload 0, .invokestatic 9, .ifCond .eq 962, .aload 0, .aload 0, .iconst 3, .invokestatic 8, .invokestatic 18, .iconst 1, .freturn] := rfl
theorem al_962 : aP.1 (Int.toNat 962) = [.aload 0, .ldc 3, .invokestatic 19, .istore 1, .iload 1, .ifCond .lt 963, .aload 0, .iconst 1000, .iload 1, .iadd, .invokestatic 18, .iconst 1, .freturn] := rfl
theorem al_963 : aP.1 (Int.toNat 963) = [.aload 0, .getfield 14, .iconst 4, .if_icmp .eq 964, .aload 0, .iconst 40, .invokestatic 16, .ifCond .ne 965, .jsr 964] := rfl
theorem al_964 : aP.1 (Int.toNat 964) = [.iconst 0, .freturn] := rfl
theorem al_965 : aP.1 (Int.toNat 965) = [.aload 0, .dup, .getfield 14, .iconst 1, .iadd, .putfield 14, .aload 0, .iconst 0, .invokestatic 14, .ifCond .eq 966, .aload 0, .iconst 41, .invokestatic 16, .ifCond .ne 967, .jsr 966] := rfl
theorem al_966 : aP.1 (Int.toNat 966) = [.iconst 0, .freturn] := rfl
theorem al_967 : aP.1 (Int.toNat 967) = [.aload 0, .dup, .getfield 14, .iconst 1, .isub, .putfield 14, .iconst 1, .freturn] := rfl
theorem am_15 : aP.2.1 15 = (960, 1, 2, 3, some 0, none) := rfl
theorem ae_16 : aP.1 (aP.2.1 16).1 = [.aload 0, .getfield 12, .aload 0, .getfield 13, .if_icmp .ge 1025, .aload 0, .getfield 10, .aload 0, .getfield 12, .iaload, .iload 1, .if_icmp .ne 1025, .iconst 1, .goto 1026] := rfl
theorem al_1024 : aP.1 (Int.toNat 1024) = [.aload 0, .getfield 12, .aload 0, .getfield 13, .if_icmp .ge 1025, .aload 0, .getfield 10, .aload 0, .getfield 12, .iaload, .iload 1, .if_icmp .ne 1025, .iconst 1, .goto 1026] := rfl
theorem al_1025 : aP.1 (Int.toNat 1025) = [.iconst 0, .jsr 1026] := rfl
theorem al_1026 : aP.1 (Int.toNat 1026) = [.istore 2, .aload 0, .dup, .getfield 12, .iload 2, .invokestatic 17, .iadd, .putfield 12, .iload 2, .freturn] := rfl
theorem am_16 : aP.2.1 16 = (1024, 2, 3, 1, some 0, none) := rfl
theorem ae_17 : aP.1 (aP.2.1 17).1 = [.iload 0, .ifCond .eq 1089, .iconst 1, .goto 1090] := rfl
theorem al_1088 : aP.1 (Int.toNat 1088) = [.iload 0, .ifCond .eq 1089, .iconst 1, .goto 1090] := rfl
theorem al_1089 : aP.1 (Int.toNat 1089) = [.iconst 0, .jsr 1090] := rfl
theorem al_1090 : aP.1 (Int.toNat 1090) = [.ireturn] := rfl
theorem am_17 : aP.2.1 17 = (1088, 1, 1, 0, none, none) := rfl
theorem ae_18 : aP.1 (aP.2.1 18).1 = [.aload 0, .getfield 17, .aload 0, .getfield 19, .iload 1, .iastore, .aload 0, .dup, .getfield 19, .iconst 1, .iadd, .putfield 19, .return_] := rfl
theorem al_1152 : aP.1 (Int.toNat 1152) = [.aload 0, .getfield 17, .aload 0, .getfield 19, .iload 1, .iastore, .aload 0, .dup, .getfield 19, .iconst 1, .iadd, .putfield 19, .return_] := rfl
theorem am_18 : aP.2.1 18 = (1152, 2, 2, 0, some 0, none) := rfl
theorem ae_19 : aP.1 (aP.2.1 19).1 = [.iconst 0, .istore 2, .jsr 1217] := rfl
theorem al_1216 : aP.1 (Int.toNat 1216) = [.iconst 0, .istore 2, .jsr 1217] := rfl
theorem al_1217 : aP.1 (Int.toNat 1217) = [.iload 2, .aload 1, .invokedynamic 2, .if_icmp .ge 1219, .aload 0, .getfield 12, .aload 0, .getfield 13, .if_icmp .ge 1219, .aload 1, .iload 2, .invokedynamic 3, .aload 0, .getfield 10, .aload 0, .getfield 12, .iaload, .if_icmp .ne 1218, .aload 0, .dup, .getfield 12, .iconst 1, .iadd, .putfield 12, .iload 2, .ireturn] := rfl
theorem al_1218 : aP.1 (Int.toNat 1218) = [.iinc 2 (1), .goto 1217] := rfl
theorem al_1219 : aP.1 (Int.toNat 1219) = [.iconst (-1), .ireturn] := rfl
theorem am_19 : aP.2.1 19 = (1216, 2, 3, 0, some 0, none) := rfl
theorem ae_20 : aP.1 (aP.2.1 20).1 = [.iload 3, .ifCond .eq 1281, .aload 0, .getfield 12, .aload 0, .getfield 13, .if_icmp .ne 1281, .iconst 1, .goto 1282] := rfl
theorem al_1280 : aP.1 (Int.toNat 1280) = [.iload 3, .ifCond .eq 1281, .aload 0, .getfield 12, .aload 0, .getfield 13, .if_icmp .ne 1281, .iconst 1, .goto 1282] := rfl
theorem al_1281 : aP.1 (Int.toNat 1281) = [.iconst 0, .jsr 1282] := rfl
theorem al_1282 : aP.1 (Int.toNat 1282) = [.istore 4, .iload 1, .iload 2, .if_icmp .le 1284, .iload 4, .ifCond .ne 1283, .aload 0, .getfield 12, .iload 2, .if_icmp .lt 1284, .jsr 1283] := rfl
theorem al_1283 : aP.1 (Int.toNat 1283) = [.iconst (-1), .iload 2, .isub, .ireturn] := rfl
theorem al_1284 : aP.1 (Int.toNat 1284) = [.iload 4, .ifCond .eq 1285, .iconst 0, .goto 1286] := rfl
theorem al_1285 : aP.1 (Int.toNat 1285) = [.iconst (-1), .aload 0, .getfield 12, .isub, .jsr 1286] := rfl
theorem al_1286 : aP.1 (Int.toNat 1286) = [.ireturn] := rfl
theorem am_20 : aP.2.1 20 = (1280, 4, 5, 0, some 0, none) := rfl
theorem ae_21 : aP.1 (aP.2.1 21).1 = [.aload 0, .iload 2, .putfield 18, .iconst 0, .istore 3, .jsr 1345] := rfl
theorem al_1344 : aP.1 (Int.toNat 1344) = [.aload 0, .iload 2, .putfield 18, .iconst 0, .istore 3, .jsr 1345] := rfl
theorem al_1345 : aP.1 (Int.toNat 1345) = [.iload 3, .iload 2, .if_icmp .ge 1346, .aload 0, .getfield 16, .iload 3, .aload 1, .iload 3, .iaload, .iastore, .iinc 3 (1), .goto 1345] := rfl
theorem al_1346 : aP.1 (Int.toNat 1346) = [.return_] := rfl
theorem am_21 : aP.2.1 21 = (1344, 3, 4, 0, some 0, none) := rfl
theorem ae_22 : aP.1 (aP.2.1 22).1 = [.aload 0, .iconst 0, .putfield 0, .aload 0, .iload 1, .invokestatic 23, .ifCond .eq 1409, .iload 2, .i2l, .ldc2_w 16, .ldc2_w 19, .invokestatic 4, .ifCond .ne 1410, .jsr 1409] := rfl
theorem al_1408 : aP.1 (Int.toNat 1408) = [.aload 0, .iconst 0, .putfield 0, .aload 0, .iload 1, .invokestatic 23, .ifCond .eq 1409, .iload 2, .i2l, .ldc2_w 16, .ldc2_w 19, .invokestatic 4, .ifCond .ne 1410, .jsr 1409] := rfl
theorem al_1409 : aP.1 (Int.toNat 1409) = [.aload 0, .invokestatic 24, .ireturn] := rfl
theorem al_1410 : aP.1 (Int.toNat 1410) = [.aload 0, .aload 0, .getfield 8, .invokestatic 25, .iload 2, .tableswitch 1414 (0) (2) #[1411, 1412, 1413]] := rfl
theorem al_1411 : aP.1 (Int.toNat 1411) = [.aload 0, .getfield 8, .iload 1, .iaload, .ireturn] := rfl
theorem al_1412 : aP.1 (Int.toNat 1412) = [.aload 0, .getfield 8, .iconst 36, .iload 1, .iadd, .iaload, .ireturn] := rfl
theorem al_1413 : aP.1 (Int.toNat 1413) = [.aload 0, .getfield 8, .iconst 72, .iload 1, .iadd, .iaload, .ireturn] := rfl
theorem al_1414 : aP.1 (Int.toNat 1414) = [.aload 0, .getfield 23, .iload 1, .baload, .invokestatic 17, .ireturn] := rfl
theorem am_22 : aP.2.1 22 = (1408, 3, 3, 5, some 0, none) := rfl
theorem ae_23 : aP.1 (aP.2.1 23).1 = [.iload 1, .i2l, .ldc2_w 16, .aload 0, .invokestatic 10, .iconst 1, .isub, .i2l, .invokestatic 4, .freturn] := rfl
theorem al_1472 : aP.1 (Int.toNat 1472) = [.iload 1, .i2l, .ldc2_w 16, .aload 0, .invokestatic 10, .iconst 1, .isub, .i2l, .invokestatic 4, .freturn] := rfl
theorem am_23 : aP.2.1 23 = (1472, 2, 2, 1, some 0, none) := rfl
theorem ae_24 : aP.1 (aP.2.1 24).1 = [.aload 0, .iconst 1, .putfield 0, .iconst 0, .ireturn] := rfl
theorem al_1536 : aP.1 (Int.toNat 1536) = [.aload 0, .iconst 1, .putfield 0, .iconst 0, .ireturn] := rfl
theorem am_24 : aP.2.1 24 = (1536, 1, 1, 0, some 0, none) := rfl
theorem ae_25 : aP.1 (aP.2.1 25).1 = [.aload 0, .iconst 0, .putfield 24, .iconst 0, .istore 2, .jsr 1601] := rfl
theorem al_1600 : aP.1 (Int.toNat 1600) = [.aload 0, .iconst 0, .putfield 24, .iconst 0, .istore 2, .jsr 1601] := rfl
theorem al_1601 : aP.1 (Int.toNat 1601) = [.iload 2, .iconst 36, .if_icmp .ge 1602, .aload 0, .getfield 23, .iload 2, .iconst 0, .bastore, .iinc 2 (1), .goto 1601] := rfl
theorem al_1602 : aP.1 (Int.toNat 1602) = [.aload 0, .aload 1, .aload 1, .iconst 108, .iaload, .invokestatic 26, .putfield 153, .aload 0, .getfield 25, .ifCond .eq 1603, .return_] := rfl
theorem al_1603 : aP.1 (Int.toNat 1603) = [.aload 1, .iconst 108, .iaload, .istore 2, .aload 0, .iload 2, .invokestatic 27, .jsr 1604] := rfl
theorem al_1604 : aP.1 (Int.toNat 1604) = [.aload 0, .getfield 25, .ifCond .ne 1618, .aload 0, .iload 2, .invokestatic 28, .ifCond .ne 1618, .iconst (-1), .istore 3, .iconst 0, .istore 4, .iconst 0, .istore 5, .jsr 1605] := rfl
theorem al_1605 : aP.1 (Int.toNat 1605) = [.iload 5, .iconst 3, .if_icmp .ge 1614, .aload 0, .iload 2, .iload 5, .invokestatic 29, .istore 6, .iload 6, .ifCond .lt 1613, .aload 1, .iload 6, .invokestatic 26, .ifCond .ne 1613, .aload 0, .getfield 23, .iload 6, .baload, .ifCond .ne 1613, .aload 0, .aload 1, .iload 6, .iload 5, .ifCond .le 1606, .iconst 1, .goto 1607] := rfl
theorem al_1606 : aP.1 (Int.toNat 1606) = [.iconst 0, .jsr 1607] := rfl
theorem al_1607 : aP.1 (Int.toNat 1607) = [.invokestatic 17, .invokestatic 30, .istore 7, .iload 3, .ifCond .lt 1608, .iload 7, .iload 4, .if_icmp .ge 1609, .jsr 1608] := rfl
theorem al_1608 : aP.1 (Int.toNat 1608) = [.iload 6, .goto 1610] := rfl
theorem al_1609 : aP.1 (Int.toNat 1609) = [.iload 3, .jsr 1610] := rfl
theorem al_1610 : aP.1 (Int.toNat 1610) = [.istore 3, .iload 3, .iload 6, .if_icmp .ne 1611, .iload 7, .goto 1612] := rfl
theorem al_1611 : aP.1 (Int.toNat 1611) = [.iload 4, .jsr 1612] := rfl
theorem al_1612 : aP.1 (Int.toNat 1612) = [.istore 4, .jsr 1613] := rfl
theorem al_1613 : aP.1 (Int.toNat 1613) = [.iinc 5 (1), .goto 1605] := rfl
theorem al_1614 : aP.1 (Int.toNat 1614) = [.aload 0, .iload 3, .ifCond .ge 1615, .iconst 1, .goto 1616] := rfl
theorem al_1615 : aP.1 (Int.toNat 1615) = [.iconst 0, .jsr 1616] := rfl
theorem al_1616 : aP.1 (Int.toNat 1616) = [.putfield 153, .aload 0, .getfield 25, .ifCond .ne 1617, .iload 3, .istore 2, .aload 0, .iload 2, .invokestatic 27, .jsr 1617] := rfl
theorem al_1617 : aP.1 (Int.toNat 1617) = [.goto 1604] := rfl
theorem al_1618 : aP.1 (Int.toNat 1618) = [.return_] := rfl
theorem am_25 : aP.2.1 25 = (1600, 2, 8, 4, some 0, none) := rfl
theorem ae_26 : aP.1 (aP.2.1 26).1 = [.aload 0, .iconst 36, .iload 1, .iadd, .iaload, .iconst 1, .if_icmp .ne 1665, .iconst 1, .goto 1666] := rfl
theorem al_1664 : aP.1 (Int.toNat 1664) = [.aload 0, .iconst 36, .iload 1, .iadd, .iaload, .iconst 1, .if_icmp .ne 1665, .iconst 1, .goto 1666] := rfl
theorem al_1665 : aP.1 (Int.toNat 1665) = [.iconst 0, .jsr 1666] := rfl
theorem al_1666 : aP.1 (Int.toNat 1666) = [.freturn] := rfl
theorem am_26 : aP.2.1 26 = (1664, 2, 2, 0, none, none) := rfl
theorem ae_27 : aP.1 (aP.2.1 27).1 = [.aload 0, .getfield 22, .aload 0, .getfield 24, .iload 1, .iastore, .aload 0, .dup, .getfield 24, .iconst 1, .iadd, .putfield 24, .aload 0, .getfield 23, .iload 1, .iconst 1, .bastore, .return_] := rfl
theorem al_1728 : aP.1 (Int.toNat 1728) = [.aload 0, .getfield 22, .aload 0, .getfield 24, .iload 1, .iastore, .aload 0, .dup, .getfield 24, .iconst 1, .iadd, .putfield 24, .aload 0, .getfield 23, .iload 1, .iconst 1, .bastore, .return_] := rfl
theorem am_27 : aP.2.1 27 = (1728, 2, 2, 0, some 0, none) := rfl
theorem ae_28 : aP.1 (aP.2.1 28).1 = [.iload 1, .aload 0, .invokestatic 10, .aload 0, .getfield 4, .isub, .if_icmp .lt 1793, .iconst 1, .goto 1794] := rfl
theorem al_1792 : aP.1 (Int.toNat 1792) = [.iload 1, .aload 0, .invokestatic 10, .aload 0, .getfield 4, .isub, .if_icmp .lt 1793, .iconst 1, .goto 1794] := rfl
theorem al_1793 : aP.1 (Int.toNat 1793) = [.iconst 0, .jsr 1794] := rfl
theorem al_1794 : aP.1 (Int.toNat 1794) = [.freturn] := rfl
theorem am_28 : aP.2.1 28 = (1792, 2, 2, 1, some 0, none) := rfl
theorem ae_29 : aP.1 (aP.2.1 29).1 = [.iload 1, .aload 0, .getfield 4, .idiv, .iload 2, .ifCond .ne 1857, .iconst 1, .goto 1859] := rfl
theorem al_1856 : aP.1 (Int.toNat 1856) = [.iload 1, .aload 0, .getfield 4, .idiv, .iload 2, .ifCond .ne 1857, .iconst 1, .goto 1859] := rfl
theorem al_1857 : aP.1 (Int.toNat 1857) = [.iload 2, .iconst 3, .if_icmp .ne 1858, .iconst (-1), .goto 1859] := rfl
theorem al_1858 : aP.1 (Int.toNat 1858) = [.iconst 0, .jsr 1859] := rfl
theorem al_1859 : aP.1 (Int.toNat 1859) = [.iadd, .istore 3, .iload 1, .aload 0, .getfield 4, .irem, .iload 2, .iconst 2, .if_icmp .ne 1860, .iconst 1, .goto 1862] := rfl
theorem al_1860 : aP.1 (Int.toNat 1860) = [.iload 2, .iconst 1, .if_icmp .ne 1861, .iconst (-1), .goto 1862] := rfl
theorem al_1861 : aP.1 (Int.toNat 1861) = [.iconst 0, .jsr 1862] := rfl
theorem al_1862 : aP.1 (Int.toNat 1862) = [.iadd, .istore 4, .iload 3, .i2l, .ldc2_w 16, .aload 0, .getfield 3, .iconst 1, .isub, .i2l, .invokestatic 4, .ifCond .eq 1863, .iload 4, .i2l, .ldc2_w 16, .aload 0, .getfield 4, .iconst 1, .isub, .i2l, .invokestatic 4, .ifCond .eq 1863, .aload 0, .getfield 4, .iload 3, .imul, .iload 4, .iadd, .goto 1864] := rfl
theorem al_1863 : aP.1 (Int.toNat 1863) = [.iconst (-1), .jsr 1864] := rfl
theorem al_1864 : aP.1 (Int.toNat 1864) = [.ireturn] := rfl
theorem am_29 : aP.2.1 29 = (1856, 3, 5, 1, some 0, none) := rfl
theorem ae_30 : aP.1 (aP.2.1 30).1 = [.aload 0, .getfield 21, .iconst 0, .aload 1, .iload 2, .iaload, .iastore, .aload 0, .getfield 21, .iconst 1, .iload 3, .iastore, .aload 0, .getfield 21, .iconst 2, .aload 1, .iconst 72, .iload 2, .iadd, .iaload, .iastore, .aload 0, .getfield 21, .iconst 3, .aload 0, .aload 1, .iconst 109, .iaload, .invokestatic 31, .iastore, .aload 0, .getfield 21, .iconst 4, .aload 1, .iconst 109, .iaload, .iconst 7, .irem, .iastore, .aload 0, .getfield 21, .iconst 5, .iload 2, .aload 0, .getfield 4, .idiv, .iastore, .aload 0, .getfield 21, .iconst 6, .iload 2, .aload 0, .getfield 4, .irem, .iastore, .aload 0, .invokestatic 32, .ireturn] := rfl
theorem al_1920 : aP.1 (Int.toNat 1920) = [.aload 0, .getfield 21, .iconst 0, .aload 1, .iload 2, .iaload, .iastore, .aload 0, .getfield 21, .iconst 1, .iload 3, .iastore, .aload 0, .getfield 21, .iconst 2, .aload 1, .iconst 72, .iload 2, .iadd, .iaload, .iastore, .aload 0, .getfield 21, .iconst 3, .aload 0, .aload 1, .iconst 109, .iaload, .invokestatic 31, .iastore, .aload 0, .getfield 21, .iconst 4, .aload 1, .iconst 109, .iaload, .iconst 7, .irem, .iastore, .aload 0, .getfield 21, .iconst 5, .iload 2, .aload 0, .getfield 4, .idiv, .iastore, .aload 0, .getfield 21, .iconst 6, .iload 2, .aload 0, .getfield 4, .irem, .iastore, .aload 0, .invokestatic 32, .ireturn] := rfl
theorem am_30 : aP.2.1 30 = (1920, 4, 4, 3, some 0, none) := rfl
theorem ae_31 : aP.1 (aP.2.1 31).1 = [.aload 0, .getfield 7, .iload 1, .aload 0, .getfield 6, .irem, .iaload, .ireturn] := rfl
theorem al_1984 : aP.1 (Int.toNat 1984) = [.aload 0, .getfield 7, .iload 1, .aload 0, .getfield 6, .irem, .iaload, .ireturn] := rfl
theorem am_31 : aP.2.1 31 = (1984, 2, 2, 0, some 0, none) := rfl
theorem ae_32 : aP.1 (aP.2.1 32).1 = [.iconst 0, .istore 1, .iconst 0, .istore 2, .jsr 2049] := rfl
theorem al_2048 : aP.1 (Int.toNat 2048) = [.iconst 0, .istore 1, .iconst 0, .istore 2, .jsr 2049] := rfl
theorem al_2049 : aP.1 (Int.toNat 2049) = [.iload 2, .aload 0, .getfield 18, .if_icmp .ge 2055, .aload 0, .getfield 16, .iload 2, .iaload, .istore 3, .iload 3, .iconst 3000, .if_icmp .ne 2050, .aload 0, .getfield 20, .iload 1, .iconst 1, .isub, .aload 0, .getfield 20, .iload 1, .iconst 1, .isub, .iaload, .ineg, .iastore, .goto 2054] := rfl
theorem al_2050 : aP.1 (Int.toNat 2050) = [.iload 3, .iconst 2000, .if_icmp .lt 2051, .iinc 1 (-1), .aload 0, .getfield 20, .iload 1, .iconst 1, .isub, .iload 3, .iconst 2000, .isub, .aload 0, .getfield 20, .iload 1, .iconst 1, .isub, .iaload, .aload 0, .getfield 20, .iload 1, .iaload, .invokestatic 33, .iastore, .goto 2054] := rfl
theorem al_2051 : aP.1 (Int.toNat 2051) = [.aload 0, .getfield 20, .iload 1, .iload 3, .iconst 1000, .if_icmp .lt 2052, .aload 0, .getfield 21, .iload 3, .iconst 1000, .isub, .iaload, .goto 2053] := rfl
theorem al_2052 : aP.1 (Int.toNat 2052) = [.iload 3, .jsr 2053] := rfl
theorem al_2053 : aP.1 (Int.toNat 2053) = [.iastore, .iinc 1 (1), .jsr 2054] := rfl
theorem al_2054 : aP.1 (Int.toNat 2054) = [.iinc 2 (1), .goto 2049] := rfl
theorem al_2055 : aP.1 (Int.toNat 2055) = [.aload 0, .getfield 18, .ifCond .ne 2056, .aload 0, .getfield 21, .iconst 0, .iaload, .iconst 2, .aload 0, .getfield 21, .iconst 1, .iaload, .imul, .iadd, .aload 0, .getfield 21, .iconst 2, .iaload, .isub, .goto 2057] := rfl
theorem al_2056 : aP.1 (Int.toNat 2056) = [.aload 0, .getfield 20, .iconst 0, .iaload, .jsr 2057] := rfl
theorem al_2057 : aP.1 (Int.toNat 2057) = [.ireturn] := rfl
theorem am_32 : aP.2.1 32 = (2048, 1, 4, 2, some 0, none) := rfl
theorem ae_33 : aP.1 (aP.2.1 33).1 = [.iload 0, .tableswitch 2125 (0) (5) #[2113, 2116, 2119, 2122, 2123, 2124]] := rfl
theorem al_2112 : aP.1 (Int.toNat 2112) = [.iload 0, .tableswitch 2125 (0) (5) #[2113, 2116, 2119, 2122, 2123, 2124]] := rfl
theorem al_2113 : aP.1 (Int.toNat 2113) = [.iload 1, .iload 2, .if_icmp .ge 2114, .iconst 1, .goto 2115] := rfl
theorem al_2114 : aP.1 (Int.toNat 2114) = [.iconst 0, .jsr 2115] := rfl
theorem al_2115 : aP.1 (Int.toNat 2115) = [.invokestatic 17, .ireturn] := rfl
theorem al_2116 : aP.1 (Int.toNat 2116) = [.iload 1, .iload 2, .if_icmp .le 2117, .iconst 1, .goto 2118] := rfl
theorem al_2117 : aP.1 (Int.toNat 2117) = [.iconst 0, .jsr 2118] := rfl
theorem al_2118 : aP.1 (Int.toNat 2118) = [.invokestatic 17, .ireturn] := rfl
theorem al_2119 : aP.1 (Int.toNat 2119) = [.iload 1, .iload 2, .if_icmp .ne 2120, .iconst 1, .goto 2121] := rfl
theorem al_2120 : aP.1 (Int.toNat 2120) = [.iconst 0, .jsr 2121] := rfl
theorem al_2121 : aP.1 (Int.toNat 2121) = [.invokestatic 17, .ireturn] := rfl
theorem al_2122 : aP.1 (Int.toNat 2122) = [.iload 1, .iload 2, .iadd, .ireturn] := rfl
theorem al_2123 : aP.1 (Int.toNat 2123) = [.iload 1, .iload 2, .isub, .ireturn] := rfl
theorem al_2124 : aP.1 (Int.toNat 2124) = [.iload 1, .iload 2, .imul, .ireturn] := rfl
theorem al_2125 : aP.1 (Int.toNat 2125) = [.iload 2, .ifCond .ne 2126, .iconst 0, .goto 2127] := rfl
theorem al_2126 : aP.1 (Int.toNat 2126) = [.iload 1, .iload 2, .idiv, .jsr 2127] := rfl
theorem al_2127 : aP.1 (Int.toNat 2127) = [.ireturn] := rfl
theorem am_33 : aP.2.1 33 = (2112, 3, 3, 1, none, none) := rfl
theorem ae_34 : aP.1 (aP.2.1 34).1 = [.aload 0, .iconst 0, .putfield 0, .aload 0, .iload 1, .invokestatic 23, .ifCond .eq 2177, .iload 2, .i2l, .ldc2_w 16, .ldc2_w 17, .invokestatic 4, .ifCond .ne 2178, .jsr 2177] := rfl
theorem al_2176 : aP.1 (Int.toNat 2176) = [.aload 0, .iconst 0, .putfield 0, .aload 0, .iload 1, .invokestatic 23, .ifCond .eq 2177, .iload 2, .i2l, .ldc2_w 16, .ldc2_w 17, .invokestatic 4, .ifCond .ne 2178, .jsr 2177] := rfl
theorem al_2177 : aP.1 (Int.toNat 2177) = [.aload 0, .invokestatic 24, .ireturn] := rfl
theorem al_2178 : aP.1 (Int.toNat 2178) = [.aload 0, .aload 0, .getfield 8, .iload 1, .iload 2, .invokestatic 30, .ireturn] := rfl
theorem am_34 : aP.2.1 34 = (2176, 3, 3, 4, some 0, none) := rfl
theorem ae_35 : aP.1 (aP.2.1 35).1 = [.aload 0, .iconst 0, .putfield 0, .iload 1, .i2l, .ldc2_w 16, .ldc2_w 19, .invokestatic 4, .ifCond .eq 2241, .iload 2, .iconst 36, .if_icmp .le 2242, .jsr 2241] := rfl
theorem al_2240 : aP.1 (Int.toNat 2240) = [.aload 0, .iconst 0, .putfield 0, .iload 1, .i2l, .ldc2_w 16, .ldc2_w 19, .invokestatic 4, .ifCond .eq 2241, .iload 2, .iconst 36, .if_icmp .le 2242, .jsr 2241] := rfl
theorem al_2241 : aP.1 (Int.toNat 2241) = [.iconst (-1), .ireturn] := rfl
theorem al_2242 : aP.1 (Int.toNat 2242) = [.iload 1, .iconst 3, .if_icmp .eq 2243, .iload 2, .ifCond .ge 2243, .iconst (-2), .ireturn] := rfl
theorem al_2243 : aP.1 (Int.toNat 2243) = [.iload 3, .istore 5, .iconst 0, .istore 6, .jsr 2244] := rfl
theorem al_2244 : aP.1 (Int.toNat 2244) = [.iload 6, .aload 0, .invokestatic 10, .if_icmp .ge 2251, .iload 1, .ifCond .ne 2245, .iload 5, .i2b, .goto 2247] := rfl
theorem al_2245 : aP.1 (Int.toNat 2245) = [.iload 1, .iconst 1, .if_icmp .ne 2246, .iload 5, .i2s, .goto 2247] := rfl
theorem al_2246 : aP.1 (Int.toNat 2246) = [.iload 5, .jsr 2247] := rfl
theorem al_2247 : aP.1 (Int.toNat 2247) = [.istore 7, .aload 0, .getfield 8, .iload 6, .iload 1, .iconst 3, .if_icmp .eq 2248, .iload 6, .iload 2, .if_icmp .lt 2249, .jsr 2248] := rfl
theorem al_2248 : aP.1 (Int.toNat 2248) = [.iconst 0, .goto 2250] := rfl
theorem al_2249 : aP.1 (Int.toNat 2249) = [.iconst 0, .iconst 9, .iload 7, .invokedynamic 5, .invokedynamic 6, .jsr 2250] := rfl
theorem al_2250 : aP.1 (Int.toNat 2250) = [.iastore, .iload 5, .iload 4, .iadd, .istore 5, .iinc 6 (1), .goto 2244] := rfl
theorem al_2251 : aP.1 (Int.toNat 2251) = [.iload 1, .iconst 3, .if_icmp .ne 2252, .iconst (-3), .goto 2253] := rfl
theorem al_2252 : aP.1 (Int.toNat 2252) = [.aload 0, .aload 0, .getfield 8, .iconst 0, .invokestatic 36, .jsr 2253] := rfl
theorem al_2253 : aP.1 (Int.toNat 2253) = [.ireturn] := rfl
theorem am_35 : aP.2.1 35 = (2240, 5, 8, 2, some 0, none) := rfl
theorem ae_36 : aP.1 (aP.2.1 36).1 = [.iconst 0, .istore 3, .iconst 0, .istore 4, .jsr 2305] := rfl
theorem al_2304 : aP.1 (Int.toNat 2304) = [.iconst 0, .istore 3, .iconst 0, .istore 4, .jsr 2305] := rfl
theorem al_2305 : aP.1 (Int.toNat 2305) = [.iload 4, .aload 0, .invokestatic 10, .if_icmp .ge 2306, .iload 3, .aload 1, .iload 2, .iload 4, .iadd, .iaload, .iadd, .istore 3, .iinc 4 (1), .goto 2305] := rfl
theorem al_2306 : aP.1 (Int.toNat 2306) = [.iload 3, .ireturn] := rfl
theorem am_36 : aP.2.1 36 = (2304, 3, 5, 1, some 0, none) := rfl
theorem ae_37 : aP.1 (aP.2.1 37).1 = [.aload 0, .iconst 0, .putfield 0, .aload 0, .getfield 26, .ifCond .ne 2369, .iconst (-1), .ireturn] := rfl
theorem al_2368 : aP.1 (Int.toNat 2368) = [.aload 0, .iconst 0, .putfield 0, .aload 0, .getfield 26, .ifCond .ne 2369, .iconst (-1), .ireturn] := rfl
theorem al_2369 : aP.1 (Int.toNat 2369) = [.aload 0, .dup, .getfield 26, .iconst 1, .isub, .putfield 26, .iconst 0, .istore 1, .jsr 2370] := rfl
theorem al_2370 : aP.1 (Int.toNat 2370) = [.iload 1, .iconst 111, .if_icmp .ge 2371, .aload 0, .getfield 8, .iload 1, .aload 0, .getfield 27, .iconst 111, .aload 0, .getfield 26, .imul, .iload 1, .iadd, .iaload, .iastore, .iinc 1 (1), .goto 2370] := rfl
theorem al_2371 : aP.1 (Int.toNat 2371) = [.aload 0, .getfield 26, .ireturn] := rfl
theorem am_37 : aP.2.1 37 = (2368, 1, 2, 0, some 0, none) := rfl
theorem ae_38 : aP.1 (aP.2.1 38).1 = [.aload 0, .iconst 0, .putfield 0, .iload 1, .i2l, .ldc2_w 16, .ldc2_w 76, .invokestatic 4, .ifCond .ne 2433, .iconst (-1), .ireturn] := rfl
theorem al_2432 : aP.1 (Int.toNat 2432) = [.aload 0, .iconst 0, .putfield 0, .iload 1, .i2l, .ldc2_w 16, .ldc2_w 76, .invokestatic 4, .ifCond .ne 2433, .iconst (-1), .ireturn] := rfl
theorem al_2433 : aP.1 (Int.toNat 2433) = [.aload 0, .invokestatic 39, .aload 0, .aload 0, .getfield 8, .iload 1, .invokestatic 40, .istore 2, .aload 0, .iconst 0, .putfield 1, .aload 0, .aload 0, .aload 0, .getfield 8, .iconst 0, .invokestatic 36, .i2l, .invokestatic 43, .aload 0, .aload 0, .aload 0, .getfield 8, .iconst 72, .invokestatic 36, .i2l, .invokestatic 43, .aload 0, .iload 2, .invokestatic 44, .ireturn] := rfl
theorem am_38 : aP.2.1 38 = (2432, 2, 3, 7, some 0, none) := rfl
theorem ae_39 : aP.1 (aP.2.1 39).1 = [.iconst 0, .istore 1, .jsr 2497] := rfl
theorem al_2496 : aP.1 (Int.toNat 2496) = [.iconst 0, .istore 1, .jsr 2497] := rfl
theorem al_2497 : aP.1 (Int.toNat 2497) = [.iload 1, .iconst 111, .if_icmp .ge 2498, .aload 0, .getfield 27, .iconst 111, .aload 0, .getfield 26, .imul, .iload 1, .iadd, .aload 0, .getfield 8, .iload 1, .iaload, .iastore, .iinc 1 (1), .goto 2497] := rfl
theorem al_2498 : aP.1 (Int.toNat 2498) = [.return_] := rfl
theorem am_39 : aP.2.1 39 = (2496, 1, 2, 0, some 0, none) := rfl
theorem ae_40 : aP.1 (aP.2.1 40).1 = [.iconst 0, .istore 3, .iconst 0, .istore 4, .jsr 2561] := rfl
theorem al_2560 : aP.1 (Int.toNat 2560) = [.iconst 0, .istore 3, .iconst 0, .istore 4, .jsr 2561] := rfl
theorem al_2561 : aP.1 (Int.toNat 2561) = [.iload 4, .iload 2, .if_icmp .ge 2564, .aload 0, .aload 1, .invokestatic 41, .iload 3, .aload 0, .getfield 25, .ifCond .ne 2562, .iconst 1, .goto 2563] := rfl
theorem al_2562 : aP.1 (Int.toNat 2562) = [.iconst 0, .jsr 2563] := rfl
theorem al_2563 : aP.1 (Int.toNat 2563) = [.invokestatic 17, .iadd, .istore 3, .iinc 4 (1), .goto 2561] := rfl
theorem al_2564 : aP.1 (Int.toNat 2564) = [.iload 3, .ireturn] := rfl
theorem am_40 : aP.2.1 40 = (2560, 3, 5, 6, some 0, none) := rfl
theorem ae_41 : aP.1 (aP.2.1 41).1 = [.aload 0, .aload 1, .invokestatic 25, .iconst 0, .istore 2, .jsr 2625] := rfl
theorem al_2624 : aP.1 (Int.toNat 2624) = [.aload 0, .aload 1, .invokestatic 25, .iconst 0, .istore 2, .jsr 2625] := rfl
theorem al_2625 : aP.1 (Int.toNat 2625) = [.iload 2, .aload 0, .invokestatic 10, .if_icmp .ge 2630, .aload 0, .getfield 23, .iload 2, .baload, .ifCond .eq 2626, .iconst (-1), .goto 2629] := rfl
theorem al_2626 : aP.1 (Int.toNat 2626) = [.aload 1, .iload 2, .invokestatic 26, .ifCond .ne 2627, .aload 0, .iload 2, .invokestatic 42, .ifCond .eq 2627, .iconst 1, .goto 2628] := rfl
theorem al_2627 : aP.1 (Int.toNat 2627) = [.iconst 0, .jsr 2628] := rfl
theorem al_2628 : aP.1 (Int.toNat 2628) = [.invokestatic 17, .jsr 2629] := rfl
theorem al_2629 : aP.1 (Int.toNat 2629) = [.istore 3, .aload 1, .iload 2, .iconst 0, .iconst 9, .aload 1, .iload 2, .iaload, .iload 3, .iadd, .invokedynamic 5, .invokedynamic 6, .iastore, .aload 1, .iconst 72, .iload 2, .iadd, .aload 0, .getfield 23, .iload 2, .baload, .invokestatic 17, .iastore, .iinc 2 (1), .goto 2625] := rfl
theorem al_2630 : aP.1 (Int.toNat 2630) = [.aload 0, .getfield 25, .ifCond .eq 2631, .aload 1, .iconst 110, .iconst 9999, .aload 1, .iconst 110, .iaload, .iconst 1, .iadd, .invokedynamic 5, .iastore, .aload 0, .getfield 24, .ifCond .le 2631, .aload 0, .getfield 22, .aload 0, .getfield 24, .iconst 1, .isub, .iaload, .istore 2, .aload 1, .iload 2, .iconst 9, .aload 1, .iload 2, .iaload, .iconst 3, .iadd, .invokedynamic 5, .iastore, .jsr 2631] := rfl
theorem al_2631 : aP.1 (Int.toNat 2631) = [.aload 1, .iconst 109, .dup2, .iaload, .iconst 1, .iadd, .iastore, .return_] := rfl
theorem am_41 : aP.2.1 41 = (2624, 2, 4, 5, some 0, none) := rfl
theorem ae_42 : aP.1 (aP.2.1 42).1 = [.iconst 0, .istore 2, .iconst 0, .istore 3, .jsr 2689] := rfl
theorem al_2688 : aP.1 (Int.toNat 2688) = [.iconst 0, .istore 2, .iconst 0, .istore 3, .jsr 2689] := rfl
theorem al_2689 : aP.1 (Int.toNat 2689) = [.iload 3, .iconst 4, .if_icmp .ge 2693, .aload 0, .iload 1, .iload 3, .invokestatic 29, .istore 4, .iload 2, .ifCond .ne 2690, .iload 4, .ifCond .lt 2691, .aload 0, .getfield 23, .iload 4, .baload, .ifCond .eq 2691, .jsr 2690] := rfl
theorem al_2690 : aP.1 (Int.toNat 2690) = [.iconst 1, .goto 2692] := rfl
theorem al_2691 : aP.1 (Int.toNat 2691) = [.iconst 0, .jsr 2692] := rfl
theorem al_2692 : aP.1 (Int.toNat 2692) = [.istore 2, .iinc 3 (1), .goto 2689] := rfl
theorem al_2693 : aP.1 (Int.toNat 2693) = [.iload 2, .freturn] := rfl
theorem am_42 : aP.2.1 42 = (2688, 2, 5, 2, some 0, none) := rfl
theorem ae_43 : aP.1 (aP.2.1 43).1 = [.aload 0, .getfield 2, .aload 0, .getfield 1, .lload 1, .lastore, .aload 0, .dup, .getfield 1, .iconst 1, .iadd, .putfield 1, .return_] := rfl
theorem al_2752 : aP.1 (Int.toNat 2752) = [.aload 0, .getfield 2, .aload 0, .getfield 1, .lload 1, .lastore, .aload 0, .dup, .getfield 1, .iconst 1, .iadd, .putfield 1, .return_] := rfl
theorem am_43 : aP.2.1 43 = (2752, 2, 3, 0, some 0, none) := rfl
theorem ae_44 : aP.1 (aP.2.1 44).1 = [.aload 0, .dup, .getfield 26, .iconst 1, .iadd, .putfield 26, .aload 0, .getfield 26, .iconst 15, .if_icmp .le 2819, .iconst 0, .istore 2, .jsr 2817] := rfl
theorem al_2816 : aP.1 (Int.toNat 2816) = [.aload 0, .dup, .getfield 26, .iconst 1, .iadd, .putfield 26, .aload 0, .getfield 26, .iconst 15, .if_icmp .le 2819, .iconst 0, .istore 2, .jsr 2817] := rfl
theorem al_2817 : aP.1 (Int.toNat 2817) = [.iload 2, .iconst 1665, .if_icmp .ge 2818, .aload 0, .getfield 27, .iload 2, .aload 0, .getfield 27, .iload 2, .iconst 111, .iadd, .iaload, .iastore, .iinc 2 (1), .goto 2817] := rfl
theorem al_2818 : aP.1 (Int.toNat 2818) = [.aload 0, .dup, .getfield 26, .iconst 1, .isub, .putfield 26, .jsr 2819] := rfl
theorem al_2819 : aP.1 (Int.toNat 2819) = [.iload 1, .ireturn] := rfl
theorem am_44 : aP.2.1 44 = (2816, 2, 3, 0, some 0, none) := rfl
theorem ae_45 : aP.1 (aP.2.1 45).1 = [.aload 0, .iconst 0, .putfield 0, .aload 0, .invokestatic 39, .aload 0, .aload 0, .aload 0, .getfield 8, .iload 1, .iload 2, .invokestatic 46, .invokestatic 47, .ireturn] := rfl
theorem al_2880 : aP.1 (Int.toNat 2880) = [.aload 0, .iconst 0, .putfield 0, .aload 0, .invokestatic 39, .aload 0, .aload 0, .aload 0, .getfield 8, .iload 1, .iload 2, .invokestatic 46, .invokestatic 47, .ireturn] := rfl
theorem am_45 : aP.2.1 45 = (2880, 3, 3, 3, some 0, none) := rfl
theorem ae_46 : aP.1 (aP.2.1 46).1 = [.aload 0, .iload 2, .invokestatic 23, .ifCond .eq 2945, .iload 3, .i2l, .ldc2_w 17, .ldc2_w 25, .invokestatic 4, .ifCond .ne 2946, .jsr 2945] := rfl
theorem al_2944 : aP.1 (Int.toNat 2944) = [.aload 0, .iload 2, .invokestatic 23, .ifCond .eq 2945, .iload 3, .i2l, .ldc2_w 17, .ldc2_w 25, .invokestatic 4, .ifCond .ne 2946, .jsr 2945] := rfl
theorem al_2945 : aP.1 (Int.toNat 2945) = [.iconst (-1), .ireturn] := rfl
theorem al_2946 : aP.1 (Int.toNat 2946) = [.aload 1, .iload 2, .iaload, .iload 3, .if_icmp .ge 2947, .iconst (-2), .ireturn] := rfl
theorem al_2947 : aP.1 (Int.toNat 2947) = [.aload 1, .iload 2, .dup2, .iaload, .iload 3, .isub, .iastore, .aload 1, .iload 2, .iaload, .ireturn] := rfl
theorem am_46 : aP.2.1 46 = (2944, 4, 4, 2, some 0, none) := rfl
theorem ae_47 : aP.1 (aP.2.1 47).1 = [.iload 1, .ifCond .ge 3009, .iload 1, .goto 3010] := rfl
theorem al_3008 : aP.1 (Int.toNat 3008) = [.iload 1, .ifCond .ge 3009, .iload 1, .goto 3010] := rfl
theorem al_3009 : aP.1 (Int.toNat 3009) = [.aload 0, .iload 1, .invokestatic 44, .jsr 3010] := rfl
theorem al_3010 : aP.1 (Int.toNat 3010) = [.ireturn] := rfl
theorem am_47 : aP.2.1 47 = (3008, 2, 2, 1, some 0, none) := rfl
theorem ae_48 : aP.1 (aP.2.1 48).1 = [.aload 0, .iconst 0, .putfield 0, .aload 0, .invokestatic 39, .aload 0, .aload 0, .iload 1, .iload 2, .invokestatic 49, .invokestatic 47, .ireturn] := rfl
theorem al_3072 : aP.1 (Int.toNat 3072) = [.aload 0, .iconst 0, .putfield 0, .aload 0, .invokestatic 39, .aload 0, .aload 0, .iload 1, .iload 2, .invokestatic 49, .invokestatic 47, .ireturn] := rfl
theorem am_48 : aP.2.1 48 = (3072, 3, 3, 3, some 0, none) := rfl
theorem ae_49 : aP.1 (aP.2.1 49).1 = [.aload 0, .iload 1, .invokestatic 23, .ifCond .eq 3137, .iload 2, .i2l, .ldc2_w 17, .ldc2_w 25, .invokestatic 4, .ifCond .ne 3138, .jsr 3137] := rfl
theorem al_3136 : aP.1 (Int.toNat 3136) = [.aload 0, .iload 1, .invokestatic 23, .ifCond .eq 3137, .iload 2, .i2l, .ldc2_w 17, .ldc2_w 25, .invokestatic 4, .ifCond .ne 3138, .jsr 3137] := rfl
theorem al_3137 : aP.1 (Int.toNat 3137) = [.iconst (-1), .ireturn] := rfl
theorem al_3138 : aP.1 (Int.toNat 3138) = [.aload 0, .getfield 8, .iload 1, .iaload, .iload 2, .iadd, .iconst 9, .if_icmp .le 3139, .iconst (-3), .ireturn] := rfl
theorem al_3139 : aP.1 (Int.toNat 3139) = [.aload 0, .getfield 8, .iload 1, .dup2, .iaload, .iload 2, .iadd, .iastore, .aload 0, .getfield 8, .iload 1, .iaload, .ireturn] := rfl
theorem am_49 : aP.2.1 49 = (3136, 3, 3, 2, some 0, none) := rfl
theorem ae_50 : aP.1 (aP.2.1 50).1 = [.aload 0, .iconst 0, .putfield 0, .aload 0, .invokestatic 39, .aload 0, .aload 0, .aload 0, .getfield 8, .iload 1, .invokestatic 51, .invokestatic 47, .ireturn] := rfl
theorem al_3200 : aP.1 (Int.toNat 3200) = [.aload 0, .iconst 0, .putfield 0, .aload 0, .invokestatic 39, .aload 0, .aload 0, .aload 0, .getfield 8, .iload 1, .invokestatic 51, .invokestatic 47, .ireturn] := rfl
theorem am_50 : aP.2.1 50 = (3200, 2, 2, 3, some 0, none) := rfl
theorem ae_51 : aP.1 (aP.2.1 51).1 = [.aload 0, .iload 2, .invokestatic 23, .ifCond .ne 3265, .iconst (-1), .ireturn] := rfl
theorem al_3264 : aP.1 (Int.toNat 3264) = [.aload 0, .iload 2, .invokestatic 23, .ifCond .ne 3265, .iconst (-1), .ireturn] := rfl
theorem al_3265 : aP.1 (Int.toNat 3265) = [.aload 1, .iload 2, .invokestatic 26, .ifCond .ne 3266, .aload 0, .aload 1, .iconst 36, .invokestatic 36, .iconst 8, .if_icmp .ne 3266, .iconst (-2), .ireturn] := rfl
theorem al_3266 : aP.1 (Int.toNat 3266) = [.aload 1, .iconst 36, .iload 2, .iadd, .iconst 1, .aload 1, .iconst 36, .iload 2, .iadd, .iaload, .isub, .iastore, .aload 0, .aload 1, .iconst 36, .invokestatic 36, .ireturn] := rfl
theorem am_51 : aP.2.1 51 = (3264, 3, 3, 2, some 0, none) := rfl
theorem ae_52 : aP.1 (aP.2.1 52).1 = [.aload 0, .iconst 0, .putfield 0, .aload 0, .invokestatic 39, .aload 0, .aload 0, .iload 1, .invokestatic 53, .invokestatic 47, .ireturn] := rfl
theorem al_3328 : aP.1 (Int.toNat 3328) = [.aload 0, .iconst 0, .putfield 0, .aload 0, .invokestatic 39, .aload 0, .aload 0, .iload 1, .invokestatic 53, .invokestatic 47, .ireturn] := rfl
theorem am_52 : aP.2.1 52 = (3328, 2, 2, 2, some 0, none) := rfl
theorem ae_53 : aP.1 (aP.2.1 53).1 = [.iload 1, .i2l, .ldc2_w 16, .aload 0, .getfield 4, .iconst 1, .isub, .i2l, .invokestatic 4, .ifCond .ne 3393, .iconst (-1), .ireturn] := rfl
theorem al_3392 : aP.1 (Int.toNat 3392) = [.iload 1, .i2l, .ldc2_w 16, .aload 0, .getfield 4, .iconst 1, .isub, .i2l, .invokestatic 4, .ifCond .ne 3393, .iconst (-1), .ireturn] := rfl
theorem al_3393 : aP.1 (Int.toNat 3393) = [.aload 0, .getfield 8, .iconst 108, .iaload, .istore 2, .aload 0, .getfield 8, .iconst 108, .iload 1, .iastore, .iload 2, .iload 1, .if_icmp .ne 3394, .iconst (-2), .goto 3395] := rfl
theorem al_3394 : aP.1 (Int.toNat 3394) = [.iload 2, .jsr 3395] := rfl
theorem al_3395 : aP.1 (Int.toNat 3395) = [.ireturn] := rfl
theorem am_53 : aP.2.1 53 = (3392, 2, 3, 1, some 0, none) := rfl
theorem ae_54 : aP.1 (aP.2.1 54).1 = [.aload 0, .iconst 0, .putfield 0, .aload 0, .iconst 60, .invokestatic 6, .istore 1, .aload 0, .iconst 0, .putfield 32, .iconst 1, .istore 2, .jsr 3457] := rfl
theorem al_3456 : aP.1 (Int.toNat 3456) = [.aload 0, .iconst 0, .putfield 0, .aload 0, .iconst 60, .invokestatic 6, .istore 1, .aload 0, .iconst 0, .putfield 32, .iconst 1, .istore 2, .jsr 3457] := rfl
theorem al_3457 : aP.1 (Int.toNat 3457) = [.iload 2, .ifCond .eq 3458, .aload 0, .getfield 12, .aload 0, .getfield 13, .if_icmp .ge 3458, .aload 0, .invokestatic 55, .istore 2, .goto 3457] := rfl
theorem al_3458 : aP.1 (Int.toNat 3458) = [.aload 0, .iload 1, .iconst 60, .iload 2, .invokestatic 20, .istore 3, .iload 3, .ifCond .ge 3459, .iload 3, .ireturn] := rfl
theorem al_3459 : aP.1 (Int.toNat 3459) = [.aload 0, .invokestatic 39, .iconst 0, .istore 4, .jsr 3460] := rfl
theorem al_3460 : aP.1 (Int.toNat 3460) = [.iload 4, .aload 0, .getfield 32, .if_icmp .ge 3461, .aload 0, .iload 4, .invokestatic 56, .ifCond .eq 3461, .iinc 4 (1), .goto 3460] := rfl
theorem al_3461 : aP.1 (Int.toNat 3461) = [.aload 0, .iconst 0, .putfield 1, .aload 0, .iload 4, .aload 0, .getfield 32, .if_icmp .ge 3462, .iconst 1, .goto 3463] := rfl
theorem al_3462 : aP.1 (Int.toNat 3462) = [.iconst 0, .jsr 3463] := rfl
theorem al_3463 : aP.1 (Int.toNat 3463) = [.invokestatic 17, .i2l, .invokestatic 43, .aload 0, .aload 0, .getfield 8, .iconst 109, .iaload, .i2l, .invokestatic 43, .iload 4, .ifCond .le 3464, .aload 0, .iload 4, .invokestatic 44, .goto 3465] := rfl
theorem al_3464 : aP.1 (Int.toNat 3464) = [.iconst 0, .jsr 3465] := rfl
theorem al_3465 : aP.1 (Int.toNat 3465) = [.ireturn] := rfl
theorem am_54 : aP.2.1 54 = (3456, 1, 5, 8, some 0, none) := rfl
theorem ae_55 : aP.1 (aP.2.1 55).1 = [.aload 0, .getfield 32, .istore 1, .aload 0, .getfield 28, .iload 1, .aload 0, .ldc 7, .invokestatic 19, .iastore, .aload 0, .dup, .getfield 32, .iconst 1, .iadd, .putfield 32, .aload 0, .getfield 28, .iload 1, .iaload, .ifCond .ge 3521, .iconst 0, .freturn] := rfl
theorem al_3520 : aP.1 (Int.toNat 3520) = [.aload 0, .getfield 32, .istore 1, .aload 0, .getfield 28, .iload 1, .aload 0, .ldc 7, .invokestatic 19, .iastore, .aload 0, .dup, .getfield 32, .iconst 1, .iadd, .putfield 32, .aload 0, .getfield 28, .iload 1, .iaload, .ifCond .ge 3521, .iconst 0, .freturn] := rfl
theorem al_3521 : aP.1 (Int.toNat 3521) = [.aload 0, .getfield 29, .iload 1, .aload 0, .iconst 1, .invokestatic 8, .iastore, .aload 0, .getfield 29, .iload 1, .iaload, .ifCond .lt 3522, .aload 0, .getfield 28, .iload 1, .iaload, .iconst 2, .if_icmp .ge 3525, .jsr 3522] := rfl
theorem al_3522 : aP.1 (Int.toNat 3522) = [.aload 0, .getfield 29, .iload 1, .iaload, .ifCond .lt 3523, .iconst 1, .goto 3524] := rfl
theorem al_3523 : aP.1 (Int.toNat 3523) = [.iconst 0, .jsr 3524] := rfl
theorem al_3524 : aP.1 (Int.toNat 3524) = [.freturn] := rfl
theorem al_3525 : aP.1 (Int.toNat 3525) = [.aload 0, .getfield 30, .iload 1, .aload 0, .iconst 1, .invokestatic 8, .iastore, .aload 0, .getfield 30, .iload 1, .iaload, .ifCond .lt 3526, .aload 0, .getfield 28, .iload 1, .iaload, .iconst 4, .if_icmp .ne 3529, .jsr 3526] := rfl
theorem al_3526 : aP.1 (Int.toNat 3526) = [.aload 0, .getfield 30, .iload 1, .iaload, .ifCond .lt 3527, .iconst 1, .goto 3528] := rfl
theorem al_3527 : aP.1 (Int.toNat 3527) = [.iconst 0, .jsr 3528] := rfl
theorem al_3528 : aP.1 (Int.toNat 3528) = [.freturn] := rfl
theorem al_3529 : aP.1 (Int.toNat 3529) = [.aload 0, .getfield 31, .iload 1, .aload 0, .iconst 1, .iconst 9, .invokestatic 7, .iastore, .aload 0, .getfield 31, .iload 1, .iaload, .ifCond .lt 3530, .iconst 1, .goto 3531] := rfl
theorem al_3530 : aP.1 (Int.toNat 3530) = [.iconst 0, .jsr 3531] := rfl
theorem al_3531 : aP.1 (Int.toNat 3531) = [.freturn] := rfl
theorem am_55 : aP.2.1 55 = (3520, 1, 2, 3, some 0, none) := rfl
theorem ae_56 : aP.1 (aP.2.1 56).1 = [.aload 0, .getfield 29, .iload 1, .iaload, .istore 2, .iload 2, .aload 0, .getfield 3, .if_icmp .ge 3585, .aload 0, .getfield 30, .iload 1, .iaload, .aload 0, .getfield 4, .if_icmp .ge 3585, .aload 0, .getfield 4, .iload 2, .imul, .aload 0, .getfield 30, .iload 1, .iaload, .iadd, .goto 3586] := rfl
theorem al_3584 : aP.1 (Int.toNat 3584) = [.aload 0, .getfield 29, .iload 1, .iaload, .istore 2, .iload 2, .aload 0, .getfield 3, .if_icmp .ge 3585, .aload 0, .getfield 30, .iload 1, .iaload, .aload 0, .getfield 4, .if_icmp .ge 3585, .aload 0, .getfield 4, .iload 2, .imul, .aload 0, .getfield 30, .iload 1, .iaload, .iadd, .goto 3586] := rfl
theorem al_3585 : aP.1 (Int.toNat 3585) = [.iconst (-1), .jsr 3586] := rfl
theorem al_3586 : aP.1 (Int.toNat 3586) = [.istore 3, .aload 0, .getfield 28, .iload 1, .iaload, .tableswitch 3597 (0) (3) #[3587, 3588, 3591, 3594]] := rfl
theorem al_3587 : aP.1 (Int.toNat 3587) = [.aload 0, .aload 0, .getfield 8, .iload 2, .invokestatic 40, .pop, .iconst 1, .freturn] := rfl
theorem al_3588 : aP.1 (Int.toNat 3588) = [.aload 0, .iload 2, .invokestatic 53, .ifCond .lt 3589, .iconst 1, .goto 3590] := rfl
theorem al_3589 : aP.1 (Int.toNat 3589) = [.iconst 0, .jsr 3590] := rfl
theorem al_3590 : aP.1 (Int.toNat 3590) = [.freturn] := rfl
theorem al_3591 : aP.1 (Int.toNat 3591) = [.aload 0, .aload 0, .getfield 8, .iload 3, .aload 0, .getfield 31, .iload 1, .iaload, .invokestatic 46, .ifCond .lt 3592, .iconst 1, .goto 3593] := rfl
theorem al_3592 : aP.1 (Int.toNat 3592) = [.iconst 0, .jsr 3593] := rfl
theorem al_3593 : aP.1 (Int.toNat 3593) = [.freturn] := rfl
theorem al_3594 : aP.1 (Int.toNat 3594) = [.aload 0, .iload 3, .aload 0, .getfield 31, .iload 1, .iaload, .invokestatic 49, .ifCond .lt 3595, .iconst 1, .goto 3596] := rfl
theorem al_3595 : aP.1 (Int.toNat 3595) = [.iconst 0, .jsr 3596] := rfl
theorem al_3596 : aP.1 (Int.toNat 3596) = [.freturn] := rfl
theorem al_3597 : aP.1 (Int.toNat 3597) = [.aload 0, .aload 0, .getfield 8, .iload 3, .invokestatic 51, .ifCond .lt 3598, .iconst 1, .goto 3599] := rfl
theorem al_3598 : aP.1 (Int.toNat 3598) = [.iconst 0, .jsr 3599] := rfl
theorem al_3599 : aP.1 (Int.toNat 3599) = [.freturn] := rfl
theorem am_56 : aP.2.1 56 = (3584, 2, 4, 7, some 0, none) := rfl
theorem ae_57 : aP.1 (aP.2.1 57).1 = [.aload 0, .iconst 0, .putfield 0, .aload 0, .aload 0, .getfield 8, .invokestatic 25, .aload 0, .iconst 0, .putfield 1, .iconst 0, .istore 1, .jsr 3649] := rfl
theorem al_3648 : aP.1 (Int.toNat 3648) = [.aload 0, .iconst 0, .putfield 0, .aload 0, .aload 0, .getfield 8, .invokestatic 25, .aload 0, .iconst 0, .putfield 1, .iconst 0, .istore 1, .jsr 3649] := rfl
theorem al_3649 : aP.1 (Int.toNat 3649) = [.iload 1, .aload 0, .getfield 24, .if_icmp .ge 3650, .aload 0, .aload 0, .getfield 22, .iload 1, .iaload, .i2l, .invokestatic 43, .iinc 1 (1), .goto 3649] := rfl
theorem al_3650 : aP.1 (Int.toNat 3650) = [.aload 0, .invokestatic 58, .ireturn] := rfl
theorem am_57 : aP.2.1 57 = (3648, 1, 2, 5, some 0, none) := rfl
theorem ae_58 : aP.1 (aP.2.1 58).1 = [.aload 0, .getfield 25, .ifCond .eq 3713, .iconst (-2), .goto 3714] := rfl
theorem al_3712 : aP.1 (Int.toNat 3712) = [.aload 0, .getfield 25, .ifCond .eq 3713, .iconst (-2), .goto 3714] := rfl
theorem al_3713 : aP.1 (Int.toNat 3713) = [.aload 0, .getfield 22, .aload 0, .getfield 24, .iconst 1, .isub, .iaload, .aload 0, .getfield 4, .irem, .jsr 3714] := rfl
theorem al_3714 : aP.1 (Int.toNat 3714) = [.ireturn] := rfl
theorem am_58 : aP.2.1 58 = (3712, 1, 1, 0, some 0, none) := rfl
theorem ae_59 : aP.1 (aP.2.1 59).1 = [.aload 0, .iconst 0, .putfield 0, .iload 1, .i2l, .ldc2_w 16, .ldc2_w 115, .invokestatic 4, .ifCond .ne 3777, .iconst (-1), .ireturn] := rfl
theorem al_3776 : aP.1 (Int.toNat 3776) = [.aload 0, .iconst 0, .putfield 0, .iload 1, .i2l, .ldc2_w 16, .ldc2_w 115, .invokestatic 4, .ifCond .ne 3777, .iconst (-1), .ireturn] := rfl
theorem al_3777 : aP.1 (Int.toNat 3777) = [.aload 0, .invokestatic 60, .aload 0, .aload 0, .getfield 9, .iload 1, .invokestatic 40, .pop, .aload 0, .aload 0, .getfield 9, .invokestatic 25, .aload 0, .iconst 0, .putfield 1, .aload 0, .aload 0, .getfield 24, .i2l, .invokestatic 43, .aload 0, .aload 0, .aload 0, .getfield 9, .iconst 0, .invokestatic 36, .i2l, .invokestatic 43, .aload 0, .invokestatic 58, .ireturn] := rfl
theorem am_59 : aP.2.1 59 = (3776, 2, 2, 7, some 0, none) := rfl
theorem ae_60 : aP.1 (aP.2.1 60).1 = [.iconst 0, .istore 1, .jsr 3841] := rfl
theorem al_3840 : aP.1 (Int.toNat 3840) = [.iconst 0, .istore 1, .jsr 3841] := rfl
theorem al_3841 : aP.1 (Int.toNat 3841) = [.iload 1, .iconst 111, .if_icmp .ge 3842, .aload 0, .getfield 9, .iload 1, .aload 0, .getfield 8, .iload 1, .iaload, .iastore, .iinc 1 (1), .goto 3841] := rfl
theorem al_3842 : aP.1 (Int.toNat 3842) = [.return_] := rfl
theorem am_60 : aP.2.1 60 = (3840, 1, 2, 0, some 0, none) := rfl
theorem ae_61 : aP.1 (aP.2.1 61).1 = [.aload 0, .iconst 0, .putfield 0, .aload 0, .invokestatic 60, .iconst 0, .istore 1, .jsr 3905] := rfl
theorem al_3904 : aP.1 (Int.toNat 3904) = [.aload 0, .iconst 0, .putfield 0, .aload 0, .invokestatic 60, .iconst 0, .istore 1, .jsr 3905] := rfl
theorem al_3905 : aP.1 (Int.toNat 3905) = [.iload 1, .iconst 99, .if_icmp .gt 3909, .aload 0, .aload 0, .getfield 9, .invokestatic 25, .aload 0, .getfield 25, .ifCond .eq 3908, .aload 0, .iconst 0, .putfield 1, .aload 0, .aload 0, .getfield 24, .ifCond .ne 3906, .ldc2_w 15, .goto 3907] := rfl
theorem al_3906 : aP.1 (Int.toNat 3906) = [.aload 0, .getfield 22, .aload 0, .getfield 24, .iconst 1, .isub, .iaload, .i2l, .jsr 3907] := rfl
theorem al_3907 : aP.1 (Int.toNat 3907) = [.invokestatic 43, .iload 1, .ireturn] := rfl
theorem al_3908 : aP.1 (Int.toNat 3908) = [.aload 0, .aload 0, .getfield 9, .invokestatic 41, .iinc 1 (1), .goto 3905] := rfl
theorem al_3909 : aP.1 (Int.toNat 3909) = [.iconst (-2), .ireturn] := rfl
theorem am_61 : aP.2.1 61 = (3904, 1, 2, 6, some 0, none) := rfl
theorem ae_62 : aP.1 (aP.2.1 62).1 = [.aload 0, .iconst 0, .putfield 0, .iload 1, .i2l, .ldc2_w 17, .ldc2_w 115, .invokestatic 4, .ifCond .ne 3969, .iconst (-1), .ireturn] := rfl
theorem al_3968 : aP.1 (Int.toNat 3968) = [.aload 0, .iconst 0, .putfield 0, .iload 1, .i2l, .ldc2_w 17, .ldc2_w 115, .invokestatic 4, .ifCond .ne 3969, .iconst (-1), .ireturn] := rfl
theorem al_3969 : aP.1 (Int.toNat 3969) = [.aload 0, .invokestatic 60, .aload 0, .aload 0, .getfield 9, .invokestatic 25, .aload 0, .invokestatic 63, .iconst 0, .istore 2, .jsr 3970] := rfl
theorem al_3970 : aP.1 (Int.toNat 3970) = [.iload 2, .iload 1, .if_icmp .ge 3972, .aload 0, .aload 0, .getfield 9, .invokestatic 25, .aload 0, .invokestatic 64, .ifCond .ne 3971, .aload 0, .iconst 0, .putfield 1, .aload 0, .aload 0, .invokestatic 58, .i2l, .invokestatic 43, .iload 2, .ireturn] := rfl
theorem al_3971 : aP.1 (Int.toNat 3971) = [.aload 0, .aload 0, .getfield 9, .invokestatic 41, .iinc 2 (1), .goto 3970] := rfl
theorem al_3972 : aP.1 (Int.toNat 3972) = [.iconst (-2), .ireturn] := rfl
theorem am_62 : aP.2.1 62 = (3968, 2, 3, 6, some 0, none) := rfl
theorem ae_63 : aP.1 (aP.2.1 63).1 = [.aload 0, .aload 0, .getfield 24, .putfield 34, .iconst 0, .istore 1, .jsr 4033] := rfl
theorem al_4032 : aP.1 (Int.toNat 4032) = [.aload 0, .aload 0, .getfield 24, .putfield 34, .iconst 0, .istore 1, .jsr 4033] := rfl
theorem al_4033 : aP.1 (Int.toNat 4033) = [.iload 1, .aload 0, .getfield 24, .if_icmp .ge 4034, .aload 0, .getfield 33, .iload 1, .aload 0, .getfield 22, .iload 1, .iaload, .iastore, .iinc 1 (1), .goto 4033] := rfl
theorem al_4034 : aP.1 (Int.toNat 4034) = [.return_] := rfl
theorem am_63 : aP.2.1 63 = (4032, 1, 2, 0, some 0, none) := rfl
theorem ae_64 : aP.1 (aP.2.1 64).1 = [.aload 0, .getfield 34, .aload 0, .getfield 24, .if_icmp .ne 4097, .iconst 1, .goto 4098] := rfl
theorem al_4096 : aP.1 (Int.toNat 4096) = [.aload 0, .getfield 34, .aload 0, .getfield 24, .if_icmp .ne 4097, .iconst 1, .goto 4098] := rfl
theorem al_4097 : aP.1 (Int.toNat 4097) = [.iconst 0, .jsr 4098] := rfl
theorem al_4098 : aP.1 (Int.toNat 4098) = [.istore 1, .iconst 0, .istore 2, .jsr 4099] := rfl
theorem al_4099 : aP.1 (Int.toNat 4099) = [.iload 2, .aload 0, .getfield 24, .if_icmp .ge 4102, .iload 1, .ifCond .eq 4102, .aload 0, .getfield 33, .iload 2, .iaload, .aload 0, .getfield 22, .iload 2, .iaload, .if_icmp .ne 4100, .iconst 1, .goto 4101] := rfl
theorem al_4100 : aP.1 (Int.toNat 4100) = [.iconst 0, .jsr 4101] := rfl
theorem al_4101 : aP.1 (Int.toNat 4101) = [.istore 1, .iinc 2 (1), .goto 4099] := rfl
theorem al_4102 : aP.1 (Int.toNat 4102) = [.iload 1, .freturn] := rfl
theorem am_64 : aP.2.1 64 = (4096, 1, 3, 0, some 0, none) := rfl
theorem ae_65 : aP.1 (aP.2.1 65).1 = [.aload 0, .iconst 0, .putfield 0, .iload 1, .i2l, .ldc2_w 17, .ldc2_w 115, .invokestatic 4, .ifCond .ne 4161, .iconst (-1), .ireturn] := rfl
theorem al_4160 : aP.1 (Int.toNat 4160) = [.aload 0, .iconst 0, .putfield 0, .iload 1, .i2l, .ldc2_w 17, .ldc2_w 115, .invokestatic 4, .ifCond .ne 4161, .iconst (-1), .ireturn] := rfl
theorem al_4161 : aP.1 (Int.toNat 4161) = [.aload 0, .invokestatic 60, .iconst 0, .istore 2, .iconst 0, .istore 3, .iconst 0, .istore 4, .jsr 4162] := rfl
theorem al_4162 : aP.1 (Int.toNat 4162) = [.iload 4, .aload 0, .getfield 4, .if_icmp .ge 4163, .aload 0, .getfield 35, .iload 4, .iconst 0, .iastore, .iinc 4 (1), .goto 4162] := rfl
theorem al_4163 : aP.1 (Int.toNat 4163) = [.iconst 0, .istore 4, .jsr 4164] := rfl
theorem al_4164 : aP.1 (Int.toNat 4164) = [.iload 4, .iload 1, .if_icmp .ge 4166, .aload 0, .aload 0, .getfield 9, .invokestatic 41, .iload 2, .aload 0, .getfield 25, .invokestatic 17, .iadd, .istore 2, .aload 0, .getfield 25, .ifCond .ne 4165, .aload 0, .getfield 35, .aload 0, .invokestatic 58, .dup2, .iaload, .iconst 1, .iadd, .iastore, .iload 3, .iconst 1, .aload 0, .invokestatic 58, .ishl, .ior, .istore 3, .jsr 4165] := rfl
theorem al_4165 : aP.1 (Int.toNat 4165) = [.iinc 4 (1), .goto 4164] := rfl
theorem al_4166 : aP.1 (Int.toNat 4166) = [.aload 0, .iconst 0, .putfield 1, .iconst 0, .istore 4, .jsr 4167] := rfl
theorem al_4167 : aP.1 (Int.toNat 4167) = [.iload 4, .aload 0, .getfield 4, .if_icmp .ge 4168, .aload 0, .aload 0, .getfield 35, .iload 4, .iaload, .i2l, .invokestatic 43, .iinc 4 (1), .goto 4167] := rfl
theorem al_4168 : aP.1 (Int.toNat 4168) = [.aload 0, .iload 2, .i2l, .invokestatic 43, .iload 3, .ireturn] := rfl
theorem am_65 : aP.2.1 65 = (4160, 2, 5, 6, some 0, none) := rfl
theorem ae_66 : aP.1 (aP.2.1 66).1 = [.aload 0, .iconst 0, .putfield 0, .iload 1, .i2l, .ldc2_w 17, .ldc2_w 115, .invokestatic 4, .ifCond .ne 4225, .ldc2_w 15, .lreturn] := rfl
theorem al_4224 : aP.1 (Int.toNat 4224) = [.aload 0, .iconst 0, .putfield 0, .iload 1, .i2l, .ldc2_w 17, .ldc2_w 115, .invokestatic 4, .ifCond .ne 4225, .ldc2_w 15, .lreturn] := rfl
theorem al_4225 : aP.1 (Int.toNat 4225) = [.aload 0, .invokestatic 60, .ldc2_w 17, .aload 0, .invokestatic 10, .lshl, .ldc2_w 17, .lsub, .lstore 2, .ldc2_w 16, .lstore 4, .iconst 0, .istore 6, .jsr 4226] := rfl
theorem al_4226 : aP.1 (Int.toNat 4226) = [.iload 6, .iload 1, .if_icmp .ge 4227, .aload 0, .aload 0, .getfield 9, .invokestatic 41, .lload 2, .aload 0, .invokestatic 67, .land, .lstore 2, .lload 4, .aload 0, .invokestatic 67, .lor, .lstore 4, .iinc 6 (1), .goto 4226] := rfl
theorem al_4227 : aP.1 (Int.toNat 4227) = [.ldc2_w 17, .aload 0, .invokestatic 10, .lshl, .ldc2_w 17, .lsub, .lload 4, .ldc2_w 15, .lxor, .land, .lstore 6, .aload 0, .iconst 0, .putfield 1, .aload 0, .lload 6, .invokestatic 122, .i2l, .invokestatic 43, .aload 0, .lload 2, .invokestatic 122, .i2l, .invokestatic 43, .lload 6, .lreturn] := rfl
theorem am_66 : aP.2.1 66 = (4224, 2, 8, 6, some 0, none) := rfl
theorem ae_67 : aP.1 (aP.2.1 67).1 = [.ldc2_w 16, .lstore 1, .iconst 0, .istore 3, .jsr 4289] := rfl
theorem al_4288 : aP.1 (Int.toNat 4288) = [.ldc2_w 16, .lstore 1, .iconst 0, .istore 3, .jsr 4289] := rfl
theorem al_4289 : aP.1 (Int.toNat 4289) = [.iload 3, .aload 0, .invokestatic 10, .if_icmp .ge 4292, .lload 1, .aload 0, .getfield 23, .iload 3, .baload, .ifCond .eq 4290, .ldc2_w 17, .iload 3, .lshl, .goto 4291] := rfl
theorem al_4290 : aP.1 (Int.toNat 4290) = [.ldc2_w 16, .jsr 4291] := rfl
theorem al_4291 : aP.1 (Int.toNat 4291) = [.lor, .lstore 1, .iinc 3 (1), .goto 4289] := rfl
theorem al_4292 : aP.1 (Int.toNat 4292) = [.lload 1, .lreturn] := rfl
theorem am_67 : aP.2.1 67 = (4288, 1, 4, 1, some 0, none) := rfl
theorem ae_68 : aP.1 (aP.2.1 68).1 = [.aload 0, .iconst 0, .putfield 0, .iload 1, .i2l, .ldc2_w 16, .aload 0, .getfield 4, .iconst 1, .isub, .i2l, .invokestatic 4, .ifCond .eq 4353, .aload 0, .iload 1, .invokestatic 69, .goto 4354] := rfl
theorem al_4352 : aP.1 (Int.toNat 4352) = [.aload 0, .iconst 0, .putfield 0, .iload 1, .i2l, .ldc2_w 16, .aload 0, .getfield 4, .iconst 1, .isub, .i2l, .invokestatic 4, .ifCond .eq 4353, .aload 0, .iload 1, .invokestatic 69, .goto 4354] := rfl
theorem al_4353 : aP.1 (Int.toNat 4353) = [.iconst (-1), .jsr 4354] := rfl
theorem al_4354 : aP.1 (Int.toNat 4354) = [.ireturn] := rfl
theorem am_68 : aP.2.1 68 = (4352, 2, 2, 7, some 0, none) := rfl
theorem ae_69 : aP.1 (aP.2.1 69).1 = [.iconst 0, .istore 2, .jsr 4417] := rfl
theorem al_4416 : aP.1 (Int.toNat 4416) = [.iconst 0, .istore 2, .jsr 4417] := rfl
theorem al_4417 : aP.1 (Int.toNat 4417) = [.iload 2, .iconst 3, .if_icmp .gt 4421, .aload 0, .invokestatic 60, .aload 0, .iconst 0, .iload 2, .iconst 0, .iload 1, .invokestatic 70, .ifCond .eq 4420, .aload 0, .iconst 0, .putfield 1, .iconst 0, .istore 3, .jsr 4418] := rfl
theorem al_4418 : aP.1 (Int.toNat 4418) = [.iload 3, .iload 2, .if_icmp .ge 4419, .aload 0, .aload 0, .getfield 36, .iload 3, .iaload, .i2l, .invokestatic 43, .iinc 3 (1), .goto 4418] := rfl
theorem al_4419 : aP.1 (Int.toNat 4419) = [.iload 2, .ireturn] := rfl
theorem al_4420 : aP.1 (Int.toNat 4420) = [.iinc 2 (1), .goto 4417] := rfl
theorem al_4421 : aP.1 (Int.toNat 4421) = [.iconst (-2), .ireturn] := rfl
theorem am_69 : aP.2.1 69 = (4416, 2, 4, 6, some 0, none) := rfl
theorem ae_70 : aP.1 (aP.2.1 70).1 = [.iload 1, .iload 2, .if_icmp .ne 4483, .aload 0, .aload 0, .getfield 9, .invokestatic 25, .aload 0, .invokestatic 58, .iload 4, .if_icmp .ne 4481, .iconst 1, .goto 4482] := rfl
theorem al_4480 : aP.1 (Int.toNat 4480) = [.iload 1, .iload 2, .if_icmp .ne 4483, .aload 0, .aload 0, .getfield 9, .invokestatic 25, .aload 0, .invokestatic 58, .iload 4, .if_icmp .ne 4481, .iconst 1, .goto 4482] := rfl
theorem al_4481 : aP.1 (Int.toNat 4481) = [.iconst 0, .jsr 4482] := rfl
theorem al_4482 : aP.1 (Int.toNat 4482) = [.freturn] := rfl
theorem al_4483 : aP.1 (Int.toNat 4483) = [.iload 3, .istore 5, .jsr 4484] := rfl
theorem al_4484 : aP.1 (Int.toNat 4484) = [.iload 5, .aload 0, .invokestatic 10, .if_icmp .ge 4487, .aload 0, .getfield 9, .iload 5, .invokestatic 26, .ifCond .ne 4486, .iload 5, .aload 0, .getfield 9, .iconst 108, .iaload, .if_icmp .eq 4486, .aload 0, .getfield 9, .iconst 36, .iload 5, .iadd, .iconst 1, .iastore, .aload 0, .getfield 36, .iload 1, .iload 5, .iastore, .aload 0, .iload 1, .iconst 1, .iadd, .iload 2, .iload 5, .iconst 1, .iadd, .iload 4, .invokestatic 70, .ifCond .eq 4485, .iconst 1, .freturn] := rfl
theorem al_4485 : aP.1 (Int.toNat 4485) = [.aload 0, .getfield 9, .iconst 36, .iload 5, .iadd, .iconst 0, .iastore, .jsr 4486] := rfl
theorem al_4486 : aP.1 (Int.toNat 4486) = [.iinc 5 (1), .goto 4484] := rfl
theorem al_4487 : aP.1 (Int.toNat 4487) = [.iconst 0, .freturn] := rfl
theorem am_70 : aP.2.1 70 = (4480, 5, 6, 5, some 0, none) := rfl
theorem ae_71 : aP.1 (aP.2.1 71).1 = [.aload 0, .iconst 0, .putfield 0, .aload 0, .iconst (-2), .invokestatic 69, .ireturn] := rfl
theorem al_4544 : aP.1 (Int.toNat 4544) = [.aload 0, .iconst 0, .putfield 0, .aload 0, .iconst (-2), .invokestatic 69, .ireturn] := rfl
theorem am_71 : aP.2.1 71 = (4544, 1, 1, 7, some 0, none) := rfl
theorem ae_72 : aP.1 (aP.2.1 72).1 = [.aload 0, .iconst 0, .putfield 0, .aload 0, .invokestatic 60, .iconst (-2), .istore 1, .iconst (-1), .istore 2, .iconst 0, .istore 3, .jsr 4609] := rfl
theorem al_4608 : aP.1 (Int.toNat 4608) = [.aload 0, .iconst 0, .putfield 0, .aload 0, .invokestatic 60, .iconst (-2), .istore 1, .iconst (-1), .istore 2, .iconst 0, .istore 3, .jsr 4609] := rfl
theorem al_4609 : aP.1 (Int.toNat 4609) = [.iload 3, .aload 0, .invokestatic 10, .if_icmp .ge 4613, .aload 0, .getfield 8, .iload 3, .invokestatic 26, .ifCond .ne 4612, .iload 3, .aload 0, .getfield 8, .iconst 108, .iaload, .if_icmp .eq 4612, .aload 0, .getfield 9, .iconst 36, .iload 3, .iadd, .iconst 1, .iastore, .aload 0, .aload 0, .getfield 9, .invokestatic 25, .aload 0, .getfield 9, .iconst 36, .iload 3, .iadd, .iconst 0, .iastore, .aload 0, .getfield 24, .iload 2, .if_icmp .le 4610, .iload 3, .goto 4611] := rfl
theorem al_4610 : aP.1 (Int.toNat 4610) = [.iload 1, .jsr 4611] := rfl
theorem al_4611 : aP.1 (Int.toNat 4611) = [.istore 1, .iload 2, .aload 0, .getfield 24, .invokedynamic 6, .istore 2, .jsr 4612] := rfl
theorem al_4612 : aP.1 (Int.toNat 4612) = [.iinc 3 (1), .goto 4609] := rfl
theorem al_4613 : aP.1 (Int.toNat 4613) = [.iload 1, .ifCond .lt 4614, .aload 0, .aload 0, .getfield 8, .invokestatic 25, .aload 0, .iconst 0, .putfield 1, .aload 0, .iload 2, .i2l, .invokestatic 43, .aload 0, .aload 0, .getfield 24, .i2l, .invokestatic 43, .jsr 4614] := rfl
theorem al_4614 : aP.1 (Int.toNat 4614) = [.iload 1, .ireturn] := rfl
theorem am_72 : aP.2.1 72 = (4608, 1, 4, 5, some 0, none) := rfl
theorem ae_73 : aP.1 (aP.2.1 73).1 = [.aload 0, .iconst 0, .putfield 0, .aload 0, .invokestatic 60, .aload 0, .aload 0, .getfield 9, .invokestatic 25, .aload 0, .invokestatic 63, .iconst 1, .istore 1, .jsr 4673] := rfl
theorem al_4672 : aP.1 (Int.toNat 4672) = [.aload 0, .iconst 0, .putfield 0, .aload 0, .invokestatic 60, .aload 0, .aload 0, .getfield 9, .invokestatic 25, .aload 0, .invokestatic 63, .iconst 1, .istore 1, .jsr 4673] := rfl
theorem al_4673 : aP.1 (Int.toNat 4673) = [.iload 1, .iconst 9, .if_icmp .gt 4677, .iconst 0, .istore 2, .jsr 4674] := rfl
theorem al_4674 : aP.1 (Int.toNat 4674) = [.iload 2, .aload 0, .invokestatic 10, .if_icmp .ge 4676, .aload 0, .getfield 8, .iload 2, .iaload, .iload 1, .if_icmp .lt 4675, .aload 0, .getfield 9, .iload 2, .aload 0, .getfield 8, .iload 2, .iaload, .iload 1, .isub, .iastore, .aload 0, .aload 0, .getfield 9, .invokestatic 25, .aload 0, .getfield 9, .iload 2, .aload 0, .getfield 8, .iload 2, .iaload, .iastore, .aload 0, .invokestatic 64, .ifCond .ne 4675, .aload 0, .iconst 0, .putfield 1, .aload 0, .iload 2, .i2l, .invokestatic 43, .iload 1, .ireturn] := rfl
theorem al_4675 : aP.1 (Int.toNat 4675) = [.iinc 2 (1), .goto 4674] := rfl
theorem al_4676 : aP.1 (Int.toNat 4676) = [.iinc 1 (1), .goto 4673] := rfl
theorem al_4677 : aP.1 (Int.toNat 4677) = [.iconst (-2), .ireturn] := rfl
theorem am_73 : aP.2.1 73 = (4672, 1, 3, 5, some 0, none) := rfl
theorem ae_74 : aP.1 (aP.2.1 74).1 = [.aload 0, .iconst 0, .putfield 0, .aload 0, .aload 0, .getfield 8, .invokestatic 25, .aload 0, .aload 0, .getfield 8, .invokestatic 75, .istore 1, .aload 0, .iconst 0, .putfield 1, .aload 0, .aload 0, .getfield 37, .i2l, .invokestatic 43, .iload 1, .ireturn] := rfl
theorem al_4736 : aP.1 (Int.toNat 4736) = [.aload 0, .iconst 0, .putfield 0, .aload 0, .aload 0, .getfield 8, .invokestatic 25, .aload 0, .aload 0, .getfield 8, .invokestatic 75, .istore 1, .aload 0, .iconst 0, .putfield 1, .aload 0, .aload 0, .getfield 37, .i2l, .invokestatic 43, .iload 1, .ireturn] := rfl
theorem am_74 : aP.2.1 74 = (4736, 1, 2, 5, some 0, none) := rfl
theorem ae_75 : aP.1 (aP.2.1 75).1 = [.aload 0, .iconst (-1), .putfield 37, .iconst 0, .istore 2, .jsr 4801] := rfl
theorem al_4800 : aP.1 (Int.toNat 4800) = [.aload 0, .iconst (-1), .putfield 37, .iconst 0, .istore 2, .jsr 4801] := rfl
theorem al_4801 : aP.1 (Int.toNat 4801) = [.iload 2, .aload 0, .getfield 24, .if_icmp .ge 4805, .aload 0, .aload 0, .getfield 37, .ifCond .lt 4802, .aload 1, .aload 0, .getfield 22, .iload 2, .iaload, .iaload, .aload 1, .aload 0, .getfield 37, .iaload, .if_icmp .le 4803, .jsr 4802] := rfl
theorem al_4802 : aP.1 (Int.toNat 4802) = [.aload 0, .getfield 22, .iload 2, .iaload, .goto 4804] := rfl
theorem al_4803 : aP.1 (Int.toNat 4803) = [.aload 0, .getfield 37, .jsr 4804] := rfl
theorem al_4804 : aP.1 (Int.toNat 4804) = [.putfield 37, .iinc 2 (1), .goto 4801] := rfl
theorem al_4805 : aP.1 (Int.toNat 4805) = [.aload 0, .getfield 25, .ifCond .ne 4806, .aload 0, .getfield 37, .ifCond .ge 4807, .jsr 4806] := rfl
theorem al_4806 : aP.1 (Int.toNat 4806) = [.iconst 0, .goto 4808] := rfl
theorem al_4807 : aP.1 (Int.toNat 4807) = [.iconst 9, .aload 1, .aload 0, .getfield 37, .iaload, .isub, .jsr 4808] := rfl
theorem al_4808 : aP.1 (Int.toNat 4808) = [.ireturn] := rfl
theorem am_75 : aP.2.1 75 = (4800, 2, 3, 0, some 0, none) := rfl
theorem ae_76 : aP.1 (aP.2.1 76).1 = [.aload 0, .iconst 0, .putfield 0, .aload 0, .iconst 80, .invokestatic 6, .pop, .iload 1, .i2l, .ldc2_w 17, .ldc2_w 36, .invokestatic 4, .ifCond .ne 4865, .iconst (-100), .ireturn] := rfl
theorem al_4864 : aP.1 (Int.toNat 4864) = [.aload 0, .iconst 0, .putfield 0, .aload 0, .iconst 80, .invokestatic 6, .pop, .iload 1, .i2l, .ldc2_w 17, .ldc2_w 36, .invokestatic 4, .ifCond .ne 4865, .iconst (-100), .ireturn] := rfl
theorem al_4865 : aP.1 (Int.toNat 4865) = [.iconst 0, .istore 2, .iconst 1, .istore 3, .jsr 4866] := rfl
theorem al_4866 : aP.1 (Int.toNat 4866) = [.iload 3, .ifCond .eq 4869, .iload 2, .iconst 8, .if_icmp .ge 4869, .aload 0, .iconst 1, .iconst 9, .invokestatic 7, .istore 4, .iload 4, .ifCond .le 4867, .iconst 1, .goto 4868] := rfl
theorem al_4867 : aP.1 (Int.toNat 4867) = [.iconst 0, .jsr 4868] := rfl
theorem al_4868 : aP.1 (Int.toNat 4868) = [.istore 3, .aload 0, .getfield 38, .iload 2, .iload 4, .iastore, .iload 2, .iload 3, .invokestatic 17, .iadd, .istore 2, .goto 4866] := rfl
theorem al_4869 : aP.1 (Int.toNat 4869) = [.iload 2, .ifCond .eq 4870, .aload 0, .getfield 12, .aload 0, .getfield 13, .if_icmp .ge 4871, .jsr 4870] := rfl
theorem al_4870 : aP.1 (Int.toNat 4870) = [.iconst (-1), .aload 0, .getfield 12, .isub, .ireturn] := rfl
theorem al_4871 : aP.1 (Int.toNat 4871) = [.aload 0, .invokestatic 60, .iconst 0, .istore 4, .jsr 4872] := rfl
theorem al_4872 : aP.1 (Int.toNat 4872) = [.iload 4, .iload 1, .if_icmp .ge 4873, .aload 0, .aload 0, .getfield 9, .invokestatic 25, .aload 0, .getfield 39, .iload 4, .aload 0, .aload 0, .getfield 9, .invokestatic 75, .iastore, .aload 0, .getfield 42, .iload 4, .iconst 0, .bastore, .aload 0, .aload 0, .getfield 9, .invokestatic 41, .iinc 4 (1), .goto 4872] := rfl
theorem al_4873 : aP.1 (Int.toNat 4873) = [.aload 0, .iconst 0, .iload 2, .iload 1, .invokestatic 77, .istore 4, .iload 4, .istore 5, .aload 0, .iconst 0, .putfield 1, .iconst 0, .istore 6, .jsr 4874] := rfl
theorem al_4874 : aP.1 (Int.toNat 4874) = [.iload 6, .iload 2, .if_icmp .ge 4890, .aload 0, .iload 6, .iconst 1, .iadd, .iload 2, .iload 1, .invokestatic 77, .iload 5, .if_icmp .ne 4875, .iconst (-1), .goto 4876] := rfl
theorem al_4875 : aP.1 (Int.toNat 4875) = [.iconst 0, .jsr 4876] := rfl
theorem al_4876 : aP.1 (Int.toNat 4876) = [.istore 7, .iload 7, .ifCond .ne 4877, .iconst 1, .goto 4878] := rfl
theorem al_4877 : aP.1 (Int.toNat 4877) = [.iconst 0, .jsr 4878] := rfl
theorem al_4878 : aP.1 (Int.toNat 4878) = [.istore 8, .jsr 4879] := rfl
theorem al_4879 : aP.1 (Int.toNat 4879) = [.iload 8, .ifCond .eq 4887, .aload 0, .getfield 42, .iload 7, .baload, .ifCond .ne 4880, .aload 0, .getfield 39, .iload 7, .iaload, .aload 0, .getfield 38, .iload 6, .iaload, .if_icmp .lt 4880, .iconst 1, .goto 4881] := rfl
theorem al_4880 : aP.1 (Int.toNat 4880) = [.iconst 0, .jsr 4881] := rfl
theorem al_4881 : aP.1 (Int.toNat 4881) = [.istore 9, .iload 9, .ifCond .eq 4886, .aload 0, .getfield 42, .iload 7, .iconst 1, .bastore, .aload 0, .iload 6, .iconst 1, .iadd, .iload 2, .iload 1, .invokestatic 77, .iload 5, .iconst 1, .isub, .if_icmp .eq 4882, .iconst 1, .goto 4883] := rfl
theorem al_4882 : aP.1 (Int.toNat 4882) = [.iconst 0, .jsr 4883] := rfl
theorem al_4883 : aP.1 (Int.toNat 4883) = [.istore 8, .aload 0, .getfield 42, .iload 7, .iload 8, .ifCond .ne 4884, .iconst 1, .goto 4885] := rfl
theorem al_4884 : aP.1 (Int.toNat 4884) = [.iconst 0, .jsr 4885] := rfl
theorem al_4885 : aP.1 (Int.toNat 4885) = [.bastore, .jsr 4886] := rfl
theorem al_4886 : aP.1 (Int.toNat 4886) = [.iload 7, .iload 8, .invokestatic 17, .iadd, .istore 7, .goto 4879] := rfl
theorem al_4887 : aP.1 (Int.toNat 4887) = [.iload 5, .iload 7, .ifCond .lt 4888, .iconst 1, .goto 4889] := rfl
theorem al_4888 : aP.1 (Int.toNat 4888) = [.iconst 0, .jsr 4889] := rfl
theorem al_4889 : aP.1 (Int.toNat 4889) = [.invokestatic 17, .isub, .istore 5, .aload 0, .iload 7, .i2l, .invokestatic 43, .iinc 6 (1), .goto 4874] := rfl
theorem al_4890 : aP.1 (Int.toNat 4890) = [.iload 4, .ireturn] := rfl
theorem am_76 : aP.2.1 76 = (4864, 2, 10, 6, some 0, none) := rfl
theorem ae_77 : aP.1 (aP.2.1 77).1 = [.iconst 0, .istore 4, .iconst 0, .istore 5, .jsr 4929] := rfl
theorem al_4928 : aP.1 (Int.toNat 4928) = [.iconst 0, .istore 4, .iconst 0, .istore 5, .jsr 4929] := rfl
theorem al_4929 : aP.1 (Int.toNat 4929) = [.iload 5, .iload 3, .if_icmp .ge 4930, .aload 0, .getfield 40, .iload 5, .iconst (-1), .iastore, .iinc 5 (1), .goto 4929] := rfl
theorem al_4930 : aP.1 (Int.toNat 4930) = [.iload 1, .istore 5, .jsr 4931] := rfl
theorem al_4931 : aP.1 (Int.toNat 4931) = [.iload 5, .iload 2, .if_icmp .ge 4934, .iconst 0, .istore 6, .jsr 4932] := rfl
theorem al_4932 : aP.1 (Int.toNat 4932) = [.iload 6, .iload 3, .if_icmp .ge 4933, .aload 0, .getfield 41, .iload 6, .iconst 0, .bastore, .iinc 6 (1), .goto 4932] := rfl
theorem al_4933 : aP.1 (Int.toNat 4933) = [.iload 4, .aload 0, .iload 5, .iload 3, .invokestatic 78, .invokestatic 17, .iadd, .istore 4, .iinc 5 (1), .goto 4931] := rfl
theorem al_4934 : aP.1 (Int.toNat 4934) = [.iload 4, .ireturn] := rfl
theorem am_77 : aP.2.1 77 = (4928, 4, 7, 1, some 0, none) := rfl
theorem ae_78 : aP.1 (aP.2.1 78).1 = [.iconst 0, .istore 3, .jsr 4993] := rfl
theorem al_4992 : aP.1 (Int.toNat 4992) = [.iconst 0, .istore 3, .jsr 4993] := rfl
theorem al_4993 : aP.1 (Int.toNat 4993) = [.iload 3, .iload 2, .if_icmp .ge 4996, .aload 0, .getfield 42, .iload 3, .baload, .ifCond .ne 4995, .aload 0, .getfield 41, .iload 3, .baload, .ifCond .ne 4995, .aload 0, .getfield 39, .iload 3, .iaload, .aload 0, .getfield 38, .iload 1, .iaload, .if_icmp .lt 4995, .aload 0, .getfield 41, .iload 3, .iconst 1, .bastore, .aload 0, .getfield 40, .iload 3, .iaload, .ifCond .lt 4994, .aload 0, .aload 0, .getfield 40, .iload 3, .iaload, .iload 2, .invokestatic 78, .ifCond .eq 4995, .jsr 4994] := rfl
theorem al_4994 : aP.1 (Int.toNat 4994) = [.aload 0, .getfield 40, .iload 3, .iload 1, .iastore, .iconst 1, .freturn] := rfl
theorem al_4995 : aP.1 (Int.toNat 4995) = [.iinc 3 (1), .goto 4993] := rfl
theorem al_4996 : aP.1 (Int.toNat 4996) = [.iconst 0, .freturn] := rfl
theorem am_78 : aP.2.1 78 = (4992, 3, 4, 0, some 0, none) := rfl
theorem ae_79 : aP.1 (aP.2.1 79).1 = [.aload 0, .iconst 0, .putfield 0, .iload 1, .i2l, .ldc2_w 17, .ldc2_w 25, .invokestatic 4, .ifCond .ne 5057, .iconst (-1), .ireturn] := rfl
theorem al_5056 : aP.1 (Int.toNat 5056) = [.aload 0, .iconst 0, .putfield 0, .iload 1, .i2l, .ldc2_w 17, .ldc2_w 25, .invokestatic 4, .ifCond .ne 5057, .iconst (-1), .ireturn] := rfl
theorem al_5057 : aP.1 (Int.toNat 5057) = [.iconst 0, .istore 2, .jsr 5058] := rfl
theorem al_5058 : aP.1 (Int.toNat 5058) = [.iload 2, .aload 0, .invokestatic 10, .if_icmp .ge 5061, .aload 0, .getfield 43, .iload 2, .aload 0, .iload 2, .invokestatic 28, .ifCond .eq 5059, .aload 0, .iload 2, .iload 1, .invokestatic 80, .ifCond .eq 5059, .iconst 1, .goto 5060] := rfl
theorem al_5059 : aP.1 (Int.toNat 5059) = [.iconst 1000000, .jsr 5060] := rfl
theorem al_5060 : aP.1 (Int.toNat 5060) = [.iastore, .iinc 2 (1), .goto 5058] := rfl
theorem al_5061 : aP.1 (Int.toNat 5061) = [.iconst 0, .istore 2, .jsr 5062] := rfl
theorem al_5062 : aP.1 (Int.toNat 5062) = [.iload 2, .aload 0, .invokestatic 10, .if_icmp .ge 5069, .iconst 0, .istore 3, .jsr 5063] := rfl
theorem al_5063 : aP.1 (Int.toNat 5063) = [.iload 3, .aload 0, .invokestatic 10, .if_icmp .ge 5068, .iconst 0, .istore 4, .jsr 5064] := rfl
theorem al_5064 : aP.1 (Int.toNat 5064) = [.iload 4, .iconst 4, .if_icmp .ge 5067, .aload 0, .iload 3, .iload 1, .invokestatic 80, .ifCond .eq 5067, .aload 0, .iload 3, .iload 4, .invokestatic 29, .istore 5, .aload 0, .getfield 43, .iload 3, .iload 5, .ifCond .lt 5065, .aload 0, .getfield 43, .iload 3, .iaload, .aload 0, .getfield 43, .iload 5, .iaload, .iconst 1, .iadd, .invokedynamic 5, .goto 5066] := rfl
theorem al_5065 : aP.1 (Int.toNat 5065) = [.aload 0, .getfield 43, .iload 3, .iaload, .jsr 5066] := rfl
theorem al_5066 : aP.1 (Int.toNat 5066) = [.iastore, .iinc 4 (1), .goto 5064] := rfl
theorem al_5067 : aP.1 (Int.toNat 5067) = [.iinc 3 (1), .goto 5063] := rfl
theorem al_5068 : aP.1 (Int.toNat 5068) = [.iinc 2 (1), .goto 5062] := rfl
theorem al_5069 : aP.1 (Int.toNat 5069) = [.aload 0, .getfield 43, .aload 0, .getfield 8, .iconst 108, .iaload, .iaload, .istore 2, .iload 2, .iconst 1000000, .if_icmp .lt 5070, .iconst (-2), .ireturn] := rfl
theorem al_5070 : aP.1 (Int.toNat 5070) = [.aload 0, .iconst 0, .putfield 1, .aload 0, .getfield 8, .iconst 108, .iaload, .istore 3, .aload 0, .iload 3, .i2l, .invokestatic 43, .iload 2, .iconst 1, .isub, .istore 4, .jsr 5071] := rfl
theorem al_5071 : aP.1 (Int.toNat 5071) = [.iload 4, .ifCond .le 5077, .iconst (-1), .istore 5, .iconst 0, .istore 6, .jsr 5072] := rfl
theorem al_5072 : aP.1 (Int.toNat 5072) = [.iload 6, .iconst 4, .if_icmp .ge 5076, .aload 0, .iload 3, .iload 6, .invokestatic 29, .istore 7, .iload 7, .ifCond .lt 5074, .aload 0, .getfield 43, .iload 7, .iaload, .iload 4, .if_icmp .ne 5074, .iload 5, .ifCond .lt 5073, .iload 7, .iload 5, .if_icmp .ge 5074, .jsr 5073] := rfl
theorem al_5073 : aP.1 (Int.toNat 5073) = [.iload 7, .goto 5075] := rfl
theorem al_5074 : aP.1 (Int.toNat 5074) = [.iload 5, .jsr 5075] := rfl
theorem al_5075 : aP.1 (Int.toNat 5075) = [.istore 5, .iinc 6 (1), .goto 5072] := rfl
theorem al_5076 : aP.1 (Int.toNat 5076) = [.iload 5, .istore 3, .aload 0, .iload 3, .i2l, .invokestatic 43, .iinc 4 (-1), .goto 5071] := rfl
theorem al_5077 : aP.1 (Int.toNat 5077) = [.iload 2, .ireturn] := rfl
theorem am_79 : aP.2.1 79 = (5056, 2, 8, 2, some 0, none) := rfl
theorem ae_80 : aP.1 (aP.2.1 80).1 = [.aload 0, .getfield 8, .iload 1, .invokestatic 26, .ifCond .ne 5121, .aload 0, .getfield 8, .iload 1, .iaload, .iconst 9, .iload 2, .isub, .if_icmp .gt 5121, .iconst 1, .goto 5122] := rfl
theorem al_5120 : aP.1 (Int.toNat 5120) = [.aload 0, .getfield 8, .iload 1, .invokestatic 26, .ifCond .ne 5121, .aload 0, .getfield 8, .iload 1, .iaload, .iconst 9, .iload 2, .isub, .if_icmp .gt 5121, .iconst 1, .goto 5122] := rfl
theorem al_5121 : aP.1 (Int.toNat 5121) = [.iconst 0, .jsr 5122] := rfl
theorem al_5122 : aP.1 (Int.toNat 5122) = [.freturn] := rfl
theorem am_80 : aP.2.1 80 = (5120, 3, 3, 1, some 0, none) := rfl
theorem ae_81 : aP.1 (aP.2.1 81).1 = [.aload 0, .iconst 0, .putfield 0, .aload 0, .ldc2_w 15, .putfield 109, .iconst 0, .istore 1, .aload 0, .iconst 0, .iconst 0, .ldc2_w 16, .invokestatic 82, .jsr 5185] := rfl
theorem al_5184 : aP.1 (Int.toNat 5184) = [.aload 0, .iconst 0, .putfield 0, .aload 0, .ldc2_w 15, .putfield 109, .iconst 0, .istore 1, .aload 0, .iconst 0, .iconst 0, .ldc2_w 16, .invokestatic 82, .jsr 5185] := rfl
theorem al_5185 : aP.1 (Int.toNat 5185) = [.aload 0, .getfield 45, .ldc2_w 16, .lcmp, .ifCond .ge 5186, .iinc 1 (1), .aload 0, .iload 1, .iconst 0, .ldc2_w 16, .invokestatic 82, .goto 5185] := rfl
theorem al_5186 : aP.1 (Int.toNat 5186) = [.aload 0, .iconst 0, .putfield 1, .aload 0, .aload 0, .getfield 45, .invokestatic 43, .iload 1, .ireturn] := rfl
theorem am_81 : aP.2.1 81 = (5184, 1, 2, 4, some 0, none) := rfl
theorem ae_82 : aP.1 (aP.2.1 82).1 = [.iload 1, .ifCond .ne 5252, .aload 0, .aload 0, .lload 3, .invokestatic 83, .ifCond .ne 5250, .aload 0, .getfield 45, .ldc2_w 16, .lcmp, .ifCond .lt 5249, .lload 3, .aload 0, .getfield 45, .lcmp, .ifCond .ge 5250, .jsr 5249] := rfl
theorem al_5248 : aP.1 (Int.toNat 5248) = [.iload 1, .ifCond .ne 5252, .aload 0, .aload 0, .lload 3, .invokestatic 83, .ifCond .ne 5250, .aload 0, .getfield 45, .ldc2_w 16, .lcmp, .ifCond .lt 5249, .lload 3, .aload 0, .getfield 45, .lcmp, .ifCond .ge 5250, .jsr 5249] := rfl
theorem al_5249 : aP.1 (Int.toNat 5249) = [.lload 3, .goto 5251] := rfl
theorem al_5250 : aP.1 (Int.toNat 5250) = [.aload 0, .getfield 45, .jsr 5251] := rfl
theorem al_5251 : aP.1 (Int.toNat 5251) = [.putfield 109, .return_] := rfl
theorem al_5252 : aP.1 (Int.toNat 5252) = [.iload 2, .istore 5, .jsr 5253] := rfl
theorem al_5253 : aP.1 (Int.toNat 5253) = [.iload 5, .aload 0, .invokestatic 10, .if_icmp .ge 5255, .aload 0, .getfield 8, .iload 5, .invokestatic 26, .ifCond .ne 5254, .iload 5, .aload 0, .getfield 8, .iconst 108, .iaload, .if_icmp .eq 5254, .aload 0, .iload 1, .iconst 1, .isub, .iload 5, .iconst 1, .iadd, .lload 3, .ldc2_w 17, .iload 5, .lshl, .lor, .invokestatic 82, .jsr 5254] := rfl
theorem al_5254 : aP.1 (Int.toNat 5254) = [.iinc 5 (1), .goto 5253] := rfl
theorem al_5255 : aP.1 (Int.toNat 5255) = [.return_] := rfl
theorem am_82 : aP.2.1 82 = (5248, 4, 6, 3, some 0, none) := rfl
theorem ae_83 : aP.1 (aP.2.1 83).1 = [.aload 0, .getfield 8, .iconst 108, .iaload, .istore 3, .iconst 0, .istore 4, .jsr 5313] := rfl
theorem al_5312 : aP.1 (Int.toNat 5312) = [.aload 0, .getfield 8, .iconst 108, .iaload, .istore 3, .iconst 0, .istore 4, .jsr 5313] := rfl
theorem al_5313 : aP.1 (Int.toNat 5313) = [.iload 4, .aload 0, .invokestatic 10, .if_icmp .ge 5317, .aload 0, .getfield 23, .iload 4, .aload 0, .getfield 8, .iload 4, .invokestatic 26, .ifCond .ne 5314, .lload 1, .iload 4, .invokestatic 84, .ifCond .eq 5315, .jsr 5314] := rfl
theorem al_5314 : aP.1 (Int.toNat 5314) = [.iconst 1, .goto 5316] := rfl
theorem al_5315 : aP.1 (Int.toNat 5315) = [.iconst 0, .jsr 5316] := rfl
theorem al_5316 : aP.1 (Int.toNat 5316) = [.bastore, .iinc 4 (1), .goto 5313] := rfl
theorem al_5317 : aP.1 (Int.toNat 5317) = [.aload 0, .getfield 23, .iload 3, .baload, .ifCond .eq 5318, .iconst 0, .freturn] := rfl
theorem al_5318 : aP.1 (Int.toNat 5318) = [.iconst 1, .istore 4, .aload 0, .getfield 44, .iconst 0, .iload 3, .iastore, .aload 0, .getfield 23, .iload 3, .iconst 1, .bastore, .iconst 0, .istore 5, .jsr 5319] := rfl
theorem al_5319 : aP.1 (Int.toNat 5319) = [.iload 5, .iload 4, .if_icmp .ge 5324, .aload 0, .aload 0, .getfield 44, .iload 5, .iaload, .invokestatic 28, .ifCond .eq 5320, .iconst 1, .freturn] := rfl
theorem al_5320 : aP.1 (Int.toNat 5320) = [.iconst 0, .istore 6, .jsr 5321] := rfl
theorem al_5321 : aP.1 (Int.toNat 5321) = [.iload 6, .iconst 4, .if_icmp .ge 5323, .aload 0, .aload 0, .getfield 44, .iload 5, .iaload, .iload 6, .invokestatic 29, .istore 7, .iload 7, .ifCond .lt 5322, .aload 0, .getfield 23, .iload 7, .baload, .ifCond .ne 5322, .aload 0, .getfield 23, .iload 7, .iconst 1, .bastore, .aload 0, .getfield 44, .iload 4, .iload 7, .iastore, .iinc 4 (1), .jsr 5322] := rfl
theorem al_5322 : aP.1 (Int.toNat 5322) = [.iinc 6 (1), .goto 5321] := rfl
theorem al_5323 : aP.1 (Int.toNat 5323) = [.iinc 5 (1), .goto 5319] := rfl
theorem al_5324 : aP.1 (Int.toNat 5324) = [.iconst 0, .freturn] := rfl
theorem am_83 : aP.2.1 83 = (5312, 2, 8, 2, some 0, none) := rfl
theorem ae_84 : aP.1 (aP.2.1 84).1 = [.lload 0, .iload 2, .lshr, .ldc2_w 17, .land, .ldc2_w 17, .lcmp, .ifCond .ne 5377, .iconst 1, .goto 5378] := rfl
theorem al_5376 : aP.1 (Int.toNat 5376) = [.lload 0, .iload 2, .lshr, .ldc2_w 17, .land, .ldc2_w 17, .lcmp, .ifCond .ne 5377, .iconst 1, .goto 5378] := rfl
theorem al_5377 : aP.1 (Int.toNat 5377) = [.iconst 0, .jsr 5378] := rfl
theorem al_5378 : aP.1 (Int.toNat 5378) = [.freturn] := rfl
theorem am_84 : aP.2.1 84 = (5376, 2, 3, 0, none, none) := rfl
theorem ae_85 : aP.1 (aP.2.1 85).1 = [.aload 0, .iconst 0, .putfield 0, .iload 1, .i2l, .ldc2_w 16, .ldc2_w 36, .invokestatic 4, .ifCond .eq 5441, .aload 0, .iload 2, .invokestatic 23, .ifCond .eq 5441, .iload 3, .i2l, .ldc2_w 16, .ldc2_w 17, .invokestatic 4, .ifCond .eq 5441, .aload 0, .getfield 46, .iconst 10, .if_icmp .ne 5442, .jsr 5441] := rfl
theorem al_5440 : aP.1 (Int.toNat 5440) = [.aload 0, .iconst 0, .putfield 0, .iload 1, .i2l, .ldc2_w 16, .ldc2_w 36, .invokestatic 4, .ifCond .eq 5441, .aload 0, .iload 2, .invokestatic 23, .ifCond .eq 5441, .iload 3, .i2l, .ldc2_w 16, .ldc2_w 17, .invokestatic 4, .ifCond .eq 5441, .aload 0, .getfield 46, .iconst 10, .if_icmp .ne 5442, .jsr 5441] := rfl
theorem al_5441 : aP.1 (Int.toNat 5441) = [.iconst (-1), .ireturn] := rfl
theorem al_5442 : aP.1 (Int.toNat 5442) = [.aload 0, .getfield 47, .aload 0, .getfield 46, .iload 1, .iastore, .aload 0, .getfield 48, .aload 0, .getfield 46, .iload 2, .iastore, .aload 0, .getfield 49, .aload 0, .getfield 46, .iload 3, .iastore, .aload 0, .dup, .getfield 46, .iconst 1, .iadd, .putfield 46, .aload 0, .getfield 46, .ireturn] := rfl
theorem am_85 : aP.2.1 85 = (5440, 4, 4, 2, some 0, none) := rfl
theorem ae_86 : aP.1 (aP.2.1 86).1 = [.aload 0, .iconst 0, .putfield 0, .aload 0, .getfield 46, .istore 1, .aload 0, .iconst 0, .putfield 46, .iload 1, .ireturn] := rfl
theorem al_5504 : aP.1 (Int.toNat 5504) = [.aload 0, .iconst 0, .putfield 0, .aload 0, .getfield 46, .istore 1, .aload 0, .iconst 0, .putfield 46, .iload 1, .ireturn] := rfl
theorem am_86 : aP.2.1 86 = (5504, 1, 2, 0, some 0, none) := rfl
theorem ae_87 : aP.1 (aP.2.1 87).1 = [.aload 0, .iconst 0, .putfield 0, .aload 0, .invokestatic 88, .istore 1, .aload 0, .iconst 0, .putfield 1, .aload 0, .iload 1, .invokestatic 121, .i2l, .invokestatic 43, .iload 1, .ireturn] := rfl
theorem al_5568 : aP.1 (Int.toNat 5568) = [.aload 0, .iconst 0, .putfield 0, .aload 0, .invokestatic 88, .istore 1, .aload 0, .iconst 0, .putfield 1, .aload 0, .iload 1, .invokestatic 121, .i2l, .invokestatic 43, .iload 1, .ireturn] := rfl
theorem am_87 : aP.2.1 87 = (5568, 1, 2, 8, some 0, none) := rfl
theorem ae_88 : aP.1 (aP.2.1 88).1 = [.iconst 0, .istore 1, .iconst 0, .istore 2, .jsr 5633] := rfl
theorem al_5632 : aP.1 (Int.toNat 5632) = [.iconst 0, .istore 1, .iconst 0, .istore 2, .jsr 5633] := rfl
theorem al_5633 : aP.1 (Int.toNat 5633) = [.iload 2, .aload 0, .getfield 4, .if_icmp .ge 5636, .iload 1, .aload 0, .iload 2, .invokestatic 89, .ifCond .eq 5634, .iconst 1, .iload 2, .ishl, .goto 5635] := rfl
theorem al_5634 : aP.1 (Int.toNat 5634) = [.iconst 0, .jsr 5635] := rfl
theorem al_5635 : aP.1 (Int.toNat 5635) = [.ior, .istore 1, .iinc 2 (1), .goto 5633] := rfl
theorem al_5636 : aP.1 (Int.toNat 5636) = [.iload 1, .ireturn] := rfl
theorem am_88 : aP.2.1 88 = (5632, 1, 3, 7, some 0, none) := rfl
theorem ae_89 : aP.1 (aP.2.1 89).1 = [.aload 0, .invokestatic 60, .aload 0, .getfield 9, .iconst 108, .iload 1, .iastore, .iconst 1, .istore 2, .iconst 0, .istore 3, .jsr 5697] := rfl
theorem al_5696 : aP.1 (Int.toNat 5696) = [.aload 0, .invokestatic 60, .aload 0, .getfield 9, .iconst 108, .iload 1, .iastore, .iconst 1, .istore 2, .iconst 0, .istore 3, .jsr 5697] := rfl
theorem al_5697 : aP.1 (Int.toNat 5697) = [.iload 3, .iconst 20, .if_icmp .gt 5703, .aload 0, .aload 0, .getfield 9, .invokestatic 25, .iconst 0, .istore 4, .jsr 5698] := rfl
theorem al_5698 : aP.1 (Int.toNat 5698) = [.iload 4, .aload 0, .getfield 46, .if_icmp .ge 5702, .iload 2, .ifCond .eq 5700, .aload 0, .getfield 47, .iload 4, .iaload, .iload 3, .if_icmp .ne 5699, .aload 0, .getfield 23, .aload 0, .getfield 48, .iload 4, .iaload, .baload, .invokestatic 17, .aload 0, .getfield 49, .iload 4, .iaload, .if_icmp .ne 5700, .jsr 5699] := rfl
theorem al_5699 : aP.1 (Int.toNat 5699) = [.iconst 1, .goto 5701] := rfl
theorem al_5700 : aP.1 (Int.toNat 5700) = [.iconst 0, .jsr 5701] := rfl
theorem al_5701 : aP.1 (Int.toNat 5701) = [.istore 2, .iinc 4 (1), .goto 5698] := rfl
theorem al_5702 : aP.1 (Int.toNat 5702) = [.aload 0, .aload 0, .getfield 9, .invokestatic 41, .iinc 3 (1), .goto 5697] := rfl
theorem al_5703 : aP.1 (Int.toNat 5703) = [.iload 2, .freturn] := rfl
theorem am_89 : aP.2.1 89 = (5696, 2, 5, 6, some 0, none) := rfl
theorem ae_90 : aP.1 (aP.2.1 90).1 = [.aload 0, .iconst 0, .putfield 0, .iload 1, .i2l, .ldc2_w 16, .ldc2_w 36, .invokestatic 4, .ifCond .ne 5761, .iconst (-1), .ireturn] := rfl
theorem al_5760 : aP.1 (Int.toNat 5760) = [.aload 0, .iconst 0, .putfield 0, .iload 1, .i2l, .ldc2_w 16, .ldc2_w 36, .invokestatic 4, .ifCond .ne 5761, .iconst (-1), .ireturn] := rfl
theorem al_5761 : aP.1 (Int.toNat 5761) = [.aload 0, .invokestatic 88, .istore 2, .iload 2, .ifCond .ne 5762, .iconst (-2), .ireturn] := rfl
theorem al_5762 : aP.1 (Int.toNat 5762) = [.iconst 0, .istore 3, .jsr 5763] := rfl
theorem al_5763 : aP.1 (Int.toNat 5763) = [.iload 3, .aload 0, .getfield 4, .if_icmp .ge 5764, .aload 0, .invokestatic 60, .aload 0, .getfield 9, .iconst 108, .iload 3, .iastore, .aload 0, .aload 0, .getfield 9, .iload 1, .invokestatic 40, .pop, .aload 0, .aload 0, .getfield 9, .invokestatic 25, .aload 0, .getfield 50, .iload 3, .aload 0, .invokestatic 67, .lastore, .iinc 3 (1), .goto 5763] := rfl
theorem al_5764 : aP.1 (Int.toNat 5764) = [.iconst (-1), .istore 3, .iconst 1000000, .istore 4, .iconst 0, .istore 5, .jsr 5765] := rfl
theorem al_5765 : aP.1 (Int.toNat 5765) = [.iload 5, .aload 0, .invokestatic 10, .if_icmp .ge 5772, .iconst 0, .istore 6, .iconst 0, .istore 7, .jsr 5766] := rfl
theorem al_5766 : aP.1 (Int.toNat 5766) = [.iload 7, .aload 0, .getfield 4, .if_icmp .ge 5769, .iload 6, .iload 2, .i2l, .iload 7, .invokestatic 84, .ifCond .eq 5767, .aload 0, .getfield 50, .iload 7, .laload, .iload 5, .invokestatic 84, .ifCond .eq 5767, .iconst 1, .goto 5768] := rfl
theorem al_5767 : aP.1 (Int.toNat 5767) = [.iconst 0, .jsr 5768] := rfl
theorem al_5768 : aP.1 (Int.toNat 5768) = [.invokestatic 17, .iadd, .istore 6, .iinc 7 (1), .goto 5766] := rfl
theorem al_5769 : aP.1 (Int.toNat 5769) = [.iload 6, .iload 2, .invokestatic 121, .iload 6, .isub, .invokedynamic 6, .istore 7, .iload 7, .iload 4, .if_icmp .ge 5770, .iload 5, .goto 5771] := rfl
theorem al_5770 : aP.1 (Int.toNat 5770) = [.iload 3, .jsr 5771] := rfl
theorem al_5771 : aP.1 (Int.toNat 5771) = [.istore 3, .iload 4, .iload 7, .invokedynamic 5, .istore 4, .iinc 5 (1), .goto 5765] := rfl
theorem al_5772 : aP.1 (Int.toNat 5772) = [.aload 0, .iconst 0, .putfield 1, .aload 0, .iload 4, .i2l, .invokestatic 43, .iload 3, .ireturn] := rfl
theorem am_90 : aP.2.1 90 = (5760, 2, 8, 8, some 0, none) := rfl
theorem ae_91 : aP.1 (aP.2.1 91).1 = [.aload 0, .iconst 0, .putfield 0, .aload 0, .iload 1, .invokestatic 23, .ifCond .eq 5825, .aload 0, .iload 1, .invokestatic 28, .ifCond .ne 5825, .iload 2, .i2l, .ldc2_w 16, .ldc2_w 18, .invokestatic 4, .ifCond .eq 5825, .aload 0, .getfield 51, .iconst 10, .if_icmp .ne 5826, .jsr 5825] := rfl
theorem al_5824 : aP.1 (Int.toNat 5824) = [.aload 0, .iconst 0, .putfield 0, .aload 0, .iload 1, .invokestatic 23, .ifCond .eq 5825, .aload 0, .iload 1, .invokestatic 28, .ifCond .ne 5825, .iload 2, .i2l, .ldc2_w 16, .ldc2_w 18, .invokestatic 4, .ifCond .eq 5825, .aload 0, .getfield 51, .iconst 10, .if_icmp .ne 5826, .jsr 5825] := rfl
theorem al_5825 : aP.1 (Int.toNat 5825) = [.iconst (-1), .ireturn] := rfl
theorem al_5826 : aP.1 (Int.toNat 5826) = [.aload 0, .getfield 52, .aload 0, .getfield 51, .iload 1, .iastore, .aload 0, .getfield 53, .aload 0, .getfield 51, .iload 2, .iastore, .aload 0, .dup, .getfield 51, .iconst 1, .iadd, .putfield 51, .aload 0, .getfield 51, .ireturn] := rfl
theorem am_91 : aP.2.1 91 = (5824, 3, 3, 2, some 0, none) := rfl
theorem ae_92 : aP.1 (aP.2.1 92).1 = [.aload 0, .iconst 0, .putfield 0, .aload 0, .getfield 51, .istore 1, .aload 0, .iconst 0, .putfield 51, .iload 1, .ireturn] := rfl
theorem al_5888 : aP.1 (Int.toNat 5888) = [.aload 0, .iconst 0, .putfield 0, .aload 0, .getfield 51, .istore 1, .aload 0, .iconst 0, .putfield 51, .iload 1, .ireturn] := rfl
theorem am_92 : aP.2.1 92 = (5888, 1, 2, 0, some 0, none) := rfl
theorem ae_93 : aP.1 (aP.2.1 93).1 = [.aload 0, .iconst 0, .putfield 0, .iconst 0, .istore 1, .aload 0, .iconst 0, .putfield 1, .iconst 0, .istore 2, .jsr 5953] := rfl
theorem al_5952 : aP.1 (Int.toNat 5952) = [.aload 0, .iconst 0, .putfield 0, .iconst 0, .istore 1, .aload 0, .iconst 0, .putfield 1, .iconst 0, .istore 2, .jsr 5953] := rfl
theorem al_5953 : aP.1 (Int.toNat 5953) = [.iload 2, .iconst 64, .if_icmp .ge 5959, .iconst 1, .istore 3, .iconst 0, .istore 4, .jsr 5954] := rfl
theorem al_5954 : aP.1 (Int.toNat 5954) = [.iload 4, .aload 0, .getfield 51, .if_icmp .ge 5957, .iload 3, .ifCond .eq 5955, .aload 0, .aload 0, .getfield 52, .iload 4, .iaload, .iload 2, .iconst 16, .idiv, .iload 2, .iconst 4, .idiv, .iconst 4, .irem, .iload 2, .iconst 4, .irem, .invokestatic 94, .aload 0, .getfield 53, .iload 4, .iaload, .if_icmp .ne 5955, .iconst 1, .goto 5956] := rfl
theorem al_5955 : aP.1 (Int.toNat 5955) = [.iconst 0, .jsr 5956] := rfl
theorem al_5956 : aP.1 (Int.toNat 5956) = [.istore 3, .iinc 4 (1), .goto 5954] := rfl
theorem al_5957 : aP.1 (Int.toNat 5957) = [.iload 3, .ifCond .eq 5958, .iload 1, .ifCond .ne 5958, .aload 0, .iload 2, .iconst 16, .idiv, .i2l, .invokestatic 43, .aload 0, .iload 2, .iconst 4, .idiv, .iconst 4, .irem, .i2l, .invokestatic 43, .aload 0, .iload 2, .iconst 4, .irem, .i2l, .invokestatic 43, .jsr 5958] := rfl
theorem al_5958 : aP.1 (Int.toNat 5958) = [.iload 1, .iload 3, .invokestatic 17, .iadd, .istore 1, .iinc 2 (1), .goto 5953] := rfl
theorem al_5959 : aP.1 (Int.toNat 5959) = [.iload 1, .ireturn] := rfl
theorem am_93 : aP.2.1 93 = (5952, 1, 5, 3, some 0, none) := rfl
theorem ae_94 : aP.1 (aP.2.1 94).1 = [.iconst (-1), .istore 5, .iconst 0, .istore 6, .iconst 0, .istore 7, .jsr 6017] := rfl
theorem al_6016 : aP.1 (Int.toNat 6016) = [.iconst (-1), .istore 5, .iconst 0, .istore 6, .iconst 0, .istore 7, .jsr 6017] := rfl
theorem al_6017 : aP.1 (Int.toNat 6017) = [.iload 7, .iconst 3, .if_icmp .ge 6022, .aload 0, .iload 1, .iload 7, .invokestatic 29, .istore 8, .iload 8, .ifCond .lt 6021, .aload 0, .getfield 8, .iload 8, .invokestatic 26, .ifCond .ne 6021, .iload 2, .aload 0, .getfield 8, .iload 8, .iaload, .imul, .iload 3, .iload 7, .ifCond .le 6018, .iconst 1, .goto 6019] := rfl
theorem al_6018 : aP.1 (Int.toNat 6018) = [.iconst 0, .jsr 6019] := rfl
theorem al_6019 : aP.1 (Int.toNat 6019) = [.invokestatic 17, .imul, .iadd, .iload 4, .aload 0, .getfield 8, .iconst 72, .iload 8, .iadd, .iaload, .imul, .isub, .istore 9, .iload 5, .ifCond .lt 6020, .iload 9, .iload 6, .if_icmp .ge 6021, .jsr 6020] := rfl
theorem al_6020 : aP.1 (Int.toNat 6020) = [.iload 7, .istore 5, .iload 9, .istore 6, .jsr 6021] := rfl
theorem al_6021 : aP.1 (Int.toNat 6021) = [.iinc 7 (1), .goto 6017] := rfl
theorem al_6022 : aP.1 (Int.toNat 6022) = [.iload 5, .ireturn] := rfl
theorem am_94 : aP.2.1 94 = (6016, 5, 10, 2, some 0, none) := rfl
theorem ae_95 : aP.1 (aP.2.1 95).1 = [.aload 0, .iconst 0, .putfield 0, .iload 1, .i2l, .ldc2_w 16, .ldc2_w 76, .invokestatic 4, .ifCond .eq 6081, .iload 2, .i2l, .ldc2_w 17, .ldc2_w 25, .invokestatic 4, .ifCond .ne 6082, .jsr 6081] := rfl
theorem al_6080 : aP.1 (Int.toNat 6080) = [.aload 0, .iconst 0, .putfield 0, .iload 1, .i2l, .ldc2_w 16, .ldc2_w 76, .invokestatic 4, .ifCond .eq 6081, .iload 2, .i2l, .ldc2_w 17, .ldc2_w 25, .invokestatic 4, .ifCond .ne 6082, .jsr 6081] := rfl
theorem al_6081 : aP.1 (Int.toNat 6081) = [.iconst (-1), .ireturn] := rfl
theorem al_6082 : aP.1 (Int.toNat 6082) = [.iconst 0, .istore 3, .jsr 6083] := rfl
theorem al_6083 : aP.1 (Int.toNat 6083) = [.iload 3, .iload 1, .if_icmp .gt 6090, .iconst 0, .istore 4, .jsr 6084] := rfl
theorem al_6084 : aP.1 (Int.toNat 6084) = [.iload 4, .iconst 10, .if_icmp .ge 6089, .iconst 10, .iload 3, .imul, .iload 4, .iadd, .istore 5, .aload 0, .getfield 54, .iload 5, .iconst 0, .iastore, .iload 2, .iload 3, .invokedynamic 5, .istore 6, .jsr 6085] := rfl
theorem al_6085 : aP.1 (Int.toNat 6085) = [.iload 6, .ifCond .le 6088, .aload 0, .getfield 54, .iload 5, .iload 6, .iload 4, .if_icmp .eq 6086, .aload 0, .getfield 54, .iconst 10, .iload 3, .iload 6, .isub, .imul, .iload 6, .iadd, .iaload, .ifCond .ne 6086, .iload 6, .goto 6087] := rfl
theorem al_6086 : aP.1 (Int.toNat 6086) = [.aload 0, .getfield 54, .iload 5, .iaload, .jsr 6087] := rfl
theorem al_6087 : aP.1 (Int.toNat 6087) = [.iastore, .iinc 6 (-1), .goto 6085] := rfl
theorem al_6088 : aP.1 (Int.toNat 6088) = [.iinc 4 (1), .goto 6084] := rfl
theorem al_6089 : aP.1 (Int.toNat 6089) = [.iinc 3 (1), .goto 6083] := rfl
theorem al_6090 : aP.1 (Int.toNat 6090) = [.aload 0, .getfield 54, .iconst 10, .iload 1, .imul, .iaload, .ireturn] := rfl
theorem am_95 : aP.2.1 95 = (6080, 3, 7, 1, some 0, none) := rfl
theorem ae_96 : aP.1 (aP.2.1 96).1 = [.aload 0, .iconst 0, .putfield 0, .iload 1, .i2l, .ldc2_w 17, .ldc2_w 28, .invokestatic 4, .ifCond .eq 6145, .iload 2, .i2l, .ldc2_w 17, .ldc2_w 28, .invokestatic 4, .ifCond .eq 6145, .iload 3, .i2l, .ldc2_w 16, .ldc2_w 26, .invokestatic 4, .ifCond .ne 6146, .jsr 6145] := rfl
theorem al_6144 : aP.1 (Int.toNat 6144) = [.aload 0, .iconst 0, .putfield 0, .iload 1, .i2l, .ldc2_w 17, .ldc2_w 28, .invokestatic 4, .ifCond .eq 6145, .iload 2, .i2l, .ldc2_w 17, .ldc2_w 28, .invokestatic 4, .ifCond .eq 6145, .iload 3, .i2l, .ldc2_w 16, .ldc2_w 26, .invokestatic 4, .ifCond .ne 6146, .jsr 6145] := rfl
theorem al_6145 : aP.1 (Int.toNat 6145) = [.iconst (-1), .ireturn] := rfl
theorem al_6146 : aP.1 (Int.toNat 6146) = [.ldc2_w 16, .lstore 4, .ldc2_w 17, .lstore 6, .iconst 0, .istore 8, .jsr 6147] := rfl
theorem al_6147 : aP.1 (Int.toNat 6147) = [.iload 8, .iload 1, .if_icmp .ge 6148, .lload 6, .ldc2_w 26, .lmul, .lstore 6, .iinc 8 (1), .goto 6147] := rfl
theorem al_6148 : aP.1 (Int.toNat 6148) = [.iconst 0, .istore 8, .jsr 6149] := rfl
theorem al_6149 : aP.1 (Int.toNat 6149) = [.iload 8, .iconst 1, .iload 1, .ishl, .if_icmp .ge 6158, .ldc2_w 17, .lstore 9, .iconst 0, .istore 11, .iconst 0, .istore 12, .iconst 0, .istore 13, .jsr 6150] := rfl
theorem al_6150 : aP.1 (Int.toNat 6150) = [.iload 13, .iload 1, .if_icmp .ge 6155, .lload 9, .iload 8, .i2l, .iload 13, .invokestatic 84, .ifCond .eq 6151, .iload 3, .i2l, .goto 6152] := rfl
theorem al_6151 : aP.1 (Int.toNat 6151) = [.iconst 10, .iload 3, .isub, .i2l, .jsr 6152] := rfl
theorem al_6152 : aP.1 (Int.toNat 6152) = [.lmul, .lstore 9, .iload 8, .i2l, .iload 13, .invokestatic 84, .ifCond .eq 6153, .iload 11, .iconst 1, .iadd, .goto 6154] := rfl
theorem al_6153 : aP.1 (Int.toNat 6153) = [.iconst 0, .jsr 6154] := rfl
theorem al_6154 : aP.1 (Int.toNat 6154) = [.istore 11, .iload 12, .iload 11, .invokedynamic 6, .istore 12, .iinc 13 (1), .goto 6150] := rfl
theorem al_6155 : aP.1 (Int.toNat 6155) = [.lload 4, .iload 12, .iload 2, .if_icmp .lt 6156, .lload 9, .goto 6157] := rfl
theorem al_6156 : aP.1 (Int.toNat 6156) = [.ldc2_w 16, .jsr 6157] := rfl
theorem al_6157 : aP.1 (Int.toNat 6157) = [.ladd, .lstore 4, .iinc 8 (1), .goto 6149] := rfl
theorem al_6158 : aP.1 (Int.toNat 6158) = [.lload 4, .lload 6, .invokestatic 97, .lstore 8, .aload 0, .iconst 0, .putfield 1, .aload 0, .lload 4, .lload 8, .ldiv, .invokestatic 43, .aload 0, .lload 6, .lload 8, .ldiv, .invokestatic 43, .iconst 0, .ireturn] := rfl
theorem am_96 : aP.2.1 96 = (6144, 4, 14, 1, some 0, none) := rfl
theorem ae_97 : aP.1 (aP.2.1 97).1 = [.lload 2, .ldc2_w 16, .lcmp, .ifCond .ne 6209, .lload 0, .goto 6210] := rfl
theorem al_6208 : aP.1 (Int.toNat 6208) = [.lload 2, .ldc2_w 16, .lcmp, .ifCond .ne 6209, .lload 0, .goto 6210] := rfl
theorem al_6209 : aP.1 (Int.toNat 6209) = [.lload 2, .lload 0, .lload 2, .lrem, .invokestatic 97, .jsr 6210] := rfl
theorem al_6210 : aP.1 (Int.toNat 6210) = [.lreturn] := rfl
theorem am_97 : aP.2.1 97 = (6208, 2, 4, 0, none, none) := rfl
theorem ae_98 : aP.1 (aP.2.1 98).1 = [.aload 0, .iconst 0, .putfield 0, .aload 0, .invokestatic 13, .istore 1, .iload 1, .ifCond .ge 6273, .iload 1, .iconst 1, .iadd, .iconst 10000, .isub, .ireturn] := rfl
theorem al_6272 : aP.1 (Int.toNat 6272) = [.aload 0, .iconst 0, .putfield 0, .aload 0, .invokestatic 13, .istore 1, .iload 1, .ifCond .ge 6273, .iload 1, .iconst 1, .iadd, .iconst 10000, .isub, .ireturn] := rfl
theorem al_6273 : aP.1 (Int.toNat 6273) = [.aload 0, .aload 0, .getfield 8, .invokestatic 25, .aload 0, .getfield 24, .istore 2, .aload 0, .getfield 18, .istore 3, .iconst 0, .istore 4, .jsr 6274] := rfl
theorem al_6274 : aP.1 (Int.toNat 6274) = [.iload 4, .aload 0, .getfield 18, .if_icmp .ge 6275, .aload 0, .getfield 55, .iload 4, .aload 0, .getfield 16, .iload 4, .iaload, .iastore, .iinc 4 (1), .goto 6274] := rfl
theorem al_6275 : aP.1 (Int.toNat 6275) = [.aload 0, .aload 0, .getfield 17, .aload 0, .getfield 19, .invokestatic 21, .aload 0, .aload 0, .getfield 8, .invokestatic 25, .aload 0, .aload 0, .getfield 55, .iload 3, .invokestatic 21, .aload 0, .iconst 0, .putfield 1, .aload 0, .aload 0, .getfield 24, .i2l, .invokestatic 43, .aload 0, .iload 2, .i2l, .invokestatic 43, .aload 0, .invokestatic 58, .ireturn] := rfl
theorem am_98 : aP.2.1 98 = (6272, 1, 5, 5, some 0, none) := rfl
theorem ae_99 : aP.1 (aP.2.1 99).1 = [.aload 0, .iconst 0, .putfield 0, .iload 1, .i2l, .ldc2_w 16, .ldc2_w 36, .invokestatic 4, .ifCond .ne 6337, .iconst (-1), .ireturn] := rfl
theorem al_6336 : aP.1 (Int.toNat 6336) = [.aload 0, .iconst 0, .putfield 0, .iload 1, .i2l, .ldc2_w 16, .ldc2_w 36, .invokestatic 4, .ifCond .ne 6337, .iconst (-1), .ireturn] := rfl
theorem al_6337 : aP.1 (Int.toNat 6337) = [.iconst 0, .istore 2, .aload 0, .iconst 0, .putfield 1, .iconst 0, .istore 3, .jsr 6338] := rfl
theorem al_6338 : aP.1 (Int.toNat 6338) = [.iload 3, .iconst 9, .if_icmp .gt 6343, .iconst 0, .istore 4, .jsr 6339] := rfl
theorem al_6339 : aP.1 (Int.toNat 6339) = [.iload 4, .iconst 9, .if_icmp .gt 6342, .iload 3, .iload 4, .iload 1, .invokestatic 100, .ifCond .eq 6341, .iload 4, .iload 3, .iload 1, .invokestatic 100, .ifCond .eq 6341, .iload 2, .ifCond .ne 6340, .aload 0, .iload 3, .i2l, .invokestatic 43, .aload 0, .iload 4, .i2l, .invokestatic 43, .jsr 6340] := rfl
theorem al_6340 : aP.1 (Int.toNat 6340) = [.iinc 2 (1), .jsr 6341] := rfl
theorem al_6341 : aP.1 (Int.toNat 6341) = [.iinc 4 (1), .goto 6339] := rfl
theorem al_6342 : aP.1 (Int.toNat 6342) = [.iinc 3 (1), .goto 6338] := rfl
theorem al_6343 : aP.1 (Int.toNat 6343) = [.iload 2, .ireturn] := rfl
theorem am_99 : aP.2.1 99 = (6336, 2, 5, 3, some 0, none) := rfl
theorem ae_100 : aP.1 (aP.2.1 100).1 = [.iconst 1, .istore 3, .iconst 0, .istore 4, .jsr 6401] := rfl
theorem al_6400 : aP.1 (Int.toNat 6400) = [.iconst 1, .istore 3, .iconst 0, .istore 4, .jsr 6401] := rfl
theorem al_6401 : aP.1 (Int.toNat 6401) = [.iload 4, .iconst 9, .if_icmp .gt 6404, .iload 3, .ifCond .eq 6402, .iload 4, .iload 1, .iload 2, .invokestatic 101, .iload 0, .iload 1, .iload 2, .invokestatic 101, .if_icmp .gt 6402, .iconst 1, .goto 6403] := rfl
theorem al_6402 : aP.1 (Int.toNat 6402) = [.iconst 0, .jsr 6403] := rfl
theorem al_6403 : aP.1 (Int.toNat 6403) = [.istore 3, .iinc 4 (1), .goto 6401] := rfl
theorem al_6404 : aP.1 (Int.toNat 6404) = [.iload 3, .freturn] := rfl
theorem am_100 : aP.2.1 100 = (6400, 3, 5, 2, none, none) := rfl
theorem ae_101 : aP.1 (aP.2.1 101).1 = [.iload 2, .iconst 9, .iload 0, .iload 1, .iadd, .invokedynamic 5, .imul, .iconst 9, .idiv, .iconst 2, .iload 0, .imul, .iconst 3, .idiv, .isub, .iload 0, .iload 1, .if_icmp .le 6465, .iconst 1, .goto 6466] := rfl
theorem al_6464 : aP.1 (Int.toNat 6464) = [.iload 2, .iconst 9, .iload 0, .iload 1, .iadd, .invokedynamic 5, .imul, .iconst 9, .idiv, .iconst 2, .iload 0, .imul, .iconst 3, .idiv, .isub, .iload 0, .iload 1, .if_icmp .le 6465, .iconst 1, .goto 6466] := rfl
theorem al_6465 : aP.1 (Int.toNat 6465) = [.iconst 0, .jsr 6466] := rfl
theorem al_6466 : aP.1 (Int.toNat 6466) = [.invokestatic 17, .isub, .ireturn] := rfl
theorem am_101 : aP.2.1 101 = (6464, 3, 3, 1, none, none) := rfl
theorem ae_102 : aP.1 (aP.2.1 102).1 = [.aload 0, .iconst 0, .putfield 0, .iload 2, .i2l, .ldc2_w 17, .ldc2_w 76, .invokestatic 4, .ifCond .ne 6529, .iconst (-1), .ireturn] := rfl
theorem al_6528 : aP.1 (Int.toNat 6528) = [.aload 0, .iconst 0, .putfield 0, .iload 2, .i2l, .ldc2_w 17, .ldc2_w 76, .invokestatic 4, .ifCond .ne 6529, .iconst (-1), .ireturn] := rfl
theorem al_6529 : aP.1 (Int.toNat 6529) = [.aload 0, .iload 1, .putfield 56, .aload 0, .invokestatic 60, .iconst 0, .istore 3, .iconst 0, .istore 4, .jsr 6530] := rfl
theorem al_6530 : aP.1 (Int.toNat 6530) = [.iload 4, .iload 2, .if_icmp .ge 6534, .aload 0, .iconst 4, .invokestatic 103, .istore 5, .iload 5, .iconst 2, .if_icmp .ge 6531, .iload 3, .aload 0, .aload 0, .getfield 9, .iconst 1, .invokestatic 40, .iadd, .istore 3, .goto 6533] := rfl
theorem al_6531 : aP.1 (Int.toNat 6531) = [.aload 0, .aload 0, .invokestatic 10, .invokestatic 103, .istore 6, .iload 5, .iconst 2, .if_icmp .ne 6532, .aload 0, .aload 0, .getfield 9, .iload 6, .iconst 1, .aload 0, .iconst 3, .invokestatic 103, .iadd, .invokestatic 46, .pop, .goto 6533] := rfl
theorem al_6532 : aP.1 (Int.toNat 6532) = [.aload 0, .aload 0, .getfield 9, .iload 6, .invokestatic 51, .pop, .jsr 6533] := rfl
theorem al_6533 : aP.1 (Int.toNat 6533) = [.iinc 4 (1), .goto 6530] := rfl
theorem al_6534 : aP.1 (Int.toNat 6534) = [.aload 0, .iconst 0, .putfield 1, .aload 0, .aload 0, .aload 0, .getfield 9, .iconst 0, .invokestatic 36, .i2l, .invokestatic 43, .aload 0, .aload 0, .getfield 9, .iconst 110, .iaload, .i2l, .invokestatic 43, .iload 3, .ireturn] := rfl
theorem am_102 : aP.2.1 102 = (6528, 3, 7, 7, some 0, none) := rfl
theorem ae_103 : aP.1 (aP.2.1 103).1 = [.aload 0, .aload 0, .getfield 56, .iconst 1103515245, .imul, .iconst 12345, .iadd, .putfield 56, .aload 0, .getfield 56, .iconst 16, .iushr, .iload 1, .irem, .ireturn] := rfl
theorem al_6592 : aP.1 (Int.toNat 6592) = [.aload 0, .aload 0, .getfield 56, .iconst 1103515245, .imul, .iconst 12345, .iadd, .putfield 56, .aload 0, .getfield 56, .iconst 16, .iushr, .iload 1, .irem, .ireturn] := rfl
theorem am_103 : aP.2.1 103 = (6592, 2, 2, 0, some 0, none) := rfl
theorem ae_104 : aP.1 (aP.2.1 104).1 = [.aload 0, .iconst 0, .putfield 0, .iload 1, .i2l, .ldc2_w 16, .ldc2_w 18, .invokestatic 4, .ifCond .ne 6657, .iconst 0, .freturn] := rfl
theorem al_6656 : aP.1 (Int.toNat 6656) = [.aload 0, .iconst 0, .putfield 0, .iload 1, .i2l, .ldc2_w 16, .ldc2_w 18, .invokestatic 4, .ifCond .ne 6657, .iconst 0, .freturn] := rfl
theorem al_6657 : aP.1 (Int.toNat 6657) = [.aload 0, .getfield 57, .iload 1, .iconst 1, .bastore, .aload 0, .getfield 58, .iload 1, .aload 0, .getfield 5, .iastore, .iconst 0, .istore 2, .jsr 6658] := rfl
theorem al_6658 : aP.1 (Int.toNat 6658) = [.iload 2, .iconst 111, .if_icmp .ge 6659, .aload 0, .getfield 59, .iconst 111, .iload 1, .imul, .iload 2, .iadd, .aload 0, .getfield 8, .iload 2, .iaload, .iastore, .iinc 2 (1), .goto 6658] := rfl
theorem al_6659 : aP.1 (Int.toNat 6659) = [.iconst 1, .freturn] := rfl
theorem am_104 : aP.2.1 104 = (6656, 2, 3, 1, some 0, none) := rfl
theorem ae_105 : aP.1 (aP.2.1 105).1 = [.aload 0, .iconst 0, .putfield 0, .iload 1, .i2l, .ldc2_w 16, .ldc2_w 18, .invokestatic 4, .ifCond .eq 6721, .aload 0, .getfield 57, .iload 1, .baload, .ifCond .eq 6721, .aload 0, .getfield 58, .iload 1, .iaload, .aload 0, .getfield 5, .if_icmp .eq 6722, .jsr 6721] := rfl
theorem al_6720 : aP.1 (Int.toNat 6720) = [.aload 0, .iconst 0, .putfield 0, .iload 1, .i2l, .ldc2_w 16, .ldc2_w 18, .invokestatic 4, .ifCond .eq 6721, .aload 0, .getfield 57, .iload 1, .baload, .ifCond .eq 6721, .aload 0, .getfield 58, .iload 1, .iaload, .aload 0, .getfield 5, .if_icmp .eq 6722, .jsr 6721] := rfl
theorem al_6721 : aP.1 (Int.toNat 6721) = [.iconst 0, .freturn] := rfl
theorem al_6722 : aP.1 (Int.toNat 6722) = [.iconst 0, .istore 2, .jsr 6723] := rfl
theorem al_6723 : aP.1 (Int.toNat 6723) = [.iload 2, .iconst 111, .if_icmp .ge 6724, .aload 0, .getfield 8, .iload 2, .aload 0, .getfield 59, .iconst 111, .iload 1, .imul, .iload 2, .iadd, .iaload, .iastore, .iinc 2 (1), .goto 6723] := rfl
theorem al_6724 : aP.1 (Int.toNat 6724) = [.aload 0, .iconst 0, .putfield 26, .iconst 1, .freturn] := rfl
theorem am_105 : aP.2.1 105 = (6720, 2, 3, 1, some 0, none) := rfl
theorem ae_106 : aP.1 (aP.2.1 106).1 = [.aload 0, .iconst 0, .putfield 0, .iload 1, .tableswitch 6799 (0) (13) #[6785, 6786, 6787, 6788, 6789, 6790, 6791, 6792, 6793, 6794, 6795, 6796, 6797, 6798]] := rfl
theorem al_6784 : aP.1 (Int.toNat 6784) = [.aload 0, .iconst 0, .putfield 0, .iload 1, .tableswitch 6799 (0) (13) #[6785, 6786, 6787, 6788, 6789, 6790, 6791, 6792, 6793, 6794, 6795, 6796, 6797, 6798]] := rfl
theorem al_6785 : aP.1 (Int.toNat 6785) = [.aload 0, .getfield 3, .ireturn] := rfl
theorem al_6786 : aP.1 (Int.toNat 6786) = [.aload 0, .getfield 4, .ireturn] := rfl
theorem al_6787 : aP.1 (Int.toNat 6787) = [.aload 0, .getfield 8, .iconst 108, .iaload, .ireturn] := rfl
theorem al_6788 : aP.1 (Int.toNat 6788) = [.aload 0, .getfield 8, .iconst 109, .iaload, .ireturn] := rfl
theorem al_6789 : aP.1 (Int.toNat 6789) = [.aload 0, .getfield 8, .iconst 110, .iaload, .ireturn] := rfl
theorem al_6790 : aP.1 (Int.toNat 6790) = [.aload 0, .aload 0, .getfield 8, .iconst 0, .invokestatic 36, .ireturn] := rfl
theorem al_6791 : aP.1 (Int.toNat 6791) = [.aload 0, .aload 0, .getfield 8, .iconst 36, .invokestatic 36, .ireturn] := rfl
theorem al_6792 : aP.1 (Int.toNat 6792) = [.aload 0, .aload 0, .getfield 8, .iconst 72, .invokestatic 36, .ireturn] := rfl
theorem al_6793 : aP.1 (Int.toNat 6793) = [.aload 0, .aload 0, .getfield 8, .iconst 109, .iaload, .invokestatic 31, .ireturn] := rfl
theorem al_6794 : aP.1 (Int.toNat 6794) = [.aload 0, .getfield 46, .ireturn] := rfl
theorem al_6795 : aP.1 (Int.toNat 6795) = [.aload 0, .getfield 51, .ireturn] := rfl
theorem al_6796 : aP.1 (Int.toNat 6796) = [.aload 0, .getfield 26, .ireturn] := rfl
theorem al_6797 : aP.1 (Int.toNat 6797) = [.aload 0, .getfield 1, .ireturn] := rfl
theorem al_6798 : aP.1 (Int.toNat 6798) = [.aload 0, .getfield 11, .ireturn] := rfl
theorem al_6799 : aP.1 (Int.toNat 6799) = [.iconst (-100), .ireturn] := rfl
theorem am_106 : aP.2.1 106 = (6784, 2, 2, 2, some 0, none) := rfl
theorem ae_107 : aP.1 (aP.2.1 107).1 = [.aload 0, .iconst 0, .putfield 0, .iload 1, .i2l, .ldc2_w 16, .aload 0, .getfield 1, .iconst 1, .isub, .i2l, .invokestatic 4, .ifCond .ne 6849, .aload 0, .iconst 1, .putfield 0, .ldc2_w 16, .lreturn] := rfl
theorem al_6848 : aP.1 (Int.toNat 6848) = [.aload 0, .iconst 0, .putfield 0, .iload 1, .i2l, .ldc2_w 16, .aload 0, .getfield 1, .iconst 1, .isub, .i2l, .invokestatic 4, .ifCond .ne 6849, .aload 0, .iconst 1, .putfield 0, .ldc2_w 16, .lreturn] := rfl
theorem al_6849 : aP.1 (Int.toNat 6849) = [.aload 0, .getfield 2, .iload 1, .laload, .lreturn] := rfl
theorem am_107 : aP.2.1 107 = (6848, 2, 2, 1, some 0, none) := rfl
theorem ae_120 : aP.1 (aP.2.1 120).1 = [.iload 0, .iconst (-1), .ixor, .iload 0, .iconst 1, .isub, .iand, .istore 0, .iload 0, .ifCond .gt 7681, .iload 0, .iconst 32, .iand, .ireturn] := rfl
theorem al_7680 : aP.1 (Int.toNat 7680) = [.iload 0, .iconst (-1), .ixor, .iload 0, .iconst 1, .isub, .iand, .istore 0, .iload 0, .ifCond .gt 7681, .iload 0, .iconst 32, .iand, .ireturn] := rfl
theorem al_7681 : aP.1 (Int.toNat 7681) = [.iconst 1, .istore 1, .iload 0, .iconst 65536, .if_icmp .le 7682, .iinc 1 (16), .iload 0, .iconst 16, .iushr, .istore 0, .jsr 7682] := rfl
theorem al_7682 : aP.1 (Int.toNat 7682) = [.iload 0, .iconst 256, .if_icmp .le 7683, .iinc 1 (8), .iload 0, .iconst 8, .iushr, .istore 0, .jsr 7683] := rfl
theorem al_7683 : aP.1 (Int.toNat 7683) = [.iload 0, .iconst 16, .if_icmp .le 7684, .iinc 1 (4), .iload 0, .iconst 4, .iushr, .istore 0, .jsr 7684] := rfl
theorem al_7684 : aP.1 (Int.toNat 7684) = [.iload 0, .iconst 4, .if_icmp .le 7685, .iinc 1 (2), .iload 0, .iconst 2, .iushr, .istore 0, .jsr 7685] := rfl
theorem al_7685 : aP.1 (Int.toNat 7685) = [.iload 1, .iload 0, .iconst 1, .iushr, .iadd, .ireturn] := rfl
theorem am_120 : aP.2.1 120 = (7680, 1, 2, 0, none, none) := rfl
theorem ae_121 : aP.1 (aP.2.1 121).1 = [.iload 0, .iload 0, .iconst 1, .iushr, .iconst 1431655765, .iand, .isub, .istore 0, .iload 0, .iconst 858993459, .iand, .iload 0, .iconst 2, .iushr, .iconst 858993459, .iand, .iadd, .istore 0, .iload 0, .iload 0, .iconst 4, .iushr, .iadd, .iconst 252645135, .iand, .istore 0, .iload 0, .iload 0, .iconst 8, .iushr, .iadd, .istore 0, .iload 0, .iload 0, .iconst 16, .iushr, .iadd, .istore 0, .iload 0, .iconst 63, .iand, .ireturn] := rfl
theorem al_7744 : aP.1 (Int.toNat 7744) = [.iload 0, .iload 0, .iconst 1, .iushr, .iconst 1431655765, .iand, .isub, .istore 0, .iload 0, .iconst 858993459, .iand, .iload 0, .iconst 2, .iushr, .iconst 858993459, .iand, .iadd, .istore 0, .iload 0, .iload 0, .iconst 4, .iushr, .iadd, .iconst 252645135, .iand, .istore 0, .iload 0, .iload 0, .iconst 8, .iushr, .iadd, .istore 0, .iload 0, .iload 0, .iconst 16, .iushr, .iadd, .istore 0, .iload 0, .iconst 63, .iand, .ireturn] := rfl
theorem am_121 : aP.2.1 121 = (7744, 1, 1, 0, none, none) := rfl
theorem ae_122 : aP.1 (aP.2.1 122).1 = [.lload 0, .lload 0, .iconst 1, .lushr, .ldc2_w 6148914691236517221, .land, .lsub, .lstore 0, .lload 0, .ldc2_w 3689348814741910339, .land, .lload 0, .iconst 2, .lushr, .ldc2_w 3689348814741910339, .land, .ladd, .lstore 0, .lload 0, .lload 0, .iconst 4, .lushr, .ladd, .ldc2_w 1085102592571150111, .land, .lstore 0, .lload 0, .lload 0, .iconst 8, .lushr, .ladd, .lstore 0, .lload 0, .lload 0, .iconst 16, .lushr, .ladd, .lstore 0, .lload 0, .lload 0, .iconst 32, .lushr, .ladd, .lstore 0, .lload 0, .l2i, .iconst 127, .iand, .ireturn] := rfl
theorem al_7808 : aP.1 (Int.toNat 7808) = [.lload 0, .lload 0, .iconst 1, .lushr, .ldc2_w 6148914691236517221, .land, .lsub, .lstore 0, .lload 0, .ldc2_w 3689348814741910339, .land, .lload 0, .iconst 2, .lushr, .ldc2_w 3689348814741910339, .land, .ladd, .lstore 0, .lload 0, .lload 0, .iconst 4, .lushr, .ladd, .ldc2_w 1085102592571150111, .land, .lstore 0, .lload 0, .lload 0, .iconst 8, .lushr, .ladd, .lstore 0, .lload 0, .lload 0, .iconst 16, .lushr, .ladd, .lstore 0, .lload 0, .lload 0, .iconst 32, .lushr, .ladd, .lstore 0, .lload 0, .l2i, .iconst 127, .iand, .ireturn] := rfl
theorem am_122 : aP.2.1 122 = (7808, 1, 2, 0, none, none) := rfl
theorem ae_123 : aP.1 (aP.2.1 123).1 = [.lload 0, .l2i, .istore 2, .iload 2, .ifCond .ne 7873, .iconst 32, .lload 0, .iconst 32, .lushr, .l2i, .invokestatic 120, .iadd, .goto 7874] := rfl
theorem al_7872 : aP.1 (Int.toNat 7872) = [.lload 0, .l2i, .istore 2, .iload 2, .ifCond .ne 7873, .iconst 32, .lload 0, .iconst 32, .lushr, .l2i, .invokestatic 120, .iadd, .goto 7874] := rfl
theorem al_7873 : aP.1 (Int.toNat 7873) = [.iload 2, .invokestatic 120, .jsr 7874] := rfl
theorem al_7874 : aP.1 (Int.toNat 7874) = [.ireturn] := rfl
theorem am_123 : aP.2.1 123 = (7872, 1, 3, 1, none, none) := rfl
theorem ae_124 : aP.1 (aP.2.1 124).1 = [.iconst 0, .istore 2, .aload 0, .arraylength, .istore 3, .jsr 7937] := rfl
theorem al_7936 : aP.1 (Int.toNat 7936) = [.iconst 0, .istore 2, .aload 0, .arraylength, .istore 3, .jsr 7937] := rfl
theorem al_7937 : aP.1 (Int.toNat 7937) = [.iload 2, .iload 3, .if_icmp .ge 7938, .aload 0, .iload 2, .iload 1, .iastore, .iinc 2 (1), .goto 7937] := rfl
theorem al_7938 : aP.1 (Int.toNat 7938) = [.return_] := rfl
theorem am_124 : aP.2.1 124 = (7936, 2, 4, 0, none, none) := rfl
theorem ae_125 : aP.1 (aP.2.1 125).1 = [.iconst 0, .istore 3, .aload 0, .arraylength, .istore 4, .jsr 8001] := rfl
theorem al_8000 : aP.1 (Int.toNat 8000) = [.iconst 0, .istore 3, .aload 0, .arraylength, .istore 4, .jsr 8001] := rfl
theorem al_8001 : aP.1 (Int.toNat 8001) = [.iload 3, .iload 4, .if_icmp .ge 8002, .aload 0, .iload 3, .lload 1, .lastore, .iinc 3 (1), .goto 8001] := rfl
theorem al_8002 : aP.1 (Int.toNat 8002) = [.return_] := rfl
theorem am_125 : aP.2.1 125 = (8000, 2, 5, 0, none, none) := rfl
theorem ae_140 : aP.1 (aP.2.1 140).1 = [.new 1, .dup, .invokestatic 150, .astore 1, .new 0, .dup, .invokestatic 0, .astore 2, .iconst 1, .newarray .long, .astore 3, .iconst 0, .istore 4, .jsr 8961] := rfl
theorem al_8960 : aP.1 (Int.toNat 8960) = [.new 1, .dup, .invokestatic 150, .astore 1, .new 0, .dup, .invokestatic 0, .astore 2, .iconst 1, .newarray .long, .astore 3, .iconst 0, .istore 4, .jsr 8961] := rfl
theorem al_8961 : aP.1 (Int.toNat 8961) = [.iload 4, .aload 0, .arraylength, .iconst 5, .isub, .if_icmp .gt 9014, .aload 0, .iload 4, .iaload, .iconst 63, .iand, .tableswitch 9013 (0) (44) #[8962, 8963, 8964, 8965, 8966, 8967, 8970, 8973, 8974, 8975, 8976, 8977, 8978, 8979, 8980, 8981, 8982, 8983, 8984, 8985, 8986, 8987, 8988, 8989, 8990, 8991, 8992, 8993, 8994, 8995, 8996, 8997, 8998, 8999, 9000, 9001, 9002, 9003, 9004, 9005, 9006, 9007, 9008, 9009, 9010]] := rfl
theorem al_8962 : aP.1 (Int.toNat 8962) = [.aload 1, .aload 0, .iload 4, .iconst 1, .iadd, .iaload, .invokestatic 151, .aload 2, .aload 0, .iload 4, .iconst 1, .iadd, .iaload, .invokestatic 2, .if_icmp .eq 9013, .iconst 0, .freturn] := rfl
theorem al_8963 : aP.1 (Int.toNat 8963) = [.aload 1, .aload 0, .iload 4, .iconst 1, .iadd, .iaload, .invokestatic 152, .aload 2, .aload 0, .iload 4, .iconst 1, .iadd, .iaload, .invokestatic 3, .if_icmp .eq 9013, .iconst 0, .freturn] := rfl
theorem al_8964 : aP.1 (Int.toNat 8964) = [.aload 1, .invokestatic 153, .aload 2, .invokestatic 5, .if_icmp .eq 9013, .iconst 0, .freturn] := rfl
theorem al_8965 : aP.1 (Int.toNat 8965) = [.aload 1, .invokestatic 156, .aload 2, .invokestatic 11, .if_icmp .eq 9013, .iconst 0, .freturn] := rfl
theorem al_8966 : aP.1 (Int.toNat 8966) = [.aload 1, .invokestatic 157, .aload 2, .invokestatic 12, .if_icmp .eq 9013, .iconst 0, .freturn] := rfl
theorem al_8967 : aP.1 (Int.toNat 8967) = [.aload 1, .aload 0, .iload 4, .iconst 1, .iadd, .iaload, .aload 0, .iload 4, .iconst 2, .iadd, .iaload, .aload 3, .invokestatic 141, .istore 5, .aload 2, .aload 0, .iload 4, .iconst 1, .iadd, .iaload, .aload 0, .iload 4, .iconst 2, .iadd, .iaload, .invokestatic 22, .istore 6, .aload 2, .invokestatic 1, .iload 5, .if_icmp .eq 8968, .iconst 0, .freturn] := rfl
theorem al_8968 : aP.1 (Int.toNat 8968) = [.iload 5, .ifCond .ne 8969, .aload 3, .iconst 0, .laload, .iload 6, .i2l, .lcmp, .ifCond .eq 8969, .iconst 0, .freturn] := rfl
theorem al_8969 : aP.1 (Int.toNat 8969) = [.goto 9013] := rfl
theorem al_8970 : aP.1 (Int.toNat 8970) = [.aload 1, .aload 0, .iload 4, .iconst 1, .iadd, .iaload, .aload 0, .iload 4, .iconst 2, .iadd, .iaload, .aload 3, .invokestatic 142, .istore 5, .aload 2, .aload 0, .iload 4, .iconst 1, .iadd, .iaload, .aload 0, .iload 4, .iconst 2, .iadd, .iaload, .invokestatic 34, .istore 6, .aload 2, .invokestatic 1, .iload 5, .if_icmp .eq 8971, .iconst 0, .freturn] := rfl
theorem al_8971 : aP.1 (Int.toNat 8971) = [.iload 5, .ifCond .ne 8972, .aload 3, .iconst 0, .laload, .iload 6, .i2l, .lcmp, .ifCond .eq 8972, .iconst 0, .freturn] := rfl
theorem al_8972 : aP.1 (Int.toNat 8972) = [.goto 9013] := rfl
theorem al_8973 : aP.1 (Int.toNat 8973) = [.aload 1, .aload 0, .iload 4, .iconst 1, .iadd, .iaload, .aload 0, .iload 4, .iconst 2, .iadd, .iaload, .aload 0, .iload 4, .iconst 3, .iadd, .iaload, .aload 0, .iload 4, .iconst 4, .iadd, .iaload, .invokestatic 158, .aload 2, .aload 0, .iload 4, .iconst 1, .iadd, .iaload, .aload 0, .iload 4, .iconst 2, .iadd, .iaload, .aload 0, .iload 4, .iconst 3, .iadd, .iaload, .aload 0, .iload 4, .iconst 4, .iadd, .iaload, .invokestatic 35, .if_icmp .eq 9013, .iconst 0, .freturn] := rfl
theorem al_8974 : aP.1 (Int.toNat 8974) = [.aload 1, .aload 0, .iload 4, .iconst 1, .iadd, .iaload, .invokestatic 160, .aload 2, .aload 0, .iload 4, .iconst 1, .iadd, .iaload, .invokestatic 38, .if_icmp .eq 9013, .iconst 0, .freturn] := rfl
theorem al_8975 : aP.1 (Int.toNat 8975) = [.aload 1, .aload 0, .iload 4, .iconst 1, .iadd, .iaload, .aload 0, .iload 4, .iconst 2, .iadd, .iaload, .invokestatic 162, .aload 2, .aload 0, .iload 4, .iconst 1, .iadd, .iaload, .aload 0, .iload 4, .iconst 2, .iadd, .iaload, .invokestatic 45, .if_icmp .eq 9013, .iconst 0, .freturn] := rfl
theorem al_8976 : aP.1 (Int.toNat 8976) = [.aload 1, .aload 0, .iload 4, .iconst 1, .iadd, .iaload, .aload 0, .iload 4, .iconst 2, .iadd, .iaload, .invokestatic 165, .aload 2, .aload 0, .iload 4, .iconst 1, .iadd, .iaload, .aload 0, .iload 4, .iconst 2, .iadd, .iaload, .invokestatic 48, .if_icmp .eq 9013, .iconst 0, .freturn] := rfl
theorem al_8977 : aP.1 (Int.toNat 8977) = [.aload 1, .aload 0, .iload 4, .iconst 1, .iadd, .iaload, .invokestatic 167, .aload 2, .aload 0, .iload 4, .iconst 1, .iadd, .iaload, .invokestatic 50, .if_icmp .eq 9013, .iconst 0, .freturn] := rfl
theorem al_8978 : aP.1 (Int.toNat 8978) = [.aload 1, .aload 0, .iload 4, .iconst 1, .iadd, .iaload, .invokestatic 169, .aload 2, .aload 0, .iload 4, .iconst 1, .iadd, .iaload, .invokestatic 52, .if_icmp .eq 9013, .iconst 0, .freturn] := rfl
theorem al_8979 : aP.1 (Int.toNat 8979) = [.aload 1, .invokestatic 171, .aload 2, .invokestatic 54, .if_icmp .eq 9013, .iconst 0, .freturn] := rfl
theorem al_8980 : aP.1 (Int.toNat 8980) = [.aload 1, .invokestatic 175, .aload 2, .invokestatic 37, .if_icmp .eq 9013, .iconst 0, .freturn] := rfl
theorem al_8981 : aP.1 (Int.toNat 8981) = [.aload 1, .invokestatic 176, .aload 2, .invokestatic 57, .if_icmp .eq 9013, .iconst 0, .freturn] := rfl
theorem al_8982 : aP.1 (Int.toNat 8982) = [.aload 1, .aload 0, .iload 4, .iconst 1, .iadd, .iaload, .invokestatic 177, .aload 2, .aload 0, .iload 4, .iconst 1, .iadd, .iaload, .invokestatic 59, .if_icmp .eq 9013, .iconst 0, .freturn] := rfl
theorem al_8983 : aP.1 (Int.toNat 8983) = [.aload 1, .invokestatic 178, .aload 2, .invokestatic 61, .if_icmp .eq 9013, .iconst 0, .freturn] := rfl
theorem al_8984 : aP.1 (Int.toNat 8984) = [.aload 1, .aload 0, .iload 4, .iconst 1, .iadd, .iaload, .invokestatic 179, .aload 2, .aload 0, .iload 4, .iconst 1, .iadd, .iaload, .invokestatic 62, .if_icmp .eq 9013, .iconst 0, .freturn] := rfl
theorem al_8985 : aP.1 (Int.toNat 8985) = [.aload 1, .aload 0, .iload 4, .iconst 1, .iadd, .iaload, .invokestatic 181, .aload 2, .aload 0, .iload 4, .iconst 1, .iadd, .iaload, .invokestatic 65, .if_icmp .eq 9013, .iconst 0, .freturn] := rfl
theorem al_8986 : aP.1 (Int.toNat 8986) = [.aload 1, .aload 0, .iload 4, .iconst 1, .iadd, .iaload, .invokestatic 182, .aload 2, .aload 0, .iload 4, .iconst 1, .iadd, .iaload, .invokestatic 66, .lcmp, .ifCond .eq 9013, .iconst 0, .freturn] := rfl
theorem al_8987 : aP.1 (Int.toNat 8987) = [.aload 1, .aload 0, .iload 4, .iconst 1, .iadd, .iaload, .invokestatic 183, .aload 2, .aload 0, .iload 4, .iconst 1, .iadd, .iaload, .invokestatic 68, .if_icmp .eq 9013, .iconst 0, .freturn] := rfl
theorem al_8988 : aP.1 (Int.toNat 8988) = [.aload 1, .invokestatic 186, .aload 2, .invokestatic 71, .if_icmp .eq 9013, .iconst 0, .freturn] := rfl
theorem al_8989 : aP.1 (Int.toNat 8989) = [.aload 1, .invokestatic 187, .aload 2, .invokestatic 72, .if_icmp .eq 9013, .iconst 0, .freturn] := rfl
theorem al_8990 : aP.1 (Int.toNat 8990) = [.aload 1, .invokestatic 188, .aload 2, .invokestatic 73, .if_icmp .eq 9013, .iconst 0, .freturn] := rfl
theorem al_8991 : aP.1 (Int.toNat 8991) = [.aload 1, .invokestatic 190, .aload 2, .invokestatic 74, .if_icmp .eq 9013, .iconst 0, .freturn] := rfl
theorem al_8992 : aP.1 (Int.toNat 8992) = [.aload 1, .aload 0, .iload 4, .iconst 1, .iadd, .iaload, .invokestatic 191, .aload 2, .aload 0, .iload 4, .iconst 1, .iadd, .iaload, .invokestatic 76, .if_icmp .eq 9013, .iconst 0, .freturn] := rfl
theorem al_8993 : aP.1 (Int.toNat 8993) = [.aload 1, .aload 0, .iload 4, .iconst 1, .iadd, .iaload, .invokestatic 193, .aload 2, .aload 0, .iload 4, .iconst 1, .iadd, .iaload, .invokestatic 79, .if_icmp .eq 9013, .iconst 0, .freturn] := rfl
theorem al_8994 : aP.1 (Int.toNat 8994) = [.aload 1, .invokestatic 194, .aload 2, .invokestatic 81, .if_icmp .eq 9013, .iconst 0, .freturn] := rfl
theorem al_8995 : aP.1 (Int.toNat 8995) = [.aload 1, .aload 0, .iload 4, .iconst 1, .iadd, .iaload, .aload 0, .iload 4, .iconst 2, .iadd, .iaload, .aload 0, .iload 4, .iconst 3, .iadd, .iaload, .invokestatic 197, .aload 2, .aload 0, .iload 4, .iconst 1, .iadd, .iaload, .aload 0, .iload 4, .iconst 2, .iadd, .iaload, .aload 0, .iload 4, .iconst 3, .iadd, .iaload, .invokestatic 85, .if_icmp .eq 9013, .iconst 0, .freturn] := rfl
theorem al_8996 : aP.1 (Int.toNat 8996) = [.aload 1, .invokestatic 198, .aload 2, .invokestatic 86, .if_icmp .eq 9013, .iconst 0, .freturn] := rfl
theorem al_8997 : aP.1 (Int.toNat 8997) = [.aload 1, .invokestatic 199, .aload 2, .invokestatic 87, .if_icmp .eq 9013, .iconst 0, .freturn] := rfl
theorem al_8998 : aP.1 (Int.toNat 8998) = [.aload 1, .aload 0, .iload 4, .iconst 1, .iadd, .iaload, .invokestatic 203, .aload 2, .aload 0, .iload 4, .iconst 1, .iadd, .iaload, .invokestatic 90, .if_icmp .eq 9013, .iconst 0, .freturn] := rfl
theorem al_8999 : aP.1 (Int.toNat 8999) = [.aload 1, .aload 0, .iload 4, .iconst 1, .iadd, .iaload, .aload 0, .iload 4, .iconst 2, .iadd, .iaload, .invokestatic 205, .aload 2, .aload 0, .iload 4, .iconst 1, .iadd, .iaload, .aload 0, .iload 4, .iconst 2, .iadd, .iaload, .invokestatic 91, .if_icmp .eq 9013, .iconst 0, .freturn] := rfl
theorem al_9000 : aP.1 (Int.toNat 9000) = [.aload 1, .invokestatic 206, .aload 2, .invokestatic 92, .if_icmp .eq 9013, .iconst 0, .freturn] := rfl
theorem al_9001 : aP.1 (Int.toNat 9001) = [.aload 1, .invokestatic 207, .aload 2, .invokestatic 93, .if_icmp .eq 9013, .iconst 0, .freturn] := rfl
theorem al_9002 : aP.1 (Int.toNat 9002) = [.aload 1, .aload 0, .iload 4, .iconst 1, .iadd, .iaload, .aload 0, .iload 4, .iconst 2, .iadd, .iaload, .invokestatic 210, .aload 2, .aload 0, .iload 4, .iconst 1, .iadd, .iaload, .aload 0, .iload 4, .iconst 2, .iadd, .iaload, .invokestatic 95, .if_icmp .eq 9013, .iconst 0, .freturn] := rfl
theorem al_9003 : aP.1 (Int.toNat 9003) = [.aload 1, .aload 0, .iload 4, .iconst 1, .iadd, .iaload, .aload 0, .iload 4, .iconst 2, .iadd, .iaload, .aload 0, .iload 4, .iconst 3, .iadd, .iaload, .invokestatic 211, .aload 2, .aload 0, .iload 4, .iconst 1, .iadd, .iaload, .aload 0, .iload 4, .iconst 2, .iadd, .iaload, .aload 0, .iload 4, .iconst 3, .iadd, .iaload, .invokestatic 96, .if_icmp .eq 9013, .iconst 0, .freturn] := rfl
theorem al_9004 : aP.1 (Int.toNat 9004) = [.aload 1, .invokestatic 214, .aload 2, .invokestatic 98, .if_icmp .eq 9013, .iconst 0, .freturn] := rfl
theorem al_9005 : aP.1 (Int.toNat 9005) = [.aload 1, .aload 0, .iload 4, .iconst 1, .iadd, .iaload, .invokestatic 215, .aload 2, .aload 0, .iload 4, .iconst 1, .iadd, .iaload, .invokestatic 99, .if_icmp .eq 9013, .iconst 0, .freturn] := rfl
theorem al_9006 : aP.1 (Int.toNat 9006) = [.aload 1, .aload 0, .iload 4, .iconst 1, .iadd, .iaload, .aload 0, .iload 4, .iconst 2, .iadd, .iaload, .invokestatic 218, .aload 2, .aload 0, .iload 4, .iconst 1, .iadd, .iaload, .aload 0, .iload 4, .iconst 2, .iadd, .iaload, .invokestatic 102, .if_icmp .eq 9013, .iconst 0, .freturn] := rfl
theorem al_9007 : aP.1 (Int.toNat 9007) = [.aload 1, .aload 0, .iload 4, .iconst 1, .iadd, .iaload, .invokestatic 221, .aload 2, .aload 0, .iload 4, .iconst 1, .iadd, .iaload, .invokestatic 104, .if_icmp .eq 9013, .iconst 0, .freturn] := rfl
theorem al_9008 : aP.1 (Int.toNat 9008) = [.aload 1, .aload 0, .iload 4, .iconst 1, .iadd, .iaload, .invokestatic 222, .aload 2, .aload 0, .iload 4, .iconst 1, .iadd, .iaload, .invokestatic 105, .if_icmp .eq 9013, .iconst 0, .freturn] := rfl
theorem al_9009 : aP.1 (Int.toNat 9009) = [.aload 1, .aload 0, .iload 4, .iconst 1, .iadd, .iaload, .invokestatic 223, .aload 2, .aload 0, .iload 4, .iconst 1, .iadd, .iaload, .invokestatic 106, .if_icmp .eq 9013, .iconst 0, .freturn] := rfl
theorem al_9010 : aP.1 (Int.toNat 9010) = [.aload 1, .aload 0, .iload 4, .iconst 1, .iadd, .iaload, .aload 3, .invokestatic 143, .istore 5, .aload 2, .aload 0, .iload 4, .iconst 1, .iadd, .iaload, .invokestatic 107, .lstore 6, .aload 2, .invokestatic 1, .iload 5, .if_icmp .eq 9011, .iconst 0, .freturn] := rfl
theorem al_9011 : aP.1 (Int.toNat 9011) = [.iload 5, .ifCond .ne 9012, .aload 3, .iconst 0, .laload, .lload 6, .lcmp, .ifCond .eq 9012, .iconst 0, .freturn] := rfl
theorem al_9012 : aP.1 (Int.toNat 9012) = [.goto 9013] := rfl
theorem al_9013 : aP.1 (Int.toNat 9013) = [.iinc 4 (5), .goto 8961] := rfl
theorem al_9014 : aP.1 (Int.toNat 9014) = [.iconst 1, .freturn] := rfl
theorem am_140 : aP.2.1 140 = (8960, 1, 8, 9, none, none) := rfl
theorem ae_141 : aP.1 (aP.2.1 141).1 = [.aload 3, .iconst 0, .aload 0, .iload 1, .iload 2, .invokestatic 225, .i2l, .lastore, .goto 9026] := rfl
theorem al_9024 : aP.1 (Int.toNat 9024) = [.aload 3, .iconst 0, .aload 0, .iload 1, .iload 2, .invokestatic 225, .i2l, .lastore, .goto 9026] := rfl
theorem al_9025 : aP.1 (Int.toNat 9025) = [.astore 4, .iconst 1, .ireturn] := rfl
theorem al_9026 : aP.1 (Int.toNat 9026) = [.iconst 0, .ireturn] := rfl
theorem am_141 : aP.2.1 141 = (9024, 4, 5, 6, some 1, some 225) := rfl
theorem ae_142 : aP.1 (aP.2.1 142).1 = [.aload 3, .iconst 0, .aload 0, .iload 1, .iload 2, .invokestatic 226, .i2l, .lastore, .goto 9090] := rfl
theorem al_9088 : aP.1 (Int.toNat 9088) = [.aload 3, .iconst 0, .aload 0, .iload 1, .iload 2, .invokestatic 226, .i2l, .lastore, .goto 9090] := rfl
theorem al_9089 : aP.1 (Int.toNat 9089) = [.astore 4, .iconst 1, .ireturn] := rfl
theorem al_9090 : aP.1 (Int.toNat 9090) = [.iconst 0, .ireturn] := rfl
theorem am_142 : aP.2.1 142 = (9088, 4, 5, 3, some 1, some 226) := rfl
theorem ae_143 : aP.1 (aP.2.1 143).1 = [.aload 2, .iconst 0, .aload 0, .iload 1, .invokestatic 227, .lastore, .goto 9154] := rfl
theorem al_9152 : aP.1 (Int.toNat 9152) = [.aload 2, .iconst 0, .aload 0, .iload 1, .invokestatic 227, .lastore, .goto 9154] := rfl
theorem al_9153 : aP.1 (Int.toNat 9153) = [.astore 3, .iconst 1, .ireturn] := rfl
theorem al_9154 : aP.1 (Int.toNat 9154) = [.iconst 0, .ireturn] := rfl
theorem am_143 : aP.2.1 143 = (9152, 3, 4, 1, some 1, some 227) := rfl
theorem ae_150 : aP.1 (aP.2.1 150).1 = [.aload 0, .invokedynamic 0, .aload 0, .new 11, .dup, .invokestatic 284, .putfield 448, .aload 0, .new 12, .dup, .invokestatic 291, .putfield 449, .aload 0, .new 4, .dup, .invokestatic 239, .putfield 450, .aload 0, .new 2, .dup, .invokestatic 228, .putfield 451, .aload 0, .new 8, .dup, .invokestatic 265, .putfield 452, .aload 0, .new 8, .dup, .invokestatic 265, .putfield 453, .aload 0, .new 9, .dup, .invokestatic 268, .putfield 454, .aload 0, .new 10, .dup, .invokestatic 280, .putfield 455, .aload 0, .new 10, .dup, .invokestatic 280, .putfield 456, .aload 0, .new 10, .dup, .invokestatic 280, .putfield 457, .aload 0, .new 7, .dup, .aload 0, .getfield 66, .aload 0, .getfield 67, .aload 0, .getfield 71, .aload 0, .getfield 68, .invokestatic 253, .putfield 458, .aload 0, .new 6, .dup, .invokestatic 249, .putfield 459, .aload 0, .iconst 3, .anewarray 10, .putfield 460, .aload 0, .new 5, .dup, .invokestatic 245, .putfield 462, .aload 0, .new 5, .dup, .invokestatic 245, .putfield 463, .aload 0, .new 3, .dup, .invokestatic 231, .putfield 464, .aload 0, .iconst 126, .newarray .long, .putfield 465, .aload 0, .iconst 61, .newarray .int, .putfield 466, .aload 0, .iconst 13, .newarray .long, .putfield 467, .iconst 0, .istore 1, .jsr 9601] := rfl
theorem al_9600 : aP.1 (Int.toNat 9600) = [.aload 0, .invokedynamic 0, .aload 0, .new 11, .dup, .invokestatic 284, .putfield 448, .aload 0, .new 12, .dup, .invokestatic 291, .putfield 449, .aload 0, .new 4, .dup, .invokestatic 239, .putfield 450, .aload 0, .new 2, .dup, .invokestatic 228, .putfield 451, .aload 0, .new 8, .dup, .invokestatic 265, .putfield 452, .aload 0, .new 8, .dup, .invokestatic 265, .putfield 453, .aload 0, .new 9, .dup, .invokestatic 268, .putfield 454, .aload 0, .new 10, .dup, .invokestatic 280, .putfield 455, .aload 0, .new 10, .dup, .invokestatic 280, .putfield 456, .aload 0, .new 10, .dup, .invokestatic 280, .putfield 457, .aload 0, .new 7, .dup, .aload 0, .getfield 66, .aload 0, .getfield 67, .aload 0, .getfield 71, .aload 0, .getfield 68, .invokestatic 253, .putfield 458, .aload 0, .new 6, .dup, .invokestatic 249, .putfield 459, .aload 0, .iconst 3, .anewarray 10, .putfield 460, .aload 0, .new 5, .dup, .invokestatic 245, .putfield 462, .aload 0, .new 5, .dup, .invokestatic 245, .putfield 463, .aload 0, .new 3, .dup, .invokestatic 231, .putfield 464, .aload 0, .iconst 126, .newarray .long, .putfield 465, .aload 0, .iconst 61, .newarray .int, .putfield 466, .aload 0, .iconst 13, .newarray .long, .putfield 467, .iconst 0, .istore 1, .jsr 9601] := rfl
theorem al_9601 : aP.1 (Int.toNat 9601) = [.iload 1, .iconst 3, .if_icmp .ge 9602, .aload 0, .getfield 76, .iload 1, .new 10, .dup, .invokestatic 280, .aastore, .iinc 1 (1), .goto 9601] := rfl
theorem al_9602 : aP.1 (Int.toNat 9602) = [.return_] := rfl
theorem am_150 : aP.2.1 150 = (9600, 1, 2, 2, some 999, none) := rfl
theorem ae_151 : aP.1 (aP.2.1 151).1 = [.aload 0, .getfield 64, .iload 1, .invokestatic 285, .ireturn] := rfl
theorem al_9664 : aP.1 (Int.toNat 9664) = [.aload 0, .getfield 64, .iload 1, .invokestatic 285, .ireturn] := rfl
theorem am_151 : aP.2.1 151 = (9664, 2, 2, 1, some 1, none) := rfl
theorem ae_152 : aP.1 (aP.2.1 152).1 = [.aload 0, .getfield 64, .iload 1, .invokestatic 286, .freturn] := rfl
theorem al_9728 : aP.1 (Int.toNat 9728) = [.aload 0, .getfield 64, .iload 1, .invokestatic 286, .freturn] := rfl
theorem am_152 : aP.2.1 152 = (9728, 2, 2, 1, some 1, none) := rfl
theorem ae_153 : aP.1 (aP.2.1 153).1 = [.aload 0, .invokestatic 154, .istore 1, .iload 1, .iconst (-1), .if_icmp .ne 9793, .aload 0, .invokestatic 155, .jsr 9793] := rfl
theorem al_9792 : aP.1 (Int.toNat 9792) = [.aload 0, .invokestatic 154, .istore 1, .iload 1, .iconst (-1), .if_icmp .ne 9793, .aload 0, .invokestatic 155, .jsr 9793] := rfl
theorem al_9793 : aP.1 (Int.toNat 9793) = [.aload 0, .getfield 64, .invokestatic 289, .iload 1, .iconst (-1), .if_icmp .ne 9794, .aload 0, .getfield 66, .getfield 258, .goto 9795] := rfl
theorem al_9794 : aP.1 (Int.toNat 9794) = [.iconst (-1), .iload 1, .isub, .jsr 9795] := rfl
theorem al_9795 : aP.1 (Int.toNat 9795) = [.ireturn] := rfl
theorem am_153 : aP.2.1 153 = (9792, 1, 2, 3, some 1, none) := rfl
theorem ae_154 : aP.1 (aP.2.1 154).1 = [.iconst 0, .istore 1, .jsr 9857] := rfl
theorem al_9856 : aP.1 (Int.toNat 9856) = [.iconst 0, .istore 1, .jsr 9857] := rfl
theorem al_9857 : aP.1 (Int.toNat 9857) = [.iload 1, .iconst 2, .if_icmp .ge 9860, .aload 0, .getfield 64, .iload 1, .invokestatic 287, .istore 2, .iload 2, .iconst 2, .if_icmp .lt 9858, .iload 2, .iconst 6, .if_icmp .le 9859, .jsr 9858] := rfl
theorem al_9858 : aP.1 (Int.toNat 9858) = [.iload 1, .ireturn] := rfl
theorem al_9859 : aP.1 (Int.toNat 9859) = [.iinc 1 (1), .goto 9857] := rfl
theorem al_9860 : aP.1 (Int.toNat 9860) = [.iconst 2, .aload 0, .getfield 64, .iconst 0, .invokestatic 287, .aload 0, .getfield 64, .iconst 1, .invokestatic 287, .imul, .iadd, .istore 1, .iconst 2, .istore 2, .jsr 9861] := rfl
theorem al_9861 : aP.1 (Int.toNat 9861) = [.iload 2, .iload 1, .if_icmp .ge 9863, .aload 0, .getfield 64, .iload 2, .invokestatic 287, .iconst (-1), .if_icmp .ne 9862, .iload 2, .ireturn] := rfl
theorem al_9862 : aP.1 (Int.toNat 9862) = [.iinc 2 (1), .goto 9861] := rfl
theorem al_9863 : aP.1 (Int.toNat 9863) = [.aload 0, .getfield 64, .getfield 705, .iload 1, .if_icmp .le 9864, .iload 1, .goto 9865] := rfl
theorem al_9864 : aP.1 (Int.toNat 9864) = [.iconst (-1), .jsr 9865] := rfl
theorem al_9865 : aP.1 (Int.toNat 9865) = [.ireturn] := rfl
theorem am_154 : aP.2.1 154 = (9856, 1, 3, 2, some 1, none) := rfl
theorem ae_155 : aP.1 (aP.2.1 155).1 = [.aload 0, .getfield 66, .aload 0, .getfield 64, .iconst 0, .invokestatic 287, .aload 0, .getfield 64, .iconst 1, .invokestatic 287, .invokestatic 240, .aload 0, .getfield 71, .invokestatic 281, .iconst 0, .istore 1, .jsr 9921] := rfl
theorem al_9920 : aP.1 (Int.toNat 9920) = [.aload 0, .getfield 66, .aload 0, .getfield 64, .iconst 0, .invokestatic 287, .aload 0, .getfield 64, .iconst 1, .invokestatic 287, .invokestatic 240, .aload 0, .getfield 71, .invokestatic 281, .iconst 0, .istore 1, .jsr 9921] := rfl
theorem al_9921 : aP.1 (Int.toNat 9921) = [.iload 1, .aload 0, .getfield 66, .getfield 258, .if_icmp .ge 9922, .aload 0, .getfield 71, .getfield 640, .iload 1, .aload 0, .getfield 64, .iconst 2, .iload 1, .iadd, .invokestatic 287, .iastore, .iinc 1 (1), .goto 9921] := rfl
theorem al_9922 : aP.1 (Int.toNat 9922) = [.aload 0, .getfield 75, .invokestatic 250, .aload 0, .iconst 0, .putfield 269, .aload 0, .getfield 78, .iconst 0, .putfield 1283, .aload 0, .getfield 79, .iconst 0, .putfield 1283, .return_] := rfl
theorem am_155 : aP.2.1 155 = (9920, 1, 2, 2, some 1, none) := rfl
theorem ae_156 : aP.1 (aP.2.1 156).1 = [.aload 0, .getfield 64, .iconst 48, .iconst 20, .invokestatic 290, .istore 1, .iconst (-1), .iload 1, .isub, .istore 2, .iload 1, .iconst (-1), .if_icmp .ne 9985, .aload 0, .getfield 67, .aload 0, .getfield 64, .invokestatic 229, .aload 0, .getfield 64, .getfield 705, .istore 2, .jsr 9985] := rfl
theorem al_9984 : aP.1 (Int.toNat 9984) = [.aload 0, .getfield 64, .iconst 48, .iconst 20, .invokestatic 290, .istore 1, .iconst (-1), .iload 1, .isub, .istore 2, .iload 1, .iconst (-1), .if_icmp .ne 9985, .aload 0, .getfield 67, .aload 0, .getfield 64, .invokestatic 229, .aload 0, .getfield 64, .getfield 705, .istore 2, .jsr 9985] := rfl
theorem al_9985 : aP.1 (Int.toNat 9985) = [.aload 0, .getfield 64, .invokestatic 289, .iload 2, .ireturn] := rfl
theorem am_156 : aP.2.1 156 = (9984, 1, 3, 3, some 1, none) := rfl
theorem ae_157 : aP.1 (aP.2.1 157).1 = [.aload 0, .getfield 70, .aload 0, .getfield 64, .aload 0, .getfield 68, .invokestatic 269, .istore 1, .aload 0, .getfield 64, .invokestatic 289, .iload 1, .iconst (-1), .if_icmp .ne 10049, .iconst 0, .goto 10050] := rfl
theorem al_10048 : aP.1 (Int.toNat 10048) = [.aload 0, .getfield 70, .aload 0, .getfield 64, .aload 0, .getfield 68, .invokestatic 269, .istore 1, .aload 0, .getfield 64, .invokestatic 289, .iload 1, .iconst (-1), .if_icmp .ne 10049, .iconst 0, .goto 10050] := rfl
theorem al_10049 : aP.1 (Int.toNat 10049) = [.iconst (-1), .iload 1, .isub, .jsr 10050] := rfl
theorem al_10050 : aP.1 (Int.toNat 10050) = [.ireturn] := rfl
theorem am_157 : aP.2.1 157 = (10048, 1, 2, 5, some 1, none) := rfl
theorem ae_158 : aP.1 (aP.2.1 158).1 = [.iload 1, .ifCond .lt 10113, .iload 1, .iconst 3, .if_icmp .gt 10113, .iload 2, .iconst 36, .if_icmp .le 10114, .jsr 10113] := rfl
theorem al_10112 : aP.1 (Int.toNat 10112) = [.iload 1, .ifCond .lt 10113, .iload 1, .iconst 3, .if_icmp .gt 10113, .iload 2, .iconst 36, .if_icmp .le 10114, .jsr 10113] := rfl
theorem al_10113 : aP.1 (Int.toNat 10113) = [.iconst (-1), .ireturn] := rfl
theorem al_10114 : aP.1 (Int.toNat 10114) = [.iload 1, .iconst 3, .if_icmp .ge 10115, .iload 2, .ifCond .ge 10115, .iconst (-2), .ireturn] := rfl
theorem al_10115 : aP.1 (Int.toNat 10115) = [.iload 1, .iconst 3, .if_icmp .ne 10116, .iconst 0, .goto 10117] := rfl
theorem al_10116 : aP.1 (Int.toNat 10116) = [.iload 2, .jsr 10117] := rfl
theorem al_10117 : aP.1 (Int.toNat 10117) = [.istore 5, .iload 3, .istore 6, .iconst 0, .istore 7, .jsr 10118] := rfl
theorem al_10118 : aP.1 (Int.toNat 10118) = [.iload 7, .aload 0, .getfield 66, .getfield 258, .if_icmp .ge 10121, .aload 0, .getfield 71, .getfield 640, .iload 7, .iload 7, .iload 5, .if_icmp .ge 10119, .iload 1, .iload 6, .invokestatic 159, .goto 10120] := rfl
theorem al_10119 : aP.1 (Int.toNat 10119) = [.iconst 0, .jsr 10120] := rfl
theorem al_10120 : aP.1 (Int.toNat 10120) = [.iastore, .iload 6, .iload 4, .iadd, .istore 6, .iinc 7 (1), .goto 10118] := rfl
theorem al_10121 : aP.1 (Int.toNat 10121) = [.iload 1, .iconst 3, .if_icmp .ne 10122, .iconst (-3), .goto 10123] := rfl
theorem al_10122 : aP.1 (Int.toNat 10122) = [.aload 0, .getfield 71, .invokestatic 282, .jsr 10123] := rfl
theorem al_10123 : aP.1 (Int.toNat 10123) = [.ireturn] := rfl
theorem am_158 : aP.2.1 158 = (10112, 5, 8, 1, some 1, none) := rfl
theorem ae_159 : aP.1 (aP.2.1 159).1 = [.iload 0, .ifCond .ne 10177, .iload 1, .i2b, .goto 10179] := rfl
theorem al_10176 : aP.1 (Int.toNat 10176) = [.iload 0, .ifCond .ne 10177, .iload 1, .i2b, .goto 10179] := rfl
theorem al_10177 : aP.1 (Int.toNat 10177) = [.iload 0, .iconst 1, .if_icmp .ne 10178, .iload 1, .i2s, .goto 10179] := rfl
theorem al_10178 : aP.1 (Int.toNat 10178) = [.iload 1, .jsr 10179] := rfl
theorem al_10179 : aP.1 (Int.toNat 10179) = [.istore 2, .iconst 0, .iconst 9, .iload 2, .invokedynamic 5, .invokedynamic 6, .ireturn] := rfl
theorem am_159 : aP.2.1 159 = (10176, 2, 3, 0, none, none) := rfl
theorem ae_160 : aP.1 (aP.2.1 160).1 = [.iload 1, .ifCond .lt 10241, .iload 1, .iconst 60, .if_icmp .le 10242, .jsr 10241] := rfl
theorem al_10240 : aP.1 (Int.toNat 10240) = [.iload 1, .ifCond .lt 10241, .iload 1, .iconst 60, .if_icmp .le 10242, .jsr 10241] := rfl
theorem al_10241 : aP.1 (Int.toNat 10241) = [.iconst (-1), .ireturn] := rfl
theorem al_10242 : aP.1 (Int.toNat 10242) = [.aload 0, .getfield 72, .aload 0, .getfield 71, .invokestatic 283, .aload 0, .getfield 74, .aload 0, .getfield 71, .aload 0, .getfield 68, .iload 1, .invokestatic 254, .istore 2, .aload 0, .getfield 75, .aload 0, .getfield 72, .invokestatic 251, .aload 0, .getfield 65, .invokestatic 292, .aload 0, .getfield 65, .aload 0, .getfield 71, .invokestatic 282, .i2l, .invokestatic 293, .aload 0, .getfield 65, .aload 0, .getfield 71, .getfield 642, .invokestatic 122, .i2l, .invokestatic 293, .iload 2, .ireturn] := rfl
theorem am_160 : aP.2.1 160 = (10240, 2, 3, 5, some 1, none) := rfl
theorem ae_161 : aP.1 (aP.2.1 161).1 = [.lload 0, .iload 2, .lushr, .ldc2_w 17, .land, .l2i, .ireturn] := rfl
theorem al_10304 : aP.1 (Int.toNat 10304) = [.lload 0, .iload 2, .lushr, .ldc2_w 17, .land, .l2i, .ireturn] := rfl
theorem am_161 : aP.2.1 161 = (10304, 2, 3, 0, none, none) := rfl
theorem ae_162 : aP.1 (aP.2.1 162).1 = [.aload 0, .getfield 72, .aload 0, .getfield 71, .invokestatic 283, .aload 0, .aload 0, .aload 0, .getfield 71, .iload 1, .iload 2, .invokestatic 163, .invokestatic 164, .ireturn] := rfl
theorem al_10368 : aP.1 (Int.toNat 10368) = [.aload 0, .getfield 72, .aload 0, .getfield 71, .invokestatic 283, .aload 0, .aload 0, .aload 0, .getfield 71, .iload 1, .iload 2, .invokestatic 163, .invokestatic 164, .ireturn] := rfl
theorem am_162 : aP.2.1 162 = (10368, 3, 3, 3, some 1, none) := rfl
theorem ae_163 : aP.1 (aP.2.1 163).1 = [.aload 0, .getfield 66, .iload 2, .invokestatic 242, .ifCond .eq 10433, .iload 3, .iconst 1, .if_icmp .lt 10433, .iload 3, .iconst 9, .if_icmp .le 10434, .jsr 10433] := rfl
theorem al_10432 : aP.1 (Int.toNat 10432) = [.aload 0, .getfield 66, .iload 2, .invokestatic 242, .ifCond .eq 10433, .iload 3, .iconst 1, .if_icmp .lt 10433, .iload 3, .iconst 9, .if_icmp .le 10434, .jsr 10433] := rfl
theorem al_10433 : aP.1 (Int.toNat 10433) = [.iconst (-1), .ireturn] := rfl
theorem al_10434 : aP.1 (Int.toNat 10434) = [.aload 1, .getfield 640, .iload 2, .iaload, .iload 3, .if_icmp .ge 10435, .iconst (-2), .ireturn] := rfl
theorem al_10435 : aP.1 (Int.toNat 10435) = [.aload 1, .getfield 640, .iload 2, .dup2, .iaload, .iload 3, .isub, .iastore, .aload 1, .getfield 640, .iload 2, .iaload, .ireturn] := rfl
theorem am_163 : aP.2.1 163 = (10432, 4, 4, 1, some 1, none) := rfl
theorem ae_164 : aP.1 (aP.2.1 164).1 = [.iload 1, .ifCond .lt 10497, .aload 0, .getfield 75, .aload 0, .getfield 72, .invokestatic 251, .jsr 10497] := rfl
theorem al_10496 : aP.1 (Int.toNat 10496) = [.iload 1, .ifCond .lt 10497, .aload 0, .getfield 75, .aload 0, .getfield 72, .invokestatic 251, .jsr 10497] := rfl
theorem al_10497 : aP.1 (Int.toNat 10497) = [.iload 1, .ireturn] := rfl
theorem am_164 : aP.2.1 164 = (10496, 2, 2, 2, some 1, none) := rfl
theorem ae_165 : aP.1 (aP.2.1 165).1 = [.aload 0, .getfield 72, .aload 0, .getfield 71, .invokestatic 283, .aload 0, .aload 0, .iload 1, .iload 2, .invokestatic 166, .invokestatic 164, .ireturn] := rfl
theorem al_10560 : aP.1 (Int.toNat 10560) = [.aload 0, .getfield 72, .aload 0, .getfield 71, .invokestatic 283, .aload 0, .aload 0, .iload 1, .iload 2, .invokestatic 166, .invokestatic 164, .ireturn] := rfl
theorem am_165 : aP.2.1 165 = (10560, 3, 3, 3, some 1, none) := rfl
theorem ae_166 : aP.1 (aP.2.1 166).1 = [.aload 0, .getfield 66, .iload 1, .invokestatic 242, .ifCond .eq 10625, .iload 2, .iconst 1, .if_icmp .lt 10625, .iload 2, .iconst 9, .if_icmp .le 10626, .jsr 10625] := rfl
theorem al_10624 : aP.1 (Int.toNat 10624) = [.aload 0, .getfield 66, .iload 1, .invokestatic 242, .ifCond .eq 10625, .iload 2, .iconst 1, .if_icmp .lt 10625, .iload 2, .iconst 9, .if_icmp .le 10626, .jsr 10625] := rfl
theorem al_10625 : aP.1 (Int.toNat 10625) = [.iconst (-1), .ireturn] := rfl
theorem al_10626 : aP.1 (Int.toNat 10626) = [.aload 0, .getfield 71, .getfield 640, .iload 1, .iaload, .iload 2, .iadd, .iconst 9, .if_icmp .le 10627, .iconst (-3), .ireturn] := rfl
theorem al_10627 : aP.1 (Int.toNat 10627) = [.aload 0, .getfield 71, .getfield 640, .iload 1, .dup2, .iaload, .iload 2, .iadd, .iastore, .aload 0, .getfield 71, .getfield 640, .iload 1, .iaload, .ireturn] := rfl
theorem am_166 : aP.2.1 166 = (10624, 3, 3, 1, some 1, none) := rfl
theorem ae_167 : aP.1 (aP.2.1 167).1 = [.aload 0, .getfield 72, .aload 0, .getfield 71, .invokestatic 283, .aload 0, .aload 0, .aload 0, .getfield 71, .iload 1, .invokestatic 168, .invokestatic 164, .ireturn] := rfl
theorem al_10688 : aP.1 (Int.toNat 10688) = [.aload 0, .getfield 72, .aload 0, .getfield 71, .invokestatic 283, .aload 0, .aload 0, .aload 0, .getfield 71, .iload 1, .invokestatic 168, .invokestatic 164, .ireturn] := rfl
theorem am_167 : aP.2.1 167 = (10688, 2, 2, 3, some 1, none) := rfl
theorem ae_168 : aP.1 (aP.2.1 168).1 = [.aload 0, .getfield 66, .iload 2, .invokestatic 242, .ifCond .ne 10753, .iconst (-1), .ireturn] := rfl
theorem al_10752 : aP.1 (Int.toNat 10752) = [.aload 0, .getfield 66, .iload 2, .invokestatic 242, .ifCond .ne 10753, .iconst (-1), .ireturn] := rfl
theorem al_10753 : aP.1 (Int.toNat 10753) = [.aload 1, .getfield 641, .iload 2, .invokestatic 161, .ifCond .ne 10754, .aload 1, .getfield 641, .invokestatic 122, .iconst 8, .if_icmp .lt 10754, .iconst (-2), .ireturn] := rfl
theorem al_10754 : aP.1 (Int.toNat 10754) = [.aload 1, .dup, .getfield 641, .ldc2_w 17, .iload 2, .lshl, .lxor, .putfield 2625, .aload 1, .getfield 641, .invokestatic 122, .ireturn] := rfl
theorem am_168 : aP.2.1 168 = (10752, 3, 3, 1, some 1, none) := rfl
theorem ae_169 : aP.1 (aP.2.1 169).1 = [.aload 0, .getfield 72, .aload 0, .getfield 71, .invokestatic 283, .aload 0, .aload 0, .iload 1, .invokestatic 170, .invokestatic 164, .ireturn] := rfl
theorem al_10816 : aP.1 (Int.toNat 10816) = [.aload 0, .getfield 72, .aload 0, .getfield 71, .invokestatic 283, .aload 0, .aload 0, .iload 1, .invokestatic 170, .invokestatic 164, .ireturn] := rfl
theorem am_169 : aP.2.1 169 = (10816, 2, 2, 3, some 1, none) := rfl
theorem ae_170 : aP.1 (aP.2.1 170).1 = [.iload 1, .ifCond .lt 10881, .iload 1, .aload 0, .getfield 66, .getfield 257, .if_icmp .lt 10882, .jsr 10881] := rfl
theorem al_10880 : aP.1 (Int.toNat 10880) = [.iload 1, .ifCond .lt 10881, .iload 1, .aload 0, .getfield 66, .getfield 257, .if_icmp .lt 10882, .jsr 10881] := rfl
theorem al_10881 : aP.1 (Int.toNat 10881) = [.iconst (-1), .ireturn] := rfl
theorem al_10882 : aP.1 (Int.toNat 10882) = [.iload 1, .aload 0, .getfield 71, .getfield 643, .if_icmp .ne 10883, .iconst (-2), .ireturn] := rfl
theorem al_10883 : aP.1 (Int.toNat 10883) = [.aload 0, .getfield 71, .getfield 643, .istore 2, .aload 0, .getfield 71, .iload 1, .putfield 2563, .iload 2, .ireturn] := rfl
theorem am_170 : aP.2.1 170 = (10880, 2, 3, 0, some 1, none) := rfl
theorem ae_171 : aP.1 (aP.2.1 171).1 = [.aload 0, .invokestatic 172, .istore 1, .iload 1, .iconst (-1), .if_icmp .eq 10945, .aload 0, .getfield 64, .invokestatic 289, .iconst (-1), .iload 1, .isub, .ireturn] := rfl
theorem al_10944 : aP.1 (Int.toNat 10944) = [.aload 0, .invokestatic 172, .istore 1, .iload 1, .iconst (-1), .if_icmp .eq 10945, .aload 0, .getfield 64, .invokestatic 289, .iconst (-1), .iload 1, .isub, .ireturn] := rfl
theorem al_10945 : aP.1 (Int.toNat 10945) = [.aload 0, .getfield 72, .aload 0, .getfield 71, .invokestatic 283, .iconst 0, .istore 2, .iconst 0, .istore 3, .iconst 0, .istore 4, .iconst 0, .istore 5, .jsr 10946] := rfl
theorem al_10946 : aP.1 (Int.toNat 10946) = [.iload 5, .iconst 60, .if_icmp .ge 10949, .iload 4, .aload 0, .getfield 64, .getfield 705, .if_icmp .ge 10949, .iload 3, .ifCond .ne 10949, .aload 0, .iload 4, .invokestatic 174, .ifCond .ge 10947, .iconst 1, .istore 3, .goto 10948] := rfl
theorem al_10947 : aP.1 (Int.toNat 10947) = [.iinc 2 (1), .jsr 10948] := rfl
theorem al_10948 : aP.1 (Int.toNat 10948) = [.iload 4, .iconst 1, .aload 0, .getfield 64, .iload 4, .invokestatic 288, .invokestatic 173, .iadd, .iadd, .istore 4, .iinc 5 (1), .goto 10946] := rfl
theorem al_10949 : aP.1 (Int.toNat 10949) = [.iload 2, .ifCond .le 10950, .aload 0, .getfield 75, .aload 0, .getfield 72, .invokestatic 251, .jsr 10950] := rfl
theorem al_10950 : aP.1 (Int.toNat 10950) = [.aload 0, .getfield 64, .invokestatic 289, .aload 0, .getfield 65, .invokestatic 292, .aload 0, .getfield 65, .iload 3, .i2l, .invokestatic 293, .aload 0, .getfield 65, .aload 0, .getfield 71, .getfield 644, .i2l, .invokestatic 293, .iload 2, .ireturn] := rfl
theorem am_171 : aP.2.1 171 = (10944, 1, 6, 6, some 1, none) := rfl
theorem ae_172 : aP.1 (aP.2.1 172).1 = [.aload 0, .getfield 64, .getfield 705, .iconst 60, .invokedynamic 5, .istore 1, .iconst 32, .istore 2, .iconst 0, .istore 3, .iconst 0, .istore 4, .jsr 11009] := rfl
theorem al_11008 : aP.1 (Int.toNat 11008) = [.aload 0, .getfield 64, .getfield 705, .iconst 60, .invokedynamic 5, .istore 1, .iconst 32, .istore 2, .iconst 0, .istore 3, .iconst 0, .istore 4, .jsr 11009] := rfl
theorem al_11009 : aP.1 (Int.toNat 11009) = [.iload 4, .iload 1, .if_icmp .ge 11015, .iload 3, .ifCond .ne 11010, .aload 0, .getfield 64, .iload 4, .invokestatic 288, .istore 2, .iload 2, .invokestatic 173, .istore 3, .iload 3, .ifCond .ne 11014, .iload 4, .ireturn] := rfl
theorem al_11010 : aP.1 (Int.toNat 11010) = [.iload 3, .iconst 1, .if_icmp .ne 11011, .iload 2, .invokestatic 173, .iconst 3, .if_icmp .ne 11011, .iconst 1, .goto 11012] := rfl
theorem al_11011 : aP.1 (Int.toNat 11011) = [.iconst 0, .jsr 11012] := rfl
theorem al_11012 : aP.1 (Int.toNat 11012) = [.istore 5, .aload 0, .getfield 64, .iload 4, .invokestatic 287, .iload 5, .if_icmp .ge 11013, .iload 4, .ireturn] := rfl
theorem al_11013 : aP.1 (Int.toNat 11013) = [.iinc 3 (-1), .jsr 11014] := rfl
theorem al_11014 : aP.1 (Int.toNat 11014) = [.iinc 4 (1), .goto 11009] := rfl
theorem al_11015 : aP.1 (Int.toNat 11015) = [.aload 0, .getfield 64, .getfield 705, .iconst 60, .if_icmp .le 11016, .iconst 60, .ireturn] := rfl
theorem al_11016 : aP.1 (Int.toNat 11016) = [.iload 3, .ifCond .le 11017, .iload 1, .goto 11018] := rfl
theorem al_11017 : aP.1 (Int.toNat 11017) = [.iconst (-1), .jsr 11018] := rfl
theorem al_11018 : aP.1 (Int.toNat 11018) = [.ireturn] := rfl
theorem am_172 : aP.2.1 172 = (11008, 1, 6, 2, some 1, none) := rfl
theorem ae_173 : aP.1 (aP.2.1 173).1 = [.iload 0, .lookupswitch 11076 #[((99), 11075), ((104), 11075), ((110), 11073), ((115), 11073), ((119), 11074)]] := rfl
theorem al_11072 : aP.1 (Int.toNat 11072) = [.iload 0, .lookupswitch 11076 #[((99), 11075), ((104), 11075), ((110), 11073), ((115), 11073), ((119), 11074)]] := rfl
theorem al_11073 : aP.1 (Int.toNat 11073) = [.iconst 1, .ireturn] := rfl
theorem al_11074 : aP.1 (Int.toNat 11074) = [.iconst 2, .ireturn] := rfl
theorem al_11075 : aP.1 (Int.toNat 11075) = [.iconst 3, .ireturn] := rfl
theorem al_11076 : aP.1 (Int.toNat 11076) = [.iconst 0, .ireturn] := rfl
theorem am_173 : aP.2.1 173 = (11072, 1, 1, 0, none, none) := rfl
theorem ae_174 : aP.1 (aP.2.1 174).1 = [.aload 0, .getfield 64, .iload 1, .iconst 1, .iadd, .invokestatic 287, .istore 2, .aload 0, .getfield 66, .iload 2, .aload 0, .getfield 64, .iload 1, .iconst 2, .iadd, .invokestatic 287, .invokestatic 244, .istore 3, .aload 0, .getfield 64, .iload 1, .iconst 3, .iadd, .invokestatic 287, .istore 4, .aload 0, .getfield 64, .iload 1, .invokestatic 288, .lookupswitch 11142 #[((99), 11138), ((104), 11139), ((110), 11137), ((115), 11141), ((119), 11140)]] := rfl
theorem al_11136 : aP.1 (Int.toNat 11136) = [.aload 0, .getfield 64, .iload 1, .iconst 1, .iadd, .invokestatic 287, .istore 2, .aload 0, .getfield 66, .iload 2, .aload 0, .getfield 64, .iload 1, .iconst 2, .iadd, .invokestatic 287, .invokestatic 244, .istore 3, .aload 0, .getfield 64, .iload 1, .iconst 3, .iadd, .invokestatic 287, .istore 4, .aload 0, .getfield 64, .iload 1, .invokestatic 288, .lookupswitch 11142 #[((99), 11138), ((104), 11139), ((110), 11137), ((115), 11141), ((119), 11140)]] := rfl
theorem al_11137 : aP.1 (Int.toNat 11137) = [.aload 0, .getfield 74, .aload 0, .getfield 71, .aload 0, .getfield 68, .iload 2, .invokestatic 254, .ireturn] := rfl
theorem al_11138 : aP.1 (Int.toNat 11138) = [.aload 0, .aload 0, .getfield 71, .iload 3, .iload 4, .invokestatic 163, .ireturn] := rfl
theorem al_11139 : aP.1 (Int.toNat 11139) = [.aload 0, .iload 3, .iload 4, .invokestatic 166, .ireturn] := rfl
theorem al_11140 : aP.1 (Int.toNat 11140) = [.aload 0, .aload 0, .getfield 71, .iload 3, .invokestatic 168, .ireturn] := rfl
theorem al_11141 : aP.1 (Int.toNat 11141) = [.aload 0, .iload 2, .invokestatic 170, .ireturn] := rfl
theorem al_11142 : aP.1 (Int.toNat 11142) = [.iconst (-1), .ireturn] := rfl
theorem am_174 : aP.2.1 174 = (11136, 2, 5, 5, some 1, none) := rfl
theorem ae_175 : aP.1 (aP.2.1 175).1 = [.aload 0, .getfield 75, .aload 0, .getfield 71, .invokestatic 252, .ifCond .eq 11201, .aload 0, .getfield 75, .getfield 386, .goto 11202] := rfl
theorem al_11200 : aP.1 (Int.toNat 11200) = [.aload 0, .getfield 75, .aload 0, .getfield 71, .invokestatic 252, .ifCond .eq 11201, .aload 0, .getfield 75, .getfield 386, .goto 11202] := rfl
theorem al_11201 : aP.1 (Int.toNat 11201) = [.iconst (-1), .jsr 11202] := rfl
theorem al_11202 : aP.1 (Int.toNat 11202) = [.ireturn] := rfl
theorem am_175 : aP.2.1 175 = (11200, 1, 1, 2, some 1, none) := rfl
theorem ae_176 : aP.1 (aP.2.1 176).1 = [.aload 0, .getfield 74, .aload 0, .getfield 71, .aload 0, .getfield 68, .invokestatic 260, .aload 0, .getfield 65, .invokestatic 292, .iconst 0, .istore 1, .jsr 11265] := rfl
theorem al_11264 : aP.1 (Int.toNat 11264) = [.aload 0, .getfield 74, .aload 0, .getfield 71, .aload 0, .getfield 68, .invokestatic 260, .aload 0, .getfield 65, .invokestatic 292, .iconst 0, .istore 1, .jsr 11265] := rfl
theorem al_11265 : aP.1 (Int.toNat 11265) = [.iload 1, .aload 0, .getfield 74, .getfield 457, .if_icmp .ge 11266, .aload 0, .getfield 65, .aload 0, .getfield 74, .getfield 456, .iload 1, .iaload, .i2l, .invokestatic 293, .iinc 1 (1), .goto 11265] := rfl
theorem al_11266 : aP.1 (Int.toNat 11266) = [.aload 0, .getfield 74, .getfield 459, .ireturn] := rfl
theorem am_176 : aP.2.1 176 = (11264, 1, 2, 5, some 1, none) := rfl
theorem ae_177 : aP.1 (aP.2.1 177).1 = [.iload 1, .ifCond .lt 11329, .iload 1, .iconst 99, .if_icmp .le 11330, .jsr 11329] := rfl
theorem al_11328 : aP.1 (Int.toNat 11328) = [.iload 1, .ifCond .lt 11329, .iload 1, .iconst 99, .if_icmp .le 11330, .jsr 11329] := rfl
theorem al_11329 : aP.1 (Int.toNat 11329) = [.iconst (-1), .ireturn] := rfl
theorem al_11330 : aP.1 (Int.toNat 11330) = [.aload 0, .getfield 73, .aload 0, .getfield 71, .invokestatic 283, .aload 0, .getfield 74, .aload 0, .getfield 73, .aload 0, .getfield 68, .iload 1, .invokestatic 254, .pop, .aload 0, .getfield 74, .aload 0, .getfield 73, .aload 0, .getfield 68, .invokestatic 260, .aload 0, .getfield 65, .invokestatic 292, .aload 0, .getfield 65, .aload 0, .getfield 74, .getfield 457, .i2l, .invokestatic 293, .aload 0, .getfield 65, .aload 0, .getfield 73, .invokestatic 282, .i2l, .invokestatic 293, .aload 0, .getfield 74, .getfield 459, .ireturn] := rfl
theorem am_177 : aP.2.1 177 = (11328, 2, 2, 5, some 1, none) := rfl
theorem ae_178 : aP.1 (aP.2.1 178).1 = [.aload 0, .getfield 73, .aload 0, .getfield 71, .invokestatic 283, .iconst 0, .istore 1, .jsr 11393] := rfl
theorem al_11392 : aP.1 (Int.toNat 11392) = [.aload 0, .getfield 73, .aload 0, .getfield 71, .invokestatic 283, .iconst 0, .istore 1, .jsr 11393] := rfl
theorem al_11393 : aP.1 (Int.toNat 11393) = [.iload 1, .iconst 99, .if_icmp .gt 11395, .aload 0, .getfield 74, .aload 0, .getfield 73, .aload 0, .getfield 68, .iconst 1, .invokestatic 254, .pop, .aload 0, .getfield 74, .getfield 459, .iconst (-2), .if_icmp .ne 11394, .aload 0, .getfield 65, .invokestatic 292, .aload 0, .getfield 65, .aload 0, .getfield 74, .getfield 460, .i2l, .invokestatic 293, .iload 1, .ireturn] := rfl
theorem al_11394 : aP.1 (Int.toNat 11394) = [.iinc 1 (1), .goto 11393] := rfl
theorem al_11395 : aP.1 (Int.toNat 11395) = [.iconst (-2), .ireturn] := rfl
theorem am_178 : aP.2.1 178 = (11392, 1, 2, 5, some 1, none) := rfl
theorem ae_179 : aP.1 (aP.2.1 179).1 = [.iload 1, .invokestatic 180, .ifCond .eq 11457, .iconst (-1), .ireturn] := rfl
theorem al_11456 : aP.1 (Int.toNat 11456) = [.iload 1, .invokestatic 180, .ifCond .eq 11457, .iconst (-1), .ireturn] := rfl
theorem al_11457 : aP.1 (Int.toNat 11457) = [.aload 0, .getfield 73, .aload 0, .getfield 71, .invokestatic 283, .aload 0, .getfield 74, .aload 0, .getfield 73, .aload 0, .getfield 68, .iconst 1, .invokestatic 254, .pop, .aload 0, .getfield 74, .invokestatic 261, .iconst 1, .istore 2, .jsr 11458] := rfl
theorem al_11458 : aP.1 (Int.toNat 11458) = [.iload 2, .iload 1, .if_icmp .ge 11460, .aload 0, .getfield 74, .aload 0, .getfield 73, .aload 0, .getfield 68, .iconst 1, .invokestatic 254, .pop, .aload 0, .getfield 74, .invokestatic 262, .ifCond .ne 11459, .aload 0, .getfield 65, .invokestatic 292, .aload 0, .getfield 65, .aload 0, .getfield 74, .getfield 459, .i2l, .invokestatic 293, .iload 2, .ireturn] := rfl
theorem al_11459 : aP.1 (Int.toNat 11459) = [.iinc 2 (1), .goto 11458] := rfl
theorem al_11460 : aP.1 (Int.toNat 11460) = [.iconst (-2), .ireturn] := rfl
theorem am_179 : aP.2.1 179 = (11456, 2, 3, 5, some 1, none) := rfl
theorem ae_180 : aP.1 (aP.2.1 180).1 = [.iload 0, .iconst 1, .if_icmp .lt 11521, .iload 0, .iconst 99, .if_icmp .le 11522, .jsr 11521] := rfl
theorem al_11520 : aP.1 (Int.toNat 11520) = [.iload 0, .iconst 1, .if_icmp .lt 11521, .iload 0, .iconst 99, .if_icmp .le 11522, .jsr 11521] := rfl
theorem al_11521 : aP.1 (Int.toNat 11521) = [.iconst 1, .goto 11523] := rfl
theorem al_11522 : aP.1 (Int.toNat 11522) = [.iconst 0, .jsr 11523] := rfl
theorem al_11523 : aP.1 (Int.toNat 11523) = [.freturn] := rfl
theorem am_180 : aP.2.1 180 = (11520, 1, 1, 0, none, none) := rfl
theorem ae_181 : aP.1 (aP.2.1 181).1 = [.iload 1, .invokestatic 180, .ifCond .eq 11585, .iconst (-1), .ireturn] := rfl
theorem al_11584 : aP.1 (Int.toNat 11584) = [.iload 1, .invokestatic 180, .ifCond .eq 11585, .iconst (-1), .ireturn] := rfl
theorem al_11585 : aP.1 (Int.toNat 11585) = [.aload 0, .getfield 65, .invokestatic 292, .iconst 0, .istore 2, .jsr 11586] := rfl
theorem al_11586 : aP.1 (Int.toNat 11586) = [.iload 2, .aload 0, .getfield 66, .getfield 257, .if_icmp .gt 11587, .aload 0, .getfield 65, .ldc2_w 16, .invokestatic 293, .iinc 2 (1), .goto 11586] := rfl
theorem al_11587 : aP.1 (Int.toNat 11587) = [.iconst 0, .istore 2, .aload 0, .getfield 73, .aload 0, .getfield 71, .invokestatic 283, .iconst 0, .istore 3, .jsr 11588] := rfl
theorem al_11588 : aP.1 (Int.toNat 11588) = [.iload 3, .iload 1, .if_icmp .ge 11591, .aload 0, .getfield 74, .aload 0, .getfield 73, .aload 0, .getfield 68, .iconst 1, .invokestatic 254, .pop, .aload 0, .getfield 74, .getfield 459, .iconst (-2), .if_icmp .ne 11589, .aload 0, .getfield 65, .aload 0, .getfield 66, .getfield 257, .invokestatic 294, .goto 11590] := rfl
theorem al_11589 : aP.1 (Int.toNat 11589) = [.aload 0, .getfield 65, .aload 0, .getfield 74, .getfield 459, .invokestatic 294, .iload 2, .iconst 1, .aload 0, .getfield 74, .getfield 459, .ishl, .ior, .istore 2, .jsr 11590] := rfl
theorem al_11590 : aP.1 (Int.toNat 11590) = [.iinc 3 (1), .goto 11588] := rfl
theorem al_11591 : aP.1 (Int.toNat 11591) = [.iload 2, .ireturn] := rfl
theorem am_181 : aP.2.1 181 = (11584, 2, 4, 5, some 1, none) := rfl
theorem ae_182 : aP.1 (aP.2.1 182).1 = [.iload 1, .invokestatic 180, .ifCond .eq 11649, .ldc2_w 15, .lreturn] := rfl
theorem al_11648 : aP.1 (Int.toNat 11648) = [.iload 1, .invokestatic 180, .ifCond .eq 11649, .ldc2_w 15, .lreturn] := rfl
theorem al_11649 : aP.1 (Int.toNat 11649) = [.aload 0, .getfield 66, .getfield 259, .lstore 2, .aload 0, .getfield 66, .getfield 259, .lstore 4, .aload 0, .getfield 73, .aload 0, .getfield 71, .invokestatic 283, .iconst 0, .istore 6, .jsr 11650] := rfl
theorem al_11650 : aP.1 (Int.toNat 11650) = [.iload 6, .iload 1, .if_icmp .ge 11651, .aload 0, .getfield 74, .aload 0, .getfield 73, .aload 0, .getfield 68, .iconst 1, .invokestatic 254, .pop, .lload 2, .aload 0, .getfield 74, .getfield 458, .ldc2_w 15, .lxor, .land, .lstore 2, .lload 4, .aload 0, .getfield 74, .getfield 458, .land, .lstore 4, .iinc 6 (1), .goto 11650] := rfl
theorem al_11651 : aP.1 (Int.toNat 11651) = [.aload 0, .getfield 65, .invokestatic 292, .aload 0, .getfield 65, .lload 2, .invokestatic 122, .i2l, .invokestatic 293, .aload 0, .getfield 65, .lload 4, .invokestatic 122, .i2l, .invokestatic 293, .lload 2, .lreturn] := rfl
theorem am_182 : aP.2.1 182 = (11648, 2, 7, 5, some 1, none) := rfl
theorem ae_183 : aP.1 (aP.2.1 183).1 = [.iload 1, .ifCond .lt 11713, .iload 1, .aload 0, .getfield 66, .getfield 257, .if_icmp .lt 11714, .jsr 11713] := rfl
theorem al_11712 : aP.1 (Int.toNat 11712) = [.iload 1, .ifCond .lt 11713, .iload 1, .aload 0, .getfield 66, .getfield 257, .if_icmp .lt 11714, .jsr 11713] := rfl
theorem al_11713 : aP.1 (Int.toNat 11713) = [.iconst (-1), .ireturn] := rfl
theorem al_11714 : aP.1 (Int.toNat 11714) = [.aload 0, .iload 1, .invokestatic 184, .ireturn] := rfl
theorem am_183 : aP.2.1 183 = (11712, 2, 2, 6, some 1, none) := rfl
theorem ae_184 : aP.1 (aP.2.1 184).1 = [.aload 0, .getfield 74, .aload 0, .getfield 71, .aload 0, .getfield 68, .invokestatic 255, .iconst 0, .istore 2, .jsr 11777] := rfl
theorem al_11776 : aP.1 (Int.toNat 11776) = [.aload 0, .getfield 74, .aload 0, .getfield 71, .aload 0, .getfield 68, .invokestatic 255, .iconst 0, .istore 2, .jsr 11777] := rfl
theorem al_11777 : aP.1 (Int.toNat 11777) = [.iload 2, .iconst 3, .if_icmp .gt 11779, .aload 0, .getfield 74, .iload 2, .iconst 0, .ldc2_w 16, .iload 1, .invokestatic 185, .lstore 3, .lload 3, .ldc2_w 15, .lcmp, .ifCond .eq 11778, .aload 0, .getfield 65, .invokestatic 292, .aload 0, .getfield 65, .lload 3, .invokestatic 295, .iload 2, .ireturn] := rfl
theorem al_11778 : aP.1 (Int.toNat 11778) = [.iinc 2 (1), .goto 11777] := rfl
theorem al_11779 : aP.1 (Int.toNat 11779) = [.iconst (-2), .ireturn] := rfl
theorem am_184 : aP.2.1 184 = (11776, 2, 5, 5, some 1, none) := rfl
theorem ae_185 : aP.1 (aP.2.1 185).1 = [.aload 0, .aload 0, .getfield 450, .getfield 641, .lload 3, .lor, .invokestatic 256, .iload 1, .ifCond .gt 11843, .aload 0, .getfield 459, .iload 5, .if_icmp .ne 11841, .lload 3, .goto 11842] := rfl
theorem al_11840 : aP.1 (Int.toNat 11840) = [.aload 0, .aload 0, .getfield 450, .getfield 641, .lload 3, .lor, .invokestatic 256, .iload 1, .ifCond .gt 11843, .aload 0, .getfield 459, .iload 5, .if_icmp .ne 11841, .lload 3, .goto 11842] := rfl
theorem al_11841 : aP.1 (Int.toNat 11841) = [.ldc2_w 15, .jsr 11842] := rfl
theorem al_11842 : aP.1 (Int.toNat 11842) = [.lreturn] := rfl
theorem al_11843 : aP.1 (Int.toNat 11843) = [.iload 1, .iconst 1, .if_icmp .ne 11844, .aload 0, .getfield 458, .goto 11845] := rfl
theorem al_11844 : aP.1 (Int.toNat 11844) = [.aload 0, .getfield 448, .getfield 259, .jsr 11845] := rfl
theorem al_11845 : aP.1 (Int.toNat 11845) = [.aload 0, .getfield 450, .getfield 641, .ldc2_w 15, .lxor, .land, .lstore 6, .iload 2, .istore 8, .jsr 11846] := rfl
theorem al_11846 : aP.1 (Int.toNat 11846) = [.iload 8, .aload 0, .getfield 448, .getfield 258, .if_icmp .ge 11849, .iload 8, .aload 0, .getfield 450, .getfield 643, .if_icmp .eq 11848, .lload 6, .iload 8, .invokestatic 161, .ifCond .ne 11847, .goto 11848] := rfl
theorem al_11847 : aP.1 (Int.toNat 11847) = [.aload 0, .iload 1, .iconst 1, .isub, .iload 8, .iconst 1, .iadd, .lload 3, .ldc2_w 17, .iload 8, .lshl, .lor, .iload 5, .invokestatic 185, .lstore 9, .lload 9, .ldc2_w 15, .lcmp, .ifCond .eq 11848, .lload 9, .lreturn] := rfl
theorem al_11848 : aP.1 (Int.toNat 11848) = [.iinc 8 (1), .goto 11846] := rfl
theorem al_11849 : aP.1 (Int.toNat 11849) = [.ldc2_w 15, .lreturn] := rfl
theorem am_185 : aP.2.1 185 = (11840, 5, 11, 4, none, none) := rfl
theorem ae_186 : aP.1 (aP.2.1 186).1 = [.aload 0, .iconst (-2), .invokestatic 184, .ireturn] := rfl
theorem al_11904 : aP.1 (Int.toNat 11904) = [.aload 0, .iconst (-2), .invokestatic 184, .ireturn] := rfl
theorem am_186 : aP.2.1 186 = (11904, 1, 1, 6, some 1, none) := rfl
theorem ae_187 : aP.1 (aP.2.1 187).1 = [.aload 0, .getfield 74, .aload 0, .getfield 71, .aload 0, .getfield 68, .invokestatic 260, .aload 0, .getfield 74, .getfield 457, .istore 1, .iconst (-1), .istore 2, .iconst 0, .istore 3, .iconst 0, .istore 4, .jsr 11969] := rfl
theorem al_11968 : aP.1 (Int.toNat 11968) = [.aload 0, .getfield 74, .aload 0, .getfield 71, .aload 0, .getfield 68, .invokestatic 260, .aload 0, .getfield 74, .getfield 457, .istore 1, .iconst (-1), .istore 2, .iconst 0, .istore 3, .iconst 0, .istore 4, .jsr 11969] := rfl
theorem al_11969 : aP.1 (Int.toNat 11969) = [.iload 4, .aload 0, .getfield 66, .getfield 258, .if_icmp .ge 11973, .iload 4, .aload 0, .getfield 71, .getfield 643, .if_icmp .eq 11972, .aload 0, .getfield 71, .getfield 641, .iload 4, .invokestatic 161, .iconst 1, .if_icmp .ne 11970, .goto 11972] := rfl
theorem al_11970 : aP.1 (Int.toNat 11970) = [.aload 0, .getfield 74, .aload 0, .getfield 71, .getfield 641, .ldc2_w 17, .iload 4, .lshl, .lor, .invokestatic 256, .iload 2, .iconst (-1), .if_icmp .eq 11971, .aload 0, .getfield 74, .getfield 457, .iload 3, .if_icmp .le 11972, .jsr 11971] := rfl
theorem al_11971 : aP.1 (Int.toNat 11971) = [.iload 4, .istore 2, .aload 0, .getfield 74, .getfield 457, .istore 3, .jsr 11972] := rfl
theorem al_11972 : aP.1 (Int.toNat 11972) = [.iinc 4 (1), .goto 11969] := rfl
theorem al_11973 : aP.1 (Int.toNat 11973) = [.iload 2, .iconst (-1), .if_icmp .ne 11974, .iconst (-2), .ireturn] := rfl
theorem al_11974 : aP.1 (Int.toNat 11974) = [.aload 0, .getfield 65, .invokestatic 292, .aload 0, .getfield 65, .iload 3, .i2l, .invokestatic 293, .aload 0, .getfield 65, .iload 1, .i2l, .invokestatic 293, .iload 2, .ireturn] := rfl
theorem am_187 : aP.2.1 187 = (11968, 1, 5, 5, some 1, none) := rfl
theorem ae_188 : aP.1 (aP.2.1 188).1 = [.aload 0, .getfield 74, .aload 0, .getfield 71, .aload 0, .getfield 68, .invokestatic 260, .aload 0, .getfield 74, .invokestatic 261, .aload 0, .getfield 74, .getfield 458, .aload 0, .getfield 66, .aload 0, .getfield 74, .getfield 458, .invokestatic 243, .lor, .lstore 1, .aload 0, .getfield 73, .aload 0, .getfield 71, .invokestatic 283, .iconst 1, .istore 3, .jsr 12033] := rfl
theorem al_12032 : aP.1 (Int.toNat 12032) = [.aload 0, .getfield 74, .aload 0, .getfield 71, .aload 0, .getfield 68, .invokestatic 260, .aload 0, .getfield 74, .invokestatic 261, .aload 0, .getfield 74, .getfield 458, .aload 0, .getfield 66, .aload 0, .getfield 74, .getfield 458, .invokestatic 243, .lor, .lstore 1, .aload 0, .getfield 73, .aload 0, .getfield 71, .invokestatic 283, .iconst 1, .istore 3, .jsr 12033] := rfl
theorem al_12033 : aP.1 (Int.toNat 12033) = [.iload 3, .iconst 9, .if_icmp .gt 12037, .iconst 0, .istore 4, .jsr 12034] := rfl
theorem al_12034 : aP.1 (Int.toNat 12034) = [.iload 4, .aload 0, .getfield 66, .getfield 258, .if_icmp .ge 12036, .lload 1, .iload 4, .invokestatic 161, .iconst 1, .if_icmp .ne 12035, .aload 0, .iload 4, .iload 3, .invokestatic 189, .ifCond .eq 12035, .aload 0, .getfield 65, .invokestatic 292, .aload 0, .getfield 65, .iload 4, .i2l, .invokestatic 293, .iload 3, .ireturn] := rfl
theorem al_12035 : aP.1 (Int.toNat 12035) = [.iinc 4 (1), .goto 12034] := rfl
theorem al_12036 : aP.1 (Int.toNat 12036) = [.iinc 3 (1), .goto 12033] := rfl
theorem al_12037 : aP.1 (Int.toNat 12037) = [.iconst (-2), .ireturn] := rfl
theorem am_188 : aP.2.1 188 = (12032, 1, 5, 6, some 1, none) := rfl
theorem ae_189 : aP.1 (aP.2.1 189).1 = [.aload 0, .getfield 71, .getfield 640, .iload 1, .iaload, .iload 2, .if_icmp .ge 12097, .iconst 0, .freturn] := rfl
theorem al_12096 : aP.1 (Int.toNat 12096) = [.aload 0, .getfield 71, .getfield 640, .iload 1, .iaload, .iload 2, .if_icmp .ge 12097, .iconst 0, .freturn] := rfl
theorem al_12097 : aP.1 (Int.toNat 12097) = [.aload 0, .getfield 73, .getfield 640, .iload 1, .aload 0, .getfield 71, .getfield 640, .iload 1, .iaload, .iload 2, .isub, .iastore, .aload 0, .getfield 74, .aload 0, .getfield 73, .aload 0, .getfield 68, .invokestatic 260, .aload 0, .getfield 73, .getfield 640, .iload 1, .aload 0, .getfield 71, .getfield 640, .iload 1, .iaload, .iastore, .aload 0, .getfield 74, .invokestatic 262, .ifCond .ne 12098, .iconst 1, .goto 12099] := rfl
theorem al_12098 : aP.1 (Int.toNat 12098) = [.iconst 0, .jsr 12099] := rfl
theorem al_12099 : aP.1 (Int.toNat 12099) = [.freturn] := rfl
theorem am_189 : aP.2.1 189 = (12096, 3, 3, 5, some 1, none) := rfl
theorem ae_190 : aP.1 (aP.2.1 190).1 = [.aload 0, .getfield 74, .aload 0, .getfield 71, .aload 0, .getfield 68, .invokestatic 260, .aload 0, .getfield 65, .invokestatic 292, .aload 0, .getfield 65, .aload 0, .getfield 74, .invokestatic 263, .i2l, .invokestatic 293, .aload 0, .getfield 74, .invokestatic 264, .ireturn] := rfl
theorem al_12160 : aP.1 (Int.toNat 12160) = [.aload 0, .getfield 74, .aload 0, .getfield 71, .aload 0, .getfield 68, .invokestatic 260, .aload 0, .getfield 65, .invokestatic 292, .aload 0, .getfield 65, .aload 0, .getfield 74, .invokestatic 263, .i2l, .invokestatic 293, .aload 0, .getfield 74, .invokestatic 264, .ireturn] := rfl
theorem am_190 : aP.2.1 190 = (12160, 1, 1, 5, some 1, none) := rfl
theorem ae_191 : aP.1 (aP.2.1 191).1 = [.iload 1, .iconst 1, .if_icmp .lt 12225, .iload 1, .iconst 20, .if_icmp .le 12226, .jsr 12225] := rfl
theorem al_12224 : aP.1 (Int.toNat 12224) = [.iload 1, .iconst 1, .if_icmp .lt 12225, .iload 1, .iconst 20, .if_icmp .le 12226, .jsr 12225] := rfl
theorem al_12225 : aP.1 (Int.toNat 12225) = [.iconst (-100), .goto 12227] := rfl
theorem al_12226 : aP.1 (Int.toNat 12226) = [.aload 0, .iload 1, .invokestatic 192, .jsr 12227] := rfl
theorem al_12227 : aP.1 (Int.toNat 12227) = [.istore 2, .aload 0, .getfield 64, .invokestatic 289, .iload 2, .ireturn] := rfl
theorem am_191 : aP.2.1 191 = (12224, 2, 3, 6, some 1, none) := rfl
theorem ae_192 : aP.1 (aP.2.1 192).1 = [.aload 0, .getfield 64, .iconst 49, .iconst 8, .invokestatic 290, .istore 2, .iload 2, .iconst (-1), .if_icmp .eq 12289, .iconst (-1), .iload 2, .isub, .ireturn] := rfl
theorem al_12288 : aP.1 (Int.toNat 12288) = [.aload 0, .getfield 64, .iconst 49, .iconst 8, .invokestatic 290, .istore 2, .iload 2, .iconst (-1), .if_icmp .eq 12289, .iconst (-1), .iload 2, .isub, .ireturn] := rfl
theorem al_12289 : aP.1 (Int.toNat 12289) = [.aload 0, .getfield 80, .aload 0, .getfield 64, .invokestatic 232, .aload 0, .getfield 73, .aload 0, .getfield 71, .invokestatic 283, .iconst 0, .istore 3, .jsr 12290] := rfl
theorem al_12290 : aP.1 (Int.toNat 12290) = [.iload 3, .iload 1, .if_icmp .ge 12291, .aload 0, .getfield 74, .aload 0, .getfield 73, .aload 0, .getfield 68, .invokestatic 260, .aload 0, .getfield 80, .aload 0, .getfield 74, .invokestatic 264, .invokestatic 233, .aload 0, .getfield 74, .invokestatic 259, .iinc 3 (1), .goto 12290] := rfl
theorem al_12291 : aP.1 (Int.toNat 12291) = [.aload 0, .getfield 80, .aload 0, .getfield 65, .invokestatic 234, .ireturn] := rfl
theorem am_192 : aP.2.1 192 = (12288, 2, 4, 5, some 1, none) := rfl
theorem ae_193 : aP.1 (aP.2.1 193).1 = [.iload 1, .iconst 1, .if_icmp .lt 12353, .iload 1, .iconst 9, .if_icmp .le 12354, .jsr 12353] := rfl
theorem al_12352 : aP.1 (Int.toNat 12352) = [.iload 1, .iconst 1, .if_icmp .lt 12353, .iload 1, .iconst 9, .if_icmp .le 12354, .jsr 12353] := rfl
theorem al_12353 : aP.1 (Int.toNat 12353) = [.iconst (-1), .ireturn] := rfl
theorem al_12354 : aP.1 (Int.toNat 12354) = [.ldc2_w 16, .lstore 2, .iconst 0, .istore 4, .jsr 12355] := rfl
theorem al_12355 : aP.1 (Int.toNat 12355) = [.iload 4, .aload 0, .getfield 66, .getfield 258, .if_icmp .ge 12357, .aload 0, .getfield 71, .getfield 640, .iload 4, .iaload, .iconst 9, .iload 1, .isub, .if_icmp .gt 12356, .lload 2, .ldc2_w 17, .iload 4, .lshl, .lor, .lstore 2, .jsr 12356] := rfl
theorem al_12356 : aP.1 (Int.toNat 12356) = [.iinc 4 (1), .goto 12355] := rfl
theorem al_12357 : aP.1 (Int.toNat 12357) = [.aload 0, .getfield 80, .aload 0, .getfield 66, .lload 2, .aload 0, .getfield 71, .getfield 641, .ldc2_w 15, .lxor, .land, .aload 0, .getfield 71, .getfield 643, .aload 0, .getfield 65, .invokestatic 237, .ireturn] := rfl
theorem am_193 : aP.2.1 193 = (12352, 2, 5, 4, some 1, none) := rfl
theorem ae_194 : aP.1 (aP.2.1 194).1 = [.ldc2_w 16, .lstore 1, .iconst 0, .istore 3, .iconst 0, .istore 4, .jsr 12417] := rfl
theorem al_12416 : aP.1 (Int.toNat 12416) = [.ldc2_w 16, .lstore 1, .iconst 0, .istore 3, .iconst 0, .istore 4, .jsr 12417] := rfl
theorem al_12417 : aP.1 (Int.toNat 12417) = [.iload 4, .iconst 3, .if_icmp .gt 12419, .aload 0, .getfield 66, .aload 0, .getfield 71, .iload 4, .aload 0, .getfield 66, .getfield 258, .ldc2_w 16, .invokestatic 195, .lstore 1, .iload 4, .istore 3, .lload 1, .ldc2_w 15, .lcmp, .ifCond .eq 12418, .goto 12419] := rfl
theorem al_12418 : aP.1 (Int.toNat 12418) = [.iinc 4 (1), .goto 12417] := rfl
theorem al_12419 : aP.1 (Int.toNat 12419) = [.aload 0, .getfield 65, .invokestatic 292, .aload 0, .getfield 65, .lload 1, .invokestatic 293, .iload 3, .ireturn] := rfl
theorem am_194 : aP.2.1 194 = (12416, 1, 5, 3, some 1, none) := rfl
theorem ae_195 : aP.1 (aP.2.1 195).1 = [.iload 2, .ifCond .gt 12483, .aload 0, .aload 1, .getfield 643, .aload 1, .getfield 641, .lload 4, .lor, .invokestatic 196, .ifCond .eq 12481, .ldc2_w 15, .goto 12482] := rfl
theorem al_12480 : aP.1 (Int.toNat 12480) = [.iload 2, .ifCond .gt 12483, .aload 0, .aload 1, .getfield 643, .aload 1, .getfield 641, .lload 4, .lor, .invokestatic 196, .ifCond .eq 12481, .ldc2_w 15, .goto 12482] := rfl
theorem al_12481 : aP.1 (Int.toNat 12481) = [.lload 4, .jsr 12482] := rfl
theorem al_12482 : aP.1 (Int.toNat 12482) = [.lreturn] := rfl
theorem al_12483 : aP.1 (Int.toNat 12483) = [.iload 2, .iconst 1, .isub, .istore 6, .jsr 12484] := rfl
theorem al_12484 : aP.1 (Int.toNat 12484) = [.iload 6, .iload 3, .if_icmp .ge 12487, .iload 6, .aload 1, .getfield 643, .if_icmp .ne 12485, .goto 12486] := rfl
theorem al_12485 : aP.1 (Int.toNat 12485) = [.aload 0, .aload 1, .iload 2, .iconst 1, .isub, .iload 6, .lload 4, .ldc2_w 17, .iload 6, .lshl, .lor, .invokestatic 195, .lstore 7, .lload 7, .ldc2_w 15, .lcmp, .ifCond .eq 12486, .lload 7, .lreturn] := rfl
theorem al_12486 : aP.1 (Int.toNat 12486) = [.iinc 6 (1), .goto 12484] := rfl
theorem al_12487 : aP.1 (Int.toNat 12487) = [.ldc2_w 15, .lreturn] := rfl
theorem am_195 : aP.2.1 195 = (12480, 5, 9, 2, none, none) := rfl
theorem ae_196 : aP.1 (aP.2.1 196).1 = [.ldc2_w 17, .iload 1, .lshl, .lload 2, .ldc2_w 15, .lxor, .land, .lstore 4, .iconst 0, .istore 6, .jsr 12545] := rfl
theorem al_12544 : aP.1 (Int.toNat 12544) = [.ldc2_w 17, .iload 1, .lshl, .lload 2, .ldc2_w 15, .lxor, .land, .lstore 4, .iconst 0, .istore 6, .jsr 12545] := rfl
theorem al_12545 : aP.1 (Int.toNat 12545) = [.iload 6, .aload 0, .getfield 258, .if_icmp .ge 12548, .lload 4, .aload 0, .lload 4, .invokestatic 243, .lload 2, .ldc2_w 15, .lxor, .land, .lor, .lstore 7, .lload 7, .aload 0, .getfield 260, .land, .ldc2_w 16, .lcmp, .ifCond .eq 12546, .iconst 1, .freturn] := rfl
theorem al_12546 : aP.1 (Int.toNat 12546) = [.lload 7, .lload 4, .lcmp, .ifCond .ne 12547, .iconst 0, .freturn] := rfl
theorem al_12547 : aP.1 (Int.toNat 12547) = [.lload 7, .lstore 4, .iinc 6 (1), .goto 12545] := rfl
theorem al_12548 : aP.1 (Int.toNat 12548) = [.iconst 0, .freturn] := rfl
theorem am_196 : aP.2.1 196 = (12544, 3, 9, 1, none, none) := rfl
theorem ae_197 : aP.1 (aP.2.1 197).1 = [.iload 1, .ifCond .lt 12609, .iload 1, .iconst 20, .if_icmp .gt 12609, .aload 0, .getfield 66, .iload 2, .invokestatic 242, .ifCond .eq 12609, .iload 3, .ifCond .lt 12609, .iload 3, .iconst 1, .if_icmp .le 12610, .jsr 12609] := rfl
theorem al_12608 : aP.1 (Int.toNat 12608) = [.iload 1, .ifCond .lt 12609, .iload 1, .iconst 20, .if_icmp .gt 12609, .aload 0, .getfield 66, .iload 2, .invokestatic 242, .ifCond .eq 12609, .iload 3, .ifCond .lt 12609, .iload 3, .iconst 1, .if_icmp .le 12610, .jsr 12609] := rfl
theorem al_12609 : aP.1 (Int.toNat 12609) = [.iconst (-1), .ireturn] := rfl
theorem al_12610 : aP.1 (Int.toNat 12610) = [.aload 0, .getfield 78, .iload 1, .iload 2, .iload 3, .invokestatic 246, .ireturn] := rfl
theorem am_197 : aP.2.1 197 = (12608, 4, 4, 1, some 1, none) := rfl
theorem ae_198 : aP.1 (aP.2.1 198).1 = [.aload 0, .getfield 78, .invokestatic 247, .ireturn] := rfl
theorem al_12672 : aP.1 (Int.toNat 12672) = [.aload 0, .getfield 78, .invokestatic 247, .ireturn] := rfl
theorem am_198 : aP.2.1 198 = (12672, 1, 1, 1, some 1, none) := rfl
theorem ae_199 : aP.1 (aP.2.1 199).1 = [.aload 0, .aload 0, .getfield 78, .invokestatic 248, .invokestatic 200, .istore 1, .aload 0, .getfield 65, .invokestatic 292, .aload 0, .getfield 65, .iload 1, .invokestatic 121, .i2l, .invokestatic 293, .iload 1, .ireturn] := rfl
theorem al_12736 : aP.1 (Int.toNat 12736) = [.aload 0, .aload 0, .getfield 78, .invokestatic 248, .invokestatic 200, .istore 1, .aload 0, .getfield 65, .invokestatic 292, .aload 0, .getfield 65, .iload 1, .invokestatic 121, .i2l, .invokestatic 293, .iload 1, .ireturn] := rfl
theorem am_199 : aP.2.1 199 = (12736, 1, 2, 6, some 1, none) := rfl
theorem ae_200 : aP.1 (aP.2.1 200).1 = [.iconst 0, .istore 2, .iconst 0, .istore 3, .jsr 12801] := rfl
theorem al_12800 : aP.1 (Int.toNat 12800) = [.iconst 0, .istore 2, .iconst 0, .istore 3, .jsr 12801] := rfl
theorem al_12801 : aP.1 (Int.toNat 12801) = [.iload 3, .aload 0, .getfield 66, .getfield 257, .if_icmp .ge 12805, .aload 0, .getfield 73, .aload 0, .getfield 71, .invokestatic 283, .aload 0, .getfield 73, .iload 3, .putfield 2563, .iconst 0, .istore 4, .jsr 12802] := rfl
theorem al_12802 : aP.1 (Int.toNat 12802) = [.iload 4, .iload 1, .if_icmp .gt 12803, .iload 4, .iconst 20, .if_icmp .gt 12803, .aload 0, .getfield 74, .aload 0, .getfield 73, .aload 0, .getfield 68, .iconst 1, .invokestatic 254, .pop, .aload 0, .getfield 81, .iload 3, .iload 4, .invokestatic 201, .aload 0, .getfield 74, .getfield 458, .lastore, .iinc 4 (1), .goto 12802] := rfl
theorem al_12803 : aP.1 (Int.toNat 12803) = [.aload 0, .iload 3, .invokestatic 202, .ifCond .eq 12804, .iload 2, .iconst 1, .iload 3, .ishl, .ior, .istore 2, .jsr 12804] := rfl
theorem al_12804 : aP.1 (Int.toNat 12804) = [.iinc 3 (1), .goto 12801] := rfl
theorem al_12805 : aP.1 (Int.toNat 12805) = [.iload 2, .ireturn] := rfl
theorem am_200 : aP.2.1 200 = (12800, 2, 5, 5, some 1, none) := rfl
theorem ae_201 : aP.1 (aP.2.1 201).1 = [.iload 0, .iconst 21, .imul, .iload 1, .iadd, .ireturn] := rfl
theorem al_12864 : aP.1 (Int.toNat 12864) = [.iload 0, .iconst 21, .imul, .iload 1, .iadd, .ireturn] := rfl
theorem am_201 : aP.2.1 201 = (12864, 2, 2, 0, none, none) := rfl
theorem ae_202 : aP.1 (aP.2.1 202).1 = [.iconst 0, .istore 2, .jsr 12929] := rfl
theorem al_12928 : aP.1 (Int.toNat 12928) = [.iconst 0, .istore 2, .jsr 12929] := rfl
theorem al_12929 : aP.1 (Int.toNat 12929) = [.iload 2, .aload 0, .getfield 78, .getfield 323, .if_icmp .ge 12931, .aload 0, .getfield 81, .iload 1, .aload 0, .getfield 78, .getfield 320, .iload 2, .iaload, .invokestatic 201, .laload, .lstore 3, .lload 3, .aload 0, .getfield 78, .getfield 321, .iload 2, .iaload, .invokestatic 161, .aload 0, .getfield 78, .getfield 322, .iload 2, .iaload, .if_icmp .eq 12930, .iconst 0, .freturn] := rfl
theorem al_12930 : aP.1 (Int.toNat 12930) = [.iinc 2 (1), .goto 12929] := rfl
theorem al_12931 : aP.1 (Int.toNat 12931) = [.iconst 1, .freturn] := rfl
theorem am_202 : aP.2.1 202 = (12928, 2, 5, 1, some 1, none) := rfl
theorem ae_203 : aP.1 (aP.2.1 203).1 = [.iload 1, .ifCond .lt 12993, .iload 1, .iconst 20, .if_icmp .le 12994, .jsr 12993] := rfl
theorem al_12992 : aP.1 (Int.toNat 12992) = [.iload 1, .ifCond .lt 12993, .iload 1, .iconst 20, .if_icmp .le 12994, .jsr 12993] := rfl
theorem al_12993 : aP.1 (Int.toNat 12993) = [.iconst (-1), .ireturn] := rfl
theorem al_12994 : aP.1 (Int.toNat 12994) = [.aload 0, .iload 1, .aload 0, .getfield 78, .invokestatic 248, .invokedynamic 6, .invokestatic 200, .istore 2, .iload 2, .ifCond .ne 12995, .iconst (-2), .ireturn] := rfl
theorem al_12995 : aP.1 (Int.toNat 12995) = [.iconst (-1), .istore 3, .iconst 0, .istore 4, .iconst 0, .istore 5, .jsr 12996] := rfl
theorem al_12996 : aP.1 (Int.toNat 12996) = [.iload 5, .aload 0, .getfield 66, .getfield 258, .if_icmp .ge 12999, .aload 0, .iload 2, .iload 1, .iload 5, .invokestatic 204, .istore 6, .iload 3, .iconst (-1), .if_icmp .eq 12997, .iload 6, .iload 4, .if_icmp .ge 12998, .jsr 12997] := rfl
theorem al_12997 : aP.1 (Int.toNat 12997) = [.iload 5, .istore 3, .iload 6, .istore 4, .jsr 12998] := rfl
theorem al_12998 : aP.1 (Int.toNat 12998) = [.iinc 5 (1), .goto 12996] := rfl
theorem al_12999 : aP.1 (Int.toNat 12999) = [.aload 0, .getfield 65, .invokestatic 292, .aload 0, .getfield 65, .iload 4, .i2l, .invokestatic 293, .iload 3, .ireturn] := rfl
theorem am_203 : aP.2.1 203 = (12992, 2, 7, 6, some 1, none) := rfl
theorem ae_204 : aP.1 (aP.2.1 204).1 = [.iconst 0, .istore 4, .iconst 0, .istore 5, .jsr 13057] := rfl
theorem al_13056 : aP.1 (Int.toNat 13056) = [.iconst 0, .istore 4, .iconst 0, .istore 5, .jsr 13057] := rfl
theorem al_13057 : aP.1 (Int.toNat 13057) = [.iload 5, .aload 0, .getfield 66, .getfield 257, .if_icmp .ge 13059, .iload 1, .i2l, .iload 5, .invokestatic 161, .iconst 1, .if_icmp .ne 13058, .iload 4, .aload 0, .getfield 81, .iload 5, .iload 2, .invokestatic 201, .laload, .iload 3, .invokestatic 161, .iadd, .istore 4, .jsr 13058] := rfl
theorem al_13058 : aP.1 (Int.toNat 13058) = [.iinc 5 (1), .goto 13057] := rfl
theorem al_13059 : aP.1 (Int.toNat 13059) = [.iload 4, .iload 1, .invokestatic 121, .iload 4, .isub, .invokedynamic 6, .ireturn] := rfl
theorem am_204 : aP.2.1 204 = (13056, 4, 6, 1, some 1, none) := rfl
theorem ae_205 : aP.1 (aP.2.1 205).1 = [.aload 0, .getfield 66, .iload 1, .invokestatic 242, .ifCond .eq 13121, .aload 0, .getfield 66, .getfield 260, .iload 1, .invokestatic 161, .iconst 1, .if_icmp .eq 13121, .iload 2, .ifCond .lt 13121, .iload 2, .iconst 2, .if_icmp .le 13122, .jsr 13121] := rfl
theorem al_13120 : aP.1 (Int.toNat 13120) = [.aload 0, .getfield 66, .iload 1, .invokestatic 242, .ifCond .eq 13121, .aload 0, .getfield 66, .getfield 260, .iload 1, .invokestatic 161, .iconst 1, .if_icmp .eq 13121, .iload 2, .ifCond .lt 13121, .iload 2, .iconst 2, .if_icmp .le 13122, .jsr 13121] := rfl
theorem al_13121 : aP.1 (Int.toNat 13121) = [.iconst (-1), .ireturn] := rfl
theorem al_13122 : aP.1 (Int.toNat 13122) = [.aload 0, .getfield 79, .iconst 0, .iload 1, .iload 2, .invokestatic 246, .ireturn] := rfl
theorem am_205 : aP.2.1 205 = (13120, 3, 3, 1, some 1, none) := rfl
theorem ae_206 : aP.1 (aP.2.1 206).1 = [.aload 0, .getfield 79, .invokestatic 247, .ireturn] := rfl
theorem al_13184 : aP.1 (Int.toNat 13184) = [.aload 0, .getfield 79, .invokestatic 247, .ireturn] := rfl
theorem am_206 : aP.2.1 206 = (13184, 1, 1, 1, some 1, none) := rfl
theorem ae_207 : aP.1 (aP.2.1 207).1 = [.aload 0, .getfield 65, .invokestatic 292, .iconst 0, .istore 1, .iconst 0, .istore 2, .jsr 13249] := rfl
theorem al_13248 : aP.1 (Int.toNat 13248) = [.aload 0, .getfield 65, .invokestatic 292, .iconst 0, .istore 1, .iconst 0, .istore 2, .jsr 13249] := rfl
theorem al_13249 : aP.1 (Int.toNat 13249) = [.iload 2, .iconst 3, .if_icmp .gt 13256, .iconst 0, .istore 3, .jsr 13250] := rfl
theorem al_13250 : aP.1 (Int.toNat 13250) = [.iload 3, .iconst 3, .if_icmp .gt 13255, .iconst 0, .istore 4, .jsr 13251] := rfl
theorem al_13251 : aP.1 (Int.toNat 13251) = [.iload 4, .iconst 3, .if_icmp .gt 13254, .aload 0, .iload 2, .iload 3, .iload 4, .invokestatic 208, .ifCond .ne 13252, .goto 13253] := rfl
theorem al_13252 : aP.1 (Int.toNat 13252) = [.iinc 1 (1), .iload 1, .iconst 1, .if_icmp .ne 13253, .aload 0, .getfield 65, .iload 2, .i2l, .invokestatic 293, .aload 0, .getfield 65, .iload 3, .i2l, .invokestatic 293, .aload 0, .getfield 65, .iload 4, .i2l, .invokestatic 293, .jsr 13253] := rfl
theorem al_13253 : aP.1 (Int.toNat 13253) = [.iinc 4 (1), .goto 13251] := rfl
theorem al_13254 : aP.1 (Int.toNat 13254) = [.iinc 3 (1), .goto 13250] := rfl
theorem al_13255 : aP.1 (Int.toNat 13255) = [.iinc 2 (1), .goto 13249] := rfl
theorem al_13256 : aP.1 (Int.toNat 13256) = [.iload 1, .ireturn] := rfl
theorem am_207 : aP.2.1 207 = (13248, 1, 5, 4, some 1, none) := rfl
theorem ae_208 : aP.1 (aP.2.1 208).1 = [.iconst 0, .istore 4, .jsr 13313] := rfl
theorem al_13312 : aP.1 (Int.toNat 13312) = [.iconst 0, .istore 4, .jsr 13313] := rfl
theorem al_13313 : aP.1 (Int.toNat 13313) = [.iload 4, .aload 0, .getfield 79, .getfield 323, .if_icmp .ge 13315, .aload 0, .aload 0, .getfield 79, .getfield 321, .iload 4, .iaload, .iload 1, .iload 2, .iload 3, .invokestatic 209, .aload 0, .getfield 79, .getfield 322, .iload 4, .iaload, .if_icmp .eq 13314, .iconst 0, .freturn] := rfl
theorem al_13314 : aP.1 (Int.toNat 13314) = [.iinc 4 (1), .goto 13313] := rfl
theorem al_13315 : aP.1 (Int.toNat 13315) = [.iconst 1, .freturn] := rfl
theorem am_208 : aP.2.1 208 = (13312, 4, 5, 3, some 1, none) := rfl
theorem ae_209 : aP.1 (aP.2.1 209).1 = [.iconst (-1), .istore 5, .iconst 0, .istore 6, .iconst 0, .istore 7, .jsr 13377] := rfl
theorem al_13376 : aP.1 (Int.toNat 13376) = [.iconst (-1), .istore 5, .iconst 0, .istore 6, .iconst 0, .istore 7, .jsr 13377] := rfl
theorem al_13377 : aP.1 (Int.toNat 13377) = [.iload 7, .iconst 3, .if_icmp .ge 13383, .aload 0, .getfield 66, .iload 1, .iload 7, .invokestatic 241, .istore 8, .iload 8, .iconst (-1), .if_icmp .eq 13382, .aload 0, .getfield 71, .getfield 641, .iload 8, .invokestatic 161, .iconst 1, .if_icmp .ne 13378, .goto 13382] := rfl
theorem al_13378 : aP.1 (Int.toNat 13378) = [.iload 2, .aload 0, .getfield 71, .getfield 640, .iload 8, .iaload, .imul, .iload 7, .ifCond .ne 13379, .iconst 0, .goto 13380] := rfl
theorem al_13379 : aP.1 (Int.toNat 13379) = [.iload 3, .jsr 13380] := rfl
theorem al_13380 : aP.1 (Int.toNat 13380) = [.iadd, .iload 4, .aload 0, .getfield 71, .getfield 642, .iload 8, .invokestatic 161, .imul, .isub, .istore 9, .iload 5, .iconst (-1), .if_icmp .eq 13381, .iload 9, .iload 6, .if_icmp .ge 13382, .jsr 13381] := rfl
theorem al_13381 : aP.1 (Int.toNat 13381) = [.iload 7, .istore 5, .iload 9, .istore 6, .jsr 13382] := rfl
theorem al_13382 : aP.1 (Int.toNat 13382) = [.iinc 7 (1), .goto 13377] := rfl
theorem al_13383 : aP.1 (Int.toNat 13383) = [.iload 5, .ireturn] := rfl
theorem am_209 : aP.2.1 209 = (13376, 5, 10, 2, some 1, none) := rfl
theorem ae_210 : aP.1 (aP.2.1 210).1 = [.iload 1, .ifCond .lt 13441, .iload 1, .iconst 60, .if_icmp .gt 13441, .iload 2, .iconst 1, .if_icmp .lt 13441, .iload 2, .iconst 9, .if_icmp .le 13442, .jsr 13441] := rfl
theorem al_13440 : aP.1 (Int.toNat 13440) = [.iload 1, .ifCond .lt 13441, .iload 1, .iconst 60, .if_icmp .gt 13441, .iload 2, .iconst 1, .if_icmp .lt 13441, .iload 2, .iconst 9, .if_icmp .le 13442, .jsr 13441] := rfl
theorem al_13441 : aP.1 (Int.toNat 13441) = [.iconst (-1), .ireturn] := rfl
theorem al_13442 : aP.1 (Int.toNat 13442) = [.iconst 0, .istore 3, .jsr 13443] := rfl
theorem al_13443 : aP.1 (Int.toNat 13443) = [.iload 3, .iload 1, .if_icmp .gt 13450, .iconst 0, .istore 4, .iconst 1, .istore 5, .jsr 13444] := rfl
theorem al_13444 : aP.1 (Int.toNat 13444) = [.iload 5, .iload 2, .if_icmp .gt 13449, .iload 5, .iload 3, .if_icmp .gt 13449, .aload 0, .getfield 82, .iload 3, .iload 5, .isub, .iaload, .iconst 1, .iload 5, .ishl, .iconst (-1), .ixor, .iand, .ifCond .eq 13445, .iconst 1, .goto 13446] := rfl
theorem al_13445 : aP.1 (Int.toNat 13445) = [.iconst 0, .jsr 13446] := rfl
theorem al_13446 : aP.1 (Int.toNat 13446) = [.istore 6, .iload 4, .iload 6, .ifCond .eq 13447, .iconst 0, .goto 13448] := rfl
theorem al_13447 : aP.1 (Int.toNat 13447) = [.iconst 1, .iload 5, .ishl, .jsr 13448] := rfl
theorem al_13448 : aP.1 (Int.toNat 13448) = [.ior, .istore 4, .iinc 5 (1), .goto 13444] := rfl
theorem al_13449 : aP.1 (Int.toNat 13449) = [.aload 0, .getfield 82, .iload 3, .iload 4, .iastore, .iinc 3 (1), .goto 13443] := rfl
theorem al_13450 : aP.1 (Int.toNat 13450) = [.aload 0, .getfield 82, .iload 1, .iaload, .ifCond .ne 13451, .iconst 0, .goto 13452] := rfl
theorem al_13451 : aP.1 (Int.toNat 13451) = [.aload 0, .getfield 82, .iload 1, .iaload, .invokestatic 120, .jsr 13452] := rfl
theorem al_13452 : aP.1 (Int.toNat 13452) = [.ireturn] := rfl
theorem am_210 : aP.2.1 210 = (13440, 3, 7, 1, some 1, none) := rfl
theorem ae_211 : aP.1 (aP.2.1 211).1 = [.iload 1, .iconst 1, .if_icmp .lt 13505, .iload 1, .iconst 12, .if_icmp .gt 13505, .iload 2, .iconst 1, .if_icmp .lt 13505, .iload 2, .iconst 12, .if_icmp .gt 13505, .iload 3, .ifCond .lt 13505, .iload 3, .iconst 10, .if_icmp .le 13506, .jsr 13505] := rfl
theorem al_13504 : aP.1 (Int.toNat 13504) = [.iload 1, .iconst 1, .if_icmp .lt 13505, .iload 1, .iconst 12, .if_icmp .gt 13505, .iload 2, .iconst 1, .if_icmp .lt 13505, .iload 2, .iconst 12, .if_icmp .gt 13505, .iload 3, .ifCond .lt 13505, .iload 3, .iconst 10, .if_icmp .le 13506, .jsr 13505] := rfl
theorem al_13505 : aP.1 (Int.toNat 13505) = [.iconst (-1), .ireturn] := rfl
theorem al_13506 : aP.1 (Int.toNat 13506) = [.aload 0, .getfield 83, .ldc2_w 16, .invokestatic 125, .aload 0, .getfield 83, .iconst 0, .ldc2_w 17, .lastore, .ldc2_w 17, .lstore 4, .ldc2_w 16, .lstore 6, .iconst 0, .istore 8, .jsr 13507] := rfl
theorem al_13507 : aP.1 (Int.toNat 13507) = [.iload 8, .iload 1, .if_icmp .ge 13510, .lload 4, .lload 6, .lsub, .lstore 9, .lload 4, .ldc2_w 26, .lmul, .lstore 4, .lload 6, .ldc2_w 26, .lmul, .aload 0, .getfield 83, .iload 2, .iconst 1, .isub, .laload, .iload 3, .i2l, .lmul, .ladd, .lstore 6, .iload 2, .iconst 1, .isub, .istore 11, .jsr 13508] := rfl
theorem al_13508 : aP.1 (Int.toNat 13508) = [.iload 11, .ifCond .le 13509, .aload 0, .getfield 83, .iload 11, .aload 0, .getfield 83, .iload 11, .iconst 1, .isub, .laload, .iload 3, .i2l, .lmul, .lastore, .iinc 11 (-1), .goto 13508] := rfl
theorem al_13509 : aP.1 (Int.toNat 13509) = [.aload 0, .getfield 83, .iconst 0, .lload 9, .iconst 10, .iload 3, .isub, .i2l, .lmul, .lastore, .iinc 8 (1), .goto 13507] := rfl
theorem al_13510 : aP.1 (Int.toNat 13510) = [.aload 0, .lload 6, .lload 4, .invokestatic 212, .iconst 0, .ireturn] := rfl
theorem am_211 : aP.2.1 211 = (13504, 4, 12, 2, some 1, none) := rfl
theorem ae_212 : aP.1 (aP.2.1 212).1 = [.lload 1, .lload 3, .invokestatic 213, .lstore 5, .aload 0, .getfield 65, .invokestatic 292, .aload 0, .getfield 65, .lload 5, .ldc2_w 16, .lcmp, .ifCond .ne 13569, .lload 1, .goto 13570] := rfl
theorem al_13568 : aP.1 (Int.toNat 13568) = [.lload 1, .lload 3, .invokestatic 213, .lstore 5, .aload 0, .getfield 65, .invokestatic 292, .aload 0, .getfield 65, .lload 5, .ldc2_w 16, .lcmp, .ifCond .ne 13569, .lload 1, .goto 13570] := rfl
theorem al_13569 : aP.1 (Int.toNat 13569) = [.lload 1, .lload 5, .ldiv, .jsr 13570] := rfl
theorem al_13570 : aP.1 (Int.toNat 13570) = [.invokestatic 293, .aload 0, .getfield 65, .lload 5, .ldc2_w 16, .lcmp, .ifCond .ne 13571, .lload 3, .goto 13572] := rfl
theorem al_13571 : aP.1 (Int.toNat 13571) = [.lload 3, .lload 5, .ldiv, .jsr 13572] := rfl
theorem al_13572 : aP.1 (Int.toNat 13572) = [.invokestatic 293, .return_] := rfl
theorem am_212 : aP.2.1 212 = (13568, 3, 7, 1, some 1, none) := rfl
theorem ae_213 : aP.1 (aP.2.1 213).1 = [.lload 0, .lstore 4, .lload 2, .lstore 6, .iconst 0, .istore 8, .jsr 13633] := rfl
theorem al_13632 : aP.1 (Int.toNat 13632) = [.lload 0, .lstore 4, .lload 2, .lstore 6, .iconst 0, .istore 8, .jsr 13633] := rfl
theorem al_13633 : aP.1 (Int.toNat 13633) = [.iload 8, .iconst 200, .if_icmp .ge 13634, .lload 6, .ldc2_w 16, .lcmp, .ifCond .eq 13634, .lload 4, .lload 6, .lrem, .lstore 9, .lload 6, .lstore 4, .lload 9, .lstore 6, .iinc 8 (1), .goto 13633] := rfl
theorem al_13634 : aP.1 (Int.toNat 13634) = [.lload 4, .lreturn] := rfl
theorem am_213 : aP.2.1 213 = (13632, 2, 11, 0, none, none) := rfl
theorem ae_214 : aP.1 (aP.2.1 214).1 = [.aload 0, .getfield 70, .aload 0, .getfield 64, .aload 0, .getfield 69, .invokestatic 269, .istore 1, .aload 0, .getfield 64, .invokestatic 289, .iload 1, .iconst (-1), .if_icmp .eq 13697, .iconst (-10000), .iload 1, .isub, .ireturn] := rfl
theorem al_13696 : aP.1 (Int.toNat 13696) = [.aload 0, .getfield 70, .aload 0, .getfield 64, .aload 0, .getfield 69, .invokestatic 269, .istore 1, .aload 0, .getfield 64, .invokestatic 289, .iload 1, .iconst (-1), .if_icmp .eq 13697, .iconst (-10000), .iload 1, .isub, .ireturn] := rfl
theorem al_13697 : aP.1 (Int.toNat 13697) = [.aload 0, .getfield 74, .aload 0, .getfield 71, .aload 0, .getfield 68, .invokestatic 260, .aload 0, .getfield 74, .getfield 457, .istore 2, .aload 0, .getfield 74, .aload 0, .getfield 71, .aload 0, .getfield 69, .invokestatic 260, .aload 0, .getfield 65, .invokestatic 292, .aload 0, .getfield 65, .aload 0, .getfield 74, .getfield 457, .i2l, .invokestatic 293, .aload 0, .getfield 65, .iload 2, .i2l, .invokestatic 293, .aload 0, .getfield 74, .getfield 459, .ireturn] := rfl
theorem am_214 : aP.2.1 214 = (13696, 1, 3, 5, some 1, none) := rfl
theorem ae_215 : aP.1 (aP.2.1 215).1 = [.iload 1, .ifCond .lt 13761, .iload 1, .iconst 20, .if_icmp .le 13762, .jsr 13761] := rfl
theorem al_13760 : aP.1 (Int.toNat 13760) = [.iload 1, .ifCond .lt 13761, .iload 1, .iconst 20, .if_icmp .le 13762, .jsr 13761] := rfl
theorem al_13761 : aP.1 (Int.toNat 13761) = [.iconst (-1), .ireturn] := rfl
theorem al_13762 : aP.1 (Int.toNat 13762) = [.aload 0, .getfield 65, .invokestatic 292, .iconst 0, .istore 2, .iconst 0, .istore 3, .jsr 13763] := rfl
theorem al_13763 : aP.1 (Int.toNat 13763) = [.iload 3, .iconst 9, .if_icmp .gt 13768, .iconst 0, .istore 4, .jsr 13764] := rfl
theorem al_13764 : aP.1 (Int.toNat 13764) = [.iload 4, .iconst 9, .if_icmp .gt 13767, .iload 1, .iload 3, .iload 4, .invokestatic 216, .ifCond .eq 13766, .iload 1, .iload 4, .iload 3, .invokestatic 216, .ifCond .ne 13765, .goto 13766] := rfl
theorem al_13765 : aP.1 (Int.toNat 13765) = [.iinc 2 (1), .iload 2, .iconst 1, .if_icmp .ne 13766, .aload 0, .getfield 65, .iload 3, .i2l, .invokestatic 293, .aload 0, .getfield 65, .iload 4, .i2l, .invokestatic 293, .jsr 13766] := rfl
theorem al_13766 : aP.1 (Int.toNat 13766) = [.iinc 4 (1), .goto 13764] := rfl
theorem al_13767 : aP.1 (Int.toNat 13767) = [.iinc 3 (1), .goto 13763] := rfl
theorem al_13768 : aP.1 (Int.toNat 13768) = [.iload 2, .ireturn] := rfl
theorem am_215 : aP.2.1 215 = (13760, 2, 5, 2, some 1, none) := rfl
theorem ae_216 : aP.1 (aP.2.1 216).1 = [.iload 0, .iload 1, .iload 2, .invokestatic 217, .istore 3, .iconst 0, .istore 4, .jsr 13825] := rfl
theorem al_13824 : aP.1 (Int.toNat 13824) = [.iload 0, .iload 1, .iload 2, .invokestatic 217, .istore 3, .iconst 0, .istore 4, .jsr 13825] := rfl
theorem al_13825 : aP.1 (Int.toNat 13825) = [.iload 4, .iconst 9, .if_icmp .gt 13827, .iload 0, .iload 4, .iload 2, .invokestatic 217, .iload 3, .if_icmp .le 13826, .iconst 0, .freturn] := rfl
theorem al_13826 : aP.1 (Int.toNat 13826) = [.iinc 4 (1), .goto 13825] := rfl
theorem al_13827 : aP.1 (Int.toNat 13827) = [.iconst 1, .freturn] := rfl
theorem am_216 : aP.2.1 216 = (13824, 3, 5, 1, none, none) := rfl
theorem ae_217 : aP.1 (aP.2.1 217).1 = [.iconst 2, .iload 1, .imul, .iconst 3, .idiv, .iload 1, .iload 2, .if_icmp .le 13889, .iconst 1, .goto 13890] := rfl
theorem al_13888 : aP.1 (Int.toNat 13888) = [.iconst 2, .iload 1, .imul, .iconst 3, .idiv, .iload 1, .iload 2, .if_icmp .le 13889, .iconst 1, .goto 13890] := rfl
theorem al_13889 : aP.1 (Int.toNat 13889) = [.iconst 0, .jsr 13890] := rfl
theorem al_13890 : aP.1 (Int.toNat 13890) = [.iadd, .istore 3, .iload 0, .iconst 9, .iload 1, .iload 2, .iadd, .invokedynamic 5, .imul, .iconst 9, .idiv, .iload 3, .isub, .ireturn] := rfl
theorem am_217 : aP.2.1 217 = (13888, 3, 4, 0, none, none) := rfl
theorem ae_218 : aP.1 (aP.2.1 218).1 = [.iload 2, .iconst 1, .if_icmp .lt 13953, .iload 2, .iconst 60, .if_icmp .le 13954, .jsr 13953] := rfl
theorem al_13952 : aP.1 (Int.toNat 13952) = [.iload 2, .iconst 1, .if_icmp .lt 13953, .iload 2, .iconst 60, .if_icmp .le 13954, .jsr 13953] := rfl
theorem al_13953 : aP.1 (Int.toNat 13953) = [.iconst (-1), .ireturn] := rfl
theorem al_13954 : aP.1 (Int.toNat 13954) = [.aload 0, .getfield 73, .aload 0, .getfield 71, .invokestatic 283, .iload 1, .istore 3, .iconst 0, .istore 4, .iconst 0, .istore 5, .jsr 13955] := rfl
theorem al_13955 : aP.1 (Int.toNat 13955) = [.iload 5, .iload 2, .if_icmp .ge 13959, .iload 3, .invokestatic 219, .istore 3, .iload 3, .iconst 4, .invokestatic 220, .istore 6, .iload 6, .iconst 2, .if_icmp .ge 13956, .iload 4, .aload 0, .getfield 74, .aload 0, .getfield 73, .aload 0, .getfield 68, .iconst 1, .invokestatic 254, .iadd, .istore 4, .goto 13958] := rfl
theorem al_13956 : aP.1 (Int.toNat 13956) = [.iload 3, .invokestatic 219, .istore 3, .iload 3, .aload 0, .getfield 66, .getfield 258, .invokestatic 220, .istore 7, .iload 6, .iconst 2, .if_icmp .ne 13957, .iload 3, .invokestatic 219, .istore 3, .aload 0, .aload 0, .getfield 73, .iload 7, .iload 3, .iconst 3, .invokestatic 220, .iconst 1, .iadd, .invokestatic 163, .pop, .goto 13958] := rfl
theorem al_13957 : aP.1 (Int.toNat 13957) = [.aload 0, .aload 0, .getfield 73, .iload 7, .invokestatic 168, .pop, .jsr 13958] := rfl
theorem al_13958 : aP.1 (Int.toNat 13958) = [.iinc 5 (1), .goto 13955] := rfl
theorem al_13959 : aP.1 (Int.toNat 13959) = [.aload 0, .getfield 65, .invokestatic 292, .aload 0, .getfield 65, .aload 0, .getfield 73, .invokestatic 282, .i2l, .invokestatic 293, .aload 0, .getfield 65, .aload 0, .getfield 73, .getfield 645, .i2l, .invokestatic 293, .iload 4, .ireturn] := rfl
theorem am_218 : aP.2.1 218 = (13952, 3, 8, 5, some 1, none) := rfl
theorem ae_219 : aP.1 (aP.2.1 219).1 = [.iload 0, .iconst 1103515245, .imul, .iconst 12345, .iadd, .ireturn] := rfl
theorem al_14016 : aP.1 (Int.toNat 14016) = [.iload 0, .iconst 1103515245, .imul, .iconst 12345, .iadd, .ireturn] := rfl
theorem am_219 : aP.2.1 219 = (14016, 1, 1, 0, none, none) := rfl
theorem ae_220 : aP.1 (aP.2.1 220).1 = [.iload 1, .iconst 1, .if_icmp .ge 14081, .iconst 0, .goto 14082] := rfl
theorem al_14080 : aP.1 (Int.toNat 14080) = [.iload 1, .iconst 1, .if_icmp .ge 14081, .iconst 0, .goto 14082] := rfl
theorem al_14081 : aP.1 (Int.toNat 14081) = [.iload 0, .iconst 16, .iushr, .iload 1, .irem, .jsr 14082] := rfl
theorem al_14082 : aP.1 (Int.toNat 14082) = [.ireturn] := rfl
theorem am_220 : aP.2.1 220 = (14080, 2, 2, 0, none, none) := rfl
theorem ae_221 : aP.1 (aP.2.1 221).1 = [.iload 1, .ifCond .lt 14145, .iload 1, .iconst 3, .if_icmp .lt 14146, .jsr 14145] := rfl
theorem al_14144 : aP.1 (Int.toNat 14144) = [.iload 1, .ifCond .lt 14145, .iload 1, .iconst 3, .if_icmp .lt 14146, .jsr 14145] := rfl
theorem al_14145 : aP.1 (Int.toNat 14145) = [.iconst 0, .freturn] := rfl
theorem al_14146 : aP.1 (Int.toNat 14146) = [.aload 0, .getfield 76, .iload 1, .aaload, .aload 0, .getfield 71, .invokestatic 283, .aload 0, .dup, .getfield 77, .iconst 1, .iload 1, .ishl, .ior, .putfield 269, .iconst 1, .freturn] := rfl
theorem am_221 : aP.2.1 221 = (14144, 2, 2, 1, some 1, none) := rfl
theorem ae_222 : aP.1 (aP.2.1 222).1 = [.iload 1, .ifCond .lt 14209, .iload 1, .iconst 3, .if_icmp .ge 14209, .aload 0, .getfield 77, .i2l, .iload 1, .invokestatic 161, .ifCond .ne 14210, .jsr 14209] := rfl
theorem al_14208 : aP.1 (Int.toNat 14208) = [.iload 1, .ifCond .lt 14209, .iload 1, .iconst 3, .if_icmp .ge 14209, .aload 0, .getfield 77, .i2l, .iload 1, .invokestatic 161, .ifCond .ne 14210, .jsr 14209] := rfl
theorem al_14209 : aP.1 (Int.toNat 14209) = [.iconst 0, .freturn] := rfl
theorem al_14210 : aP.1 (Int.toNat 14210) = [.aload 0, .getfield 71, .aload 0, .getfield 76, .iload 1, .aaload, .invokestatic 283, .aload 0, .getfield 75, .invokestatic 250, .iconst 1, .freturn] := rfl
theorem am_222 : aP.2.1 222 = (14208, 2, 2, 1, some 1, none) := rfl
theorem ae_223 : aP.1 (aP.2.1 223).1 = [.iload 1, .tableswitch 14282 (0) (8) #[14273, 14274, 14275, 14276, 14277, 14278, 14279, 14280, 14281]] := rfl
theorem al_14272 : aP.1 (Int.toNat 14272) = [.iload 1, .tableswitch 14282 (0) (8) #[14273, 14274, 14275, 14276, 14277, 14278, 14279, 14280, 14281]] := rfl
theorem al_14273 : aP.1 (Int.toNat 14273) = [.aload 0, .getfield 66, .getfield 256, .ireturn] := rfl
theorem al_14274 : aP.1 (Int.toNat 14274) = [.aload 0, .getfield 66, .getfield 257, .ireturn] := rfl
theorem al_14275 : aP.1 (Int.toNat 14275) = [.aload 0, .getfield 71, .getfield 643, .ireturn] := rfl
theorem al_14276 : aP.1 (Int.toNat 14276) = [.aload 0, .getfield 71, .getfield 644, .ireturn] := rfl
theorem al_14277 : aP.1 (Int.toNat 14277) = [.aload 0, .getfield 71, .getfield 645, .ireturn] := rfl
theorem al_14278 : aP.1 (Int.toNat 14278) = [.aload 0, .getfield 71, .invokestatic 282, .ireturn] := rfl
theorem al_14279 : aP.1 (Int.toNat 14279) = [.aload 0, .getfield 71, .getfield 641, .invokestatic 122, .ireturn] := rfl
theorem al_14280 : aP.1 (Int.toNat 14280) = [.aload 0, .getfield 71, .getfield 642, .invokestatic 122, .ireturn] := rfl
theorem al_14281 : aP.1 (Int.toNat 14281) = [.aload 0, .getfield 67, .aload 0, .getfield 71, .getfield 644, .invokestatic 230, .ireturn] := rfl
theorem al_14282 : aP.1 (Int.toNat 14282) = [.aload 0, .iload 1, .invokestatic 224, .ireturn] := rfl
theorem am_223 : aP.2.1 223 = (14272, 2, 2, 1, some 1, none) := rfl
theorem ae_224 : aP.1 (aP.2.1 224).1 = [.iload 1, .tableswitch 14342 (9) (13) #[14337, 14338, 14339, 14340, 14341]] := rfl
theorem al_14336 : aP.1 (Int.toNat 14336) = [.iload 1, .tableswitch 14342 (9) (13) #[14337, 14338, 14339, 14340, 14341]] := rfl
theorem al_14337 : aP.1 (Int.toNat 14337) = [.aload 0, .getfield 78, .getfield 323, .ireturn] := rfl
theorem al_14338 : aP.1 (Int.toNat 14338) = [.aload 0, .getfield 79, .getfield 323, .ireturn] := rfl
theorem al_14339 : aP.1 (Int.toNat 14339) = [.aload 0, .getfield 75, .getfield 386, .ireturn] := rfl
theorem al_14340 : aP.1 (Int.toNat 14340) = [.aload 0, .getfield 65, .getfield 769, .ireturn] := rfl
theorem al_14341 : aP.1 (Int.toNat 14341) = [.aload 0, .getfield 64, .getfield 705, .ireturn] := rfl
theorem al_14342 : aP.1 (Int.toNat 14342) = [.iconst (-100), .ireturn] := rfl
theorem am_224 : aP.2.1 224 = (14336, 2, 2, 0, some 1, none) := rfl
theorem ae_225 : aP.1 (aP.2.1 225).1 = [.aload 0, .getfield 66, .iload 1, .invokestatic 242, .ifCond .eq 14401, .iload 2, .ifCond .lt 14401, .iload 2, .iconst 3, .if_icmp .le 14402, .jsr 14401] := rfl
theorem al_14400 : aP.1 (Int.toNat 14400) = [.aload 0, .getfield 66, .iload 1, .invokestatic 242, .ifCond .eq 14401, .iload 2, .ifCond .lt 14401, .iload 2, .iconst 3, .if_icmp .le 14402, .jsr 14401] := rfl
theorem al_14401 : aP.1 (Int.toNat 14401) = [.athrow] := rfl
theorem al_14402 : aP.1 (Int.toNat 14402) = [.iload 2, .ifCond .ne 14403, .aload 0, .getfield 71, .getfield 640, .iload 1, .iaload, .ireturn] := rfl
theorem al_14403 : aP.1 (Int.toNat 14403) = [.iload 2, .iconst 3, .if_icmp .ne 14404, .aload 0, .getfield 74, .aload 0, .getfield 71, .aload 0, .getfield 68, .invokestatic 260, .aload 0, .getfield 74, .getfield 458, .iload 1, .invokestatic 161, .ireturn] := rfl
theorem al_14404 : aP.1 (Int.toNat 14404) = [.iload 2, .iconst 1, .if_icmp .ne 14405, .aload 0, .getfield 71, .getfield 641, .goto 14406] := rfl
theorem al_14405 : aP.1 (Int.toNat 14405) = [.aload 0, .getfield 71, .getfield 642, .jsr 14406] := rfl
theorem al_14406 : aP.1 (Int.toNat 14406) = [.iload 1, .invokestatic 161, .ireturn] := rfl
theorem am_225 : aP.2.1 225 = (14400, 3, 3, 5, some 1, none) := rfl
theorem ae_226 : aP.1 (aP.2.1 226).1 = [.aload 0, .getfield 66, .iload 1, .invokestatic 242, .ifCond .eq 14465, .iload 2, .ifCond .lt 14465, .iload 2, .iconst 1, .if_icmp .le 14466, .jsr 14465] := rfl
theorem al_14464 : aP.1 (Int.toNat 14464) = [.aload 0, .getfield 66, .iload 1, .invokestatic 242, .ifCond .eq 14465, .iload 2, .ifCond .lt 14465, .iload 2, .iconst 1, .if_icmp .le 14466, .jsr 14465] := rfl
theorem al_14465 : aP.1 (Int.toNat 14465) = [.athrow] := rfl
theorem al_14466 : aP.1 (Int.toNat 14466) = [.aload 0, .getfield 74, .aload 0, .getfield 71, .aload 0, .getfield 68, .invokestatic 255, .aload 0, .getfield 74, .iload 1, .iload 2, .invokestatic 258, .ireturn] := rfl
theorem am_226 : aP.2.1 226 = (14464, 3, 3, 2, some 1, none) := rfl
theorem ae_227 : aP.1 (aP.2.1 227).1 = [.iload 1, .ifCond .lt 14529, .iload 1, .aload 0, .getfield 65, .getfield 769, .if_icmp .lt 14530, .jsr 14529] := rfl
theorem al_14528 : aP.1 (Int.toNat 14528) = [.iload 1, .ifCond .lt 14529, .iload 1, .aload 0, .getfield 65, .getfield 769, .if_icmp .lt 14530, .jsr 14529] := rfl
theorem al_14529 : aP.1 (Int.toNat 14529) = [.athrow] := rfl
theorem al_14530 : aP.1 (Int.toNat 14530) = [.aload 0, .getfield 65, .getfield 768, .iload 1, .laload, .lreturn] := rfl
theorem am_227 : aP.2.1 227 = (14528, 2, 2, 0, some 1, none) := rfl
theorem ae_228 : aP.1 (aP.2.1 228).1 = [.aload 0, .invokedynamic 0, .aload 0, .iconst 20, .newarray .int, .putfield 704, .aload 0, .iconst 1, .putfield 513, .return_] := rfl
theorem al_14592 : aP.1 (Int.toNat 14592) = [.aload 0, .invokedynamic 0, .aload 0, .iconst 20, .newarray .int, .putfield 704, .aload 0, .iconst 1, .putfield 513, .return_] := rfl
theorem am_228 : aP.2.1 228 = (14592, 1, 1, 0, some 999, none) := rfl
theorem ae_229 : aP.1 (aP.2.1 229).1 = [.aload 0, .iconst 1, .iconst 20, .aload 1, .getfield 705, .invokedynamic 5, .invokedynamic 6, .putfield 513, .iconst 0, .istore 2, .jsr 14657] := rfl
theorem al_14656 : aP.1 (Int.toNat 14656) = [.aload 0, .iconst 1, .iconst 20, .aload 1, .getfield 705, .invokedynamic 5, .invokedynamic 6, .putfield 513, .iconst 0, .istore 2, .jsr 14657] := rfl
theorem al_14657 : aP.1 (Int.toNat 14657) = [.iload 2, .aload 0, .getfield 129, .if_icmp .ge 14658, .aload 0, .getfield 128, .iload 2, .iconst 0, .aload 1, .iload 2, .invokestatic 287, .invokedynamic 6, .iastore, .iinc 2 (1), .goto 14657] := rfl
theorem al_14658 : aP.1 (Int.toNat 14658) = [.return_] := rfl
theorem am_229 : aP.2.1 229 = (14656, 2, 3, 2, some 2, none) := rfl
theorem ae_230 : aP.1 (aP.2.1 230).1 = [.iload 1, .ifCond .lt 14721, .aload 0, .getfield 129, .iconst 1, .if_icmp .ge 14722, .jsr 14721] := rfl
theorem al_14720 : aP.1 (Int.toNat 14720) = [.iload 1, .ifCond .lt 14721, .aload 0, .getfield 129, .iconst 1, .if_icmp .ge 14722, .jsr 14721] := rfl
theorem al_14721 : aP.1 (Int.toNat 14721) = [.iconst 0, .goto 14723] := rfl
theorem al_14722 : aP.1 (Int.toNat 14722) = [.aload 0, .getfield 128, .iload 1, .aload 0, .getfield 129, .irem, .iaload, .jsr 14723] := rfl
theorem al_14723 : aP.1 (Int.toNat 14723) = [.ireturn] := rfl
theorem am_230 : aP.2.1 230 = (14720, 2, 2, 0, some 2, none) := rfl
theorem ae_231 : aP.1 (aP.2.1 231).1 = [.aload 0, .invokedynamic 0, .aload 0, .iconst 8, .newarray .int, .putfield 960, .aload 0, .iconst 20, .newarray .int, .putfield 961, .aload 0, .iconst 36, .newarray .long, .putfield 962, .return_] := rfl
theorem al_14784 : aP.1 (Int.toNat 14784) = [.aload 0, .invokedynamic 0, .aload 0, .iconst 8, .newarray .int, .putfield 960, .aload 0, .iconst 20, .newarray .int, .putfield 961, .aload 0, .iconst 36, .newarray .long, .putfield 962, .return_] := rfl
theorem am_231 : aP.2.1 231 = (14784, 1, 1, 0, some 999, none) := rfl
theorem ae_232 : aP.1 (aP.2.1 232).1 = [.aload 0, .iconst 8, .aload 1, .getfield 705, .invokedynamic 5, .putfield 771, .aload 0, .iconst 0, .putfield 772, .iconst 0, .istore 2, .jsr 14849] := rfl
theorem al_14848 : aP.1 (Int.toNat 14848) = [.aload 0, .iconst 8, .aload 1, .getfield 705, .invokedynamic 5, .putfield 771, .aload 0, .iconst 0, .putfield 772, .iconst 0, .istore 2, .jsr 14849] := rfl
theorem al_14849 : aP.1 (Int.toNat 14849) = [.iload 2, .aload 0, .getfield 195, .if_icmp .ge 14850, .aload 0, .getfield 192, .iload 2, .aload 1, .iload 2, .invokestatic 287, .iastore, .iinc 2 (1), .goto 14849] := rfl
theorem al_14850 : aP.1 (Int.toNat 14850) = [.return_] := rfl
theorem am_232 : aP.2.1 232 = (14848, 2, 3, 2, some 3, none) := rfl
theorem ae_233 : aP.1 (aP.2.1 233).1 = [.aload 0, .getfield 196, .iconst 20, .if_icmp .ge 14913, .aload 0, .getfield 193, .aload 0, .getfield 196, .iload 1, .iastore, .aload 0, .dup, .getfield 196, .iconst 1, .iadd, .putfield 772, .jsr 14913] := rfl
theorem al_14912 : aP.1 (Int.toNat 14912) = [.aload 0, .getfield 196, .iconst 20, .if_icmp .ge 14913, .aload 0, .getfield 193, .aload 0, .getfield 196, .iload 1, .iastore, .aload 0, .dup, .getfield 196, .iconst 1, .iadd, .putfield 772, .jsr 14913] := rfl
theorem al_14913 : aP.1 (Int.toNat 14913) = [.return_] := rfl
theorem am_233 : aP.2.1 233 = (14912, 2, 2, 0, some 3, none) := rfl
theorem ae_234 : aP.1 (aP.2.1 234).1 = [.aload 0, .iconst 0, .iconst 0, .invokestatic 235, .istore 2, .iload 2, .istore 3, .iconst 0, .istore 4, .aload 1, .invokestatic 292, .iconst 0, .istore 5, .jsr 14977] := rfl
theorem al_14976 : aP.1 (Int.toNat 14976) = [.aload 0, .iconst 0, .iconst 0, .invokestatic 235, .istore 2, .iload 2, .istore 3, .iconst 0, .istore 4, .aload 1, .invokestatic 292, .iconst 0, .istore 5, .jsr 14977] := rfl
theorem al_14977 : aP.1 (Int.toNat 14977) = [.iload 5, .aload 0, .getfield 195, .if_icmp .ge 14979, .aload 0, .iload 5, .iload 4, .iload 3, .invokestatic 236, .istore 6, .aload 1, .iload 6, .i2l, .invokestatic 293, .iload 6, .iconst (-1), .if_icmp .eq 14978, .iload 4, .iconst 1, .iload 6, .ishl, .ior, .istore 4, .iinc 3 (-1), .jsr 14978] := rfl
theorem al_14978 : aP.1 (Int.toNat 14978) = [.iinc 5 (1), .goto 14977] := rfl
theorem al_14979 : aP.1 (Int.toNat 14979) = [.iload 2, .ireturn] := rfl
theorem am_234 : aP.2.1 234 = (14976, 2, 7, 3, some 3, none) := rfl
theorem ae_235 : aP.1 (aP.2.1 235).1 = [.iconst 0, .istore 3, .iconst 0, .istore 4, .iconst 9, .istore 5, .jsr 15041] := rfl
theorem al_15040 : aP.1 (Int.toNat 15040) = [.iconst 0, .istore 3, .iconst 0, .istore 4, .iconst 9, .istore 5, .jsr 15041] := rfl
theorem al_15041 : aP.1 (Int.toNat 15041) = [.iload 5, .iconst 1, .if_icmp .lt 15049, .iconst 0, .istore 6, .jsr 15042] := rfl
theorem al_15042 : aP.1 (Int.toNat 15042) = [.iload 6, .aload 0, .getfield 196, .if_icmp .ge 15045, .iload 4, .aload 0, .getfield 193, .iload 6, .iaload, .iload 5, .if_icmp .ne 15043, .iconst 1, .iload 2, .i2l, .iload 6, .invokestatic 161, .isub, .goto 15044] := rfl
theorem al_15043 : aP.1 (Int.toNat 15043) = [.iconst 0, .jsr 15044] := rfl
theorem al_15044 : aP.1 (Int.toNat 15044) = [.iadd, .istore 4, .iinc 6 (1), .goto 15042] := rfl
theorem al_15045 : aP.1 (Int.toNat 15045) = [.iload 1, .istore 6, .jsr 15046] := rfl
theorem al_15046 : aP.1 (Int.toNat 15046) = [.iload 6, .aload 0, .getfield 195, .if_icmp .ge 15048, .aload 0, .getfield 192, .iload 6, .iaload, .iload 5, .if_icmp .ne 15047, .iload 4, .ifCond .le 15047, .iinc 4 (-1), .iinc 3 (1), .jsr 15047] := rfl
theorem al_15047 : aP.1 (Int.toNat 15047) = [.iinc 6 (1), .goto 15046] := rfl
theorem al_15048 : aP.1 (Int.toNat 15048) = [.iinc 5 (-1), .goto 15041] := rfl
theorem al_15049 : aP.1 (Int.toNat 15049) = [.iload 3, .ireturn] := rfl
theorem am_235 : aP.2.1 235 = (15040, 3, 7, 1, some 3, none) := rfl
theorem ae_236 : aP.1 (aP.2.1 236).1 = [.aload 0, .iload 1, .iconst 1, .iadd, .iload 2, .invokestatic 235, .iload 3, .if_icmp .ne 15105, .iconst (-1), .ireturn] := rfl
theorem al_15104 : aP.1 (Int.toNat 15104) = [.aload 0, .iload 1, .iconst 1, .iadd, .iload 2, .invokestatic 235, .iload 3, .if_icmp .ne 15105, .iconst (-1), .ireturn] := rfl
theorem al_15105 : aP.1 (Int.toNat 15105) = [.iconst 0, .istore 4, .jsr 15106] := rfl
theorem al_15106 : aP.1 (Int.toNat 15106) = [.iload 4, .aload 0, .getfield 196, .if_icmp .ge 15110, .iload 2, .i2l, .iload 4, .invokestatic 161, .ifCond .ne 15107, .aload 0, .getfield 193, .iload 4, .iaload, .aload 0, .getfield 192, .iload 1, .iaload, .if_icmp .lt 15107, .iconst 1, .goto 15108] := rfl
theorem al_15107 : aP.1 (Int.toNat 15107) = [.iconst 0, .jsr 15108] := rfl
theorem al_15108 : aP.1 (Int.toNat 15108) = [.istore 5, .iload 5, .ifCond .eq 15109, .aload 0, .iload 1, .iconst 1, .iadd, .iload 2, .iconst 1, .iload 4, .ishl, .ior, .invokestatic 235, .iload 3, .iconst 1, .isub, .if_icmp .ne 15109, .iload 4, .ireturn] := rfl
theorem al_15109 : aP.1 (Int.toNat 15109) = [.iinc 4 (1), .goto 15106] := rfl
theorem al_15110 : aP.1 (Int.toNat 15110) = [.iconst (-1), .ireturn] := rfl
theorem am_236 : aP.2.1 236 = (15104, 4, 6, 2, some 3, none) := rfl
theorem ae_237 : aP.1 (aP.2.1 237).1 = [.aload 1, .getfield 260, .lload 2, .land, .lstore 6, .iconst 0, .istore 8, .jsr 15169] := rfl
theorem al_15168 : aP.1 (Int.toNat 15168) = [.aload 1, .getfield 260, .lload 2, .land, .lstore 6, .iconst 0, .istore 8, .jsr 15169] := rfl
theorem al_15169 : aP.1 (Int.toNat 15169) = [.iload 8, .iconst 36, .if_icmp .ge 15171, .aload 0, .getfield 194, .iload 8, .lload 6, .lastore, .lload 6, .iload 4, .invokestatic 161, .iconst 1, .if_icmp .ne 15170, .aload 0, .aload 1, .iload 4, .iload 8, .aload 5, .invokestatic 238, .iload 8, .iconst 1, .iadd, .ireturn] := rfl
theorem al_15170 : aP.1 (Int.toNat 15170) = [.lload 6, .aload 1, .lload 6, .invokestatic 243, .lload 2, .land, .lor, .lstore 6, .iinc 8 (1), .goto 15169] := rfl
theorem al_15171 : aP.1 (Int.toNat 15171) = [.iconst (-2), .ireturn] := rfl
theorem am_237 : aP.2.1 237 = (15168, 5, 9, 3, some 3, none) := rfl
theorem ae_238 : aP.1 (aP.2.1 238).1 = [.aload 4, .invokestatic 292, .aload 4, .iload 2, .i2l, .invokestatic 293, .iload 2, .istore 5, .iload 3, .iconst 36, .invokedynamic 5, .iconst 1, .isub, .istore 6, .jsr 15233] := rfl
theorem al_15232 : aP.1 (Int.toNat 15232) = [.aload 4, .invokestatic 292, .aload 4, .iload 2, .i2l, .invokestatic 293, .iload 2, .istore 5, .iload 3, .iconst 36, .invokedynamic 5, .iconst 1, .isub, .istore 6, .jsr 15233] := rfl
theorem al_15233 : aP.1 (Int.toNat 15233) = [.iload 6, .ifCond .lt 15234, .aload 1, .ldc2_w 17, .iload 5, .lshl, .invokestatic 243, .aload 0, .getfield 194, .iload 6, .laload, .land, .invokestatic 123, .istore 5, .aload 4, .iload 5, .i2l, .invokestatic 293, .iinc 6 (-1), .goto 15233] := rfl
theorem al_15234 : aP.1 (Int.toNat 15234) = [.return_] := rfl
theorem am_238 : aP.2.1 238 = (15232, 5, 7, 2, some 3, none) := rfl
theorem ae_239 : aP.1 (aP.2.1 239).1 = [.aload 0, .invokedynamic 0, .aload 0, .iconst 36, .newarray .int, .putfield 1223, .aload 0, .iconst 36, .newarray .int, .putfield 1224, .aload 0, .iconst 108, .newarray .int, .putfield 1225, .aload 0, .iconst 2, .iconst 2, .invokestatic 240, .return_] := rfl
theorem al_15296 : aP.1 (Int.toNat 15296) = [.aload 0, .invokedynamic 0, .aload 0, .iconst 36, .newarray .int, .putfield 1223, .aload 0, .iconst 36, .newarray .int, .putfield 1224, .aload 0, .iconst 108, .newarray .int, .putfield 1225, .aload 0, .iconst 2, .iconst 2, .invokestatic 240, .return_] := rfl
theorem am_239 : aP.2.1 239 = (15296, 1, 1, 1, some 999, none) := rfl
theorem ae_240 : aP.1 (aP.2.1 240).1 = [.aload 0, .iconst 2, .iconst 6, .iload 1, .invokedynamic 5, .invokedynamic 6, .putfield 1024, .aload 0, .iconst 2, .iconst 6, .iload 2, .invokedynamic 5, .invokedynamic 6, .putfield 1025, .aload 0, .aload 0, .getfield 256, .aload 0, .getfield 257, .imul, .putfield 1026, .aload 0, .ldc2_w 17, .aload 0, .getfield 258, .lshl, .ldc2_w 17, .lsub, .putfield 1091, .aload 0, .aload 0, .getfield 259, .ldc2_w 17, .aload 0, .getfield 258, .aload 0, .getfield 257, .isub, .lshl, .ldc2_w 17, .lsub, .ldc2_w 15, .lxor, .land, .putfield 1092, .aload 0, .ldc2_w 16, .putfield 1093, .iconst 0, .istore 3, .jsr 15361] := rfl
theorem al_15360 : aP.1 (Int.toNat 15360) = [.aload 0, .iconst 2, .iconst 6, .iload 1, .invokedynamic 5, .invokedynamic 6, .putfield 1024, .aload 0, .iconst 2, .iconst 6, .iload 2, .invokedynamic 5, .invokedynamic 6, .putfield 1025, .aload 0, .aload 0, .getfield 256, .aload 0, .getfield 257, .imul, .putfield 1026, .aload 0, .ldc2_w 17, .aload 0, .getfield 258, .lshl, .ldc2_w 17, .lsub, .putfield 1091, .aload 0, .aload 0, .getfield 259, .ldc2_w 17, .aload 0, .getfield 258, .aload 0, .getfield 257, .isub, .lshl, .ldc2_w 17, .lsub, .ldc2_w 15, .lxor, .land, .putfield 1092, .aload 0, .ldc2_w 16, .putfield 1093, .iconst 0, .istore 3, .jsr 15361] := rfl
theorem al_15361 : aP.1 (Int.toNat 15361) = [.iload 3, .aload 0, .getfield 258, .if_icmp .ge 15370, .aload 0, .getfield 263, .iload 3, .iload 3, .aload 0, .getfield 257, .idiv, .iastore, .aload 0, .getfield 264, .iload 3, .iload 3, .aload 0, .getfield 257, .irem, .iastore, .aload 0, .dup, .getfield 261, .aload 0, .getfield 264, .iload 3, .iaload, .ifCond .ne 15362, .ldc2_w 17, .iload 3, .lshl, .goto 15363] := rfl
theorem al_15362 : aP.1 (Int.toNat 15362) = [.ldc2_w 16, .jsr 15363] := rfl
theorem al_15363 : aP.1 (Int.toNat 15363) = [.lor, .putfield 1093, .aload 0, .getfield 265, .iload 3, .iconst 3, .imul, .iconst 0, .iadd, .aload 0, .getfield 263, .iload 3, .iaload, .aload 0, .getfield 256, .iconst 1, .isub, .if_icmp .ge 15364, .iload 3, .aload 0, .getfield 257, .iadd, .goto 15365] := rfl
theorem al_15364 : aP.1 (Int.toNat 15364) = [.iconst (-1), .jsr 15365] := rfl
theorem al_15365 : aP.1 (Int.toNat 15365) = [.iastore, .aload 0, .getfield 265, .iload 3, .iconst 3, .imul, .iconst 1, .iadd, .aload 0, .getfield 264, .iload 3, .iaload, .ifCond .le 15366, .iload 3, .iconst 1, .isub, .goto 15367] := rfl
theorem al_15366 : aP.1 (Int.toNat 15366) = [.iconst (-1), .jsr 15367] := rfl
theorem al_15367 : aP.1 (Int.toNat 15367) = [.iastore, .aload 0, .getfield 265, .iload 3, .iconst 3, .imul, .iconst 2, .iadd, .aload 0, .getfield 264, .iload 3, .iaload, .aload 0, .getfield 257, .iconst 1, .isub, .if_icmp .ge 15368, .iload 3, .iconst 1, .iadd, .goto 15369] := rfl
theorem al_15368 : aP.1 (Int.toNat 15368) = [.iconst (-1), .jsr 15369] := rfl
theorem al_15369 : aP.1 (Int.toNat 15369) = [.iastore, .iinc 3 (1), .goto 15361] := rfl
theorem al_15370 : aP.1 (Int.toNat 15370) = [.aload 0, .aload 0, .getfield 261, .aload 0, .getfield 257, .iconst 1, .isub, .lshl, .putfield 1094, .return_] := rfl
theorem am_240 : aP.2.1 240 = (15360, 3, 4, 0, some 4, none) := rfl
theorem ae_241 : aP.1 (aP.2.1 241).1 = [.aload 0, .iload 1, .invokestatic 242, .ifCond .eq 15425, .iload 2, .ifCond .lt 15425, .iload 2, .iconst 3, .if_icmp .ge 15425, .aload 0, .getfield 265, .iload 1, .iconst 3, .imul, .iload 2, .iadd, .iaload, .goto 15426] := rfl
theorem al_15424 : aP.1 (Int.toNat 15424) = [.aload 0, .iload 1, .invokestatic 242, .ifCond .eq 15425, .iload 2, .ifCond .lt 15425, .iload 2, .iconst 3, .if_icmp .ge 15425, .aload 0, .getfield 265, .iload 1, .iconst 3, .imul, .iload 2, .iadd, .iaload, .goto 15426] := rfl
theorem al_15425 : aP.1 (Int.toNat 15425) = [.iconst (-1), .jsr 15426] := rfl
theorem al_15426 : aP.1 (Int.toNat 15426) = [.ireturn] := rfl
theorem am_241 : aP.2.1 241 = (15424, 3, 3, 1, some 4, none) := rfl
theorem ae_242 : aP.1 (aP.2.1 242).1 = [.iload 1, .ifCond .lt 15489, .iload 1, .aload 0, .getfield 258, .if_icmp .ge 15489, .iconst 1, .goto 15490] := rfl
theorem al_15488 : aP.1 (Int.toNat 15488) = [.iload 1, .ifCond .lt 15489, .iload 1, .aload 0, .getfield 258, .if_icmp .ge 15489, .iconst 1, .goto 15490] := rfl
theorem al_15489 : aP.1 (Int.toNat 15489) = [.iconst 0, .jsr 15490] := rfl
theorem al_15490 : aP.1 (Int.toNat 15490) = [.freturn] := rfl
theorem am_242 : aP.2.1 242 = (15488, 2, 2, 0, some 4, none) := rfl
theorem ae_243 : aP.1 (aP.2.1 243).1 = [.lload 1, .aload 0, .getfield 257, .lshl, .lload 1, .aload 0, .getfield 257, .lushr, .lor, .lstore 3, .lload 1, .aload 0, .getfield 261, .ldc2_w 15, .lxor, .land, .iconst 1, .lushr, .lload 1, .aload 0, .getfield 262, .ldc2_w 15, .lxor, .land, .iconst 1, .lshl, .lor, .lstore 5, .lload 3, .lload 5, .lor, .aload 0, .getfield 259, .land, .lreturn] := rfl
theorem al_15552 : aP.1 (Int.toNat 15552) = [.lload 1, .aload 0, .getfield 257, .lshl, .lload 1, .aload 0, .getfield 257, .lushr, .lor, .lstore 3, .lload 1, .aload 0, .getfield 261, .ldc2_w 15, .lxor, .land, .iconst 1, .lushr, .lload 1, .aload 0, .getfield 262, .ldc2_w 15, .lxor, .land, .iconst 1, .lshl, .lor, .lstore 5, .lload 3, .lload 5, .lor, .aload 0, .getfield 259, .land, .lreturn] := rfl
theorem am_243 : aP.2.1 243 = (15552, 2, 7, 0, some 4, none) := rfl
theorem ae_244 : aP.1 (aP.2.1 244).1 = [.iload 1, .ifCond .lt 15617, .iload 1, .aload 0, .getfield 256, .if_icmp .ge 15617, .iload 2, .ifCond .lt 15617, .iload 2, .aload 0, .getfield 257, .if_icmp .lt 15618, .jsr 15617] := rfl
theorem al_15616 : aP.1 (Int.toNat 15616) = [.iload 1, .ifCond .lt 15617, .iload 1, .aload 0, .getfield 256, .if_icmp .ge 15617, .iload 2, .ifCond .lt 15617, .iload 2, .aload 0, .getfield 257, .if_icmp .lt 15618, .jsr 15617] := rfl
theorem al_15617 : aP.1 (Int.toNat 15617) = [.iconst (-1), .ireturn] := rfl
theorem al_15618 : aP.1 (Int.toNat 15618) = [.iload 1, .aload 0, .getfield 257, .imul, .iload 2, .iadd, .ireturn] := rfl
theorem am_244 : aP.2.1 244 = (15616, 3, 3, 0, some 4, none) := rfl
theorem ae_245 : aP.1 (aP.2.1 245).1 = [.aload 0, .invokedynamic 0, .aload 0, .iconst 10, .newarray .int, .putfield 1472, .aload 0, .iconst 10, .newarray .int, .putfield 1473, .aload 0, .iconst 10, .newarray .int, .putfield 1474, .return_] := rfl
theorem al_15680 : aP.1 (Int.toNat 15680) = [.aload 0, .invokedynamic 0, .aload 0, .iconst 10, .newarray .int, .putfield 1472, .aload 0, .iconst 10, .newarray .int, .putfield 1473, .aload 0, .iconst 10, .newarray .int, .putfield 1474, .return_] := rfl
theorem am_245 : aP.2.1 245 = (15680, 1, 1, 0, some 999, none) := rfl
theorem ae_246 : aP.1 (aP.2.1 246).1 = [.aload 0, .getfield 323, .iconst 10, .if_icmp .lt 15745, .iconst (-1), .ireturn] := rfl
theorem al_15744 : aP.1 (Int.toNat 15744) = [.aload 0, .getfield 323, .iconst 10, .if_icmp .lt 15745, .iconst (-1), .ireturn] := rfl
theorem al_15745 : aP.1 (Int.toNat 15745) = [.aload 0, .getfield 320, .aload 0, .getfield 323, .iload 1, .iastore, .aload 0, .getfield 321, .aload 0, .getfield 323, .iload 2, .iastore, .aload 0, .getfield 322, .aload 0, .getfield 323, .iload 3, .iastore, .aload 0, .dup, .getfield 323, .iconst 1, .iadd, .putfield 1283, .aload 0, .getfield 323, .ireturn] := rfl
theorem am_246 : aP.2.1 246 = (15744, 4, 4, 0, some 5, none) := rfl
theorem ae_247 : aP.1 (aP.2.1 247).1 = [.aload 0, .getfield 323, .istore 1, .aload 0, .iconst 0, .putfield 1283, .iload 1, .ireturn] := rfl
theorem al_15808 : aP.1 (Int.toNat 15808) = [.aload 0, .getfield 323, .istore 1, .aload 0, .iconst 0, .putfield 1283, .iload 1, .ireturn] := rfl
theorem am_247 : aP.2.1 247 = (15808, 1, 2, 0, some 5, none) := rfl
theorem ae_248 : aP.1 (aP.2.1 248).1 = [.iconst (-1), .istore 1, .iconst 0, .istore 2, .jsr 15873] := rfl
theorem al_15872 : aP.1 (Int.toNat 15872) = [.iconst (-1), .istore 1, .iconst 0, .istore 2, .jsr 15873] := rfl
theorem al_15873 : aP.1 (Int.toNat 15873) = [.iload 2, .aload 0, .getfield 323, .if_icmp .ge 15874, .iload 1, .aload 0, .getfield 320, .iload 2, .iaload, .invokedynamic 6, .istore 1, .iinc 2 (1), .goto 15873] := rfl
theorem al_15874 : aP.1 (Int.toNat 15874) = [.iload 1, .ireturn] := rfl
theorem am_248 : aP.2.1 248 = (15872, 1, 3, 0, some 5, none) := rfl
theorem ae_249 : aP.1 (aP.2.1 249).1 = [.aload 0, .invokedynamic 0, .aload 0, .iconst 15, .anewarray 10, .putfield 1728, .iconst 0, .istore 1, .jsr 15937] := rfl
theorem al_15936 : aP.1 (Int.toNat 15936) = [.aload 0, .invokedynamic 0, .aload 0, .iconst 15, .anewarray 10, .putfield 1728, .iconst 0, .istore 1, .jsr 15937] := rfl
theorem al_15937 : aP.1 (Int.toNat 15937) = [.iload 1, .iconst 15, .if_icmp .ge 15938, .aload 0, .getfield 384, .iload 1, .new 10, .dup, .invokestatic 280, .aastore, .iinc 1 (1), .goto 15937] := rfl
theorem al_15938 : aP.1 (Int.toNat 15938) = [.return_] := rfl
theorem am_249 : aP.2.1 249 = (15936, 1, 2, 1, some 999, none) := rfl
theorem ae_250 : aP.1 (aP.2.1 250).1 = [.aload 0, .iconst 0, .putfield 1538, .return_] := rfl
theorem al_16000 : aP.1 (Int.toNat 16000) = [.aload 0, .iconst 0, .putfield 1538, .return_] := rfl
theorem am_250 : aP.2.1 250 = (16000, 1, 1, 0, some 6, none) := rfl
theorem ae_251 : aP.1 (aP.2.1 251).1 = [.aload 0, .getfield 384, .aload 0, .getfield 385, .aaload, .aload 1, .invokestatic 283, .aload 0, .aload 0, .getfield 385, .iconst 1, .iadd, .iconst 15, .if_icmp .ge 16065, .aload 0, .getfield 385, .iconst 1, .iadd, .goto 16066] := rfl
theorem al_16064 : aP.1 (Int.toNat 16064) = [.aload 0, .getfield 384, .aload 0, .getfield 385, .aaload, .aload 1, .invokestatic 283, .aload 0, .aload 0, .getfield 385, .iconst 1, .iadd, .iconst 15, .if_icmp .ge 16065, .aload 0, .getfield 385, .iconst 1, .iadd, .goto 16066] := rfl
theorem al_16065 : aP.1 (Int.toNat 16065) = [.iconst 0, .jsr 16066] := rfl
theorem al_16066 : aP.1 (Int.toNat 16066) = [.putfield 1537, .aload 0, .iconst 15, .aload 0, .getfield 386, .iconst 1, .iadd, .invokedynamic 5, .putfield 1538, .return_] := rfl
theorem am_251 : aP.2.1 251 = (16064, 2, 2, 1, some 6, none) := rfl
theorem ae_252 : aP.1 (aP.2.1 252).1 = [.aload 0, .getfield 386, .ifCond .ne 16129, .iconst 0, .freturn] := rfl
theorem al_16128 : aP.1 (Int.toNat 16128) = [.aload 0, .getfield 386, .ifCond .ne 16129, .iconst 0, .freturn] := rfl
theorem al_16129 : aP.1 (Int.toNat 16129) = [.aload 0, .aload 0, .getfield 385, .ifCond .le 16130, .aload 0, .getfield 385, .iconst 1, .isub, .goto 16131] := rfl
theorem al_16130 : aP.1 (Int.toNat 16130) = [.iconst 14, .jsr 16131] := rfl
theorem al_16131 : aP.1 (Int.toNat 16131) = [.putfield 1537, .aload 1, .aload 0, .getfield 384, .aload 0, .getfield 385, .aaload, .invokestatic 283, .aload 0, .dup, .getfield 386, .iconst 1, .isub, .putfield 1538, .iconst 1, .freturn] := rfl
theorem am_252 : aP.2.1 252 = (16128, 2, 2, 1, some 6, none) := rfl
theorem ae_253 : aP.1 (aP.2.1 253).1 = [.aload 0, .invokedynamic 0, .aload 0, .iconst 7, .newarray .int, .putfield 1988, .aload 0, .iconst 72, .newarray .int, .putfield 1989, .aload 0, .iconst 2, .newarray .long, .putfield 1990, .aload 0, .iconst 36, .newarray .int, .putfield 1992, .aload 0, .iconst 36, .newarray .int, .putfield 1997, .aload 0, .aload 1, .putfield 1984, .aload 0, .aload 2, .putfield 1985, .aload 0, .aload 3, .putfield 1986, .aload 0, .aload 4, .putfield 1987, .return_] := rfl
theorem al_16192 : aP.1 (Int.toNat 16192) = [.aload 0, .invokedynamic 0, .aload 0, .iconst 7, .newarray .int, .putfield 1988, .aload 0, .iconst 72, .newarray .int, .putfield 1989, .aload 0, .iconst 2, .newarray .long, .putfield 1990, .aload 0, .iconst 36, .newarray .int, .putfield 1992, .aload 0, .iconst 36, .newarray .int, .putfield 1997, .aload 0, .aload 1, .putfield 1984, .aload 0, .aload 2, .putfield 1985, .aload 0, .aload 3, .putfield 1986, .aload 0, .aload 4, .putfield 1987, .return_] := rfl
theorem am_253 : aP.2.1 253 = (16192, 5, 5, 0, some 999, none) := rfl
theorem ae_254 : aP.1 (aP.2.1 254).1 = [.iconst 0, .istore 4, .iconst 0, .istore 5, .jsr 16257] := rfl
theorem al_16256 : aP.1 (Int.toNat 16256) = [.iconst 0, .istore 4, .iconst 0, .istore 5, .jsr 16257] := rfl
theorem al_16257 : aP.1 (Int.toNat 16257) = [.iload 5, .iload 3, .if_icmp .ge 16260, .aload 0, .aload 1, .aload 2, .invokestatic 255, .aload 0, .aload 1, .getfield 641, .invokestatic 256, .aload 0, .invokestatic 259, .iload 4, .aload 0, .getfield 459, .iconst (-2), .if_icmp .ne 16258, .iconst 0, .goto 16259] := rfl
theorem al_16258 : aP.1 (Int.toNat 16258) = [.iconst 1, .jsr 16259] := rfl
theorem al_16259 : aP.1 (Int.toNat 16259) = [.iadd, .istore 4, .iinc 5 (1), .goto 16257] := rfl
theorem al_16260 : aP.1 (Int.toNat 16260) = [.iload 4, .ireturn] := rfl
theorem am_254 : aP.2.1 254 = (16256, 4, 6, 4, some 7, none) := rfl
theorem ae_255 : aP.1 (aP.2.1 255).1 = [.aload 0, .aload 1, .putfield 1986, .aload 0, .aload 2, .putfield 1987, .aload 0, .aload 0, .getfield 449, .aload 1, .getfield 644, .invokestatic 230, .putfield 1799, .aload 0, .getfield 454, .iconst 0, .ldc2_w 16, .lastore, .aload 0, .getfield 454, .iconst 1, .ldc2_w 16, .lastore, .return_] := rfl
theorem al_16320 : aP.1 (Int.toNat 16320) = [.aload 0, .aload 1, .putfield 1986, .aload 0, .aload 2, .putfield 1987, .aload 0, .aload 0, .getfield 449, .aload 1, .getfield 644, .invokestatic 230, .putfield 1799, .aload 0, .getfield 454, .iconst 0, .ldc2_w 16, .lastore, .aload 0, .getfield 454, .iconst 1, .ldc2_w 16, .lastore, .return_] := rfl
theorem am_255 : aP.2.1 255 = (16320, 3, 3, 1, some 7, none) := rfl
theorem ae_256 : aP.1 (aP.2.1 256).1 = [.aload 0, .iconst 0, .putfield 1801, .aload 0, .ldc2_w 16, .putfield 1866, .aload 0, .iconst (-2), .putfield 1803, .aload 0, .iconst (-1), .putfield 1804, .lload 1, .aload 0, .getfield 450, .getfield 643, .invokestatic 161, .iconst 1, .if_icmp .ne 16385, .iconst (-1), .goto 16386] := rfl
theorem al_16384 : aP.1 (Int.toNat 16384) = [.aload 0, .iconst 0, .putfield 1801, .aload 0, .ldc2_w 16, .putfield 1866, .aload 0, .iconst (-2), .putfield 1803, .aload 0, .iconst (-1), .putfield 1804, .lload 1, .aload 0, .getfield 450, .getfield 643, .invokestatic 161, .iconst 1, .if_icmp .ne 16385, .iconst (-1), .goto 16386] := rfl
theorem al_16385 : aP.1 (Int.toNat 16385) = [.aload 0, .getfield 450, .getfield 643, .jsr 16386] := rfl
theorem al_16386 : aP.1 (Int.toNat 16386) = [.istore 3, .iconst 0, .istore 4, .jsr 16387] := rfl
theorem al_16387 : aP.1 (Int.toNat 16387) = [.iload 4, .aload 0, .getfield 448, .getfield 258, .if_icmp .ge 16391, .iload 3, .iconst (-1), .if_icmp .eq 16391, .aload 0, .getfield 456, .iload 4, .iload 3, .iastore, .aload 0, .iload 4, .iconst 1, .iadd, .putfield 1801, .aload 0, .dup, .getfield 458, .ldc2_w 17, .iload 3, .lshl, .lor, .putfield 1866, .aload 0, .getfield 448, .getfield 260, .iload 3, .invokestatic 161, .iconst 1, .if_icmp .ne 16388, .aload 0, .aload 0, .getfield 448, .getfield 264, .iload 3, .iaload, .putfield 1803, .return_] := rfl
theorem al_16388 : aP.1 (Int.toNat 16388) = [.aload 0, .iload 3, .lload 1, .aload 0, .getfield 458, .lor, .invokestatic 257, .istore 5, .aload 0, .iload 5, .iconst (-1), .if_icmp .ne 16389, .iload 3, .goto 16390] := rfl
theorem al_16389 : aP.1 (Int.toNat 16389) = [.iconst (-1), .jsr 16390] := rfl
theorem al_16390 : aP.1 (Int.toNat 16390) = [.putfield 1804, .iload 5, .istore 3, .iinc 4 (1), .goto 16387] := rfl
theorem al_16391 : aP.1 (Int.toNat 16391) = [.return_] := rfl
theorem am_256 : aP.2.1 256 = (16384, 2, 6, 3, some 7, none) := rfl
theorem ae_257 : aP.1 (aP.2.1 257).1 = [.iconst (-1), .istore 4, .iconst 0, .istore 5, .iconst 0, .istore 6, .jsr 16449] := rfl
theorem al_16448 : aP.1 (Int.toNat 16448) = [.iconst (-1), .istore 4, .iconst 0, .istore 5, .iconst 0, .istore 6, .jsr 16449] := rfl
theorem al_16449 : aP.1 (Int.toNat 16449) = [.iload 6, .iconst 3, .if_icmp .ge 16455, .aload 0, .getfield 448, .iload 1, .iload 6, .invokestatic 241, .istore 7, .iload 7, .iconst (-1), .if_icmp .eq 16454, .lload 2, .iload 7, .invokestatic 161, .iconst 1, .if_icmp .ne 16450, .goto 16454] := rfl
theorem al_16450 : aP.1 (Int.toNat 16450) = [.aload 0, .iload 7, .iload 6, .ifCond .ne 16451, .iconst 0, .goto 16452] := rfl
theorem al_16451 : aP.1 (Int.toNat 16451) = [.iconst 1, .jsr 16452] := rfl
theorem al_16452 : aP.1 (Int.toNat 16452) = [.invokestatic 258, .istore 8, .iload 4, .iconst (-1), .if_icmp .eq 16453, .iload 8, .iload 5, .if_icmp .ge 16454, .jsr 16453] := rfl
theorem al_16453 : aP.1 (Int.toNat 16453) = [.iload 7, .istore 4, .iload 8, .istore 5, .jsr 16454] := rfl
theorem al_16454 : aP.1 (Int.toNat 16454) = [.iinc 6 (1), .goto 16449] := rfl
theorem al_16455 : aP.1 (Int.toNat 16455) = [.iload 4, .ireturn] := rfl
theorem am_257 : aP.2.1 257 = (16448, 3, 9, 2, some 7, none) := rfl
theorem ae_258 : aP.1 (aP.2.1 258).1 = [.iload 1, .iconst 2, .imul, .iload 2, .iadd, .istore 3, .aload 0, .getfield 454, .iload 2, .laload, .iload 1, .invokestatic 161, .ifCond .ne 16513, .aload 0, .getfield 452, .iconst 0, .aload 0, .getfield 450, .getfield 640, .iload 1, .iaload, .iastore, .aload 0, .getfield 452, .iconst 1, .iload 2, .iastore, .aload 0, .getfield 452, .iconst 2, .aload 0, .getfield 450, .getfield 642, .iload 1, .invokestatic 161, .iastore, .aload 0, .getfield 452, .iconst 3, .aload 0, .getfield 455, .iastore, .aload 0, .getfield 452, .iconst 4, .aload 0, .getfield 450, .getfield 644, .iconst 7, .irem, .iastore, .aload 0, .getfield 452, .iconst 5, .aload 0, .getfield 448, .getfield 263, .iload 1, .iaload, .iastore, .aload 0, .getfield 452, .iconst 6, .aload 0, .getfield 448, .getfield 264, .iload 1, .iaload, .iastore, .aload 0, .getfield 453, .iload 3, .aload 0, .getfield 451, .aload 0, .getfield 452, .invokestatic 267, .iastore, .aload 0, .getfield 454, .iload 2, .dup2, .laload, .ldc2_w 17, .iload 1, .lshl, .lor, .lastore, .jsr 16513] := rfl
theorem al_16512 : aP.1 (Int.toNat 16512) = [.iload 1, .iconst 2, .imul, .iload 2, .iadd, .istore 3, .aload 0, .getfield 454, .iload 2, .laload, .iload 1, .invokestatic 161, .ifCond .ne 16513, .aload 0, .getfield 452, .iconst 0, .aload 0, .getfield 450, .getfield 640, .iload 1, .iaload, .iastore, .aload 0, .getfield 452, .iconst 1, .iload 2, .iastore, .aload 0, .getfield 452, .iconst 2, .aload 0, .getfield 450, .getfield 642, .iload 1, .invokestatic 161, .iastore, .aload 0, .getfield 452, .iconst 3, .aload 0, .getfield 455, .iastore, .aload 0, .getfield 452, .iconst 4, .aload 0, .getfield 450, .getfield 644, .iconst 7, .irem, .iastore, .aload 0, .getfield 452, .iconst 5, .aload 0, .getfield 448, .getfield 263, .iload 1, .iaload, .iastore, .aload 0, .getfield 452, .iconst 6, .aload 0, .getfield 448, .getfield 264, .iload 1, .iaload, .iastore, .aload 0, .getfield 453, .iload 3, .aload 0, .getfield 451, .aload 0, .getfield 452, .invokestatic 267, .iastore, .aload 0, .getfield 454, .iload 2, .dup2, .laload, .ldc2_w 17, .iload 1, .lshl, .lor, .lastore, .jsr 16513] := rfl
theorem al_16513 : aP.1 (Int.toNat 16513) = [.aload 0, .getfield 453, .iload 3, .iaload, .ireturn] := rfl
theorem am_258 : aP.2.1 258 = (16512, 3, 4, 1, some 7, none) := rfl
theorem ae_259 : aP.1 (aP.2.1 259).1 = [.aload 0, .getfield 448, .aload 0, .getfield 458, .invokestatic 243, .aload 0, .getfield 458, .ldc2_w 15, .lxor, .land, .aload 0, .getfield 450, .getfield 641, .ldc2_w 15, .lxor, .land, .lstore 1, .iconst 0, .istore 3, .jsr 16577] := rfl
theorem al_16576 : aP.1 (Int.toNat 16576) = [.aload 0, .getfield 448, .aload 0, .getfield 458, .invokestatic 243, .aload 0, .getfield 458, .ldc2_w 15, .lxor, .land, .aload 0, .getfield 450, .getfield 641, .ldc2_w 15, .lxor, .land, .lstore 1, .iconst 0, .istore 3, .jsr 16577] := rfl
theorem al_16577 : aP.1 (Int.toNat 16577) = [.iload 3, .aload 0, .getfield 448, .getfield 258, .if_icmp .ge 16580, .aload 0, .getfield 458, .iload 3, .invokestatic 161, .iconst 1, .if_icmp .ne 16578, .aload 0, .getfield 450, .getfield 640, .iload 3, .iconst 0, .aload 0, .getfield 450, .getfield 640, .iload 3, .iaload, .iconst 1, .isub, .invokedynamic 6, .iastore, .goto 16579] := rfl
theorem al_16578 : aP.1 (Int.toNat 16578) = [.lload 1, .iload 3, .invokestatic 161, .iconst 1, .if_icmp .ne 16579, .aload 0, .getfield 450, .getfield 640, .iload 3, .iconst 9, .aload 0, .getfield 450, .getfield 640, .iload 3, .iaload, .iconst 1, .iadd, .invokedynamic 5, .iastore, .jsr 16579] := rfl
theorem al_16579 : aP.1 (Int.toNat 16579) = [.iinc 3 (1), .goto 16577] := rfl
theorem al_16580 : aP.1 (Int.toNat 16580) = [.aload 0, .getfield 460, .iconst (-1), .if_icmp .eq 16581, .aload 0, .getfield 450, .getfield 640, .aload 0, .getfield 460, .iconst 9, .aload 0, .getfield 450, .getfield 640, .aload 0, .getfield 460, .iaload, .iconst 3, .iadd, .invokedynamic 5, .iastore, .jsr 16581] := rfl
theorem al_16581 : aP.1 (Int.toNat 16581) = [.aload 0, .getfield 459, .iconst (-2), .if_icmp .ne 16582, .aload 0, .getfield 450, .iconst 9999, .aload 0, .getfield 450, .getfield 645, .iconst 1, .iadd, .invokedynamic 5, .putfield 2565, .jsr 16582] := rfl
theorem al_16582 : aP.1 (Int.toNat 16582) = [.aload 0, .getfield 450, .aload 0, .getfield 458, .putfield 2626, .aload 0, .getfield 450, .dup, .getfield 644, .iconst 1, .iadd, .putfield 2564, .return_] := rfl
theorem am_259 : aP.2.1 259 = (16576, 1, 4, 1, some 7, none) := rfl
theorem ae_260 : aP.1 (aP.2.1 260).1 = [.aload 0, .aload 1, .aload 2, .invokestatic 255, .aload 0, .aload 1, .getfield 641, .invokestatic 256, .return_] := rfl
theorem al_16640 : aP.1 (Int.toNat 16640) = [.aload 0, .aload 1, .aload 2, .invokestatic 255, .aload 0, .aload 1, .getfield 641, .invokestatic 256, .return_] := rfl
theorem am_260 : aP.2.1 260 = (16640, 3, 3, 4, some 7, none) := rfl
theorem ae_261 : aP.1 (aP.2.1 261).1 = [.aload 0, .getfield 456, .iconst 0, .aload 0, .getfield 461, .iconst 0, .iconst 36, .invokedynamic 1, .aload 0, .aload 0, .getfield 457, .putfield 1806, .return_] := rfl
theorem al_16704 : aP.1 (Int.toNat 16704) = [.aload 0, .getfield 456, .iconst 0, .aload 0, .getfield 461, .iconst 0, .iconst 36, .invokedynamic 1, .aload 0, .aload 0, .getfield 457, .putfield 1806, .return_] := rfl
theorem am_261 : aP.2.1 261 = (16704, 1, 1, 0, some 7, none) := rfl
theorem ae_262 : aP.1 (aP.2.1 262).1 = [.aload 0, .getfield 457, .aload 0, .getfield 462, .if_icmp .eq 16769, .iconst 0, .freturn] := rfl
theorem al_16768 : aP.1 (Int.toNat 16768) = [.aload 0, .getfield 457, .aload 0, .getfield 462, .if_icmp .eq 16769, .iconst 0, .freturn] := rfl
theorem al_16769 : aP.1 (Int.toNat 16769) = [.iconst 0, .istore 1, .jsr 16770] := rfl
theorem al_16770 : aP.1 (Int.toNat 16770) = [.iload 1, .aload 0, .getfield 457, .if_icmp .ge 16772, .aload 0, .getfield 456, .iload 1, .iaload, .aload 0, .getfield 461, .iload 1, .iaload, .if_icmp .eq 16771, .iconst 0, .freturn] := rfl
theorem al_16771 : aP.1 (Int.toNat 16771) = [.iinc 1 (1), .goto 16770] := rfl
theorem al_16772 : aP.1 (Int.toNat 16772) = [.iconst 1, .freturn] := rfl
theorem am_262 : aP.2.1 262 = (16768, 1, 2, 0, some 7, none) := rfl
theorem ae_263 : aP.1 (aP.2.1 263).1 = [.iconst (-1), .istore 1, .iconst 0, .istore 2, .jsr 16833] := rfl
theorem al_16832 : aP.1 (Int.toNat 16832) = [.iconst (-1), .istore 1, .iconst 0, .istore 2, .jsr 16833] := rfl
theorem al_16833 : aP.1 (Int.toNat 16833) = [.iload 2, .aload 0, .getfield 457, .if_icmp .ge 16836, .iload 1, .iconst (-1), .if_icmp .eq 16834, .aload 0, .getfield 450, .getfield 640, .aload 0, .getfield 456, .iload 2, .iaload, .iaload, .aload 0, .getfield 450, .getfield 640, .iload 1, .iaload, .if_icmp .le 16835, .jsr 16834] := rfl
theorem al_16834 : aP.1 (Int.toNat 16834) = [.aload 0, .getfield 456, .iload 2, .iaload, .istore 1, .jsr 16835] := rfl
theorem al_16835 : aP.1 (Int.toNat 16835) = [.iinc 2 (1), .goto 16833] := rfl
theorem al_16836 : aP.1 (Int.toNat 16836) = [.iload 1, .ireturn] := rfl
theorem am_263 : aP.2.1 263 = (16832, 1, 3, 0, some 7, none) := rfl
theorem ae_264 : aP.1 (aP.2.1 264).1 = [.aload 0, .invokestatic 263, .istore 1, .aload 0, .getfield 459, .iconst (-2), .if_icmp .eq 16897, .iload 1, .iconst (-1), .if_icmp .ne 16898, .jsr 16897] := rfl
theorem al_16896 : aP.1 (Int.toNat 16896) = [.aload 0, .invokestatic 263, .istore 1, .aload 0, .getfield 459, .iconst (-2), .if_icmp .eq 16897, .iload 1, .iconst (-1), .if_icmp .ne 16898, .jsr 16897] := rfl
theorem al_16897 : aP.1 (Int.toNat 16897) = [.iconst 0, .goto 16899] := rfl
theorem al_16898 : aP.1 (Int.toNat 16898) = [.iconst 9, .aload 0, .getfield 450, .getfield 640, .iload 1, .iaload, .isub, .jsr 16899] := rfl
theorem al_16899 : aP.1 (Int.toNat 16899) = [.ireturn] := rfl
theorem am_264 : aP.2.1 264 = (16896, 1, 2, 1, some 7, none) := rfl
theorem ae_265 : aP.1 (aP.2.1 265).1 = [.aload 0, .invokedynamic 0, .aload 0, .iconst 40, .newarray .int, .putfield 2240, .aload 0, .iconst 40, .newarray .int, .putfield 2241, .aload 0, .ldc 1, .ldc 1, .arraylength, .invokestatic 266, .return_] := rfl
theorem al_16960 : aP.1 (Int.toNat 16960) = [.aload 0, .invokedynamic 0, .aload 0, .iconst 40, .newarray .int, .putfield 2240, .aload 0, .iconst 40, .newarray .int, .putfield 2241, .aload 0, .ldc 1, .ldc 1, .arraylength, .invokestatic 266, .return_] := rfl
theorem am_265 : aP.2.1 265 = (16960, 1, 1, 1, some 999, none) := rfl
theorem ae_266 : aP.1 (aP.2.1 266).1 = [.aload 0, .iconst 0, .iconst 40, .iload 2, .aload 1, .arraylength, .invokedynamic 5, .invokedynamic 5, .invokedynamic 6, .putfield 2050, .aload 1, .iconst 0, .aload 0, .getfield 512, .iconst 0, .aload 0, .getfield 514, .invokedynamic 1, .return_] := rfl
theorem al_17024 : aP.1 (Int.toNat 17024) = [.aload 0, .iconst 0, .iconst 40, .iload 2, .aload 1, .arraylength, .invokedynamic 5, .invokedynamic 5, .invokedynamic 6, .putfield 2050, .aload 1, .iconst 0, .aload 0, .getfield 512, .iconst 0, .aload 0, .getfield 514, .invokedynamic 1, .return_] := rfl
theorem am_266 : aP.2.1 266 = (17024, 3, 3, 0, some 8, none) := rfl
theorem ae_267 : aP.1 (aP.2.1 267).1 = [.iconst (-1), .istore 2, .iconst 0, .istore 3, .jsr 17089] := rfl
theorem al_17088 : aP.1 (Int.toNat 17088) = [.iconst (-1), .istore 2, .iconst 0, .istore 3, .jsr 17089] := rfl
theorem al_17089 : aP.1 (Int.toNat 17089) = [.iload 3, .aload 0, .getfield 514, .if_icmp .ge 17113, .aload 0, .getfield 512, .iload 3, .iaload, .istore 4, .iload 4, .ifCond .lt 17094, .iload 2, .iconst 39, .if_icmp .ge 17090, .iload 2, .iconst 1, .iadd, .goto 17091] := rfl
theorem al_17090 : aP.1 (Int.toNat 17090) = [.iload 2, .jsr 17091] := rfl
theorem al_17091 : aP.1 (Int.toNat 17091) = [.istore 2, .iload 4, .iconst 1000, .isub, .istore 5, .aload 0, .getfield 513, .iload 2, .iload 5, .ifCond .lt 17092, .iload 5, .aload 1, .arraylength, .if_icmp .ge 17092, .aload 1, .iload 5, .iaload, .goto 17093] := rfl
theorem al_17092 : aP.1 (Int.toNat 17092) = [.iload 4, .jsr 17093] := rfl
theorem al_17093 : aP.1 (Int.toNat 17093) = [.iastore, .goto 17112] := rfl
theorem al_17094 : aP.1 (Int.toNat 17094) = [.iload 4, .iconst (-1), .if_icmp .ne 17095, .iload 2, .ifCond .lt 17095, .aload 0, .getfield 513, .iload 2, .aload 0, .getfield 513, .iload 2, .iaload, .ineg, .iastore, .jsr 17095] := rfl
theorem al_17095 : aP.1 (Int.toNat 17095) = [.iload 4, .iconst (-1), .if_icmp .eq 17112, .iload 2, .iconst 1, .if_icmp .ge 17096, .goto 17112] := rfl
theorem al_17096 : aP.1 (Int.toNat 17096) = [.aload 0, .getfield 513, .iload 2, .iconst 1, .isub, .iaload, .istore 5, .aload 0, .getfield 513, .iload 2, .iaload, .istore 6, .iinc 2 (-1), .iload 4, .tableswitch 17109 (-7) (-2) #[17106, 17103, 17102, 17101, 17098, 17097]] := rfl
theorem al_17097 : aP.1 (Int.toNat 17097) = [.aload 0, .getfield 513, .iload 2, .iload 5, .iload 6, .imul, .iastore, .goto 17112] := rfl
theorem al_17098 : aP.1 (Int.toNat 17098) = [.aload 0, .getfield 513, .iload 2, .iload 6, .ifCond .ne 17099, .iconst 0, .goto 17100] := rfl
theorem al_17099 : aP.1 (Int.toNat 17099) = [.iload 5, .iload 6, .idiv, .jsr 17100] := rfl
theorem al_17100 : aP.1 (Int.toNat 17100) = [.iastore, .goto 17112] := rfl
theorem al_17101 : aP.1 (Int.toNat 17101) = [.aload 0, .getfield 513, .iload 2, .iload 5, .iload 6, .iadd, .iastore, .goto 17112] := rfl
theorem al_17102 : aP.1 (Int.toNat 17102) = [.aload 0, .getfield 513, .iload 2, .iload 5, .iload 6, .isub, .iastore, .goto 17112] := rfl
theorem al_17103 : aP.1 (Int.toNat 17103) = [.aload 0, .getfield 513, .iload 2, .iload 5, .iload 6, .if_icmp .ge 17104, .iconst 1, .goto 17105] := rfl
theorem al_17104 : aP.1 (Int.toNat 17104) = [.iconst 0, .jsr 17105] := rfl
theorem al_17105 : aP.1 (Int.toNat 17105) = [.iastore, .goto 17112] := rfl
theorem al_17106 : aP.1 (Int.toNat 17106) = [.aload 0, .getfield 513, .iload 2, .iload 5, .iload 6, .if_icmp .le 17107, .iconst 1, .goto 17108] := rfl
theorem al_17107 : aP.1 (Int.toNat 17107) = [.iconst 0, .jsr 17108] := rfl
theorem al_17108 : aP.1 (Int.toNat 17108) = [.iastore, .goto 17112] := rfl
theorem al_17109 : aP.1 (Int.toNat 17109) = [.aload 0, .getfield 513, .iload 2, .iload 5, .iload 6, .if_icmp .ne 17110, .iconst 1, .goto 17111] := rfl
theorem al_17110 : aP.1 (Int.toNat 17110) = [.iconst 0, .jsr 17111] := rfl
theorem al_17111 : aP.1 (Int.toNat 17111) = [.iastore, .jsr 17112] := rfl
theorem al_17112 : aP.1 (Int.toNat 17112) = [.iinc 3 (1), .goto 17089] := rfl
theorem al_17113 : aP.1 (Int.toNat 17113) = [.aload 0, .getfield 513, .iconst 0, .iaload, .ireturn] := rfl
theorem am_267 : aP.2.1 267 = (17088, 2, 7, 0, some 8, none) := rfl
theorem ae_268 : aP.1 (aP.2.1 268).1 = [.aload 0, .invokedynamic 0, .aload 0, .iconst 40, .newarray .int, .putfield 2496, .aload 0, .iconst 40, .newarray .int, .putfield 2497, .return_] := rfl
theorem al_17152 : aP.1 (Int.toNat 17152) = [.aload 0, .invokedynamic 0, .aload 0, .iconst 40, .newarray .int, .putfield 2496, .aload 0, .iconst 40, .newarray .int, .putfield 2497, .return_] := rfl
theorem am_268 : aP.2.1 268 = (17152, 1, 1, 0, some 999, none) := rfl
theorem ae_269 : aP.1 (aP.2.1 269).1 = [.aload 1, .getfield 705, .ifCond .ne 17217, .aload 2, .ldc 1, .ldc 1, .arraylength, .invokestatic 266, .iconst (-1), .ireturn] := rfl
theorem al_17216 : aP.1 (Int.toNat 17216) = [.aload 1, .getfield 705, .ifCond .ne 17217, .aload 2, .ldc 1, .ldc 1, .arraylength, .invokestatic 266, .iconst (-1), .ireturn] := rfl
theorem al_17217 : aP.1 (Int.toNat 17217) = [.aload 0, .invokestatic 270, .aload 1, .getfield 705, .iconst 40, .invokedynamic 5, .istore 3, .iconst 0, .istore 4, .jsr 17218] := rfl
theorem al_17218 : aP.1 (Int.toNat 17218) = [.iload 4, .iload 3, .if_icmp .ge 17220, .aload 0, .aload 1, .iload 4, .invokestatic 288, .invokestatic 271, .ifCond .ne 17219, .iload 4, .ireturn] := rfl
theorem al_17219 : aP.1 (Int.toNat 17219) = [.iinc 4 (1), .goto 17218] := rfl
theorem al_17220 : aP.1 (Int.toNat 17220) = [.aload 1, .getfield 705, .iconst 40, .if_icmp .gt 17221, .aload 0, .getfield 582, .ifCond .ne 17221, .aload 0, .getfield 580, .ifCond .le 17222, .jsr 17221] := rfl
theorem al_17221 : aP.1 (Int.toNat 17221) = [.iload 3, .ireturn] := rfl
theorem al_17222 : aP.1 (Int.toNat 17222) = [.aload 0, .iconst 0, .invokestatic 277, .aload 2, .aload 0, .getfield 576, .aload 0, .getfield 578, .invokestatic 266, .iconst (-1), .ireturn] := rfl
theorem am_269 : aP.2.1 269 = (17216, 3, 5, 4, some 9, none) := rfl
theorem ae_270 : aP.1 (aP.2.1 270).1 = [.aload 0, .iconst 0, .putfield 2306, .aload 0, .iconst 0, .putfield 2307, .aload 0, .iconst 0, .putfield 2308, .aload 0, .iconst 0, .putfield 2309, .aload 0, .iconst 1, .putfield 2438, .return_] := rfl
theorem al_17280 : aP.1 (Int.toNat 17280) = [.aload 0, .iconst 0, .putfield 2306, .aload 0, .iconst 0, .putfield 2307, .aload 0, .iconst 0, .putfield 2308, .aload 0, .iconst 0, .putfield 2309, .aload 0, .iconst 1, .putfield 2438, .return_] := rfl
theorem am_270 : aP.2.1 270 = (17280, 1, 1, 0, some 9, none) := rfl
theorem ae_271 : aP.1 (aP.2.1 271).1 = [.iload 1, .iconst 48, .if_icmp .lt 17345, .iload 1, .iconst 57, .if_icmp .gt 17345, .aload 0, .iload 1, .iconst 48, .isub, .invokestatic 272, .freturn] := rfl
theorem al_17344 : aP.1 (Int.toNat 17344) = [.iload 1, .iconst 48, .if_icmp .lt 17345, .iload 1, .iconst 57, .if_icmp .gt 17345, .aload 0, .iload 1, .iconst 48, .isub, .invokestatic 272, .freturn] := rfl
theorem al_17345 : aP.1 (Int.toNat 17345) = [.aload 0, .iconst 0, .putfield 2309, .aload 0, .getfield 582, .ifCond .eq 17346, .aload 0, .iload 1, .invokestatic 274, .goto 17347] := rfl
theorem al_17346 : aP.1 (Int.toNat 17346) = [.aload 0, .iload 1, .invokestatic 276, .jsr 17347] := rfl
theorem al_17347 : aP.1 (Int.toNat 17347) = [.freturn] := rfl
theorem am_271 : aP.2.1 271 = (17344, 2, 2, 3, some 9, none) := rfl
theorem ae_272 : aP.1 (aP.2.1 272).1 = [.aload 0, .getfield 582, .ifCond .eq 17409, .aload 0, .iload 1, .invokestatic 273, .aload 0, .iconst 1, .putfield 2309, .aload 0, .iconst 0, .putfield 2438, .iconst 1, .freturn] := rfl
theorem al_17408 : aP.1 (Int.toNat 17408) = [.aload 0, .getfield 582, .ifCond .eq 17409, .aload 0, .iload 1, .invokestatic 273, .aload 0, .iconst 1, .putfield 2309, .aload 0, .iconst 0, .putfield 2438, .iconst 1, .freturn] := rfl
theorem al_17409 : aP.1 (Int.toNat 17409) = [.aload 0, .getfield 581, .ifCond .eq 17410, .aload 0, .getfield 581, .iconst 3, .if_icmp .ge 17410, .aload 0, .getfield 578, .iconst 1, .if_icmp .ge 17411, .jsr 17410] := rfl
theorem al_17410 : aP.1 (Int.toNat 17410) = [.iconst 0, .freturn] := rfl
theorem al_17411 : aP.1 (Int.toNat 17411) = [.aload 0, .getfield 576, .aload 0, .getfield 578, .iconst 1, .isub, .aload 0, .getfield 576, .aload 0, .getfield 578, .iconst 1, .isub, .iaload, .iconst 10, .imul, .iload 1, .iadd, .iastore, .aload 0, .dup, .getfield 581, .iconst 1, .iadd, .putfield 2309, .iconst 1, .freturn] := rfl
theorem am_272 : aP.2.1 272 = (17408, 2, 2, 1, some 9, none) := rfl
theorem ae_273 : aP.1 (aP.2.1 273).1 = [.aload 0, .getfield 578, .iconst 40, .if_icmp .ge 17473, .aload 0, .getfield 576, .aload 0, .getfield 578, .iload 1, .iastore, .aload 0, .dup, .getfield 578, .iconst 1, .iadd, .putfield 2306, .jsr 17473] := rfl
theorem al_17472 : aP.1 (Int.toNat 17472) = [.aload 0, .getfield 578, .iconst 40, .if_icmp .ge 17473, .aload 0, .getfield 576, .aload 0, .getfield 578, .iload 1, .iastore, .aload 0, .dup, .getfield 578, .iconst 1, .iadd, .putfield 2306, .jsr 17473] := rfl
theorem al_17473 : aP.1 (Int.toNat 17473) = [.return_] := rfl
theorem am_273 : aP.2.1 273 = (17472, 2, 2, 0, some 9, none) := rfl
theorem ae_274 : aP.1 (aP.2.1 274).1 = [.iload 1, .iconst 45, .if_icmp .ne 17537, .aload 0, .iconst (-1), .invokestatic 275, .iconst 1, .freturn] := rfl
theorem al_17536 : aP.1 (Int.toNat 17536) = [.iload 1, .iconst 45, .if_icmp .ne 17537, .aload 0, .iconst (-1), .invokestatic 275, .iconst 1, .freturn] := rfl
theorem al_17537 : aP.1 (Int.toNat 17537) = [.iload 1, .iconst 40, .if_icmp .ne 17539, .aload 0, .getfield 580, .iconst 4, .if_icmp .lt 17538, .iconst 0, .freturn] := rfl
theorem al_17538 : aP.1 (Int.toNat 17538) = [.aload 0, .dup, .getfield 580, .iconst 1, .iadd, .putfield 2308, .aload 0, .iconst 0, .invokestatic 275, .iconst 1, .freturn] := rfl
theorem al_17539 : aP.1 (Int.toNat 17539) = [.ldc 2, .iload 1, .invokedynamic 4, .istore 2, .iload 2, .ifCond .ge 17540, .iconst 0, .freturn] := rfl
theorem al_17540 : aP.1 (Int.toNat 17540) = [.aload 0, .iconst 1000, .iload 2, .iadd, .invokestatic 273, .aload 0, .iconst 0, .putfield 2438, .iconst 1, .freturn] := rfl
theorem am_274 : aP.2.1 274 = (17536, 2, 3, 1, some 9, none) := rfl
theorem ae_275 : aP.1 (aP.2.1 275).1 = [.aload 0, .getfield 579, .iconst 40, .if_icmp .ge 17601, .aload 0, .getfield 577, .aload 0, .getfield 579, .iload 1, .iastore, .aload 0, .dup, .getfield 579, .iconst 1, .iadd, .putfield 2307, .jsr 17601] := rfl
theorem al_17600 : aP.1 (Int.toNat 17600) = [.aload 0, .getfield 579, .iconst 40, .if_icmp .ge 17601, .aload 0, .getfield 577, .aload 0, .getfield 579, .iload 1, .iastore, .aload 0, .dup, .getfield 579, .iconst 1, .iadd, .putfield 2307, .jsr 17601] := rfl
theorem al_17601 : aP.1 (Int.toNat 17601) = [.return_] := rfl
theorem am_275 : aP.2.1 275 = (17600, 2, 2, 0, some 9, none) := rfl
theorem ae_276 : aP.1 (aP.2.1 276).1 = [.iload 1, .iconst 41, .if_icmp .ne 17666, .aload 0, .getfield 580, .iconst 1, .if_icmp .ge 17665, .iconst 0, .freturn] := rfl
theorem al_17664 : aP.1 (Int.toNat 17664) = [.iload 1, .iconst 41, .if_icmp .ne 17666, .aload 0, .getfield 580, .iconst 1, .if_icmp .ge 17665, .iconst 0, .freturn] := rfl
theorem al_17665 : aP.1 (Int.toNat 17665) = [.aload 0, .dup, .getfield 580, .iconst 1, .isub, .putfield 2308, .aload 0, .iconst 1, .invokestatic 277, .aload 0, .iconst 0, .aload 0, .getfield 579, .iconst 1, .isub, .invokedynamic 6, .putfield 2307, .iconst 1, .freturn] := rfl
theorem al_17666 : aP.1 (Int.toNat 17666) = [.iload 1, .invokestatic 279, .istore 2, .iload 2, .iconst 1, .if_icmp .ne 17667, .iconst 0, .freturn] := rfl
theorem al_17667 : aP.1 (Int.toNat 17667) = [.aload 0, .iconst 2, .iload 2, .invokestatic 278, .invokedynamic 6, .invokestatic 277, .iload 2, .invokestatic 278, .iconst 1, .if_icmp .ne 17668, .aload 0, .getfield 579, .ifCond .le 17668, .aload 0, .getfield 577, .aload 0, .getfield 579, .iconst 1, .isub, .iaload, .invokestatic 278, .iconst 1, .if_icmp .ne 17668, .iconst 0, .freturn] := rfl
theorem al_17668 : aP.1 (Int.toNat 17668) = [.aload 0, .iload 2, .invokestatic 275, .aload 0, .iconst 1, .putfield 2438, .iconst 1, .freturn] := rfl
theorem am_276 : aP.2.1 276 = (17664, 2, 3, 2, some 9, none) := rfl
theorem ae_277 : aP.1 (aP.2.1 277).1 = [.aload 0, .getfield 579, .iconst 1, .isub, .istore 2, .jsr 17729] := rfl
theorem al_17728 : aP.1 (Int.toNat 17728) = [.aload 0, .getfield 579, .iconst 1, .isub, .istore 2, .jsr 17729] := rfl
theorem al_17729 : aP.1 (Int.toNat 17729) = [.iload 2, .ifCond .lt 17730, .aload 0, .getfield 577, .iload 2, .iaload, .invokestatic 278, .iload 1, .if_icmp .lt 17730, .aload 0, .aload 0, .getfield 577, .iload 2, .iaload, .invokestatic 273, .aload 0, .iload 2, .putfield 2307, .iinc 2 (-1), .goto 17729] := rfl
theorem al_17730 : aP.1 (Int.toNat 17730) = [.return_] := rfl
theorem am_277 : aP.2.1 277 = (17728, 2, 3, 1, some 9, none) := rfl
theorem ae_278 : aP.1 (aP.2.1 278).1 = [.iload 0, .tableswitch 17797 (-5) (0) #[17796, 17796, 17795, 17795, 17794, 17793]] := rfl
theorem al_17792 : aP.1 (Int.toNat 17792) = [.iload 0, .tableswitch 17797 (-5) (0) #[17796, 17796, 17795, 17795, 17794, 17793]] := rfl
theorem al_17793 : aP.1 (Int.toNat 17793) = [.iconst 0, .ireturn] := rfl
theorem al_17794 : aP.1 (Int.toNat 17794) = [.iconst 4, .ireturn] := rfl
theorem al_17795 : aP.1 (Int.toNat 17795) = [.iconst 3, .ireturn] := rfl
theorem al_17796 : aP.1 (Int.toNat 17796) = [.iconst 2, .ireturn] := rfl
theorem al_17797 : aP.1 (Int.toNat 17797) = [.iconst 1, .ireturn] := rfl
theorem am_278 : aP.2.1 278 = (17792, 1, 1, 0, none, none) := rfl
theorem ae_279 : aP.1 (aP.2.1 279).1 = [.iload 0, .tableswitch 17864 (42) (62) #[17857, 17859, 17864, 17860, 17864, 17858, 17864, 17864, 17864, 17864, 17864, 17864, 17864, 17864, 17864, 17864, 17864, 17864, 17861, 17863, 17862]] := rfl
theorem al_17856 : aP.1 (Int.toNat 17856) = [.iload 0, .tableswitch 17864 (42) (62) #[17857, 17859, 17864, 17860, 17864, 17858, 17864, 17864, 17864, 17864, 17864, 17864, 17864, 17864, 17864, 17864, 17864, 17864, 17861, 17863, 17862]] := rfl
theorem al_17857 : aP.1 (Int.toNat 17857) = [.iconst (-2), .ireturn] := rfl
theorem al_17858 : aP.1 (Int.toNat 17858) = [.iconst (-3), .ireturn] := rfl
theorem al_17859 : aP.1 (Int.toNat 17859) = [.iconst (-4), .ireturn] := rfl
theorem al_17860 : aP.1 (Int.toNat 17860) = [.iconst (-5), .ireturn] := rfl
theorem al_17861 : aP.1 (Int.toNat 17861) = [.iconst (-6), .ireturn] := rfl
theorem al_17862 : aP.1 (Int.toNat 17862) = [.iconst (-7), .ireturn] := rfl
theorem al_17863 : aP.1 (Int.toNat 17863) = [.iconst (-8), .ireturn] := rfl
theorem al_17864 : aP.1 (Int.toNat 17864) = [.iconst 1, .ireturn] := rfl
theorem am_279 : aP.2.1 279 = (17856, 1, 1, 0, none, none) := rfl
theorem ae_280 : aP.1 (aP.2.1 280).1 = [.aload 0, .invokedynamic 0, .aload 0, .iconst 36, .newarray .int, .putfield 2752, .return_] := rfl
theorem al_17920 : aP.1 (Int.toNat 17920) = [.aload 0, .invokedynamic 0, .aload 0, .iconst 36, .newarray .int, .putfield 2752, .return_] := rfl
theorem am_280 : aP.2.1 280 = (17920, 1, 1, 0, some 999, none) := rfl
theorem ae_281 : aP.1 (aP.2.1 281).1 = [.aload 0, .getfield 640, .iconst 0, .invokestatic 124, .aload 0, .ldc2_w 16, .putfield 2625, .aload 0, .ldc2_w 16, .putfield 2626, .aload 0, .iconst 0, .putfield 2563, .aload 0, .iconst 0, .putfield 2564, .aload 0, .iconst 0, .putfield 2565, .return_] := rfl
theorem al_17984 : aP.1 (Int.toNat 17984) = [.aload 0, .getfield 640, .iconst 0, .invokestatic 124, .aload 0, .ldc2_w 16, .putfield 2625, .aload 0, .ldc2_w 16, .putfield 2626, .aload 0, .iconst 0, .putfield 2563, .aload 0, .iconst 0, .putfield 2564, .aload 0, .iconst 0, .putfield 2565, .return_] := rfl
theorem am_281 : aP.2.1 281 = (17984, 1, 1, 1, some 10, none) := rfl
theorem ae_282 : aP.1 (aP.2.1 282).1 = [.iconst 0, .istore 1, .iconst 0, .istore 2, .jsr 18049] := rfl
theorem al_18048 : aP.1 (Int.toNat 18048) = [.iconst 0, .istore 1, .iconst 0, .istore 2, .jsr 18049] := rfl
theorem al_18049 : aP.1 (Int.toNat 18049) = [.iload 2, .iconst 36, .if_icmp .ge 18050, .iload 1, .aload 0, .getfield 640, .iload 2, .iaload, .iadd, .istore 1, .iinc 2 (1), .goto 18049] := rfl
theorem al_18050 : aP.1 (Int.toNat 18050) = [.iload 1, .ireturn] := rfl
theorem am_282 : aP.2.1 282 = (18048, 1, 3, 0, some 10, none) := rfl
theorem ae_283 : aP.1 (aP.2.1 283).1 = [.aload 1, .getfield 640, .iconst 0, .aload 0, .getfield 640, .iconst 0, .iconst 36, .invokedynamic 1, .aload 0, .aload 1, .getfield 641, .putfield 2625, .aload 0, .aload 1, .getfield 642, .putfield 2626, .aload 0, .aload 1, .getfield 643, .putfield 2563, .aload 0, .aload 1, .getfield 644, .putfield 2564, .aload 0, .aload 1, .getfield 645, .putfield 2565, .return_] := rfl
theorem al_18112 : aP.1 (Int.toNat 18112) = [.aload 1, .getfield 640, .iconst 0, .aload 0, .getfield 640, .iconst 0, .iconst 36, .invokedynamic 1, .aload 0, .aload 1, .getfield 641, .putfield 2625, .aload 0, .aload 1, .getfield 642, .putfield 2626, .aload 0, .aload 1, .getfield 643, .putfield 2563, .aload 0, .aload 1, .getfield 644, .putfield 2564, .aload 0, .aload 1, .getfield 645, .putfield 2565, .return_] := rfl
theorem am_283 : aP.2.1 283 = (18112, 2, 2, 0, some 10, none) := rfl
theorem ae_284 : aP.1 (aP.2.1 284).1 = [.aload 0, .invokedynamic 0, .aload 0, .iconst 80, .newarray .char, .putfield 3008, .return_] := rfl
theorem al_18176 : aP.1 (Int.toNat 18176) = [.aload 0, .invokedynamic 0, .aload 0, .iconst 80, .newarray .char, .putfield 3008, .return_] := rfl
theorem am_284 : aP.2.1 284 = (18176, 1, 1, 0, some 999, none) := rfl
theorem ae_285 : aP.1 (aP.2.1 285).1 = [.aload 0, .getfield 705, .iconst 4, .iadd, .iconst 80, .if_icmp .le 18241, .iconst (-1), .ireturn] := rfl
theorem al_18240 : aP.1 (Int.toNat 18240) = [.aload 0, .getfield 705, .iconst 4, .iadd, .iconst 80, .if_icmp .le 18241, .iconst (-1), .ireturn] := rfl
theorem al_18241 : aP.1 (Int.toNat 18241) = [.iconst 24, .istore 2, .jsr 18242] := rfl
theorem al_18242 : aP.1 (Int.toNat 18242) = [.iload 2, .ifCond .lt 18243, .aload 0, .getfield 704, .aload 0, .getfield 705, .iload 1, .iload 2, .iushr, .iconst 255, .iand, .i2c, .castore, .aload 0, .dup, .getfield 705, .iconst 1, .iadd, .putfield 2817, .iinc 2 (-8), .goto 18242] := rfl
theorem al_18243 : aP.1 (Int.toNat 18243) = [.aload 0, .getfield 705, .ireturn] := rfl
theorem am_285 : aP.2.1 285 = (18240, 2, 3, 0, some 11, none) := rfl
theorem ae_286 : aP.1 (aP.2.1 286).1 = [.iload 1, .ifCond .lt 18305, .iload 1, .aload 0, .getfield 705, .if_icmp .le 18306, .jsr 18305] := rfl
theorem al_18304 : aP.1 (Int.toNat 18304) = [.iload 1, .ifCond .lt 18305, .iload 1, .aload 0, .getfield 705, .if_icmp .le 18306, .jsr 18305] := rfl
theorem al_18305 : aP.1 (Int.toNat 18305) = [.iconst 0, .freturn] := rfl
theorem al_18306 : aP.1 (Int.toNat 18306) = [.aload 0, .iload 1, .putfield 2817, .iconst 1, .freturn] := rfl
theorem am_286 : aP.2.1 286 = (18304, 2, 2, 0, some 11, none) := rfl
theorem ae_287 : aP.1 (aP.2.1 287).1 = [.aload 0, .iload 1, .invokestatic 288, .istore 2, .iload 2, .iconst 48, .if_icmp .lt 18369, .iload 2, .iconst 57, .if_icmp .gt 18369, .iload 2, .iconst 48, .isub, .goto 18370] := rfl
theorem al_18368 : aP.1 (Int.toNat 18368) = [.aload 0, .iload 1, .invokestatic 288, .istore 2, .iload 2, .iconst 48, .if_icmp .lt 18369, .iload 2, .iconst 57, .if_icmp .gt 18369, .iload 2, .iconst 48, .isub, .goto 18370] := rfl
theorem al_18369 : aP.1 (Int.toNat 18369) = [.iconst (-1), .jsr 18370] := rfl
theorem al_18370 : aP.1 (Int.toNat 18370) = [.ireturn] := rfl
theorem am_287 : aP.2.1 287 = (18368, 2, 3, 1, some 11, none) := rfl
theorem ae_288 : aP.1 (aP.2.1 288).1 = [.iload 1, .ifCond .lt 18433, .iload 1, .aload 0, .getfield 705, .if_icmp .lt 18434, .jsr 18433] := rfl
theorem al_18432 : aP.1 (Int.toNat 18432) = [.iload 1, .ifCond .lt 18433, .iload 1, .aload 0, .getfield 705, .if_icmp .lt 18434, .jsr 18433] := rfl
theorem al_18433 : aP.1 (Int.toNat 18433) = [.iconst 0, .goto 18435] := rfl
theorem al_18434 : aP.1 (Int.toNat 18434) = [.aload 0, .getfield 704, .iload 1, .caload, .jsr 18435] := rfl
theorem al_18435 : aP.1 (Int.toNat 18435) = [.dreturn] := rfl
theorem am_288 : aP.2.1 288 = (18432, 2, 2, 0, some 11, none) := rfl
theorem ae_289 : aP.1 (aP.2.1 289).1 = [.aload 0, .iconst 0, .putfield 2817, .return_] := rfl
theorem al_18496 : aP.1 (Int.toNat 18496) = [.aload 0, .iconst 0, .putfield 2817, .return_] := rfl
theorem am_289 : aP.2.1 289 = (18496, 1, 1, 0, some 11, none) := rfl
theorem ae_290 : aP.1 (aP.2.1 290).1 = [.iconst 1, .aload 0, .getfield 705, .iload 2, .invokedynamic 5, .invokedynamic 6, .istore 3, .iconst 0, .istore 4, .jsr 18561] := rfl
theorem al_18560 : aP.1 (Int.toNat 18560) = [.iconst 1, .aload 0, .getfield 705, .iload 2, .invokedynamic 5, .invokedynamic 6, .istore 3, .iconst 0, .istore 4, .jsr 18561] := rfl
theorem al_18561 : aP.1 (Int.toNat 18561) = [.iload 4, .iload 3, .if_icmp .ge 18564, .aload 0, .iload 4, .invokestatic 288, .iload 1, .if_icmp .lt 18562, .aload 0, .iload 4, .invokestatic 288, .iconst 57, .if_icmp .le 18563, .jsr 18562] := rfl
theorem al_18562 : aP.1 (Int.toNat 18562) = [.iload 4, .ireturn] := rfl
theorem al_18563 : aP.1 (Int.toNat 18563) = [.iinc 4 (1), .goto 18561] := rfl
theorem al_18564 : aP.1 (Int.toNat 18564) = [.aload 0, .getfield 705, .iload 2, .if_icmp .le 18565, .iload 2, .goto 18566] := rfl
theorem al_18565 : aP.1 (Int.toNat 18565) = [.iconst (-1), .jsr 18566] := rfl
theorem al_18566 : aP.1 (Int.toNat 18566) = [.ireturn] := rfl
theorem am_290 : aP.2.1 290 = (18560, 3, 5, 1, some 11, none) := rfl
theorem ae_291 : aP.1 (aP.2.1 291).1 = [.aload 0, .invokedynamic 0, .aload 0, .iconst 36, .newarray .long, .putfield 3264, .return_] := rfl
theorem al_18624 : aP.1 (Int.toNat 18624) = [.aload 0, .invokedynamic 0, .aload 0, .iconst 36, .newarray .long, .putfield 3264, .return_] := rfl
theorem am_291 : aP.2.1 291 = (18624, 1, 1, 0, some 999, none) := rfl
theorem ae_292 : aP.1 (aP.2.1 292).1 = [.aload 0, .iconst 0, .putfield 3073, .return_] := rfl
theorem al_18688 : aP.1 (Int.toNat 18688) = [.aload 0, .iconst 0, .putfield 3073, .return_] := rfl
theorem am_292 : aP.2.1 292 = (18688, 1, 1, 0, some 12, none) := rfl
theorem ae_293 : aP.1 (aP.2.1 293).1 = [.aload 0, .getfield 769, .iconst 36, .if_icmp .ge 18753, .aload 0, .getfield 768, .aload 0, .getfield 769, .lload 1, .lastore, .aload 0, .dup, .getfield 769, .iconst 1, .iadd, .putfield 3073, .jsr 18753] := rfl
theorem al_18752 : aP.1 (Int.toNat 18752) = [.aload 0, .getfield 769, .iconst 36, .if_icmp .ge 18753, .aload 0, .getfield 768, .aload 0, .getfield 769, .lload 1, .lastore, .aload 0, .dup, .getfield 769, .iconst 1, .iadd, .putfield 3073, .jsr 18753] := rfl
theorem al_18753 : aP.1 (Int.toNat 18753) = [.return_] := rfl
theorem am_293 : aP.2.1 293 = (18752, 2, 3, 0, some 12, none) := rfl
theorem ae_294 : aP.1 (aP.2.1 294).1 = [.iload 1, .ifCond .lt 18817, .iload 1, .aload 0, .getfield 769, .if_icmp .ge 18817, .aload 0, .getfield 768, .iload 1, .dup2, .laload, .ldc2_w 17, .ladd, .lastore, .jsr 18817] := rfl
theorem al_18816 : aP.1 (Int.toNat 18816) = [.iload 1, .ifCond .lt 18817, .iload 1, .aload 0, .getfield 769, .if_icmp .ge 18817, .aload 0, .getfield 768, .iload 1, .dup2, .laload, .ldc2_w 17, .ladd, .lastore, .jsr 18817] := rfl
theorem al_18817 : aP.1 (Int.toNat 18817) = [.return_] := rfl
theorem am_294 : aP.2.1 294 = (18816, 2, 2, 0, some 12, none) := rfl
theorem ae_295 : aP.1 (aP.2.1 295).1 = [.iconst 0, .istore 3, .jsr 18881] := rfl
theorem al_18880 : aP.1 (Int.toNat 18880) = [.iconst 0, .istore 3, .jsr 18881] := rfl
theorem al_18881 : aP.1 (Int.toNat 18881) = [.iload 3, .iconst 36, .if_icmp .ge 18883, .lload 1, .iload 3, .invokestatic 161, .iconst 1, .if_icmp .ne 18882, .aload 0, .iload 3, .i2l, .invokestatic 293, .jsr 18882] := rfl
theorem al_18882 : aP.1 (Int.toNat 18882) = [.iinc 3 (1), .goto 18881] := rfl
theorem al_18883 : aP.1 (Int.toNat 18883) = [.return_] := rfl
theorem am_295 : aP.2.1 295 = (18880, 2, 4, 1, some 12, none) := rfl
