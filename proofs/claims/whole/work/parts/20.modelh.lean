theorem dX10_feud_0 : decode cX10_feud 0 = .ok (.aload_n 0, 1) := by decide +kernel
theorem dX10_feud_1 : decode cX10_feud 1 = .ok (.iconst 0, 1) := by decide +kernel
theorem dX10_feud_2 : decode cX10_feud 2 = .ok (.putfield 180, 3) := by decide +kernel
theorem dX10_feud_5 : decode cX10_feud 5 = .ok (.iload 4, 2) := by decide +kernel
theorem dX10_feud_7 : decode cX10_feud 7 = .ok (.iconst 0, 1) := by decide +kernel
theorem dX10_feud_8 : decode cX10_feud 8 = .ok (.bipush 7, 2) := by decide +kernel
theorem dX10_feud_10 : decode cX10_feud 10 = .ok (.invokestatic 188, 3) := by decide +kernel
theorem dX10_feud_13 : decode cX10_feud 13 = .ok (.ifCond .eq 24, 3) := by decide +kernel
theorem dX10_feud_16 : decode cX10_feud 16 = .ok (.iload 5, 2) := by decide +kernel
theorem dX10_feud_18 : decode cX10_feud 18 = .ok (.iconst 0, 1) := by decide +kernel
theorem dX10_feud_19 : decode cX10_feud 19 = .ok (.bipush 7, 2) := by decide +kernel
theorem dX10_feud_21 : decode cX10_feud 21 = .ok (.invokestatic 188, 3) := by decide +kernel
theorem dX10_feud_24 : decode cX10_feud 24 = .ok (.ifCond .eq 13, 3) := by decide +kernel
theorem dX10_feud_27 : decode cX10_feud 27 = .ok (.aload_n 0, 1) := by decide +kernel
theorem dX10_feud_28 : decode cX10_feud 28 = .ok (.iload_n 1, 1) := by decide +kernel
theorem dX10_feud_29 : decode cX10_feud 29 = .ok (.iload_n 2, 1) := by decide +kernel
theorem dX10_feud_30 : decode cX10_feud 30 = .ok (.iload_n 3, 1) := by decide +kernel
theorem dX10_feud_31 : decode cX10_feud 31 = .ok (.invokevirtual 452, 3) := by decide +kernel
theorem dX10_feud_34 : decode cX10_feud 34 = .ok (.ifCond .ne 5, 3) := by decide +kernel
theorem dX10_feud_37 : decode cX10_feud 37 = .ok (.iconst (-1), 1) := by decide +kernel
theorem dX10_feud_38 : decode cX10_feud 38 = .ok (.ireturn, 1) := by decide +kernel
theorem dX10_feud_39 : decode cX10_feud 39 = .ok (.iconst 0, 1) := by decide +kernel
theorem dX10_feud_40 : decode cX10_feud 40 = .ok (.istore 6, 2) := by decide +kernel
theorem dX10_feud_42 : decode cX10_feud 42 = .ok (.iconst 0, 1) := by decide +kernel
theorem dX10_feud_43 : decode cX10_feud 43 = .ok (.istore 7, 2) := by decide +kernel
theorem dX10_feud_45 : decode cX10_feud 45 = .ok (.iload 7, 2) := by decide +kernel
theorem dX10_feud_47 : decode cX10_feud 47 = .ok (.aload_n 0, 1) := by decide +kernel
theorem dX10_feud_48 : decode cX10_feud 48 = .ok (.getfield 443, 3) := by decide +kernel
theorem dX10_feud_51 : decode cX10_feud 51 = .ok (.if_icmp .ge 85, 3) := by decide +kernel
theorem dX10_feud_54 : decode cX10_feud 54 = .ok (.aload_n 0, 1) := by decide +kernel
theorem dX10_feud_55 : decode cX10_feud 55 = .ok (.getfield 38, 3) := by decide +kernel
theorem dX10_feud_58 : decode cX10_feud 58 = .ok (.bipush 12, 2) := by decide +kernel
theorem dX10_feud_60 : decode cX10_feud 60 = .ok (.iload_n 1, 1) := by decide +kernel
theorem dX10_feud_61 : decode cX10_feud 61 = .ok (.imul, 1) := by decide +kernel
theorem dX10_feud_62 : decode cX10_feud 62 = .ok (.aload_n 0, 1) := by decide +kernel
theorem dX10_feud_63 : decode cX10_feud 63 = .ok (.getfield 158, 3) := by decide +kernel
theorem dX10_feud_66 : decode cX10_feud 66 = .ok (.iload 7, 2) := by decide +kernel
theorem dX10_feud_68 : decode cX10_feud 68 = .ok (.iaload, 1) := by decide +kernel
theorem dX10_feud_69 : decode cX10_feud 69 = .ok (.iadd, 1) := by decide +kernel
theorem dX10_feud_70 : decode cX10_feud 70 = .ok (.iaload, 1) := by decide +kernel
theorem dX10_feud_71 : decode cX10_feud 71 = .ok (.istore 8, 2) := by decide +kernel
theorem dX10_feud_73 : decode cX10_feud 73 = .ok (.aload_n 0, 1) := by decide +kernel
theorem dX10_feud_74 : decode cX10_feud 74 = .ok (.getfield 38, 3) := by decide +kernel
theorem dX10_feud_77 : decode cX10_feud 77 = .ok (.bipush 12, 2) := by decide +kernel
theorem dX10_feud_79 : decode cX10_feud 79 = .ok (.iload_n 1, 1) := by decide +kernel
theorem dX10_feud_80 : decode cX10_feud 80 = .ok (.imul, 1) := by decide +kernel
theorem dX10_feud_81 : decode cX10_feud 81 = .ok (.aload_n 0, 1) := by decide +kernel
theorem dX10_feud_82 : decode cX10_feud 82 = .ok (.getfield 161, 3) := by decide +kernel
theorem dX10_feud_85 : decode cX10_feud 85 = .ok (.iload 7, 2) := by decide +kernel
theorem dX10_feud_87 : decode cX10_feud 87 = .ok (.iaload, 1) := by decide +kernel
theorem dX10_feud_88 : decode cX10_feud 88 = .ok (.iadd, 1) := by decide +kernel
theorem dX10_feud_89 : decode cX10_feud 89 = .ok (.iaload, 1) := by decide +kernel
theorem dX10_feud_90 : decode cX10_feud 90 = .ok (.istore 9, 2) := by decide +kernel
theorem dX10_feud_92 : decode cX10_feud 92 = .ok (.iload 6, 2) := by decide +kernel
theorem dX10_feud_94 : decode cX10_feud 94 = .ok (.iload 8, 2) := by decide +kernel
theorem dX10_feud_96 : decode cX10_feud 96 = .ok (.iload 4, 2) := by decide +kernel
theorem dX10_feud_98 : decode cX10_feud 98 = .ok (.if_icmp .ne 10, 3) := by decide +kernel
theorem dX10_feud_101 : decode cX10_feud 101 = .ok (.iload 9, 2) := by decide +kernel
theorem dX10_feud_103 : decode cX10_feud 103 = .ok (.iload 5, 2) := by decide +kernel
theorem dX10_feud_105 : decode cX10_feud 105 = .ok (.if_icmp .eq 17, 3) := by decide +kernel
theorem dX10_feud_108 : decode cX10_feud 108 = .ok (.iload 8, 2) := by decide +kernel
theorem dX10_feud_110 : decode cX10_feud 110 = .ok (.iload 5, 2) := by decide +kernel
theorem dX10_feud_112 : decode cX10_feud 112 = .ok (.if_icmp .ne 14, 3) := by decide +kernel
theorem dX10_feud_115 : decode cX10_feud 115 = .ok (.iload 9, 2) := by decide +kernel
theorem dX10_feud_117 : decode cX10_feud 117 = .ok (.iload 4, 2) := by decide +kernel
theorem dX10_feud_119 : decode cX10_feud 119 = .ok (.if_icmp .ne 7, 3) := by decide +kernel
theorem dX10_feud_122 : decode cX10_feud 122 = .ok (.iconst 1, 1) := by decide +kernel
theorem dX10_feud_123 : decode cX10_feud 123 = .ok (.goto 4, 3) := by decide +kernel
theorem dX10_feud_126 : decode cX10_feud 126 = .ok (.iconst 0, 1) := by decide +kernel
theorem dX10_feud_127 : decode cX10_feud 127 = .ok (.iadd, 1) := by decide +kernel
theorem dX10_feud_128 : decode cX10_feud 128 = .ok (.istore 6, 2) := by decide +kernel
theorem dX10_feud_130 : decode cX10_feud 130 = .ok (.iinc 7 1, 3) := by decide +kernel
theorem dX10_feud_133 : decode cX10_feud 133 = .ok (.goto (-88), 3) := by decide +kernel
theorem dX10_feud_136 : decode cX10_feud 136 = .ok (.iload 6, 2) := by decide +kernel
theorem dX10_feud_138 : decode cX10_feud 138 = .ok (.ireturn, 1) := by decide +kernel
def rmX10_feud : Room := { frames := 7, cells := 0, slots := 0, locals := 180 }
set_option maxRecDepth 100000 in
def g_X10_feud_127 (th : Nat) (p1 : Int32) (p2 : Int32) (p3 : Int32) (p4 : Int32) (p5 : Int32) (k45 : Int32 → Int32 → MM → Option (Int32 × MM)) (x7 : Int32) (s0 : Int32) (s1 : Int32) (m : MM) : Option (Int32 × MM) :=
  bnd (s0 + s1) (fun y1 => k45 y1 (x7 + 1) m)
set_option maxHeartbeats 4000000 in
set_option maxRecDepth 100000 in
theorem s_X10_feud_127 {Γ : GX} {E : EX} (C : Cx Γ E cX10_feud RX10 10) (hr : Γ.meth.sig.returnType = (some .int)) (hrm : Γ.rm = rmX10_feud) (th : Nat) (p1 : Int32) (p2 : Int32) (p3 : Int32) (p4 : Int32) (p5 : Int32) (k45 : Int32 → Int32 → MM → Option (Int32 × MM)) (h45 : ∀ (x6 : Int32) (x7 : Int32) (m : MM), Sm (QM Γ E emI 0 0) Γ E 10 0 0 45 [(0, va_rf (some th)), (1, .int p1), (2, .int p2), (3, .int p3), (4, .int p4), (5, .int p5), (6, .int x6), (7, .int x7)] [] m (k45 x6 x7 m)) (x7 : Int32) (s0 : Int32) (s1 : Int32) (m : MM) : Sm (QM Γ E emI 0 0) Γ E 10 0 0 127 [(0, va_rf (some th)), (1, .int p1), (2, .int p2), (3, .int p3), (4, .int p4), (5, .int p5), (7, .int x7)] [.int s1, .int s0] m (g_X10_feud_127 th p1 p2 p3 p4 p5 k45 x7 s0 s1 m) := by
  unfold g_X10_feud_127
  refine z_iadd C dX10_feud_127 ?_
  refine z_bndI (fun y1 => ?_)
  refine z_istore (i := 6) (L2 := [(6, .int y1), (0, va_rf (some th)), (1, .int p1), (2, .int p2), (3, .int p3), (4, .int p4), (5, .int p5), (7, .int x7)]) C dX10_feud_128 (by decide) rfl ?_
  refine z_iinc (v := 1) (L2 := [(7, .int (x7 + 1)), (6, .int y1), (0, va_rf (some th)), (1, .int p1), (2, .int p2), (3, .int p3), (4, .int p4), (5, .int p5)]) C dX10_feud_130 7 rfl (by decide) (by decide) rfl ?_
  refine z_goto (tgt := 45) C dX10_feud_133 (by decide) ?_
  exact z_sub [2, 3, 4, 5, 6, 7, 1, 0] rfl (h45 y1 (x7 + 1) m)
set_option maxRecDepth 100000 in
def g_X10_feud_126 (th : Nat) (p1 : Int32) (p2 : Int32) (p3 : Int32) (p4 : Int32) (p5 : Int32) (k45 : Int32 → Int32 → MM → Option (Int32 × MM)) (x7 : Int32) (s0 : Int32) (m : MM) : Option (Int32 × MM) :=
  g_X10_feud_127 th p1 p2 p3 p4 p5 k45 x7 s0 0 m
set_option maxHeartbeats 4000000 in
set_option maxRecDepth 100000 in
theorem s_X10_feud_126 {Γ : GX} {E : EX} (C : Cx Γ E cX10_feud RX10 10) (hr : Γ.meth.sig.returnType = (some .int)) (hrm : Γ.rm = rmX10_feud) (th : Nat) (p1 : Int32) (p2 : Int32) (p3 : Int32) (p4 : Int32) (p5 : Int32) (k45 : Int32 → Int32 → MM → Option (Int32 × MM)) (h45 : ∀ (x6 : Int32) (x7 : Int32) (m : MM), Sm (QM Γ E emI 0 0) Γ E 10 0 0 45 [(0, va_rf (some th)), (1, .int p1), (2, .int p2), (3, .int p3), (4, .int p4), (5, .int p5), (6, .int x6), (7, .int x7)] [] m (k45 x6 x7 m)) (x7 : Int32) (s0 : Int32) (m : MM) : Sm (QM Γ E emI 0 0) Γ E 10 0 0 126 [(0, va_rf (some th)), (1, .int p1), (2, .int p2), (3, .int p3), (4, .int p4), (5, .int p5), (7, .int x7)] [.int s0] m (g_X10_feud_126 th p1 p2 p3 p4 p5 k45 x7 s0 m) := by
  unfold g_X10_feud_126
  refine z_iconst (v := 0) C dX10_feud_126 (by decide) ?_
  exact z_sub [0, 1, 2, 3, 4, 5, 6] rfl (s_X10_feud_127 C hr hrm th p1 p2 p3 p4 p5 k45 h45 x7 s0 0 m)
set_option maxRecDepth 100000 in
def g_X10_feud_122 (th : Nat) (p1 : Int32) (p2 : Int32) (p3 : Int32) (p4 : Int32) (p5 : Int32) (k45 : Int32 → Int32 → MM → Option (Int32 × MM)) (x7 : Int32) (s0 : Int32) (m : MM) : Option (Int32 × MM) :=
  g_X10_feud_127 th p1 p2 p3 p4 p5 k45 x7 s0 1 m
set_option maxHeartbeats 4000000 in
set_option maxRecDepth 100000 in
theorem s_X10_feud_122 {Γ : GX} {E : EX} (C : Cx Γ E cX10_feud RX10 10) (hr : Γ.meth.sig.returnType = (some .int)) (hrm : Γ.rm = rmX10_feud) (th : Nat) (p1 : Int32) (p2 : Int32) (p3 : Int32) (p4 : Int32) (p5 : Int32) (k45 : Int32 → Int32 → MM → Option (Int32 × MM)) (h45 : ∀ (x6 : Int32) (x7 : Int32) (m : MM), Sm (QM Γ E emI 0 0) Γ E 10 0 0 45 [(0, va_rf (some th)), (1, .int p1), (2, .int p2), (3, .int p3), (4, .int p4), (5, .int p5), (6, .int x6), (7, .int x7)] [] m (k45 x6 x7 m)) (x7 : Int32) (s0 : Int32) (m : MM) : Sm (QM Γ E emI 0 0) Γ E 10 0 0 122 [(0, va_rf (some th)), (1, .int p1), (2, .int p2), (3, .int p3), (4, .int p4), (5, .int p5), (7, .int x7)] [.int s0] m (g_X10_feud_122 th p1 p2 p3 p4 p5 k45 x7 s0 m) := by
  unfold g_X10_feud_122
  refine z_iconst (v := 1) C dX10_feud_122 (by decide) ?_
  refine z_goto (tgt := 127) C dX10_feud_123 (by decide) ?_
  exact z_sub [0, 1, 2, 3, 4, 5, 6] rfl (s_X10_feud_127 C hr hrm th p1 p2 p3 p4 p5 k45 h45 x7 s0 1 m)
set_option maxRecDepth 100000 in
def g_X10_feud_108 (th : Nat) (p1 : Int32) (p2 : Int32) (p3 : Int32) (p4 : Int32) (p5 : Int32) (k45 : Int32 → Int32 → MM → Option (Int32 × MM)) (x7 : Int32) (x8 : Int32) (x9 : Int32) (s0 : Int32) (m : MM) : Option (Int32 × MM) :=
  if x8 = p5 then (if x9 = p4 then (g_X10_feud_122 th p1 p2 p3 p4 p5 k45 x7 s0 m) else (g_X10_feud_126 th p1 p2 p3 p4 p5 k45 x7 s0 m)) else (g_X10_feud_126 th p1 p2 p3 p4 p5 k45 x7 s0 m)
set_option maxHeartbeats 4000000 in
set_option maxRecDepth 100000 in
theorem s_X10_feud_108 {Γ : GX} {E : EX} (C : Cx Γ E cX10_feud RX10 10) (hr : Γ.meth.sig.returnType = (some .int)) (hrm : Γ.rm = rmX10_feud) (th : Nat) (p1 : Int32) (p2 : Int32) (p3 : Int32) (p4 : Int32) (p5 : Int32) (k45 : Int32 → Int32 → MM → Option (Int32 × MM)) (h45 : ∀ (x6 : Int32) (x7 : Int32) (m : MM), Sm (QM Γ E emI 0 0) Γ E 10 0 0 45 [(0, va_rf (some th)), (1, .int p1), (2, .int p2), (3, .int p3), (4, .int p4), (5, .int p5), (6, .int x6), (7, .int x7)] [] m (k45 x6 x7 m)) (x7 : Int32) (x8 : Int32) (x9 : Int32) (s0 : Int32) (m : MM) : Sm (QM Γ E emI 0 0) Γ E 10 0 0 108 [(0, va_rf (some th)), (1, .int p1), (2, .int p2), (3, .int p3), (4, .int p4), (5, .int p5), (7, .int x7), (8, .int x8), (9, .int x9)] [.int s0] m (g_X10_feud_108 th p1 p2 p3 p4 p5 k45 x7 x8 x9 s0 m) := by
  unfold g_X10_feud_108
  refine z_iload C dX10_feud_108 7 rfl ?_
  refine z_iload C dX10_feud_110 5 rfl ?_
  refine z_icmp_ne (tgt := 126) C dX10_feud_112 (by decide) (fun c1 => ?_) (fun c1 => ?_)
  · exact z_sub [0, 1, 2, 3, 4, 5, 6] rfl (s_X10_feud_126 C hr hrm th p1 p2 p3 p4 p5 k45 h45 x7 s0 m)
  · refine z_iload C dX10_feud_115 8 rfl ?_
    refine z_iload C dX10_feud_117 4 rfl ?_
    refine z_icmp_ne (tgt := 126) C dX10_feud_119 (by decide) (fun c2 => ?_) (fun c2 => ?_)
    · exact z_sub [0, 1, 2, 3, 4, 5, 6] rfl (s_X10_feud_126 C hr hrm th p1 p2 p3 p4 p5 k45 h45 x7 s0 m)
    · exact z_sub [0, 1, 2, 3, 4, 5, 6] rfl (s_X10_feud_122 C hr hrm th p1 p2 p3 p4 p5 k45 h45 x7 s0 m)
set_option maxRecDepth 100000 in
def g_X10_feud_45 (th : Nat) (p1 : Int32) (p2 : Int32) (p3 : Int32) (p4 : Int32) (p5 : Int32) (k45 : Int32 → Int32 → MM → Option (Int32 × MM)) (x6 : Int32) (x7 : Int32) (m : MM) : Option (Int32 × MM) :=
  chk (m.K th = 11) (if (m.I 1174 th 0) ≤ x7 then (some (x6, m)) else (ck m (m.R 1171 th 0) 22 (fun a1 => chk (inb x7 (m.N a1) = true) (ck m (m.R 1110 th 0) 22 (fun a2 => chk (inb ((12 * p1) + (m.I 22 a1 (Int32.toNatClampNeg x7))) (m.N a2) = true) (bnd (m.I 22 a2 (Int32.toNatClampNeg ((12 * p1) + (m.I 22 a1 (Int32.toNatClampNeg x7))))) (fun y2 => ck m (m.R 1172 th 0) 22 (fun a3 => chk (inb x7 (m.N a3) = true) (chk (inb ((12 * p1) + (m.I 22 a3 (Int32.toNatClampNeg x7))) (m.N a2) = true) (bnd (m.I 22 a2 (Int32.toNatClampNeg ((12 * p1) + (m.I 22 a3 (Int32.toNatClampNeg x7))))) (fun y3 => if y2 = p4 then (if y3 = p5 then (g_X10_feud_122 th p1 p2 p3 p4 p5 k45 x7 x6 m) else (g_X10_feud_108 th p1 p2 p3 p4 p5 k45 x7 y2 y3 x6 m)) else (g_X10_feud_108 th p1 p2 p3 p4 p5 k45 x7 y2 y3 x6 m))))))))))))
set_option maxHeartbeats 4000000 in
set_option maxRecDepth 100000 in
theorem s_X10_feud_45 {Γ : GX} {E : EX} (C : Cx Γ E cX10_feud RX10 10) (hr : Γ.meth.sig.returnType = (some .int)) (hrm : Γ.rm = rmX10_feud) (th : Nat) (p1 : Int32) (p2 : Int32) (p3 : Int32) (p4 : Int32) (p5 : Int32) (k45 : Int32 → Int32 → MM → Option (Int32 × MM)) (h45 : ∀ (x6 : Int32) (x7 : Int32) (m : MM), Sm (QM Γ E emI 0 0) Γ E 10 0 0 45 [(0, va_rf (some th)), (1, .int p1), (2, .int p2), (3, .int p3), (4, .int p4), (5, .int p5), (6, .int x6), (7, .int x7)] [] m (k45 x6 x7 m)) (x6 : Int32) (x7 : Int32) (m : MM) : Sm (QM Γ E emI 0 0) Γ E 10 0 0 45 [(0, va_rf (some th)), (1, .int p1), (2, .int p2), (3, .int p3), (4, .int p4), (5, .int p5), (6, .int x6), (7, .int x7)] [] m (g_X10_feud_45 th p1 p2 p3 p4 p5 k45 x6 x7 m) := by
  unfold g_X10_feud_45
  refine z_iload C dX10_feud_45 7 rfl ?_
  refine z_aload_n C dX10_feud_47 rfl 0 rfl ?_
  refine z_chk (fun hk1 => ?_)
  refine z_getI C fl_RX10_443 rfl hk1 dX10_feud_48 ?_
  refine z_icmp_ge (tgt := 136) C dX10_feud_51 (by decide) (fun c3 => ?_) (fun c3 => ?_)
  · refine z_iload C dX10_feud_136 6 rfl ?_
    exact z_iret C hr dX10_feud_138
  · refine z_aload_n C dX10_feud_54 rfl 0 rfl ?_
    refine z_getR C fl_RX10_38 rfl hk1 dX10_feud_55 ?_
    refine z_bipush (v := 12) C dX10_feud_58 (by decide) ?_
    refine z_iload_n C dX10_feud_60 rfl 1 rfl ?_
    refine z_imul C dX10_feud_61 ?_
    refine z_aload_n C dX10_feud_62 rfl 0 rfl ?_
    refine z_getR C fl_RX10_158 rfl hk1 dX10_feud_63 ?_
    refine z_iload C dX10_feud_66 7 rfl ?_
    refine z_ck (fun a1 hr1 hk2 => ?_)
    refine z_chk (fun hj1 => ?_)
    refine z_iald C hr1 hk2 hj1 dX10_feud_68 ?_
    refine z_iadd C dX10_feud_69 ?_
    refine z_ck (fun a2 hr2 hk3 => ?_)
    refine z_chk (fun hj2 => ?_)
    refine z_iald C hr2 hk3 hj2 dX10_feud_70 ?_
    refine z_bndI (fun y2 => ?_)
    refine z_istore (i := 8) (L2 := [(8, .int y2), (0, va_rf (some th)), (1, .int p1), (2, .int p2), (3, .int p3), (4, .int p4), (5, .int p5), (6, .int x6), (7, .int x7)]) C dX10_feud_71 (by decide) rfl ?_
    refine z_aload_n C dX10_feud_73 rfl 1 rfl ?_
    refine z_getR C fl_RX10_38 rfl hk1 dX10_feud_74 ?_
    refine z_bipush (v := 12) C dX10_feud_77 (by decide) ?_
    refine z_iload_n C dX10_feud_79 rfl 2 rfl ?_
    refine z_imul C dX10_feud_80 ?_
    refine z_aload_n C dX10_feud_81 rfl 1 rfl ?_
    refine z_getR C fl_RX10_161 rfl hk1 dX10_feud_82 ?_
    refine z_iload C dX10_feud_85 8 rfl ?_
    refine z_ck (fun a3 hr3 hk4 => ?_)
    refine z_chk (fun hj3 => ?_)
    refine z_iald C hr3 hk4 hj3 dX10_feud_87 ?_
    refine z_iadd C dX10_feud_88 ?_
    refine z_chk (fun hj4 => ?_)
    refine z_iald C hr2 hk3 hj4 dX10_feud_89 ?_
    refine z_bndI (fun y3 => ?_)
    refine z_istore (i := 9) (L2 := [(9, .int y3), (8, .int y2), (0, va_rf (some th)), (1, .int p1), (2, .int p2), (3, .int p3), (4, .int p4), (5, .int p5), (6, .int x6), (7, .int x7)]) C dX10_feud_90 (by decide) rfl ?_
    refine z_iload C dX10_feud_92 8 rfl ?_
    refine z_iload C dX10_feud_94 1 rfl ?_
    refine z_iload C dX10_feud_96 6 rfl ?_
    refine z_icmp_ne (tgt := 108) C dX10_feud_98 (by decide) (fun c4 => ?_) (fun c4 => ?_)
    · exact z_sub [2, 3, 4, 5, 6, 7, 9, 1, 0] rfl (s_X10_feud_108 C hr hrm th p1 p2 p3 p4 p5 k45 h45 x7 y2 y3 x6 m)
    · refine z_iload C dX10_feud_101 0 rfl ?_
      refine z_iload C dX10_feud_103 7 rfl ?_
      refine z_icmp_eq (tgt := 122) C dX10_feud_105 (by decide) (fun c5 => ?_) (fun c5 => ?_)
      · exact z_sub [2, 3, 4, 5, 6, 7, 9] rfl (s_X10_feud_122 C hr hrm th p1 p2 p3 p4 p5 k45 h45 x7 x6 m)
      · exact z_sub [2, 3, 4, 5, 6, 7, 9, 1, 0] rfl (s_X10_feud_108 C hr hrm th p1 p2 p3 p4 p5 k45 h45 x7 y2 y3 x6 m)
def l_X10_feud_45 (th : Nat) (p1 : Int32) (p2 : Int32) (p3 : Int32) (p4 : Int32) (p5 : Int32) : Nat → Int32 → Int32 → MM → Option (Int32 × MM) := lp (fun _ _ _ => none) (fun k45 => g_X10_feud_45 th p1 p2 p3 p4 p5 k45)
theorem t_X10_feud_45 {Γ : GX} {E : EX} (C : Cx Γ E cX10_feud RX10 10) (hr : Γ.meth.sig.returnType = (some .int)) (hrm : Γ.rm = rmX10_feud) (th : Nat) (p1 : Int32) (p2 : Int32) (p3 : Int32) (p4 : Int32) (p5 : Int32) : ∀ (n : Nat) (x6 : Int32) (x7 : Int32) (m : MM), Sm (QM Γ E emI 0 0) Γ E 10 0 0 45 [(0, va_rf (some th)), (1, .int p1), (2, .int p2), (3, .int p3), (4, .int p4), (5, .int p5), (6, .int x6), (7, .int x7)] [] m (l_X10_feud_45 th p1 p2 p3 p4 p5 n x6 x7 m) := by
  intro n
  induction n with
  | zero => intros; exact z_none
  | succ n ih => intro x6 x7 m; exact s_X10_feud_45 C hr hrm th p1 p2 p3 p4 p5 (l_X10_feud_45 th p1 p2 p3 p4 p5 n) ih x6 x7 m
set_option maxRecDepth 100000 in
def g_X10_feud_0 (th : Nat) (p1 : Int32) (p2 : Int32) (p3 : Int32) (p4 : Int32) (p5 : Int32) (m : MM) : Option (Int32 × MM) :=
  chk (m.K th = 11) (bnd (m.sI 1100 th 0 0) (fun m1 => cal (f_X10_in p4 0 7 m1) (fun r1 m2 => if r1 = 0 then (some ((-1), m2)) else (cal (f_X10_in p5 0 7 m2) (fun r2 m3 => if r2 = 0 then (some ((-1), m3)) else (chk (m3.K th = 11) (cal (f_X10_bringBars th p1 p2 p3 m3) (fun r3 m4 => if r3 = 0 then (some ((-1), m4)) else (l_X10_feud_45 th p1 p2 p3 p4 p5 FU 0 0 m4)))))))))
set_option maxHeartbeats 4000000 in
set_option maxRecDepth 100000 in
theorem s_X10_feud_0 {Γ : GX} {E : EX} (C : Cx Γ E cX10_feud RX10 10) (hr : Γ.meth.sig.returnType = (some .int)) (hrm : Γ.rm = rmX10_feud) (th : Nat) (p1 : Int32) (p2 : Int32) (p3 : Int32) (p4 : Int32) (p5 : Int32) (m : MM) : Sm (QM Γ E emI 0 0) Γ E 10 0 0 0 [(0, va_rf (some th)), (1, .int p1), (2, .int p2), (3, .int p3), (4, .int p4), (5, .int p5)] [] m (g_X10_feud_0 th p1 p2 p3 p4 p5 m) := by
  unfold g_X10_feud_0
  refine z_aload_n C dX10_feud_0 rfl 0 rfl ?_
  refine z_iconst (v := 0) C dX10_feud_1 (by decide) ?_
  refine z_chk (fun hk5 => ?_)
  refine z_putI C fl_RX10_180 (fun h => by cases h) rfl hk5 rfl rfl dX10_feud_2 (fun m1 eK1 eN1 => ?_)
  refine z_iload C dX10_feud_5 4 rfl ?_
  refine z_iconst (v := 0) C dX10_feud_7 (by decide) ?_
  refine z_bipush (v := 7) C dX10_feud_8 (by decide) ?_
  refine z_cSI [.int p4, .int 0, .int 7] [] C mv_RX10_188 (fun r0 m0 h0 => M_X10_in _ _ _ _ _ _ _ _ h0) rfl rfl ⟨by rw [hrm]; exact Nat.le_of_ble_eq_true rfl, by rw [hrm]; exact Nat.le_of_ble_eq_true rfl⟩ ⟨by rw [hrm]; exact Nat.le_of_ble_eq_true rfl, by rw [hrm]; exact Nat.le_of_ble_eq_true rfl⟩ rfl rfl (Nat.le_of_ble_eq_true rfl) dX10_feud_10 (fun r1 m2 => ?_)
  refine z_if_eq (tgt := 37) C dX10_feud_13 (by decide) (fun c6 => ?_) (fun c6 => ?_)
  · refine z_iconst (v := (-1)) C dX10_feud_37 (by decide) ?_
    exact z_iret C hr dX10_feud_38
  · refine z_iload C dX10_feud_16 5 rfl ?_
    refine z_iconst (v := 0) C dX10_feud_18 (by decide) ?_
    refine z_bipush (v := 7) C dX10_feud_19 (by decide) ?_
    refine z_cSI [.int p5, .int 0, .int 7] [] C mv_RX10_188 (fun r0 m0 h0 => M_X10_in _ _ _ _ _ _ _ _ h0) rfl rfl ⟨by rw [hrm]; exact Nat.le_of_ble_eq_true rfl, by rw [hrm]; exact Nat.le_of_ble_eq_true rfl⟩ ⟨by rw [hrm]; exact Nat.le_of_ble_eq_true rfl, by rw [hrm]; exact Nat.le_of_ble_eq_true rfl⟩ rfl rfl (Nat.le_of_ble_eq_true rfl) dX10_feud_21 (fun r2 m3 => ?_)
    refine z_if_eq (tgt := 37) C dX10_feud_24 (by decide) (fun c7 => ?_) (fun c7 => ?_)
    · refine z_iconst (v := (-1)) C dX10_feud_37 (by decide) ?_
      exact z_iret C hr dX10_feud_38
    · refine z_aload_n C dX10_feud_27 rfl 0 rfl ?_
      refine z_iload_n C dX10_feud_28 rfl 1 rfl ?_
      refine z_iload_n C dX10_feud_29 rfl 2 rfl ?_
      refine z_iload_n C dX10_feud_30 rfl 3 rfl ?_
      refine z_chk (fun hk6 => ?_)
      refine z_cVI [.int p1, .int p2, .int p3] [] C mv_RX10_452 (fun r0 m0 h0 => M_X10_bringBars _ _ _ _ _ _ _ _ _ h0) rfl rfl ⟨by rw [hrm]; exact Nat.le_of_ble_eq_true rfl, by rw [hrm]; exact Nat.le_of_ble_eq_true rfl⟩ ⟨by rw [hrm]; exact Nat.le_of_ble_eq_true rfl, by rw [hrm]; exact Nat.le_of_ble_eq_true rfl⟩ rfl hk6 rfl rfl rfl (Nat.le_of_ble_eq_true rfl) dX10_feud_31 (fun r3 m4 => ?_)
      refine z_if_ne (tgt := 39) C dX10_feud_34 (by decide) (fun c8 => ?_) (fun c8 => ?_)
      · refine z_iconst (v := 0) C dX10_feud_39 (by decide) ?_
        refine z_istore (i := 6) (L2 := [(6, .int 0), (0, va_rf (some th)), (1, .int p1), (2, .int p2), (3, .int p3), (4, .int p4), (5, .int p5)]) C dX10_feud_40 (by decide) rfl ?_
        refine z_iconst (v := 0) C dX10_feud_42 (by decide) ?_
        refine z_istore (i := 7) (L2 := [(7, .int 0), (6, .int 0), (0, va_rf (some th)), (1, .int p1), (2, .int p2), (3, .int p3), (4, .int p4), (5, .int p5)]) C dX10_feud_43 (by decide) rfl ?_
        exact z_sub [2, 3, 4, 5, 6, 7, 1, 0] rfl (t_X10_feud_45 C hr hrm th p1 p2 p3 p4 p5 FU 0 0 m4)
      · refine z_iconst (v := (-1)) C dX10_feud_37 (by decide) ?_
        exact z_iret C hr dX10_feud_38
def f_X10_feud (th : Nat) (p1 : Int32) (p2 : Int32) (p3 : Int32) (p4 : Int32) (p5 : Int32) (m : MM) : Option (Int32 × MM) := g_X10_feud_0 th p1 p2 p3 p4 p5 m
theorem M_X10_feud (l : Launch) (E : EX) (th : Nat) (p1 : Int32) (p2 : Int32) (p3 : Int32) (p4 : Int32) (p5 : Int32) (m : MM) (r : Int32) (m2 : MM) (h : f_X10_feud th p1 p2 p3 p4 p5 m = some (r, m2)) : Met l yX10_feud (.code yX10_feud cX10_feud 10 (some .int) :: TB) rmX10_feud (va_Pc [.ref th, .int p1, .int p2, .int p3, .int p4, .int p5] (St E m)) (QR E (emI r) m2) 0 0 (AA E) :=
  met_of (em := emI) (plainFor_of_name rfl) (Nat.le_of_ble_eq_true rfl) (L0 := [(0, va_rf (some th)), (1, .int p1), (2, .int p2), (3, .int p3), (4, .int p4), (5, .int p5)]) rfl (fun Γ _ hrm C hr hn => s_X10_feud_0 C hr hrm th p1 p2 p3 p4 p5 m) h

theorem dX10_count_0 : decode cX10_count 0 = .ok (.aload_n 0, 1) := by decide +kernel
theorem dX10_count_1 : decode cX10_count 1 = .ok (.iconst 0, 1) := by decide +kernel
theorem dX10_count_2 : decode cX10_count 2 = .ok (.putfield 180, 3) := by decide +kernel
theorem dX10_count_5 : decode cX10_count 5 = .ok (.iload_n 1, 1) := by decide +kernel
theorem dX10_count_6 : decode cX10_count 6 = .ok (.ifCond .ne 12, 3) := by decide +kernel
theorem dX10_count_9 : decode cX10_count 9 = .ok (.aload_n 0, 1) := by decide +kernel
theorem dX10_count_10 : decode cX10_count 10 = .ok (.getfield 23, 3) := by decide +kernel
theorem dX10_count_13 : decode cX10_count 13 = .ok (.iconst 0, 1) := by decide +kernel
theorem dX10_count_14 : decode cX10_count 14 = .ok (.iaload, 1) := by decide +kernel
theorem dX10_count_15 : decode cX10_count 15 = .ok (.goto 19, 3) := by decide +kernel
theorem dX10_count_18 : decode cX10_count 18 = .ok (.iload_n 1, 1) := by decide +kernel
theorem dX10_count_19 : decode cX10_count 19 = .ok (.iconst 1, 1) := by decide +kernel
theorem dX10_count_20 : decode cX10_count 20 = .ok (.if_icmp .ne 12, 3) := by decide +kernel
theorem dX10_count_23 : decode cX10_count 23 = .ok (.aload_n 0, 1) := by decide +kernel
theorem dX10_count_24 : decode cX10_count 24 = .ok (.getfield 92, 3) := by decide +kernel
theorem dX10_count_27 : decode cX10_count 27 = .ok (.iconst 0, 1) := by decide +kernel
theorem dX10_count_28 : decode cX10_count 28 = .ok (.iaload, 1) := by decide +kernel
theorem dX10_count_29 : decode cX10_count 29 = .ok (.goto 5, 3) := by decide +kernel
theorem dX10_count_32 : decode cX10_count 32 = .ok (.bipush (-2), 2) := by decide +kernel
theorem dX10_count_34 : decode cX10_count 34 = .ok (.ireturn, 1) := by decide +kernel
def rmX10_count : Room := { frames := 0, cells := 0, slots := 0, locals := 0 }
set_option maxRecDepth 100000 in
def g_X10_count_0 (th : Nat) (p1 : Int32) (m : MM) : Option (Int32 × MM) :=
  chk (m.K th = 11) (bnd (m.sI 1100 th 0 0) (fun m1 => if p1 = 0 then (ck m1 (m1.R 1105 th 0) 22 (fun a2 => chk (inb 0 (m1.N a2) = true) (some (m1.I 22 a2 (Int32.toNatClampNeg 0), m1)))) else (if p1 = 1 then (ck m1 (m1.R 1128 th 0) 22 (fun a1 => chk (inb 0 (m1.N a1) = true) (some (m1.I 22 a1 (Int32.toNatClampNeg 0), m1)))) else (some ((-2), m1)))))
set_option maxHeartbeats 4000000 in
set_option maxRecDepth 100000 in
theorem s_X10_count_0 {Γ : GX} {E : EX} (C : Cx Γ E cX10_count RX10 2) (hr : Γ.meth.sig.returnType = (some .int)) (hrm : Γ.rm = rmX10_count) (th : Nat) (p1 : Int32) (m : MM) : Sm (QM Γ E emI 0 0) Γ E 2 0 0 0 [(0, va_rf (some th)), (1, .int p1)] [] m (g_X10_count_0 th p1 m) := by
  unfold g_X10_count_0
  refine z_aload_n C dX10_count_0 rfl 0 rfl ?_
  refine z_iconst (v := 0) C dX10_count_1 (by decide) ?_
  refine z_chk (fun hk1 => ?_)
  refine z_putI C fl_RX10_180 (fun h => by cases h) rfl hk1 rfl rfl dX10_count_2 (fun m1 eK1 eN1 => ?_)
  refine z_iload_n C dX10_count_5 rfl 1 rfl ?_
  refine z_if_ne (tgt := 18) C dX10_count_6 (by decide) (fun c1 => ?_) (fun c1 => ?_)
  · refine z_iload_n C dX10_count_18 rfl 1 rfl ?_
    refine z_iconst (v := 1) C dX10_count_19 (by decide) ?_
    refine z_icmp_ne (tgt := 32) C dX10_count_20 (by decide) (fun c2 => ?_) (fun c2 => ?_)
    · refine z_bipush (v := (-2)) C dX10_count_32 (by decide) ?_
      exact z_iret C hr dX10_count_34
    · refine z_aload_n C dX10_count_23 rfl 0 rfl ?_
      refine z_getR C fl_RX10_92 rfl (kfw eK1 hk1) dX10_count_24 ?_
      refine z_iconst (v := 0) C dX10_count_27 (by decide) ?_
      refine z_ck (fun a1 hr1 hk2 => ?_)
      refine z_chk (fun hj1 => ?_)
      refine z_iald C hr1 hk2 hj1 dX10_count_28 ?_
      refine z_goto (tgt := 34) C dX10_count_29 (by decide) ?_
      exact z_iret C hr dX10_count_34
  · refine z_aload_n C dX10_count_9 rfl 0 rfl ?_
    refine z_getR C fl_RX10_23 rfl (kfw eK1 hk1) dX10_count_10 ?_
    refine z_iconst (v := 0) C dX10_count_13 (by decide) ?_
    refine z_ck (fun a2 hr2 hk3 => ?_)
    refine z_chk (fun hj2 => ?_)
    refine z_iald C hr2 hk3 hj2 dX10_count_14 ?_
    refine z_goto (tgt := 34) C dX10_count_15 (by decide) ?_
    exact z_iret C hr dX10_count_34
def f_X10_count (th : Nat) (p1 : Int32) (m : MM) : Option (Int32 × MM) := g_X10_count_0 th p1 m
theorem M_X10_count (l : Launch) (E : EX) (th : Nat) (p1 : Int32) (m : MM) (r : Int32) (m2 : MM) (h : f_X10_count th p1 m = some (r, m2)) : Met l yX10_count (.code yX10_count cX10_count 2 (some .int) :: TB) rmX10_count (va_Pc [.ref th, .int p1] (St E m)) (QR E (emI r) m2) 0 0 (AA E) :=
  met_of (em := emI) (plainFor_of_name rfl) (Nat.le_of_ble_eq_true rfl) (L0 := [(0, va_rf (some th)), (1, .int p1)]) rfl (fun Γ _ hrm C hr hn => s_X10_count_0 C hr hrm th p1 m) h

theorem dX10_image_0 : decode cX10_image 0 = .ok (.aload_n 0, 1) := by decide +kernel
theorem dX10_image_1 : decode cX10_image 1 = .ok (.iconst 0, 1) := by decide +kernel
theorem dX10_image_2 : decode cX10_image 2 = .ok (.putfield 180, 3) := by decide +kernel
theorem dX10_image_5 : decode cX10_image 5 = .ok (.iload_n 1, 1) := by decide +kernel
theorem dX10_image_6 : decode cX10_image 6 = .ok (.iconst 0, 1) := by decide +kernel
theorem dX10_image_7 : decode cX10_image 7 = .ok (.iconst 2, 1) := by decide +kernel
theorem dX10_image_8 : decode cX10_image 8 = .ok (.invokestatic 188, 3) := by decide +kernel
theorem dX10_image_11 : decode cX10_image 11 = .ok (.ifCond .ne 5, 3) := by decide +kernel
theorem dX10_image_14 : decode cX10_image 14 = .ok (.iconst 0, 1) := by decide +kernel
theorem dX10_image_15 : decode cX10_image 15 = .ok (.ireturn, 1) := by decide +kernel
theorem dX10_image_16 : decode cX10_image 16 = .ok (.aload_n 0, 1) := by decide +kernel
theorem dX10_image_17 : decode cX10_image 17 = .ok (.iconst 0, 1) := by decide +kernel
theorem dX10_image_18 : decode cX10_image 18 = .ok (.iload_n 1, 1) := by decide +kernel
theorem dX10_image_19 : decode cX10_image 19 = .ok (.iconst 1, 1) := by decide +kernel
theorem dX10_image_20 : decode cX10_image 20 = .ok (.iadd, 1) := by decide +kernel
theorem dX10_image_21 : decode cX10_image 21 = .ok (.invokevirtual 541, 3) := by decide +kernel
theorem dX10_image_24 : decode cX10_image 24 = .ok (.aload_n 0, 1) := by decide +kernel
theorem dX10_image_25 : decode cX10_image 25 = .ok (.getfield 177, 3) := by decide +kernel
theorem dX10_image_28 : decode cX10_image 28 = .ok (.iload_n 1, 1) := by decide +kernel
theorem dX10_image_29 : decode cX10_image 29 = .ok (.iconst 1, 1) := by decide +kernel
theorem dX10_image_30 : decode cX10_image 30 = .ok (.bastore, 1) := by decide +kernel
theorem dX10_image_31 : decode cX10_image 31 = .ok (.iconst 1, 1) := by decide +kernel
theorem dX10_image_32 : decode cX10_image 32 = .ok (.ireturn, 1) := by decide +kernel
def rmX10_image : Room := { frames := 2, cells := 0, slots := 0, locals := 47 }
set_option maxRecDepth 100000 in
def g_X10_image_0 (th : Nat) (p1 : Int32) (m : MM) : Option (Int32 × MM) :=
  chk (m.K th = 11) (bnd (m.sI 1100 th 0 0) (fun m1 => cal (f_X10_in p1 0 2 m1) (fun r1 m2 => if r1 = 0 then (some (0, m2)) else (chk (m2.K th = 11) (cal (f_X10_copy th 0 (p1 + 1) m2) (fun r2 m3 => chk (m3.K th = 11) (ck m3 (m3.R 1183 th 0) 24 (fun a1 => chk (inb p1 (m3.N a1) = true) (bnd (m3.sI 24 a1 (Int32.toNatClampNeg p1) (1 &&& 1)) (fun m4 => some (1, m4)))))))))))
set_option maxHeartbeats 4000000 in
set_option maxRecDepth 100000 in
theorem s_X10_image_0 {Γ : GX} {E : EX} (C : Cx Γ E cX10_image RX10 2) (hr : Γ.meth.sig.returnType = (some .boolean)) (hrm : Γ.rm = rmX10_image) (th : Nat) (p1 : Int32) (m : MM) : Sm (QM Γ E emI 0 0) Γ E 2 0 0 0 [(0, va_rf (some th)), (1, .int p1)] [] m (g_X10_image_0 th p1 m) := by
  unfold g_X10_image_0
  refine z_aload_n C dX10_image_0 rfl 0 rfl ?_
  refine z_iconst (v := 0) C dX10_image_1 (by decide) ?_
  refine z_chk (fun hk1 => ?_)
  refine z_putI C fl_RX10_180 (fun h => by cases h) rfl hk1 rfl rfl dX10_image_2 (fun m1 eK1 eN1 => ?_)
  refine z_iload_n C dX10_image_5 rfl 1 rfl ?_
  refine z_iconst (v := 0) C dX10_image_6 (by decide) ?_
  refine z_iconst (v := 2) C dX10_image_7 (by decide) ?_
  refine z_cSI [.int p1, .int 0, .int 2] [] C mv_RX10_188 (fun r0 m0 h0 => M_X10_in _ _ _ _ _ _ _ _ h0) rfl rfl ⟨by rw [hrm]; exact Nat.le_of_ble_eq_true rfl, by rw [hrm]; exact Nat.le_of_ble_eq_true rfl⟩ ⟨by rw [hrm]; exact Nat.le_of_ble_eq_true rfl, by rw [hrm]; exact Nat.le_of_ble_eq_true rfl⟩ rfl rfl (Nat.le_of_ble_eq_true rfl) dX10_image_8 (fun r1 m2 => ?_)
  refine z_if_ne (tgt := 16) C dX10_image_11 (by decide) (fun c1 => ?_) (fun c1 => ?_)
  · refine z_aload_n C dX10_image_16 rfl 0 rfl ?_
    refine z_iconst (v := 0) C dX10_image_17 (by decide) ?_
    refine z_iload_n C dX10_image_18 rfl 1 rfl ?_
    refine z_iconst (v := 1) C dX10_image_19 (by decide) ?_
    refine z_iadd C dX10_image_20 ?_
    refine z_chk (fun hk2 => ?_)
    refine z_cVV [.int 0, .int (p1 + 1)] [] C mv_RX10_541 (fun r0 m0 h0 => M_X10_copy _ _ _ _ _ _ _ _ h0) rfl rfl ⟨by rw [hrm]; exact Nat.le_of_ble_eq_true rfl, by rw [hrm]; exact Nat.le_of_ble_eq_true rfl⟩ ⟨by rw [hrm]; exact Nat.le_of_ble_eq_true rfl, by rw [hrm]; exact Nat.le_of_ble_eq_true rfl⟩ rfl hk2 rfl rfl rfl (Nat.le_of_ble_eq_true rfl) dX10_image_21 (fun r2 m3 => ?_)
    refine z_aload_n C dX10_image_24 rfl 0 rfl ?_
    refine z_chk (fun hk3 => ?_)
    refine z_getR C fl_RX10_177 rfl hk3 dX10_image_25 ?_
    refine z_iload_n C dX10_image_28 rfl 1 rfl ?_
    refine z_iconst (v := 1) C dX10_image_29 (by decide) ?_
    refine z_ck (fun a1 hr1 hk4 => ?_)
    refine z_chk (fun hj1 => ?_)
    refine z_zast C hr1 hk4 hj1 dX10_image_30 (fun m4 eK2 eN2 => ?_)
    refine z_iconst (v := 1) C dX10_image_31 (by decide) ?_
    exact z_zret C hr rfl dX10_image_32
  · refine z_iconst (v := 0) C dX10_image_14 (by decide) ?_
    exact z_zret C hr rfl dX10_image_15
def f_X10_image (th : Nat) (p1 : Int32) (m : MM) : Option (Int32 × MM) := g_X10_image_0 th p1 m
theorem M_X10_image (l : Launch) (E : EX) (th : Nat) (p1 : Int32) (m : MM) (r : Int32) (m2 : MM) (h : f_X10_image th p1 m = some (r, m2)) : Met l yX10_image (.code yX10_image cX10_image 2 (some .boolean) :: TB) rmX10_image (va_Pc [.ref th, .int p1] (St E m)) (QR E (emI r) m2) 0 0 (AA E) :=
  met_of (em := emI) (plainFor_of_name rfl) (Nat.le_of_ble_eq_true rfl) (L0 := [(0, va_rf (some th)), (1, .int p1)]) rfl (fun Γ _ hrm C hr hn => s_X10_image_0 C hr hrm th p1 m) h

theorem dX10_again_0 : decode cX10_again 0 = .ok (.aload_n 0, 1) := by decide +kernel
theorem dX10_again_1 : decode cX10_again 1 = .ok (.iconst 0, 1) := by decide +kernel
theorem dX10_again_2 : decode cX10_again 2 = .ok (.putfield 180, 3) := by decide +kernel
theorem dX10_again_5 : decode cX10_again 5 = .ok (.iload_n 1, 1) := by decide +kernel
theorem dX10_again_6 : decode cX10_again 6 = .ok (.iconst 0, 1) := by decide +kernel
theorem dX10_again_7 : decode cX10_again 7 = .ok (.iconst 2, 1) := by decide +kernel
theorem dX10_again_8 : decode cX10_again 8 = .ok (.invokestatic 188, 3) := by decide +kernel
theorem dX10_again_11 : decode cX10_again 11 = .ok (.ifCond .eq 12, 3) := by decide +kernel
theorem dX10_again_14 : decode cX10_again 14 = .ok (.aload_n 0, 1) := by decide +kernel
theorem dX10_again_15 : decode cX10_again 15 = .ok (.getfield 177, 3) := by decide +kernel
theorem dX10_again_18 : decode cX10_again 18 = .ok (.iload_n 1, 1) := by decide +kernel
theorem dX10_again_19 : decode cX10_again 19 = .ok (.baload, 1) := by decide +kernel
theorem dX10_again_20 : decode cX10_again 20 = .ok (.ifCond .ne 5, 3) := by decide +kernel
theorem dX10_again_23 : decode cX10_again 23 = .ok (.iconst 0, 1) := by decide +kernel
theorem dX10_again_24 : decode cX10_again 24 = .ok (.ireturn, 1) := by decide +kernel
theorem dX10_again_25 : decode cX10_again 25 = .ok (.aload_n 0, 1) := by decide +kernel
theorem dX10_again_26 : decode cX10_again 26 = .ok (.iload_n 1, 1) := by decide +kernel
theorem dX10_again_27 : decode cX10_again 27 = .ok (.iconst 1, 1) := by decide +kernel
theorem dX10_again_28 : decode cX10_again 28 = .ok (.iadd, 1) := by decide +kernel
theorem dX10_again_29 : decode cX10_again 29 = .ok (.iconst 0, 1) := by decide +kernel
theorem dX10_again_30 : decode cX10_again 30 = .ok (.invokevirtual 541, 3) := by decide +kernel
theorem dX10_again_33 : decode cX10_again 33 = .ok (.iconst 1, 1) := by decide +kernel
theorem dX10_again_34 : decode cX10_again 34 = .ok (.ireturn, 1) := by decide +kernel
def rmX10_again : Room := { frames := 2, cells := 0, slots := 0, locals := 47 }
set_option maxRecDepth 100000 in
def g_X10_again_0 (th : Nat) (p1 : Int32) (m : MM) : Option (Int32 × MM) :=
  chk (m.K th = 11) (bnd (m.sI 1100 th 0 0) (fun m1 => cal (f_X10_in p1 0 2 m1) (fun r1 m2 => if r1 = 0 then (some (0, m2)) else (chk (m2.K th = 11) (ck m2 (m2.R 1183 th 0) 24 (fun a1 => chk (inb p1 (m2.N a1) = true) (if (m2.I 24 a1 (Int32.toNatClampNeg p1)) = 0 then (some (0, m2)) else (cal (f_X10_copy th (p1 + 1) 0 m2) (fun r2 m3 => some (1, m3))))))))))
set_option maxHeartbeats 4000000 in
set_option maxRecDepth 100000 in
theorem s_X10_again_0 {Γ : GX} {E : EX} (C : Cx Γ E cX10_again RX10 2) (hr : Γ.meth.sig.returnType = (some .boolean)) (hrm : Γ.rm = rmX10_again) (th : Nat) (p1 : Int32) (m : MM) : Sm (QM Γ E emI 0 0) Γ E 2 0 0 0 [(0, va_rf (some th)), (1, .int p1)] [] m (g_X10_again_0 th p1 m) := by
  unfold g_X10_again_0
  refine z_aload_n C dX10_again_0 rfl 0 rfl ?_
  refine z_iconst (v := 0) C dX10_again_1 (by decide) ?_
  refine z_chk (fun hk1 => ?_)
  refine z_putI C fl_RX10_180 (fun h => by cases h) rfl hk1 rfl rfl dX10_again_2 (fun m1 eK1 eN1 => ?_)
  refine z_iload_n C dX10_again_5 rfl 1 rfl ?_
  refine z_iconst (v := 0) C dX10_again_6 (by decide) ?_
  refine z_iconst (v := 2) C dX10_again_7 (by decide) ?_
  refine z_cSI [.int p1, .int 0, .int 2] [] C mv_RX10_188 (fun r0 m0 h0 => M_X10_in _ _ _ _ _ _ _ _ h0) rfl rfl ⟨by rw [hrm]; exact Nat.le_of_ble_eq_true rfl, by rw [hrm]; exact Nat.le_of_ble_eq_true rfl⟩ ⟨by rw [hrm]; exact Nat.le_of_ble_eq_true rfl, by rw [hrm]; exact Nat.le_of_ble_eq_true rfl⟩ rfl rfl (Nat.le_of_ble_eq_true rfl) dX10_again_8 (fun r1 m2 => ?_)
  refine z_if_eq (tgt := 23) C dX10_again_11 (by decide) (fun c1 => ?_) (fun c1 => ?_)
  · refine z_iconst (v := 0) C dX10_again_23 (by decide) ?_
    exact z_zret C hr rfl dX10_again_24
  · refine z_aload_n C dX10_again_14 rfl 0 rfl ?_
    refine z_chk (fun hk2 => ?_)
    refine z_getR C fl_RX10_177 rfl hk2 dX10_again_15 ?_
    refine z_iload_n C dX10_again_18 rfl 1 rfl ?_
    refine z_ck (fun a1 hr1 hk3 => ?_)
    refine z_chk (fun hj1 => ?_)
    refine z_zald C hr1 hk3 hj1 dX10_again_19 ?_
    refine z_if_ne (tgt := 25) C dX10_again_20 (by decide) (fun c2 => ?_) (fun c2 => ?_)
    · refine z_aload_n C dX10_again_25 rfl 0 rfl ?_
      refine z_iload_n C dX10_again_26 rfl 1 rfl ?_
      refine z_iconst (v := 1) C dX10_again_27 (by decide) ?_
      refine z_iadd C dX10_again_28 ?_
      refine z_iconst (v := 0) C dX10_again_29 (by decide) ?_
      refine z_cVV [.int (p1 + 1), .int 0] [] C mv_RX10_541 (fun r0 m0 h0 => M_X10_copy _ _ _ _ _ _ _ _ h0) rfl rfl ⟨by rw [hrm]; exact Nat.le_of_ble_eq_true rfl, by rw [hrm]; exact Nat.le_of_ble_eq_true rfl⟩ ⟨by rw [hrm]; exact Nat.le_of_ble_eq_true rfl, by rw [hrm]; exact Nat.le_of_ble_eq_true rfl⟩ rfl hk2 rfl rfl rfl (Nat.le_of_ble_eq_true rfl) dX10_again_30 (fun r2 m3 => ?_)
      refine z_iconst (v := 1) C dX10_again_33 (by decide) ?_
      exact z_zret C hr rfl dX10_again_34
    · refine z_iconst (v := 0) C dX10_again_23 (by decide) ?_
      exact z_zret C hr rfl dX10_again_24
def f_X10_again (th : Nat) (p1 : Int32) (m : MM) : Option (Int32 × MM) := g_X10_again_0 th p1 m
theorem M_X10_again (l : Launch) (E : EX) (th : Nat) (p1 : Int32) (m : MM) (r : Int32) (m2 : MM) (h : f_X10_again th p1 m = some (r, m2)) : Met l yX10_again (.code yX10_again cX10_again 2 (some .boolean) :: TB) rmX10_again (va_Pc [.ref th, .int p1] (St E m)) (QR E (emI r) m2) 0 0 (AA E) :=
  met_of (em := emI) (plainFor_of_name rfl) (Nat.le_of_ble_eq_true rfl) (L0 := [(0, va_rf (some th)), (1, .int p1)]) rfl (fun Γ _ hrm C hr hn => s_X10_again_0 C hr hrm th p1 m) h
