theorem dX10_fewest_0 : decode cX10_fewest 0 = .ok (.aload_n 0, 1) := by decide +kernel
theorem dX10_fewest_1 : decode cX10_fewest 1 = .ok (.iconst 0, 1) := by decide +kernel
theorem dX10_fewest_2 : decode cX10_fewest 2 = .ok (.putfield 180, 3) := by decide +kernel
theorem dX10_fewest_5 : decode cX10_fewest 5 = .ok (.aload_n 0, 1) := by decide +kernel
theorem dX10_fewest_6 : decode cX10_fewest 6 = .ok (.iload_n 1, 1) := by decide +kernel
theorem dX10_fewest_7 : decode cX10_fewest 7 = .ok (.iload_n 2, 1) := by decide +kernel
theorem dX10_fewest_8 : decode cX10_fewest 8 = .ok (.iload_n 3, 1) := by decide +kernel
theorem dX10_fewest_9 : decode cX10_fewest 9 = .ok (.invokevirtual 452, 3) := by decide +kernel
theorem dX10_fewest_12 : decode cX10_fewest 12 = .ok (.ifCond .ne 5, 3) := by decide +kernel
theorem dX10_fewest_15 : decode cX10_fewest 15 = .ok (.iconst (-1), 1) := by decide +kernel
theorem dX10_fewest_16 : decode cX10_fewest 16 = .ok (.ireturn, 1) := by decide +kernel
theorem dX10_fewest_17 : decode cX10_fewest 17 = .ok (.aload_n 0, 1) := by decide +kernel
theorem dX10_fewest_18 : decode cX10_fewest 18 = .ok (.getfield 381, 3) := by decide +kernel
theorem dX10_fewest_21 : decode cX10_fewest 21 = .ok (.istore 5, 2) := by decide +kernel
theorem dX10_fewest_23 : decode cX10_fewest 23 = .ok (.iconst 0, 1) := by decide +kernel
theorem dX10_fewest_24 : decode cX10_fewest 24 = .ok (.istore 6, 2) := by decide +kernel
theorem dX10_fewest_26 : decode cX10_fewest 26 = .ok (.iload 6, 2) := by decide +kernel
theorem dX10_fewest_28 : decode cX10_fewest 28 = .ok (.sipush 4096, 3) := by decide +kernel
theorem dX10_fewest_31 : decode cX10_fewest 31 = .ok (.if_icmp .ge 123, 3) := by decide +kernel
theorem dX10_fewest_34 : decode cX10_fewest 34 = .ok (.iload 6, 2) := by decide +kernel
theorem dX10_fewest_36 : decode cX10_fewest 36 = .ok (.aload_n 0, 1) := by decide +kernel
theorem dX10_fewest_37 : decode cX10_fewest 37 = .ok (.getfield 381, 3) := by decide +kernel
theorem dX10_fewest_40 : decode cX10_fewest 40 = .ok (.iconst (-1), 1) := by decide +kernel
theorem dX10_fewest_41 : decode cX10_fewest 41 = .ok (.ixor, 1) := by decide +kernel
theorem dX10_fewest_42 : decode cX10_fewest 42 = .ok (.iand, 1) := by decide +kernel
theorem dX10_fewest_43 : decode cX10_fewest 43 = .ok (.ifCond .ne 105, 3) := by decide +kernel
theorem dX10_fewest_46 : decode cX10_fewest 46 = .ok (.aload_n 0, 1) := by decide +kernel
theorem dX10_fewest_47 : decode cX10_fewest 47 = .ok (.iload 6, 2) := by decide +kernel
theorem dX10_fewest_49 : decode cX10_fewest 49 = .ok (.invokevirtual 498, 3) := by decide +kernel
theorem dX10_fewest_52 : decode cX10_fewest 52 = .ok (.ifCond .ne 6, 3) := by decide +kernel
theorem dX10_fewest_55 : decode cX10_fewest 55 = .ok (.goto 93, 3) := by decide +kernel
theorem dX10_fewest_58 : decode cX10_fewest 58 = .ok (.iload 4, 2) := by decide +kernel
theorem dX10_fewest_60 : decode cX10_fewest 60 = .ok (.ifCond .eq 21, 3) := by decide +kernel
theorem dX10_fewest_63 : decode cX10_fewest 63 = .ok (.aload_n 0, 1) := by decide +kernel
theorem dX10_fewest_64 : decode cX10_fewest 64 = .ok (.iload_n 1, 1) := by decide +kernel
theorem dX10_fewest_65 : decode cX10_fewest 65 = .ok (.iload 6, 2) := by decide +kernel
theorem dX10_fewest_67 : decode cX10_fewest 67 = .ok (.invokevirtual 501, 3) := by decide +kernel
theorem dX10_fewest_70 : decode cX10_fewest 70 = .ok (.aload_n 0, 1) := by decide +kernel
theorem dX10_fewest_71 : decode cX10_fewest 71 = .ok (.iload_n 1, 1) := by decide +kernel
theorem dX10_fewest_72 : decode cX10_fewest 72 = .ok (.iload 5, 2) := by decide +kernel
theorem dX10_fewest_74 : decode cX10_fewest 74 = .ok (.invokevirtual 501, 3) := by decide +kernel
theorem dX10_fewest_77 : decode cX10_fewest 77 = .ok (.isub, 1) := by decide +kernel
theorem dX10_fewest_78 : decode cX10_fewest 78 = .ok (.goto 4, 3) := by decide +kernel
theorem dX10_fewest_81 : decode cX10_fewest 81 = .ok (.iconst 0, 1) := by decide +kernel
theorem dX10_fewest_82 : decode cX10_fewest 82 = .ok (.istore 7, 2) := by decide +kernel
theorem dX10_fewest_84 : decode cX10_fewest 84 = .ok (.iload 6, 2) := by decide +kernel
theorem dX10_fewest_86 : decode cX10_fewest 86 = .ok (.invokestatic 504, 3) := by decide +kernel
theorem dX10_fewest_89 : decode cX10_fewest 89 = .ok (.iload 5, 2) := by decide +kernel
theorem dX10_fewest_91 : decode cX10_fewest 91 = .ok (.invokestatic 504, 3) := by decide +kernel
theorem dX10_fewest_94 : decode cX10_fewest 94 = .ok (.isub, 1) := by decide +kernel
theorem dX10_fewest_95 : decode cX10_fewest 95 = .ok (.istore 8, 2) := by decide +kernel
theorem dX10_fewest_97 : decode cX10_fewest 97 = .ok (.iload 7, 2) := by decide +kernel
theorem dX10_fewest_99 : decode cX10_fewest 99 = .ok (.ifCond .lt 28, 3) := by decide +kernel
theorem dX10_fewest_102 : decode cX10_fewest 102 = .ok (.iload 7, 2) := by decide +kernel
theorem dX10_fewest_104 : decode cX10_fewest 104 = .ok (.ifCond .ne 27, 3) := by decide +kernel
theorem dX10_fewest_107 : decode cX10_fewest 107 = .ok (.iload 8, 2) := by decide +kernel
theorem dX10_fewest_109 : decode cX10_fewest 109 = .ok (.ifCond .lt 18, 3) := by decide +kernel
theorem dX10_fewest_112 : decode cX10_fewest 112 = .ok (.iload 8, 2) := by decide +kernel
theorem dX10_fewest_114 : decode cX10_fewest 114 = .ok (.ifCond .ne 17, 3) := by decide +kernel
theorem dX10_fewest_117 : decode cX10_fewest 117 = .ok (.iload 6, 2) := by decide +kernel
theorem dX10_fewest_119 : decode cX10_fewest 119 = .ok (.iload 5, 2) := by decide +kernel
theorem dX10_fewest_121 : decode cX10_fewest 121 = .ok (.invokestatic 507, 3) := by decide +kernel
theorem dX10_fewest_124 : decode cX10_fewest 124 = .ok (.ifCond .eq 7, 3) := by decide +kernel
theorem dX10_fewest_127 : decode cX10_fewest 127 = .ok (.iconst 1, 1) := by decide +kernel
theorem dX10_fewest_128 : decode cX10_fewest 128 = .ok (.goto 4, 3) := by decide +kernel
theorem dX10_fewest_131 : decode cX10_fewest 131 = .ok (.iconst 0, 1) := by decide +kernel
theorem dX10_fewest_132 : decode cX10_fewest 132 = .ok (.istore 9, 2) := by decide +kernel
theorem dX10_fewest_134 : decode cX10_fewest 134 = .ok (.iload 9, 2) := by decide +kernel
theorem dX10_fewest_136 : decode cX10_fewest 136 = .ok (.ifCond .eq 8, 3) := by decide +kernel
theorem dX10_fewest_139 : decode cX10_fewest 139 = .ok (.iload 6, 2) := by decide +kernel
theorem dX10_fewest_141 : decode cX10_fewest 141 = .ok (.goto 5, 3) := by decide +kernel
theorem dX10_fewest_144 : decode cX10_fewest 144 = .ok (.iload 5, 2) := by decide +kernel
theorem dX10_fewest_146 : decode cX10_fewest 146 = .ok (.istore 5, 2) := by decide +kernel
theorem dX10_fewest_148 : decode cX10_fewest 148 = .ok (.iinc 6 1, 3) := by decide +kernel
theorem dX10_fewest_151 : decode cX10_fewest 151 = .ok (.goto (-125), 3) := by decide +kernel
theorem dX10_fewest_154 : decode cX10_fewest 154 = .ok (.iload 5, 2) := by decide +kernel
theorem dX10_fewest_156 : decode cX10_fewest 156 = .ok (.ireturn, 1) := by decide +kernel
def rmX10_fewest : Room := { frames := 7, cells := 0, slots := 0, locals := 180 }
set_option maxRecDepth 100000 in
def g_X10_fewest_148 (th : Nat) (p1 : Int32) (p2 : Int32) (p3 : Int32) (p4 : Int32) (k26 : Int32 → Int32 → MM → Option (Int32 × MM)) (x5 : Int32) (x6 : Int32) (m : MM) : Option (Int32 × MM) :=
  k26 x5 (x6 + 1) m
set_option maxHeartbeats 4000000 in
set_option maxRecDepth 100000 in
theorem s_X10_fewest_148 {Γ : GX} {E : EX} (C : Cx Γ E cX10_fewest RX10 10) (hr : Γ.meth.sig.returnType = (some .int)) (hrm : Γ.rm = rmX10_fewest) (th : Nat) (p1 : Int32) (p2 : Int32) (p3 : Int32) (p4 : Int32) (k26 : Int32 → Int32 → MM → Option (Int32 × MM)) (h26 : ∀ (x5 : Int32) (x6 : Int32) (m : MM), Sm (QM Γ E emI 0 0) Γ E 10 0 0 26 [(0, va_rf (some th)), (1, .int p1), (2, .int p2), (3, .int p3), (4, .int p4), (5, .int x5), (6, .int x6)] [] m (k26 x5 x6 m)) (x5 : Int32) (x6 : Int32) (m : MM) : Sm (QM Γ E emI 0 0) Γ E 10 0 0 148 [(0, va_rf (some th)), (1, .int p1), (2, .int p2), (3, .int p3), (4, .int p4), (5, .int x5), (6, .int x6)] [] m (g_X10_fewest_148 th p1 p2 p3 p4 k26 x5 x6 m) := by
  unfold g_X10_fewest_148
  refine z_iinc (v := 1) (L2 := [(6, .int (x6 + 1)), (0, va_rf (some th)), (1, .int p1), (2, .int p2), (3, .int p3), (4, .int p4), (5, .int x5)]) C dX10_fewest_148 6 rfl (by decide) (by decide) rfl ?_
  refine z_goto (tgt := 26) C dX10_fewest_151 (by decide) ?_
  exact z_sub [1, 2, 3, 4, 5, 6, 0] rfl (h26 x5 (x6 + 1) m)
set_option maxRecDepth 100000 in
def g_X10_fewest_146 (th : Nat) (p1 : Int32) (p2 : Int32) (p3 : Int32) (p4 : Int32) (k26 : Int32 → Int32 → MM → Option (Int32 × MM)) (x6 : Int32) (s0 : Int32) (m : MM) : Option (Int32 × MM) :=
  g_X10_fewest_148 th p1 p2 p3 p4 k26 s0 x6 m
set_option maxHeartbeats 4000000 in
set_option maxRecDepth 100000 in
theorem s_X10_fewest_146 {Γ : GX} {E : EX} (C : Cx Γ E cX10_fewest RX10 10) (hr : Γ.meth.sig.returnType = (some .int)) (hrm : Γ.rm = rmX10_fewest) (th : Nat) (p1 : Int32) (p2 : Int32) (p3 : Int32) (p4 : Int32) (k26 : Int32 → Int32 → MM → Option (Int32 × MM)) (h26 : ∀ (x5 : Int32) (x6 : Int32) (m : MM), Sm (QM Γ E emI 0 0) Γ E 10 0 0 26 [(0, va_rf (some th)), (1, .int p1), (2, .int p2), (3, .int p3), (4, .int p4), (5, .int x5), (6, .int x6)] [] m (k26 x5 x6 m)) (x6 : Int32) (s0 : Int32) (m : MM) : Sm (QM Γ E emI 0 0) Γ E 10 0 0 146 [(0, va_rf (some th)), (1, .int p1), (2, .int p2), (3, .int p3), (4, .int p4), (6, .int x6)] [.int s0] m (g_X10_fewest_146 th p1 p2 p3 p4 k26 x6 s0 m) := by
  unfold g_X10_fewest_146
  refine z_istore (i := 5) (L2 := [(5, .int s0), (0, va_rf (some th)), (1, .int p1), (2, .int p2), (3, .int p3), (4, .int p4), (6, .int x6)]) C dX10_fewest_146 (by decide) rfl ?_
  exact z_sub [1, 2, 3, 4, 5, 0, 6] rfl (s_X10_fewest_148 C hr hrm th p1 p2 p3 p4 k26 h26 s0 x6 m)
set_option maxRecDepth 100000 in
def g_X10_fewest_132 (th : Nat) (p1 : Int32) (p2 : Int32) (p3 : Int32) (p4 : Int32) (k26 : Int32 → Int32 → MM → Option (Int32 × MM)) (x5 : Int32) (x6 : Int32) (s0 : Int32) (m : MM) : Option (Int32 × MM) :=
  if s0 = 0 then (g_X10_fewest_146 th p1 p2 p3 p4 k26 x6 x5 m) else (g_X10_fewest_146 th p1 p2 p3 p4 k26 x6 x6 m)
set_option maxHeartbeats 4000000 in
set_option maxRecDepth 100000 in
theorem s_X10_fewest_132 {Γ : GX} {E : EX} (C : Cx Γ E cX10_fewest RX10 10) (hr : Γ.meth.sig.returnType = (some .int)) (hrm : Γ.rm = rmX10_fewest) (th : Nat) (p1 : Int32) (p2 : Int32) (p3 : Int32) (p4 : Int32) (k26 : Int32 → Int32 → MM → Option (Int32 × MM)) (h26 : ∀ (x5 : Int32) (x6 : Int32) (m : MM), Sm (QM Γ E emI 0 0) Γ E 10 0 0 26 [(0, va_rf (some th)), (1, .int p1), (2, .int p2), (3, .int p3), (4, .int p4), (5, .int x5), (6, .int x6)] [] m (k26 x5 x6 m)) (x5 : Int32) (x6 : Int32) (s0 : Int32) (m : MM) : Sm (QM Γ E emI 0 0) Γ E 10 0 0 132 [(0, va_rf (some th)), (1, .int p1), (2, .int p2), (3, .int p3), (4, .int p4), (5, .int x5), (6, .int x6)] [.int s0] m (g_X10_fewest_132 th p1 p2 p3 p4 k26 x5 x6 s0 m) := by
  unfold g_X10_fewest_132
  refine z_istore (i := 9) (L2 := [(9, .int s0), (0, va_rf (some th)), (1, .int p1), (2, .int p2), (3, .int p3), (4, .int p4), (5, .int x5), (6, .int x6)]) C dX10_fewest_132 (by decide) rfl ?_
  refine z_iload C dX10_fewest_134 0 rfl ?_
  refine z_if_eq (tgt := 144) C dX10_fewest_136 (by decide) (fun c1 => ?_) (fun c1 => ?_)
  · refine z_iload C dX10_fewest_144 6 rfl ?_
    exact z_sub [1, 2, 3, 4, 5, 7] rfl (s_X10_fewest_146 C hr hrm th p1 p2 p3 p4 k26 h26 x6 x5 m)
  · refine z_iload C dX10_fewest_139 7 rfl ?_
    refine z_goto (tgt := 146) C dX10_fewest_141 (by decide) ?_
    exact z_sub [1, 2, 3, 4, 5, 7] rfl (s_X10_fewest_146 C hr hrm th p1 p2 p3 p4 k26 h26 x6 x6 m)
set_option maxRecDepth 100000 in
def g_X10_fewest_127 (th : Nat) (p1 : Int32) (p2 : Int32) (p3 : Int32) (p4 : Int32) (k26 : Int32 → Int32 → MM → Option (Int32 × MM)) (x5 : Int32) (x6 : Int32) (m : MM) : Option (Int32 × MM) :=
  g_X10_fewest_132 th p1 p2 p3 p4 k26 x5 x6 1 m
set_option maxHeartbeats 4000000 in
set_option maxRecDepth 100000 in
theorem s_X10_fewest_127 {Γ : GX} {E : EX} (C : Cx Γ E cX10_fewest RX10 10) (hr : Γ.meth.sig.returnType = (some .int)) (hrm : Γ.rm = rmX10_fewest) (th : Nat) (p1 : Int32) (p2 : Int32) (p3 : Int32) (p4 : Int32) (k26 : Int32 → Int32 → MM → Option (Int32 × MM)) (h26 : ∀ (x5 : Int32) (x6 : Int32) (m : MM), Sm (QM Γ E emI 0 0) Γ E 10 0 0 26 [(0, va_rf (some th)), (1, .int p1), (2, .int p2), (3, .int p3), (4, .int p4), (5, .int x5), (6, .int x6)] [] m (k26 x5 x6 m)) (x5 : Int32) (x6 : Int32) (m : MM) : Sm (QM Γ E emI 0 0) Γ E 10 0 0 127 [(0, va_rf (some th)), (1, .int p1), (2, .int p2), (3, .int p3), (4, .int p4), (5, .int x5), (6, .int x6)] [] m (g_X10_fewest_127 th p1 p2 p3 p4 k26 x5 x6 m) := by
  unfold g_X10_fewest_127
  refine z_iconst (v := 1) C dX10_fewest_127 (by decide) ?_
  refine z_goto (tgt := 132) C dX10_fewest_128 (by decide) ?_
  exact z_sub [0, 1, 2, 3, 4, 5, 6] rfl (s_X10_fewest_132 C hr hrm th p1 p2 p3 p4 k26 h26 x5 x6 1 m)
set_option maxRecDepth 100000 in
def g_X10_fewest_131 (th : Nat) (p1 : Int32) (p2 : Int32) (p3 : Int32) (p4 : Int32) (k26 : Int32 → Int32 → MM → Option (Int32 × MM)) (x5 : Int32) (x6 : Int32) (m : MM) : Option (Int32 × MM) :=
  g_X10_fewest_132 th p1 p2 p3 p4 k26 x5 x6 0 m
set_option maxHeartbeats 4000000 in
set_option maxRecDepth 100000 in
theorem s_X10_fewest_131 {Γ : GX} {E : EX} (C : Cx Γ E cX10_fewest RX10 10) (hr : Γ.meth.sig.returnType = (some .int)) (hrm : Γ.rm = rmX10_fewest) (th : Nat) (p1 : Int32) (p2 : Int32) (p3 : Int32) (p4 : Int32) (k26 : Int32 → Int32 → MM → Option (Int32 × MM)) (h26 : ∀ (x5 : Int32) (x6 : Int32) (m : MM), Sm (QM Γ E emI 0 0) Γ E 10 0 0 26 [(0, va_rf (some th)), (1, .int p1), (2, .int p2), (3, .int p3), (4, .int p4), (5, .int x5), (6, .int x6)] [] m (k26 x5 x6 m)) (x5 : Int32) (x6 : Int32) (m : MM) : Sm (QM Γ E emI 0 0) Γ E 10 0 0 131 [(0, va_rf (some th)), (1, .int p1), (2, .int p2), (3, .int p3), (4, .int p4), (5, .int x5), (6, .int x6)] [] m (g_X10_fewest_131 th p1 p2 p3 p4 k26 x5 x6 m) := by
  unfold g_X10_fewest_131
  refine z_iconst (v := 0) C dX10_fewest_131 (by decide) ?_
  exact z_sub [0, 1, 2, 3, 4, 5, 6] rfl (s_X10_fewest_132 C hr hrm th p1 p2 p3 p4 k26 h26 x5 x6 0 m)
set_option maxRecDepth 100000 in
def g_X10_fewest_82 (th : Nat) (p1 : Int32) (p2 : Int32) (p3 : Int32) (p4 : Int32) (k26 : Int32 → Int32 → MM → Option (Int32 × MM)) (x5 : Int32) (x6 : Int32) (s0 : Int32) (m : MM) : Option (Int32 × MM) :=
  cal (f_X10_ones x6 m) (fun r1 m1 => cal (f_X10_ones x5 m1) (fun r2 m2 => bnd (r1 - r2) (fun y1 => if s0 < 0 then (g_X10_fewest_127 th p1 p2 p3 p4 k26 x5 x6 m2) else (if s0 = 0 then (if y1 < 0 then (g_X10_fewest_127 th p1 p2 p3 p4 k26 x5 x6 m2) else (if y1 = 0 then (cal (f_X10_isLessRow x6 x5 m2) (fun r3 m3 => if r3 = 0 then (g_X10_fewest_131 th p1 p2 p3 p4 k26 x5 x6 m3) else (g_X10_fewest_127 th p1 p2 p3 p4 k26 x5 x6 m3))) else (g_X10_fewest_131 th p1 p2 p3 p4 k26 x5 x6 m2))) else (g_X10_fewest_131 th p1 p2 p3 p4 k26 x5 x6 m2)))))
set_option maxHeartbeats 4000000 in
set_option maxRecDepth 100000 in
theorem s_X10_fewest_82 {Γ : GX} {E : EX} (C : Cx Γ E cX10_fewest RX10 10) (hr : Γ.meth.sig.returnType = (some .int)) (hrm : Γ.rm = rmX10_fewest) (th : Nat) (p1 : Int32) (p2 : Int32) (p3 : Int32) (p4 : Int32) (k26 : Int32 → Int32 → MM → Option (Int32 × MM)) (h26 : ∀ (x5 : Int32) (x6 : Int32) (m : MM), Sm (QM Γ E emI 0 0) Γ E 10 0 0 26 [(0, va_rf (some th)), (1, .int p1), (2, .int p2), (3, .int p3), (4, .int p4), (5, .int x5), (6, .int x6)] [] m (k26 x5 x6 m)) (x5 : Int32) (x6 : Int32) (s0 : Int32) (m : MM) : Sm (QM Γ E emI 0 0) Γ E 10 0 0 82 [(0, va_rf (some th)), (1, .int p1), (2, .int p2), (3, .int p3), (4, .int p4), (5, .int x5), (6, .int x6)] [.int s0] m (g_X10_fewest_82 th p1 p2 p3 p4 k26 x5 x6 s0 m) := by
  unfold g_X10_fewest_82
  refine z_istore (i := 7) (L2 := [(7, .int s0), (0, va_rf (some th)), (1, .int p1), (2, .int p2), (3, .int p3), (4, .int p4), (5, .int x5), (6, .int x6)]) C dX10_fewest_82 (by decide) rfl ?_
  refine z_iload C dX10_fewest_84 7 rfl ?_
  refine z_cSI [.int x6] [] C mv_RX10_504 (fun r0 m0 h0 => M_X10_ones _ _ _ _ _ _ h0) rfl rfl ⟨by rw [hrm]; exact Nat.le_of_ble_eq_true rfl, by rw [hrm]; exact Nat.le_of_ble_eq_true rfl⟩ ⟨by rw [hrm]; exact Nat.le_of_ble_eq_true rfl, by rw [hrm]; exact Nat.le_of_ble_eq_true rfl⟩ rfl rfl (Nat.le_of_ble_eq_true rfl) dX10_fewest_86 (fun r1 m1 => ?_)
  refine z_iload C dX10_fewest_89 6 rfl ?_
  refine z_cSI [.int x5] [.int r1] C mv_RX10_504 (fun r0 m0 h0 => M_X10_ones _ _ _ _ _ _ h0) rfl rfl ⟨by rw [hrm]; exact Nat.le_of_ble_eq_true rfl, by rw [hrm]; exact Nat.le_of_ble_eq_true rfl⟩ ⟨by rw [hrm]; exact Nat.le_of_ble_eq_true rfl, by rw [hrm]; exact Nat.le_of_ble_eq_true rfl⟩ rfl rfl (Nat.le_of_ble_eq_true rfl) dX10_fewest_91 (fun r2 m2 => ?_)
  refine z_isub C dX10_fewest_94 ?_
  refine z_bndI (fun y1 => ?_)
  refine z_istore (i := 8) (L2 := [(8, .int y1), (7, .int s0), (0, va_rf (some th)), (1, .int p1), (2, .int p2), (3, .int p3), (4, .int p4), (5, .int x5), (6, .int x6)]) C dX10_fewest_95 (by decide) rfl ?_
  refine z_iload C dX10_fewest_97 1 rfl ?_
  refine z_if_lt (tgt := 127) C dX10_fewest_99 (by decide) (fun c2 => ?_) (fun c2 => ?_)
  · exact z_sub [2, 3, 4, 5, 6, 7, 8] rfl (s_X10_fewest_127 C hr hrm th p1 p2 p3 p4 k26 h26 x5 x6 m2)
  · refine z_iload C dX10_fewest_102 1 rfl ?_
    refine z_if_ne (tgt := 131) C dX10_fewest_104 (by decide) (fun c3 => ?_) (fun c3 => ?_)
    · exact z_sub [2, 3, 4, 5, 6, 7, 8] rfl (s_X10_fewest_131 C hr hrm th p1 p2 p3 p4 k26 h26 x5 x6 m2)
    · refine z_iload C dX10_fewest_107 0 rfl ?_
      refine z_if_lt (tgt := 127) C dX10_fewest_109 (by decide) (fun c4 => ?_) (fun c4 => ?_)
      · exact z_sub [2, 3, 4, 5, 6, 7, 8] rfl (s_X10_fewest_127 C hr hrm th p1 p2 p3 p4 k26 h26 x5 x6 m2)
      · refine z_iload C dX10_fewest_112 0 rfl ?_
        refine z_if_ne (tgt := 131) C dX10_fewest_114 (by decide) (fun c5 => ?_) (fun c5 => ?_)
        · exact z_sub [2, 3, 4, 5, 6, 7, 8] rfl (s_X10_fewest_131 C hr hrm th p1 p2 p3 p4 k26 h26 x5 x6 m2)
        · refine z_iload C dX10_fewest_117 8 rfl ?_
          refine z_iload C dX10_fewest_119 7 rfl ?_
          refine z_cSI [.int x6, .int x5] [] C mv_RX10_507 (fun r0 m0 h0 => M_X10_isLessRow _ _ _ _ _ _ _ h0) rfl rfl ⟨by rw [hrm]; exact Nat.le_of_ble_eq_true rfl, by rw [hrm]; exact Nat.le_of_ble_eq_true rfl⟩ ⟨by rw [hrm]; exact Nat.le_of_ble_eq_true rfl, by rw [hrm]; exact Nat.le_of_ble_eq_true rfl⟩ rfl rfl (Nat.le_of_ble_eq_true rfl) dX10_fewest_121 (fun r3 m3 => ?_)
          refine z_if_eq (tgt := 131) C dX10_fewest_124 (by decide) (fun c6 => ?_) (fun c6 => ?_)
          · exact z_sub [2, 3, 4, 5, 6, 7, 8] rfl (s_X10_fewest_131 C hr hrm th p1 p2 p3 p4 k26 h26 x5 x6 m3)
          · exact z_sub [2, 3, 4, 5, 6, 7, 8] rfl (s_X10_fewest_127 C hr hrm th p1 p2 p3 p4 k26 h26 x5 x6 m3)
set_option maxRecDepth 100000 in
def g_X10_fewest_26 (th : Nat) (p1 : Int32) (p2 : Int32) (p3 : Int32) (p4 : Int32) (k26 : Int32 → Int32 → MM → Option (Int32 × MM)) (x5 : Int32) (x6 : Int32) (m : MM) : Option (Int32 × MM) :=
  if 4096 ≤ x6 then (some (x5, m)) else (chk (m.K th = 11) (if (x6 &&& ((m.I 1165 th 0) ^^^ (-1))) = 0 then (cal (f_X10_frees th x6 m) (fun r4 m4 => if r4 = 0 then (g_X10_fewest_148 th p1 p2 p3 p4 k26 x5 x6 m4) else (if p4 = 0 then (g_X10_fewest_82 th p1 p2 p3 p4 k26 x5 x6 0 m4) else (chk (m4.K th = 11) (cal (f_X10_costOf th p1 x6 m4) (fun r5 m5 => chk (m5.K th = 11) (cal (f_X10_costOf th p1 x5 m5) (fun r6 m6 => g_X10_fewest_82 th p1 p2 p3 p4 k26 x5 x6 (r5 - r6) m6)))))))) else (g_X10_fewest_148 th p1 p2 p3 p4 k26 x5 x6 m)))
set_option maxHeartbeats 4000000 in
set_option maxRecDepth 100000 in
theorem s_X10_fewest_26 {Γ : GX} {E : EX} (C : Cx Γ E cX10_fewest RX10 10) (hr : Γ.meth.sig.returnType = (some .int)) (hrm : Γ.rm = rmX10_fewest) (th : Nat) (p1 : Int32) (p2 : Int32) (p3 : Int32) (p4 : Int32) (k26 : Int32 → Int32 → MM → Option (Int32 × MM)) (h26 : ∀ (x5 : Int32) (x6 : Int32) (m : MM), Sm (QM Γ E emI 0 0) Γ E 10 0 0 26 [(0, va_rf (some th)), (1, .int p1), (2, .int p2), (3, .int p3), (4, .int p4), (5, .int x5), (6, .int x6)] [] m (k26 x5 x6 m)) (x5 : Int32) (x6 : Int32) (m : MM) : Sm (QM Γ E emI 0 0) Γ E 10 0 0 26 [(0, va_rf (some th)), (1, .int p1), (2, .int p2), (3, .int p3), (4, .int p4), (5, .int x5), (6, .int x6)] [] m (g_X10_fewest_26 th p1 p2 p3 p4 k26 x5 x6 m) := by
  unfold g_X10_fewest_26
  refine z_iload C dX10_fewest_26 6 rfl ?_
  refine z_sipush (v := 4096) C dX10_fewest_28 (by decide) ?_
  refine z_icmp_ge (tgt := 154) C dX10_fewest_31 (by decide) (fun c7 => ?_) (fun c7 => ?_)
  · refine z_iload C dX10_fewest_154 5 rfl ?_
    exact z_iret C hr dX10_fewest_156
  · refine z_iload C dX10_fewest_34 6 rfl ?_
    refine z_aload_n C dX10_fewest_36 rfl 0 rfl ?_
    refine z_chk (fun hk1 => ?_)
    refine z_getI C fl_RX10_381 rfl hk1 dX10_fewest_37 ?_
    refine z_iconst (v := (-1)) C dX10_fewest_40 (by decide) ?_
    refine z_ixor C dX10_fewest_41 ?_
    refine z_iand C dX10_fewest_42 ?_
    refine z_if_ne (tgt := 148) C dX10_fewest_43 (by decide) (fun c8 => ?_) (fun c8 => ?_)
    · exact z_sub [0, 1, 2, 3, 4, 5, 6] rfl (s_X10_fewest_148 C hr hrm th p1 p2 p3 p4 k26 h26 x5 x6 m)
    · refine z_aload_n C dX10_fewest_46 rfl 0 rfl ?_
      refine z_iload C dX10_fewest_47 6 rfl ?_
      refine z_cVI [.int x6] [] C mv_RX10_498 (fun r0 m0 h0 => M_X10_frees _ _ _ _ _ _ _ h0) rfl rfl ⟨by rw [hrm]; exact Nat.le_of_ble_eq_true rfl, by rw [hrm]; exact Nat.le_of_ble_eq_true rfl⟩ ⟨by rw [hrm]; exact Nat.le_of_ble_eq_true rfl, by rw [hrm]; exact Nat.le_of_ble_eq_true rfl⟩ rfl hk1 rfl rfl rfl (Nat.le_of_ble_eq_true rfl) dX10_fewest_49 (fun r4 m4 => ?_)
      refine z_if_ne (tgt := 58) C dX10_fewest_52 (by decide) (fun c9 => ?_) (fun c9 => ?_)
      · refine z_iload C dX10_fewest_58 4 rfl ?_
        refine z_if_eq (tgt := 81) C dX10_fewest_60 (by decide) (fun c10 => ?_) (fun c10 => ?_)
        · refine z_iconst (v := 0) C dX10_fewest_81 (by decide) ?_
          exact z_sub [0, 1, 2, 3, 4, 5, 6] rfl (s_X10_fewest_82 C hr hrm th p1 p2 p3 p4 k26 h26 x5 x6 0 m4)
        · refine z_aload_n C dX10_fewest_63 rfl 0 rfl ?_
          refine z_iload_n C dX10_fewest_64 rfl 1 rfl ?_
          refine z_iload C dX10_fewest_65 6 rfl ?_
          refine z_chk (fun hk2 => ?_)
          refine z_cVI [.int p1, .int x6] [] C mv_RX10_501 (fun r0 m0 h0 => M_X10_costOf _ _ _ _ _ _ _ _ h0) rfl rfl ⟨by rw [hrm]; exact Nat.le_of_ble_eq_true rfl, by rw [hrm]; exact Nat.le_of_ble_eq_true rfl⟩ ⟨by rw [hrm]; exact Nat.le_of_ble_eq_true rfl, by rw [hrm]; exact Nat.le_of_ble_eq_true rfl⟩ rfl hk2 rfl rfl rfl (Nat.le_of_ble_eq_true rfl) dX10_fewest_67 (fun r5 m5 => ?_)
          refine z_aload_n C dX10_fewest_70 rfl 0 rfl ?_
          refine z_iload_n C dX10_fewest_71 rfl 1 rfl ?_
          refine z_iload C dX10_fewest_72 5 rfl ?_
          refine z_chk (fun hk3 => ?_)
          refine z_cVI [.int p1, .int x5] [.int r5] C mv_RX10_501 (fun r0 m0 h0 => M_X10_costOf _ _ _ _ _ _ _ _ h0) rfl rfl ⟨by rw [hrm]; exact Nat.le_of_ble_eq_true rfl, by rw [hrm]; exact Nat.le_of_ble_eq_true rfl⟩ ⟨by rw [hrm]; exact Nat.le_of_ble_eq_true rfl, by rw [hrm]; exact Nat.le_of_ble_eq_true rfl⟩ rfl hk3 rfl rfl rfl (Nat.le_of_ble_eq_true rfl) dX10_fewest_74 (fun r6 m6 => ?_)
          refine z_isub C dX10_fewest_77 ?_
          refine z_goto (tgt := 82) C dX10_fewest_78 (by decide) ?_
          exact z_sub [0, 1, 2, 3, 4, 5, 6] rfl (s_X10_fewest_82 C hr hrm th p1 p2 p3 p4 k26 h26 x5 x6 (r5 - r6) m6)
      · refine z_goto (tgt := 148) C dX10_fewest_55 (by decide) ?_
        exact z_sub [0, 1, 2, 3, 4, 5, 6] rfl (s_X10_fewest_148 C hr hrm th p1 p2 p3 p4 k26 h26 x5 x6 m4)
def l_X10_fewest_26 (th : Nat) (p1 : Int32) (p2 : Int32) (p3 : Int32) (p4 : Int32) : Nat → Int32 → Int32 → MM → Option (Int32 × MM) := lp (fun _ _ _ => none) (fun k26 => g_X10_fewest_26 th p1 p2 p3 p4 k26)
theorem t_X10_fewest_26 {Γ : GX} {E : EX} (C : Cx Γ E cX10_fewest RX10 10) (hr : Γ.meth.sig.returnType = (some .int)) (hrm : Γ.rm = rmX10_fewest) (th : Nat) (p1 : Int32) (p2 : Int32) (p3 : Int32) (p4 : Int32) : ∀ (n : Nat) (x5 : Int32) (x6 : Int32) (m : MM), Sm (QM Γ E emI 0 0) Γ E 10 0 0 26 [(0, va_rf (some th)), (1, .int p1), (2, .int p2), (3, .int p3), (4, .int p4), (5, .int x5), (6, .int x6)] [] m (l_X10_fewest_26 th p1 p2 p3 p4 n x5 x6 m) := by
  intro n
  induction n with
  | zero => intros; exact z_none
  | succ n ih => intro x5 x6 m; exact s_X10_fewest_26 C hr hrm th p1 p2 p3 p4 (l_X10_fewest_26 th p1 p2 p3 p4 n) ih x5 x6 m
set_option maxRecDepth 100000 in
def g_X10_fewest_0 (th : Nat) (p1 : Int32) (p2 : Int32) (p3 : Int32) (p4 : Int32) (m : MM) : Option (Int32 × MM) :=
  chk (m.K th = 11) (bnd (m.sI 1100 th 0 0) (fun m7 => cal (f_X10_bringBars th p1 p2 p3 m7) (fun r7 m8 => if r7 = 0 then (some ((-1), m8)) else (chk (m8.K th = 11) (bnd (m8.I 1165 th 0) (fun y2 => l_X10_fewest_26 th p1 p2 p3 p4 FU y2 0 m8))))))
set_option maxHeartbeats 4000000 in
set_option maxRecDepth 100000 in
theorem s_X10_fewest_0 {Γ : GX} {E : EX} (C : Cx Γ E cX10_fewest RX10 10) (hr : Γ.meth.sig.returnType = (some .int)) (hrm : Γ.rm = rmX10_fewest) (th : Nat) (p1 : Int32) (p2 : Int32) (p3 : Int32) (p4 : Int32) (m : MM) : Sm (QM Γ E emI 0 0) Γ E 10 0 0 0 [(0, va_rf (some th)), (1, .int p1), (2, .int p2), (3, .int p3), (4, .int p4)] [] m (g_X10_fewest_0 th p1 p2 p3 p4 m) := by
  unfold g_X10_fewest_0
  refine z_aload_n C dX10_fewest_0 rfl 0 rfl ?_
  refine z_iconst (v := 0) C dX10_fewest_1 (by decide) ?_
  refine z_chk (fun hk4 => ?_)
  refine z_putI C fl_RX10_180 (fun h => by cases h) rfl hk4 rfl rfl dX10_fewest_2 (fun m7 eK1 eN1 => ?_)
  refine z_aload_n C dX10_fewest_5 rfl 0 rfl ?_
  refine z_iload_n C dX10_fewest_6 rfl 1 rfl ?_
  refine z_iload_n C dX10_fewest_7 rfl 2 rfl ?_
  refine z_iload_n C dX10_fewest_8 rfl 3 rfl ?_
  refine z_cVI [.int p1, .int p2, .int p3] [] C mv_RX10_452 (fun r0 m0 h0 => M_X10_bringBars _ _ _ _ _ _ _ _ _ h0) rfl rfl ⟨by rw [hrm]; exact Nat.le_of_ble_eq_true rfl, by rw [hrm]; exact Nat.le_of_ble_eq_true rfl⟩ ⟨by rw [hrm]; exact Nat.le_of_ble_eq_true rfl, by rw [hrm]; exact Nat.le_of_ble_eq_true rfl⟩ rfl (kfw eK1 hk4) rfl rfl rfl (Nat.le_of_ble_eq_true rfl) dX10_fewest_9 (fun r7 m8 => ?_)
  refine z_if_ne (tgt := 17) C dX10_fewest_12 (by decide) (fun c11 => ?_) (fun c11 => ?_)
  · refine z_aload_n C dX10_fewest_17 rfl 0 rfl ?_
    refine z_chk (fun hk5 => ?_)
    refine z_getI C fl_RX10_381 rfl hk5 dX10_fewest_18 ?_
    refine z_bndI (fun y2 => ?_)
    refine z_istore (i := 5) (L2 := [(5, .int y2), (0, va_rf (some th)), (1, .int p1), (2, .int p2), (3, .int p3), (4, .int p4)]) C dX10_fewest_21 (by decide) rfl ?_
    refine z_iconst (v := 0) C dX10_fewest_23 (by decide) ?_
    refine z_istore (i := 6) (L2 := [(6, .int 0), (5, .int y2), (0, va_rf (some th)), (1, .int p1), (2, .int p2), (3, .int p3), (4, .int p4)]) C dX10_fewest_24 (by decide) rfl ?_
    exact z_sub [2, 3, 4, 5, 6, 1, 0] rfl (t_X10_fewest_26 C hr hrm th p1 p2 p3 p4 FU y2 0 m8)
  · refine z_iconst (v := (-1)) C dX10_fewest_15 (by decide) ?_
    exact z_iret C hr dX10_fewest_16
def f_X10_fewest (th : Nat) (p1 : Int32) (p2 : Int32) (p3 : Int32) (p4 : Int32) (m : MM) : Option (Int32 × MM) := g_X10_fewest_0 th p1 p2 p3 p4 m
theorem M_X10_fewest (l : Launch) (E : EX) (th : Nat) (p1 : Int32) (p2 : Int32) (p3 : Int32) (p4 : Int32) (m : MM) (r : Int32) (m2 : MM) (h : f_X10_fewest th p1 p2 p3 p4 m = some (r, m2)) : Met l yX10_fewest (.code yX10_fewest cX10_fewest 10 (some .int) :: TB) rmX10_fewest (va_Pc [.ref th, .int p1, .int p2, .int p3, .int p4] (St E m)) (QR E (emI r) m2) 0 0 (AA E) :=
  met_of (em := emI) (plainFor_of_name rfl) (Nat.le_of_ble_eq_true rfl) (L0 := [(0, va_rf (some th)), (1, .int p1), (2, .int p2), (3, .int p3), (4, .int p4)]) rfl (fun Γ _ hrm C hr hn => s_X10_fewest_0 C hr hrm th p1 p2 p3 p4 m) h

theorem dX10_fenced_0 : decode cX10_fenced 0 = .ok (.aload_n 0, 1) := by decide +kernel
theorem dX10_fenced_1 : decode cX10_fenced 1 = .ok (.iconst 0, 1) := by decide +kernel
theorem dX10_fenced_2 : decode cX10_fenced 2 = .ok (.putfield 180, 3) := by decide +kernel
theorem dX10_fenced_5 : decode cX10_fenced 5 = .ok (.aload_n 0, 1) := by decide +kernel
theorem dX10_fenced_6 : decode cX10_fenced 6 = .ok (.iload_n 1, 1) := by decide +kernel
theorem dX10_fenced_7 : decode cX10_fenced 7 = .ok (.invokevirtual 192, 3) := by decide +kernel
theorem dX10_fenced_10 : decode cX10_fenced 10 = .ok (.ifCond .eq 18, 3) := by decide +kernel
theorem dX10_fenced_13 : decode cX10_fenced 13 = .ok (.aload_n 0, 1) := by decide +kernel
theorem dX10_fenced_14 : decode cX10_fenced 14 = .ok (.iload_n 2, 1) := by decide +kernel
theorem dX10_fenced_15 : decode cX10_fenced 15 = .ok (.invokevirtual 360, 3) := by decide +kernel
theorem dX10_fenced_18 : decode cX10_fenced 18 = .ok (.ifCond .eq 10, 3) := by decide +kernel
theorem dX10_fenced_21 : decode cX10_fenced 21 = .ok (.iload_n 3, 1) := by decide +kernel
theorem dX10_fenced_22 : decode cX10_fenced 22 = .ok (.invokestatic 372, 3) := by decide +kernel
theorem dX10_fenced_25 : decode cX10_fenced 25 = .ok (.ifCond .ne 5, 3) := by decide +kernel
theorem dX10_fenced_28 : decode cX10_fenced 28 = .ok (.iconst (-1), 1) := by decide +kernel
theorem dX10_fenced_29 : decode cX10_fenced 29 = .ok (.ireturn, 1) := by decide +kernel
theorem dX10_fenced_30 : decode cX10_fenced 30 = .ok (.iconst (-1), 1) := by decide +kernel
theorem dX10_fenced_31 : decode cX10_fenced 31 = .ok (.istore 4, 2) := by decide +kernel
theorem dX10_fenced_33 : decode cX10_fenced 33 = .ok (.aload_n 0, 1) := by decide +kernel
theorem dX10_fenced_34 : decode cX10_fenced 34 = .ok (.iload_n 1, 1) := by decide +kernel
theorem dX10_fenced_35 : decode cX10_fenced 35 = .ok (.iload_n 3, 1) := by decide +kernel
theorem dX10_fenced_36 : decode cX10_fenced 36 = .ok (.invokevirtual 393, 3) := by decide +kernel
theorem dX10_fenced_39 : decode cX10_fenced 39 = .ok (.iconst 0, 1) := by decide +kernel
theorem dX10_fenced_40 : decode cX10_fenced 40 = .ok (.istore 5, 2) := by decide +kernel
theorem dX10_fenced_42 : decode cX10_fenced 42 = .ok (.iload 5, 2) := by decide +kernel
theorem dX10_fenced_44 : decode cX10_fenced 44 = .ok (.iconst 1, 1) := by decide +kernel
theorem dX10_fenced_45 : decode cX10_fenced 45 = .ok (.aload_n 0, 1) := by decide +kernel
theorem dX10_fenced_46 : decode cX10_fenced 46 = .ok (.iload_n 1, 1) := by decide +kernel
theorem dX10_fenced_47 : decode cX10_fenced 47 = .ok (.iconst 4, 1) := by decide +kernel
theorem dX10_fenced_48 : decode cX10_fenced 48 = .ok (.invokevirtual 196, 3) := by decide +kernel
theorem dX10_fenced_51 : decode cX10_fenced 51 = .ok (.ishl, 1) := by decide +kernel
theorem dX10_fenced_52 : decode cX10_fenced 52 = .ok (.if_icmp .ge 81, 3) := by decide +kernel
theorem dX10_fenced_55 : decode cX10_fenced 55 = .ok (.iload 4, 2) := by decide +kernel
theorem dX10_fenced_57 : decode cX10_fenced 57 = .ok (.iconst (-1), 1) := by decide +kernel
theorem dX10_fenced_58 : decode cX10_fenced 58 = .ok (.if_icmp .eq 42, 3) := by decide +kernel
theorem dX10_fenced_61 : decode cX10_fenced 61 = .ok (.iload 5, 2) := by decide +kernel
theorem dX10_fenced_63 : decode cX10_fenced 63 = .ok (.invokestatic 504, 3) := by decide +kernel
theorem dX10_fenced_66 : decode cX10_fenced 66 = .ok (.iload 4, 2) := by decide +kernel
theorem dX10_fenced_68 : decode cX10_fenced 68 = .ok (.invokestatic 504, 3) := by decide +kernel
theorem dX10_fenced_71 : decode cX10_fenced 71 = .ok (.if_icmp .gt 56, 3) := by decide +kernel
theorem dX10_fenced_74 : decode cX10_fenced 74 = .ok (.iload 5, 2) := by decide +kernel
theorem dX10_fenced_76 : decode cX10_fenced 76 = .ok (.invokestatic 504, 3) := by decide +kernel
theorem dX10_fenced_79 : decode cX10_fenced 79 = .ok (.iload 4, 2) := by decide +kernel
theorem dX10_fenced_81 : decode cX10_fenced 81 = .ok (.invokestatic 504, 3) := by decide +kernel
theorem dX10_fenced_84 : decode cX10_fenced 84 = .ok (.if_icmp .ne 16, 3) := by decide +kernel
theorem dX10_fenced_87 : decode cX10_fenced 87 = .ok (.iload 5, 2) := by decide +kernel
theorem dX10_fenced_89 : decode cX10_fenced 89 = .ok (.iload 4, 2) := by decide +kernel
theorem dX10_fenced_91 : decode cX10_fenced 91 = .ok (.invokestatic 507, 3) := by decide +kernel
theorem dX10_fenced_94 : decode cX10_fenced 94 = .ok (.ifCond .ne 6, 3) := by decide +kernel
theorem dX10_fenced_97 : decode cX10_fenced 97 = .ok (.goto 30, 3) := by decide +kernel
theorem dX10_fenced_100 : decode cX10_fenced 100 = .ok (.aload_n 0, 1) := by decide +kernel
theorem dX10_fenced_101 : decode cX10_fenced 101 = .ok (.iload 5, 2) := by decide +kernel
theorem dX10_fenced_103 : decode cX10_fenced 103 = .ok (.putfield 384, 3) := by decide +kernel
theorem dX10_fenced_106 : decode cX10_fenced 106 = .ok (.aload_n 0, 1) := by decide +kernel
theorem dX10_fenced_107 : decode cX10_fenced 107 = .ok (.iload_n 2, 1) := by decide +kernel
theorem dX10_fenced_108 : decode cX10_fenced 108 = .ok (.invokevirtual 449, 3) := by decide +kernel
theorem dX10_fenced_111 : decode cX10_fenced 111 = .ok (.aload_n 0, 1) := by decide +kernel
theorem dX10_fenced_112 : decode cX10_fenced 112 = .ok (.getfield 443, 3) := by decide +kernel
theorem dX10_fenced_115 : decode cX10_fenced 115 = .ok (.ifCond .ne 8, 3) := by decide +kernel
theorem dX10_fenced_118 : decode cX10_fenced 118 = .ok (.iload 5, 2) := by decide +kernel
theorem dX10_fenced_120 : decode cX10_fenced 120 = .ok (.goto 5, 3) := by decide +kernel
theorem dX10_fenced_123 : decode cX10_fenced 123 = .ok (.iload 4, 2) := by decide +kernel
theorem dX10_fenced_125 : decode cX10_fenced 125 = .ok (.istore 4, 2) := by decide +kernel
theorem dX10_fenced_127 : decode cX10_fenced 127 = .ok (.iinc 5 1, 3) := by decide +kernel
theorem dX10_fenced_130 : decode cX10_fenced 130 = .ok (.goto (-88), 3) := by decide +kernel
theorem dX10_fenced_133 : decode cX10_fenced 133 = .ok (.iload 4, 2) := by decide +kernel
theorem dX10_fenced_135 : decode cX10_fenced 135 = .ok (.ireturn, 1) := by decide +kernel
def rmX10_fenced : Room := { frames := 6, cells := 0, slots := 0, locals := 157 }
set_option maxRecDepth 100000 in
def g_X10_fenced_127 (th : Nat) (p1 : Int32) (p2 : Int32) (p3 : Int32) (k42 : Int32 → Int32 → MM → Option (Int32 × MM)) (x4 : Int32) (x5 : Int32) (m : MM) : Option (Int32 × MM) :=
  k42 x4 (x5 + 1) m
set_option maxHeartbeats 4000000 in
set_option maxRecDepth 100000 in
theorem s_X10_fenced_127 {Γ : GX} {E : EX} (C : Cx Γ E cX10_fenced RX10 6) (hr : Γ.meth.sig.returnType = (some .int)) (hrm : Γ.rm = rmX10_fenced) (th : Nat) (p1 : Int32) (p2 : Int32) (p3 : Int32) (k42 : Int32 → Int32 → MM → Option (Int32 × MM)) (h42 : ∀ (x4 : Int32) (x5 : Int32) (m : MM), Sm (QM Γ E emI 0 0) Γ E 6 0 0 42 [(0, va_rf (some th)), (1, .int p1), (2, .int p2), (3, .int p3), (4, .int x4), (5, .int x5)] [] m (k42 x4 x5 m)) (x4 : Int32) (x5 : Int32) (m : MM) : Sm (QM Γ E emI 0 0) Γ E 6 0 0 127 [(0, va_rf (some th)), (1, .int p1), (2, .int p2), (3, .int p3), (4, .int x4), (5, .int x5)] [] m (g_X10_fenced_127 th p1 p2 p3 k42 x4 x5 m) := by
  unfold g_X10_fenced_127
  refine z_iinc (v := 1) (L2 := [(5, .int (x5 + 1)), (0, va_rf (some th)), (1, .int p1), (2, .int p2), (3, .int p3), (4, .int x4)]) C dX10_fenced_127 5 rfl (by decide) (by decide) rfl ?_
  refine z_goto (tgt := 42) C dX10_fenced_130 (by decide) ?_
  exact z_sub [1, 2, 3, 4, 5, 0] rfl (h42 x4 (x5 + 1) m)
set_option maxRecDepth 100000 in
def g_X10_fenced_125 (th : Nat) (p1 : Int32) (p2 : Int32) (p3 : Int32) (k42 : Int32 → Int32 → MM → Option (Int32 × MM)) (x5 : Int32) (s0 : Int32) (m : MM) : Option (Int32 × MM) :=
  g_X10_fenced_127 th p1 p2 p3 k42 s0 x5 m
set_option maxHeartbeats 4000000 in
set_option maxRecDepth 100000 in
theorem s_X10_fenced_125 {Γ : GX} {E : EX} (C : Cx Γ E cX10_fenced RX10 6) (hr : Γ.meth.sig.returnType = (some .int)) (hrm : Γ.rm = rmX10_fenced) (th : Nat) (p1 : Int32) (p2 : Int32) (p3 : Int32) (k42 : Int32 → Int32 → MM → Option (Int32 × MM)) (h42 : ∀ (x4 : Int32) (x5 : Int32) (m : MM), Sm (QM Γ E emI 0 0) Γ E 6 0 0 42 [(0, va_rf (some th)), (1, .int p1), (2, .int p2), (3, .int p3), (4, .int x4), (5, .int x5)] [] m (k42 x4 x5 m)) (x5 : Int32) (s0 : Int32) (m : MM) : Sm (QM Γ E emI 0 0) Γ E 6 0 0 125 [(0, va_rf (some th)), (1, .int p1), (2, .int p2), (3, .int p3), (5, .int x5)] [.int s0] m (g_X10_fenced_125 th p1 p2 p3 k42 x5 s0 m) := by
  unfold g_X10_fenced_125
  refine z_istore (i := 4) (L2 := [(4, .int s0), (0, va_rf (some th)), (1, .int p1), (2, .int p2), (3, .int p3), (5, .int x5)]) C dX10_fenced_125 (by decide) rfl ?_
  exact z_sub [1, 2, 3, 4, 0, 5] rfl (s_X10_fenced_127 C hr hrm th p1 p2 p3 k42 h42 s0 x5 m)
set_option maxRecDepth 100000 in
def g_X10_fenced_100 (th : Nat) (p1 : Int32) (p2 : Int32) (p3 : Int32) (k42 : Int32 → Int32 → MM → Option (Int32 × MM)) (x4 : Int32) (x5 : Int32) (m : MM) : Option (Int32 × MM) :=
  chk (m.K th = 11) (bnd (m.sI 1168 th 0 x5) (fun m1 => cal (f_X10_findBars th p2 m1) (fun r1 m2 => chk (m2.K th = 11) (if (m2.I 1174 th 0) = 0 then (g_X10_fenced_125 th p1 p2 p3 k42 x5 x5 m2) else (g_X10_fenced_125 th p1 p2 p3 k42 x5 x4 m2)))))
set_option maxHeartbeats 4000000 in
set_option maxRecDepth 100000 in
theorem s_X10_fenced_100 {Γ : GX} {E : EX} (C : Cx Γ E cX10_fenced RX10 6) (hr : Γ.meth.sig.returnType = (some .int)) (hrm : Γ.rm = rmX10_fenced) (th : Nat) (p1 : Int32) (p2 : Int32) (p3 : Int32) (k42 : Int32 → Int32 → MM → Option (Int32 × MM)) (h42 : ∀ (x4 : Int32) (x5 : Int32) (m : MM), Sm (QM Γ E emI 0 0) Γ E 6 0 0 42 [(0, va_rf (some th)), (1, .int p1), (2, .int p2), (3, .int p3), (4, .int x4), (5, .int x5)] [] m (k42 x4 x5 m)) (x4 : Int32) (x5 : Int32) (m : MM) : Sm (QM Γ E emI 0 0) Γ E 6 0 0 100 [(0, va_rf (some th)), (1, .int p1), (2, .int p2), (3, .int p3), (4, .int x4), (5, .int x5)] [] m (g_X10_fenced_100 th p1 p2 p3 k42 x4 x5 m) := by
  unfold g_X10_fenced_100
  refine z_aload_n C dX10_fenced_100 rfl 0 rfl ?_
  refine z_iload C dX10_fenced_101 5 rfl ?_
  refine z_chk (fun hk1 => ?_)
  refine z_putI C fl_RX10_384 (fun h => by cases h) rfl hk1 rfl rfl dX10_fenced_103 (fun m1 eK1 eN1 => ?_)
  refine z_aload_n C dX10_fenced_106 rfl 0 rfl ?_
  refine z_iload_n C dX10_fenced_107 rfl 2 rfl ?_
  refine z_cVV [.int p2] [] C mv_RX10_449 (fun r0 m0 h0 => M_X10_findBars _ _ _ _ _ _ _ h0) rfl rfl ⟨by rw [hrm]; exact Nat.le_of_ble_eq_true rfl, by rw [hrm]; exact Nat.le_of_ble_eq_true rfl⟩ ⟨by rw [hrm]; exact Nat.le_of_ble_eq_true rfl, by rw [hrm]; exact Nat.le_of_ble_eq_true rfl⟩ rfl (kfw eK1 hk1) rfl rfl rfl (Nat.le_of_ble_eq_true rfl) dX10_fenced_108 (fun r1 m2 => ?_)
  refine z_aload_n C dX10_fenced_111 rfl 0 rfl ?_
  refine z_chk (fun hk2 => ?_)
  refine z_getI C fl_RX10_443 rfl hk2 dX10_fenced_112 ?_
  refine z_if_ne (tgt := 123) C dX10_fenced_115 (by decide) (fun c1 => ?_) (fun c1 => ?_)
  · refine z_iload C dX10_fenced_123 4 rfl ?_
    exact z_sub [0, 1, 2, 3, 5] rfl (s_X10_fenced_125 C hr hrm th p1 p2 p3 k42 h42 x5 x4 m2)
  · refine z_iload C dX10_fenced_118 5 rfl ?_
    refine z_goto (tgt := 125) C dX10_fenced_120 (by decide) ?_
    exact z_sub [0, 1, 2, 3, 5] rfl (s_X10_fenced_125 C hr hrm th p1 p2 p3 k42 h42 x5 x5 m2)
set_option maxRecDepth 100000 in
def g_X10_fenced_42 (th : Nat) (p1 : Int32) (p2 : Int32) (p3 : Int32) (k42 : Int32 → Int32 → MM → Option (Int32 × MM)) (x4 : Int32) (x5 : Int32) (m : MM) : Option (Int32 × MM) :=
  chk (m.K th = 11) (cal (f_X10_of th p1 4 m) (fun r2 m3 => if (1 <<< (r2 &&& 31)) ≤ x5 then (some (x4, m3)) else (if x4 = (-1) then (g_X10_fenced_100 th p1 p2 p3 k42 x4 x5 m3) else (cal (f_X10_ones x5 m3) (fun r3 m4 => cal (f_X10_ones x4 m4) (fun r4 m5 => if r4 < r3 then (g_X10_fenced_127 th p1 p2 p3 k42 x4 x5 m5) else (cal (f_X10_ones x5 m5) (fun r5 m6 => cal (f_X10_ones x4 m6) (fun r6 m7 => if r5 = r6 then (cal (f_X10_isLessRow x5 x4 m7) (fun r7 m8 => if r7 = 0 then (g_X10_fenced_127 th p1 p2 p3 k42 x4 x5 m8) else (g_X10_fenced_100 th p1 p2 p3 k42 x4 x5 m8))) else (g_X10_fenced_100 th p1 p2 p3 k42 x4 x5 m7))))))))))
set_option maxHeartbeats 4000000 in
set_option maxRecDepth 100000 in
theorem s_X10_fenced_42 {Γ : GX} {E : EX} (C : Cx Γ E cX10_fenced RX10 6) (hr : Γ.meth.sig.returnType = (some .int)) (hrm : Γ.rm = rmX10_fenced) (th : Nat) (p1 : Int32) (p2 : Int32) (p3 : Int32) (k42 : Int32 → Int32 → MM → Option (Int32 × MM)) (h42 : ∀ (x4 : Int32) (x5 : Int32) (m : MM), Sm (QM Γ E emI 0 0) Γ E 6 0 0 42 [(0, va_rf (some th)), (1, .int p1), (2, .int p2), (3, .int p3), (4, .int x4), (5, .int x5)] [] m (k42 x4 x5 m)) (x4 : Int32) (x5 : Int32) (m : MM) : Sm (QM Γ E emI 0 0) Γ E 6 0 0 42 [(0, va_rf (some th)), (1, .int p1), (2, .int p2), (3, .int p3), (4, .int x4), (5, .int x5)] [] m (g_X10_fenced_42 th p1 p2 p3 k42 x4 x5 m) := by
  unfold g_X10_fenced_42
  refine z_iload C dX10_fenced_42 5 rfl ?_
  refine z_iconst (v := 1) C dX10_fenced_44 (by decide) ?_
  refine z_aload_n C dX10_fenced_45 rfl 0 rfl ?_
  refine z_iload_n C dX10_fenced_46 rfl 1 rfl ?_
  refine z_iconst (v := 4) C dX10_fenced_47 (by decide) ?_
  refine z_chk (fun hk3 => ?_)
  refine z_cVI [.int p1, .int 4] [.int 1, .int x5] C mv_RX10_196 (fun r0 m0 h0 => M_X10_of _ _ _ _ _ _ _ _ h0) rfl rfl ⟨by rw [hrm]; exact Nat.le_of_ble_eq_true rfl, by rw [hrm]; exact Nat.le_of_ble_eq_true rfl⟩ ⟨by rw [hrm]; exact Nat.le_of_ble_eq_true rfl, by rw [hrm]; exact Nat.le_of_ble_eq_true rfl⟩ rfl hk3 rfl rfl rfl (Nat.le_of_ble_eq_true rfl) dX10_fenced_48 (fun r2 m3 => ?_)
  refine z_ishl C dX10_fenced_51 ?_
  refine z_icmp_ge (tgt := 133) C dX10_fenced_52 (by decide) (fun c2 => ?_) (fun c2 => ?_)
  · refine z_iload C dX10_fenced_133 4 rfl ?_
    exact z_iret C hr dX10_fenced_135
  · refine z_iload C dX10_fenced_55 4 rfl ?_
    refine z_iconst (v := (-1)) C dX10_fenced_57 (by decide) ?_
    refine z_icmp_eq (tgt := 100) C dX10_fenced_58 (by decide) (fun c3 => ?_) (fun c3 => ?_)
    · exact z_sub [0, 1, 2, 3, 4, 5] rfl (s_X10_fenced_100 C hr hrm th p1 p2 p3 k42 h42 x4 x5 m3)
    · refine z_iload C dX10_fenced_61 5 rfl ?_
      refine z_cSI [.int x5] [] C mv_RX10_504 (fun r0 m0 h0 => M_X10_ones _ _ _ _ _ _ h0) rfl rfl ⟨by rw [hrm]; exact Nat.le_of_ble_eq_true rfl, by rw [hrm]; exact Nat.le_of_ble_eq_true rfl⟩ ⟨by rw [hrm]; exact Nat.le_of_ble_eq_true rfl, by rw [hrm]; exact Nat.le_of_ble_eq_true rfl⟩ rfl rfl (Nat.le_of_ble_eq_true rfl) dX10_fenced_63 (fun r3 m4 => ?_)
      refine z_iload C dX10_fenced_66 4 rfl ?_
      refine z_cSI [.int x4] [.int r3] C mv_RX10_504 (fun r0 m0 h0 => M_X10_ones _ _ _ _ _ _ h0) rfl rfl ⟨by rw [hrm]; exact Nat.le_of_ble_eq_true rfl, by rw [hrm]; exact Nat.le_of_ble_eq_true rfl⟩ ⟨by rw [hrm]; exact Nat.le_of_ble_eq_true rfl, by rw [hrm]; exact Nat.le_of_ble_eq_true rfl⟩ rfl rfl (Nat.le_of_ble_eq_true rfl) dX10_fenced_68 (fun r4 m5 => ?_)
      refine z_icmp_gt (tgt := 127) C dX10_fenced_71 (by decide) (fun c4 => ?_) (fun c4 => ?_)
      · exact z_sub [0, 1, 2, 3, 4, 5] rfl (s_X10_fenced_127 C hr hrm th p1 p2 p3 k42 h42 x4 x5 m5)
      · refine z_iload C dX10_fenced_74 5 rfl ?_
        refine z_cSI [.int x5] [] C mv_RX10_504 (fun r0 m0 h0 => M_X10_ones _ _ _ _ _ _ h0) rfl rfl ⟨by rw [hrm]; exact Nat.le_of_ble_eq_true rfl, by rw [hrm]; exact Nat.le_of_ble_eq_true rfl⟩ ⟨by rw [hrm]; exact Nat.le_of_ble_eq_true rfl, by rw [hrm]; exact Nat.le_of_ble_eq_true rfl⟩ rfl rfl (Nat.le_of_ble_eq_true rfl) dX10_fenced_76 (fun r5 m6 => ?_)
        refine z_iload C dX10_fenced_79 4 rfl ?_
        refine z_cSI [.int x4] [.int r5] C mv_RX10_504 (fun r0 m0 h0 => M_X10_ones _ _ _ _ _ _ h0) rfl rfl ⟨by rw [hrm]; exact Nat.le_of_ble_eq_true rfl, by rw [hrm]; exact Nat.le_of_ble_eq_true rfl⟩ ⟨by rw [hrm]; exact Nat.le_of_ble_eq_true rfl, by rw [hrm]; exact Nat.le_of_ble_eq_true rfl⟩ rfl rfl (Nat.le_of_ble_eq_true rfl) dX10_fenced_81 (fun r6 m7 => ?_)
        refine z_icmp_ne (tgt := 100) C dX10_fenced_84 (by decide) (fun c5 => ?_) (fun c5 => ?_)
        · exact z_sub [0, 1, 2, 3, 4, 5] rfl (s_X10_fenced_100 C hr hrm th p1 p2 p3 k42 h42 x4 x5 m7)
        · refine z_iload C dX10_fenced_87 5 rfl ?_
          refine z_iload C dX10_fenced_89 4 rfl ?_
          refine z_cSI [.int x5, .int x4] [] C mv_RX10_507 (fun r0 m0 h0 => M_X10_isLessRow _ _ _ _ _ _ _ h0) rfl rfl ⟨by rw [hrm]; exact Nat.le_of_ble_eq_true rfl, by rw [hrm]; exact Nat.le_of_ble_eq_true rfl⟩ ⟨by rw [hrm]; exact Nat.le_of_ble_eq_true rfl, by rw [hrm]; exact Nat.le_of_ble_eq_true rfl⟩ rfl rfl (Nat.le_of_ble_eq_true rfl) dX10_fenced_91 (fun r7 m8 => ?_)
          refine z_if_ne (tgt := 100) C dX10_fenced_94 (by decide) (fun c6 => ?_) (fun c6 => ?_)
          · exact z_sub [0, 1, 2, 3, 4, 5] rfl (s_X10_fenced_100 C hr hrm th p1 p2 p3 k42 h42 x4 x5 m8)
          · refine z_goto (tgt := 127) C dX10_fenced_97 (by decide) ?_
            exact z_sub [0, 1, 2, 3, 4, 5] rfl (s_X10_fenced_127 C hr hrm th p1 p2 p3 k42 h42 x4 x5 m8)
def l_X10_fenced_42 (th : Nat) (p1 : Int32) (p2 : Int32) (p3 : Int32) : Nat → Int32 → Int32 → MM → Option (Int32 × MM) := lp (fun _ _ _ => none) (fun k42 => g_X10_fenced_42 th p1 p2 p3 k42)
theorem t_X10_fenced_42 {Γ : GX} {E : EX} (C : Cx Γ E cX10_fenced RX10 6) (hr : Γ.meth.sig.returnType = (some .int)) (hrm : Γ.rm = rmX10_fenced) (th : Nat) (p1 : Int32) (p2 : Int32) (p3 : Int32) : ∀ (n : Nat) (x4 : Int32) (x5 : Int32) (m : MM), Sm (QM Γ E emI 0 0) Γ E 6 0 0 42 [(0, va_rf (some th)), (1, .int p1), (2, .int p2), (3, .int p3), (4, .int x4), (5, .int x5)] [] m (l_X10_fenced_42 th p1 p2 p3 n x4 x5 m) := by
  intro n
  induction n with
  | zero => intros; exact z_none
  | succ n ih => intro x4 x5 m; exact s_X10_fenced_42 C hr hrm th p1 p2 p3 (l_X10_fenced_42 th p1 p2 p3 n) ih x4 x5 m
set_option maxRecDepth 100000 in
def g_X10_fenced_0 (th : Nat) (p1 : Int32) (p2 : Int32) (p3 : Int32) (m : MM) : Option (Int32 × MM) :=
  chk (m.K th = 11) (bnd (m.sI 1100 th 0 0) (fun m9 => cal (f_X10_isTown th p1 m9) (fun r8 m10 => if r8 = 0 then (some ((-1), m10)) else (chk (m10.K th = 11) (cal (f_X10_isLaw th p2 m10) (fun r9 m11 => if r9 = 0 then (some ((-1), m11)) else (cal (f_X10_isDay p3 m11) (fun r10 m12 => if r10 = 0 then (some ((-1), m12)) else (chk (m12.K th = 11) (cal (f_X10_bring th p1 p3 m12) (fun r11 m13 => l_X10_fenced_42 th p1 p2 p3 FU (-1) 0 m13)))))))))))
set_option maxHeartbeats 4000000 in
set_option maxRecDepth 100000 in
theorem s_X10_fenced_0 {Γ : GX} {E : EX} (C : Cx Γ E cX10_fenced RX10 6) (hr : Γ.meth.sig.returnType = (some .int)) (hrm : Γ.rm = rmX10_fenced) (th : Nat) (p1 : Int32) (p2 : Int32) (p3 : Int32) (m : MM) : Sm (QM Γ E emI 0 0) Γ E 6 0 0 0 [(0, va_rf (some th)), (1, .int p1), (2, .int p2), (3, .int p3)] [] m (g_X10_fenced_0 th p1 p2 p3 m) := by
  unfold g_X10_fenced_0
  refine z_aload_n C dX10_fenced_0 rfl 0 rfl ?_
  refine z_iconst (v := 0) C dX10_fenced_1 (by decide) ?_
  refine z_chk (fun hk4 => ?_)
  refine z_putI C fl_RX10_180 (fun h => by cases h) rfl hk4 rfl rfl dX10_fenced_2 (fun m9 eK2 eN2 => ?_)
  refine z_aload_n C dX10_fenced_5 rfl 0 rfl ?_
  refine z_iload_n C dX10_fenced_6 rfl 1 rfl ?_
  refine z_cVI [.int p1] [] C mv_RX10_192 (fun r0 m0 h0 => M_X10_isTown _ _ _ _ _ _ _ h0) rfl rfl ⟨by rw [hrm]; exact Nat.le_of_ble_eq_true rfl, by rw [hrm]; exact Nat.le_of_ble_eq_true rfl⟩ ⟨by rw [hrm]; exact Nat.le_of_ble_eq_true rfl, by rw [hrm]; exact Nat.le_of_ble_eq_true rfl⟩ rfl (kfw eK2 hk4) rfl rfl rfl (Nat.le_of_ble_eq_true rfl) dX10_fenced_7 (fun r8 m10 => ?_)
  refine z_if_eq (tgt := 28) C dX10_fenced_10 (by decide) (fun c7 => ?_) (fun c7 => ?_)
  · refine z_iconst (v := (-1)) C dX10_fenced_28 (by decide) ?_
    exact z_iret C hr dX10_fenced_29
  · refine z_aload_n C dX10_fenced_13 rfl 0 rfl ?_
    refine z_iload_n C dX10_fenced_14 rfl 2 rfl ?_
    refine z_chk (fun hk5 => ?_)
    refine z_cVI [.int p2] [] C mv_RX10_360 (fun r0 m0 h0 => M_X10_isLaw _ _ _ _ _ _ _ h0) rfl rfl ⟨by rw [hrm]; exact Nat.le_of_ble_eq_true rfl, by rw [hrm]; exact Nat.le_of_ble_eq_true rfl⟩ ⟨by rw [hrm]; exact Nat.le_of_ble_eq_true rfl, by rw [hrm]; exact Nat.le_of_ble_eq_true rfl⟩ rfl hk5 rfl rfl rfl (Nat.le_of_ble_eq_true rfl) dX10_fenced_15 (fun r9 m11 => ?_)
    refine z_if_eq (tgt := 28) C dX10_fenced_18 (by decide) (fun c8 => ?_) (fun c8 => ?_)
    · refine z_iconst (v := (-1)) C dX10_fenced_28 (by decide) ?_
      exact z_iret C hr dX10_fenced_29
    · refine z_iload_n C dX10_fenced_21 rfl 3 rfl ?_
      refine z_cSI [.int p3] [] C mv_RX10_372 (fun r0 m0 h0 => M_X10_isDay _ _ _ _ _ _ h0) rfl rfl ⟨by rw [hrm]; exact Nat.le_of_ble_eq_true rfl, by rw [hrm]; exact Nat.le_of_ble_eq_true rfl⟩ ⟨by rw [hrm]; exact Nat.le_of_ble_eq_true rfl, by rw [hrm]; exact Nat.le_of_ble_eq_true rfl⟩ rfl rfl (Nat.le_of_ble_eq_true rfl) dX10_fenced_22 (fun r10 m12 => ?_)
      refine z_if_ne (tgt := 30) C dX10_fenced_25 (by decide) (fun c9 => ?_) (fun c9 => ?_)
      · refine z_iconst (v := (-1)) C dX10_fenced_30 (by decide) ?_
        refine z_istore (i := 4) (L2 := [(4, .int (-1)), (0, va_rf (some th)), (1, .int p1), (2, .int p2), (3, .int p3)]) C dX10_fenced_31 (by decide) rfl ?_
        refine z_aload_n C dX10_fenced_33 rfl 1 rfl ?_
        refine z_iload_n C dX10_fenced_34 rfl 2 rfl ?_
        refine z_iload_n C dX10_fenced_35 rfl 4 rfl ?_
        refine z_chk (fun hk6 => ?_)
        refine z_cVV [.int p1, .int p3] [] C mv_RX10_393 (fun r0 m0 h0 => M_X10_bring _ _ _ _ _ _ _ _ h0) rfl rfl ⟨by rw [hrm]; exact Nat.le_of_ble_eq_true rfl, by rw [hrm]; exact Nat.le_of_ble_eq_true rfl⟩ ⟨by rw [hrm]; exact Nat.le_of_ble_eq_true rfl, by rw [hrm]; exact Nat.le_of_ble_eq_true rfl⟩ rfl hk6 rfl rfl rfl (Nat.le_of_ble_eq_true rfl) dX10_fenced_36 (fun r11 m13 => ?_)
        refine z_iconst (v := 0) C dX10_fenced_39 (by decide) ?_
        refine z_istore (i := 5) (L2 := [(5, .int 0), (4, .int (-1)), (0, va_rf (some th)), (1, .int p1), (2, .int p2), (3, .int p3)]) C dX10_fenced_40 (by decide) rfl ?_
        exact z_sub [2, 3, 4, 5, 1, 0] rfl (t_X10_fenced_42 C hr hrm th p1 p2 p3 FU (-1) 0 m13)
      · refine z_iconst (v := (-1)) C dX10_fenced_28 (by decide) ?_
        exact z_iret C hr dX10_fenced_29
def f_X10_fenced (th : Nat) (p1 : Int32) (p2 : Int32) (p3 : Int32) (m : MM) : Option (Int32 × MM) := g_X10_fenced_0 th p1 p2 p3 m
theorem M_X10_fenced (l : Launch) (E : EX) (th : Nat) (p1 : Int32) (p2 : Int32) (p3 : Int32) (m : MM) (r : Int32) (m2 : MM) (h : f_X10_fenced th p1 p2 p3 m = some (r, m2)) : Met l yX10_fenced (.code yX10_fenced cX10_fenced 6 (some .int) :: TB) rmX10_fenced (va_Pc [.ref th, .int p1, .int p2, .int p3] (St E m)) (QR E (emI r) m2) 0 0 (AA E) :=
  met_of (em := emI) (plainFor_of_name rfl) (Nat.le_of_ble_eq_true rfl) (L0 := [(0, va_rf (some th)), (1, .int p1), (2, .int p2), (3, .int p3)]) rfl (fun Γ _ hrm C hr hn => s_X10_fenced_0 C hr hrm th p1 p2 p3 m) h

theorem dX10_smells_0 : decode cX10_smells 0 = .ok (.aload_n 0, 1) := by decide +kernel
theorem dX10_smells_1 : decode cX10_smells 1 = .ok (.iconst 0, 1) := by decide +kernel
theorem dX10_smells_2 : decode cX10_smells 2 = .ok (.putfield 180, 3) := by decide +kernel
theorem dX10_smells_5 : decode cX10_smells 5 = .ok (.aload_n 0, 1) := by decide +kernel
theorem dX10_smells_6 : decode cX10_smells 6 = .ok (.iload_n 1, 1) := by decide +kernel
theorem dX10_smells_7 : decode cX10_smells 7 = .ok (.iload_n 2, 1) := by decide +kernel
theorem dX10_smells_8 : decode cX10_smells 8 = .ok (.invokevirtual 366, 3) := by decide +kernel
theorem dX10_smells_11 : decode cX10_smells 11 = .ok (.ifCond .eq 17, 3) := by decide +kernel
theorem dX10_smells_14 : decode cX10_smells 14 = .ok (.aload_n 0, 1) := by decide +kernel
theorem dX10_smells_15 : decode cX10_smells 15 = .ok (.iload_n 1, 1) := by decide +kernel
theorem dX10_smells_16 : decode cX10_smells 16 = .ok (.iload_n 3, 1) := by decide +kernel
theorem dX10_smells_17 : decode cX10_smells 17 = .ok (.invokevirtual 366, 3) := by decide +kernel
theorem dX10_smells_20 : decode cX10_smells 20 = .ok (.ifCond .eq 8, 3) := by decide +kernel
theorem dX10_smells_23 : decode cX10_smells 23 = .ok (.iload_n 2, 1) := by decide +kernel
theorem dX10_smells_24 : decode cX10_smells 24 = .ok (.iload_n 3, 1) := by decide +kernel
theorem dX10_smells_25 : decode cX10_smells 25 = .ok (.if_icmp .ne 5, 3) := by decide +kernel
theorem dX10_smells_28 : decode cX10_smells 28 = .ok (.iconst (-1), 1) := by decide +kernel
theorem dX10_smells_29 : decode cX10_smells 29 = .ok (.ireturn, 1) := by decide +kernel
theorem dX10_smells_30 : decode cX10_smells 30 = .ok (.aload_n 0, 1) := by decide +kernel
theorem dX10_smells_31 : decode cX10_smells 31 = .ok (.iload_n 1, 1) := by decide +kernel
theorem dX10_smells_32 : decode cX10_smells 32 = .ok (.iconst 0, 1) := by decide +kernel
theorem dX10_smells_33 : decode cX10_smells 33 = .ok (.invokevirtual 393, 3) := by decide +kernel
theorem dX10_smells_36 : decode cX10_smells 36 = .ok (.aload_n 0, 1) := by decide +kernel
theorem dX10_smells_37 : decode cX10_smells 37 = .ok (.iload_n 2, 1) := by decide +kernel
theorem dX10_smells_38 : decode cX10_smells 38 = .ok (.iload_n 3, 1) := by decide +kernel
theorem dX10_smells_39 : decode cX10_smells 39 = .ok (.invokevirtual 430, 3) := by decide +kernel
theorem dX10_smells_42 : decode cX10_smells 42 = .ok (.ireturn, 1) := by decide +kernel
def rmX10_smells : Room := { frames := 3, cells := 0, slots := 0, locals := 74 }
set_option maxRecDepth 100000 in
def g_X10_smells_0 (th : Nat) (p1 : Int32) (p2 : Int32) (p3 : Int32) (m : MM) : Option (Int32 × MM) :=
  chk (m.K th = 11) (bnd (m.sI 1100 th 0 0) (fun m1 => cal (f_X10_isThing th p1 p2 m1) (fun r1 m2 => if r1 = 0 then (some ((-1), m2)) else (chk (m2.K th = 11) (cal (f_X10_isThing th p1 p3 m2) (fun r2 m3 => if r2 = 0 then (some ((-1), m3)) else (if p2 = p3 then (some ((-1), m3)) else (chk (m3.K th = 11) (cal (f_X10_bring th p1 0 m3) (fun r3 m4 => chk (m4.K th = 11) (cal (f_X10_smellHours th p2 p3 m4) (fun r4 m5 => some (r4, m5)))))))))))))
set_option maxHeartbeats 4000000 in
set_option maxRecDepth 100000 in
theorem s_X10_smells_0 {Γ : GX} {E : EX} (C : Cx Γ E cX10_smells RX10 4) (hr : Γ.meth.sig.returnType = (some .int)) (hrm : Γ.rm = rmX10_smells) (th : Nat) (p1 : Int32) (p2 : Int32) (p3 : Int32) (m : MM) : Sm (QM Γ E emI 0 0) Γ E 4 0 0 0 [(0, va_rf (some th)), (1, .int p1), (2, .int p2), (3, .int p3)] [] m (g_X10_smells_0 th p1 p2 p3 m) := by
  unfold g_X10_smells_0
  refine z_aload_n C dX10_smells_0 rfl 0 rfl ?_
  refine z_iconst (v := 0) C dX10_smells_1 (by decide) ?_
  refine z_chk (fun hk1 => ?_)
  refine z_putI C fl_RX10_180 (fun h => by cases h) rfl hk1 rfl rfl dX10_smells_2 (fun m1 eK1 eN1 => ?_)
  refine z_aload_n C dX10_smells_5 rfl 0 rfl ?_
  refine z_iload_n C dX10_smells_6 rfl 1 rfl ?_
  refine z_iload_n C dX10_smells_7 rfl 2 rfl ?_
  refine z_cVI [.int p1, .int p2] [] C mv_RX10_366 (fun r0 m0 h0 => M_X10_isThing _ _ _ _ _ _ _ _ h0) rfl rfl ⟨by rw [hrm]; exact Nat.le_of_ble_eq_true rfl, by rw [hrm]; exact Nat.le_of_ble_eq_true rfl⟩ ⟨by rw [hrm]; exact Nat.le_of_ble_eq_true rfl, by rw [hrm]; exact Nat.le_of_ble_eq_true rfl⟩ rfl (kfw eK1 hk1) rfl rfl rfl (Nat.le_of_ble_eq_true rfl) dX10_smells_8 (fun r1 m2 => ?_)
  refine z_if_eq (tgt := 28) C dX10_smells_11 (by decide) (fun c1 => ?_) (fun c1 => ?_)
  · refine z_iconst (v := (-1)) C dX10_smells_28 (by decide) ?_
    exact z_iret C hr dX10_smells_29
  · refine z_aload_n C dX10_smells_14 rfl 0 rfl ?_
    refine z_iload_n C dX10_smells_15 rfl 1 rfl ?_
    refine z_iload_n C dX10_smells_16 rfl 3 rfl ?_
    refine z_chk (fun hk2 => ?_)
    refine z_cVI [.int p1, .int p3] [] C mv_RX10_366 (fun r0 m0 h0 => M_X10_isThing _ _ _ _ _ _ _ _ h0) rfl rfl ⟨by rw [hrm]; exact Nat.le_of_ble_eq_true rfl, by rw [hrm]; exact Nat.le_of_ble_eq_true rfl⟩ ⟨by rw [hrm]; exact Nat.le_of_ble_eq_true rfl, by rw [hrm]; exact Nat.le_of_ble_eq_true rfl⟩ rfl hk2 rfl rfl rfl (Nat.le_of_ble_eq_true rfl) dX10_smells_17 (fun r2 m3 => ?_)
    refine z_if_eq (tgt := 28) C dX10_smells_20 (by decide) (fun c2 => ?_) (fun c2 => ?_)
    · refine z_iconst (v := (-1)) C dX10_smells_28 (by decide) ?_
      exact z_iret C hr dX10_smells_29
    · refine z_iload_n C dX10_smells_23 rfl 2 rfl ?_
      refine z_iload_n C dX10_smells_24 rfl 3 rfl ?_
      refine z_icmp_ne (tgt := 30) C dX10_smells_25 (by decide) (fun c3 => ?_) (fun c3 => ?_)
      · refine z_aload_n C dX10_smells_30 rfl 0 rfl ?_
        refine z_iload_n C dX10_smells_31 rfl 1 rfl ?_
        refine z_iconst (v := 0) C dX10_smells_32 (by decide) ?_
        refine z_chk (fun hk3 => ?_)
        refine z_cVV [.int p1, .int 0] [] C mv_RX10_393 (fun r0 m0 h0 => M_X10_bring _ _ _ _ _ _ _ _ h0) rfl rfl ⟨by rw [hrm]; exact Nat.le_of_ble_eq_true rfl, by rw [hrm]; exact Nat.le_of_ble_eq_true rfl⟩ ⟨by rw [hrm]; exact Nat.le_of_ble_eq_true rfl, by rw [hrm]; exact Nat.le_of_ble_eq_true rfl⟩ rfl hk3 rfl rfl rfl (Nat.le_of_ble_eq_true rfl) dX10_smells_33 (fun r3 m4 => ?_)
        refine z_aload_n C dX10_smells_36 rfl 0 rfl ?_
        refine z_iload_n C dX10_smells_37 rfl 2 rfl ?_
        refine z_iload_n C dX10_smells_38 rfl 3 rfl ?_
        refine z_chk (fun hk4 => ?_)
        refine z_cVI [.int p2, .int p3] [] C mv_RX10_430 (fun r0 m0 h0 => M_X10_smellHours _ _ _ _ _ _ _ _ h0) rfl rfl ⟨by rw [hrm]; exact Nat.le_of_ble_eq_true rfl, by rw [hrm]; exact Nat.le_of_ble_eq_true rfl⟩ ⟨by rw [hrm]; exact Nat.le_of_ble_eq_true rfl, by rw [hrm]; exact Nat.le_of_ble_eq_true rfl⟩ rfl hk4 rfl rfl rfl (Nat.le_of_ble_eq_true rfl) dX10_smells_39 (fun r4 m5 => ?_)
        exact z_iret C hr dX10_smells_42
      · refine z_iconst (v := (-1)) C dX10_smells_28 (by decide) ?_
        exact z_iret C hr dX10_smells_29
def f_X10_smells (th : Nat) (p1 : Int32) (p2 : Int32) (p3 : Int32) (m : MM) : Option (Int32 × MM) := g_X10_smells_0 th p1 p2 p3 m
theorem M_X10_smells (l : Launch) (E : EX) (th : Nat) (p1 : Int32) (p2 : Int32) (p3 : Int32) (m : MM) (r : Int32) (m2 : MM) (h : f_X10_smells th p1 p2 p3 m = some (r, m2)) : Met l yX10_smells (.code yX10_smells cX10_smells 4 (some .int) :: TB) rmX10_smells (va_Pc [.ref th, .int p1, .int p2, .int p3] (St E m)) (QR E (emI r) m2) 0 0 (AA E) :=
  met_of (em := emI) (plainFor_of_name rfl) (Nat.le_of_ble_eq_true rfl) (L0 := [(0, va_rf (some th)), (1, .int p1), (2, .int p2), (3, .int p3)]) rfl (fun Γ _ hrm C hr hn => s_X10_smells_0 C hr hrm th p1 p2 p3 m) h

theorem dX10_beside_0 : decode cX10_beside 0 = .ok (.aload_n 0, 1) := by decide +kernel
theorem dX10_beside_1 : decode cX10_beside 1 = .ok (.iconst 0, 1) := by decide +kernel
theorem dX10_beside_2 : decode cX10_beside 2 = .ok (.putfield 180, 3) := by decide +kernel
theorem dX10_beside_5 : decode cX10_beside 5 = .ok (.aload_n 0, 1) := by decide +kernel
theorem dX10_beside_6 : decode cX10_beside 6 = .ok (.iload_n 1, 1) := by decide +kernel
theorem dX10_beside_7 : decode cX10_beside 7 = .ok (.invokevirtual 192, 3) := by decide +kernel
theorem dX10_beside_10 : decode cX10_beside 10 = .ok (.ifCond .eq 27, 3) := by decide +kernel
theorem dX10_beside_13 : decode cX10_beside 13 = .ok (.aload_n 0, 1) := by decide +kernel
theorem dX10_beside_14 : decode cX10_beside 14 = .ok (.iload_n 2, 1) := by decide +kernel
theorem dX10_beside_15 : decode cX10_beside 15 = .ok (.invokevirtual 360, 3) := by decide +kernel
theorem dX10_beside_18 : decode cX10_beside 18 = .ok (.ifCond .eq 19, 3) := by decide +kernel
theorem dX10_beside_21 : decode cX10_beside 21 = .ok (.aload_n 0, 1) := by decide +kernel
theorem dX10_beside_22 : decode cX10_beside 22 = .ok (.iload_n 3, 1) := by decide +kernel
theorem dX10_beside_23 : decode cX10_beside 23 = .ok (.invokevirtual 360, 3) := by decide +kernel
theorem dX10_beside_26 : decode cX10_beside 26 = .ok (.ifCond .eq 11, 3) := by decide +kernel
theorem dX10_beside_29 : decode cX10_beside 29 = .ok (.iload 4, 2) := by decide +kernel
theorem dX10_beside_31 : decode cX10_beside 31 = .ok (.invokestatic 372, 3) := by decide +kernel
theorem dX10_beside_34 : decode cX10_beside 34 = .ok (.ifCond .ne 5, 3) := by decide +kernel
theorem dX10_beside_37 : decode cX10_beside 37 = .ok (.iconst (-1), 1) := by decide +kernel
theorem dX10_beside_38 : decode cX10_beside 38 = .ok (.ireturn, 1) := by decide +kernel
theorem dX10_beside_39 : decode cX10_beside 39 = .ok (.aload_n 0, 1) := by decide +kernel
theorem dX10_beside_40 : decode cX10_beside 40 = .ok (.iload_n 1, 1) := by decide +kernel
theorem dX10_beside_41 : decode cX10_beside 41 = .ok (.iload 4, 2) := by decide +kernel
theorem dX10_beside_43 : decode cX10_beside 43 = .ok (.invokevirtual 393, 3) := by decide +kernel
theorem dX10_beside_46 : decode cX10_beside 46 = .ok (.iconst 0, 1) := by decide +kernel
theorem dX10_beside_47 : decode cX10_beside 47 = .ok (.istore 5, 2) := by decide +kernel
theorem dX10_beside_49 : decode cX10_beside 49 = .ok (.iconst 0, 1) := by decide +kernel
theorem dX10_beside_50 : decode cX10_beside 50 = .ok (.istore 6, 2) := by decide +kernel
theorem dX10_beside_52 : decode cX10_beside 52 = .ok (.iload 6, 2) := by decide +kernel
theorem dX10_beside_54 : decode cX10_beside 54 = .ok (.bipush 12, 2) := by decide +kernel
theorem dX10_beside_56 : decode cX10_beside 56 = .ok (.if_icmp .ge 76, 3) := by decide +kernel
theorem dX10_beside_59 : decode cX10_beside 59 = .ok (.iconst 0, 1) := by decide +kernel
theorem dX10_beside_60 : decode cX10_beside 60 = .ok (.istore 7, 2) := by decide +kernel
theorem dX10_beside_62 : decode cX10_beside 62 = .ok (.iload 7, 2) := by decide +kernel
theorem dX10_beside_64 : decode cX10_beside 64 = .ok (.iload 6, 2) := by decide +kernel
theorem dX10_beside_66 : decode cX10_beside 66 = .ok (.if_icmp .ge 60, 3) := by decide +kernel
theorem dX10_beside_69 : decode cX10_beside 69 = .ok (.iload 5, 2) := by decide +kernel
theorem dX10_beside_71 : decode cX10_beside 71 = .ok (.aload_n 0, 1) := by decide +kernel
theorem dX10_beside_72 : decode cX10_beside 72 = .ok (.iload 6, 2) := by decide +kernel
theorem dX10_beside_74 : decode cX10_beside 74 = .ok (.invokevirtual 446, 3) := by decide +kernel
theorem dX10_beside_77 : decode cX10_beside 77 = .ok (.ifCond .eq 39, 3) := by decide +kernel
theorem dX10_beside_80 : decode cX10_beside 80 = .ok (.aload_n 0, 1) := by decide +kernel
theorem dX10_beside_81 : decode cX10_beside 81 = .ok (.iload 7, 2) := by decide +kernel
theorem dX10_beside_83 : decode cX10_beside 83 = .ok (.invokevirtual 446, 3) := by decide +kernel
theorem dX10_beside_86 : decode cX10_beside 86 = .ok (.ifCond .eq 30, 3) := by decide +kernel
theorem dX10_beside_89 : decode cX10_beside 89 = .ok (.aload_n 0, 1) := by decide +kernel
theorem dX10_beside_90 : decode cX10_beside 90 = .ok (.iload_n 2, 1) := by decide +kernel
theorem dX10_beside_91 : decode cX10_beside 91 = .ok (.iload 6, 2) := by decide +kernel
theorem dX10_beside_93 : decode cX10_beside 93 = .ok (.iload 7, 2) := by decide +kernel
theorem dX10_beside_95 : decode cX10_beside 95 = .ok (.iconst (-1), 1) := by decide +kernel
theorem dX10_beside_96 : decode cX10_beside 96 = .ok (.invokevirtual 470, 3) := by decide +kernel
theorem dX10_beside_99 : decode cX10_beside 99 = .ok (.aload_n 0, 1) := by decide +kernel
theorem dX10_beside_100 : decode cX10_beside 100 = .ok (.iload_n 3, 1) := by decide +kernel
theorem dX10_beside_101 : decode cX10_beside 101 = .ok (.iload 6, 2) := by decide +kernel
theorem dX10_beside_103 : decode cX10_beside 103 = .ok (.iload 7, 2) := by decide +kernel
theorem dX10_beside_105 : decode cX10_beside 105 = .ok (.iconst (-1), 1) := by decide +kernel
theorem dX10_beside_106 : decode cX10_beside 106 = .ok (.invokevirtual 470, 3) := by decide +kernel
theorem dX10_beside_109 : decode cX10_beside 109 = .ok (.if_icmp .eq 7, 3) := by decide +kernel
theorem dX10_beside_112 : decode cX10_beside 112 = .ok (.iconst 1, 1) := by decide +kernel
theorem dX10_beside_113 : decode cX10_beside 113 = .ok (.goto 4, 3) := by decide +kernel
theorem dX10_beside_116 : decode cX10_beside 116 = .ok (.iconst 0, 1) := by decide +kernel
theorem dX10_beside_117 : decode cX10_beside 117 = .ok (.iadd, 1) := by decide +kernel
theorem dX10_beside_118 : decode cX10_beside 118 = .ok (.istore 5, 2) := by decide +kernel
theorem dX10_beside_120 : decode cX10_beside 120 = .ok (.iinc 7 1, 3) := by decide +kernel
theorem dX10_beside_123 : decode cX10_beside 123 = .ok (.goto (-61), 3) := by decide +kernel
theorem dX10_beside_126 : decode cX10_beside 126 = .ok (.iinc 6 1, 3) := by decide +kernel
theorem dX10_beside_129 : decode cX10_beside 129 = .ok (.goto (-77), 3) := by decide +kernel
theorem dX10_beside_132 : decode cX10_beside 132 = .ok (.iload 5, 2) := by decide +kernel
theorem dX10_beside_134 : decode cX10_beside 134 = .ok (.ireturn, 1) := by decide +kernel
def rmX10_beside : Room := { frames := 6, cells := 0, slots := 0, locals := 158 }
set_option maxRecDepth 100000 in
def g_X10_beside_117 (th : Nat) (p1 : Int32) (p2 : Int32) (p3 : Int32) (p4 : Int32) (k62 : Int32 → Int32 → Int32 → MM → Option (Int32 × MM)) (k126 : Int32 → Int32 → MM → Option (Int32 × MM)) (x6 : Int32) (x7 : Int32) (s0 : Int32) (s1 : Int32) (m : MM) : Option (Int32 × MM) :=
  bnd (s0 + s1) (fun y1 => k62 y1 x6 (x7 + 1) m)
set_option maxHeartbeats 4000000 in
set_option maxRecDepth 100000 in
theorem s_X10_beside_117 {Γ : GX} {E : EX} (C : Cx Γ E cX10_beside RX10 8) (hr : Γ.meth.sig.returnType = (some .int)) (hrm : Γ.rm = rmX10_beside) (th : Nat) (p1 : Int32) (p2 : Int32) (p3 : Int32) (p4 : Int32) (k62 : Int32 → Int32 → Int32 → MM → Option (Int32 × MM)) (k126 : Int32 → Int32 → MM → Option (Int32 × MM)) (h62 : ∀ (x5 : Int32) (x6 : Int32) (x7 : Int32) (m : MM), Sm (QM Γ E emI 0 0) Γ E 8 0 0 62 [(0, va_rf (some th)), (1, .int p1), (2, .int p2), (3, .int p3), (4, .int p4), (5, .int x5), (6, .int x6), (7, .int x7)] [] m (k62 x5 x6 x7 m)) (h126 : ∀ (x5 : Int32) (x6 : Int32) (m : MM), Sm (QM Γ E emI 0 0) Γ E 8 0 0 126 [(0, va_rf (some th)), (1, .int p1), (2, .int p2), (3, .int p3), (4, .int p4), (5, .int x5), (6, .int x6)] [] m (k126 x5 x6 m)) (x6 : Int32) (x7 : Int32) (s0 : Int32) (s1 : Int32) (m : MM) : Sm (QM Γ E emI 0 0) Γ E 8 0 0 117 [(0, va_rf (some th)), (1, .int p1), (2, .int p2), (3, .int p3), (4, .int p4), (6, .int x6), (7, .int x7)] [.int s1, .int s0] m (g_X10_beside_117 th p1 p2 p3 p4 k62 k126 x6 x7 s0 s1 m) := by
  unfold g_X10_beside_117
  refine z_iadd C dX10_beside_117 ?_
  refine z_bndI (fun y1 => ?_)
  refine z_istore (i := 5) (L2 := [(5, .int y1), (0, va_rf (some th)), (1, .int p1), (2, .int p2), (3, .int p3), (4, .int p4), (6, .int x6), (7, .int x7)]) C dX10_beside_118 (by decide) rfl ?_
  refine z_iinc (v := 1) (L2 := [(7, .int (x7 + 1)), (5, .int y1), (0, va_rf (some th)), (1, .int p1), (2, .int p2), (3, .int p3), (4, .int p4), (6, .int x6)]) C dX10_beside_120 7 rfl (by decide) (by decide) rfl ?_
  refine z_goto (tgt := 62) C dX10_beside_123 (by decide) ?_
  exact z_sub [2, 3, 4, 5, 6, 1, 7, 0] rfl (h62 y1 x6 (x7 + 1) m)
set_option maxRecDepth 100000 in
def g_X10_beside_116 (th : Nat) (p1 : Int32) (p2 : Int32) (p3 : Int32) (p4 : Int32) (k62 : Int32 → Int32 → Int32 → MM → Option (Int32 × MM)) (k126 : Int32 → Int32 → MM → Option (Int32 × MM)) (x6 : Int32) (x7 : Int32) (s0 : Int32) (m : MM) : Option (Int32 × MM) :=
  g_X10_beside_117 th p1 p2 p3 p4 k62 k126 x6 x7 s0 0 m
set_option maxHeartbeats 4000000 in
set_option maxRecDepth 100000 in
theorem s_X10_beside_116 {Γ : GX} {E : EX} (C : Cx Γ E cX10_beside RX10 8) (hr : Γ.meth.sig.returnType = (some .int)) (hrm : Γ.rm = rmX10_beside) (th : Nat) (p1 : Int32) (p2 : Int32) (p3 : Int32) (p4 : Int32) (k62 : Int32 → Int32 → Int32 → MM → Option (Int32 × MM)) (k126 : Int32 → Int32 → MM → Option (Int32 × MM)) (h62 : ∀ (x5 : Int32) (x6 : Int32) (x7 : Int32) (m : MM), Sm (QM Γ E emI 0 0) Γ E 8 0 0 62 [(0, va_rf (some th)), (1, .int p1), (2, .int p2), (3, .int p3), (4, .int p4), (5, .int x5), (6, .int x6), (7, .int x7)] [] m (k62 x5 x6 x7 m)) (h126 : ∀ (x5 : Int32) (x6 : Int32) (m : MM), Sm (QM Γ E emI 0 0) Γ E 8 0 0 126 [(0, va_rf (some th)), (1, .int p1), (2, .int p2), (3, .int p3), (4, .int p4), (5, .int x5), (6, .int x6)] [] m (k126 x5 x6 m)) (x6 : Int32) (x7 : Int32) (s0 : Int32) (m : MM) : Sm (QM Γ E emI 0 0) Γ E 8 0 0 116 [(0, va_rf (some th)), (1, .int p1), (2, .int p2), (3, .int p3), (4, .int p4), (6, .int x6), (7, .int x7)] [.int s0] m (g_X10_beside_116 th p1 p2 p3 p4 k62 k126 x6 x7 s0 m) := by
  unfold g_X10_beside_116
  refine z_iconst (v := 0) C dX10_beside_116 (by decide) ?_
  exact z_sub [0, 1, 2, 3, 4, 5, 6] rfl (s_X10_beside_117 C hr hrm th p1 p2 p3 p4 k62 k126 h62 h126 x6 x7 s0 0 m)
set_option maxRecDepth 100000 in
def g_X10_beside_62 (th : Nat) (p1 : Int32) (p2 : Int32) (p3 : Int32) (p4 : Int32) (k62 : Int32 → Int32 → Int32 → MM → Option (Int32 × MM)) (k126 : Int32 → Int32 → MM → Option (Int32 × MM)) (x5 : Int32) (x6 : Int32) (x7 : Int32) (m : MM) : Option (Int32 × MM) :=
  if x6 ≤ x7 then (k126 x5 x6 m) else (chk (m.K th = 11) (cal (f_X10_stands th x6 m) (fun r1 m1 => if r1 = 0 then (g_X10_beside_116 th p1 p2 p3 p4 k62 k126 x6 x7 x5 m1) else (chk (m1.K th = 11) (cal (f_X10_stands th x7 m1) (fun r2 m2 => if r2 = 0 then (g_X10_beside_116 th p1 p2 p3 p4 k62 k126 x6 x7 x5 m2) else (chk (m2.K th = 11) (cal (f_X10_barsBoth th p2 x6 x7 (-1) m2) (fun r3 m3 => chk (m3.K th = 11) (cal (f_X10_barsBoth th p3 x6 x7 (-1) m3) (fun r4 m4 => if r3 = r4 then (g_X10_beside_116 th p1 p2 p3 p4 k62 k126 x6 x7 x5 m4) else (g_X10_beside_117 th p1 p2 p3 p4 k62 k126 x6 x7 x5 1 m4))))))))))))
set_option maxHeartbeats 4000000 in
set_option maxRecDepth 100000 in
theorem s_X10_beside_62 {Γ : GX} {E : EX} (C : Cx Γ E cX10_beside RX10 8) (hr : Γ.meth.sig.returnType = (some .int)) (hrm : Γ.rm = rmX10_beside) (th : Nat) (p1 : Int32) (p2 : Int32) (p3 : Int32) (p4 : Int32) (k62 : Int32 → Int32 → Int32 → MM → Option (Int32 × MM)) (k126 : Int32 → Int32 → MM → Option (Int32 × MM)) (h62 : ∀ (x5 : Int32) (x6 : Int32) (x7 : Int32) (m : MM), Sm (QM Γ E emI 0 0) Γ E 8 0 0 62 [(0, va_rf (some th)), (1, .int p1), (2, .int p2), (3, .int p3), (4, .int p4), (5, .int x5), (6, .int x6), (7, .int x7)] [] m (k62 x5 x6 x7 m)) (h126 : ∀ (x5 : Int32) (x6 : Int32) (m : MM), Sm (QM Γ E emI 0 0) Γ E 8 0 0 126 [(0, va_rf (some th)), (1, .int p1), (2, .int p2), (3, .int p3), (4, .int p4), (5, .int x5), (6, .int x6)] [] m (k126 x5 x6 m)) (x5 : Int32) (x6 : Int32) (x7 : Int32) (m : MM) : Sm (QM Γ E emI 0 0) Γ E 8 0 0 62 [(0, va_rf (some th)), (1, .int p1), (2, .int p2), (3, .int p3), (4, .int p4), (5, .int x5), (6, .int x6), (7, .int x7)] [] m (g_X10_beside_62 th p1 p2 p3 p4 k62 k126 x5 x6 x7 m) := by
  unfold g_X10_beside_62
  refine z_iload C dX10_beside_62 7 rfl ?_
  refine z_iload C dX10_beside_64 6 rfl ?_
  refine z_icmp_ge (tgt := 126) C dX10_beside_66 (by decide) (fun c1 => ?_) (fun c1 => ?_)
  · exact z_sub [0, 1, 2, 3, 4, 5, 6] rfl (h126 x5 x6 m)
  · refine z_iload C dX10_beside_69 5 rfl ?_
    refine z_aload_n C dX10_beside_71 rfl 0 rfl ?_
    refine z_iload C dX10_beside_72 6 rfl ?_
    refine z_chk (fun hk1 => ?_)
    refine z_cVI [.int x6] [.int x5] C mv_RX10_446 (fun r0 m0 h0 => M_X10_stands _ _ _ _ _ _ _ h0) rfl rfl ⟨by rw [hrm]; exact Nat.le_of_ble_eq_true rfl, by rw [hrm]; exact Nat.le_of_ble_eq_true rfl⟩ ⟨by rw [hrm]; exact Nat.le_of_ble_eq_true rfl, by rw [hrm]; exact Nat.le_of_ble_eq_true rfl⟩ rfl hk1 rfl rfl rfl (Nat.le_of_ble_eq_true rfl) dX10_beside_74 (fun r1 m1 => ?_)
    refine z_if_eq (tgt := 116) C dX10_beside_77 (by decide) (fun c2 => ?_) (fun c2 => ?_)
    · exact z_sub [0, 1, 2, 3, 4, 6, 7] rfl (s_X10_beside_116 C hr hrm th p1 p2 p3 p4 k62 k126 h62 h126 x6 x7 x5 m1)
    · refine z_aload_n C dX10_beside_80 rfl 0 rfl ?_
      refine z_iload C dX10_beside_81 7 rfl ?_
      refine z_chk (fun hk2 => ?_)
      refine z_cVI [.int x7] [.int x5] C mv_RX10_446 (fun r0 m0 h0 => M_X10_stands _ _ _ _ _ _ _ h0) rfl rfl ⟨by rw [hrm]; exact Nat.le_of_ble_eq_true rfl, by rw [hrm]; exact Nat.le_of_ble_eq_true rfl⟩ ⟨by rw [hrm]; exact Nat.le_of_ble_eq_true rfl, by rw [hrm]; exact Nat.le_of_ble_eq_true rfl⟩ rfl hk2 rfl rfl rfl (Nat.le_of_ble_eq_true rfl) dX10_beside_83 (fun r2 m2 => ?_)
      refine z_if_eq (tgt := 116) C dX10_beside_86 (by decide) (fun c3 => ?_) (fun c3 => ?_)
      · exact z_sub [0, 1, 2, 3, 4, 6, 7] rfl (s_X10_beside_116 C hr hrm th p1 p2 p3 p4 k62 k126 h62 h126 x6 x7 x5 m2)
      · refine z_aload_n C dX10_beside_89 rfl 0 rfl ?_
        refine z_iload_n C dX10_beside_90 rfl 2 rfl ?_
        refine z_iload C dX10_beside_91 6 rfl ?_
        refine z_iload C dX10_beside_93 7 rfl ?_
        refine z_iconst (v := (-1)) C dX10_beside_95 (by decide) ?_
        refine z_chk (fun hk3 => ?_)
        refine z_cVI [.int p2, .int x6, .int x7, .int (-1)] [.int x5] C mv_RX10_470 (fun r0 m0 h0 => M_X10_barsBoth _ _ _ _ _ _ _ _ _ _ h0) rfl rfl ⟨by rw [hrm]; exact Nat.le_of_ble_eq_true rfl, by rw [hrm]; exact Nat.le_of_ble_eq_true rfl⟩ ⟨by rw [hrm]; exact Nat.le_of_ble_eq_true rfl, by rw [hrm]; exact Nat.le_of_ble_eq_true rfl⟩ rfl hk3 rfl rfl rfl (Nat.le_of_ble_eq_true rfl) dX10_beside_96 (fun r3 m3 => ?_)
        refine z_aload_n C dX10_beside_99 rfl 0 rfl ?_
        refine z_iload_n C dX10_beside_100 rfl 3 rfl ?_
        refine z_iload C dX10_beside_101 6 rfl ?_
        refine z_iload C dX10_beside_103 7 rfl ?_
        refine z_iconst (v := (-1)) C dX10_beside_105 (by decide) ?_
        refine z_chk (fun hk4 => ?_)
        refine z_cVI [.int p3, .int x6, .int x7, .int (-1)] [.int r3, .int x5] C mv_RX10_470 (fun r0 m0 h0 => M_X10_barsBoth _ _ _ _ _ _ _ _ _ _ h0) rfl rfl ⟨by rw [hrm]; exact Nat.le_of_ble_eq_true rfl, by rw [hrm]; exact Nat.le_of_ble_eq_true rfl⟩ ⟨by rw [hrm]; exact Nat.le_of_ble_eq_true rfl, by rw [hrm]; exact Nat.le_of_ble_eq_true rfl⟩ rfl hk4 rfl rfl rfl (Nat.le_of_ble_eq_true rfl) dX10_beside_106 (fun r4 m4 => ?_)
        refine z_icmp_eq (tgt := 116) C dX10_beside_109 (by decide) (fun c4 => ?_) (fun c4 => ?_)
        · exact z_sub [0, 1, 2, 3, 4, 6, 7] rfl (s_X10_beside_116 C hr hrm th p1 p2 p3 p4 k62 k126 h62 h126 x6 x7 x5 m4)
        · refine z_iconst (v := 1) C dX10_beside_112 (by decide) ?_
          refine z_goto (tgt := 117) C dX10_beside_113 (by decide) ?_
          exact z_sub [0, 1, 2, 3, 4, 6, 7] rfl (s_X10_beside_117 C hr hrm th p1 p2 p3 p4 k62 k126 h62 h126 x6 x7 x5 1 m4)
def l_X10_beside_62 (th : Nat) (p1 : Int32) (p2 : Int32) (p3 : Int32) (p4 : Int32) (k126 : Int32 → Int32 → MM → Option (Int32 × MM)) : Nat → Int32 → Int32 → Int32 → MM → Option (Int32 × MM) := lp (fun _ _ _ _ => none) (fun k62 => g_X10_beside_62 th p1 p2 p3 p4 k62 k126)
theorem t_X10_beside_62 {Γ : GX} {E : EX} (C : Cx Γ E cX10_beside RX10 8) (hr : Γ.meth.sig.returnType = (some .int)) (hrm : Γ.rm = rmX10_beside) (th : Nat) (p1 : Int32) (p2 : Int32) (p3 : Int32) (p4 : Int32) (k126 : Int32 → Int32 → MM → Option (Int32 × MM)) (h126 : ∀ (x5 : Int32) (x6 : Int32) (m : MM), Sm (QM Γ E emI 0 0) Γ E 8 0 0 126 [(0, va_rf (some th)), (1, .int p1), (2, .int p2), (3, .int p3), (4, .int p4), (5, .int x5), (6, .int x6)] [] m (k126 x5 x6 m)) : ∀ (n : Nat) (x5 : Int32) (x6 : Int32) (x7 : Int32) (m : MM), Sm (QM Γ E emI 0 0) Γ E 8 0 0 62 [(0, va_rf (some th)), (1, .int p1), (2, .int p2), (3, .int p3), (4, .int p4), (5, .int x5), (6, .int x6), (7, .int x7)] [] m (l_X10_beside_62 th p1 p2 p3 p4 k126 n x5 x6 x7 m) := by
  intro n
  induction n with
  | zero => intros; exact z_none
  | succ n ih => intro x5 x6 x7 m; exact s_X10_beside_62 C hr hrm th p1 p2 p3 p4 (l_X10_beside_62 th p1 p2 p3 p4 k126 n) k126 ih h126 x5 x6 x7 m
set_option maxRecDepth 100000 in
def g_X10_beside_126 (th : Nat) (p1 : Int32) (p2 : Int32) (p3 : Int32) (p4 : Int32) (k52 : Int32 → Int32 → MM → Option (Int32 × MM)) (x5 : Int32) (x6 : Int32) (m : MM) : Option (Int32 × MM) :=
  k52 x5 (x6 + 1) m
set_option maxHeartbeats 4000000 in
set_option maxRecDepth 100000 in
theorem s_X10_beside_126 {Γ : GX} {E : EX} (C : Cx Γ E cX10_beside RX10 8) (hr : Γ.meth.sig.returnType = (some .int)) (hrm : Γ.rm = rmX10_beside) (th : Nat) (p1 : Int32) (p2 : Int32) (p3 : Int32) (p4 : Int32) (k52 : Int32 → Int32 → MM → Option (Int32 × MM)) (h52 : ∀ (x5 : Int32) (x6 : Int32) (m : MM), Sm (QM Γ E emI 0 0) Γ E 8 0 0 52 [(0, va_rf (some th)), (1, .int p1), (2, .int p2), (3, .int p3), (4, .int p4), (5, .int x5), (6, .int x6)] [] m (k52 x5 x6 m)) (x5 : Int32) (x6 : Int32) (m : MM) : Sm (QM Γ E emI 0 0) Γ E 8 0 0 126 [(0, va_rf (some th)), (1, .int p1), (2, .int p2), (3, .int p3), (4, .int p4), (5, .int x5), (6, .int x6)] [] m (g_X10_beside_126 th p1 p2 p3 p4 k52 x5 x6 m) := by
  unfold g_X10_beside_126
  refine z_iinc (v := 1) (L2 := [(6, .int (x6 + 1)), (0, va_rf (some th)), (1, .int p1), (2, .int p2), (3, .int p3), (4, .int p4), (5, .int x5)]) C dX10_beside_126 6 rfl (by decide) (by decide) rfl ?_
  refine z_goto (tgt := 52) C dX10_beside_129 (by decide) ?_
  exact z_sub [1, 2, 3, 4, 5, 6, 0] rfl (h52 x5 (x6 + 1) m)
set_option maxRecDepth 100000 in
def g_X10_beside_52 (th : Nat) (p1 : Int32) (p2 : Int32) (p3 : Int32) (p4 : Int32) (k52 : Int32 → Int32 → MM → Option (Int32 × MM)) (x5 : Int32) (x6 : Int32) (m : MM) : Option (Int32 × MM) :=
  if 12 ≤ x6 then (some (x5, m)) else (l_X10_beside_62 th p1 p2 p3 p4 (g_X10_beside_126 th p1 p2 p3 p4 k52) FU x5 x6 0 m)
set_option maxHeartbeats 4000000 in
set_option maxRecDepth 100000 in
theorem s_X10_beside_52 {Γ : GX} {E : EX} (C : Cx Γ E cX10_beside RX10 8) (hr : Γ.meth.sig.returnType = (some .int)) (hrm : Γ.rm = rmX10_beside) (th : Nat) (p1 : Int32) (p2 : Int32) (p3 : Int32) (p4 : Int32) (k52 : Int32 → Int32 → MM → Option (Int32 × MM)) (h52 : ∀ (x5 : Int32) (x6 : Int32) (m : MM), Sm (QM Γ E emI 0 0) Γ E 8 0 0 52 [(0, va_rf (some th)), (1, .int p1), (2, .int p2), (3, .int p3), (4, .int p4), (5, .int x5), (6, .int x6)] [] m (k52 x5 x6 m)) (x5 : Int32) (x6 : Int32) (m : MM) : Sm (QM Γ E emI 0 0) Γ E 8 0 0 52 [(0, va_rf (some th)), (1, .int p1), (2, .int p2), (3, .int p3), (4, .int p4), (5, .int x5), (6, .int x6)] [] m (g_X10_beside_52 th p1 p2 p3 p4 k52 x5 x6 m) := by
  unfold g_X10_beside_52
  refine z_iload C dX10_beside_52 6 rfl ?_
  refine z_bipush (v := 12) C dX10_beside_54 (by decide) ?_
  refine z_icmp_ge (tgt := 132) C dX10_beside_56 (by decide) (fun c5 => ?_) (fun c5 => ?_)
  · refine z_iload C dX10_beside_132 5 rfl ?_
    exact z_iret C hr dX10_beside_134
  · refine z_iconst (v := 0) C dX10_beside_59 (by decide) ?_
    refine z_istore (i := 7) (L2 := [(7, .int 0), (0, va_rf (some th)), (1, .int p1), (2, .int p2), (3, .int p3), (4, .int p4), (5, .int x5), (6, .int x6)]) C dX10_beside_60 (by decide) rfl ?_
    exact z_sub [1, 2, 3, 4, 5, 6, 7, 0] rfl (t_X10_beside_62 C hr hrm th p1 p2 p3 p4 (g_X10_beside_126 th p1 p2 p3 p4 k52) (s_X10_beside_126 C hr hrm th p1 p2 p3 p4 k52 h52) FU x5 x6 0 m)
def l_X10_beside_52 (th : Nat) (p1 : Int32) (p2 : Int32) (p3 : Int32) (p4 : Int32) : Nat → Int32 → Int32 → MM → Option (Int32 × MM) := lp (fun _ _ _ => none) (fun k52 => g_X10_beside_52 th p1 p2 p3 p4 k52)
theorem t_X10_beside_52 {Γ : GX} {E : EX} (C : Cx Γ E cX10_beside RX10 8) (hr : Γ.meth.sig.returnType = (some .int)) (hrm : Γ.rm = rmX10_beside) (th : Nat) (p1 : Int32) (p2 : Int32) (p3 : Int32) (p4 : Int32) : ∀ (n : Nat) (x5 : Int32) (x6 : Int32) (m : MM), Sm (QM Γ E emI 0 0) Γ E 8 0 0 52 [(0, va_rf (some th)), (1, .int p1), (2, .int p2), (3, .int p3), (4, .int p4), (5, .int x5), (6, .int x6)] [] m (l_X10_beside_52 th p1 p2 p3 p4 n x5 x6 m) := by
  intro n
  induction n with
  | zero => intros; exact z_none
  | succ n ih => intro x5 x6 m; exact s_X10_beside_52 C hr hrm th p1 p2 p3 p4 (l_X10_beside_52 th p1 p2 p3 p4 n) ih x5 x6 m
set_option maxRecDepth 100000 in
def g_X10_beside_0 (th : Nat) (p1 : Int32) (p2 : Int32) (p3 : Int32) (p4 : Int32) (m : MM) : Option (Int32 × MM) :=
  chk (m.K th = 11) (bnd (m.sI 1100 th 0 0) (fun m5 => cal (f_X10_isTown th p1 m5) (fun r5 m6 => if r5 = 0 then (some ((-1), m6)) else (chk (m6.K th = 11) (cal (f_X10_isLaw th p2 m6) (fun r6 m7 => if r6 = 0 then (some ((-1), m7)) else (chk (m7.K th = 11) (cal (f_X10_isLaw th p3 m7) (fun r7 m8 => if r7 = 0 then (some ((-1), m8)) else (cal (f_X10_isDay p4 m8) (fun r8 m9 => if r8 = 0 then (some ((-1), m9)) else (chk (m9.K th = 11) (cal (f_X10_bring th p1 p4 m9) (fun r9 m10 => l_X10_beside_52 th p1 p2 p3 p4 FU 0 0 m10))))))))))))))
set_option maxHeartbeats 4000000 in
set_option maxRecDepth 100000 in
theorem s_X10_beside_0 {Γ : GX} {E : EX} (C : Cx Γ E cX10_beside RX10 8) (hr : Γ.meth.sig.returnType = (some .int)) (hrm : Γ.rm = rmX10_beside) (th : Nat) (p1 : Int32) (p2 : Int32) (p3 : Int32) (p4 : Int32) (m : MM) : Sm (QM Γ E emI 0 0) Γ E 8 0 0 0 [(0, va_rf (some th)), (1, .int p1), (2, .int p2), (3, .int p3), (4, .int p4)] [] m (g_X10_beside_0 th p1 p2 p3 p4 m) := by
  unfold g_X10_beside_0
  refine z_aload_n C dX10_beside_0 rfl 0 rfl ?_
  refine z_iconst (v := 0) C dX10_beside_1 (by decide) ?_
  refine z_chk (fun hk5 => ?_)
  refine z_putI C fl_RX10_180 (fun h => by cases h) rfl hk5 rfl rfl dX10_beside_2 (fun m5 eK1 eN1 => ?_)
  refine z_aload_n C dX10_beside_5 rfl 0 rfl ?_
  refine z_iload_n C dX10_beside_6 rfl 1 rfl ?_
  refine z_cVI [.int p1] [] C mv_RX10_192 (fun r0 m0 h0 => M_X10_isTown _ _ _ _ _ _ _ h0) rfl rfl ⟨by rw [hrm]; exact Nat.le_of_ble_eq_true rfl, by rw [hrm]; exact Nat.le_of_ble_eq_true rfl⟩ ⟨by rw [hrm]; exact Nat.le_of_ble_eq_true rfl, by rw [hrm]; exact Nat.le_of_ble_eq_true rfl⟩ rfl (kfw eK1 hk5) rfl rfl rfl (Nat.le_of_ble_eq_true rfl) dX10_beside_7 (fun r5 m6 => ?_)
  refine z_if_eq (tgt := 37) C dX10_beside_10 (by decide) (fun c6 => ?_) (fun c6 => ?_)
  · refine z_iconst (v := (-1)) C dX10_beside_37 (by decide) ?_
    exact z_iret C hr dX10_beside_38
  · refine z_aload_n C dX10_beside_13 rfl 0 rfl ?_
    refine z_iload_n C dX10_beside_14 rfl 2 rfl ?_
    refine z_chk (fun hk6 => ?_)
    refine z_cVI [.int p2] [] C mv_RX10_360 (fun r0 m0 h0 => M_X10_isLaw _ _ _ _ _ _ _ h0) rfl rfl ⟨by rw [hrm]; exact Nat.le_of_ble_eq_true rfl, by rw [hrm]; exact Nat.le_of_ble_eq_true rfl⟩ ⟨by rw [hrm]; exact Nat.le_of_ble_eq_true rfl, by rw [hrm]; exact Nat.le_of_ble_eq_true rfl⟩ rfl hk6 rfl rfl rfl (Nat.le_of_ble_eq_true rfl) dX10_beside_15 (fun r6 m7 => ?_)
    refine z_if_eq (tgt := 37) C dX10_beside_18 (by decide) (fun c7 => ?_) (fun c7 => ?_)
    · refine z_iconst (v := (-1)) C dX10_beside_37 (by decide) ?_
      exact z_iret C hr dX10_beside_38
    · refine z_aload_n C dX10_beside_21 rfl 0 rfl ?_
      refine z_iload_n C dX10_beside_22 rfl 3 rfl ?_
      refine z_chk (fun hk7 => ?_)
      refine z_cVI [.int p3] [] C mv_RX10_360 (fun r0 m0 h0 => M_X10_isLaw _ _ _ _ _ _ _ h0) rfl rfl ⟨by rw [hrm]; exact Nat.le_of_ble_eq_true rfl, by rw [hrm]; exact Nat.le_of_ble_eq_true rfl⟩ ⟨by rw [hrm]; exact Nat.le_of_ble_eq_true rfl, by rw [hrm]; exact Nat.le_of_ble_eq_true rfl⟩ rfl hk7 rfl rfl rfl (Nat.le_of_ble_eq_true rfl) dX10_beside_23 (fun r7 m8 => ?_)
      refine z_if_eq (tgt := 37) C dX10_beside_26 (by decide) (fun c8 => ?_) (fun c8 => ?_)
      · refine z_iconst (v := (-1)) C dX10_beside_37 (by decide) ?_
        exact z_iret C hr dX10_beside_38
      · refine z_iload C dX10_beside_29 4 rfl ?_
        refine z_cSI [.int p4] [] C mv_RX10_372 (fun r0 m0 h0 => M_X10_isDay _ _ _ _ _ _ h0) rfl rfl ⟨by rw [hrm]; exact Nat.le_of_ble_eq_true rfl, by rw [hrm]; exact Nat.le_of_ble_eq_true rfl⟩ ⟨by rw [hrm]; exact Nat.le_of_ble_eq_true rfl, by rw [hrm]; exact Nat.le_of_ble_eq_true rfl⟩ rfl rfl (Nat.le_of_ble_eq_true rfl) dX10_beside_31 (fun r8 m9 => ?_)
        refine z_if_ne (tgt := 39) C dX10_beside_34 (by decide) (fun c9 => ?_) (fun c9 => ?_)
        · refine z_aload_n C dX10_beside_39 rfl 0 rfl ?_
          refine z_iload_n C dX10_beside_40 rfl 1 rfl ?_
          refine z_iload C dX10_beside_41 4 rfl ?_
          refine z_chk (fun hk8 => ?_)
          refine z_cVV [.int p1, .int p4] [] C mv_RX10_393 (fun r0 m0 h0 => M_X10_bring _ _ _ _ _ _ _ _ h0) rfl rfl ⟨by rw [hrm]; exact Nat.le_of_ble_eq_true rfl, by rw [hrm]; exact Nat.le_of_ble_eq_true rfl⟩ ⟨by rw [hrm]; exact Nat.le_of_ble_eq_true rfl, by rw [hrm]; exact Nat.le_of_ble_eq_true rfl⟩ rfl hk8 rfl rfl rfl (Nat.le_of_ble_eq_true rfl) dX10_beside_43 (fun r9 m10 => ?_)
          refine z_iconst (v := 0) C dX10_beside_46 (by decide) ?_
          refine z_istore (i := 5) (L2 := [(5, .int 0), (0, va_rf (some th)), (1, .int p1), (2, .int p2), (3, .int p3), (4, .int p4)]) C dX10_beside_47 (by decide) rfl ?_
          refine z_iconst (v := 0) C dX10_beside_49 (by decide) ?_
          refine z_istore (i := 6) (L2 := [(6, .int 0), (5, .int 0), (0, va_rf (some th)), (1, .int p1), (2, .int p2), (3, .int p3), (4, .int p4)]) C dX10_beside_50 (by decide) rfl ?_
          exact z_sub [2, 3, 4, 5, 6, 1, 0] rfl (t_X10_beside_52 C hr hrm th p1 p2 p3 p4 FU 0 0 m10)
        · refine z_iconst (v := (-1)) C dX10_beside_37 (by decide) ?_
          exact z_iret C hr dX10_beside_38
def f_X10_beside (th : Nat) (p1 : Int32) (p2 : Int32) (p3 : Int32) (p4 : Int32) (m : MM) : Option (Int32 × MM) := g_X10_beside_0 th p1 p2 p3 p4 m
theorem M_X10_beside (l : Launch) (E : EX) (th : Nat) (p1 : Int32) (p2 : Int32) (p3 : Int32) (p4 : Int32) (m : MM) (r : Int32) (m2 : MM) (h : f_X10_beside th p1 p2 p3 p4 m = some (r, m2)) : Met l yX10_beside (.code yX10_beside cX10_beside 8 (some .int) :: TB) rmX10_beside (va_Pc [.ref th, .int p1, .int p2, .int p3, .int p4] (St E m)) (QR E (emI r) m2) 0 0 (AA E) :=
  met_of (em := emI) (plainFor_of_name rfl) (Nat.le_of_ble_eq_true rfl) (L0 := [(0, va_rf (some th)), (1, .int p1), (2, .int p2), (3, .int p3), (4, .int p4)]) rfl (fun Γ _ hrm C hr hn => s_X10_beside_0 C hr hrm th p1 p2 p3 p4 m) h

theorem dX10_put_0 : decode cX10_put 0 = .ok (.aload_n 0, 1) := by decide +kernel
theorem dX10_put_1 : decode cX10_put 1 = .ok (.getfield 146, 3) := by decide +kernel
theorem dX10_put_4 : decode cX10_put 4 = .ok (.iload_n 1, 1) := by decide +kernel
theorem dX10_put_5 : decode cX10_put 5 = .ok (.iload_n 2, 1) := by decide +kernel
theorem dX10_put_6 : decode cX10_put 6 = .ok (.bipush 8, 2) := by decide +kernel
theorem dX10_put_8 : decode cX10_put 8 = .ok (.irem, 1) := by decide +kernel
theorem dX10_put_9 : decode cX10_put 9 = .ok (.iastore, 1) := by decide +kernel
theorem dX10_put_10 : decode cX10_put 10 = .ok (.aload_n 0, 1) := by decide +kernel
theorem dX10_put_11 : decode cX10_put 11 = .ok (.getfield 149, 3) := by decide +kernel
theorem dX10_put_14 : decode cX10_put 14 = .ok (.iload_n 1, 1) := by decide +kernel
theorem dX10_put_15 : decode cX10_put 15 = .ok (.iload_n 2, 1) := by decide +kernel
theorem dX10_put_16 : decode cX10_put 16 = .ok (.bipush 8, 2) := by decide +kernel
theorem dX10_put_18 : decode cX10_put 18 = .ok (.idiv, 1) := by decide +kernel
theorem dX10_put_19 : decode cX10_put 19 = .ok (.iastore, 1) := by decide +kernel
theorem dX10_put_20 : decode cX10_put 20 = .ok (.aload_n 0, 1) := by decide +kernel
theorem dX10_put_21 : decode cX10_put 21 = .ok (.getfield 155, 3) := by decide +kernel
theorem dX10_put_24 : decode cX10_put 24 = .ok (.iload_n 1, 1) := by decide +kernel
theorem dX10_put_25 : decode cX10_put 25 = .ok (.aload_n 0, 1) := by decide +kernel
theorem dX10_put_26 : decode cX10_put 26 = .ok (.getfield 378, 3) := by decide +kernel
theorem dX10_put_29 : decode cX10_put 29 = .ok (.iastore, 1) := by decide +kernel
theorem dX10_put_30 : decode cX10_put 30 = .ok (.return_, 1) := by decide +kernel
def rmX10_put : Room := { frames := 0, cells := 0, slots := 0, locals := 0 }
set_option maxRecDepth 100000 in
def g_X10_put_0 (th : Nat) (p1 : Int32) (p2 : Int32) (m : MM) : Option (Unit × MM) :=
  chk (m.K th = 11) (ck m (m.R 1161 th 0) 22 (fun a1 => chk (inb p1 (m.N a1) = true) (bnd (m.sI 22 a1 (Int32.toNatClampNeg p1) (p2 - p2 / 8 * 8)) (fun m1 => ck m1 (m1.R 1162 th 0) 22 (fun a2 => chk (inb p1 (m1.N a2) = true) (bnd (m1.sI 22 a2 (Int32.toNatClampNeg p1) (p2 / 8)) (fun m2 => ck m2 (m2.R 1164 th 0) 22 (fun a3 => chk (inb p1 (m2.N a3) = true) (bnd (m2.sI 22 a3 (Int32.toNatClampNeg p1) (m2.I 1167 th 0)) (fun m3 => some ((), m3)))))))))))
set_option maxHeartbeats 4000000 in
set_option maxRecDepth 100000 in
theorem s_X10_put_0 {Γ : GX} {E : EX} (C : Cx Γ E cX10_put RX10 3) (hr : Γ.meth.sig.returnType = none) (hrm : Γ.rm = rmX10_put) (th : Nat) (p1 : Int32) (p2 : Int32) (m : MM) : Sm (QM Γ E emV 0 0) Γ E 3 0 0 0 [(0, va_rf (some th)), (1, .int p1), (2, .int p2)] [] m (g_X10_put_0 th p1 p2 m) := by
  unfold g_X10_put_0
  refine z_aload_n C dX10_put_0 rfl 0 rfl ?_
  refine z_chk (fun hk1 => ?_)
  refine z_getR C fl_RX10_146 rfl hk1 dX10_put_1 ?_
  refine z_iload_n C dX10_put_4 rfl 1 rfl ?_
  refine z_iload_n C dX10_put_5 rfl 2 rfl ?_
  refine z_bipush (v := 8) C dX10_put_6 (by decide) ?_
  refine z_irem C (by decide) dX10_put_8 ?_
  refine z_ck (fun a1 hr1 hk2 => ?_)
  refine z_chk (fun hj1 => ?_)
  refine z_iast C hr1 hk2 hj1 dX10_put_9 (fun m1 eK1 eN1 => ?_)
  refine z_aload_n C dX10_put_10 rfl 0 rfl ?_
  refine z_getR C fl_RX10_149 rfl (kfw eK1 hk1) dX10_put_11 ?_
  refine z_iload_n C dX10_put_14 rfl 1 rfl ?_
  refine z_iload_n C dX10_put_15 rfl 2 rfl ?_
  refine z_bipush (v := 8) C dX10_put_16 (by decide) ?_
  refine z_idiv C (by decide) dX10_put_18 ?_
  refine z_ck (fun a2 hr2 hk3 => ?_)
  refine z_chk (fun hj2 => ?_)
  refine z_iast C hr2 hk3 hj2 dX10_put_19 (fun m2 eK2 eN2 => ?_)
  refine z_aload_n C dX10_put_20 rfl 0 rfl ?_
  refine z_getR C fl_RX10_155 rfl (kfw eK2 (kfw eK1 hk1)) dX10_put_21 ?_
  refine z_iload_n C dX10_put_24 rfl 1 rfl ?_
  refine z_aload_n C dX10_put_25 rfl 0 rfl ?_
  refine z_getI C fl_RX10_378 rfl (kfw eK2 (kfw eK1 hk1)) dX10_put_26 ?_
  refine z_ck (fun a3 hr3 hk4 => ?_)
  refine z_chk (fun hj3 => ?_)
  refine z_iast C hr3 hk4 hj3 dX10_put_29 (fun m3 eK3 eN3 => ?_)
  exact z_vret C hr dX10_put_30
def f_X10_put (th : Nat) (p1 : Int32) (p2 : Int32) (m : MM) : Option (Unit × MM) := g_X10_put_0 th p1 p2 m
theorem M_X10_put (l : Launch) (E : EX) (th : Nat) (p1 : Int32) (p2 : Int32) (m : MM) (r : Unit) (m2 : MM) (h : f_X10_put th p1 p2 m = some (r, m2)) : Met l yX10_put (.code yX10_put cX10_put 3 none :: TB) rmX10_put (va_Pc [.ref th, .int p1, .int p2] (St E m)) (QR E (emV r) m2) 0 0 (AA E) :=
  met_of (em := emV) (plainFor_of_name rfl) (Nat.le_of_ble_eq_true rfl) (L0 := [(0, va_rf (some th)), (1, .int p1), (2, .int p2)]) rfl (fun Γ _ hrm C hr hn => s_X10_put_0 C hr hrm th p1 p2 m) h

theorem dX10_findPoints_0 : decode cX10_findPoints 0 = .ok (.aload_n 0, 1) := by decide +kernel
theorem dX10_findPoints_1 : decode cX10_findPoints 1 = .ok (.getfield 32, 3) := by decide +kernel
theorem dX10_findPoints_4 : decode cX10_findPoints 4 = .ok (.bipush 12, 2) := by decide +kernel
theorem dX10_findPoints_6 : decode cX10_findPoints 6 = .ok (.aload_n 0, 1) := by decide +kernel
theorem dX10_findPoints_7 : decode cX10_findPoints 7 = .ok (.getfield 375, 3) := by decide +kernel
theorem dX10_findPoints_10 : decode cX10_findPoints 10 = .ok (.imul, 1) := by decide +kernel
theorem dX10_findPoints_11 : decode cX10_findPoints 11 = .ok (.iload_n 2, 1) := by decide +kernel
theorem dX10_findPoints_12 : decode cX10_findPoints 12 = .ok (.iadd, 1) := by decide +kernel
theorem dX10_findPoints_13 : decode cX10_findPoints 13 = .ok (.iaload, 1) := by decide +kernel
theorem dX10_findPoints_14 : decode cX10_findPoints 14 = .ok (.bipush 8, 2) := by decide +kernel
theorem dX10_findPoints_16 : decode cX10_findPoints 16 = .ok (.aload_n 0, 1) := by decide +kernel
theorem dX10_findPoints_17 : decode cX10_findPoints 17 = .ok (.getfield 35, 3) := by decide +kernel
theorem dX10_findPoints_20 : decode cX10_findPoints 20 = .ok (.bipush 12, 2) := by decide +kernel
theorem dX10_findPoints_22 : decode cX10_findPoints 22 = .ok (.aload_n 0, 1) := by decide +kernel
theorem dX10_findPoints_23 : decode cX10_findPoints 23 = .ok (.getfield 375, 3) := by decide +kernel
theorem dX10_findPoints_26 : decode cX10_findPoints 26 = .ok (.imul, 1) := by decide +kernel
theorem dX10_findPoints_27 : decode cX10_findPoints 27 = .ok (.iload_n 2, 1) := by decide +kernel
theorem dX10_findPoints_28 : decode cX10_findPoints 28 = .ok (.iadd, 1) := by decide +kernel
theorem dX10_findPoints_29 : decode cX10_findPoints 29 = .ok (.iaload, 1) := by decide +kernel
theorem dX10_findPoints_30 : decode cX10_findPoints 30 = .ok (.imul, 1) := by decide +kernel
theorem dX10_findPoints_31 : decode cX10_findPoints 31 = .ok (.iadd, 1) := by decide +kernel
theorem dX10_findPoints_32 : decode cX10_findPoints 32 = .ok (.istore 5, 2) := by decide +kernel
theorem dX10_findPoints_34 : decode cX10_findPoints 34 = .ok (.iconst 0, 1) := by decide +kernel
theorem dX10_findPoints_35 : decode cX10_findPoints 35 = .ok (.istore 6, 2) := by decide +kernel
theorem dX10_findPoints_37 : decode cX10_findPoints 37 = .ok (.iload 6, 2) := by decide +kernel
theorem dX10_findPoints_39 : decode cX10_findPoints 39 = .ok (.bipush 64, 2) := by decide +kernel
theorem dX10_findPoints_41 : decode cX10_findPoints 41 = .ok (.if_icmp .ge 131, 3) := by decide +kernel
theorem dX10_findPoints_44 : decode cX10_findPoints 44 = .ok (.aload 4, 2) := by decide +kernel
theorem dX10_findPoints_46 : decode cX10_findPoints 46 = .ok (.iload 6, 2) := by decide +kernel
theorem dX10_findPoints_48 : decode cX10_findPoints 48 = .ok (.iload 6, 2) := by decide +kernel
theorem dX10_findPoints_50 : decode cX10_findPoints 50 = .ok (.iload 5, 2) := by decide +kernel
theorem dX10_findPoints_52 : decode cX10_findPoints 52 = .ok (.if_icmp .eq 28, 3) := by decide +kernel
theorem dX10_findPoints_55 : decode cX10_findPoints 55 = .ok (.aload_n 0, 1) := by decide +kernel
theorem dX10_findPoints_56 : decode cX10_findPoints 56 = .ok (.aload_n 0, 1) := by decide +kernel
theorem dX10_findPoints_57 : decode cX10_findPoints 57 = .ok (.getfield 375, 3) := by decide +kernel
theorem dX10_findPoints_60 : decode cX10_findPoints 60 = .ok (.iload 6, 2) := by decide +kernel
theorem dX10_findPoints_62 : decode cX10_findPoints 62 = .ok (.bipush 8, 2) := by decide +kernel
theorem dX10_findPoints_64 : decode cX10_findPoints 64 = .ok (.irem, 1) := by decide +kernel
theorem dX10_findPoints_65 : decode cX10_findPoints 65 = .ok (.iload 6, 2) := by decide +kernel
theorem dX10_findPoints_67 : decode cX10_findPoints 67 = .ok (.bipush 8, 2) := by decide +kernel
theorem dX10_findPoints_69 : decode cX10_findPoints 69 = .ok (.idiv, 1) := by decide +kernel
theorem dX10_findPoints_70 : decode cX10_findPoints 70 = .ok (.invokevirtual 369, 3) := by decide +kernel
theorem dX10_findPoints_73 : decode cX10_findPoints 73 = .ok (.ifCond .eq 7, 3) := by decide +kernel
theorem dX10_findPoints_76 : decode cX10_findPoints 76 = .ok (.iconst 1, 1) := by decide +kernel
theorem dX10_findPoints_77 : decode cX10_findPoints 77 = .ok (.goto 4, 3) := by decide +kernel
theorem dX10_findPoints_80 : decode cX10_findPoints 80 = .ok (.iconst 0, 1) := by decide +kernel
theorem dX10_findPoints_81 : decode cX10_findPoints 81 = .ok (.bastore, 1) := by decide +kernel
theorem dX10_findPoints_82 : decode cX10_findPoints 82 = .ok (.aload_n 0, 1) := by decide +kernel
theorem dX10_findPoints_83 : decode cX10_findPoints 83 = .ok (.iload_n 2, 1) := by decide +kernel
theorem dX10_findPoints_84 : decode cX10_findPoints 84 = .ok (.iload 6, 2) := by decide +kernel
theorem dX10_findPoints_86 : decode cX10_findPoints 86 = .ok (.invokevirtual 510, 3) := by decide +kernel
theorem dX10_findPoints_89 : decode cX10_findPoints 89 = .ok (.iconst 0, 1) := by decide +kernel
theorem dX10_findPoints_90 : decode cX10_findPoints 90 = .ok (.istore 7, 2) := by decide +kernel
theorem dX10_findPoints_92 : decode cX10_findPoints 92 = .ok (.iload 7, 2) := by decide +kernel
theorem dX10_findPoints_94 : decode cX10_findPoints 94 = .ok (.bipush 12, 2) := by decide +kernel
theorem dX10_findPoints_96 : decode cX10_findPoints 96 = .ok (.if_icmp .ge 70, 3) := by decide +kernel
theorem dX10_findPoints_99 : decode cX10_findPoints 99 = .ok (.aload 4, 2) := by decide +kernel
theorem dX10_findPoints_101 : decode cX10_findPoints 101 = .ok (.iload 6, 2) := by decide +kernel
theorem dX10_findPoints_103 : decode cX10_findPoints 103 = .ok (.baload, 1) := by decide +kernel
theorem dX10_findPoints_104 : decode cX10_findPoints 104 = .ok (.ifCond .eq 62, 3) := by decide +kernel
theorem dX10_findPoints_107 : decode cX10_findPoints 107 = .ok (.iload 7, 2) := by decide +kernel
theorem dX10_findPoints_109 : decode cX10_findPoints 109 = .ok (.iload_n 2, 1) := by decide +kernel
theorem dX10_findPoints_110 : decode cX10_findPoints 110 = .ok (.if_icmp .eq 50, 3) := by decide +kernel
theorem dX10_findPoints_113 : decode cX10_findPoints 113 = .ok (.iload 7, 2) := by decide +kernel
theorem dX10_findPoints_115 : decode cX10_findPoints 115 = .ok (.iload_n 3, 1) := by decide +kernel
theorem dX10_findPoints_116 : decode cX10_findPoints 116 = .ok (.if_icmp .eq 44, 3) := by decide +kernel
theorem dX10_findPoints_119 : decode cX10_findPoints 119 = .ok (.aload_n 0, 1) := by decide +kernel
theorem dX10_findPoints_120 : decode cX10_findPoints 120 = .ok (.iload 7, 2) := by decide +kernel
theorem dX10_findPoints_122 : decode cX10_findPoints 122 = .ok (.invokevirtual 446, 3) := by decide +kernel
theorem dX10_findPoints_125 : decode cX10_findPoints 125 = .ok (.ifCond .eq 35, 3) := by decide +kernel
theorem dX10_findPoints_128 : decode cX10_findPoints 128 = .ok (.aload 4, 2) := by decide +kernel
theorem dX10_findPoints_130 : decode cX10_findPoints 130 = .ok (.iload 6, 2) := by decide +kernel
theorem dX10_findPoints_132 : decode cX10_findPoints 132 = .ok (.aload_n 0, 1) := by decide +kernel
theorem dX10_findPoints_133 : decode cX10_findPoints 133 = .ok (.iload 7, 2) := by decide +kernel
theorem dX10_findPoints_135 : decode cX10_findPoints 135 = .ok (.iload_n 2, 1) := by decide +kernel
theorem dX10_findPoints_136 : decode cX10_findPoints 136 = .ok (.invokevirtual 396, 3) := by decide +kernel
theorem dX10_findPoints_139 : decode cX10_findPoints 139 = .ok (.ifCond .le 19, 3) := by decide +kernel
theorem dX10_findPoints_142 : decode cX10_findPoints 142 = .ok (.aload_n 0, 1) := by decide +kernel
theorem dX10_findPoints_143 : decode cX10_findPoints 143 = .ok (.iload_n 1, 1) := by decide +kernel
theorem dX10_findPoints_144 : decode cX10_findPoints 144 = .ok (.iload 7, 2) := by decide +kernel
theorem dX10_findPoints_146 : decode cX10_findPoints 146 = .ok (.iload_n 2, 1) := by decide +kernel
theorem dX10_findPoints_147 : decode cX10_findPoints 147 = .ok (.iconst (-1), 1) := by decide +kernel
theorem dX10_findPoints_148 : decode cX10_findPoints 148 = .ok (.invokevirtual 470, 3) := by decide +kernel
theorem dX10_findPoints_151 : decode cX10_findPoints 151 = .ok (.ifCond .ne 7, 3) := by decide +kernel
theorem dX10_findPoints_154 : decode cX10_findPoints 154 = .ok (.iconst 1, 1) := by decide +kernel
theorem dX10_findPoints_155 : decode cX10_findPoints 155 = .ok (.goto 4, 3) := by decide +kernel
theorem dX10_findPoints_158 : decode cX10_findPoints 158 = .ok (.iconst 0, 1) := by decide +kernel
theorem dX10_findPoints_159 : decode cX10_findPoints 159 = .ok (.bastore, 1) := by decide +kernel
theorem dX10_findPoints_160 : decode cX10_findPoints 160 = .ok (.iinc 7 1, 3) := by decide +kernel
theorem dX10_findPoints_163 : decode cX10_findPoints 163 = .ok (.goto (-71), 3) := by decide +kernel
theorem dX10_findPoints_166 : decode cX10_findPoints 166 = .ok (.iinc 6 1, 3) := by decide +kernel
theorem dX10_findPoints_169 : decode cX10_findPoints 169 = .ok (.goto (-132), 3) := by decide +kernel
theorem dX10_findPoints_172 : decode cX10_findPoints 172 = .ok (.return_, 1) := by decide +kernel
def rmX10_findPoints : Room := { frames := 6, cells := 0, slots := 0, locals := 158 }
set_option maxRecDepth 100000 in
def g_X10_findPoints_160 (th : Nat) (p1 : Int32) (p2 : Int32) (p3 : Int32) (p4 : Option Nat) (k92 : Int32 → Int32 → Int32 → MM → Option (Unit × MM)) (k166 : Int32 → Int32 → MM → Option (Unit × MM)) (x5 : Int32) (x6 : Int32) (x7 : Int32) (m : MM) : Option (Unit × MM) :=
  k92 x5 x6 (x7 + 1) m
set_option maxHeartbeats 4000000 in
set_option maxRecDepth 100000 in
theorem s_X10_findPoints_160 {Γ : GX} {E : EX} (C : Cx Γ E cX10_findPoints RX10 8) (hr : Γ.meth.sig.returnType = none) (hrm : Γ.rm = rmX10_findPoints) (th : Nat) (p1 : Int32) (p2 : Int32) (p3 : Int32) (p4 : Option Nat) (k92 : Int32 → Int32 → Int32 → MM → Option (Unit × MM)) (k166 : Int32 → Int32 → MM → Option (Unit × MM)) (h92 : ∀ (x5 : Int32) (x6 : Int32) (x7 : Int32) (m : MM), Sm (QM Γ E emV 0 0) Γ E 8 0 0 92 [(0, va_rf (some th)), (1, .int p1), (2, .int p2), (3, .int p3), (4, va_rf p4), (5, .int x5), (6, .int x6), (7, .int x7)] [] m (k92 x5 x6 x7 m)) (h166 : ∀ (x5 : Int32) (x6 : Int32) (m : MM), Sm (QM Γ E emV 0 0) Γ E 8 0 0 166 [(0, va_rf (some th)), (1, .int p1), (2, .int p2), (3, .int p3), (4, va_rf p4), (5, .int x5), (6, .int x6)] [] m (k166 x5 x6 m)) (x5 : Int32) (x6 : Int32) (x7 : Int32) (m : MM) : Sm (QM Γ E emV 0 0) Γ E 8 0 0 160 [(0, va_rf (some th)), (1, .int p1), (2, .int p2), (3, .int p3), (4, va_rf p4), (5, .int x5), (6, .int x6), (7, .int x7)] [] m (g_X10_findPoints_160 th p1 p2 p3 p4 k92 k166 x5 x6 x7 m) := by
  unfold g_X10_findPoints_160
  refine z_iinc (v := 1) (L2 := [(7, .int (x7 + 1)), (0, va_rf (some th)), (1, .int p1), (2, .int p2), (3, .int p3), (4, va_rf p4), (5, .int x5), (6, .int x6)]) C dX10_findPoints_160 7 rfl (by decide) (by decide) rfl ?_
  refine z_goto (tgt := 92) C dX10_findPoints_163 (by decide) ?_
  exact z_sub [1, 2, 3, 4, 5, 6, 7, 0] rfl (h92 x5 x6 (x7 + 1) m)
set_option maxRecDepth 100000 in
def g_X10_findPoints_159 (th : Nat) (p1 : Int32) (p2 : Int32) (p3 : Int32) (p4 : Option Nat) (k92 : Int32 → Int32 → Int32 → MM → Option (Unit × MM)) (k166 : Int32 → Int32 → MM → Option (Unit × MM)) (x5 : Int32) (x6 : Int32) (x7 : Int32) (s0 : Option Nat) (s1 : Int32) (s2 : Int32) (m : MM) : Option (Unit × MM) :=
  ck m s0 24 (fun a1 => chk (inb s1 (m.N a1) = true) (bnd (m.sI 24 a1 (Int32.toNatClampNeg s1) (s2 &&& 1)) (fun m1 => g_X10_findPoints_160 th p1 p2 p3 p4 k92 k166 x5 x6 x7 m1)))
set_option maxHeartbeats 4000000 in
set_option maxRecDepth 100000 in
theorem s_X10_findPoints_159 {Γ : GX} {E : EX} (C : Cx Γ E cX10_findPoints RX10 8) (hr : Γ.meth.sig.returnType = none) (hrm : Γ.rm = rmX10_findPoints) (th : Nat) (p1 : Int32) (p2 : Int32) (p3 : Int32) (p4 : Option Nat) (k92 : Int32 → Int32 → Int32 → MM → Option (Unit × MM)) (k166 : Int32 → Int32 → MM → Option (Unit × MM)) (h92 : ∀ (x5 : Int32) (x6 : Int32) (x7 : Int32) (m : MM), Sm (QM Γ E emV 0 0) Γ E 8 0 0 92 [(0, va_rf (some th)), (1, .int p1), (2, .int p2), (3, .int p3), (4, va_rf p4), (5, .int x5), (6, .int x6), (7, .int x7)] [] m (k92 x5 x6 x7 m)) (h166 : ∀ (x5 : Int32) (x6 : Int32) (m : MM), Sm (QM Γ E emV 0 0) Γ E 8 0 0 166 [(0, va_rf (some th)), (1, .int p1), (2, .int p2), (3, .int p3), (4, va_rf p4), (5, .int x5), (6, .int x6)] [] m (k166 x5 x6 m)) (x5 : Int32) (x6 : Int32) (x7 : Int32) (s0 : Option Nat) (s1 : Int32) (s2 : Int32) (m : MM) : Sm (QM Γ E emV 0 0) Γ E 8 0 0 159 [(0, va_rf (some th)), (1, .int p1), (2, .int p2), (3, .int p3), (4, va_rf p4), (5, .int x5), (6, .int x6), (7, .int x7)] [.int s2, .int s1, va_rf s0] m (g_X10_findPoints_159 th p1 p2 p3 p4 k92 k166 x5 x6 x7 s0 s1 s2 m) := by
  unfold g_X10_findPoints_159
  refine z_ck (fun a1 hr1 hk1 => ?_)
  refine z_chk (fun hj1 => ?_)
  refine z_zast C hr1 hk1 hj1 dX10_findPoints_159 (fun m1 eK1 eN1 => ?_)
  exact z_sub [0, 1, 2, 3, 4, 5, 6, 7] rfl (s_X10_findPoints_160 C hr hrm th p1 p2 p3 p4 k92 k166 h92 h166 x5 x6 x7 m1)
set_option maxRecDepth 100000 in
def g_X10_findPoints_158 (th : Nat) (p1 : Int32) (p2 : Int32) (p3 : Int32) (p4 : Option Nat) (k92 : Int32 → Int32 → Int32 → MM → Option (Unit × MM)) (k166 : Int32 → Int32 → MM → Option (Unit × MM)) (x5 : Int32) (x6 : Int32) (x7 : Int32) (s0 : Option Nat) (s1 : Int32) (m : MM) : Option (Unit × MM) :=
  g_X10_findPoints_159 th p1 p2 p3 p4 k92 k166 x5 x6 x7 s0 s1 0 m
set_option maxHeartbeats 4000000 in
set_option maxRecDepth 100000 in
theorem s_X10_findPoints_158 {Γ : GX} {E : EX} (C : Cx Γ E cX10_findPoints RX10 8) (hr : Γ.meth.sig.returnType = none) (hrm : Γ.rm = rmX10_findPoints) (th : Nat) (p1 : Int32) (p2 : Int32) (p3 : Int32) (p4 : Option Nat) (k92 : Int32 → Int32 → Int32 → MM → Option (Unit × MM)) (k166 : Int32 → Int32 → MM → Option (Unit × MM)) (h92 : ∀ (x5 : Int32) (x6 : Int32) (x7 : Int32) (m : MM), Sm (QM Γ E emV 0 0) Γ E 8 0 0 92 [(0, va_rf (some th)), (1, .int p1), (2, .int p2), (3, .int p3), (4, va_rf p4), (5, .int x5), (6, .int x6), (7, .int x7)] [] m (k92 x5 x6 x7 m)) (h166 : ∀ (x5 : Int32) (x6 : Int32) (m : MM), Sm (QM Γ E emV 0 0) Γ E 8 0 0 166 [(0, va_rf (some th)), (1, .int p1), (2, .int p2), (3, .int p3), (4, va_rf p4), (5, .int x5), (6, .int x6)] [] m (k166 x5 x6 m)) (x5 : Int32) (x6 : Int32) (x7 : Int32) (s0 : Option Nat) (s1 : Int32) (m : MM) : Sm (QM Γ E emV 0 0) Γ E 8 0 0 158 [(0, va_rf (some th)), (1, .int p1), (2, .int p2), (3, .int p3), (4, va_rf p4), (5, .int x5), (6, .int x6), (7, .int x7)] [.int s1, va_rf s0] m (g_X10_findPoints_158 th p1 p2 p3 p4 k92 k166 x5 x6 x7 s0 s1 m) := by
  unfold g_X10_findPoints_158
  refine z_iconst (v := 0) C dX10_findPoints_158 (by decide) ?_
  exact z_sub [0, 1, 2, 3, 4, 5, 6, 7] rfl (s_X10_findPoints_159 C hr hrm th p1 p2 p3 p4 k92 k166 h92 h166 x5 x6 x7 s0 s1 0 m)
set_option maxRecDepth 100000 in
def g_X10_findPoints_92 (th : Nat) (p1 : Int32) (p2 : Int32) (p3 : Int32) (p4 : Option Nat) (k92 : Int32 → Int32 → Int32 → MM → Option (Unit × MM)) (k166 : Int32 → Int32 → MM → Option (Unit × MM)) (x5 : Int32) (x6 : Int32) (x7 : Int32) (m : MM) : Option (Unit × MM) :=
  if 12 ≤ x7 then (k166 x5 x6 m) else (ck m p4 24 (fun a2 => chk (inb x6 (m.N a2) = true) (if (m.I 24 a2 (Int32.toNatClampNeg x6)) = 0 then (k166 x5 x6 m) else (if x7 = p2 then (g_X10_findPoints_160 th p1 p2 p3 p4 k92 k166 x5 x6 x7 m) else (if x7 = p3 then (g_X10_findPoints_160 th p1 p2 p3 p4 k92 k166 x5 x6 x7 m) else (chk (m.K th = 11) (cal (f_X10_stands th x7 m) (fun r1 m2 => if r1 = 0 then (g_X10_findPoints_160 th p1 p2 p3 p4 k92 k166 x5 x6 x7 m2) else (chk (m2.K th = 11) (cal (f_X10_apartBy th x7 p2 m2) (fun r2 m3 => if r2 ≤ 0 then (g_X10_findPoints_158 th p1 p2 p3 p4 k92 k166 x5 x6 x7 p4 x6 m3) else (chk (m3.K th = 11) (cal (f_X10_barsBoth th p1 x7 p2 (-1) m3) (fun r3 m4 => if r3 = 0 then (g_X10_findPoints_159 th p1 p2 p3 p4 k92 k166 x5 x6 x7 p4 x6 1 m4) else (g_X10_findPoints_158 th p1 p2 p3 p4 k92 k166 x5 x6 x7 p4 x6 m4)))))))))))))))
set_option maxHeartbeats 4000000 in
set_option maxRecDepth 100000 in
theorem s_X10_findPoints_92 {Γ : GX} {E : EX} (C : Cx Γ E cX10_findPoints RX10 8) (hr : Γ.meth.sig.returnType = none) (hrm : Γ.rm = rmX10_findPoints) (th : Nat) (p1 : Int32) (p2 : Int32) (p3 : Int32) (p4 : Option Nat) (k92 : Int32 → Int32 → Int32 → MM → Option (Unit × MM)) (k166 : Int32 → Int32 → MM → Option (Unit × MM)) (h92 : ∀ (x5 : Int32) (x6 : Int32) (x7 : Int32) (m : MM), Sm (QM Γ E emV 0 0) Γ E 8 0 0 92 [(0, va_rf (some th)), (1, .int p1), (2, .int p2), (3, .int p3), (4, va_rf p4), (5, .int x5), (6, .int x6), (7, .int x7)] [] m (k92 x5 x6 x7 m)) (h166 : ∀ (x5 : Int32) (x6 : Int32) (m : MM), Sm (QM Γ E emV 0 0) Γ E 8 0 0 166 [(0, va_rf (some th)), (1, .int p1), (2, .int p2), (3, .int p3), (4, va_rf p4), (5, .int x5), (6, .int x6)] [] m (k166 x5 x6 m)) (x5 : Int32) (x6 : Int32) (x7 : Int32) (m : MM) : Sm (QM Γ E emV 0 0) Γ E 8 0 0 92 [(0, va_rf (some th)), (1, .int p1), (2, .int p2), (3, .int p3), (4, va_rf p4), (5, .int x5), (6, .int x6), (7, .int x7)] [] m (g_X10_findPoints_92 th p1 p2 p3 p4 k92 k166 x5 x6 x7 m) := by
  unfold g_X10_findPoints_92
  refine z_iload C dX10_findPoints_92 7 rfl ?_
  refine z_bipush (v := 12) C dX10_findPoints_94 (by decide) ?_
  refine z_icmp_ge (tgt := 166) C dX10_findPoints_96 (by decide) (fun c1 => ?_) (fun c1 => ?_)
  · exact z_sub [0, 1, 2, 3, 4, 5, 6] rfl (h166 x5 x6 m)
  · refine z_aload C dX10_findPoints_99 4 rfl ?_
    refine z_iload C dX10_findPoints_101 6 rfl ?_
    refine z_ck (fun a2 hr2 hk2 => ?_)
    refine z_chk (fun hj2 => ?_)
    refine z_zald C hr2 hk2 hj2 dX10_findPoints_103 ?_
    refine z_if_eq (tgt := 166) C dX10_findPoints_104 (by decide) (fun c2 => ?_) (fun c2 => ?_)
    · exact z_sub [0, 1, 2, 3, 4, 5, 6] rfl (h166 x5 x6 m)
    · refine z_iload C dX10_findPoints_107 7 rfl ?_
      refine z_iload_n C dX10_findPoints_109 rfl 2 rfl ?_
      refine z_icmp_eq (tgt := 160) C dX10_findPoints_110 (by decide) (fun c3 => ?_) (fun c3 => ?_)
      · exact z_sub [0, 1, 2, 3, 4, 5, 6, 7] rfl (s_X10_findPoints_160 C hr hrm th p1 p2 p3 p4 k92 k166 h92 h166 x5 x6 x7 m)
      · refine z_iload C dX10_findPoints_113 7 rfl ?_
        refine z_iload_n C dX10_findPoints_115 rfl 3 rfl ?_
        refine z_icmp_eq (tgt := 160) C dX10_findPoints_116 (by decide) (fun c4 => ?_) (fun c4 => ?_)
        · exact z_sub [0, 1, 2, 3, 4, 5, 6, 7] rfl (s_X10_findPoints_160 C hr hrm th p1 p2 p3 p4 k92 k166 h92 h166 x5 x6 x7 m)
        · refine z_aload_n C dX10_findPoints_119 rfl 0 rfl ?_
          refine z_iload C dX10_findPoints_120 7 rfl ?_
          refine z_chk (fun hk3 => ?_)
          refine z_cVI [.int x7] [] C mv_RX10_446 (fun r0 m0 h0 => M_X10_stands _ _ _ _ _ _ _ h0) rfl rfl ⟨by rw [hrm]; exact Nat.le_of_ble_eq_true rfl, by rw [hrm]; exact Nat.le_of_ble_eq_true rfl⟩ ⟨by rw [hrm]; exact Nat.le_of_ble_eq_true rfl, by rw [hrm]; exact Nat.le_of_ble_eq_true rfl⟩ rfl hk3 rfl rfl rfl (Nat.le_of_ble_eq_true rfl) dX10_findPoints_122 (fun r1 m2 => ?_)
          refine z_if_eq (tgt := 160) C dX10_findPoints_125 (by decide) (fun c5 => ?_) (fun c5 => ?_)
          · exact z_sub [0, 1, 2, 3, 4, 5, 6, 7] rfl (s_X10_findPoints_160 C hr hrm th p1 p2 p3 p4 k92 k166 h92 h166 x5 x6 x7 m2)
          · refine z_aload C dX10_findPoints_128 4 rfl ?_
            refine z_iload C dX10_findPoints_130 6 rfl ?_
            refine z_aload_n C dX10_findPoints_132 rfl 0 rfl ?_
            refine z_iload C dX10_findPoints_133 7 rfl ?_
            refine z_iload_n C dX10_findPoints_135 rfl 2 rfl ?_
            refine z_chk (fun hk4 => ?_)
            refine z_cVI [.int x7, .int p2] [.int x6, va_rf p4] C mv_RX10_396 (fun r0 m0 h0 => M_X10_apartBy _ _ _ _ _ _ _ _ h0) rfl rfl ⟨by rw [hrm]; exact Nat.le_of_ble_eq_true rfl, by rw [hrm]; exact Nat.le_of_ble_eq_true rfl⟩ ⟨by rw [hrm]; exact Nat.le_of_ble_eq_true rfl, by rw [hrm]; exact Nat.le_of_ble_eq_true rfl⟩ rfl hk4 rfl rfl rfl (by simp [cat_rf, cat_i, cat_l, cat_a]) dX10_findPoints_136 (fun r2 m3 => ?_)
            refine z_if_le (tgt := 158) C dX10_findPoints_139 (by decide) (fun c6 => ?_) (fun c6 => ?_)
            · exact z_sub [0, 1, 2, 3, 4, 5, 6, 7] rfl (s_X10_findPoints_158 C hr hrm th p1 p2 p3 p4 k92 k166 h92 h166 x5 x6 x7 p4 x6 m3)
            · refine z_aload_n C dX10_findPoints_142 rfl 0 rfl ?_
              refine z_iload_n C dX10_findPoints_143 rfl 1 rfl ?_
              refine z_iload C dX10_findPoints_144 7 rfl ?_
              refine z_iload_n C dX10_findPoints_146 rfl 2 rfl ?_
              refine z_iconst (v := (-1)) C dX10_findPoints_147 (by decide) ?_
              refine z_chk (fun hk5 => ?_)
              refine z_cVI [.int p1, .int x7, .int p2, .int (-1)] [.int x6, va_rf p4] C mv_RX10_470 (fun r0 m0 h0 => M_X10_barsBoth _ _ _ _ _ _ _ _ _ _ h0) rfl rfl ⟨by rw [hrm]; exact Nat.le_of_ble_eq_true rfl, by rw [hrm]; exact Nat.le_of_ble_eq_true rfl⟩ ⟨by rw [hrm]; exact Nat.le_of_ble_eq_true rfl, by rw [hrm]; exact Nat.le_of_ble_eq_true rfl⟩ rfl hk5 rfl rfl rfl (by simp [cat_rf, cat_i, cat_l, cat_a]) dX10_findPoints_148 (fun r3 m4 => ?_)
              refine z_if_ne (tgt := 158) C dX10_findPoints_151 (by decide) (fun c7 => ?_) (fun c7 => ?_)
              · exact z_sub [0, 1, 2, 3, 4, 5, 6, 7] rfl (s_X10_findPoints_158 C hr hrm th p1 p2 p3 p4 k92 k166 h92 h166 x5 x6 x7 p4 x6 m4)
              · refine z_iconst (v := 1) C dX10_findPoints_154 (by decide) ?_
                refine z_goto (tgt := 159) C dX10_findPoints_155 (by decide) ?_
                exact z_sub [0, 1, 2, 3, 4, 5, 6, 7] rfl (s_X10_findPoints_159 C hr hrm th p1 p2 p3 p4 k92 k166 h92 h166 x5 x6 x7 p4 x6 1 m4)
def l_X10_findPoints_92 (th : Nat) (p1 : Int32) (p2 : Int32) (p3 : Int32) (p4 : Option Nat) (k166 : Int32 → Int32 → MM → Option (Unit × MM)) : Nat → Int32 → Int32 → Int32 → MM → Option (Unit × MM) := lp (fun _ _ _ _ => none) (fun k92 => g_X10_findPoints_92 th p1 p2 p3 p4 k92 k166)
theorem t_X10_findPoints_92 {Γ : GX} {E : EX} (C : Cx Γ E cX10_findPoints RX10 8) (hr : Γ.meth.sig.returnType = none) (hrm : Γ.rm = rmX10_findPoints) (th : Nat) (p1 : Int32) (p2 : Int32) (p3 : Int32) (p4 : Option Nat) (k166 : Int32 → Int32 → MM → Option (Unit × MM)) (h166 : ∀ (x5 : Int32) (x6 : Int32) (m : MM), Sm (QM Γ E emV 0 0) Γ E 8 0 0 166 [(0, va_rf (some th)), (1, .int p1), (2, .int p2), (3, .int p3), (4, va_rf p4), (5, .int x5), (6, .int x6)] [] m (k166 x5 x6 m)) : ∀ (n : Nat) (x5 : Int32) (x6 : Int32) (x7 : Int32) (m : MM), Sm (QM Γ E emV 0 0) Γ E 8 0 0 92 [(0, va_rf (some th)), (1, .int p1), (2, .int p2), (3, .int p3), (4, va_rf p4), (5, .int x5), (6, .int x6), (7, .int x7)] [] m (l_X10_findPoints_92 th p1 p2 p3 p4 k166 n x5 x6 x7 m) := by
  intro n
  induction n with
  | zero => intros; exact z_none
  | succ n ih => intro x5 x6 x7 m; exact s_X10_findPoints_92 C hr hrm th p1 p2 p3 p4 (l_X10_findPoints_92 th p1 p2 p3 p4 k166 n) k166 ih h166 x5 x6 x7 m
set_option maxRecDepth 100000 in
def g_X10_findPoints_166 (th : Nat) (p1 : Int32) (p2 : Int32) (p3 : Int32) (p4 : Option Nat) (k37 : Int32 → Int32 → MM → Option (Unit × MM)) (x5 : Int32) (x6 : Int32) (m : MM) : Option (Unit × MM) :=
  k37 x5 (x6 + 1) m
set_option maxHeartbeats 4000000 in
set_option maxRecDepth 100000 in
theorem s_X10_findPoints_166 {Γ : GX} {E : EX} (C : Cx Γ E cX10_findPoints RX10 8) (hr : Γ.meth.sig.returnType = none) (hrm : Γ.rm = rmX10_findPoints) (th : Nat) (p1 : Int32) (p2 : Int32) (p3 : Int32) (p4 : Option Nat) (k37 : Int32 → Int32 → MM → Option (Unit × MM)) (h37 : ∀ (x5 : Int32) (x6 : Int32) (m : MM), Sm (QM Γ E emV 0 0) Γ E 8 0 0 37 [(0, va_rf (some th)), (1, .int p1), (2, .int p2), (3, .int p3), (4, va_rf p4), (5, .int x5), (6, .int x6)] [] m (k37 x5 x6 m)) (x5 : Int32) (x6 : Int32) (m : MM) : Sm (QM Γ E emV 0 0) Γ E 8 0 0 166 [(0, va_rf (some th)), (1, .int p1), (2, .int p2), (3, .int p3), (4, va_rf p4), (5, .int x5), (6, .int x6)] [] m (g_X10_findPoints_166 th p1 p2 p3 p4 k37 x5 x6 m) := by
  unfold g_X10_findPoints_166
  refine z_iinc (v := 1) (L2 := [(6, .int (x6 + 1)), (0, va_rf (some th)), (1, .int p1), (2, .int p2), (3, .int p3), (4, va_rf p4), (5, .int x5)]) C dX10_findPoints_166 6 rfl (by decide) (by decide) rfl ?_
  refine z_goto (tgt := 37) C dX10_findPoints_169 (by decide) ?_
  exact z_sub [1, 2, 3, 4, 5, 6, 0] rfl (h37 x5 (x6 + 1) m)
set_option maxRecDepth 100000 in
def g_X10_findPoints_81 (th : Nat) (p1 : Int32) (p2 : Int32) (p3 : Int32) (p4 : Option Nat) (k37 : Int32 → Int32 → MM → Option (Unit × MM)) (x5 : Int32) (x6 : Int32) (s0 : Option Nat) (s1 : Int32) (s2 : Int32) (m : MM) : Option (Unit × MM) :=
  ck m s0 24 (fun a3 => chk (inb s1 (m.N a3) = true) (bnd (m.sI 24 a3 (Int32.toNatClampNeg s1) (s2 &&& 1)) (fun m5 => chk (m5.K th = 11) (cal (f_X10_put th p2 x6 m5) (fun r4 m6 => l_X10_findPoints_92 th p1 p2 p3 p4 (g_X10_findPoints_166 th p1 p2 p3 p4 k37) FU x5 x6 0 m6)))))
set_option maxHeartbeats 4000000 in
set_option maxRecDepth 100000 in
theorem s_X10_findPoints_81 {Γ : GX} {E : EX} (C : Cx Γ E cX10_findPoints RX10 8) (hr : Γ.meth.sig.returnType = none) (hrm : Γ.rm = rmX10_findPoints) (th : Nat) (p1 : Int32) (p2 : Int32) (p3 : Int32) (p4 : Option Nat) (k37 : Int32 → Int32 → MM → Option (Unit × MM)) (h37 : ∀ (x5 : Int32) (x6 : Int32) (m : MM), Sm (QM Γ E emV 0 0) Γ E 8 0 0 37 [(0, va_rf (some th)), (1, .int p1), (2, .int p2), (3, .int p3), (4, va_rf p4), (5, .int x5), (6, .int x6)] [] m (k37 x5 x6 m)) (x5 : Int32) (x6 : Int32) (s0 : Option Nat) (s1 : Int32) (s2 : Int32) (m : MM) : Sm (QM Γ E emV 0 0) Γ E 8 0 0 81 [(0, va_rf (some th)), (1, .int p1), (2, .int p2), (3, .int p3), (4, va_rf p4), (5, .int x5), (6, .int x6)] [.int s2, .int s1, va_rf s0] m (g_X10_findPoints_81 th p1 p2 p3 p4 k37 x5 x6 s0 s1 s2 m) := by
  unfold g_X10_findPoints_81
  refine z_ck (fun a3 hr3 hk6 => ?_)
  refine z_chk (fun hj3 => ?_)
  refine z_zast C hr3 hk6 hj3 dX10_findPoints_81 (fun m5 eK2 eN2 => ?_)
  refine z_aload_n C dX10_findPoints_82 rfl 0 rfl ?_
  refine z_iload_n C dX10_findPoints_83 rfl 2 rfl ?_
  refine z_iload C dX10_findPoints_84 6 rfl ?_
  refine z_chk (fun hk7 => ?_)
  refine z_cVV [.int p2, .int x6] [] C mv_RX10_510 (fun r0 m0 h0 => M_X10_put _ _ _ _ _ _ _ _ h0) rfl rfl ⟨by rw [hrm]; exact Nat.le_of_ble_eq_true rfl, by rw [hrm]; exact Nat.le_of_ble_eq_true rfl⟩ ⟨by rw [hrm]; exact Nat.le_of_ble_eq_true rfl, by rw [hrm]; exact Nat.le_of_ble_eq_true rfl⟩ rfl hk7 rfl rfl rfl (Nat.le_of_ble_eq_true rfl) dX10_findPoints_86 (fun r4 m6 => ?_)
  refine z_iconst (v := 0) C dX10_findPoints_89 (by decide) ?_
  refine z_istore (i := 7) (L2 := [(7, .int 0), (0, va_rf (some th)), (1, .int p1), (2, .int p2), (3, .int p3), (4, va_rf p4), (5, .int x5), (6, .int x6)]) C dX10_findPoints_90 (by decide) rfl ?_
  exact z_sub [1, 2, 3, 4, 5, 6, 7, 0] rfl (t_X10_findPoints_92 C hr hrm th p1 p2 p3 p4 (g_X10_findPoints_166 th p1 p2 p3 p4 k37) (s_X10_findPoints_166 C hr hrm th p1 p2 p3 p4 k37 h37) FU x5 x6 0 m6)
set_option maxRecDepth 100000 in
def g_X10_findPoints_80 (th : Nat) (p1 : Int32) (p2 : Int32) (p3 : Int32) (p4 : Option Nat) (k37 : Int32 → Int32 → MM → Option (Unit × MM)) (x5 : Int32) (x6 : Int32) (s0 : Option Nat) (s1 : Int32) (m : MM) : Option (Unit × MM) :=
  g_X10_findPoints_81 th p1 p2 p3 p4 k37 x5 x6 s0 s1 0 m
set_option maxHeartbeats 4000000 in
set_option maxRecDepth 100000 in
theorem s_X10_findPoints_80 {Γ : GX} {E : EX} (C : Cx Γ E cX10_findPoints RX10 8) (hr : Γ.meth.sig.returnType = none) (hrm : Γ.rm = rmX10_findPoints) (th : Nat) (p1 : Int32) (p2 : Int32) (p3 : Int32) (p4 : Option Nat) (k37 : Int32 → Int32 → MM → Option (Unit × MM)) (h37 : ∀ (x5 : Int32) (x6 : Int32) (m : MM), Sm (QM Γ E emV 0 0) Γ E 8 0 0 37 [(0, va_rf (some th)), (1, .int p1), (2, .int p2), (3, .int p3), (4, va_rf p4), (5, .int x5), (6, .int x6)] [] m (k37 x5 x6 m)) (x5 : Int32) (x6 : Int32) (s0 : Option Nat) (s1 : Int32) (m : MM) : Sm (QM Γ E emV 0 0) Γ E 8 0 0 80 [(0, va_rf (some th)), (1, .int p1), (2, .int p2), (3, .int p3), (4, va_rf p4), (5, .int x5), (6, .int x6)] [.int s1, va_rf s0] m (g_X10_findPoints_80 th p1 p2 p3 p4 k37 x5 x6 s0 s1 m) := by
  unfold g_X10_findPoints_80
  refine z_iconst (v := 0) C dX10_findPoints_80 (by decide) ?_
  exact z_sub [0, 1, 2, 3, 4, 5, 6] rfl (s_X10_findPoints_81 C hr hrm th p1 p2 p3 p4 k37 h37 x5 x6 s0 s1 0 m)
set_option maxRecDepth 100000 in
def g_X10_findPoints_37 (th : Nat) (p1 : Int32) (p2 : Int32) (p3 : Int32) (p4 : Option Nat) (k37 : Int32 → Int32 → MM → Option (Unit × MM)) (x5 : Int32) (x6 : Int32) (m : MM) : Option (Unit × MM) :=
  if 64 ≤ x6 then (some ((), m)) else (if x6 = x5 then (g_X10_findPoints_80 th p1 p2 p3 p4 k37 x5 x6 p4 x6 m) else (chk (m.K th = 11) (cal (f_X10_isPoint th (m.I 1166 th 0) (x6 - x6 / 8 * 8) (x6 / 8) m) (fun r5 m7 => if r5 = 0 then (g_X10_findPoints_80 th p1 p2 p3 p4 k37 x5 x6 p4 x6 m7) else (g_X10_findPoints_81 th p1 p2 p3 p4 k37 x5 x6 p4 x6 1 m7)))))
set_option maxHeartbeats 4000000 in
set_option maxRecDepth 100000 in
theorem s_X10_findPoints_37 {Γ : GX} {E : EX} (C : Cx Γ E cX10_findPoints RX10 8) (hr : Γ.meth.sig.returnType = none) (hrm : Γ.rm = rmX10_findPoints) (th : Nat) (p1 : Int32) (p2 : Int32) (p3 : Int32) (p4 : Option Nat) (k37 : Int32 → Int32 → MM → Option (Unit × MM)) (h37 : ∀ (x5 : Int32) (x6 : Int32) (m : MM), Sm (QM Γ E emV 0 0) Γ E 8 0 0 37 [(0, va_rf (some th)), (1, .int p1), (2, .int p2), (3, .int p3), (4, va_rf p4), (5, .int x5), (6, .int x6)] [] m (k37 x5 x6 m)) (x5 : Int32) (x6 : Int32) (m : MM) : Sm (QM Γ E emV 0 0) Γ E 8 0 0 37 [(0, va_rf (some th)), (1, .int p1), (2, .int p2), (3, .int p3), (4, va_rf p4), (5, .int x5), (6, .int x6)] [] m (g_X10_findPoints_37 th p1 p2 p3 p4 k37 x5 x6 m) := by
  unfold g_X10_findPoints_37
  refine z_iload C dX10_findPoints_37 6 rfl ?_
  refine z_bipush (v := 64) C dX10_findPoints_39 (by decide) ?_
  refine z_icmp_ge (tgt := 172) C dX10_findPoints_41 (by decide) (fun c8 => ?_) (fun c8 => ?_)
  · exact z_vret C hr dX10_findPoints_172
  · refine z_aload C dX10_findPoints_44 4 rfl ?_
    refine z_iload C dX10_findPoints_46 6 rfl ?_
    refine z_iload C dX10_findPoints_48 6 rfl ?_
    refine z_iload C dX10_findPoints_50 5 rfl ?_
    refine z_icmp_eq (tgt := 80) C dX10_findPoints_52 (by decide) (fun c9 => ?_) (fun c9 => ?_)
    · exact z_sub [0, 1, 2, 3, 4, 5, 6] rfl (s_X10_findPoints_80 C hr hrm th p1 p2 p3 p4 k37 h37 x5 x6 p4 x6 m)
    · refine z_aload_n C dX10_findPoints_55 rfl 0 rfl ?_
      refine z_aload_n C dX10_findPoints_56 rfl 0 rfl ?_
      refine z_chk (fun hk8 => ?_)
      refine z_getI C fl_RX10_375 rfl hk8 dX10_findPoints_57 ?_
      refine z_iload C dX10_findPoints_60 6 rfl ?_
      refine z_bipush (v := 8) C dX10_findPoints_62 (by decide) ?_
      refine z_irem C (by decide) dX10_findPoints_64 ?_
      refine z_iload C dX10_findPoints_65 6 rfl ?_
      refine z_bipush (v := 8) C dX10_findPoints_67 (by decide) ?_
      refine z_idiv C (by decide) dX10_findPoints_69 ?_
      refine z_cVI [.int (m.I 1166 th 0), .int (x6 - x6 / 8 * 8), .int (x6 / 8)] [.int x6, va_rf p4] C mv_RX10_369 (fun r0 m0 h0 => M_X10_isPoint _ _ _ _ _ _ _ _ _ h0) rfl rfl ⟨by rw [hrm]; exact Nat.le_of_ble_eq_true rfl, by rw [hrm]; exact Nat.le_of_ble_eq_true rfl⟩ ⟨by rw [hrm]; exact Nat.le_of_ble_eq_true rfl, by rw [hrm]; exact Nat.le_of_ble_eq_true rfl⟩ rfl hk8 rfl rfl rfl (by simp [cat_rf, cat_i, cat_l, cat_a]) dX10_findPoints_70 (fun r5 m7 => ?_)
      refine z_if_eq (tgt := 80) C dX10_findPoints_73 (by decide) (fun c10 => ?_) (fun c10 => ?_)
      · exact z_sub [0, 1, 2, 3, 4, 5, 6] rfl (s_X10_findPoints_80 C hr hrm th p1 p2 p3 p4 k37 h37 x5 x6 p4 x6 m7)
      · refine z_iconst (v := 1) C dX10_findPoints_76 (by decide) ?_
        refine z_goto (tgt := 81) C dX10_findPoints_77 (by decide) ?_
        exact z_sub [0, 1, 2, 3, 4, 5, 6] rfl (s_X10_findPoints_81 C hr hrm th p1 p2 p3 p4 k37 h37 x5 x6 p4 x6 1 m7)
def l_X10_findPoints_37 (th : Nat) (p1 : Int32) (p2 : Int32) (p3 : Int32) (p4 : Option Nat) : Nat → Int32 → Int32 → MM → Option (Unit × MM) := lp (fun _ _ _ => none) (fun k37 => g_X10_findPoints_37 th p1 p2 p3 p4 k37)
theorem t_X10_findPoints_37 {Γ : GX} {E : EX} (C : Cx Γ E cX10_findPoints RX10 8) (hr : Γ.meth.sig.returnType = none) (hrm : Γ.rm = rmX10_findPoints) (th : Nat) (p1 : Int32) (p2 : Int32) (p3 : Int32) (p4 : Option Nat) : ∀ (n : Nat) (x5 : Int32) (x6 : Int32) (m : MM), Sm (QM Γ E emV 0 0) Γ E 8 0 0 37 [(0, va_rf (some th)), (1, .int p1), (2, .int p2), (3, .int p3), (4, va_rf p4), (5, .int x5), (6, .int x6)] [] m (l_X10_findPoints_37 th p1 p2 p3 p4 n x5 x6 m) := by
  intro n
  induction n with
  | zero => intros; exact z_none
  | succ n ih => intro x5 x6 m; exact s_X10_findPoints_37 C hr hrm th p1 p2 p3 p4 (l_X10_findPoints_37 th p1 p2 p3 p4 n) ih x5 x6 m
set_option maxRecDepth 100000 in
def g_X10_findPoints_0 (th : Nat) (p1 : Int32) (p2 : Int32) (p3 : Int32) (p4 : Option Nat) (m : MM) : Option (Unit × MM) :=
  chk (m.K th = 11) (ck m (m.R 1108 th 0) 22 (fun a4 => chk (inb ((12 * (m.I 1166 th 0)) + p2) (m.N a4) = true) (ck m (m.R 1109 th 0) 22 (fun a5 => chk (inb ((12 * (m.I 1166 th 0)) + p2) (m.N a5) = true) (bnd ((m.I 22 a4 (Int32.toNatClampNeg ((12 * (m.I 1166 th 0)) + p2))) + (8 * (m.I 22 a5 (Int32.toNatClampNeg ((12 * (m.I 1166 th 0)) + p2))))) (fun y1 => l_X10_findPoints_37 th p1 p2 p3 p4 FU y1 0 m))))))
set_option maxHeartbeats 4000000 in
set_option maxRecDepth 100000 in
theorem s_X10_findPoints_0 {Γ : GX} {E : EX} (C : Cx Γ E cX10_findPoints RX10 8) (hr : Γ.meth.sig.returnType = none) (hrm : Γ.rm = rmX10_findPoints) (th : Nat) (p1 : Int32) (p2 : Int32) (p3 : Int32) (p4 : Option Nat) (m : MM) : Sm (QM Γ E emV 0 0) Γ E 8 0 0 0 [(0, va_rf (some th)), (1, .int p1), (2, .int p2), (3, .int p3), (4, va_rf p4)] [] m (g_X10_findPoints_0 th p1 p2 p3 p4 m) := by
  unfold g_X10_findPoints_0
  refine z_aload_n C dX10_findPoints_0 rfl 0 rfl ?_
  refine z_chk (fun hk9 => ?_)
  refine z_getR C fl_RX10_32 rfl hk9 dX10_findPoints_1 ?_
  refine z_bipush (v := 12) C dX10_findPoints_4 (by decide) ?_
  refine z_aload_n C dX10_findPoints_6 rfl 0 rfl ?_
  refine z_getI C fl_RX10_375 rfl hk9 dX10_findPoints_7 ?_
  refine z_imul C dX10_findPoints_10 ?_
  refine z_iload_n C dX10_findPoints_11 rfl 2 rfl ?_
  refine z_iadd C dX10_findPoints_12 ?_
  refine z_ck (fun a4 hr4 hk10 => ?_)
  refine z_chk (fun hj4 => ?_)
  refine z_iald C hr4 hk10 hj4 dX10_findPoints_13 ?_
  refine z_bipush (v := 8) C dX10_findPoints_14 (by decide) ?_
  refine z_aload_n C dX10_findPoints_16 rfl 0 rfl ?_
  refine z_getR C fl_RX10_35 rfl hk9 dX10_findPoints_17 ?_
  refine z_bipush (v := 12) C dX10_findPoints_20 (by decide) ?_
  refine z_aload_n C dX10_findPoints_22 rfl 0 rfl ?_
  refine z_getI C fl_RX10_375 rfl hk9 dX10_findPoints_23 ?_
  refine z_imul C dX10_findPoints_26 ?_
  refine z_iload_n C dX10_findPoints_27 rfl 2 rfl ?_
  refine z_iadd C dX10_findPoints_28 ?_
  refine z_ck (fun a5 hr5 hk11 => ?_)
  refine z_chk (fun hj5 => ?_)
  refine z_iald C hr5 hk11 hj5 dX10_findPoints_29 ?_
  refine z_imul C dX10_findPoints_30 ?_
  refine z_iadd C dX10_findPoints_31 ?_
  refine z_bndI (fun y1 => ?_)
  refine z_istore (i := 5) (L2 := [(5, .int y1), (0, va_rf (some th)), (1, .int p1), (2, .int p2), (3, .int p3), (4, va_rf p4)]) C dX10_findPoints_32 (by decide) (by simp [cat_rf, cat_i, cat_l, cat_a]) ?_
  refine z_iconst (v := 0) C dX10_findPoints_34 (by decide) ?_
  refine z_istore (i := 6) (L2 := [(6, .int 0), (5, .int y1), (0, va_rf (some th)), (1, .int p1), (2, .int p2), (3, .int p3), (4, va_rf p4)]) C dX10_findPoints_35 (by decide) rfl ?_
  exact z_sub [2, 3, 4, 5, 6, 1, 0] rfl (t_X10_findPoints_37 C hr hrm th p1 p2 p3 p4 FU y1 0 m)
def f_X10_findPoints (th : Nat) (p1 : Int32) (p2 : Int32) (p3 : Int32) (p4 : Option Nat) (m : MM) : Option (Unit × MM) := g_X10_findPoints_0 th p1 p2 p3 p4 m
theorem M_X10_findPoints (l : Launch) (E : EX) (th : Nat) (p1 : Int32) (p2 : Int32) (p3 : Int32) (p4 : Option Nat) (m : MM) (r : Unit) (m2 : MM) (h : f_X10_findPoints th p1 p2 p3 p4 m = some (r, m2)) : Met l yX10_findPoints (.code yX10_findPoints cX10_findPoints 8 none :: TB) rmX10_findPoints (va_Pc [.ref th, .int p1, .int p2, .int p3, va_rf p4] (St E m)) (QR E (emV r) m2) 0 0 (AA E) :=
  met_of (em := emV) (plainFor_of_name rfl) (by simp [lg_sl, cat_rf, cat_i, cat_l, cat_a]) (L0 := [(0, va_rf (some th)), (1, .int p1), (2, .int p2), (3, .int p3), (4, va_rf p4)]) (by simp [lv_args, cat_rf, cat_i, cat_l, cat_a] <;> rfl) (fun Γ _ hrm C hr hn => s_X10_findPoints_0 C hr hrm th p1 p2 p3 p4 m) h

theorem dX10_putBack_0 : decode cX10_putBack 0 = .ok (.aload_n 0, 1) := by decide +kernel
theorem dX10_putBack_1 : decode cX10_putBack 1 = .ok (.getfield 146, 3) := by decide +kernel
theorem dX10_putBack_4 : decode cX10_putBack 4 = .ok (.iload_n 1, 1) := by decide +kernel
theorem dX10_putBack_5 : decode cX10_putBack 5 = .ok (.aload_n 0, 1) := by decide +kernel
theorem dX10_putBack_6 : decode cX10_putBack 6 = .ok (.getfield 32, 3) := by decide +kernel
theorem dX10_putBack_9 : decode cX10_putBack 9 = .ok (.bipush 12, 2) := by decide +kernel
theorem dX10_putBack_11 : decode cX10_putBack 11 = .ok (.aload_n 0, 1) := by decide +kernel
theorem dX10_putBack_12 : decode cX10_putBack 12 = .ok (.getfield 375, 3) := by decide +kernel
theorem dX10_putBack_15 : decode cX10_putBack 15 = .ok (.imul, 1) := by decide +kernel
theorem dX10_putBack_16 : decode cX10_putBack 16 = .ok (.iload_n 1, 1) := by decide +kernel
theorem dX10_putBack_17 : decode cX10_putBack 17 = .ok (.iadd, 1) := by decide +kernel
theorem dX10_putBack_18 : decode cX10_putBack 18 = .ok (.iaload, 1) := by decide +kernel
theorem dX10_putBack_19 : decode cX10_putBack 19 = .ok (.iastore, 1) := by decide +kernel
theorem dX10_putBack_20 : decode cX10_putBack 20 = .ok (.aload_n 0, 1) := by decide +kernel
theorem dX10_putBack_21 : decode cX10_putBack 21 = .ok (.getfield 149, 3) := by decide +kernel
theorem dX10_putBack_24 : decode cX10_putBack 24 = .ok (.iload_n 1, 1) := by decide +kernel
theorem dX10_putBack_25 : decode cX10_putBack 25 = .ok (.aload_n 0, 1) := by decide +kernel
theorem dX10_putBack_26 : decode cX10_putBack 26 = .ok (.getfield 35, 3) := by decide +kernel
theorem dX10_putBack_29 : decode cX10_putBack 29 = .ok (.bipush 12, 2) := by decide +kernel
theorem dX10_putBack_31 : decode cX10_putBack 31 = .ok (.aload_n 0, 1) := by decide +kernel
theorem dX10_putBack_32 : decode cX10_putBack 32 = .ok (.getfield 375, 3) := by decide +kernel
theorem dX10_putBack_35 : decode cX10_putBack 35 = .ok (.imul, 1) := by decide +kernel
theorem dX10_putBack_36 : decode cX10_putBack 36 = .ok (.iload_n 1, 1) := by decide +kernel
theorem dX10_putBack_37 : decode cX10_putBack 37 = .ok (.iadd, 1) := by decide +kernel
theorem dX10_putBack_38 : decode cX10_putBack 38 = .ok (.iaload, 1) := by decide +kernel
theorem dX10_putBack_39 : decode cX10_putBack 39 = .ok (.iastore, 1) := by decide +kernel
theorem dX10_putBack_40 : decode cX10_putBack 40 = .ok (.aload_n 0, 1) := by decide +kernel
theorem dX10_putBack_41 : decode cX10_putBack 41 = .ok (.getfield 155, 3) := by decide +kernel
theorem dX10_putBack_44 : decode cX10_putBack 44 = .ok (.iload_n 1, 1) := by decide +kernel
theorem dX10_putBack_45 : decode cX10_putBack 45 = .ok (.aload_n 0, 1) := by decide +kernel
theorem dX10_putBack_46 : decode cX10_putBack 46 = .ok (.getfield 41, 3) := by decide +kernel
theorem dX10_putBack_49 : decode cX10_putBack 49 = .ok (.bipush 12, 2) := by decide +kernel
theorem dX10_putBack_51 : decode cX10_putBack 51 = .ok (.aload_n 0, 1) := by decide +kernel
theorem dX10_putBack_52 : decode cX10_putBack 52 = .ok (.getfield 375, 3) := by decide +kernel
theorem dX10_putBack_55 : decode cX10_putBack 55 = .ok (.imul, 1) := by decide +kernel
theorem dX10_putBack_56 : decode cX10_putBack 56 = .ok (.iload_n 1, 1) := by decide +kernel
theorem dX10_putBack_57 : decode cX10_putBack 57 = .ok (.iadd, 1) := by decide +kernel
theorem dX10_putBack_58 : decode cX10_putBack 58 = .ok (.iaload, 1) := by decide +kernel
theorem dX10_putBack_59 : decode cX10_putBack 59 = .ok (.iastore, 1) := by decide +kernel
theorem dX10_putBack_60 : decode cX10_putBack 60 = .ok (.return_, 1) := by decide +kernel
def rmX10_putBack : Room := { frames := 0, cells := 0, slots := 0, locals := 0 }
set_option maxRecDepth 100000 in
def g_X10_putBack_0 (th : Nat) (p1 : Int32) (m : MM) : Option (Unit × MM) :=
  chk (m.K th = 11) (ck m (m.R 1108 th 0) 22 (fun a1 => chk (inb ((12 * (m.I 1166 th 0)) + p1) (m.N a1) = true) (ck m (m.R 1161 th 0) 22 (fun a2 => chk (inb p1 (m.N a2) = true) (bnd (m.sI 22 a2 (Int32.toNatClampNeg p1) (m.I 22 a1 (Int32.toNatClampNeg ((12 * (m.I 1166 th 0)) + p1)))) (fun m1 => ck m1 (m1.R 1109 th 0) 22 (fun a3 => chk (inb ((12 * (m1.I 1166 th 0)) + p1) (m1.N a3) = true) (ck m1 (m1.R 1162 th 0) 22 (fun a4 => chk (inb p1 (m1.N a4) = true) (bnd (m1.sI 22 a4 (Int32.toNatClampNeg p1) (m1.I 22 a3 (Int32.toNatClampNeg ((12 * (m1.I 1166 th 0)) + p1)))) (fun m2 => ck m2 (m2.R 1111 th 0) 22 (fun a5 => chk (inb ((12 * (m2.I 1166 th 0)) + p1) (m2.N a5) = true) (ck m2 (m2.R 1164 th 0) 22 (fun a6 => chk (inb p1 (m2.N a6) = true) (bnd (m2.sI 22 a6 (Int32.toNatClampNeg p1) (m2.I 22 a5 (Int32.toNatClampNeg ((12 * (m2.I 1166 th 0)) + p1)))) (fun m3 => some ((), m3)))))))))))))))))
set_option maxHeartbeats 4000000 in
set_option maxRecDepth 100000 in
theorem s_X10_putBack_0 {Γ : GX} {E : EX} (C : Cx Γ E cX10_putBack RX10 2) (hr : Γ.meth.sig.returnType = none) (hrm : Γ.rm = rmX10_putBack) (th : Nat) (p1 : Int32) (m : MM) : Sm (QM Γ E emV 0 0) Γ E 2 0 0 0 [(0, va_rf (some th)), (1, .int p1)] [] m (g_X10_putBack_0 th p1 m) := by
  unfold g_X10_putBack_0
  refine z_aload_n C dX10_putBack_0 rfl 0 rfl ?_
  refine z_chk (fun hk1 => ?_)
  refine z_getR C fl_RX10_146 rfl hk1 dX10_putBack_1 ?_
  refine z_iload_n C dX10_putBack_4 rfl 1 rfl ?_
  refine z_aload_n C dX10_putBack_5 rfl 0 rfl ?_
  refine z_getR C fl_RX10_32 rfl hk1 dX10_putBack_6 ?_
  refine z_bipush (v := 12) C dX10_putBack_9 (by decide) ?_
  refine z_aload_n C dX10_putBack_11 rfl 0 rfl ?_
  refine z_getI C fl_RX10_375 rfl hk1 dX10_putBack_12 ?_
  refine z_imul C dX10_putBack_15 ?_
  refine z_iload_n C dX10_putBack_16 rfl 1 rfl ?_
  refine z_iadd C dX10_putBack_17 ?_
  refine z_ck (fun a1 hr1 hk2 => ?_)
  refine z_chk (fun hj1 => ?_)
  refine z_iald C hr1 hk2 hj1 dX10_putBack_18 ?_
  refine z_ck (fun a2 hr2 hk3 => ?_)
  refine z_chk (fun hj2 => ?_)
  refine z_iast C hr2 hk3 hj2 dX10_putBack_19 (fun m1 eK1 eN1 => ?_)
  refine z_aload_n C dX10_putBack_20 rfl 0 rfl ?_
  refine z_getR C fl_RX10_149 rfl (kfw eK1 hk1) dX10_putBack_21 ?_
  refine z_iload_n C dX10_putBack_24 rfl 1 rfl ?_
  refine z_aload_n C dX10_putBack_25 rfl 0 rfl ?_
  refine z_getR C fl_RX10_35 rfl (kfw eK1 hk1) dX10_putBack_26 ?_
  refine z_bipush (v := 12) C dX10_putBack_29 (by decide) ?_
  refine z_aload_n C dX10_putBack_31 rfl 0 rfl ?_
  refine z_getI C fl_RX10_375 rfl (kfw eK1 hk1) dX10_putBack_32 ?_
  refine z_imul C dX10_putBack_35 ?_
  refine z_iload_n C dX10_putBack_36 rfl 1 rfl ?_
  refine z_iadd C dX10_putBack_37 ?_
  refine z_ck (fun a3 hr3 hk4 => ?_)
  refine z_chk (fun hj3 => ?_)
  refine z_iald C hr3 hk4 hj3 dX10_putBack_38 ?_
  refine z_ck (fun a4 hr4 hk5 => ?_)
  refine z_chk (fun hj4 => ?_)
  refine z_iast C hr4 hk5 hj4 dX10_putBack_39 (fun m2 eK2 eN2 => ?_)
  refine z_aload_n C dX10_putBack_40 rfl 0 rfl ?_
  refine z_getR C fl_RX10_155 rfl (kfw eK2 (kfw eK1 hk1)) dX10_putBack_41 ?_
  refine z_iload_n C dX10_putBack_44 rfl 1 rfl ?_
  refine z_aload_n C dX10_putBack_45 rfl 0 rfl ?_
  refine z_getR C fl_RX10_41 rfl (kfw eK2 (kfw eK1 hk1)) dX10_putBack_46 ?_
  refine z_bipush (v := 12) C dX10_putBack_49 (by decide) ?_
  refine z_aload_n C dX10_putBack_51 rfl 0 rfl ?_
  refine z_getI C fl_RX10_375 rfl (kfw eK2 (kfw eK1 hk1)) dX10_putBack_52 ?_
  refine z_imul C dX10_putBack_55 ?_
  refine z_iload_n C dX10_putBack_56 rfl 1 rfl ?_
  refine z_iadd C dX10_putBack_57 ?_
  refine z_ck (fun a5 hr5 hk6 => ?_)
  refine z_chk (fun hj5 => ?_)
  refine z_iald C hr5 hk6 hj5 dX10_putBack_58 ?_
  refine z_ck (fun a6 hr6 hk7 => ?_)
  refine z_chk (fun hj6 => ?_)
  refine z_iast C hr6 hk7 hj6 dX10_putBack_59 (fun m3 eK3 eN3 => ?_)
  exact z_vret C hr dX10_putBack_60
def f_X10_putBack (th : Nat) (p1 : Int32) (m : MM) : Option (Unit × MM) := g_X10_putBack_0 th p1 m
theorem M_X10_putBack (l : Launch) (E : EX) (th : Nat) (p1 : Int32) (m : MM) (r : Unit) (m2 : MM) (h : f_X10_putBack th p1 m = some (r, m2)) : Met l yX10_putBack (.code yX10_putBack cX10_putBack 2 none :: TB) rmX10_putBack (va_Pc [.ref th, .int p1] (St E m)) (QR E (emV r) m2) 0 0 (AA E) :=
  met_of (em := emV) (plainFor_of_name rfl) (Nat.le_of_ble_eq_true rfl) (L0 := [(0, va_rf (some th)), (1, .int p1)]) rfl (fun Γ _ hrm C hr hn => s_X10_putBack_0 C hr hrm th p1 m) h

theorem dX10_movesOne_0 : decode cX10_movesOne 0 = .ok (.aload_n 0, 1) := by decide +kernel
theorem dX10_movesOne_1 : decode cX10_movesOne 1 = .ok (.iload_n 1, 1) := by decide +kernel
theorem dX10_movesOne_2 : decode cX10_movesOne 2 = .ok (.iload_n 2, 1) := by decide +kernel
theorem dX10_movesOne_3 : decode cX10_movesOne 3 = .ok (.iconst (-1), 1) := by decide +kernel
theorem dX10_movesOne_4 : decode cX10_movesOne 4 = .ok (.aload_n 0, 1) := by decide +kernel
theorem dX10_movesOne_5 : decode cX10_movesOne 5 = .ok (.getfield 170, 3) := by decide +kernel
theorem dX10_movesOne_8 : decode cX10_movesOne 8 = .ok (.invokevirtual 513, 3) := by decide +kernel
theorem dX10_movesOne_11 : decode cX10_movesOne 11 = .ok (.aload_n 0, 1) := by decide +kernel
theorem dX10_movesOne_12 : decode cX10_movesOne 12 = .ok (.iload_n 2, 1) := by decide +kernel
theorem dX10_movesOne_13 : decode cX10_movesOne 13 = .ok (.invokevirtual 517, 3) := by decide +kernel
theorem dX10_movesOne_16 : decode cX10_movesOne 16 = .ok (.iconst 0, 1) := by decide +kernel
theorem dX10_movesOne_17 : decode cX10_movesOne 17 = .ok (.istore_n 3, 1) := by decide +kernel
theorem dX10_movesOne_18 : decode cX10_movesOne 18 = .ok (.iload_n 3, 1) := by decide +kernel
theorem dX10_movesOne_19 : decode cX10_movesOne 19 = .ok (.bipush 64, 2) := by decide +kernel
theorem dX10_movesOne_21 : decode cX10_movesOne 21 = .ok (.if_icmp .ge 35, 3) := by decide +kernel
theorem dX10_movesOne_24 : decode cX10_movesOne 24 = .ok (.aload_n 0, 1) := by decide +kernel
theorem dX10_movesOne_25 : decode cX10_movesOne 25 = .ok (.getfield 170, 3) := by decide +kernel
theorem dX10_movesOne_28 : decode cX10_movesOne 28 = .ok (.iload_n 3, 1) := by decide +kernel
theorem dX10_movesOne_29 : decode cX10_movesOne 29 = .ok (.baload, 1) := by decide +kernel
theorem dX10_movesOne_30 : decode cX10_movesOne 30 = .ok (.ifCond .eq 20, 3) := by decide +kernel
theorem dX10_movesOne_33 : decode cX10_movesOne 33 = .ok (.aload_n 0, 1) := by decide +kernel
theorem dX10_movesOne_34 : decode cX10_movesOne 34 = .ok (.iload_n 2, 1) := by decide +kernel
theorem dX10_movesOne_35 : decode cX10_movesOne 35 = .ok (.putfield 520, 3) := by decide +kernel
theorem dX10_movesOne_38 : decode cX10_movesOne 38 = .ok (.aload_n 0, 1) := by decide +kernel
theorem dX10_movesOne_39 : decode cX10_movesOne 39 = .ok (.iconst (-1), 1) := by decide +kernel
theorem dX10_movesOne_40 : decode cX10_movesOne 40 = .ok (.putfield 523, 3) := by decide +kernel
theorem dX10_movesOne_43 : decode cX10_movesOne 43 = .ok (.aload_n 0, 1) := by decide +kernel
theorem dX10_movesOne_44 : decode cX10_movesOne 44 = .ok (.iload_n 3, 1) := by decide +kernel
theorem dX10_movesOne_45 : decode cX10_movesOne 45 = .ok (.putfield 526, 3) := by decide +kernel
theorem dX10_movesOne_48 : decode cX10_movesOne 48 = .ok (.iconst 1, 1) := by decide +kernel
theorem dX10_movesOne_49 : decode cX10_movesOne 49 = .ok (.ireturn, 1) := by decide +kernel
theorem dX10_movesOne_50 : decode cX10_movesOne 50 = .ok (.iinc 3 1, 3) := by decide +kernel
theorem dX10_movesOne_53 : decode cX10_movesOne 53 = .ok (.goto (-35), 3) := by decide +kernel
theorem dX10_movesOne_56 : decode cX10_movesOne 56 = .ok (.iconst 0, 1) := by decide +kernel
theorem dX10_movesOne_57 : decode cX10_movesOne 57 = .ok (.ireturn, 1) := by decide +kernel
def rmX10_movesOne : Room := { frames := 7, cells := 0, slots := 0, locals := 185 }
set_option maxRecDepth 100000 in
def g_X10_movesOne_18 (th : Nat) (p1 : Int32) (p2 : Int32) (k18 : Int32 → MM → Option (Int32 × MM)) (k33 : Int32 → MM → Option (Int32 × MM)) (x3 : Int32) (m : MM) : Option (Int32 × MM) :=
  if 64 ≤ x3 then (some (0, m)) else (chk (m.K th = 11) (ck m (m.R 1181 th 0) 24 (fun a1 => chk (inb x3 (m.N a1) = true) (if (m.I 24 a1 (Int32.toNatClampNeg x3)) = 0 then (k18 (x3 + 1) m) else (k33 x3 m)))))
set_option maxHeartbeats 4000000 in
set_option maxRecDepth 100000 in
theorem s_X10_movesOne_18 {Γ : GX} {E : EX} (C : Cx Γ E cX10_movesOne RX10 4) (hr : Γ.meth.sig.returnType = (some .boolean)) (hrm : Γ.rm = rmX10_movesOne) (th : Nat) (p1 : Int32) (p2 : Int32) (k18 : Int32 → MM → Option (Int32 × MM)) (k33 : Int32 → MM → Option (Int32 × MM)) (h18 : ∀ (x3 : Int32) (m : MM), Sm (QM Γ E emI 0 0) Γ E 4 0 0 18 [(0, va_rf (some th)), (1, .int p1), (2, .int p2), (3, .int x3)] [] m (k18 x3 m)) (h33 : ∀ (x3 : Int32) (m : MM), Sm (QM Γ E emI 0 0) Γ E 4 0 0 33 [(0, va_rf (some th)), (1, .int p1), (2, .int p2), (3, .int x3)] [] m (k33 x3 m)) (x3 : Int32) (m : MM) : Sm (QM Γ E emI 0 0) Γ E 4 0 0 18 [(0, va_rf (some th)), (1, .int p1), (2, .int p2), (3, .int x3)] [] m (g_X10_movesOne_18 th p1 p2 k18 k33 x3 m) := by
  unfold g_X10_movesOne_18
  refine z_iload_n C dX10_movesOne_18 rfl 3 rfl ?_
  refine z_bipush (v := 64) C dX10_movesOne_19 (by decide) ?_
  refine z_icmp_ge (tgt := 56) C dX10_movesOne_21 (by decide) (fun c1 => ?_) (fun c1 => ?_)
  · refine z_iconst (v := 0) C dX10_movesOne_56 (by decide) ?_
    exact z_zret C hr rfl dX10_movesOne_57
  · refine z_aload_n C dX10_movesOne_24 rfl 0 rfl ?_
    refine z_chk (fun hk1 => ?_)
    refine z_getR C fl_RX10_170 rfl hk1 dX10_movesOne_25 ?_
    refine z_iload_n C dX10_movesOne_28 rfl 3 rfl ?_
    refine z_ck (fun a1 hr1 hk2 => ?_)
    refine z_chk (fun hj1 => ?_)
    refine z_zald C hr1 hk2 hj1 dX10_movesOne_29 ?_
    refine z_if_eq (tgt := 50) C dX10_movesOne_30 (by decide) (fun c2 => ?_) (fun c2 => ?_)
    · refine z_iinc (v := 1) (L2 := [(3, .int (x3 + 1)), (0, va_rf (some th)), (1, .int p1), (2, .int p2)]) C dX10_movesOne_50 3 rfl (by decide) (by decide) rfl ?_
      refine z_goto (tgt := 18) C dX10_movesOne_53 (by decide) ?_
      exact z_sub [1, 2, 3, 0] rfl (h18 (x3 + 1) m)
    · exact z_sub [0, 1, 2, 3] rfl (h33 x3 m)
def l_X10_movesOne_18 (th : Nat) (p1 : Int32) (p2 : Int32) (k33 : Int32 → MM → Option (Int32 × MM)) : Nat → Int32 → MM → Option (Int32 × MM) := lp (fun _ _ => none) (fun k18 => g_X10_movesOne_18 th p1 p2 k18 k33)
theorem t_X10_movesOne_18 {Γ : GX} {E : EX} (C : Cx Γ E cX10_movesOne RX10 4) (hr : Γ.meth.sig.returnType = (some .boolean)) (hrm : Γ.rm = rmX10_movesOne) (th : Nat) (p1 : Int32) (p2 : Int32) (k33 : Int32 → MM → Option (Int32 × MM)) (h33 : ∀ (x3 : Int32) (m : MM), Sm (QM Γ E emI 0 0) Γ E 4 0 0 33 [(0, va_rf (some th)), (1, .int p1), (2, .int p2), (3, .int x3)] [] m (k33 x3 m)) : ∀ (n : Nat) (x3 : Int32) (m : MM), Sm (QM Γ E emI 0 0) Γ E 4 0 0 18 [(0, va_rf (some th)), (1, .int p1), (2, .int p2), (3, .int x3)] [] m (l_X10_movesOne_18 th p1 p2 k33 n x3 m) := by
  intro n
  induction n with
  | zero => intros; exact z_none
  | succ n ih => intro x3 m; exact s_X10_movesOne_18 C hr hrm th p1 p2 (l_X10_movesOne_18 th p1 p2 k33 n) k33 ih h33 x3 m
set_option maxRecDepth 100000 in
def g_X10_movesOne_33 (th : Nat) (p1 : Int32) (p2 : Int32) (x3 : Int32) (m : MM) : Option (Int32 × MM) :=
  chk (m.K th = 11) (bnd (m.sI 1177 th 0 p2) (fun m1 => bnd (m1.sI 1178 th 0 (-1)) (fun m2 => bnd (m2.sI 1179 th 0 x3) (fun m3 => some (1, m3)))))
set_option maxHeartbeats 4000000 in
set_option maxRecDepth 100000 in
theorem s_X10_movesOne_33 {Γ : GX} {E : EX} (C : Cx Γ E cX10_movesOne RX10 4) (hr : Γ.meth.sig.returnType = (some .boolean)) (hrm : Γ.rm = rmX10_movesOne) (th : Nat) (p1 : Int32) (p2 : Int32) (x3 : Int32) (m : MM) : Sm (QM Γ E emI 0 0) Γ E 4 0 0 33 [(0, va_rf (some th)), (1, .int p1), (2, .int p2), (3, .int x3)] [] m (g_X10_movesOne_33 th p1 p2 x3 m) := by
  unfold g_X10_movesOne_33
  refine z_aload_n C dX10_movesOne_33 rfl 0 rfl ?_
  refine z_iload_n C dX10_movesOne_34 rfl 2 rfl ?_
  refine z_chk (fun hk3 => ?_)
  refine z_putI C fl_RX10_520 (fun h => by cases h) rfl hk3 rfl rfl dX10_movesOne_35 (fun m1 eK1 eN1 => ?_)
  refine z_aload_n C dX10_movesOne_38 rfl 0 rfl ?_
  refine z_iconst (v := (-1)) C dX10_movesOne_39 (by decide) ?_
  refine z_putI C fl_RX10_523 (fun h => by cases h) rfl (kfw eK1 hk3) rfl rfl dX10_movesOne_40 (fun m2 eK2 eN2 => ?_)
  refine z_aload_n C dX10_movesOne_43 rfl 0 rfl ?_
  refine z_iload_n C dX10_movesOne_44 rfl 3 rfl ?_
  refine z_putI C fl_RX10_526 (fun h => by cases h) rfl (kfw eK2 (kfw eK1 hk3)) rfl rfl dX10_movesOne_45 (fun m3 eK3 eN3 => ?_)
  refine z_iconst (v := 1) C dX10_movesOne_48 (by decide) ?_
  exact z_zret C hr rfl dX10_movesOne_49
set_option maxRecDepth 100000 in
def g_X10_movesOne_0 (th : Nat) (p1 : Int32) (p2 : Int32) (m : MM) : Option (Int32 × MM) :=
  chk (m.K th = 11) (cal (f_X10_findPoints th p1 p2 (-1) (m.R 1181 th 0) m) (fun r1 m4 => chk (m4.K th = 11) (cal (f_X10_putBack th p2 m4) (fun r2 m5 => l_X10_movesOne_18 th p1 p2 (g_X10_movesOne_33 th p1 p2) FU 0 m5))))
set_option maxHeartbeats 4000000 in
set_option maxRecDepth 100000 in
theorem s_X10_movesOne_0 {Γ : GX} {E : EX} (C : Cx Γ E cX10_movesOne RX10 4) (hr : Γ.meth.sig.returnType = (some .boolean)) (hrm : Γ.rm = rmX10_movesOne) (th : Nat) (p1 : Int32) (p2 : Int32) (m : MM) : Sm (QM Γ E emI 0 0) Γ E 4 0 0 0 [(0, va_rf (some th)), (1, .int p1), (2, .int p2)] [] m (g_X10_movesOne_0 th p1 p2 m) := by
  unfold g_X10_movesOne_0
  refine z_aload_n C dX10_movesOne_0 rfl 0 rfl ?_
  refine z_iload_n C dX10_movesOne_1 rfl 1 rfl ?_
  refine z_iload_n C dX10_movesOne_2 rfl 2 rfl ?_
  refine z_iconst (v := (-1)) C dX10_movesOne_3 (by decide) ?_
  refine z_aload_n C dX10_movesOne_4 rfl 0 rfl ?_
  refine z_chk (fun hk4 => ?_)
  refine z_getR C fl_RX10_170 rfl hk4 dX10_movesOne_5 ?_
  refine z_cVV [.int p1, .int p2, .int (-1), va_rf (m.R 1181 th 0)] [] C mv_RX10_513 (fun r0 m0 h0 => M_X10_findPoints _ _ _ _ _ _ _ _ _ _ h0) rfl rfl ⟨by rw [hrm]; exact Nat.le_of_ble_eq_true rfl, by rw [hrm]; exact Nat.le_of_ble_eq_true rfl⟩ ⟨by rw [hrm]; exact Nat.le_of_ble_eq_true rfl, by rw [hrm]; exact Nat.le_of_ble_eq_true rfl⟩ rfl hk4 rfl rfl rfl (Nat.le_of_ble_eq_true rfl) dX10_movesOne_8 (fun r1 m4 => ?_)
  refine z_aload_n C dX10_movesOne_11 rfl 0 rfl ?_
  refine z_iload_n C dX10_movesOne_12 rfl 2 rfl ?_
  refine z_chk (fun hk5 => ?_)
  refine z_cVV [.int p2] [] C mv_RX10_517 (fun r0 m0 h0 => M_X10_putBack _ _ _ _ _ _ _ h0) rfl rfl ⟨by rw [hrm]; exact Nat.le_of_ble_eq_true rfl, by rw [hrm]; exact Nat.le_of_ble_eq_true rfl⟩ ⟨by rw [hrm]; exact Nat.le_of_ble_eq_true rfl, by rw [hrm]; exact Nat.le_of_ble_eq_true rfl⟩ rfl hk5 rfl rfl rfl (Nat.le_of_ble_eq_true rfl) dX10_movesOne_13 (fun r2 m5 => ?_)
  refine z_iconst (v := 0) C dX10_movesOne_16 (by decide) ?_
  refine z_istore_n (i := 3) (L2 := [(3, .int 0), (0, va_rf (some th)), (1, .int p1), (2, .int p2)]) C dX10_movesOne_17 rfl (by decide) rfl ?_
  exact z_sub [1, 2, 3, 0] rfl (t_X10_movesOne_18 C hr hrm th p1 p2 (g_X10_movesOne_33 th p1 p2) (s_X10_movesOne_33 C hr hrm th p1 p2) FU 0 m5)
def f_X10_movesOne (th : Nat) (p1 : Int32) (p2 : Int32) (m : MM) : Option (Int32 × MM) := g_X10_movesOne_0 th p1 p2 m
theorem M_X10_movesOne (l : Launch) (E : EX) (th : Nat) (p1 : Int32) (p2 : Int32) (m : MM) (r : Int32) (m2 : MM) (h : f_X10_movesOne th p1 p2 m = some (r, m2)) : Met l yX10_movesOne (.code yX10_movesOne cX10_movesOne 4 (some .boolean) :: TB) rmX10_movesOne (va_Pc [.ref th, .int p1, .int p2] (St E m)) (QR E (emI r) m2) 0 0 (AA E) :=
  met_of (em := emI) (plainFor_of_name rfl) (Nat.le_of_ble_eq_true rfl) (L0 := [(0, va_rf (some th)), (1, .int p1), (2, .int p2)]) rfl (fun Γ _ hrm C hr hn => s_X10_movesOne_0 C hr hrm th p1 p2 m) h

theorem dX10_movesTwo_0 : decode cX10_movesTwo 0 = .ok (.aload_n 0, 1) := by decide +kernel
theorem dX10_movesTwo_1 : decode cX10_movesTwo 1 = .ok (.iload_n 1, 1) := by decide +kernel
theorem dX10_movesTwo_2 : decode cX10_movesTwo 2 = .ok (.iload_n 2, 1) := by decide +kernel
theorem dX10_movesTwo_3 : decode cX10_movesTwo 3 = .ok (.iload_n 3, 1) := by decide +kernel
theorem dX10_movesTwo_4 : decode cX10_movesTwo 4 = .ok (.aload_n 0, 1) := by decide +kernel
theorem dX10_movesTwo_5 : decode cX10_movesTwo 5 = .ok (.getfield 170, 3) := by decide +kernel
theorem dX10_movesTwo_8 : decode cX10_movesTwo 8 = .ok (.invokevirtual 513, 3) := by decide +kernel
theorem dX10_movesTwo_11 : decode cX10_movesTwo 11 = .ok (.aload_n 0, 1) := by decide +kernel
theorem dX10_movesTwo_12 : decode cX10_movesTwo 12 = .ok (.iload_n 1, 1) := by decide +kernel
theorem dX10_movesTwo_13 : decode cX10_movesTwo 13 = .ok (.iload_n 3, 1) := by decide +kernel
theorem dX10_movesTwo_14 : decode cX10_movesTwo 14 = .ok (.iload_n 2, 1) := by decide +kernel
theorem dX10_movesTwo_15 : decode cX10_movesTwo 15 = .ok (.aload_n 0, 1) := by decide +kernel
theorem dX10_movesTwo_16 : decode cX10_movesTwo 16 = .ok (.getfield 174, 3) := by decide +kernel
theorem dX10_movesTwo_19 : decode cX10_movesTwo 19 = .ok (.invokevirtual 513, 3) := by decide +kernel
theorem dX10_movesTwo_22 : decode cX10_movesTwo 22 = .ok (.iconst 0, 1) := by decide +kernel
theorem dX10_movesTwo_23 : decode cX10_movesTwo 23 = .ok (.istore 4, 2) := by decide +kernel
theorem dX10_movesTwo_25 : decode cX10_movesTwo 25 = .ok (.iconst 0, 1) := by decide +kernel
theorem dX10_movesTwo_26 : decode cX10_movesTwo 26 = .ok (.istore 5, 2) := by decide +kernel
theorem dX10_movesTwo_28 : decode cX10_movesTwo 28 = .ok (.iload 5, 2) := by decide +kernel
theorem dX10_movesTwo_30 : decode cX10_movesTwo 30 = .ok (.bipush 64, 2) := by decide +kernel
theorem dX10_movesTwo_32 : decode cX10_movesTwo 32 = .ok (.if_icmp .ge 112, 3) := by decide +kernel
theorem dX10_movesTwo_35 : decode cX10_movesTwo 35 = .ok (.iload 4, 2) := by decide +kernel
theorem dX10_movesTwo_37 : decode cX10_movesTwo 37 = .ok (.ifCond .ne 107, 3) := by decide +kernel
theorem dX10_movesTwo_40 : decode cX10_movesTwo 40 = .ok (.aload_n 0, 1) := by decide +kernel
theorem dX10_movesTwo_41 : decode cX10_movesTwo 41 = .ok (.iload_n 2, 1) := by decide +kernel
theorem dX10_movesTwo_42 : decode cX10_movesTwo 42 = .ok (.iload 5, 2) := by decide +kernel
theorem dX10_movesTwo_44 : decode cX10_movesTwo 44 = .ok (.invokevirtual 510, 3) := by decide +kernel
theorem dX10_movesTwo_47 : decode cX10_movesTwo 47 = .ok (.iconst 0, 1) := by decide +kernel
theorem dX10_movesTwo_48 : decode cX10_movesTwo 48 = .ok (.istore 6, 2) := by decide +kernel
theorem dX10_movesTwo_50 : decode cX10_movesTwo 50 = .ok (.iload 6, 2) := by decide +kernel
theorem dX10_movesTwo_52 : decode cX10_movesTwo 52 = .ok (.bipush 64, 2) := by decide +kernel
theorem dX10_movesTwo_54 : decode cX10_movesTwo 54 = .ok (.if_icmp .ge 84, 3) := by decide +kernel
theorem dX10_movesTwo_57 : decode cX10_movesTwo 57 = .ok (.aload_n 0, 1) := by decide +kernel
theorem dX10_movesTwo_58 : decode cX10_movesTwo 58 = .ok (.getfield 170, 3) := by decide +kernel
theorem dX10_movesTwo_61 : decode cX10_movesTwo 61 = .ok (.iload 5, 2) := by decide +kernel
theorem dX10_movesTwo_63 : decode cX10_movesTwo 63 = .ok (.baload, 1) := by decide +kernel
theorem dX10_movesTwo_64 : decode cX10_movesTwo 64 = .ok (.ifCond .eq 74, 3) := by decide +kernel
theorem dX10_movesTwo_67 : decode cX10_movesTwo 67 = .ok (.iload 4, 2) := by decide +kernel
theorem dX10_movesTwo_69 : decode cX10_movesTwo 69 = .ok (.ifCond .ne 69, 3) := by decide +kernel
theorem dX10_movesTwo_72 : decode cX10_movesTwo 72 = .ok (.aload_n 0, 1) := by decide +kernel
theorem dX10_movesTwo_73 : decode cX10_movesTwo 73 = .ok (.iload_n 3, 1) := by decide +kernel
theorem dX10_movesTwo_74 : decode cX10_movesTwo 74 = .ok (.iload 6, 2) := by decide +kernel
theorem dX10_movesTwo_76 : decode cX10_movesTwo 76 = .ok (.invokevirtual 510, 3) := by decide +kernel
theorem dX10_movesTwo_79 : decode cX10_movesTwo 79 = .ok (.aload_n 0, 1) := by decide +kernel
theorem dX10_movesTwo_80 : decode cX10_movesTwo 80 = .ok (.getfield 174, 3) := by decide +kernel
theorem dX10_movesTwo_83 : decode cX10_movesTwo 83 = .ok (.iload 6, 2) := by decide +kernel
theorem dX10_movesTwo_85 : decode cX10_movesTwo 85 = .ok (.baload, 1) := by decide +kernel
theorem dX10_movesTwo_86 : decode cX10_movesTwo 86 = .ok (.ifCond .eq 46, 3) := by decide +kernel
theorem dX10_movesTwo_89 : decode cX10_movesTwo 89 = .ok (.iload 5, 2) := by decide +kernel
theorem dX10_movesTwo_91 : decode cX10_movesTwo 91 = .ok (.iload 6, 2) := by decide +kernel
theorem dX10_movesTwo_93 : decode cX10_movesTwo 93 = .ok (.if_icmp .eq 39, 3) := by decide +kernel
theorem dX10_movesTwo_96 : decode cX10_movesTwo 96 = .ok (.aload_n 0, 1) := by decide +kernel
theorem dX10_movesTwo_97 : decode cX10_movesTwo 97 = .ok (.iload_n 1, 1) := by decide +kernel
theorem dX10_movesTwo_98 : decode cX10_movesTwo 98 = .ok (.iload_n 2, 1) := by decide +kernel
theorem dX10_movesTwo_99 : decode cX10_movesTwo 99 = .ok (.iload_n 3, 1) := by decide +kernel
theorem dX10_movesTwo_100 : decode cX10_movesTwo 100 = .ok (.iconst (-1), 1) := by decide +kernel
theorem dX10_movesTwo_101 : decode cX10_movesTwo 101 = .ok (.invokevirtual 470, 3) := by decide +kernel
theorem dX10_movesTwo_104 : decode cX10_movesTwo 104 = .ok (.ifCond .ne 28, 3) := by decide +kernel
theorem dX10_movesTwo_107 : decode cX10_movesTwo 107 = .ok (.iconst 1, 1) := by decide +kernel
theorem dX10_movesTwo_108 : decode cX10_movesTwo 108 = .ok (.istore 4, 2) := by decide +kernel
theorem dX10_movesTwo_110 : decode cX10_movesTwo 110 = .ok (.aload_n 0, 1) := by decide +kernel
theorem dX10_movesTwo_111 : decode cX10_movesTwo 111 = .ok (.iload_n 2, 1) := by decide +kernel
theorem dX10_movesTwo_112 : decode cX10_movesTwo 112 = .ok (.putfield 520, 3) := by decide +kernel
theorem dX10_movesTwo_115 : decode cX10_movesTwo 115 = .ok (.aload_n 0, 1) := by decide +kernel
theorem dX10_movesTwo_116 : decode cX10_movesTwo 116 = .ok (.iload_n 3, 1) := by decide +kernel
theorem dX10_movesTwo_117 : decode cX10_movesTwo 117 = .ok (.putfield 523, 3) := by decide +kernel
theorem dX10_movesTwo_120 : decode cX10_movesTwo 120 = .ok (.aload_n 0, 1) := by decide +kernel
theorem dX10_movesTwo_121 : decode cX10_movesTwo 121 = .ok (.iload 5, 2) := by decide +kernel
theorem dX10_movesTwo_123 : decode cX10_movesTwo 123 = .ok (.putfield 526, 3) := by decide +kernel
theorem dX10_movesTwo_126 : decode cX10_movesTwo 126 = .ok (.aload_n 0, 1) := by decide +kernel
theorem dX10_movesTwo_127 : decode cX10_movesTwo 127 = .ok (.iload 6, 2) := by decide +kernel
theorem dX10_movesTwo_129 : decode cX10_movesTwo 129 = .ok (.putfield 529, 3) := by decide +kernel
theorem dX10_movesTwo_132 : decode cX10_movesTwo 132 = .ok (.iinc 6 1, 3) := by decide +kernel
theorem dX10_movesTwo_135 : decode cX10_movesTwo 135 = .ok (.goto (-85), 3) := by decide +kernel
theorem dX10_movesTwo_138 : decode cX10_movesTwo 138 = .ok (.iinc 5 1, 3) := by decide +kernel
theorem dX10_movesTwo_141 : decode cX10_movesTwo 141 = .ok (.goto (-113), 3) := by decide +kernel
theorem dX10_movesTwo_144 : decode cX10_movesTwo 144 = .ok (.aload_n 0, 1) := by decide +kernel
theorem dX10_movesTwo_145 : decode cX10_movesTwo 145 = .ok (.iload_n 2, 1) := by decide +kernel
theorem dX10_movesTwo_146 : decode cX10_movesTwo 146 = .ok (.invokevirtual 517, 3) := by decide +kernel
theorem dX10_movesTwo_149 : decode cX10_movesTwo 149 = .ok (.aload_n 0, 1) := by decide +kernel
theorem dX10_movesTwo_150 : decode cX10_movesTwo 150 = .ok (.iload_n 3, 1) := by decide +kernel
theorem dX10_movesTwo_151 : decode cX10_movesTwo 151 = .ok (.invokevirtual 517, 3) := by decide +kernel
theorem dX10_movesTwo_154 : decode cX10_movesTwo 154 = .ok (.iload 4, 2) := by decide +kernel
theorem dX10_movesTwo_156 : decode cX10_movesTwo 156 = .ok (.ireturn, 1) := by decide +kernel
def rmX10_movesTwo : Room := { frames := 7, cells := 0, slots := 0, locals := 185 }
set_option maxRecDepth 100000 in
def g_X10_movesTwo_132 (th : Nat) (p1 : Int32) (p2 : Int32) (p3 : Int32) (k50 : Int32 → Int32 → Int32 → MM → Option (Int32 × MM)) (k138 : Int32 → Int32 → MM → Option (Int32 × MM)) (x4 : Int32) (x5 : Int32) (x6 : Int32) (m : MM) : Option (Int32 × MM) :=
  k50 x4 x5 (x6 + 1) m
set_option maxHeartbeats 4000000 in
set_option maxRecDepth 100000 in
theorem s_X10_movesTwo_132 {Γ : GX} {E : EX} (C : Cx Γ E cX10_movesTwo RX10 7) (hr : Γ.meth.sig.returnType = (some .boolean)) (hrm : Γ.rm = rmX10_movesTwo) (th : Nat) (p1 : Int32) (p2 : Int32) (p3 : Int32) (k50 : Int32 → Int32 → Int32 → MM → Option (Int32 × MM)) (k138 : Int32 → Int32 → MM → Option (Int32 × MM)) (h50 : ∀ (x4 : Int32) (x5 : Int32) (x6 : Int32) (m : MM), Sm (QM Γ E emI 0 0) Γ E 7 0 0 50 [(0, va_rf (some th)), (1, .int p1), (2, .int p2), (3, .int p3), (4, .int x4), (5, .int x5), (6, .int x6)] [] m (k50 x4 x5 x6 m)) (h138 : ∀ (x4 : Int32) (x5 : Int32) (m : MM), Sm (QM Γ E emI 0 0) Γ E 7 0 0 138 [(0, va_rf (some th)), (1, .int p1), (2, .int p2), (3, .int p3), (4, .int x4), (5, .int x5)] [] m (k138 x4 x5 m)) (x4 : Int32) (x5 : Int32) (x6 : Int32) (m : MM) : Sm (QM Γ E emI 0 0) Γ E 7 0 0 132 [(0, va_rf (some th)), (1, .int p1), (2, .int p2), (3, .int p3), (4, .int x4), (5, .int x5), (6, .int x6)] [] m (g_X10_movesTwo_132 th p1 p2 p3 k50 k138 x4 x5 x6 m) := by
  unfold g_X10_movesTwo_132
  refine z_iinc (v := 1) (L2 := [(6, .int (x6 + 1)), (0, va_rf (some th)), (1, .int p1), (2, .int p2), (3, .int p3), (4, .int x4), (5, .int x5)]) C dX10_movesTwo_132 6 rfl (by decide) (by decide) rfl ?_
  refine z_goto (tgt := 50) C dX10_movesTwo_135 (by decide) ?_
  exact z_sub [1, 2, 3, 4, 5, 6, 0] rfl (h50 x4 x5 (x6 + 1) m)
set_option maxRecDepth 100000 in
def g_X10_movesTwo_50 (th : Nat) (p1 : Int32) (p2 : Int32) (p3 : Int32) (k50 : Int32 → Int32 → Int32 → MM → Option (Int32 × MM)) (k138 : Int32 → Int32 → MM → Option (Int32 × MM)) (x4 : Int32) (x5 : Int32) (x6 : Int32) (m : MM) : Option (Int32 × MM) :=
  if 64 ≤ x6 then (k138 x4 x5 m) else (chk (m.K th = 11) (ck m (m.R 1181 th 0) 24 (fun a1 => chk (inb x5 (m.N a1) = true) (if (m.I 24 a1 (Int32.toNatClampNeg x5)) = 0 then (k138 x4 x5 m) else (if x4 = 0 then (cal (f_X10_put th p3 x6 m) (fun r1 m1 => chk (m1.K th = 11) (ck m1 (m1.R 1182 th 0) 24 (fun a2 => chk (inb x6 (m1.N a2) = true) (if (m1.I 24 a2 (Int32.toNatClampNeg x6)) = 0 then (g_X10_movesTwo_132 th p1 p2 p3 k50 k138 x4 x5 x6 m1) else (if x5 = x6 then (g_X10_movesTwo_132 th p1 p2 p3 k50 k138 x4 x5 x6 m1) else (cal (f_X10_barsBoth th p1 p2 p3 (-1) m1) (fun r2 m2 => if r2 = 0 then (chk (m2.K th = 11) (bnd (m2.sI 1177 th 0 p2) (fun m3 => bnd (m3.sI 1178 th 0 p3) (fun m4 => bnd (m4.sI 1179 th 0 x5) (fun m5 => bnd (m5.sI 1180 th 0 x6) (fun m6 => g_X10_movesTwo_132 th p1 p2 p3 k50 k138 1 x5 x6 m6)))))) else (g_X10_movesTwo_132 th p1 p2 p3 k50 k138 x4 x5 x6 m2))))))))) else (k138 x4 x5 m))))))
set_option maxHeartbeats 4000000 in
set_option maxRecDepth 100000 in
theorem s_X10_movesTwo_50 {Γ : GX} {E : EX} (C : Cx Γ E cX10_movesTwo RX10 7) (hr : Γ.meth.sig.returnType = (some .boolean)) (hrm : Γ.rm = rmX10_movesTwo) (th : Nat) (p1 : Int32) (p2 : Int32) (p3 : Int32) (k50 : Int32 → Int32 → Int32 → MM → Option (Int32 × MM)) (k138 : Int32 → Int32 → MM → Option (Int32 × MM)) (h50 : ∀ (x4 : Int32) (x5 : Int32) (x6 : Int32) (m : MM), Sm (QM Γ E emI 0 0) Γ E 7 0 0 50 [(0, va_rf (some th)), (1, .int p1), (2, .int p2), (3, .int p3), (4, .int x4), (5, .int x5), (6, .int x6)] [] m (k50 x4 x5 x6 m)) (h138 : ∀ (x4 : Int32) (x5 : Int32) (m : MM), Sm (QM Γ E emI 0 0) Γ E 7 0 0 138 [(0, va_rf (some th)), (1, .int p1), (2, .int p2), (3, .int p3), (4, .int x4), (5, .int x5)] [] m (k138 x4 x5 m)) (x4 : Int32) (x5 : Int32) (x6 : Int32) (m : MM) : Sm (QM Γ E emI 0 0) Γ E 7 0 0 50 [(0, va_rf (some th)), (1, .int p1), (2, .int p2), (3, .int p3), (4, .int x4), (5, .int x5), (6, .int x6)] [] m (g_X10_movesTwo_50 th p1 p2 p3 k50 k138 x4 x5 x6 m) := by
  unfold g_X10_movesTwo_50
  refine z_iload C dX10_movesTwo_50 6 rfl ?_
  refine z_bipush (v := 64) C dX10_movesTwo_52 (by decide) ?_
  refine z_icmp_ge (tgt := 138) C dX10_movesTwo_54 (by decide) (fun c1 => ?_) (fun c1 => ?_)
  · exact z_sub [0, 1, 2, 3, 4, 5] rfl (h138 x4 x5 m)
  · refine z_aload_n C dX10_movesTwo_57 rfl 0 rfl ?_
    refine z_chk (fun hk1 => ?_)
    refine z_getR C fl_RX10_170 rfl hk1 dX10_movesTwo_58 ?_
    refine z_iload C dX10_movesTwo_61 5 rfl ?_
    refine z_ck (fun a1 hr1 hk2 => ?_)
    refine z_chk (fun hj1 => ?_)
    refine z_zald C hr1 hk2 hj1 dX10_movesTwo_63 ?_
    refine z_if_eq (tgt := 138) C dX10_movesTwo_64 (by decide) (fun c2 => ?_) (fun c2 => ?_)
    · exact z_sub [0, 1, 2, 3, 4, 5] rfl (h138 x4 x5 m)
    · refine z_iload C dX10_movesTwo_67 4 rfl ?_
      refine z_if_ne (tgt := 138) C dX10_movesTwo_69 (by decide) (fun c3 => ?_) (fun c3 => ?_)
      · exact z_sub [0, 1, 2, 3, 4, 5] rfl (h138 x4 x5 m)
      · refine z_aload_n C dX10_movesTwo_72 rfl 0 rfl ?_
        refine z_iload_n C dX10_movesTwo_73 rfl 3 rfl ?_
        refine z_iload C dX10_movesTwo_74 6 rfl ?_
        refine z_cVV [.int p3, .int x6] [] C mv_RX10_510 (fun r0 m0 h0 => M_X10_put _ _ _ _ _ _ _ _ h0) rfl rfl ⟨by rw [hrm]; exact Nat.le_of_ble_eq_true rfl, by rw [hrm]; exact Nat.le_of_ble_eq_true rfl⟩ ⟨by rw [hrm]; exact Nat.le_of_ble_eq_true rfl, by rw [hrm]; exact Nat.le_of_ble_eq_true rfl⟩ rfl hk1 rfl rfl rfl (Nat.le_of_ble_eq_true rfl) dX10_movesTwo_76 (fun r1 m1 => ?_)
        refine z_aload_n C dX10_movesTwo_79 rfl 0 rfl ?_
        refine z_chk (fun hk3 => ?_)
        refine z_getR C fl_RX10_174 rfl hk3 dX10_movesTwo_80 ?_
        refine z_iload C dX10_movesTwo_83 6 rfl ?_
        refine z_ck (fun a2 hr2 hk4 => ?_)
        refine z_chk (fun hj2 => ?_)
        refine z_zald C hr2 hk4 hj2 dX10_movesTwo_85 ?_
        refine z_if_eq (tgt := 132) C dX10_movesTwo_86 (by decide) (fun c4 => ?_) (fun c4 => ?_)
        · exact z_sub [0, 1, 2, 3, 4, 5, 6] rfl (s_X10_movesTwo_132 C hr hrm th p1 p2 p3 k50 k138 h50 h138 x4 x5 x6 m1)
        · refine z_iload C dX10_movesTwo_89 5 rfl ?_
          refine z_iload C dX10_movesTwo_91 6 rfl ?_
          refine z_icmp_eq (tgt := 132) C dX10_movesTwo_93 (by decide) (fun c5 => ?_) (fun c5 => ?_)
          · exact z_sub [0, 1, 2, 3, 4, 5, 6] rfl (s_X10_movesTwo_132 C hr hrm th p1 p2 p3 k50 k138 h50 h138 x4 x5 x6 m1)
          · refine z_aload_n C dX10_movesTwo_96 rfl 0 rfl ?_
            refine z_iload_n C dX10_movesTwo_97 rfl 1 rfl ?_
            refine z_iload_n C dX10_movesTwo_98 rfl 2 rfl ?_
            refine z_iload_n C dX10_movesTwo_99 rfl 3 rfl ?_
            refine z_iconst (v := (-1)) C dX10_movesTwo_100 (by decide) ?_
            refine z_cVI [.int p1, .int p2, .int p3, .int (-1)] [] C mv_RX10_470 (fun r0 m0 h0 => M_X10_barsBoth _ _ _ _ _ _ _ _ _ _ h0) rfl rfl ⟨by rw [hrm]; exact Nat.le_of_ble_eq_true rfl, by rw [hrm]; exact Nat.le_of_ble_eq_true rfl⟩ ⟨by rw [hrm]; exact Nat.le_of_ble_eq_true rfl, by rw [hrm]; exact Nat.le_of_ble_eq_true rfl⟩ rfl hk3 rfl rfl rfl (Nat.le_of_ble_eq_true rfl) dX10_movesTwo_101 (fun r2 m2 => ?_)
            refine z_if_ne (tgt := 132) C dX10_movesTwo_104 (by decide) (fun c6 => ?_) (fun c6 => ?_)
            · exact z_sub [0, 1, 2, 3, 4, 5, 6] rfl (s_X10_movesTwo_132 C hr hrm th p1 p2 p3 k50 k138 h50 h138 x4 x5 x6 m2)
            · refine z_iconst (v := 1) C dX10_movesTwo_107 (by decide) ?_
              refine z_istore (i := 4) (L2 := [(4, .int 1), (0, va_rf (some th)), (1, .int p1), (2, .int p2), (3, .int p3), (5, .int x5), (6, .int x6)]) C dX10_movesTwo_108 (by decide) rfl ?_
              refine z_aload_n C dX10_movesTwo_110 rfl 1 rfl ?_
              refine z_iload_n C dX10_movesTwo_111 rfl 3 rfl ?_
              refine z_chk (fun hk5 => ?_)
              refine z_putI C fl_RX10_520 (fun h => by cases h) rfl hk5 rfl rfl dX10_movesTwo_112 (fun m3 eK1 eN1 => ?_)
              refine z_aload_n C dX10_movesTwo_115 rfl 1 rfl ?_
              refine z_iload_n C dX10_movesTwo_116 rfl 4 rfl ?_
              refine z_putI C fl_RX10_523 (fun h => by cases h) rfl (kfw eK1 hk5) rfl rfl dX10_movesTwo_117 (fun m4 eK2 eN2 => ?_)
              refine z_aload_n C dX10_movesTwo_120 rfl 1 rfl ?_
              refine z_iload C dX10_movesTwo_121 5 rfl ?_
              refine z_putI C fl_RX10_526 (fun h => by cases h) rfl (kfw eK2 (kfw eK1 hk5)) rfl rfl dX10_movesTwo_123 (fun m5 eK3 eN3 => ?_)
              refine z_aload_n C dX10_movesTwo_126 rfl 1 rfl ?_
              refine z_iload C dX10_movesTwo_127 6 rfl ?_
              refine z_putI C fl_RX10_529 (fun h => by cases h) rfl (kfw eK3 (kfw eK2 (kfw eK1 hk5))) rfl rfl dX10_movesTwo_129 (fun m6 eK4 eN4 => ?_)
              exact z_sub [1, 2, 3, 4, 0, 5, 6] rfl (s_X10_movesTwo_132 C hr hrm th p1 p2 p3 k50 k138 h50 h138 1 x5 x6 m6)
def l_X10_movesTwo_50 (th : Nat) (p1 : Int32) (p2 : Int32) (p3 : Int32) (k138 : Int32 → Int32 → MM → Option (Int32 × MM)) : Nat → Int32 → Int32 → Int32 → MM → Option (Int32 × MM) := lp (fun _ _ _ _ => none) (fun k50 => g_X10_movesTwo_50 th p1 p2 p3 k50 k138)
theorem t_X10_movesTwo_50 {Γ : GX} {E : EX} (C : Cx Γ E cX10_movesTwo RX10 7) (hr : Γ.meth.sig.returnType = (some .boolean)) (hrm : Γ.rm = rmX10_movesTwo) (th : Nat) (p1 : Int32) (p2 : Int32) (p3 : Int32) (k138 : Int32 → Int32 → MM → Option (Int32 × MM)) (h138 : ∀ (x4 : Int32) (x5 : Int32) (m : MM), Sm (QM Γ E emI 0 0) Γ E 7 0 0 138 [(0, va_rf (some th)), (1, .int p1), (2, .int p2), (3, .int p3), (4, .int x4), (5, .int x5)] [] m (k138 x4 x5 m)) : ∀ (n : Nat) (x4 : Int32) (x5 : Int32) (x6 : Int32) (m : MM), Sm (QM Γ E emI 0 0) Γ E 7 0 0 50 [(0, va_rf (some th)), (1, .int p1), (2, .int p2), (3, .int p3), (4, .int x4), (5, .int x5), (6, .int x6)] [] m (l_X10_movesTwo_50 th p1 p2 p3 k138 n x4 x5 x6 m) := by
  intro n
  induction n with
  | zero => intros; exact z_none
  | succ n ih => intro x4 x5 x6 m; exact s_X10_movesTwo_50 C hr hrm th p1 p2 p3 (l_X10_movesTwo_50 th p1 p2 p3 k138 n) k138 ih h138 x4 x5 x6 m
set_option maxRecDepth 100000 in
def g_X10_movesTwo_138 (th : Nat) (p1 : Int32) (p2 : Int32) (p3 : Int32) (k28 : Int32 → Int32 → MM → Option (Int32 × MM)) (k144 : Int32 → MM → Option (Int32 × MM)) (x4 : Int32) (x5 : Int32) (m : MM) : Option (Int32 × MM) :=
  k28 x4 (x5 + 1) m
set_option maxHeartbeats 4000000 in
set_option maxRecDepth 100000 in
theorem s_X10_movesTwo_138 {Γ : GX} {E : EX} (C : Cx Γ E cX10_movesTwo RX10 7) (hr : Γ.meth.sig.returnType = (some .boolean)) (hrm : Γ.rm = rmX10_movesTwo) (th : Nat) (p1 : Int32) (p2 : Int32) (p3 : Int32) (k28 : Int32 → Int32 → MM → Option (Int32 × MM)) (k144 : Int32 → MM → Option (Int32 × MM)) (h28 : ∀ (x4 : Int32) (x5 : Int32) (m : MM), Sm (QM Γ E emI 0 0) Γ E 7 0 0 28 [(0, va_rf (some th)), (1, .int p1), (2, .int p2), (3, .int p3), (4, .int x4), (5, .int x5)] [] m (k28 x4 x5 m)) (h144 : ∀ (x4 : Int32) (m : MM), Sm (QM Γ E emI 0 0) Γ E 7 0 0 144 [(0, va_rf (some th)), (1, .int p1), (2, .int p2), (3, .int p3), (4, .int x4)] [] m (k144 x4 m)) (x4 : Int32) (x5 : Int32) (m : MM) : Sm (QM Γ E emI 0 0) Γ E 7 0 0 138 [(0, va_rf (some th)), (1, .int p1), (2, .int p2), (3, .int p3), (4, .int x4), (5, .int x5)] [] m (g_X10_movesTwo_138 th p1 p2 p3 k28 k144 x4 x5 m) := by
  unfold g_X10_movesTwo_138
  refine z_iinc (v := 1) (L2 := [(5, .int (x5 + 1)), (0, va_rf (some th)), (1, .int p1), (2, .int p2), (3, .int p3), (4, .int x4)]) C dX10_movesTwo_138 5 rfl (by decide) (by decide) rfl ?_
  refine z_goto (tgt := 28) C dX10_movesTwo_141 (by decide) ?_
  exact z_sub [1, 2, 3, 4, 5, 0] rfl (h28 x4 (x5 + 1) m)
set_option maxRecDepth 100000 in
def g_X10_movesTwo_28 (th : Nat) (p1 : Int32) (p2 : Int32) (p3 : Int32) (k28 : Int32 → Int32 → MM → Option (Int32 × MM)) (k144 : Int32 → MM → Option (Int32 × MM)) (x4 : Int32) (x5 : Int32) (m : MM) : Option (Int32 × MM) :=
  if 64 ≤ x5 then (k144 x4 m) else (if x4 = 0 then (chk (m.K th = 11) (cal (f_X10_put th p2 x5 m) (fun r3 m7 => l_X10_movesTwo_50 th p1 p2 p3 (g_X10_movesTwo_138 th p1 p2 p3 k28 k144) FU x4 x5 0 m7))) else (k144 x4 m))
set_option maxHeartbeats 4000000 in
set_option maxRecDepth 100000 in
theorem s_X10_movesTwo_28 {Γ : GX} {E : EX} (C : Cx Γ E cX10_movesTwo RX10 7) (hr : Γ.meth.sig.returnType = (some .boolean)) (hrm : Γ.rm = rmX10_movesTwo) (th : Nat) (p1 : Int32) (p2 : Int32) (p3 : Int32) (k28 : Int32 → Int32 → MM → Option (Int32 × MM)) (k144 : Int32 → MM → Option (Int32 × MM)) (h28 : ∀ (x4 : Int32) (x5 : Int32) (m : MM), Sm (QM Γ E emI 0 0) Γ E 7 0 0 28 [(0, va_rf (some th)), (1, .int p1), (2, .int p2), (3, .int p3), (4, .int x4), (5, .int x5)] [] m (k28 x4 x5 m)) (h144 : ∀ (x4 : Int32) (m : MM), Sm (QM Γ E emI 0 0) Γ E 7 0 0 144 [(0, va_rf (some th)), (1, .int p1), (2, .int p2), (3, .int p3), (4, .int x4)] [] m (k144 x4 m)) (x4 : Int32) (x5 : Int32) (m : MM) : Sm (QM Γ E emI 0 0) Γ E 7 0 0 28 [(0, va_rf (some th)), (1, .int p1), (2, .int p2), (3, .int p3), (4, .int x4), (5, .int x5)] [] m (g_X10_movesTwo_28 th p1 p2 p3 k28 k144 x4 x5 m) := by
  unfold g_X10_movesTwo_28
  refine z_iload C dX10_movesTwo_28 5 rfl ?_
  refine z_bipush (v := 64) C dX10_movesTwo_30 (by decide) ?_
  refine z_icmp_ge (tgt := 144) C dX10_movesTwo_32 (by decide) (fun c7 => ?_) (fun c7 => ?_)
  · exact z_sub [0, 1, 2, 3, 4] rfl (h144 x4 m)
  · refine z_iload C dX10_movesTwo_35 4 rfl ?_
    refine z_if_ne (tgt := 144) C dX10_movesTwo_37 (by decide) (fun c8 => ?_) (fun c8 => ?_)
    · exact z_sub [0, 1, 2, 3, 4] rfl (h144 x4 m)
    · refine z_aload_n C dX10_movesTwo_40 rfl 0 rfl ?_
      refine z_iload_n C dX10_movesTwo_41 rfl 2 rfl ?_
      refine z_iload C dX10_movesTwo_42 5 rfl ?_
      refine z_chk (fun hk6 => ?_)
      refine z_cVV [.int p2, .int x5] [] C mv_RX10_510 (fun r0 m0 h0 => M_X10_put _ _ _ _ _ _ _ _ h0) rfl rfl ⟨by rw [hrm]; exact Nat.le_of_ble_eq_true rfl, by rw [hrm]; exact Nat.le_of_ble_eq_true rfl⟩ ⟨by rw [hrm]; exact Nat.le_of_ble_eq_true rfl, by rw [hrm]; exact Nat.le_of_ble_eq_true rfl⟩ rfl hk6 rfl rfl rfl (Nat.le_of_ble_eq_true rfl) dX10_movesTwo_44 (fun r3 m7 => ?_)
      refine z_iconst (v := 0) C dX10_movesTwo_47 (by decide) ?_
      refine z_istore (i := 6) (L2 := [(6, .int 0), (0, va_rf (some th)), (1, .int p1), (2, .int p2), (3, .int p3), (4, .int x4), (5, .int x5)]) C dX10_movesTwo_48 (by decide) rfl ?_
      exact z_sub [1, 2, 3, 4, 5, 6, 0] rfl (t_X10_movesTwo_50 C hr hrm th p1 p2 p3 (g_X10_movesTwo_138 th p1 p2 p3 k28 k144) (s_X10_movesTwo_138 C hr hrm th p1 p2 p3 k28 k144 h28 h144) FU x4 x5 0 m7)
def l_X10_movesTwo_28 (th : Nat) (p1 : Int32) (p2 : Int32) (p3 : Int32) (k144 : Int32 → MM → Option (Int32 × MM)) : Nat → Int32 → Int32 → MM → Option (Int32 × MM) := lp (fun _ _ _ => none) (fun k28 => g_X10_movesTwo_28 th p1 p2 p3 k28 k144)
theorem t_X10_movesTwo_28 {Γ : GX} {E : EX} (C : Cx Γ E cX10_movesTwo RX10 7) (hr : Γ.meth.sig.returnType = (some .boolean)) (hrm : Γ.rm = rmX10_movesTwo) (th : Nat) (p1 : Int32) (p2 : Int32) (p3 : Int32) (k144 : Int32 → MM → Option (Int32 × MM)) (h144 : ∀ (x4 : Int32) (m : MM), Sm (QM Γ E emI 0 0) Γ E 7 0 0 144 [(0, va_rf (some th)), (1, .int p1), (2, .int p2), (3, .int p3), (4, .int x4)] [] m (k144 x4 m)) : ∀ (n : Nat) (x4 : Int32) (x5 : Int32) (m : MM), Sm (QM Γ E emI 0 0) Γ E 7 0 0 28 [(0, va_rf (some th)), (1, .int p1), (2, .int p2), (3, .int p3), (4, .int x4), (5, .int x5)] [] m (l_X10_movesTwo_28 th p1 p2 p3 k144 n x4 x5 m) := by
  intro n
  induction n with
  | zero => intros; exact z_none
  | succ n ih => intro x4 x5 m; exact s_X10_movesTwo_28 C hr hrm th p1 p2 p3 (l_X10_movesTwo_28 th p1 p2 p3 k144 n) k144 ih h144 x4 x5 m
set_option maxRecDepth 100000 in
def g_X10_movesTwo_144 (th : Nat) (p1 : Int32) (p2 : Int32) (p3 : Int32) (x4 : Int32) (m : MM) : Option (Int32 × MM) :=
  chk (m.K th = 11) (cal (f_X10_putBack th p2 m) (fun r4 m8 => chk (m8.K th = 11) (cal (f_X10_putBack th p3 m8) (fun r5 m9 => chk (x4 = 0 ∨ x4 = 1) (some (x4, m9))))))
set_option maxHeartbeats 4000000 in
set_option maxRecDepth 100000 in
theorem s_X10_movesTwo_144 {Γ : GX} {E : EX} (C : Cx Γ E cX10_movesTwo RX10 7) (hr : Γ.meth.sig.returnType = (some .boolean)) (hrm : Γ.rm = rmX10_movesTwo) (th : Nat) (p1 : Int32) (p2 : Int32) (p3 : Int32) (x4 : Int32) (m : MM) : Sm (QM Γ E emI 0 0) Γ E 7 0 0 144 [(0, va_rf (some th)), (1, .int p1), (2, .int p2), (3, .int p3), (4, .int x4)] [] m (g_X10_movesTwo_144 th p1 p2 p3 x4 m) := by
  unfold g_X10_movesTwo_144
  refine z_aload_n C dX10_movesTwo_144 rfl 0 rfl ?_
  refine z_iload_n C dX10_movesTwo_145 rfl 2 rfl ?_
  refine z_chk (fun hk7 => ?_)
  refine z_cVV [.int p2] [] C mv_RX10_517 (fun r0 m0 h0 => M_X10_putBack _ _ _ _ _ _ _ h0) rfl rfl ⟨by rw [hrm]; exact Nat.le_of_ble_eq_true rfl, by rw [hrm]; exact Nat.le_of_ble_eq_true rfl⟩ ⟨by rw [hrm]; exact Nat.le_of_ble_eq_true rfl, by rw [hrm]; exact Nat.le_of_ble_eq_true rfl⟩ rfl hk7 rfl rfl rfl (Nat.le_of_ble_eq_true rfl) dX10_movesTwo_146 (fun r4 m8 => ?_)
  refine z_aload_n C dX10_movesTwo_149 rfl 0 rfl ?_
  refine z_iload_n C dX10_movesTwo_150 rfl 3 rfl ?_
  refine z_chk (fun hk8 => ?_)
  refine z_cVV [.int p3] [] C mv_RX10_517 (fun r0 m0 h0 => M_X10_putBack _ _ _ _ _ _ _ h0) rfl rfl ⟨by rw [hrm]; exact Nat.le_of_ble_eq_true rfl, by rw [hrm]; exact Nat.le_of_ble_eq_true rfl⟩ ⟨by rw [hrm]; exact Nat.le_of_ble_eq_true rfl, by rw [hrm]; exact Nat.le_of_ble_eq_true rfl⟩ rfl hk8 rfl rfl rfl (Nat.le_of_ble_eq_true rfl) dX10_movesTwo_151 (fun r5 m9 => ?_)
  refine z_iload C dX10_movesTwo_154 4 rfl ?_
  refine z_chk (fun hb1 => ?_)
  exact z_zret C hr (nb_of hb1) dX10_movesTwo_156
set_option maxRecDepth 100000 in
def g_X10_movesTwo_0 (th : Nat) (p1 : Int32) (p2 : Int32) (p3 : Int32) (m : MM) : Option (Int32 × MM) :=
  chk (m.K th = 11) (cal (f_X10_findPoints th p1 p2 p3 (m.R 1181 th 0) m) (fun r6 m10 => chk (m10.K th = 11) (cal (f_X10_findPoints th p1 p3 p2 (m10.R 1182 th 0) m10) (fun r7 m11 => l_X10_movesTwo_28 th p1 p2 p3 (g_X10_movesTwo_144 th p1 p2 p3) FU 0 0 m11))))
set_option maxHeartbeats 4000000 in
set_option maxRecDepth 100000 in
theorem s_X10_movesTwo_0 {Γ : GX} {E : EX} (C : Cx Γ E cX10_movesTwo RX10 7) (hr : Γ.meth.sig.returnType = (some .boolean)) (hrm : Γ.rm = rmX10_movesTwo) (th : Nat) (p1 : Int32) (p2 : Int32) (p3 : Int32) (m : MM) : Sm (QM Γ E emI 0 0) Γ E 7 0 0 0 [(0, va_rf (some th)), (1, .int p1), (2, .int p2), (3, .int p3)] [] m (g_X10_movesTwo_0 th p1 p2 p3 m) := by
  unfold g_X10_movesTwo_0
  refine z_aload_n C dX10_movesTwo_0 rfl 0 rfl ?_
  refine z_iload_n C dX10_movesTwo_1 rfl 1 rfl ?_
  refine z_iload_n C dX10_movesTwo_2 rfl 2 rfl ?_
  refine z_iload_n C dX10_movesTwo_3 rfl 3 rfl ?_
  refine z_aload_n C dX10_movesTwo_4 rfl 0 rfl ?_
  refine z_chk (fun hk9 => ?_)
  refine z_getR C fl_RX10_170 rfl hk9 dX10_movesTwo_5 ?_
  refine z_cVV [.int p1, .int p2, .int p3, va_rf (m.R 1181 th 0)] [] C mv_RX10_513 (fun r0 m0 h0 => M_X10_findPoints _ _ _ _ _ _ _ _ _ _ h0) rfl rfl ⟨by rw [hrm]; exact Nat.le_of_ble_eq_true rfl, by rw [hrm]; exact Nat.le_of_ble_eq_true rfl⟩ ⟨by rw [hrm]; exact Nat.le_of_ble_eq_true rfl, by rw [hrm]; exact Nat.le_of_ble_eq_true rfl⟩ rfl hk9 rfl rfl rfl (Nat.le_of_ble_eq_true rfl) dX10_movesTwo_8 (fun r6 m10 => ?_)
  refine z_aload_n C dX10_movesTwo_11 rfl 0 rfl ?_
  refine z_iload_n C dX10_movesTwo_12 rfl 1 rfl ?_
  refine z_iload_n C dX10_movesTwo_13 rfl 3 rfl ?_
  refine z_iload_n C dX10_movesTwo_14 rfl 2 rfl ?_
  refine z_aload_n C dX10_movesTwo_15 rfl 0 rfl ?_
  refine z_chk (fun hk10 => ?_)
  refine z_getR C fl_RX10_174 rfl hk10 dX10_movesTwo_16 ?_
  refine z_cVV [.int p1, .int p3, .int p2, va_rf (m10.R 1182 th 0)] [] C mv_RX10_513 (fun r0 m0 h0 => M_X10_findPoints _ _ _ _ _ _ _ _ _ _ h0) rfl rfl ⟨by rw [hrm]; exact Nat.le_of_ble_eq_true rfl, by rw [hrm]; exact Nat.le_of_ble_eq_true rfl⟩ ⟨by rw [hrm]; exact Nat.le_of_ble_eq_true rfl, by rw [hrm]; exact Nat.le_of_ble_eq_true rfl⟩ rfl hk10 rfl rfl rfl (Nat.le_of_ble_eq_true rfl) dX10_movesTwo_19 (fun r7 m11 => ?_)
  refine z_iconst (v := 0) C dX10_movesTwo_22 (by decide) ?_
  refine z_istore (i := 4) (L2 := [(4, .int 0), (0, va_rf (some th)), (1, .int p1), (2, .int p2), (3, .int p3)]) C dX10_movesTwo_23 (by decide) rfl ?_
  refine z_iconst (v := 0) C dX10_movesTwo_25 (by decide) ?_
  refine z_istore (i := 5) (L2 := [(5, .int 0), (4, .int 0), (0, va_rf (some th)), (1, .int p1), (2, .int p2), (3, .int p3)]) C dX10_movesTwo_26 (by decide) rfl ?_
  exact z_sub [2, 3, 4, 5, 1, 0] rfl (t_X10_movesTwo_28 C hr hrm th p1 p2 p3 (g_X10_movesTwo_144 th p1 p2 p3) (s_X10_movesTwo_144 C hr hrm th p1 p2 p3) FU 0 0 m11)
def f_X10_movesTwo (th : Nat) (p1 : Int32) (p2 : Int32) (p3 : Int32) (m : MM) : Option (Int32 × MM) := g_X10_movesTwo_0 th p1 p2 p3 m
theorem M_X10_movesTwo (l : Launch) (E : EX) (th : Nat) (p1 : Int32) (p2 : Int32) (p3 : Int32) (m : MM) (r : Int32) (m2 : MM) (h : f_X10_movesTwo th p1 p2 p3 m = some (r, m2)) : Met l yX10_movesTwo (.code yX10_movesTwo cX10_movesTwo 7 (some .boolean) :: TB) rmX10_movesTwo (va_Pc [.ref th, .int p1, .int p2, .int p3] (St E m)) (QR E (emI r) m2) 0 0 (AA E) :=
  met_of (em := emI) (plainFor_of_name rfl) (Nat.le_of_ble_eq_true rfl) (L0 := [(0, va_rf (some th)), (1, .int p1), (2, .int p2), (3, .int p3)]) rfl (fun Γ _ hrm C hr hn => s_X10_movesTwo_0 C hr hrm th p1 p2 p3 m) h

theorem dX10_findMoved_0 : decode cX10_findMoved 0 = .ok (.aload_n 0, 1) := by decide +kernel
theorem dX10_findMoved_1 : decode cX10_findMoved 1 = .ok (.getfield 443, 3) := by decide +kernel
theorem dX10_findMoved_4 : decode cX10_findMoved 4 = .ok (.ifCond .ne 5, 3) := by decide +kernel
theorem dX10_findMoved_7 : decode cX10_findMoved 7 = .ok (.iconst 0, 1) := by decide +kernel
theorem dX10_findMoved_8 : decode cX10_findMoved 8 = .ok (.ireturn, 1) := by decide +kernel
theorem dX10_findMoved_9 : decode cX10_findMoved 9 = .ok (.iconst 0, 1) := by decide +kernel
theorem dX10_findMoved_10 : decode cX10_findMoved 10 = .ok (.istore_n 2, 1) := by decide +kernel
theorem dX10_findMoved_11 : decode cX10_findMoved 11 = .ok (.iload_n 2, 1) := by decide +kernel
theorem dX10_findMoved_12 : decode cX10_findMoved 12 = .ok (.bipush 12, 2) := by decide +kernel
theorem dX10_findMoved_14 : decode cX10_findMoved 14 = .ok (.if_icmp .ge 40, 3) := by decide +kernel
theorem dX10_findMoved_17 : decode cX10_findMoved 17 = .ok (.aload_n 0, 1) := by decide +kernel
theorem dX10_findMoved_18 : decode cX10_findMoved 18 = .ok (.iload_n 2, 1) := by decide +kernel
theorem dX10_findMoved_19 : decode cX10_findMoved 19 = .ok (.invokevirtual 446, 3) := by decide +kernel
theorem dX10_findMoved_22 : decode cX10_findMoved 22 = .ok (.ifCond .eq 26, 3) := by decide +kernel
theorem dX10_findMoved_25 : decode cX10_findMoved 25 = .ok (.aload_n 0, 1) := by decide +kernel
theorem dX10_findMoved_26 : decode cX10_findMoved 26 = .ok (.iconst 1, 1) := by decide +kernel
theorem dX10_findMoved_27 : decode cX10_findMoved 27 = .ok (.iload_n 2, 1) := by decide +kernel
theorem dX10_findMoved_28 : decode cX10_findMoved 28 = .ok (.ishl, 1) := by decide +kernel
theorem dX10_findMoved_29 : decode cX10_findMoved 29 = .ok (.invokevirtual 498, 3) := by decide +kernel
theorem dX10_findMoved_32 : decode cX10_findMoved 32 = .ok (.ifCond .eq 16, 3) := by decide +kernel
theorem dX10_findMoved_35 : decode cX10_findMoved 35 = .ok (.aload_n 0, 1) := by decide +kernel
theorem dX10_findMoved_36 : decode cX10_findMoved 36 = .ok (.iload_n 1, 1) := by decide +kernel
theorem dX10_findMoved_37 : decode cX10_findMoved 37 = .ok (.iload_n 2, 1) := by decide +kernel
theorem dX10_findMoved_38 : decode cX10_findMoved 38 = .ok (.invokevirtual 532, 3) := by decide +kernel
theorem dX10_findMoved_41 : decode cX10_findMoved 41 = .ok (.ifCond .eq 7, 3) := by decide +kernel
theorem dX10_findMoved_44 : decode cX10_findMoved 44 = .ok (.iconst 1, 1) := by decide +kernel
theorem dX10_findMoved_45 : decode cX10_findMoved 45 = .ok (.iload_n 2, 1) := by decide +kernel
theorem dX10_findMoved_46 : decode cX10_findMoved 46 = .ok (.ishl, 1) := by decide +kernel
theorem dX10_findMoved_47 : decode cX10_findMoved 47 = .ok (.ireturn, 1) := by decide +kernel
theorem dX10_findMoved_48 : decode cX10_findMoved 48 = .ok (.iinc 2 1, 3) := by decide +kernel
theorem dX10_findMoved_51 : decode cX10_findMoved 51 = .ok (.goto (-40), 3) := by decide +kernel
theorem dX10_findMoved_54 : decode cX10_findMoved 54 = .ok (.iconst 0, 1) := by decide +kernel
theorem dX10_findMoved_55 : decode cX10_findMoved 55 = .ok (.istore_n 2, 1) := by decide +kernel
theorem dX10_findMoved_56 : decode cX10_findMoved 56 = .ok (.iload_n 2, 1) := by decide +kernel
theorem dX10_findMoved_57 : decode cX10_findMoved 57 = .ok (.bipush 12, 2) := by decide +kernel
theorem dX10_findMoved_59 : decode cX10_findMoved 59 = .ok (.if_icmp .ge 73, 3) := by decide +kernel
theorem dX10_findMoved_62 : decode cX10_findMoved 62 = .ok (.iload_n 2, 1) := by decide +kernel
theorem dX10_findMoved_63 : decode cX10_findMoved 63 = .ok (.iconst 1, 1) := by decide +kernel
theorem dX10_findMoved_64 : decode cX10_findMoved 64 = .ok (.iadd, 1) := by decide +kernel
theorem dX10_findMoved_65 : decode cX10_findMoved 65 = .ok (.istore_n 3, 1) := by decide +kernel
theorem dX10_findMoved_66 : decode cX10_findMoved 66 = .ok (.iload_n 3, 1) := by decide +kernel
theorem dX10_findMoved_67 : decode cX10_findMoved 67 = .ok (.bipush 12, 2) := by decide +kernel
theorem dX10_findMoved_69 : decode cX10_findMoved 69 = .ok (.if_icmp .ge 57, 3) := by decide +kernel
theorem dX10_findMoved_72 : decode cX10_findMoved 72 = .ok (.aload_n 0, 1) := by decide +kernel
theorem dX10_findMoved_73 : decode cX10_findMoved 73 = .ok (.iload_n 2, 1) := by decide +kernel
theorem dX10_findMoved_74 : decode cX10_findMoved 74 = .ok (.invokevirtual 446, 3) := by decide +kernel
theorem dX10_findMoved_77 : decode cX10_findMoved 77 = .ok (.ifCond .eq 43, 3) := by decide +kernel
theorem dX10_findMoved_80 : decode cX10_findMoved 80 = .ok (.aload_n 0, 1) := by decide +kernel
theorem dX10_findMoved_81 : decode cX10_findMoved 81 = .ok (.iload_n 3, 1) := by decide +kernel
theorem dX10_findMoved_82 : decode cX10_findMoved 82 = .ok (.invokevirtual 446, 3) := by decide +kernel
theorem dX10_findMoved_85 : decode cX10_findMoved 85 = .ok (.ifCond .eq 35, 3) := by decide +kernel
theorem dX10_findMoved_88 : decode cX10_findMoved 88 = .ok (.aload_n 0, 1) := by decide +kernel
theorem dX10_findMoved_89 : decode cX10_findMoved 89 = .ok (.iconst 1, 1) := by decide +kernel
theorem dX10_findMoved_90 : decode cX10_findMoved 90 = .ok (.iload_n 2, 1) := by decide +kernel
theorem dX10_findMoved_91 : decode cX10_findMoved 91 = .ok (.ishl, 1) := by decide +kernel
theorem dX10_findMoved_92 : decode cX10_findMoved 92 = .ok (.iconst 1, 1) := by decide +kernel
theorem dX10_findMoved_93 : decode cX10_findMoved 93 = .ok (.iload_n 3, 1) := by decide +kernel
theorem dX10_findMoved_94 : decode cX10_findMoved 94 = .ok (.ishl, 1) := by decide +kernel
theorem dX10_findMoved_95 : decode cX10_findMoved 95 = .ok (.ior, 1) := by decide +kernel
theorem dX10_findMoved_96 : decode cX10_findMoved 96 = .ok (.invokevirtual 498, 3) := by decide +kernel
theorem dX10_findMoved_99 : decode cX10_findMoved 99 = .ok (.ifCond .eq 21, 3) := by decide +kernel
theorem dX10_findMoved_102 : decode cX10_findMoved 102 = .ok (.aload_n 0, 1) := by decide +kernel
theorem dX10_findMoved_103 : decode cX10_findMoved 103 = .ok (.iload_n 1, 1) := by decide +kernel
theorem dX10_findMoved_104 : decode cX10_findMoved 104 = .ok (.iload_n 2, 1) := by decide +kernel
theorem dX10_findMoved_105 : decode cX10_findMoved 105 = .ok (.iload_n 3, 1) := by decide +kernel
theorem dX10_findMoved_106 : decode cX10_findMoved 106 = .ok (.invokevirtual 535, 3) := by decide +kernel
theorem dX10_findMoved_109 : decode cX10_findMoved 109 = .ok (.ifCond .eq 11, 3) := by decide +kernel
theorem dX10_findMoved_112 : decode cX10_findMoved 112 = .ok (.iconst 1, 1) := by decide +kernel
theorem dX10_findMoved_113 : decode cX10_findMoved 113 = .ok (.iload_n 2, 1) := by decide +kernel
theorem dX10_findMoved_114 : decode cX10_findMoved 114 = .ok (.ishl, 1) := by decide +kernel
theorem dX10_findMoved_115 : decode cX10_findMoved 115 = .ok (.iconst 1, 1) := by decide +kernel
theorem dX10_findMoved_116 : decode cX10_findMoved 116 = .ok (.iload_n 3, 1) := by decide +kernel
theorem dX10_findMoved_117 : decode cX10_findMoved 117 = .ok (.ishl, 1) := by decide +kernel
theorem dX10_findMoved_118 : decode cX10_findMoved 118 = .ok (.ior, 1) := by decide +kernel
theorem dX10_findMoved_119 : decode cX10_findMoved 119 = .ok (.ireturn, 1) := by decide +kernel
theorem dX10_findMoved_120 : decode cX10_findMoved 120 = .ok (.iinc 3 1, 3) := by decide +kernel
theorem dX10_findMoved_123 : decode cX10_findMoved 123 = .ok (.goto (-57), 3) := by decide +kernel
theorem dX10_findMoved_126 : decode cX10_findMoved 126 = .ok (.iinc 2 1, 3) := by decide +kernel
theorem dX10_findMoved_129 : decode cX10_findMoved 129 = .ok (.goto (-73), 3) := by decide +kernel
theorem dX10_findMoved_132 : decode cX10_findMoved 132 = .ok (.iconst (-1), 1) := by decide +kernel
theorem dX10_findMoved_133 : decode cX10_findMoved 133 = .ok (.ireturn, 1) := by decide +kernel
def rmX10_findMoved : Room := { frames := 8, cells := 0, slots := 0, locals := 211 }
set_option maxRecDepth 100000 in
def g_X10_findMoved_48 (th : Nat) (p1 : Int32) (k11 : Int32 → MM → Option (Int32 × MM)) (k54 : MM → Option (Int32 × MM)) (x2 : Int32) (m : MM) : Option (Int32 × MM) :=
  k11 (x2 + 1) m
set_option maxHeartbeats 4000000 in
set_option maxRecDepth 100000 in
theorem s_X10_findMoved_48 {Γ : GX} {E : EX} (C : Cx Γ E cX10_findMoved RX10 4) (hr : Γ.meth.sig.returnType = (some .int)) (hrm : Γ.rm = rmX10_findMoved) (th : Nat) (p1 : Int32) (k11 : Int32 → MM → Option (Int32 × MM)) (k54 : MM → Option (Int32 × MM)) (h11 : ∀ (x2 : Int32) (m : MM), Sm (QM Γ E emI 0 0) Γ E 4 0 0 11 [(0, va_rf (some th)), (1, .int p1), (2, .int x2)] [] m (k11 x2 m)) (h54 : ∀ (m : MM), Sm (QM Γ E emI 0 0) Γ E 4 0 0 54 [(0, va_rf (some th)), (1, .int p1)] [] m (k54 m)) (x2 : Int32) (m : MM) : Sm (QM Γ E emI 0 0) Γ E 4 0 0 48 [(0, va_rf (some th)), (1, .int p1), (2, .int x2)] [] m (g_X10_findMoved_48 th p1 k11 k54 x2 m) := by
  unfold g_X10_findMoved_48
  refine z_iinc (v := 1) (L2 := [(2, .int (x2 + 1)), (0, va_rf (some th)), (1, .int p1)]) C dX10_findMoved_48 2 rfl (by decide) (by decide) rfl ?_
  refine z_goto (tgt := 11) C dX10_findMoved_51 (by decide) ?_
  exact z_sub [1, 2, 0] rfl (h11 (x2 + 1) m)
set_option maxRecDepth 100000 in
def g_X10_findMoved_11 (th : Nat) (p1 : Int32) (k11 : Int32 → MM → Option (Int32 × MM)) (k54 : MM → Option (Int32 × MM)) (x2 : Int32) (m : MM) : Option (Int32 × MM) :=
  if 12 ≤ x2 then (k54 m) else (chk (m.K th = 11) (cal (f_X10_stands th x2 m) (fun r1 m1 => if r1 = 0 then (g_X10_findMoved_48 th p1 k11 k54 x2 m1) else (chk (m1.K th = 11) (cal (f_X10_frees th (1 <<< (x2 &&& 31)) m1) (fun r2 m2 => if r2 = 0 then (g_X10_findMoved_48 th p1 k11 k54 x2 m2) else (chk (m2.K th = 11) (cal (f_X10_movesOne th p1 x2 m2) (fun r3 m3 => if r3 = 0 then (g_X10_findMoved_48 th p1 k11 k54 x2 m3) else (some (1 <<< (x2 &&& 31), m3)))))))))))
set_option maxHeartbeats 4000000 in
set_option maxRecDepth 100000 in
theorem s_X10_findMoved_11 {Γ : GX} {E : EX} (C : Cx Γ E cX10_findMoved RX10 4) (hr : Γ.meth.sig.returnType = (some .int)) (hrm : Γ.rm = rmX10_findMoved) (th : Nat) (p1 : Int32) (k11 : Int32 → MM → Option (Int32 × MM)) (k54 : MM → Option (Int32 × MM)) (h11 : ∀ (x2 : Int32) (m : MM), Sm (QM Γ E emI 0 0) Γ E 4 0 0 11 [(0, va_rf (some th)), (1, .int p1), (2, .int x2)] [] m (k11 x2 m)) (h54 : ∀ (m : MM), Sm (QM Γ E emI 0 0) Γ E 4 0 0 54 [(0, va_rf (some th)), (1, .int p1)] [] m (k54 m)) (x2 : Int32) (m : MM) : Sm (QM Γ E emI 0 0) Γ E 4 0 0 11 [(0, va_rf (some th)), (1, .int p1), (2, .int x2)] [] m (g_X10_findMoved_11 th p1 k11 k54 x2 m) := by
  unfold g_X10_findMoved_11
  refine z_iload_n C dX10_findMoved_11 rfl 2 rfl ?_
  refine z_bipush (v := 12) C dX10_findMoved_12 (by decide) ?_
  refine z_icmp_ge (tgt := 54) C dX10_findMoved_14 (by decide) (fun c1 => ?_) (fun c1 => ?_)
  · exact z_sub [0, 1] rfl (h54 m)
  · refine z_aload_n C dX10_findMoved_17 rfl 0 rfl ?_
    refine z_iload_n C dX10_findMoved_18 rfl 2 rfl ?_
    refine z_chk (fun hk1 => ?_)
    refine z_cVI [.int x2] [] C mv_RX10_446 (fun r0 m0 h0 => M_X10_stands _ _ _ _ _ _ _ h0) rfl rfl ⟨by rw [hrm]; exact Nat.le_of_ble_eq_true rfl, by rw [hrm]; exact Nat.le_of_ble_eq_true rfl⟩ ⟨by rw [hrm]; exact Nat.le_of_ble_eq_true rfl, by rw [hrm]; exact Nat.le_of_ble_eq_true rfl⟩ rfl hk1 rfl rfl rfl (Nat.le_of_ble_eq_true rfl) dX10_findMoved_19 (fun r1 m1 => ?_)
    refine z_if_eq (tgt := 48) C dX10_findMoved_22 (by decide) (fun c2 => ?_) (fun c2 => ?_)
    · exact z_sub [0, 1, 2] rfl (s_X10_findMoved_48 C hr hrm th p1 k11 k54 h11 h54 x2 m1)
    · refine z_aload_n C dX10_findMoved_25 rfl 0 rfl ?_
      refine z_iconst (v := 1) C dX10_findMoved_26 (by decide) ?_
      refine z_iload_n C dX10_findMoved_27 rfl 2 rfl ?_
      refine z_ishl C dX10_findMoved_28 ?_
      refine z_chk (fun hk2 => ?_)
      refine z_cVI [.int (1 <<< (x2 &&& 31))] [] C mv_RX10_498 (fun r0 m0 h0 => M_X10_frees _ _ _ _ _ _ _ h0) rfl rfl ⟨by rw [hrm]; exact Nat.le_of_ble_eq_true rfl, by rw [hrm]; exact Nat.le_of_ble_eq_true rfl⟩ ⟨by rw [hrm]; exact Nat.le_of_ble_eq_true rfl, by rw [hrm]; exact Nat.le_of_ble_eq_true rfl⟩ rfl hk2 rfl rfl rfl (Nat.le_of_ble_eq_true rfl) dX10_findMoved_29 (fun r2 m2 => ?_)
      refine z_if_eq (tgt := 48) C dX10_findMoved_32 (by decide) (fun c3 => ?_) (fun c3 => ?_)
      · exact z_sub [0, 1, 2] rfl (s_X10_findMoved_48 C hr hrm th p1 k11 k54 h11 h54 x2 m2)
      · refine z_aload_n C dX10_findMoved_35 rfl 0 rfl ?_
        refine z_iload_n C dX10_findMoved_36 rfl 1 rfl ?_
        refine z_iload_n C dX10_findMoved_37 rfl 2 rfl ?_
        refine z_chk (fun hk3 => ?_)
        refine z_cVI [.int p1, .int x2] [] C mv_RX10_532 (fun r0 m0 h0 => M_X10_movesOne _ _ _ _ _ _ _ _ h0) rfl rfl ⟨by rw [hrm]; exact Nat.le_of_ble_eq_true rfl, by rw [hrm]; exact Nat.le_of_ble_eq_true rfl⟩ ⟨by rw [hrm]; exact Nat.le_of_ble_eq_true rfl, by rw [hrm]; exact Nat.le_of_ble_eq_true rfl⟩ rfl hk3 rfl rfl rfl (Nat.le_of_ble_eq_true rfl) dX10_findMoved_38 (fun r3 m3 => ?_)
        refine z_if_eq (tgt := 48) C dX10_findMoved_41 (by decide) (fun c4 => ?_) (fun c4 => ?_)
        · exact z_sub [0, 1, 2] rfl (s_X10_findMoved_48 C hr hrm th p1 k11 k54 h11 h54 x2 m3)
        · refine z_iconst (v := 1) C dX10_findMoved_44 (by decide) ?_
          refine z_iload_n C dX10_findMoved_45 rfl 2 rfl ?_
          refine z_ishl C dX10_findMoved_46 ?_
          exact z_iret C hr dX10_findMoved_47
def l_X10_findMoved_11 (th : Nat) (p1 : Int32) (k54 : MM → Option (Int32 × MM)) : Nat → Int32 → MM → Option (Int32 × MM) := lp (fun _ _ => none) (fun k11 => g_X10_findMoved_11 th p1 k11 k54)
theorem t_X10_findMoved_11 {Γ : GX} {E : EX} (C : Cx Γ E cX10_findMoved RX10 4) (hr : Γ.meth.sig.returnType = (some .int)) (hrm : Γ.rm = rmX10_findMoved) (th : Nat) (p1 : Int32) (k54 : MM → Option (Int32 × MM)) (h54 : ∀ (m : MM), Sm (QM Γ E emI 0 0) Γ E 4 0 0 54 [(0, va_rf (some th)), (1, .int p1)] [] m (k54 m)) : ∀ (n : Nat) (x2 : Int32) (m : MM), Sm (QM Γ E emI 0 0) Γ E 4 0 0 11 [(0, va_rf (some th)), (1, .int p1), (2, .int x2)] [] m (l_X10_findMoved_11 th p1 k54 n x2 m) := by
  intro n
  induction n with
  | zero => intros; exact z_none
  | succ n ih => intro x2 m; exact s_X10_findMoved_11 C hr hrm th p1 (l_X10_findMoved_11 th p1 k54 n) k54 ih h54 x2 m
set_option maxRecDepth 100000 in
def g_X10_findMoved_120 (th : Nat) (p1 : Int32) (k66 : Int32 → Int32 → MM → Option (Int32 × MM)) (k112 : Int32 → Int32 → MM → Option (Int32 × MM)) (k126 : Int32 → MM → Option (Int32 × MM)) (x2 : Int32) (x3 : Int32) (m : MM) : Option (Int32 × MM) :=
  k66 x2 (x3 + 1) m
set_option maxHeartbeats 4000000 in
set_option maxRecDepth 100000 in
theorem s_X10_findMoved_120 {Γ : GX} {E : EX} (C : Cx Γ E cX10_findMoved RX10 4) (hr : Γ.meth.sig.returnType = (some .int)) (hrm : Γ.rm = rmX10_findMoved) (th : Nat) (p1 : Int32) (k66 : Int32 → Int32 → MM → Option (Int32 × MM)) (k112 : Int32 → Int32 → MM → Option (Int32 × MM)) (k126 : Int32 → MM → Option (Int32 × MM)) (h66 : ∀ (x2 : Int32) (x3 : Int32) (m : MM), Sm (QM Γ E emI 0 0) Γ E 4 0 0 66 [(0, va_rf (some th)), (1, .int p1), (2, .int x2), (3, .int x3)] [] m (k66 x2 x3 m)) (h112 : ∀ (x2 : Int32) (x3 : Int32) (m : MM), Sm (QM Γ E emI 0 0) Γ E 4 0 0 112 [(0, va_rf (some th)), (1, .int p1), (2, .int x2), (3, .int x3)] [] m (k112 x2 x3 m)) (h126 : ∀ (x2 : Int32) (m : MM), Sm (QM Γ E emI 0 0) Γ E 4 0 0 126 [(0, va_rf (some th)), (1, .int p1), (2, .int x2)] [] m (k126 x2 m)) (x2 : Int32) (x3 : Int32) (m : MM) : Sm (QM Γ E emI 0 0) Γ E 4 0 0 120 [(0, va_rf (some th)), (1, .int p1), (2, .int x2), (3, .int x3)] [] m (g_X10_findMoved_120 th p1 k66 k112 k126 x2 x3 m) := by
  unfold g_X10_findMoved_120
  refine z_iinc (v := 1) (L2 := [(3, .int (x3 + 1)), (0, va_rf (some th)), (1, .int p1), (2, .int x2)]) C dX10_findMoved_120 3 rfl (by decide) (by decide) rfl ?_
  refine z_goto (tgt := 66) C dX10_findMoved_123 (by decide) ?_
  exact z_sub [1, 2, 3, 0] rfl (h66 x2 (x3 + 1) m)
set_option maxRecDepth 100000 in
def g_X10_findMoved_66 (th : Nat) (p1 : Int32) (k66 : Int32 → Int32 → MM → Option (Int32 × MM)) (k112 : Int32 → Int32 → MM → Option (Int32 × MM)) (k126 : Int32 → MM → Option (Int32 × MM)) (x2 : Int32) (x3 : Int32) (m : MM) : Option (Int32 × MM) :=
  if 12 ≤ x3 then (k126 x2 m) else (chk (m.K th = 11) (cal (f_X10_stands th x2 m) (fun r4 m4 => if r4 = 0 then (g_X10_findMoved_120 th p1 k66 k112 k126 x2 x3 m4) else (chk (m4.K th = 11) (cal (f_X10_stands th x3 m4) (fun r5 m5 => if r5 = 0 then (g_X10_findMoved_120 th p1 k66 k112 k126 x2 x3 m5) else (chk (m5.K th = 11) (cal (f_X10_frees th ((1 <<< (x2 &&& 31)) ||| (1 <<< (x3 &&& 31))) m5) (fun r6 m6 => if r6 = 0 then (g_X10_findMoved_120 th p1 k66 k112 k126 x2 x3 m6) else (chk (m6.K th = 11) (cal (f_X10_movesTwo th p1 x2 x3 m6) (fun r7 m7 => if r7 = 0 then (g_X10_findMoved_120 th p1 k66 k112 k126 x2 x3 m7) else (k112 x2 x3 m7)))))))))))))
set_option maxHeartbeats 4000000 in
set_option maxRecDepth 100000 in
theorem s_X10_findMoved_66 {Γ : GX} {E : EX} (C : Cx Γ E cX10_findMoved RX10 4) (hr : Γ.meth.sig.returnType = (some .int)) (hrm : Γ.rm = rmX10_findMoved) (th : Nat) (p1 : Int32) (k66 : Int32 → Int32 → MM → Option (Int32 × MM)) (k112 : Int32 → Int32 → MM → Option (Int32 × MM)) (k126 : Int32 → MM → Option (Int32 × MM)) (h66 : ∀ (x2 : Int32) (x3 : Int32) (m : MM), Sm (QM Γ E emI 0 0) Γ E 4 0 0 66 [(0, va_rf (some th)), (1, .int p1), (2, .int x2), (3, .int x3)] [] m (k66 x2 x3 m)) (h112 : ∀ (x2 : Int32) (x3 : Int32) (m : MM), Sm (QM Γ E emI 0 0) Γ E 4 0 0 112 [(0, va_rf (some th)), (1, .int p1), (2, .int x2), (3, .int x3)] [] m (k112 x2 x3 m)) (h126 : ∀ (x2 : Int32) (m : MM), Sm (QM Γ E emI 0 0) Γ E 4 0 0 126 [(0, va_rf (some th)), (1, .int p1), (2, .int x2)] [] m (k126 x2 m)) (x2 : Int32) (x3 : Int32) (m : MM) : Sm (QM Γ E emI 0 0) Γ E 4 0 0 66 [(0, va_rf (some th)), (1, .int p1), (2, .int x2), (3, .int x3)] [] m (g_X10_findMoved_66 th p1 k66 k112 k126 x2 x3 m) := by
  unfold g_X10_findMoved_66
  refine z_iload_n C dX10_findMoved_66 rfl 3 rfl ?_
  refine z_bipush (v := 12) C dX10_findMoved_67 (by decide) ?_
  refine z_icmp_ge (tgt := 126) C dX10_findMoved_69 (by decide) (fun c5 => ?_) (fun c5 => ?_)
  · exact z_sub [0, 1, 2] rfl (h126 x2 m)
  · refine z_aload_n C dX10_findMoved_72 rfl 0 rfl ?_
    refine z_iload_n C dX10_findMoved_73 rfl 2 rfl ?_
    refine z_chk (fun hk4 => ?_)
    refine z_cVI [.int x2] [] C mv_RX10_446 (fun r0 m0 h0 => M_X10_stands _ _ _ _ _ _ _ h0) rfl rfl ⟨by rw [hrm]; exact Nat.le_of_ble_eq_true rfl, by rw [hrm]; exact Nat.le_of_ble_eq_true rfl⟩ ⟨by rw [hrm]; exact Nat.le_of_ble_eq_true rfl, by rw [hrm]; exact Nat.le_of_ble_eq_true rfl⟩ rfl hk4 rfl rfl rfl (Nat.le_of_ble_eq_true rfl) dX10_findMoved_74 (fun r4 m4 => ?_)
    refine z_if_eq (tgt := 120) C dX10_findMoved_77 (by decide) (fun c6 => ?_) (fun c6 => ?_)
    · exact z_sub [0, 1, 2, 3] rfl (s_X10_findMoved_120 C hr hrm th p1 k66 k112 k126 h66 h112 h126 x2 x3 m4)
    · refine z_aload_n C dX10_findMoved_80 rfl 0 rfl ?_
      refine z_iload_n C dX10_findMoved_81 rfl 3 rfl ?_
      refine z_chk (fun hk5 => ?_)
      refine z_cVI [.int x3] [] C mv_RX10_446 (fun r0 m0 h0 => M_X10_stands _ _ _ _ _ _ _ h0) rfl rfl ⟨by rw [hrm]; exact Nat.le_of_ble_eq_true rfl, by rw [hrm]; exact Nat.le_of_ble_eq_true rfl⟩ ⟨by rw [hrm]; exact Nat.le_of_ble_eq_true rfl, by rw [hrm]; exact Nat.le_of_ble_eq_true rfl⟩ rfl hk5 rfl rfl rfl (Nat.le_of_ble_eq_true rfl) dX10_findMoved_82 (fun r5 m5 => ?_)
      refine z_if_eq (tgt := 120) C dX10_findMoved_85 (by decide) (fun c7 => ?_) (fun c7 => ?_)
      · exact z_sub [0, 1, 2, 3] rfl (s_X10_findMoved_120 C hr hrm th p1 k66 k112 k126 h66 h112 h126 x2 x3 m5)
      · refine z_aload_n C dX10_findMoved_88 rfl 0 rfl ?_
        refine z_iconst (v := 1) C dX10_findMoved_89 (by decide) ?_
        refine z_iload_n C dX10_findMoved_90 rfl 2 rfl ?_
        refine z_ishl C dX10_findMoved_91 ?_
        refine z_iconst (v := 1) C dX10_findMoved_92 (by decide) ?_
        refine z_iload_n C dX10_findMoved_93 rfl 3 rfl ?_
        refine z_ishl C dX10_findMoved_94 ?_
        refine z_ior C dX10_findMoved_95 ?_
        refine z_chk (fun hk6 => ?_)
        refine z_cVI [.int ((1 <<< (x2 &&& 31)) ||| (1 <<< (x3 &&& 31)))] [] C mv_RX10_498 (fun r0 m0 h0 => M_X10_frees _ _ _ _ _ _ _ h0) rfl rfl ⟨by rw [hrm]; exact Nat.le_of_ble_eq_true rfl, by rw [hrm]; exact Nat.le_of_ble_eq_true rfl⟩ ⟨by rw [hrm]; exact Nat.le_of_ble_eq_true rfl, by rw [hrm]; exact Nat.le_of_ble_eq_true rfl⟩ rfl hk6 rfl rfl rfl (Nat.le_of_ble_eq_true rfl) dX10_findMoved_96 (fun r6 m6 => ?_)
        refine z_if_eq (tgt := 120) C dX10_findMoved_99 (by decide) (fun c8 => ?_) (fun c8 => ?_)
        · exact z_sub [0, 1, 2, 3] rfl (s_X10_findMoved_120 C hr hrm th p1 k66 k112 k126 h66 h112 h126 x2 x3 m6)
        · refine z_aload_n C dX10_findMoved_102 rfl 0 rfl ?_
          refine z_iload_n C dX10_findMoved_103 rfl 1 rfl ?_
          refine z_iload_n C dX10_findMoved_104 rfl 2 rfl ?_
          refine z_iload_n C dX10_findMoved_105 rfl 3 rfl ?_
          refine z_chk (fun hk7 => ?_)
          refine z_cVI [.int p1, .int x2, .int x3] [] C mv_RX10_535 (fun r0 m0 h0 => M_X10_movesTwo _ _ _ _ _ _ _ _ _ h0) rfl rfl ⟨by rw [hrm]; exact Nat.le_of_ble_eq_true rfl, by rw [hrm]; exact Nat.le_of_ble_eq_true rfl⟩ ⟨by rw [hrm]; exact Nat.le_of_ble_eq_true rfl, by rw [hrm]; exact Nat.le_of_ble_eq_true rfl⟩ rfl hk7 rfl rfl rfl (Nat.le_of_ble_eq_true rfl) dX10_findMoved_106 (fun r7 m7 => ?_)
          refine z_if_eq (tgt := 120) C dX10_findMoved_109 (by decide) (fun c9 => ?_) (fun c9 => ?_)
          · exact z_sub [0, 1, 2, 3] rfl (s_X10_findMoved_120 C hr hrm th p1 k66 k112 k126 h66 h112 h126 x2 x3 m7)
          · exact z_sub [0, 1, 2, 3] rfl (h112 x2 x3 m7)
def l_X10_findMoved_66 (th : Nat) (p1 : Int32) (k112 : Int32 → Int32 → MM → Option (Int32 × MM)) (k126 : Int32 → MM → Option (Int32 × MM)) : Nat → Int32 → Int32 → MM → Option (Int32 × MM) := lp (fun _ _ _ => none) (fun k66 => g_X10_findMoved_66 th p1 k66 k112 k126)
theorem t_X10_findMoved_66 {Γ : GX} {E : EX} (C : Cx Γ E cX10_findMoved RX10 4) (hr : Γ.meth.sig.returnType = (some .int)) (hrm : Γ.rm = rmX10_findMoved) (th : Nat) (p1 : Int32) (k112 : Int32 → Int32 → MM → Option (Int32 × MM)) (k126 : Int32 → MM → Option (Int32 × MM)) (h112 : ∀ (x2 : Int32) (x3 : Int32) (m : MM), Sm (QM Γ E emI 0 0) Γ E 4 0 0 112 [(0, va_rf (some th)), (1, .int p1), (2, .int x2), (3, .int x3)] [] m (k112 x2 x3 m)) (h126 : ∀ (x2 : Int32) (m : MM), Sm (QM Γ E emI 0 0) Γ E 4 0 0 126 [(0, va_rf (some th)), (1, .int p1), (2, .int x2)] [] m (k126 x2 m)) : ∀ (n : Nat) (x2 : Int32) (x3 : Int32) (m : MM), Sm (QM Γ E emI 0 0) Γ E 4 0 0 66 [(0, va_rf (some th)), (1, .int p1), (2, .int x2), (3, .int x3)] [] m (l_X10_findMoved_66 th p1 k112 k126 n x2 x3 m) := by
  intro n
  induction n with
  | zero => intros; exact z_none
  | succ n ih => intro x2 x3 m; exact s_X10_findMoved_66 C hr hrm th p1 (l_X10_findMoved_66 th p1 k112 k126 n) k112 k126 ih h112 h126 x2 x3 m
set_option maxRecDepth 100000 in
def g_X10_findMoved_126 (th : Nat) (p1 : Int32) (k56 : Int32 → MM → Option (Int32 × MM)) (k112 : Int32 → Int32 → MM → Option (Int32 × MM)) (x2 : Int32) (m : MM) : Option (Int32 × MM) :=
  k56 (x2 + 1) m
set_option maxHeartbeats 4000000 in
set_option maxRecDepth 100000 in
theorem s_X10_findMoved_126 {Γ : GX} {E : EX} (C : Cx Γ E cX10_findMoved RX10 4) (hr : Γ.meth.sig.returnType = (some .int)) (hrm : Γ.rm = rmX10_findMoved) (th : Nat) (p1 : Int32) (k56 : Int32 → MM → Option (Int32 × MM)) (k112 : Int32 → Int32 → MM → Option (Int32 × MM)) (h56 : ∀ (x2 : Int32) (m : MM), Sm (QM Γ E emI 0 0) Γ E 4 0 0 56 [(0, va_rf (some th)), (1, .int p1), (2, .int x2)] [] m (k56 x2 m)) (h112 : ∀ (x2 : Int32) (x3 : Int32) (m : MM), Sm (QM Γ E emI 0 0) Γ E 4 0 0 112 [(0, va_rf (some th)), (1, .int p1), (2, .int x2), (3, .int x3)] [] m (k112 x2 x3 m)) (x2 : Int32) (m : MM) : Sm (QM Γ E emI 0 0) Γ E 4 0 0 126 [(0, va_rf (some th)), (1, .int p1), (2, .int x2)] [] m (g_X10_findMoved_126 th p1 k56 k112 x2 m) := by
  unfold g_X10_findMoved_126
  refine z_iinc (v := 1) (L2 := [(2, .int (x2 + 1)), (0, va_rf (some th)), (1, .int p1)]) C dX10_findMoved_126 2 rfl (by decide) (by decide) rfl ?_
  refine z_goto (tgt := 56) C dX10_findMoved_129 (by decide) ?_
  exact z_sub [1, 2, 0] rfl (h56 (x2 + 1) m)
set_option maxRecDepth 100000 in
def g_X10_findMoved_56 (th : Nat) (p1 : Int32) (k56 : Int32 → MM → Option (Int32 × MM)) (k112 : Int32 → Int32 → MM → Option (Int32 × MM)) (x2 : Int32) (m : MM) : Option (Int32 × MM) :=
  if 12 ≤ x2 then (some ((-1), m)) else (bnd (x2 + 1) (fun y1 => l_X10_findMoved_66 th p1 (k112) (g_X10_findMoved_126 th p1 k56 k112) FU x2 y1 m))
set_option maxHeartbeats 4000000 in
set_option maxRecDepth 100000 in
theorem s_X10_findMoved_56 {Γ : GX} {E : EX} (C : Cx Γ E cX10_findMoved RX10 4) (hr : Γ.meth.sig.returnType = (some .int)) (hrm : Γ.rm = rmX10_findMoved) (th : Nat) (p1 : Int32) (k56 : Int32 → MM → Option (Int32 × MM)) (k112 : Int32 → Int32 → MM → Option (Int32 × MM)) (h56 : ∀ (x2 : Int32) (m : MM), Sm (QM Γ E emI 0 0) Γ E 4 0 0 56 [(0, va_rf (some th)), (1, .int p1), (2, .int x2)] [] m (k56 x2 m)) (h112 : ∀ (x2 : Int32) (x3 : Int32) (m : MM), Sm (QM Γ E emI 0 0) Γ E 4 0 0 112 [(0, va_rf (some th)), (1, .int p1), (2, .int x2), (3, .int x3)] [] m (k112 x2 x3 m)) (x2 : Int32) (m : MM) : Sm (QM Γ E emI 0 0) Γ E 4 0 0 56 [(0, va_rf (some th)), (1, .int p1), (2, .int x2)] [] m (g_X10_findMoved_56 th p1 k56 k112 x2 m) := by
  unfold g_X10_findMoved_56
  refine z_iload_n C dX10_findMoved_56 rfl 2 rfl ?_
  refine z_bipush (v := 12) C dX10_findMoved_57 (by decide) ?_
  refine z_icmp_ge (tgt := 132) C dX10_findMoved_59 (by decide) (fun c10 => ?_) (fun c10 => ?_)
  · refine z_iconst (v := (-1)) C dX10_findMoved_132 (by decide) ?_
    exact z_iret C hr dX10_findMoved_133
  · refine z_iload_n C dX10_findMoved_62 rfl 2 rfl ?_
    refine z_iconst (v := 1) C dX10_findMoved_63 (by decide) ?_
    refine z_iadd C dX10_findMoved_64 ?_
    refine z_bndI (fun y1 => ?_)
    refine z_istore_n (i := 3) (L2 := [(3, .int y1), (0, va_rf (some th)), (1, .int p1), (2, .int x2)]) C dX10_findMoved_65 rfl (by decide) rfl ?_
    exact z_sub [1, 2, 3, 0] rfl (t_X10_findMoved_66 C hr hrm th p1 (k112) (g_X10_findMoved_126 th p1 k56 k112) (h112) (s_X10_findMoved_126 C hr hrm th p1 k56 k112 h56 h112) FU x2 y1 m)
def l_X10_findMoved_56 (th : Nat) (p1 : Int32) (k112 : Int32 → Int32 → MM → Option (Int32 × MM)) : Nat → Int32 → MM → Option (Int32 × MM) := lp (fun _ _ => none) (fun k56 => g_X10_findMoved_56 th p1 k56 k112)
theorem t_X10_findMoved_56 {Γ : GX} {E : EX} (C : Cx Γ E cX10_findMoved RX10 4) (hr : Γ.meth.sig.returnType = (some .int)) (hrm : Γ.rm = rmX10_findMoved) (th : Nat) (p1 : Int32) (k112 : Int32 → Int32 → MM → Option (Int32 × MM)) (h112 : ∀ (x2 : Int32) (x3 : Int32) (m : MM), Sm (QM Γ E emI 0 0) Γ E 4 0 0 112 [(0, va_rf (some th)), (1, .int p1), (2, .int x2), (3, .int x3)] [] m (k112 x2 x3 m)) : ∀ (n : Nat) (x2 : Int32) (m : MM), Sm (QM Γ E emI 0 0) Γ E 4 0 0 56 [(0, va_rf (some th)), (1, .int p1), (2, .int x2)] [] m (l_X10_findMoved_56 th p1 k112 n x2 m) := by
  intro n
  induction n with
  | zero => intros; exact z_none
  | succ n ih => intro x2 m; exact s_X10_findMoved_56 C hr hrm th p1 (l_X10_findMoved_56 th p1 k112 n) k112 ih h112 x2 m
set_option maxRecDepth 100000 in
def g_X10_findMoved_112 (th : Nat) (p1 : Int32) (x2 : Int32) (x3 : Int32) (m : MM) : Option (Int32 × MM) :=
  some ((1 <<< (x2 &&& 31)) ||| (1 <<< (x3 &&& 31)), m)
set_option maxHeartbeats 4000000 in
set_option maxRecDepth 100000 in
theorem s_X10_findMoved_112 {Γ : GX} {E : EX} (C : Cx Γ E cX10_findMoved RX10 4) (hr : Γ.meth.sig.returnType = (some .int)) (hrm : Γ.rm = rmX10_findMoved) (th : Nat) (p1 : Int32) (x2 : Int32) (x3 : Int32) (m : MM) : Sm (QM Γ E emI 0 0) Γ E 4 0 0 112 [(0, va_rf (some th)), (1, .int p1), (2, .int x2), (3, .int x3)] [] m (g_X10_findMoved_112 th p1 x2 x3 m) := by
  unfold g_X10_findMoved_112
  refine z_iconst (v := 1) C dX10_findMoved_112 (by decide) ?_
  refine z_iload_n C dX10_findMoved_113 rfl 2 rfl ?_
  refine z_ishl C dX10_findMoved_114 ?_
  refine z_iconst (v := 1) C dX10_findMoved_115 (by decide) ?_
  refine z_iload_n C dX10_findMoved_116 rfl 3 rfl ?_
  refine z_ishl C dX10_findMoved_117 ?_
  refine z_ior C dX10_findMoved_118 ?_
  exact z_iret C hr dX10_findMoved_119
set_option maxRecDepth 100000 in
def g_X10_findMoved_54 (th : Nat) (p1 : Int32) (m : MM) : Option (Int32 × MM) :=
  l_X10_findMoved_56 th p1 (g_X10_findMoved_112 th p1) FU 0 m
set_option maxHeartbeats 4000000 in
set_option maxRecDepth 100000 in
theorem s_X10_findMoved_54 {Γ : GX} {E : EX} (C : Cx Γ E cX10_findMoved RX10 4) (hr : Γ.meth.sig.returnType = (some .int)) (hrm : Γ.rm = rmX10_findMoved) (th : Nat) (p1 : Int32) (m : MM) : Sm (QM Γ E emI 0 0) Γ E 4 0 0 54 [(0, va_rf (some th)), (1, .int p1)] [] m (g_X10_findMoved_54 th p1 m) := by
  unfold g_X10_findMoved_54
  refine z_iconst (v := 0) C dX10_findMoved_54 (by decide) ?_
  refine z_istore_n (i := 2) (L2 := [(2, .int 0), (0, va_rf (some th)), (1, .int p1)]) C dX10_findMoved_55 rfl (by decide) rfl ?_
  exact z_sub [1, 2, 0] rfl (t_X10_findMoved_56 C hr hrm th p1 (g_X10_findMoved_112 th p1) (s_X10_findMoved_112 C hr hrm th p1) FU 0 m)
set_option maxRecDepth 100000 in
def g_X10_findMoved_0 (th : Nat) (p1 : Int32) (m : MM) : Option (Int32 × MM) :=
  chk (m.K th = 11) (if (m.I 1174 th 0) = 0 then (some (0, m)) else (l_X10_findMoved_11 th p1 (g_X10_findMoved_54 th p1) FU 0 m))
set_option maxHeartbeats 4000000 in
set_option maxRecDepth 100000 in
theorem s_X10_findMoved_0 {Γ : GX} {E : EX} (C : Cx Γ E cX10_findMoved RX10 4) (hr : Γ.meth.sig.returnType = (some .int)) (hrm : Γ.rm = rmX10_findMoved) (th : Nat) (p1 : Int32) (m : MM) : Sm (QM Γ E emI 0 0) Γ E 4 0 0 0 [(0, va_rf (some th)), (1, .int p1)] [] m (g_X10_findMoved_0 th p1 m) := by
  unfold g_X10_findMoved_0
  refine z_aload_n C dX10_findMoved_0 rfl 0 rfl ?_
  refine z_chk (fun hk8 => ?_)
  refine z_getI C fl_RX10_443 rfl hk8 dX10_findMoved_1 ?_
  refine z_if_ne (tgt := 9) C dX10_findMoved_4 (by decide) (fun c11 => ?_) (fun c11 => ?_)
  · refine z_iconst (v := 0) C dX10_findMoved_9 (by decide) ?_
    refine z_istore_n (i := 2) (L2 := [(2, .int 0), (0, va_rf (some th)), (1, .int p1)]) C dX10_findMoved_10 rfl (by decide) rfl ?_
    exact z_sub [1, 2, 0] rfl (t_X10_findMoved_11 C hr hrm th p1 (g_X10_findMoved_54 th p1) (s_X10_findMoved_54 C hr hrm th p1) FU 0 m)
  · refine z_iconst (v := 0) C dX10_findMoved_7 (by decide) ?_
    exact z_iret C hr dX10_findMoved_8
def f_X10_findMoved (th : Nat) (p1 : Int32) (m : MM) : Option (Int32 × MM) := g_X10_findMoved_0 th p1 m
theorem M_X10_findMoved (l : Launch) (E : EX) (th : Nat) (p1 : Int32) (m : MM) (r : Int32) (m2 : MM) (h : f_X10_findMoved th p1 m = some (r, m2)) : Met l yX10_findMoved (.code yX10_findMoved cX10_findMoved 4 (some .int) :: TB) rmX10_findMoved (va_Pc [.ref th, .int p1] (St E m)) (QR E (emI r) m2) 0 0 (AA E) :=
  met_of (em := emI) (plainFor_of_name rfl) (Nat.le_of_ble_eq_true rfl) (L0 := [(0, va_rf (some th)), (1, .int p1)]) rfl (fun Γ _ hrm C hr hn => s_X10_findMoved_0 C hr hrm th p1 m) h

theorem dX10_moved_0 : decode cX10_moved 0 = .ok (.aload_n 0, 1) := by decide +kernel
theorem dX10_moved_1 : decode cX10_moved 1 = .ok (.iconst 0, 1) := by decide +kernel
theorem dX10_moved_2 : decode cX10_moved 2 = .ok (.putfield 180, 3) := by decide +kernel
theorem dX10_moved_5 : decode cX10_moved 5 = .ok (.aload_n 0, 1) := by decide +kernel
theorem dX10_moved_6 : decode cX10_moved 6 = .ok (.iload_n 1, 1) := by decide +kernel
theorem dX10_moved_7 : decode cX10_moved 7 = .ok (.iload_n 2, 1) := by decide +kernel
theorem dX10_moved_8 : decode cX10_moved 8 = .ok (.iload_n 3, 1) := by decide +kernel
theorem dX10_moved_9 : decode cX10_moved 9 = .ok (.invokevirtual 452, 3) := by decide +kernel
theorem dX10_moved_12 : decode cX10_moved 12 = .ok (.ifCond .eq 11, 3) := by decide +kernel
theorem dX10_moved_15 : decode cX10_moved 15 = .ok (.aload_n 0, 1) := by decide +kernel
theorem dX10_moved_16 : decode cX10_moved 16 = .ok (.iload_n 2, 1) := by decide +kernel
theorem dX10_moved_17 : decode cX10_moved 17 = .ok (.invokevirtual 538, 3) := by decide +kernel
theorem dX10_moved_20 : decode cX10_moved 20 = .ok (.goto 4, 3) := by decide +kernel
theorem dX10_moved_23 : decode cX10_moved 23 = .ok (.iconst (-1), 1) := by decide +kernel
theorem dX10_moved_24 : decode cX10_moved 24 = .ok (.ireturn, 1) := by decide +kernel
def rmX10_moved : Room := { frames := 9, cells := 0, slots := 0, locals := 234 }
set_option maxRecDepth 100000 in
def g_X10_moved_0 (th : Nat) (p1 : Int32) (p2 : Int32) (p3 : Int32) (m : MM) : Option (Int32 × MM) :=
  chk (m.K th = 11) (bnd (m.sI 1100 th 0 0) (fun m1 => cal (f_X10_bringBars th p1 p2 p3 m1) (fun r1 m2 => if r1 = 0 then (some ((-1), m2)) else (chk (m2.K th = 11) (cal (f_X10_findMoved th p2 m2) (fun r2 m3 => some (r2, m3)))))))
set_option maxHeartbeats 4000000 in
set_option maxRecDepth 100000 in
theorem s_X10_moved_0 {Γ : GX} {E : EX} (C : Cx Γ E cX10_moved RX10 4) (hr : Γ.meth.sig.returnType = (some .int)) (hrm : Γ.rm = rmX10_moved) (th : Nat) (p1 : Int32) (p2 : Int32) (p3 : Int32) (m : MM) : Sm (QM Γ E emI 0 0) Γ E 4 0 0 0 [(0, va_rf (some th)), (1, .int p1), (2, .int p2), (3, .int p3)] [] m (g_X10_moved_0 th p1 p2 p3 m) := by
  unfold g_X10_moved_0
  refine z_aload_n C dX10_moved_0 rfl 0 rfl ?_
  refine z_iconst (v := 0) C dX10_moved_1 (by decide) ?_
  refine z_chk (fun hk1 => ?_)
  refine z_putI C fl_RX10_180 (fun h => by cases h) rfl hk1 rfl rfl dX10_moved_2 (fun m1 eK1 eN1 => ?_)
  refine z_aload_n C dX10_moved_5 rfl 0 rfl ?_
  refine z_iload_n C dX10_moved_6 rfl 1 rfl ?_
  refine z_iload_n C dX10_moved_7 rfl 2 rfl ?_
  refine z_iload_n C dX10_moved_8 rfl 3 rfl ?_
  refine z_cVI [.int p1, .int p2, .int p3] [] C mv_RX10_452 (fun r0 m0 h0 => M_X10_bringBars _ _ _ _ _ _ _ _ _ h0) rfl rfl ⟨by rw [hrm]; exact Nat.le_of_ble_eq_true rfl, by rw [hrm]; exact Nat.le_of_ble_eq_true rfl⟩ ⟨by rw [hrm]; exact Nat.le_of_ble_eq_true rfl, by rw [hrm]; exact Nat.le_of_ble_eq_true rfl⟩ rfl (kfw eK1 hk1) rfl rfl rfl (Nat.le_of_ble_eq_true rfl) dX10_moved_9 (fun r1 m2 => ?_)
  refine z_if_eq (tgt := 23) C dX10_moved_12 (by decide) (fun c1 => ?_) (fun c1 => ?_)
  · refine z_iconst (v := (-1)) C dX10_moved_23 (by decide) ?_
    exact z_iret C hr dX10_moved_24
  · refine z_aload_n C dX10_moved_15 rfl 0 rfl ?_
    refine z_iload_n C dX10_moved_16 rfl 2 rfl ?_
    refine z_chk (fun hk2 => ?_)
    refine z_cVI [.int p2] [] C mv_RX10_538 (fun r0 m0 h0 => M_X10_findMoved _ _ _ _ _ _ _ h0) rfl rfl ⟨by rw [hrm]; exact Nat.le_of_ble_eq_true rfl, by rw [hrm]; exact Nat.le_of_ble_eq_true rfl⟩ ⟨by rw [hrm]; exact Nat.le_of_ble_eq_true rfl, by rw [hrm]; exact Nat.le_of_ble_eq_true rfl⟩ rfl hk2 rfl rfl rfl (Nat.le_of_ble_eq_true rfl) dX10_moved_17 (fun r2 m3 => ?_)
    refine z_goto (tgt := 24) C dX10_moved_20 (by decide) ?_
    exact z_iret C hr dX10_moved_24
def f_X10_moved (th : Nat) (p1 : Int32) (p2 : Int32) (p3 : Int32) (m : MM) : Option (Int32 × MM) := g_X10_moved_0 th p1 p2 p3 m
theorem M_X10_moved (l : Launch) (E : EX) (th : Nat) (p1 : Int32) (p2 : Int32) (p3 : Int32) (m : MM) (r : Int32) (m2 : MM) (h : f_X10_moved th p1 p2 p3 m = some (r, m2)) : Met l yX10_moved (.code yX10_moved cX10_moved 4 (some .int) :: TB) rmX10_moved (va_Pc [.ref th, .int p1, .int p2, .int p3] (St E m)) (QR E (emI r) m2) 0 0 (AA E) :=
  met_of (em := emI) (plainFor_of_name rfl) (Nat.le_of_ble_eq_true rfl) (L0 := [(0, va_rf (some th)), (1, .int p1), (2, .int p2), (3, .int p3)]) rfl (fun Γ _ hrm C hr hn => s_X10_moved_0 C hr hrm th p1 p2 p3 m) h

theorem dX10_movedTo_0 : decode cX10_movedTo 0 = .ok (.aload_n 0, 1) := by decide +kernel
theorem dX10_movedTo_1 : decode cX10_movedTo 1 = .ok (.iconst 0, 1) := by decide +kernel
theorem dX10_movedTo_2 : decode cX10_movedTo 2 = .ok (.putfield 180, 3) := by decide +kernel
theorem dX10_movedTo_5 : decode cX10_movedTo 5 = .ok (.iload 4, 2) := by decide +kernel
theorem dX10_movedTo_7 : decode cX10_movedTo 7 = .ok (.iconst 0, 1) := by decide +kernel
theorem dX10_movedTo_8 : decode cX10_movedTo 8 = .ok (.iconst 1, 1) := by decide +kernel
theorem dX10_movedTo_9 : decode cX10_movedTo 9 = .ok (.invokestatic 188, 3) := by decide +kernel
theorem dX10_movedTo_12 : decode cX10_movedTo 12 = .ok (.ifCond .eq 29, 3) := by decide +kernel
theorem dX10_movedTo_15 : decode cX10_movedTo 15 = .ok (.aload_n 0, 1) := by decide +kernel
theorem dX10_movedTo_16 : decode cX10_movedTo 16 = .ok (.iload_n 1, 1) := by decide +kernel
theorem dX10_movedTo_17 : decode cX10_movedTo 17 = .ok (.iload_n 2, 1) := by decide +kernel
theorem dX10_movedTo_18 : decode cX10_movedTo 18 = .ok (.iload_n 3, 1) := by decide +kernel
theorem dX10_movedTo_19 : decode cX10_movedTo 19 = .ok (.invokevirtual 452, 3) := by decide +kernel
theorem dX10_movedTo_22 : decode cX10_movedTo 22 = .ok (.ifCond .eq 19, 3) := by decide +kernel
theorem dX10_movedTo_25 : decode cX10_movedTo 25 = .ok (.aload_n 0, 1) := by decide +kernel
theorem dX10_movedTo_26 : decode cX10_movedTo 26 = .ok (.getfield 443, 3) := by decide +kernel
theorem dX10_movedTo_29 : decode cX10_movedTo 29 = .ok (.ifCond .eq 12, 3) := by decide +kernel
theorem dX10_movedTo_32 : decode cX10_movedTo 32 = .ok (.aload_n 0, 1) := by decide +kernel
theorem dX10_movedTo_33 : decode cX10_movedTo 33 = .ok (.iload_n 2, 1) := by decide +kernel
theorem dX10_movedTo_34 : decode cX10_movedTo 34 = .ok (.invokevirtual 538, 3) := by decide +kernel
theorem dX10_movedTo_37 : decode cX10_movedTo 37 = .ok (.iconst (-1), 1) := by decide +kernel
theorem dX10_movedTo_38 : decode cX10_movedTo 38 = .ok (.if_icmp .ne 5, 3) := by decide +kernel
theorem dX10_movedTo_41 : decode cX10_movedTo 41 = .ok (.iconst (-1), 1) := by decide +kernel
theorem dX10_movedTo_42 : decode cX10_movedTo 42 = .ok (.ireturn, 1) := by decide +kernel
theorem dX10_movedTo_43 : decode cX10_movedTo 43 = .ok (.iload 4, 2) := by decide +kernel
theorem dX10_movedTo_45 : decode cX10_movedTo 45 = .ok (.ifCond .ne 10, 3) := by decide +kernel
theorem dX10_movedTo_48 : decode cX10_movedTo 48 = .ok (.aload_n 0, 1) := by decide +kernel
theorem dX10_movedTo_49 : decode cX10_movedTo 49 = .ok (.getfield 526, 3) := by decide +kernel
theorem dX10_movedTo_52 : decode cX10_movedTo 52 = .ok (.goto 19, 3) := by decide +kernel
theorem dX10_movedTo_55 : decode cX10_movedTo 55 = .ok (.aload_n 0, 1) := by decide +kernel
theorem dX10_movedTo_56 : decode cX10_movedTo 56 = .ok (.getfield 523, 3) := by decide +kernel
theorem dX10_movedTo_59 : decode cX10_movedTo 59 = .ok (.iconst (-1), 1) := by decide +kernel
theorem dX10_movedTo_60 : decode cX10_movedTo 60 = .ok (.if_icmp .ne 7, 3) := by decide +kernel
theorem dX10_movedTo_63 : decode cX10_movedTo 63 = .ok (.iconst (-1), 1) := by decide +kernel
theorem dX10_movedTo_64 : decode cX10_movedTo 64 = .ok (.goto 7, 3) := by decide +kernel
theorem dX10_movedTo_67 : decode cX10_movedTo 67 = .ok (.aload_n 0, 1) := by decide +kernel
theorem dX10_movedTo_68 : decode cX10_movedTo 68 = .ok (.getfield 529, 3) := by decide +kernel
theorem dX10_movedTo_71 : decode cX10_movedTo 71 = .ok (.ireturn, 1) := by decide +kernel
def rmX10_movedTo : Room := { frames := 9, cells := 0, slots := 0, locals := 234 }
set_option maxRecDepth 100000 in
def g_X10_movedTo_0 (th : Nat) (p1 : Int32) (p2 : Int32) (p3 : Int32) (p4 : Int32) (m : MM) : Option (Int32 × MM) :=
  chk (m.K th = 11) (bnd (m.sI 1100 th 0 0) (fun m1 => cal (f_X10_in p4 0 1 m1) (fun r1 m2 => if r1 = 0 then (some ((-1), m2)) else (chk (m2.K th = 11) (cal (f_X10_bringBars th p1 p2 p3 m2) (fun r2 m3 => if r2 = 0 then (some ((-1), m3)) else (chk (m3.K th = 11) (if (m3.I 1174 th 0) = 0 then (some ((-1), m3)) else (cal (f_X10_findMoved th p2 m3) (fun r3 m4 => if r3 = (-1) then (some ((-1), m4)) else (if p4 = 0 then (chk (m4.K th = 11) (some (m4.I 1179 th 0, m4))) else (chk (m4.K th = 11) (if (m4.I 1178 th 0) = (-1) then (some ((-1), m4)) else (some (m4.I 1180 th 0, m4)))))))))))))))
set_option maxHeartbeats 4000000 in
set_option maxRecDepth 100000 in
theorem s_X10_movedTo_0 {Γ : GX} {E : EX} (C : Cx Γ E cX10_movedTo RX10 5) (hr : Γ.meth.sig.returnType = (some .int)) (hrm : Γ.rm = rmX10_movedTo) (th : Nat) (p1 : Int32) (p2 : Int32) (p3 : Int32) (p4 : Int32) (m : MM) : Sm (QM Γ E emI 0 0) Γ E 5 0 0 0 [(0, va_rf (some th)), (1, .int p1), (2, .int p2), (3, .int p3), (4, .int p4)] [] m (g_X10_movedTo_0 th p1 p2 p3 p4 m) := by
  unfold g_X10_movedTo_0
  refine z_aload_n C dX10_movedTo_0 rfl 0 rfl ?_
  refine z_iconst (v := 0) C dX10_movedTo_1 (by decide) ?_
  refine z_chk (fun hk1 => ?_)
  refine z_putI C fl_RX10_180 (fun h => by cases h) rfl hk1 rfl rfl dX10_movedTo_2 (fun m1 eK1 eN1 => ?_)
  refine z_iload C dX10_movedTo_5 4 rfl ?_
  refine z_iconst (v := 0) C dX10_movedTo_7 (by decide) ?_
  refine z_iconst (v := 1) C dX10_movedTo_8 (by decide) ?_
  refine z_cSI [.int p4, .int 0, .int 1] [] C mv_RX10_188 (fun r0 m0 h0 => M_X10_in _ _ _ _ _ _ _ _ h0) rfl rfl ⟨by rw [hrm]; exact Nat.le_of_ble_eq_true rfl, by rw [hrm]; exact Nat.le_of_ble_eq_true rfl⟩ ⟨by rw [hrm]; exact Nat.le_of_ble_eq_true rfl, by rw [hrm]; exact Nat.le_of_ble_eq_true rfl⟩ rfl rfl (Nat.le_of_ble_eq_true rfl) dX10_movedTo_9 (fun r1 m2 => ?_)
  refine z_if_eq (tgt := 41) C dX10_movedTo_12 (by decide) (fun c1 => ?_) (fun c1 => ?_)
  · refine z_iconst (v := (-1)) C dX10_movedTo_41 (by decide) ?_
    exact z_iret C hr dX10_movedTo_42
  · refine z_aload_n C dX10_movedTo_15 rfl 0 rfl ?_
    refine z_iload_n C dX10_movedTo_16 rfl 1 rfl ?_
    refine z_iload_n C dX10_movedTo_17 rfl 2 rfl ?_
    refine z_iload_n C dX10_movedTo_18 rfl 3 rfl ?_
    refine z_chk (fun hk2 => ?_)
    refine z_cVI [.int p1, .int p2, .int p3] [] C mv_RX10_452 (fun r0 m0 h0 => M_X10_bringBars _ _ _ _ _ _ _ _ _ h0) rfl rfl ⟨by rw [hrm]; exact Nat.le_of_ble_eq_true rfl, by rw [hrm]; exact Nat.le_of_ble_eq_true rfl⟩ ⟨by rw [hrm]; exact Nat.le_of_ble_eq_true rfl, by rw [hrm]; exact Nat.le_of_ble_eq_true rfl⟩ rfl hk2 rfl rfl rfl (Nat.le_of_ble_eq_true rfl) dX10_movedTo_19 (fun r2 m3 => ?_)
    refine z_if_eq (tgt := 41) C dX10_movedTo_22 (by decide) (fun c2 => ?_) (fun c2 => ?_)
    · refine z_iconst (v := (-1)) C dX10_movedTo_41 (by decide) ?_
      exact z_iret C hr dX10_movedTo_42
    · refine z_aload_n C dX10_movedTo_25 rfl 0 rfl ?_
      refine z_chk (fun hk3 => ?_)
      refine z_getI C fl_RX10_443 rfl hk3 dX10_movedTo_26 ?_
      refine z_if_eq (tgt := 41) C dX10_movedTo_29 (by decide) (fun c3 => ?_) (fun c3 => ?_)
      · refine z_iconst (v := (-1)) C dX10_movedTo_41 (by decide) ?_
        exact z_iret C hr dX10_movedTo_42
      · refine z_aload_n C dX10_movedTo_32 rfl 0 rfl ?_
        refine z_iload_n C dX10_movedTo_33 rfl 2 rfl ?_
        refine z_cVI [.int p2] [] C mv_RX10_538 (fun r0 m0 h0 => M_X10_findMoved _ _ _ _ _ _ _ h0) rfl rfl ⟨by rw [hrm]; exact Nat.le_of_ble_eq_true rfl, by rw [hrm]; exact Nat.le_of_ble_eq_true rfl⟩ ⟨by rw [hrm]; exact Nat.le_of_ble_eq_true rfl, by rw [hrm]; exact Nat.le_of_ble_eq_true rfl⟩ rfl hk3 rfl rfl rfl (Nat.le_of_ble_eq_true rfl) dX10_movedTo_34 (fun r3 m4 => ?_)
        refine z_iconst (v := (-1)) C dX10_movedTo_37 (by decide) ?_
        refine z_icmp_ne (tgt := 43) C dX10_movedTo_38 (by decide) (fun c4 => ?_) (fun c4 => ?_)
        · refine z_iload C dX10_movedTo_43 4 rfl ?_
          refine z_if_ne (tgt := 55) C dX10_movedTo_45 (by decide) (fun c5 => ?_) (fun c5 => ?_)
          · refine z_aload_n C dX10_movedTo_55 rfl 0 rfl ?_
            refine z_chk (fun hk4 => ?_)
            refine z_getI C fl_RX10_523 rfl hk4 dX10_movedTo_56 ?_
            refine z_iconst (v := (-1)) C dX10_movedTo_59 (by decide) ?_
            refine z_icmp_ne (tgt := 67) C dX10_movedTo_60 (by decide) (fun c6 => ?_) (fun c6 => ?_)
            · refine z_aload_n C dX10_movedTo_67 rfl 0 rfl ?_
              refine z_getI C fl_RX10_529 rfl hk4 dX10_movedTo_68 ?_
              exact z_iret C hr dX10_movedTo_71
            · refine z_iconst (v := (-1)) C dX10_movedTo_63 (by decide) ?_
              refine z_goto (tgt := 71) C dX10_movedTo_64 (by decide) ?_
              exact z_iret C hr dX10_movedTo_71
          · refine z_aload_n C dX10_movedTo_48 rfl 0 rfl ?_
            refine z_chk (fun hk5 => ?_)
            refine z_getI C fl_RX10_526 rfl hk5 dX10_movedTo_49 ?_
            refine z_goto (tgt := 71) C dX10_movedTo_52 (by decide) ?_
            exact z_iret C hr dX10_movedTo_71
        · refine z_iconst (v := (-1)) C dX10_movedTo_41 (by decide) ?_
          exact z_iret C hr dX10_movedTo_42
def f_X10_movedTo (th : Nat) (p1 : Int32) (p2 : Int32) (p3 : Int32) (p4 : Int32) (m : MM) : Option (Int32 × MM) := g_X10_movedTo_0 th p1 p2 p3 p4 m
theorem M_X10_movedTo (l : Launch) (E : EX) (th : Nat) (p1 : Int32) (p2 : Int32) (p3 : Int32) (p4 : Int32) (m : MM) (r : Int32) (m2 : MM) (h : f_X10_movedTo th p1 p2 p3 p4 m = some (r, m2)) : Met l yX10_movedTo (.code yX10_movedTo cX10_movedTo 5 (some .int) :: TB) rmX10_movedTo (va_Pc [.ref th, .int p1, .int p2, .int p3, .int p4] (St E m)) (QR E (emI r) m2) 0 0 (AA E) :=
  met_of (em := emI) (plainFor_of_name rfl) (Nat.le_of_ble_eq_true rfl) (L0 := [(0, va_rf (some th)), (1, .int p1), (2, .int p2), (3, .int p3), (4, .int p4)]) rfl (fun Γ _ hrm C hr hn => s_X10_movedTo_0 C hr hrm th p1 p2 p3 p4 m) h

theorem dX10_quiet_0 : decode cX10_quiet 0 = .ok (.aload_n 0, 1) := by decide +kernel
theorem dX10_quiet_1 : decode cX10_quiet 1 = .ok (.iconst 0, 1) := by decide +kernel
theorem dX10_quiet_2 : decode cX10_quiet 2 = .ok (.putfield 180, 3) := by decide +kernel
theorem dX10_quiet_5 : decode cX10_quiet 5 = .ok (.aload_n 0, 1) := by decide +kernel
theorem dX10_quiet_6 : decode cX10_quiet 6 = .ok (.iload_n 1, 1) := by decide +kernel
theorem dX10_quiet_7 : decode cX10_quiet 7 = .ok (.invokevirtual 192, 3) := by decide +kernel
theorem dX10_quiet_10 : decode cX10_quiet 10 = .ok (.ifCond .eq 18, 3) := by decide +kernel
theorem dX10_quiet_13 : decode cX10_quiet 13 = .ok (.aload_n 0, 1) := by decide +kernel
theorem dX10_quiet_14 : decode cX10_quiet 14 = .ok (.iload_n 2, 1) := by decide +kernel
theorem dX10_quiet_15 : decode cX10_quiet 15 = .ok (.invokevirtual 360, 3) := by decide +kernel
theorem dX10_quiet_18 : decode cX10_quiet 18 = .ok (.ifCond .eq 10, 3) := by decide +kernel
theorem dX10_quiet_21 : decode cX10_quiet 21 = .ok (.iload_n 3, 1) := by decide +kernel
theorem dX10_quiet_22 : decode cX10_quiet 22 = .ok (.invokestatic 372, 3) := by decide +kernel
theorem dX10_quiet_25 : decode cX10_quiet 25 = .ok (.ifCond .ne 5, 3) := by decide +kernel
theorem dX10_quiet_28 : decode cX10_quiet 28 = .ok (.iconst (-1), 1) := by decide +kernel
theorem dX10_quiet_29 : decode cX10_quiet 29 = .ok (.ireturn, 1) := by decide +kernel
theorem dX10_quiet_30 : decode cX10_quiet 30 = .ok (.iconst 0, 1) := by decide +kernel
theorem dX10_quiet_31 : decode cX10_quiet 31 = .ok (.istore 4, 2) := by decide +kernel
theorem dX10_quiet_33 : decode cX10_quiet 33 = .ok (.aload_n 0, 1) := by decide +kernel
theorem dX10_quiet_34 : decode cX10_quiet 34 = .ok (.iload_n 1, 1) := by decide +kernel
theorem dX10_quiet_35 : decode cX10_quiet 35 = .ok (.iload_n 3, 1) := by decide +kernel
theorem dX10_quiet_36 : decode cX10_quiet 36 = .ok (.invokevirtual 393, 3) := by decide +kernel
theorem dX10_quiet_39 : decode cX10_quiet 39 = .ok (.iconst 0, 1) := by decide +kernel
theorem dX10_quiet_40 : decode cX10_quiet 40 = .ok (.istore 5, 2) := by decide +kernel
theorem dX10_quiet_42 : decode cX10_quiet 42 = .ok (.iload 5, 2) := by decide +kernel
theorem dX10_quiet_44 : decode cX10_quiet 44 = .ok (.bipush 8, 2) := by decide +kernel
theorem dX10_quiet_46 : decode cX10_quiet 46 = .ok (.if_icmp .ge 92, 3) := by decide +kernel
theorem dX10_quiet_49 : decode cX10_quiet 49 = .ok (.aload_n 0, 1) := by decide +kernel
theorem dX10_quiet_50 : decode cX10_quiet 50 = .ok (.iload 5, 2) := by decide +kernel
theorem dX10_quiet_52 : decode cX10_quiet 52 = .ok (.putfield 387, 3) := by decide +kernel
theorem dX10_quiet_55 : decode cX10_quiet 55 = .ok (.aload_n 0, 1) := by decide +kernel
theorem dX10_quiet_56 : decode cX10_quiet 56 = .ok (.iload_n 2, 1) := by decide +kernel
theorem dX10_quiet_57 : decode cX10_quiet 57 = .ok (.invokevirtual 449, 3) := by decide +kernel
theorem dX10_quiet_60 : decode cX10_quiet 60 = .ok (.iconst 1, 1) := by decide +kernel
theorem dX10_quiet_61 : decode cX10_quiet 61 = .ok (.istore 6, 2) := by decide +kernel
theorem dX10_quiet_63 : decode cX10_quiet 63 = .ok (.iconst 0, 1) := by decide +kernel
theorem dX10_quiet_64 : decode cX10_quiet 64 = .ok (.istore 7, 2) := by decide +kernel
theorem dX10_quiet_66 : decode cX10_quiet 66 = .ok (.iload 7, 2) := by decide +kernel
theorem dX10_quiet_68 : decode cX10_quiet 68 = .ok (.aload_n 0, 1) := by decide +kernel
theorem dX10_quiet_69 : decode cX10_quiet 69 = .ok (.getfield 443, 3) := by decide +kernel
theorem dX10_quiet_72 : decode cX10_quiet 72 = .ok (.if_icmp .ge 42, 3) := by decide +kernel
theorem dX10_quiet_75 : decode cX10_quiet 75 = .ok (.iload 6, 2) := by decide +kernel
theorem dX10_quiet_77 : decode cX10_quiet 77 = .ok (.ifCond .eq 28, 3) := by decide +kernel
theorem dX10_quiet_80 : decode cX10_quiet 80 = .ok (.aload_n 0, 1) := by decide +kernel
theorem dX10_quiet_81 : decode cX10_quiet 81 = .ok (.getfield 107, 3) := by decide +kernel
theorem dX10_quiet_84 : decode cX10_quiet 84 = .ok (.bipush 10, 2) := by decide +kernel
theorem dX10_quiet_86 : decode cX10_quiet 86 = .ok (.iload_n 2, 1) := by decide +kernel
theorem dX10_quiet_87 : decode cX10_quiet 87 = .ok (.imul, 1) := by decide +kernel
theorem dX10_quiet_88 : decode cX10_quiet 88 = .ok (.aload_n 0, 1) := by decide +kernel
theorem dX10_quiet_89 : decode cX10_quiet 89 = .ok (.getfield 164, 3) := by decide +kernel
theorem dX10_quiet_92 : decode cX10_quiet 92 = .ok (.iload 7, 2) := by decide +kernel
theorem dX10_quiet_94 : decode cX10_quiet 94 = .ok (.iaload, 1) := by decide +kernel
theorem dX10_quiet_95 : decode cX10_quiet 95 = .ok (.iadd, 1) := by decide +kernel
theorem dX10_quiet_96 : decode cX10_quiet 96 = .ok (.iaload, 1) := by decide +kernel
theorem dX10_quiet_97 : decode cX10_quiet 97 = .ok (.iconst 1, 1) := by decide +kernel
theorem dX10_quiet_98 : decode cX10_quiet 98 = .ok (.if_icmp .eq 7, 3) := by decide +kernel
theorem dX10_quiet_101 : decode cX10_quiet 101 = .ok (.iconst 1, 1) := by decide +kernel
theorem dX10_quiet_102 : decode cX10_quiet 102 = .ok (.goto 4, 3) := by decide +kernel
theorem dX10_quiet_105 : decode cX10_quiet 105 = .ok (.iconst 0, 1) := by decide +kernel
theorem dX10_quiet_106 : decode cX10_quiet 106 = .ok (.istore 6, 2) := by decide +kernel
theorem dX10_quiet_108 : decode cX10_quiet 108 = .ok (.iinc 7 1, 3) := by decide +kernel
theorem dX10_quiet_111 : decode cX10_quiet 111 = .ok (.goto (-45), 3) := by decide +kernel
theorem dX10_quiet_114 : decode cX10_quiet 114 = .ok (.iload 4, 2) := by decide +kernel
theorem dX10_quiet_116 : decode cX10_quiet 116 = .ok (.iload 6, 2) := by decide +kernel
theorem dX10_quiet_118 : decode cX10_quiet 118 = .ok (.ifCond .eq 10, 3) := by decide +kernel
theorem dX10_quiet_121 : decode cX10_quiet 121 = .ok (.iconst 1, 1) := by decide +kernel
theorem dX10_quiet_122 : decode cX10_quiet 122 = .ok (.iload 5, 2) := by decide +kernel
theorem dX10_quiet_124 : decode cX10_quiet 124 = .ok (.ishl, 1) := by decide +kernel
theorem dX10_quiet_125 : decode cX10_quiet 125 = .ok (.goto 4, 3) := by decide +kernel
theorem dX10_quiet_128 : decode cX10_quiet 128 = .ok (.iconst 0, 1) := by decide +kernel
theorem dX10_quiet_129 : decode cX10_quiet 129 = .ok (.ior, 1) := by decide +kernel
theorem dX10_quiet_130 : decode cX10_quiet 130 = .ok (.istore 4, 2) := by decide +kernel
theorem dX10_quiet_132 : decode cX10_quiet 132 = .ok (.iinc 5 1, 3) := by decide +kernel
theorem dX10_quiet_135 : decode cX10_quiet 135 = .ok (.goto (-93), 3) := by decide +kernel
theorem dX10_quiet_138 : decode cX10_quiet 138 = .ok (.iload 4, 2) := by decide +kernel
theorem dX10_quiet_140 : decode cX10_quiet 140 = .ok (.ireturn, 1) := by decide +kernel
def rmX10_quiet : Room := { frames := 6, cells := 0, slots := 0, locals := 157 }
set_option maxRecDepth 100000 in
def g_X10_quiet_106 (th : Nat) (p1 : Int32) (p2 : Int32) (p3 : Int32) (k66 : Int32 → Int32 → Int32 → Int32 → MM → Option (Int32 × MM)) (k114 : Int32 → Int32 → Int32 → MM → Option (Int32 × MM)) (x4 : Int32) (x5 : Int32) (x7 : Int32) (s0 : Int32) (m : MM) : Option (Int32 × MM) :=
  k66 x4 x5 s0 (x7 + 1) m
set_option maxHeartbeats 4000000 in
set_option maxRecDepth 100000 in
theorem s_X10_quiet_106 {Γ : GX} {E : EX} (C : Cx Γ E cX10_quiet RX10 8) (hr : Γ.meth.sig.returnType = (some .int)) (hrm : Γ.rm = rmX10_quiet) (th : Nat) (p1 : Int32) (p2 : Int32) (p3 : Int32) (k66 : Int32 → Int32 → Int32 → Int32 → MM → Option (Int32 × MM)) (k114 : Int32 → Int32 → Int32 → MM → Option (Int32 × MM)) (h66 : ∀ (x4 : Int32) (x5 : Int32) (x6 : Int32) (x7 : Int32) (m : MM), Sm (QM Γ E emI 0 0) Γ E 8 0 0 66 [(0, va_rf (some th)), (1, .int p1), (2, .int p2), (3, .int p3), (4, .int x4), (5, .int x5), (6, .int x6), (7, .int x7)] [] m (k66 x4 x5 x6 x7 m)) (h114 : ∀ (x4 : Int32) (x5 : Int32) (x6 : Int32) (m : MM), Sm (QM Γ E emI 0 0) Γ E 8 0 0 114 [(0, va_rf (some th)), (1, .int p1), (2, .int p2), (3, .int p3), (4, .int x4), (5, .int x5), (6, .int x6)] [] m (k114 x4 x5 x6 m)) (x4 : Int32) (x5 : Int32) (x7 : Int32) (s0 : Int32) (m : MM) : Sm (QM Γ E emI 0 0) Γ E 8 0 0 106 [(0, va_rf (some th)), (1, .int p1), (2, .int p2), (3, .int p3), (4, .int x4), (5, .int x5), (7, .int x7)] [.int s0] m (g_X10_quiet_106 th p1 p2 p3 k66 k114 x4 x5 x7 s0 m) := by
  unfold g_X10_quiet_106
  refine z_istore (i := 6) (L2 := [(6, .int s0), (0, va_rf (some th)), (1, .int p1), (2, .int p2), (3, .int p3), (4, .int x4), (5, .int x5), (7, .int x7)]) C dX10_quiet_106 (by decide) rfl ?_
  refine z_iinc (v := 1) (L2 := [(7, .int (x7 + 1)), (6, .int s0), (0, va_rf (some th)), (1, .int p1), (2, .int p2), (3, .int p3), (4, .int x4), (5, .int x5)]) C dX10_quiet_108 7 rfl (by decide) (by decide) rfl ?_
  refine z_goto (tgt := 66) C dX10_quiet_111 (by decide) ?_
  exact z_sub [2, 3, 4, 5, 6, 7, 1, 0] rfl (h66 x4 x5 s0 (x7 + 1) m)
set_option maxRecDepth 100000 in
def g_X10_quiet_105 (th : Nat) (p1 : Int32) (p2 : Int32) (p3 : Int32) (k66 : Int32 → Int32 → Int32 → Int32 → MM → Option (Int32 × MM)) (k114 : Int32 → Int32 → Int32 → MM → Option (Int32 × MM)) (x4 : Int32) (x5 : Int32) (x7 : Int32) (m : MM) : Option (Int32 × MM) :=
  g_X10_quiet_106 th p1 p2 p3 k66 k114 x4 x5 x7 0 m
set_option maxHeartbeats 4000000 in
set_option maxRecDepth 100000 in
theorem s_X10_quiet_105 {Γ : GX} {E : EX} (C : Cx Γ E cX10_quiet RX10 8) (hr : Γ.meth.sig.returnType = (some .int)) (hrm : Γ.rm = rmX10_quiet) (th : Nat) (p1 : Int32) (p2 : Int32) (p3 : Int32) (k66 : Int32 → Int32 → Int32 → Int32 → MM → Option (Int32 × MM)) (k114 : Int32 → Int32 → Int32 → MM → Option (Int32 × MM)) (h66 : ∀ (x4 : Int32) (x5 : Int32) (x6 : Int32) (x7 : Int32) (m : MM), Sm (QM Γ E emI 0 0) Γ E 8 0 0 66 [(0, va_rf (some th)), (1, .int p1), (2, .int p2), (3, .int p3), (4, .int x4), (5, .int x5), (6, .int x6), (7, .int x7)] [] m (k66 x4 x5 x6 x7 m)) (h114 : ∀ (x4 : Int32) (x5 : Int32) (x6 : Int32) (m : MM), Sm (QM Γ E emI 0 0) Γ E 8 0 0 114 [(0, va_rf (some th)), (1, .int p1), (2, .int p2), (3, .int p3), (4, .int x4), (5, .int x5), (6, .int x6)] [] m (k114 x4 x5 x6 m)) (x4 : Int32) (x5 : Int32) (x7 : Int32) (m : MM) : Sm (QM Γ E emI 0 0) Γ E 8 0 0 105 [(0, va_rf (some th)), (1, .int p1), (2, .int p2), (3, .int p3), (4, .int x4), (5, .int x5), (7, .int x7)] [] m (g_X10_quiet_105 th p1 p2 p3 k66 k114 x4 x5 x7 m) := by
  unfold g_X10_quiet_105
  refine z_iconst (v := 0) C dX10_quiet_105 (by decide) ?_
  exact z_sub [0, 1, 2, 3, 4, 5, 6] rfl (s_X10_quiet_106 C hr hrm th p1 p2 p3 k66 k114 h66 h114 x4 x5 x7 0 m)
set_option maxRecDepth 100000 in
def g_X10_quiet_66 (th : Nat) (p1 : Int32) (p2 : Int32) (p3 : Int32) (k66 : Int32 → Int32 → Int32 → Int32 → MM → Option (Int32 × MM)) (k114 : Int32 → Int32 → Int32 → MM → Option (Int32 × MM)) (x4 : Int32) (x5 : Int32) (x6 : Int32) (x7 : Int32) (m : MM) : Option (Int32 × MM) :=
  chk (m.K th = 11) (if (m.I 1174 th 0) ≤ x7 then (k114 x4 x5 x6 m) else (if x6 = 0 then (g_X10_quiet_105 th p1 p2 p3 k66 k114 x4 x5 x7 m) else (ck m (m.R 1173 th 0) 22 (fun a1 => chk (inb x7 (m.N a1) = true) (ck m (m.R 1133 th 0) 22 (fun a2 => chk (inb ((10 * p2) + (m.I 22 a1 (Int32.toNatClampNeg x7))) (m.N a2) = true) (if (m.I 22 a2 (Int32.toNatClampNeg ((10 * p2) + (m.I 22 a1 (Int32.toNatClampNeg x7))))) = 1 then (g_X10_quiet_105 th p1 p2 p3 k66 k114 x4 x5 x7 m) else (g_X10_quiet_106 th p1 p2 p3 k66 k114 x4 x5 x7 1 m))))))))
set_option maxHeartbeats 4000000 in
set_option maxRecDepth 100000 in
theorem s_X10_quiet_66 {Γ : GX} {E : EX} (C : Cx Γ E cX10_quiet RX10 8) (hr : Γ.meth.sig.returnType = (some .int)) (hrm : Γ.rm = rmX10_quiet) (th : Nat) (p1 : Int32) (p2 : Int32) (p3 : Int32) (k66 : Int32 → Int32 → Int32 → Int32 → MM → Option (Int32 × MM)) (k114 : Int32 → Int32 → Int32 → MM → Option (Int32 × MM)) (h66 : ∀ (x4 : Int32) (x5 : Int32) (x6 : Int32) (x7 : Int32) (m : MM), Sm (QM Γ E emI 0 0) Γ E 8 0 0 66 [(0, va_rf (some th)), (1, .int p1), (2, .int p2), (3, .int p3), (4, .int x4), (5, .int x5), (6, .int x6), (7, .int x7)] [] m (k66 x4 x5 x6 x7 m)) (h114 : ∀ (x4 : Int32) (x5 : Int32) (x6 : Int32) (m : MM), Sm (QM Γ E emI 0 0) Γ E 8 0 0 114 [(0, va_rf (some th)), (1, .int p1), (2, .int p2), (3, .int p3), (4, .int x4), (5, .int x5), (6, .int x6)] [] m (k114 x4 x5 x6 m)) (x4 : Int32) (x5 : Int32) (x6 : Int32) (x7 : Int32) (m : MM) : Sm (QM Γ E emI 0 0) Γ E 8 0 0 66 [(0, va_rf (some th)), (1, .int p1), (2, .int p2), (3, .int p3), (4, .int x4), (5, .int x5), (6, .int x6), (7, .int x7)] [] m (g_X10_quiet_66 th p1 p2 p3 k66 k114 x4 x5 x6 x7 m) := by
  unfold g_X10_quiet_66
  refine z_iload C dX10_quiet_66 7 rfl ?_
  refine z_aload_n C dX10_quiet_68 rfl 0 rfl ?_
  refine z_chk (fun hk1 => ?_)
  refine z_getI C fl_RX10_443 rfl hk1 dX10_quiet_69 ?_
  refine z_icmp_ge (tgt := 114) C dX10_quiet_72 (by decide) (fun c1 => ?_) (fun c1 => ?_)
  · exact z_sub [0, 1, 2, 3, 4, 5, 6] rfl (h114 x4 x5 x6 m)
  · refine z_iload C dX10_quiet_75 6 rfl ?_
    refine z_if_eq (tgt := 105) C dX10_quiet_77 (by decide) (fun c2 => ?_) (fun c2 => ?_)
    · exact z_sub [0, 1, 2, 3, 4, 5, 7] rfl (s_X10_quiet_105 C hr hrm th p1 p2 p3 k66 k114 h66 h114 x4 x5 x7 m)
    · refine z_aload_n C dX10_quiet_80 rfl 0 rfl ?_
      refine z_getR C fl_RX10_107 rfl hk1 dX10_quiet_81 ?_
      refine z_bipush (v := 10) C dX10_quiet_84 (by decide) ?_
      refine z_iload_n C dX10_quiet_86 rfl 2 rfl ?_
      refine z_imul C dX10_quiet_87 ?_
      refine z_aload_n C dX10_quiet_88 rfl 0 rfl ?_
      refine z_getR C fl_RX10_164 rfl hk1 dX10_quiet_89 ?_
      refine z_iload C dX10_quiet_92 7 rfl ?_
      refine z_ck (fun a1 hr1 hk2 => ?_)
      refine z_chk (fun hj1 => ?_)
      refine z_iald C hr1 hk2 hj1 dX10_quiet_94 ?_
      refine z_iadd C dX10_quiet_95 ?_
      refine z_ck (fun a2 hr2 hk3 => ?_)
      refine z_chk (fun hj2 => ?_)
      refine z_iald C hr2 hk3 hj2 dX10_quiet_96 ?_
      refine z_iconst (v := 1) C dX10_quiet_97 (by decide) ?_
      refine z_icmp_eq (tgt := 105) C dX10_quiet_98 (by decide) (fun c3 => ?_) (fun c3 => ?_)
      · exact z_sub [0, 1, 2, 3, 4, 5, 7] rfl (s_X10_quiet_105 C hr hrm th p1 p2 p3 k66 k114 h66 h114 x4 x5 x7 m)
      · refine z_iconst (v := 1) C dX10_quiet_101 (by decide) ?_
        refine z_goto (tgt := 106) C dX10_quiet_102 (by decide) ?_
        exact z_sub [0, 1, 2, 3, 4, 5, 7] rfl (s_X10_quiet_106 C hr hrm th p1 p2 p3 k66 k114 h66 h114 x4 x5 x7 1 m)
def l_X10_quiet_66 (th : Nat) (p1 : Int32) (p2 : Int32) (p3 : Int32) (k114 : Int32 → Int32 → Int32 → MM → Option (Int32 × MM)) : Nat → Int32 → Int32 → Int32 → Int32 → MM → Option (Int32 × MM) := lp (fun _ _ _ _ _ => none) (fun k66 => g_X10_quiet_66 th p1 p2 p3 k66 k114)
theorem t_X10_quiet_66 {Γ : GX} {E : EX} (C : Cx Γ E cX10_quiet RX10 8) (hr : Γ.meth.sig.returnType = (some .int)) (hrm : Γ.rm = rmX10_quiet) (th : Nat) (p1 : Int32) (p2 : Int32) (p3 : Int32) (k114 : Int32 → Int32 → Int32 → MM → Option (Int32 × MM)) (h114 : ∀ (x4 : Int32) (x5 : Int32) (x6 : Int32) (m : MM), Sm (QM Γ E emI 0 0) Γ E 8 0 0 114 [(0, va_rf (some th)), (1, .int p1), (2, .int p2), (3, .int p3), (4, .int x4), (5, .int x5), (6, .int x6)] [] m (k114 x4 x5 x6 m)) : ∀ (n : Nat) (x4 : Int32) (x5 : Int32) (x6 : Int32) (x7 : Int32) (m : MM), Sm (QM Γ E emI 0 0) Γ E 8 0 0 66 [(0, va_rf (some th)), (1, .int p1), (2, .int p2), (3, .int p3), (4, .int x4), (5, .int x5), (6, .int x6), (7, .int x7)] [] m (l_X10_quiet_66 th p1 p2 p3 k114 n x4 x5 x6 x7 m) := by
  intro n
  induction n with
  | zero => intros; exact z_none
  | succ n ih => intro x4 x5 x6 x7 m; exact s_X10_quiet_66 C hr hrm th p1 p2 p3 (l_X10_quiet_66 th p1 p2 p3 k114 n) k114 ih h114 x4 x5 x6 x7 m
set_option maxRecDepth 100000 in
def g_X10_quiet_129 (th : Nat) (p1 : Int32) (p2 : Int32) (p3 : Int32) (k42 : Int32 → Int32 → MM → Option (Int32 × MM)) (x5 : Int32) (s0 : Int32) (s1 : Int32) (m : MM) : Option (Int32 × MM) :=
  bnd (s0 ||| s1) (fun y1 => k42 y1 (x5 + 1) m)
set_option maxHeartbeats 4000000 in
set_option maxRecDepth 100000 in
theorem s_X10_quiet_129 {Γ : GX} {E : EX} (C : Cx Γ E cX10_quiet RX10 8) (hr : Γ.meth.sig.returnType = (some .int)) (hrm : Γ.rm = rmX10_quiet) (th : Nat) (p1 : Int32) (p2 : Int32) (p3 : Int32) (k42 : Int32 → Int32 → MM → Option (Int32 × MM)) (h42 : ∀ (x4 : Int32) (x5 : Int32) (m : MM), Sm (QM Γ E emI 0 0) Γ E 8 0 0 42 [(0, va_rf (some th)), (1, .int p1), (2, .int p2), (3, .int p3), (4, .int x4), (5, .int x5)] [] m (k42 x4 x5 m)) (x5 : Int32) (s0 : Int32) (s1 : Int32) (m : MM) : Sm (QM Γ E emI 0 0) Γ E 8 0 0 129 [(0, va_rf (some th)), (1, .int p1), (2, .int p2), (3, .int p3), (5, .int x5)] [.int s1, .int s0] m (g_X10_quiet_129 th p1 p2 p3 k42 x5 s0 s1 m) := by
  unfold g_X10_quiet_129
  refine z_ior C dX10_quiet_129 ?_
  refine z_bndI (fun y1 => ?_)
  refine z_istore (i := 4) (L2 := [(4, .int y1), (0, va_rf (some th)), (1, .int p1), (2, .int p2), (3, .int p3), (5, .int x5)]) C dX10_quiet_130 (by decide) rfl ?_
  refine z_iinc (v := 1) (L2 := [(5, .int (x5 + 1)), (4, .int y1), (0, va_rf (some th)), (1, .int p1), (2, .int p2), (3, .int p3)]) C dX10_quiet_132 5 rfl (by decide) (by decide) rfl ?_
  refine z_goto (tgt := 42) C dX10_quiet_135 (by decide) ?_
  exact z_sub [2, 3, 4, 5, 1, 0] rfl (h42 y1 (x5 + 1) m)
set_option maxRecDepth 100000 in
def g_X10_quiet_114 (th : Nat) (p1 : Int32) (p2 : Int32) (p3 : Int32) (k42 : Int32 → Int32 → MM → Option (Int32 × MM)) (x4 : Int32) (x5 : Int32) (x6 : Int32) (m : MM) : Option (Int32 × MM) :=
  if x6 = 0 then (g_X10_quiet_129 th p1 p2 p3 k42 x5 x4 0 m) else (g_X10_quiet_129 th p1 p2 p3 k42 x5 x4 (1 <<< (x5 &&& 31)) m)
set_option maxHeartbeats 4000000 in
set_option maxRecDepth 100000 in
theorem s_X10_quiet_114 {Γ : GX} {E : EX} (C : Cx Γ E cX10_quiet RX10 8) (hr : Γ.meth.sig.returnType = (some .int)) (hrm : Γ.rm = rmX10_quiet) (th : Nat) (p1 : Int32) (p2 : Int32) (p3 : Int32) (k42 : Int32 → Int32 → MM → Option (Int32 × MM)) (h42 : ∀ (x4 : Int32) (x5 : Int32) (m : MM), Sm (QM Γ E emI 0 0) Γ E 8 0 0 42 [(0, va_rf (some th)), (1, .int p1), (2, .int p2), (3, .int p3), (4, .int x4), (5, .int x5)] [] m (k42 x4 x5 m)) (x4 : Int32) (x5 : Int32) (x6 : Int32) (m : MM) : Sm (QM Γ E emI 0 0) Γ E 8 0 0 114 [(0, va_rf (some th)), (1, .int p1), (2, .int p2), (3, .int p3), (4, .int x4), (5, .int x5), (6, .int x6)] [] m (g_X10_quiet_114 th p1 p2 p3 k42 x4 x5 x6 m) := by
  unfold g_X10_quiet_114
  refine z_iload C dX10_quiet_114 4 rfl ?_
  refine z_iload C dX10_quiet_116 6 rfl ?_
  refine z_if_eq (tgt := 128) C dX10_quiet_118 (by decide) (fun c4 => ?_) (fun c4 => ?_)
  · refine z_iconst (v := 0) C dX10_quiet_128 (by decide) ?_
    exact z_sub [0, 1, 2, 3, 5] rfl (s_X10_quiet_129 C hr hrm th p1 p2 p3 k42 h42 x5 x4 0 m)
  · refine z_iconst (v := 1) C dX10_quiet_121 (by decide) ?_
    refine z_iload C dX10_quiet_122 5 rfl ?_
    refine z_ishl C dX10_quiet_124 ?_
    refine z_goto (tgt := 129) C dX10_quiet_125 (by decide) ?_
    exact z_sub [0, 1, 2, 3, 5] rfl (s_X10_quiet_129 C hr hrm th p1 p2 p3 k42 h42 x5 x4 (1 <<< (x5 &&& 31)) m)
set_option maxRecDepth 100000 in
def g_X10_quiet_42 (th : Nat) (p1 : Int32) (p2 : Int32) (p3 : Int32) (k42 : Int32 → Int32 → MM → Option (Int32 × MM)) (x4 : Int32) (x5 : Int32) (m : MM) : Option (Int32 × MM) :=
  if 8 ≤ x5 then (some (x4, m)) else (chk (m.K th = 11) (bnd (m.sI 1169 th 0 x5) (fun m1 => cal (f_X10_findBars th p2 m1) (fun r1 m2 => l_X10_quiet_66 th p1 p2 p3 (g_X10_quiet_114 th p1 p2 p3 k42) FU x4 x5 1 0 m2))))
set_option maxHeartbeats 4000000 in
set_option maxRecDepth 100000 in
theorem s_X10_quiet_42 {Γ : GX} {E : EX} (C : Cx Γ E cX10_quiet RX10 8) (hr : Γ.meth.sig.returnType = (some .int)) (hrm : Γ.rm = rmX10_quiet) (th : Nat) (p1 : Int32) (p2 : Int32) (p3 : Int32) (k42 : Int32 → Int32 → MM → Option (Int32 × MM)) (h42 : ∀ (x4 : Int32) (x5 : Int32) (m : MM), Sm (QM Γ E emI 0 0) Γ E 8 0 0 42 [(0, va_rf (some th)), (1, .int p1), (2, .int p2), (3, .int p3), (4, .int x4), (5, .int x5)] [] m (k42 x4 x5 m)) (x4 : Int32) (x5 : Int32) (m : MM) : Sm (QM Γ E emI 0 0) Γ E 8 0 0 42 [(0, va_rf (some th)), (1, .int p1), (2, .int p2), (3, .int p3), (4, .int x4), (5, .int x5)] [] m (g_X10_quiet_42 th p1 p2 p3 k42 x4 x5 m) := by
  unfold g_X10_quiet_42
  refine z_iload C dX10_quiet_42 5 rfl ?_
  refine z_bipush (v := 8) C dX10_quiet_44 (by decide) ?_
  refine z_icmp_ge (tgt := 138) C dX10_quiet_46 (by decide) (fun c5 => ?_) (fun c5 => ?_)
  · refine z_iload C dX10_quiet_138 4 rfl ?_
    exact z_iret C hr dX10_quiet_140
  · refine z_aload_n C dX10_quiet_49 rfl 0 rfl ?_
    refine z_iload C dX10_quiet_50 5 rfl ?_
    refine z_chk (fun hk4 => ?_)
    refine z_putI C fl_RX10_387 (fun h => by cases h) rfl hk4 rfl rfl dX10_quiet_52 (fun m1 eK1 eN1 => ?_)
    refine z_aload_n C dX10_quiet_55 rfl 0 rfl ?_
    refine z_iload_n C dX10_quiet_56 rfl 2 rfl ?_
    refine z_cVV [.int p2] [] C mv_RX10_449 (fun r0 m0 h0 => M_X10_findBars _ _ _ _ _ _ _ h0) rfl rfl ⟨by rw [hrm]; exact Nat.le_of_ble_eq_true rfl, by rw [hrm]; exact Nat.le_of_ble_eq_true rfl⟩ ⟨by rw [hrm]; exact Nat.le_of_ble_eq_true rfl, by rw [hrm]; exact Nat.le_of_ble_eq_true rfl⟩ rfl (kfw eK1 hk4) rfl rfl rfl (Nat.le_of_ble_eq_true rfl) dX10_quiet_57 (fun r1 m2 => ?_)
    refine z_iconst (v := 1) C dX10_quiet_60 (by decide) ?_
    refine z_istore (i := 6) (L2 := [(6, .int 1), (0, va_rf (some th)), (1, .int p1), (2, .int p2), (3, .int p3), (4, .int x4), (5, .int x5)]) C dX10_quiet_61 (by decide) rfl ?_
    refine z_iconst (v := 0) C dX10_quiet_63 (by decide) ?_
    refine z_istore (i := 7) (L2 := [(7, .int 0), (6, .int 1), (0, va_rf (some th)), (1, .int p1), (2, .int p2), (3, .int p3), (4, .int x4), (5, .int x5)]) C dX10_quiet_64 (by decide) rfl ?_
    exact z_sub [2, 3, 4, 5, 6, 7, 1, 0] rfl (t_X10_quiet_66 C hr hrm th p1 p2 p3 (g_X10_quiet_114 th p1 p2 p3 k42) (s_X10_quiet_114 C hr hrm th p1 p2 p3 k42 h42) FU x4 x5 1 0 m2)
def l_X10_quiet_42 (th : Nat) (p1 : Int32) (p2 : Int32) (p3 : Int32) : Nat → Int32 → Int32 → MM → Option (Int32 × MM) := lp (fun _ _ _ => none) (fun k42 => g_X10_quiet_42 th p1 p2 p3 k42)
theorem t_X10_quiet_42 {Γ : GX} {E : EX} (C : Cx Γ E cX10_quiet RX10 8) (hr : Γ.meth.sig.returnType = (some .int)) (hrm : Γ.rm = rmX10_quiet) (th : Nat) (p1 : Int32) (p2 : Int32) (p3 : Int32) : ∀ (n : Nat) (x4 : Int32) (x5 : Int32) (m : MM), Sm (QM Γ E emI 0 0) Γ E 8 0 0 42 [(0, va_rf (some th)), (1, .int p1), (2, .int p2), (3, .int p3), (4, .int x4), (5, .int x5)] [] m (l_X10_quiet_42 th p1 p2 p3 n x4 x5 m) := by
  intro n
  induction n with
  | zero => intros; exact z_none
  | succ n ih => intro x4 x5 m; exact s_X10_quiet_42 C hr hrm th p1 p2 p3 (l_X10_quiet_42 th p1 p2 p3 n) ih x4 x5 m
set_option maxRecDepth 100000 in
def g_X10_quiet_0 (th : Nat) (p1 : Int32) (p2 : Int32) (p3 : Int32) (m : MM) : Option (Int32 × MM) :=
  chk (m.K th = 11) (bnd (m.sI 1100 th 0 0) (fun m3 => cal (f_X10_isTown th p1 m3) (fun r2 m4 => if r2 = 0 then (some ((-1), m4)) else (chk (m4.K th = 11) (cal (f_X10_isLaw th p2 m4) (fun r3 m5 => if r3 = 0 then (some ((-1), m5)) else (cal (f_X10_isDay p3 m5) (fun r4 m6 => if r4 = 0 then (some ((-1), m6)) else (chk (m6.K th = 11) (cal (f_X10_bring th p1 p3 m6) (fun r5 m7 => l_X10_quiet_42 th p1 p2 p3 FU 0 0 m7)))))))))))
set_option maxHeartbeats 4000000 in
set_option maxRecDepth 100000 in
theorem s_X10_quiet_0 {Γ : GX} {E : EX} (C : Cx Γ E cX10_quiet RX10 8) (hr : Γ.meth.sig.returnType = (some .int)) (hrm : Γ.rm = rmX10_quiet) (th : Nat) (p1 : Int32) (p2 : Int32) (p3 : Int32) (m : MM) : Sm (QM Γ E emI 0 0) Γ E 8 0 0 0 [(0, va_rf (some th)), (1, .int p1), (2, .int p2), (3, .int p3)] [] m (g_X10_quiet_0 th p1 p2 p3 m) := by
  unfold g_X10_quiet_0
  refine z_aload_n C dX10_quiet_0 rfl 0 rfl ?_
  refine z_iconst (v := 0) C dX10_quiet_1 (by decide) ?_
  refine z_chk (fun hk5 => ?_)
  refine z_putI C fl_RX10_180 (fun h => by cases h) rfl hk5 rfl rfl dX10_quiet_2 (fun m3 eK2 eN2 => ?_)
  refine z_aload_n C dX10_quiet_5 rfl 0 rfl ?_
  refine z_iload_n C dX10_quiet_6 rfl 1 rfl ?_
  refine z_cVI [.int p1] [] C mv_RX10_192 (fun r0 m0 h0 => M_X10_isTown _ _ _ _ _ _ _ h0) rfl rfl ⟨by rw [hrm]; exact Nat.le_of_ble_eq_true rfl, by rw [hrm]; exact Nat.le_of_ble_eq_true rfl⟩ ⟨by rw [hrm]; exact Nat.le_of_ble_eq_true rfl, by rw [hrm]; exact Nat.le_of_ble_eq_true rfl⟩ rfl (kfw eK2 hk5) rfl rfl rfl (Nat.le_of_ble_eq_true rfl) dX10_quiet_7 (fun r2 m4 => ?_)
  refine z_if_eq (tgt := 28) C dX10_quiet_10 (by decide) (fun c6 => ?_) (fun c6 => ?_)
  · refine z_iconst (v := (-1)) C dX10_quiet_28 (by decide) ?_
    exact z_iret C hr dX10_quiet_29
  · refine z_aload_n C dX10_quiet_13 rfl 0 rfl ?_
    refine z_iload_n C dX10_quiet_14 rfl 2 rfl ?_
    refine z_chk (fun hk6 => ?_)
    refine z_cVI [.int p2] [] C mv_RX10_360 (fun r0 m0 h0 => M_X10_isLaw _ _ _ _ _ _ _ h0) rfl rfl ⟨by rw [hrm]; exact Nat.le_of_ble_eq_true rfl, by rw [hrm]; exact Nat.le_of_ble_eq_true rfl⟩ ⟨by rw [hrm]; exact Nat.le_of_ble_eq_true rfl, by rw [hrm]; exact Nat.le_of_ble_eq_true rfl⟩ rfl hk6 rfl rfl rfl (Nat.le_of_ble_eq_true rfl) dX10_quiet_15 (fun r3 m5 => ?_)
    refine z_if_eq (tgt := 28) C dX10_quiet_18 (by decide) (fun c7 => ?_) (fun c7 => ?_)
    · refine z_iconst (v := (-1)) C dX10_quiet_28 (by decide) ?_
      exact z_iret C hr dX10_quiet_29
    · refine z_iload_n C dX10_quiet_21 rfl 3 rfl ?_
      refine z_cSI [.int p3] [] C mv_RX10_372 (fun r0 m0 h0 => M_X10_isDay _ _ _ _ _ _ h0) rfl rfl ⟨by rw [hrm]; exact Nat.le_of_ble_eq_true rfl, by rw [hrm]; exact Nat.le_of_ble_eq_true rfl⟩ ⟨by rw [hrm]; exact Nat.le_of_ble_eq_true rfl, by rw [hrm]; exact Nat.le_of_ble_eq_true rfl⟩ rfl rfl (Nat.le_of_ble_eq_true rfl) dX10_quiet_22 (fun r4 m6 => ?_)
      refine z_if_ne (tgt := 30) C dX10_quiet_25 (by decide) (fun c8 => ?_) (fun c8 => ?_)
      · refine z_iconst (v := 0) C dX10_quiet_30 (by decide) ?_
        refine z_istore (i := 4) (L2 := [(4, .int 0), (0, va_rf (some th)), (1, .int p1), (2, .int p2), (3, .int p3)]) C dX10_quiet_31 (by decide) rfl ?_
        refine z_aload_n C dX10_quiet_33 rfl 1 rfl ?_
        refine z_iload_n C dX10_quiet_34 rfl 2 rfl ?_
        refine z_iload_n C dX10_quiet_35 rfl 4 rfl ?_
        refine z_chk (fun hk7 => ?_)
        refine z_cVV [.int p1, .int p3] [] C mv_RX10_393 (fun r0 m0 h0 => M_X10_bring _ _ _ _ _ _ _ _ h0) rfl rfl ⟨by rw [hrm]; exact Nat.le_of_ble_eq_true rfl, by rw [hrm]; exact Nat.le_of_ble_eq_true rfl⟩ ⟨by rw [hrm]; exact Nat.le_of_ble_eq_true rfl, by rw [hrm]; exact Nat.le_of_ble_eq_true rfl⟩ rfl hk7 rfl rfl rfl (Nat.le_of_ble_eq_true rfl) dX10_quiet_36 (fun r5 m7 => ?_)
        refine z_iconst (v := 0) C dX10_quiet_39 (by decide) ?_
        refine z_istore (i := 5) (L2 := [(5, .int 0), (4, .int 0), (0, va_rf (some th)), (1, .int p1), (2, .int p2), (3, .int p3)]) C dX10_quiet_40 (by decide) rfl ?_
        exact z_sub [2, 3, 4, 5, 1, 0] rfl (t_X10_quiet_42 C hr hrm th p1 p2 p3 FU 0 0 m7)
      · refine z_iconst (v := (-1)) C dX10_quiet_28 (by decide) ?_
        exact z_iret C hr dX10_quiet_29
def f_X10_quiet (th : Nat) (p1 : Int32) (p2 : Int32) (p3 : Int32) (m : MM) : Option (Int32 × MM) := g_X10_quiet_0 th p1 p2 p3 m
theorem M_X10_quiet (l : Launch) (E : EX) (th : Nat) (p1 : Int32) (p2 : Int32) (p3 : Int32) (m : MM) (r : Int32) (m2 : MM) (h : f_X10_quiet th p1 p2 p3 m = some (r, m2)) : Met l yX10_quiet (.code yX10_quiet cX10_quiet 8 (some .int) :: TB) rmX10_quiet (va_Pc [.ref th, .int p1, .int p2, .int p3] (St E m)) (QR E (emI r) m2) 0 0 (AA E) :=
  met_of (em := emI) (plainFor_of_name rfl) (Nat.le_of_ble_eq_true rfl) (L0 := [(0, va_rf (some th)), (1, .int p1), (2, .int p2), (3, .int p3)]) rfl (fun Γ _ hrm C hr hn => s_X10_quiet_0 C hr hrm th p1 p2 p3 m) h

theorem dX10_room_0 : decode cX10_room 0 = .ok (.aload_n 0, 1) := by decide +kernel
theorem dX10_room_1 : decode cX10_room 1 = .ok (.iconst 0, 1) := by decide +kernel
theorem dX10_room_2 : decode cX10_room 2 = .ok (.putfield 180, 3) := by decide +kernel
theorem dX10_room_5 : decode cX10_room 5 = .ok (.aload_n 0, 1) := by decide +kernel
theorem dX10_room_6 : decode cX10_room 6 = .ok (.iload_n 1, 1) := by decide +kernel
theorem dX10_room_7 : decode cX10_room 7 = .ok (.iload_n 2, 1) := by decide +kernel
theorem dX10_room_8 : decode cX10_room 8 = .ok (.iload_n 3, 1) := by decide +kernel
theorem dX10_room_9 : decode cX10_room 9 = .ok (.invokevirtual 452, 3) := by decide +kernel
theorem dX10_room_12 : decode cX10_room 12 = .ok (.ifCond .eq 10, 3) := by decide +kernel
theorem dX10_room_15 : decode cX10_room 15 = .ok (.aload_n 0, 1) := by decide +kernel
theorem dX10_room_16 : decode cX10_room 16 = .ok (.getfield 443, 3) := by decide +kernel
theorem dX10_room_19 : decode cX10_room 19 = .ok (.ifCond .le 5, 3) := by decide +kernel
theorem dX10_room_22 : decode cX10_room 22 = .ok (.iconst (-1), 1) := by decide +kernel
theorem dX10_room_23 : decode cX10_room 23 = .ok (.ireturn, 1) := by decide +kernel
theorem dX10_room_24 : decode cX10_room 24 = .ok (.iconst 1, 1) := by decide +kernel
theorem dX10_room_25 : decode cX10_room 25 = .ok (.istore 4, 2) := by decide +kernel
theorem dX10_room_27 : decode cX10_room 27 = .ok (.iload 4, 2) := by decide +kernel
theorem dX10_room_29 : decode cX10_room 29 = .ok (.bipush 13, 2) := by decide +kernel
theorem dX10_room_31 : decode cX10_room 31 = .ok (.if_icmp .ge 32, 3) := by decide +kernel
theorem dX10_room_34 : decode cX10_room 34 = .ok (.aload_n 0, 1) := by decide +kernel
theorem dX10_room_35 : decode cX10_room 35 = .ok (.iload 4, 2) := by decide +kernel
theorem dX10_room_37 : decode cX10_room 37 = .ok (.putfield 390, 3) := by decide +kernel
theorem dX10_room_40 : decode cX10_room 40 = .ok (.aload_n 0, 1) := by decide +kernel
theorem dX10_room_41 : decode cX10_room 41 = .ok (.iload_n 2, 1) := by decide +kernel
theorem dX10_room_42 : decode cX10_room 42 = .ok (.invokevirtual 449, 3) := by decide +kernel
theorem dX10_room_45 : decode cX10_room 45 = .ok (.aload_n 0, 1) := by decide +kernel
theorem dX10_room_46 : decode cX10_room 46 = .ok (.getfield 443, 3) := by decide +kernel
theorem dX10_room_49 : decode cX10_room 49 = .ok (.ifCond .le 8, 3) := by decide +kernel
theorem dX10_room_52 : decode cX10_room 52 = .ok (.iload 4, 2) := by decide +kernel
theorem dX10_room_54 : decode cX10_room 54 = .ok (.iconst 1, 1) := by decide +kernel
theorem dX10_room_55 : decode cX10_room 55 = .ok (.isub, 1) := by decide +kernel
theorem dX10_room_56 : decode cX10_room 56 = .ok (.ireturn, 1) := by decide +kernel
theorem dX10_room_57 : decode cX10_room 57 = .ok (.iinc 4 1, 3) := by decide +kernel
theorem dX10_room_60 : decode cX10_room 60 = .ok (.goto (-33), 3) := by decide +kernel
theorem dX10_room_63 : decode cX10_room 63 = .ok (.bipush 12, 2) := by decide +kernel
theorem dX10_room_65 : decode cX10_room 65 = .ok (.ireturn, 1) := by decide +kernel
def rmX10_room : Room := { frames := 7, cells := 0, slots := 0, locals := 180 }
set_option maxRecDepth 100000 in
def g_X10_room_27 (th : Nat) (p1 : Int32) (p2 : Int32) (p3 : Int32) (k27 : Int32 → MM → Option (Int32 × MM)) (x4 : Int32) (m : MM) : Option (Int32 × MM) :=
  if 13 ≤ x4 then (some (12, m)) else (chk (m.K th = 11) (bnd (m.sI 1170 th 0 x4) (fun m1 => cal (f_X10_findBars th p2 m1) (fun r1 m2 => chk (m2.K th = 11) (if (m2.I 1174 th 0) ≤ 0 then (k27 (x4 + 1) m2) else (some (x4 - 1, m2)))))))
set_option maxHeartbeats 4000000 in
set_option maxRecDepth 100000 in
theorem s_X10_room_27 {Γ : GX} {E : EX} (C : Cx Γ E cX10_room RX10 5) (hr : Γ.meth.sig.returnType = (some .int)) (hrm : Γ.rm = rmX10_room) (th : Nat) (p1 : Int32) (p2 : Int32) (p3 : Int32) (k27 : Int32 → MM → Option (Int32 × MM)) (h27 : ∀ (x4 : Int32) (m : MM), Sm (QM Γ E emI 0 0) Γ E 5 0 0 27 [(0, va_rf (some th)), (1, .int p1), (2, .int p2), (3, .int p3), (4, .int x4)] [] m (k27 x4 m)) (x4 : Int32) (m : MM) : Sm (QM Γ E emI 0 0) Γ E 5 0 0 27 [(0, va_rf (some th)), (1, .int p1), (2, .int p2), (3, .int p3), (4, .int x4)] [] m (g_X10_room_27 th p1 p2 p3 k27 x4 m) := by
  unfold g_X10_room_27
  refine z_iload C dX10_room_27 4 rfl ?_
  refine z_bipush (v := 13) C dX10_room_29 (by decide) ?_
  refine z_icmp_ge (tgt := 63) C dX10_room_31 (by decide) (fun c1 => ?_) (fun c1 => ?_)
  · refine z_bipush (v := 12) C dX10_room_63 (by decide) ?_
    exact z_iret C hr dX10_room_65
  · refine z_aload_n C dX10_room_34 rfl 0 rfl ?_
    refine z_iload C dX10_room_35 4 rfl ?_
    refine z_chk (fun hk1 => ?_)
    refine z_putI C fl_RX10_390 (fun h => by cases h) rfl hk1 rfl rfl dX10_room_37 (fun m1 eK1 eN1 => ?_)
    refine z_aload_n C dX10_room_40 rfl 0 rfl ?_
    refine z_iload_n C dX10_room_41 rfl 2 rfl ?_
    refine z_cVV [.int p2] [] C mv_RX10_449 (fun r0 m0 h0 => M_X10_findBars _ _ _ _ _ _ _ h0) rfl rfl ⟨by rw [hrm]; exact Nat.le_of_ble_eq_true rfl, by rw [hrm]; exact Nat.le_of_ble_eq_true rfl⟩ ⟨by rw [hrm]; exact Nat.le_of_ble_eq_true rfl, by rw [hrm]; exact Nat.le_of_ble_eq_true rfl⟩ rfl (kfw eK1 hk1) rfl rfl rfl (Nat.le_of_ble_eq_true rfl) dX10_room_42 (fun r1 m2 => ?_)
    refine z_aload_n C dX10_room_45 rfl 0 rfl ?_
    refine z_chk (fun hk2 => ?_)
    refine z_getI C fl_RX10_443 rfl hk2 dX10_room_46 ?_
    refine z_if_le (tgt := 57) C dX10_room_49 (by decide) (fun c2 => ?_) (fun c2 => ?_)
    · refine z_iinc (v := 1) (L2 := [(4, .int (x4 + 1)), (0, va_rf (some th)), (1, .int p1), (2, .int p2), (3, .int p3)]) C dX10_room_57 4 rfl (by decide) (by decide) rfl ?_
      refine z_goto (tgt := 27) C dX10_room_60 (by decide) ?_
      exact z_sub [1, 2, 3, 4, 0] rfl (h27 (x4 + 1) m2)
    · refine z_iload C dX10_room_52 4 rfl ?_
      refine z_iconst (v := 1) C dX10_room_54 (by decide) ?_
      refine z_isub C dX10_room_55 ?_
      exact z_iret C hr dX10_room_56
def l_X10_room_27 (th : Nat) (p1 : Int32) (p2 : Int32) (p3 : Int32) : Nat → Int32 → MM → Option (Int32 × MM) := lp (fun _ _ => none) (fun k27 => g_X10_room_27 th p1 p2 p3 k27)
theorem t_X10_room_27 {Γ : GX} {E : EX} (C : Cx Γ E cX10_room RX10 5) (hr : Γ.meth.sig.returnType = (some .int)) (hrm : Γ.rm = rmX10_room) (th : Nat) (p1 : Int32) (p2 : Int32) (p3 : Int32) : ∀ (n : Nat) (x4 : Int32) (m : MM), Sm (QM Γ E emI 0 0) Γ E 5 0 0 27 [(0, va_rf (some th)), (1, .int p1), (2, .int p2), (3, .int p3), (4, .int x4)] [] m (l_X10_room_27 th p1 p2 p3 n x4 m) := by
  intro n
  induction n with
  | zero => intros; exact z_none
  | succ n ih => intro x4 m; exact s_X10_room_27 C hr hrm th p1 p2 p3 (l_X10_room_27 th p1 p2 p3 n) ih x4 m
set_option maxRecDepth 100000 in
def g_X10_room_0 (th : Nat) (p1 : Int32) (p2 : Int32) (p3 : Int32) (m : MM) : Option (Int32 × MM) :=
  chk (m.K th = 11) (bnd (m.sI 1100 th 0 0) (fun m3 => cal (f_X10_bringBars th p1 p2 p3 m3) (fun r2 m4 => if r2 = 0 then (some ((-1), m4)) else (chk (m4.K th = 11) (if (m4.I 1174 th 0) ≤ 0 then (l_X10_room_27 th p1 p2 p3 FU 1 m4) else (some ((-1), m4)))))))
set_option maxHeartbeats 4000000 in
set_option maxRecDepth 100000 in
theorem s_X10_room_0 {Γ : GX} {E : EX} (C : Cx Γ E cX10_room RX10 5) (hr : Γ.meth.sig.returnType = (some .int)) (hrm : Γ.rm = rmX10_room) (th : Nat) (p1 : Int32) (p2 : Int32) (p3 : Int32) (m : MM) : Sm (QM Γ E emI 0 0) Γ E 5 0 0 0 [(0, va_rf (some th)), (1, .int p1), (2, .int p2), (3, .int p3)] [] m (g_X10_room_0 th p1 p2 p3 m) := by
  unfold g_X10_room_0
  refine z_aload_n C dX10_room_0 rfl 0 rfl ?_
  refine z_iconst (v := 0) C dX10_room_1 (by decide) ?_
  refine z_chk (fun hk3 => ?_)
  refine z_putI C fl_RX10_180 (fun h => by cases h) rfl hk3 rfl rfl dX10_room_2 (fun m3 eK2 eN2 => ?_)
  refine z_aload_n C dX10_room_5 rfl 0 rfl ?_
  refine z_iload_n C dX10_room_6 rfl 1 rfl ?_
  refine z_iload_n C dX10_room_7 rfl 2 rfl ?_
  refine z_iload_n C dX10_room_8 rfl 3 rfl ?_
  refine z_cVI [.int p1, .int p2, .int p3] [] C mv_RX10_452 (fun r0 m0 h0 => M_X10_bringBars _ _ _ _ _ _ _ _ _ h0) rfl rfl ⟨by rw [hrm]; exact Nat.le_of_ble_eq_true rfl, by rw [hrm]; exact Nat.le_of_ble_eq_true rfl⟩ ⟨by rw [hrm]; exact Nat.le_of_ble_eq_true rfl, by rw [hrm]; exact Nat.le_of_ble_eq_true rfl⟩ rfl (kfw eK2 hk3) rfl rfl rfl (Nat.le_of_ble_eq_true rfl) dX10_room_9 (fun r2 m4 => ?_)
  refine z_if_eq (tgt := 22) C dX10_room_12 (by decide) (fun c3 => ?_) (fun c3 => ?_)
  · refine z_iconst (v := (-1)) C dX10_room_22 (by decide) ?_
    exact z_iret C hr dX10_room_23
  · refine z_aload_n C dX10_room_15 rfl 0 rfl ?_
    refine z_chk (fun hk4 => ?_)
    refine z_getI C fl_RX10_443 rfl hk4 dX10_room_16 ?_
    refine z_if_le (tgt := 24) C dX10_room_19 (by decide) (fun c4 => ?_) (fun c4 => ?_)
    · refine z_iconst (v := 1) C dX10_room_24 (by decide) ?_
      refine z_istore (i := 4) (L2 := [(4, .int 1), (0, va_rf (some th)), (1, .int p1), (2, .int p2), (3, .int p3)]) C dX10_room_25 (by decide) rfl ?_
      exact z_sub [1, 2, 3, 4, 0] rfl (t_X10_room_27 C hr hrm th p1 p2 p3 FU 1 m4)
    · refine z_iconst (v := (-1)) C dX10_room_22 (by decide) ?_
      exact z_iret C hr dX10_room_23
def f_X10_room (th : Nat) (p1 : Int32) (p2 : Int32) (p3 : Int32) (m : MM) : Option (Int32 × MM) := g_X10_room_0 th p1 p2 p3 m
theorem M_X10_room (l : Launch) (E : EX) (th : Nat) (p1 : Int32) (p2 : Int32) (p3 : Int32) (m : MM) (r : Int32) (m2 : MM) (h : f_X10_room th p1 p2 p3 m = some (r, m2)) : Met l yX10_room (.code yX10_room cX10_room 5 (some .int) :: TB) rmX10_room (va_Pc [.ref th, .int p1, .int p2, .int p3] (St E m)) (QR E (emI r) m2) 0 0 (AA E) :=
  met_of (em := emI) (plainFor_of_name rfl) (Nat.le_of_ble_eq_true rfl) (L0 := [(0, va_rf (some th)), (1, .int p1), (2, .int p2), (3, .int p3)]) rfl (fun Γ _ hrm C hr hn => s_X10_room_0 C hr hrm th p1 p2 p3 m) h

theorem dX10_by_0 : decode cX10_by 0 = .ok (.aload_n 0, 1) := by decide +kernel
theorem dX10_by_1 : decode cX10_by 1 = .ok (.iconst 0, 1) := by decide +kernel
theorem dX10_by_2 : decode cX10_by 2 = .ok (.putfield 180, 3) := by decide +kernel
theorem dX10_by_5 : decode cX10_by 5 = .ok (.aload_n 0, 1) := by decide +kernel
theorem dX10_by_6 : decode cX10_by 6 = .ok (.iload_n 1, 1) := by decide +kernel
theorem dX10_by_7 : decode cX10_by 7 = .ok (.iload_n 2, 1) := by decide +kernel
theorem dX10_by_8 : decode cX10_by 8 = .ok (.iload_n 3, 1) := by decide +kernel
theorem dX10_by_9 : decode cX10_by 9 = .ok (.invokevirtual 452, 3) := by decide +kernel
theorem dX10_by_12 : decode cX10_by 12 = .ok (.ifCond .eq 20, 3) := by decide +kernel
theorem dX10_by_15 : decode cX10_by 15 = .ok (.iload 4, 2) := by decide +kernel
theorem dX10_by_17 : decode cX10_by 17 = .ok (.iconst 0, 1) := by decide +kernel
theorem dX10_by_18 : decode cX10_by 18 = .ok (.aload_n 0, 1) := by decide +kernel
theorem dX10_by_19 : decode cX10_by 19 = .ok (.getfield 95, 3) := by decide +kernel
theorem dX10_by_22 : decode cX10_by 22 = .ok (.iload_n 2, 1) := by decide +kernel
theorem dX10_by_23 : decode cX10_by 23 = .ok (.iaload, 1) := by decide +kernel
theorem dX10_by_24 : decode cX10_by 24 = .ok (.iconst 1, 1) := by decide +kernel
theorem dX10_by_25 : decode cX10_by 25 = .ok (.isub, 1) := by decide +kernel
theorem dX10_by_26 : decode cX10_by 26 = .ok (.invokestatic 188, 3) := by decide +kernel
theorem dX10_by_29 : decode cX10_by 29 = .ok (.ifCond .ne 5, 3) := by decide +kernel
theorem dX10_by_32 : decode cX10_by 32 = .ok (.iconst (-1), 1) := by decide +kernel
theorem dX10_by_33 : decode cX10_by 33 = .ok (.ireturn, 1) := by decide +kernel
theorem dX10_by_34 : decode cX10_by 34 = .ok (.iconst 0, 1) := by decide +kernel
theorem dX10_by_35 : decode cX10_by 35 = .ok (.istore 5, 2) := by decide +kernel
theorem dX10_by_37 : decode cX10_by 37 = .ok (.iconst 0, 1) := by decide +kernel
theorem dX10_by_38 : decode cX10_by 38 = .ok (.istore 6, 2) := by decide +kernel
theorem dX10_by_40 : decode cX10_by 40 = .ok (.iload 6, 2) := by decide +kernel
theorem dX10_by_42 : decode cX10_by 42 = .ok (.aload_n 0, 1) := by decide +kernel
theorem dX10_by_43 : decode cX10_by 43 = .ok (.getfield 443, 3) := by decide +kernel
theorem dX10_by_46 : decode cX10_by 46 = .ok (.if_icmp .ge 31, 3) := by decide +kernel
theorem dX10_by_49 : decode cX10_by 49 = .ok (.iload 5, 2) := by decide +kernel
theorem dX10_by_51 : decode cX10_by 51 = .ok (.aload_n 0, 1) := by decide +kernel
theorem dX10_by_52 : decode cX10_by 52 = .ok (.getfield 164, 3) := by decide +kernel
theorem dX10_by_55 : decode cX10_by 55 = .ok (.iload 6, 2) := by decide +kernel
theorem dX10_by_57 : decode cX10_by 57 = .ok (.iaload, 1) := by decide +kernel
theorem dX10_by_58 : decode cX10_by 58 = .ok (.iload 4, 2) := by decide +kernel
theorem dX10_by_60 : decode cX10_by 60 = .ok (.if_icmp .ne 7, 3) := by decide +kernel
theorem dX10_by_63 : decode cX10_by 63 = .ok (.iconst 1, 1) := by decide +kernel
theorem dX10_by_64 : decode cX10_by 64 = .ok (.goto 4, 3) := by decide +kernel
theorem dX10_by_67 : decode cX10_by 67 = .ok (.iconst 0, 1) := by decide +kernel
theorem dX10_by_68 : decode cX10_by 68 = .ok (.iadd, 1) := by decide +kernel
theorem dX10_by_69 : decode cX10_by 69 = .ok (.istore 5, 2) := by decide +kernel
theorem dX10_by_71 : decode cX10_by 71 = .ok (.iinc 6 1, 3) := by decide +kernel
theorem dX10_by_74 : decode cX10_by 74 = .ok (.goto (-34), 3) := by decide +kernel
theorem dX10_by_77 : decode cX10_by 77 = .ok (.iload 5, 2) := by decide +kernel
theorem dX10_by_79 : decode cX10_by 79 = .ok (.ireturn, 1) := by decide +kernel
def rmX10_by : Room := { frames := 7, cells := 0, slots := 0, locals := 180 }
set_option maxRecDepth 100000 in
def g_X10_by_68 (th : Nat) (p1 : Int32) (p2 : Int32) (p3 : Int32) (p4 : Int32) (k40 : Int32 → Int32 → MM → Option (Int32 × MM)) (x6 : Int32) (s0 : Int32) (s1 : Int32) (m : MM) : Option (Int32 × MM) :=
  bnd (s0 + s1) (fun y1 => k40 y1 (x6 + 1) m)
set_option maxHeartbeats 4000000 in
set_option maxRecDepth 100000 in
theorem s_X10_by_68 {Γ : GX} {E : EX} (C : Cx Γ E cX10_by RX10 7) (hr : Γ.meth.sig.returnType = (some .int)) (hrm : Γ.rm = rmX10_by) (th : Nat) (p1 : Int32) (p2 : Int32) (p3 : Int32) (p4 : Int32) (k40 : Int32 → Int32 → MM → Option (Int32 × MM)) (h40 : ∀ (x5 : Int32) (x6 : Int32) (m : MM), Sm (QM Γ E emI 0 0) Γ E 7 0 0 40 [(0, va_rf (some th)), (1, .int p1), (2, .int p2), (3, .int p3), (4, .int p4), (5, .int x5), (6, .int x6)] [] m (k40 x5 x6 m)) (x6 : Int32) (s0 : Int32) (s1 : Int32) (m : MM) : Sm (QM Γ E emI 0 0) Γ E 7 0 0 68 [(0, va_rf (some th)), (1, .int p1), (2, .int p2), (3, .int p3), (4, .int p4), (6, .int x6)] [.int s1, .int s0] m (g_X10_by_68 th p1 p2 p3 p4 k40 x6 s0 s1 m) := by
  unfold g_X10_by_68
  refine z_iadd C dX10_by_68 ?_
  refine z_bndI (fun y1 => ?_)
  refine z_istore (i := 5) (L2 := [(5, .int y1), (0, va_rf (some th)), (1, .int p1), (2, .int p2), (3, .int p3), (4, .int p4), (6, .int x6)]) C dX10_by_69 (by decide) rfl ?_
  refine z_iinc (v := 1) (L2 := [(6, .int (x6 + 1)), (5, .int y1), (0, va_rf (some th)), (1, .int p1), (2, .int p2), (3, .int p3), (4, .int p4)]) C dX10_by_71 6 rfl (by decide) (by decide) rfl ?_
  refine z_goto (tgt := 40) C dX10_by_74 (by decide) ?_
  exact z_sub [2, 3, 4, 5, 6, 1, 0] rfl (h40 y1 (x6 + 1) m)
set_option maxRecDepth 100000 in
def g_X10_by_40 (th : Nat) (p1 : Int32) (p2 : Int32) (p3 : Int32) (p4 : Int32) (k40 : Int32 → Int32 → MM → Option (Int32 × MM)) (x5 : Int32) (x6 : Int32) (m : MM) : Option (Int32 × MM) :=
  chk (m.K th = 11) (if (m.I 1174 th 0) ≤ x6 then (some (x5, m)) else (ck m (m.R 1173 th 0) 22 (fun a1 => chk (inb x6 (m.N a1) = true) (if (m.I 22 a1 (Int32.toNatClampNeg x6)) = p4 then (g_X10_by_68 th p1 p2 p3 p4 k40 x6 x5 1 m) else (g_X10_by_68 th p1 p2 p3 p4 k40 x6 x5 0 m)))))
set_option maxHeartbeats 4000000 in
set_option maxRecDepth 100000 in
theorem s_X10_by_40 {Γ : GX} {E : EX} (C : Cx Γ E cX10_by RX10 7) (hr : Γ.meth.sig.returnType = (some .int)) (hrm : Γ.rm = rmX10_by) (th : Nat) (p1 : Int32) (p2 : Int32) (p3 : Int32) (p4 : Int32) (k40 : Int32 → Int32 → MM → Option (Int32 × MM)) (h40 : ∀ (x5 : Int32) (x6 : Int32) (m : MM), Sm (QM Γ E emI 0 0) Γ E 7 0 0 40 [(0, va_rf (some th)), (1, .int p1), (2, .int p2), (3, .int p3), (4, .int p4), (5, .int x5), (6, .int x6)] [] m (k40 x5 x6 m)) (x5 : Int32) (x6 : Int32) (m : MM) : Sm (QM Γ E emI 0 0) Γ E 7 0 0 40 [(0, va_rf (some th)), (1, .int p1), (2, .int p2), (3, .int p3), (4, .int p4), (5, .int x5), (6, .int x6)] [] m (g_X10_by_40 th p1 p2 p3 p4 k40 x5 x6 m) := by
  unfold g_X10_by_40
  refine z_iload C dX10_by_40 6 rfl ?_
  refine z_aload_n C dX10_by_42 rfl 0 rfl ?_
  refine z_chk (fun hk1 => ?_)
  refine z_getI C fl_RX10_443 rfl hk1 dX10_by_43 ?_
  refine z_icmp_ge (tgt := 77) C dX10_by_46 (by decide) (fun c1 => ?_) (fun c1 => ?_)
  · refine z_iload C dX10_by_77 5 rfl ?_
    exact z_iret C hr dX10_by_79
  · refine z_iload C dX10_by_49 5 rfl ?_
    refine z_aload_n C dX10_by_51 rfl 0 rfl ?_
    refine z_getR C fl_RX10_164 rfl hk1 dX10_by_52 ?_
    refine z_iload C dX10_by_55 6 rfl ?_
    refine z_ck (fun a1 hr1 hk2 => ?_)
    refine z_chk (fun hj1 => ?_)
    refine z_iald C hr1 hk2 hj1 dX10_by_57 ?_
    refine z_iload C dX10_by_58 4 rfl ?_
    refine z_icmp_ne (tgt := 67) C dX10_by_60 (by decide) (fun c2 => ?_) (fun c2 => ?_)
    · refine z_iconst (v := 0) C dX10_by_67 (by decide) ?_
      exact z_sub [0, 1, 2, 3, 4, 6] rfl (s_X10_by_68 C hr hrm th p1 p2 p3 p4 k40 h40 x6 x5 0 m)
    · refine z_iconst (v := 1) C dX10_by_63 (by decide) ?_
      refine z_goto (tgt := 68) C dX10_by_64 (by decide) ?_
      exact z_sub [0, 1, 2, 3, 4, 6] rfl (s_X10_by_68 C hr hrm th p1 p2 p3 p4 k40 h40 x6 x5 1 m)
def l_X10_by_40 (th : Nat) (p1 : Int32) (p2 : Int32) (p3 : Int32) (p4 : Int32) : Nat → Int32 → Int32 → MM → Option (Int32 × MM) := lp (fun _ _ _ => none) (fun k40 => g_X10_by_40 th p1 p2 p3 p4 k40)
theorem t_X10_by_40 {Γ : GX} {E : EX} (C : Cx Γ E cX10_by RX10 7) (hr : Γ.meth.sig.returnType = (some .int)) (hrm : Γ.rm = rmX10_by) (th : Nat) (p1 : Int32) (p2 : Int32) (p3 : Int32) (p4 : Int32) : ∀ (n : Nat) (x5 : Int32) (x6 : Int32) (m : MM), Sm (QM Γ E emI 0 0) Γ E 7 0 0 40 [(0, va_rf (some th)), (1, .int p1), (2, .int p2), (3, .int p3), (4, .int p4), (5, .int x5), (6, .int x6)] [] m (l_X10_by_40 th p1 p2 p3 p4 n x5 x6 m) := by
  intro n
  induction n with
  | zero => intros; exact z_none
  | succ n ih => intro x5 x6 m; exact s_X10_by_40 C hr hrm th p1 p2 p3 p4 (l_X10_by_40 th p1 p2 p3 p4 n) ih x5 x6 m
set_option maxRecDepth 100000 in
def g_X10_by_0 (th : Nat) (p1 : Int32) (p2 : Int32) (p3 : Int32) (p4 : Int32) (m : MM) : Option (Int32 × MM) :=
  chk (m.K th = 11) (bnd (m.sI 1100 th 0 0) (fun m1 => cal (f_X10_bringBars th p1 p2 p3 m1) (fun r1 m2 => if r1 = 0 then (some ((-1), m2)) else (chk (m2.K th = 11) (ck m2 (m2.R 1129 th 0) 22 (fun a2 => chk (inb p2 (m2.N a2) = true) (cal (f_X10_in p4 0 ((m2.I 22 a2 (Int32.toNatClampNeg p2)) - 1) m2) (fun r2 m3 => if r2 = 0 then (some ((-1), m3)) else (l_X10_by_40 th p1 p2 p3 p4 FU 0 0 m3)))))))))
set_option maxHeartbeats 4000000 in
set_option maxRecDepth 100000 in
theorem s_X10_by_0 {Γ : GX} {E : EX} (C : Cx Γ E cX10_by RX10 7) (hr : Γ.meth.sig.returnType = (some .int)) (hrm : Γ.rm = rmX10_by) (th : Nat) (p1 : Int32) (p2 : Int32) (p3 : Int32) (p4 : Int32) (m : MM) : Sm (QM Γ E emI 0 0) Γ E 7 0 0 0 [(0, va_rf (some th)), (1, .int p1), (2, .int p2), (3, .int p3), (4, .int p4)] [] m (g_X10_by_0 th p1 p2 p3 p4 m) := by
  unfold g_X10_by_0
  refine z_aload_n C dX10_by_0 rfl 0 rfl ?_
  refine z_iconst (v := 0) C dX10_by_1 (by decide) ?_
  refine z_chk (fun hk3 => ?_)
  refine z_putI C fl_RX10_180 (fun h => by cases h) rfl hk3 rfl rfl dX10_by_2 (fun m1 eK1 eN1 => ?_)
  refine z_aload_n C dX10_by_5 rfl 0 rfl ?_
  refine z_iload_n C dX10_by_6 rfl 1 rfl ?_
  refine z_iload_n C dX10_by_7 rfl 2 rfl ?_
  refine z_iload_n C dX10_by_8 rfl 3 rfl ?_
  refine z_cVI [.int p1, .int p2, .int p3] [] C mv_RX10_452 (fun r0 m0 h0 => M_X10_bringBars _ _ _ _ _ _ _ _ _ h0) rfl rfl ⟨by rw [hrm]; exact Nat.le_of_ble_eq_true rfl, by rw [hrm]; exact Nat.le_of_ble_eq_true rfl⟩ ⟨by rw [hrm]; exact Nat.le_of_ble_eq_true rfl, by rw [hrm]; exact Nat.le_of_ble_eq_true rfl⟩ rfl (kfw eK1 hk3) rfl rfl rfl (Nat.le_of_ble_eq_true rfl) dX10_by_9 (fun r1 m2 => ?_)
  refine z_if_eq (tgt := 32) C dX10_by_12 (by decide) (fun c3 => ?_) (fun c3 => ?_)
  · refine z_iconst (v := (-1)) C dX10_by_32 (by decide) ?_
    exact z_iret C hr dX10_by_33
  · refine z_iload C dX10_by_15 4 rfl ?_
    refine z_iconst (v := 0) C dX10_by_17 (by decide) ?_
    refine z_aload_n C dX10_by_18 rfl 0 rfl ?_
    refine z_chk (fun hk4 => ?_)
    refine z_getR C fl_RX10_95 rfl hk4 dX10_by_19 ?_
    refine z_iload_n C dX10_by_22 rfl 2 rfl ?_
    refine z_ck (fun a2 hr2 hk5 => ?_)
    refine z_chk (fun hj2 => ?_)
    refine z_iald C hr2 hk5 hj2 dX10_by_23 ?_
    refine z_iconst (v := 1) C dX10_by_24 (by decide) ?_
    refine z_isub C dX10_by_25 ?_
    refine z_cSI [.int p4, .int 0, .int ((m2.I 22 a2 (Int32.toNatClampNeg p2)) - 1)] [] C mv_RX10_188 (fun r0 m0 h0 => M_X10_in _ _ _ _ _ _ _ _ h0) rfl rfl ⟨by rw [hrm]; exact Nat.le_of_ble_eq_true rfl, by rw [hrm]; exact Nat.le_of_ble_eq_true rfl⟩ ⟨by rw [hrm]; exact Nat.le_of_ble_eq_true rfl, by rw [hrm]; exact Nat.le_of_ble_eq_true rfl⟩ rfl rfl (Nat.le_of_ble_eq_true rfl) dX10_by_26 (fun r2 m3 => ?_)
    refine z_if_ne (tgt := 34) C dX10_by_29 (by decide) (fun c4 => ?_) (fun c4 => ?_)
    · refine z_iconst (v := 0) C dX10_by_34 (by decide) ?_
      refine z_istore (i := 5) (L2 := [(5, .int 0), (0, va_rf (some th)), (1, .int p1), (2, .int p2), (3, .int p3), (4, .int p4)]) C dX10_by_35 (by decide) rfl ?_
      refine z_iconst (v := 0) C dX10_by_37 (by decide) ?_
      refine z_istore (i := 6) (L2 := [(6, .int 0), (5, .int 0), (0, va_rf (some th)), (1, .int p1), (2, .int p2), (3, .int p3), (4, .int p4)]) C dX10_by_38 (by decide) rfl ?_
      exact z_sub [2, 3, 4, 5, 6, 1, 0] rfl (t_X10_by_40 C hr hrm th p1 p2 p3 p4 FU 0 0 m3)
    · refine z_iconst (v := (-1)) C dX10_by_32 (by decide) ?_
      exact z_iret C hr dX10_by_33
def f_X10_by (th : Nat) (p1 : Int32) (p2 : Int32) (p3 : Int32) (p4 : Int32) (m : MM) : Option (Int32 × MM) := g_X10_by_0 th p1 p2 p3 p4 m
theorem M_X10_by (l : Launch) (E : EX) (th : Nat) (p1 : Int32) (p2 : Int32) (p3 : Int32) (p4 : Int32) (m : MM) (r : Int32) (m2 : MM) (h : f_X10_by th p1 p2 p3 p4 m = some (r, m2)) : Met l yX10_by (.code yX10_by cX10_by 7 (some .int) :: TB) rmX10_by (va_Pc [.ref th, .int p1, .int p2, .int p3, .int p4] (St E m)) (QR E (emI r) m2) 0 0 (AA E) :=
  met_of (em := emI) (plainFor_of_name rfl) (Nat.le_of_ble_eq_true rfl) (L0 := [(0, va_rf (some th)), (1, .int p1), (2, .int p2), (3, .int p3), (4, .int p4)]) rfl (fun Γ _ hrm C hr hn => s_X10_by_0 C hr hrm th p1 p2 p3 p4 m) h

theorem dX10_days_0 : decode cX10_days 0 = .ok (.aload_n 0, 1) := by decide +kernel
theorem dX10_days_1 : decode cX10_days 1 = .ok (.iconst 0, 1) := by decide +kernel
theorem dX10_days_2 : decode cX10_days 2 = .ok (.putfield 180, 3) := by decide +kernel
theorem dX10_days_5 : decode cX10_days 5 = .ok (.aload_n 0, 1) := by decide +kernel
theorem dX10_days_6 : decode cX10_days 6 = .ok (.iload_n 1, 1) := by decide +kernel
theorem dX10_days_7 : decode cX10_days 7 = .ok (.invokevirtual 192, 3) := by decide +kernel
theorem dX10_days_10 : decode cX10_days 10 = .ok (.ifCond .eq 11, 3) := by decide +kernel
theorem dX10_days_13 : decode cX10_days 13 = .ok (.aload_n 0, 1) := by decide +kernel
theorem dX10_days_14 : decode cX10_days 14 = .ok (.iload_n 2, 1) := by decide +kernel
theorem dX10_days_15 : decode cX10_days 15 = .ok (.invokevirtual 360, 3) := by decide +kernel
theorem dX10_days_18 : decode cX10_days 18 = .ok (.ifCond .ne 5, 3) := by decide +kernel
theorem dX10_days_21 : decode cX10_days 21 = .ok (.iconst (-1), 1) := by decide +kernel
theorem dX10_days_22 : decode cX10_days 22 = .ok (.ireturn, 1) := by decide +kernel
theorem dX10_days_23 : decode cX10_days 23 = .ok (.iconst 0, 1) := by decide +kernel
theorem dX10_days_24 : decode cX10_days 24 = .ok (.istore 4, 2) := by decide +kernel
theorem dX10_days_26 : decode cX10_days 26 = .ok (.iconst 0, 1) := by decide +kernel
theorem dX10_days_27 : decode cX10_days 27 = .ok (.istore 5, 2) := by decide +kernel
theorem dX10_days_29 : decode cX10_days 29 = .ok (.iload 5, 2) := by decide +kernel
theorem dX10_days_31 : decode cX10_days 31 = .ok (.sipush 999, 3) := by decide +kernel
theorem dX10_days_34 : decode cX10_days 34 = .ok (.if_icmp .gt 52, 3) := by decide +kernel
theorem dX10_days_37 : decode cX10_days 37 = .ok (.aload_n 0, 1) := by decide +kernel
theorem dX10_days_38 : decode cX10_days 38 = .ok (.iload_n 1, 1) := by decide +kernel
theorem dX10_days_39 : decode cX10_days 39 = .ok (.iload 5, 2) := by decide +kernel
theorem dX10_days_41 : decode cX10_days 41 = .ok (.invokevirtual 393, 3) := by decide +kernel
theorem dX10_days_44 : decode cX10_days 44 = .ok (.aload_n 0, 1) := by decide +kernel
theorem dX10_days_45 : decode cX10_days 45 = .ok (.iload_n 2, 1) := by decide +kernel
theorem dX10_days_46 : decode cX10_days 46 = .ok (.invokevirtual 449, 3) := by decide +kernel
theorem dX10_days_49 : decode cX10_days 49 = .ok (.aload_n 0, 1) := by decide +kernel
theorem dX10_days_50 : decode cX10_days 50 = .ok (.getfield 443, 3) := by decide +kernel
theorem dX10_days_53 : decode cX10_days 53 = .ok (.ifCond .le 10, 3) := by decide +kernel
theorem dX10_days_56 : decode cX10_days 56 = .ok (.iload_n 3, 1) := by decide +kernel
theorem dX10_days_57 : decode cX10_days 57 = .ok (.ifCond .eq 6, 3) := by decide +kernel
theorem dX10_days_60 : decode cX10_days 60 = .ok (.iload 5, 2) := by decide +kernel
theorem dX10_days_62 : decode cX10_days 62 = .ok (.ireturn, 1) := by decide +kernel
theorem dX10_days_63 : decode cX10_days 63 = .ok (.iload 4, 2) := by decide +kernel
theorem dX10_days_65 : decode cX10_days 65 = .ok (.aload_n 0, 1) := by decide +kernel
theorem dX10_days_66 : decode cX10_days 66 = .ok (.getfield 443, 3) := by decide +kernel
theorem dX10_days_69 : decode cX10_days 69 = .ok (.ifCond .le 7, 3) := by decide +kernel
theorem dX10_days_72 : decode cX10_days 72 = .ok (.iconst 1, 1) := by decide +kernel
theorem dX10_days_73 : decode cX10_days 73 = .ok (.goto 4, 3) := by decide +kernel
theorem dX10_days_76 : decode cX10_days 76 = .ok (.iconst 0, 1) := by decide +kernel
theorem dX10_days_77 : decode cX10_days 77 = .ok (.iadd, 1) := by decide +kernel
theorem dX10_days_78 : decode cX10_days 78 = .ok (.istore 4, 2) := by decide +kernel
theorem dX10_days_80 : decode cX10_days 80 = .ok (.iinc 5 1, 3) := by decide +kernel
theorem dX10_days_83 : decode cX10_days 83 = .ok (.goto (-54), 3) := by decide +kernel
theorem dX10_days_86 : decode cX10_days 86 = .ok (.iload_n 3, 1) := by decide +kernel
theorem dX10_days_87 : decode cX10_days 87 = .ok (.ifCond .eq 7, 3) := by decide +kernel
theorem dX10_days_90 : decode cX10_days 90 = .ok (.iconst (-1), 1) := by decide +kernel
theorem dX10_days_91 : decode cX10_days 91 = .ok (.goto 5, 3) := by decide +kernel
theorem dX10_days_94 : decode cX10_days 94 = .ok (.iload 4, 2) := by decide +kernel
theorem dX10_days_96 : decode cX10_days 96 = .ok (.ireturn, 1) := by decide +kernel
def rmX10_days : Room := { frames := 6, cells := 0, slots := 0, locals := 157 }
set_option maxRecDepth 100000 in
def g_X10_days_77 (th : Nat) (p1 : Int32) (p2 : Int32) (p3 : Int32) (k29 : Int32 → Int32 → MM → Option (Int32 × MM)) (k86 : Int32 → MM → Option (Int32 × MM)) (x5 : Int32) (s0 : Int32) (s1 : Int32) (m : MM) : Option (Int32 × MM) :=
  bnd (s0 + s1) (fun y1 => k29 y1 (x5 + 1) m)
set_option maxHeartbeats 4000000 in
set_option maxRecDepth 100000 in
theorem s_X10_days_77 {Γ : GX} {E : EX} (C : Cx Γ E cX10_days RX10 6) (hr : Γ.meth.sig.returnType = (some .int)) (hrm : Γ.rm = rmX10_days) (th : Nat) (p1 : Int32) (p2 : Int32) (p3 : Int32) (k29 : Int32 → Int32 → MM → Option (Int32 × MM)) (k86 : Int32 → MM → Option (Int32 × MM)) (h29 : ∀ (x4 : Int32) (x5 : Int32) (m : MM), Sm (QM Γ E emI 0 0) Γ E 6 0 0 29 [(0, va_rf (some th)), (1, .int p1), (2, .int p2), (3, .int p3), (4, .int x4), (5, .int x5)] [] m (k29 x4 x5 m)) (h86 : ∀ (x4 : Int32) (m : MM), Sm (QM Γ E emI 0 0) Γ E 6 0 0 86 [(0, va_rf (some th)), (1, .int p1), (2, .int p2), (3, .int p3), (4, .int x4)] [] m (k86 x4 m)) (x5 : Int32) (s0 : Int32) (s1 : Int32) (m : MM) : Sm (QM Γ E emI 0 0) Γ E 6 0 0 77 [(0, va_rf (some th)), (1, .int p1), (2, .int p2), (3, .int p3), (5, .int x5)] [.int s1, .int s0] m (g_X10_days_77 th p1 p2 p3 k29 k86 x5 s0 s1 m) := by
  unfold g_X10_days_77
  refine z_iadd C dX10_days_77 ?_
  refine z_bndI (fun y1 => ?_)
  refine z_istore (i := 4) (L2 := [(4, .int y1), (0, va_rf (some th)), (1, .int p1), (2, .int p2), (3, .int p3), (5, .int x5)]) C dX10_days_78 (by decide) rfl ?_
  refine z_iinc (v := 1) (L2 := [(5, .int (x5 + 1)), (4, .int y1), (0, va_rf (some th)), (1, .int p1), (2, .int p2), (3, .int p3)]) C dX10_days_80 5 rfl (by decide) (by decide) rfl ?_
  refine z_goto (tgt := 29) C dX10_days_83 (by decide) ?_
  exact z_sub [2, 3, 4, 5, 1, 0] rfl (h29 y1 (x5 + 1) m)
set_option maxRecDepth 100000 in
def g_X10_days_63 (th : Nat) (p1 : Int32) (p2 : Int32) (p3 : Int32) (k29 : Int32 → Int32 → MM → Option (Int32 × MM)) (k86 : Int32 → MM → Option (Int32 × MM)) (x4 : Int32) (x5 : Int32) (m : MM) : Option (Int32 × MM) :=
  chk (m.K th = 11) (if (m.I 1174 th 0) ≤ 0 then (g_X10_days_77 th p1 p2 p3 k29 k86 x5 x4 0 m) else (g_X10_days_77 th p1 p2 p3 k29 k86 x5 x4 1 m))
set_option maxHeartbeats 4000000 in
set_option maxRecDepth 100000 in
theorem s_X10_days_63 {Γ : GX} {E : EX} (C : Cx Γ E cX10_days RX10 6) (hr : Γ.meth.sig.returnType = (some .int)) (hrm : Γ.rm = rmX10_days) (th : Nat) (p1 : Int32) (p2 : Int32) (p3 : Int32) (k29 : Int32 → Int32 → MM → Option (Int32 × MM)) (k86 : Int32 → MM → Option (Int32 × MM)) (h29 : ∀ (x4 : Int32) (x5 : Int32) (m : MM), Sm (QM Γ E emI 0 0) Γ E 6 0 0 29 [(0, va_rf (some th)), (1, .int p1), (2, .int p2), (3, .int p3), (4, .int x4), (5, .int x5)] [] m (k29 x4 x5 m)) (h86 : ∀ (x4 : Int32) (m : MM), Sm (QM Γ E emI 0 0) Γ E 6 0 0 86 [(0, va_rf (some th)), (1, .int p1), (2, .int p2), (3, .int p3), (4, .int x4)] [] m (k86 x4 m)) (x4 : Int32) (x5 : Int32) (m : MM) : Sm (QM Γ E emI 0 0) Γ E 6 0 0 63 [(0, va_rf (some th)), (1, .int p1), (2, .int p2), (3, .int p3), (4, .int x4), (5, .int x5)] [] m (g_X10_days_63 th p1 p2 p3 k29 k86 x4 x5 m) := by
  unfold g_X10_days_63
  refine z_iload C dX10_days_63 4 rfl ?_
  refine z_aload_n C dX10_days_65 rfl 0 rfl ?_
  refine z_chk (fun hk1 => ?_)
  refine z_getI C fl_RX10_443 rfl hk1 dX10_days_66 ?_
  refine z_if_le (tgt := 76) C dX10_days_69 (by decide) (fun c1 => ?_) (fun c1 => ?_)
  · refine z_iconst (v := 0) C dX10_days_76 (by decide) ?_
    exact z_sub [0, 1, 2, 3, 5] rfl (s_X10_days_77 C hr hrm th p1 p2 p3 k29 k86 h29 h86 x5 x4 0 m)
  · refine z_iconst (v := 1) C dX10_days_72 (by decide) ?_
    refine z_goto (tgt := 77) C dX10_days_73 (by decide) ?_
    exact z_sub [0, 1, 2, 3, 5] rfl (s_X10_days_77 C hr hrm th p1 p2 p3 k29 k86 h29 h86 x5 x4 1 m)
set_option maxRecDepth 100000 in
def g_X10_days_29 (th : Nat) (p1 : Int32) (p2 : Int32) (p3 : Int32) (k29 : Int32 → Int32 → MM → Option (Int32 × MM)) (k86 : Int32 → MM → Option (Int32 × MM)) (x4 : Int32) (x5 : Int32) (m : MM) : Option (Int32 × MM) :=
  if 999 < x5 then (k86 x4 m) else (chk (m.K th = 11) (cal (f_X10_bring th p1 x5 m) (fun r1 m1 => chk (m1.K th = 11) (cal (f_X10_findBars th p2 m1) (fun r2 m2 => chk (m2.K th = 11) (if (m2.I 1174 th 0) ≤ 0 then (g_X10_days_63 th p1 p2 p3 k29 k86 x4 x5 m2) else (if p3 = 0 then (g_X10_days_63 th p1 p2 p3 k29 k86 x4 x5 m2) else (some (x5, m2)))))))))
set_option maxHeartbeats 4000000 in
set_option maxRecDepth 100000 in
theorem s_X10_days_29 {Γ : GX} {E : EX} (C : Cx Γ E cX10_days RX10 6) (hr : Γ.meth.sig.returnType = (some .int)) (hrm : Γ.rm = rmX10_days) (th : Nat) (p1 : Int32) (p2 : Int32) (p3 : Int32) (k29 : Int32 → Int32 → MM → Option (Int32 × MM)) (k86 : Int32 → MM → Option (Int32 × MM)) (h29 : ∀ (x4 : Int32) (x5 : Int32) (m : MM), Sm (QM Γ E emI 0 0) Γ E 6 0 0 29 [(0, va_rf (some th)), (1, .int p1), (2, .int p2), (3, .int p3), (4, .int x4), (5, .int x5)] [] m (k29 x4 x5 m)) (h86 : ∀ (x4 : Int32) (m : MM), Sm (QM Γ E emI 0 0) Γ E 6 0 0 86 [(0, va_rf (some th)), (1, .int p1), (2, .int p2), (3, .int p3), (4, .int x4)] [] m (k86 x4 m)) (x4 : Int32) (x5 : Int32) (m : MM) : Sm (QM Γ E emI 0 0) Γ E 6 0 0 29 [(0, va_rf (some th)), (1, .int p1), (2, .int p2), (3, .int p3), (4, .int x4), (5, .int x5)] [] m (g_X10_days_29 th p1 p2 p3 k29 k86 x4 x5 m) := by
  unfold g_X10_days_29
  refine z_iload C dX10_days_29 5 rfl ?_
  refine z_sipush (v := 999) C dX10_days_31 (by decide) ?_
  refine z_icmp_gt (tgt := 86) C dX10_days_34 (by decide) (fun c2 => ?_) (fun c2 => ?_)
  · exact z_sub [0, 1, 2, 3, 4] rfl (h86 x4 m)
  · refine z_aload_n C dX10_days_37 rfl 0 rfl ?_
    refine z_iload_n C dX10_days_38 rfl 1 rfl ?_
    refine z_iload C dX10_days_39 5 rfl ?_
    refine z_chk (fun hk2 => ?_)
    refine z_cVV [.int p1, .int x5] [] C mv_RX10_393 (fun r0 m0 h0 => M_X10_bring _ _ _ _ _ _ _ _ h0) rfl rfl ⟨by rw [hrm]; exact Nat.le_of_ble_eq_true rfl, by rw [hrm]; exact Nat.le_of_ble_eq_true rfl⟩ ⟨by rw [hrm]; exact Nat.le_of_ble_eq_true rfl, by rw [hrm]; exact Nat.le_of_ble_eq_true rfl⟩ rfl hk2 rfl rfl rfl (Nat.le_of_ble_eq_true rfl) dX10_days_41 (fun r1 m1 => ?_)
    refine z_aload_n C dX10_days_44 rfl 0 rfl ?_
    refine z_iload_n C dX10_days_45 rfl 2 rfl ?_
    refine z_chk (fun hk3 => ?_)
    refine z_cVV [.int p2] [] C mv_RX10_449 (fun r0 m0 h0 => M_X10_findBars _ _ _ _ _ _ _ h0) rfl rfl ⟨by rw [hrm]; exact Nat.le_of_ble_eq_true rfl, by rw [hrm]; exact Nat.le_of_ble_eq_true rfl⟩ ⟨by rw [hrm]; exact Nat.le_of_ble_eq_true rfl, by rw [hrm]; exact Nat.le_of_ble_eq_true rfl⟩ rfl hk3 rfl rfl rfl (Nat.le_of_ble_eq_true rfl) dX10_days_46 (fun r2 m2 => ?_)
    refine z_aload_n C dX10_days_49 rfl 0 rfl ?_
    refine z_chk (fun hk4 => ?_)
    refine z_getI C fl_RX10_443 rfl hk4 dX10_days_50 ?_
    refine z_if_le (tgt := 63) C dX10_days_53 (by decide) (fun c3 => ?_) (fun c3 => ?_)
    · exact z_sub [0, 1, 2, 3, 4, 5] rfl (s_X10_days_63 C hr hrm th p1 p2 p3 k29 k86 h29 h86 x4 x5 m2)
    · refine z_iload_n C dX10_days_56 rfl 3 rfl ?_
      refine z_if_eq (tgt := 63) C dX10_days_57 (by decide) (fun c4 => ?_) (fun c4 => ?_)
      · exact z_sub [0, 1, 2, 3, 4, 5] rfl (s_X10_days_63 C hr hrm th p1 p2 p3 k29 k86 h29 h86 x4 x5 m2)
      · refine z_iload C dX10_days_60 5 rfl ?_
        exact z_iret C hr dX10_days_62
def l_X10_days_29 (th : Nat) (p1 : Int32) (p2 : Int32) (p3 : Int32) (k86 : Int32 → MM → Option (Int32 × MM)) : Nat → Int32 → Int32 → MM → Option (Int32 × MM) := lp (fun _ _ _ => none) (fun k29 => g_X10_days_29 th p1 p2 p3 k29 k86)
theorem t_X10_days_29 {Γ : GX} {E : EX} (C : Cx Γ E cX10_days RX10 6) (hr : Γ.meth.sig.returnType = (some .int)) (hrm : Γ.rm = rmX10_days) (th : Nat) (p1 : Int32) (p2 : Int32) (p3 : Int32) (k86 : Int32 → MM → Option (Int32 × MM)) (h86 : ∀ (x4 : Int32) (m : MM), Sm (QM Γ E emI 0 0) Γ E 6 0 0 86 [(0, va_rf (some th)), (1, .int p1), (2, .int p2), (3, .int p3), (4, .int x4)] [] m (k86 x4 m)) : ∀ (n : Nat) (x4 : Int32) (x5 : Int32) (m : MM), Sm (QM Γ E emI 0 0) Γ E 6 0 0 29 [(0, va_rf (some th)), (1, .int p1), (2, .int p2), (3, .int p3), (4, .int x4), (5, .int x5)] [] m (l_X10_days_29 th p1 p2 p3 k86 n x4 x5 m) := by
  intro n
  induction n with
  | zero => intros; exact z_none
  | succ n ih => intro x4 x5 m; exact s_X10_days_29 C hr hrm th p1 p2 p3 (l_X10_days_29 th p1 p2 p3 k86 n) k86 ih h86 x4 x5 m
set_option maxRecDepth 100000 in
def g_X10_days_86 (th : Nat) (p1 : Int32) (p2 : Int32) (p3 : Int32) (x4 : Int32) (m : MM) : Option (Int32 × MM) :=
  if p3 = 0 then (some (x4, m)) else (some ((-1), m))
set_option maxHeartbeats 4000000 in
set_option maxRecDepth 100000 in
theorem s_X10_days_86 {Γ : GX} {E : EX} (C : Cx Γ E cX10_days RX10 6) (hr : Γ.meth.sig.returnType = (some .int)) (hrm : Γ.rm = rmX10_days) (th : Nat) (p1 : Int32) (p2 : Int32) (p3 : Int32) (x4 : Int32) (m : MM) : Sm (QM Γ E emI 0 0) Γ E 6 0 0 86 [(0, va_rf (some th)), (1, .int p1), (2, .int p2), (3, .int p3), (4, .int x4)] [] m (g_X10_days_86 th p1 p2 p3 x4 m) := by
  unfold g_X10_days_86
  refine z_iload_n C dX10_days_86 rfl 3 rfl ?_
  refine z_if_eq (tgt := 94) C dX10_days_87 (by decide) (fun c5 => ?_) (fun c5 => ?_)
  · refine z_iload C dX10_days_94 4 rfl ?_
    exact z_iret C hr dX10_days_96
  · refine z_iconst (v := (-1)) C dX10_days_90 (by decide) ?_
    refine z_goto (tgt := 96) C dX10_days_91 (by decide) ?_
    exact z_iret C hr dX10_days_96
set_option maxRecDepth 100000 in
def g_X10_days_0 (th : Nat) (p1 : Int32) (p2 : Int32) (p3 : Int32) (m : MM) : Option (Int32 × MM) :=
  chk (m.K th = 11) (bnd (m.sI 1100 th 0 0) (fun m3 => cal (f_X10_isTown th p1 m3) (fun r3 m4 => if r3 = 0 then (some ((-1), m4)) else (chk (m4.K th = 11) (cal (f_X10_isLaw th p2 m4) (fun r4 m5 => if r4 = 0 then (some ((-1), m5)) else (l_X10_days_29 th p1 p2 p3 (g_X10_days_86 th p1 p2 p3) FU 0 0 m5)))))))
set_option maxHeartbeats 4000000 in
set_option maxRecDepth 100000 in
theorem s_X10_days_0 {Γ : GX} {E : EX} (C : Cx Γ E cX10_days RX10 6) (hr : Γ.meth.sig.returnType = (some .int)) (hrm : Γ.rm = rmX10_days) (th : Nat) (p1 : Int32) (p2 : Int32) (p3 : Int32) (m : MM) : Sm (QM Γ E emI 0 0) Γ E 6 0 0 0 [(0, va_rf (some th)), (1, .int p1), (2, .int p2), (3, .int p3)] [] m (g_X10_days_0 th p1 p2 p3 m) := by
  unfold g_X10_days_0
  refine z_aload_n C dX10_days_0 rfl 0 rfl ?_
  refine z_iconst (v := 0) C dX10_days_1 (by decide) ?_
  refine z_chk (fun hk5 => ?_)
  refine z_putI C fl_RX10_180 (fun h => by cases h) rfl hk5 rfl rfl dX10_days_2 (fun m3 eK1 eN1 => ?_)
  refine z_aload_n C dX10_days_5 rfl 0 rfl ?_
  refine z_iload_n C dX10_days_6 rfl 1 rfl ?_
  refine z_cVI [.int p1] [] C mv_RX10_192 (fun r0 m0 h0 => M_X10_isTown _ _ _ _ _ _ _ h0) rfl rfl ⟨by rw [hrm]; exact Nat.le_of_ble_eq_true rfl, by rw [hrm]; exact Nat.le_of_ble_eq_true rfl⟩ ⟨by rw [hrm]; exact Nat.le_of_ble_eq_true rfl, by rw [hrm]; exact Nat.le_of_ble_eq_true rfl⟩ rfl (kfw eK1 hk5) rfl rfl rfl (Nat.le_of_ble_eq_true rfl) dX10_days_7 (fun r3 m4 => ?_)
  refine z_if_eq (tgt := 21) C dX10_days_10 (by decide) (fun c6 => ?_) (fun c6 => ?_)
  · refine z_iconst (v := (-1)) C dX10_days_21 (by decide) ?_
    exact z_iret C hr dX10_days_22
  · refine z_aload_n C dX10_days_13 rfl 0 rfl ?_
    refine z_iload_n C dX10_days_14 rfl 2 rfl ?_
    refine z_chk (fun hk6 => ?_)
    refine z_cVI [.int p2] [] C mv_RX10_360 (fun r0 m0 h0 => M_X10_isLaw _ _ _ _ _ _ _ h0) rfl rfl ⟨by rw [hrm]; exact Nat.le_of_ble_eq_true rfl, by rw [hrm]; exact Nat.le_of_ble_eq_true rfl⟩ ⟨by rw [hrm]; exact Nat.le_of_ble_eq_true rfl, by rw [hrm]; exact Nat.le_of_ble_eq_true rfl⟩ rfl hk6 rfl rfl rfl (Nat.le_of_ble_eq_true rfl) dX10_days_15 (fun r4 m5 => ?_)
    refine z_if_ne (tgt := 23) C dX10_days_18 (by decide) (fun c7 => ?_) (fun c7 => ?_)
    · refine z_iconst (v := 0) C dX10_days_23 (by decide) ?_
      refine z_istore (i := 4) (L2 := [(4, .int 0), (0, va_rf (some th)), (1, .int p1), (2, .int p2), (3, .int p3)]) C dX10_days_24 (by decide) rfl ?_
      refine z_iconst (v := 0) C dX10_days_26 (by decide) ?_
      refine z_istore (i := 5) (L2 := [(5, .int 0), (4, .int 0), (0, va_rf (some th)), (1, .int p1), (2, .int p2), (3, .int p3)]) C dX10_days_27 (by decide) rfl ?_
      exact z_sub [2, 3, 4, 5, 1, 0] rfl (t_X10_days_29 C hr hrm th p1 p2 p3 (g_X10_days_86 th p1 p2 p3) (s_X10_days_86 C hr hrm th p1 p2 p3) FU 0 0 m5)
    · refine z_iconst (v := (-1)) C dX10_days_21 (by decide) ?_
      exact z_iret C hr dX10_days_22
def f_X10_days (th : Nat) (p1 : Int32) (p2 : Int32) (p3 : Int32) (m : MM) : Option (Int32 × MM) := g_X10_days_0 th p1 p2 p3 m
theorem M_X10_days (l : Launch) (E : EX) (th : Nat) (p1 : Int32) (p2 : Int32) (p3 : Int32) (m : MM) (r : Int32) (m2 : MM) (h : f_X10_days th p1 p2 p3 m = some (r, m2)) : Met l yX10_days (.code yX10_days cX10_days 6 (some .int) :: TB) rmX10_days (va_Pc [.ref th, .int p1, .int p2, .int p3] (St E m)) (QR E (emI r) m2) 0 0 (AA E) :=
  met_of (em := emI) (plainFor_of_name rfl) (Nat.le_of_ble_eq_true rfl) (L0 := [(0, va_rf (some th)), (1, .int p1), (2, .int p2), (3, .int p3)]) rfl (fun Γ _ hrm C hr hn => s_X10_days_0 C hr hrm th p1 p2 p3 m) h
