theorem dX8_hoursDownwind_0 : decode cX8_hoursDownwind 0 = .ok (.iconst 0, 1) := by decide +kernel
theorem dX8_hoursDownwind_1 : decode cX8_hoursDownwind 1 = .ok (.istore 4, 2) := by decide +kernel
theorem dX8_hoursDownwind_3 : decode cX8_hoursDownwind 3 = .ok (.iconst 0, 1) := by decide +kernel
theorem dX8_hoursDownwind_4 : decode cX8_hoursDownwind 4 = .ok (.istore 5, 2) := by decide +kernel
theorem dX8_hoursDownwind_6 : decode cX8_hoursDownwind 6 = .ok (.iload 5, 2) := by decide +kernel
theorem dX8_hoursDownwind_8 : decode cX8_hoursDownwind 8 = .ok (.aload_n 0, 1) := by decide +kernel
theorem dX8_hoursDownwind_9 : decode cX8_hoursDownwind 9 = .ok (.getfield 35, 3) := by decide +kernel
theorem dX8_hoursDownwind_12 : decode cX8_hoursDownwind 12 = .ok (.arraylength, 1) := by decide +kernel
theorem dX8_hoursDownwind_13 : decode cX8_hoursDownwind 13 = .ok (.if_icmp .ge 114, 3) := by decide +kernel
theorem dX8_hoursDownwind_16 : decode cX8_hoursDownwind 16 = .ok (.aload_n 0, 1) := by decide +kernel
theorem dX8_hoursDownwind_17 : decode cX8_hoursDownwind 17 = .ok (.getfield 35, 3) := by decide +kernel
theorem dX8_hoursDownwind_20 : decode cX8_hoursDownwind 20 = .ok (.iload 5, 2) := by decide +kernel
theorem dX8_hoursDownwind_22 : decode cX8_hoursDownwind 22 = .ok (.iaload, 1) := by decide +kernel
theorem dX8_hoursDownwind_23 : decode cX8_hoursDownwind 23 = .ok (.istore 6, 2) := by decide +kernel
theorem dX8_hoursDownwind_25 : decode cX8_hoursDownwind 25 = .ok (.iload_n 1, 1) := by decide +kernel
theorem dX8_hoursDownwind_26 : decode cX8_hoursDownwind 26 = .ok (.iload 5, 2) := by decide +kernel
theorem dX8_hoursDownwind_28 : decode cX8_hoursDownwind 28 = .ok (.ishr, 1) := by decide +kernel
theorem dX8_hoursDownwind_29 : decode cX8_hoursDownwind 29 = .ok (.iconst 1, 1) := by decide +kernel
theorem dX8_hoursDownwind_30 : decode cX8_hoursDownwind 30 = .ok (.iand, 1) := by decide +kernel
theorem dX8_hoursDownwind_31 : decode cX8_hoursDownwind 31 = .ok (.ifCond .eq 90, 3) := by decide +kernel
theorem dX8_hoursDownwind_34 : decode cX8_hoursDownwind 34 = .ok (.iload 6, 2) := by decide +kernel
theorem dX8_hoursDownwind_36 : decode cX8_hoursDownwind 36 = .ok (.ifCond .lt 85, 3) := by decide +kernel
theorem dX8_hoursDownwind_39 : decode cX8_hoursDownwind 39 = .ok (.iload 6, 2) := by decide +kernel
theorem dX8_hoursDownwind_41 : decode cX8_hoursDownwind 41 = .ok (.getstatic 81, 3) := by decide +kernel
theorem dX8_hoursDownwind_44 : decode cX8_hoursDownwind 44 = .ok (.arraylength, 1) := by decide +kernel
theorem dX8_hoursDownwind_45 : decode cX8_hoursDownwind 45 = .ok (.if_icmp .ge 76, 3) := by decide +kernel
theorem dX8_hoursDownwind_48 : decode cX8_hoursDownwind 48 = .ok (.iload 6, 2) := by decide +kernel
theorem dX8_hoursDownwind_50 : decode cX8_hoursDownwind 50 = .ok (.getstatic 84, 3) := by decide +kernel
theorem dX8_hoursDownwind_53 : decode cX8_hoursDownwind 53 = .ok (.arraylength, 1) := by decide +kernel
theorem dX8_hoursDownwind_54 : decode cX8_hoursDownwind 54 = .ok (.if_icmp .lt 6, 3) := by decide +kernel
theorem dX8_hoursDownwind_57 : decode cX8_hoursDownwind 57 = .ok (.goto 64, 3) := by decide +kernel
theorem dX8_hoursDownwind_60 : decode cX8_hoursDownwind 60 = .ok (.iload_n 2, 1) := by decide +kernel
theorem dX8_hoursDownwind_61 : decode cX8_hoursDownwind 61 = .ok (.getstatic 81, 3) := by decide +kernel
theorem dX8_hoursDownwind_64 : decode cX8_hoursDownwind 64 = .ok (.iload 6, 2) := by decide +kernel
theorem dX8_hoursDownwind_66 : decode cX8_hoursDownwind 66 = .ok (.iaload, 1) := by decide +kernel
theorem dX8_hoursDownwind_67 : decode cX8_hoursDownwind 67 = .ok (.imul, 1) := by decide +kernel
theorem dX8_hoursDownwind_68 : decode cX8_hoursDownwind 68 = .ok (.iload_n 3, 1) := by decide +kernel
theorem dX8_hoursDownwind_69 : decode cX8_hoursDownwind 69 = .ok (.getstatic 84, 3) := by decide +kernel
theorem dX8_hoursDownwind_72 : decode cX8_hoursDownwind 72 = .ok (.iload 6, 2) := by decide +kernel
theorem dX8_hoursDownwind_74 : decode cX8_hoursDownwind 74 = .ok (.iaload, 1) := by decide +kernel
theorem dX8_hoursDownwind_75 : decode cX8_hoursDownwind 75 = .ok (.imul, 1) := by decide +kernel
theorem dX8_hoursDownwind_76 : decode cX8_hoursDownwind 76 = .ok (.iadd, 1) := by decide +kernel
theorem dX8_hoursDownwind_77 : decode cX8_hoursDownwind 77 = .ok (.istore 7, 2) := by decide +kernel
theorem dX8_hoursDownwind_79 : decode cX8_hoursDownwind 79 = .ok (.iload_n 2, 1) := by decide +kernel
theorem dX8_hoursDownwind_80 : decode cX8_hoursDownwind 80 = .ok (.getstatic 84, 3) := by decide +kernel
theorem dX8_hoursDownwind_83 : decode cX8_hoursDownwind 83 = .ok (.iload 6, 2) := by decide +kernel
theorem dX8_hoursDownwind_85 : decode cX8_hoursDownwind 85 = .ok (.iaload, 1) := by decide +kernel
theorem dX8_hoursDownwind_86 : decode cX8_hoursDownwind 86 = .ok (.imul, 1) := by decide +kernel
theorem dX8_hoursDownwind_87 : decode cX8_hoursDownwind 87 = .ok (.iload_n 3, 1) := by decide +kernel
theorem dX8_hoursDownwind_88 : decode cX8_hoursDownwind 88 = .ok (.getstatic 81, 3) := by decide +kernel
theorem dX8_hoursDownwind_91 : decode cX8_hoursDownwind 91 = .ok (.iload 6, 2) := by decide +kernel
theorem dX8_hoursDownwind_93 : decode cX8_hoursDownwind 93 = .ok (.iaload, 1) := by decide +kernel
theorem dX8_hoursDownwind_94 : decode cX8_hoursDownwind 94 = .ok (.imul, 1) := by decide +kernel
theorem dX8_hoursDownwind_95 : decode cX8_hoursDownwind 95 = .ok (.isub, 1) := by decide +kernel
theorem dX8_hoursDownwind_96 : decode cX8_hoursDownwind 96 = .ok (.istore 8, 2) := by decide +kernel
theorem dX8_hoursDownwind_98 : decode cX8_hoursDownwind 98 = .ok (.iload 7, 2) := by decide +kernel
theorem dX8_hoursDownwind_100 : decode cX8_hoursDownwind 100 = .ok (.ifCond .le 21, 3) := by decide +kernel
theorem dX8_hoursDownwind_103 : decode cX8_hoursDownwind 103 = .ok (.iload 7, 2) := by decide +kernel
theorem dX8_hoursDownwind_105 : decode cX8_hoursDownwind 105 = .ok (.iload 8, 2) := by decide +kernel
theorem dX8_hoursDownwind_107 : decode cX8_hoursDownwind 107 = .ok (.if_icmp .lt 14, 3) := by decide +kernel
theorem dX8_hoursDownwind_110 : decode cX8_hoursDownwind 110 = .ok (.iload 7, 2) := by decide +kernel
theorem dX8_hoursDownwind_112 : decode cX8_hoursDownwind 112 = .ok (.iload 8, 2) := by decide +kernel
theorem dX8_hoursDownwind_114 : decode cX8_hoursDownwind 114 = .ok (.ineg, 1) := by decide +kernel
theorem dX8_hoursDownwind_115 : decode cX8_hoursDownwind 115 = .ok (.if_icmp .lt 6, 3) := by decide +kernel
theorem dX8_hoursDownwind_118 : decode cX8_hoursDownwind 118 = .ok (.iinc 4 1, 3) := by decide +kernel
theorem dX8_hoursDownwind_121 : decode cX8_hoursDownwind 121 = .ok (.iinc 5 1, 3) := by decide +kernel
theorem dX8_hoursDownwind_124 : decode cX8_hoursDownwind 124 = .ok (.goto (-118), 3) := by decide +kernel
theorem dX8_hoursDownwind_127 : decode cX8_hoursDownwind 127 = .ok (.iload 4, 2) := by decide +kernel
theorem dX8_hoursDownwind_129 : decode cX8_hoursDownwind 129 = .ok (.ireturn, 1) := by decide +kernel
def rmX8_hoursDownwind : Room := { frames := 0, cells := 0, slots := 0, locals := 0 }
set_option maxRecDepth 100000 in
def g_X8_hoursDownwind_121 (th : Nat) (p1 : Int32) (p2 : Int32) (p3 : Int32) (k6 : Int32 → Int32 → MM → Option (Int32 × MM)) (x4 : Int32) (x5 : Int32) (m : MM) : Option (Int32 × MM) :=
  k6 x4 (x5 + 1) m
set_option maxHeartbeats 4000000 in
set_option maxRecDepth 100000 in
theorem s_X8_hoursDownwind_121 {Γ : GX} {E : EX} (C : Cx Γ E cX8_hoursDownwind RX8 9) (hr : Γ.meth.sig.returnType = (some .int)) (hrm : Γ.rm = rmX8_hoursDownwind) (th : Nat) (p1 : Int32) (p2 : Int32) (p3 : Int32) (k6 : Int32 → Int32 → MM → Option (Int32 × MM)) (h6 : ∀ (x4 : Int32) (x5 : Int32) (m : MM), Sm (QM Γ E emI 0 0) Γ E 9 0 0 6 [(0, va_rf (some th)), (1, .int p1), (2, .int p2), (3, .int p3), (4, .int x4), (5, .int x5)] [] m (k6 x4 x5 m)) (x4 : Int32) (x5 : Int32) (m : MM) : Sm (QM Γ E emI 0 0) Γ E 9 0 0 121 [(0, va_rf (some th)), (1, .int p1), (2, .int p2), (3, .int p3), (4, .int x4), (5, .int x5)] [] m (g_X8_hoursDownwind_121 th p1 p2 p3 k6 x4 x5 m) := by
  unfold g_X8_hoursDownwind_121
  refine z_iinc (v := 1) (L2 := [(5, .int (x5 + 1)), (0, va_rf (some th)), (1, .int p1), (2, .int p2), (3, .int p3), (4, .int x4)]) C dX8_hoursDownwind_121 5 rfl (by decide) (by decide) rfl ?_
  refine z_goto (tgt := 6) C dX8_hoursDownwind_124 (by decide) ?_
  exact z_sub [1, 2, 3, 4, 5, 0] rfl (h6 x4 (x5 + 1) m)
set_option maxRecDepth 100000 in
def g_X8_hoursDownwind_6 (th : Nat) (p1 : Int32) (p2 : Int32) (p3 : Int32) (k6 : Int32 → Int32 → MM → Option (Int32 × MM)) (x4 : Int32) (x5 : Int32) (m : MM) : Option (Int32 × MM) :=
  chk (m.K th = 9) (ck m (m.R 910 th 0) 22 (fun a1 => if (Int32.ofNat (m.N a1)) ≤ x5 then (some (x4, m)) else (chk (inb x5 (m.N a1) = true) (bnd (m.I 22 a1 (Int32.toNatClampNeg x5)) (fun y1 => if ((p1 >>> (x5 &&& 31)) &&& 1) = 0 then (g_X8_hoursDownwind_121 th p1 p2 p3 k6 x4 x5 m) else (if y1 < 0 then (g_X8_hoursDownwind_121 th p1 p2 p3 k6 x4 x5 m) else (if 8 ≤ y1 then (g_X8_hoursDownwind_121 th p1 p2 p3 k6 x4 x5 m) else (if y1 < 8 then (chk (inb y1 (saV 0).length = true) (chk (inb y1 (saV 1).length = true) (bnd ((p2 * ((saV 0).getD (Int32.toNatClampNeg y1) 0)) + (p3 * ((saV 1).getD (Int32.toNatClampNeg y1) 0))) (fun y2 => chk (inb y1 (saV 1).length = true) (chk (inb y1 (saV 0).length = true) (bnd ((p2 * ((saV 1).getD (Int32.toNatClampNeg y1) 0)) - (p3 * ((saV 0).getD (Int32.toNatClampNeg y1) 0))) (fun y3 => if y2 ≤ 0 then (g_X8_hoursDownwind_121 th p1 p2 p3 k6 x4 x5 m) else (if y2 < y3 then (g_X8_hoursDownwind_121 th p1 p2 p3 k6 x4 x5 m) else (if y2 < (-y3) then (g_X8_hoursDownwind_121 th p1 p2 p3 k6 x4 x5 m) else (g_X8_hoursDownwind_121 th p1 p2 p3 k6 (x4 + 1) x5 m)))))))))) else (g_X8_hoursDownwind_121 th p1 p2 p3 k6 x4 x5 m)))))))))
set_option maxHeartbeats 4000000 in
set_option maxRecDepth 100000 in
theorem s_X8_hoursDownwind_6 {Γ : GX} {E : EX} (C : Cx Γ E cX8_hoursDownwind RX8 9) (hr : Γ.meth.sig.returnType = (some .int)) (hrm : Γ.rm = rmX8_hoursDownwind) (th : Nat) (p1 : Int32) (p2 : Int32) (p3 : Int32) (k6 : Int32 → Int32 → MM → Option (Int32 × MM)) (h6 : ∀ (x4 : Int32) (x5 : Int32) (m : MM), Sm (QM Γ E emI 0 0) Γ E 9 0 0 6 [(0, va_rf (some th)), (1, .int p1), (2, .int p2), (3, .int p3), (4, .int x4), (5, .int x5)] [] m (k6 x4 x5 m)) (x4 : Int32) (x5 : Int32) (m : MM) : Sm (QM Γ E emI 0 0) Γ E 9 0 0 6 [(0, va_rf (some th)), (1, .int p1), (2, .int p2), (3, .int p3), (4, .int x4), (5, .int x5)] [] m (g_X8_hoursDownwind_6 th p1 p2 p3 k6 x4 x5 m) := by
  unfold g_X8_hoursDownwind_6
  refine z_iload C dX8_hoursDownwind_6 5 rfl ?_
  refine z_aload_n C dX8_hoursDownwind_8 rfl 0 rfl ?_
  refine z_chk (fun hk1 => ?_)
  refine z_getR C fl_RX8_35 rfl hk1 dX8_hoursDownwind_9 ?_
  refine z_ck (fun a1 hr1 hk2 => ?_)
  refine z_alen C hr1 hk2 (by decide) (by decide) dX8_hoursDownwind_12 ?_
  refine z_icmp_ge (tgt := 127) C dX8_hoursDownwind_13 (by decide) (fun c1 => ?_) (fun c1 => ?_)
  · refine z_iload C dX8_hoursDownwind_127 4 rfl ?_
    exact z_iret C hr dX8_hoursDownwind_129
  · refine z_aload_n C dX8_hoursDownwind_16 rfl 0 rfl ?_
    refine z_getR C fl_RX8_35 rfl hk1 dX8_hoursDownwind_17 ?_
    refine z_iload C dX8_hoursDownwind_20 5 rfl ?_
    refine z_chk (fun hj1 => ?_)
    refine z_iald C hr1 hk2 hj1 dX8_hoursDownwind_22 ?_
    refine z_bndI (fun y1 => ?_)
    refine z_istore (i := 6) (L2 := [(6, .int y1), (0, va_rf (some th)), (1, .int p1), (2, .int p2), (3, .int p3), (4, .int x4), (5, .int x5)]) C dX8_hoursDownwind_23 (by decide) rfl ?_
    refine z_iload_n C dX8_hoursDownwind_25 rfl 2 rfl ?_
    refine z_iload C dX8_hoursDownwind_26 6 rfl ?_
    refine z_ishr C dX8_hoursDownwind_28 ?_
    refine z_iconst (v := 1) C dX8_hoursDownwind_29 (by decide) ?_
    refine z_iand C dX8_hoursDownwind_30 ?_
    refine z_if_eq (tgt := 121) C dX8_hoursDownwind_31 (by decide) (fun c2 => ?_) (fun c2 => ?_)
    · exact z_sub [1, 2, 3, 4, 5, 6] rfl (s_X8_hoursDownwind_121 C hr hrm th p1 p2 p3 k6 h6 x4 x5 m)
    · refine z_iload C dX8_hoursDownwind_34 0 rfl ?_
      refine z_if_lt (tgt := 121) C dX8_hoursDownwind_36 (by decide) (fun c3 => ?_) (fun c3 => ?_)
      · exact z_sub [1, 2, 3, 4, 5, 6] rfl (s_X8_hoursDownwind_121 C hr hrm th p1 p2 p3 k6 h6 x4 x5 m)
      · refine z_iload C dX8_hoursDownwind_39 0 rfl ?_
        refine z_getsN C (j := 0) (host := "FarTown") (by decide) (by decide +kernel) dX8_hoursDownwind_41 ?_
        refine z_slen C (by decide) (v := 8) (by decide) dX8_hoursDownwind_44 ?_
        refine z_icmp_ge (tgt := 121) C dX8_hoursDownwind_45 (by decide) (fun c4 => ?_) (fun c4 => ?_)
        · exact z_sub [1, 2, 3, 4, 5, 6] rfl (s_X8_hoursDownwind_121 C hr hrm th p1 p2 p3 k6 h6 x4 x5 m)
        · refine z_iload C dX8_hoursDownwind_48 0 rfl ?_
          refine z_getsN C (j := 1) (host := "FarTown") (by decide) (by decide +kernel) dX8_hoursDownwind_50 ?_
          refine z_slen C (by decide) (v := 8) (by decide) dX8_hoursDownwind_53 ?_
          refine z_icmp_lt (tgt := 60) C dX8_hoursDownwind_54 (by decide) (fun c5 => ?_) (fun c5 => ?_)
          · refine z_iload_n C dX8_hoursDownwind_60 rfl 3 rfl ?_
            refine z_getsN C (j := 0) (host := "FarTown") (by decide) (by decide +kernel) dX8_hoursDownwind_61 ?_
            refine z_iload C dX8_hoursDownwind_64 0 rfl ?_
            refine z_chk (fun hj2 => ?_)
            refine z_sald C (by decide) hj2 dX8_hoursDownwind_66 ?_
            refine z_imul C dX8_hoursDownwind_67 ?_
            refine z_iload_n C dX8_hoursDownwind_68 rfl 4 rfl ?_
            refine z_getsN C (j := 1) (host := "FarTown") (by decide) (by decide +kernel) dX8_hoursDownwind_69 ?_
            refine z_iload C dX8_hoursDownwind_72 0 rfl ?_
            refine z_chk (fun hj3 => ?_)
            refine z_sald C (by decide) hj3 dX8_hoursDownwind_74 ?_
            refine z_imul C dX8_hoursDownwind_75 ?_
            refine z_iadd C dX8_hoursDownwind_76 ?_
            refine z_bndI (fun y2 => ?_)
            refine z_istore (i := 7) (L2 := [(7, .int y2), (6, .int y1), (0, va_rf (some th)), (1, .int p1), (2, .int p2), (3, .int p3), (4, .int x4), (5, .int x5)]) C dX8_hoursDownwind_77 (by decide) rfl ?_
            refine z_iload_n C dX8_hoursDownwind_79 rfl 4 rfl ?_
            refine z_getsN C (j := 1) (host := "FarTown") (by decide) (by decide +kernel) dX8_hoursDownwind_80 ?_
            refine z_iload C dX8_hoursDownwind_83 1 rfl ?_
            refine z_chk (fun hj4 => ?_)
            refine z_sald C (by decide) hj4 dX8_hoursDownwind_85 ?_
            refine z_imul C dX8_hoursDownwind_86 ?_
            refine z_iload_n C dX8_hoursDownwind_87 rfl 5 rfl ?_
            refine z_getsN C (j := 0) (host := "FarTown") (by decide) (by decide +kernel) dX8_hoursDownwind_88 ?_
            refine z_iload C dX8_hoursDownwind_91 1 rfl ?_
            refine z_chk (fun hj5 => ?_)
            refine z_sald C (by decide) hj5 dX8_hoursDownwind_93 ?_
            refine z_imul C dX8_hoursDownwind_94 ?_
            refine z_isub C dX8_hoursDownwind_95 ?_
            refine z_bndI (fun y3 => ?_)
            refine z_istore (i := 8) (L2 := [(8, .int y3), (7, .int y2), (6, .int y1), (0, va_rf (some th)), (1, .int p1), (2, .int p2), (3, .int p3), (4, .int x4), (5, .int x5)]) C dX8_hoursDownwind_96 (by decide) rfl ?_
            refine z_iload C dX8_hoursDownwind_98 1 rfl ?_
            refine z_if_le (tgt := 121) C dX8_hoursDownwind_100 (by decide) (fun c6 => ?_) (fun c6 => ?_)
            · exact z_sub [3, 4, 5, 6, 7, 8] rfl (s_X8_hoursDownwind_121 C hr hrm th p1 p2 p3 k6 h6 x4 x5 m)
            · refine z_iload C dX8_hoursDownwind_103 1 rfl ?_
              refine z_iload C dX8_hoursDownwind_105 0 rfl ?_
              refine z_icmp_lt (tgt := 121) C dX8_hoursDownwind_107 (by decide) (fun c7 => ?_) (fun c7 => ?_)
              · exact z_sub [3, 4, 5, 6, 7, 8] rfl (s_X8_hoursDownwind_121 C hr hrm th p1 p2 p3 k6 h6 x4 x5 m)
              · refine z_iload C dX8_hoursDownwind_110 1 rfl ?_
                refine z_iload C dX8_hoursDownwind_112 0 rfl ?_
                refine z_ineg C dX8_hoursDownwind_114 ?_
                refine z_icmp_lt (tgt := 121) C dX8_hoursDownwind_115 (by decide) (fun c8 => ?_) (fun c8 => ?_)
                · exact z_sub [3, 4, 5, 6, 7, 8] rfl (s_X8_hoursDownwind_121 C hr hrm th p1 p2 p3 k6 h6 x4 x5 m)
                · refine z_iinc (v := 1) (L2 := [(4, .int (x4 + 1)), (8, .int y3), (7, .int y2), (6, .int y1), (0, va_rf (some th)), (1, .int p1), (2, .int p2), (3, .int p3), (5, .int x5)]) C dX8_hoursDownwind_118 7 rfl (by decide) (by decide) rfl ?_
                  exact z_sub [4, 5, 6, 7, 0, 8] rfl (s_X8_hoursDownwind_121 C hr hrm th p1 p2 p3 k6 h6 (x4 + 1) x5 m)
          · refine z_goto (tgt := 121) C dX8_hoursDownwind_57 (by decide) ?_
            exact z_sub [1, 2, 3, 4, 5, 6] rfl (s_X8_hoursDownwind_121 C hr hrm th p1 p2 p3 k6 h6 x4 x5 m)
def l_X8_hoursDownwind_6 (th : Nat) (p1 : Int32) (p2 : Int32) (p3 : Int32) : Nat → Int32 → Int32 → MM → Option (Int32 × MM) := lp (fun _ _ _ => none) (fun k6 => g_X8_hoursDownwind_6 th p1 p2 p3 k6)
theorem t_X8_hoursDownwind_6 {Γ : GX} {E : EX} (C : Cx Γ E cX8_hoursDownwind RX8 9) (hr : Γ.meth.sig.returnType = (some .int)) (hrm : Γ.rm = rmX8_hoursDownwind) (th : Nat) (p1 : Int32) (p2 : Int32) (p3 : Int32) : ∀ (n : Nat) (x4 : Int32) (x5 : Int32) (m : MM), Sm (QM Γ E emI 0 0) Γ E 9 0 0 6 [(0, va_rf (some th)), (1, .int p1), (2, .int p2), (3, .int p3), (4, .int x4), (5, .int x5)] [] m (l_X8_hoursDownwind_6 th p1 p2 p3 n x4 x5 m) := by
  intro n
  induction n with
  | zero => intros; exact z_none
  | succ n ih => intro x4 x5 m; exact s_X8_hoursDownwind_6 C hr hrm th p1 p2 p3 (l_X8_hoursDownwind_6 th p1 p2 p3 n) ih x4 x5 m
set_option maxRecDepth 100000 in
def g_X8_hoursDownwind_0 (th : Nat) (p1 : Int32) (p2 : Int32) (p3 : Int32) (m : MM) : Option (Int32 × MM) :=
  l_X8_hoursDownwind_6 th p1 p2 p3 FU 0 0 m
set_option maxHeartbeats 4000000 in
set_option maxRecDepth 100000 in
theorem s_X8_hoursDownwind_0 {Γ : GX} {E : EX} (C : Cx Γ E cX8_hoursDownwind RX8 9) (hr : Γ.meth.sig.returnType = (some .int)) (hrm : Γ.rm = rmX8_hoursDownwind) (th : Nat) (p1 : Int32) (p2 : Int32) (p3 : Int32) (m : MM) : Sm (QM Γ E emI 0 0) Γ E 9 0 0 0 [(0, va_rf (some th)), (1, .int p1), (2, .int p2), (3, .int p3)] [] m (g_X8_hoursDownwind_0 th p1 p2 p3 m) := by
  unfold g_X8_hoursDownwind_0
  refine z_iconst (v := 0) C dX8_hoursDownwind_0 (by decide) ?_
  refine z_istore (i := 4) (L2 := [(4, .int 0), (0, va_rf (some th)), (1, .int p1), (2, .int p2), (3, .int p3)]) C dX8_hoursDownwind_1 (by decide) rfl ?_
  refine z_iconst (v := 0) C dX8_hoursDownwind_3 (by decide) ?_
  refine z_istore (i := 5) (L2 := [(5, .int 0), (4, .int 0), (0, va_rf (some th)), (1, .int p1), (2, .int p2), (3, .int p3)]) C dX8_hoursDownwind_4 (by decide) rfl ?_
  exact z_sub [2, 3, 4, 5, 1, 0] rfl (t_X8_hoursDownwind_6 C hr hrm th p1 p2 p3 FU 0 0 m)
def f_X8_hoursDownwind (th : Nat) (p1 : Int32) (p2 : Int32) (p3 : Int32) (m : MM) : Option (Int32 × MM) := g_X8_hoursDownwind_0 th p1 p2 p3 m
theorem M_X8_hoursDownwind (l : Launch) (E : EX) (th : Nat) (p1 : Int32) (p2 : Int32) (p3 : Int32) (m : MM) (r : Int32) (m2 : MM) (h : f_X8_hoursDownwind th p1 p2 p3 m = some (r, m2)) : Met l yX8_hoursDownwind (.code yX8_hoursDownwind cX8_hoursDownwind 9 (some .int) :: TB) rmX8_hoursDownwind (va_Pc [.ref th, .int p1, .int p2, .int p3] (St E m)) (QR E (emI r) m2) 0 0 (AA E) :=
  met_of (em := emI) (plainFor_of_name rfl) (Nat.le_of_ble_eq_true rfl) (L0 := [(0, va_rf (some th)), (1, .int p1), (2, .int p2), (3, .int p3)]) rfl (fun Γ _ hrm C hr hn => s_X8_hoursDownwind_0 C hr hrm th p1 p2 p3 m) h

theorem dX8_gaveLeave_0 : decode cX8_gaveLeave 0 = .ok (.iconst 0, 1) := by decide +kernel
theorem dX8_gaveLeave_1 : decode cX8_gaveLeave 1 = .ok (.istore 4, 2) := by decide +kernel
theorem dX8_gaveLeave_3 : decode cX8_gaveLeave 3 = .ok (.iload 4, 2) := by decide +kernel
theorem dX8_gaveLeave_5 : decode cX8_gaveLeave 5 = .ok (.aload_n 0, 1) := by decide +kernel
theorem dX8_gaveLeave_6 : decode cX8_gaveLeave 6 = .ok (.getfield 26, 3) := by decide +kernel
theorem dX8_gaveLeave_9 : decode cX8_gaveLeave 9 = .ok (.getfield 55, 3) := by decide +kernel
theorem dX8_gaveLeave_12 : decode cX8_gaveLeave 12 = .ok (.if_icmp .ge 65, 3) := by decide +kernel
theorem dX8_gaveLeave_15 : decode cX8_gaveLeave 15 = .ok (.aload_n 0, 1) := by decide +kernel
theorem dX8_gaveLeave_16 : decode cX8_gaveLeave 16 = .ok (.getfield 26, 3) := by decide +kernel
theorem dX8_gaveLeave_19 : decode cX8_gaveLeave 19 = .ok (.iload 4, 2) := by decide +kernel
theorem dX8_gaveLeave_21 : decode cX8_gaveLeave 21 = .ok (.iconst 0, 1) := by decide +kernel
theorem dX8_gaveLeave_22 : decode cX8_gaveLeave 22 = .ok (.invokevirtual 66, 3) := by decide +kernel
theorem dX8_gaveLeave_25 : decode cX8_gaveLeave 25 = .ok (.iload_n 1, 1) := by decide +kernel
theorem dX8_gaveLeave_26 : decode cX8_gaveLeave 26 = .ok (.if_icmp .ne 21, 3) := by decide +kernel
theorem dX8_gaveLeave_29 : decode cX8_gaveLeave 29 = .ok (.aload_n 0, 1) := by decide +kernel
theorem dX8_gaveLeave_30 : decode cX8_gaveLeave 30 = .ok (.getfield 26, 3) := by decide +kernel
theorem dX8_gaveLeave_33 : decode cX8_gaveLeave 33 = .ok (.iload 4, 2) := by decide +kernel
theorem dX8_gaveLeave_35 : decode cX8_gaveLeave 35 = .ok (.iconst 1, 1) := by decide +kernel
theorem dX8_gaveLeave_36 : decode cX8_gaveLeave 36 = .ok (.invokevirtual 66, 3) := by decide +kernel
theorem dX8_gaveLeave_39 : decode cX8_gaveLeave 39 = .ok (.iload_n 2, 1) := by decide +kernel
theorem dX8_gaveLeave_40 : decode cX8_gaveLeave 40 = .ok (.if_icmp .ne 7, 3) := by decide +kernel
theorem dX8_gaveLeave_43 : decode cX8_gaveLeave 43 = .ok (.iconst 1, 1) := by decide +kernel
theorem dX8_gaveLeave_44 : decode cX8_gaveLeave 44 = .ok (.goto 4, 3) := by decide +kernel
theorem dX8_gaveLeave_47 : decode cX8_gaveLeave 47 = .ok (.iconst 0, 1) := by decide +kernel
theorem dX8_gaveLeave_48 : decode cX8_gaveLeave 48 = .ok (.istore 5, 2) := by decide +kernel
theorem dX8_gaveLeave_50 : decode cX8_gaveLeave 50 = .ok (.iload 5, 2) := by decide +kernel
theorem dX8_gaveLeave_52 : decode cX8_gaveLeave 52 = .ok (.ifCond .eq 19, 3) := by decide +kernel
theorem dX8_gaveLeave_55 : decode cX8_gaveLeave 55 = .ok (.aload_n 0, 1) := by decide +kernel
theorem dX8_gaveLeave_56 : decode cX8_gaveLeave 56 = .ok (.getfield 26, 3) := by decide +kernel
theorem dX8_gaveLeave_59 : decode cX8_gaveLeave 59 = .ok (.iload 4, 2) := by decide +kernel
theorem dX8_gaveLeave_61 : decode cX8_gaveLeave 61 = .ok (.iconst 2, 1) := by decide +kernel
theorem dX8_gaveLeave_62 : decode cX8_gaveLeave 62 = .ok (.invokevirtual 66, 3) := by decide +kernel
theorem dX8_gaveLeave_65 : decode cX8_gaveLeave 65 = .ok (.iload_n 3, 1) := by decide +kernel
theorem dX8_gaveLeave_66 : decode cX8_gaveLeave 66 = .ok (.if_icmp .gt 5, 3) := by decide +kernel
theorem dX8_gaveLeave_69 : decode cX8_gaveLeave 69 = .ok (.iconst 1, 1) := by decide +kernel
theorem dX8_gaveLeave_70 : decode cX8_gaveLeave 70 = .ok (.ireturn, 1) := by decide +kernel
theorem dX8_gaveLeave_71 : decode cX8_gaveLeave 71 = .ok (.iinc 4 1, 3) := by decide +kernel
theorem dX8_gaveLeave_74 : decode cX8_gaveLeave 74 = .ok (.goto (-71), 3) := by decide +kernel
theorem dX8_gaveLeave_77 : decode cX8_gaveLeave 77 = .ok (.iconst 0, 1) := by decide +kernel
theorem dX8_gaveLeave_78 : decode cX8_gaveLeave 78 = .ok (.ireturn, 1) := by decide +kernel
def rmX8_gaveLeave : Room := { frames := 1, cells := 0, slots := 0, locals := 23 }
set_option maxRecDepth 100000 in
def g_X8_gaveLeave_71 (th : Nat) (p1 : Int32) (p2 : Int32) (p3 : Int32) (k3 : Int32 → MM → Option (Int32 × MM)) (x4 : Int32) (m : MM) : Option (Int32 × MM) :=
  k3 (x4 + 1) m
set_option maxHeartbeats 4000000 in
set_option maxRecDepth 100000 in
theorem s_X8_gaveLeave_71 {Γ : GX} {E : EX} (C : Cx Γ E cX8_gaveLeave RX8 6) (hr : Γ.meth.sig.returnType = (some .boolean)) (hrm : Γ.rm = rmX8_gaveLeave) (th : Nat) (p1 : Int32) (p2 : Int32) (p3 : Int32) (k3 : Int32 → MM → Option (Int32 × MM)) (h3 : ∀ (x4 : Int32) (m : MM), Sm (QM Γ E emI 0 0) Γ E 6 0 0 3 [(0, va_rf (some th)), (1, .int p1), (2, .int p2), (3, .int p3), (4, .int x4)] [] m (k3 x4 m)) (x4 : Int32) (m : MM) : Sm (QM Γ E emI 0 0) Γ E 6 0 0 71 [(0, va_rf (some th)), (1, .int p1), (2, .int p2), (3, .int p3), (4, .int x4)] [] m (g_X8_gaveLeave_71 th p1 p2 p3 k3 x4 m) := by
  unfold g_X8_gaveLeave_71
  refine z_iinc (v := 1) (L2 := [(4, .int (x4 + 1)), (0, va_rf (some th)), (1, .int p1), (2, .int p2), (3, .int p3)]) C dX8_gaveLeave_71 4 rfl (by decide) (by decide) rfl ?_
  refine z_goto (tgt := 3) C dX8_gaveLeave_74 (by decide) ?_
  exact z_sub [1, 2, 3, 4, 0] rfl (h3 (x4 + 1) m)
set_option maxRecDepth 100000 in
def g_X8_gaveLeave_48 (th : Nat) (p1 : Int32) (p2 : Int32) (p3 : Int32) (k3 : Int32 → MM → Option (Int32 × MM)) (x4 : Int32) (s0 : Int32) (m : MM) : Option (Int32 × MM) :=
  if s0 = 0 then (g_X8_gaveLeave_71 th p1 p2 p3 k3 x4 m) else (chk (m.K th = 9) (ck m (m.R 907 th 0) 7 (fun a1 => cal (f_X6_cell a1 x4 2 m) (fun r1 m1 => if p3 < r1 then (g_X8_gaveLeave_71 th p1 p2 p3 k3 x4 m1) else (some (1, m1))))))
set_option maxHeartbeats 4000000 in
set_option maxRecDepth 100000 in
theorem s_X8_gaveLeave_48 {Γ : GX} {E : EX} (C : Cx Γ E cX8_gaveLeave RX8 6) (hr : Γ.meth.sig.returnType = (some .boolean)) (hrm : Γ.rm = rmX8_gaveLeave) (th : Nat) (p1 : Int32) (p2 : Int32) (p3 : Int32) (k3 : Int32 → MM → Option (Int32 × MM)) (h3 : ∀ (x4 : Int32) (m : MM), Sm (QM Γ E emI 0 0) Γ E 6 0 0 3 [(0, va_rf (some th)), (1, .int p1), (2, .int p2), (3, .int p3), (4, .int x4)] [] m (k3 x4 m)) (x4 : Int32) (s0 : Int32) (m : MM) : Sm (QM Γ E emI 0 0) Γ E 6 0 0 48 [(0, va_rf (some th)), (1, .int p1), (2, .int p2), (3, .int p3), (4, .int x4)] [.int s0] m (g_X8_gaveLeave_48 th p1 p2 p3 k3 x4 s0 m) := by
  unfold g_X8_gaveLeave_48
  refine z_istore (i := 5) (L2 := [(5, .int s0), (0, va_rf (some th)), (1, .int p1), (2, .int p2), (3, .int p3), (4, .int x4)]) C dX8_gaveLeave_48 (by decide) rfl ?_
  refine z_iload C dX8_gaveLeave_50 0 rfl ?_
  refine z_if_eq (tgt := 71) C dX8_gaveLeave_52 (by decide) (fun c1 => ?_) (fun c1 => ?_)
  · exact z_sub [1, 2, 3, 4, 5] rfl (s_X8_gaveLeave_71 C hr hrm th p1 p2 p3 k3 h3 x4 m)
  · refine z_aload_n C dX8_gaveLeave_55 rfl 1 rfl ?_
    refine z_chk (fun hk1 => ?_)
    refine z_getR C fl_RX8_26 rfl hk1 dX8_gaveLeave_56 ?_
    refine z_iload C dX8_gaveLeave_59 5 rfl ?_
    refine z_iconst (v := 2) C dX8_gaveLeave_61 (by decide) ?_
    refine z_ck (fun a1 hr1 hk2 => ?_)
    refine z_cVI [.int x4, .int 2] [] C mv_RX8_66 (fun r0 m0 h0 => M_X6_cell _ _ _ _ _ _ _ _ h0) rfl rfl ⟨by rw [hrm]; exact Nat.le_of_ble_eq_true rfl, by rw [hrm]; exact Nat.le_of_ble_eq_true rfl⟩ ⟨by rw [hrm]; exact Nat.le_of_ble_eq_true rfl, by rw [hrm]; exact Nat.le_of_ble_eq_true rfl⟩ hr1 hk2 rfl rfl rfl (Nat.le_of_ble_eq_true rfl) dX8_gaveLeave_62 (fun r1 m1 => ?_)
    refine z_iload_n C dX8_gaveLeave_65 rfl 4 rfl ?_
    refine z_icmp_gt (tgt := 71) C dX8_gaveLeave_66 (by decide) (fun c2 => ?_) (fun c2 => ?_)
    · exact z_sub [1, 2, 3, 4, 5] rfl (s_X8_gaveLeave_71 C hr hrm th p1 p2 p3 k3 h3 x4 m1)
    · refine z_iconst (v := 1) C dX8_gaveLeave_69 (by decide) ?_
      exact z_zret C hr rfl dX8_gaveLeave_70
set_option maxRecDepth 100000 in
def g_X8_gaveLeave_47 (th : Nat) (p1 : Int32) (p2 : Int32) (p3 : Int32) (k3 : Int32 → MM → Option (Int32 × MM)) (x4 : Int32) (m : MM) : Option (Int32 × MM) :=
  g_X8_gaveLeave_48 th p1 p2 p3 k3 x4 0 m
set_option maxHeartbeats 4000000 in
set_option maxRecDepth 100000 in
theorem s_X8_gaveLeave_47 {Γ : GX} {E : EX} (C : Cx Γ E cX8_gaveLeave RX8 6) (hr : Γ.meth.sig.returnType = (some .boolean)) (hrm : Γ.rm = rmX8_gaveLeave) (th : Nat) (p1 : Int32) (p2 : Int32) (p3 : Int32) (k3 : Int32 → MM → Option (Int32 × MM)) (h3 : ∀ (x4 : Int32) (m : MM), Sm (QM Γ E emI 0 0) Γ E 6 0 0 3 [(0, va_rf (some th)), (1, .int p1), (2, .int p2), (3, .int p3), (4, .int x4)] [] m (k3 x4 m)) (x4 : Int32) (m : MM) : Sm (QM Γ E emI 0 0) Γ E 6 0 0 47 [(0, va_rf (some th)), (1, .int p1), (2, .int p2), (3, .int p3), (4, .int x4)] [] m (g_X8_gaveLeave_47 th p1 p2 p3 k3 x4 m) := by
  unfold g_X8_gaveLeave_47
  refine z_iconst (v := 0) C dX8_gaveLeave_47 (by decide) ?_
  exact z_sub [0, 1, 2, 3, 4] rfl (s_X8_gaveLeave_48 C hr hrm th p1 p2 p3 k3 h3 x4 0 m)
set_option maxRecDepth 100000 in
def g_X8_gaveLeave_3 (th : Nat) (p1 : Int32) (p2 : Int32) (p3 : Int32) (k3 : Int32 → MM → Option (Int32 × MM)) (x4 : Int32) (m : MM) : Option (Int32 × MM) :=
  chk (m.K th = 9) (ck m (m.R 907 th 0) 7 (fun a2 => if (m.I 703 a2 0) ≤ x4 then (some (0, m)) else (cal (f_X6_cell a2 x4 0 m) (fun r2 m2 => if r2 = p1 then (chk (m2.K th = 9) (ck m2 (m2.R 907 th 0) 7 (fun a3 => cal (f_X6_cell a3 x4 1 m2) (fun r3 m3 => if r3 = p2 then (g_X8_gaveLeave_48 th p1 p2 p3 k3 x4 1 m3) else (g_X8_gaveLeave_47 th p1 p2 p3 k3 x4 m3))))) else (g_X8_gaveLeave_47 th p1 p2 p3 k3 x4 m2)))))
set_option maxHeartbeats 4000000 in
set_option maxRecDepth 100000 in
theorem s_X8_gaveLeave_3 {Γ : GX} {E : EX} (C : Cx Γ E cX8_gaveLeave RX8 6) (hr : Γ.meth.sig.returnType = (some .boolean)) (hrm : Γ.rm = rmX8_gaveLeave) (th : Nat) (p1 : Int32) (p2 : Int32) (p3 : Int32) (k3 : Int32 → MM → Option (Int32 × MM)) (h3 : ∀ (x4 : Int32) (m : MM), Sm (QM Γ E emI 0 0) Γ E 6 0 0 3 [(0, va_rf (some th)), (1, .int p1), (2, .int p2), (3, .int p3), (4, .int x4)] [] m (k3 x4 m)) (x4 : Int32) (m : MM) : Sm (QM Γ E emI 0 0) Γ E 6 0 0 3 [(0, va_rf (some th)), (1, .int p1), (2, .int p2), (3, .int p3), (4, .int x4)] [] m (g_X8_gaveLeave_3 th p1 p2 p3 k3 x4 m) := by
  unfold g_X8_gaveLeave_3
  refine z_iload C dX8_gaveLeave_3 4 rfl ?_
  refine z_aload_n C dX8_gaveLeave_5 rfl 0 rfl ?_
  refine z_chk (fun hk3 => ?_)
  refine z_getR C fl_RX8_26 rfl hk3 dX8_gaveLeave_6 ?_
  refine z_ck (fun a2 hr2 hk4 => ?_)
  refine z_getI C fl_RX8_55 hr2 hk4 dX8_gaveLeave_9 ?_
  refine z_icmp_ge (tgt := 77) C dX8_gaveLeave_12 (by decide) (fun c3 => ?_) (fun c3 => ?_)
  · refine z_iconst (v := 0) C dX8_gaveLeave_77 (by decide) ?_
    exact z_zret C hr rfl dX8_gaveLeave_78
  · refine z_aload_n C dX8_gaveLeave_15 rfl 0 rfl ?_
    refine z_getR C fl_RX8_26 rfl hk3 dX8_gaveLeave_16 ?_
    refine z_iload C dX8_gaveLeave_19 4 rfl ?_
    refine z_iconst (v := 0) C dX8_gaveLeave_21 (by decide) ?_
    refine z_cVI [.int x4, .int 0] [] C mv_RX8_66 (fun r0 m0 h0 => M_X6_cell _ _ _ _ _ _ _ _ h0) rfl rfl ⟨by rw [hrm]; exact Nat.le_of_ble_eq_true rfl, by rw [hrm]; exact Nat.le_of_ble_eq_true rfl⟩ ⟨by rw [hrm]; exact Nat.le_of_ble_eq_true rfl, by rw [hrm]; exact Nat.le_of_ble_eq_true rfl⟩ hr2 hk4 rfl rfl rfl (Nat.le_of_ble_eq_true rfl) dX8_gaveLeave_22 (fun r2 m2 => ?_)
    refine z_iload_n C dX8_gaveLeave_25 rfl 1 rfl ?_
    refine z_icmp_ne (tgt := 47) C dX8_gaveLeave_26 (by decide) (fun c4 => ?_) (fun c4 => ?_)
    · exact z_sub [0, 1, 2, 3, 4] rfl (s_X8_gaveLeave_47 C hr hrm th p1 p2 p3 k3 h3 x4 m2)
    · refine z_aload_n C dX8_gaveLeave_29 rfl 0 rfl ?_
      refine z_chk (fun hk5 => ?_)
      refine z_getR C fl_RX8_26 rfl hk5 dX8_gaveLeave_30 ?_
      refine z_iload C dX8_gaveLeave_33 4 rfl ?_
      refine z_iconst (v := 1) C dX8_gaveLeave_35 (by decide) ?_
      refine z_ck (fun a3 hr3 hk6 => ?_)
      refine z_cVI [.int x4, .int 1] [] C mv_RX8_66 (fun r0 m0 h0 => M_X6_cell _ _ _ _ _ _ _ _ h0) rfl rfl ⟨by rw [hrm]; exact Nat.le_of_ble_eq_true rfl, by rw [hrm]; exact Nat.le_of_ble_eq_true rfl⟩ ⟨by rw [hrm]; exact Nat.le_of_ble_eq_true rfl, by rw [hrm]; exact Nat.le_of_ble_eq_true rfl⟩ hr3 hk6 rfl rfl rfl (Nat.le_of_ble_eq_true rfl) dX8_gaveLeave_36 (fun r3 m3 => ?_)
      refine z_iload_n C dX8_gaveLeave_39 rfl 2 rfl ?_
      refine z_icmp_ne (tgt := 47) C dX8_gaveLeave_40 (by decide) (fun c5 => ?_) (fun c5 => ?_)
      · exact z_sub [0, 1, 2, 3, 4] rfl (s_X8_gaveLeave_47 C hr hrm th p1 p2 p3 k3 h3 x4 m3)
      · refine z_iconst (v := 1) C dX8_gaveLeave_43 (by decide) ?_
        refine z_goto (tgt := 48) C dX8_gaveLeave_44 (by decide) ?_
        exact z_sub [0, 1, 2, 3, 4] rfl (s_X8_gaveLeave_48 C hr hrm th p1 p2 p3 k3 h3 x4 1 m3)
def l_X8_gaveLeave_3 (th : Nat) (p1 : Int32) (p2 : Int32) (p3 : Int32) : Nat → Int32 → MM → Option (Int32 × MM) := lp (fun _ _ => none) (fun k3 => g_X8_gaveLeave_3 th p1 p2 p3 k3)
theorem t_X8_gaveLeave_3 {Γ : GX} {E : EX} (C : Cx Γ E cX8_gaveLeave RX8 6) (hr : Γ.meth.sig.returnType = (some .boolean)) (hrm : Γ.rm = rmX8_gaveLeave) (th : Nat) (p1 : Int32) (p2 : Int32) (p3 : Int32) : ∀ (n : Nat) (x4 : Int32) (m : MM), Sm (QM Γ E emI 0 0) Γ E 6 0 0 3 [(0, va_rf (some th)), (1, .int p1), (2, .int p2), (3, .int p3), (4, .int x4)] [] m (l_X8_gaveLeave_3 th p1 p2 p3 n x4 m) := by
  intro n
  induction n with
  | zero => intros; exact z_none
  | succ n ih => intro x4 m; exact s_X8_gaveLeave_3 C hr hrm th p1 p2 p3 (l_X8_gaveLeave_3 th p1 p2 p3 n) ih x4 m
set_option maxRecDepth 100000 in
def g_X8_gaveLeave_0 (th : Nat) (p1 : Int32) (p2 : Int32) (p3 : Int32) (m : MM) : Option (Int32 × MM) :=
  l_X8_gaveLeave_3 th p1 p2 p3 FU 0 m
set_option maxHeartbeats 4000000 in
set_option maxRecDepth 100000 in
theorem s_X8_gaveLeave_0 {Γ : GX} {E : EX} (C : Cx Γ E cX8_gaveLeave RX8 6) (hr : Γ.meth.sig.returnType = (some .boolean)) (hrm : Γ.rm = rmX8_gaveLeave) (th : Nat) (p1 : Int32) (p2 : Int32) (p3 : Int32) (m : MM) : Sm (QM Γ E emI 0 0) Γ E 6 0 0 0 [(0, va_rf (some th)), (1, .int p1), (2, .int p2), (3, .int p3)] [] m (g_X8_gaveLeave_0 th p1 p2 p3 m) := by
  unfold g_X8_gaveLeave_0
  refine z_iconst (v := 0) C dX8_gaveLeave_0 (by decide) ?_
  refine z_istore (i := 4) (L2 := [(4, .int 0), (0, va_rf (some th)), (1, .int p1), (2, .int p2), (3, .int p3)]) C dX8_gaveLeave_1 (by decide) rfl ?_
  exact z_sub [1, 2, 3, 4, 0] rfl (t_X8_gaveLeave_3 C hr hrm th p1 p2 p3 FU 0 m)
def f_X8_gaveLeave (th : Nat) (p1 : Int32) (p2 : Int32) (p3 : Int32) (m : MM) : Option (Int32 × MM) := g_X8_gaveLeave_0 th p1 p2 p3 m
theorem M_X8_gaveLeave (l : Launch) (E : EX) (th : Nat) (p1 : Int32) (p2 : Int32) (p3 : Int32) (m : MM) (r : Int32) (m2 : MM) (h : f_X8_gaveLeave th p1 p2 p3 m = some (r, m2)) : Met l yX8_gaveLeave (.code yX8_gaveLeave cX8_gaveLeave 6 (some .boolean) :: TB) rmX8_gaveLeave (va_Pc [.ref th, .int p1, .int p2, .int p3] (St E m)) (QR E (emI r) m2) 0 0 (AA E) :=
  met_of (em := emI) (plainFor_of_name rfl) (Nat.le_of_ble_eq_true rfl) (L0 := [(0, va_rf (some th)), (1, .int p1), (2, .int p2), (3, .int p3)]) rfl (fun Γ _ hrm C hr hn => s_X8_gaveLeave_0 C hr hrm th p1 p2 p3 m) h

theorem dX8_objected_0 : decode cX8_objected 0 = .ok (.iconst 0, 1) := by decide +kernel
theorem dX8_objected_1 : decode cX8_objected 1 = .ok (.istore 5, 2) := by decide +kernel
theorem dX8_objected_3 : decode cX8_objected 3 = .ok (.iload 5, 2) := by decide +kernel
theorem dX8_objected_5 : decode cX8_objected 5 = .ok (.aload_n 0, 1) := by decide +kernel
theorem dX8_objected_6 : decode cX8_objected 6 = .ok (.getfield 29, 3) := by decide +kernel
theorem dX8_objected_9 : decode cX8_objected 9 = .ok (.getfield 55, 3) := by decide +kernel
theorem dX8_objected_12 : decode cX8_objected 12 = .ok (.if_icmp .ge 76, 3) := by decide +kernel
theorem dX8_objected_15 : decode cX8_objected 15 = .ok (.aload_n 0, 1) := by decide +kernel
theorem dX8_objected_16 : decode cX8_objected 16 = .ok (.getfield 29, 3) := by decide +kernel
theorem dX8_objected_19 : decode cX8_objected 19 = .ok (.iload 5, 2) := by decide +kernel
theorem dX8_objected_21 : decode cX8_objected 21 = .ok (.iconst 0, 1) := by decide +kernel
theorem dX8_objected_22 : decode cX8_objected 22 = .ok (.invokevirtual 66, 3) := by decide +kernel
theorem dX8_objected_25 : decode cX8_objected 25 = .ok (.iload_n 1, 1) := by decide +kernel
theorem dX8_objected_26 : decode cX8_objected 26 = .ok (.if_icmp .ne 21, 3) := by decide +kernel
theorem dX8_objected_29 : decode cX8_objected 29 = .ok (.aload_n 0, 1) := by decide +kernel
theorem dX8_objected_30 : decode cX8_objected 30 = .ok (.getfield 29, 3) := by decide +kernel
theorem dX8_objected_33 : decode cX8_objected 33 = .ok (.iload 5, 2) := by decide +kernel
theorem dX8_objected_35 : decode cX8_objected 35 = .ok (.iconst 1, 1) := by decide +kernel
theorem dX8_objected_36 : decode cX8_objected 36 = .ok (.invokevirtual 66, 3) := by decide +kernel
theorem dX8_objected_39 : decode cX8_objected 39 = .ok (.iload_n 2, 1) := by decide +kernel
theorem dX8_objected_40 : decode cX8_objected 40 = .ok (.if_icmp .ne 7, 3) := by decide +kernel
theorem dX8_objected_43 : decode cX8_objected 43 = .ok (.iconst 1, 1) := by decide +kernel
theorem dX8_objected_44 : decode cX8_objected 44 = .ok (.goto 4, 3) := by decide +kernel
theorem dX8_objected_47 : decode cX8_objected 47 = .ok (.iconst 0, 1) := by decide +kernel
theorem dX8_objected_48 : decode cX8_objected 48 = .ok (.istore 6, 2) := by decide +kernel
theorem dX8_objected_50 : decode cX8_objected 50 = .ok (.aload_n 0, 1) := by decide +kernel
theorem dX8_objected_51 : decode cX8_objected 51 = .ok (.getfield 29, 3) := by decide +kernel
theorem dX8_objected_54 : decode cX8_objected 54 = .ok (.iload 5, 2) := by decide +kernel
theorem dX8_objected_56 : decode cX8_objected 56 = .ok (.iconst 2, 1) := by decide +kernel
theorem dX8_objected_57 : decode cX8_objected 57 = .ok (.invokevirtual 66, 3) := by decide +kernel
theorem dX8_objected_60 : decode cX8_objected 60 = .ok (.istore 7, 2) := by decide +kernel
theorem dX8_objected_62 : decode cX8_objected 62 = .ok (.iload 6, 2) := by decide +kernel
theorem dX8_objected_64 : decode cX8_objected 64 = .ok (.ifCond .eq 18, 3) := by decide +kernel
theorem dX8_objected_67 : decode cX8_objected 67 = .ok (.iload 7, 2) := by decide +kernel
theorem dX8_objected_69 : decode cX8_objected 69 = .ok (.iload_n 3, 1) := by decide +kernel
theorem dX8_objected_70 : decode cX8_objected 70 = .ok (.if_icmp .lt 12, 3) := by decide +kernel
theorem dX8_objected_73 : decode cX8_objected 73 = .ok (.iload 7, 2) := by decide +kernel
theorem dX8_objected_75 : decode cX8_objected 75 = .ok (.iload 4, 2) := by decide +kernel
theorem dX8_objected_77 : decode cX8_objected 77 = .ok (.if_icmp .gt 5, 3) := by decide +kernel
theorem dX8_objected_80 : decode cX8_objected 80 = .ok (.iconst 1, 1) := by decide +kernel
theorem dX8_objected_81 : decode cX8_objected 81 = .ok (.ireturn, 1) := by decide +kernel
theorem dX8_objected_82 : decode cX8_objected 82 = .ok (.iinc 5 1, 3) := by decide +kernel
theorem dX8_objected_85 : decode cX8_objected 85 = .ok (.goto (-82), 3) := by decide +kernel
theorem dX8_objected_88 : decode cX8_objected 88 = .ok (.iconst 0, 1) := by decide +kernel
theorem dX8_objected_89 : decode cX8_objected 89 = .ok (.ireturn, 1) := by decide +kernel
def rmX8_objected : Room := { frames := 1, cells := 0, slots := 0, locals := 23 }
set_option maxRecDepth 100000 in
def g_X8_objected_82 (th : Nat) (p1 : Int32) (p2 : Int32) (p3 : Int32) (p4 : Int32) (k3 : Int32 → MM → Option (Int32 × MM)) (x5 : Int32) (m : MM) : Option (Int32 × MM) :=
  k3 (x5 + 1) m
set_option maxHeartbeats 4000000 in
set_option maxRecDepth 100000 in
theorem s_X8_objected_82 {Γ : GX} {E : EX} (C : Cx Γ E cX8_objected RX8 8) (hr : Γ.meth.sig.returnType = (some .boolean)) (hrm : Γ.rm = rmX8_objected) (th : Nat) (p1 : Int32) (p2 : Int32) (p3 : Int32) (p4 : Int32) (k3 : Int32 → MM → Option (Int32 × MM)) (h3 : ∀ (x5 : Int32) (m : MM), Sm (QM Γ E emI 0 0) Γ E 8 0 0 3 [(0, va_rf (some th)), (1, .int p1), (2, .int p2), (3, .int p3), (4, .int p4), (5, .int x5)] [] m (k3 x5 m)) (x5 : Int32) (m : MM) : Sm (QM Γ E emI 0 0) Γ E 8 0 0 82 [(0, va_rf (some th)), (1, .int p1), (2, .int p2), (3, .int p3), (4, .int p4), (5, .int x5)] [] m (g_X8_objected_82 th p1 p2 p3 p4 k3 x5 m) := by
  unfold g_X8_objected_82
  refine z_iinc (v := 1) (L2 := [(5, .int (x5 + 1)), (0, va_rf (some th)), (1, .int p1), (2, .int p2), (3, .int p3), (4, .int p4)]) C dX8_objected_82 5 rfl (by decide) (by decide) rfl ?_
  refine z_goto (tgt := 3) C dX8_objected_85 (by decide) ?_
  exact z_sub [1, 2, 3, 4, 5, 0] rfl (h3 (x5 + 1) m)
set_option maxRecDepth 100000 in
def g_X8_objected_48 (th : Nat) (p1 : Int32) (p2 : Int32) (p3 : Int32) (p4 : Int32) (k3 : Int32 → MM → Option (Int32 × MM)) (x5 : Int32) (s0 : Int32) (m : MM) : Option (Int32 × MM) :=
  chk (m.K th = 9) (ck m (m.R 908 th 0) 7 (fun a1 => cal (f_X6_cell a1 x5 2 m) (fun r1 m1 => if s0 = 0 then (g_X8_objected_82 th p1 p2 p3 p4 k3 x5 m1) else (if r1 < p3 then (g_X8_objected_82 th p1 p2 p3 p4 k3 x5 m1) else (if p4 < r1 then (g_X8_objected_82 th p1 p2 p3 p4 k3 x5 m1) else (some (1, m1)))))))
set_option maxHeartbeats 4000000 in
set_option maxRecDepth 100000 in
theorem s_X8_objected_48 {Γ : GX} {E : EX} (C : Cx Γ E cX8_objected RX8 8) (hr : Γ.meth.sig.returnType = (some .boolean)) (hrm : Γ.rm = rmX8_objected) (th : Nat) (p1 : Int32) (p2 : Int32) (p3 : Int32) (p4 : Int32) (k3 : Int32 → MM → Option (Int32 × MM)) (h3 : ∀ (x5 : Int32) (m : MM), Sm (QM Γ E emI 0 0) Γ E 8 0 0 3 [(0, va_rf (some th)), (1, .int p1), (2, .int p2), (3, .int p3), (4, .int p4), (5, .int x5)] [] m (k3 x5 m)) (x5 : Int32) (s0 : Int32) (m : MM) : Sm (QM Γ E emI 0 0) Γ E 8 0 0 48 [(0, va_rf (some th)), (1, .int p1), (2, .int p2), (3, .int p3), (4, .int p4), (5, .int x5)] [.int s0] m (g_X8_objected_48 th p1 p2 p3 p4 k3 x5 s0 m) := by
  unfold g_X8_objected_48
  refine z_istore (i := 6) (L2 := [(6, .int s0), (0, va_rf (some th)), (1, .int p1), (2, .int p2), (3, .int p3), (4, .int p4), (5, .int x5)]) C dX8_objected_48 (by decide) rfl ?_
  refine z_aload_n C dX8_objected_50 rfl 1 rfl ?_
  refine z_chk (fun hk1 => ?_)
  refine z_getR C fl_RX8_29 rfl hk1 dX8_objected_51 ?_
  refine z_iload C dX8_objected_54 6 rfl ?_
  refine z_iconst (v := 2) C dX8_objected_56 (by decide) ?_
  refine z_ck (fun a1 hr1 hk2 => ?_)
  refine z_cVI [.int x5, .int 2] [] C mv_RX8_66 (fun r0 m0 h0 => M_X6_cell _ _ _ _ _ _ _ _ h0) rfl rfl ⟨by rw [hrm]; exact Nat.le_of_ble_eq_true rfl, by rw [hrm]; exact Nat.le_of_ble_eq_true rfl⟩ ⟨by rw [hrm]; exact Nat.le_of_ble_eq_true rfl, by rw [hrm]; exact Nat.le_of_ble_eq_true rfl⟩ hr1 hk2 rfl rfl rfl (Nat.le_of_ble_eq_true rfl) dX8_objected_57 (fun r1 m1 => ?_)
  refine z_istore (i := 7) (L2 := [(7, .int r1), (6, .int s0), (0, va_rf (some th)), (1, .int p1), (2, .int p2), (3, .int p3), (4, .int p4), (5, .int x5)]) C dX8_objected_60 (by decide) rfl ?_
  refine z_iload C dX8_objected_62 1 rfl ?_
  refine z_if_eq (tgt := 82) C dX8_objected_64 (by decide) (fun c1 => ?_) (fun c1 => ?_)
  · exact z_sub [2, 3, 4, 5, 6, 7] rfl (s_X8_objected_82 C hr hrm th p1 p2 p3 p4 k3 h3 x5 m1)
  · refine z_iload C dX8_objected_67 0 rfl ?_
    refine z_iload_n C dX8_objected_69 rfl 5 rfl ?_
    refine z_icmp_lt (tgt := 82) C dX8_objected_70 (by decide) (fun c2 => ?_) (fun c2 => ?_)
    · exact z_sub [2, 3, 4, 5, 6, 7] rfl (s_X8_objected_82 C hr hrm th p1 p2 p3 p4 k3 h3 x5 m1)
    · refine z_iload C dX8_objected_73 0 rfl ?_
      refine z_iload C dX8_objected_75 6 rfl ?_
      refine z_icmp_gt (tgt := 82) C dX8_objected_77 (by decide) (fun c3 => ?_) (fun c3 => ?_)
      · exact z_sub [2, 3, 4, 5, 6, 7] rfl (s_X8_objected_82 C hr hrm th p1 p2 p3 p4 k3 h3 x5 m1)
      · refine z_iconst (v := 1) C dX8_objected_80 (by decide) ?_
        exact z_zret C hr rfl dX8_objected_81
set_option maxRecDepth 100000 in
def g_X8_objected_47 (th : Nat) (p1 : Int32) (p2 : Int32) (p3 : Int32) (p4 : Int32) (k3 : Int32 → MM → Option (Int32 × MM)) (x5 : Int32) (m : MM) : Option (Int32 × MM) :=
  g_X8_objected_48 th p1 p2 p3 p4 k3 x5 0 m
set_option maxHeartbeats 4000000 in
set_option maxRecDepth 100000 in
theorem s_X8_objected_47 {Γ : GX} {E : EX} (C : Cx Γ E cX8_objected RX8 8) (hr : Γ.meth.sig.returnType = (some .boolean)) (hrm : Γ.rm = rmX8_objected) (th : Nat) (p1 : Int32) (p2 : Int32) (p3 : Int32) (p4 : Int32) (k3 : Int32 → MM → Option (Int32 × MM)) (h3 : ∀ (x5 : Int32) (m : MM), Sm (QM Γ E emI 0 0) Γ E 8 0 0 3 [(0, va_rf (some th)), (1, .int p1), (2, .int p2), (3, .int p3), (4, .int p4), (5, .int x5)] [] m (k3 x5 m)) (x5 : Int32) (m : MM) : Sm (QM Γ E emI 0 0) Γ E 8 0 0 47 [(0, va_rf (some th)), (1, .int p1), (2, .int p2), (3, .int p3), (4, .int p4), (5, .int x5)] [] m (g_X8_objected_47 th p1 p2 p3 p4 k3 x5 m) := by
  unfold g_X8_objected_47
  refine z_iconst (v := 0) C dX8_objected_47 (by decide) ?_
  exact z_sub [0, 1, 2, 3, 4, 5] rfl (s_X8_objected_48 C hr hrm th p1 p2 p3 p4 k3 h3 x5 0 m)
set_option maxRecDepth 100000 in
def g_X8_objected_3 (th : Nat) (p1 : Int32) (p2 : Int32) (p3 : Int32) (p4 : Int32) (k3 : Int32 → MM → Option (Int32 × MM)) (x5 : Int32) (m : MM) : Option (Int32 × MM) :=
  chk (m.K th = 9) (ck m (m.R 908 th 0) 7 (fun a2 => if (m.I 703 a2 0) ≤ x5 then (some (0, m)) else (cal (f_X6_cell a2 x5 0 m) (fun r2 m2 => if r2 = p1 then (chk (m2.K th = 9) (ck m2 (m2.R 908 th 0) 7 (fun a3 => cal (f_X6_cell a3 x5 1 m2) (fun r3 m3 => if r3 = p2 then (g_X8_objected_48 th p1 p2 p3 p4 k3 x5 1 m3) else (g_X8_objected_47 th p1 p2 p3 p4 k3 x5 m3))))) else (g_X8_objected_47 th p1 p2 p3 p4 k3 x5 m2)))))
set_option maxHeartbeats 4000000 in
set_option maxRecDepth 100000 in
theorem s_X8_objected_3 {Γ : GX} {E : EX} (C : Cx Γ E cX8_objected RX8 8) (hr : Γ.meth.sig.returnType = (some .boolean)) (hrm : Γ.rm = rmX8_objected) (th : Nat) (p1 : Int32) (p2 : Int32) (p3 : Int32) (p4 : Int32) (k3 : Int32 → MM → Option (Int32 × MM)) (h3 : ∀ (x5 : Int32) (m : MM), Sm (QM Γ E emI 0 0) Γ E 8 0 0 3 [(0, va_rf (some th)), (1, .int p1), (2, .int p2), (3, .int p3), (4, .int p4), (5, .int x5)] [] m (k3 x5 m)) (x5 : Int32) (m : MM) : Sm (QM Γ E emI 0 0) Γ E 8 0 0 3 [(0, va_rf (some th)), (1, .int p1), (2, .int p2), (3, .int p3), (4, .int p4), (5, .int x5)] [] m (g_X8_objected_3 th p1 p2 p3 p4 k3 x5 m) := by
  unfold g_X8_objected_3
  refine z_iload C dX8_objected_3 5 rfl ?_
  refine z_aload_n C dX8_objected_5 rfl 0 rfl ?_
  refine z_chk (fun hk3 => ?_)
  refine z_getR C fl_RX8_29 rfl hk3 dX8_objected_6 ?_
  refine z_ck (fun a2 hr2 hk4 => ?_)
  refine z_getI C fl_RX8_55 hr2 hk4 dX8_objected_9 ?_
  refine z_icmp_ge (tgt := 88) C dX8_objected_12 (by decide) (fun c4 => ?_) (fun c4 => ?_)
  · refine z_iconst (v := 0) C dX8_objected_88 (by decide) ?_
    exact z_zret C hr rfl dX8_objected_89
  · refine z_aload_n C dX8_objected_15 rfl 0 rfl ?_
    refine z_getR C fl_RX8_29 rfl hk3 dX8_objected_16 ?_
    refine z_iload C dX8_objected_19 5 rfl ?_
    refine z_iconst (v := 0) C dX8_objected_21 (by decide) ?_
    refine z_cVI [.int x5, .int 0] [] C mv_RX8_66 (fun r0 m0 h0 => M_X6_cell _ _ _ _ _ _ _ _ h0) rfl rfl ⟨by rw [hrm]; exact Nat.le_of_ble_eq_true rfl, by rw [hrm]; exact Nat.le_of_ble_eq_true rfl⟩ ⟨by rw [hrm]; exact Nat.le_of_ble_eq_true rfl, by rw [hrm]; exact Nat.le_of_ble_eq_true rfl⟩ hr2 hk4 rfl rfl rfl (Nat.le_of_ble_eq_true rfl) dX8_objected_22 (fun r2 m2 => ?_)
    refine z_iload_n C dX8_objected_25 rfl 1 rfl ?_
    refine z_icmp_ne (tgt := 47) C dX8_objected_26 (by decide) (fun c5 => ?_) (fun c5 => ?_)
    · exact z_sub [0, 1, 2, 3, 4, 5] rfl (s_X8_objected_47 C hr hrm th p1 p2 p3 p4 k3 h3 x5 m2)
    · refine z_aload_n C dX8_objected_29 rfl 0 rfl ?_
      refine z_chk (fun hk5 => ?_)
      refine z_getR C fl_RX8_29 rfl hk5 dX8_objected_30 ?_
      refine z_iload C dX8_objected_33 5 rfl ?_
      refine z_iconst (v := 1) C dX8_objected_35 (by decide) ?_
      refine z_ck (fun a3 hr3 hk6 => ?_)
      refine z_cVI [.int x5, .int 1] [] C mv_RX8_66 (fun r0 m0 h0 => M_X6_cell _ _ _ _ _ _ _ _ h0) rfl rfl ⟨by rw [hrm]; exact Nat.le_of_ble_eq_true rfl, by rw [hrm]; exact Nat.le_of_ble_eq_true rfl⟩ ⟨by rw [hrm]; exact Nat.le_of_ble_eq_true rfl, by rw [hrm]; exact Nat.le_of_ble_eq_true rfl⟩ hr3 hk6 rfl rfl rfl (Nat.le_of_ble_eq_true rfl) dX8_objected_36 (fun r3 m3 => ?_)
      refine z_iload_n C dX8_objected_39 rfl 2 rfl ?_
      refine z_icmp_ne (tgt := 47) C dX8_objected_40 (by decide) (fun c6 => ?_) (fun c6 => ?_)
      · exact z_sub [0, 1, 2, 3, 4, 5] rfl (s_X8_objected_47 C hr hrm th p1 p2 p3 p4 k3 h3 x5 m3)
      · refine z_iconst (v := 1) C dX8_objected_43 (by decide) ?_
        refine z_goto (tgt := 48) C dX8_objected_44 (by decide) ?_
        exact z_sub [0, 1, 2, 3, 4, 5] rfl (s_X8_objected_48 C hr hrm th p1 p2 p3 p4 k3 h3 x5 1 m3)
def l_X8_objected_3 (th : Nat) (p1 : Int32) (p2 : Int32) (p3 : Int32) (p4 : Int32) : Nat → Int32 → MM → Option (Int32 × MM) := lp (fun _ _ => none) (fun k3 => g_X8_objected_3 th p1 p2 p3 p4 k3)
theorem t_X8_objected_3 {Γ : GX} {E : EX} (C : Cx Γ E cX8_objected RX8 8) (hr : Γ.meth.sig.returnType = (some .boolean)) (hrm : Γ.rm = rmX8_objected) (th : Nat) (p1 : Int32) (p2 : Int32) (p3 : Int32) (p4 : Int32) : ∀ (n : Nat) (x5 : Int32) (m : MM), Sm (QM Γ E emI 0 0) Γ E 8 0 0 3 [(0, va_rf (some th)), (1, .int p1), (2, .int p2), (3, .int p3), (4, .int p4), (5, .int x5)] [] m (l_X8_objected_3 th p1 p2 p3 p4 n x5 m) := by
  intro n
  induction n with
  | zero => intros; exact z_none
  | succ n ih => intro x5 m; exact s_X8_objected_3 C hr hrm th p1 p2 p3 p4 (l_X8_objected_3 th p1 p2 p3 p4 n) ih x5 m
set_option maxRecDepth 100000 in
def g_X8_objected_0 (th : Nat) (p1 : Int32) (p2 : Int32) (p3 : Int32) (p4 : Int32) (m : MM) : Option (Int32 × MM) :=
  l_X8_objected_3 th p1 p2 p3 p4 FU 0 m
set_option maxHeartbeats 4000000 in
set_option maxRecDepth 100000 in
theorem s_X8_objected_0 {Γ : GX} {E : EX} (C : Cx Γ E cX8_objected RX8 8) (hr : Γ.meth.sig.returnType = (some .boolean)) (hrm : Γ.rm = rmX8_objected) (th : Nat) (p1 : Int32) (p2 : Int32) (p3 : Int32) (p4 : Int32) (m : MM) : Sm (QM Γ E emI 0 0) Γ E 8 0 0 0 [(0, va_rf (some th)), (1, .int p1), (2, .int p2), (3, .int p3), (4, .int p4)] [] m (g_X8_objected_0 th p1 p2 p3 p4 m) := by
  unfold g_X8_objected_0
  refine z_iconst (v := 0) C dX8_objected_0 (by decide) ?_
  refine z_istore (i := 5) (L2 := [(5, .int 0), (0, va_rf (some th)), (1, .int p1), (2, .int p2), (3, .int p3), (4, .int p4)]) C dX8_objected_1 (by decide) rfl ?_
  exact z_sub [1, 2, 3, 4, 5, 0] rfl (t_X8_objected_3 C hr hrm th p1 p2 p3 p4 FU 0 m)
def f_X8_objected (th : Nat) (p1 : Int32) (p2 : Int32) (p3 : Int32) (p4 : Int32) (m : MM) : Option (Int32 × MM) := g_X8_objected_0 th p1 p2 p3 p4 m
theorem M_X8_objected (l : Launch) (E : EX) (th : Nat) (p1 : Int32) (p2 : Int32) (p3 : Int32) (p4 : Int32) (m : MM) (r : Int32) (m2 : MM) (h : f_X8_objected th p1 p2 p3 p4 m = some (r, m2)) : Met l yX8_objected (.code yX8_objected cX8_objected 8 (some .boolean) :: TB) rmX8_objected (va_Pc [.ref th, .int p1, .int p2, .int p3, .int p4] (St E m)) (QR E (emI r) m2) 0 0 (AA E) :=
  met_of (em := emI) (plainFor_of_name rfl) (Nat.le_of_ble_eq_true rfl) (L0 := [(0, va_rf (some th)), (1, .int p1), (2, .int p2), (3, .int p3), (4, .int p4)]) rfl (fun Γ _ hrm C hr hn => s_X8_objected_0 C hr hrm th p1 p2 p3 p4 m) h

theorem dX8_hasPoint_0 : decode cX8_hasPoint 0 = .ok (.iload_n 1, 1) := by decide +kernel
theorem dX8_hasPoint_1 : decode cX8_hasPoint 1 = .ok (.ifCond .lt 27, 3) := by decide +kernel
theorem dX8_hasPoint_4 : decode cX8_hasPoint 4 = .ok (.iload_n 1, 1) := by decide +kernel
theorem dX8_hasPoint_5 : decode cX8_hasPoint 5 = .ok (.aload_n 0, 1) := by decide +kernel
theorem dX8_hasPoint_6 : decode cX8_hasPoint 6 = .ok (.getfield 42, 3) := by decide +kernel
theorem dX8_hasPoint_9 : decode cX8_hasPoint 9 = .ok (.if_icmp .ge 19, 3) := by decide +kernel
theorem dX8_hasPoint_12 : decode cX8_hasPoint 12 = .ok (.iload_n 2, 1) := by decide +kernel
theorem dX8_hasPoint_13 : decode cX8_hasPoint 13 = .ok (.ifCond .lt 15, 3) := by decide +kernel
theorem dX8_hasPoint_16 : decode cX8_hasPoint 16 = .ok (.iload_n 2, 1) := by decide +kernel
theorem dX8_hasPoint_17 : decode cX8_hasPoint 17 = .ok (.aload_n 0, 1) := by decide +kernel
theorem dX8_hasPoint_18 : decode cX8_hasPoint 18 = .ok (.getfield 46, 3) := by decide +kernel
theorem dX8_hasPoint_21 : decode cX8_hasPoint 21 = .ok (.if_icmp .ge 7, 3) := by decide +kernel
theorem dX8_hasPoint_24 : decode cX8_hasPoint 24 = .ok (.iconst 1, 1) := by decide +kernel
theorem dX8_hasPoint_25 : decode cX8_hasPoint 25 = .ok (.goto 4, 3) := by decide +kernel
theorem dX8_hasPoint_28 : decode cX8_hasPoint 28 = .ok (.iconst 0, 1) := by decide +kernel
theorem dX8_hasPoint_29 : decode cX8_hasPoint 29 = .ok (.ireturn, 1) := by decide +kernel
def rmX8_hasPoint : Room := { frames := 0, cells := 0, slots := 0, locals := 0 }
set_option maxRecDepth 100000 in
def g_X8_hasPoint_28 (th : Nat) (p1 : Int32) (p2 : Int32) (m : MM) : Option (Int32 × MM) :=
  some (0, m)
set_option maxHeartbeats 4000000 in
set_option maxRecDepth 100000 in
theorem s_X8_hasPoint_28 {Γ : GX} {E : EX} (C : Cx Γ E cX8_hasPoint RX8 3) (hr : Γ.meth.sig.returnType = (some .boolean)) (hrm : Γ.rm = rmX8_hasPoint) (th : Nat) (p1 : Int32) (p2 : Int32) (m : MM) : Sm (QM Γ E emI 0 0) Γ E 3 0 0 28 [(0, va_rf (some th)), (1, .int p1), (2, .int p2)] [] m (g_X8_hasPoint_28 th p1 p2 m) := by
  unfold g_X8_hasPoint_28
  refine z_iconst (v := 0) C dX8_hasPoint_28 (by decide) ?_
  exact z_zret C hr rfl dX8_hasPoint_29
set_option maxRecDepth 100000 in
def g_X8_hasPoint_0 (th : Nat) (p1 : Int32) (p2 : Int32) (m : MM) : Option (Int32 × MM) :=
  if p1 < 0 then (g_X8_hasPoint_28 th p1 p2 m) else (chk (m.K th = 9) (if (m.I 900 th 0) ≤ p1 then (g_X8_hasPoint_28 th p1 p2 m) else (if p2 < 0 then (g_X8_hasPoint_28 th p1 p2 m) else (if (m.I 901 th 0) ≤ p2 then (g_X8_hasPoint_28 th p1 p2 m) else (some (1, m))))))
set_option maxHeartbeats 4000000 in
set_option maxRecDepth 100000 in
theorem s_X8_hasPoint_0 {Γ : GX} {E : EX} (C : Cx Γ E cX8_hasPoint RX8 3) (hr : Γ.meth.sig.returnType = (some .boolean)) (hrm : Γ.rm = rmX8_hasPoint) (th : Nat) (p1 : Int32) (p2 : Int32) (m : MM) : Sm (QM Γ E emI 0 0) Γ E 3 0 0 0 [(0, va_rf (some th)), (1, .int p1), (2, .int p2)] [] m (g_X8_hasPoint_0 th p1 p2 m) := by
  unfold g_X8_hasPoint_0
  refine z_iload_n C dX8_hasPoint_0 rfl 1 rfl ?_
  refine z_if_lt (tgt := 28) C dX8_hasPoint_1 (by decide) (fun c1 => ?_) (fun c1 => ?_)
  · exact z_sub [0, 1, 2] rfl (s_X8_hasPoint_28 C hr hrm th p1 p2 m)
  · refine z_iload_n C dX8_hasPoint_4 rfl 1 rfl ?_
    refine z_aload_n C dX8_hasPoint_5 rfl 0 rfl ?_
    refine z_chk (fun hk1 => ?_)
    refine z_getI C fl_RX8_42 rfl hk1 dX8_hasPoint_6 ?_
    refine z_icmp_ge (tgt := 28) C dX8_hasPoint_9 (by decide) (fun c2 => ?_) (fun c2 => ?_)
    · exact z_sub [0, 1, 2] rfl (s_X8_hasPoint_28 C hr hrm th p1 p2 m)
    · refine z_iload_n C dX8_hasPoint_12 rfl 2 rfl ?_
      refine z_if_lt (tgt := 28) C dX8_hasPoint_13 (by decide) (fun c3 => ?_) (fun c3 => ?_)
      · exact z_sub [0, 1, 2] rfl (s_X8_hasPoint_28 C hr hrm th p1 p2 m)
      · refine z_iload_n C dX8_hasPoint_16 rfl 2 rfl ?_
        refine z_aload_n C dX8_hasPoint_17 rfl 0 rfl ?_
        refine z_getI C fl_RX8_46 rfl hk1 dX8_hasPoint_18 ?_
        refine z_icmp_ge (tgt := 28) C dX8_hasPoint_21 (by decide) (fun c4 => ?_) (fun c4 => ?_)
        · exact z_sub [0, 1, 2] rfl (s_X8_hasPoint_28 C hr hrm th p1 p2 m)
        · refine z_iconst (v := 1) C dX8_hasPoint_24 (by decide) ?_
          refine z_goto (tgt := 29) C dX8_hasPoint_25 (by decide) ?_
          exact z_zret C hr rfl dX8_hasPoint_29
def f_X8_hasPoint (th : Nat) (p1 : Int32) (p2 : Int32) (m : MM) : Option (Int32 × MM) := g_X8_hasPoint_0 th p1 p2 m
theorem M_X8_hasPoint (l : Launch) (E : EX) (th : Nat) (p1 : Int32) (p2 : Int32) (m : MM) (r : Int32) (m2 : MM) (h : f_X8_hasPoint th p1 p2 m = some (r, m2)) : Met l yX8_hasPoint (.code yX8_hasPoint cX8_hasPoint 3 (some .boolean) :: TB) rmX8_hasPoint (va_Pc [.ref th, .int p1, .int p2] (St E m)) (QR E (emI r) m2) 0 0 (AA E) :=
  met_of (em := emI) (plainFor_of_name rfl) (Nat.le_of_ble_eq_true rfl) (L0 := [(0, va_rf (some th)), (1, .int p1), (2, .int p2)]) rfl (fun Γ _ hrm C hr hn => s_X8_hasPoint_0 C hr hrm th p1 p2 m) h

theorem dX8_init_0 : decode cX8_init 0 = .ok (.aload_n 0, 1) := by decide +kernel
theorem dX8_init_1 : decode cX8_init 1 = .ok (.invokespecial 3, 3) := by decide +kernel
theorem dX8_init_4 : decode cX8_init 4 = .ok (.aload_n 0, 1) := by decide +kernel
theorem dX8_init_5 : decode cX8_init 5 = .ok (.new 9, 3) := by decide +kernel
theorem dX8_init_8 : decode cX8_init 8 = .ok (.dup, 1) := by decide +kernel
theorem dX8_init_9 : decode cX8_init 9 = .ok (.bipush 12, 2) := by decide +kernel
theorem dX8_init_11 : decode cX8_init 11 = .ok (.bipush 8, 2) := by decide +kernel
theorem dX8_init_13 : decode cX8_init 13 = .ok (.invokespecial 11, 3) := by decide +kernel
theorem dX8_init_16 : decode cX8_init 16 = .ok (.putfield 14, 3) := by decide +kernel
theorem dX8_init_19 : decode cX8_init 19 = .ok (.aload_n 0, 1) := by decide +kernel
theorem dX8_init_20 : decode cX8_init 20 = .ok (.new 9, 3) := by decide +kernel
theorem dX8_init_23 : decode cX8_init 23 = .ok (.dup, 1) := by decide +kernel
theorem dX8_init_24 : decode cX8_init 24 = .ok (.bipush 8, 2) := by decide +kernel
theorem dX8_init_26 : decode cX8_init 26 = .ok (.iconst 5, 1) := by decide +kernel
theorem dX8_init_27 : decode cX8_init 27 = .ok (.invokespecial 11, 3) := by decide +kernel
theorem dX8_init_30 : decode cX8_init 30 = .ok (.putfield 20, 3) := by decide +kernel
theorem dX8_init_33 : decode cX8_init 33 = .ok (.aload_n 0, 1) := by decide +kernel
theorem dX8_init_34 : decode cX8_init 34 = .ok (.new 9, 3) := by decide +kernel
theorem dX8_init_37 : decode cX8_init 37 = .ok (.dup, 1) := by decide +kernel
theorem dX8_init_38 : decode cX8_init 38 = .ok (.bipush 6, 2) := by decide +kernel
theorem dX8_init_40 : decode cX8_init 40 = .ok (.iconst 5, 1) := by decide +kernel
theorem dX8_init_41 : decode cX8_init 41 = .ok (.invokespecial 11, 3) := by decide +kernel
theorem dX8_init_44 : decode cX8_init 44 = .ok (.putfield 23, 3) := by decide +kernel
theorem dX8_init_47 : decode cX8_init 47 = .ok (.aload_n 0, 1) := by decide +kernel
theorem dX8_init_48 : decode cX8_init 48 = .ok (.new 9, 3) := by decide +kernel
theorem dX8_init_51 : decode cX8_init 51 = .ok (.dup, 1) := by decide +kernel
theorem dX8_init_52 : decode cX8_init 52 = .ok (.bipush 12, 2) := by decide +kernel
theorem dX8_init_54 : decode cX8_init 54 = .ok (.iconst 3, 1) := by decide +kernel
theorem dX8_init_55 : decode cX8_init 55 = .ok (.invokespecial 11, 3) := by decide +kernel
theorem dX8_init_58 : decode cX8_init 58 = .ok (.putfield 26, 3) := by decide +kernel
theorem dX8_init_61 : decode cX8_init 61 = .ok (.aload_n 0, 1) := by decide +kernel
theorem dX8_init_62 : decode cX8_init 62 = .ok (.new 9, 3) := by decide +kernel
theorem dX8_init_65 : decode cX8_init 65 = .ok (.dup, 1) := by decide +kernel
theorem dX8_init_66 : decode cX8_init 66 = .ok (.bipush 12, 2) := by decide +kernel
theorem dX8_init_68 : decode cX8_init 68 = .ok (.iconst 3, 1) := by decide +kernel
theorem dX8_init_69 : decode cX8_init 69 = .ok (.invokespecial 11, 3) := by decide +kernel
theorem dX8_init_72 : decode cX8_init 72 = .ok (.putfield 29, 3) := by decide +kernel
theorem dX8_init_75 : decode cX8_init 75 = .ok (.aload_n 0, 1) := by decide +kernel
theorem dX8_init_76 : decode cX8_init 76 = .ok (.new 9, 3) := by decide +kernel
theorem dX8_init_79 : decode cX8_init 79 = .ok (.dup, 1) := by decide +kernel
theorem dX8_init_80 : decode cX8_init 80 = .ok (.iconst 3, 1) := by decide +kernel
theorem dX8_init_81 : decode cX8_init 81 = .ok (.iconst 2, 1) := by decide +kernel
theorem dX8_init_82 : decode cX8_init 82 = .ok (.invokespecial 11, 3) := by decide +kernel
theorem dX8_init_85 : decode cX8_init 85 = .ok (.putfield 32, 3) := by decide +kernel
theorem dX8_init_88 : decode cX8_init 88 = .ok (.aload_n 0, 1) := by decide +kernel
theorem dX8_init_89 : decode cX8_init 89 = .ok (.bipush 8, 2) := by decide +kernel
theorem dX8_init_91 : decode cX8_init 91 = .ok (.newarray .int, 2) := by decide +kernel
theorem dX8_init_93 : decode cX8_init 93 = .ok (.putfield 35, 3) := by decide +kernel
theorem dX8_init_96 : decode cX8_init 96 = .ok (.aload_n 0, 1) := by decide +kernel
theorem dX8_init_97 : decode cX8_init 97 = .ok (.bipush 6, 2) := by decide +kernel
theorem dX8_init_99 : decode cX8_init 99 = .ok (.newarray .int, 2) := by decide +kernel
theorem dX8_init_101 : decode cX8_init 101 = .ok (.putfield 39, 3) := by decide +kernel
theorem dX8_init_104 : decode cX8_init 104 = .ok (.return_, 1) := by decide +kernel
def rmX8_init : Room := { frames := 2, cells := 14, slots := 282, locals := 42 }
set_option maxRecDepth 100000 in
def f_X8_init (th : Nat) (m : MM) : Option (Unit × MM) :=
  bnd m.S (fun a1 => bnd (m.nw 7 0) (fun m1 => cal (f_X6_init_12_8 a1 m1) (fun r1 m2 => chk (m2.K th = 9) (bnd (m2.sR 904 th 0 (some a1)) (fun m3 => bnd m3.S (fun a2 => bnd (m3.nw 7 0) (fun m4 => cal (f_X6_init_8_5 a2 m4) (fun r2 m5 => chk (m5.K th = 9) (bnd (m5.sR 905 th 0 (some a2)) (fun m6 => bnd m6.S (fun a3 => bnd (m6.nw 7 0) (fun m7 => cal (f_X6_init_6_5 a3 m7) (fun r3 m8 => chk (m8.K th = 9) (bnd (m8.sR 906 th 0 (some a3)) (fun m9 => bnd m9.S (fun a4 => bnd (m9.nw 7 0) (fun m10 => cal (f_X6_init_12_3 a4 m10) (fun r4 m11 => chk (m11.K th = 9) (bnd (m11.sR 907 th 0 (some a4)) (fun m12 => bnd m12.S (fun a5 => bnd (m12.nw 7 0) (fun m13 => cal (f_X6_init_12_3 a5 m13) (fun r5 m14 => chk (m14.K th = 9) (bnd (m14.sR 908 th 0 (some a5)) (fun m15 => bnd m15.S (fun a6 => bnd (m15.nw 7 0) (fun m16 => cal (f_X6_init_3_2 a6 m16) (fun r6 m17 => chk (m17.K th = 9) (bnd (m17.sR 909 th 0 (some a6)) (fun m18 => bnd m18.S (fun a7 => bnd (m18.nw 22 8) (fun m19 => chk (m19.K th = 9) (bnd (m19.sR 910 th 0 (some a7)) (fun m20 => bnd m20.S (fun a8 => bnd (m20.nw 22 6) (fun m21 => chk (m21.K th = 9) (bnd (m21.sR 911 th 0 (some a8)) (fun m22 => some ((), m22)))))))))))))))))))))))))))))))))))))))
set_option maxHeartbeats 4000000 in
set_option maxRecDepth 100000 in
theorem s_X8_init_0 {Γ : GX} {E : EX} (C : Cx Γ E cX8_init RX8 1) (hr : Γ.meth.sig.returnType = none) (hrm : Γ.rm = rmX8_init) (hnm : Γ.meth.name = "<init>") (th : Nat) (m : MM) : Sm (QM Γ E emV 14 282) Γ E 1 0 0 0 [(0, va_rf (some th))] [] m (f_X8_init th m) := by
  unfold f_X8_init
  refine z_aload_n C dX8_init_0 rfl 0 rfl ?_
  refine z_obj C rfl mo_RX8_3 (by rw [hrm]; exact Nat.le_of_ble_eq_true rfl) (by rw [hrm]; exact Nat.le_of_ble_eq_true rfl) (Nat.le_of_ble_eq_true rfl) dX8_init_1 ?_
  refine z_aload_n C dX8_init_4 rfl 0 rfl ?_
  refine z_new2 C co_X6 cl_RX8_9 in_RX6 ii_RX6 (by rw [hrm]; exact Nat.le_of_ble_eq_true rfl) (by rw [hrm]; exact Nat.le_of_ble_eq_true rfl) dX8_init_5 (fun a1 m1 hk1 => ?_)
  refine z_dup C rfl dX8_init_8 ?_
  refine z_bipush (v := 12) C dX8_init_9 (by decide) ?_
  refine z_bipush (v := 8) C dX8_init_11 (by decide) ?_
  refine z_callI [.int 12, .int 8] [va_rf (some a1), va_rf (some th)] C mv_RX8_11 (fun r0 m0 h0 => M_X6_init_12_8 _ _ _ _ _ _ h0) rfl rfl ⟨by rw [hrm]; exact Nat.le_of_ble_eq_true rfl, by rw [hrm]; exact Nat.le_of_ble_eq_true rfl⟩ rfl rfl rfl (Nat.le_of_ble_eq_true rfl) dX8_init_13 ⟨by rw [hrm]; exact Nat.le_of_ble_eq_true rfl, by rw [hrm]; exact Nat.le_of_ble_eq_true rfl⟩ (fun r1 m2 => ?_)
  refine z_chk (fun hk2 => ?_)
  refine z_putR C fl_RX8_14 (fun _ => ⟨hnm, rfl⟩) rfl hk2 nr_of fr_of dX8_init_16 (fun m3 eK1 eN1 => ?_)
  refine z_aload_n C dX8_init_19 rfl 0 rfl ?_
  refine z_new2 C co_X6 cl_RX8_9 in_RX6 ii_RX6 (by rw [hrm]; exact Nat.le_of_ble_eq_true rfl) (by rw [hrm]; exact Nat.le_of_ble_eq_true rfl) dX8_init_20 (fun a2 m4 hk3 => ?_)
  refine z_dup C rfl dX8_init_23 ?_
  refine z_bipush (v := 8) C dX8_init_24 (by decide) ?_
  refine z_iconst (v := 5) C dX8_init_26 (by decide) ?_
  refine z_callI [.int 8, .int 5] [va_rf (some a2), va_rf (some th)] C mv_RX8_11 (fun r0 m0 h0 => M_X6_init_8_5 _ _ _ _ _ _ h0) rfl rfl ⟨by rw [hrm]; exact Nat.le_of_ble_eq_true rfl, by rw [hrm]; exact Nat.le_of_ble_eq_true rfl⟩ rfl rfl rfl (Nat.le_of_ble_eq_true rfl) dX8_init_27 ⟨by rw [hrm]; exact Nat.le_of_ble_eq_true rfl, by rw [hrm]; exact Nat.le_of_ble_eq_true rfl⟩ (fun r2 m5 => ?_)
  refine z_chk (fun hk4 => ?_)
  refine z_putR C fl_RX8_20 (fun _ => ⟨hnm, rfl⟩) rfl hk4 nr_of fr_of dX8_init_30 (fun m6 eK2 eN2 => ?_)
  refine z_aload_n C dX8_init_33 rfl 0 rfl ?_
  refine z_new2 C co_X6 cl_RX8_9 in_RX6 ii_RX6 (by rw [hrm]; exact Nat.le_of_ble_eq_true rfl) (by rw [hrm]; exact Nat.le_of_ble_eq_true rfl) dX8_init_34 (fun a3 m7 hk5 => ?_)
  refine z_dup C rfl dX8_init_37 ?_
  refine z_bipush (v := 6) C dX8_init_38 (by decide) ?_
  refine z_iconst (v := 5) C dX8_init_40 (by decide) ?_
  refine z_callI [.int 6, .int 5] [va_rf (some a3), va_rf (some th)] C mv_RX8_11 (fun r0 m0 h0 => M_X6_init_6_5 _ _ _ _ _ _ h0) rfl rfl ⟨by rw [hrm]; exact Nat.le_of_ble_eq_true rfl, by rw [hrm]; exact Nat.le_of_ble_eq_true rfl⟩ rfl rfl rfl (Nat.le_of_ble_eq_true rfl) dX8_init_41 ⟨by rw [hrm]; exact Nat.le_of_ble_eq_true rfl, by rw [hrm]; exact Nat.le_of_ble_eq_true rfl⟩ (fun r3 m8 => ?_)
  refine z_chk (fun hk6 => ?_)
  refine z_putR C fl_RX8_23 (fun _ => ⟨hnm, rfl⟩) rfl hk6 nr_of fr_of dX8_init_44 (fun m9 eK3 eN3 => ?_)
  refine z_aload_n C dX8_init_47 rfl 0 rfl ?_
  refine z_new2 C co_X6 cl_RX8_9 in_RX6 ii_RX6 (by rw [hrm]; exact Nat.le_of_ble_eq_true rfl) (by rw [hrm]; exact Nat.le_of_ble_eq_true rfl) dX8_init_48 (fun a4 m10 hk7 => ?_)
  refine z_dup C rfl dX8_init_51 ?_
  refine z_bipush (v := 12) C dX8_init_52 (by decide) ?_
  refine z_iconst (v := 3) C dX8_init_54 (by decide) ?_
  refine z_callI [.int 12, .int 3] [va_rf (some a4), va_rf (some th)] C mv_RX8_11 (fun r0 m0 h0 => M_X6_init_12_3 _ _ _ _ _ _ h0) rfl rfl ⟨by rw [hrm]; exact Nat.le_of_ble_eq_true rfl, by rw [hrm]; exact Nat.le_of_ble_eq_true rfl⟩ rfl rfl rfl (Nat.le_of_ble_eq_true rfl) dX8_init_55 ⟨by rw [hrm]; exact Nat.le_of_ble_eq_true rfl, by rw [hrm]; exact Nat.le_of_ble_eq_true rfl⟩ (fun r4 m11 => ?_)
  refine z_chk (fun hk8 => ?_)
  refine z_putR C fl_RX8_26 (fun _ => ⟨hnm, rfl⟩) rfl hk8 nr_of fr_of dX8_init_58 (fun m12 eK4 eN4 => ?_)
  refine z_aload_n C dX8_init_61 rfl 0 rfl ?_
  refine z_new2 C co_X6 cl_RX8_9 in_RX6 ii_RX6 (by rw [hrm]; exact Nat.le_of_ble_eq_true rfl) (by rw [hrm]; exact Nat.le_of_ble_eq_true rfl) dX8_init_62 (fun a5 m13 hk9 => ?_)
  refine z_dup C rfl dX8_init_65 ?_
  refine z_bipush (v := 12) C dX8_init_66 (by decide) ?_
  refine z_iconst (v := 3) C dX8_init_68 (by decide) ?_
  refine z_callI [.int 12, .int 3] [va_rf (some a5), va_rf (some th)] C mv_RX8_11 (fun r0 m0 h0 => M_X6_init_12_3 _ _ _ _ _ _ h0) rfl rfl ⟨by rw [hrm]; exact Nat.le_of_ble_eq_true rfl, by rw [hrm]; exact Nat.le_of_ble_eq_true rfl⟩ rfl rfl rfl (Nat.le_of_ble_eq_true rfl) dX8_init_69 ⟨by rw [hrm]; exact Nat.le_of_ble_eq_true rfl, by rw [hrm]; exact Nat.le_of_ble_eq_true rfl⟩ (fun r5 m14 => ?_)
  refine z_chk (fun hk10 => ?_)
  refine z_putR C fl_RX8_29 (fun _ => ⟨hnm, rfl⟩) rfl hk10 nr_of fr_of dX8_init_72 (fun m15 eK5 eN5 => ?_)
  refine z_aload_n C dX8_init_75 rfl 0 rfl ?_
  refine z_new2 C co_X6 cl_RX8_9 in_RX6 ii_RX6 (by rw [hrm]; exact Nat.le_of_ble_eq_true rfl) (by rw [hrm]; exact Nat.le_of_ble_eq_true rfl) dX8_init_76 (fun a6 m16 hk11 => ?_)
  refine z_dup C rfl dX8_init_79 ?_
  refine z_iconst (v := 3) C dX8_init_80 (by decide) ?_
  refine z_iconst (v := 2) C dX8_init_81 (by decide) ?_
  refine z_callI [.int 3, .int 2] [va_rf (some a6), va_rf (some th)] C mv_RX8_11 (fun r0 m0 h0 => M_X6_init_3_2 _ _ _ _ _ _ h0) rfl rfl ⟨by rw [hrm]; exact Nat.le_of_ble_eq_true rfl, by rw [hrm]; exact Nat.le_of_ble_eq_true rfl⟩ rfl rfl rfl (Nat.le_of_ble_eq_true rfl) dX8_init_82 ⟨by rw [hrm]; exact Nat.le_of_ble_eq_true rfl, by rw [hrm]; exact Nat.le_of_ble_eq_true rfl⟩ (fun r6 m17 => ?_)
  refine z_chk (fun hk12 => ?_)
  refine z_putR C fl_RX8_32 (fun _ => ⟨hnm, rfl⟩) rfl hk12 nr_of fr_of dX8_init_85 (fun m18 eK6 eN6 => ?_)
  refine z_aload_n C dX8_init_88 rfl 0 rfl ?_
  refine z_bipush (v := 8) C dX8_init_89 (by decide) ?_
  refine z_newa2 (at0 := .int) (kd := 22) (N := 8) C ac_int (by decide) (by decide) rfl (by decide) (by decide) (by decide) (by rw [hrm]; exact Nat.le_of_ble_eq_true rfl) (by rw [hrm]; exact Nat.le_of_ble_eq_true rfl) dX8_init_91 (fun a7 m19 hk13 => ?_)
  refine z_chk (fun hk14 => ?_)
  refine z_putR C fl_RX8_35 (fun _ => ⟨hnm, rfl⟩) rfl hk14 na_of fa_of dX8_init_93 (fun m20 eK7 eN7 => ?_)
  refine z_aload_n C dX8_init_96 rfl 0 rfl ?_
  refine z_bipush (v := 6) C dX8_init_97 (by decide) ?_
  refine z_newa2 (at0 := .int) (kd := 22) (N := 6) C ac_int (by decide) (by decide) rfl (by decide) (by decide) (by decide) (by rw [hrm]; exact Nat.le_of_ble_eq_true rfl) (by rw [hrm]; exact Nat.le_of_ble_eq_true rfl) dX8_init_99 (fun a8 m21 hk15 => ?_)
  refine z_chk (fun hk16 => ?_)
  refine z_putR C fl_RX8_39 (fun _ => ⟨hnm, rfl⟩) rfl hk16 na_of fa_of dX8_init_101 (fun m22 eK8 eN8 => ?_)
  refine z_wid (k := 14) (n := 282) (Nat.le_of_ble_eq_true rfl) (Nat.le_of_ble_eq_true rfl) ?_
  exact z_vret C hr dX8_init_104
theorem M_X8_init (l : Launch) (E : EX) (th : Nat) (m : MM) (r : Unit) (m2 : MM) (h : f_X8_init th m = some (r, m2)) : Met l yX8_init (.code yX8_init cX8_init 1 none :: TB) rmX8_init (va_Pc [.ref th] (St E m)) (QR E (emV r) m2) 14 282 (AA E) :=
  met_of (em := emV) (plainFor_of_name rfl) (Nat.le_of_ble_eq_true rfl) (L0 := [(0, va_rf (some th))]) rfl (fun Γ _ hrm C hr hn => s_X8_init_0 C hr hrm hn th m) h

theorem dX8_clear_0 : decode cX8_clear 0 = .ok (.aload_n 0, 1) := by decide +kernel
theorem dX8_clear_1 : decode cX8_clear 1 = .ok (.iconst 0, 1) := by decide +kernel
theorem dX8_clear_2 : decode cX8_clear 2 = .ok (.putfield 42, 3) := by decide +kernel
theorem dX8_clear_5 : decode cX8_clear 5 = .ok (.aload_n 0, 1) := by decide +kernel
theorem dX8_clear_6 : decode cX8_clear 6 = .ok (.iconst 0, 1) := by decide +kernel
theorem dX8_clear_7 : decode cX8_clear 7 = .ok (.putfield 46, 3) := by decide +kernel
theorem dX8_clear_10 : decode cX8_clear 10 = .ok (.aload_n 0, 1) := by decide +kernel
theorem dX8_clear_11 : decode cX8_clear 11 = .ok (.iconst 0, 1) := by decide +kernel
theorem dX8_clear_12 : decode cX8_clear 12 = .ok (.putfield 49, 3) := by decide +kernel
theorem dX8_clear_15 : decode cX8_clear 15 = .ok (.aload_n 0, 1) := by decide +kernel
theorem dX8_clear_16 : decode cX8_clear 16 = .ok (.iconst 0, 1) := by decide +kernel
theorem dX8_clear_17 : decode cX8_clear 17 = .ok (.putfield 52, 3) := by decide +kernel
theorem dX8_clear_20 : decode cX8_clear 20 = .ok (.aload_n 0, 1) := by decide +kernel
theorem dX8_clear_21 : decode cX8_clear 21 = .ok (.getfield 14, 3) := by decide +kernel
theorem dX8_clear_24 : decode cX8_clear 24 = .ok (.iconst 0, 1) := by decide +kernel
theorem dX8_clear_25 : decode cX8_clear 25 = .ok (.putfield 55, 3) := by decide +kernel
theorem dX8_clear_28 : decode cX8_clear 28 = .ok (.aload_n 0, 1) := by decide +kernel
theorem dX8_clear_29 : decode cX8_clear 29 = .ok (.getfield 20, 3) := by decide +kernel
theorem dX8_clear_32 : decode cX8_clear 32 = .ok (.iconst 0, 1) := by decide +kernel
theorem dX8_clear_33 : decode cX8_clear 33 = .ok (.putfield 55, 3) := by decide +kernel
theorem dX8_clear_36 : decode cX8_clear 36 = .ok (.aload_n 0, 1) := by decide +kernel
theorem dX8_clear_37 : decode cX8_clear 37 = .ok (.getfield 23, 3) := by decide +kernel
theorem dX8_clear_40 : decode cX8_clear 40 = .ok (.iconst 0, 1) := by decide +kernel
theorem dX8_clear_41 : decode cX8_clear 41 = .ok (.putfield 55, 3) := by decide +kernel
theorem dX8_clear_44 : decode cX8_clear 44 = .ok (.aload_n 0, 1) := by decide +kernel
theorem dX8_clear_45 : decode cX8_clear 45 = .ok (.getfield 26, 3) := by decide +kernel
theorem dX8_clear_48 : decode cX8_clear 48 = .ok (.iconst 0, 1) := by decide +kernel
theorem dX8_clear_49 : decode cX8_clear 49 = .ok (.putfield 55, 3) := by decide +kernel
theorem dX8_clear_52 : decode cX8_clear 52 = .ok (.aload_n 0, 1) := by decide +kernel
theorem dX8_clear_53 : decode cX8_clear 53 = .ok (.getfield 29, 3) := by decide +kernel
theorem dX8_clear_56 : decode cX8_clear 56 = .ok (.iconst 0, 1) := by decide +kernel
theorem dX8_clear_57 : decode cX8_clear 57 = .ok (.putfield 55, 3) := by decide +kernel
theorem dX8_clear_60 : decode cX8_clear 60 = .ok (.aload_n 0, 1) := by decide +kernel
theorem dX8_clear_61 : decode cX8_clear 61 = .ok (.getfield 32, 3) := by decide +kernel
theorem dX8_clear_64 : decode cX8_clear 64 = .ok (.iconst 0, 1) := by decide +kernel
theorem dX8_clear_65 : decode cX8_clear 65 = .ok (.putfield 55, 3) := by decide +kernel
theorem dX8_clear_68 : decode cX8_clear 68 = .ok (.iconst 0, 1) := by decide +kernel
theorem dX8_clear_69 : decode cX8_clear 69 = .ok (.istore_n 1, 1) := by decide +kernel
theorem dX8_clear_70 : decode cX8_clear 70 = .ok (.iload_n 1, 1) := by decide +kernel
theorem dX8_clear_71 : decode cX8_clear 71 = .ok (.aload_n 0, 1) := by decide +kernel
theorem dX8_clear_72 : decode cX8_clear 72 = .ok (.getfield 35, 3) := by decide +kernel
theorem dX8_clear_75 : decode cX8_clear 75 = .ok (.arraylength, 1) := by decide +kernel
theorem dX8_clear_76 : decode cX8_clear 76 = .ok (.if_icmp .ge 16, 3) := by decide +kernel
theorem dX8_clear_79 : decode cX8_clear 79 = .ok (.aload_n 0, 1) := by decide +kernel
theorem dX8_clear_80 : decode cX8_clear 80 = .ok (.getfield 35, 3) := by decide +kernel
theorem dX8_clear_83 : decode cX8_clear 83 = .ok (.iload_n 1, 1) := by decide +kernel
theorem dX8_clear_84 : decode cX8_clear 84 = .ok (.iconst (-1), 1) := by decide +kernel
theorem dX8_clear_85 : decode cX8_clear 85 = .ok (.iastore, 1) := by decide +kernel
theorem dX8_clear_86 : decode cX8_clear 86 = .ok (.iinc 1 1, 3) := by decide +kernel
theorem dX8_clear_89 : decode cX8_clear 89 = .ok (.goto (-19), 3) := by decide +kernel
theorem dX8_clear_92 : decode cX8_clear 92 = .ok (.iconst 0, 1) := by decide +kernel
theorem dX8_clear_93 : decode cX8_clear 93 = .ok (.istore_n 1, 1) := by decide +kernel
theorem dX8_clear_94 : decode cX8_clear 94 = .ok (.iload_n 1, 1) := by decide +kernel
theorem dX8_clear_95 : decode cX8_clear 95 = .ok (.aload_n 0, 1) := by decide +kernel
theorem dX8_clear_96 : decode cX8_clear 96 = .ok (.getfield 39, 3) := by decide +kernel
theorem dX8_clear_99 : decode cX8_clear 99 = .ok (.arraylength, 1) := by decide +kernel
theorem dX8_clear_100 : decode cX8_clear 100 = .ok (.if_icmp .ge 16, 3) := by decide +kernel
theorem dX8_clear_103 : decode cX8_clear 103 = .ok (.aload_n 0, 1) := by decide +kernel
theorem dX8_clear_104 : decode cX8_clear 104 = .ok (.getfield 39, 3) := by decide +kernel
theorem dX8_clear_107 : decode cX8_clear 107 = .ok (.iload_n 1, 1) := by decide +kernel
theorem dX8_clear_108 : decode cX8_clear 108 = .ok (.iconst (-1), 1) := by decide +kernel
theorem dX8_clear_109 : decode cX8_clear 109 = .ok (.iastore, 1) := by decide +kernel
theorem dX8_clear_110 : decode cX8_clear 110 = .ok (.iinc 1 1, 3) := by decide +kernel
theorem dX8_clear_113 : decode cX8_clear 113 = .ok (.goto (-19), 3) := by decide +kernel
theorem dX8_clear_116 : decode cX8_clear 116 = .ok (.return_, 1) := by decide +kernel
def rmX8_clear : Room := { frames := 0, cells := 0, slots := 0, locals := 0 }
set_option maxRecDepth 100000 in
def g_X8_clear_70 (th : Nat) (k70 : Int32 → MM → Option (Unit × MM)) (k92 : MM → Option (Unit × MM)) (x1 : Int32) (m : MM) : Option (Unit × MM) :=
  chk (m.K th = 9) (ck m (m.R 910 th 0) 22 (fun a1 => if (Int32.ofNat (m.N a1)) ≤ x1 then (k92 m) else (chk (inb x1 (m.N a1) = true) (bnd (m.sI 22 a1 (Int32.toNatClampNeg x1) (-1)) (fun m1 => k70 (x1 + 1) m1)))))
set_option maxHeartbeats 4000000 in
set_option maxRecDepth 100000 in
theorem s_X8_clear_70 {Γ : GX} {E : EX} (C : Cx Γ E cX8_clear RX8 2) (hr : Γ.meth.sig.returnType = none) (hrm : Γ.rm = rmX8_clear) (th : Nat) (k70 : Int32 → MM → Option (Unit × MM)) (k92 : MM → Option (Unit × MM)) (h70 : ∀ (x1 : Int32) (m : MM), Sm (QM Γ E emV 0 0) Γ E 2 0 0 70 [(0, va_rf (some th)), (1, .int x1)] [] m (k70 x1 m)) (h92 : ∀ (m : MM), Sm (QM Γ E emV 0 0) Γ E 2 0 0 92 [(0, va_rf (some th))] [] m (k92 m)) (x1 : Int32) (m : MM) : Sm (QM Γ E emV 0 0) Γ E 2 0 0 70 [(0, va_rf (some th)), (1, .int x1)] [] m (g_X8_clear_70 th k70 k92 x1 m) := by
  unfold g_X8_clear_70
  refine z_iload_n C dX8_clear_70 rfl 1 rfl ?_
  refine z_aload_n C dX8_clear_71 rfl 0 rfl ?_
  refine z_chk (fun hk1 => ?_)
  refine z_getR C fl_RX8_35 rfl hk1 dX8_clear_72 ?_
  refine z_ck (fun a1 hr1 hk2 => ?_)
  refine z_alen C hr1 hk2 (by decide) (by decide) dX8_clear_75 ?_
  refine z_icmp_ge (tgt := 92) C dX8_clear_76 (by decide) (fun c1 => ?_) (fun c1 => ?_)
  · exact z_sub [0] rfl (h92 m)
  · refine z_aload_n C dX8_clear_79 rfl 0 rfl ?_
    refine z_getR C fl_RX8_35 rfl hk1 dX8_clear_80 ?_
    refine z_iload_n C dX8_clear_83 rfl 1 rfl ?_
    refine z_iconst (v := (-1)) C dX8_clear_84 (by decide) ?_
    refine z_chk (fun hj1 => ?_)
    refine z_iast C hr1 hk2 hj1 dX8_clear_85 (fun m1 eK1 eN1 => ?_)
    refine z_iinc (v := 1) (L2 := [(1, .int (x1 + 1)), (0, va_rf (some th))]) C dX8_clear_86 1 rfl (by decide) (by decide) rfl ?_
    refine z_goto (tgt := 70) C dX8_clear_89 (by decide) ?_
    exact z_sub [1, 0] rfl (h70 (x1 + 1) m1)
def l_X8_clear_70 (th : Nat) (k92 : MM → Option (Unit × MM)) : Nat → Int32 → MM → Option (Unit × MM) := lp (fun _ _ => none) (fun k70 => g_X8_clear_70 th k70 k92)
theorem t_X8_clear_70 {Γ : GX} {E : EX} (C : Cx Γ E cX8_clear RX8 2) (hr : Γ.meth.sig.returnType = none) (hrm : Γ.rm = rmX8_clear) (th : Nat) (k92 : MM → Option (Unit × MM)) (h92 : ∀ (m : MM), Sm (QM Γ E emV 0 0) Γ E 2 0 0 92 [(0, va_rf (some th))] [] m (k92 m)) : ∀ (n : Nat) (x1 : Int32) (m : MM), Sm (QM Γ E emV 0 0) Γ E 2 0 0 70 [(0, va_rf (some th)), (1, .int x1)] [] m (l_X8_clear_70 th k92 n x1 m) := by
  intro n
  induction n with
  | zero => intros; exact z_none
  | succ n ih => intro x1 m; exact s_X8_clear_70 C hr hrm th (l_X8_clear_70 th k92 n) k92 ih h92 x1 m
set_option maxRecDepth 100000 in
def g_X8_clear_94 (th : Nat) (k94 : Int32 → MM → Option (Unit × MM)) (x1 : Int32) (m : MM) : Option (Unit × MM) :=
  chk (m.K th = 9) (ck m (m.R 911 th 0) 22 (fun a2 => if (Int32.ofNat (m.N a2)) ≤ x1 then (some ((), m)) else (chk (inb x1 (m.N a2) = true) (bnd (m.sI 22 a2 (Int32.toNatClampNeg x1) (-1)) (fun m2 => k94 (x1 + 1) m2)))))
set_option maxHeartbeats 4000000 in
set_option maxRecDepth 100000 in
theorem s_X8_clear_94 {Γ : GX} {E : EX} (C : Cx Γ E cX8_clear RX8 2) (hr : Γ.meth.sig.returnType = none) (hrm : Γ.rm = rmX8_clear) (th : Nat) (k94 : Int32 → MM → Option (Unit × MM)) (h94 : ∀ (x1 : Int32) (m : MM), Sm (QM Γ E emV 0 0) Γ E 2 0 0 94 [(0, va_rf (some th)), (1, .int x1)] [] m (k94 x1 m)) (x1 : Int32) (m : MM) : Sm (QM Γ E emV 0 0) Γ E 2 0 0 94 [(0, va_rf (some th)), (1, .int x1)] [] m (g_X8_clear_94 th k94 x1 m) := by
  unfold g_X8_clear_94
  refine z_iload_n C dX8_clear_94 rfl 1 rfl ?_
  refine z_aload_n C dX8_clear_95 rfl 0 rfl ?_
  refine z_chk (fun hk3 => ?_)
  refine z_getR C fl_RX8_39 rfl hk3 dX8_clear_96 ?_
  refine z_ck (fun a2 hr2 hk4 => ?_)
  refine z_alen C hr2 hk4 (by decide) (by decide) dX8_clear_99 ?_
  refine z_icmp_ge (tgt := 116) C dX8_clear_100 (by decide) (fun c2 => ?_) (fun c2 => ?_)
  · exact z_vret C hr dX8_clear_116
  · refine z_aload_n C dX8_clear_103 rfl 0 rfl ?_
    refine z_getR C fl_RX8_39 rfl hk3 dX8_clear_104 ?_
    refine z_iload_n C dX8_clear_107 rfl 1 rfl ?_
    refine z_iconst (v := (-1)) C dX8_clear_108 (by decide) ?_
    refine z_chk (fun hj2 => ?_)
    refine z_iast C hr2 hk4 hj2 dX8_clear_109 (fun m2 eK2 eN2 => ?_)
    refine z_iinc (v := 1) (L2 := [(1, .int (x1 + 1)), (0, va_rf (some th))]) C dX8_clear_110 1 rfl (by decide) (by decide) rfl ?_
    refine z_goto (tgt := 94) C dX8_clear_113 (by decide) ?_
    exact z_sub [1, 0] rfl (h94 (x1 + 1) m2)
def l_X8_clear_94 (th : Nat) : Nat → Int32 → MM → Option (Unit × MM) := lp (fun _ _ => none) (fun k94 => g_X8_clear_94 th k94)
theorem t_X8_clear_94 {Γ : GX} {E : EX} (C : Cx Γ E cX8_clear RX8 2) (hr : Γ.meth.sig.returnType = none) (hrm : Γ.rm = rmX8_clear) (th : Nat) : ∀ (n : Nat) (x1 : Int32) (m : MM), Sm (QM Γ E emV 0 0) Γ E 2 0 0 94 [(0, va_rf (some th)), (1, .int x1)] [] m (l_X8_clear_94 th n x1 m) := by
  intro n
  induction n with
  | zero => intros; exact z_none
  | succ n ih => intro x1 m; exact s_X8_clear_94 C hr hrm th (l_X8_clear_94 th n) ih x1 m
set_option maxRecDepth 100000 in
def g_X8_clear_92 (th : Nat) (m : MM) : Option (Unit × MM) :=
  l_X8_clear_94 th FU 0 m
set_option maxHeartbeats 4000000 in
set_option maxRecDepth 100000 in
theorem s_X8_clear_92 {Γ : GX} {E : EX} (C : Cx Γ E cX8_clear RX8 2) (hr : Γ.meth.sig.returnType = none) (hrm : Γ.rm = rmX8_clear) (th : Nat) (m : MM) : Sm (QM Γ E emV 0 0) Γ E 2 0 0 92 [(0, va_rf (some th))] [] m (g_X8_clear_92 th m) := by
  unfold g_X8_clear_92
  refine z_iconst (v := 0) C dX8_clear_92 (by decide) ?_
  refine z_istore_n (i := 1) (L2 := [(1, .int 0), (0, va_rf (some th))]) C dX8_clear_93 rfl (by decide) rfl ?_
  exact z_sub [1, 0] rfl (t_X8_clear_94 C hr hrm th FU 0 m)
set_option maxRecDepth 100000 in
def g_X8_clear_0 (th : Nat) (m : MM) : Option (Unit × MM) :=
  chk (m.K th = 9) (bnd (m.sI 900 th 0 0) (fun m3 => bnd (m3.sI 901 th 0 0) (fun m4 => bnd (m4.sI 902 th 0 0) (fun m5 => bnd (m5.sI 903 th 0 0) (fun m6 => ck m6 (m6.R 904 th 0) 7 (fun a3 => bnd (m6.sI 703 a3 0 0) (fun m7 => ck m7 (m7.R 905 th 0) 7 (fun a4 => bnd (m7.sI 703 a4 0 0) (fun m8 => ck m8 (m8.R 906 th 0) 7 (fun a5 => bnd (m8.sI 703 a5 0 0) (fun m9 => ck m9 (m9.R 907 th 0) 7 (fun a6 => bnd (m9.sI 703 a6 0 0) (fun m10 => ck m10 (m10.R 908 th 0) 7 (fun a7 => bnd (m10.sI 703 a7 0 0) (fun m11 => ck m11 (m11.R 909 th 0) 7 (fun a8 => bnd (m11.sI 703 a8 0 0) (fun m12 => l_X8_clear_70 th (g_X8_clear_92 th) FU 0 m12)))))))))))))))))
set_option maxHeartbeats 4000000 in
set_option maxRecDepth 100000 in
theorem s_X8_clear_0 {Γ : GX} {E : EX} (C : Cx Γ E cX8_clear RX8 2) (hr : Γ.meth.sig.returnType = none) (hrm : Γ.rm = rmX8_clear) (th : Nat) (m : MM) : Sm (QM Γ E emV 0 0) Γ E 2 0 0 0 [(0, va_rf (some th))] [] m (g_X8_clear_0 th m) := by
  unfold g_X8_clear_0
  refine z_aload_n C dX8_clear_0 rfl 0 rfl ?_
  refine z_iconst (v := 0) C dX8_clear_1 (by decide) ?_
  refine z_chk (fun hk5 => ?_)
  refine z_putI C fl_RX8_42 (fun h => by cases h) rfl hk5 rfl rfl dX8_clear_2 (fun m3 eK3 eN3 => ?_)
  refine z_aload_n C dX8_clear_5 rfl 0 rfl ?_
  refine z_iconst (v := 0) C dX8_clear_6 (by decide) ?_
  refine z_putI C fl_RX8_46 (fun h => by cases h) rfl (kfw eK3 hk5) rfl rfl dX8_clear_7 (fun m4 eK4 eN4 => ?_)
  refine z_aload_n C dX8_clear_10 rfl 0 rfl ?_
  refine z_iconst (v := 0) C dX8_clear_11 (by decide) ?_
  refine z_putI C fl_RX8_49 (fun h => by cases h) rfl (kfw eK4 (kfw eK3 hk5)) rfl rfl dX8_clear_12 (fun m5 eK5 eN5 => ?_)
  refine z_aload_n C dX8_clear_15 rfl 0 rfl ?_
  refine z_iconst (v := 0) C dX8_clear_16 (by decide) ?_
  refine z_putI C fl_RX8_52 (fun h => by cases h) rfl (kfw eK5 (kfw eK4 (kfw eK3 hk5))) rfl rfl dX8_clear_17 (fun m6 eK6 eN6 => ?_)
  refine z_aload_n C dX8_clear_20 rfl 0 rfl ?_
  refine z_getR C fl_RX8_14 rfl (kfw eK6 (kfw eK5 (kfw eK4 (kfw eK3 hk5)))) dX8_clear_21 ?_
  refine z_iconst (v := 0) C dX8_clear_24 (by decide) ?_
  refine z_ck (fun a3 hr3 hk6 => ?_)
  refine z_putI C fl_RX8_55 (fun h => by cases h) hr3 hk6 rfl rfl dX8_clear_25 (fun m7 eK7 eN7 => ?_)
  refine z_aload_n C dX8_clear_28 rfl 0 rfl ?_
  refine z_getR C fl_RX8_20 rfl (kfw eK7 (kfw eK6 (kfw eK5 (kfw eK4 (kfw eK3 hk5))))) dX8_clear_29 ?_
  refine z_iconst (v := 0) C dX8_clear_32 (by decide) ?_
  refine z_ck (fun a4 hr4 hk7 => ?_)
  refine z_putI C fl_RX8_55 (fun h => by cases h) hr4 hk7 rfl rfl dX8_clear_33 (fun m8 eK8 eN8 => ?_)
  refine z_aload_n C dX8_clear_36 rfl 0 rfl ?_
  refine z_getR C fl_RX8_23 rfl (kfw eK8 (kfw eK7 (kfw eK6 (kfw eK5 (kfw eK4 (kfw eK3 hk5)))))) dX8_clear_37 ?_
  refine z_iconst (v := 0) C dX8_clear_40 (by decide) ?_
  refine z_ck (fun a5 hr5 hk8 => ?_)
  refine z_putI C fl_RX8_55 (fun h => by cases h) hr5 hk8 rfl rfl dX8_clear_41 (fun m9 eK9 eN9 => ?_)
  refine z_aload_n C dX8_clear_44 rfl 0 rfl ?_
  refine z_getR C fl_RX8_26 rfl (kfw eK9 (kfw eK8 (kfw eK7 (kfw eK6 (kfw eK5 (kfw eK4 (kfw eK3 hk5))))))) dX8_clear_45 ?_
  refine z_iconst (v := 0) C dX8_clear_48 (by decide) ?_
  refine z_ck (fun a6 hr6 hk9 => ?_)
  refine z_putI C fl_RX8_55 (fun h => by cases h) hr6 hk9 rfl rfl dX8_clear_49 (fun m10 eK10 eN10 => ?_)
  refine z_aload_n C dX8_clear_52 rfl 0 rfl ?_
  refine z_getR C fl_RX8_29 rfl (kfw eK10 (kfw eK9 (kfw eK8 (kfw eK7 (kfw eK6 (kfw eK5 (kfw eK4 (kfw eK3 hk5)))))))) dX8_clear_53 ?_
  refine z_iconst (v := 0) C dX8_clear_56 (by decide) ?_
  refine z_ck (fun a7 hr7 hk10 => ?_)
  refine z_putI C fl_RX8_55 (fun h => by cases h) hr7 hk10 rfl rfl dX8_clear_57 (fun m11 eK11 eN11 => ?_)
  refine z_aload_n C dX8_clear_60 rfl 0 rfl ?_
  refine z_getR C fl_RX8_32 rfl (kfw eK11 (kfw eK10 (kfw eK9 (kfw eK8 (kfw eK7 (kfw eK6 (kfw eK5 (kfw eK4 (kfw eK3 hk5))))))))) dX8_clear_61 ?_
  refine z_iconst (v := 0) C dX8_clear_64 (by decide) ?_
  refine z_ck (fun a8 hr8 hk11 => ?_)
  refine z_putI C fl_RX8_55 (fun h => by cases h) hr8 hk11 rfl rfl dX8_clear_65 (fun m12 eK12 eN12 => ?_)
  refine z_iconst (v := 0) C dX8_clear_68 (by decide) ?_
  refine z_istore_n (i := 1) (L2 := [(1, .int 0), (0, va_rf (some th))]) C dX8_clear_69 rfl (by decide) rfl ?_
  exact z_sub [1, 0] rfl (t_X8_clear_70 C hr hrm th (g_X8_clear_92 th) (s_X8_clear_92 C hr hrm th) FU 0 m12)
def f_X8_clear (th : Nat) (m : MM) : Option (Unit × MM) := g_X8_clear_0 th m
theorem M_X8_clear (l : Launch) (E : EX) (th : Nat) (m : MM) (r : Unit) (m2 : MM) (h : f_X8_clear th m = some (r, m2)) : Met l yX8_clear (.code yX8_clear cX8_clear 2 none :: TB) rmX8_clear (va_Pc [.ref th] (St E m)) (QR E (emV r) m2) 0 0 (AA E) :=
  met_of (em := emV) (plainFor_of_name rfl) (Nat.le_of_ble_eq_true rfl) (L0 := [(0, va_rf (some th))]) rfl (fun Γ _ hrm C hr hn => s_X8_clear_0 C hr hrm th m) h

theorem dX8_thingAt_0 : decode cX8_thingAt 0 = .ok (.iconst 0, 1) := by decide +kernel
theorem dX8_thingAt_1 : decode cX8_thingAt 1 = .ok (.istore_n 3, 1) := by decide +kernel
theorem dX8_thingAt_2 : decode cX8_thingAt 2 = .ok (.iload_n 3, 1) := by decide +kernel
theorem dX8_thingAt_3 : decode cX8_thingAt 3 = .ok (.aload_n 0, 1) := by decide +kernel
theorem dX8_thingAt_4 : decode cX8_thingAt 4 = .ok (.getfield 14, 3) := by decide +kernel
theorem dX8_thingAt_7 : decode cX8_thingAt 7 = .ok (.getfield 55, 3) := by decide +kernel
theorem dX8_thingAt_10 : decode cX8_thingAt 10 = .ok (.if_icmp .ge 37, 3) := by decide +kernel
theorem dX8_thingAt_13 : decode cX8_thingAt 13 = .ok (.aload_n 0, 1) := by decide +kernel
theorem dX8_thingAt_14 : decode cX8_thingAt 14 = .ok (.getfield 14, 3) := by decide +kernel
theorem dX8_thingAt_17 : decode cX8_thingAt 17 = .ok (.iload_n 3, 1) := by decide +kernel
theorem dX8_thingAt_18 : decode cX8_thingAt 18 = .ok (.iconst 1, 1) := by decide +kernel
theorem dX8_thingAt_19 : decode cX8_thingAt 19 = .ok (.invokevirtual 66, 3) := by decide +kernel
theorem dX8_thingAt_22 : decode cX8_thingAt 22 = .ok (.iload_n 1, 1) := by decide +kernel
theorem dX8_thingAt_23 : decode cX8_thingAt 23 = .ok (.if_icmp .ne 18, 3) := by decide +kernel
theorem dX8_thingAt_26 : decode cX8_thingAt 26 = .ok (.aload_n 0, 1) := by decide +kernel
theorem dX8_thingAt_27 : decode cX8_thingAt 27 = .ok (.getfield 14, 3) := by decide +kernel
theorem dX8_thingAt_30 : decode cX8_thingAt 30 = .ok (.iload_n 3, 1) := by decide +kernel
theorem dX8_thingAt_31 : decode cX8_thingAt 31 = .ok (.iconst 2, 1) := by decide +kernel
theorem dX8_thingAt_32 : decode cX8_thingAt 32 = .ok (.invokevirtual 66, 3) := by decide +kernel
theorem dX8_thingAt_35 : decode cX8_thingAt 35 = .ok (.iload_n 2, 1) := by decide +kernel
theorem dX8_thingAt_36 : decode cX8_thingAt 36 = .ok (.if_icmp .ne 5, 3) := by decide +kernel
theorem dX8_thingAt_39 : decode cX8_thingAt 39 = .ok (.iload_n 3, 1) := by decide +kernel
theorem dX8_thingAt_40 : decode cX8_thingAt 40 = .ok (.ireturn, 1) := by decide +kernel
theorem dX8_thingAt_41 : decode cX8_thingAt 41 = .ok (.iinc 3 1, 3) := by decide +kernel
theorem dX8_thingAt_44 : decode cX8_thingAt 44 = .ok (.goto (-42), 3) := by decide +kernel
theorem dX8_thingAt_47 : decode cX8_thingAt 47 = .ok (.iconst (-1), 1) := by decide +kernel
theorem dX8_thingAt_48 : decode cX8_thingAt 48 = .ok (.ireturn, 1) := by decide +kernel
def rmX8_thingAt : Room := { frames := 1, cells := 0, slots := 0, locals := 23 }
set_option maxRecDepth 100000 in
def g_X8_thingAt_41 (th : Nat) (p1 : Int32) (p2 : Int32) (k2 : Int32 → MM → Option (Int32 × MM)) (x3 : Int32) (m : MM) : Option (Int32 × MM) :=
  k2 (x3 + 1) m
set_option maxHeartbeats 4000000 in
set_option maxRecDepth 100000 in
theorem s_X8_thingAt_41 {Γ : GX} {E : EX} (C : Cx Γ E cX8_thingAt RX8 4) (hr : Γ.meth.sig.returnType = (some .int)) (hrm : Γ.rm = rmX8_thingAt) (th : Nat) (p1 : Int32) (p2 : Int32) (k2 : Int32 → MM → Option (Int32 × MM)) (h2 : ∀ (x3 : Int32) (m : MM), Sm (QM Γ E emI 0 0) Γ E 4 0 0 2 [(0, va_rf (some th)), (1, .int p1), (2, .int p2), (3, .int x3)] [] m (k2 x3 m)) (x3 : Int32) (m : MM) : Sm (QM Γ E emI 0 0) Γ E 4 0 0 41 [(0, va_rf (some th)), (1, .int p1), (2, .int p2), (3, .int x3)] [] m (g_X8_thingAt_41 th p1 p2 k2 x3 m) := by
  unfold g_X8_thingAt_41
  refine z_iinc (v := 1) (L2 := [(3, .int (x3 + 1)), (0, va_rf (some th)), (1, .int p1), (2, .int p2)]) C dX8_thingAt_41 3 rfl (by decide) (by decide) rfl ?_
  refine z_goto (tgt := 2) C dX8_thingAt_44 (by decide) ?_
  exact z_sub [1, 2, 3, 0] rfl (h2 (x3 + 1) m)
set_option maxRecDepth 100000 in
def g_X8_thingAt_2 (th : Nat) (p1 : Int32) (p2 : Int32) (k2 : Int32 → MM → Option (Int32 × MM)) (x3 : Int32) (m : MM) : Option (Int32 × MM) :=
  chk (m.K th = 9) (ck m (m.R 904 th 0) 7 (fun a1 => if (m.I 703 a1 0) ≤ x3 then (some ((-1), m)) else (cal (f_X6_cell a1 x3 1 m) (fun r1 m1 => if r1 = p1 then (chk (m1.K th = 9) (ck m1 (m1.R 904 th 0) 7 (fun a2 => cal (f_X6_cell a2 x3 2 m1) (fun r2 m2 => if r2 = p2 then (some (x3, m2)) else (g_X8_thingAt_41 th p1 p2 k2 x3 m2))))) else (g_X8_thingAt_41 th p1 p2 k2 x3 m1)))))
set_option maxHeartbeats 4000000 in
set_option maxRecDepth 100000 in
theorem s_X8_thingAt_2 {Γ : GX} {E : EX} (C : Cx Γ E cX8_thingAt RX8 4) (hr : Γ.meth.sig.returnType = (some .int)) (hrm : Γ.rm = rmX8_thingAt) (th : Nat) (p1 : Int32) (p2 : Int32) (k2 : Int32 → MM → Option (Int32 × MM)) (h2 : ∀ (x3 : Int32) (m : MM), Sm (QM Γ E emI 0 0) Γ E 4 0 0 2 [(0, va_rf (some th)), (1, .int p1), (2, .int p2), (3, .int x3)] [] m (k2 x3 m)) (x3 : Int32) (m : MM) : Sm (QM Γ E emI 0 0) Γ E 4 0 0 2 [(0, va_rf (some th)), (1, .int p1), (2, .int p2), (3, .int x3)] [] m (g_X8_thingAt_2 th p1 p2 k2 x3 m) := by
  unfold g_X8_thingAt_2
  refine z_iload_n C dX8_thingAt_2 rfl 3 rfl ?_
  refine z_aload_n C dX8_thingAt_3 rfl 0 rfl ?_
  refine z_chk (fun hk1 => ?_)
  refine z_getR C fl_RX8_14 rfl hk1 dX8_thingAt_4 ?_
  refine z_ck (fun a1 hr1 hk2 => ?_)
  refine z_getI C fl_RX8_55 hr1 hk2 dX8_thingAt_7 ?_
  refine z_icmp_ge (tgt := 47) C dX8_thingAt_10 (by decide) (fun c1 => ?_) (fun c1 => ?_)
  · refine z_iconst (v := (-1)) C dX8_thingAt_47 (by decide) ?_
    exact z_iret C hr dX8_thingAt_48
  · refine z_aload_n C dX8_thingAt_13 rfl 0 rfl ?_
    refine z_getR C fl_RX8_14 rfl hk1 dX8_thingAt_14 ?_
    refine z_iload_n C dX8_thingAt_17 rfl 3 rfl ?_
    refine z_iconst (v := 1) C dX8_thingAt_18 (by decide) ?_
    refine z_cVI [.int x3, .int 1] [] C mv_RX8_66 (fun r0 m0 h0 => M_X6_cell _ _ _ _ _ _ _ _ h0) rfl rfl ⟨by rw [hrm]; exact Nat.le_of_ble_eq_true rfl, by rw [hrm]; exact Nat.le_of_ble_eq_true rfl⟩ ⟨by rw [hrm]; exact Nat.le_of_ble_eq_true rfl, by rw [hrm]; exact Nat.le_of_ble_eq_true rfl⟩ hr1 hk2 rfl rfl rfl (Nat.le_of_ble_eq_true rfl) dX8_thingAt_19 (fun r1 m1 => ?_)
    refine z_iload_n C dX8_thingAt_22 rfl 1 rfl ?_
    refine z_icmp_ne (tgt := 41) C dX8_thingAt_23 (by decide) (fun c2 => ?_) (fun c2 => ?_)
    · exact z_sub [0, 1, 2, 3] rfl (s_X8_thingAt_41 C hr hrm th p1 p2 k2 h2 x3 m1)
    · refine z_aload_n C dX8_thingAt_26 rfl 0 rfl ?_
      refine z_chk (fun hk3 => ?_)
      refine z_getR C fl_RX8_14 rfl hk3 dX8_thingAt_27 ?_
      refine z_iload_n C dX8_thingAt_30 rfl 3 rfl ?_
      refine z_iconst (v := 2) C dX8_thingAt_31 (by decide) ?_
      refine z_ck (fun a2 hr2 hk4 => ?_)
      refine z_cVI [.int x3, .int 2] [] C mv_RX8_66 (fun r0 m0 h0 => M_X6_cell _ _ _ _ _ _ _ _ h0) rfl rfl ⟨by rw [hrm]; exact Nat.le_of_ble_eq_true rfl, by rw [hrm]; exact Nat.le_of_ble_eq_true rfl⟩ ⟨by rw [hrm]; exact Nat.le_of_ble_eq_true rfl, by rw [hrm]; exact Nat.le_of_ble_eq_true rfl⟩ hr2 hk4 rfl rfl rfl (Nat.le_of_ble_eq_true rfl) dX8_thingAt_32 (fun r2 m2 => ?_)
      refine z_iload_n C dX8_thingAt_35 rfl 2 rfl ?_
      refine z_icmp_ne (tgt := 41) C dX8_thingAt_36 (by decide) (fun c3 => ?_) (fun c3 => ?_)
      · exact z_sub [0, 1, 2, 3] rfl (s_X8_thingAt_41 C hr hrm th p1 p2 k2 h2 x3 m2)
      · refine z_iload_n C dX8_thingAt_39 rfl 3 rfl ?_
        exact z_iret C hr dX8_thingAt_40
def l_X8_thingAt_2 (th : Nat) (p1 : Int32) (p2 : Int32) : Nat → Int32 → MM → Option (Int32 × MM) := lp (fun _ _ => none) (fun k2 => g_X8_thingAt_2 th p1 p2 k2)
theorem t_X8_thingAt_2 {Γ : GX} {E : EX} (C : Cx Γ E cX8_thingAt RX8 4) (hr : Γ.meth.sig.returnType = (some .int)) (hrm : Γ.rm = rmX8_thingAt) (th : Nat) (p1 : Int32) (p2 : Int32) : ∀ (n : Nat) (x3 : Int32) (m : MM), Sm (QM Γ E emI 0 0) Γ E 4 0 0 2 [(0, va_rf (some th)), (1, .int p1), (2, .int p2), (3, .int x3)] [] m (l_X8_thingAt_2 th p1 p2 n x3 m) := by
  intro n
  induction n with
  | zero => intros; exact z_none
  | succ n ih => intro x3 m; exact s_X8_thingAt_2 C hr hrm th p1 p2 (l_X8_thingAt_2 th p1 p2 n) ih x3 m
set_option maxRecDepth 100000 in
def g_X8_thingAt_0 (th : Nat) (p1 : Int32) (p2 : Int32) (m : MM) : Option (Int32 × MM) :=
  l_X8_thingAt_2 th p1 p2 FU 0 m
set_option maxHeartbeats 4000000 in
set_option maxRecDepth 100000 in
theorem s_X8_thingAt_0 {Γ : GX} {E : EX} (C : Cx Γ E cX8_thingAt RX8 4) (hr : Γ.meth.sig.returnType = (some .int)) (hrm : Γ.rm = rmX8_thingAt) (th : Nat) (p1 : Int32) (p2 : Int32) (m : MM) : Sm (QM Γ E emI 0 0) Γ E 4 0 0 0 [(0, va_rf (some th)), (1, .int p1), (2, .int p2)] [] m (g_X8_thingAt_0 th p1 p2 m) := by
  unfold g_X8_thingAt_0
  refine z_iconst (v := 0) C dX8_thingAt_0 (by decide) ?_
  refine z_istore_n (i := 3) (L2 := [(3, .int 0), (0, va_rf (some th)), (1, .int p1), (2, .int p2)]) C dX8_thingAt_1 rfl (by decide) rfl ?_
  exact z_sub [1, 2, 3, 0] rfl (t_X8_thingAt_2 C hr hrm th p1 p2 FU 0 m)
def f_X8_thingAt (th : Nat) (p1 : Int32) (p2 : Int32) (m : MM) : Option (Int32 × MM) := g_X8_thingAt_0 th p1 p2 m
theorem M_X8_thingAt (l : Launch) (E : EX) (th : Nat) (p1 : Int32) (p2 : Int32) (m : MM) (r : Int32) (m2 : MM) (h : f_X8_thingAt th p1 p2 m = some (r, m2)) : Met l yX8_thingAt (.code yX8_thingAt cX8_thingAt 4 (some .int) :: TB) rmX8_thingAt (va_Pc [.ref th, .int p1, .int p2] (St E m)) (QR E (emI r) m2) 0 0 (AA E) :=
  met_of (em := emI) (plainFor_of_name rfl) (Nat.le_of_ble_eq_true rfl) (L0 := [(0, va_rf (some th)), (1, .int p1), (2, .int p2)]) rfl (fun Γ _ hrm C hr hn => s_X8_thingAt_0 C hr hrm th p1 p2 m) h

theorem dX8_fillThing_0 : decode cX8_fillThing 0 = .ok (.aload_n 0, 1) := by decide +kernel
theorem dX8_fillThing_1 : decode cX8_fillThing 1 = .ok (.getfield 14, 3) := by decide +kernel
theorem dX8_fillThing_4 : decode cX8_fillThing 4 = .ok (.iload_n 1, 1) := by decide +kernel
theorem dX8_fillThing_5 : decode cX8_fillThing 5 = .ok (.iconst 0, 1) := by decide +kernel
theorem dX8_fillThing_6 : decode cX8_fillThing 6 = .ok (.iload_n 2, 1) := by decide +kernel
theorem dX8_fillThing_7 : decode cX8_fillThing 7 = .ok (.invokevirtual 70, 3) := by decide +kernel
theorem dX8_fillThing_10 : decode cX8_fillThing 10 = .ok (.aload_n 0, 1) := by decide +kernel
theorem dX8_fillThing_11 : decode cX8_fillThing 11 = .ok (.getfield 14, 3) := by decide +kernel
theorem dX8_fillThing_14 : decode cX8_fillThing 14 = .ok (.iload_n 1, 1) := by decide +kernel
theorem dX8_fillThing_15 : decode cX8_fillThing 15 = .ok (.iconst 1, 1) := by decide +kernel
theorem dX8_fillThing_16 : decode cX8_fillThing 16 = .ok (.iload_n 3, 1) := by decide +kernel
theorem dX8_fillThing_17 : decode cX8_fillThing 17 = .ok (.invokevirtual 70, 3) := by decide +kernel
theorem dX8_fillThing_20 : decode cX8_fillThing 20 = .ok (.aload_n 0, 1) := by decide +kernel
theorem dX8_fillThing_21 : decode cX8_fillThing 21 = .ok (.getfield 14, 3) := by decide +kernel
theorem dX8_fillThing_24 : decode cX8_fillThing 24 = .ok (.iload_n 1, 1) := by decide +kernel
theorem dX8_fillThing_25 : decode cX8_fillThing 25 = .ok (.iconst 2, 1) := by decide +kernel
theorem dX8_fillThing_26 : decode cX8_fillThing 26 = .ok (.iload 4, 2) := by decide +kernel
theorem dX8_fillThing_28 : decode cX8_fillThing 28 = .ok (.invokevirtual 70, 3) := by decide +kernel
theorem dX8_fillThing_31 : decode cX8_fillThing 31 = .ok (.return_, 1) := by decide +kernel
def rmX8_fillThing : Room := { frames := 1, cells := 0, slots := 0, locals := 24 }
set_option maxRecDepth 100000 in
def g_X8_fillThing_0 (th : Nat) (p1 : Int32) (p2 : Int32) (p3 : Int32) (p4 : Int32) (m : MM) : Option (Unit × MM) :=
  chk (m.K th = 9) (ck m (m.R 904 th 0) 7 (fun a1 => cal (f_X6_put a1 p1 0 p2 m) (fun r1 m1 => chk (m1.K th = 9) (ck m1 (m1.R 904 th 0) 7 (fun a2 => cal (f_X6_put a2 p1 1 p3 m1) (fun r2 m2 => chk (m2.K th = 9) (ck m2 (m2.R 904 th 0) 7 (fun a3 => cal (f_X6_put a3 p1 2 p4 m2) (fun r3 m3 => some ((), m3))))))))))
set_option maxHeartbeats 4000000 in
set_option maxRecDepth 100000 in
theorem s_X8_fillThing_0 {Γ : GX} {E : EX} (C : Cx Γ E cX8_fillThing RX8 5) (hr : Γ.meth.sig.returnType = none) (hrm : Γ.rm = rmX8_fillThing) (th : Nat) (p1 : Int32) (p2 : Int32) (p3 : Int32) (p4 : Int32) (m : MM) : Sm (QM Γ E emV 0 0) Γ E 5 0 0 0 [(0, va_rf (some th)), (1, .int p1), (2, .int p2), (3, .int p3), (4, .int p4)] [] m (g_X8_fillThing_0 th p1 p2 p3 p4 m) := by
  unfold g_X8_fillThing_0
  refine z_aload_n C dX8_fillThing_0 rfl 0 rfl ?_
  refine z_chk (fun hk1 => ?_)
  refine z_getR C fl_RX8_14 rfl hk1 dX8_fillThing_1 ?_
  refine z_iload_n C dX8_fillThing_4 rfl 1 rfl ?_
  refine z_iconst (v := 0) C dX8_fillThing_5 (by decide) ?_
  refine z_iload_n C dX8_fillThing_6 rfl 2 rfl ?_
  refine z_ck (fun a1 hr1 hk2 => ?_)
  refine z_cVV [.int p1, .int 0, .int p2] [] C mv_RX8_70 (fun r0 m0 h0 => M_X6_put _ _ _ _ _ _ _ _ _ h0) rfl rfl ⟨by rw [hrm]; exact Nat.le_of_ble_eq_true rfl, by rw [hrm]; exact Nat.le_of_ble_eq_true rfl⟩ ⟨by rw [hrm]; exact Nat.le_of_ble_eq_true rfl, by rw [hrm]; exact Nat.le_of_ble_eq_true rfl⟩ hr1 hk2 rfl rfl rfl (Nat.le_of_ble_eq_true rfl) dX8_fillThing_7 (fun r1 m1 => ?_)
  refine z_aload_n C dX8_fillThing_10 rfl 0 rfl ?_
  refine z_chk (fun hk3 => ?_)
  refine z_getR C fl_RX8_14 rfl hk3 dX8_fillThing_11 ?_
  refine z_iload_n C dX8_fillThing_14 rfl 1 rfl ?_
  refine z_iconst (v := 1) C dX8_fillThing_15 (by decide) ?_
  refine z_iload_n C dX8_fillThing_16 rfl 3 rfl ?_
  refine z_ck (fun a2 hr2 hk4 => ?_)
  refine z_cVV [.int p1, .int 1, .int p3] [] C mv_RX8_70 (fun r0 m0 h0 => M_X6_put _ _ _ _ _ _ _ _ _ h0) rfl rfl ⟨by rw [hrm]; exact Nat.le_of_ble_eq_true rfl, by rw [hrm]; exact Nat.le_of_ble_eq_true rfl⟩ ⟨by rw [hrm]; exact Nat.le_of_ble_eq_true rfl, by rw [hrm]; exact Nat.le_of_ble_eq_true rfl⟩ hr2 hk4 rfl rfl rfl (Nat.le_of_ble_eq_true rfl) dX8_fillThing_17 (fun r2 m2 => ?_)
  refine z_aload_n C dX8_fillThing_20 rfl 0 rfl ?_
  refine z_chk (fun hk5 => ?_)
  refine z_getR C fl_RX8_14 rfl hk5 dX8_fillThing_21 ?_
  refine z_iload_n C dX8_fillThing_24 rfl 1 rfl ?_
  refine z_iconst (v := 2) C dX8_fillThing_25 (by decide) ?_
  refine z_iload C dX8_fillThing_26 4 rfl ?_
  refine z_ck (fun a3 hr3 hk6 => ?_)
  refine z_cVV [.int p1, .int 2, .int p4] [] C mv_RX8_70 (fun r0 m0 h0 => M_X6_put _ _ _ _ _ _ _ _ _ h0) rfl rfl ⟨by rw [hrm]; exact Nat.le_of_ble_eq_true rfl, by rw [hrm]; exact Nat.le_of_ble_eq_true rfl⟩ ⟨by rw [hrm]; exact Nat.le_of_ble_eq_true rfl, by rw [hrm]; exact Nat.le_of_ble_eq_true rfl⟩ hr3 hk6 rfl rfl rfl (Nat.le_of_ble_eq_true rfl) dX8_fillThing_28 (fun r3 m3 => ?_)
  exact z_vret C hr dX8_fillThing_31
def f_X8_fillThing (th : Nat) (p1 : Int32) (p2 : Int32) (p3 : Int32) (p4 : Int32) (m : MM) : Option (Unit × MM) := g_X8_fillThing_0 th p1 p2 p3 p4 m
theorem M_X8_fillThing (l : Launch) (E : EX) (th : Nat) (p1 : Int32) (p2 : Int32) (p3 : Int32) (p4 : Int32) (m : MM) (r : Unit) (m2 : MM) (h : f_X8_fillThing th p1 p2 p3 p4 m = some (r, m2)) : Met l yX8_fillThing (.code yX8_fillThing cX8_fillThing 5 none :: TB) rmX8_fillThing (va_Pc [.ref th, .int p1, .int p2, .int p3, .int p4] (St E m)) (QR E (emV r) m2) 0 0 (AA E) :=
  met_of (em := emV) (plainFor_of_name rfl) (Nat.le_of_ble_eq_true rfl) (L0 := [(0, va_rf (some th)), (1, .int p1), (2, .int p2), (3, .int p3), (4, .int p4)]) rfl (fun Γ _ hrm C hr hn => s_X8_fillThing_0 C hr hrm th p1 p2 p3 p4 m) h

theorem dX8_fillRest_0 : decode cX8_fillRest 0 = .ok (.aload_n 0, 1) := by decide +kernel
theorem dX8_fillRest_1 : decode cX8_fillRest 1 = .ok (.getfield 14, 3) := by decide +kernel
theorem dX8_fillRest_4 : decode cX8_fillRest 4 = .ok (.iload_n 1, 1) := by decide +kernel
theorem dX8_fillRest_5 : decode cX8_fillRest 5 = .ok (.iconst 3, 1) := by decide +kernel
theorem dX8_fillRest_6 : decode cX8_fillRest 6 = .ok (.iload_n 2, 1) := by decide +kernel
theorem dX8_fillRest_7 : decode cX8_fillRest 7 = .ok (.invokevirtual 70, 3) := by decide +kernel
theorem dX8_fillRest_10 : decode cX8_fillRest 10 = .ok (.aload_n 0, 1) := by decide +kernel
theorem dX8_fillRest_11 : decode cX8_fillRest 11 = .ok (.getfield 14, 3) := by decide +kernel
theorem dX8_fillRest_14 : decode cX8_fillRest 14 = .ok (.iload_n 1, 1) := by decide +kernel
theorem dX8_fillRest_15 : decode cX8_fillRest 15 = .ok (.iconst 4, 1) := by decide +kernel
theorem dX8_fillRest_16 : decode cX8_fillRest 16 = .ok (.iload_n 3, 1) := by decide +kernel
theorem dX8_fillRest_17 : decode cX8_fillRest 17 = .ok (.invokevirtual 70, 3) := by decide +kernel
theorem dX8_fillRest_20 : decode cX8_fillRest 20 = .ok (.aload_n 0, 1) := by decide +kernel
theorem dX8_fillRest_21 : decode cX8_fillRest 21 = .ok (.getfield 14, 3) := by decide +kernel
theorem dX8_fillRest_24 : decode cX8_fillRest 24 = .ok (.iload_n 1, 1) := by decide +kernel
theorem dX8_fillRest_25 : decode cX8_fillRest 25 = .ok (.iconst 5, 1) := by decide +kernel
theorem dX8_fillRest_26 : decode cX8_fillRest 26 = .ok (.iload 4, 2) := by decide +kernel
theorem dX8_fillRest_28 : decode cX8_fillRest 28 = .ok (.invokevirtual 70, 3) := by decide +kernel
theorem dX8_fillRest_31 : decode cX8_fillRest 31 = .ok (.aload_n 0, 1) := by decide +kernel
theorem dX8_fillRest_32 : decode cX8_fillRest 32 = .ok (.getfield 14, 3) := by decide +kernel
theorem dX8_fillRest_35 : decode cX8_fillRest 35 = .ok (.iload_n 1, 1) := by decide +kernel
theorem dX8_fillRest_36 : decode cX8_fillRest 36 = .ok (.bipush 6, 2) := by decide +kernel
theorem dX8_fillRest_38 : decode cX8_fillRest 38 = .ok (.iconst 1, 1) := by decide +kernel
theorem dX8_fillRest_39 : decode cX8_fillRest 39 = .ok (.invokevirtual 70, 3) := by decide +kernel
theorem dX8_fillRest_42 : decode cX8_fillRest 42 = .ok (.aload_n 0, 1) := by decide +kernel
theorem dX8_fillRest_43 : decode cX8_fillRest 43 = .ok (.getfield 14, 3) := by decide +kernel
theorem dX8_fillRest_46 : decode cX8_fillRest 46 = .ok (.iload_n 1, 1) := by decide +kernel
theorem dX8_fillRest_47 : decode cX8_fillRest 47 = .ok (.bipush 7, 2) := by decide +kernel
theorem dX8_fillRest_49 : decode cX8_fillRest 49 = .ok (.iconst (-1), 1) := by decide +kernel
theorem dX8_fillRest_50 : decode cX8_fillRest 50 = .ok (.invokevirtual 70, 3) := by decide +kernel
theorem dX8_fillRest_53 : decode cX8_fillRest 53 = .ok (.return_, 1) := by decide +kernel
def rmX8_fillRest : Room := { frames := 1, cells := 0, slots := 0, locals := 24 }
set_option maxRecDepth 100000 in
def g_X8_fillRest_0 (th : Nat) (p1 : Int32) (p2 : Int32) (p3 : Int32) (p4 : Int32) (m : MM) : Option (Unit × MM) :=
  chk (m.K th = 9) (ck m (m.R 904 th 0) 7 (fun a1 => cal (f_X6_put a1 p1 3 p2 m) (fun r1 m1 => chk (m1.K th = 9) (ck m1 (m1.R 904 th 0) 7 (fun a2 => cal (f_X6_put a2 p1 4 p3 m1) (fun r2 m2 => chk (m2.K th = 9) (ck m2 (m2.R 904 th 0) 7 (fun a3 => cal (f_X6_put a3 p1 5 p4 m2) (fun r3 m3 => chk (m3.K th = 9) (ck m3 (m3.R 904 th 0) 7 (fun a4 => cal (f_X6_put a4 p1 6 1 m3) (fun r4 m4 => chk (m4.K th = 9) (ck m4 (m4.R 904 th 0) 7 (fun a5 => cal (f_X6_put a5 p1 7 (-1) m4) (fun r5 m5 => some ((), m5))))))))))))))))
set_option maxHeartbeats 4000000 in
set_option maxRecDepth 100000 in
theorem s_X8_fillRest_0 {Γ : GX} {E : EX} (C : Cx Γ E cX8_fillRest RX8 5) (hr : Γ.meth.sig.returnType = none) (hrm : Γ.rm = rmX8_fillRest) (th : Nat) (p1 : Int32) (p2 : Int32) (p3 : Int32) (p4 : Int32) (m : MM) : Sm (QM Γ E emV 0 0) Γ E 5 0 0 0 [(0, va_rf (some th)), (1, .int p1), (2, .int p2), (3, .int p3), (4, .int p4)] [] m (g_X8_fillRest_0 th p1 p2 p3 p4 m) := by
  unfold g_X8_fillRest_0
  refine z_aload_n C dX8_fillRest_0 rfl 0 rfl ?_
  refine z_chk (fun hk1 => ?_)
  refine z_getR C fl_RX8_14 rfl hk1 dX8_fillRest_1 ?_
  refine z_iload_n C dX8_fillRest_4 rfl 1 rfl ?_
  refine z_iconst (v := 3) C dX8_fillRest_5 (by decide) ?_
  refine z_iload_n C dX8_fillRest_6 rfl 2 rfl ?_
  refine z_ck (fun a1 hr1 hk2 => ?_)
  refine z_cVV [.int p1, .int 3, .int p2] [] C mv_RX8_70 (fun r0 m0 h0 => M_X6_put _ _ _ _ _ _ _ _ _ h0) rfl rfl ⟨by rw [hrm]; exact Nat.le_of_ble_eq_true rfl, by rw [hrm]; exact Nat.le_of_ble_eq_true rfl⟩ ⟨by rw [hrm]; exact Nat.le_of_ble_eq_true rfl, by rw [hrm]; exact Nat.le_of_ble_eq_true rfl⟩ hr1 hk2 rfl rfl rfl (Nat.le_of_ble_eq_true rfl) dX8_fillRest_7 (fun r1 m1 => ?_)
  refine z_aload_n C dX8_fillRest_10 rfl 0 rfl ?_
  refine z_chk (fun hk3 => ?_)
  refine z_getR C fl_RX8_14 rfl hk3 dX8_fillRest_11 ?_
  refine z_iload_n C dX8_fillRest_14 rfl 1 rfl ?_
  refine z_iconst (v := 4) C dX8_fillRest_15 (by decide) ?_
  refine z_iload_n C dX8_fillRest_16 rfl 3 rfl ?_
  refine z_ck (fun a2 hr2 hk4 => ?_)
  refine z_cVV [.int p1, .int 4, .int p3] [] C mv_RX8_70 (fun r0 m0 h0 => M_X6_put _ _ _ _ _ _ _ _ _ h0) rfl rfl ⟨by rw [hrm]; exact Nat.le_of_ble_eq_true rfl, by rw [hrm]; exact Nat.le_of_ble_eq_true rfl⟩ ⟨by rw [hrm]; exact Nat.le_of_ble_eq_true rfl, by rw [hrm]; exact Nat.le_of_ble_eq_true rfl⟩ hr2 hk4 rfl rfl rfl (Nat.le_of_ble_eq_true rfl) dX8_fillRest_17 (fun r2 m2 => ?_)
  refine z_aload_n C dX8_fillRest_20 rfl 0 rfl ?_
  refine z_chk (fun hk5 => ?_)
  refine z_getR C fl_RX8_14 rfl hk5 dX8_fillRest_21 ?_
  refine z_iload_n C dX8_fillRest_24 rfl 1 rfl ?_
  refine z_iconst (v := 5) C dX8_fillRest_25 (by decide) ?_
  refine z_iload C dX8_fillRest_26 4 rfl ?_
  refine z_ck (fun a3 hr3 hk6 => ?_)
  refine z_cVV [.int p1, .int 5, .int p4] [] C mv_RX8_70 (fun r0 m0 h0 => M_X6_put _ _ _ _ _ _ _ _ _ h0) rfl rfl ⟨by rw [hrm]; exact Nat.le_of_ble_eq_true rfl, by rw [hrm]; exact Nat.le_of_ble_eq_true rfl⟩ ⟨by rw [hrm]; exact Nat.le_of_ble_eq_true rfl, by rw [hrm]; exact Nat.le_of_ble_eq_true rfl⟩ hr3 hk6 rfl rfl rfl (Nat.le_of_ble_eq_true rfl) dX8_fillRest_28 (fun r3 m3 => ?_)
  refine z_aload_n C dX8_fillRest_31 rfl 0 rfl ?_
  refine z_chk (fun hk7 => ?_)
  refine z_getR C fl_RX8_14 rfl hk7 dX8_fillRest_32 ?_
  refine z_iload_n C dX8_fillRest_35 rfl 1 rfl ?_
  refine z_bipush (v := 6) C dX8_fillRest_36 (by decide) ?_
  refine z_iconst (v := 1) C dX8_fillRest_38 (by decide) ?_
  refine z_ck (fun a4 hr4 hk8 => ?_)
  refine z_cVV [.int p1, .int 6, .int 1] [] C mv_RX8_70 (fun r0 m0 h0 => M_X6_put _ _ _ _ _ _ _ _ _ h0) rfl rfl ⟨by rw [hrm]; exact Nat.le_of_ble_eq_true rfl, by rw [hrm]; exact Nat.le_of_ble_eq_true rfl⟩ ⟨by rw [hrm]; exact Nat.le_of_ble_eq_true rfl, by rw [hrm]; exact Nat.le_of_ble_eq_true rfl⟩ hr4 hk8 rfl rfl rfl (Nat.le_of_ble_eq_true rfl) dX8_fillRest_39 (fun r4 m4 => ?_)
  refine z_aload_n C dX8_fillRest_42 rfl 0 rfl ?_
  refine z_chk (fun hk9 => ?_)
  refine z_getR C fl_RX8_14 rfl hk9 dX8_fillRest_43 ?_
  refine z_iload_n C dX8_fillRest_46 rfl 1 rfl ?_
  refine z_bipush (v := 7) C dX8_fillRest_47 (by decide) ?_
  refine z_iconst (v := (-1)) C dX8_fillRest_49 (by decide) ?_
  refine z_ck (fun a5 hr5 hk10 => ?_)
  refine z_cVV [.int p1, .int 7, .int (-1)] [] C mv_RX8_70 (fun r0 m0 h0 => M_X6_put _ _ _ _ _ _ _ _ _ h0) rfl rfl ⟨by rw [hrm]; exact Nat.le_of_ble_eq_true rfl, by rw [hrm]; exact Nat.le_of_ble_eq_true rfl⟩ ⟨by rw [hrm]; exact Nat.le_of_ble_eq_true rfl, by rw [hrm]; exact Nat.le_of_ble_eq_true rfl⟩ hr5 hk10 rfl rfl rfl (Nat.le_of_ble_eq_true rfl) dX8_fillRest_50 (fun r5 m5 => ?_)
  exact z_vret C hr dX8_fillRest_53
def f_X8_fillRest (th : Nat) (p1 : Int32) (p2 : Int32) (p3 : Int32) (p4 : Int32) (m : MM) : Option (Unit × MM) := g_X8_fillRest_0 th p1 p2 p3 p4 m
theorem M_X8_fillRest (l : Launch) (E : EX) (th : Nat) (p1 : Int32) (p2 : Int32) (p3 : Int32) (p4 : Int32) (m : MM) (r : Unit) (m2 : MM) (h : f_X8_fillRest th p1 p2 p3 p4 m = some (r, m2)) : Met l yX8_fillRest (.code yX8_fillRest cX8_fillRest 5 none :: TB) rmX8_fillRest (va_Pc [.ref th, .int p1, .int p2, .int p3, .int p4] (St E m)) (QR E (emV r) m2) 0 0 (AA E) :=
  met_of (em := emV) (plainFor_of_name rfl) (Nat.le_of_ble_eq_true rfl) (L0 := [(0, va_rf (some th)), (1, .int p1), (2, .int p2), (3, .int p3), (4, .int p4)]) rfl (fun Γ _ hrm C hr hn => s_X8_fillRest_0 C hr hrm th p1 p2 p3 p4 m) h

theorem dX8_hasThing_0 : decode cX8_hasThing 0 = .ok (.iload_n 1, 1) := by decide +kernel
theorem dX8_hasThing_1 : decode cX8_hasThing 1 = .ok (.ifCond .lt 18, 3) := by decide +kernel
theorem dX8_hasThing_4 : decode cX8_hasThing 4 = .ok (.iload_n 1, 1) := by decide +kernel
theorem dX8_hasThing_5 : decode cX8_hasThing 5 = .ok (.aload_n 0, 1) := by decide +kernel
theorem dX8_hasThing_6 : decode cX8_hasThing 6 = .ok (.getfield 14, 3) := by decide +kernel
theorem dX8_hasThing_9 : decode cX8_hasThing 9 = .ok (.getfield 55, 3) := by decide +kernel
theorem dX8_hasThing_12 : decode cX8_hasThing 12 = .ok (.if_icmp .ge 7, 3) := by decide +kernel
theorem dX8_hasThing_15 : decode cX8_hasThing 15 = .ok (.iconst 1, 1) := by decide +kernel
theorem dX8_hasThing_16 : decode cX8_hasThing 16 = .ok (.goto 4, 3) := by decide +kernel
theorem dX8_hasThing_19 : decode cX8_hasThing 19 = .ok (.iconst 0, 1) := by decide +kernel
theorem dX8_hasThing_20 : decode cX8_hasThing 20 = .ok (.ireturn, 1) := by decide +kernel
def rmX8_hasThing : Room := { frames := 0, cells := 0, slots := 0, locals := 0 }
set_option maxRecDepth 100000 in
def g_X8_hasThing_19 (th : Nat) (p1 : Int32) (m : MM) : Option (Int32 × MM) :=
  some (0, m)
set_option maxHeartbeats 4000000 in
set_option maxRecDepth 100000 in
theorem s_X8_hasThing_19 {Γ : GX} {E : EX} (C : Cx Γ E cX8_hasThing RX8 2) (hr : Γ.meth.sig.returnType = (some .boolean)) (hrm : Γ.rm = rmX8_hasThing) (th : Nat) (p1 : Int32) (m : MM) : Sm (QM Γ E emI 0 0) Γ E 2 0 0 19 [(0, va_rf (some th)), (1, .int p1)] [] m (g_X8_hasThing_19 th p1 m) := by
  unfold g_X8_hasThing_19
  refine z_iconst (v := 0) C dX8_hasThing_19 (by decide) ?_
  exact z_zret C hr rfl dX8_hasThing_20
set_option maxRecDepth 100000 in
def g_X8_hasThing_0 (th : Nat) (p1 : Int32) (m : MM) : Option (Int32 × MM) :=
  if p1 < 0 then (g_X8_hasThing_19 th p1 m) else (chk (m.K th = 9) (ck m (m.R 904 th 0) 7 (fun a1 => if (m.I 703 a1 0) ≤ p1 then (g_X8_hasThing_19 th p1 m) else (some (1, m)))))
set_option maxHeartbeats 4000000 in
set_option maxRecDepth 100000 in
theorem s_X8_hasThing_0 {Γ : GX} {E : EX} (C : Cx Γ E cX8_hasThing RX8 2) (hr : Γ.meth.sig.returnType = (some .boolean)) (hrm : Γ.rm = rmX8_hasThing) (th : Nat) (p1 : Int32) (m : MM) : Sm (QM Γ E emI 0 0) Γ E 2 0 0 0 [(0, va_rf (some th)), (1, .int p1)] [] m (g_X8_hasThing_0 th p1 m) := by
  unfold g_X8_hasThing_0
  refine z_iload_n C dX8_hasThing_0 rfl 1 rfl ?_
  refine z_if_lt (tgt := 19) C dX8_hasThing_1 (by decide) (fun c1 => ?_) (fun c1 => ?_)
  · exact z_sub [0, 1] rfl (s_X8_hasThing_19 C hr hrm th p1 m)
  · refine z_iload_n C dX8_hasThing_4 rfl 1 rfl ?_
    refine z_aload_n C dX8_hasThing_5 rfl 0 rfl ?_
    refine z_chk (fun hk1 => ?_)
    refine z_getR C fl_RX8_14 rfl hk1 dX8_hasThing_6 ?_
    refine z_ck (fun a1 hr1 hk2 => ?_)
    refine z_getI C fl_RX8_55 hr1 hk2 dX8_hasThing_9 ?_
    refine z_icmp_ge (tgt := 19) C dX8_hasThing_12 (by decide) (fun c2 => ?_) (fun c2 => ?_)
    · exact z_sub [0, 1] rfl (s_X8_hasThing_19 C hr hrm th p1 m)
    · refine z_iconst (v := 1) C dX8_hasThing_15 (by decide) ?_
      refine z_goto (tgt := 20) C dX8_hasThing_16 (by decide) ?_
      exact z_zret C hr rfl dX8_hasThing_20
def f_X8_hasThing (th : Nat) (p1 : Int32) (m : MM) : Option (Int32 × MM) := g_X8_hasThing_0 th p1 m
theorem M_X8_hasThing (l : Launch) (E : EX) (th : Nat) (p1 : Int32) (m : MM) (r : Int32) (m2 : MM) (h : f_X8_hasThing th p1 m = some (r, m2)) : Met l yX8_hasThing (.code yX8_hasThing cX8_hasThing 2 (some .boolean) :: TB) rmX8_hasThing (va_Pc [.ref th, .int p1] (St E m)) (QR E (emI r) m2) 0 0 (AA E) :=
  met_of (em := emI) (plainFor_of_name rfl) (Nat.le_of_ble_eq_true rfl) (L0 := [(0, va_rf (some th)), (1, .int p1)]) rfl (fun Γ _ hrm C hr hn => s_X8_hasThing_0 C hr hrm th p1 m) h

theorem dX8_growsBy_0 : decode cX8_growsBy 0 = .ok (.iload_n 1, 1) := by decide +kernel
theorem dX8_growsBy_1 : decode cX8_growsBy 1 = .ok (.ifCond .lt 21, 3) := by decide +kernel
theorem dX8_growsBy_4 : decode cX8_growsBy 4 = .ok (.iload_n 1, 1) := by decide +kernel
theorem dX8_growsBy_5 : decode cX8_growsBy 5 = .ok (.aload_n 0, 1) := by decide +kernel
theorem dX8_growsBy_6 : decode cX8_growsBy 6 = .ok (.getfield 39, 3) := by decide +kernel
theorem dX8_growsBy_9 : decode cX8_growsBy 9 = .ok (.arraylength, 1) := by decide +kernel
theorem dX8_growsBy_10 : decode cX8_growsBy 10 = .ok (.if_icmp .ge 12, 3) := by decide +kernel
theorem dX8_growsBy_13 : decode cX8_growsBy 13 = .ok (.aload_n 0, 1) := by decide +kernel
theorem dX8_growsBy_14 : decode cX8_growsBy 14 = .ok (.getfield 39, 3) := by decide +kernel
theorem dX8_growsBy_17 : decode cX8_growsBy 17 = .ok (.iload_n 1, 1) := by decide +kernel
theorem dX8_growsBy_18 : decode cX8_growsBy 18 = .ok (.iaload, 1) := by decide +kernel
theorem dX8_growsBy_19 : decode cX8_growsBy 19 = .ok (.goto 4, 3) := by decide +kernel
theorem dX8_growsBy_22 : decode cX8_growsBy 22 = .ok (.iconst (-1), 1) := by decide +kernel
theorem dX8_growsBy_23 : decode cX8_growsBy 23 = .ok (.ireturn, 1) := by decide +kernel
def rmX8_growsBy : Room := { frames := 0, cells := 0, slots := 0, locals := 0 }
set_option maxRecDepth 100000 in
def g_X8_growsBy_22 (th : Nat) (p1 : Int32) (m : MM) : Option (Int32 × MM) :=
  some ((-1), m)
set_option maxHeartbeats 4000000 in
set_option maxRecDepth 100000 in
theorem s_X8_growsBy_22 {Γ : GX} {E : EX} (C : Cx Γ E cX8_growsBy RX8 2) (hr : Γ.meth.sig.returnType = (some .int)) (hrm : Γ.rm = rmX8_growsBy) (th : Nat) (p1 : Int32) (m : MM) : Sm (QM Γ E emI 0 0) Γ E 2 0 0 22 [(0, va_rf (some th)), (1, .int p1)] [] m (g_X8_growsBy_22 th p1 m) := by
  unfold g_X8_growsBy_22
  refine z_iconst (v := (-1)) C dX8_growsBy_22 (by decide) ?_
  exact z_iret C hr dX8_growsBy_23
set_option maxRecDepth 100000 in
def g_X8_growsBy_0 (th : Nat) (p1 : Int32) (m : MM) : Option (Int32 × MM) :=
  if p1 < 0 then (g_X8_growsBy_22 th p1 m) else (chk (m.K th = 9) (ck m (m.R 911 th 0) 22 (fun a1 => if (Int32.ofNat (m.N a1)) ≤ p1 then (g_X8_growsBy_22 th p1 m) else (chk (inb p1 (m.N a1) = true) (some (m.I 22 a1 (Int32.toNatClampNeg p1), m))))))
set_option maxHeartbeats 4000000 in
set_option maxRecDepth 100000 in
theorem s_X8_growsBy_0 {Γ : GX} {E : EX} (C : Cx Γ E cX8_growsBy RX8 2) (hr : Γ.meth.sig.returnType = (some .int)) (hrm : Γ.rm = rmX8_growsBy) (th : Nat) (p1 : Int32) (m : MM) : Sm (QM Γ E emI 0 0) Γ E 2 0 0 0 [(0, va_rf (some th)), (1, .int p1)] [] m (g_X8_growsBy_0 th p1 m) := by
  unfold g_X8_growsBy_0
  refine z_iload_n C dX8_growsBy_0 rfl 1 rfl ?_
  refine z_if_lt (tgt := 22) C dX8_growsBy_1 (by decide) (fun c1 => ?_) (fun c1 => ?_)
  · exact z_sub [0, 1] rfl (s_X8_growsBy_22 C hr hrm th p1 m)
  · refine z_iload_n C dX8_growsBy_4 rfl 1 rfl ?_
    refine z_aload_n C dX8_growsBy_5 rfl 0 rfl ?_
    refine z_chk (fun hk1 => ?_)
    refine z_getR C fl_RX8_39 rfl hk1 dX8_growsBy_6 ?_
    refine z_ck (fun a1 hr1 hk2 => ?_)
    refine z_alen C hr1 hk2 (by decide) (by decide) dX8_growsBy_9 ?_
    refine z_icmp_ge (tgt := 22) C dX8_growsBy_10 (by decide) (fun c2 => ?_) (fun c2 => ?_)
    · exact z_sub [0, 1] rfl (s_X8_growsBy_22 C hr hrm th p1 m)
    · refine z_aload_n C dX8_growsBy_13 rfl 0 rfl ?_
      refine z_getR C fl_RX8_39 rfl hk1 dX8_growsBy_14 ?_
      refine z_iload_n C dX8_growsBy_17 rfl 1 rfl ?_
      refine z_chk (fun hj1 => ?_)
      refine z_iald C hr1 hk2 hj1 dX8_growsBy_18 ?_
      refine z_goto (tgt := 23) C dX8_growsBy_19 (by decide) ?_
      exact z_iret C hr dX8_growsBy_23
def f_X8_growsBy (th : Nat) (p1 : Int32) (m : MM) : Option (Int32 × MM) := g_X8_growsBy_0 th p1 m
theorem M_X8_growsBy (l : Launch) (E : EX) (th : Nat) (p1 : Int32) (m : MM) (r : Int32) (m2 : MM) (h : f_X8_growsBy th p1 m = some (r, m2)) : Met l yX8_growsBy (.code yX8_growsBy cX8_growsBy 2 (some .int) :: TB) rmX8_growsBy (va_Pc [.ref th, .int p1] (St E m)) (QR E (emI r) m2) 0 0 (AA E) :=
  met_of (em := emI) (plainFor_of_name rfl) (Nat.le_of_ble_eq_true rfl) (L0 := [(0, va_rf (some th)), (1, .int p1)]) rfl (fun Γ _ hrm C hr hn => s_X8_growsBy_0 C hr hrm th p1 m) h

theorem dX8_growth_0 : decode cX8_growth 0 = .ok (.aload_n 0, 1) := by decide +kernel
theorem dX8_growth_1 : decode cX8_growth 1 = .ok (.aload_n 0, 1) := by decide +kernel
theorem dX8_growth_2 : decode cX8_growth 2 = .ok (.getfield 14, 3) := by decide +kernel
theorem dX8_growth_5 : decode cX8_growth 5 = .ok (.iload_n 1, 1) := by decide +kernel
theorem dX8_growth_6 : decode cX8_growth 6 = .ok (.iconst 0, 1) := by decide +kernel
theorem dX8_growth_7 : decode cX8_growth 7 = .ok (.invokevirtual 66, 3) := by decide +kernel
theorem dX8_growth_10 : decode cX8_growth 10 = .ok (.invokevirtual 74, 3) := by decide +kernel
theorem dX8_growth_13 : decode cX8_growth 13 = .ok (.istore_n 3, 1) := by decide +kernel
theorem dX8_growth_14 : decode cX8_growth 14 = .ok (.iload_n 2, 1) := by decide +kernel
theorem dX8_growth_15 : decode cX8_growth 15 = .ok (.aload_n 0, 1) := by decide +kernel
theorem dX8_growth_16 : decode cX8_growth 16 = .ok (.getfield 14, 3) := by decide +kernel
theorem dX8_growth_19 : decode cX8_growth 19 = .ok (.iload_n 1, 1) := by decide +kernel
theorem dX8_growth_20 : decode cX8_growth 20 = .ok (.iconst 4, 1) := by decide +kernel
theorem dX8_growth_21 : decode cX8_growth 21 = .ok (.invokevirtual 66, 3) := by decide +kernel
theorem dX8_growth_24 : decode cX8_growth 24 = .ok (.isub, 1) := by decide +kernel
theorem dX8_growth_25 : decode cX8_growth 25 = .ok (.istore 4, 2) := by decide +kernel
theorem dX8_growth_27 : decode cX8_growth 27 = .ok (.iload_n 3, 1) := by decide +kernel
theorem dX8_growth_28 : decode cX8_growth 28 = .ok (.ifCond .le 9, 3) := by decide +kernel
theorem dX8_growth_31 : decode cX8_growth 31 = .ok (.iload 4, 2) := by decide +kernel
theorem dX8_growth_33 : decode cX8_growth 33 = .ok (.iload_n 3, 1) := by decide +kernel
theorem dX8_growth_34 : decode cX8_growth 34 = .ok (.if_icmp .ge 5, 3) := by decide +kernel
theorem dX8_growth_37 : decode cX8_growth 37 = .ok (.iconst 0, 1) := by decide +kernel
theorem dX8_growth_38 : decode cX8_growth 38 = .ok (.ireturn, 1) := by decide +kernel
theorem dX8_growth_39 : decode cX8_growth 39 = .ok (.iload 4, 2) := by decide +kernel
theorem dX8_growth_41 : decode cX8_growth 41 = .ok (.iload_n 3, 1) := by decide +kernel
theorem dX8_growth_42 : decode cX8_growth 42 = .ok (.idiv, 1) := by decide +kernel
theorem dX8_growth_43 : decode cX8_growth 43 = .ok (.istore 5, 2) := by decide +kernel
theorem dX8_growth_45 : decode cX8_growth 45 = .ok (.iload 5, 2) := by decide +kernel
theorem dX8_growth_47 : decode cX8_growth 47 = .ok (.bipush 9, 2) := by decide +kernel
theorem dX8_growth_49 : decode cX8_growth 49 = .ok (.if_icmp .le 8, 3) := by decide +kernel
theorem dX8_growth_52 : decode cX8_growth 52 = .ok (.bipush 9, 2) := by decide +kernel
theorem dX8_growth_54 : decode cX8_growth 54 = .ok (.goto 5, 3) := by decide +kernel
theorem dX8_growth_57 : decode cX8_growth 57 = .ok (.iload 5, 2) := by decide +kernel
theorem dX8_growth_59 : decode cX8_growth 59 = .ok (.ireturn, 1) := by decide +kernel
def rmX8_growth : Room := { frames := 1, cells := 0, slots := 0, locals := 23 }
set_option maxRecDepth 100000 in
def g_X8_growth_0 (th : Nat) (p1 : Int32) (p2 : Int32) (m : MM) : Option (Int32 × MM) :=
  chk (m.K th = 9) (ck m (m.R 904 th 0) 7 (fun a1 => cal (f_X6_cell a1 p1 0 m) (fun r1 m1 => chk (m1.K th = 9) (cal (f_X8_growsBy th r1 m1) (fun r2 m2 => chk (m2.K th = 9) (ck m2 (m2.R 904 th 0) 7 (fun a2 => cal (f_X6_cell a2 p1 4 m2) (fun r3 m3 => bnd (p2 - r3) (fun y1 => if r2 ≤ 0 then (some (0, m3)) else (if r2 ≤ y1 then (chk (¬ r2 = 0) (bnd (y1 / r2) (fun y2 => if y2 ≤ 9 then (some (y2, m3)) else (some (9, m3))))) else (some (0, m3))))))))))))
set_option maxHeartbeats 4000000 in
set_option maxRecDepth 100000 in
theorem s_X8_growth_0 {Γ : GX} {E : EX} (C : Cx Γ E cX8_growth RX8 6) (hr : Γ.meth.sig.returnType = (some .int)) (hrm : Γ.rm = rmX8_growth) (th : Nat) (p1 : Int32) (p2 : Int32) (m : MM) : Sm (QM Γ E emI 0 0) Γ E 6 0 0 0 [(0, va_rf (some th)), (1, .int p1), (2, .int p2)] [] m (g_X8_growth_0 th p1 p2 m) := by
  unfold g_X8_growth_0
  refine z_aload_n C dX8_growth_0 rfl 0 rfl ?_
  refine z_aload_n C dX8_growth_1 rfl 0 rfl ?_
  refine z_chk (fun hk1 => ?_)
  refine z_getR C fl_RX8_14 rfl hk1 dX8_growth_2 ?_
  refine z_iload_n C dX8_growth_5 rfl 1 rfl ?_
  refine z_iconst (v := 0) C dX8_growth_6 (by decide) ?_
  refine z_ck (fun a1 hr1 hk2 => ?_)
  refine z_cVI [.int p1, .int 0] [va_rf (some th)] C mv_RX8_66 (fun r0 m0 h0 => M_X6_cell _ _ _ _ _ _ _ _ h0) rfl rfl ⟨by rw [hrm]; exact Nat.le_of_ble_eq_true rfl, by rw [hrm]; exact Nat.le_of_ble_eq_true rfl⟩ ⟨by rw [hrm]; exact Nat.le_of_ble_eq_true rfl, by rw [hrm]; exact Nat.le_of_ble_eq_true rfl⟩ hr1 hk2 rfl rfl rfl (Nat.le_of_ble_eq_true rfl) dX8_growth_7 (fun r1 m1 => ?_)
  refine z_chk (fun hk3 => ?_)
  refine z_cVI [.int r1] [] C mv_RX8_74 (fun r0 m0 h0 => M_X8_growsBy _ _ _ _ _ _ _ h0) rfl rfl ⟨by rw [hrm]; exact Nat.le_of_ble_eq_true rfl, by rw [hrm]; exact Nat.le_of_ble_eq_true rfl⟩ ⟨by rw [hrm]; exact Nat.le_of_ble_eq_true rfl, by rw [hrm]; exact Nat.le_of_ble_eq_true rfl⟩ rfl hk3 rfl rfl rfl (Nat.le_of_ble_eq_true rfl) dX8_growth_10 (fun r2 m2 => ?_)
  refine z_istore_n (i := 3) (L2 := [(3, .int r2), (0, va_rf (some th)), (1, .int p1), (2, .int p2)]) C dX8_growth_13 rfl (by decide) rfl ?_
  refine z_iload_n C dX8_growth_14 rfl 3 rfl ?_
  refine z_aload_n C dX8_growth_15 rfl 1 rfl ?_
  refine z_chk (fun hk4 => ?_)
  refine z_getR C fl_RX8_14 rfl hk4 dX8_growth_16 ?_
  refine z_iload_n C dX8_growth_19 rfl 2 rfl ?_
  refine z_iconst (v := 4) C dX8_growth_20 (by decide) ?_
  refine z_ck (fun a2 hr2 hk5 => ?_)
  refine z_cVI [.int p1, .int 4] [.int p2] C mv_RX8_66 (fun r0 m0 h0 => M_X6_cell _ _ _ _ _ _ _ _ h0) rfl rfl ⟨by rw [hrm]; exact Nat.le_of_ble_eq_true rfl, by rw [hrm]; exact Nat.le_of_ble_eq_true rfl⟩ ⟨by rw [hrm]; exact Nat.le_of_ble_eq_true rfl, by rw [hrm]; exact Nat.le_of_ble_eq_true rfl⟩ hr2 hk5 rfl rfl rfl (Nat.le_of_ble_eq_true rfl) dX8_growth_21 (fun r3 m3 => ?_)
  refine z_isub C dX8_growth_24 ?_
  refine z_bndI (fun y1 => ?_)
  refine z_istore (i := 4) (L2 := [(4, .int y1), (3, .int r2), (0, va_rf (some th)), (1, .int p1), (2, .int p2)]) C dX8_growth_25 (by decide) rfl ?_
  refine z_iload_n C dX8_growth_27 rfl 1 rfl ?_
  refine z_if_le (tgt := 37) C dX8_growth_28 (by decide) (fun c1 => ?_) (fun c1 => ?_)
  · refine z_iconst (v := 0) C dX8_growth_37 (by decide) ?_
    exact z_iret C hr dX8_growth_38
  · refine z_iload C dX8_growth_31 0 rfl ?_
    refine z_iload_n C dX8_growth_33 rfl 1 rfl ?_
    refine z_icmp_ge (tgt := 39) C dX8_growth_34 (by decide) (fun c2 => ?_) (fun c2 => ?_)
    · refine z_iload C dX8_growth_39 0 rfl ?_
      refine z_iload_n C dX8_growth_41 rfl 1 rfl ?_
      refine z_chk (fun hz1 => ?_)
      refine z_idiv C hz1 dX8_growth_42 ?_
      refine z_bndI (fun y2 => ?_)
      refine z_istore (i := 5) (L2 := [(5, .int y2), (4, .int y1), (3, .int r2), (0, va_rf (some th)), (1, .int p1), (2, .int p2)]) C dX8_growth_43 (by decide) rfl ?_
      refine z_iload C dX8_growth_45 0 rfl ?_
      refine z_bipush (v := 9) C dX8_growth_47 (by decide) ?_
      refine z_icmp_le (tgt := 57) C dX8_growth_49 (by decide) (fun c3 => ?_) (fun c3 => ?_)
      · refine z_iload C dX8_growth_57 0 rfl ?_
        exact z_iret C hr dX8_growth_59
      · refine z_bipush (v := 9) C dX8_growth_52 (by decide) ?_
        refine z_goto (tgt := 59) C dX8_growth_54 (by decide) ?_
        exact z_iret C hr dX8_growth_59
    · refine z_iconst (v := 0) C dX8_growth_37 (by decide) ?_
      exact z_iret C hr dX8_growth_38
def f_X8_growth (th : Nat) (p1 : Int32) (p2 : Int32) (m : MM) : Option (Int32 × MM) := g_X8_growth_0 th p1 p2 m
theorem M_X8_growth (l : Launch) (E : EX) (th : Nat) (p1 : Int32) (p2 : Int32) (m : MM) (r : Int32) (m2 : MM) (h : f_X8_growth th p1 p2 m = some (r, m2)) : Met l yX8_growth (.code yX8_growth cX8_growth 6 (some .int) :: TB) rmX8_growth (va_Pc [.ref th, .int p1, .int p2] (St E m)) (QR E (emI r) m2) 0 0 (AA E) :=
  met_of (em := emI) (plainFor_of_name rfl) (Nat.le_of_ble_eq_true rfl) (L0 := [(0, va_rf (some th)), (1, .int p1), (2, .int p2)]) rfl (fun Γ _ hrm C hr hn => s_X8_growth_0 C hr hrm th p1 p2 m) h

theorem dX8_stands_0 : decode cX8_stands 0 = .ok (.aload_n 0, 1) := by decide +kernel
theorem dX8_stands_1 : decode cX8_stands 1 = .ok (.getfield 14, 3) := by decide +kernel
theorem dX8_stands_4 : decode cX8_stands 4 = .ok (.iload_n 1, 1) := by decide +kernel
theorem dX8_stands_5 : decode cX8_stands 5 = .ok (.bipush 7, 2) := by decide +kernel
theorem dX8_stands_7 : decode cX8_stands 7 = .ok (.invokevirtual 66, 3) := by decide +kernel
theorem dX8_stands_10 : decode cX8_stands 10 = .ok (.istore_n 3, 1) := by decide +kernel
theorem dX8_stands_11 : decode cX8_stands 11 = .ok (.aload_n 0, 1) := by decide +kernel
theorem dX8_stands_12 : decode cX8_stands 12 = .ok (.iload_n 1, 1) := by decide +kernel
theorem dX8_stands_13 : decode cX8_stands 13 = .ok (.invokevirtual 62, 3) := by decide +kernel
theorem dX8_stands_16 : decode cX8_stands 16 = .ok (.ifCond .eq 30, 3) := by decide +kernel
theorem dX8_stands_19 : decode cX8_stands 19 = .ok (.aload_n 0, 1) := by decide +kernel
theorem dX8_stands_20 : decode cX8_stands 20 = .ok (.getfield 14, 3) := by decide +kernel
theorem dX8_stands_23 : decode cX8_stands 23 = .ok (.iload_n 1, 1) := by decide +kernel
theorem dX8_stands_24 : decode cX8_stands 24 = .ok (.iconst 4, 1) := by decide +kernel
theorem dX8_stands_25 : decode cX8_stands 25 = .ok (.invokevirtual 66, 3) := by decide +kernel
theorem dX8_stands_28 : decode cX8_stands 28 = .ok (.iload_n 2, 1) := by decide +kernel
theorem dX8_stands_29 : decode cX8_stands 29 = .ok (.if_icmp .gt 17, 3) := by decide +kernel
theorem dX8_stands_32 : decode cX8_stands 32 = .ok (.iload_n 3, 1) := by decide +kernel
theorem dX8_stands_33 : decode cX8_stands 33 = .ok (.iconst (-1), 1) := by decide +kernel
theorem dX8_stands_34 : decode cX8_stands 34 = .ok (.if_icmp .eq 8, 3) := by decide +kernel
theorem dX8_stands_37 : decode cX8_stands 37 = .ok (.iload_n 2, 1) := by decide +kernel
theorem dX8_stands_38 : decode cX8_stands 38 = .ok (.iload_n 3, 1) := by decide +kernel
theorem dX8_stands_39 : decode cX8_stands 39 = .ok (.if_icmp .ge 7, 3) := by decide +kernel
theorem dX8_stands_42 : decode cX8_stands 42 = .ok (.iconst 1, 1) := by decide +kernel
theorem dX8_stands_43 : decode cX8_stands 43 = .ok (.goto 4, 3) := by decide +kernel
theorem dX8_stands_46 : decode cX8_stands 46 = .ok (.iconst 0, 1) := by decide +kernel
theorem dX8_stands_47 : decode cX8_stands 47 = .ok (.ireturn, 1) := by decide +kernel
def rmX8_stands : Room := { frames := 1, cells := 0, slots := 0, locals := 23 }
set_option maxRecDepth 100000 in
def g_X8_stands_46 (th : Nat) (p1 : Int32) (p2 : Int32) (m : MM) : Option (Int32 × MM) :=
  some (0, m)
set_option maxHeartbeats 4000000 in
set_option maxRecDepth 100000 in
theorem s_X8_stands_46 {Γ : GX} {E : EX} (C : Cx Γ E cX8_stands RX8 4) (hr : Γ.meth.sig.returnType = (some .boolean)) (hrm : Γ.rm = rmX8_stands) (th : Nat) (p1 : Int32) (p2 : Int32) (m : MM) : Sm (QM Γ E emI 0 0) Γ E 4 0 0 46 [(0, va_rf (some th)), (1, .int p1), (2, .int p2)] [] m (g_X8_stands_46 th p1 p2 m) := by
  unfold g_X8_stands_46
  refine z_iconst (v := 0) C dX8_stands_46 (by decide) ?_
  exact z_zret C hr rfl dX8_stands_47
set_option maxRecDepth 100000 in
def g_X8_stands_42 (th : Nat) (p1 : Int32) (p2 : Int32) (m : MM) : Option (Int32 × MM) :=
  some (1, m)
set_option maxHeartbeats 4000000 in
set_option maxRecDepth 100000 in
theorem s_X8_stands_42 {Γ : GX} {E : EX} (C : Cx Γ E cX8_stands RX8 4) (hr : Γ.meth.sig.returnType = (some .boolean)) (hrm : Γ.rm = rmX8_stands) (th : Nat) (p1 : Int32) (p2 : Int32) (m : MM) : Sm (QM Γ E emI 0 0) Γ E 4 0 0 42 [(0, va_rf (some th)), (1, .int p1), (2, .int p2)] [] m (g_X8_stands_42 th p1 p2 m) := by
  unfold g_X8_stands_42
  refine z_iconst (v := 1) C dX8_stands_42 (by decide) ?_
  refine z_goto (tgt := 47) C dX8_stands_43 (by decide) ?_
  exact z_zret C hr rfl dX8_stands_47
set_option maxRecDepth 100000 in
def g_X8_stands_0 (th : Nat) (p1 : Int32) (p2 : Int32) (m : MM) : Option (Int32 × MM) :=
  chk (m.K th = 9) (ck m (m.R 904 th 0) 7 (fun a1 => cal (f_X6_cell a1 p1 7 m) (fun r1 m1 => chk (m1.K th = 9) (cal (f_X8_hasThing th p1 m1) (fun r2 m2 => if r2 = 0 then (g_X8_stands_46 th p1 p2 m2) else (chk (m2.K th = 9) (ck m2 (m2.R 904 th 0) 7 (fun a2 => cal (f_X6_cell a2 p1 4 m2) (fun r3 m3 => if p2 < r3 then (g_X8_stands_46 th p1 p2 m3) else (if r1 = (-1) then (g_X8_stands_42 th p1 p2 m3) else (if r1 ≤ p2 then (g_X8_stands_46 th p1 p2 m3) else (g_X8_stands_42 th p1 p2 m3))))))))))))
set_option maxHeartbeats 4000000 in
set_option maxRecDepth 100000 in
theorem s_X8_stands_0 {Γ : GX} {E : EX} (C : Cx Γ E cX8_stands RX8 4) (hr : Γ.meth.sig.returnType = (some .boolean)) (hrm : Γ.rm = rmX8_stands) (th : Nat) (p1 : Int32) (p2 : Int32) (m : MM) : Sm (QM Γ E emI 0 0) Γ E 4 0 0 0 [(0, va_rf (some th)), (1, .int p1), (2, .int p2)] [] m (g_X8_stands_0 th p1 p2 m) := by
  unfold g_X8_stands_0
  refine z_aload_n C dX8_stands_0 rfl 0 rfl ?_
  refine z_chk (fun hk1 => ?_)
  refine z_getR C fl_RX8_14 rfl hk1 dX8_stands_1 ?_
  refine z_iload_n C dX8_stands_4 rfl 1 rfl ?_
  refine z_bipush (v := 7) C dX8_stands_5 (by decide) ?_
  refine z_ck (fun a1 hr1 hk2 => ?_)
  refine z_cVI [.int p1, .int 7] [] C mv_RX8_66 (fun r0 m0 h0 => M_X6_cell _ _ _ _ _ _ _ _ h0) rfl rfl ⟨by rw [hrm]; exact Nat.le_of_ble_eq_true rfl, by rw [hrm]; exact Nat.le_of_ble_eq_true rfl⟩ ⟨by rw [hrm]; exact Nat.le_of_ble_eq_true rfl, by rw [hrm]; exact Nat.le_of_ble_eq_true rfl⟩ hr1 hk2 rfl rfl rfl (Nat.le_of_ble_eq_true rfl) dX8_stands_7 (fun r1 m1 => ?_)
  refine z_istore_n (i := 3) (L2 := [(3, .int r1), (0, va_rf (some th)), (1, .int p1), (2, .int p2)]) C dX8_stands_10 rfl (by decide) rfl ?_
  refine z_aload_n C dX8_stands_11 rfl 1 rfl ?_
  refine z_iload_n C dX8_stands_12 rfl 2 rfl ?_
  refine z_chk (fun hk3 => ?_)
  refine z_cVI [.int p1] [] C mv_RX8_62 (fun r0 m0 h0 => M_X8_hasThing _ _ _ _ _ _ _ h0) rfl rfl ⟨by rw [hrm]; exact Nat.le_of_ble_eq_true rfl, by rw [hrm]; exact Nat.le_of_ble_eq_true rfl⟩ ⟨by rw [hrm]; exact Nat.le_of_ble_eq_true rfl, by rw [hrm]; exact Nat.le_of_ble_eq_true rfl⟩ rfl hk3 rfl rfl rfl (Nat.le_of_ble_eq_true rfl) dX8_stands_13 (fun r2 m2 => ?_)
  refine z_if_eq (tgt := 46) C dX8_stands_16 (by decide) (fun c1 => ?_) (fun c1 => ?_)
  · exact z_sub [1, 2, 3] rfl (s_X8_stands_46 C hr hrm th p1 p2 m2)
  · refine z_aload_n C dX8_stands_19 rfl 1 rfl ?_
    refine z_chk (fun hk4 => ?_)
    refine z_getR C fl_RX8_14 rfl hk4 dX8_stands_20 ?_
    refine z_iload_n C dX8_stands_23 rfl 2 rfl ?_
    refine z_iconst (v := 4) C dX8_stands_24 (by decide) ?_
    refine z_ck (fun a2 hr2 hk5 => ?_)
    refine z_cVI [.int p1, .int 4] [] C mv_RX8_66 (fun r0 m0 h0 => M_X6_cell _ _ _ _ _ _ _ _ h0) rfl rfl ⟨by rw [hrm]; exact Nat.le_of_ble_eq_true rfl, by rw [hrm]; exact Nat.le_of_ble_eq_true rfl⟩ ⟨by rw [hrm]; exact Nat.le_of_ble_eq_true rfl, by rw [hrm]; exact Nat.le_of_ble_eq_true rfl⟩ hr2 hk5 rfl rfl rfl (Nat.le_of_ble_eq_true rfl) dX8_stands_25 (fun r3 m3 => ?_)
    refine z_iload_n C dX8_stands_28 rfl 3 rfl ?_
    refine z_icmp_gt (tgt := 46) C dX8_stands_29 (by decide) (fun c2 => ?_) (fun c2 => ?_)
    · exact z_sub [1, 2, 3] rfl (s_X8_stands_46 C hr hrm th p1 p2 m3)
    · refine z_iload_n C dX8_stands_32 rfl 0 rfl ?_
      refine z_iconst (v := (-1)) C dX8_stands_33 (by decide) ?_
      refine z_icmp_eq (tgt := 42) C dX8_stands_34 (by decide) (fun c3 => ?_) (fun c3 => ?_)
      · exact z_sub [1, 2, 3] rfl (s_X8_stands_42 C hr hrm th p1 p2 m3)
      · refine z_iload_n C dX8_stands_37 rfl 3 rfl ?_
        refine z_iload_n C dX8_stands_38 rfl 0 rfl ?_
        refine z_icmp_ge (tgt := 46) C dX8_stands_39 (by decide) (fun c4 => ?_) (fun c4 => ?_)
        · exact z_sub [1, 2, 3] rfl (s_X8_stands_46 C hr hrm th p1 p2 m3)
        · exact z_sub [1, 2, 3] rfl (s_X8_stands_42 C hr hrm th p1 p2 m3)
def f_X8_stands (th : Nat) (p1 : Int32) (p2 : Int32) (m : MM) : Option (Int32 × MM) := g_X8_stands_0 th p1 p2 m
theorem M_X8_stands (l : Launch) (E : EX) (th : Nat) (p1 : Int32) (p2 : Int32) (m : MM) (r : Int32) (m2 : MM) (h : f_X8_stands th p1 p2 m = some (r, m2)) : Met l yX8_stands (.code yX8_stands cX8_stands 4 (some .boolean) :: TB) rmX8_stands (va_Pc [.ref th, .int p1, .int p2] (St E m)) (QR E (emI r) m2) 0 0 (AA E) :=
  met_of (em := emI) (plainFor_of_name rfl) (Nat.le_of_ble_eq_true rfl) (L0 := [(0, va_rf (some th)), (1, .int p1), (2, .int p2)]) rfl (fun Γ _ hrm C hr hn => s_X8_stands_0 C hr hrm th p1 p2 m) h

theorem dX8_take_0 : decode cX8_take 0 = .ok (.aload_n 1, 1) := by decide +kernel
theorem dX8_take_1 : decode cX8_take 1 = .ok (.ifnonnull 4, 3) := by decide +kernel
theorem dX8_take_4 : decode cX8_take 4 = .ok (.return_, 1) := by decide +kernel
theorem dX8_take_5 : decode cX8_take 5 = .ok (.aload_n 0, 1) := by decide +kernel
theorem dX8_take_6 : decode cX8_take 6 = .ok (.aload_n 1, 1) := by decide +kernel
theorem dX8_take_7 : decode cX8_take 7 = .ok (.getfield 42, 3) := by decide +kernel
theorem dX8_take_10 : decode cX8_take 10 = .ok (.putfield 42, 3) := by decide +kernel
theorem dX8_take_13 : decode cX8_take 13 = .ok (.aload_n 0, 1) := by decide +kernel
theorem dX8_take_14 : decode cX8_take 14 = .ok (.aload_n 1, 1) := by decide +kernel
theorem dX8_take_15 : decode cX8_take 15 = .ok (.getfield 46, 3) := by decide +kernel
theorem dX8_take_18 : decode cX8_take 18 = .ok (.putfield 46, 3) := by decide +kernel
theorem dX8_take_21 : decode cX8_take 21 = .ok (.aload_n 0, 1) := by decide +kernel
theorem dX8_take_22 : decode cX8_take 22 = .ok (.aload_n 1, 1) := by decide +kernel
theorem dX8_take_23 : decode cX8_take 23 = .ok (.getfield 49, 3) := by decide +kernel
theorem dX8_take_26 : decode cX8_take 26 = .ok (.putfield 49, 3) := by decide +kernel
theorem dX8_take_29 : decode cX8_take 29 = .ok (.aload_n 0, 1) := by decide +kernel
theorem dX8_take_30 : decode cX8_take 30 = .ok (.aload_n 1, 1) := by decide +kernel
theorem dX8_take_31 : decode cX8_take 31 = .ok (.getfield 52, 3) := by decide +kernel
theorem dX8_take_34 : decode cX8_take 34 = .ok (.putfield 52, 3) := by decide +kernel
theorem dX8_take_37 : decode cX8_take 37 = .ok (.aload_n 0, 1) := by decide +kernel
theorem dX8_take_38 : decode cX8_take 38 = .ok (.getfield 14, 3) := by decide +kernel
theorem dX8_take_41 : decode cX8_take 41 = .ok (.aload_n 1, 1) := by decide +kernel
theorem dX8_take_42 : decode cX8_take 42 = .ok (.getfield 14, 3) := by decide +kernel
theorem dX8_take_45 : decode cX8_take 45 = .ok (.invokevirtual 58, 3) := by decide +kernel
theorem dX8_take_48 : decode cX8_take 48 = .ok (.aload_n 0, 1) := by decide +kernel
theorem dX8_take_49 : decode cX8_take 49 = .ok (.getfield 20, 3) := by decide +kernel
theorem dX8_take_52 : decode cX8_take 52 = .ok (.aload_n 1, 1) := by decide +kernel
theorem dX8_take_53 : decode cX8_take 53 = .ok (.getfield 20, 3) := by decide +kernel
theorem dX8_take_56 : decode cX8_take 56 = .ok (.invokevirtual 58, 3) := by decide +kernel
theorem dX8_take_59 : decode cX8_take 59 = .ok (.aload_n 0, 1) := by decide +kernel
theorem dX8_take_60 : decode cX8_take 60 = .ok (.getfield 23, 3) := by decide +kernel
theorem dX8_take_63 : decode cX8_take 63 = .ok (.aload_n 1, 1) := by decide +kernel
theorem dX8_take_64 : decode cX8_take 64 = .ok (.getfield 23, 3) := by decide +kernel
theorem dX8_take_67 : decode cX8_take 67 = .ok (.invokevirtual 58, 3) := by decide +kernel
theorem dX8_take_70 : decode cX8_take 70 = .ok (.aload_n 0, 1) := by decide +kernel
theorem dX8_take_71 : decode cX8_take 71 = .ok (.getfield 26, 3) := by decide +kernel
theorem dX8_take_74 : decode cX8_take 74 = .ok (.aload_n 1, 1) := by decide +kernel
theorem dX8_take_75 : decode cX8_take 75 = .ok (.getfield 26, 3) := by decide +kernel
theorem dX8_take_78 : decode cX8_take 78 = .ok (.invokevirtual 58, 3) := by decide +kernel
theorem dX8_take_81 : decode cX8_take 81 = .ok (.aload_n 0, 1) := by decide +kernel
theorem dX8_take_82 : decode cX8_take 82 = .ok (.getfield 29, 3) := by decide +kernel
theorem dX8_take_85 : decode cX8_take 85 = .ok (.aload_n 1, 1) := by decide +kernel
theorem dX8_take_86 : decode cX8_take 86 = .ok (.getfield 29, 3) := by decide +kernel
theorem dX8_take_89 : decode cX8_take 89 = .ok (.invokevirtual 58, 3) := by decide +kernel
theorem dX8_take_92 : decode cX8_take 92 = .ok (.aload_n 0, 1) := by decide +kernel
theorem dX8_take_93 : decode cX8_take 93 = .ok (.getfield 32, 3) := by decide +kernel
theorem dX8_take_96 : decode cX8_take 96 = .ok (.aload_n 1, 1) := by decide +kernel
theorem dX8_take_97 : decode cX8_take 97 = .ok (.getfield 32, 3) := by decide +kernel
theorem dX8_take_100 : decode cX8_take 100 = .ok (.invokevirtual 58, 3) := by decide +kernel
theorem dX8_take_103 : decode cX8_take 103 = .ok (.iconst 0, 1) := by decide +kernel
theorem dX8_take_104 : decode cX8_take 104 = .ok (.istore_n 2, 1) := by decide +kernel
theorem dX8_take_105 : decode cX8_take 105 = .ok (.iload_n 2, 1) := by decide +kernel
theorem dX8_take_106 : decode cX8_take 106 = .ok (.aload_n 0, 1) := by decide +kernel
theorem dX8_take_107 : decode cX8_take 107 = .ok (.getfield 35, 3) := by decide +kernel
theorem dX8_take_110 : decode cX8_take 110 = .ok (.arraylength, 1) := by decide +kernel
theorem dX8_take_111 : decode cX8_take 111 = .ok (.if_icmp .ge 30, 3) := by decide +kernel
theorem dX8_take_114 : decode cX8_take 114 = .ok (.iload_n 2, 1) := by decide +kernel
theorem dX8_take_115 : decode cX8_take 115 = .ok (.aload_n 1, 1) := by decide +kernel
theorem dX8_take_116 : decode cX8_take 116 = .ok (.getfield 35, 3) := by decide +kernel
theorem dX8_take_119 : decode cX8_take 119 = .ok (.arraylength, 1) := by decide +kernel
theorem dX8_take_120 : decode cX8_take 120 = .ok (.if_icmp .ge 21, 3) := by decide +kernel
theorem dX8_take_123 : decode cX8_take 123 = .ok (.aload_n 0, 1) := by decide +kernel
theorem dX8_take_124 : decode cX8_take 124 = .ok (.getfield 35, 3) := by decide +kernel
theorem dX8_take_127 : decode cX8_take 127 = .ok (.iload_n 2, 1) := by decide +kernel
theorem dX8_take_128 : decode cX8_take 128 = .ok (.aload_n 1, 1) := by decide +kernel
theorem dX8_take_129 : decode cX8_take 129 = .ok (.getfield 35, 3) := by decide +kernel
theorem dX8_take_132 : decode cX8_take 132 = .ok (.iload_n 2, 1) := by decide +kernel
theorem dX8_take_133 : decode cX8_take 133 = .ok (.iaload, 1) := by decide +kernel
theorem dX8_take_134 : decode cX8_take 134 = .ok (.iastore, 1) := by decide +kernel
theorem dX8_take_135 : decode cX8_take 135 = .ok (.iinc 2 1, 3) := by decide +kernel
theorem dX8_take_138 : decode cX8_take 138 = .ok (.goto (-33), 3) := by decide +kernel
theorem dX8_take_141 : decode cX8_take 141 = .ok (.iconst 0, 1) := by decide +kernel
theorem dX8_take_142 : decode cX8_take 142 = .ok (.istore_n 2, 1) := by decide +kernel
theorem dX8_take_143 : decode cX8_take 143 = .ok (.iload_n 2, 1) := by decide +kernel
theorem dX8_take_144 : decode cX8_take 144 = .ok (.aload_n 0, 1) := by decide +kernel
theorem dX8_take_145 : decode cX8_take 145 = .ok (.getfield 39, 3) := by decide +kernel
theorem dX8_take_148 : decode cX8_take 148 = .ok (.arraylength, 1) := by decide +kernel
theorem dX8_take_149 : decode cX8_take 149 = .ok (.if_icmp .ge 30, 3) := by decide +kernel
theorem dX8_take_152 : decode cX8_take 152 = .ok (.iload_n 2, 1) := by decide +kernel
theorem dX8_take_153 : decode cX8_take 153 = .ok (.aload_n 1, 1) := by decide +kernel
theorem dX8_take_154 : decode cX8_take 154 = .ok (.getfield 39, 3) := by decide +kernel
theorem dX8_take_157 : decode cX8_take 157 = .ok (.arraylength, 1) := by decide +kernel
theorem dX8_take_158 : decode cX8_take 158 = .ok (.if_icmp .ge 21, 3) := by decide +kernel
theorem dX8_take_161 : decode cX8_take 161 = .ok (.aload_n 0, 1) := by decide +kernel
theorem dX8_take_162 : decode cX8_take 162 = .ok (.getfield 39, 3) := by decide +kernel
theorem dX8_take_165 : decode cX8_take 165 = .ok (.iload_n 2, 1) := by decide +kernel
theorem dX8_take_166 : decode cX8_take 166 = .ok (.aload_n 1, 1) := by decide +kernel
theorem dX8_take_167 : decode cX8_take 167 = .ok (.getfield 39, 3) := by decide +kernel
theorem dX8_take_170 : decode cX8_take 170 = .ok (.iload_n 2, 1) := by decide +kernel
theorem dX8_take_171 : decode cX8_take 171 = .ok (.iaload, 1) := by decide +kernel
theorem dX8_take_172 : decode cX8_take 172 = .ok (.iastore, 1) := by decide +kernel
theorem dX8_take_173 : decode cX8_take 173 = .ok (.iinc 2 1, 3) := by decide +kernel
theorem dX8_take_176 : decode cX8_take 176 = .ok (.goto (-33), 3) := by decide +kernel
theorem dX8_take_179 : decode cX8_take 179 = .ok (.return_, 1) := by decide +kernel
def rmX8_take : Room := { frames := 2, cells := 0, slots := 0, locals := 61 }
set_option maxRecDepth 100000 in
def g_X8_take_105 (th : Nat) (p1 : Option Nat) (k105 : Int32 → MM → Option (Unit × MM)) (k141 : MM → Option (Unit × MM)) (x2 : Int32) (m : MM) : Option (Unit × MM) :=
  chk (m.K th = 9) (ck m (m.R 910 th 0) 22 (fun a1 => if (Int32.ofNat (m.N a1)) ≤ x2 then (k141 m) else (ck m p1 9 (fun a2 => ck m (m.R 910 a2 0) 22 (fun a3 => if (Int32.ofNat (m.N a3)) ≤ x2 then (k141 m) else (chk (inb x2 (m.N a3) = true) (chk (inb x2 (m.N a1) = true) (bnd (m.sI 22 a1 (Int32.toNatClampNeg x2) (m.I 22 a3 (Int32.toNatClampNeg x2))) (fun m1 => k105 (x2 + 1) m1)))))))))
set_option maxHeartbeats 4000000 in
set_option maxRecDepth 100000 in
theorem s_X8_take_105 {Γ : GX} {E : EX} (C : Cx Γ E cX8_take RX8 3) (hr : Γ.meth.sig.returnType = none) (hrm : Γ.rm = rmX8_take) (th : Nat) (p1 : Option Nat) (k105 : Int32 → MM → Option (Unit × MM)) (k141 : MM → Option (Unit × MM)) (h105 : ∀ (x2 : Int32) (m : MM), Sm (QM Γ E emV 0 0) Γ E 3 0 0 105 [(0, va_rf (some th)), (1, va_rf p1), (2, .int x2)] [] m (k105 x2 m)) (h141 : ∀ (m : MM), Sm (QM Γ E emV 0 0) Γ E 3 0 0 141 [(0, va_rf (some th)), (1, va_rf p1)] [] m (k141 m)) (x2 : Int32) (m : MM) : Sm (QM Γ E emV 0 0) Γ E 3 0 0 105 [(0, va_rf (some th)), (1, va_rf p1), (2, .int x2)] [] m (g_X8_take_105 th p1 k105 k141 x2 m) := by
  unfold g_X8_take_105
  refine z_iload_n C dX8_take_105 rfl 2 rfl ?_
  refine z_aload_n C dX8_take_106 rfl 0 rfl ?_
  refine z_chk (fun hk1 => ?_)
  refine z_getR C fl_RX8_35 rfl hk1 dX8_take_107 ?_
  refine z_ck (fun a1 hr1 hk2 => ?_)
  refine z_alen C hr1 hk2 (by decide) (by decide) dX8_take_110 ?_
  refine z_icmp_ge (tgt := 141) C dX8_take_111 (by decide) (fun c1 => ?_) (fun c1 => ?_)
  · exact z_sub [0, 1] rfl (h141 m)
  · refine z_iload_n C dX8_take_114 rfl 2 rfl ?_
    refine z_aload_n C dX8_take_115 rfl 1 rfl ?_
    refine z_ck (fun a2 hr2 hk3 => ?_)
    refine z_getR C fl_RX8_35 hr2 hk3 dX8_take_116 ?_
    refine z_ck (fun a3 hr3 hk4 => ?_)
    refine z_alen C hr3 hk4 (by decide) (by decide) dX8_take_119 ?_
    refine z_icmp_ge (tgt := 141) C dX8_take_120 (by decide) (fun c2 => ?_) (fun c2 => ?_)
    · exact z_sub [0, 1] rfl (h141 m)
    · refine z_aload_n C dX8_take_123 rfl 0 rfl ?_
      refine z_getR C fl_RX8_35 rfl hk1 dX8_take_124 ?_
      refine z_iload_n C dX8_take_127 rfl 2 rfl ?_
      refine z_aload_n C dX8_take_128 rfl 1 rfl ?_
      refine z_getR C fl_RX8_35 hr2 hk3 dX8_take_129 ?_
      refine z_iload_n C dX8_take_132 rfl 2 rfl ?_
      refine z_chk (fun hj1 => ?_)
      refine z_iald C hr3 hk4 hj1 dX8_take_133 ?_
      refine z_chk (fun hj2 => ?_)
      refine z_iast C hr1 hk2 hj2 dX8_take_134 (fun m1 eK1 eN1 => ?_)
      refine z_iinc (v := 1) (L2 := [(2, .int (x2 + 1)), (0, va_rf (some th)), (1, va_rf p1)]) C dX8_take_135 2 rfl (by decide) (by decide) (by simp [cat_rf, cat_i, cat_l, cat_a]) ?_
      refine z_goto (tgt := 105) C dX8_take_138 (by decide) ?_
      exact z_sub [1, 2, 0] rfl (h105 (x2 + 1) m1)
def l_X8_take_105 (th : Nat) (p1 : Option Nat) (k141 : MM → Option (Unit × MM)) : Nat → Int32 → MM → Option (Unit × MM) := lp (fun _ _ => none) (fun k105 => g_X8_take_105 th p1 k105 k141)
theorem t_X8_take_105 {Γ : GX} {E : EX} (C : Cx Γ E cX8_take RX8 3) (hr : Γ.meth.sig.returnType = none) (hrm : Γ.rm = rmX8_take) (th : Nat) (p1 : Option Nat) (k141 : MM → Option (Unit × MM)) (h141 : ∀ (m : MM), Sm (QM Γ E emV 0 0) Γ E 3 0 0 141 [(0, va_rf (some th)), (1, va_rf p1)] [] m (k141 m)) : ∀ (n : Nat) (x2 : Int32) (m : MM), Sm (QM Γ E emV 0 0) Γ E 3 0 0 105 [(0, va_rf (some th)), (1, va_rf p1), (2, .int x2)] [] m (l_X8_take_105 th p1 k141 n x2 m) := by
  intro n
  induction n with
  | zero => intros; exact z_none
  | succ n ih => intro x2 m; exact s_X8_take_105 C hr hrm th p1 (l_X8_take_105 th p1 k141 n) k141 ih h141 x2 m
set_option maxRecDepth 100000 in
def g_X8_take_143 (th : Nat) (p1 : Option Nat) (k143 : Int32 → MM → Option (Unit × MM)) (x2 : Int32) (m : MM) : Option (Unit × MM) :=
  chk (m.K th = 9) (ck m (m.R 911 th 0) 22 (fun a4 => if (Int32.ofNat (m.N a4)) ≤ x2 then (some ((), m)) else (ck m p1 9 (fun a5 => ck m (m.R 911 a5 0) 22 (fun a6 => if (Int32.ofNat (m.N a6)) ≤ x2 then (some ((), m)) else (chk (inb x2 (m.N a6) = true) (chk (inb x2 (m.N a4) = true) (bnd (m.sI 22 a4 (Int32.toNatClampNeg x2) (m.I 22 a6 (Int32.toNatClampNeg x2))) (fun m2 => k143 (x2 + 1) m2)))))))))
set_option maxHeartbeats 4000000 in
set_option maxRecDepth 100000 in
theorem s_X8_take_143 {Γ : GX} {E : EX} (C : Cx Γ E cX8_take RX8 3) (hr : Γ.meth.sig.returnType = none) (hrm : Γ.rm = rmX8_take) (th : Nat) (p1 : Option Nat) (k143 : Int32 → MM → Option (Unit × MM)) (h143 : ∀ (x2 : Int32) (m : MM), Sm (QM Γ E emV 0 0) Γ E 3 0 0 143 [(0, va_rf (some th)), (1, va_rf p1), (2, .int x2)] [] m (k143 x2 m)) (x2 : Int32) (m : MM) : Sm (QM Γ E emV 0 0) Γ E 3 0 0 143 [(0, va_rf (some th)), (1, va_rf p1), (2, .int x2)] [] m (g_X8_take_143 th p1 k143 x2 m) := by
  unfold g_X8_take_143
  refine z_iload_n C dX8_take_143 rfl 2 rfl ?_
  refine z_aload_n C dX8_take_144 rfl 0 rfl ?_
  refine z_chk (fun hk5 => ?_)
  refine z_getR C fl_RX8_39 rfl hk5 dX8_take_145 ?_
  refine z_ck (fun a4 hr4 hk6 => ?_)
  refine z_alen C hr4 hk6 (by decide) (by decide) dX8_take_148 ?_
  refine z_icmp_ge (tgt := 179) C dX8_take_149 (by decide) (fun c3 => ?_) (fun c3 => ?_)
  · exact z_vret C hr dX8_take_179
  · refine z_iload_n C dX8_take_152 rfl 2 rfl ?_
    refine z_aload_n C dX8_take_153 rfl 1 rfl ?_
    refine z_ck (fun a5 hr5 hk7 => ?_)
    refine z_getR C fl_RX8_39 hr5 hk7 dX8_take_154 ?_
    refine z_ck (fun a6 hr6 hk8 => ?_)
    refine z_alen C hr6 hk8 (by decide) (by decide) dX8_take_157 ?_
    refine z_icmp_ge (tgt := 179) C dX8_take_158 (by decide) (fun c4 => ?_) (fun c4 => ?_)
    · exact z_vret C hr dX8_take_179
    · refine z_aload_n C dX8_take_161 rfl 0 rfl ?_
      refine z_getR C fl_RX8_39 rfl hk5 dX8_take_162 ?_
      refine z_iload_n C dX8_take_165 rfl 2 rfl ?_
      refine z_aload_n C dX8_take_166 rfl 1 rfl ?_
      refine z_getR C fl_RX8_39 hr5 hk7 dX8_take_167 ?_
      refine z_iload_n C dX8_take_170 rfl 2 rfl ?_
      refine z_chk (fun hj3 => ?_)
      refine z_iald C hr6 hk8 hj3 dX8_take_171 ?_
      refine z_chk (fun hj4 => ?_)
      refine z_iast C hr4 hk6 hj4 dX8_take_172 (fun m2 eK2 eN2 => ?_)
      refine z_iinc (v := 1) (L2 := [(2, .int (x2 + 1)), (0, va_rf (some th)), (1, va_rf p1)]) C dX8_take_173 2 rfl (by decide) (by decide) (by simp [cat_rf, cat_i, cat_l, cat_a]) ?_
      refine z_goto (tgt := 143) C dX8_take_176 (by decide) ?_
      exact z_sub [1, 2, 0] rfl (h143 (x2 + 1) m2)
def l_X8_take_143 (th : Nat) (p1 : Option Nat) : Nat → Int32 → MM → Option (Unit × MM) := lp (fun _ _ => none) (fun k143 => g_X8_take_143 th p1 k143)
theorem t_X8_take_143 {Γ : GX} {E : EX} (C : Cx Γ E cX8_take RX8 3) (hr : Γ.meth.sig.returnType = none) (hrm : Γ.rm = rmX8_take) (th : Nat) (p1 : Option Nat) : ∀ (n : Nat) (x2 : Int32) (m : MM), Sm (QM Γ E emV 0 0) Γ E 3 0 0 143 [(0, va_rf (some th)), (1, va_rf p1), (2, .int x2)] [] m (l_X8_take_143 th p1 n x2 m) := by
  intro n
  induction n with
  | zero => intros; exact z_none
  | succ n ih => intro x2 m; exact s_X8_take_143 C hr hrm th p1 (l_X8_take_143 th p1 n) ih x2 m
set_option maxRecDepth 100000 in
def g_X8_take_141 (th : Nat) (p1 : Option Nat) (m : MM) : Option (Unit × MM) :=
  l_X8_take_143 th p1 FU 0 m
set_option maxHeartbeats 4000000 in
set_option maxRecDepth 100000 in
theorem s_X8_take_141 {Γ : GX} {E : EX} (C : Cx Γ E cX8_take RX8 3) (hr : Γ.meth.sig.returnType = none) (hrm : Γ.rm = rmX8_take) (th : Nat) (p1 : Option Nat) (m : MM) : Sm (QM Γ E emV 0 0) Γ E 3 0 0 141 [(0, va_rf (some th)), (1, va_rf p1)] [] m (g_X8_take_141 th p1 m) := by
  unfold g_X8_take_141
  refine z_iconst (v := 0) C dX8_take_141 (by decide) ?_
  refine z_istore_n (i := 2) (L2 := [(2, .int 0), (0, va_rf (some th)), (1, va_rf p1)]) C dX8_take_142 rfl (by decide) (by simp [cat_rf, cat_i, cat_l, cat_a]) ?_
  exact z_sub [1, 2, 0] rfl (t_X8_take_143 C hr hrm th p1 FU 0 m)
set_option maxRecDepth 100000 in
def g_X8_take_0 (th : Nat) (p1 : Option Nat) (m : MM) : Option (Unit × MM) :=
  ifn p1 (some ((), m)) (fun a7 => chk (m.K a7 = 9) (chk (m.K th = 9) (bnd (m.sI 900 th 0 (m.I 900 a7 0)) (fun m3 => bnd (m3.sI 901 th 0 (m3.I 901 a7 0)) (fun m4 => bnd (m4.sI 902 th 0 (m4.I 902 a7 0)) (fun m5 => bnd (m5.sI 903 th 0 (m5.I 903 a7 0)) (fun m6 => ck m6 (m6.R 904 th 0) 7 (fun a8 => cal (f_X6_take a8 (m6.R 904 a7 0) m6) (fun r1 m7 => chk (m7.K th = 9) (chk (m7.K a7 = 9) (ck m7 (m7.R 905 th 0) 7 (fun a9 => cal (f_X6_take a9 (m7.R 905 a7 0) m7) (fun r2 m8 => chk (m8.K th = 9) (chk (m8.K a7 = 9) (ck m8 (m8.R 906 th 0) 7 (fun a10 => cal (f_X6_take a10 (m8.R 906 a7 0) m8) (fun r3 m9 => chk (m9.K th = 9) (chk (m9.K a7 = 9) (ck m9 (m9.R 907 th 0) 7 (fun a11 => cal (f_X6_take a11 (m9.R 907 a7 0) m9) (fun r4 m10 => chk (m10.K th = 9) (chk (m10.K a7 = 9) (ck m10 (m10.R 908 th 0) 7 (fun a12 => cal (f_X6_take a12 (m10.R 908 a7 0) m10) (fun r5 m11 => chk (m11.K th = 9) (chk (m11.K a7 = 9) (ck m11 (m11.R 909 th 0) 7 (fun a13 => cal (f_X6_take a13 (m11.R 909 a7 0) m11) (fun r6 m12 => l_X8_take_105 th p1 (g_X8_take_141 th p1) FU 0 m12)))))))))))))))))))))))))))))
set_option maxHeartbeats 4000000 in
set_option maxRecDepth 100000 in
theorem s_X8_take_0 {Γ : GX} {E : EX} (C : Cx Γ E cX8_take RX8 3) (hr : Γ.meth.sig.returnType = none) (hrm : Γ.rm = rmX8_take) (th : Nat) (p1 : Option Nat) (m : MM) : Sm (QM Γ E emV 0 0) Γ E 3 0 0 0 [(0, va_rf (some th)), (1, va_rf p1)] [] m (g_X8_take_0 th p1 m) := by
  unfold g_X8_take_0
  refine z_aload_n C dX8_take_0 rfl 1 rfl ?_
  refine z_ifnonnull (tgt := 5) C dX8_take_1 (by decide) (fun a7 ha1 => ?_) (fun hn1 => ?_)
  · refine z_aload_n C dX8_take_5 rfl 0 rfl ?_
    refine z_aload_n C dX8_take_6 rfl 1 rfl ?_
    refine z_chk (fun hk9 => ?_)
    refine z_getI C fl_RX8_42 ha1 hk9 dX8_take_7 ?_
    refine z_chk (fun hk10 => ?_)
    refine z_putI C fl_RX8_42 (fun h => by cases h) rfl hk10 rfl rfl dX8_take_10 (fun m3 eK3 eN3 => ?_)
    refine z_aload_n C dX8_take_13 rfl 0 rfl ?_
    refine z_aload_n C dX8_take_14 rfl 1 rfl ?_
    refine z_getI C fl_RX8_46 ha1 (kfw eK3 hk9) dX8_take_15 ?_
    refine z_putI C fl_RX8_46 (fun h => by cases h) rfl (kfw eK3 hk10) rfl rfl dX8_take_18 (fun m4 eK4 eN4 => ?_)
    refine z_aload_n C dX8_take_21 rfl 0 rfl ?_
    refine z_aload_n C dX8_take_22 rfl 1 rfl ?_
    refine z_getI C fl_RX8_49 ha1 (kfw eK4 (kfw eK3 hk9)) dX8_take_23 ?_
    refine z_putI C fl_RX8_49 (fun h => by cases h) rfl (kfw eK4 (kfw eK3 hk10)) rfl rfl dX8_take_26 (fun m5 eK5 eN5 => ?_)
    refine z_aload_n C dX8_take_29 rfl 0 rfl ?_
    refine z_aload_n C dX8_take_30 rfl 1 rfl ?_
    refine z_getI C fl_RX8_52 ha1 (kfw eK5 (kfw eK4 (kfw eK3 hk9))) dX8_take_31 ?_
    refine z_putI C fl_RX8_52 (fun h => by cases h) rfl (kfw eK5 (kfw eK4 (kfw eK3 hk10))) rfl rfl dX8_take_34 (fun m6 eK6 eN6 => ?_)
    refine z_aload_n C dX8_take_37 rfl 0 rfl ?_
    refine z_getR C fl_RX8_14 rfl (kfw eK6 (kfw eK5 (kfw eK4 (kfw eK3 hk10)))) dX8_take_38 ?_
    refine z_aload_n C dX8_take_41 rfl 1 rfl ?_
    refine z_getR C fl_RX8_14 ha1 (kfw eK6 (kfw eK5 (kfw eK4 (kfw eK3 hk9)))) dX8_take_42 ?_
    refine z_ck (fun a8 hr7 hk11 => ?_)
    refine z_cVV [va_rf (m6.R 904 a7 0)] [] C mv_RX8_58 (fun r0 m0 h0 => M_X6_take _ _ _ _ _ _ _ h0) rfl rfl ⟨by rw [hrm]; exact Nat.le_of_ble_eq_true rfl, by rw [hrm]; exact Nat.le_of_ble_eq_true rfl⟩ ⟨by rw [hrm]; exact Nat.le_of_ble_eq_true rfl, by rw [hrm]; exact Nat.le_of_ble_eq_true rfl⟩ hr7 hk11 rfl rfl rfl (Nat.le_of_ble_eq_true rfl) dX8_take_45 (fun r1 m7 => ?_)
    refine z_aload_n C dX8_take_48 rfl 0 rfl ?_
    refine z_chk (fun hk12 => ?_)
    refine z_getR C fl_RX8_20 rfl hk12 dX8_take_49 ?_
    refine z_aload_n C dX8_take_52 rfl 1 rfl ?_
    refine z_chk (fun hk13 => ?_)
    refine z_getR C fl_RX8_20 ha1 hk13 dX8_take_53 ?_
    refine z_ck (fun a9 hr8 hk14 => ?_)
    refine z_cVV [va_rf (m7.R 905 a7 0)] [] C mv_RX8_58 (fun r0 m0 h0 => M_X6_take _ _ _ _ _ _ _ h0) rfl rfl ⟨by rw [hrm]; exact Nat.le_of_ble_eq_true rfl, by rw [hrm]; exact Nat.le_of_ble_eq_true rfl⟩ ⟨by rw [hrm]; exact Nat.le_of_ble_eq_true rfl, by rw [hrm]; exact Nat.le_of_ble_eq_true rfl⟩ hr8 hk14 rfl rfl rfl (Nat.le_of_ble_eq_true rfl) dX8_take_56 (fun r2 m8 => ?_)
    refine z_aload_n C dX8_take_59 rfl 0 rfl ?_
    refine z_chk (fun hk15 => ?_)
    refine z_getR C fl_RX8_23 rfl hk15 dX8_take_60 ?_
    refine z_aload_n C dX8_take_63 rfl 1 rfl ?_
    refine z_chk (fun hk16 => ?_)
    refine z_getR C fl_RX8_23 ha1 hk16 dX8_take_64 ?_
    refine z_ck (fun a10 hr9 hk17 => ?_)
    refine z_cVV [va_rf (m8.R 906 a7 0)] [] C mv_RX8_58 (fun r0 m0 h0 => M_X6_take _ _ _ _ _ _ _ h0) rfl rfl ⟨by rw [hrm]; exact Nat.le_of_ble_eq_true rfl, by rw [hrm]; exact Nat.le_of_ble_eq_true rfl⟩ ⟨by rw [hrm]; exact Nat.le_of_ble_eq_true rfl, by rw [hrm]; exact Nat.le_of_ble_eq_true rfl⟩ hr9 hk17 rfl rfl rfl (Nat.le_of_ble_eq_true rfl) dX8_take_67 (fun r3 m9 => ?_)
    refine z_aload_n C dX8_take_70 rfl 0 rfl ?_
    refine z_chk (fun hk18 => ?_)
    refine z_getR C fl_RX8_26 rfl hk18 dX8_take_71 ?_
    refine z_aload_n C dX8_take_74 rfl 1 rfl ?_
    refine z_chk (fun hk19 => ?_)
    refine z_getR C fl_RX8_26 ha1 hk19 dX8_take_75 ?_
    refine z_ck (fun a11 hr10 hk20 => ?_)
    refine z_cVV [va_rf (m9.R 907 a7 0)] [] C mv_RX8_58 (fun r0 m0 h0 => M_X6_take _ _ _ _ _ _ _ h0) rfl rfl ⟨by rw [hrm]; exact Nat.le_of_ble_eq_true rfl, by rw [hrm]; exact Nat.le_of_ble_eq_true rfl⟩ ⟨by rw [hrm]; exact Nat.le_of_ble_eq_true rfl, by rw [hrm]; exact Nat.le_of_ble_eq_true rfl⟩ hr10 hk20 rfl rfl rfl (Nat.le_of_ble_eq_true rfl) dX8_take_78 (fun r4 m10 => ?_)
    refine z_aload_n C dX8_take_81 rfl 0 rfl ?_
    refine z_chk (fun hk21 => ?_)
    refine z_getR C fl_RX8_29 rfl hk21 dX8_take_82 ?_
    refine z_aload_n C dX8_take_85 rfl 1 rfl ?_
    refine z_chk (fun hk22 => ?_)
    refine z_getR C fl_RX8_29 ha1 hk22 dX8_take_86 ?_
    refine z_ck (fun a12 hr11 hk23 => ?_)
    refine z_cVV [va_rf (m10.R 908 a7 0)] [] C mv_RX8_58 (fun r0 m0 h0 => M_X6_take _ _ _ _ _ _ _ h0) rfl rfl ⟨by rw [hrm]; exact Nat.le_of_ble_eq_true rfl, by rw [hrm]; exact Nat.le_of_ble_eq_true rfl⟩ ⟨by rw [hrm]; exact Nat.le_of_ble_eq_true rfl, by rw [hrm]; exact Nat.le_of_ble_eq_true rfl⟩ hr11 hk23 rfl rfl rfl (Nat.le_of_ble_eq_true rfl) dX8_take_89 (fun r5 m11 => ?_)
    refine z_aload_n C dX8_take_92 rfl 0 rfl ?_
    refine z_chk (fun hk24 => ?_)
    refine z_getR C fl_RX8_32 rfl hk24 dX8_take_93 ?_
    refine z_aload_n C dX8_take_96 rfl 1 rfl ?_
    refine z_chk (fun hk25 => ?_)
    refine z_getR C fl_RX8_32 ha1 hk25 dX8_take_97 ?_
    refine z_ck (fun a13 hr12 hk26 => ?_)
    refine z_cVV [va_rf (m11.R 909 a7 0)] [] C mv_RX8_58 (fun r0 m0 h0 => M_X6_take _ _ _ _ _ _ _ h0) rfl rfl ⟨by rw [hrm]; exact Nat.le_of_ble_eq_true rfl, by rw [hrm]; exact Nat.le_of_ble_eq_true rfl⟩ ⟨by rw [hrm]; exact Nat.le_of_ble_eq_true rfl, by rw [hrm]; exact Nat.le_of_ble_eq_true rfl⟩ hr12 hk26 rfl rfl rfl (Nat.le_of_ble_eq_true rfl) dX8_take_100 (fun r6 m12 => ?_)
    refine z_iconst (v := 0) C dX8_take_103 (by decide) ?_
    refine z_istore_n (i := 2) (L2 := [(2, .int 0), (0, va_rf (some th)), (1, va_rf p1)]) C dX8_take_104 rfl (by decide) (by simp [cat_rf, cat_i, cat_l, cat_a]) ?_
    exact z_sub [1, 2, 0] rfl (t_X8_take_105 C hr hrm th p1 (g_X8_take_141 th p1) (s_X8_take_141 C hr hrm th p1) FU 0 m12)
  · exact z_vret C hr dX8_take_4
def f_X8_take (th : Nat) (p1 : Option Nat) (m : MM) : Option (Unit × MM) := g_X8_take_0 th p1 m
theorem M_X8_take (l : Launch) (E : EX) (th : Nat) (p1 : Option Nat) (m : MM) (r : Unit) (m2 : MM) (h : f_X8_take th p1 m = some (r, m2)) : Met l yX8_take (.code yX8_take cX8_take 3 none :: TB) rmX8_take (va_Pc [.ref th, va_rf p1] (St E m)) (QR E (emV r) m2) 0 0 (AA E) :=
  met_of (em := emV) (plainFor_of_name rfl) (by simp [lg_sl, cat_rf, cat_i, cat_l, cat_a]) (L0 := [(0, va_rf (some th)), (1, va_rf p1)]) (by simp [lv_args, cat_rf, cat_i, cat_l, cat_a] <;> rfl) (fun Γ _ hrm C hr hn => s_X8_take_0 C hr hrm th p1 m) h

theorem dX8_hasTwo_0 : decode cX8_hasTwo 0 = .ok (.aload_n 0, 1) := by decide +kernel
theorem dX8_hasTwo_1 : decode cX8_hasTwo 1 = .ok (.iload_n 1, 1) := by decide +kernel
theorem dX8_hasTwo_2 : decode cX8_hasTwo 2 = .ok (.invokevirtual 62, 3) := by decide +kernel
theorem dX8_hasTwo_5 : decode cX8_hasTwo 5 = .ok (.ifCond .eq 20, 3) := by decide +kernel
theorem dX8_hasTwo_8 : decode cX8_hasTwo 8 = .ok (.aload_n 0, 1) := by decide +kernel
theorem dX8_hasTwo_9 : decode cX8_hasTwo 9 = .ok (.iload_n 2, 1) := by decide +kernel
theorem dX8_hasTwo_10 : decode cX8_hasTwo 10 = .ok (.invokevirtual 62, 3) := by decide +kernel
theorem dX8_hasTwo_13 : decode cX8_hasTwo 13 = .ok (.ifCond .eq 12, 3) := by decide +kernel
theorem dX8_hasTwo_16 : decode cX8_hasTwo 16 = .ok (.iload_n 1, 1) := by decide +kernel
theorem dX8_hasTwo_17 : decode cX8_hasTwo 17 = .ok (.iload_n 2, 1) := by decide +kernel
theorem dX8_hasTwo_18 : decode cX8_hasTwo 18 = .ok (.if_icmp .eq 7, 3) := by decide +kernel
theorem dX8_hasTwo_21 : decode cX8_hasTwo 21 = .ok (.iconst 1, 1) := by decide +kernel
theorem dX8_hasTwo_22 : decode cX8_hasTwo 22 = .ok (.goto 4, 3) := by decide +kernel
theorem dX8_hasTwo_25 : decode cX8_hasTwo 25 = .ok (.iconst 0, 1) := by decide +kernel
theorem dX8_hasTwo_26 : decode cX8_hasTwo 26 = .ok (.ireturn, 1) := by decide +kernel
def rmX8_hasTwo : Room := { frames := 1, cells := 0, slots := 0, locals := 21 }
set_option maxRecDepth 100000 in
def g_X8_hasTwo_25 (th : Nat) (p1 : Int32) (p2 : Int32) (m : MM) : Option (Int32 × MM) :=
  some (0, m)
set_option maxHeartbeats 4000000 in
set_option maxRecDepth 100000 in
theorem s_X8_hasTwo_25 {Γ : GX} {E : EX} (C : Cx Γ E cX8_hasTwo RX8 3) (hr : Γ.meth.sig.returnType = (some .boolean)) (hrm : Γ.rm = rmX8_hasTwo) (th : Nat) (p1 : Int32) (p2 : Int32) (m : MM) : Sm (QM Γ E emI 0 0) Γ E 3 0 0 25 [(0, va_rf (some th)), (1, .int p1), (2, .int p2)] [] m (g_X8_hasTwo_25 th p1 p2 m) := by
  unfold g_X8_hasTwo_25
  refine z_iconst (v := 0) C dX8_hasTwo_25 (by decide) ?_
  exact z_zret C hr rfl dX8_hasTwo_26
set_option maxRecDepth 100000 in
def g_X8_hasTwo_0 (th : Nat) (p1 : Int32) (p2 : Int32) (m : MM) : Option (Int32 × MM) :=
  chk (m.K th = 9) (cal (f_X8_hasThing th p1 m) (fun r1 m1 => if r1 = 0 then (g_X8_hasTwo_25 th p1 p2 m1) else (chk (m1.K th = 9) (cal (f_X8_hasThing th p2 m1) (fun r2 m2 => if r2 = 0 then (g_X8_hasTwo_25 th p1 p2 m2) else (if p1 = p2 then (g_X8_hasTwo_25 th p1 p2 m2) else (some (1, m2))))))))
set_option maxHeartbeats 4000000 in
set_option maxRecDepth 100000 in
theorem s_X8_hasTwo_0 {Γ : GX} {E : EX} (C : Cx Γ E cX8_hasTwo RX8 3) (hr : Γ.meth.sig.returnType = (some .boolean)) (hrm : Γ.rm = rmX8_hasTwo) (th : Nat) (p1 : Int32) (p2 : Int32) (m : MM) : Sm (QM Γ E emI 0 0) Γ E 3 0 0 0 [(0, va_rf (some th)), (1, .int p1), (2, .int p2)] [] m (g_X8_hasTwo_0 th p1 p2 m) := by
  unfold g_X8_hasTwo_0
  refine z_aload_n C dX8_hasTwo_0 rfl 0 rfl ?_
  refine z_iload_n C dX8_hasTwo_1 rfl 1 rfl ?_
  refine z_chk (fun hk1 => ?_)
  refine z_cVI [.int p1] [] C mv_RX8_62 (fun r0 m0 h0 => M_X8_hasThing _ _ _ _ _ _ _ h0) rfl rfl ⟨by rw [hrm]; exact Nat.le_of_ble_eq_true rfl, by rw [hrm]; exact Nat.le_of_ble_eq_true rfl⟩ ⟨by rw [hrm]; exact Nat.le_of_ble_eq_true rfl, by rw [hrm]; exact Nat.le_of_ble_eq_true rfl⟩ rfl hk1 rfl rfl rfl (Nat.le_of_ble_eq_true rfl) dX8_hasTwo_2 (fun r1 m1 => ?_)
  refine z_if_eq (tgt := 25) C dX8_hasTwo_5 (by decide) (fun c1 => ?_) (fun c1 => ?_)
  · exact z_sub [0, 1, 2] rfl (s_X8_hasTwo_25 C hr hrm th p1 p2 m1)
  · refine z_aload_n C dX8_hasTwo_8 rfl 0 rfl ?_
    refine z_iload_n C dX8_hasTwo_9 rfl 2 rfl ?_
    refine z_chk (fun hk2 => ?_)
    refine z_cVI [.int p2] [] C mv_RX8_62 (fun r0 m0 h0 => M_X8_hasThing _ _ _ _ _ _ _ h0) rfl rfl ⟨by rw [hrm]; exact Nat.le_of_ble_eq_true rfl, by rw [hrm]; exact Nat.le_of_ble_eq_true rfl⟩ ⟨by rw [hrm]; exact Nat.le_of_ble_eq_true rfl, by rw [hrm]; exact Nat.le_of_ble_eq_true rfl⟩ rfl hk2 rfl rfl rfl (Nat.le_of_ble_eq_true rfl) dX8_hasTwo_10 (fun r2 m2 => ?_)
    refine z_if_eq (tgt := 25) C dX8_hasTwo_13 (by decide) (fun c2 => ?_) (fun c2 => ?_)
    · exact z_sub [0, 1, 2] rfl (s_X8_hasTwo_25 C hr hrm th p1 p2 m2)
    · refine z_iload_n C dX8_hasTwo_16 rfl 1 rfl ?_
      refine z_iload_n C dX8_hasTwo_17 rfl 2 rfl ?_
      refine z_icmp_eq (tgt := 25) C dX8_hasTwo_18 (by decide) (fun c3 => ?_) (fun c3 => ?_)
      · exact z_sub [0, 1, 2] rfl (s_X8_hasTwo_25 C hr hrm th p1 p2 m2)
      · refine z_iconst (v := 1) C dX8_hasTwo_21 (by decide) ?_
        refine z_goto (tgt := 26) C dX8_hasTwo_22 (by decide) ?_
        exact z_zret C hr rfl dX8_hasTwo_26
def f_X8_hasTwo (th : Nat) (p1 : Int32) (p2 : Int32) (m : MM) : Option (Int32 × MM) := g_X8_hasTwo_0 th p1 p2 m
theorem M_X8_hasTwo (l : Launch) (E : EX) (th : Nat) (p1 : Int32) (p2 : Int32) (m : MM) (r : Int32) (m2 : MM) (h : f_X8_hasTwo th p1 p2 m = some (r, m2)) : Met l yX8_hasTwo (.code yX8_hasTwo cX8_hasTwo 3 (some .boolean) :: TB) rmX8_hasTwo (va_Pc [.ref th, .int p1, .int p2] (St E m)) (QR E (emI r) m2) 0 0 (AA E) :=
  met_of (em := emI) (plainFor_of_name rfl) (Nat.le_of_ble_eq_true rfl) (L0 := [(0, va_rf (some th)), (1, .int p1), (2, .int p2)]) rfl (fun Γ _ hrm C hr hn => s_X8_hasTwo_0 C hr hrm th p1 p2 m) h

theorem dX8_changesOn_0 : decode cX8_changesOn 0 = .ok (.iconst 0, 1) := by decide +kernel
theorem dX8_changesOn_1 : decode cX8_changesOn 1 = .ok (.istore_n 2, 1) := by decide +kernel
theorem dX8_changesOn_2 : decode cX8_changesOn 2 = .ok (.iload_n 2, 1) := by decide +kernel
theorem dX8_changesOn_3 : decode cX8_changesOn 3 = .ok (.aload_n 0, 1) := by decide +kernel
theorem dX8_changesOn_4 : decode cX8_changesOn 4 = .ok (.getfield 14, 3) := by decide +kernel
theorem dX8_changesOn_7 : decode cX8_changesOn 7 = .ok (.getfield 55, 3) := by decide +kernel
theorem dX8_changesOn_10 : decode cX8_changesOn 10 = .ok (.if_icmp .ge 57, 3) := by decide +kernel
theorem dX8_changesOn_13 : decode cX8_changesOn 13 = .ok (.aload_n 0, 1) := by decide +kernel
theorem dX8_changesOn_14 : decode cX8_changesOn 14 = .ok (.getfield 14, 3) := by decide +kernel
theorem dX8_changesOn_17 : decode cX8_changesOn 17 = .ok (.iload_n 2, 1) := by decide +kernel
theorem dX8_changesOn_18 : decode cX8_changesOn 18 = .ok (.iconst 4, 1) := by decide +kernel
theorem dX8_changesOn_19 : decode cX8_changesOn 19 = .ok (.invokevirtual 66, 3) := by decide +kernel
theorem dX8_changesOn_22 : decode cX8_changesOn 22 = .ok (.iload_n 1, 1) := by decide +kernel
theorem dX8_changesOn_23 : decode cX8_changesOn 23 = .ok (.if_icmp .eq 17, 3) := by decide +kernel
theorem dX8_changesOn_26 : decode cX8_changesOn 26 = .ok (.aload_n 0, 1) := by decide +kernel
theorem dX8_changesOn_27 : decode cX8_changesOn 27 = .ok (.getfield 14, 3) := by decide +kernel
theorem dX8_changesOn_30 : decode cX8_changesOn 30 = .ok (.iload_n 2, 1) := by decide +kernel
theorem dX8_changesOn_31 : decode cX8_changesOn 31 = .ok (.bipush 7, 2) := by decide +kernel
theorem dX8_changesOn_33 : decode cX8_changesOn 33 = .ok (.invokevirtual 66, 3) := by decide +kernel
theorem dX8_changesOn_36 : decode cX8_changesOn 36 = .ok (.iload_n 1, 1) := by decide +kernel
theorem dX8_changesOn_37 : decode cX8_changesOn 37 = .ok (.if_icmp .ne 5, 3) := by decide +kernel
theorem dX8_changesOn_40 : decode cX8_changesOn 40 = .ok (.iconst 1, 1) := by decide +kernel
theorem dX8_changesOn_41 : decode cX8_changesOn 41 = .ok (.ireturn, 1) := by decide +kernel
theorem dX8_changesOn_42 : decode cX8_changesOn 42 = .ok (.aload_n 0, 1) := by decide +kernel
theorem dX8_changesOn_43 : decode cX8_changesOn 43 = .ok (.iload_n 2, 1) := by decide +kernel
theorem dX8_changesOn_44 : decode cX8_changesOn 44 = .ok (.iload_n 1, 1) := by decide +kernel
theorem dX8_changesOn_45 : decode cX8_changesOn 45 = .ok (.invokevirtual 78, 3) := by decide +kernel
theorem dX8_changesOn_48 : decode cX8_changesOn 48 = .ok (.aload_n 0, 1) := by decide +kernel
theorem dX8_changesOn_49 : decode cX8_changesOn 49 = .ok (.iload_n 2, 1) := by decide +kernel
theorem dX8_changesOn_50 : decode cX8_changesOn 50 = .ok (.iload_n 1, 1) := by decide +kernel
theorem dX8_changesOn_51 : decode cX8_changesOn 51 = .ok (.iconst 1, 1) := by decide +kernel
theorem dX8_changesOn_52 : decode cX8_changesOn 52 = .ok (.isub, 1) := by decide +kernel
theorem dX8_changesOn_53 : decode cX8_changesOn 53 = .ok (.invokevirtual 78, 3) := by decide +kernel
theorem dX8_changesOn_56 : decode cX8_changesOn 56 = .ok (.if_icmp .eq 5, 3) := by decide +kernel
theorem dX8_changesOn_59 : decode cX8_changesOn 59 = .ok (.iconst 1, 1) := by decide +kernel
theorem dX8_changesOn_60 : decode cX8_changesOn 60 = .ok (.ireturn, 1) := by decide +kernel
theorem dX8_changesOn_61 : decode cX8_changesOn 61 = .ok (.iinc 2 1, 3) := by decide +kernel
theorem dX8_changesOn_64 : decode cX8_changesOn 64 = .ok (.goto (-62), 3) := by decide +kernel
theorem dX8_changesOn_67 : decode cX8_changesOn 67 = .ok (.iconst 0, 1) := by decide +kernel
theorem dX8_changesOn_68 : decode cX8_changesOn 68 = .ok (.istore_n 2, 1) := by decide +kernel
theorem dX8_changesOn_69 : decode cX8_changesOn 69 = .ok (.iload_n 2, 1) := by decide +kernel
theorem dX8_changesOn_70 : decode cX8_changesOn 70 = .ok (.aload_n 0, 1) := by decide +kernel
theorem dX8_changesOn_71 : decode cX8_changesOn 71 = .ok (.getfield 20, 3) := by decide +kernel
theorem dX8_changesOn_74 : decode cX8_changesOn 74 = .ok (.getfield 55, 3) := by decide +kernel
theorem dX8_changesOn_77 : decode cX8_changesOn 77 = .ok (.if_icmp .ge 24, 3) := by decide +kernel
theorem dX8_changesOn_80 : decode cX8_changesOn 80 = .ok (.aload_n 0, 1) := by decide +kernel
theorem dX8_changesOn_81 : decode cX8_changesOn 81 = .ok (.getfield 20, 3) := by decide +kernel
theorem dX8_changesOn_84 : decode cX8_changesOn 84 = .ok (.iload_n 2, 1) := by decide +kernel
theorem dX8_changesOn_85 : decode cX8_changesOn 85 = .ok (.iconst 4, 1) := by decide +kernel
theorem dX8_changesOn_86 : decode cX8_changesOn 86 = .ok (.invokevirtual 66, 3) := by decide +kernel
theorem dX8_changesOn_89 : decode cX8_changesOn 89 = .ok (.iload_n 1, 1) := by decide +kernel
theorem dX8_changesOn_90 : decode cX8_changesOn 90 = .ok (.if_icmp .ne 5, 3) := by decide +kernel
theorem dX8_changesOn_93 : decode cX8_changesOn 93 = .ok (.iconst 1, 1) := by decide +kernel
theorem dX8_changesOn_94 : decode cX8_changesOn 94 = .ok (.ireturn, 1) := by decide +kernel
theorem dX8_changesOn_95 : decode cX8_changesOn 95 = .ok (.iinc 2 1, 3) := by decide +kernel
theorem dX8_changesOn_98 : decode cX8_changesOn 98 = .ok (.goto (-29), 3) := by decide +kernel
theorem dX8_changesOn_101 : decode cX8_changesOn 101 = .ok (.iconst 0, 1) := by decide +kernel
theorem dX8_changesOn_102 : decode cX8_changesOn 102 = .ok (.ireturn, 1) := by decide +kernel
def rmX8_changesOn : Room := { frames := 2, cells := 0, slots := 0, locals := 48 }
set_option maxRecDepth 100000 in
def g_X8_changesOn_2 (th : Nat) (p1 : Int32) (k2 : Int32 → MM → Option (Int32 × MM)) (k67 : MM → Option (Int32 × MM)) (x2 : Int32) (m : MM) : Option (Int32 × MM) :=
  chk (m.K th = 9) (ck m (m.R 904 th 0) 7 (fun a1 => if (m.I 703 a1 0) ≤ x2 then (k67 m) else (cal (f_X6_cell a1 x2 4 m) (fun r1 m1 => if r1 = p1 then (some (1, m1)) else (chk (m1.K th = 9) (ck m1 (m1.R 904 th 0) 7 (fun a2 => cal (f_X6_cell a2 x2 7 m1) (fun r2 m2 => if r2 = p1 then (some (1, m2)) else (chk (m2.K th = 9) (cal (f_X8_growth th x2 p1 m2) (fun r3 m3 => chk (m3.K th = 9) (cal (f_X8_growth th x2 (p1 - 1) m3) (fun r4 m4 => if r3 = r4 then (k2 (x2 + 1) m4) else (some (1, m4)))))))))))))))
set_option maxHeartbeats 4000000 in
set_option maxRecDepth 100000 in
theorem s_X8_changesOn_2 {Γ : GX} {E : EX} (C : Cx Γ E cX8_changesOn RX8 3) (hr : Γ.meth.sig.returnType = (some .boolean)) (hrm : Γ.rm = rmX8_changesOn) (th : Nat) (p1 : Int32) (k2 : Int32 → MM → Option (Int32 × MM)) (k67 : MM → Option (Int32 × MM)) (h2 : ∀ (x2 : Int32) (m : MM), Sm (QM Γ E emI 0 0) Γ E 3 0 0 2 [(0, va_rf (some th)), (1, .int p1), (2, .int x2)] [] m (k2 x2 m)) (h67 : ∀ (m : MM), Sm (QM Γ E emI 0 0) Γ E 3 0 0 67 [(0, va_rf (some th)), (1, .int p1)] [] m (k67 m)) (x2 : Int32) (m : MM) : Sm (QM Γ E emI 0 0) Γ E 3 0 0 2 [(0, va_rf (some th)), (1, .int p1), (2, .int x2)] [] m (g_X8_changesOn_2 th p1 k2 k67 x2 m) := by
  unfold g_X8_changesOn_2
  refine z_iload_n C dX8_changesOn_2 rfl 2 rfl ?_
  refine z_aload_n C dX8_changesOn_3 rfl 0 rfl ?_
  refine z_chk (fun hk1 => ?_)
  refine z_getR C fl_RX8_14 rfl hk1 dX8_changesOn_4 ?_
  refine z_ck (fun a1 hr1 hk2 => ?_)
  refine z_getI C fl_RX8_55 hr1 hk2 dX8_changesOn_7 ?_
  refine z_icmp_ge (tgt := 67) C dX8_changesOn_10 (by decide) (fun c1 => ?_) (fun c1 => ?_)
  · exact z_sub [0, 1] rfl (h67 m)
  · refine z_aload_n C dX8_changesOn_13 rfl 0 rfl ?_
    refine z_getR C fl_RX8_14 rfl hk1 dX8_changesOn_14 ?_
    refine z_iload_n C dX8_changesOn_17 rfl 2 rfl ?_
    refine z_iconst (v := 4) C dX8_changesOn_18 (by decide) ?_
    refine z_cVI [.int x2, .int 4] [] C mv_RX8_66 (fun r0 m0 h0 => M_X6_cell _ _ _ _ _ _ _ _ h0) rfl rfl ⟨by rw [hrm]; exact Nat.le_of_ble_eq_true rfl, by rw [hrm]; exact Nat.le_of_ble_eq_true rfl⟩ ⟨by rw [hrm]; exact Nat.le_of_ble_eq_true rfl, by rw [hrm]; exact Nat.le_of_ble_eq_true rfl⟩ hr1 hk2 rfl rfl rfl (Nat.le_of_ble_eq_true rfl) dX8_changesOn_19 (fun r1 m1 => ?_)
    refine z_iload_n C dX8_changesOn_22 rfl 1 rfl ?_
    refine z_icmp_eq (tgt := 40) C dX8_changesOn_23 (by decide) (fun c2 => ?_) (fun c2 => ?_)
    · refine z_iconst (v := 1) C dX8_changesOn_40 (by decide) ?_
      exact z_zret C hr rfl dX8_changesOn_41
    · refine z_aload_n C dX8_changesOn_26 rfl 0 rfl ?_
      refine z_chk (fun hk3 => ?_)
      refine z_getR C fl_RX8_14 rfl hk3 dX8_changesOn_27 ?_
      refine z_iload_n C dX8_changesOn_30 rfl 2 rfl ?_
      refine z_bipush (v := 7) C dX8_changesOn_31 (by decide) ?_
      refine z_ck (fun a2 hr2 hk4 => ?_)
      refine z_cVI [.int x2, .int 7] [] C mv_RX8_66 (fun r0 m0 h0 => M_X6_cell _ _ _ _ _ _ _ _ h0) rfl rfl ⟨by rw [hrm]; exact Nat.le_of_ble_eq_true rfl, by rw [hrm]; exact Nat.le_of_ble_eq_true rfl⟩ ⟨by rw [hrm]; exact Nat.le_of_ble_eq_true rfl, by rw [hrm]; exact Nat.le_of_ble_eq_true rfl⟩ hr2 hk4 rfl rfl rfl (Nat.le_of_ble_eq_true rfl) dX8_changesOn_33 (fun r2 m2 => ?_)
      refine z_iload_n C dX8_changesOn_36 rfl 1 rfl ?_
      refine z_icmp_ne (tgt := 42) C dX8_changesOn_37 (by decide) (fun c3 => ?_) (fun c3 => ?_)
      · refine z_aload_n C dX8_changesOn_42 rfl 0 rfl ?_
        refine z_iload_n C dX8_changesOn_43 rfl 2 rfl ?_
        refine z_iload_n C dX8_changesOn_44 rfl 1 rfl ?_
        refine z_chk (fun hk5 => ?_)
        refine z_cVI [.int x2, .int p1] [] C mv_RX8_78 (fun r0 m0 h0 => M_X8_growth _ _ _ _ _ _ _ _ h0) rfl rfl ⟨by rw [hrm]; exact Nat.le_of_ble_eq_true rfl, by rw [hrm]; exact Nat.le_of_ble_eq_true rfl⟩ ⟨by rw [hrm]; exact Nat.le_of_ble_eq_true rfl, by rw [hrm]; exact Nat.le_of_ble_eq_true rfl⟩ rfl hk5 rfl rfl rfl (Nat.le_of_ble_eq_true rfl) dX8_changesOn_45 (fun r3 m3 => ?_)
        refine z_aload_n C dX8_changesOn_48 rfl 0 rfl ?_
        refine z_iload_n C dX8_changesOn_49 rfl 2 rfl ?_
        refine z_iload_n C dX8_changesOn_50 rfl 1 rfl ?_
        refine z_iconst (v := 1) C dX8_changesOn_51 (by decide) ?_
        refine z_isub C dX8_changesOn_52 ?_
        refine z_chk (fun hk6 => ?_)
        refine z_cVI [.int x2, .int (p1 - 1)] [.int r3] C mv_RX8_78 (fun r0 m0 h0 => M_X8_growth _ _ _ _ _ _ _ _ h0) rfl rfl ⟨by rw [hrm]; exact Nat.le_of_ble_eq_true rfl, by rw [hrm]; exact Nat.le_of_ble_eq_true rfl⟩ ⟨by rw [hrm]; exact Nat.le_of_ble_eq_true rfl, by rw [hrm]; exact Nat.le_of_ble_eq_true rfl⟩ rfl hk6 rfl rfl rfl (Nat.le_of_ble_eq_true rfl) dX8_changesOn_53 (fun r4 m4 => ?_)
        refine z_icmp_eq (tgt := 61) C dX8_changesOn_56 (by decide) (fun c4 => ?_) (fun c4 => ?_)
        · refine z_iinc (v := 1) (L2 := [(2, .int (x2 + 1)), (0, va_rf (some th)), (1, .int p1)]) C dX8_changesOn_61 2 rfl (by decide) (by decide) rfl ?_
          refine z_goto (tgt := 2) C dX8_changesOn_64 (by decide) ?_
          exact z_sub [1, 2, 0] rfl (h2 (x2 + 1) m4)
        · refine z_iconst (v := 1) C dX8_changesOn_59 (by decide) ?_
          exact z_zret C hr rfl dX8_changesOn_60
      · refine z_iconst (v := 1) C dX8_changesOn_40 (by decide) ?_
        exact z_zret C hr rfl dX8_changesOn_41
def l_X8_changesOn_2 (th : Nat) (p1 : Int32) (k67 : MM → Option (Int32 × MM)) : Nat → Int32 → MM → Option (Int32 × MM) := lp (fun _ _ => none) (fun k2 => g_X8_changesOn_2 th p1 k2 k67)
theorem t_X8_changesOn_2 {Γ : GX} {E : EX} (C : Cx Γ E cX8_changesOn RX8 3) (hr : Γ.meth.sig.returnType = (some .boolean)) (hrm : Γ.rm = rmX8_changesOn) (th : Nat) (p1 : Int32) (k67 : MM → Option (Int32 × MM)) (h67 : ∀ (m : MM), Sm (QM Γ E emI 0 0) Γ E 3 0 0 67 [(0, va_rf (some th)), (1, .int p1)] [] m (k67 m)) : ∀ (n : Nat) (x2 : Int32) (m : MM), Sm (QM Γ E emI 0 0) Γ E 3 0 0 2 [(0, va_rf (some th)), (1, .int p1), (2, .int x2)] [] m (l_X8_changesOn_2 th p1 k67 n x2 m) := by
  intro n
  induction n with
  | zero => intros; exact z_none
  | succ n ih => intro x2 m; exact s_X8_changesOn_2 C hr hrm th p1 (l_X8_changesOn_2 th p1 k67 n) k67 ih h67 x2 m
set_option maxRecDepth 100000 in
def g_X8_changesOn_69 (th : Nat) (p1 : Int32) (k69 : Int32 → MM → Option (Int32 × MM)) (x2 : Int32) (m : MM) : Option (Int32 × MM) :=
  chk (m.K th = 9) (ck m (m.R 905 th 0) 7 (fun a3 => if (m.I 703 a3 0) ≤ x2 then (some (0, m)) else (cal (f_X6_cell a3 x2 4 m) (fun r5 m5 => if r5 = p1 then (some (1, m5)) else (k69 (x2 + 1) m5)))))
set_option maxHeartbeats 4000000 in
set_option maxRecDepth 100000 in
theorem s_X8_changesOn_69 {Γ : GX} {E : EX} (C : Cx Γ E cX8_changesOn RX8 3) (hr : Γ.meth.sig.returnType = (some .boolean)) (hrm : Γ.rm = rmX8_changesOn) (th : Nat) (p1 : Int32) (k69 : Int32 → MM → Option (Int32 × MM)) (h69 : ∀ (x2 : Int32) (m : MM), Sm (QM Γ E emI 0 0) Γ E 3 0 0 69 [(0, va_rf (some th)), (1, .int p1), (2, .int x2)] [] m (k69 x2 m)) (x2 : Int32) (m : MM) : Sm (QM Γ E emI 0 0) Γ E 3 0 0 69 [(0, va_rf (some th)), (1, .int p1), (2, .int x2)] [] m (g_X8_changesOn_69 th p1 k69 x2 m) := by
  unfold g_X8_changesOn_69
  refine z_iload_n C dX8_changesOn_69 rfl 2 rfl ?_
  refine z_aload_n C dX8_changesOn_70 rfl 0 rfl ?_
  refine z_chk (fun hk7 => ?_)
  refine z_getR C fl_RX8_20 rfl hk7 dX8_changesOn_71 ?_
  refine z_ck (fun a3 hr3 hk8 => ?_)
  refine z_getI C fl_RX8_55 hr3 hk8 dX8_changesOn_74 ?_
  refine z_icmp_ge (tgt := 101) C dX8_changesOn_77 (by decide) (fun c5 => ?_) (fun c5 => ?_)
  · refine z_iconst (v := 0) C dX8_changesOn_101 (by decide) ?_
    exact z_zret C hr rfl dX8_changesOn_102
  · refine z_aload_n C dX8_changesOn_80 rfl 0 rfl ?_
    refine z_getR C fl_RX8_20 rfl hk7 dX8_changesOn_81 ?_
    refine z_iload_n C dX8_changesOn_84 rfl 2 rfl ?_
    refine z_iconst (v := 4) C dX8_changesOn_85 (by decide) ?_
    refine z_cVI [.int x2, .int 4] [] C mv_RX8_66 (fun r0 m0 h0 => M_X6_cell _ _ _ _ _ _ _ _ h0) rfl rfl ⟨by rw [hrm]; exact Nat.le_of_ble_eq_true rfl, by rw [hrm]; exact Nat.le_of_ble_eq_true rfl⟩ ⟨by rw [hrm]; exact Nat.le_of_ble_eq_true rfl, by rw [hrm]; exact Nat.le_of_ble_eq_true rfl⟩ hr3 hk8 rfl rfl rfl (Nat.le_of_ble_eq_true rfl) dX8_changesOn_86 (fun r5 m5 => ?_)
    refine z_iload_n C dX8_changesOn_89 rfl 1 rfl ?_
    refine z_icmp_ne (tgt := 95) C dX8_changesOn_90 (by decide) (fun c6 => ?_) (fun c6 => ?_)
    · refine z_iinc (v := 1) (L2 := [(2, .int (x2 + 1)), (0, va_rf (some th)), (1, .int p1)]) C dX8_changesOn_95 2 rfl (by decide) (by decide) rfl ?_
      refine z_goto (tgt := 69) C dX8_changesOn_98 (by decide) ?_
      exact z_sub [1, 2, 0] rfl (h69 (x2 + 1) m5)
    · refine z_iconst (v := 1) C dX8_changesOn_93 (by decide) ?_
      exact z_zret C hr rfl dX8_changesOn_94
def l_X8_changesOn_69 (th : Nat) (p1 : Int32) : Nat → Int32 → MM → Option (Int32 × MM) := lp (fun _ _ => none) (fun k69 => g_X8_changesOn_69 th p1 k69)
theorem t_X8_changesOn_69 {Γ : GX} {E : EX} (C : Cx Γ E cX8_changesOn RX8 3) (hr : Γ.meth.sig.returnType = (some .boolean)) (hrm : Γ.rm = rmX8_changesOn) (th : Nat) (p1 : Int32) : ∀ (n : Nat) (x2 : Int32) (m : MM), Sm (QM Γ E emI 0 0) Γ E 3 0 0 69 [(0, va_rf (some th)), (1, .int p1), (2, .int x2)] [] m (l_X8_changesOn_69 th p1 n x2 m) := by
  intro n
  induction n with
  | zero => intros; exact z_none
  | succ n ih => intro x2 m; exact s_X8_changesOn_69 C hr hrm th p1 (l_X8_changesOn_69 th p1 n) ih x2 m
set_option maxRecDepth 100000 in
def g_X8_changesOn_67 (th : Nat) (p1 : Int32) (m : MM) : Option (Int32 × MM) :=
  l_X8_changesOn_69 th p1 FU 0 m
set_option maxHeartbeats 4000000 in
set_option maxRecDepth 100000 in
theorem s_X8_changesOn_67 {Γ : GX} {E : EX} (C : Cx Γ E cX8_changesOn RX8 3) (hr : Γ.meth.sig.returnType = (some .boolean)) (hrm : Γ.rm = rmX8_changesOn) (th : Nat) (p1 : Int32) (m : MM) : Sm (QM Γ E emI 0 0) Γ E 3 0 0 67 [(0, va_rf (some th)), (1, .int p1)] [] m (g_X8_changesOn_67 th p1 m) := by
  unfold g_X8_changesOn_67
  refine z_iconst (v := 0) C dX8_changesOn_67 (by decide) ?_
  refine z_istore_n (i := 2) (L2 := [(2, .int 0), (0, va_rf (some th)), (1, .int p1)]) C dX8_changesOn_68 rfl (by decide) rfl ?_
  exact z_sub [1, 2, 0] rfl (t_X8_changesOn_69 C hr hrm th p1 FU 0 m)
set_option maxRecDepth 100000 in
def g_X8_changesOn_0 (th : Nat) (p1 : Int32) (m : MM) : Option (Int32 × MM) :=
  l_X8_changesOn_2 th p1 (g_X8_changesOn_67 th p1) FU 0 m
set_option maxHeartbeats 4000000 in
set_option maxRecDepth 100000 in
theorem s_X8_changesOn_0 {Γ : GX} {E : EX} (C : Cx Γ E cX8_changesOn RX8 3) (hr : Γ.meth.sig.returnType = (some .boolean)) (hrm : Γ.rm = rmX8_changesOn) (th : Nat) (p1 : Int32) (m : MM) : Sm (QM Γ E emI 0 0) Γ E 3 0 0 0 [(0, va_rf (some th)), (1, .int p1)] [] m (g_X8_changesOn_0 th p1 m) := by
  unfold g_X8_changesOn_0
  refine z_iconst (v := 0) C dX8_changesOn_0 (by decide) ?_
  refine z_istore_n (i := 2) (L2 := [(2, .int 0), (0, va_rf (some th)), (1, .int p1)]) C dX8_changesOn_1 rfl (by decide) rfl ?_
  exact z_sub [1, 2, 0] rfl (t_X8_changesOn_2 C hr hrm th p1 (g_X8_changesOn_67 th p1) (s_X8_changesOn_67 C hr hrm th p1) FU 0 m)
def f_X8_changesOn (th : Nat) (p1 : Int32) (m : MM) : Option (Int32 × MM) := g_X8_changesOn_0 th p1 m
theorem M_X8_changesOn (l : Launch) (E : EX) (th : Nat) (p1 : Int32) (m : MM) (r : Int32) (m2 : MM) (h : f_X8_changesOn th p1 m = some (r, m2)) : Met l yX8_changesOn (.code yX8_changesOn cX8_changesOn 3 (some .boolean) :: TB) rmX8_changesOn (va_Pc [.ref th, .int p1] (St E m)) (QR E (emI r) m2) 0 0 (AA E) :=
  met_of (em := emI) (plainFor_of_name rfl) (Nat.le_of_ble_eq_true rfl) (L0 := [(0, va_rf (some th)), (1, .int p1)]) rfl (fun Γ _ hrm C hr hn => s_X8_changesOn_0 C hr hrm th p1 m) h

theorem dX8_windIn_0 : decode cX8_windIn 0 = .ok (.iload_n 1, 1) := by decide +kernel
theorem dX8_windIn_1 : decode cX8_windIn 1 = .ok (.ifCond .lt 21, 3) := by decide +kernel
theorem dX8_windIn_4 : decode cX8_windIn 4 = .ok (.iload_n 1, 1) := by decide +kernel
theorem dX8_windIn_5 : decode cX8_windIn 5 = .ok (.aload_n 0, 1) := by decide +kernel
theorem dX8_windIn_6 : decode cX8_windIn 6 = .ok (.getfield 35, 3) := by decide +kernel
theorem dX8_windIn_9 : decode cX8_windIn 9 = .ok (.arraylength, 1) := by decide +kernel
theorem dX8_windIn_10 : decode cX8_windIn 10 = .ok (.if_icmp .ge 12, 3) := by decide +kernel
theorem dX8_windIn_13 : decode cX8_windIn 13 = .ok (.aload_n 0, 1) := by decide +kernel
theorem dX8_windIn_14 : decode cX8_windIn 14 = .ok (.getfield 35, 3) := by decide +kernel
theorem dX8_windIn_17 : decode cX8_windIn 17 = .ok (.iload_n 1, 1) := by decide +kernel
theorem dX8_windIn_18 : decode cX8_windIn 18 = .ok (.iaload, 1) := by decide +kernel
theorem dX8_windIn_19 : decode cX8_windIn 19 = .ok (.goto 4, 3) := by decide +kernel
theorem dX8_windIn_22 : decode cX8_windIn 22 = .ok (.iconst (-1), 1) := by decide +kernel
theorem dX8_windIn_23 : decode cX8_windIn 23 = .ok (.ireturn, 1) := by decide +kernel
def rmX8_windIn : Room := { frames := 0, cells := 0, slots := 0, locals := 0 }
set_option maxRecDepth 100000 in
def g_X8_windIn_22 (th : Nat) (p1 : Int32) (m : MM) : Option (Int32 × MM) :=
  some ((-1), m)
set_option maxHeartbeats 4000000 in
set_option maxRecDepth 100000 in
theorem s_X8_windIn_22 {Γ : GX} {E : EX} (C : Cx Γ E cX8_windIn RX8 2) (hr : Γ.meth.sig.returnType = (some .int)) (hrm : Γ.rm = rmX8_windIn) (th : Nat) (p1 : Int32) (m : MM) : Sm (QM Γ E emI 0 0) Γ E 2 0 0 22 [(0, va_rf (some th)), (1, .int p1)] [] m (g_X8_windIn_22 th p1 m) := by
  unfold g_X8_windIn_22
  refine z_iconst (v := (-1)) C dX8_windIn_22 (by decide) ?_
  exact z_iret C hr dX8_windIn_23
set_option maxRecDepth 100000 in
def g_X8_windIn_0 (th : Nat) (p1 : Int32) (m : MM) : Option (Int32 × MM) :=
  if p1 < 0 then (g_X8_windIn_22 th p1 m) else (chk (m.K th = 9) (ck m (m.R 910 th 0) 22 (fun a1 => if (Int32.ofNat (m.N a1)) ≤ p1 then (g_X8_windIn_22 th p1 m) else (chk (inb p1 (m.N a1) = true) (some (m.I 22 a1 (Int32.toNatClampNeg p1), m))))))
set_option maxHeartbeats 4000000 in
set_option maxRecDepth 100000 in
theorem s_X8_windIn_0 {Γ : GX} {E : EX} (C : Cx Γ E cX8_windIn RX8 2) (hr : Γ.meth.sig.returnType = (some .int)) (hrm : Γ.rm = rmX8_windIn) (th : Nat) (p1 : Int32) (m : MM) : Sm (QM Γ E emI 0 0) Γ E 2 0 0 0 [(0, va_rf (some th)), (1, .int p1)] [] m (g_X8_windIn_0 th p1 m) := by
  unfold g_X8_windIn_0
  refine z_iload_n C dX8_windIn_0 rfl 1 rfl ?_
  refine z_if_lt (tgt := 22) C dX8_windIn_1 (by decide) (fun c1 => ?_) (fun c1 => ?_)
  · exact z_sub [0, 1] rfl (s_X8_windIn_22 C hr hrm th p1 m)
  · refine z_iload_n C dX8_windIn_4 rfl 1 rfl ?_
    refine z_aload_n C dX8_windIn_5 rfl 0 rfl ?_
    refine z_chk (fun hk1 => ?_)
    refine z_getR C fl_RX8_35 rfl hk1 dX8_windIn_6 ?_
    refine z_ck (fun a1 hr1 hk2 => ?_)
    refine z_alen C hr1 hk2 (by decide) (by decide) dX8_windIn_9 ?_
    refine z_icmp_ge (tgt := 22) C dX8_windIn_10 (by decide) (fun c2 => ?_) (fun c2 => ?_)
    · exact z_sub [0, 1] rfl (s_X8_windIn_22 C hr hrm th p1 m)
    · refine z_aload_n C dX8_windIn_13 rfl 0 rfl ?_
      refine z_getR C fl_RX8_35 rfl hk1 dX8_windIn_14 ?_
      refine z_iload_n C dX8_windIn_17 rfl 1 rfl ?_
      refine z_chk (fun hj1 => ?_)
      refine z_iald C hr1 hk2 hj1 dX8_windIn_18 ?_
      refine z_goto (tgt := 23) C dX8_windIn_19 (by decide) ?_
      exact z_iret C hr dX8_windIn_23
def f_X8_windIn (th : Nat) (p1 : Int32) (m : MM) : Option (Int32 × MM) := g_X8_windIn_0 th p1 m
theorem M_X8_windIn (l : Launch) (E : EX) (th : Nat) (p1 : Int32) (m : MM) (r : Int32) (m2 : MM) (h : f_X8_windIn th p1 m = some (r, m2)) : Met l yX8_windIn (.code yX8_windIn cX8_windIn 2 (some .int) :: TB) rmX8_windIn (va_Pc [.ref th, .int p1] (St E m)) (QR E (emI r) m2) 0 0 (AA E) :=
  met_of (em := emI) (plainFor_of_name rfl) (Nat.le_of_ble_eq_true rfl) (L0 := [(0, va_rf (some th)), (1, .int p1)]) rfl (fun Γ _ hrm C hr hn => s_X8_windIn_0 C hr hrm th p1 m) h
