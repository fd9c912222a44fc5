theorem dX10_thing_0 : decode cX10_thing 0 = .ok (.aload_n 0, 1) := by decide +kernel
theorem dX10_thing_1 : decode cX10_thing 1 = .ok (.iconst 0, 1) := by decide +kernel
theorem dX10_thing_2 : decode cX10_thing 2 = .ok (.putfield 180, 3) := by decide +kernel
theorem dX10_thing_5 : decode cX10_thing 5 = .ok (.aload_n 0, 1) := by decide +kernel
theorem dX10_thing_6 : decode cX10_thing 6 = .ok (.iload_n 1, 1) := by decide +kernel
theorem dX10_thing_7 : decode cX10_thing 7 = .ok (.iload_n 2, 1) := by decide +kernel
theorem dX10_thing_8 : decode cX10_thing 8 = .ok (.invokevirtual 366, 3) := by decide +kernel
theorem dX10_thing_11 : decode cX10_thing 11 = .ok (.ifCond .ne 7, 3) := by decide +kernel
theorem dX10_thing_14 : decode cX10_thing 14 = .ok (.sipush (-10000), 3) := by decide +kernel
theorem dX10_thing_17 : decode cX10_thing 17 = .ok (.ireturn, 1) := by decide +kernel
theorem dX10_thing_18 : decode cX10_thing 18 = .ok (.bipush 12, 2) := by decide +kernel
theorem dX10_thing_20 : decode cX10_thing 20 = .ok (.iload_n 1, 1) := by decide +kernel
theorem dX10_thing_21 : decode cX10_thing 21 = .ok (.imul, 1) := by decide +kernel
theorem dX10_thing_22 : decode cX10_thing 22 = .ok (.iload_n 2, 1) := by decide +kernel
theorem dX10_thing_23 : decode cX10_thing 23 = .ok (.iadd, 1) := by decide +kernel
theorem dX10_thing_24 : decode cX10_thing 24 = .ok (.istore 4, 2) := by decide +kernel
theorem dX10_thing_26 : decode cX10_thing 26 = .ok (.iload_n 3, 1) := by decide +kernel
theorem dX10_thing_27 : decode cX10_thing 27 = .ok (.tableswitch 109 0 7 #[45, 53, 61, 69, 77, 85, 93, 101], 45) := by decide +kernel
theorem dX10_thing_72 : decode cX10_thing 72 = .ok (.aload_n 0, 1) := by decide +kernel
theorem dX10_thing_73 : decode cX10_thing 73 = .ok (.getfield 29, 3) := by decide +kernel
theorem dX10_thing_76 : decode cX10_thing 76 = .ok (.iload 4, 2) := by decide +kernel
theorem dX10_thing_78 : decode cX10_thing 78 = .ok (.iaload, 1) := by decide +kernel
theorem dX10_thing_79 : decode cX10_thing 79 = .ok (.ireturn, 1) := by decide +kernel
theorem dX10_thing_80 : decode cX10_thing 80 = .ok (.aload_n 0, 1) := by decide +kernel
theorem dX10_thing_81 : decode cX10_thing 81 = .ok (.getfield 32, 3) := by decide +kernel
theorem dX10_thing_84 : decode cX10_thing 84 = .ok (.iload 4, 2) := by decide +kernel
theorem dX10_thing_86 : decode cX10_thing 86 = .ok (.iaload, 1) := by decide +kernel
theorem dX10_thing_87 : decode cX10_thing 87 = .ok (.ireturn, 1) := by decide +kernel
theorem dX10_thing_88 : decode cX10_thing 88 = .ok (.aload_n 0, 1) := by decide +kernel
theorem dX10_thing_89 : decode cX10_thing 89 = .ok (.getfield 35, 3) := by decide +kernel
theorem dX10_thing_92 : decode cX10_thing 92 = .ok (.iload 4, 2) := by decide +kernel
theorem dX10_thing_94 : decode cX10_thing 94 = .ok (.iaload, 1) := by decide +kernel
theorem dX10_thing_95 : decode cX10_thing 95 = .ok (.ireturn, 1) := by decide +kernel
theorem dX10_thing_96 : decode cX10_thing 96 = .ok (.aload_n 0, 1) := by decide +kernel
theorem dX10_thing_97 : decode cX10_thing 97 = .ok (.getfield 38, 3) := by decide +kernel
theorem dX10_thing_100 : decode cX10_thing 100 = .ok (.iload 4, 2) := by decide +kernel
theorem dX10_thing_102 : decode cX10_thing 102 = .ok (.iaload, 1) := by decide +kernel
theorem dX10_thing_103 : decode cX10_thing 103 = .ok (.ireturn, 1) := by decide +kernel
theorem dX10_thing_104 : decode cX10_thing 104 = .ok (.aload_n 0, 1) := by decide +kernel
theorem dX10_thing_105 : decode cX10_thing 105 = .ok (.getfield 41, 3) := by decide +kernel
theorem dX10_thing_108 : decode cX10_thing 108 = .ok (.iload 4, 2) := by decide +kernel
theorem dX10_thing_110 : decode cX10_thing 110 = .ok (.iaload, 1) := by decide +kernel
theorem dX10_thing_111 : decode cX10_thing 111 = .ok (.ireturn, 1) := by decide +kernel
theorem dX10_thing_112 : decode cX10_thing 112 = .ok (.aload_n 0, 1) := by decide +kernel
theorem dX10_thing_113 : decode cX10_thing 113 = .ok (.getfield 44, 3) := by decide +kernel
theorem dX10_thing_116 : decode cX10_thing 116 = .ok (.iload 4, 2) := by decide +kernel
theorem dX10_thing_118 : decode cX10_thing 118 = .ok (.iaload, 1) := by decide +kernel
theorem dX10_thing_119 : decode cX10_thing 119 = .ok (.ireturn, 1) := by decide +kernel
theorem dX10_thing_120 : decode cX10_thing 120 = .ok (.aload_n 0, 1) := by decide +kernel
theorem dX10_thing_121 : decode cX10_thing 121 = .ok (.getfield 47, 3) := by decide +kernel
theorem dX10_thing_124 : decode cX10_thing 124 = .ok (.iload 4, 2) := by decide +kernel
theorem dX10_thing_126 : decode cX10_thing 126 = .ok (.iaload, 1) := by decide +kernel
theorem dX10_thing_127 : decode cX10_thing 127 = .ok (.ireturn, 1) := by decide +kernel
theorem dX10_thing_128 : decode cX10_thing 128 = .ok (.aload_n 0, 1) := by decide +kernel
theorem dX10_thing_129 : decode cX10_thing 129 = .ok (.getfield 50, 3) := by decide +kernel
theorem dX10_thing_132 : decode cX10_thing 132 = .ok (.iload 4, 2) := by decide +kernel
theorem dX10_thing_134 : decode cX10_thing 134 = .ok (.iaload, 1) := by decide +kernel
theorem dX10_thing_135 : decode cX10_thing 135 = .ok (.ireturn, 1) := by decide +kernel
theorem dX10_thing_136 : decode cX10_thing 136 = .ok (.sipush (-10000), 3) := by decide +kernel
theorem dX10_thing_139 : decode cX10_thing 139 = .ok (.ireturn, 1) := by decide +kernel
def rmX10_thing : Room := { frames := 3, cells := 0, slots := 0, locals := 65 }
set_option maxRecDepth 100000 in
def g_X10_thing_0 (th : Nat) (p1 : Int32) (p2 : Int32) (p3 : Int32) (m : MM) : Option (Int32 × MM) :=
  chk (m.K th = 11) (bnd (m.sI 1100 th 0 0) (fun m1 => cal (f_X10_isThing th p1 p2 m1) (fun r1 m2 => if r1 = 0 then (some ((-10000), m2)) else (bnd ((12 * p1) + p2) (fun y1 => if p3 = 0 then (chk (m2.K th = 11) (ck m2 (m2.R 1107 th 0) 22 (fun a1 => chk (inb y1 (m2.N a1) = true) (some (m2.I 22 a1 (Int32.toNatClampNeg y1), m2))))) else (if p3 = 1 then (chk (m2.K th = 11) (ck m2 (m2.R 1108 th 0) 22 (fun a2 => chk (inb y1 (m2.N a2) = true) (some (m2.I 22 a2 (Int32.toNatClampNeg y1), m2))))) else (if p3 = 2 then (chk (m2.K th = 11) (ck m2 (m2.R 1109 th 0) 22 (fun a3 => chk (inb y1 (m2.N a3) = true) (some (m2.I 22 a3 (Int32.toNatClampNeg y1), m2))))) else (if p3 = 3 then (chk (m2.K th = 11) (ck m2 (m2.R 1110 th 0) 22 (fun a4 => chk (inb y1 (m2.N a4) = true) (some (m2.I 22 a4 (Int32.toNatClampNeg y1), m2))))) else (if p3 = 4 then (chk (m2.K th = 11) (ck m2 (m2.R 1111 th 0) 22 (fun a5 => chk (inb y1 (m2.N a5) = true) (some (m2.I 22 a5 (Int32.toNatClampNeg y1), m2))))) else (if p3 = 5 then (chk (m2.K th = 11) (ck m2 (m2.R 1112 th 0) 22 (fun a6 => chk (inb y1 (m2.N a6) = true) (some (m2.I 22 a6 (Int32.toNatClampNeg y1), m2))))) else (if p3 = 6 then (chk (m2.K th = 11) (ck m2 (m2.R 1113 th 0) 22 (fun a7 => chk (inb y1 (m2.N a7) = true) (some (m2.I 22 a7 (Int32.toNatClampNeg y1), m2))))) else (if p3 = 7 then (chk (m2.K th = 11) (ck m2 (m2.R 1114 th 0) 22 (fun a8 => chk (inb y1 (m2.N a8) = true) (some (m2.I 22 a8 (Int32.toNatClampNeg y1), m2))))) else (some ((-10000), m2))))))))))))))
set_option maxHeartbeats 4000000 in
set_option maxRecDepth 100000 in
theorem s_X10_thing_0 {Γ : GX} {E : EX} (C : Cx Γ E cX10_thing RX10 5) (hr : Γ.meth.sig.returnType = (some .int)) (hrm : Γ.rm = rmX10_thing) (th : Nat) (p1 : Int32) (p2 : Int32) (p3 : Int32) (m : MM) : Sm (QM Γ E emI 0 0) Γ E 5 0 0 0 [(0, va_rf (some th)), (1, .int p1), (2, .int p2), (3, .int p3)] [] m (g_X10_thing_0 th p1 p2 p3 m) := by
  unfold g_X10_thing_0
  refine z_aload_n C dX10_thing_0 rfl 0 rfl ?_
  refine z_iconst (v := 0) C dX10_thing_1 (by decide) ?_
  refine z_chk (fun hk1 => ?_)
  refine z_putI C fl_RX10_180 (fun h => by cases h) rfl hk1 rfl rfl dX10_thing_2 (fun m1 eK1 eN1 => ?_)
  refine z_aload_n C dX10_thing_5 rfl 0 rfl ?_
  refine z_iload_n C dX10_thing_6 rfl 1 rfl ?_
  refine z_iload_n C dX10_thing_7 rfl 2 rfl ?_
  refine z_cVI [.int p1, .int p2] [] C mv_RX10_366 (fun r0 m0 h0 => M_X10_isThing _ _ _ _ _ _ _ _ h0) rfl rfl ⟨by rw [hrm]; exact Nat.le_of_ble_eq_true rfl, by rw [hrm]; exact Nat.le_of_ble_eq_true rfl⟩ ⟨by rw [hrm]; exact Nat.le_of_ble_eq_true rfl, by rw [hrm]; exact Nat.le_of_ble_eq_true rfl⟩ rfl (kfw eK1 hk1) rfl rfl rfl (Nat.le_of_ble_eq_true rfl) dX10_thing_8 (fun r1 m2 => ?_)
  refine z_if_ne (tgt := 18) C dX10_thing_11 (by decide) (fun c1 => ?_) (fun c1 => ?_)
  · refine z_bipush (v := 12) C dX10_thing_18 (by decide) ?_
    refine z_iload_n C dX10_thing_20 rfl 1 rfl ?_
    refine z_imul C dX10_thing_21 ?_
    refine z_iload_n C dX10_thing_22 rfl 2 rfl ?_
    refine z_iadd C dX10_thing_23 ?_
    refine z_bndI (fun y1 => ?_)
    refine z_istore (i := 4) (L2 := [(4, .int y1), (0, va_rf (some th)), (1, .int p1), (2, .int p2), (3, .int p3)]) C dX10_thing_24 (by decide) rfl ?_
    refine z_iload_n C dX10_thing_26 rfl 4 rfl ?_
    refine z_ite (fun c2 => ?_) (fun c2 => ?_)
    · refine z_tabI (v := 0) (tgt := 72) C dX10_thing_27 c2 (by decide) (by decide) (off := 45) (by decide) (by decide) ?_
      refine z_aload_n C dX10_thing_72 rfl 1 rfl ?_
      refine z_chk (fun hk2 => ?_)
      refine z_getR C fl_RX10_29 rfl hk2 dX10_thing_73 ?_
      refine z_iload C dX10_thing_76 0 rfl ?_
      refine z_ck (fun a1 hr1 hk3 => ?_)
      refine z_chk (fun hj1 => ?_)
      refine z_iald C hr1 hk3 hj1 dX10_thing_78 ?_
      exact z_iret C hr dX10_thing_79
    refine z_ite (fun c3 => ?_) (fun c3 => ?_)
    · refine z_tabI (v := 1) (tgt := 80) C dX10_thing_27 c3 (by decide) (by decide) (off := 53) (by decide) (by decide) ?_
      refine z_aload_n C dX10_thing_80 rfl 1 rfl ?_
      refine z_chk (fun hk4 => ?_)
      refine z_getR C fl_RX10_32 rfl hk4 dX10_thing_81 ?_
      refine z_iload C dX10_thing_84 0 rfl ?_
      refine z_ck (fun a2 hr2 hk5 => ?_)
      refine z_chk (fun hj2 => ?_)
      refine z_iald C hr2 hk5 hj2 dX10_thing_86 ?_
      exact z_iret C hr dX10_thing_87
    refine z_ite (fun c4 => ?_) (fun c4 => ?_)
    · refine z_tabI (v := 2) (tgt := 88) C dX10_thing_27 c4 (by decide) (by decide) (off := 61) (by decide) (by decide) ?_
      refine z_aload_n C dX10_thing_88 rfl 1 rfl ?_
      refine z_chk (fun hk6 => ?_)
      refine z_getR C fl_RX10_35 rfl hk6 dX10_thing_89 ?_
      refine z_iload C dX10_thing_92 0 rfl ?_
      refine z_ck (fun a3 hr3 hk7 => ?_)
      refine z_chk (fun hj3 => ?_)
      refine z_iald C hr3 hk7 hj3 dX10_thing_94 ?_
      exact z_iret C hr dX10_thing_95
    refine z_ite (fun c5 => ?_) (fun c5 => ?_)
    · refine z_tabI (v := 3) (tgt := 96) C dX10_thing_27 c5 (by decide) (by decide) (off := 69) (by decide) (by decide) ?_
      refine z_aload_n C dX10_thing_96 rfl 1 rfl ?_
      refine z_chk (fun hk8 => ?_)
      refine z_getR C fl_RX10_38 rfl hk8 dX10_thing_97 ?_
      refine z_iload C dX10_thing_100 0 rfl ?_
      refine z_ck (fun a4 hr4 hk9 => ?_)
      refine z_chk (fun hj4 => ?_)
      refine z_iald C hr4 hk9 hj4 dX10_thing_102 ?_
      exact z_iret C hr dX10_thing_103
    refine z_ite (fun c6 => ?_) (fun c6 => ?_)
    · refine z_tabI (v := 4) (tgt := 104) C dX10_thing_27 c6 (by decide) (by decide) (off := 77) (by decide) (by decide) ?_
      refine z_aload_n C dX10_thing_104 rfl 1 rfl ?_
      refine z_chk (fun hk10 => ?_)
      refine z_getR C fl_RX10_41 rfl hk10 dX10_thing_105 ?_
      refine z_iload C dX10_thing_108 0 rfl ?_
      refine z_ck (fun a5 hr5 hk11 => ?_)
      refine z_chk (fun hj5 => ?_)
      refine z_iald C hr5 hk11 hj5 dX10_thing_110 ?_
      exact z_iret C hr dX10_thing_111
    refine z_ite (fun c7 => ?_) (fun c7 => ?_)
    · refine z_tabI (v := 5) (tgt := 112) C dX10_thing_27 c7 (by decide) (by decide) (off := 85) (by decide) (by decide) ?_
      refine z_aload_n C dX10_thing_112 rfl 1 rfl ?_
      refine z_chk (fun hk12 => ?_)
      refine z_getR C fl_RX10_44 rfl hk12 dX10_thing_113 ?_
      refine z_iload C dX10_thing_116 0 rfl ?_
      refine z_ck (fun a6 hr6 hk13 => ?_)
      refine z_chk (fun hj6 => ?_)
      refine z_iald C hr6 hk13 hj6 dX10_thing_118 ?_
      exact z_iret C hr dX10_thing_119
    refine z_ite (fun c8 => ?_) (fun c8 => ?_)
    · refine z_tabI (v := 6) (tgt := 120) C dX10_thing_27 c8 (by decide) (by decide) (off := 93) (by decide) (by decide) ?_
      refine z_aload_n C dX10_thing_120 rfl 1 rfl ?_
      refine z_chk (fun hk14 => ?_)
      refine z_getR C fl_RX10_47 rfl hk14 dX10_thing_121 ?_
      refine z_iload C dX10_thing_124 0 rfl ?_
      refine z_ck (fun a7 hr7 hk15 => ?_)
      refine z_chk (fun hj7 => ?_)
      refine z_iald C hr7 hk15 hj7 dX10_thing_126 ?_
      exact z_iret C hr dX10_thing_127
    refine z_ite (fun c9 => ?_) (fun c9 => ?_)
    · refine z_tabI (v := 7) (tgt := 128) C dX10_thing_27 c9 (by decide) (by decide) (off := 101) (by decide) (by decide) ?_
      refine z_aload_n C dX10_thing_128 rfl 1 rfl ?_
      refine z_chk (fun hk16 => ?_)
      refine z_getR C fl_RX10_50 rfl hk16 dX10_thing_129 ?_
      refine z_iload C dX10_thing_132 0 rfl ?_
      refine z_ck (fun a8 hr8 hk17 => ?_)
      refine z_chk (fun hj8 => ?_)
      refine z_iald C hr8 hk17 hj8 dX10_thing_134 ?_
      exact z_iret C hr dX10_thing_135
    refine z_tabO (tgt := 136) C dX10_thing_27 (by have qc2 := ne_int (n := 0) c2 (by decide); have qc3 := ne_int (n := 1) c3 (by decide); have qc4 := ne_int (n := 2) c4 (by decide); have qc5 := ne_int (n := 3) c5 (by decide); have qc6 := ne_int (n := 4) c6 (by decide); have qc7 := ne_int (n := 5) c7 (by decide); have qc8 := ne_int (n := 6) c8 (by decide); have qc9 := ne_int (n := 7) c9 (by decide); omega) (by decide) ?_
    refine z_sipush (v := (-10000)) C dX10_thing_136 (by decide) ?_
    exact z_iret C hr dX10_thing_139
  · refine z_sipush (v := (-10000)) C dX10_thing_14 (by decide) ?_
    exact z_iret C hr dX10_thing_17
def f_X10_thing (th : Nat) (p1 : Int32) (p2 : Int32) (p3 : Int32) (m : MM) : Option (Int32 × MM) := g_X10_thing_0 th p1 p2 p3 m
theorem M_X10_thing (l : Launch) (E : EX) (th : Nat) (p1 : Int32) (p2 : Int32) (p3 : Int32) (m : MM) (r : Int32) (m2 : MM) (h : f_X10_thing th p1 p2 p3 m = some (r, m2)) : Met l yX10_thing (.code yX10_thing cX10_thing 5 (some .int) :: TB) rmX10_thing (va_Pc [.ref th, .int p1, .int p2, .int p3] (St E m)) (QR E (emI r) m2) 0 0 (AA E) :=
  met_of (em := emI) (plainFor_of_name rfl) (Nat.le_of_ble_eq_true rfl) (L0 := [(0, va_rf (some th)), (1, .int p1), (2, .int p2), (3, .int p3)]) rfl (fun Γ _ hrm C hr hn => s_X10_thing_0 C hr hrm th p1 p2 p3 m) h

theorem dX10_ruled_0 : decode cX10_ruled 0 = .ok (.aload_n 0, 1) := by decide +kernel
theorem dX10_ruled_1 : decode cX10_ruled 1 = .ok (.iconst 0, 1) := by decide +kernel
theorem dX10_ruled_2 : decode cX10_ruled 2 = .ok (.putfield 180, 3) := by decide +kernel
theorem dX10_ruled_5 : decode cX10_ruled 5 = .ok (.aload_n 0, 1) := by decide +kernel
theorem dX10_ruled_6 : decode cX10_ruled 6 = .ok (.iload_n 1, 1) := by decide +kernel
theorem dX10_ruled_7 : decode cX10_ruled 7 = .ok (.invokevirtual 360, 3) := by decide +kernel
theorem dX10_ruled_10 : decode cX10_ruled 10 = .ok (.ifCond .ne 5, 3) := by decide +kernel
theorem dX10_ruled_13 : decode cX10_ruled 13 = .ok (.iconst (-1), 1) := by decide +kernel
theorem dX10_ruled_14 : decode cX10_ruled 14 = .ok (.ireturn, 1) := by decide +kernel
theorem dX10_ruled_15 : decode cX10_ruled 15 = .ok (.aload_n 0, 1) := by decide +kernel
theorem dX10_ruled_16 : decode cX10_ruled 16 = .ok (.getfield 95, 3) := by decide +kernel
theorem dX10_ruled_19 : decode cX10_ruled 19 = .ok (.iload_n 1, 1) := by decide +kernel
theorem dX10_ruled_20 : decode cX10_ruled 20 = .ok (.iaload, 1) := by decide +kernel
theorem dX10_ruled_21 : decode cX10_ruled 21 = .ok (.istore_n 3, 1) := by decide +kernel
theorem dX10_ruled_22 : decode cX10_ruled 22 = .ok (.iload_n 2, 1) := by decide +kernel
theorem dX10_ruled_23 : decode cX10_ruled 23 = .ok (.bipush 10, 2) := by decide +kernel
theorem dX10_ruled_25 : decode cX10_ruled 25 = .ok (.if_icmp .lt 106, 3) := by decide +kernel
theorem dX10_ruled_28 : decode cX10_ruled 28 = .ok (.iload_n 2, 1) := by decide +kernel
theorem dX10_ruled_29 : decode cX10_ruled 29 = .ok (.bipush 60, 2) := by decide +kernel
theorem dX10_ruled_31 : decode cX10_ruled 31 = .ok (.if_icmp .ge 100, 3) := by decide +kernel
theorem dX10_ruled_34 : decode cX10_ruled 34 = .ok (.iload_n 2, 1) := by decide +kernel
theorem dX10_ruled_35 : decode cX10_ruled 35 = .ok (.bipush 10, 2) := by decide +kernel
theorem dX10_ruled_37 : decode cX10_ruled 37 = .ok (.irem, 1) := by decide +kernel
theorem dX10_ruled_38 : decode cX10_ruled 38 = .ok (.iload_n 3, 1) := by decide +kernel
theorem dX10_ruled_39 : decode cX10_ruled 39 = .ok (.if_icmp .ge 92, 3) := by decide +kernel
theorem dX10_ruled_42 : decode cX10_ruled 42 = .ok (.bipush 10, 2) := by decide +kernel
theorem dX10_ruled_44 : decode cX10_ruled 44 = .ok (.iload_n 1, 1) := by decide +kernel
theorem dX10_ruled_45 : decode cX10_ruled 45 = .ok (.imul, 1) := by decide +kernel
theorem dX10_ruled_46 : decode cX10_ruled 46 = .ok (.iload_n 2, 1) := by decide +kernel
theorem dX10_ruled_47 : decode cX10_ruled 47 = .ok (.bipush 10, 2) := by decide +kernel
theorem dX10_ruled_49 : decode cX10_ruled 49 = .ok (.irem, 1) := by decide +kernel
theorem dX10_ruled_50 : decode cX10_ruled 50 = .ok (.iadd, 1) := by decide +kernel
theorem dX10_ruled_51 : decode cX10_ruled 51 = .ok (.istore 4, 2) := by decide +kernel
theorem dX10_ruled_53 : decode cX10_ruled 53 = .ok (.iload_n 2, 1) := by decide +kernel
theorem dX10_ruled_54 : decode cX10_ruled 54 = .ok (.bipush 10, 2) := by decide +kernel
theorem dX10_ruled_56 : decode cX10_ruled 56 = .ok (.idiv, 1) := by decide +kernel
theorem dX10_ruled_57 : decode cX10_ruled 57 = .ok (.istore 5, 2) := by decide +kernel
theorem dX10_ruled_59 : decode cX10_ruled 59 = .ok (.iload 5, 2) := by decide +kernel
theorem dX10_ruled_61 : decode cX10_ruled 61 = .ok (.iconst 1, 1) := by decide +kernel
theorem dX10_ruled_62 : decode cX10_ruled 62 = .ok (.if_icmp .ne 13, 3) := by decide +kernel
theorem dX10_ruled_65 : decode cX10_ruled 65 = .ok (.aload_n 0, 1) := by decide +kernel
theorem dX10_ruled_66 : decode cX10_ruled 66 = .ok (.getfield 107, 3) := by decide +kernel
theorem dX10_ruled_69 : decode cX10_ruled 69 = .ok (.iload 4, 2) := by decide +kernel
theorem dX10_ruled_71 : decode cX10_ruled 71 = .ok (.iaload, 1) := by decide +kernel
theorem dX10_ruled_72 : decode cX10_ruled 72 = .ok (.goto 58, 3) := by decide +kernel
theorem dX10_ruled_75 : decode cX10_ruled 75 = .ok (.iload 5, 2) := by decide +kernel
theorem dX10_ruled_77 : decode cX10_ruled 77 = .ok (.iconst 2, 1) := by decide +kernel
theorem dX10_ruled_78 : decode cX10_ruled 78 = .ok (.if_icmp .ne 13, 3) := by decide +kernel
theorem dX10_ruled_81 : decode cX10_ruled 81 = .ok (.aload_n 0, 1) := by decide +kernel
theorem dX10_ruled_82 : decode cX10_ruled 82 = .ok (.getfield 110, 3) := by decide +kernel
theorem dX10_ruled_85 : decode cX10_ruled 85 = .ok (.iload 4, 2) := by decide +kernel
theorem dX10_ruled_87 : decode cX10_ruled 87 = .ok (.iaload, 1) := by decide +kernel
theorem dX10_ruled_88 : decode cX10_ruled 88 = .ok (.goto 42, 3) := by decide +kernel
theorem dX10_ruled_91 : decode cX10_ruled 91 = .ok (.iload 5, 2) := by decide +kernel
theorem dX10_ruled_93 : decode cX10_ruled 93 = .ok (.iconst 3, 1) := by decide +kernel
theorem dX10_ruled_94 : decode cX10_ruled 94 = .ok (.if_icmp .ne 13, 3) := by decide +kernel
theorem dX10_ruled_97 : decode cX10_ruled 97 = .ok (.aload_n 0, 1) := by decide +kernel
theorem dX10_ruled_98 : decode cX10_ruled 98 = .ok (.getfield 113, 3) := by decide +kernel
theorem dX10_ruled_101 : decode cX10_ruled 101 = .ok (.iload 4, 2) := by decide +kernel
theorem dX10_ruled_103 : decode cX10_ruled 103 = .ok (.iaload, 1) := by decide +kernel
theorem dX10_ruled_104 : decode cX10_ruled 104 = .ok (.goto 26, 3) := by decide +kernel
theorem dX10_ruled_107 : decode cX10_ruled 107 = .ok (.iload 5, 2) := by decide +kernel
theorem dX10_ruled_109 : decode cX10_ruled 109 = .ok (.iconst 4, 1) := by decide +kernel
theorem dX10_ruled_110 : decode cX10_ruled 110 = .ok (.if_icmp .ne 13, 3) := by decide +kernel
theorem dX10_ruled_113 : decode cX10_ruled 113 = .ok (.aload_n 0, 1) := by decide +kernel
theorem dX10_ruled_114 : decode cX10_ruled 114 = .ok (.getfield 116, 3) := by decide +kernel
theorem dX10_ruled_117 : decode cX10_ruled 117 = .ok (.iload 4, 2) := by decide +kernel
theorem dX10_ruled_119 : decode cX10_ruled 119 = .ok (.iaload, 1) := by decide +kernel
theorem dX10_ruled_120 : decode cX10_ruled 120 = .ok (.goto 10, 3) := by decide +kernel
theorem dX10_ruled_123 : decode cX10_ruled 123 = .ok (.aload_n 0, 1) := by decide +kernel
theorem dX10_ruled_124 : decode cX10_ruled 124 = .ok (.getfield 119, 3) := by decide +kernel
theorem dX10_ruled_127 : decode cX10_ruled 127 = .ok (.iload 4, 2) := by decide +kernel
theorem dX10_ruled_129 : decode cX10_ruled 129 = .ok (.iaload, 1) := by decide +kernel
theorem dX10_ruled_130 : decode cX10_ruled 130 = .ok (.ireturn, 1) := by decide +kernel
theorem dX10_ruled_131 : decode cX10_ruled 131 = .ok (.iload_n 2, 1) := by decide +kernel
theorem dX10_ruled_132 : decode cX10_ruled 132 = .ok (.ifCond .ne 7, 3) := by decide +kernel
theorem dX10_ruled_135 : decode cX10_ruled 135 = .ok (.iload_n 3, 1) := by decide +kernel
theorem dX10_ruled_136 : decode cX10_ruled 136 = .ok (.goto 46, 3) := by decide +kernel
theorem dX10_ruled_139 : decode cX10_ruled 139 = .ok (.iload_n 2, 1) := by decide +kernel
theorem dX10_ruled_140 : decode cX10_ruled 140 = .ok (.iconst 1, 1) := by decide +kernel
theorem dX10_ruled_141 : decode cX10_ruled 141 = .ok (.if_icmp .ne 12, 3) := by decide +kernel
theorem dX10_ruled_144 : decode cX10_ruled 144 = .ok (.aload_n 0, 1) := by decide +kernel
theorem dX10_ruled_145 : decode cX10_ruled 145 = .ok (.getfield 98, 3) := by decide +kernel
theorem dX10_ruled_148 : decode cX10_ruled 148 = .ok (.iload_n 1, 1) := by decide +kernel
theorem dX10_ruled_149 : decode cX10_ruled 149 = .ok (.iaload, 1) := by decide +kernel
theorem dX10_ruled_150 : decode cX10_ruled 150 = .ok (.goto 32, 3) := by decide +kernel
theorem dX10_ruled_153 : decode cX10_ruled 153 = .ok (.iload_n 2, 1) := by decide +kernel
theorem dX10_ruled_154 : decode cX10_ruled 154 = .ok (.iconst 2, 1) := by decide +kernel
theorem dX10_ruled_155 : decode cX10_ruled 155 = .ok (.if_icmp .ne 12, 3) := by decide +kernel
theorem dX10_ruled_158 : decode cX10_ruled 158 = .ok (.aload_n 0, 1) := by decide +kernel
theorem dX10_ruled_159 : decode cX10_ruled 159 = .ok (.getfield 101, 3) := by decide +kernel
theorem dX10_ruled_162 : decode cX10_ruled 162 = .ok (.iload_n 1, 1) := by decide +kernel
theorem dX10_ruled_163 : decode cX10_ruled 163 = .ok (.iaload, 1) := by decide +kernel
theorem dX10_ruled_164 : decode cX10_ruled 164 = .ok (.goto 18, 3) := by decide +kernel
theorem dX10_ruled_167 : decode cX10_ruled 167 = .ok (.iload_n 2, 1) := by decide +kernel
theorem dX10_ruled_168 : decode cX10_ruled 168 = .ok (.iconst 3, 1) := by decide +kernel
theorem dX10_ruled_169 : decode cX10_ruled 169 = .ok (.if_icmp .ne 12, 3) := by decide +kernel
theorem dX10_ruled_172 : decode cX10_ruled 172 = .ok (.aload_n 0, 1) := by decide +kernel
theorem dX10_ruled_173 : decode cX10_ruled 173 = .ok (.getfield 104, 3) := by decide +kernel
theorem dX10_ruled_176 : decode cX10_ruled 176 = .ok (.iload_n 1, 1) := by decide +kernel
theorem dX10_ruled_177 : decode cX10_ruled 177 = .ok (.iaload, 1) := by decide +kernel
theorem dX10_ruled_178 : decode cX10_ruled 178 = .ok (.goto 4, 3) := by decide +kernel
theorem dX10_ruled_181 : decode cX10_ruled 181 = .ok (.iconst (-1), 1) := by decide +kernel
theorem dX10_ruled_182 : decode cX10_ruled 182 = .ok (.ireturn, 1) := by decide +kernel
def rmX10_ruled : Room := { frames := 2, cells := 0, slots := 0, locals := 43 }
set_option maxRecDepth 100000 in
def g_X10_ruled_131 (th : Nat) (p1 : Int32) (p2 : Int32) (x3 : Int32) (m : MM) : Option (Int32 × MM) :=
  if p2 = 0 then (some (x3, m)) else (if p2 = 1 then (chk (m.K th = 11) (ck m (m.R 1130 th 0) 22 (fun a3 => chk (inb p1 (m.N a3) = true) (some (m.I 22 a3 (Int32.toNatClampNeg p1), m))))) else (if p2 = 2 then (chk (m.K th = 11) (ck m (m.R 1131 th 0) 22 (fun a2 => chk (inb p1 (m.N a2) = true) (some (m.I 22 a2 (Int32.toNatClampNeg p1), m))))) else (if p2 = 3 then (chk (m.K th = 11) (ck m (m.R 1132 th 0) 22 (fun a1 => chk (inb p1 (m.N a1) = true) (some (m.I 22 a1 (Int32.toNatClampNeg p1), m))))) else (some ((-1), m)))))
set_option maxHeartbeats 4000000 in
set_option maxRecDepth 100000 in
theorem s_X10_ruled_131 {Γ : GX} {E : EX} (C : Cx Γ E cX10_ruled RX10 6) (hr : Γ.meth.sig.returnType = (some .int)) (hrm : Γ.rm = rmX10_ruled) (th : Nat) (p1 : Int32) (p2 : Int32) (x3 : Int32) (m : MM) : Sm (QM Γ E emI 0 0) Γ E 6 0 0 131 [(0, va_rf (some th)), (1, .int p1), (2, .int p2), (3, .int x3)] [] m (g_X10_ruled_131 th p1 p2 x3 m) := by
  unfold g_X10_ruled_131
  refine z_iload_n C dX10_ruled_131 rfl 2 rfl ?_
  refine z_if_ne (tgt := 139) C dX10_ruled_132 (by decide) (fun c1 => ?_) (fun c1 => ?_)
  · refine z_iload_n C dX10_ruled_139 rfl 2 rfl ?_
    refine z_iconst (v := 1) C dX10_ruled_140 (by decide) ?_
    refine z_icmp_ne (tgt := 153) C dX10_ruled_141 (by decide) (fun c2 => ?_) (fun c2 => ?_)
    · refine z_iload_n C dX10_ruled_153 rfl 2 rfl ?_
      refine z_iconst (v := 2) C dX10_ruled_154 (by decide) ?_
      refine z_icmp_ne (tgt := 167) C dX10_ruled_155 (by decide) (fun c3 => ?_) (fun c3 => ?_)
      · refine z_iload_n C dX10_ruled_167 rfl 2 rfl ?_
        refine z_iconst (v := 3) C dX10_ruled_168 (by decide) ?_
        refine z_icmp_ne (tgt := 181) C dX10_ruled_169 (by decide) (fun c4 => ?_) (fun c4 => ?_)
        · refine z_iconst (v := (-1)) C dX10_ruled_181 (by decide) ?_
          exact z_iret C hr dX10_ruled_182
        · refine z_aload_n C dX10_ruled_172 rfl 0 rfl ?_
          refine z_chk (fun hk1 => ?_)
          refine z_getR C fl_RX10_104 rfl hk1 dX10_ruled_173 ?_
          refine z_iload_n C dX10_ruled_176 rfl 1 rfl ?_
          refine z_ck (fun a1 hr1 hk2 => ?_)
          refine z_chk (fun hj1 => ?_)
          refine z_iald C hr1 hk2 hj1 dX10_ruled_177 ?_
          refine z_goto (tgt := 182) C dX10_ruled_178 (by decide) ?_
          exact z_iret C hr dX10_ruled_182
      · refine z_aload_n C dX10_ruled_158 rfl 0 rfl ?_
        refine z_chk (fun hk3 => ?_)
        refine z_getR C fl_RX10_101 rfl hk3 dX10_ruled_159 ?_
        refine z_iload_n C dX10_ruled_162 rfl 1 rfl ?_
        refine z_ck (fun a2 hr2 hk4 => ?_)
        refine z_chk (fun hj2 => ?_)
        refine z_iald C hr2 hk4 hj2 dX10_ruled_163 ?_
        refine z_goto (tgt := 182) C dX10_ruled_164 (by decide) ?_
        exact z_iret C hr dX10_ruled_182
    · refine z_aload_n C dX10_ruled_144 rfl 0 rfl ?_
      refine z_chk (fun hk5 => ?_)
      refine z_getR C fl_RX10_98 rfl hk5 dX10_ruled_145 ?_
      refine z_iload_n C dX10_ruled_148 rfl 1 rfl ?_
      refine z_ck (fun a3 hr3 hk6 => ?_)
      refine z_chk (fun hj3 => ?_)
      refine z_iald C hr3 hk6 hj3 dX10_ruled_149 ?_
      refine z_goto (tgt := 182) C dX10_ruled_150 (by decide) ?_
      exact z_iret C hr dX10_ruled_182
  · refine z_iload_n C dX10_ruled_135 rfl 3 rfl ?_
    refine z_goto (tgt := 182) C dX10_ruled_136 (by decide) ?_
    exact z_iret C hr dX10_ruled_182
set_option maxRecDepth 100000 in
def g_X10_ruled_0 (th : Nat) (p1 : Int32) (p2 : Int32) (m : MM) : Option (Int32 × MM) :=
  chk (m.K th = 11) (bnd (m.sI 1100 th 0 0) (fun m1 => cal (f_X10_isLaw th p1 m1) (fun r1 m2 => if r1 = 0 then (some ((-1), m2)) else (chk (m2.K th = 11) (ck m2 (m2.R 1129 th 0) 22 (fun a4 => chk (inb p1 (m2.N a4) = true) (bnd (m2.I 22 a4 (Int32.toNatClampNeg p1)) (fun y1 => if p2 < 10 then (g_X10_ruled_131 th p1 p2 y1 m2) else (if 60 ≤ p2 then (g_X10_ruled_131 th p1 p2 y1 m2) else (if y1 ≤ (p2 - p2 / 10 * 10) then (g_X10_ruled_131 th p1 p2 y1 m2) else (bnd ((10 * p1) + (p2 - p2 / 10 * 10)) (fun y2 => bnd (p2 / 10) (fun y3 => if y3 = 1 then (ck m2 (m2.R 1133 th 0) 22 (fun a9 => chk (inb y2 (m2.N a9) = true) (some (m2.I 22 a9 (Int32.toNatClampNeg y2), m2)))) else (if y3 = 2 then (ck m2 (m2.R 1134 th 0) 22 (fun a8 => chk (inb y2 (m2.N a8) = true) (some (m2.I 22 a8 (Int32.toNatClampNeg y2), m2)))) else (if y3 = 3 then (ck m2 (m2.R 1135 th 0) 22 (fun a7 => chk (inb y2 (m2.N a7) = true) (some (m2.I 22 a7 (Int32.toNatClampNeg y2), m2)))) else (if y3 = 4 then (ck m2 (m2.R 1136 th 0) 22 (fun a6 => chk (inb y2 (m2.N a6) = true) (some (m2.I 22 a6 (Int32.toNatClampNeg y2), m2)))) else (ck m2 (m2.R 1137 th 0) 22 (fun a5 => chk (inb y2 (m2.N a5) = true) (some (m2.I 22 a5 (Int32.toNatClampNeg y2), m2))))))))))))))))))))
set_option maxHeartbeats 4000000 in
set_option maxRecDepth 100000 in
theorem s_X10_ruled_0 {Γ : GX} {E : EX} (C : Cx Γ E cX10_ruled RX10 6) (hr : Γ.meth.sig.returnType = (some .int)) (hrm : Γ.rm = rmX10_ruled) (th : Nat) (p1 : Int32) (p2 : Int32) (m : MM) : Sm (QM Γ E emI 0 0) Γ E 6 0 0 0 [(0, va_rf (some th)), (1, .int p1), (2, .int p2)] [] m (g_X10_ruled_0 th p1 p2 m) := by
  unfold g_X10_ruled_0
  refine z_aload_n C dX10_ruled_0 rfl 0 rfl ?_
  refine z_iconst (v := 0) C dX10_ruled_1 (by decide) ?_
  refine z_chk (fun hk7 => ?_)
  refine z_putI C fl_RX10_180 (fun h => by cases h) rfl hk7 rfl rfl dX10_ruled_2 (fun m1 eK1 eN1 => ?_)
  refine z_aload_n C dX10_ruled_5 rfl 0 rfl ?_
  refine z_iload_n C dX10_ruled_6 rfl 1 rfl ?_
  refine z_cVI [.int p1] [] C mv_RX10_360 (fun r0 m0 h0 => M_X10_isLaw _ _ _ _ _ _ _ h0) rfl rfl ⟨by rw [hrm]; exact Nat.le_of_ble_eq_true rfl, by rw [hrm]; exact Nat.le_of_ble_eq_true rfl⟩ ⟨by rw [hrm]; exact Nat.le_of_ble_eq_true rfl, by rw [hrm]; exact Nat.le_of_ble_eq_true rfl⟩ rfl (kfw eK1 hk7) rfl rfl rfl (Nat.le_of_ble_eq_true rfl) dX10_ruled_7 (fun r1 m2 => ?_)
  refine z_if_ne (tgt := 15) C dX10_ruled_10 (by decide) (fun c5 => ?_) (fun c5 => ?_)
  · refine z_aload_n C dX10_ruled_15 rfl 0 rfl ?_
    refine z_chk (fun hk8 => ?_)
    refine z_getR C fl_RX10_95 rfl hk8 dX10_ruled_16 ?_
    refine z_iload_n C dX10_ruled_19 rfl 1 rfl ?_
    refine z_ck (fun a4 hr4 hk9 => ?_)
    refine z_chk (fun hj4 => ?_)
    refine z_iald C hr4 hk9 hj4 dX10_ruled_20 ?_
    refine z_bndI (fun y1 => ?_)
    refine z_istore_n (i := 3) (L2 := [(3, .int y1), (0, va_rf (some th)), (1, .int p1), (2, .int p2)]) C dX10_ruled_21 rfl (by decide) rfl ?_
    refine z_iload_n C dX10_ruled_22 rfl 3 rfl ?_
    refine z_bipush (v := 10) C dX10_ruled_23 (by decide) ?_
    refine z_icmp_lt (tgt := 131) C dX10_ruled_25 (by decide) (fun c6 => ?_) (fun c6 => ?_)
    · exact z_sub [1, 2, 3, 0] rfl (s_X10_ruled_131 C hr hrm th p1 p2 y1 m2)
    · refine z_iload_n C dX10_ruled_28 rfl 3 rfl ?_
      refine z_bipush (v := 60) C dX10_ruled_29 (by decide) ?_
      refine z_icmp_ge (tgt := 131) C dX10_ruled_31 (by decide) (fun c7 => ?_) (fun c7 => ?_)
      · exact z_sub [1, 2, 3, 0] rfl (s_X10_ruled_131 C hr hrm th p1 p2 y1 m2)
      · refine z_iload_n C dX10_ruled_34 rfl 3 rfl ?_
        refine z_bipush (v := 10) C dX10_ruled_35 (by decide) ?_
        refine z_irem C (by decide) dX10_ruled_37 ?_
        refine z_iload_n C dX10_ruled_38 rfl 0 rfl ?_
        refine z_icmp_ge (tgt := 131) C dX10_ruled_39 (by decide) (fun c8 => ?_) (fun c8 => ?_)
        · exact z_sub [1, 2, 3, 0] rfl (s_X10_ruled_131 C hr hrm th p1 p2 y1 m2)
        · refine z_bipush (v := 10) C dX10_ruled_42 (by decide) ?_
          refine z_iload_n C dX10_ruled_44 rfl 2 rfl ?_
          refine z_imul C dX10_ruled_45 ?_
          refine z_iload_n C dX10_ruled_46 rfl 3 rfl ?_
          refine z_bipush (v := 10) C dX10_ruled_47 (by decide) ?_
          refine z_irem C (by decide) dX10_ruled_49 ?_
          refine z_iadd C dX10_ruled_50 ?_
          refine z_bndI (fun y2 => ?_)
          refine z_istore (i := 4) (L2 := [(4, .int y2), (3, .int y1), (0, va_rf (some th)), (1, .int p1), (2, .int p2)]) C dX10_ruled_51 (by decide) rfl ?_
          refine z_iload_n C dX10_ruled_53 rfl 4 rfl ?_
          refine z_bipush (v := 10) C dX10_ruled_54 (by decide) ?_
          refine z_idiv C (by decide) dX10_ruled_56 ?_
          refine z_bndI (fun y3 => ?_)
          refine z_istore (i := 5) (L2 := [(5, .int y3), (4, .int y2), (3, .int y1), (0, va_rf (some th)), (1, .int p1), (2, .int p2)]) C dX10_ruled_57 (by decide) rfl ?_
          refine z_iload C dX10_ruled_59 0 rfl ?_
          refine z_iconst (v := 1) C dX10_ruled_61 (by decide) ?_
          refine z_icmp_ne (tgt := 75) C dX10_ruled_62 (by decide) (fun c9 => ?_) (fun c9 => ?_)
          · refine z_iload C dX10_ruled_75 0 rfl ?_
            refine z_iconst (v := 2) C dX10_ruled_77 (by decide) ?_
            refine z_icmp_ne (tgt := 91) C dX10_ruled_78 (by decide) (fun c10 => ?_) (fun c10 => ?_)
            · refine z_iload C dX10_ruled_91 0 rfl ?_
              refine z_iconst (v := 3) C dX10_ruled_93 (by decide) ?_
              refine z_icmp_ne (tgt := 107) C dX10_ruled_94 (by decide) (fun c11 => ?_) (fun c11 => ?_)
              · refine z_iload C dX10_ruled_107 0 rfl ?_
                refine z_iconst (v := 4) C dX10_ruled_109 (by decide) ?_
                refine z_icmp_ne (tgt := 123) C dX10_ruled_110 (by decide) (fun c12 => ?_) (fun c12 => ?_)
                · refine z_aload_n C dX10_ruled_123 rfl 3 rfl ?_
                  refine z_getR C fl_RX10_119 rfl hk8 dX10_ruled_124 ?_
                  refine z_iload C dX10_ruled_127 1 rfl ?_
                  refine z_ck (fun a5 hr5 hk10 => ?_)
                  refine z_chk (fun hj5 => ?_)
                  refine z_iald C hr5 hk10 hj5 dX10_ruled_129 ?_
                  exact z_iret C hr dX10_ruled_130
                · refine z_aload_n C dX10_ruled_113 rfl 3 rfl ?_
                  refine z_getR C fl_RX10_116 rfl hk8 dX10_ruled_114 ?_
                  refine z_iload C dX10_ruled_117 1 rfl ?_
                  refine z_ck (fun a6 hr6 hk11 => ?_)
                  refine z_chk (fun hj6 => ?_)
                  refine z_iald C hr6 hk11 hj6 dX10_ruled_119 ?_
                  refine z_goto (tgt := 130) C dX10_ruled_120 (by decide) ?_
                  exact z_iret C hr dX10_ruled_130
              · refine z_aload_n C dX10_ruled_97 rfl 3 rfl ?_
                refine z_getR C fl_RX10_113 rfl hk8 dX10_ruled_98 ?_
                refine z_iload C dX10_ruled_101 1 rfl ?_
                refine z_ck (fun a7 hr7 hk12 => ?_)
                refine z_chk (fun hj7 => ?_)
                refine z_iald C hr7 hk12 hj7 dX10_ruled_103 ?_
                refine z_goto (tgt := 130) C dX10_ruled_104 (by decide) ?_
                exact z_iret C hr dX10_ruled_130
            · refine z_aload_n C dX10_ruled_81 rfl 3 rfl ?_
              refine z_getR C fl_RX10_110 rfl hk8 dX10_ruled_82 ?_
              refine z_iload C dX10_ruled_85 1 rfl ?_
              refine z_ck (fun a8 hr8 hk13 => ?_)
              refine z_chk (fun hj8 => ?_)
              refine z_iald C hr8 hk13 hj8 dX10_ruled_87 ?_
              refine z_goto (tgt := 130) C dX10_ruled_88 (by decide) ?_
              exact z_iret C hr dX10_ruled_130
          · refine z_aload_n C dX10_ruled_65 rfl 3 rfl ?_
            refine z_getR C fl_RX10_107 rfl hk8 dX10_ruled_66 ?_
            refine z_iload C dX10_ruled_69 1 rfl ?_
            refine z_ck (fun a9 hr9 hk14 => ?_)
            refine z_chk (fun hj9 => ?_)
            refine z_iald C hr9 hk14 hj9 dX10_ruled_71 ?_
            refine z_goto (tgt := 130) C dX10_ruled_72 (by decide) ?_
            exact z_iret C hr dX10_ruled_130
  · refine z_iconst (v := (-1)) C dX10_ruled_13 (by decide) ?_
    exact z_iret C hr dX10_ruled_14
def f_X10_ruled (th : Nat) (p1 : Int32) (p2 : Int32) (m : MM) : Option (Int32 × MM) := g_X10_ruled_0 th p1 p2 m
theorem M_X10_ruled (l : Launch) (E : EX) (th : Nat) (p1 : Int32) (p2 : Int32) (m : MM) (r : Int32) (m2 : MM) (h : f_X10_ruled th p1 p2 m = some (r, m2)) : Met l yX10_ruled (.code yX10_ruled cX10_ruled 6 (some .int) :: TB) rmX10_ruled (va_Pc [.ref th, .int p1, .int p2] (St E m)) (QR E (emI r) m2) 0 0 (AA E) :=
  met_of (em := emI) (plainFor_of_name rfl) (Nat.le_of_ble_eq_true rfl) (L0 := [(0, va_rf (some th)), (1, .int p1), (2, .int p2)]) rfl (fun Γ _ hrm C hr hn => s_X10_ruled_0 C hr hrm th p1 p2 m) h

theorem dX10_isPoint_0 : decode cX10_isPoint 0 = .ok (.iload_n 2, 1) := by decide +kernel
theorem dX10_isPoint_1 : decode cX10_isPoint 1 = .ok (.iconst 0, 1) := by decide +kernel
theorem dX10_isPoint_2 : decode cX10_isPoint 2 = .ok (.aload_n 0, 1) := by decide +kernel
theorem dX10_isPoint_3 : decode cX10_isPoint 3 = .ok (.iload_n 1, 1) := by decide +kernel
theorem dX10_isPoint_4 : decode cX10_isPoint 4 = .ok (.iconst 0, 1) := by decide +kernel
theorem dX10_isPoint_5 : decode cX10_isPoint 5 = .ok (.invokevirtual 196, 3) := by decide +kernel
theorem dX10_isPoint_8 : decode cX10_isPoint 8 = .ok (.iconst 1, 1) := by decide +kernel
theorem dX10_isPoint_9 : decode cX10_isPoint 9 = .ok (.isub, 1) := by decide +kernel
theorem dX10_isPoint_10 : decode cX10_isPoint 10 = .ok (.invokestatic 188, 3) := by decide +kernel
theorem dX10_isPoint_13 : decode cX10_isPoint 13 = .ok (.ifCond .eq 23, 3) := by decide +kernel
theorem dX10_isPoint_16 : decode cX10_isPoint 16 = .ok (.iload_n 3, 1) := by decide +kernel
theorem dX10_isPoint_17 : decode cX10_isPoint 17 = .ok (.iconst 0, 1) := by decide +kernel
theorem dX10_isPoint_18 : decode cX10_isPoint 18 = .ok (.aload_n 0, 1) := by decide +kernel
theorem dX10_isPoint_19 : decode cX10_isPoint 19 = .ok (.iload_n 1, 1) := by decide +kernel
theorem dX10_isPoint_20 : decode cX10_isPoint 20 = .ok (.iconst 1, 1) := by decide +kernel
theorem dX10_isPoint_21 : decode cX10_isPoint 21 = .ok (.invokevirtual 196, 3) := by decide +kernel
theorem dX10_isPoint_24 : decode cX10_isPoint 24 = .ok (.iconst 1, 1) := by decide +kernel
theorem dX10_isPoint_25 : decode cX10_isPoint 25 = .ok (.isub, 1) := by decide +kernel
theorem dX10_isPoint_26 : decode cX10_isPoint 26 = .ok (.invokestatic 188, 3) := by decide +kernel
theorem dX10_isPoint_29 : decode cX10_isPoint 29 = .ok (.ifCond .eq 7, 3) := by decide +kernel
theorem dX10_isPoint_32 : decode cX10_isPoint 32 = .ok (.iconst 1, 1) := by decide +kernel
theorem dX10_isPoint_33 : decode cX10_isPoint 33 = .ok (.goto 4, 3) := by decide +kernel
theorem dX10_isPoint_36 : decode cX10_isPoint 36 = .ok (.iconst 0, 1) := by decide +kernel
theorem dX10_isPoint_37 : decode cX10_isPoint 37 = .ok (.ireturn, 1) := by decide +kernel
def rmX10_isPoint : Room := { frames := 1, cells := 0, slots := 0, locals := 22 }
set_option maxRecDepth 100000 in
def g_X10_isPoint_36 (th : Nat) (p1 : Int32) (p2 : Int32) (p3 : Int32) (m : MM) : Option (Int32 × MM) :=
  some (0, m)
set_option maxHeartbeats 4000000 in
set_option maxRecDepth 100000 in
theorem s_X10_isPoint_36 {Γ : GX} {E : EX} (C : Cx Γ E cX10_isPoint RX10 4) (hr : Γ.meth.sig.returnType = (some .boolean)) (hrm : Γ.rm = rmX10_isPoint) (th : Nat) (p1 : Int32) (p2 : Int32) (p3 : Int32) (m : MM) : Sm (QM Γ E emI 0 0) Γ E 4 0 0 36 [(0, va_rf (some th)), (1, .int p1), (2, .int p2), (3, .int p3)] [] m (g_X10_isPoint_36 th p1 p2 p3 m) := by
  unfold g_X10_isPoint_36
  refine z_iconst (v := 0) C dX10_isPoint_36 (by decide) ?_
  exact z_zret C hr rfl dX10_isPoint_37
set_option maxRecDepth 100000 in
def g_X10_isPoint_0 (th : Nat) (p1 : Int32) (p2 : Int32) (p3 : Int32) (m : MM) : Option (Int32 × MM) :=
  chk (m.K th = 11) (cal (f_X10_of th p1 0 m) (fun r1 m1 => cal (f_X10_in p2 0 (r1 - 1) m1) (fun r2 m2 => if r2 = 0 then (g_X10_isPoint_36 th p1 p2 p3 m2) else (chk (m2.K th = 11) (cal (f_X10_of th p1 1 m2) (fun r3 m3 => cal (f_X10_in p3 0 (r3 - 1) m3) (fun r4 m4 => if r4 = 0 then (g_X10_isPoint_36 th p1 p2 p3 m4) else (some (1, m4)))))))))
set_option maxHeartbeats 4000000 in
set_option maxRecDepth 100000 in
theorem s_X10_isPoint_0 {Γ : GX} {E : EX} (C : Cx Γ E cX10_isPoint RX10 4) (hr : Γ.meth.sig.returnType = (some .boolean)) (hrm : Γ.rm = rmX10_isPoint) (th : Nat) (p1 : Int32) (p2 : Int32) (p3 : Int32) (m : MM) : Sm (QM Γ E emI 0 0) Γ E 4 0 0 0 [(0, va_rf (some th)), (1, .int p1), (2, .int p2), (3, .int p3)] [] m (g_X10_isPoint_0 th p1 p2 p3 m) := by
  unfold g_X10_isPoint_0
  refine z_iload_n C dX10_isPoint_0 rfl 2 rfl ?_
  refine z_iconst (v := 0) C dX10_isPoint_1 (by decide) ?_
  refine z_aload_n C dX10_isPoint_2 rfl 0 rfl ?_
  refine z_iload_n C dX10_isPoint_3 rfl 1 rfl ?_
  refine z_iconst (v := 0) C dX10_isPoint_4 (by decide) ?_
  refine z_chk (fun hk1 => ?_)
  refine z_cVI [.int p1, .int 0] [.int 0, .int p2] C mv_RX10_196 (fun r0 m0 h0 => M_X10_of _ _ _ _ _ _ _ _ h0) rfl rfl ⟨by rw [hrm]; exact Nat.le_of_ble_eq_true rfl, by rw [hrm]; exact Nat.le_of_ble_eq_true rfl⟩ ⟨by rw [hrm]; exact Nat.le_of_ble_eq_true rfl, by rw [hrm]; exact Nat.le_of_ble_eq_true rfl⟩ rfl hk1 rfl rfl rfl (Nat.le_of_ble_eq_true rfl) dX10_isPoint_5 (fun r1 m1 => ?_)
  refine z_iconst (v := 1) C dX10_isPoint_8 (by decide) ?_
  refine z_isub C dX10_isPoint_9 ?_
  refine z_cSI [.int p2, .int 0, .int (r1 - 1)] [] C mv_RX10_188 (fun r0 m0 h0 => M_X10_in _ _ _ _ _ _ _ _ h0) rfl rfl ⟨by rw [hrm]; exact Nat.le_of_ble_eq_true rfl, by rw [hrm]; exact Nat.le_of_ble_eq_true rfl⟩ ⟨by rw [hrm]; exact Nat.le_of_ble_eq_true rfl, by rw [hrm]; exact Nat.le_of_ble_eq_true rfl⟩ rfl rfl (Nat.le_of_ble_eq_true rfl) dX10_isPoint_10 (fun r2 m2 => ?_)
  refine z_if_eq (tgt := 36) C dX10_isPoint_13 (by decide) (fun c1 => ?_) (fun c1 => ?_)
  · exact z_sub [0, 1, 2, 3] rfl (s_X10_isPoint_36 C hr hrm th p1 p2 p3 m2)
  · refine z_iload_n C dX10_isPoint_16 rfl 3 rfl ?_
    refine z_iconst (v := 0) C dX10_isPoint_17 (by decide) ?_
    refine z_aload_n C dX10_isPoint_18 rfl 0 rfl ?_
    refine z_iload_n C dX10_isPoint_19 rfl 1 rfl ?_
    refine z_iconst (v := 1) C dX10_isPoint_20 (by decide) ?_
    refine z_chk (fun hk2 => ?_)
    refine z_cVI [.int p1, .int 1] [.int 0, .int p3] C mv_RX10_196 (fun r0 m0 h0 => M_X10_of _ _ _ _ _ _ _ _ h0) rfl rfl ⟨by rw [hrm]; exact Nat.le_of_ble_eq_true rfl, by rw [hrm]; exact Nat.le_of_ble_eq_true rfl⟩ ⟨by rw [hrm]; exact Nat.le_of_ble_eq_true rfl, by rw [hrm]; exact Nat.le_of_ble_eq_true rfl⟩ rfl hk2 rfl rfl rfl (Nat.le_of_ble_eq_true rfl) dX10_isPoint_21 (fun r3 m3 => ?_)
    refine z_iconst (v := 1) C dX10_isPoint_24 (by decide) ?_
    refine z_isub C dX10_isPoint_25 ?_
    refine z_cSI [.int p3, .int 0, .int (r3 - 1)] [] C mv_RX10_188 (fun r0 m0 h0 => M_X10_in _ _ _ _ _ _ _ _ h0) rfl rfl ⟨by rw [hrm]; exact Nat.le_of_ble_eq_true rfl, by rw [hrm]; exact Nat.le_of_ble_eq_true rfl⟩ ⟨by rw [hrm]; exact Nat.le_of_ble_eq_true rfl, by rw [hrm]; exact Nat.le_of_ble_eq_true rfl⟩ rfl rfl (Nat.le_of_ble_eq_true rfl) dX10_isPoint_26 (fun r4 m4 => ?_)
    refine z_if_eq (tgt := 36) C dX10_isPoint_29 (by decide) (fun c2 => ?_) (fun c2 => ?_)
    · exact z_sub [0, 1, 2, 3] rfl (s_X10_isPoint_36 C hr hrm th p1 p2 p3 m4)
    · refine z_iconst (v := 1) C dX10_isPoint_32 (by decide) ?_
      refine z_goto (tgt := 37) C dX10_isPoint_33 (by decide) ?_
      exact z_zret C hr rfl dX10_isPoint_37
def f_X10_isPoint (th : Nat) (p1 : Int32) (p2 : Int32) (p3 : Int32) (m : MM) : Option (Int32 × MM) := g_X10_isPoint_0 th p1 p2 p3 m
theorem M_X10_isPoint (l : Launch) (E : EX) (th : Nat) (p1 : Int32) (p2 : Int32) (p3 : Int32) (m : MM) (r : Int32) (m2 : MM) (h : f_X10_isPoint th p1 p2 p3 m = some (r, m2)) : Met l yX10_isPoint (.code yX10_isPoint cX10_isPoint 4 (some .boolean) :: TB) rmX10_isPoint (va_Pc [.ref th, .int p1, .int p2, .int p3] (St E m)) (QR E (emI r) m2) 0 0 (AA E) :=
  met_of (em := emI) (plainFor_of_name rfl) (Nat.le_of_ble_eq_true rfl) (L0 := [(0, va_rf (some th)), (1, .int p1), (2, .int p2), (3, .int p3)]) rfl (fun Γ _ hrm C hr hn => s_X10_isPoint_0 C hr hrm th p1 p2 p3 m) h

theorem dX10_add_0 : decode cX10_add 0 = .ok (.aload_n 0, 1) := by decide +kernel
theorem dX10_add_1 : decode cX10_add 1 = .ok (.iconst 0, 1) := by decide +kernel
theorem dX10_add_2 : decode cX10_add 2 = .ok (.putfield 180, 3) := by decide +kernel
theorem dX10_add_5 : decode cX10_add 5 = .ok (.aload_n 0, 1) := by decide +kernel
theorem dX10_add_6 : decode cX10_add 6 = .ok (.iload_n 1, 1) := by decide +kernel
theorem dX10_add_7 : decode cX10_add 7 = .ok (.invokevirtual 192, 3) := by decide +kernel
theorem dX10_add_10 : decode cX10_add 10 = .ok (.ifCond .eq 63, 3) := by decide +kernel
theorem dX10_add_13 : decode cX10_add 13 = .ok (.aload_n 0, 1) := by decide +kernel
theorem dX10_add_14 : decode cX10_add 14 = .ok (.iload_n 1, 1) := by decide +kernel
theorem dX10_add_15 : decode cX10_add 15 = .ok (.iconst 2, 1) := by decide +kernel
theorem dX10_add_16 : decode cX10_add 16 = .ok (.invokevirtual 196, 3) := by decide +kernel
theorem dX10_add_19 : decode cX10_add 19 = .ok (.bipush 12, 2) := by decide +kernel
theorem dX10_add_21 : decode cX10_add 21 = .ok (.if_icmp .eq 52, 3) := by decide +kernel
theorem dX10_add_24 : decode cX10_add 24 = .ok (.iload_n 2, 1) := by decide +kernel
theorem dX10_add_25 : decode cX10_add 25 = .ok (.iconst 0, 1) := by decide +kernel
theorem dX10_add_26 : decode cX10_add 26 = .ok (.iconst 5, 1) := by decide +kernel
theorem dX10_add_27 : decode cX10_add 27 = .ok (.invokestatic 188, 3) := by decide +kernel
theorem dX10_add_30 : decode cX10_add 30 = .ok (.ifCond .eq 43, 3) := by decide +kernel
theorem dX10_add_33 : decode cX10_add 33 = .ok (.aload_n 0, 1) := by decide +kernel
theorem dX10_add_34 : decode cX10_add 34 = .ok (.iload_n 1, 1) := by decide +kernel
theorem dX10_add_35 : decode cX10_add 35 = .ok (.iload_n 3, 1) := by decide +kernel
theorem dX10_add_36 : decode cX10_add 36 = .ok (.iload 4, 2) := by decide +kernel
theorem dX10_add_38 : decode cX10_add 38 = .ok (.invokevirtual 369, 3) := by decide +kernel
theorem dX10_add_41 : decode cX10_add 41 = .ok (.ifCond .eq 32, 3) := by decide +kernel
theorem dX10_add_44 : decode cX10_add 44 = .ok (.iload 5, 2) := by decide +kernel
theorem dX10_add_46 : decode cX10_add 46 = .ok (.iconst 0, 1) := by decide +kernel
theorem dX10_add_47 : decode cX10_add 47 = .ok (.bipush 7, 2) := by decide +kernel
theorem dX10_add_49 : decode cX10_add 49 = .ok (.invokestatic 188, 3) := by decide +kernel
theorem dX10_add_52 : decode cX10_add 52 = .ok (.ifCond .eq 21, 3) := by decide +kernel
theorem dX10_add_55 : decode cX10_add 55 = .ok (.iload 6, 2) := by decide +kernel
theorem dX10_add_57 : decode cX10_add 57 = .ok (.invokestatic 372, 3) := by decide +kernel
theorem dX10_add_60 : decode cX10_add 60 = .ok (.ifCond .eq 13, 3) := by decide +kernel
theorem dX10_add_63 : decode cX10_add 63 = .ok (.iload 7, 2) := by decide +kernel
theorem dX10_add_65 : decode cX10_add 65 = .ok (.iconst (-1), 1) := by decide +kernel
theorem dX10_add_66 : decode cX10_add 66 = .ok (.iconst 3, 1) := by decide +kernel
theorem dX10_add_67 : decode cX10_add 67 = .ok (.invokestatic 188, 3) := by decide +kernel
theorem dX10_add_70 : decode cX10_add 70 = .ok (.ifCond .ne 5, 3) := by decide +kernel
theorem dX10_add_73 : decode cX10_add 73 = .ok (.iconst (-1), 1) := by decide +kernel
theorem dX10_add_74 : decode cX10_add 74 = .ok (.ireturn, 1) := by decide +kernel
theorem dX10_add_75 : decode cX10_add 75 = .ok (.bipush 12, 2) := by decide +kernel
theorem dX10_add_77 : decode cX10_add 77 = .ok (.iload_n 1, 1) := by decide +kernel
theorem dX10_add_78 : decode cX10_add 78 = .ok (.imul, 1) := by decide +kernel
theorem dX10_add_79 : decode cX10_add 79 = .ok (.istore 8, 2) := by decide +kernel
theorem dX10_add_81 : decode cX10_add 81 = .ok (.iload 8, 2) := by decide +kernel
theorem dX10_add_83 : decode cX10_add 83 = .ok (.bipush 12, 2) := by decide +kernel
theorem dX10_add_85 : decode cX10_add 85 = .ok (.iload_n 1, 1) := by decide +kernel
theorem dX10_add_86 : decode cX10_add 86 = .ok (.imul, 1) := by decide +kernel
theorem dX10_add_87 : decode cX10_add 87 = .ok (.aload_n 0, 1) := by decide +kernel
theorem dX10_add_88 : decode cX10_add 88 = .ok (.iload_n 1, 1) := by decide +kernel
theorem dX10_add_89 : decode cX10_add 89 = .ok (.iconst 2, 1) := by decide +kernel
theorem dX10_add_90 : decode cX10_add 90 = .ok (.invokevirtual 196, 3) := by decide +kernel
theorem dX10_add_93 : decode cX10_add 93 = .ok (.iadd, 1) := by decide +kernel
theorem dX10_add_94 : decode cX10_add 94 = .ok (.if_icmp .ge 34, 3) := by decide +kernel
theorem dX10_add_97 : decode cX10_add 97 = .ok (.aload_n 0, 1) := by decide +kernel
theorem dX10_add_98 : decode cX10_add 98 = .ok (.getfield 32, 3) := by decide +kernel
theorem dX10_add_101 : decode cX10_add 101 = .ok (.iload 8, 2) := by decide +kernel
theorem dX10_add_103 : decode cX10_add 103 = .ok (.iaload, 1) := by decide +kernel
theorem dX10_add_104 : decode cX10_add 104 = .ok (.iload_n 3, 1) := by decide +kernel
theorem dX10_add_105 : decode cX10_add 105 = .ok (.if_icmp .ne 17, 3) := by decide +kernel
theorem dX10_add_108 : decode cX10_add 108 = .ok (.aload_n 0, 1) := by decide +kernel
theorem dX10_add_109 : decode cX10_add 109 = .ok (.getfield 35, 3) := by decide +kernel
theorem dX10_add_112 : decode cX10_add 112 = .ok (.iload 8, 2) := by decide +kernel
theorem dX10_add_114 : decode cX10_add 114 = .ok (.iaload, 1) := by decide +kernel
theorem dX10_add_115 : decode cX10_add 115 = .ok (.iload 4, 2) := by decide +kernel
theorem dX10_add_117 : decode cX10_add 117 = .ok (.if_icmp .ne 5, 3) := by decide +kernel
theorem dX10_add_120 : decode cX10_add 120 = .ok (.iconst (-1), 1) := by decide +kernel
theorem dX10_add_121 : decode cX10_add 121 = .ok (.ireturn, 1) := by decide +kernel
theorem dX10_add_122 : decode cX10_add 122 = .ok (.iinc 8 1, 3) := by decide +kernel
theorem dX10_add_125 : decode cX10_add 125 = .ok (.goto (-44), 3) := by decide +kernel
theorem dX10_add_128 : decode cX10_add 128 = .ok (.bipush 12, 2) := by decide +kernel
theorem dX10_add_130 : decode cX10_add 130 = .ok (.iload_n 1, 1) := by decide +kernel
theorem dX10_add_131 : decode cX10_add 131 = .ok (.imul, 1) := by decide +kernel
theorem dX10_add_132 : decode cX10_add 132 = .ok (.aload_n 0, 1) := by decide +kernel
theorem dX10_add_133 : decode cX10_add 133 = .ok (.iload_n 1, 1) := by decide +kernel
theorem dX10_add_134 : decode cX10_add 134 = .ok (.iconst 2, 1) := by decide +kernel
theorem dX10_add_135 : decode cX10_add 135 = .ok (.invokevirtual 196, 3) := by decide +kernel
theorem dX10_add_138 : decode cX10_add 138 = .ok (.iadd, 1) := by decide +kernel
theorem dX10_add_139 : decode cX10_add 139 = .ok (.istore 8, 2) := by decide +kernel
theorem dX10_add_141 : decode cX10_add 141 = .ok (.aload_n 0, 1) := by decide +kernel
theorem dX10_add_142 : decode cX10_add 142 = .ok (.getfield 26, 3) := by decide +kernel
theorem dX10_add_145 : decode cX10_add 145 = .ok (.bipush 32, 2) := by decide +kernel
theorem dX10_add_147 : decode cX10_add 147 = .ok (.iload_n 1, 1) := by decide +kernel
theorem dX10_add_148 : decode cX10_add 148 = .ok (.imul, 1) := by decide +kernel
theorem dX10_add_149 : decode cX10_add 149 = .ok (.iconst 2, 1) := by decide +kernel
theorem dX10_add_150 : decode cX10_add 150 = .ok (.iadd, 1) := by decide +kernel
theorem dX10_add_151 : decode cX10_add 151 = .ok (.dup2, 1) := by decide +kernel
theorem dX10_add_152 : decode cX10_add 152 = .ok (.iaload, 1) := by decide +kernel
theorem dX10_add_153 : decode cX10_add 153 = .ok (.iconst 1, 1) := by decide +kernel
theorem dX10_add_154 : decode cX10_add 154 = .ok (.iadd, 1) := by decide +kernel
theorem dX10_add_155 : decode cX10_add 155 = .ok (.iastore, 1) := by decide +kernel
theorem dX10_add_156 : decode cX10_add 156 = .ok (.aload_n 0, 1) := by decide +kernel
theorem dX10_add_157 : decode cX10_add 157 = .ok (.getfield 29, 3) := by decide +kernel
theorem dX10_add_160 : decode cX10_add 160 = .ok (.iload 8, 2) := by decide +kernel
theorem dX10_add_162 : decode cX10_add 162 = .ok (.iload_n 2, 1) := by decide +kernel
theorem dX10_add_163 : decode cX10_add 163 = .ok (.iastore, 1) := by decide +kernel
theorem dX10_add_164 : decode cX10_add 164 = .ok (.aload_n 0, 1) := by decide +kernel
theorem dX10_add_165 : decode cX10_add 165 = .ok (.getfield 32, 3) := by decide +kernel
theorem dX10_add_168 : decode cX10_add 168 = .ok (.iload 8, 2) := by decide +kernel
theorem dX10_add_170 : decode cX10_add 170 = .ok (.iload_n 3, 1) := by decide +kernel
theorem dX10_add_171 : decode cX10_add 171 = .ok (.iastore, 1) := by decide +kernel
theorem dX10_add_172 : decode cX10_add 172 = .ok (.aload_n 0, 1) := by decide +kernel
theorem dX10_add_173 : decode cX10_add 173 = .ok (.getfield 35, 3) := by decide +kernel
theorem dX10_add_176 : decode cX10_add 176 = .ok (.iload 8, 2) := by decide +kernel
theorem dX10_add_178 : decode cX10_add 178 = .ok (.iload 4, 2) := by decide +kernel
theorem dX10_add_180 : decode cX10_add 180 = .ok (.iastore, 1) := by decide +kernel
theorem dX10_add_181 : decode cX10_add 181 = .ok (.aload_n 0, 1) := by decide +kernel
theorem dX10_add_182 : decode cX10_add 182 = .ok (.getfield 38, 3) := by decide +kernel
theorem dX10_add_185 : decode cX10_add 185 = .ok (.iload 8, 2) := by decide +kernel
theorem dX10_add_187 : decode cX10_add 187 = .ok (.iload 5, 2) := by decide +kernel
theorem dX10_add_189 : decode cX10_add 189 = .ok (.iastore, 1) := by decide +kernel
theorem dX10_add_190 : decode cX10_add 190 = .ok (.aload_n 0, 1) := by decide +kernel
theorem dX10_add_191 : decode cX10_add 191 = .ok (.getfield 41, 3) := by decide +kernel
theorem dX10_add_194 : decode cX10_add 194 = .ok (.iload 8, 2) := by decide +kernel
theorem dX10_add_196 : decode cX10_add 196 = .ok (.iload 6, 2) := by decide +kernel
theorem dX10_add_198 : decode cX10_add 198 = .ok (.iastore, 1) := by decide +kernel
theorem dX10_add_199 : decode cX10_add 199 = .ok (.aload_n 0, 1) := by decide +kernel
theorem dX10_add_200 : decode cX10_add 200 = .ok (.getfield 44, 3) := by decide +kernel
theorem dX10_add_203 : decode cX10_add 203 = .ok (.iload 8, 2) := by decide +kernel
theorem dX10_add_205 : decode cX10_add 205 = .ok (.iload 7, 2) := by decide +kernel
theorem dX10_add_207 : decode cX10_add 207 = .ok (.iastore, 1) := by decide +kernel
theorem dX10_add_208 : decode cX10_add 208 = .ok (.aload_n 0, 1) := by decide +kernel
theorem dX10_add_209 : decode cX10_add 209 = .ok (.getfield 47, 3) := by decide +kernel
theorem dX10_add_212 : decode cX10_add 212 = .ok (.iload 8, 2) := by decide +kernel
theorem dX10_add_214 : decode cX10_add 214 = .ok (.iconst 1, 1) := by decide +kernel
theorem dX10_add_215 : decode cX10_add 215 = .ok (.iastore, 1) := by decide +kernel
theorem dX10_add_216 : decode cX10_add 216 = .ok (.aload_n 0, 1) := by decide +kernel
theorem dX10_add_217 : decode cX10_add 217 = .ok (.getfield 50, 3) := by decide +kernel
theorem dX10_add_220 : decode cX10_add 220 = .ok (.iload 8, 2) := by decide +kernel
theorem dX10_add_222 : decode cX10_add 222 = .ok (.iconst (-1), 1) := by decide +kernel
theorem dX10_add_223 : decode cX10_add 223 = .ok (.iastore, 1) := by decide +kernel
theorem dX10_add_224 : decode cX10_add 224 = .ok (.iload 8, 2) := by decide +kernel
theorem dX10_add_226 : decode cX10_add 226 = .ok (.bipush 12, 2) := by decide +kernel
theorem dX10_add_228 : decode cX10_add 228 = .ok (.iload_n 1, 1) := by decide +kernel
theorem dX10_add_229 : decode cX10_add 229 = .ok (.imul, 1) := by decide +kernel
theorem dX10_add_230 : decode cX10_add 230 = .ok (.isub, 1) := by decide +kernel
theorem dX10_add_231 : decode cX10_add 231 = .ok (.ireturn, 1) := by decide +kernel
def rmX10_add : Room := { frames := 2, cells := 0, slots := 0, locals := 45 }
set_option maxRecDepth 100000 in
def g_X10_add_122 (th : Nat) (p1 : Int32) (p2 : Int32) (p3 : Int32) (p4 : Int32) (p5 : Int32) (p6 : Int32) (p7 : Int32) (k81 : Int32 → MM → Option (Int32 × MM)) (k128 : MM → Option (Int32 × MM)) (x8 : Int32) (m : MM) : Option (Int32 × MM) :=
  k81 (x8 + 1) m
set_option maxHeartbeats 4000000 in
set_option maxRecDepth 100000 in
theorem s_X10_add_122 {Γ : GX} {E : EX} (C : Cx Γ E cX10_add RX10 9) (hr : Γ.meth.sig.returnType = (some .int)) (hrm : Γ.rm = rmX10_add) (th : Nat) (p1 : Int32) (p2 : Int32) (p3 : Int32) (p4 : Int32) (p5 : Int32) (p6 : Int32) (p7 : Int32) (k81 : Int32 → MM → Option (Int32 × MM)) (k128 : MM → Option (Int32 × MM)) (h81 : ∀ (x8 : Int32) (m : MM), Sm (QM Γ E emI 0 0) Γ E 9 0 0 81 [(0, va_rf (some th)), (1, .int p1), (2, .int p2), (3, .int p3), (4, .int p4), (5, .int p5), (6, .int p6), (7, .int p7), (8, .int x8)] [] m (k81 x8 m)) (h128 : ∀ (m : MM), Sm (QM Γ E emI 0 0) Γ E 9 0 0 128 [(0, va_rf (some th)), (1, .int p1), (2, .int p2), (3, .int p3), (4, .int p4), (5, .int p5), (6, .int p6), (7, .int p7)] [] m (k128 m)) (x8 : Int32) (m : MM) : Sm (QM Γ E emI 0 0) Γ E 9 0 0 122 [(0, va_rf (some th)), (1, .int p1), (2, .int p2), (3, .int p3), (4, .int p4), (5, .int p5), (6, .int p6), (7, .int p7), (8, .int x8)] [] m (g_X10_add_122 th p1 p2 p3 p4 p5 p6 p7 k81 k128 x8 m) := by
  unfold g_X10_add_122
  refine z_iinc (v := 1) (L2 := [(8, .int (x8 + 1)), (0, va_rf (some th)), (1, .int p1), (2, .int p2), (3, .int p3), (4, .int p4), (5, .int p5), (6, .int p6), (7, .int p7)]) C dX10_add_122 8 rfl (by decide) (by decide) rfl ?_
  refine z_goto (tgt := 81) C dX10_add_125 (by decide) ?_
  exact z_sub [1, 2, 3, 4, 5, 6, 7, 8, 0] rfl (h81 (x8 + 1) m)
set_option maxRecDepth 100000 in
def g_X10_add_81 (th : Nat) (p1 : Int32) (p2 : Int32) (p3 : Int32) (p4 : Int32) (p5 : Int32) (p6 : Int32) (p7 : Int32) (k81 : Int32 → MM → Option (Int32 × MM)) (k128 : MM → Option (Int32 × MM)) (x8 : Int32) (m : MM) : Option (Int32 × MM) :=
  chk (m.K th = 11) (cal (f_X10_of th p1 2 m) (fun r1 m1 => if ((12 * p1) + r1) ≤ x8 then (k128 m1) else (chk (m1.K th = 11) (ck m1 (m1.R 1108 th 0) 22 (fun a1 => chk (inb x8 (m1.N a1) = true) (if (m1.I 22 a1 (Int32.toNatClampNeg x8)) = p3 then (ck m1 (m1.R 1109 th 0) 22 (fun a2 => chk (inb x8 (m1.N a2) = true) (if (m1.I 22 a2 (Int32.toNatClampNeg x8)) = p4 then (some ((-1), m1)) else (g_X10_add_122 th p1 p2 p3 p4 p5 p6 p7 k81 k128 x8 m1)))) else (g_X10_add_122 th p1 p2 p3 p4 p5 p6 p7 k81 k128 x8 m1)))))))
set_option maxHeartbeats 4000000 in
set_option maxRecDepth 100000 in
theorem s_X10_add_81 {Γ : GX} {E : EX} (C : Cx Γ E cX10_add RX10 9) (hr : Γ.meth.sig.returnType = (some .int)) (hrm : Γ.rm = rmX10_add) (th : Nat) (p1 : Int32) (p2 : Int32) (p3 : Int32) (p4 : Int32) (p5 : Int32) (p6 : Int32) (p7 : Int32) (k81 : Int32 → MM → Option (Int32 × MM)) (k128 : MM → Option (Int32 × MM)) (h81 : ∀ (x8 : Int32) (m : MM), Sm (QM Γ E emI 0 0) Γ E 9 0 0 81 [(0, va_rf (some th)), (1, .int p1), (2, .int p2), (3, .int p3), (4, .int p4), (5, .int p5), (6, .int p6), (7, .int p7), (8, .int x8)] [] m (k81 x8 m)) (h128 : ∀ (m : MM), Sm (QM Γ E emI 0 0) Γ E 9 0 0 128 [(0, va_rf (some th)), (1, .int p1), (2, .int p2), (3, .int p3), (4, .int p4), (5, .int p5), (6, .int p6), (7, .int p7)] [] m (k128 m)) (x8 : Int32) (m : MM) : Sm (QM Γ E emI 0 0) Γ E 9 0 0 81 [(0, va_rf (some th)), (1, .int p1), (2, .int p2), (3, .int p3), (4, .int p4), (5, .int p5), (6, .int p6), (7, .int p7), (8, .int x8)] [] m (g_X10_add_81 th p1 p2 p3 p4 p5 p6 p7 k81 k128 x8 m) := by
  unfold g_X10_add_81
  refine z_iload C dX10_add_81 8 rfl ?_
  refine z_bipush (v := 12) C dX10_add_83 (by decide) ?_
  refine z_iload_n C dX10_add_85 rfl 1 rfl ?_
  refine z_imul C dX10_add_86 ?_
  refine z_aload_n C dX10_add_87 rfl 0 rfl ?_
  refine z_iload_n C dX10_add_88 rfl 1 rfl ?_
  refine z_iconst (v := 2) C dX10_add_89 (by decide) ?_
  refine z_chk (fun hk1 => ?_)
  refine z_cVI [.int p1, .int 2] [.int (12 * p1), .int x8] C mv_RX10_196 (fun r0 m0 h0 => M_X10_of _ _ _ _ _ _ _ _ h0) rfl rfl ⟨by rw [hrm]; exact Nat.le_of_ble_eq_true rfl, by rw [hrm]; exact Nat.le_of_ble_eq_true rfl⟩ ⟨by rw [hrm]; exact Nat.le_of_ble_eq_true rfl, by rw [hrm]; exact Nat.le_of_ble_eq_true rfl⟩ rfl hk1 rfl rfl rfl (Nat.le_of_ble_eq_true rfl) dX10_add_90 (fun r1 m1 => ?_)
  refine z_iadd C dX10_add_93 ?_
  refine z_icmp_ge (tgt := 128) C dX10_add_94 (by decide) (fun c1 => ?_) (fun c1 => ?_)
  · exact z_sub [0, 1, 2, 3, 4, 5, 6, 7] rfl (h128 m1)
  · refine z_aload_n C dX10_add_97 rfl 0 rfl ?_
    refine z_chk (fun hk2 => ?_)
    refine z_getR C fl_RX10_32 rfl hk2 dX10_add_98 ?_
    refine z_iload C dX10_add_101 8 rfl ?_
    refine z_ck (fun a1 hr1 hk3 => ?_)
    refine z_chk (fun hj1 => ?_)
    refine z_iald C hr1 hk3 hj1 dX10_add_103 ?_
    refine z_iload_n C dX10_add_104 rfl 3 rfl ?_
    refine z_icmp_ne (tgt := 122) C dX10_add_105 (by decide) (fun c2 => ?_) (fun c2 => ?_)
    · exact z_sub [0, 1, 2, 3, 4, 5, 6, 7, 8] rfl (s_X10_add_122 C hr hrm th p1 p2 p3 p4 p5 p6 p7 k81 k128 h81 h128 x8 m1)
    · refine z_aload_n C dX10_add_108 rfl 0 rfl ?_
      refine z_getR C fl_RX10_35 rfl hk2 dX10_add_109 ?_
      refine z_iload C dX10_add_112 8 rfl ?_
      refine z_ck (fun a2 hr2 hk4 => ?_)
      refine z_chk (fun hj2 => ?_)
      refine z_iald C hr2 hk4 hj2 dX10_add_114 ?_
      refine z_iload C dX10_add_115 4 rfl ?_
      refine z_icmp_ne (tgt := 122) C dX10_add_117 (by decide) (fun c3 => ?_) (fun c3 => ?_)
      · exact z_sub [0, 1, 2, 3, 4, 5, 6, 7, 8] rfl (s_X10_add_122 C hr hrm th p1 p2 p3 p4 p5 p6 p7 k81 k128 h81 h128 x8 m1)
      · refine z_iconst (v := (-1)) C dX10_add_120 (by decide) ?_
        exact z_iret C hr dX10_add_121
def l_X10_add_81 (th : Nat) (p1 : Int32) (p2 : Int32) (p3 : Int32) (p4 : Int32) (p5 : Int32) (p6 : Int32) (p7 : Int32) (k128 : MM → Option (Int32 × MM)) : Nat → Int32 → MM → Option (Int32 × MM) := lp (fun _ _ => none) (fun k81 => g_X10_add_81 th p1 p2 p3 p4 p5 p6 p7 k81 k128)
theorem t_X10_add_81 {Γ : GX} {E : EX} (C : Cx Γ E cX10_add RX10 9) (hr : Γ.meth.sig.returnType = (some .int)) (hrm : Γ.rm = rmX10_add) (th : Nat) (p1 : Int32) (p2 : Int32) (p3 : Int32) (p4 : Int32) (p5 : Int32) (p6 : Int32) (p7 : Int32) (k128 : MM → Option (Int32 × MM)) (h128 : ∀ (m : MM), Sm (QM Γ E emI 0 0) Γ E 9 0 0 128 [(0, va_rf (some th)), (1, .int p1), (2, .int p2), (3, .int p3), (4, .int p4), (5, .int p5), (6, .int p6), (7, .int p7)] [] m (k128 m)) : ∀ (n : Nat) (x8 : Int32) (m : MM), Sm (QM Γ E emI 0 0) Γ E 9 0 0 81 [(0, va_rf (some th)), (1, .int p1), (2, .int p2), (3, .int p3), (4, .int p4), (5, .int p5), (6, .int p6), (7, .int p7), (8, .int x8)] [] m (l_X10_add_81 th p1 p2 p3 p4 p5 p6 p7 k128 n x8 m) := by
  intro n
  induction n with
  | zero => intros; exact z_none
  | succ n ih => intro x8 m; exact s_X10_add_81 C hr hrm th p1 p2 p3 p4 p5 p6 p7 (l_X10_add_81 th p1 p2 p3 p4 p5 p6 p7 k128 n) k128 ih h128 x8 m
set_option maxRecDepth 100000 in
def g_X10_add_128 (th : Nat) (p1 : Int32) (p2 : Int32) (p3 : Int32) (p4 : Int32) (p5 : Int32) (p6 : Int32) (p7 : Int32) (m : MM) : Option (Int32 × MM) :=
  chk (m.K th = 11) (cal (f_X10_of th p1 2 m) (fun r2 m2 => bnd ((12 * p1) + r2) (fun y1 => chk (m2.K th = 11) (bnd ((32 * p1) + 2) (fun y2 => ck m2 (m2.R 1106 th 0) 22 (fun a3 => chk (inb y2 (m2.N a3) = true) (chk (inb y2 (m2.N a3) = true) (bnd (m2.sI 22 a3 (Int32.toNatClampNeg y2) ((m2.I 22 a3 (Int32.toNatClampNeg y2)) + 1)) (fun m3 => ck m3 (m3.R 1107 th 0) 22 (fun a4 => chk (inb y1 (m3.N a4) = true) (bnd (m3.sI 22 a4 (Int32.toNatClampNeg y1) p2) (fun m4 => ck m4 (m4.R 1108 th 0) 22 (fun a5 => chk (inb y1 (m4.N a5) = true) (bnd (m4.sI 22 a5 (Int32.toNatClampNeg y1) p3) (fun m5 => ck m5 (m5.R 1109 th 0) 22 (fun a6 => chk (inb y1 (m5.N a6) = true) (bnd (m5.sI 22 a6 (Int32.toNatClampNeg y1) p4) (fun m6 => ck m6 (m6.R 1110 th 0) 22 (fun a7 => chk (inb y1 (m6.N a7) = true) (bnd (m6.sI 22 a7 (Int32.toNatClampNeg y1) p5) (fun m7 => ck m7 (m7.R 1111 th 0) 22 (fun a8 => chk (inb y1 (m7.N a8) = true) (bnd (m7.sI 22 a8 (Int32.toNatClampNeg y1) p6) (fun m8 => ck m8 (m8.R 1112 th 0) 22 (fun a9 => chk (inb y1 (m8.N a9) = true) (bnd (m8.sI 22 a9 (Int32.toNatClampNeg y1) p7) (fun m9 => ck m9 (m9.R 1113 th 0) 22 (fun a10 => chk (inb y1 (m9.N a10) = true) (bnd (m9.sI 22 a10 (Int32.toNatClampNeg y1) 1) (fun m10 => ck m10 (m10.R 1114 th 0) 22 (fun a11 => chk (inb y1 (m10.N a11) = true) (bnd (m10.sI 22 a11 (Int32.toNatClampNeg y1) (-1)) (fun m11 => some (y1 - (12 * p1), m11))))))))))))))))))))))))))))))))))
set_option maxHeartbeats 4000000 in
set_option maxRecDepth 100000 in
theorem s_X10_add_128 {Γ : GX} {E : EX} (C : Cx Γ E cX10_add RX10 9) (hr : Γ.meth.sig.returnType = (some .int)) (hrm : Γ.rm = rmX10_add) (th : Nat) (p1 : Int32) (p2 : Int32) (p3 : Int32) (p4 : Int32) (p5 : Int32) (p6 : Int32) (p7 : Int32) (m : MM) : Sm (QM Γ E emI 0 0) Γ E 9 0 0 128 [(0, va_rf (some th)), (1, .int p1), (2, .int p2), (3, .int p3), (4, .int p4), (5, .int p5), (6, .int p6), (7, .int p7)] [] m (g_X10_add_128 th p1 p2 p3 p4 p5 p6 p7 m) := by
  unfold g_X10_add_128
  refine z_bipush (v := 12) C dX10_add_128 (by decide) ?_
  refine z_iload_n C dX10_add_130 rfl 1 rfl ?_
  refine z_imul C dX10_add_131 ?_
  refine z_aload_n C dX10_add_132 rfl 0 rfl ?_
  refine z_iload_n C dX10_add_133 rfl 1 rfl ?_
  refine z_iconst (v := 2) C dX10_add_134 (by decide) ?_
  refine z_chk (fun hk5 => ?_)
  refine z_cVI [.int p1, .int 2] [.int (12 * p1)] C mv_RX10_196 (fun r0 m0 h0 => M_X10_of _ _ _ _ _ _ _ _ h0) rfl rfl ⟨by rw [hrm]; exact Nat.le_of_ble_eq_true rfl, by rw [hrm]; exact Nat.le_of_ble_eq_true rfl⟩ ⟨by rw [hrm]; exact Nat.le_of_ble_eq_true rfl, by rw [hrm]; exact Nat.le_of_ble_eq_true rfl⟩ rfl hk5 rfl rfl rfl (Nat.le_of_ble_eq_true rfl) dX10_add_135 (fun r2 m2 => ?_)
  refine z_iadd C dX10_add_138 ?_
  refine z_bndI (fun y1 => ?_)
  refine z_istore (i := 8) (L2 := [(8, .int y1), (0, va_rf (some th)), (1, .int p1), (2, .int p2), (3, .int p3), (4, .int p4), (5, .int p5), (6, .int p6), (7, .int p7)]) C dX10_add_139 (by decide) rfl ?_
  refine z_aload_n C dX10_add_141 rfl 1 rfl ?_
  refine z_chk (fun hk6 => ?_)
  refine z_getR C fl_RX10_26 rfl hk6 dX10_add_142 ?_
  refine z_bipush (v := 32) C dX10_add_145 (by decide) ?_
  refine z_iload_n C dX10_add_147 rfl 2 rfl ?_
  refine z_imul C dX10_add_148 ?_
  refine z_iconst (v := 2) C dX10_add_149 (by decide) ?_
  refine z_iadd C dX10_add_150 ?_
  refine z_bndI (fun y2 => ?_)
  refine z_dup2 C rfl (cat_rf _) dX10_add_151 ?_
  refine z_ck (fun a3 hr3 hk7 => ?_)
  refine z_chk (fun hj3 => ?_)
  refine z_iald C hr3 hk7 hj3 dX10_add_152 ?_
  refine z_iconst (v := 1) C dX10_add_153 (by decide) ?_
  refine z_iadd C dX10_add_154 ?_
  refine z_chk (fun hj4 => ?_)
  refine z_iast C hr3 hk7 hj4 dX10_add_155 (fun m3 eK1 eN1 => ?_)
  refine z_aload_n C dX10_add_156 rfl 1 rfl ?_
  refine z_getR C fl_RX10_29 rfl (kfw eK1 hk6) dX10_add_157 ?_
  refine z_iload C dX10_add_160 0 rfl ?_
  refine z_iload_n C dX10_add_162 rfl 3 rfl ?_
  refine z_ck (fun a4 hr4 hk8 => ?_)
  refine z_chk (fun hj5 => ?_)
  refine z_iast C hr4 hk8 hj5 dX10_add_163 (fun m4 eK2 eN2 => ?_)
  refine z_aload_n C dX10_add_164 rfl 1 rfl ?_
  refine z_getR C fl_RX10_32 rfl (kfw eK2 (kfw eK1 hk6)) dX10_add_165 ?_
  refine z_iload C dX10_add_168 0 rfl ?_
  refine z_iload_n C dX10_add_170 rfl 4 rfl ?_
  refine z_ck (fun a5 hr5 hk9 => ?_)
  refine z_chk (fun hj6 => ?_)
  refine z_iast C hr5 hk9 hj6 dX10_add_171 (fun m5 eK3 eN3 => ?_)
  refine z_aload_n C dX10_add_172 rfl 1 rfl ?_
  refine z_getR C fl_RX10_35 rfl (kfw eK3 (kfw eK2 (kfw eK1 hk6))) dX10_add_173 ?_
  refine z_iload C dX10_add_176 0 rfl ?_
  refine z_iload C dX10_add_178 5 rfl ?_
  refine z_ck (fun a6 hr6 hk10 => ?_)
  refine z_chk (fun hj7 => ?_)
  refine z_iast C hr6 hk10 hj7 dX10_add_180 (fun m6 eK4 eN4 => ?_)
  refine z_aload_n C dX10_add_181 rfl 1 rfl ?_
  refine z_getR C fl_RX10_38 rfl (kfw eK4 (kfw eK3 (kfw eK2 (kfw eK1 hk6)))) dX10_add_182 ?_
  refine z_iload C dX10_add_185 0 rfl ?_
  refine z_iload C dX10_add_187 6 rfl ?_
  refine z_ck (fun a7 hr7 hk11 => ?_)
  refine z_chk (fun hj8 => ?_)
  refine z_iast C hr7 hk11 hj8 dX10_add_189 (fun m7 eK5 eN5 => ?_)
  refine z_aload_n C dX10_add_190 rfl 1 rfl ?_
  refine z_getR C fl_RX10_41 rfl (kfw eK5 (kfw eK4 (kfw eK3 (kfw eK2 (kfw eK1 hk6))))) dX10_add_191 ?_
  refine z_iload C dX10_add_194 0 rfl ?_
  refine z_iload C dX10_add_196 7 rfl ?_
  refine z_ck (fun a8 hr8 hk12 => ?_)
  refine z_chk (fun hj9 => ?_)
  refine z_iast C hr8 hk12 hj9 dX10_add_198 (fun m8 eK6 eN6 => ?_)
  refine z_aload_n C dX10_add_199 rfl 1 rfl ?_
  refine z_getR C fl_RX10_44 rfl (kfw eK6 (kfw eK5 (kfw eK4 (kfw eK3 (kfw eK2 (kfw eK1 hk6)))))) dX10_add_200 ?_
  refine z_iload C dX10_add_203 0 rfl ?_
  refine z_iload C dX10_add_205 8 rfl ?_
  refine z_ck (fun a9 hr9 hk13 => ?_)
  refine z_chk (fun hj10 => ?_)
  refine z_iast C hr9 hk13 hj10 dX10_add_207 (fun m9 eK7 eN7 => ?_)
  refine z_aload_n C dX10_add_208 rfl 1 rfl ?_
  refine z_getR C fl_RX10_47 rfl (kfw eK7 (kfw eK6 (kfw eK5 (kfw eK4 (kfw eK3 (kfw eK2 (kfw eK1 hk6))))))) dX10_add_209 ?_
  refine z_iload C dX10_add_212 0 rfl ?_
  refine z_iconst (v := 1) C dX10_add_214 (by decide) ?_
  refine z_ck (fun a10 hr10 hk14 => ?_)
  refine z_chk (fun hj11 => ?_)
  refine z_iast C hr10 hk14 hj11 dX10_add_215 (fun m10 eK8 eN8 => ?_)
  refine z_aload_n C dX10_add_216 rfl 1 rfl ?_
  refine z_getR C fl_RX10_50 rfl (kfw eK8 (kfw eK7 (kfw eK6 (kfw eK5 (kfw eK4 (kfw eK3 (kfw eK2 (kfw eK1 hk6)))))))) dX10_add_217 ?_
  refine z_iload C dX10_add_220 0 rfl ?_
  refine z_iconst (v := (-1)) C dX10_add_222 (by decide) ?_
  refine z_ck (fun a11 hr11 hk15 => ?_)
  refine z_chk (fun hj12 => ?_)
  refine z_iast C hr11 hk15 hj12 dX10_add_223 (fun m11 eK9 eN9 => ?_)
  refine z_iload C dX10_add_224 0 rfl ?_
  refine z_bipush (v := 12) C dX10_add_226 (by decide) ?_
  refine z_iload_n C dX10_add_228 rfl 2 rfl ?_
  refine z_imul C dX10_add_229 ?_
  refine z_isub C dX10_add_230 ?_
  exact z_iret C hr dX10_add_231
set_option maxRecDepth 100000 in
def g_X10_add_0 (th : Nat) (p1 : Int32) (p2 : Int32) (p3 : Int32) (p4 : Int32) (p5 : Int32) (p6 : Int32) (p7 : Int32) (m : MM) : Option (Int32 × MM) :=
  chk (m.K th = 11) (bnd (m.sI 1100 th 0 0) (fun m12 => cal (f_X10_isTown th p1 m12) (fun r3 m13 => if r3 = 0 then (some ((-1), m13)) else (chk (m13.K th = 11) (cal (f_X10_of th p1 2 m13) (fun r4 m14 => if r4 = 12 then (some ((-1), m14)) else (cal (f_X10_in p2 0 5 m14) (fun r5 m15 => if r5 = 0 then (some ((-1), m15)) else (chk (m15.K th = 11) (cal (f_X10_isPoint th p1 p3 p4 m15) (fun r6 m16 => if r6 = 0 then (some ((-1), m16)) else (cal (f_X10_in p5 0 7 m16) (fun r7 m17 => if r7 = 0 then (some ((-1), m17)) else (cal (f_X10_isDay p6 m17) (fun r8 m18 => if r8 = 0 then (some ((-1), m18)) else (cal (f_X10_in p7 (-1) 3 m18) (fun r9 m19 => if r9 = 0 then (some ((-1), m19)) else (bnd (12 * p1) (fun y3 => l_X10_add_81 th p1 p2 p3 p4 p5 p6 p7 (g_X10_add_128 th p1 p2 p3 p4 p5 p6 p7) FU y3 m19)))))))))))))))))))
set_option maxHeartbeats 4000000 in
set_option maxRecDepth 100000 in
theorem s_X10_add_0 {Γ : GX} {E : EX} (C : Cx Γ E cX10_add RX10 9) (hr : Γ.meth.sig.returnType = (some .int)) (hrm : Γ.rm = rmX10_add) (th : Nat) (p1 : Int32) (p2 : Int32) (p3 : Int32) (p4 : Int32) (p5 : Int32) (p6 : Int32) (p7 : Int32) (m : MM) : Sm (QM Γ E emI 0 0) Γ E 9 0 0 0 [(0, va_rf (some th)), (1, .int p1), (2, .int p2), (3, .int p3), (4, .int p4), (5, .int p5), (6, .int p6), (7, .int p7)] [] m (g_X10_add_0 th p1 p2 p3 p4 p5 p6 p7 m) := by
  unfold g_X10_add_0
  refine z_aload_n C dX10_add_0 rfl 0 rfl ?_
  refine z_iconst (v := 0) C dX10_add_1 (by decide) ?_
  refine z_chk (fun hk16 => ?_)
  refine z_putI C fl_RX10_180 (fun h => by cases h) rfl hk16 rfl rfl dX10_add_2 (fun m12 eK10 eN10 => ?_)
  refine z_aload_n C dX10_add_5 rfl 0 rfl ?_
  refine z_iload_n C dX10_add_6 rfl 1 rfl ?_
  refine z_cVI [.int p1] [] C mv_RX10_192 (fun r0 m0 h0 => M_X10_isTown _ _ _ _ _ _ _ h0) rfl rfl ⟨by rw [hrm]; exact Nat.le_of_ble_eq_true rfl, by rw [hrm]; exact Nat.le_of_ble_eq_true rfl⟩ ⟨by rw [hrm]; exact Nat.le_of_ble_eq_true rfl, by rw [hrm]; exact Nat.le_of_ble_eq_true rfl⟩ rfl (kfw eK10 hk16) rfl rfl rfl (Nat.le_of_ble_eq_true rfl) dX10_add_7 (fun r3 m13 => ?_)
  refine z_if_eq (tgt := 73) C dX10_add_10 (by decide) (fun c4 => ?_) (fun c4 => ?_)
  · refine z_iconst (v := (-1)) C dX10_add_73 (by decide) ?_
    exact z_iret C hr dX10_add_74
  · refine z_aload_n C dX10_add_13 rfl 0 rfl ?_
    refine z_iload_n C dX10_add_14 rfl 1 rfl ?_
    refine z_iconst (v := 2) C dX10_add_15 (by decide) ?_
    refine z_chk (fun hk17 => ?_)
    refine z_cVI [.int p1, .int 2] [] C mv_RX10_196 (fun r0 m0 h0 => M_X10_of _ _ _ _ _ _ _ _ h0) rfl rfl ⟨by rw [hrm]; exact Nat.le_of_ble_eq_true rfl, by rw [hrm]; exact Nat.le_of_ble_eq_true rfl⟩ ⟨by rw [hrm]; exact Nat.le_of_ble_eq_true rfl, by rw [hrm]; exact Nat.le_of_ble_eq_true rfl⟩ rfl hk17 rfl rfl rfl (Nat.le_of_ble_eq_true rfl) dX10_add_16 (fun r4 m14 => ?_)
    refine z_bipush (v := 12) C dX10_add_19 (by decide) ?_
    refine z_icmp_eq (tgt := 73) C dX10_add_21 (by decide) (fun c5 => ?_) (fun c5 => ?_)
    · refine z_iconst (v := (-1)) C dX10_add_73 (by decide) ?_
      exact z_iret C hr dX10_add_74
    · refine z_iload_n C dX10_add_24 rfl 2 rfl ?_
      refine z_iconst (v := 0) C dX10_add_25 (by decide) ?_
      refine z_iconst (v := 5) C dX10_add_26 (by decide) ?_
      refine z_cSI [.int p2, .int 0, .int 5] [] C mv_RX10_188 (fun r0 m0 h0 => M_X10_in _ _ _ _ _ _ _ _ h0) rfl rfl ⟨by rw [hrm]; exact Nat.le_of_ble_eq_true rfl, by rw [hrm]; exact Nat.le_of_ble_eq_true rfl⟩ ⟨by rw [hrm]; exact Nat.le_of_ble_eq_true rfl, by rw [hrm]; exact Nat.le_of_ble_eq_true rfl⟩ rfl rfl (Nat.le_of_ble_eq_true rfl) dX10_add_27 (fun r5 m15 => ?_)
      refine z_if_eq (tgt := 73) C dX10_add_30 (by decide) (fun c6 => ?_) (fun c6 => ?_)
      · refine z_iconst (v := (-1)) C dX10_add_73 (by decide) ?_
        exact z_iret C hr dX10_add_74
      · refine z_aload_n C dX10_add_33 rfl 0 rfl ?_
        refine z_iload_n C dX10_add_34 rfl 1 rfl ?_
        refine z_iload_n C dX10_add_35 rfl 3 rfl ?_
        refine z_iload C dX10_add_36 4 rfl ?_
        refine z_chk (fun hk18 => ?_)
        refine z_cVI [.int p1, .int p3, .int p4] [] C mv_RX10_369 (fun r0 m0 h0 => M_X10_isPoint _ _ _ _ _ _ _ _ _ h0) rfl rfl ⟨by rw [hrm]; exact Nat.le_of_ble_eq_true rfl, by rw [hrm]; exact Nat.le_of_ble_eq_true rfl⟩ ⟨by rw [hrm]; exact Nat.le_of_ble_eq_true rfl, by rw [hrm]; exact Nat.le_of_ble_eq_true rfl⟩ rfl hk18 rfl rfl rfl (Nat.le_of_ble_eq_true rfl) dX10_add_38 (fun r6 m16 => ?_)
        refine z_if_eq (tgt := 73) C dX10_add_41 (by decide) (fun c7 => ?_) (fun c7 => ?_)
        · refine z_iconst (v := (-1)) C dX10_add_73 (by decide) ?_
          exact z_iret C hr dX10_add_74
        · refine z_iload C dX10_add_44 5 rfl ?_
          refine z_iconst (v := 0) C dX10_add_46 (by decide) ?_
          refine z_bipush (v := 7) C dX10_add_47 (by decide) ?_
          refine z_cSI [.int p5, .int 0, .int 7] [] C mv_RX10_188 (fun r0 m0 h0 => M_X10_in _ _ _ _ _ _ _ _ h0) rfl rfl ⟨by rw [hrm]; exact Nat.le_of_ble_eq_true rfl, by rw [hrm]; exact Nat.le_of_ble_eq_true rfl⟩ ⟨by rw [hrm]; exact Nat.le_of_ble_eq_true rfl, by rw [hrm]; exact Nat.le_of_ble_eq_true rfl⟩ rfl rfl (Nat.le_of_ble_eq_true rfl) dX10_add_49 (fun r7 m17 => ?_)
          refine z_if_eq (tgt := 73) C dX10_add_52 (by decide) (fun c8 => ?_) (fun c8 => ?_)
          · refine z_iconst (v := (-1)) C dX10_add_73 (by decide) ?_
            exact z_iret C hr dX10_add_74
          · refine z_iload C dX10_add_55 6 rfl ?_
            refine z_cSI [.int p6] [] C mv_RX10_372 (fun r0 m0 h0 => M_X10_isDay _ _ _ _ _ _ h0) rfl rfl ⟨by rw [hrm]; exact Nat.le_of_ble_eq_true rfl, by rw [hrm]; exact Nat.le_of_ble_eq_true rfl⟩ ⟨by rw [hrm]; exact Nat.le_of_ble_eq_true rfl, by rw [hrm]; exact Nat.le_of_ble_eq_true rfl⟩ rfl rfl (Nat.le_of_ble_eq_true rfl) dX10_add_57 (fun r8 m18 => ?_)
            refine z_if_eq (tgt := 73) C dX10_add_60 (by decide) (fun c9 => ?_) (fun c9 => ?_)
            · refine z_iconst (v := (-1)) C dX10_add_73 (by decide) ?_
              exact z_iret C hr dX10_add_74
            · refine z_iload C dX10_add_63 7 rfl ?_
              refine z_iconst (v := (-1)) C dX10_add_65 (by decide) ?_
              refine z_iconst (v := 3) C dX10_add_66 (by decide) ?_
              refine z_cSI [.int p7, .int (-1), .int 3] [] C mv_RX10_188 (fun r0 m0 h0 => M_X10_in _ _ _ _ _ _ _ _ h0) rfl rfl ⟨by rw [hrm]; exact Nat.le_of_ble_eq_true rfl, by rw [hrm]; exact Nat.le_of_ble_eq_true rfl⟩ ⟨by rw [hrm]; exact Nat.le_of_ble_eq_true rfl, by rw [hrm]; exact Nat.le_of_ble_eq_true rfl⟩ rfl rfl (Nat.le_of_ble_eq_true rfl) dX10_add_67 (fun r9 m19 => ?_)
              refine z_if_ne (tgt := 75) C dX10_add_70 (by decide) (fun c10 => ?_) (fun c10 => ?_)
              · refine z_bipush (v := 12) C dX10_add_75 (by decide) ?_
                refine z_iload_n C dX10_add_77 rfl 1 rfl ?_
                refine z_imul C dX10_add_78 ?_
                refine z_bndI (fun y3 => ?_)
                refine z_istore (i := 8) (L2 := [(8, .int y3), (0, va_rf (some th)), (1, .int p1), (2, .int p2), (3, .int p3), (4, .int p4), (5, .int p5), (6, .int p6), (7, .int p7)]) C dX10_add_79 (by decide) rfl ?_
                exact z_sub [1, 2, 3, 4, 5, 6, 7, 8, 0] rfl (t_X10_add_81 C hr hrm th p1 p2 p3 p4 p5 p6 p7 (g_X10_add_128 th p1 p2 p3 p4 p5 p6 p7) (s_X10_add_128 C hr hrm th p1 p2 p3 p4 p5 p6 p7) FU y3 m19)
              · refine z_iconst (v := (-1)) C dX10_add_73 (by decide) ?_
                exact z_iret C hr dX10_add_74
def f_X10_add (th : Nat) (p1 : Int32) (p2 : Int32) (p3 : Int32) (p4 : Int32) (p5 : Int32) (p6 : Int32) (p7 : Int32) (m : MM) : Option (Int32 × MM) := g_X10_add_0 th p1 p2 p3 p4 p5 p6 p7 m
theorem M_X10_add (l : Launch) (E : EX) (th : Nat) (p1 : Int32) (p2 : Int32) (p3 : Int32) (p4 : Int32) (p5 : Int32) (p6 : Int32) (p7 : Int32) (m : MM) (r : Int32) (m2 : MM) (h : f_X10_add th p1 p2 p3 p4 p5 p6 p7 m = some (r, m2)) : Met l yX10_add (.code yX10_add cX10_add 9 (some .int) :: TB) rmX10_add (va_Pc [.ref th, .int p1, .int p2, .int p3, .int p4, .int p5, .int p6, .int p7] (St E m)) (QR E (emI r) m2) 0 0 (AA E) :=
  met_of (em := emI) (plainFor_of_name rfl) (Nat.le_of_ble_eq_true rfl) (L0 := [(0, va_rf (some th)), (1, .int p1), (2, .int p2), (3, .int p3), (4, .int p4), (5, .int p5), (6, .int p6), (7, .int p7)]) rfl (fun Γ _ hrm C hr hn => s_X10_add_0 C hr hrm th p1 p2 p3 p4 p5 p6 p7 m) h

theorem dX10_gone_0 : decode cX10_gone 0 = .ok (.aload_n 0, 1) := by decide +kernel
theorem dX10_gone_1 : decode cX10_gone 1 = .ok (.iconst 0, 1) := by decide +kernel
theorem dX10_gone_2 : decode cX10_gone 2 = .ok (.putfield 180, 3) := by decide +kernel
theorem dX10_gone_5 : decode cX10_gone 5 = .ok (.aload_n 0, 1) := by decide +kernel
theorem dX10_gone_6 : decode cX10_gone 6 = .ok (.iload_n 1, 1) := by decide +kernel
theorem dX10_gone_7 : decode cX10_gone 7 = .ok (.iload_n 2, 1) := by decide +kernel
theorem dX10_gone_8 : decode cX10_gone 8 = .ok (.invokevirtual 366, 3) := by decide +kernel
theorem dX10_gone_11 : decode cX10_gone 11 = .ok (.ifCond .eq 26, 3) := by decide +kernel
theorem dX10_gone_14 : decode cX10_gone 14 = .ok (.iload_n 3, 1) := by decide +kernel
theorem dX10_gone_15 : decode cX10_gone 15 = .ok (.aload_n 0, 1) := by decide +kernel
theorem dX10_gone_16 : decode cX10_gone 16 = .ok (.getfield 41, 3) := by decide +kernel
theorem dX10_gone_19 : decode cX10_gone 19 = .ok (.bipush 12, 2) := by decide +kernel
theorem dX10_gone_21 : decode cX10_gone 21 = .ok (.iload_n 1, 1) := by decide +kernel
theorem dX10_gone_22 : decode cX10_gone 22 = .ok (.imul, 1) := by decide +kernel
theorem dX10_gone_23 : decode cX10_gone 23 = .ok (.iload_n 2, 1) := by decide +kernel
theorem dX10_gone_24 : decode cX10_gone 24 = .ok (.iadd, 1) := by decide +kernel
theorem dX10_gone_25 : decode cX10_gone 25 = .ok (.iaload, 1) := by decide +kernel
theorem dX10_gone_26 : decode cX10_gone 26 = .ok (.iconst 1, 1) := by decide +kernel
theorem dX10_gone_27 : decode cX10_gone 27 = .ok (.iadd, 1) := by decide +kernel
theorem dX10_gone_28 : decode cX10_gone 28 = .ok (.sipush 999, 3) := by decide +kernel
theorem dX10_gone_31 : decode cX10_gone 31 = .ok (.invokestatic 188, 3) := by decide +kernel
theorem dX10_gone_34 : decode cX10_gone 34 = .ok (.ifCond .ne 5, 3) := by decide +kernel
theorem dX10_gone_37 : decode cX10_gone 37 = .ok (.iconst 0, 1) := by decide +kernel
theorem dX10_gone_38 : decode cX10_gone 38 = .ok (.ireturn, 1) := by decide +kernel
theorem dX10_gone_39 : decode cX10_gone 39 = .ok (.aload_n 0, 1) := by decide +kernel
theorem dX10_gone_40 : decode cX10_gone 40 = .ok (.getfield 50, 3) := by decide +kernel
theorem dX10_gone_43 : decode cX10_gone 43 = .ok (.bipush 12, 2) := by decide +kernel
theorem dX10_gone_45 : decode cX10_gone 45 = .ok (.iload_n 1, 1) := by decide +kernel
theorem dX10_gone_46 : decode cX10_gone 46 = .ok (.imul, 1) := by decide +kernel
theorem dX10_gone_47 : decode cX10_gone 47 = .ok (.iload_n 2, 1) := by decide +kernel
theorem dX10_gone_48 : decode cX10_gone 48 = .ok (.iadd, 1) := by decide +kernel
theorem dX10_gone_49 : decode cX10_gone 49 = .ok (.iload_n 3, 1) := by decide +kernel
theorem dX10_gone_50 : decode cX10_gone 50 = .ok (.iastore, 1) := by decide +kernel
theorem dX10_gone_51 : decode cX10_gone 51 = .ok (.iconst 1, 1) := by decide +kernel
theorem dX10_gone_52 : decode cX10_gone 52 = .ok (.ireturn, 1) := by decide +kernel
def rmX10_gone : Room := { frames := 3, cells := 0, slots := 0, locals := 65 }
set_option maxRecDepth 100000 in
def g_X10_gone_0 (th : Nat) (p1 : Int32) (p2 : Int32) (p3 : Int32) (m : MM) : Option (Int32 × MM) :=
  chk (m.K th = 11) (bnd (m.sI 1100 th 0 0) (fun m1 => cal (f_X10_isThing th p1 p2 m1) (fun r1 m2 => if r1 = 0 then (some (0, m2)) else (chk (m2.K th = 11) (ck m2 (m2.R 1111 th 0) 22 (fun a1 => chk (inb ((12 * p1) + p2) (m2.N a1) = true) (cal (f_X10_in p3 ((m2.I 22 a1 (Int32.toNatClampNeg ((12 * p1) + p2))) + 1) 999 m2) (fun r2 m3 => if r2 = 0 then (some (0, m3)) else (chk (m3.K th = 11) (ck m3 (m3.R 1114 th 0) 22 (fun a2 => chk (inb ((12 * p1) + p2) (m3.N a2) = true) (bnd (m3.sI 22 a2 (Int32.toNatClampNeg ((12 * p1) + p2)) p3) (fun m4 => some (1, m4))))))))))))))
set_option maxHeartbeats 4000000 in
set_option maxRecDepth 100000 in
theorem s_X10_gone_0 {Γ : GX} {E : EX} (C : Cx Γ E cX10_gone RX10 4) (hr : Γ.meth.sig.returnType = (some .boolean)) (hrm : Γ.rm = rmX10_gone) (th : Nat) (p1 : Int32) (p2 : Int32) (p3 : Int32) (m : MM) : Sm (QM Γ E emI 0 0) Γ E 4 0 0 0 [(0, va_rf (some th)), (1, .int p1), (2, .int p2), (3, .int p3)] [] m (g_X10_gone_0 th p1 p2 p3 m) := by
  unfold g_X10_gone_0
  refine z_aload_n C dX10_gone_0 rfl 0 rfl ?_
  refine z_iconst (v := 0) C dX10_gone_1 (by decide) ?_
  refine z_chk (fun hk1 => ?_)
  refine z_putI C fl_RX10_180 (fun h => by cases h) rfl hk1 rfl rfl dX10_gone_2 (fun m1 eK1 eN1 => ?_)
  refine z_aload_n C dX10_gone_5 rfl 0 rfl ?_
  refine z_iload_n C dX10_gone_6 rfl 1 rfl ?_
  refine z_iload_n C dX10_gone_7 rfl 2 rfl ?_
  refine z_cVI [.int p1, .int p2] [] C mv_RX10_366 (fun r0 m0 h0 => M_X10_isThing _ _ _ _ _ _ _ _ h0) rfl rfl ⟨by rw [hrm]; exact Nat.le_of_ble_eq_true rfl, by rw [hrm]; exact Nat.le_of_ble_eq_true rfl⟩ ⟨by rw [hrm]; exact Nat.le_of_ble_eq_true rfl, by rw [hrm]; exact Nat.le_of_ble_eq_true rfl⟩ rfl (kfw eK1 hk1) rfl rfl rfl (Nat.le_of_ble_eq_true rfl) dX10_gone_8 (fun r1 m2 => ?_)
  refine z_if_eq (tgt := 37) C dX10_gone_11 (by decide) (fun c1 => ?_) (fun c1 => ?_)
  · refine z_iconst (v := 0) C dX10_gone_37 (by decide) ?_
    exact z_zret C hr rfl dX10_gone_38
  · refine z_iload_n C dX10_gone_14 rfl 3 rfl ?_
    refine z_aload_n C dX10_gone_15 rfl 0 rfl ?_
    refine z_chk (fun hk2 => ?_)
    refine z_getR C fl_RX10_41 rfl hk2 dX10_gone_16 ?_
    refine z_bipush (v := 12) C dX10_gone_19 (by decide) ?_
    refine z_iload_n C dX10_gone_21 rfl 1 rfl ?_
    refine z_imul C dX10_gone_22 ?_
    refine z_iload_n C dX10_gone_23 rfl 2 rfl ?_
    refine z_iadd C dX10_gone_24 ?_
    refine z_ck (fun a1 hr1 hk3 => ?_)
    refine z_chk (fun hj1 => ?_)
    refine z_iald C hr1 hk3 hj1 dX10_gone_25 ?_
    refine z_iconst (v := 1) C dX10_gone_26 (by decide) ?_
    refine z_iadd C dX10_gone_27 ?_
    refine z_sipush (v := 999) C dX10_gone_28 (by decide) ?_
    refine z_cSI [.int p3, .int ((m2.I 22 a1 (Int32.toNatClampNeg ((12 * p1) + p2))) + 1), .int 999] [] C mv_RX10_188 (fun r0 m0 h0 => M_X10_in _ _ _ _ _ _ _ _ h0) rfl rfl ⟨by rw [hrm]; exact Nat.le_of_ble_eq_true rfl, by rw [hrm]; exact Nat.le_of_ble_eq_true rfl⟩ ⟨by rw [hrm]; exact Nat.le_of_ble_eq_true rfl, by rw [hrm]; exact Nat.le_of_ble_eq_true rfl⟩ rfl rfl (Nat.le_of_ble_eq_true rfl) dX10_gone_31 (fun r2 m3 => ?_)
    refine z_if_ne (tgt := 39) C dX10_gone_34 (by decide) (fun c2 => ?_) (fun c2 => ?_)
    · refine z_aload_n C dX10_gone_39 rfl 0 rfl ?_
      refine z_chk (fun hk4 => ?_)
      refine z_getR C fl_RX10_50 rfl hk4 dX10_gone_40 ?_
      refine z_bipush (v := 12) C dX10_gone_43 (by decide) ?_
      refine z_iload_n C dX10_gone_45 rfl 1 rfl ?_
      refine z_imul C dX10_gone_46 ?_
      refine z_iload_n C dX10_gone_47 rfl 2 rfl ?_
      refine z_iadd C dX10_gone_48 ?_
      refine z_iload_n C dX10_gone_49 rfl 3 rfl ?_
      refine z_ck (fun a2 hr2 hk5 => ?_)
      refine z_chk (fun hj2 => ?_)
      refine z_iast C hr2 hk5 hj2 dX10_gone_50 (fun m4 eK2 eN2 => ?_)
      refine z_iconst (v := 1) C dX10_gone_51 (by decide) ?_
      exact z_zret C hr rfl dX10_gone_52
    · refine z_iconst (v := 0) C dX10_gone_37 (by decide) ?_
      exact z_zret C hr rfl dX10_gone_38
def f_X10_gone (th : Nat) (p1 : Int32) (p2 : Int32) (p3 : Int32) (m : MM) : Option (Int32 × MM) := g_X10_gone_0 th p1 p2 p3 m
theorem M_X10_gone (l : Launch) (E : EX) (th : Nat) (p1 : Int32) (p2 : Int32) (p3 : Int32) (m : MM) (r : Int32) (m2 : MM) (h : f_X10_gone th p1 p2 p3 m = some (r, m2)) : Met l yX10_gone (.code yX10_gone cX10_gone 4 (some .boolean) :: TB) rmX10_gone (va_Pc [.ref th, .int p1, .int p2, .int p3] (St E m)) (QR E (emI r) m2) 0 0 (AA E) :=
  met_of (em := emI) (plainFor_of_name rfl) (Nat.le_of_ble_eq_true rfl) (L0 := [(0, va_rf (some th)), (1, .int p1), (2, .int p2), (3, .int p3)]) rfl (fun Γ _ hrm C hr hn => s_X10_gone_0 C hr hrm th p1 p2 p3 m) h

theorem dX10_bring_0 : decode cX10_bring 0 = .ok (.aload_n 0, 1) := by decide +kernel
theorem dX10_bring_1 : decode cX10_bring 1 = .ok (.iload_n 1, 1) := by decide +kernel
theorem dX10_bring_2 : decode cX10_bring 2 = .ok (.putfield 375, 3) := by decide +kernel
theorem dX10_bring_5 : decode cX10_bring 5 = .ok (.aload_n 0, 1) := by decide +kernel
theorem dX10_bring_6 : decode cX10_bring 6 = .ok (.iload_n 2, 1) := by decide +kernel
theorem dX10_bring_7 : decode cX10_bring 7 = .ok (.putfield 378, 3) := by decide +kernel
theorem dX10_bring_10 : decode cX10_bring 10 = .ok (.aload_n 0, 1) := by decide +kernel
theorem dX10_bring_11 : decode cX10_bring 11 = .ok (.iconst 0, 1) := by decide +kernel
theorem dX10_bring_12 : decode cX10_bring 12 = .ok (.putfield 381, 3) := by decide +kernel
theorem dX10_bring_15 : decode cX10_bring 15 = .ok (.aload_n 0, 1) := by decide +kernel
theorem dX10_bring_16 : decode cX10_bring 16 = .ok (.iconst 0, 1) := by decide +kernel
theorem dX10_bring_17 : decode cX10_bring 17 = .ok (.putfield 384, 3) := by decide +kernel
theorem dX10_bring_20 : decode cX10_bring 20 = .ok (.aload_n 0, 1) := by decide +kernel
theorem dX10_bring_21 : decode cX10_bring 21 = .ok (.iconst (-1), 1) := by decide +kernel
theorem dX10_bring_22 : decode cX10_bring 22 = .ok (.putfield 387, 3) := by decide +kernel
theorem dX10_bring_25 : decode cX10_bring 25 = .ok (.aload_n 0, 1) := by decide +kernel
theorem dX10_bring_26 : decode cX10_bring 26 = .ok (.iconst 0, 1) := by decide +kernel
theorem dX10_bring_27 : decode cX10_bring 27 = .ok (.putfield 390, 3) := by decide +kernel
theorem dX10_bring_30 : decode cX10_bring 30 = .ok (.iconst 0, 1) := by decide +kernel
theorem dX10_bring_31 : decode cX10_bring 31 = .ok (.istore_n 3, 1) := by decide +kernel
theorem dX10_bring_32 : decode cX10_bring 32 = .ok (.iload_n 3, 1) := by decide +kernel
theorem dX10_bring_33 : decode cX10_bring 33 = .ok (.aload_n 0, 1) := by decide +kernel
theorem dX10_bring_34 : decode cX10_bring 34 = .ok (.iload_n 1, 1) := by decide +kernel
theorem dX10_bring_35 : decode cX10_bring 35 = .ok (.iconst 2, 1) := by decide +kernel
theorem dX10_bring_36 : decode cX10_bring 36 = .ok (.invokevirtual 196, 3) := by decide +kernel
theorem dX10_bring_39 : decode cX10_bring 39 = .ok (.if_icmp .ge 143, 3) := by decide +kernel
theorem dX10_bring_42 : decode cX10_bring 42 = .ok (.bipush 12, 2) := by decide +kernel
theorem dX10_bring_44 : decode cX10_bring 44 = .ok (.iload_n 1, 1) := by decide +kernel
theorem dX10_bring_45 : decode cX10_bring 45 = .ok (.imul, 1) := by decide +kernel
theorem dX10_bring_46 : decode cX10_bring 46 = .ok (.iload_n 3, 1) := by decide +kernel
theorem dX10_bring_47 : decode cX10_bring 47 = .ok (.iadd, 1) := by decide +kernel
theorem dX10_bring_48 : decode cX10_bring 48 = .ok (.istore 4, 2) := by decide +kernel
theorem dX10_bring_50 : decode cX10_bring 50 = .ok (.aload_n 0, 1) := by decide +kernel
theorem dX10_bring_51 : decode cX10_bring 51 = .ok (.getfield 143, 3) := by decide +kernel
theorem dX10_bring_54 : decode cX10_bring 54 = .ok (.iload_n 3, 1) := by decide +kernel
theorem dX10_bring_55 : decode cX10_bring 55 = .ok (.aload_n 0, 1) := by decide +kernel
theorem dX10_bring_56 : decode cX10_bring 56 = .ok (.getfield 29, 3) := by decide +kernel
theorem dX10_bring_59 : decode cX10_bring 59 = .ok (.iload 4, 2) := by decide +kernel
theorem dX10_bring_61 : decode cX10_bring 61 = .ok (.iaload, 1) := by decide +kernel
theorem dX10_bring_62 : decode cX10_bring 62 = .ok (.iastore, 1) := by decide +kernel
theorem dX10_bring_63 : decode cX10_bring 63 = .ok (.aload_n 0, 1) := by decide +kernel
theorem dX10_bring_64 : decode cX10_bring 64 = .ok (.getfield 146, 3) := by decide +kernel
theorem dX10_bring_67 : decode cX10_bring 67 = .ok (.iload_n 3, 1) := by decide +kernel
theorem dX10_bring_68 : decode cX10_bring 68 = .ok (.aload_n 0, 1) := by decide +kernel
theorem dX10_bring_69 : decode cX10_bring 69 = .ok (.getfield 32, 3) := by decide +kernel
theorem dX10_bring_72 : decode cX10_bring 72 = .ok (.iload 4, 2) := by decide +kernel
theorem dX10_bring_74 : decode cX10_bring 74 = .ok (.iaload, 1) := by decide +kernel
theorem dX10_bring_75 : decode cX10_bring 75 = .ok (.iastore, 1) := by decide +kernel
theorem dX10_bring_76 : decode cX10_bring 76 = .ok (.aload_n 0, 1) := by decide +kernel
theorem dX10_bring_77 : decode cX10_bring 77 = .ok (.getfield 149, 3) := by decide +kernel
theorem dX10_bring_80 : decode cX10_bring 80 = .ok (.iload_n 3, 1) := by decide +kernel
theorem dX10_bring_81 : decode cX10_bring 81 = .ok (.aload_n 0, 1) := by decide +kernel
theorem dX10_bring_82 : decode cX10_bring 82 = .ok (.getfield 35, 3) := by decide +kernel
theorem dX10_bring_85 : decode cX10_bring 85 = .ok (.iload 4, 2) := by decide +kernel
theorem dX10_bring_87 : decode cX10_bring 87 = .ok (.iaload, 1) := by decide +kernel
theorem dX10_bring_88 : decode cX10_bring 88 = .ok (.iastore, 1) := by decide +kernel
theorem dX10_bring_89 : decode cX10_bring 89 = .ok (.aload_n 0, 1) := by decide +kernel
theorem dX10_bring_90 : decode cX10_bring 90 = .ok (.getfield 152, 3) := by decide +kernel
theorem dX10_bring_93 : decode cX10_bring 93 = .ok (.iload_n 3, 1) := by decide +kernel
theorem dX10_bring_94 : decode cX10_bring 94 = .ok (.aload_n 0, 1) := by decide +kernel
theorem dX10_bring_95 : decode cX10_bring 95 = .ok (.getfield 44, 3) := by decide +kernel
theorem dX10_bring_98 : decode cX10_bring 98 = .ok (.iload 4, 2) := by decide +kernel
theorem dX10_bring_100 : decode cX10_bring 100 = .ok (.iaload, 1) := by decide +kernel
theorem dX10_bring_101 : decode cX10_bring 101 = .ok (.iastore, 1) := by decide +kernel
theorem dX10_bring_102 : decode cX10_bring 102 = .ok (.aload_n 0, 1) := by decide +kernel
theorem dX10_bring_103 : decode cX10_bring 103 = .ok (.getfield 155, 3) := by decide +kernel
theorem dX10_bring_106 : decode cX10_bring 106 = .ok (.iload_n 3, 1) := by decide +kernel
theorem dX10_bring_107 : decode cX10_bring 107 = .ok (.aload_n 0, 1) := by decide +kernel
theorem dX10_bring_108 : decode cX10_bring 108 = .ok (.getfield 41, 3) := by decide +kernel
theorem dX10_bring_111 : decode cX10_bring 111 = .ok (.iload 4, 2) := by decide +kernel
theorem dX10_bring_113 : decode cX10_bring 113 = .ok (.iaload, 1) := by decide +kernel
theorem dX10_bring_114 : decode cX10_bring 114 = .ok (.iastore, 1) := by decide +kernel
theorem dX10_bring_115 : decode cX10_bring 115 = .ok (.aload_n 0, 1) := by decide +kernel
theorem dX10_bring_116 : decode cX10_bring 116 = .ok (.getfield 41, 3) := by decide +kernel
theorem dX10_bring_119 : decode cX10_bring 119 = .ok (.iload 4, 2) := by decide +kernel
theorem dX10_bring_121 : decode cX10_bring 121 = .ok (.iaload, 1) := by decide +kernel
theorem dX10_bring_122 : decode cX10_bring 122 = .ok (.iload_n 2, 1) := by decide +kernel
theorem dX10_bring_123 : decode cX10_bring 123 = .ok (.if_icmp .gt 29, 3) := by decide +kernel
theorem dX10_bring_126 : decode cX10_bring 126 = .ok (.aload_n 0, 1) := by decide +kernel
theorem dX10_bring_127 : decode cX10_bring 127 = .ok (.getfield 50, 3) := by decide +kernel
theorem dX10_bring_130 : decode cX10_bring 130 = .ok (.iload 4, 2) := by decide +kernel
theorem dX10_bring_132 : decode cX10_bring 132 = .ok (.iaload, 1) := by decide +kernel
theorem dX10_bring_133 : decode cX10_bring 133 = .ok (.iconst (-1), 1) := by decide +kernel
theorem dX10_bring_134 : decode cX10_bring 134 = .ok (.if_icmp .eq 14, 3) := by decide +kernel
theorem dX10_bring_137 : decode cX10_bring 137 = .ok (.aload_n 0, 1) := by decide +kernel
theorem dX10_bring_138 : decode cX10_bring 138 = .ok (.getfield 50, 3) := by decide +kernel
theorem dX10_bring_141 : decode cX10_bring 141 = .ok (.iload 4, 2) := by decide +kernel
theorem dX10_bring_143 : decode cX10_bring 143 = .ok (.iaload, 1) := by decide +kernel
theorem dX10_bring_144 : decode cX10_bring 144 = .ok (.iload_n 2, 1) := by decide +kernel
theorem dX10_bring_145 : decode cX10_bring 145 = .ok (.if_icmp .le 7, 3) := by decide +kernel
theorem dX10_bring_148 : decode cX10_bring 148 = .ok (.iconst 1, 1) := by decide +kernel
theorem dX10_bring_149 : decode cX10_bring 149 = .ok (.goto 4, 3) := by decide +kernel
theorem dX10_bring_152 : decode cX10_bring 152 = .ok (.iconst 0, 1) := by decide +kernel
theorem dX10_bring_153 : decode cX10_bring 153 = .ok (.istore 5, 2) := by decide +kernel
theorem dX10_bring_155 : decode cX10_bring 155 = .ok (.aload_n 0, 1) := by decide +kernel
theorem dX10_bring_156 : decode cX10_bring 156 = .ok (.dup, 1) := by decide +kernel
theorem dX10_bring_157 : decode cX10_bring 157 = .ok (.getfield 381, 3) := by decide +kernel
theorem dX10_bring_160 : decode cX10_bring 160 = .ok (.iload 5, 2) := by decide +kernel
theorem dX10_bring_162 : decode cX10_bring 162 = .ok (.ifCond .eq 9, 3) := by decide +kernel
theorem dX10_bring_165 : decode cX10_bring 165 = .ok (.iconst 1, 1) := by decide +kernel
theorem dX10_bring_166 : decode cX10_bring 166 = .ok (.iload_n 3, 1) := by decide +kernel
theorem dX10_bring_167 : decode cX10_bring 167 = .ok (.ishl, 1) := by decide +kernel
theorem dX10_bring_168 : decode cX10_bring 168 = .ok (.goto 4, 3) := by decide +kernel
theorem dX10_bring_171 : decode cX10_bring 171 = .ok (.iconst 0, 1) := by decide +kernel
theorem dX10_bring_172 : decode cX10_bring 172 = .ok (.ior, 1) := by decide +kernel
theorem dX10_bring_173 : decode cX10_bring 173 = .ok (.putfield 381, 3) := by decide +kernel
theorem dX10_bring_176 : decode cX10_bring 176 = .ok (.iinc 3 1, 3) := by decide +kernel
theorem dX10_bring_179 : decode cX10_bring 179 = .ok (.goto (-147), 3) := by decide +kernel
theorem dX10_bring_182 : decode cX10_bring 182 = .ok (.return_, 1) := by decide +kernel
def rmX10_bring : Room := { frames := 1, cells := 0, slots := 0, locals := 22 }
set_option maxRecDepth 100000 in
def g_X10_bring_172 (th : Nat) (p1 : Int32) (p2 : Int32) (k32 : Int32 → MM → Option (Unit × MM)) (x3 : Int32) (s0 : Option Nat) (s1 : Int32) (s2 : Int32) (m : MM) : Option (Unit × MM) :=
  ck m s0 11 (fun a1 => bnd (m.sI 1165 a1 0 (s1 ||| s2)) (fun m1 => k32 (x3 + 1) m1))
set_option maxHeartbeats 4000000 in
set_option maxRecDepth 100000 in
theorem s_X10_bring_172 {Γ : GX} {E : EX} (C : Cx Γ E cX10_bring RX10 6) (hr : Γ.meth.sig.returnType = none) (hrm : Γ.rm = rmX10_bring) (th : Nat) (p1 : Int32) (p2 : Int32) (k32 : Int32 → MM → Option (Unit × MM)) (h32 : ∀ (x3 : Int32) (m : MM), Sm (QM Γ E emV 0 0) Γ E 6 0 0 32 [(0, va_rf (some th)), (1, .int p1), (2, .int p2), (3, .int x3)] [] m (k32 x3 m)) (x3 : Int32) (s0 : Option Nat) (s1 : Int32) (s2 : Int32) (m : MM) : Sm (QM Γ E emV 0 0) Γ E 6 0 0 172 [(0, va_rf (some th)), (1, .int p1), (2, .int p2), (3, .int x3)] [.int s2, .int s1, va_rf s0] m (g_X10_bring_172 th p1 p2 k32 x3 s0 s1 s2 m) := by
  unfold g_X10_bring_172
  refine z_ior C dX10_bring_172 ?_
  refine z_ck (fun a1 hr1 hk1 => ?_)
  refine z_putI C fl_RX10_381 (fun h => by cases h) hr1 hk1 rfl rfl dX10_bring_173 (fun m1 eK1 eN1 => ?_)
  refine z_iinc (v := 1) (L2 := [(3, .int (x3 + 1)), (0, va_rf (some th)), (1, .int p1), (2, .int p2)]) C dX10_bring_176 3 rfl (by decide) (by decide) rfl ?_
  refine z_goto (tgt := 32) C dX10_bring_179 (by decide) ?_
  exact z_sub [1, 2, 3, 0] rfl (h32 (x3 + 1) m1)
set_option maxRecDepth 100000 in
def g_X10_bring_153 (th : Nat) (p1 : Int32) (p2 : Int32) (k32 : Int32 → MM → Option (Unit × MM)) (x3 : Int32) (s0 : Int32) (m : MM) : Option (Unit × MM) :=
  chk (m.K th = 11) (if s0 = 0 then (g_X10_bring_172 th p1 p2 k32 x3 (some th) (m.I 1165 th 0) 0 m) else (g_X10_bring_172 th p1 p2 k32 x3 (some th) (m.I 1165 th 0) (1 <<< (x3 &&& 31)) m))
set_option maxHeartbeats 4000000 in
set_option maxRecDepth 100000 in
theorem s_X10_bring_153 {Γ : GX} {E : EX} (C : Cx Γ E cX10_bring RX10 6) (hr : Γ.meth.sig.returnType = none) (hrm : Γ.rm = rmX10_bring) (th : Nat) (p1 : Int32) (p2 : Int32) (k32 : Int32 → MM → Option (Unit × MM)) (h32 : ∀ (x3 : Int32) (m : MM), Sm (QM Γ E emV 0 0) Γ E 6 0 0 32 [(0, va_rf (some th)), (1, .int p1), (2, .int p2), (3, .int x3)] [] m (k32 x3 m)) (x3 : Int32) (s0 : Int32) (m : MM) : Sm (QM Γ E emV 0 0) Γ E 6 0 0 153 [(0, va_rf (some th)), (1, .int p1), (2, .int p2), (3, .int x3)] [.int s0] m (g_X10_bring_153 th p1 p2 k32 x3 s0 m) := by
  unfold g_X10_bring_153
  refine z_istore (i := 5) (L2 := [(5, .int s0), (0, va_rf (some th)), (1, .int p1), (2, .int p2), (3, .int x3)]) C dX10_bring_153 (by decide) rfl ?_
  refine z_aload_n C dX10_bring_155 rfl 1 rfl ?_
  refine z_dup C rfl dX10_bring_156 ?_
  refine z_chk (fun hk2 => ?_)
  refine z_getI C fl_RX10_381 rfl hk2 dX10_bring_157 ?_
  refine z_iload C dX10_bring_160 0 rfl ?_
  refine z_if_eq (tgt := 171) C dX10_bring_162 (by decide) (fun c1 => ?_) (fun c1 => ?_)
  · refine z_iconst (v := 0) C dX10_bring_171 (by decide) ?_
    exact z_sub [1, 2, 3, 4] rfl (s_X10_bring_172 C hr hrm th p1 p2 k32 h32 x3 (some th) (m.I 1165 th 0) 0 m)
  · refine z_iconst (v := 1) C dX10_bring_165 (by decide) ?_
    refine z_iload_n C dX10_bring_166 rfl 4 rfl ?_
    refine z_ishl C dX10_bring_167 ?_
    refine z_goto (tgt := 172) C dX10_bring_168 (by decide) ?_
    exact z_sub [1, 2, 3, 4] rfl (s_X10_bring_172 C hr hrm th p1 p2 k32 h32 x3 (some th) (m.I 1165 th 0) (1 <<< (x3 &&& 31)) m)
set_option maxRecDepth 100000 in
def g_X10_bring_152 (th : Nat) (p1 : Int32) (p2 : Int32) (k32 : Int32 → MM → Option (Unit × MM)) (x3 : Int32) (m : MM) : Option (Unit × MM) :=
  g_X10_bring_153 th p1 p2 k32 x3 0 m
set_option maxHeartbeats 4000000 in
set_option maxRecDepth 100000 in
theorem s_X10_bring_152 {Γ : GX} {E : EX} (C : Cx Γ E cX10_bring RX10 6) (hr : Γ.meth.sig.returnType = none) (hrm : Γ.rm = rmX10_bring) (th : Nat) (p1 : Int32) (p2 : Int32) (k32 : Int32 → MM → Option (Unit × MM)) (h32 : ∀ (x3 : Int32) (m : MM), Sm (QM Γ E emV 0 0) Γ E 6 0 0 32 [(0, va_rf (some th)), (1, .int p1), (2, .int p2), (3, .int x3)] [] m (k32 x3 m)) (x3 : Int32) (m : MM) : Sm (QM Γ E emV 0 0) Γ E 6 0 0 152 [(0, va_rf (some th)), (1, .int p1), (2, .int p2), (3, .int x3)] [] m (g_X10_bring_152 th p1 p2 k32 x3 m) := by
  unfold g_X10_bring_152
  refine z_iconst (v := 0) C dX10_bring_152 (by decide) ?_
  exact z_sub [0, 1, 2, 3] rfl (s_X10_bring_153 C hr hrm th p1 p2 k32 h32 x3 0 m)
set_option maxRecDepth 100000 in
def g_X10_bring_148 (th : Nat) (p1 : Int32) (p2 : Int32) (k32 : Int32 → MM → Option (Unit × MM)) (x3 : Int32) (m : MM) : Option (Unit × MM) :=
  g_X10_bring_153 th p1 p2 k32 x3 1 m
set_option maxHeartbeats 4000000 in
set_option maxRecDepth 100000 in
theorem s_X10_bring_148 {Γ : GX} {E : EX} (C : Cx Γ E cX10_bring RX10 6) (hr : Γ.meth.sig.returnType = none) (hrm : Γ.rm = rmX10_bring) (th : Nat) (p1 : Int32) (p2 : Int32) (k32 : Int32 → MM → Option (Unit × MM)) (h32 : ∀ (x3 : Int32) (m : MM), Sm (QM Γ E emV 0 0) Γ E 6 0 0 32 [(0, va_rf (some th)), (1, .int p1), (2, .int p2), (3, .int x3)] [] m (k32 x3 m)) (x3 : Int32) (m : MM) : Sm (QM Γ E emV 0 0) Γ E 6 0 0 148 [(0, va_rf (some th)), (1, .int p1), (2, .int p2), (3, .int x3)] [] m (g_X10_bring_148 th p1 p2 k32 x3 m) := by
  unfold g_X10_bring_148
  refine z_iconst (v := 1) C dX10_bring_148 (by decide) ?_
  refine z_goto (tgt := 153) C dX10_bring_149 (by decide) ?_
  exact z_sub [0, 1, 2, 3] rfl (s_X10_bring_153 C hr hrm th p1 p2 k32 h32 x3 1 m)
set_option maxRecDepth 100000 in
def g_X10_bring_32 (th : Nat) (p1 : Int32) (p2 : Int32) (k32 : Int32 → MM → Option (Unit × MM)) (x3 : Int32) (m : MM) : Option (Unit × MM) :=
  chk (m.K th = 11) (cal (f_X10_of th p1 2 m) (fun r1 m2 => if r1 ≤ x3 then (some ((), m2)) else (bnd ((12 * p1) + x3) (fun y1 => chk (m2.K th = 11) (ck m2 (m2.R 1107 th 0) 22 (fun a2 => chk (inb y1 (m2.N a2) = true) (ck m2 (m2.R 1160 th 0) 22 (fun a3 => chk (inb x3 (m2.N a3) = true) (bnd (m2.sI 22 a3 (Int32.toNatClampNeg x3) (m2.I 22 a2 (Int32.toNatClampNeg y1))) (fun m3 => ck m3 (m3.R 1108 th 0) 22 (fun a4 => chk (inb y1 (m3.N a4) = true) (ck m3 (m3.R 1161 th 0) 22 (fun a5 => chk (inb x3 (m3.N a5) = true) (bnd (m3.sI 22 a5 (Int32.toNatClampNeg x3) (m3.I 22 a4 (Int32.toNatClampNeg y1))) (fun m4 => ck m4 (m4.R 1109 th 0) 22 (fun a6 => chk (inb y1 (m4.N a6) = true) (ck m4 (m4.R 1162 th 0) 22 (fun a7 => chk (inb x3 (m4.N a7) = true) (bnd (m4.sI 22 a7 (Int32.toNatClampNeg x3) (m4.I 22 a6 (Int32.toNatClampNeg y1))) (fun m5 => ck m5 (m5.R 1112 th 0) 22 (fun a8 => chk (inb y1 (m5.N a8) = true) (ck m5 (m5.R 1163 th 0) 22 (fun a9 => chk (inb x3 (m5.N a9) = true) (bnd (m5.sI 22 a9 (Int32.toNatClampNeg x3) (m5.I 22 a8 (Int32.toNatClampNeg y1))) (fun m6 => ck m6 (m6.R 1111 th 0) 22 (fun a10 => chk (inb y1 (m6.N a10) = true) (ck m6 (m6.R 1164 th 0) 22 (fun a11 => chk (inb x3 (m6.N a11) = true) (bnd (m6.sI 22 a11 (Int32.toNatClampNeg x3) (m6.I 22 a10 (Int32.toNatClampNeg y1))) (fun m7 => ck m7 (m7.R 1111 th 0) 22 (fun a12 => chk (inb y1 (m7.N a12) = true) (if p2 < (m7.I 22 a12 (Int32.toNatClampNeg y1)) then (g_X10_bring_152 th p1 p2 k32 x3 m7) else (ck m7 (m7.R 1114 th 0) 22 (fun a13 => chk (inb y1 (m7.N a13) = true) (if (m7.I 22 a13 (Int32.toNatClampNeg y1)) = (-1) then (g_X10_bring_148 th p1 p2 k32 x3 m7) else (chk (inb y1 (m7.N a13) = true) (if (m7.I 22 a13 (Int32.toNatClampNeg y1)) ≤ p2 then (g_X10_bring_152 th p1 p2 k32 x3 m7) else (g_X10_bring_148 th p1 p2 k32 x3 m7))))))))))))))))))))))))))))))))))))))
set_option maxHeartbeats 4000000 in
set_option maxRecDepth 100000 in
theorem s_X10_bring_32 {Γ : GX} {E : EX} (C : Cx Γ E cX10_bring RX10 6) (hr : Γ.meth.sig.returnType = none) (hrm : Γ.rm = rmX10_bring) (th : Nat) (p1 : Int32) (p2 : Int32) (k32 : Int32 → MM → Option (Unit × MM)) (h32 : ∀ (x3 : Int32) (m : MM), Sm (QM Γ E emV 0 0) Γ E 6 0 0 32 [(0, va_rf (some th)), (1, .int p1), (2, .int p2), (3, .int x3)] [] m (k32 x3 m)) (x3 : Int32) (m : MM) : Sm (QM Γ E emV 0 0) Γ E 6 0 0 32 [(0, va_rf (some th)), (1, .int p1), (2, .int p2), (3, .int x3)] [] m (g_X10_bring_32 th p1 p2 k32 x3 m) := by
  unfold g_X10_bring_32
  refine z_iload_n C dX10_bring_32 rfl 3 rfl ?_
  refine z_aload_n C dX10_bring_33 rfl 0 rfl ?_
  refine z_iload_n C dX10_bring_34 rfl 1 rfl ?_
  refine z_iconst (v := 2) C dX10_bring_35 (by decide) ?_
  refine z_chk (fun hk3 => ?_)
  refine z_cVI [.int p1, .int 2] [.int x3] C mv_RX10_196 (fun r0 m0 h0 => M_X10_of _ _ _ _ _ _ _ _ h0) rfl rfl ⟨by rw [hrm]; exact Nat.le_of_ble_eq_true rfl, by rw [hrm]; exact Nat.le_of_ble_eq_true rfl⟩ ⟨by rw [hrm]; exact Nat.le_of_ble_eq_true rfl, by rw [hrm]; exact Nat.le_of_ble_eq_true rfl⟩ rfl hk3 rfl rfl rfl (Nat.le_of_ble_eq_true rfl) dX10_bring_36 (fun r1 m2 => ?_)
  refine z_icmp_ge (tgt := 182) C dX10_bring_39 (by decide) (fun c2 => ?_) (fun c2 => ?_)
  · exact z_vret C hr dX10_bring_182
  · refine z_bipush (v := 12) C dX10_bring_42 (by decide) ?_
    refine z_iload_n C dX10_bring_44 rfl 1 rfl ?_
    refine z_imul C dX10_bring_45 ?_
    refine z_iload_n C dX10_bring_46 rfl 3 rfl ?_
    refine z_iadd C dX10_bring_47 ?_
    refine z_bndI (fun y1 => ?_)
    refine z_istore (i := 4) (L2 := [(4, .int y1), (0, va_rf (some th)), (1, .int p1), (2, .int p2), (3, .int x3)]) C dX10_bring_48 (by decide) rfl ?_
    refine z_aload_n C dX10_bring_50 rfl 1 rfl ?_
    refine z_chk (fun hk4 => ?_)
    refine z_getR C fl_RX10_143 rfl hk4 dX10_bring_51 ?_
    refine z_iload_n C dX10_bring_54 rfl 4 rfl ?_
    refine z_aload_n C dX10_bring_55 rfl 1 rfl ?_
    refine z_getR C fl_RX10_29 rfl hk4 dX10_bring_56 ?_
    refine z_iload C dX10_bring_59 0 rfl ?_
    refine z_ck (fun a2 hr2 hk5 => ?_)
    refine z_chk (fun hj1 => ?_)
    refine z_iald C hr2 hk5 hj1 dX10_bring_61 ?_
    refine z_ck (fun a3 hr3 hk6 => ?_)
    refine z_chk (fun hj2 => ?_)
    refine z_iast C hr3 hk6 hj2 dX10_bring_62 (fun m3 eK2 eN2 => ?_)
    refine z_aload_n C dX10_bring_63 rfl 1 rfl ?_
    refine z_getR C fl_RX10_146 rfl (kfw eK2 hk4) dX10_bring_64 ?_
    refine z_iload_n C dX10_bring_67 rfl 4 rfl ?_
    refine z_aload_n C dX10_bring_68 rfl 1 rfl ?_
    refine z_getR C fl_RX10_32 rfl (kfw eK2 hk4) dX10_bring_69 ?_
    refine z_iload C dX10_bring_72 0 rfl ?_
    refine z_ck (fun a4 hr4 hk7 => ?_)
    refine z_chk (fun hj3 => ?_)
    refine z_iald C hr4 hk7 hj3 dX10_bring_74 ?_
    refine z_ck (fun a5 hr5 hk8 => ?_)
    refine z_chk (fun hj4 => ?_)
    refine z_iast C hr5 hk8 hj4 dX10_bring_75 (fun m4 eK3 eN3 => ?_)
    refine z_aload_n C dX10_bring_76 rfl 1 rfl ?_
    refine z_getR C fl_RX10_149 rfl (kfw eK3 (kfw eK2 hk4)) dX10_bring_77 ?_
    refine z_iload_n C dX10_bring_80 rfl 4 rfl ?_
    refine z_aload_n C dX10_bring_81 rfl 1 rfl ?_
    refine z_getR C fl_RX10_35 rfl (kfw eK3 (kfw eK2 hk4)) dX10_bring_82 ?_
    refine z_iload C dX10_bring_85 0 rfl ?_
    refine z_ck (fun a6 hr6 hk9 => ?_)
    refine z_chk (fun hj5 => ?_)
    refine z_iald C hr6 hk9 hj5 dX10_bring_87 ?_
    refine z_ck (fun a7 hr7 hk10 => ?_)
    refine z_chk (fun hj6 => ?_)
    refine z_iast C hr7 hk10 hj6 dX10_bring_88 (fun m5 eK4 eN4 => ?_)
    refine z_aload_n C dX10_bring_89 rfl 1 rfl ?_
    refine z_getR C fl_RX10_152 rfl (kfw eK4 (kfw eK3 (kfw eK2 hk4))) dX10_bring_90 ?_
    refine z_iload_n C dX10_bring_93 rfl 4 rfl ?_
    refine z_aload_n C dX10_bring_94 rfl 1 rfl ?_
    refine z_getR C fl_RX10_44 rfl (kfw eK4 (kfw eK3 (kfw eK2 hk4))) dX10_bring_95 ?_
    refine z_iload C dX10_bring_98 0 rfl ?_
    refine z_ck (fun a8 hr8 hk11 => ?_)
    refine z_chk (fun hj7 => ?_)
    refine z_iald C hr8 hk11 hj7 dX10_bring_100 ?_
    refine z_ck (fun a9 hr9 hk12 => ?_)
    refine z_chk (fun hj8 => ?_)
    refine z_iast C hr9 hk12 hj8 dX10_bring_101 (fun m6 eK5 eN5 => ?_)
    refine z_aload_n C dX10_bring_102 rfl 1 rfl ?_
    refine z_getR C fl_RX10_155 rfl (kfw eK5 (kfw eK4 (kfw eK3 (kfw eK2 hk4)))) dX10_bring_103 ?_
    refine z_iload_n C dX10_bring_106 rfl 4 rfl ?_
    refine z_aload_n C dX10_bring_107 rfl 1 rfl ?_
    refine z_getR C fl_RX10_41 rfl (kfw eK5 (kfw eK4 (kfw eK3 (kfw eK2 hk4)))) dX10_bring_108 ?_
    refine z_iload C dX10_bring_111 0 rfl ?_
    refine z_ck (fun a10 hr10 hk13 => ?_)
    refine z_chk (fun hj9 => ?_)
    refine z_iald C hr10 hk13 hj9 dX10_bring_113 ?_
    refine z_ck (fun a11 hr11 hk14 => ?_)
    refine z_chk (fun hj10 => ?_)
    refine z_iast C hr11 hk14 hj10 dX10_bring_114 (fun m7 eK6 eN6 => ?_)
    refine z_aload_n C dX10_bring_115 rfl 1 rfl ?_
    refine z_getR C fl_RX10_41 rfl (kfw eK6 (kfw eK5 (kfw eK4 (kfw eK3 (kfw eK2 hk4))))) dX10_bring_116 ?_
    refine z_iload C dX10_bring_119 0 rfl ?_
    refine z_ck (fun a12 hr12 hk15 => ?_)
    refine z_chk (fun hj11 => ?_)
    refine z_iald C hr12 hk15 hj11 dX10_bring_121 ?_
    refine z_iload_n C dX10_bring_122 rfl 3 rfl ?_
    refine z_icmp_gt (tgt := 152) C dX10_bring_123 (by decide) (fun c3 => ?_) (fun c3 => ?_)
    · exact z_sub [1, 2, 3, 4] rfl (s_X10_bring_152 C hr hrm th p1 p2 k32 h32 x3 m7)
    · refine z_aload_n C dX10_bring_126 rfl 1 rfl ?_
      refine z_getR C fl_RX10_50 rfl (kfw eK6 (kfw eK5 (kfw eK4 (kfw eK3 (kfw eK2 hk4))))) dX10_bring_127 ?_
      refine z_iload C dX10_bring_130 0 rfl ?_
      refine z_ck (fun a13 hr13 hk16 => ?_)
      refine z_chk (fun hj12 => ?_)
      refine z_iald C hr13 hk16 hj12 dX10_bring_132 ?_
      refine z_iconst (v := (-1)) C dX10_bring_133 (by decide) ?_
      refine z_icmp_eq (tgt := 148) C dX10_bring_134 (by decide) (fun c4 => ?_) (fun c4 => ?_)
      · exact z_sub [1, 2, 3, 4] rfl (s_X10_bring_148 C hr hrm th p1 p2 k32 h32 x3 m7)
      · refine z_aload_n C dX10_bring_137 rfl 1 rfl ?_
        refine z_getR C fl_RX10_50 rfl (kfw eK6 (kfw eK5 (kfw eK4 (kfw eK3 (kfw eK2 hk4))))) dX10_bring_138 ?_
        refine z_iload C dX10_bring_141 0 rfl ?_
        refine z_chk (fun hj13 => ?_)
        refine z_iald C hr13 hk16 hj13 dX10_bring_143 ?_
        refine z_iload_n C dX10_bring_144 rfl 3 rfl ?_
        refine z_icmp_le (tgt := 152) C dX10_bring_145 (by decide) (fun c5 => ?_) (fun c5 => ?_)
        · exact z_sub [1, 2, 3, 4] rfl (s_X10_bring_152 C hr hrm th p1 p2 k32 h32 x3 m7)
        · exact z_sub [1, 2, 3, 4] rfl (s_X10_bring_148 C hr hrm th p1 p2 k32 h32 x3 m7)
def l_X10_bring_32 (th : Nat) (p1 : Int32) (p2 : Int32) : Nat → Int32 → MM → Option (Unit × MM) := lp (fun _ _ => none) (fun k32 => g_X10_bring_32 th p1 p2 k32)
theorem t_X10_bring_32 {Γ : GX} {E : EX} (C : Cx Γ E cX10_bring RX10 6) (hr : Γ.meth.sig.returnType = none) (hrm : Γ.rm = rmX10_bring) (th : Nat) (p1 : Int32) (p2 : Int32) : ∀ (n : Nat) (x3 : Int32) (m : MM), Sm (QM Γ E emV 0 0) Γ E 6 0 0 32 [(0, va_rf (some th)), (1, .int p1), (2, .int p2), (3, .int x3)] [] m (l_X10_bring_32 th p1 p2 n x3 m) := by
  intro n
  induction n with
  | zero => intros; exact z_none
  | succ n ih => intro x3 m; exact s_X10_bring_32 C hr hrm th p1 p2 (l_X10_bring_32 th p1 p2 n) ih x3 m
set_option maxRecDepth 100000 in
def g_X10_bring_0 (th : Nat) (p1 : Int32) (p2 : Int32) (m : MM) : Option (Unit × MM) :=
  chk (m.K th = 11) (bnd (m.sI 1166 th 0 p1) (fun m8 => bnd (m8.sI 1167 th 0 p2) (fun m9 => bnd (m9.sI 1165 th 0 0) (fun m10 => bnd (m10.sI 1168 th 0 0) (fun m11 => bnd (m11.sI 1169 th 0 (-1)) (fun m12 => bnd (m12.sI 1170 th 0 0) (fun m13 => l_X10_bring_32 th p1 p2 FU 0 m13)))))))
set_option maxHeartbeats 4000000 in
set_option maxRecDepth 100000 in
theorem s_X10_bring_0 {Γ : GX} {E : EX} (C : Cx Γ E cX10_bring RX10 6) (hr : Γ.meth.sig.returnType = none) (hrm : Γ.rm = rmX10_bring) (th : Nat) (p1 : Int32) (p2 : Int32) (m : MM) : Sm (QM Γ E emV 0 0) Γ E 6 0 0 0 [(0, va_rf (some th)), (1, .int p1), (2, .int p2)] [] m (g_X10_bring_0 th p1 p2 m) := by
  unfold g_X10_bring_0
  refine z_aload_n C dX10_bring_0 rfl 0 rfl ?_
  refine z_iload_n C dX10_bring_1 rfl 1 rfl ?_
  refine z_chk (fun hk17 => ?_)
  refine z_putI C fl_RX10_375 (fun h => by cases h) rfl hk17 rfl rfl dX10_bring_2 (fun m8 eK7 eN7 => ?_)
  refine z_aload_n C dX10_bring_5 rfl 0 rfl ?_
  refine z_iload_n C dX10_bring_6 rfl 2 rfl ?_
  refine z_putI C fl_RX10_378 (fun h => by cases h) rfl (kfw eK7 hk17) rfl rfl dX10_bring_7 (fun m9 eK8 eN8 => ?_)
  refine z_aload_n C dX10_bring_10 rfl 0 rfl ?_
  refine z_iconst (v := 0) C dX10_bring_11 (by decide) ?_
  refine z_putI C fl_RX10_381 (fun h => by cases h) rfl (kfw eK8 (kfw eK7 hk17)) rfl rfl dX10_bring_12 (fun m10 eK9 eN9 => ?_)
  refine z_aload_n C dX10_bring_15 rfl 0 rfl ?_
  refine z_iconst (v := 0) C dX10_bring_16 (by decide) ?_
  refine z_putI C fl_RX10_384 (fun h => by cases h) rfl (kfw eK9 (kfw eK8 (kfw eK7 hk17))) rfl rfl dX10_bring_17 (fun m11 eK10 eN10 => ?_)
  refine z_aload_n C dX10_bring_20 rfl 0 rfl ?_
  refine z_iconst (v := (-1)) C dX10_bring_21 (by decide) ?_
  refine z_putI C fl_RX10_387 (fun h => by cases h) rfl (kfw eK10 (kfw eK9 (kfw eK8 (kfw eK7 hk17)))) rfl rfl dX10_bring_22 (fun m12 eK11 eN11 => ?_)
  refine z_aload_n C dX10_bring_25 rfl 0 rfl ?_
  refine z_iconst (v := 0) C dX10_bring_26 (by decide) ?_
  refine z_putI C fl_RX10_390 (fun h => by cases h) rfl (kfw eK11 (kfw eK10 (kfw eK9 (kfw eK8 (kfw eK7 hk17))))) rfl rfl dX10_bring_27 (fun m13 eK12 eN12 => ?_)
  refine z_iconst (v := 0) C dX10_bring_30 (by decide) ?_
  refine z_istore_n (i := 3) (L2 := [(3, .int 0), (0, va_rf (some th)), (1, .int p1), (2, .int p2)]) C dX10_bring_31 rfl (by decide) rfl ?_
  exact z_sub [1, 2, 3, 0] rfl (t_X10_bring_32 C hr hrm th p1 p2 FU 0 m13)
def f_X10_bring (th : Nat) (p1 : Int32) (p2 : Int32) (m : MM) : Option (Unit × MM) := g_X10_bring_0 th p1 p2 m
theorem M_X10_bring (l : Launch) (E : EX) (th : Nat) (p1 : Int32) (p2 : Int32) (m : MM) (r : Unit) (m2 : MM) (h : f_X10_bring th p1 p2 m = some (r, m2)) : Met l yX10_bring (.code yX10_bring cX10_bring 6 none :: TB) rmX10_bring (va_Pc [.ref th, .int p1, .int p2] (St E m)) (QR E (emV r) m2) 0 0 (AA E) :=
  met_of (em := emV) (plainFor_of_name rfl) (Nat.le_of_ble_eq_true rfl) (L0 := [(0, va_rf (some th)), (1, .int p1), (2, .int p2)]) rfl (fun Γ _ hrm C hr hn => s_X10_bring_0 C hr hrm th p1 p2 m) h

theorem dX10_apartBy_0 : decode cX10_apartBy 0 = .ok (.aload_n 0, 1) := by decide +kernel
theorem dX10_apartBy_1 : decode cX10_apartBy 1 = .ok (.getfield 146, 3) := by decide +kernel
theorem dX10_apartBy_4 : decode cX10_apartBy 4 = .ok (.iload_n 1, 1) := by decide +kernel
theorem dX10_apartBy_5 : decode cX10_apartBy 5 = .ok (.iaload, 1) := by decide +kernel
theorem dX10_apartBy_6 : decode cX10_apartBy 6 = .ok (.aload_n 0, 1) := by decide +kernel
theorem dX10_apartBy_7 : decode cX10_apartBy 7 = .ok (.getfield 146, 3) := by decide +kernel
theorem dX10_apartBy_10 : decode cX10_apartBy 10 = .ok (.iload_n 2, 1) := by decide +kernel
theorem dX10_apartBy_11 : decode cX10_apartBy 11 = .ok (.iaload, 1) := by decide +kernel
theorem dX10_apartBy_12 : decode cX10_apartBy 12 = .ok (.isub, 1) := by decide +kernel
theorem dX10_apartBy_13 : decode cX10_apartBy 13 = .ok (.aload_n 0, 1) := by decide +kernel
theorem dX10_apartBy_14 : decode cX10_apartBy 14 = .ok (.getfield 146, 3) := by decide +kernel
theorem dX10_apartBy_17 : decode cX10_apartBy 17 = .ok (.iload_n 1, 1) := by decide +kernel
theorem dX10_apartBy_18 : decode cX10_apartBy 18 = .ok (.iaload, 1) := by decide +kernel
theorem dX10_apartBy_19 : decode cX10_apartBy 19 = .ok (.aload_n 0, 1) := by decide +kernel
theorem dX10_apartBy_20 : decode cX10_apartBy 20 = .ok (.getfield 146, 3) := by decide +kernel
theorem dX10_apartBy_23 : decode cX10_apartBy 23 = .ok (.iload_n 2, 1) := by decide +kernel
theorem dX10_apartBy_24 : decode cX10_apartBy 24 = .ok (.iaload, 1) := by decide +kernel
theorem dX10_apartBy_25 : decode cX10_apartBy 25 = .ok (.isub, 1) := by decide +kernel
theorem dX10_apartBy_26 : decode cX10_apartBy 26 = .ok (.imul, 1) := by decide +kernel
theorem dX10_apartBy_27 : decode cX10_apartBy 27 = .ok (.aload_n 0, 1) := by decide +kernel
theorem dX10_apartBy_28 : decode cX10_apartBy 28 = .ok (.getfield 149, 3) := by decide +kernel
theorem dX10_apartBy_31 : decode cX10_apartBy 31 = .ok (.iload_n 1, 1) := by decide +kernel
theorem dX10_apartBy_32 : decode cX10_apartBy 32 = .ok (.iaload, 1) := by decide +kernel
theorem dX10_apartBy_33 : decode cX10_apartBy 33 = .ok (.aload_n 0, 1) := by decide +kernel
theorem dX10_apartBy_34 : decode cX10_apartBy 34 = .ok (.getfield 149, 3) := by decide +kernel
theorem dX10_apartBy_37 : decode cX10_apartBy 37 = .ok (.iload_n 2, 1) := by decide +kernel
theorem dX10_apartBy_38 : decode cX10_apartBy 38 = .ok (.iaload, 1) := by decide +kernel
theorem dX10_apartBy_39 : decode cX10_apartBy 39 = .ok (.isub, 1) := by decide +kernel
theorem dX10_apartBy_40 : decode cX10_apartBy 40 = .ok (.aload_n 0, 1) := by decide +kernel
theorem dX10_apartBy_41 : decode cX10_apartBy 41 = .ok (.getfield 149, 3) := by decide +kernel
theorem dX10_apartBy_44 : decode cX10_apartBy 44 = .ok (.iload_n 1, 1) := by decide +kernel
theorem dX10_apartBy_45 : decode cX10_apartBy 45 = .ok (.iaload, 1) := by decide +kernel
theorem dX10_apartBy_46 : decode cX10_apartBy 46 = .ok (.aload_n 0, 1) := by decide +kernel
theorem dX10_apartBy_47 : decode cX10_apartBy 47 = .ok (.getfield 149, 3) := by decide +kernel
theorem dX10_apartBy_50 : decode cX10_apartBy 50 = .ok (.iload_n 2, 1) := by decide +kernel
theorem dX10_apartBy_51 : decode cX10_apartBy 51 = .ok (.iaload, 1) := by decide +kernel
theorem dX10_apartBy_52 : decode cX10_apartBy 52 = .ok (.isub, 1) := by decide +kernel
theorem dX10_apartBy_53 : decode cX10_apartBy 53 = .ok (.imul, 1) := by decide +kernel
theorem dX10_apartBy_54 : decode cX10_apartBy 54 = .ok (.iadd, 1) := by decide +kernel
theorem dX10_apartBy_55 : decode cX10_apartBy 55 = .ok (.ireturn, 1) := by decide +kernel
def rmX10_apartBy : Room := { frames := 0, cells := 0, slots := 0, locals := 0 }
set_option maxRecDepth 100000 in
def g_X10_apartBy_0 (th : Nat) (p1 : Int32) (p2 : Int32) (m : MM) : Option (Int32 × MM) :=
  chk (m.K th = 11) (ck m (m.R 1161 th 0) 22 (fun a1 => chk (inb p1 (m.N a1) = true) (chk (inb p2 (m.N a1) = true) (chk (inb p1 (m.N a1) = true) (chk (inb p2 (m.N a1) = true) (ck m (m.R 1162 th 0) 22 (fun a2 => chk (inb p1 (m.N a2) = true) (chk (inb p2 (m.N a2) = true) (chk (inb p1 (m.N a2) = true) (chk (inb p2 (m.N a2) = true) (some ((((m.I 22 a1 (Int32.toNatClampNeg p1)) - (m.I 22 a1 (Int32.toNatClampNeg p2))) * ((m.I 22 a1 (Int32.toNatClampNeg p1)) - (m.I 22 a1 (Int32.toNatClampNeg p2)))) + (((m.I 22 a2 (Int32.toNatClampNeg p1)) - (m.I 22 a2 (Int32.toNatClampNeg p2))) * ((m.I 22 a2 (Int32.toNatClampNeg p1)) - (m.I 22 a2 (Int32.toNatClampNeg p2)))), m))))))))))))
set_option maxHeartbeats 4000000 in
set_option maxRecDepth 100000 in
theorem s_X10_apartBy_0 {Γ : GX} {E : EX} (C : Cx Γ E cX10_apartBy RX10 3) (hr : Γ.meth.sig.returnType = (some .int)) (hrm : Γ.rm = rmX10_apartBy) (th : Nat) (p1 : Int32) (p2 : Int32) (m : MM) : Sm (QM Γ E emI 0 0) Γ E 3 0 0 0 [(0, va_rf (some th)), (1, .int p1), (2, .int p2)] [] m (g_X10_apartBy_0 th p1 p2 m) := by
  unfold g_X10_apartBy_0
  refine z_aload_n C dX10_apartBy_0 rfl 0 rfl ?_
  refine z_chk (fun hk1 => ?_)
  refine z_getR C fl_RX10_146 rfl hk1 dX10_apartBy_1 ?_
  refine z_iload_n C dX10_apartBy_4 rfl 1 rfl ?_
  refine z_ck (fun a1 hr1 hk2 => ?_)
  refine z_chk (fun hj1 => ?_)
  refine z_iald C hr1 hk2 hj1 dX10_apartBy_5 ?_
  refine z_aload_n C dX10_apartBy_6 rfl 0 rfl ?_
  refine z_getR C fl_RX10_146 rfl hk1 dX10_apartBy_7 ?_
  refine z_iload_n C dX10_apartBy_10 rfl 2 rfl ?_
  refine z_chk (fun hj2 => ?_)
  refine z_iald C hr1 hk2 hj2 dX10_apartBy_11 ?_
  refine z_isub C dX10_apartBy_12 ?_
  refine z_aload_n C dX10_apartBy_13 rfl 0 rfl ?_
  refine z_getR C fl_RX10_146 rfl hk1 dX10_apartBy_14 ?_
  refine z_iload_n C dX10_apartBy_17 rfl 1 rfl ?_
  refine z_chk (fun hj3 => ?_)
  refine z_iald C hr1 hk2 hj3 dX10_apartBy_18 ?_
  refine z_aload_n C dX10_apartBy_19 rfl 0 rfl ?_
  refine z_getR C fl_RX10_146 rfl hk1 dX10_apartBy_20 ?_
  refine z_iload_n C dX10_apartBy_23 rfl 2 rfl ?_
  refine z_chk (fun hj4 => ?_)
  refine z_iald C hr1 hk2 hj4 dX10_apartBy_24 ?_
  refine z_isub C dX10_apartBy_25 ?_
  refine z_imul C dX10_apartBy_26 ?_
  refine z_aload_n C dX10_apartBy_27 rfl 0 rfl ?_
  refine z_getR C fl_RX10_149 rfl hk1 dX10_apartBy_28 ?_
  refine z_iload_n C dX10_apartBy_31 rfl 1 rfl ?_
  refine z_ck (fun a2 hr2 hk3 => ?_)
  refine z_chk (fun hj5 => ?_)
  refine z_iald C hr2 hk3 hj5 dX10_apartBy_32 ?_
  refine z_aload_n C dX10_apartBy_33 rfl 0 rfl ?_
  refine z_getR C fl_RX10_149 rfl hk1 dX10_apartBy_34 ?_
  refine z_iload_n C dX10_apartBy_37 rfl 2 rfl ?_
  refine z_chk (fun hj6 => ?_)
  refine z_iald C hr2 hk3 hj6 dX10_apartBy_38 ?_
  refine z_isub C dX10_apartBy_39 ?_
  refine z_aload_n C dX10_apartBy_40 rfl 0 rfl ?_
  refine z_getR C fl_RX10_149 rfl hk1 dX10_apartBy_41 ?_
  refine z_iload_n C dX10_apartBy_44 rfl 1 rfl ?_
  refine z_chk (fun hj7 => ?_)
  refine z_iald C hr2 hk3 hj7 dX10_apartBy_45 ?_
  refine z_aload_n C dX10_apartBy_46 rfl 0 rfl ?_
  refine z_getR C fl_RX10_149 rfl hk1 dX10_apartBy_47 ?_
  refine z_iload_n C dX10_apartBy_50 rfl 2 rfl ?_
  refine z_chk (fun hj8 => ?_)
  refine z_iald C hr2 hk3 hj8 dX10_apartBy_51 ?_
  refine z_isub C dX10_apartBy_52 ?_
  refine z_imul C dX10_apartBy_53 ?_
  refine z_iadd C dX10_apartBy_54 ?_
  exact z_iret C hr dX10_apartBy_55
def f_X10_apartBy (th : Nat) (p1 : Int32) (p2 : Int32) (m : MM) : Option (Int32 × MM) := g_X10_apartBy_0 th p1 p2 m
theorem M_X10_apartBy (l : Launch) (E : EX) (th : Nat) (p1 : Int32) (p2 : Int32) (m : MM) (r : Int32) (m2 : MM) (h : f_X10_apartBy th p1 p2 m = some (r, m2)) : Met l yX10_apartBy (.code yX10_apartBy cX10_apartBy 3 (some .int) :: TB) rmX10_apartBy (va_Pc [.ref th, .int p1, .int p2] (St E m)) (QR E (emI r) m2) 0 0 (AA E) :=
  met_of (em := emI) (plainFor_of_name rfl) (Nat.le_of_ble_eq_true rfl) (L0 := [(0, va_rf (some th)), (1, .int p1), (2, .int p2)]) rfl (fun Γ _ hrm C hr hn => s_X10_apartBy_0 C hr hrm th p1 p2 m) h

theorem dX10_apart_0 : decode cX10_apart 0 = .ok (.aload_n 0, 1) := by decide +kernel
theorem dX10_apart_1 : decode cX10_apart 1 = .ok (.iconst 0, 1) := by decide +kernel
theorem dX10_apart_2 : decode cX10_apart 2 = .ok (.putfield 180, 3) := by decide +kernel
theorem dX10_apart_5 : decode cX10_apart 5 = .ok (.aload_n 0, 1) := by decide +kernel
theorem dX10_apart_6 : decode cX10_apart 6 = .ok (.iload_n 1, 1) := by decide +kernel
theorem dX10_apart_7 : decode cX10_apart 7 = .ok (.iload_n 2, 1) := by decide +kernel
theorem dX10_apart_8 : decode cX10_apart 8 = .ok (.invokevirtual 366, 3) := by decide +kernel
theorem dX10_apart_11 : decode cX10_apart 11 = .ok (.ifCond .eq 12, 3) := by decide +kernel
theorem dX10_apart_14 : decode cX10_apart 14 = .ok (.aload_n 0, 1) := by decide +kernel
theorem dX10_apart_15 : decode cX10_apart 15 = .ok (.iload_n 1, 1) := by decide +kernel
theorem dX10_apart_16 : decode cX10_apart 16 = .ok (.iload_n 3, 1) := by decide +kernel
theorem dX10_apart_17 : decode cX10_apart 17 = .ok (.invokevirtual 366, 3) := by decide +kernel
theorem dX10_apart_20 : decode cX10_apart 20 = .ok (.ifCond .ne 5, 3) := by decide +kernel
theorem dX10_apart_23 : decode cX10_apart 23 = .ok (.iconst (-1), 1) := by decide +kernel
theorem dX10_apart_24 : decode cX10_apart 24 = .ok (.ireturn, 1) := by decide +kernel
theorem dX10_apart_25 : decode cX10_apart 25 = .ok (.aload_n 0, 1) := by decide +kernel
theorem dX10_apart_26 : decode cX10_apart 26 = .ok (.iload_n 1, 1) := by decide +kernel
theorem dX10_apart_27 : decode cX10_apart 27 = .ok (.iconst 0, 1) := by decide +kernel
theorem dX10_apart_28 : decode cX10_apart 28 = .ok (.invokevirtual 393, 3) := by decide +kernel
theorem dX10_apart_31 : decode cX10_apart 31 = .ok (.aload_n 0, 1) := by decide +kernel
theorem dX10_apart_32 : decode cX10_apart 32 = .ok (.iload_n 2, 1) := by decide +kernel
theorem dX10_apart_33 : decode cX10_apart 33 = .ok (.iload_n 3, 1) := by decide +kernel
theorem dX10_apart_34 : decode cX10_apart 34 = .ok (.invokevirtual 396, 3) := by decide +kernel
theorem dX10_apart_37 : decode cX10_apart 37 = .ok (.ireturn, 1) := by decide +kernel
def rmX10_apart : Room := { frames := 3, cells := 0, slots := 0, locals := 65 }
set_option maxRecDepth 100000 in
def g_X10_apart_0 (th : Nat) (p1 : Int32) (p2 : Int32) (p3 : Int32) (m : MM) : Option (Int32 × MM) :=
  chk (m.K th = 11) (bnd (m.sI 1100 th 0 0) (fun m1 => cal (f_X10_isThing th p1 p2 m1) (fun r1 m2 => if r1 = 0 then (some ((-1), m2)) else (chk (m2.K th = 11) (cal (f_X10_isThing th p1 p3 m2) (fun r2 m3 => if r2 = 0 then (some ((-1), m3)) else (chk (m3.K th = 11) (cal (f_X10_bring th p1 0 m3) (fun r3 m4 => chk (m4.K th = 11) (cal (f_X10_apartBy th p2 p3 m4) (fun r4 m5 => some (r4, m5))))))))))))
set_option maxHeartbeats 4000000 in
set_option maxRecDepth 100000 in
theorem s_X10_apart_0 {Γ : GX} {E : EX} (C : Cx Γ E cX10_apart RX10 4) (hr : Γ.meth.sig.returnType = (some .int)) (hrm : Γ.rm = rmX10_apart) (th : Nat) (p1 : Int32) (p2 : Int32) (p3 : Int32) (m : MM) : Sm (QM Γ E emI 0 0) Γ E 4 0 0 0 [(0, va_rf (some th)), (1, .int p1), (2, .int p2), (3, .int p3)] [] m (g_X10_apart_0 th p1 p2 p3 m) := by
  unfold g_X10_apart_0
  refine z_aload_n C dX10_apart_0 rfl 0 rfl ?_
  refine z_iconst (v := 0) C dX10_apart_1 (by decide) ?_
  refine z_chk (fun hk1 => ?_)
  refine z_putI C fl_RX10_180 (fun h => by cases h) rfl hk1 rfl rfl dX10_apart_2 (fun m1 eK1 eN1 => ?_)
  refine z_aload_n C dX10_apart_5 rfl 0 rfl ?_
  refine z_iload_n C dX10_apart_6 rfl 1 rfl ?_
  refine z_iload_n C dX10_apart_7 rfl 2 rfl ?_
  refine z_cVI [.int p1, .int p2] [] C mv_RX10_366 (fun r0 m0 h0 => M_X10_isThing _ _ _ _ _ _ _ _ h0) rfl rfl ⟨by rw [hrm]; exact Nat.le_of_ble_eq_true rfl, by rw [hrm]; exact Nat.le_of_ble_eq_true rfl⟩ ⟨by rw [hrm]; exact Nat.le_of_ble_eq_true rfl, by rw [hrm]; exact Nat.le_of_ble_eq_true rfl⟩ rfl (kfw eK1 hk1) rfl rfl rfl (Nat.le_of_ble_eq_true rfl) dX10_apart_8 (fun r1 m2 => ?_)
  refine z_if_eq (tgt := 23) C dX10_apart_11 (by decide) (fun c1 => ?_) (fun c1 => ?_)
  · refine z_iconst (v := (-1)) C dX10_apart_23 (by decide) ?_
    exact z_iret C hr dX10_apart_24
  · refine z_aload_n C dX10_apart_14 rfl 0 rfl ?_
    refine z_iload_n C dX10_apart_15 rfl 1 rfl ?_
    refine z_iload_n C dX10_apart_16 rfl 3 rfl ?_
    refine z_chk (fun hk2 => ?_)
    refine z_cVI [.int p1, .int p3] [] C mv_RX10_366 (fun r0 m0 h0 => M_X10_isThing _ _ _ _ _ _ _ _ h0) rfl rfl ⟨by rw [hrm]; exact Nat.le_of_ble_eq_true rfl, by rw [hrm]; exact Nat.le_of_ble_eq_true rfl⟩ ⟨by rw [hrm]; exact Nat.le_of_ble_eq_true rfl, by rw [hrm]; exact Nat.le_of_ble_eq_true rfl⟩ rfl hk2 rfl rfl rfl (Nat.le_of_ble_eq_true rfl) dX10_apart_17 (fun r2 m3 => ?_)
    refine z_if_ne (tgt := 25) C dX10_apart_20 (by decide) (fun c2 => ?_) (fun c2 => ?_)
    · refine z_aload_n C dX10_apart_25 rfl 0 rfl ?_
      refine z_iload_n C dX10_apart_26 rfl 1 rfl ?_
      refine z_iconst (v := 0) C dX10_apart_27 (by decide) ?_
      refine z_chk (fun hk3 => ?_)
      refine z_cVV [.int p1, .int 0] [] C mv_RX10_393 (fun r0 m0 h0 => M_X10_bring _ _ _ _ _ _ _ _ h0) rfl rfl ⟨by rw [hrm]; exact Nat.le_of_ble_eq_true rfl, by rw [hrm]; exact Nat.le_of_ble_eq_true rfl⟩ ⟨by rw [hrm]; exact Nat.le_of_ble_eq_true rfl, by rw [hrm]; exact Nat.le_of_ble_eq_true rfl⟩ rfl hk3 rfl rfl rfl (Nat.le_of_ble_eq_true rfl) dX10_apart_28 (fun r3 m4 => ?_)
      refine z_aload_n C dX10_apart_31 rfl 0 rfl ?_
      refine z_iload_n C dX10_apart_32 rfl 2 rfl ?_
      refine z_iload_n C dX10_apart_33 rfl 3 rfl ?_
      refine z_chk (fun hk4 => ?_)
      refine z_cVI [.int p2, .int p3] [] C mv_RX10_396 (fun r0 m0 h0 => M_X10_apartBy _ _ _ _ _ _ _ _ h0) rfl rfl ⟨by rw [hrm]; exact Nat.le_of_ble_eq_true rfl, by rw [hrm]; exact Nat.le_of_ble_eq_true rfl⟩ ⟨by rw [hrm]; exact Nat.le_of_ble_eq_true rfl, by rw [hrm]; exact Nat.le_of_ble_eq_true rfl⟩ rfl hk4 rfl rfl rfl (Nat.le_of_ble_eq_true rfl) dX10_apart_34 (fun r4 m5 => ?_)
      exact z_iret C hr dX10_apart_37
    · refine z_iconst (v := (-1)) C dX10_apart_23 (by decide) ?_
      exact z_iret C hr dX10_apart_24
def f_X10_apart (th : Nat) (p1 : Int32) (p2 : Int32) (p3 : Int32) (m : MM) : Option (Int32 × MM) := g_X10_apart_0 th p1 p2 p3 m
theorem M_X10_apart (l : Launch) (E : EX) (th : Nat) (p1 : Int32) (p2 : Int32) (p3 : Int32) (m : MM) (r : Int32) (m2 : MM) (h : f_X10_apart th p1 p2 p3 m = some (r, m2)) : Met l yX10_apart (.code yX10_apart cX10_apart 4 (some .int) :: TB) rmX10_apart (va_Pc [.ref th, .int p1, .int p2, .int p3] (St E m)) (QR E (emI r) m2) 0 0 (AA E) :=
  met_of (em := emI) (plainFor_of_name rfl) (Nat.le_of_ble_eq_true rfl) (L0 := [(0, va_rf (some th)), (1, .int p1), (2, .int p2), (3, .int p3)]) rfl (fun Γ _ hrm C hr hn => s_X10_apart_0 C hr hrm th p1 p2 p3 m) h

theorem dX10_side_0 : decode cX10_side 0 = .ok (.iload_n 2, 1) := by decide +kernel
theorem dX10_side_1 : decode cX10_side 1 = .ok (.iload_n 0, 1) := by decide +kernel
theorem dX10_side_2 : decode cX10_side 2 = .ok (.isub, 1) := by decide +kernel
theorem dX10_side_3 : decode cX10_side 3 = .ok (.iload 5, 2) := by decide +kernel
theorem dX10_side_5 : decode cX10_side 5 = .ok (.iload_n 1, 1) := by decide +kernel
theorem dX10_side_6 : decode cX10_side 6 = .ok (.isub, 1) := by decide +kernel
theorem dX10_side_7 : decode cX10_side 7 = .ok (.imul, 1) := by decide +kernel
theorem dX10_side_8 : decode cX10_side 8 = .ok (.iload_n 3, 1) := by decide +kernel
theorem dX10_side_9 : decode cX10_side 9 = .ok (.iload_n 1, 1) := by decide +kernel
theorem dX10_side_10 : decode cX10_side 10 = .ok (.isub, 1) := by decide +kernel
theorem dX10_side_11 : decode cX10_side 11 = .ok (.iload 4, 2) := by decide +kernel
theorem dX10_side_13 : decode cX10_side 13 = .ok (.iload_n 0, 1) := by decide +kernel
theorem dX10_side_14 : decode cX10_side 14 = .ok (.isub, 1) := by decide +kernel
theorem dX10_side_15 : decode cX10_side 15 = .ok (.imul, 1) := by decide +kernel
theorem dX10_side_16 : decode cX10_side 16 = .ok (.isub, 1) := by decide +kernel
theorem dX10_side_17 : decode cX10_side 17 = .ok (.istore 6, 2) := by decide +kernel
theorem dX10_side_19 : decode cX10_side 19 = .ok (.iload 6, 2) := by decide +kernel
theorem dX10_side_21 : decode cX10_side 21 = .ok (.ifCond .le 7, 3) := by decide +kernel
theorem dX10_side_24 : decode cX10_side 24 = .ok (.iconst 1, 1) := by decide +kernel
theorem dX10_side_25 : decode cX10_side 25 = .ok (.goto 13, 3) := by decide +kernel
theorem dX10_side_28 : decode cX10_side 28 = .ok (.iload 6, 2) := by decide +kernel
theorem dX10_side_30 : decode cX10_side 30 = .ok (.ifCond .ge 7, 3) := by decide +kernel
theorem dX10_side_33 : decode cX10_side 33 = .ok (.iconst (-1), 1) := by decide +kernel
theorem dX10_side_34 : decode cX10_side 34 = .ok (.goto 4, 3) := by decide +kernel
theorem dX10_side_37 : decode cX10_side 37 = .ok (.iconst 0, 1) := by decide +kernel
theorem dX10_side_38 : decode cX10_side 38 = .ok (.ireturn, 1) := by decide +kernel
def rmX10_side : Room := { frames := 0, cells := 0, slots := 0, locals := 0 }
set_option maxRecDepth 100000 in
def g_X10_side_0 (p0 : Int32) (p1 : Int32) (p2 : Int32) (p3 : Int32) (p4 : Int32) (p5 : Int32) (m : MM) : Option (Int32 × MM) :=
  bnd (((p2 - p0) * (p5 - p1)) - ((p3 - p1) * (p4 - p0))) (fun y1 => if y1 ≤ 0 then (if 0 ≤ y1 then (some (0, m)) else (some ((-1), m))) else (some (1, m)))
set_option maxHeartbeats 4000000 in
set_option maxRecDepth 100000 in
theorem s_X10_side_0 {Γ : GX} {E : EX} (C : Cx Γ E cX10_side RX10 7) (hr : Γ.meth.sig.returnType = (some .int)) (hrm : Γ.rm = rmX10_side) (p0 : Int32) (p1 : Int32) (p2 : Int32) (p3 : Int32) (p4 : Int32) (p5 : Int32) (m : MM) : Sm (QM Γ E emI 0 0) Γ E 7 0 0 0 [(0, .int p0), (1, .int p1), (2, .int p2), (3, .int p3), (4, .int p4), (5, .int p5)] [] m (g_X10_side_0 p0 p1 p2 p3 p4 p5 m) := by
  unfold g_X10_side_0
  refine z_iload_n C dX10_side_0 rfl 2 rfl ?_
  refine z_iload_n C dX10_side_1 rfl 0 rfl ?_
  refine z_isub C dX10_side_2 ?_
  refine z_iload C dX10_side_3 5 rfl ?_
  refine z_iload_n C dX10_side_5 rfl 1 rfl ?_
  refine z_isub C dX10_side_6 ?_
  refine z_imul C dX10_side_7 ?_
  refine z_iload_n C dX10_side_8 rfl 3 rfl ?_
  refine z_iload_n C dX10_side_9 rfl 1 rfl ?_
  refine z_isub C dX10_side_10 ?_
  refine z_iload C dX10_side_11 4 rfl ?_
  refine z_iload_n C dX10_side_13 rfl 0 rfl ?_
  refine z_isub C dX10_side_14 ?_
  refine z_imul C dX10_side_15 ?_
  refine z_isub C dX10_side_16 ?_
  refine z_bndI (fun y1 => ?_)
  refine z_istore (i := 6) (L2 := [(6, .int y1), (0, .int p0), (1, .int p1), (2, .int p2), (3, .int p3), (4, .int p4), (5, .int p5)]) C dX10_side_17 (by decide) rfl ?_
  refine z_iload C dX10_side_19 0 rfl ?_
  refine z_if_le (tgt := 28) C dX10_side_21 (by decide) (fun c1 => ?_) (fun c1 => ?_)
  · refine z_iload C dX10_side_28 0 rfl ?_
    refine z_if_ge (tgt := 37) C dX10_side_30 (by decide) (fun c2 => ?_) (fun c2 => ?_)
    · refine z_iconst (v := 0) C dX10_side_37 (by decide) ?_
      exact z_iret C hr dX10_side_38
    · refine z_iconst (v := (-1)) C dX10_side_33 (by decide) ?_
      refine z_goto (tgt := 38) C dX10_side_34 (by decide) ?_
      exact z_iret C hr dX10_side_38
  · refine z_iconst (v := 1) C dX10_side_24 (by decide) ?_
    refine z_goto (tgt := 38) C dX10_side_25 (by decide) ?_
    exact z_iret C hr dX10_side_38
def f_X10_side (p0 : Int32) (p1 : Int32) (p2 : Int32) (p3 : Int32) (p4 : Int32) (p5 : Int32) (m : MM) : Option (Int32 × MM) := g_X10_side_0 p0 p1 p2 p3 p4 p5 m
theorem M_X10_side (l : Launch) (E : EX) (p0 : Int32) (p1 : Int32) (p2 : Int32) (p3 : Int32) (p4 : Int32) (p5 : Int32) (m : MM) (r : Int32) (m2 : MM) (h : f_X10_side p0 p1 p2 p3 p4 p5 m = some (r, m2)) : Met l yX10_side (.code yX10_side cX10_side 7 (some .int) :: TB) rmX10_side (va_Pc [.int p0, .int p1, .int p2, .int p3, .int p4, .int p5] (St E m)) (QR E (emI r) m2) 0 0 (AA E) :=
  met_of (em := emI) (plainFor_of_name rfl) (Nat.le_of_ble_eq_true rfl) (L0 := [(0, .int p0), (1, .int p1), (2, .int p2), (3, .int p3), (4, .int p4), (5, .int p5)]) rfl (fun Γ _ hrm C hr hn => s_X10_side_0 C hr hrm p0 p1 p2 p3 p4 p5 m) h

theorem dX10_isOn_0 : decode cX10_isOn 0 = .ok (.iload_n 0, 1) := by decide +kernel
theorem dX10_isOn_1 : decode cX10_isOn 1 = .ok (.iload_n 2, 1) := by decide +kernel
theorem dX10_isOn_2 : decode cX10_isOn 2 = .ok (.if_icmp .ge 7, 3) := by decide +kernel
theorem dX10_isOn_5 : decode cX10_isOn 5 = .ok (.iload_n 0, 1) := by decide +kernel
theorem dX10_isOn_6 : decode cX10_isOn 6 = .ok (.goto 4, 3) := by decide +kernel
theorem dX10_isOn_9 : decode cX10_isOn 9 = .ok (.iload_n 2, 1) := by decide +kernel
theorem dX10_isOn_10 : decode cX10_isOn 10 = .ok (.istore 6, 2) := by decide +kernel
theorem dX10_isOn_12 : decode cX10_isOn 12 = .ok (.iload_n 1, 1) := by decide +kernel
theorem dX10_isOn_13 : decode cX10_isOn 13 = .ok (.iload_n 3, 1) := by decide +kernel
theorem dX10_isOn_14 : decode cX10_isOn 14 = .ok (.if_icmp .ge 7, 3) := by decide +kernel
theorem dX10_isOn_17 : decode cX10_isOn 17 = .ok (.iload_n 1, 1) := by decide +kernel
theorem dX10_isOn_18 : decode cX10_isOn 18 = .ok (.goto 4, 3) := by decide +kernel
theorem dX10_isOn_21 : decode cX10_isOn 21 = .ok (.iload_n 3, 1) := by decide +kernel
theorem dX10_isOn_22 : decode cX10_isOn 22 = .ok (.istore 7, 2) := by decide +kernel
theorem dX10_isOn_24 : decode cX10_isOn 24 = .ok (.iload_n 0, 1) := by decide +kernel
theorem dX10_isOn_25 : decode cX10_isOn 25 = .ok (.iload_n 1, 1) := by decide +kernel
theorem dX10_isOn_26 : decode cX10_isOn 26 = .ok (.iload_n 2, 1) := by decide +kernel
theorem dX10_isOn_27 : decode cX10_isOn 27 = .ok (.iload_n 3, 1) := by decide +kernel
theorem dX10_isOn_28 : decode cX10_isOn 28 = .ok (.iload 4, 2) := by decide +kernel
theorem dX10_isOn_30 : decode cX10_isOn 30 = .ok (.iload 5, 2) := by decide +kernel
theorem dX10_isOn_32 : decode cX10_isOn 32 = .ok (.invokestatic 399, 3) := by decide +kernel
theorem dX10_isOn_35 : decode cX10_isOn 35 = .ok (.ifCond .ne 39, 3) := by decide +kernel
theorem dX10_isOn_38 : decode cX10_isOn 38 = .ok (.iload 4, 2) := by decide +kernel
theorem dX10_isOn_40 : decode cX10_isOn 40 = .ok (.iload 6, 2) := by decide +kernel
theorem dX10_isOn_42 : decode cX10_isOn 42 = .ok (.iload_n 0, 1) := by decide +kernel
theorem dX10_isOn_43 : decode cX10_isOn 43 = .ok (.iload_n 2, 1) := by decide +kernel
theorem dX10_isOn_44 : decode cX10_isOn 44 = .ok (.iadd, 1) := by decide +kernel
theorem dX10_isOn_45 : decode cX10_isOn 45 = .ok (.iload 6, 2) := by decide +kernel
theorem dX10_isOn_47 : decode cX10_isOn 47 = .ok (.isub, 1) := by decide +kernel
theorem dX10_isOn_48 : decode cX10_isOn 48 = .ok (.invokestatic 188, 3) := by decide +kernel
theorem dX10_isOn_51 : decode cX10_isOn 51 = .ok (.ifCond .eq 23, 3) := by decide +kernel
theorem dX10_isOn_54 : decode cX10_isOn 54 = .ok (.iload 5, 2) := by decide +kernel
theorem dX10_isOn_56 : decode cX10_isOn 56 = .ok (.iload 7, 2) := by decide +kernel
theorem dX10_isOn_58 : decode cX10_isOn 58 = .ok (.iload_n 1, 1) := by decide +kernel
theorem dX10_isOn_59 : decode cX10_isOn 59 = .ok (.iload_n 3, 1) := by decide +kernel
theorem dX10_isOn_60 : decode cX10_isOn 60 = .ok (.iadd, 1) := by decide +kernel
theorem dX10_isOn_61 : decode cX10_isOn 61 = .ok (.iload 7, 2) := by decide +kernel
theorem dX10_isOn_63 : decode cX10_isOn 63 = .ok (.isub, 1) := by decide +kernel
theorem dX10_isOn_64 : decode cX10_isOn 64 = .ok (.invokestatic 188, 3) := by decide +kernel
theorem dX10_isOn_67 : decode cX10_isOn 67 = .ok (.ifCond .eq 7, 3) := by decide +kernel
theorem dX10_isOn_70 : decode cX10_isOn 70 = .ok (.iconst 1, 1) := by decide +kernel
theorem dX10_isOn_71 : decode cX10_isOn 71 = .ok (.goto 4, 3) := by decide +kernel
theorem dX10_isOn_74 : decode cX10_isOn 74 = .ok (.iconst 0, 1) := by decide +kernel
theorem dX10_isOn_75 : decode cX10_isOn 75 = .ok (.ireturn, 1) := by decide +kernel
def rmX10_isOn : Room := { frames := 1, cells := 0, slots := 0, locals := 26 }
set_option maxRecDepth 100000 in
def g_X10_isOn_74 (p0 : Int32) (p1 : Int32) (p2 : Int32) (p3 : Int32) (p4 : Int32) (p5 : Int32) (m : MM) : Option (Int32 × MM) :=
  some (0, m)
set_option maxHeartbeats 4000000 in
set_option maxRecDepth 100000 in
theorem s_X10_isOn_74 {Γ : GX} {E : EX} (C : Cx Γ E cX10_isOn RX10 8) (hr : Γ.meth.sig.returnType = (some .boolean)) (hrm : Γ.rm = rmX10_isOn) (p0 : Int32) (p1 : Int32) (p2 : Int32) (p3 : Int32) (p4 : Int32) (p5 : Int32) (m : MM) : Sm (QM Γ E emI 0 0) Γ E 8 0 0 74 [(0, .int p0), (1, .int p1), (2, .int p2), (3, .int p3), (4, .int p4), (5, .int p5)] [] m (g_X10_isOn_74 p0 p1 p2 p3 p4 p5 m) := by
  unfold g_X10_isOn_74
  refine z_iconst (v := 0) C dX10_isOn_74 (by decide) ?_
  exact z_zret C hr rfl dX10_isOn_75
set_option maxRecDepth 100000 in
def g_X10_isOn_22 (p0 : Int32) (p1 : Int32) (p2 : Int32) (p3 : Int32) (p4 : Int32) (p5 : Int32) (x6 : Int32) (s0 : Int32) (m : MM) : Option (Int32 × MM) :=
  cal (f_X10_side p0 p1 p2 p3 p4 p5 m) (fun r1 m1 => if r1 = 0 then (cal (f_X10_in p4 x6 ((p0 + p2) - x6) m1) (fun r2 m2 => if r2 = 0 then (g_X10_isOn_74 p0 p1 p2 p3 p4 p5 m2) else (cal (f_X10_in p5 s0 ((p1 + p3) - s0) m2) (fun r3 m3 => if r3 = 0 then (g_X10_isOn_74 p0 p1 p2 p3 p4 p5 m3) else (some (1, m3)))))) else (g_X10_isOn_74 p0 p1 p2 p3 p4 p5 m1))
set_option maxHeartbeats 4000000 in
set_option maxRecDepth 100000 in
theorem s_X10_isOn_22 {Γ : GX} {E : EX} (C : Cx Γ E cX10_isOn RX10 8) (hr : Γ.meth.sig.returnType = (some .boolean)) (hrm : Γ.rm = rmX10_isOn) (p0 : Int32) (p1 : Int32) (p2 : Int32) (p3 : Int32) (p4 : Int32) (p5 : Int32) (x6 : Int32) (s0 : Int32) (m : MM) : Sm (QM Γ E emI 0 0) Γ E 8 0 0 22 [(0, .int p0), (1, .int p1), (2, .int p2), (3, .int p3), (4, .int p4), (5, .int p5), (6, .int x6)] [.int s0] m (g_X10_isOn_22 p0 p1 p2 p3 p4 p5 x6 s0 m) := by
  unfold g_X10_isOn_22
  refine z_istore (i := 7) (L2 := [(7, .int s0), (0, .int p0), (1, .int p1), (2, .int p2), (3, .int p3), (4, .int p4), (5, .int p5), (6, .int x6)]) C dX10_isOn_22 (by decide) rfl ?_
  refine z_iload_n C dX10_isOn_24 rfl 1 rfl ?_
  refine z_iload_n C dX10_isOn_25 rfl 2 rfl ?_
  refine z_iload_n C dX10_isOn_26 rfl 3 rfl ?_
  refine z_iload_n C dX10_isOn_27 rfl 4 rfl ?_
  refine z_iload C dX10_isOn_28 5 rfl ?_
  refine z_iload C dX10_isOn_30 6 rfl ?_
  refine z_cSI [.int p0, .int p1, .int p2, .int p3, .int p4, .int p5] [] C mv_RX10_399 (fun r0 m0 h0 => M_X10_side _ _ _ _ _ _ _ _ _ _ _ h0) rfl rfl ⟨by rw [hrm]; exact Nat.le_of_ble_eq_true rfl, by rw [hrm]; exact Nat.le_of_ble_eq_true rfl⟩ ⟨by rw [hrm]; exact Nat.le_of_ble_eq_true rfl, by rw [hrm]; exact Nat.le_of_ble_eq_true rfl⟩ rfl rfl (Nat.le_of_ble_eq_true rfl) dX10_isOn_32 (fun r1 m1 => ?_)
  refine z_if_ne (tgt := 74) C dX10_isOn_35 (by decide) (fun c1 => ?_) (fun c1 => ?_)
  · exact z_sub [1, 2, 3, 4, 5, 6] rfl (s_X10_isOn_74 C hr hrm p0 p1 p2 p3 p4 p5 m1)
  · refine z_iload C dX10_isOn_38 5 rfl ?_
    refine z_iload C dX10_isOn_40 7 rfl ?_
    refine z_iload_n C dX10_isOn_42 rfl 1 rfl ?_
    refine z_iload_n C dX10_isOn_43 rfl 3 rfl ?_
    refine z_iadd C dX10_isOn_44 ?_
    refine z_iload C dX10_isOn_45 7 rfl ?_
    refine z_isub C dX10_isOn_47 ?_
    refine z_cSI [.int p4, .int x6, .int ((p0 + p2) - x6)] [] C mv_RX10_188 (fun r0 m0 h0 => M_X10_in _ _ _ _ _ _ _ _ h0) rfl rfl ⟨by rw [hrm]; exact Nat.le_of_ble_eq_true rfl, by rw [hrm]; exact Nat.le_of_ble_eq_true rfl⟩ ⟨by rw [hrm]; exact Nat.le_of_ble_eq_true rfl, by rw [hrm]; exact Nat.le_of_ble_eq_true rfl⟩ rfl rfl (Nat.le_of_ble_eq_true rfl) dX10_isOn_48 (fun r2 m2 => ?_)
    refine z_if_eq (tgt := 74) C dX10_isOn_51 (by decide) (fun c2 => ?_) (fun c2 => ?_)
    · exact z_sub [1, 2, 3, 4, 5, 6] rfl (s_X10_isOn_74 C hr hrm p0 p1 p2 p3 p4 p5 m2)
    · refine z_iload C dX10_isOn_54 6 rfl ?_
      refine z_iload C dX10_isOn_56 0 rfl ?_
      refine z_iload_n C dX10_isOn_58 rfl 2 rfl ?_
      refine z_iload_n C dX10_isOn_59 rfl 4 rfl ?_
      refine z_iadd C dX10_isOn_60 ?_
      refine z_iload C dX10_isOn_61 0 rfl ?_
      refine z_isub C dX10_isOn_63 ?_
      refine z_cSI [.int p5, .int s0, .int ((p1 + p3) - s0)] [] C mv_RX10_188 (fun r0 m0 h0 => M_X10_in _ _ _ _ _ _ _ _ h0) rfl rfl ⟨by rw [hrm]; exact Nat.le_of_ble_eq_true rfl, by rw [hrm]; exact Nat.le_of_ble_eq_true rfl⟩ ⟨by rw [hrm]; exact Nat.le_of_ble_eq_true rfl, by rw [hrm]; exact Nat.le_of_ble_eq_true rfl⟩ rfl rfl (Nat.le_of_ble_eq_true rfl) dX10_isOn_64 (fun r3 m3 => ?_)
      refine z_if_eq (tgt := 74) C dX10_isOn_67 (by decide) (fun c3 => ?_) (fun c3 => ?_)
      · exact z_sub [1, 2, 3, 4, 5, 6] rfl (s_X10_isOn_74 C hr hrm p0 p1 p2 p3 p4 p5 m3)
      · refine z_iconst (v := 1) C dX10_isOn_70 (by decide) ?_
        refine z_goto (tgt := 75) C dX10_isOn_71 (by decide) ?_
        exact z_zret C hr rfl dX10_isOn_75
set_option maxRecDepth 100000 in
def g_X10_isOn_10 (p0 : Int32) (p1 : Int32) (p2 : Int32) (p3 : Int32) (p4 : Int32) (p5 : Int32) (s0 : Int32) (m : MM) : Option (Int32 × MM) :=
  if p3 ≤ p1 then (g_X10_isOn_22 p0 p1 p2 p3 p4 p5 s0 p3 m) else (g_X10_isOn_22 p0 p1 p2 p3 p4 p5 s0 p1 m)
set_option maxHeartbeats 4000000 in
set_option maxRecDepth 100000 in
theorem s_X10_isOn_10 {Γ : GX} {E : EX} (C : Cx Γ E cX10_isOn RX10 8) (hr : Γ.meth.sig.returnType = (some .boolean)) (hrm : Γ.rm = rmX10_isOn) (p0 : Int32) (p1 : Int32) (p2 : Int32) (p3 : Int32) (p4 : Int32) (p5 : Int32) (s0 : Int32) (m : MM) : Sm (QM Γ E emI 0 0) Γ E 8 0 0 10 [(0, .int p0), (1, .int p1), (2, .int p2), (3, .int p3), (4, .int p4), (5, .int p5)] [.int s0] m (g_X10_isOn_10 p0 p1 p2 p3 p4 p5 s0 m) := by
  unfold g_X10_isOn_10
  refine z_istore (i := 6) (L2 := [(6, .int s0), (0, .int p0), (1, .int p1), (2, .int p2), (3, .int p3), (4, .int p4), (5, .int p5)]) C dX10_isOn_10 (by decide) rfl ?_
  refine z_iload_n C dX10_isOn_12 rfl 2 rfl ?_
  refine z_iload_n C dX10_isOn_13 rfl 4 rfl ?_
  refine z_icmp_ge (tgt := 21) C dX10_isOn_14 (by decide) (fun c4 => ?_) (fun c4 => ?_)
  · refine z_iload_n C dX10_isOn_21 rfl 4 rfl ?_
    exact z_sub [1, 2, 3, 4, 5, 6, 0] rfl (s_X10_isOn_22 C hr hrm p0 p1 p2 p3 p4 p5 s0 p3 m)
  · refine z_iload_n C dX10_isOn_17 rfl 2 rfl ?_
    refine z_goto (tgt := 22) C dX10_isOn_18 (by decide) ?_
    exact z_sub [1, 2, 3, 4, 5, 6, 0] rfl (s_X10_isOn_22 C hr hrm p0 p1 p2 p3 p4 p5 s0 p1 m)
set_option maxRecDepth 100000 in
def g_X10_isOn_0 (p0 : Int32) (p1 : Int32) (p2 : Int32) (p3 : Int32) (p4 : Int32) (p5 : Int32) (m : MM) : Option (Int32 × MM) :=
  if p2 ≤ p0 then (g_X10_isOn_10 p0 p1 p2 p3 p4 p5 p2 m) else (g_X10_isOn_10 p0 p1 p2 p3 p4 p5 p0 m)
set_option maxHeartbeats 4000000 in
set_option maxRecDepth 100000 in
theorem s_X10_isOn_0 {Γ : GX} {E : EX} (C : Cx Γ E cX10_isOn RX10 8) (hr : Γ.meth.sig.returnType = (some .boolean)) (hrm : Γ.rm = rmX10_isOn) (p0 : Int32) (p1 : Int32) (p2 : Int32) (p3 : Int32) (p4 : Int32) (p5 : Int32) (m : MM) : Sm (QM Γ E emI 0 0) Γ E 8 0 0 0 [(0, .int p0), (1, .int p1), (2, .int p2), (3, .int p3), (4, .int p4), (5, .int p5)] [] m (g_X10_isOn_0 p0 p1 p2 p3 p4 p5 m) := by
  unfold g_X10_isOn_0
  refine z_iload_n C dX10_isOn_0 rfl 0 rfl ?_
  refine z_iload_n C dX10_isOn_1 rfl 2 rfl ?_
  refine z_icmp_ge (tgt := 9) C dX10_isOn_2 (by decide) (fun c5 => ?_) (fun c5 => ?_)
  · refine z_iload_n C dX10_isOn_9 rfl 2 rfl ?_
    exact z_sub [0, 1, 2, 3, 4, 5] rfl (s_X10_isOn_10 C hr hrm p0 p1 p2 p3 p4 p5 p2 m)
  · refine z_iload_n C dX10_isOn_5 rfl 0 rfl ?_
    refine z_goto (tgt := 10) C dX10_isOn_6 (by decide) ?_
    exact z_sub [0, 1, 2, 3, 4, 5] rfl (s_X10_isOn_10 C hr hrm p0 p1 p2 p3 p4 p5 p0 m)
def f_X10_isOn (p0 : Int32) (p1 : Int32) (p2 : Int32) (p3 : Int32) (p4 : Int32) (p5 : Int32) (m : MM) : Option (Int32 × MM) := g_X10_isOn_0 p0 p1 p2 p3 p4 p5 m
theorem M_X10_isOn (l : Launch) (E : EX) (p0 : Int32) (p1 : Int32) (p2 : Int32) (p3 : Int32) (p4 : Int32) (p5 : Int32) (m : MM) (r : Int32) (m2 : MM) (h : f_X10_isOn p0 p1 p2 p3 p4 p5 m = some (r, m2)) : Met l yX10_isOn (.code yX10_isOn cX10_isOn 8 (some .boolean) :: TB) rmX10_isOn (va_Pc [.int p0, .int p1, .int p2, .int p3, .int p4, .int p5] (St E m)) (QR E (emI r) m2) 0 0 (AA E) :=
  met_of (em := emI) (plainFor_of_name rfl) (Nat.le_of_ble_eq_true rfl) (L0 := [(0, .int p0), (1, .int p1), (2, .int p2), (3, .int p3), (4, .int p4), (5, .int p5)]) rfl (fun Γ _ hrm C hr hn => s_X10_isOn_0 C hr hrm p0 p1 p2 p3 p4 p5 m) h

theorem dX10_crosses_0 : decode cX10_crosses 0 = .ok (.bipush 14, 2) := by decide +kernel
theorem dX10_crosses_2 : decode cX10_crosses 2 = .ok (.aload_n 0, 1) := by decide +kernel
theorem dX10_crosses_3 : decode cX10_crosses 3 = .ok (.getfield 375, 3) := by decide +kernel
theorem dX10_crosses_6 : decode cX10_crosses 6 = .ok (.imul, 1) := by decide +kernel
theorem dX10_crosses_7 : decode cX10_crosses 7 = .ok (.iload_n 1, 1) := by decide +kernel
theorem dX10_crosses_8 : decode cX10_crosses 8 = .ok (.iadd, 1) := by decide +kernel
theorem dX10_crosses_9 : decode cX10_crosses 9 = .ok (.istore 4, 2) := by decide +kernel
theorem dX10_crosses_11 : decode cX10_crosses 11 = .ok (.aload_n 0, 1) := by decide +kernel
theorem dX10_crosses_12 : decode cX10_crosses 12 = .ok (.getfield 146, 3) := by decide +kernel
theorem dX10_crosses_15 : decode cX10_crosses 15 = .ok (.iload_n 2, 1) := by decide +kernel
theorem dX10_crosses_16 : decode cX10_crosses 16 = .ok (.iaload, 1) := by decide +kernel
theorem dX10_crosses_17 : decode cX10_crosses 17 = .ok (.aload_n 0, 1) := by decide +kernel
theorem dX10_crosses_18 : decode cX10_crosses 18 = .ok (.getfield 149, 3) := by decide +kernel
theorem dX10_crosses_21 : decode cX10_crosses 21 = .ok (.iload_n 2, 1) := by decide +kernel
theorem dX10_crosses_22 : decode cX10_crosses 22 = .ok (.iaload, 1) := by decide +kernel
theorem dX10_crosses_23 : decode cX10_crosses 23 = .ok (.aload_n 0, 1) := by decide +kernel
theorem dX10_crosses_24 : decode cX10_crosses 24 = .ok (.getfield 146, 3) := by decide +kernel
theorem dX10_crosses_27 : decode cX10_crosses 27 = .ok (.iload_n 3, 1) := by decide +kernel
theorem dX10_crosses_28 : decode cX10_crosses 28 = .ok (.iaload, 1) := by decide +kernel
theorem dX10_crosses_29 : decode cX10_crosses 29 = .ok (.aload_n 0, 1) := by decide +kernel
theorem dX10_crosses_30 : decode cX10_crosses 30 = .ok (.getfield 149, 3) := by decide +kernel
theorem dX10_crosses_33 : decode cX10_crosses 33 = .ok (.iload_n 3, 1) := by decide +kernel
theorem dX10_crosses_34 : decode cX10_crosses 34 = .ok (.iaload, 1) := by decide +kernel
theorem dX10_crosses_35 : decode cX10_crosses 35 = .ok (.aload_n 0, 1) := by decide +kernel
theorem dX10_crosses_36 : decode cX10_crosses 36 = .ok (.getfield 53, 3) := by decide +kernel
theorem dX10_crosses_39 : decode cX10_crosses 39 = .ok (.iload 4, 2) := by decide +kernel
theorem dX10_crosses_41 : decode cX10_crosses 41 = .ok (.iaload, 1) := by decide +kernel
theorem dX10_crosses_42 : decode cX10_crosses 42 = .ok (.aload_n 0, 1) := by decide +kernel
theorem dX10_crosses_43 : decode cX10_crosses 43 = .ok (.getfield 56, 3) := by decide +kernel
theorem dX10_crosses_46 : decode cX10_crosses 46 = .ok (.iload 4, 2) := by decide +kernel
theorem dX10_crosses_48 : decode cX10_crosses 48 = .ok (.iaload, 1) := by decide +kernel
theorem dX10_crosses_49 : decode cX10_crosses 49 = .ok (.invokestatic 399, 3) := by decide +kernel
theorem dX10_crosses_52 : decode cX10_crosses 52 = .ok (.aload_n 0, 1) := by decide +kernel
theorem dX10_crosses_53 : decode cX10_crosses 53 = .ok (.getfield 146, 3) := by decide +kernel
theorem dX10_crosses_56 : decode cX10_crosses 56 = .ok (.iload_n 2, 1) := by decide +kernel
theorem dX10_crosses_57 : decode cX10_crosses 57 = .ok (.iaload, 1) := by decide +kernel
theorem dX10_crosses_58 : decode cX10_crosses 58 = .ok (.aload_n 0, 1) := by decide +kernel
theorem dX10_crosses_59 : decode cX10_crosses 59 = .ok (.getfield 149, 3) := by decide +kernel
theorem dX10_crosses_62 : decode cX10_crosses 62 = .ok (.iload_n 2, 1) := by decide +kernel
theorem dX10_crosses_63 : decode cX10_crosses 63 = .ok (.iaload, 1) := by decide +kernel
theorem dX10_crosses_64 : decode cX10_crosses 64 = .ok (.aload_n 0, 1) := by decide +kernel
theorem dX10_crosses_65 : decode cX10_crosses 65 = .ok (.getfield 146, 3) := by decide +kernel
theorem dX10_crosses_68 : decode cX10_crosses 68 = .ok (.iload_n 3, 1) := by decide +kernel
theorem dX10_crosses_69 : decode cX10_crosses 69 = .ok (.iaload, 1) := by decide +kernel
theorem dX10_crosses_70 : decode cX10_crosses 70 = .ok (.aload_n 0, 1) := by decide +kernel
theorem dX10_crosses_71 : decode cX10_crosses 71 = .ok (.getfield 149, 3) := by decide +kernel
theorem dX10_crosses_74 : decode cX10_crosses 74 = .ok (.iload_n 3, 1) := by decide +kernel
theorem dX10_crosses_75 : decode cX10_crosses 75 = .ok (.iaload, 1) := by decide +kernel
theorem dX10_crosses_76 : decode cX10_crosses 76 = .ok (.aload_n 0, 1) := by decide +kernel
theorem dX10_crosses_77 : decode cX10_crosses 77 = .ok (.getfield 59, 3) := by decide +kernel
theorem dX10_crosses_80 : decode cX10_crosses 80 = .ok (.iload 4, 2) := by decide +kernel
theorem dX10_crosses_82 : decode cX10_crosses 82 = .ok (.iaload, 1) := by decide +kernel
theorem dX10_crosses_83 : decode cX10_crosses 83 = .ok (.aload_n 0, 1) := by decide +kernel
theorem dX10_crosses_84 : decode cX10_crosses 84 = .ok (.getfield 62, 3) := by decide +kernel
theorem dX10_crosses_87 : decode cX10_crosses 87 = .ok (.iload 4, 2) := by decide +kernel
theorem dX10_crosses_89 : decode cX10_crosses 89 = .ok (.iaload, 1) := by decide +kernel
theorem dX10_crosses_90 : decode cX10_crosses 90 = .ok (.invokestatic 399, 3) := by decide +kernel
theorem dX10_crosses_93 : decode cX10_crosses 93 = .ok (.imul, 1) := by decide +kernel
theorem dX10_crosses_94 : decode cX10_crosses 94 = .ok (.istore 5, 2) := by decide +kernel
theorem dX10_crosses_96 : decode cX10_crosses 96 = .ok (.aload_n 0, 1) := by decide +kernel
theorem dX10_crosses_97 : decode cX10_crosses 97 = .ok (.getfield 53, 3) := by decide +kernel
theorem dX10_crosses_100 : decode cX10_crosses 100 = .ok (.iload 4, 2) := by decide +kernel
theorem dX10_crosses_102 : decode cX10_crosses 102 = .ok (.iaload, 1) := by decide +kernel
theorem dX10_crosses_103 : decode cX10_crosses 103 = .ok (.aload_n 0, 1) := by decide +kernel
theorem dX10_crosses_104 : decode cX10_crosses 104 = .ok (.getfield 56, 3) := by decide +kernel
theorem dX10_crosses_107 : decode cX10_crosses 107 = .ok (.iload 4, 2) := by decide +kernel
theorem dX10_crosses_109 : decode cX10_crosses 109 = .ok (.iaload, 1) := by decide +kernel
theorem dX10_crosses_110 : decode cX10_crosses 110 = .ok (.aload_n 0, 1) := by decide +kernel
theorem dX10_crosses_111 : decode cX10_crosses 111 = .ok (.getfield 59, 3) := by decide +kernel
theorem dX10_crosses_114 : decode cX10_crosses 114 = .ok (.iload 4, 2) := by decide +kernel
theorem dX10_crosses_116 : decode cX10_crosses 116 = .ok (.iaload, 1) := by decide +kernel
theorem dX10_crosses_117 : decode cX10_crosses 117 = .ok (.aload_n 0, 1) := by decide +kernel
theorem dX10_crosses_118 : decode cX10_crosses 118 = .ok (.getfield 62, 3) := by decide +kernel
theorem dX10_crosses_121 : decode cX10_crosses 121 = .ok (.iload 4, 2) := by decide +kernel
theorem dX10_crosses_123 : decode cX10_crosses 123 = .ok (.iaload, 1) := by decide +kernel
theorem dX10_crosses_124 : decode cX10_crosses 124 = .ok (.aload_n 0, 1) := by decide +kernel
theorem dX10_crosses_125 : decode cX10_crosses 125 = .ok (.getfield 146, 3) := by decide +kernel
theorem dX10_crosses_128 : decode cX10_crosses 128 = .ok (.iload_n 2, 1) := by decide +kernel
theorem dX10_crosses_129 : decode cX10_crosses 129 = .ok (.iaload, 1) := by decide +kernel
theorem dX10_crosses_130 : decode cX10_crosses 130 = .ok (.aload_n 0, 1) := by decide +kernel
theorem dX10_crosses_131 : decode cX10_crosses 131 = .ok (.getfield 149, 3) := by decide +kernel
theorem dX10_crosses_134 : decode cX10_crosses 134 = .ok (.iload_n 2, 1) := by decide +kernel
theorem dX10_crosses_135 : decode cX10_crosses 135 = .ok (.iaload, 1) := by decide +kernel
theorem dX10_crosses_136 : decode cX10_crosses 136 = .ok (.invokestatic 399, 3) := by decide +kernel
theorem dX10_crosses_139 : decode cX10_crosses 139 = .ok (.aload_n 0, 1) := by decide +kernel
theorem dX10_crosses_140 : decode cX10_crosses 140 = .ok (.getfield 53, 3) := by decide +kernel
theorem dX10_crosses_143 : decode cX10_crosses 143 = .ok (.iload 4, 2) := by decide +kernel
theorem dX10_crosses_145 : decode cX10_crosses 145 = .ok (.iaload, 1) := by decide +kernel
theorem dX10_crosses_146 : decode cX10_crosses 146 = .ok (.aload_n 0, 1) := by decide +kernel
theorem dX10_crosses_147 : decode cX10_crosses 147 = .ok (.getfield 56, 3) := by decide +kernel
theorem dX10_crosses_150 : decode cX10_crosses 150 = .ok (.iload 4, 2) := by decide +kernel
theorem dX10_crosses_152 : decode cX10_crosses 152 = .ok (.iaload, 1) := by decide +kernel
theorem dX10_crosses_153 : decode cX10_crosses 153 = .ok (.aload_n 0, 1) := by decide +kernel
theorem dX10_crosses_154 : decode cX10_crosses 154 = .ok (.getfield 59, 3) := by decide +kernel
theorem dX10_crosses_157 : decode cX10_crosses 157 = .ok (.iload 4, 2) := by decide +kernel
theorem dX10_crosses_159 : decode cX10_crosses 159 = .ok (.iaload, 1) := by decide +kernel
theorem dX10_crosses_160 : decode cX10_crosses 160 = .ok (.aload_n 0, 1) := by decide +kernel
theorem dX10_crosses_161 : decode cX10_crosses 161 = .ok (.getfield 62, 3) := by decide +kernel
theorem dX10_crosses_164 : decode cX10_crosses 164 = .ok (.iload 4, 2) := by decide +kernel
theorem dX10_crosses_166 : decode cX10_crosses 166 = .ok (.iaload, 1) := by decide +kernel
theorem dX10_crosses_167 : decode cX10_crosses 167 = .ok (.aload_n 0, 1) := by decide +kernel
theorem dX10_crosses_168 : decode cX10_crosses 168 = .ok (.getfield 146, 3) := by decide +kernel
theorem dX10_crosses_171 : decode cX10_crosses 171 = .ok (.iload_n 3, 1) := by decide +kernel
theorem dX10_crosses_172 : decode cX10_crosses 172 = .ok (.iaload, 1) := by decide +kernel
theorem dX10_crosses_173 : decode cX10_crosses 173 = .ok (.aload_n 0, 1) := by decide +kernel
theorem dX10_crosses_174 : decode cX10_crosses 174 = .ok (.getfield 149, 3) := by decide +kernel
theorem dX10_crosses_177 : decode cX10_crosses 177 = .ok (.iload_n 3, 1) := by decide +kernel
theorem dX10_crosses_178 : decode cX10_crosses 178 = .ok (.iaload, 1) := by decide +kernel
theorem dX10_crosses_179 : decode cX10_crosses 179 = .ok (.invokestatic 399, 3) := by decide +kernel
theorem dX10_crosses_182 : decode cX10_crosses 182 = .ok (.imul, 1) := by decide +kernel
theorem dX10_crosses_183 : decode cX10_crosses 183 = .ok (.istore 6, 2) := by decide +kernel
theorem dX10_crosses_185 : decode cX10_crosses 185 = .ok (.iload 5, 2) := by decide +kernel
theorem dX10_crosses_187 : decode cX10_crosses 187 = .ok (.ifCond .ge 10, 3) := by decide +kernel
theorem dX10_crosses_190 : decode cX10_crosses 190 = .ok (.iload 6, 2) := by decide +kernel
theorem dX10_crosses_192 : decode cX10_crosses 192 = .ok (.ifCond .ge 5, 3) := by decide +kernel
theorem dX10_crosses_195 : decode cX10_crosses 195 = .ok (.iconst 1, 1) := by decide +kernel
theorem dX10_crosses_196 : decode cX10_crosses 196 = .ok (.ireturn, 1) := by decide +kernel
theorem dX10_crosses_197 : decode cX10_crosses 197 = .ok (.aload_n 0, 1) := by decide +kernel
theorem dX10_crosses_198 : decode cX10_crosses 198 = .ok (.getfield 146, 3) := by decide +kernel
theorem dX10_crosses_201 : decode cX10_crosses 201 = .ok (.iload_n 2, 1) := by decide +kernel
theorem dX10_crosses_202 : decode cX10_crosses 202 = .ok (.iaload, 1) := by decide +kernel
theorem dX10_crosses_203 : decode cX10_crosses 203 = .ok (.aload_n 0, 1) := by decide +kernel
theorem dX10_crosses_204 : decode cX10_crosses 204 = .ok (.getfield 149, 3) := by decide +kernel
theorem dX10_crosses_207 : decode cX10_crosses 207 = .ok (.iload_n 2, 1) := by decide +kernel
theorem dX10_crosses_208 : decode cX10_crosses 208 = .ok (.iaload, 1) := by decide +kernel
theorem dX10_crosses_209 : decode cX10_crosses 209 = .ok (.aload_n 0, 1) := by decide +kernel
theorem dX10_crosses_210 : decode cX10_crosses 210 = .ok (.getfield 146, 3) := by decide +kernel
theorem dX10_crosses_213 : decode cX10_crosses 213 = .ok (.iload_n 3, 1) := by decide +kernel
theorem dX10_crosses_214 : decode cX10_crosses 214 = .ok (.iaload, 1) := by decide +kernel
theorem dX10_crosses_215 : decode cX10_crosses 215 = .ok (.aload_n 0, 1) := by decide +kernel
theorem dX10_crosses_216 : decode cX10_crosses 216 = .ok (.getfield 149, 3) := by decide +kernel
theorem dX10_crosses_219 : decode cX10_crosses 219 = .ok (.iload_n 3, 1) := by decide +kernel
theorem dX10_crosses_220 : decode cX10_crosses 220 = .ok (.iaload, 1) := by decide +kernel
theorem dX10_crosses_221 : decode cX10_crosses 221 = .ok (.aload_n 0, 1) := by decide +kernel
theorem dX10_crosses_222 : decode cX10_crosses 222 = .ok (.getfield 53, 3) := by decide +kernel
theorem dX10_crosses_225 : decode cX10_crosses 225 = .ok (.iload 4, 2) := by decide +kernel
theorem dX10_crosses_227 : decode cX10_crosses 227 = .ok (.iaload, 1) := by decide +kernel
theorem dX10_crosses_228 : decode cX10_crosses 228 = .ok (.aload_n 0, 1) := by decide +kernel
theorem dX10_crosses_229 : decode cX10_crosses 229 = .ok (.getfield 56, 3) := by decide +kernel
theorem dX10_crosses_232 : decode cX10_crosses 232 = .ok (.iload 4, 2) := by decide +kernel
theorem dX10_crosses_234 : decode cX10_crosses 234 = .ok (.iaload, 1) := by decide +kernel
theorem dX10_crosses_235 : decode cX10_crosses 235 = .ok (.invokestatic 403, 3) := by decide +kernel
theorem dX10_crosses_238 : decode cX10_crosses 238 = .ok (.ifCond .ne 47, 3) := by decide +kernel
theorem dX10_crosses_241 : decode cX10_crosses 241 = .ok (.aload_n 0, 1) := by decide +kernel
theorem dX10_crosses_242 : decode cX10_crosses 242 = .ok (.getfield 146, 3) := by decide +kernel
theorem dX10_crosses_245 : decode cX10_crosses 245 = .ok (.iload_n 2, 1) := by decide +kernel
theorem dX10_crosses_246 : decode cX10_crosses 246 = .ok (.iaload, 1) := by decide +kernel
theorem dX10_crosses_247 : decode cX10_crosses 247 = .ok (.aload_n 0, 1) := by decide +kernel
theorem dX10_crosses_248 : decode cX10_crosses 248 = .ok (.getfield 149, 3) := by decide +kernel
theorem dX10_crosses_251 : decode cX10_crosses 251 = .ok (.iload_n 2, 1) := by decide +kernel
theorem dX10_crosses_252 : decode cX10_crosses 252 = .ok (.iaload, 1) := by decide +kernel
theorem dX10_crosses_253 : decode cX10_crosses 253 = .ok (.aload_n 0, 1) := by decide +kernel
theorem dX10_crosses_254 : decode cX10_crosses 254 = .ok (.getfield 146, 3) := by decide +kernel
theorem dX10_crosses_257 : decode cX10_crosses 257 = .ok (.iload_n 3, 1) := by decide +kernel
theorem dX10_crosses_258 : decode cX10_crosses 258 = .ok (.iaload, 1) := by decide +kernel
theorem dX10_crosses_259 : decode cX10_crosses 259 = .ok (.aload_n 0, 1) := by decide +kernel
theorem dX10_crosses_260 : decode cX10_crosses 260 = .ok (.getfield 149, 3) := by decide +kernel
theorem dX10_crosses_263 : decode cX10_crosses 263 = .ok (.iload_n 3, 1) := by decide +kernel
theorem dX10_crosses_264 : decode cX10_crosses 264 = .ok (.iaload, 1) := by decide +kernel
theorem dX10_crosses_265 : decode cX10_crosses 265 = .ok (.aload_n 0, 1) := by decide +kernel
theorem dX10_crosses_266 : decode cX10_crosses 266 = .ok (.getfield 59, 3) := by decide +kernel
theorem dX10_crosses_269 : decode cX10_crosses 269 = .ok (.iload 4, 2) := by decide +kernel
theorem dX10_crosses_271 : decode cX10_crosses 271 = .ok (.iaload, 1) := by decide +kernel
theorem dX10_crosses_272 : decode cX10_crosses 272 = .ok (.aload_n 0, 1) := by decide +kernel
theorem dX10_crosses_273 : decode cX10_crosses 273 = .ok (.getfield 62, 3) := by decide +kernel
theorem dX10_crosses_276 : decode cX10_crosses 276 = .ok (.iload 4, 2) := by decide +kernel
theorem dX10_crosses_278 : decode cX10_crosses 278 = .ok (.iaload, 1) := by decide +kernel
theorem dX10_crosses_279 : decode cX10_crosses 279 = .ok (.invokestatic 403, 3) := by decide +kernel
theorem dX10_crosses_282 : decode cX10_crosses 282 = .ok (.ifCond .eq 7, 3) := by decide +kernel
theorem dX10_crosses_285 : decode cX10_crosses 285 = .ok (.iconst 1, 1) := by decide +kernel
theorem dX10_crosses_286 : decode cX10_crosses 286 = .ok (.goto 4, 3) := by decide +kernel
theorem dX10_crosses_289 : decode cX10_crosses 289 = .ok (.iconst 0, 1) := by decide +kernel
theorem dX10_crosses_290 : decode cX10_crosses 290 = .ok (.istore 7, 2) := by decide +kernel
theorem dX10_crosses_292 : decode cX10_crosses 292 = .ok (.iload 7, 2) := by decide +kernel
theorem dX10_crosses_294 : decode cX10_crosses 294 = .ok (.ifCond .ne 95, 3) := by decide +kernel
theorem dX10_crosses_297 : decode cX10_crosses 297 = .ok (.aload_n 0, 1) := by decide +kernel
theorem dX10_crosses_298 : decode cX10_crosses 298 = .ok (.getfield 53, 3) := by decide +kernel
theorem dX10_crosses_301 : decode cX10_crosses 301 = .ok (.iload 4, 2) := by decide +kernel
theorem dX10_crosses_303 : decode cX10_crosses 303 = .ok (.iaload, 1) := by decide +kernel
theorem dX10_crosses_304 : decode cX10_crosses 304 = .ok (.aload_n 0, 1) := by decide +kernel
theorem dX10_crosses_305 : decode cX10_crosses 305 = .ok (.getfield 56, 3) := by decide +kernel
theorem dX10_crosses_308 : decode cX10_crosses 308 = .ok (.iload 4, 2) := by decide +kernel
theorem dX10_crosses_310 : decode cX10_crosses 310 = .ok (.iaload, 1) := by decide +kernel
theorem dX10_crosses_311 : decode cX10_crosses 311 = .ok (.aload_n 0, 1) := by decide +kernel
theorem dX10_crosses_312 : decode cX10_crosses 312 = .ok (.getfield 59, 3) := by decide +kernel
theorem dX10_crosses_315 : decode cX10_crosses 315 = .ok (.iload 4, 2) := by decide +kernel
theorem dX10_crosses_317 : decode cX10_crosses 317 = .ok (.iaload, 1) := by decide +kernel
theorem dX10_crosses_318 : decode cX10_crosses 318 = .ok (.aload_n 0, 1) := by decide +kernel
theorem dX10_crosses_319 : decode cX10_crosses 319 = .ok (.getfield 62, 3) := by decide +kernel
theorem dX10_crosses_322 : decode cX10_crosses 322 = .ok (.iload 4, 2) := by decide +kernel
theorem dX10_crosses_324 : decode cX10_crosses 324 = .ok (.iaload, 1) := by decide +kernel
theorem dX10_crosses_325 : decode cX10_crosses 325 = .ok (.aload_n 0, 1) := by decide +kernel
theorem dX10_crosses_326 : decode cX10_crosses 326 = .ok (.getfield 146, 3) := by decide +kernel
theorem dX10_crosses_329 : decode cX10_crosses 329 = .ok (.iload_n 2, 1) := by decide +kernel
theorem dX10_crosses_330 : decode cX10_crosses 330 = .ok (.iaload, 1) := by decide +kernel
theorem dX10_crosses_331 : decode cX10_crosses 331 = .ok (.aload_n 0, 1) := by decide +kernel
theorem dX10_crosses_332 : decode cX10_crosses 332 = .ok (.getfield 149, 3) := by decide +kernel
theorem dX10_crosses_335 : decode cX10_crosses 335 = .ok (.iload_n 2, 1) := by decide +kernel
theorem dX10_crosses_336 : decode cX10_crosses 336 = .ok (.iaload, 1) := by decide +kernel
theorem dX10_crosses_337 : decode cX10_crosses 337 = .ok (.invokestatic 403, 3) := by decide +kernel
theorem dX10_crosses_340 : decode cX10_crosses 340 = .ok (.ifCond .ne 49, 3) := by decide +kernel
theorem dX10_crosses_343 : decode cX10_crosses 343 = .ok (.aload_n 0, 1) := by decide +kernel
theorem dX10_crosses_344 : decode cX10_crosses 344 = .ok (.getfield 53, 3) := by decide +kernel
theorem dX10_crosses_347 : decode cX10_crosses 347 = .ok (.iload 4, 2) := by decide +kernel
theorem dX10_crosses_349 : decode cX10_crosses 349 = .ok (.iaload, 1) := by decide +kernel
theorem dX10_crosses_350 : decode cX10_crosses 350 = .ok (.aload_n 0, 1) := by decide +kernel
theorem dX10_crosses_351 : decode cX10_crosses 351 = .ok (.getfield 56, 3) := by decide +kernel
theorem dX10_crosses_354 : decode cX10_crosses 354 = .ok (.iload 4, 2) := by decide +kernel
theorem dX10_crosses_356 : decode cX10_crosses 356 = .ok (.iaload, 1) := by decide +kernel
theorem dX10_crosses_357 : decode cX10_crosses 357 = .ok (.aload_n 0, 1) := by decide +kernel
theorem dX10_crosses_358 : decode cX10_crosses 358 = .ok (.getfield 59, 3) := by decide +kernel
theorem dX10_crosses_361 : decode cX10_crosses 361 = .ok (.iload 4, 2) := by decide +kernel
theorem dX10_crosses_363 : decode cX10_crosses 363 = .ok (.iaload, 1) := by decide +kernel
theorem dX10_crosses_364 : decode cX10_crosses 364 = .ok (.aload_n 0, 1) := by decide +kernel
theorem dX10_crosses_365 : decode cX10_crosses 365 = .ok (.getfield 62, 3) := by decide +kernel
theorem dX10_crosses_368 : decode cX10_crosses 368 = .ok (.iload 4, 2) := by decide +kernel
theorem dX10_crosses_370 : decode cX10_crosses 370 = .ok (.iaload, 1) := by decide +kernel
theorem dX10_crosses_371 : decode cX10_crosses 371 = .ok (.aload_n 0, 1) := by decide +kernel
theorem dX10_crosses_372 : decode cX10_crosses 372 = .ok (.getfield 146, 3) := by decide +kernel
theorem dX10_crosses_375 : decode cX10_crosses 375 = .ok (.iload_n 3, 1) := by decide +kernel
theorem dX10_crosses_376 : decode cX10_crosses 376 = .ok (.iaload, 1) := by decide +kernel
theorem dX10_crosses_377 : decode cX10_crosses 377 = .ok (.aload_n 0, 1) := by decide +kernel
theorem dX10_crosses_378 : decode cX10_crosses 378 = .ok (.getfield 149, 3) := by decide +kernel
theorem dX10_crosses_381 : decode cX10_crosses 381 = .ok (.iload_n 3, 1) := by decide +kernel
theorem dX10_crosses_382 : decode cX10_crosses 382 = .ok (.iaload, 1) := by decide +kernel
theorem dX10_crosses_383 : decode cX10_crosses 383 = .ok (.invokestatic 403, 3) := by decide +kernel
theorem dX10_crosses_386 : decode cX10_crosses 386 = .ok (.ifCond .eq 7, 3) := by decide +kernel
theorem dX10_crosses_389 : decode cX10_crosses 389 = .ok (.iconst 1, 1) := by decide +kernel
theorem dX10_crosses_390 : decode cX10_crosses 390 = .ok (.goto 4, 3) := by decide +kernel
theorem dX10_crosses_393 : decode cX10_crosses 393 = .ok (.iconst 0, 1) := by decide +kernel
theorem dX10_crosses_394 : decode cX10_crosses 394 = .ok (.ireturn, 1) := by decide +kernel
def rmX10_crosses : Room := { frames := 2, cells := 0, slots := 0, locals := 53 }
set_option maxRecDepth 100000 in
def g_X10_crosses_389 (th : Nat) (p1 : Int32) (p2 : Int32) (p3 : Int32) (m : MM) : Option (Int32 × MM) :=
  some (1, m)
set_option maxHeartbeats 4000000 in
set_option maxRecDepth 100000 in
theorem s_X10_crosses_389 {Γ : GX} {E : EX} (C : Cx Γ E cX10_crosses RX10 8) (hr : Γ.meth.sig.returnType = (some .boolean)) (hrm : Γ.rm = rmX10_crosses) (th : Nat) (p1 : Int32) (p2 : Int32) (p3 : Int32) (m : MM) : Sm (QM Γ E emI 0 0) Γ E 8 0 0 389 [(0, va_rf (some th)), (1, .int p1), (2, .int p2), (3, .int p3)] [] m (g_X10_crosses_389 th p1 p2 p3 m) := by
  unfold g_X10_crosses_389
  refine z_iconst (v := 1) C dX10_crosses_389 (by decide) ?_
  refine z_goto (tgt := 394) C dX10_crosses_390 (by decide) ?_
  exact z_zret C hr rfl dX10_crosses_394
set_option maxRecDepth 100000 in
def g_X10_crosses_290 (th : Nat) (p1 : Int32) (p2 : Int32) (p3 : Int32) (x4 : Int32) (s0 : Int32) (m : MM) : Option (Int32 × MM) :=
  if s0 = 0 then (chk (m.K th = 11) (ck m (m.R 1115 th 0) 22 (fun a1 => chk (inb x4 (m.N a1) = true) (ck m (m.R 1116 th 0) 22 (fun a2 => chk (inb x4 (m.N a2) = true) (ck m (m.R 1117 th 0) 22 (fun a3 => chk (inb x4 (m.N a3) = true) (ck m (m.R 1118 th 0) 22 (fun a4 => chk (inb x4 (m.N a4) = true) (ck m (m.R 1161 th 0) 22 (fun a5 => chk (inb p2 (m.N a5) = true) (ck m (m.R 1162 th 0) 22 (fun a6 => chk (inb p2 (m.N a6) = true) (cal (f_X10_isOn (m.I 22 a1 (Int32.toNatClampNeg x4)) (m.I 22 a2 (Int32.toNatClampNeg x4)) (m.I 22 a3 (Int32.toNatClampNeg x4)) (m.I 22 a4 (Int32.toNatClampNeg x4)) (m.I 22 a5 (Int32.toNatClampNeg p2)) (m.I 22 a6 (Int32.toNatClampNeg p2)) m) (fun r1 m1 => if r1 = 0 then (chk (m1.K th = 11) (ck m1 (m1.R 1115 th 0) 22 (fun a7 => chk (inb x4 (m1.N a7) = true) (ck m1 (m1.R 1116 th 0) 22 (fun a8 => chk (inb x4 (m1.N a8) = true) (ck m1 (m1.R 1117 th 0) 22 (fun a9 => chk (inb x4 (m1.N a9) = true) (ck m1 (m1.R 1118 th 0) 22 (fun a10 => chk (inb x4 (m1.N a10) = true) (ck m1 (m1.R 1161 th 0) 22 (fun a11 => chk (inb p3 (m1.N a11) = true) (ck m1 (m1.R 1162 th 0) 22 (fun a12 => chk (inb p3 (m1.N a12) = true) (cal (f_X10_isOn (m1.I 22 a7 (Int32.toNatClampNeg x4)) (m1.I 22 a8 (Int32.toNatClampNeg x4)) (m1.I 22 a9 (Int32.toNatClampNeg x4)) (m1.I 22 a10 (Int32.toNatClampNeg x4)) (m1.I 22 a11 (Int32.toNatClampNeg p3)) (m1.I 22 a12 (Int32.toNatClampNeg p3)) m1) (fun r2 m2 => if r2 = 0 then (some (0, m2)) else (g_X10_crosses_389 th p1 p2 p3 m2)))))))))))))))) else (g_X10_crosses_389 th p1 p2 p3 m1)))))))))))))))) else (g_X10_crosses_389 th p1 p2 p3 m)
set_option maxHeartbeats 4000000 in
set_option maxRecDepth 100000 in
theorem s_X10_crosses_290 {Γ : GX} {E : EX} (C : Cx Γ E cX10_crosses RX10 8) (hr : Γ.meth.sig.returnType = (some .boolean)) (hrm : Γ.rm = rmX10_crosses) (th : Nat) (p1 : Int32) (p2 : Int32) (p3 : Int32) (x4 : Int32) (s0 : Int32) (m : MM) : Sm (QM Γ E emI 0 0) Γ E 8 0 0 290 [(0, va_rf (some th)), (1, .int p1), (2, .int p2), (3, .int p3), (4, .int x4)] [.int s0] m (g_X10_crosses_290 th p1 p2 p3 x4 s0 m) := by
  unfold g_X10_crosses_290
  refine z_istore (i := 7) (L2 := [(7, .int s0), (0, va_rf (some th)), (1, .int p1), (2, .int p2), (3, .int p3), (4, .int x4)]) C dX10_crosses_290 (by decide) rfl ?_
  refine z_iload C dX10_crosses_292 0 rfl ?_
  refine z_if_ne (tgt := 389) C dX10_crosses_294 (by decide) (fun c1 => ?_) (fun c1 => ?_)
  · exact z_sub [1, 2, 3, 4] rfl (s_X10_crosses_389 C hr hrm th p1 p2 p3 m)
  · refine z_aload_n C dX10_crosses_297 rfl 1 rfl ?_
    refine z_chk (fun hk1 => ?_)
    refine z_getR C fl_RX10_53 rfl hk1 dX10_crosses_298 ?_
    refine z_iload C dX10_crosses_301 5 rfl ?_
    refine z_ck (fun a1 hr1 hk2 => ?_)
    refine z_chk (fun hj1 => ?_)
    refine z_iald C hr1 hk2 hj1 dX10_crosses_303 ?_
    refine z_aload_n C dX10_crosses_304 rfl 1 rfl ?_
    refine z_getR C fl_RX10_56 rfl hk1 dX10_crosses_305 ?_
    refine z_iload C dX10_crosses_308 5 rfl ?_
    refine z_ck (fun a2 hr2 hk3 => ?_)
    refine z_chk (fun hj2 => ?_)
    refine z_iald C hr2 hk3 hj2 dX10_crosses_310 ?_
    refine z_aload_n C dX10_crosses_311 rfl 1 rfl ?_
    refine z_getR C fl_RX10_59 rfl hk1 dX10_crosses_312 ?_
    refine z_iload C dX10_crosses_315 5 rfl ?_
    refine z_ck (fun a3 hr3 hk4 => ?_)
    refine z_chk (fun hj3 => ?_)
    refine z_iald C hr3 hk4 hj3 dX10_crosses_317 ?_
    refine z_aload_n C dX10_crosses_318 rfl 1 rfl ?_
    refine z_getR C fl_RX10_62 rfl hk1 dX10_crosses_319 ?_
    refine z_iload C dX10_crosses_322 5 rfl ?_
    refine z_ck (fun a4 hr4 hk5 => ?_)
    refine z_chk (fun hj4 => ?_)
    refine z_iald C hr4 hk5 hj4 dX10_crosses_324 ?_
    refine z_aload_n C dX10_crosses_325 rfl 1 rfl ?_
    refine z_getR C fl_RX10_146 rfl hk1 dX10_crosses_326 ?_
    refine z_iload_n C dX10_crosses_329 rfl 3 rfl ?_
    refine z_ck (fun a5 hr5 hk6 => ?_)
    refine z_chk (fun hj5 => ?_)
    refine z_iald C hr5 hk6 hj5 dX10_crosses_330 ?_
    refine z_aload_n C dX10_crosses_331 rfl 1 rfl ?_
    refine z_getR C fl_RX10_149 rfl hk1 dX10_crosses_332 ?_
    refine z_iload_n C dX10_crosses_335 rfl 3 rfl ?_
    refine z_ck (fun a6 hr6 hk7 => ?_)
    refine z_chk (fun hj6 => ?_)
    refine z_iald C hr6 hk7 hj6 dX10_crosses_336 ?_
    refine z_cSI [.int (m.I 22 a1 (Int32.toNatClampNeg x4)), .int (m.I 22 a2 (Int32.toNatClampNeg x4)), .int (m.I 22 a3 (Int32.toNatClampNeg x4)), .int (m.I 22 a4 (Int32.toNatClampNeg x4)), .int (m.I 22 a5 (Int32.toNatClampNeg p2)), .int (m.I 22 a6 (Int32.toNatClampNeg p2))] [] C mv_RX10_403 (fun r0 m0 h0 => M_X10_isOn _ _ _ _ _ _ _ _ _ _ _ h0) rfl rfl ⟨by rw [hrm]; exact Nat.le_of_ble_eq_true rfl, by rw [hrm]; exact Nat.le_of_ble_eq_true rfl⟩ ⟨by rw [hrm]; exact Nat.le_of_ble_eq_true rfl, by rw [hrm]; exact Nat.le_of_ble_eq_true rfl⟩ rfl rfl (Nat.le_of_ble_eq_true rfl) dX10_crosses_337 (fun r1 m1 => ?_)
    refine z_if_ne (tgt := 389) C dX10_crosses_340 (by decide) (fun c2 => ?_) (fun c2 => ?_)
    · exact z_sub [1, 2, 3, 4] rfl (s_X10_crosses_389 C hr hrm th p1 p2 p3 m1)
    · refine z_aload_n C dX10_crosses_343 rfl 1 rfl ?_
      refine z_chk (fun hk8 => ?_)
      refine z_getR C fl_RX10_53 rfl hk8 dX10_crosses_344 ?_
      refine z_iload C dX10_crosses_347 5 rfl ?_
      refine z_ck (fun a7 hr7 hk9 => ?_)
      refine z_chk (fun hj7 => ?_)
      refine z_iald C hr7 hk9 hj7 dX10_crosses_349 ?_
      refine z_aload_n C dX10_crosses_350 rfl 1 rfl ?_
      refine z_getR C fl_RX10_56 rfl hk8 dX10_crosses_351 ?_
      refine z_iload C dX10_crosses_354 5 rfl ?_
      refine z_ck (fun a8 hr8 hk10 => ?_)
      refine z_chk (fun hj8 => ?_)
      refine z_iald C hr8 hk10 hj8 dX10_crosses_356 ?_
      refine z_aload_n C dX10_crosses_357 rfl 1 rfl ?_
      refine z_getR C fl_RX10_59 rfl hk8 dX10_crosses_358 ?_
      refine z_iload C dX10_crosses_361 5 rfl ?_
      refine z_ck (fun a9 hr9 hk11 => ?_)
      refine z_chk (fun hj9 => ?_)
      refine z_iald C hr9 hk11 hj9 dX10_crosses_363 ?_
      refine z_aload_n C dX10_crosses_364 rfl 1 rfl ?_
      refine z_getR C fl_RX10_62 rfl hk8 dX10_crosses_365 ?_
      refine z_iload C dX10_crosses_368 5 rfl ?_
      refine z_ck (fun a10 hr10 hk12 => ?_)
      refine z_chk (fun hj10 => ?_)
      refine z_iald C hr10 hk12 hj10 dX10_crosses_370 ?_
      refine z_aload_n C dX10_crosses_371 rfl 1 rfl ?_
      refine z_getR C fl_RX10_146 rfl hk8 dX10_crosses_372 ?_
      refine z_iload_n C dX10_crosses_375 rfl 4 rfl ?_
      refine z_ck (fun a11 hr11 hk13 => ?_)
      refine z_chk (fun hj11 => ?_)
      refine z_iald C hr11 hk13 hj11 dX10_crosses_376 ?_
      refine z_aload_n C dX10_crosses_377 rfl 1 rfl ?_
      refine z_getR C fl_RX10_149 rfl hk8 dX10_crosses_378 ?_
      refine z_iload_n C dX10_crosses_381 rfl 4 rfl ?_
      refine z_ck (fun a12 hr12 hk14 => ?_)
      refine z_chk (fun hj12 => ?_)
      refine z_iald C hr12 hk14 hj12 dX10_crosses_382 ?_
      refine z_cSI [.int (m1.I 22 a7 (Int32.toNatClampNeg x4)), .int (m1.I 22 a8 (Int32.toNatClampNeg x4)), .int (m1.I 22 a9 (Int32.toNatClampNeg x4)), .int (m1.I 22 a10 (Int32.toNatClampNeg x4)), .int (m1.I 22 a11 (Int32.toNatClampNeg p3)), .int (m1.I 22 a12 (Int32.toNatClampNeg p3))] [] C mv_RX10_403 (fun r0 m0 h0 => M_X10_isOn _ _ _ _ _ _ _ _ _ _ _ h0) rfl rfl ⟨by rw [hrm]; exact Nat.le_of_ble_eq_true rfl, by rw [hrm]; exact Nat.le_of_ble_eq_true rfl⟩ ⟨by rw [hrm]; exact Nat.le_of_ble_eq_true rfl, by rw [hrm]; exact Nat.le_of_ble_eq_true rfl⟩ rfl rfl (Nat.le_of_ble_eq_true rfl) dX10_crosses_383 (fun r2 m2 => ?_)
      refine z_if_eq (tgt := 393) C dX10_crosses_386 (by decide) (fun c3 => ?_) (fun c3 => ?_)
      · refine z_iconst (v := 0) C dX10_crosses_393 (by decide) ?_
        exact z_zret C hr rfl dX10_crosses_394
      · exact z_sub [1, 2, 3, 4] rfl (s_X10_crosses_389 C hr hrm th p1 p2 p3 m2)
set_option maxRecDepth 100000 in
def g_X10_crosses_285 (th : Nat) (p1 : Int32) (p2 : Int32) (p3 : Int32) (x4 : Int32) (m : MM) : Option (Int32 × MM) :=
  g_X10_crosses_290 th p1 p2 p3 x4 1 m
set_option maxHeartbeats 4000000 in
set_option maxRecDepth 100000 in
theorem s_X10_crosses_285 {Γ : GX} {E : EX} (C : Cx Γ E cX10_crosses RX10 8) (hr : Γ.meth.sig.returnType = (some .boolean)) (hrm : Γ.rm = rmX10_crosses) (th : Nat) (p1 : Int32) (p2 : Int32) (p3 : Int32) (x4 : Int32) (m : MM) : Sm (QM Γ E emI 0 0) Γ E 8 0 0 285 [(0, va_rf (some th)), (1, .int p1), (2, .int p2), (3, .int p3), (4, .int x4)] [] m (g_X10_crosses_285 th p1 p2 p3 x4 m) := by
  unfold g_X10_crosses_285
  refine z_iconst (v := 1) C dX10_crosses_285 (by decide) ?_
  refine z_goto (tgt := 290) C dX10_crosses_286 (by decide) ?_
  exact z_sub [0, 1, 2, 3, 4] rfl (s_X10_crosses_290 C hr hrm th p1 p2 p3 x4 1 m)
set_option maxRecDepth 100000 in
def g_X10_crosses_197 (th : Nat) (p1 : Int32) (p2 : Int32) (p3 : Int32) (x4 : Int32) (m : MM) : Option (Int32 × MM) :=
  chk (m.K th = 11) (ck m (m.R 1161 th 0) 22 (fun a13 => chk (inb p2 (m.N a13) = true) (ck m (m.R 1162 th 0) 22 (fun a14 => chk (inb p2 (m.N a14) = true) (chk (inb p3 (m.N a13) = true) (chk (inb p3 (m.N a14) = true) (ck m (m.R 1115 th 0) 22 (fun a15 => chk (inb x4 (m.N a15) = true) (ck m (m.R 1116 th 0) 22 (fun a16 => chk (inb x4 (m.N a16) = true) (cal (f_X10_isOn (m.I 22 a13 (Int32.toNatClampNeg p2)) (m.I 22 a14 (Int32.toNatClampNeg p2)) (m.I 22 a13 (Int32.toNatClampNeg p3)) (m.I 22 a14 (Int32.toNatClampNeg p3)) (m.I 22 a15 (Int32.toNatClampNeg x4)) (m.I 22 a16 (Int32.toNatClampNeg x4)) m) (fun r3 m3 => if r3 = 0 then (chk (m3.K th = 11) (ck m3 (m3.R 1161 th 0) 22 (fun a17 => chk (inb p2 (m3.N a17) = true) (ck m3 (m3.R 1162 th 0) 22 (fun a18 => chk (inb p2 (m3.N a18) = true) (chk (inb p3 (m3.N a17) = true) (chk (inb p3 (m3.N a18) = true) (ck m3 (m3.R 1117 th 0) 22 (fun a19 => chk (inb x4 (m3.N a19) = true) (ck m3 (m3.R 1118 th 0) 22 (fun a20 => chk (inb x4 (m3.N a20) = true) (cal (f_X10_isOn (m3.I 22 a17 (Int32.toNatClampNeg p2)) (m3.I 22 a18 (Int32.toNatClampNeg p2)) (m3.I 22 a17 (Int32.toNatClampNeg p3)) (m3.I 22 a18 (Int32.toNatClampNeg p3)) (m3.I 22 a19 (Int32.toNatClampNeg x4)) (m3.I 22 a20 (Int32.toNatClampNeg x4)) m3) (fun r4 m4 => if r4 = 0 then (g_X10_crosses_290 th p1 p2 p3 x4 0 m4) else (g_X10_crosses_285 th p1 p2 p3 x4 m4)))))))))))))) else (g_X10_crosses_285 th p1 p2 p3 x4 m3)))))))))))))
set_option maxHeartbeats 4000000 in
set_option maxRecDepth 100000 in
theorem s_X10_crosses_197 {Γ : GX} {E : EX} (C : Cx Γ E cX10_crosses RX10 8) (hr : Γ.meth.sig.returnType = (some .boolean)) (hrm : Γ.rm = rmX10_crosses) (th : Nat) (p1 : Int32) (p2 : Int32) (p3 : Int32) (x4 : Int32) (m : MM) : Sm (QM Γ E emI 0 0) Γ E 8 0 0 197 [(0, va_rf (some th)), (1, .int p1), (2, .int p2), (3, .int p3), (4, .int x4)] [] m (g_X10_crosses_197 th p1 p2 p3 x4 m) := by
  unfold g_X10_crosses_197
  refine z_aload_n C dX10_crosses_197 rfl 0 rfl ?_
  refine z_chk (fun hk15 => ?_)
  refine z_getR C fl_RX10_146 rfl hk15 dX10_crosses_198 ?_
  refine z_iload_n C dX10_crosses_201 rfl 2 rfl ?_
  refine z_ck (fun a13 hr13 hk16 => ?_)
  refine z_chk (fun hj13 => ?_)
  refine z_iald C hr13 hk16 hj13 dX10_crosses_202 ?_
  refine z_aload_n C dX10_crosses_203 rfl 0 rfl ?_
  refine z_getR C fl_RX10_149 rfl hk15 dX10_crosses_204 ?_
  refine z_iload_n C dX10_crosses_207 rfl 2 rfl ?_
  refine z_ck (fun a14 hr14 hk17 => ?_)
  refine z_chk (fun hj14 => ?_)
  refine z_iald C hr14 hk17 hj14 dX10_crosses_208 ?_
  refine z_aload_n C dX10_crosses_209 rfl 0 rfl ?_
  refine z_getR C fl_RX10_146 rfl hk15 dX10_crosses_210 ?_
  refine z_iload_n C dX10_crosses_213 rfl 3 rfl ?_
  refine z_chk (fun hj15 => ?_)
  refine z_iald C hr13 hk16 hj15 dX10_crosses_214 ?_
  refine z_aload_n C dX10_crosses_215 rfl 0 rfl ?_
  refine z_getR C fl_RX10_149 rfl hk15 dX10_crosses_216 ?_
  refine z_iload_n C dX10_crosses_219 rfl 3 rfl ?_
  refine z_chk (fun hj16 => ?_)
  refine z_iald C hr14 hk17 hj16 dX10_crosses_220 ?_
  refine z_aload_n C dX10_crosses_221 rfl 0 rfl ?_
  refine z_getR C fl_RX10_53 rfl hk15 dX10_crosses_222 ?_
  refine z_iload C dX10_crosses_225 4 rfl ?_
  refine z_ck (fun a15 hr15 hk18 => ?_)
  refine z_chk (fun hj17 => ?_)
  refine z_iald C hr15 hk18 hj17 dX10_crosses_227 ?_
  refine z_aload_n C dX10_crosses_228 rfl 0 rfl ?_
  refine z_getR C fl_RX10_56 rfl hk15 dX10_crosses_229 ?_
  refine z_iload C dX10_crosses_232 4 rfl ?_
  refine z_ck (fun a16 hr16 hk19 => ?_)
  refine z_chk (fun hj18 => ?_)
  refine z_iald C hr16 hk19 hj18 dX10_crosses_234 ?_
  refine z_cSI [.int (m.I 22 a13 (Int32.toNatClampNeg p2)), .int (m.I 22 a14 (Int32.toNatClampNeg p2)), .int (m.I 22 a13 (Int32.toNatClampNeg p3)), .int (m.I 22 a14 (Int32.toNatClampNeg p3)), .int (m.I 22 a15 (Int32.toNatClampNeg x4)), .int (m.I 22 a16 (Int32.toNatClampNeg x4))] [] C mv_RX10_403 (fun r0 m0 h0 => M_X10_isOn _ _ _ _ _ _ _ _ _ _ _ h0) rfl rfl ⟨by rw [hrm]; exact Nat.le_of_ble_eq_true rfl, by rw [hrm]; exact Nat.le_of_ble_eq_true rfl⟩ ⟨by rw [hrm]; exact Nat.le_of_ble_eq_true rfl, by rw [hrm]; exact Nat.le_of_ble_eq_true rfl⟩ rfl rfl (Nat.le_of_ble_eq_true rfl) dX10_crosses_235 (fun r3 m3 => ?_)
  refine z_if_ne (tgt := 285) C dX10_crosses_238 (by decide) (fun c4 => ?_) (fun c4 => ?_)
  · exact z_sub [0, 1, 2, 3, 4] rfl (s_X10_crosses_285 C hr hrm th p1 p2 p3 x4 m3)
  · refine z_aload_n C dX10_crosses_241 rfl 0 rfl ?_
    refine z_chk (fun hk20 => ?_)
    refine z_getR C fl_RX10_146 rfl hk20 dX10_crosses_242 ?_
    refine z_iload_n C dX10_crosses_245 rfl 2 rfl ?_
    refine z_ck (fun a17 hr17 hk21 => ?_)
    refine z_chk (fun hj19 => ?_)
    refine z_iald C hr17 hk21 hj19 dX10_crosses_246 ?_
    refine z_aload_n C dX10_crosses_247 rfl 0 rfl ?_
    refine z_getR C fl_RX10_149 rfl hk20 dX10_crosses_248 ?_
    refine z_iload_n C dX10_crosses_251 rfl 2 rfl ?_
    refine z_ck (fun a18 hr18 hk22 => ?_)
    refine z_chk (fun hj20 => ?_)
    refine z_iald C hr18 hk22 hj20 dX10_crosses_252 ?_
    refine z_aload_n C dX10_crosses_253 rfl 0 rfl ?_
    refine z_getR C fl_RX10_146 rfl hk20 dX10_crosses_254 ?_
    refine z_iload_n C dX10_crosses_257 rfl 3 rfl ?_
    refine z_chk (fun hj21 => ?_)
    refine z_iald C hr17 hk21 hj21 dX10_crosses_258 ?_
    refine z_aload_n C dX10_crosses_259 rfl 0 rfl ?_
    refine z_getR C fl_RX10_149 rfl hk20 dX10_crosses_260 ?_
    refine z_iload_n C dX10_crosses_263 rfl 3 rfl ?_
    refine z_chk (fun hj22 => ?_)
    refine z_iald C hr18 hk22 hj22 dX10_crosses_264 ?_
    refine z_aload_n C dX10_crosses_265 rfl 0 rfl ?_
    refine z_getR C fl_RX10_59 rfl hk20 dX10_crosses_266 ?_
    refine z_iload C dX10_crosses_269 4 rfl ?_
    refine z_ck (fun a19 hr19 hk23 => ?_)
    refine z_chk (fun hj23 => ?_)
    refine z_iald C hr19 hk23 hj23 dX10_crosses_271 ?_
    refine z_aload_n C dX10_crosses_272 rfl 0 rfl ?_
    refine z_getR C fl_RX10_62 rfl hk20 dX10_crosses_273 ?_
    refine z_iload C dX10_crosses_276 4 rfl ?_
    refine z_ck (fun a20 hr20 hk24 => ?_)
    refine z_chk (fun hj24 => ?_)
    refine z_iald C hr20 hk24 hj24 dX10_crosses_278 ?_
    refine z_cSI [.int (m3.I 22 a17 (Int32.toNatClampNeg p2)), .int (m3.I 22 a18 (Int32.toNatClampNeg p2)), .int (m3.I 22 a17 (Int32.toNatClampNeg p3)), .int (m3.I 22 a18 (Int32.toNatClampNeg p3)), .int (m3.I 22 a19 (Int32.toNatClampNeg x4)), .int (m3.I 22 a20 (Int32.toNatClampNeg x4))] [] C mv_RX10_403 (fun r0 m0 h0 => M_X10_isOn _ _ _ _ _ _ _ _ _ _ _ h0) rfl rfl ⟨by rw [hrm]; exact Nat.le_of_ble_eq_true rfl, by rw [hrm]; exact Nat.le_of_ble_eq_true rfl⟩ ⟨by rw [hrm]; exact Nat.le_of_ble_eq_true rfl, by rw [hrm]; exact Nat.le_of_ble_eq_true rfl⟩ rfl rfl (Nat.le_of_ble_eq_true rfl) dX10_crosses_279 (fun r4 m4 => ?_)
    refine z_if_eq (tgt := 289) C dX10_crosses_282 (by decide) (fun c5 => ?_) (fun c5 => ?_)
    · refine z_iconst (v := 0) C dX10_crosses_289 (by decide) ?_
      exact z_sub [0, 1, 2, 3, 4] rfl (s_X10_crosses_290 C hr hrm th p1 p2 p3 x4 0 m4)
    · exact z_sub [0, 1, 2, 3, 4] rfl (s_X10_crosses_285 C hr hrm th p1 p2 p3 x4 m4)
set_option maxRecDepth 100000 in
def g_X10_crosses_0 (th : Nat) (p1 : Int32) (p2 : Int32) (p3 : Int32) (m : MM) : Option (Int32 × MM) :=
  chk (m.K th = 11) (bnd ((14 * (m.I 1166 th 0)) + p1) (fun y1 => ck m (m.R 1161 th 0) 22 (fun a21 => chk (inb p2 (m.N a21) = true) (ck m (m.R 1162 th 0) 22 (fun a22 => chk (inb p2 (m.N a22) = true) (chk (inb p3 (m.N a21) = true) (chk (inb p3 (m.N a22) = true) (ck m (m.R 1115 th 0) 22 (fun a23 => chk (inb y1 (m.N a23) = true) (ck m (m.R 1116 th 0) 22 (fun a24 => chk (inb y1 (m.N a24) = true) (cal (f_X10_side (m.I 22 a21 (Int32.toNatClampNeg p2)) (m.I 22 a22 (Int32.toNatClampNeg p2)) (m.I 22 a21 (Int32.toNatClampNeg p3)) (m.I 22 a22 (Int32.toNatClampNeg p3)) (m.I 22 a23 (Int32.toNatClampNeg y1)) (m.I 22 a24 (Int32.toNatClampNeg y1)) m) (fun r5 m5 => chk (m5.K th = 11) (ck m5 (m5.R 1161 th 0) 22 (fun a25 => chk (inb p2 (m5.N a25) = true) (ck m5 (m5.R 1162 th 0) 22 (fun a26 => chk (inb p2 (m5.N a26) = true) (chk (inb p3 (m5.N a25) = true) (chk (inb p3 (m5.N a26) = true) (ck m5 (m5.R 1117 th 0) 22 (fun a27 => chk (inb y1 (m5.N a27) = true) (ck m5 (m5.R 1118 th 0) 22 (fun a28 => chk (inb y1 (m5.N a28) = true) (cal (f_X10_side (m5.I 22 a25 (Int32.toNatClampNeg p2)) (m5.I 22 a26 (Int32.toNatClampNeg p2)) (m5.I 22 a25 (Int32.toNatClampNeg p3)) (m5.I 22 a26 (Int32.toNatClampNeg p3)) (m5.I 22 a27 (Int32.toNatClampNeg y1)) (m5.I 22 a28 (Int32.toNatClampNeg y1)) m5) (fun r6 m6 => bnd (r5 * r6) (fun y2 => chk (m6.K th = 11) (ck m6 (m6.R 1115 th 0) 22 (fun a29 => chk (inb y1 (m6.N a29) = true) (ck m6 (m6.R 1116 th 0) 22 (fun a30 => chk (inb y1 (m6.N a30) = true) (ck m6 (m6.R 1117 th 0) 22 (fun a31 => chk (inb y1 (m6.N a31) = true) (ck m6 (m6.R 1118 th 0) 22 (fun a32 => chk (inb y1 (m6.N a32) = true) (ck m6 (m6.R 1161 th 0) 22 (fun a33 => chk (inb p2 (m6.N a33) = true) (ck m6 (m6.R 1162 th 0) 22 (fun a34 => chk (inb p2 (m6.N a34) = true) (cal (f_X10_side (m6.I 22 a29 (Int32.toNatClampNeg y1)) (m6.I 22 a30 (Int32.toNatClampNeg y1)) (m6.I 22 a31 (Int32.toNatClampNeg y1)) (m6.I 22 a32 (Int32.toNatClampNeg y1)) (m6.I 22 a33 (Int32.toNatClampNeg p2)) (m6.I 22 a34 (Int32.toNatClampNeg p2)) m6) (fun r7 m7 => chk (m7.K th = 11) (ck m7 (m7.R 1115 th 0) 22 (fun a35 => chk (inb y1 (m7.N a35) = true) (ck m7 (m7.R 1116 th 0) 22 (fun a36 => chk (inb y1 (m7.N a36) = true) (ck m7 (m7.R 1117 th 0) 22 (fun a37 => chk (inb y1 (m7.N a37) = true) (ck m7 (m7.R 1118 th 0) 22 (fun a38 => chk (inb y1 (m7.N a38) = true) (ck m7 (m7.R 1161 th 0) 22 (fun a39 => chk (inb p3 (m7.N a39) = true) (ck m7 (m7.R 1162 th 0) 22 (fun a40 => chk (inb p3 (m7.N a40) = true) (cal (f_X10_side (m7.I 22 a35 (Int32.toNatClampNeg y1)) (m7.I 22 a36 (Int32.toNatClampNeg y1)) (m7.I 22 a37 (Int32.toNatClampNeg y1)) (m7.I 22 a38 (Int32.toNatClampNeg y1)) (m7.I 22 a39 (Int32.toNatClampNeg p3)) (m7.I 22 a40 (Int32.toNatClampNeg p3)) m7) (fun r8 m8 => bnd (r7 * r8) (fun y3 => if 0 ≤ y2 then (g_X10_crosses_197 th p1 p2 p3 y1 m8) else (if 0 ≤ y3 then (g_X10_crosses_197 th p1 p2 p3 y1 m8) else (some (1, m8))))))))))))))))))))))))))))))))))))))))))))))))))))))))))
set_option maxHeartbeats 4000000 in
set_option maxRecDepth 100000 in
theorem s_X10_crosses_0 {Γ : GX} {E : EX} (C : Cx Γ E cX10_crosses RX10 8) (hr : Γ.meth.sig.returnType = (some .boolean)) (hrm : Γ.rm = rmX10_crosses) (th : Nat) (p1 : Int32) (p2 : Int32) (p3 : Int32) (m : MM) : Sm (QM Γ E emI 0 0) Γ E 8 0 0 0 [(0, va_rf (some th)), (1, .int p1), (2, .int p2), (3, .int p3)] [] m (g_X10_crosses_0 th p1 p2 p3 m) := by
  unfold g_X10_crosses_0
  refine z_bipush (v := 14) C dX10_crosses_0 (by decide) ?_
  refine z_aload_n C dX10_crosses_2 rfl 0 rfl ?_
  refine z_chk (fun hk25 => ?_)
  refine z_getI C fl_RX10_375 rfl hk25 dX10_crosses_3 ?_
  refine z_imul C dX10_crosses_6 ?_
  refine z_iload_n C dX10_crosses_7 rfl 1 rfl ?_
  refine z_iadd C dX10_crosses_8 ?_
  refine z_bndI (fun y1 => ?_)
  refine z_istore (i := 4) (L2 := [(4, .int y1), (0, va_rf (some th)), (1, .int p1), (2, .int p2), (3, .int p3)]) C dX10_crosses_9 (by decide) rfl ?_
  refine z_aload_n C dX10_crosses_11 rfl 1 rfl ?_
  refine z_getR C fl_RX10_146 rfl hk25 dX10_crosses_12 ?_
  refine z_iload_n C dX10_crosses_15 rfl 3 rfl ?_
  refine z_ck (fun a21 hr21 hk26 => ?_)
  refine z_chk (fun hj25 => ?_)
  refine z_iald C hr21 hk26 hj25 dX10_crosses_16 ?_
  refine z_aload_n C dX10_crosses_17 rfl 1 rfl ?_
  refine z_getR C fl_RX10_149 rfl hk25 dX10_crosses_18 ?_
  refine z_iload_n C dX10_crosses_21 rfl 3 rfl ?_
  refine z_ck (fun a22 hr22 hk27 => ?_)
  refine z_chk (fun hj26 => ?_)
  refine z_iald C hr22 hk27 hj26 dX10_crosses_22 ?_
  refine z_aload_n C dX10_crosses_23 rfl 1 rfl ?_
  refine z_getR C fl_RX10_146 rfl hk25 dX10_crosses_24 ?_
  refine z_iload_n C dX10_crosses_27 rfl 4 rfl ?_
  refine z_chk (fun hj27 => ?_)
  refine z_iald C hr21 hk26 hj27 dX10_crosses_28 ?_
  refine z_aload_n C dX10_crosses_29 rfl 1 rfl ?_
  refine z_getR C fl_RX10_149 rfl hk25 dX10_crosses_30 ?_
  refine z_iload_n C dX10_crosses_33 rfl 4 rfl ?_
  refine z_chk (fun hj28 => ?_)
  refine z_iald C hr22 hk27 hj28 dX10_crosses_34 ?_
  refine z_aload_n C dX10_crosses_35 rfl 1 rfl ?_
  refine z_getR C fl_RX10_53 rfl hk25 dX10_crosses_36 ?_
  refine z_iload C dX10_crosses_39 0 rfl ?_
  refine z_ck (fun a23 hr23 hk28 => ?_)
  refine z_chk (fun hj29 => ?_)
  refine z_iald C hr23 hk28 hj29 dX10_crosses_41 ?_
  refine z_aload_n C dX10_crosses_42 rfl 1 rfl ?_
  refine z_getR C fl_RX10_56 rfl hk25 dX10_crosses_43 ?_
  refine z_iload C dX10_crosses_46 0 rfl ?_
  refine z_ck (fun a24 hr24 hk29 => ?_)
  refine z_chk (fun hj30 => ?_)
  refine z_iald C hr24 hk29 hj30 dX10_crosses_48 ?_
  refine z_cSI [.int (m.I 22 a21 (Int32.toNatClampNeg p2)), .int (m.I 22 a22 (Int32.toNatClampNeg p2)), .int (m.I 22 a21 (Int32.toNatClampNeg p3)), .int (m.I 22 a22 (Int32.toNatClampNeg p3)), .int (m.I 22 a23 (Int32.toNatClampNeg y1)), .int (m.I 22 a24 (Int32.toNatClampNeg y1))] [] C mv_RX10_399 (fun r0 m0 h0 => M_X10_side _ _ _ _ _ _ _ _ _ _ _ h0) rfl rfl ⟨by rw [hrm]; exact Nat.le_of_ble_eq_true rfl, by rw [hrm]; exact Nat.le_of_ble_eq_true rfl⟩ ⟨by rw [hrm]; exact Nat.le_of_ble_eq_true rfl, by rw [hrm]; exact Nat.le_of_ble_eq_true rfl⟩ rfl rfl (Nat.le_of_ble_eq_true rfl) dX10_crosses_49 (fun r5 m5 => ?_)
  refine z_aload_n C dX10_crosses_52 rfl 1 rfl ?_
  refine z_chk (fun hk30 => ?_)
  refine z_getR C fl_RX10_146 rfl hk30 dX10_crosses_53 ?_
  refine z_iload_n C dX10_crosses_56 rfl 3 rfl ?_
  refine z_ck (fun a25 hr25 hk31 => ?_)
  refine z_chk (fun hj31 => ?_)
  refine z_iald C hr25 hk31 hj31 dX10_crosses_57 ?_
  refine z_aload_n C dX10_crosses_58 rfl 1 rfl ?_
  refine z_getR C fl_RX10_149 rfl hk30 dX10_crosses_59 ?_
  refine z_iload_n C dX10_crosses_62 rfl 3 rfl ?_
  refine z_ck (fun a26 hr26 hk32 => ?_)
  refine z_chk (fun hj32 => ?_)
  refine z_iald C hr26 hk32 hj32 dX10_crosses_63 ?_
  refine z_aload_n C dX10_crosses_64 rfl 1 rfl ?_
  refine z_getR C fl_RX10_146 rfl hk30 dX10_crosses_65 ?_
  refine z_iload_n C dX10_crosses_68 rfl 4 rfl ?_
  refine z_chk (fun hj33 => ?_)
  refine z_iald C hr25 hk31 hj33 dX10_crosses_69 ?_
  refine z_aload_n C dX10_crosses_70 rfl 1 rfl ?_
  refine z_getR C fl_RX10_149 rfl hk30 dX10_crosses_71 ?_
  refine z_iload_n C dX10_crosses_74 rfl 4 rfl ?_
  refine z_chk (fun hj34 => ?_)
  refine z_iald C hr26 hk32 hj34 dX10_crosses_75 ?_
  refine z_aload_n C dX10_crosses_76 rfl 1 rfl ?_
  refine z_getR C fl_RX10_59 rfl hk30 dX10_crosses_77 ?_
  refine z_iload C dX10_crosses_80 0 rfl ?_
  refine z_ck (fun a27 hr27 hk33 => ?_)
  refine z_chk (fun hj35 => ?_)
  refine z_iald C hr27 hk33 hj35 dX10_crosses_82 ?_
  refine z_aload_n C dX10_crosses_83 rfl 1 rfl ?_
  refine z_getR C fl_RX10_62 rfl hk30 dX10_crosses_84 ?_
  refine z_iload C dX10_crosses_87 0 rfl ?_
  refine z_ck (fun a28 hr28 hk34 => ?_)
  refine z_chk (fun hj36 => ?_)
  refine z_iald C hr28 hk34 hj36 dX10_crosses_89 ?_
  refine z_cSI [.int (m5.I 22 a25 (Int32.toNatClampNeg p2)), .int (m5.I 22 a26 (Int32.toNatClampNeg p2)), .int (m5.I 22 a25 (Int32.toNatClampNeg p3)), .int (m5.I 22 a26 (Int32.toNatClampNeg p3)), .int (m5.I 22 a27 (Int32.toNatClampNeg y1)), .int (m5.I 22 a28 (Int32.toNatClampNeg y1))] [.int r5] C mv_RX10_399 (fun r0 m0 h0 => M_X10_side _ _ _ _ _ _ _ _ _ _ _ h0) rfl rfl ⟨by rw [hrm]; exact Nat.le_of_ble_eq_true rfl, by rw [hrm]; exact Nat.le_of_ble_eq_true rfl⟩ ⟨by rw [hrm]; exact Nat.le_of_ble_eq_true rfl, by rw [hrm]; exact Nat.le_of_ble_eq_true rfl⟩ rfl rfl (Nat.le_of_ble_eq_true rfl) dX10_crosses_90 (fun r6 m6 => ?_)
  refine z_imul C dX10_crosses_93 ?_
  refine z_bndI (fun y2 => ?_)
  refine z_istore (i := 5) (L2 := [(5, .int y2), (4, .int y1), (0, va_rf (some th)), (1, .int p1), (2, .int p2), (3, .int p3)]) C dX10_crosses_94 (by decide) rfl ?_
  refine z_aload_n C dX10_crosses_96 rfl 2 rfl ?_
  refine z_chk (fun hk35 => ?_)
  refine z_getR C fl_RX10_53 rfl hk35 dX10_crosses_97 ?_
  refine z_iload C dX10_crosses_100 1 rfl ?_
  refine z_ck (fun a29 hr29 hk36 => ?_)
  refine z_chk (fun hj37 => ?_)
  refine z_iald C hr29 hk36 hj37 dX10_crosses_102 ?_
  refine z_aload_n C dX10_crosses_103 rfl 2 rfl ?_
  refine z_getR C fl_RX10_56 rfl hk35 dX10_crosses_104 ?_
  refine z_iload C dX10_crosses_107 1 rfl ?_
  refine z_ck (fun a30 hr30 hk37 => ?_)
  refine z_chk (fun hj38 => ?_)
  refine z_iald C hr30 hk37 hj38 dX10_crosses_109 ?_
  refine z_aload_n C dX10_crosses_110 rfl 2 rfl ?_
  refine z_getR C fl_RX10_59 rfl hk35 dX10_crosses_111 ?_
  refine z_iload C dX10_crosses_114 1 rfl ?_
  refine z_ck (fun a31 hr31 hk38 => ?_)
  refine z_chk (fun hj39 => ?_)
  refine z_iald C hr31 hk38 hj39 dX10_crosses_116 ?_
  refine z_aload_n C dX10_crosses_117 rfl 2 rfl ?_
  refine z_getR C fl_RX10_62 rfl hk35 dX10_crosses_118 ?_
  refine z_iload C dX10_crosses_121 1 rfl ?_
  refine z_ck (fun a32 hr32 hk39 => ?_)
  refine z_chk (fun hj40 => ?_)
  refine z_iald C hr32 hk39 hj40 dX10_crosses_123 ?_
  refine z_aload_n C dX10_crosses_124 rfl 2 rfl ?_
  refine z_getR C fl_RX10_146 rfl hk35 dX10_crosses_125 ?_
  refine z_iload_n C dX10_crosses_128 rfl 4 rfl ?_
  refine z_ck (fun a33 hr33 hk40 => ?_)
  refine z_chk (fun hj41 => ?_)
  refine z_iald C hr33 hk40 hj41 dX10_crosses_129 ?_
  refine z_aload_n C dX10_crosses_130 rfl 2 rfl ?_
  refine z_getR C fl_RX10_149 rfl hk35 dX10_crosses_131 ?_
  refine z_iload_n C dX10_crosses_134 rfl 4 rfl ?_
  refine z_ck (fun a34 hr34 hk41 => ?_)
  refine z_chk (fun hj42 => ?_)
  refine z_iald C hr34 hk41 hj42 dX10_crosses_135 ?_
  refine z_cSI [.int (m6.I 22 a29 (Int32.toNatClampNeg y1)), .int (m6.I 22 a30 (Int32.toNatClampNeg y1)), .int (m6.I 22 a31 (Int32.toNatClampNeg y1)), .int (m6.I 22 a32 (Int32.toNatClampNeg y1)), .int (m6.I 22 a33 (Int32.toNatClampNeg p2)), .int (m6.I 22 a34 (Int32.toNatClampNeg p2))] [] C mv_RX10_399 (fun r0 m0 h0 => M_X10_side _ _ _ _ _ _ _ _ _ _ _ h0) rfl rfl ⟨by rw [hrm]; exact Nat.le_of_ble_eq_true rfl, by rw [hrm]; exact Nat.le_of_ble_eq_true rfl⟩ ⟨by rw [hrm]; exact Nat.le_of_ble_eq_true rfl, by rw [hrm]; exact Nat.le_of_ble_eq_true rfl⟩ rfl rfl (Nat.le_of_ble_eq_true rfl) dX10_crosses_136 (fun r7 m7 => ?_)
  refine z_aload_n C dX10_crosses_139 rfl 2 rfl ?_
  refine z_chk (fun hk42 => ?_)
  refine z_getR C fl_RX10_53 rfl hk42 dX10_crosses_140 ?_
  refine z_iload C dX10_crosses_143 1 rfl ?_
  refine z_ck (fun a35 hr35 hk43 => ?_)
  refine z_chk (fun hj43 => ?_)
  refine z_iald C hr35 hk43 hj43 dX10_crosses_145 ?_
  refine z_aload_n C dX10_crosses_146 rfl 2 rfl ?_
  refine z_getR C fl_RX10_56 rfl hk42 dX10_crosses_147 ?_
  refine z_iload C dX10_crosses_150 1 rfl ?_
  refine z_ck (fun a36 hr36 hk44 => ?_)
  refine z_chk (fun hj44 => ?_)
  refine z_iald C hr36 hk44 hj44 dX10_crosses_152 ?_
  refine z_aload_n C dX10_crosses_153 rfl 2 rfl ?_
  refine z_getR C fl_RX10_59 rfl hk42 dX10_crosses_154 ?_
  refine z_iload C dX10_crosses_157 1 rfl ?_
  refine z_ck (fun a37 hr37 hk45 => ?_)
  refine z_chk (fun hj45 => ?_)
  refine z_iald C hr37 hk45 hj45 dX10_crosses_159 ?_
  refine z_aload_n C dX10_crosses_160 rfl 2 rfl ?_
  refine z_getR C fl_RX10_62 rfl hk42 dX10_crosses_161 ?_
  refine z_iload C dX10_crosses_164 1 rfl ?_
  refine z_ck (fun a38 hr38 hk46 => ?_)
  refine z_chk (fun hj46 => ?_)
  refine z_iald C hr38 hk46 hj46 dX10_crosses_166 ?_
  refine z_aload_n C dX10_crosses_167 rfl 2 rfl ?_
  refine z_getR C fl_RX10_146 rfl hk42 dX10_crosses_168 ?_
  refine z_iload_n C dX10_crosses_171 rfl 5 rfl ?_
  refine z_ck (fun a39 hr39 hk47 => ?_)
  refine z_chk (fun hj47 => ?_)
  refine z_iald C hr39 hk47 hj47 dX10_crosses_172 ?_
  refine z_aload_n C dX10_crosses_173 rfl 2 rfl ?_
  refine z_getR C fl_RX10_149 rfl hk42 dX10_crosses_174 ?_
  refine z_iload_n C dX10_crosses_177 rfl 5 rfl ?_
  refine z_ck (fun a40 hr40 hk48 => ?_)
  refine z_chk (fun hj48 => ?_)
  refine z_iald C hr40 hk48 hj48 dX10_crosses_178 ?_
  refine z_cSI [.int (m7.I 22 a35 (Int32.toNatClampNeg y1)), .int (m7.I 22 a36 (Int32.toNatClampNeg y1)), .int (m7.I 22 a37 (Int32.toNatClampNeg y1)), .int (m7.I 22 a38 (Int32.toNatClampNeg y1)), .int (m7.I 22 a39 (Int32.toNatClampNeg p3)), .int (m7.I 22 a40 (Int32.toNatClampNeg p3))] [.int r7] C mv_RX10_399 (fun r0 m0 h0 => M_X10_side _ _ _ _ _ _ _ _ _ _ _ h0) rfl rfl ⟨by rw [hrm]; exact Nat.le_of_ble_eq_true rfl, by rw [hrm]; exact Nat.le_of_ble_eq_true rfl⟩ ⟨by rw [hrm]; exact Nat.le_of_ble_eq_true rfl, by rw [hrm]; exact Nat.le_of_ble_eq_true rfl⟩ rfl rfl (Nat.le_of_ble_eq_true rfl) dX10_crosses_179 (fun r8 m8 => ?_)
  refine z_imul C dX10_crosses_182 ?_
  refine z_bndI (fun y3 => ?_)
  refine z_istore (i := 6) (L2 := [(6, .int y3), (5, .int y2), (4, .int y1), (0, va_rf (some th)), (1, .int p1), (2, .int p2), (3, .int p3)]) C dX10_crosses_183 (by decide) rfl ?_
  refine z_iload C dX10_crosses_185 1 rfl ?_
  refine z_if_ge (tgt := 197) C dX10_crosses_187 (by decide) (fun c6 => ?_) (fun c6 => ?_)
  · exact z_sub [3, 4, 5, 6, 2] rfl (s_X10_crosses_197 C hr hrm th p1 p2 p3 y1 m8)
  · refine z_iload C dX10_crosses_190 0 rfl ?_
    refine z_if_ge (tgt := 197) C dX10_crosses_192 (by decide) (fun c7 => ?_) (fun c7 => ?_)
    · exact z_sub [3, 4, 5, 6, 2] rfl (s_X10_crosses_197 C hr hrm th p1 p2 p3 y1 m8)
    · refine z_iconst (v := 1) C dX10_crosses_195 (by decide) ?_
      exact z_zret C hr rfl dX10_crosses_196
def f_X10_crosses (th : Nat) (p1 : Int32) (p2 : Int32) (p3 : Int32) (m : MM) : Option (Int32 × MM) := g_X10_crosses_0 th p1 p2 p3 m
theorem M_X10_crosses (l : Launch) (E : EX) (th : Nat) (p1 : Int32) (p2 : Int32) (p3 : Int32) (m : MM) (r : Int32) (m2 : MM) (h : f_X10_crosses th p1 p2 p3 m = some (r, m2)) : Met l yX10_crosses (.code yX10_crosses cX10_crosses 8 (some .boolean) :: TB) rmX10_crosses (va_Pc [.ref th, .int p1, .int p2, .int p3] (St E m)) (QR E (emI r) m2) 0 0 (AA E) :=
  met_of (em := emI) (plainFor_of_name rfl) (Nat.le_of_ble_eq_true rfl) (L0 := [(0, va_rf (some th)), (1, .int p1), (2, .int p2), (3, .int p3)]) rfl (fun Γ _ hrm C hr hn => s_X10_crosses_0 C hr hrm th p1 p2 p3 m) h

theorem dX10_wallsBetween_0 : decode cX10_wallsBetween 0 = .ok (.iconst 0, 1) := by decide +kernel
theorem dX10_wallsBetween_1 : decode cX10_wallsBetween 1 = .ok (.istore_n 3, 1) := by decide +kernel
theorem dX10_wallsBetween_2 : decode cX10_wallsBetween 2 = .ok (.iconst 0, 1) := by decide +kernel
theorem dX10_wallsBetween_3 : decode cX10_wallsBetween 3 = .ok (.istore 4, 2) := by decide +kernel
theorem dX10_wallsBetween_5 : decode cX10_wallsBetween 5 = .ok (.iload 4, 2) := by decide +kernel
theorem dX10_wallsBetween_7 : decode cX10_wallsBetween 7 = .ok (.bipush 14, 2) := by decide +kernel
theorem dX10_wallsBetween_9 : decode cX10_wallsBetween 9 = .ok (.if_icmp .ge 106, 3) := by decide +kernel
theorem dX10_wallsBetween_12 : decode cX10_wallsBetween 12 = .ok (.iload 4, 2) := by decide +kernel
theorem dX10_wallsBetween_14 : decode cX10_wallsBetween 14 = .ok (.bipush 8, 2) := by decide +kernel
theorem dX10_wallsBetween_16 : decode cX10_wallsBetween 16 = .ok (.if_icmp .ge 47, 3) := by decide +kernel
theorem dX10_wallsBetween_19 : decode cX10_wallsBetween 19 = .ok (.iload 4, 2) := by decide +kernel
theorem dX10_wallsBetween_21 : decode cX10_wallsBetween 21 = .ok (.aload_n 0, 1) := by decide +kernel
theorem dX10_wallsBetween_22 : decode cX10_wallsBetween 22 = .ok (.aload_n 0, 1) := by decide +kernel
theorem dX10_wallsBetween_23 : decode cX10_wallsBetween 23 = .ok (.getfield 375, 3) := by decide +kernel
theorem dX10_wallsBetween_26 : decode cX10_wallsBetween 26 = .ok (.iconst 3, 1) := by decide +kernel
theorem dX10_wallsBetween_27 : decode cX10_wallsBetween 27 = .ok (.invokevirtual 196, 3) := by decide +kernel
theorem dX10_wallsBetween_30 : decode cX10_wallsBetween 30 = .ok (.if_icmp .ge 29, 3) := by decide +kernel
theorem dX10_wallsBetween_33 : decode cX10_wallsBetween 33 = .ok (.aload_n 0, 1) := by decide +kernel
theorem dX10_wallsBetween_34 : decode cX10_wallsBetween 34 = .ok (.getfield 65, 3) := by decide +kernel
theorem dX10_wallsBetween_37 : decode cX10_wallsBetween 37 = .ok (.bipush 14, 2) := by decide +kernel
theorem dX10_wallsBetween_39 : decode cX10_wallsBetween 39 = .ok (.aload_n 0, 1) := by decide +kernel
theorem dX10_wallsBetween_40 : decode cX10_wallsBetween 40 = .ok (.getfield 375, 3) := by decide +kernel
theorem dX10_wallsBetween_43 : decode cX10_wallsBetween 43 = .ok (.imul, 1) := by decide +kernel
theorem dX10_wallsBetween_44 : decode cX10_wallsBetween 44 = .ok (.iload 4, 2) := by decide +kernel
theorem dX10_wallsBetween_46 : decode cX10_wallsBetween 46 = .ok (.iadd, 1) := by decide +kernel
theorem dX10_wallsBetween_47 : decode cX10_wallsBetween 47 = .ok (.iaload, 1) := by decide +kernel
theorem dX10_wallsBetween_48 : decode cX10_wallsBetween 48 = .ok (.aload_n 0, 1) := by decide +kernel
theorem dX10_wallsBetween_49 : decode cX10_wallsBetween 49 = .ok (.getfield 378, 3) := by decide +kernel
theorem dX10_wallsBetween_52 : decode cX10_wallsBetween 52 = .ok (.if_icmp .gt 7, 3) := by decide +kernel
theorem dX10_wallsBetween_55 : decode cX10_wallsBetween 55 = .ok (.iconst 1, 1) := by decide +kernel
theorem dX10_wallsBetween_56 : decode cX10_wallsBetween 56 = .ok (.goto 27, 3) := by decide +kernel
theorem dX10_wallsBetween_59 : decode cX10_wallsBetween 59 = .ok (.iconst 0, 1) := by decide +kernel
theorem dX10_wallsBetween_60 : decode cX10_wallsBetween 60 = .ok (.goto 23, 3) := by decide +kernel
theorem dX10_wallsBetween_63 : decode cX10_wallsBetween 63 = .ok (.aload_n 0, 1) := by decide +kernel
theorem dX10_wallsBetween_64 : decode cX10_wallsBetween 64 = .ok (.getfield 384, 3) := by decide +kernel
theorem dX10_wallsBetween_67 : decode cX10_wallsBetween 67 = .ok (.iload 4, 2) := by decide +kernel
theorem dX10_wallsBetween_69 : decode cX10_wallsBetween 69 = .ok (.bipush 8, 2) := by decide +kernel
theorem dX10_wallsBetween_71 : decode cX10_wallsBetween 71 = .ok (.isub, 1) := by decide +kernel
theorem dX10_wallsBetween_72 : decode cX10_wallsBetween 72 = .ok (.ishr, 1) := by decide +kernel
theorem dX10_wallsBetween_73 : decode cX10_wallsBetween 73 = .ok (.iconst 1, 1) := by decide +kernel
theorem dX10_wallsBetween_74 : decode cX10_wallsBetween 74 = .ok (.iand, 1) := by decide +kernel
theorem dX10_wallsBetween_75 : decode cX10_wallsBetween 75 = .ok (.ifCond .eq 7, 3) := by decide +kernel
theorem dX10_wallsBetween_78 : decode cX10_wallsBetween 78 = .ok (.iconst 1, 1) := by decide +kernel
theorem dX10_wallsBetween_79 : decode cX10_wallsBetween 79 = .ok (.goto 4, 3) := by decide +kernel
theorem dX10_wallsBetween_82 : decode cX10_wallsBetween 82 = .ok (.iconst 0, 1) := by decide +kernel
theorem dX10_wallsBetween_83 : decode cX10_wallsBetween 83 = .ok (.istore 5, 2) := by decide +kernel
theorem dX10_wallsBetween_85 : decode cX10_wallsBetween 85 = .ok (.iload_n 3, 1) := by decide +kernel
theorem dX10_wallsBetween_86 : decode cX10_wallsBetween 86 = .ok (.iload 5, 2) := by decide +kernel
theorem dX10_wallsBetween_88 : decode cX10_wallsBetween 88 = .ok (.ifCond .eq 18, 3) := by decide +kernel
theorem dX10_wallsBetween_91 : decode cX10_wallsBetween 91 = .ok (.aload_n 0, 1) := by decide +kernel
theorem dX10_wallsBetween_92 : decode cX10_wallsBetween 92 = .ok (.iload 4, 2) := by decide +kernel
theorem dX10_wallsBetween_94 : decode cX10_wallsBetween 94 = .ok (.iload_n 1, 1) := by decide +kernel
theorem dX10_wallsBetween_95 : decode cX10_wallsBetween 95 = .ok (.iload_n 2, 1) := by decide +kernel
theorem dX10_wallsBetween_96 : decode cX10_wallsBetween 96 = .ok (.invokevirtual 407, 3) := by decide +kernel
theorem dX10_wallsBetween_99 : decode cX10_wallsBetween 99 = .ok (.ifCond .eq 7, 3) := by decide +kernel
theorem dX10_wallsBetween_102 : decode cX10_wallsBetween 102 = .ok (.iconst 1, 1) := by decide +kernel
theorem dX10_wallsBetween_103 : decode cX10_wallsBetween 103 = .ok (.goto 4, 3) := by decide +kernel
theorem dX10_wallsBetween_106 : decode cX10_wallsBetween 106 = .ok (.iconst 0, 1) := by decide +kernel
theorem dX10_wallsBetween_107 : decode cX10_wallsBetween 107 = .ok (.iadd, 1) := by decide +kernel
theorem dX10_wallsBetween_108 : decode cX10_wallsBetween 108 = .ok (.istore_n 3, 1) := by decide +kernel
theorem dX10_wallsBetween_109 : decode cX10_wallsBetween 109 = .ok (.iinc 4 1, 3) := by decide +kernel
theorem dX10_wallsBetween_112 : decode cX10_wallsBetween 112 = .ok (.goto (-107), 3) := by decide +kernel
theorem dX10_wallsBetween_115 : decode cX10_wallsBetween 115 = .ok (.iload_n 3, 1) := by decide +kernel
theorem dX10_wallsBetween_116 : decode cX10_wallsBetween 116 = .ok (.ireturn, 1) := by decide +kernel
def rmX10_wallsBetween : Room := { frames := 3, cells := 0, slots := 0, locals := 80 }
set_option maxRecDepth 100000 in
def g_X10_wallsBetween_107 (th : Nat) (p1 : Int32) (p2 : Int32) (k5 : Int32 → Int32 → MM → Option (Int32 × MM)) (x4 : Int32) (s0 : Int32) (s1 : Int32) (m : MM) : Option (Int32 × MM) :=
  bnd (s0 + s1) (fun y1 => k5 y1 (x4 + 1) m)
set_option maxHeartbeats 4000000 in
set_option maxRecDepth 100000 in
theorem s_X10_wallsBetween_107 {Γ : GX} {E : EX} (C : Cx Γ E cX10_wallsBetween RX10 6) (hr : Γ.meth.sig.returnType = (some .int)) (hrm : Γ.rm = rmX10_wallsBetween) (th : Nat) (p1 : Int32) (p2 : Int32) (k5 : Int32 → Int32 → MM → Option (Int32 × MM)) (h5 : ∀ (x3 : Int32) (x4 : Int32) (m : MM), Sm (QM Γ E emI 0 0) Γ E 6 0 0 5 [(0, va_rf (some th)), (1, .int p1), (2, .int p2), (3, .int x3), (4, .int x4)] [] m (k5 x3 x4 m)) (x4 : Int32) (s0 : Int32) (s1 : Int32) (m : MM) : Sm (QM Γ E emI 0 0) Γ E 6 0 0 107 [(0, va_rf (some th)), (1, .int p1), (2, .int p2), (4, .int x4)] [.int s1, .int s0] m (g_X10_wallsBetween_107 th p1 p2 k5 x4 s0 s1 m) := by
  unfold g_X10_wallsBetween_107
  refine z_iadd C dX10_wallsBetween_107 ?_
  refine z_bndI (fun y1 => ?_)
  refine z_istore_n (i := 3) (L2 := [(3, .int y1), (0, va_rf (some th)), (1, .int p1), (2, .int p2), (4, .int x4)]) C dX10_wallsBetween_108 rfl (by decide) rfl ?_
  refine z_iinc (v := 1) (L2 := [(4, .int (x4 + 1)), (3, .int y1), (0, va_rf (some th)), (1, .int p1), (2, .int p2)]) C dX10_wallsBetween_109 4 rfl (by decide) (by decide) rfl ?_
  refine z_goto (tgt := 5) C dX10_wallsBetween_112 (by decide) ?_
  exact z_sub [2, 3, 4, 1, 0] rfl (h5 y1 (x4 + 1) m)
set_option maxRecDepth 100000 in
def g_X10_wallsBetween_106 (th : Nat) (p1 : Int32) (p2 : Int32) (k5 : Int32 → Int32 → MM → Option (Int32 × MM)) (x4 : Int32) (s0 : Int32) (m : MM) : Option (Int32 × MM) :=
  g_X10_wallsBetween_107 th p1 p2 k5 x4 s0 0 m
set_option maxHeartbeats 4000000 in
set_option maxRecDepth 100000 in
theorem s_X10_wallsBetween_106 {Γ : GX} {E : EX} (C : Cx Γ E cX10_wallsBetween RX10 6) (hr : Γ.meth.sig.returnType = (some .int)) (hrm : Γ.rm = rmX10_wallsBetween) (th : Nat) (p1 : Int32) (p2 : Int32) (k5 : Int32 → Int32 → MM → Option (Int32 × MM)) (h5 : ∀ (x3 : Int32) (x4 : Int32) (m : MM), Sm (QM Γ E emI 0 0) Γ E 6 0 0 5 [(0, va_rf (some th)), (1, .int p1), (2, .int p2), (3, .int x3), (4, .int x4)] [] m (k5 x3 x4 m)) (x4 : Int32) (s0 : Int32) (m : MM) : Sm (QM Γ E emI 0 0) Γ E 6 0 0 106 [(0, va_rf (some th)), (1, .int p1), (2, .int p2), (4, .int x4)] [.int s0] m (g_X10_wallsBetween_106 th p1 p2 k5 x4 s0 m) := by
  unfold g_X10_wallsBetween_106
  refine z_iconst (v := 0) C dX10_wallsBetween_106 (by decide) ?_
  exact z_sub [0, 1, 2, 3] rfl (s_X10_wallsBetween_107 C hr hrm th p1 p2 k5 h5 x4 s0 0 m)
set_option maxRecDepth 100000 in
def g_X10_wallsBetween_83 (th : Nat) (p1 : Int32) (p2 : Int32) (k5 : Int32 → Int32 → MM → Option (Int32 × MM)) (x3 : Int32) (x4 : Int32) (s0 : Int32) (m : MM) : Option (Int32 × MM) :=
  if s0 = 0 then (g_X10_wallsBetween_106 th p1 p2 k5 x4 x3 m) else (chk (m.K th = 11) (cal (f_X10_crosses th x4 p1 p2 m) (fun r1 m1 => if r1 = 0 then (g_X10_wallsBetween_106 th p1 p2 k5 x4 x3 m1) else (g_X10_wallsBetween_107 th p1 p2 k5 x4 x3 1 m1))))
set_option maxHeartbeats 4000000 in
set_option maxRecDepth 100000 in
theorem s_X10_wallsBetween_83 {Γ : GX} {E : EX} (C : Cx Γ E cX10_wallsBetween RX10 6) (hr : Γ.meth.sig.returnType = (some .int)) (hrm : Γ.rm = rmX10_wallsBetween) (th : Nat) (p1 : Int32) (p2 : Int32) (k5 : Int32 → Int32 → MM → Option (Int32 × MM)) (h5 : ∀ (x3 : Int32) (x4 : Int32) (m : MM), Sm (QM Γ E emI 0 0) Γ E 6 0 0 5 [(0, va_rf (some th)), (1, .int p1), (2, .int p2), (3, .int x3), (4, .int x4)] [] m (k5 x3 x4 m)) (x3 : Int32) (x4 : Int32) (s0 : Int32) (m : MM) : Sm (QM Γ E emI 0 0) Γ E 6 0 0 83 [(0, va_rf (some th)), (1, .int p1), (2, .int p2), (3, .int x3), (4, .int x4)] [.int s0] m (g_X10_wallsBetween_83 th p1 p2 k5 x3 x4 s0 m) := by
  unfold g_X10_wallsBetween_83
  refine z_istore (i := 5) (L2 := [(5, .int s0), (0, va_rf (some th)), (1, .int p1), (2, .int p2), (3, .int x3), (4, .int x4)]) C dX10_wallsBetween_83 (by decide) rfl ?_
  refine z_iload_n C dX10_wallsBetween_85 rfl 4 rfl ?_
  refine z_iload C dX10_wallsBetween_86 0 rfl ?_
  refine z_if_eq (tgt := 106) C dX10_wallsBetween_88 (by decide) (fun c1 => ?_) (fun c1 => ?_)
  · exact z_sub [1, 2, 3, 5] rfl (s_X10_wallsBetween_106 C hr hrm th p1 p2 k5 h5 x4 x3 m)
  · refine z_aload_n C dX10_wallsBetween_91 rfl 1 rfl ?_
    refine z_iload C dX10_wallsBetween_92 5 rfl ?_
    refine z_iload_n C dX10_wallsBetween_94 rfl 2 rfl ?_
    refine z_iload_n C dX10_wallsBetween_95 rfl 3 rfl ?_
    refine z_chk (fun hk1 => ?_)
    refine z_cVI [.int x4, .int p1, .int p2] [.int x3] C mv_RX10_407 (fun r0 m0 h0 => M_X10_crosses _ _ _ _ _ _ _ _ _ h0) rfl rfl ⟨by rw [hrm]; exact Nat.le_of_ble_eq_true rfl, by rw [hrm]; exact Nat.le_of_ble_eq_true rfl⟩ ⟨by rw [hrm]; exact Nat.le_of_ble_eq_true rfl, by rw [hrm]; exact Nat.le_of_ble_eq_true rfl⟩ rfl hk1 rfl rfl rfl (Nat.le_of_ble_eq_true rfl) dX10_wallsBetween_96 (fun r1 m1 => ?_)
    refine z_if_eq (tgt := 106) C dX10_wallsBetween_99 (by decide) (fun c2 => ?_) (fun c2 => ?_)
    · exact z_sub [1, 2, 3, 5] rfl (s_X10_wallsBetween_106 C hr hrm th p1 p2 k5 h5 x4 x3 m1)
    · refine z_iconst (v := 1) C dX10_wallsBetween_102 (by decide) ?_
      refine z_goto (tgt := 107) C dX10_wallsBetween_103 (by decide) ?_
      exact z_sub [1, 2, 3, 5] rfl (s_X10_wallsBetween_107 C hr hrm th p1 p2 k5 h5 x4 x3 1 m1)
set_option maxRecDepth 100000 in
def g_X10_wallsBetween_59 (th : Nat) (p1 : Int32) (p2 : Int32) (k5 : Int32 → Int32 → MM → Option (Int32 × MM)) (x3 : Int32) (x4 : Int32) (m : MM) : Option (Int32 × MM) :=
  g_X10_wallsBetween_83 th p1 p2 k5 x3 x4 0 m
set_option maxHeartbeats 4000000 in
set_option maxRecDepth 100000 in
theorem s_X10_wallsBetween_59 {Γ : GX} {E : EX} (C : Cx Γ E cX10_wallsBetween RX10 6) (hr : Γ.meth.sig.returnType = (some .int)) (hrm : Γ.rm = rmX10_wallsBetween) (th : Nat) (p1 : Int32) (p2 : Int32) (k5 : Int32 → Int32 → MM → Option (Int32 × MM)) (h5 : ∀ (x3 : Int32) (x4 : Int32) (m : MM), Sm (QM Γ E emI 0 0) Γ E 6 0 0 5 [(0, va_rf (some th)), (1, .int p1), (2, .int p2), (3, .int x3), (4, .int x4)] [] m (k5 x3 x4 m)) (x3 : Int32) (x4 : Int32) (m : MM) : Sm (QM Γ E emI 0 0) Γ E 6 0 0 59 [(0, va_rf (some th)), (1, .int p1), (2, .int p2), (3, .int x3), (4, .int x4)] [] m (g_X10_wallsBetween_59 th p1 p2 k5 x3 x4 m) := by
  unfold g_X10_wallsBetween_59
  refine z_iconst (v := 0) C dX10_wallsBetween_59 (by decide) ?_
  refine z_goto (tgt := 83) C dX10_wallsBetween_60 (by decide) ?_
  exact z_sub [0, 1, 2, 3, 4] rfl (s_X10_wallsBetween_83 C hr hrm th p1 p2 k5 h5 x3 x4 0 m)
set_option maxRecDepth 100000 in
def g_X10_wallsBetween_5 (th : Nat) (p1 : Int32) (p2 : Int32) (k5 : Int32 → Int32 → MM → Option (Int32 × MM)) (x3 : Int32) (x4 : Int32) (m : MM) : Option (Int32 × MM) :=
  if 14 ≤ x4 then (some (x3, m)) else (if 8 ≤ x4 then (chk (m.K th = 11) (if (((m.I 1168 th 0) >>> ((x4 - 8) &&& 31)) &&& 1) = 0 then (g_X10_wallsBetween_83 th p1 p2 k5 x3 x4 0 m) else (g_X10_wallsBetween_83 th p1 p2 k5 x3 x4 1 m))) else (chk (m.K th = 11) (cal (f_X10_of th (m.I 1166 th 0) 3 m) (fun r2 m2 => if r2 ≤ x4 then (g_X10_wallsBetween_59 th p1 p2 k5 x3 x4 m2) else (chk (m2.K th = 11) (ck m2 (m2.R 1119 th 0) 22 (fun a1 => chk (inb ((14 * (m2.I 1166 th 0)) + x4) (m2.N a1) = true) (if (m2.I 1167 th 0) < (m2.I 22 a1 (Int32.toNatClampNeg ((14 * (m2.I 1166 th 0)) + x4))) then (g_X10_wallsBetween_59 th p1 p2 k5 x3 x4 m2) else (g_X10_wallsBetween_83 th p1 p2 k5 x3 x4 1 m2)))))))))
set_option maxHeartbeats 4000000 in
set_option maxRecDepth 100000 in
theorem s_X10_wallsBetween_5 {Γ : GX} {E : EX} (C : Cx Γ E cX10_wallsBetween RX10 6) (hr : Γ.meth.sig.returnType = (some .int)) (hrm : Γ.rm = rmX10_wallsBetween) (th : Nat) (p1 : Int32) (p2 : Int32) (k5 : Int32 → Int32 → MM → Option (Int32 × MM)) (h5 : ∀ (x3 : Int32) (x4 : Int32) (m : MM), Sm (QM Γ E emI 0 0) Γ E 6 0 0 5 [(0, va_rf (some th)), (1, .int p1), (2, .int p2), (3, .int x3), (4, .int x4)] [] m (k5 x3 x4 m)) (x3 : Int32) (x4 : Int32) (m : MM) : Sm (QM Γ E emI 0 0) Γ E 6 0 0 5 [(0, va_rf (some th)), (1, .int p1), (2, .int p2), (3, .int x3), (4, .int x4)] [] m (g_X10_wallsBetween_5 th p1 p2 k5 x3 x4 m) := by
  unfold g_X10_wallsBetween_5
  refine z_iload C dX10_wallsBetween_5 4 rfl ?_
  refine z_bipush (v := 14) C dX10_wallsBetween_7 (by decide) ?_
  refine z_icmp_ge (tgt := 115) C dX10_wallsBetween_9 (by decide) (fun c3 => ?_) (fun c3 => ?_)
  · refine z_iload_n C dX10_wallsBetween_115 rfl 3 rfl ?_
    exact z_iret C hr dX10_wallsBetween_116
  · refine z_iload C dX10_wallsBetween_12 4 rfl ?_
    refine z_bipush (v := 8) C dX10_wallsBetween_14 (by decide) ?_
    refine z_icmp_ge (tgt := 63) C dX10_wallsBetween_16 (by decide) (fun c4 => ?_) (fun c4 => ?_)
    · refine z_aload_n C dX10_wallsBetween_63 rfl 0 rfl ?_
      refine z_chk (fun hk2 => ?_)
      refine z_getI C fl_RX10_384 rfl hk2 dX10_wallsBetween_64 ?_
      refine z_iload C dX10_wallsBetween_67 4 rfl ?_
      refine z_bipush (v := 8) C dX10_wallsBetween_69 (by decide) ?_
      refine z_isub C dX10_wallsBetween_71 ?_
      refine z_ishr C dX10_wallsBetween_72 ?_
      refine z_iconst (v := 1) C dX10_wallsBetween_73 (by decide) ?_
      refine z_iand C dX10_wallsBetween_74 ?_
      refine z_if_eq (tgt := 82) C dX10_wallsBetween_75 (by decide) (fun c5 => ?_) (fun c5 => ?_)
      · refine z_iconst (v := 0) C dX10_wallsBetween_82 (by decide) ?_
        exact z_sub [0, 1, 2, 3, 4] rfl (s_X10_wallsBetween_83 C hr hrm th p1 p2 k5 h5 x3 x4 0 m)
      · refine z_iconst (v := 1) C dX10_wallsBetween_78 (by decide) ?_
        refine z_goto (tgt := 83) C dX10_wallsBetween_79 (by decide) ?_
        exact z_sub [0, 1, 2, 3, 4] rfl (s_X10_wallsBetween_83 C hr hrm th p1 p2 k5 h5 x3 x4 1 m)
    · refine z_iload C dX10_wallsBetween_19 4 rfl ?_
      refine z_aload_n C dX10_wallsBetween_21 rfl 0 rfl ?_
      refine z_aload_n C dX10_wallsBetween_22 rfl 0 rfl ?_
      refine z_chk (fun hk3 => ?_)
      refine z_getI C fl_RX10_375 rfl hk3 dX10_wallsBetween_23 ?_
      refine z_iconst (v := 3) C dX10_wallsBetween_26 (by decide) ?_
      refine z_cVI [.int (m.I 1166 th 0), .int 3] [.int x4] C mv_RX10_196 (fun r0 m0 h0 => M_X10_of _ _ _ _ _ _ _ _ h0) rfl rfl ⟨by rw [hrm]; exact Nat.le_of_ble_eq_true rfl, by rw [hrm]; exact Nat.le_of_ble_eq_true rfl⟩ ⟨by rw [hrm]; exact Nat.le_of_ble_eq_true rfl, by rw [hrm]; exact Nat.le_of_ble_eq_true rfl⟩ rfl hk3 rfl rfl rfl (Nat.le_of_ble_eq_true rfl) dX10_wallsBetween_27 (fun r2 m2 => ?_)
      refine z_icmp_ge (tgt := 59) C dX10_wallsBetween_30 (by decide) (fun c6 => ?_) (fun c6 => ?_)
      · exact z_sub [0, 1, 2, 3, 4] rfl (s_X10_wallsBetween_59 C hr hrm th p1 p2 k5 h5 x3 x4 m2)
      · refine z_aload_n C dX10_wallsBetween_33 rfl 0 rfl ?_
        refine z_chk (fun hk4 => ?_)
        refine z_getR C fl_RX10_65 rfl hk4 dX10_wallsBetween_34 ?_
        refine z_bipush (v := 14) C dX10_wallsBetween_37 (by decide) ?_
        refine z_aload_n C dX10_wallsBetween_39 rfl 0 rfl ?_
        refine z_getI C fl_RX10_375 rfl hk4 dX10_wallsBetween_40 ?_
        refine z_imul C dX10_wallsBetween_43 ?_
        refine z_iload C dX10_wallsBetween_44 4 rfl ?_
        refine z_iadd C dX10_wallsBetween_46 ?_
        refine z_ck (fun a1 hr1 hk5 => ?_)
        refine z_chk (fun hj1 => ?_)
        refine z_iald C hr1 hk5 hj1 dX10_wallsBetween_47 ?_
        refine z_aload_n C dX10_wallsBetween_48 rfl 0 rfl ?_
        refine z_getI C fl_RX10_378 rfl hk4 dX10_wallsBetween_49 ?_
        refine z_icmp_gt (tgt := 59) C dX10_wallsBetween_52 (by decide) (fun c7 => ?_) (fun c7 => ?_)
        · exact z_sub [0, 1, 2, 3, 4] rfl (s_X10_wallsBetween_59 C hr hrm th p1 p2 k5 h5 x3 x4 m2)
        · refine z_iconst (v := 1) C dX10_wallsBetween_55 (by decide) ?_
          refine z_goto (tgt := 83) C dX10_wallsBetween_56 (by decide) ?_
          exact z_sub [0, 1, 2, 3, 4] rfl (s_X10_wallsBetween_83 C hr hrm th p1 p2 k5 h5 x3 x4 1 m2)
def l_X10_wallsBetween_5 (th : Nat) (p1 : Int32) (p2 : Int32) : Nat → Int32 → Int32 → MM → Option (Int32 × MM) := lp (fun _ _ _ => none) (fun k5 => g_X10_wallsBetween_5 th p1 p2 k5)
theorem t_X10_wallsBetween_5 {Γ : GX} {E : EX} (C : Cx Γ E cX10_wallsBetween RX10 6) (hr : Γ.meth.sig.returnType = (some .int)) (hrm : Γ.rm = rmX10_wallsBetween) (th : Nat) (p1 : Int32) (p2 : Int32) : ∀ (n : Nat) (x3 : Int32) (x4 : Int32) (m : MM), Sm (QM Γ E emI 0 0) Γ E 6 0 0 5 [(0, va_rf (some th)), (1, .int p1), (2, .int p2), (3, .int x3), (4, .int x4)] [] m (l_X10_wallsBetween_5 th p1 p2 n x3 x4 m) := by
  intro n
  induction n with
  | zero => intros; exact z_none
  | succ n ih => intro x3 x4 m; exact s_X10_wallsBetween_5 C hr hrm th p1 p2 (l_X10_wallsBetween_5 th p1 p2 n) ih x3 x4 m
set_option maxRecDepth 100000 in
def g_X10_wallsBetween_0 (th : Nat) (p1 : Int32) (p2 : Int32) (m : MM) : Option (Int32 × MM) :=
  l_X10_wallsBetween_5 th p1 p2 FU 0 0 m
set_option maxHeartbeats 4000000 in
set_option maxRecDepth 100000 in
theorem s_X10_wallsBetween_0 {Γ : GX} {E : EX} (C : Cx Γ E cX10_wallsBetween RX10 6) (hr : Γ.meth.sig.returnType = (some .int)) (hrm : Γ.rm = rmX10_wallsBetween) (th : Nat) (p1 : Int32) (p2 : Int32) (m : MM) : Sm (QM Γ E emI 0 0) Γ E 6 0 0 0 [(0, va_rf (some th)), (1, .int p1), (2, .int p2)] [] m (g_X10_wallsBetween_0 th p1 p2 m) := by
  unfold g_X10_wallsBetween_0
  refine z_iconst (v := 0) C dX10_wallsBetween_0 (by decide) ?_
  refine z_istore_n (i := 3) (L2 := [(3, .int 0), (0, va_rf (some th)), (1, .int p1), (2, .int p2)]) C dX10_wallsBetween_1 rfl (by decide) rfl ?_
  refine z_iconst (v := 0) C dX10_wallsBetween_2 (by decide) ?_
  refine z_istore (i := 4) (L2 := [(4, .int 0), (3, .int 0), (0, va_rf (some th)), (1, .int p1), (2, .int p2)]) C dX10_wallsBetween_3 (by decide) rfl ?_
  exact z_sub [2, 3, 4, 1, 0] rfl (t_X10_wallsBetween_5 C hr hrm th p1 p2 FU 0 0 m)
def f_X10_wallsBetween (th : Nat) (p1 : Int32) (p2 : Int32) (m : MM) : Option (Int32 × MM) := g_X10_wallsBetween_0 th p1 p2 m
theorem M_X10_wallsBetween (l : Launch) (E : EX) (th : Nat) (p1 : Int32) (p2 : Int32) (m : MM) (r : Int32) (m2 : MM) (h : f_X10_wallsBetween th p1 p2 m = some (r, m2)) : Met l yX10_wallsBetween (.code yX10_wallsBetween cX10_wallsBetween 6 (some .int) :: TB) rmX10_wallsBetween (va_Pc [.ref th, .int p1, .int p2] (St E m)) (QR E (emI r) m2) 0 0 (AA E) :=
  met_of (em := emI) (plainFor_of_name rfl) (Nat.le_of_ble_eq_true rfl) (L0 := [(0, va_rf (some th)), (1, .int p1), (2, .int p2)]) rfl (fun Γ _ hrm C hr hn => s_X10_wallsBetween_0 C hr hrm th p1 p2 m) h
