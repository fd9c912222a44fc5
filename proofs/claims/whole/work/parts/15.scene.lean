theorem dX5_bothStand_0 : decode cX5_bothStand 0 = .ok (.iload_n 1, 1) := by decide +kernel
theorem dX5_bothStand_1 : decode cX5_bothStand 1 = .ok (.ifCond .lt 19, 3) := by decide +kernel
theorem dX5_bothStand_4 : decode cX5_bothStand 4 = .ok (.iload_n 1, 1) := by decide +kernel
theorem dX5_bothStand_5 : decode cX5_bothStand 5 = .ok (.bipush 12, 2) := by decide +kernel
theorem dX5_bothStand_7 : decode cX5_bothStand 7 = .ok (.if_icmp .ge 13, 3) := by decide +kernel
theorem dX5_bothStand_10 : decode cX5_bothStand 10 = .ok (.iload_n 2, 1) := by decide +kernel
theorem dX5_bothStand_11 : decode cX5_bothStand 11 = .ok (.ifCond .lt 9, 3) := by decide +kernel
theorem dX5_bothStand_14 : decode cX5_bothStand 14 = .ok (.iload_n 2, 1) := by decide +kernel
theorem dX5_bothStand_15 : decode cX5_bothStand 15 = .ok (.bipush 12, 2) := by decide +kernel
theorem dX5_bothStand_17 : decode cX5_bothStand 17 = .ok (.if_icmp .lt 5, 3) := by decide +kernel
theorem dX5_bothStand_20 : decode cX5_bothStand 20 = .ok (.iconst 0, 1) := by decide +kernel
theorem dX5_bothStand_21 : decode cX5_bothStand 21 = .ok (.ireturn, 1) := by decide +kernel
theorem dX5_bothStand_22 : decode cX5_bothStand 22 = .ok (.aload_n 0, 1) := by decide +kernel
theorem dX5_bothStand_23 : decode cX5_bothStand 23 = .ok (.getfield 43, 3) := by decide +kernel
theorem dX5_bothStand_26 : decode cX5_bothStand 26 = .ok (.iload_n 1, 1) := by decide +kernel
theorem dX5_bothStand_27 : decode cX5_bothStand 27 = .ok (.ishr, 1) := by decide +kernel
theorem dX5_bothStand_28 : decode cX5_bothStand 28 = .ok (.aload_n 0, 1) := by decide +kernel
theorem dX5_bothStand_29 : decode cX5_bothStand 29 = .ok (.getfield 43, 3) := by decide +kernel
theorem dX5_bothStand_32 : decode cX5_bothStand 32 = .ok (.iload_n 2, 1) := by decide +kernel
theorem dX5_bothStand_33 : decode cX5_bothStand 33 = .ok (.ishr, 1) := by decide +kernel
theorem dX5_bothStand_34 : decode cX5_bothStand 34 = .ok (.iand, 1) := by decide +kernel
theorem dX5_bothStand_35 : decode cX5_bothStand 35 = .ok (.iconst 1, 1) := by decide +kernel
theorem dX5_bothStand_36 : decode cX5_bothStand 36 = .ok (.iand, 1) := by decide +kernel
theorem dX5_bothStand_37 : decode cX5_bothStand 37 = .ok (.ifCond .eq 7, 3) := by decide +kernel
theorem dX5_bothStand_40 : decode cX5_bothStand 40 = .ok (.iconst 1, 1) := by decide +kernel
theorem dX5_bothStand_41 : decode cX5_bothStand 41 = .ok (.goto 4, 3) := by decide +kernel
theorem dX5_bothStand_44 : decode cX5_bothStand 44 = .ok (.iconst 0, 1) := by decide +kernel
theorem dX5_bothStand_45 : decode cX5_bothStand 45 = .ok (.ireturn, 1) := by decide +kernel
def rmX5_bothStand : Room := { frames := 0, cells := 0, slots := 0, locals := 0 }
set_option maxRecDepth 100000 in
def g_X5_bothStand_0 (th : Nat) (p1 : Int32) (p2 : Int32) (m : MM) : Option (Int32 × MM) :=
  if p1 < 0 then (some (0, m)) else (if 12 ≤ p1 then (some (0, m)) else (if p2 < 0 then (some (0, m)) else (if p2 < 12 then (chk (m.K th = 6) (if ((((m.I 605 th 0) >>> (p1 &&& 31)) &&& ((m.I 605 th 0) >>> (p2 &&& 31))) &&& 1) = 0 then (some (0, m)) else (some (1, m)))) else (some (0, m)))))
set_option maxHeartbeats 4000000 in
set_option maxRecDepth 100000 in
theorem s_X5_bothStand_0 {Γ : GX} {E : EX} (C : Cx Γ E cX5_bothStand RX5 3) (hr : Γ.meth.sig.returnType = (some .boolean)) (hrm : Γ.rm = rmX5_bothStand) (th : Nat) (p1 : Int32) (p2 : Int32) (m : MM) : Sm (QM Γ E emI 0 0) Γ E 3 0 0 0 [(0, va_rf (some th)), (1, .int p1), (2, .int p2)] [] m (g_X5_bothStand_0 th p1 p2 m) := by
  unfold g_X5_bothStand_0
  refine z_iload_n C dX5_bothStand_0 rfl 1 rfl ?_
  refine z_if_lt (tgt := 20) C dX5_bothStand_1 (by decide) (fun c1 => ?_) (fun c1 => ?_)
  · refine z_iconst (v := 0) C dX5_bothStand_20 (by decide) ?_
    exact z_zret C hr rfl dX5_bothStand_21
  · refine z_iload_n C dX5_bothStand_4 rfl 1 rfl ?_
    refine z_bipush (v := 12) C dX5_bothStand_5 (by decide) ?_
    refine z_icmp_ge (tgt := 20) C dX5_bothStand_7 (by decide) (fun c2 => ?_) (fun c2 => ?_)
    · refine z_iconst (v := 0) C dX5_bothStand_20 (by decide) ?_
      exact z_zret C hr rfl dX5_bothStand_21
    · refine z_iload_n C dX5_bothStand_10 rfl 2 rfl ?_
      refine z_if_lt (tgt := 20) C dX5_bothStand_11 (by decide) (fun c3 => ?_) (fun c3 => ?_)
      · refine z_iconst (v := 0) C dX5_bothStand_20 (by decide) ?_
        exact z_zret C hr rfl dX5_bothStand_21
      · refine z_iload_n C dX5_bothStand_14 rfl 2 rfl ?_
        refine z_bipush (v := 12) C dX5_bothStand_15 (by decide) ?_
        refine z_icmp_lt (tgt := 22) C dX5_bothStand_17 (by decide) (fun c4 => ?_) (fun c4 => ?_)
        · refine z_aload_n C dX5_bothStand_22 rfl 0 rfl ?_
          refine z_chk (fun hk1 => ?_)
          refine z_getI C fl_RX5_43 rfl hk1 dX5_bothStand_23 ?_
          refine z_iload_n C dX5_bothStand_26 rfl 1 rfl ?_
          refine z_ishr C dX5_bothStand_27 ?_
          refine z_aload_n C dX5_bothStand_28 rfl 0 rfl ?_
          refine z_getI C fl_RX5_43 rfl hk1 dX5_bothStand_29 ?_
          refine z_iload_n C dX5_bothStand_32 rfl 2 rfl ?_
          refine z_ishr C dX5_bothStand_33 ?_
          refine z_iand C dX5_bothStand_34 ?_
          refine z_iconst (v := 1) C dX5_bothStand_35 (by decide) ?_
          refine z_iand C dX5_bothStand_36 ?_
          refine z_if_eq (tgt := 44) C dX5_bothStand_37 (by decide) (fun c5 => ?_) (fun c5 => ?_)
          · refine z_iconst (v := 0) C dX5_bothStand_44 (by decide) ?_
            exact z_zret C hr rfl dX5_bothStand_45
          · refine z_iconst (v := 1) C dX5_bothStand_40 (by decide) ?_
            refine z_goto (tgt := 45) C dX5_bothStand_41 (by decide) ?_
            exact z_zret C hr rfl dX5_bothStand_45
        · refine z_iconst (v := 0) C dX5_bothStand_20 (by decide) ?_
          exact z_zret C hr rfl dX5_bothStand_21
def f_X5_bothStand (th : Nat) (p1 : Int32) (p2 : Int32) (m : MM) : Option (Int32 × MM) := g_X5_bothStand_0 th p1 p2 m
theorem M_X5_bothStand (l : Launch) (E : EX) (th : Nat) (p1 : Int32) (p2 : Int32) (m : MM) (r : Int32) (m2 : MM) (h : f_X5_bothStand th p1 p2 m = some (r, m2)) : Met l yX5_bothStand (.code yX5_bothStand cX5_bothStand 3 (some .boolean) :: TB) rmX5_bothStand (va_Pc [.ref th, .int p1, .int p2] (St E m)) (QR E (emI r) m2) 0 0 (AA E) :=
  met_of (em := emI) (plainFor_of_name rfl) (Nat.le_of_ble_eq_true rfl) (L0 := [(0, va_rf (some th)), (1, .int p1), (2, .int p2)]) rfl (fun Γ _ hrm C hr hn => s_X5_bothStand_0 C hr hrm th p1 p2 m) h

theorem dX5_body_0 : decode cX5_body 0 = .ok (.iload_n 1, 1) := by decide +kernel
theorem dX5_body_1 : decode cX5_body 1 = .ok (.ifCond .lt 21, 3) := by decide +kernel
theorem dX5_body_4 : decode cX5_body 4 = .ok (.iload_n 1, 1) := by decide +kernel
theorem dX5_body_5 : decode cX5_body 5 = .ok (.aload_n 0, 1) := by decide +kernel
theorem dX5_body_6 : decode cX5_body 6 = .ok (.getfield 11, 3) := by decide +kernel
theorem dX5_body_9 : decode cX5_body 9 = .ok (.arraylength, 1) := by decide +kernel
theorem dX5_body_10 : decode cX5_body 10 = .ok (.if_icmp .ge 12, 3) := by decide +kernel
theorem dX5_body_13 : decode cX5_body 13 = .ok (.aload_n 0, 1) := by decide +kernel
theorem dX5_body_14 : decode cX5_body 14 = .ok (.getfield 11, 3) := by decide +kernel
theorem dX5_body_17 : decode cX5_body 17 = .ok (.iload_n 1, 1) := by decide +kernel
theorem dX5_body_18 : decode cX5_body 18 = .ok (.aaload, 1) := by decide +kernel
theorem dX5_body_19 : decode cX5_body 19 = .ok (.goto 4, 3) := by decide +kernel
theorem dX5_body_22 : decode cX5_body 22 = .ok (.aconst_null, 1) := by decide +kernel
theorem dX5_body_23 : decode cX5_body 23 = .ok (.areturn, 1) := by decide +kernel
def rmX5_body : Room := { frames := 0, cells := 0, slots := 0, locals := 0 }
set_option maxRecDepth 100000 in
def g_X5_body_22 (th : Nat) (p1 : Int32) (m : MM) : Option (Option Nat × MM) :=
  some (none, m)
set_option maxHeartbeats 4000000 in
set_option maxRecDepth 100000 in
theorem s_X5_body_22 {Γ : GX} {E : EX} (C : Cx Γ E cX5_body RX5 2) (hr : Γ.meth.sig.returnType = (some (.object "FarTown$Body"))) (hrm : Γ.rm = rmX5_body) (th : Nat) (p1 : Int32) (m : MM) : Sm (QM Γ E emR 0 0) Γ E 2 0 0 22 [(0, va_rf (some th)), (1, .int p1)] [] m (g_X5_body_22 th p1 m) := by
  unfold g_X5_body_22
  refine z_null C dX5_body_22 ?_
  exact z_aret C hr dX5_body_23
set_option maxRecDepth 100000 in
def g_X5_body_0 (th : Nat) (p1 : Int32) (m : MM) : Option (Option Nat × MM) :=
  if p1 < 0 then (g_X5_body_22 th p1 m) else (chk (m.K th = 6) (ck m (m.R 600 th 0) 25 (fun a1 => if (Int32.ofNat (m.N a1)) ≤ p1 then (g_X5_body_22 th p1 m) else (chk (inb p1 (m.N a1) = true) (some (m.R 25 a1 (Int32.toNatClampNeg p1), m))))))
set_option maxHeartbeats 4000000 in
set_option maxRecDepth 100000 in
theorem s_X5_body_0 {Γ : GX} {E : EX} (C : Cx Γ E cX5_body RX5 2) (hr : Γ.meth.sig.returnType = (some (.object "FarTown$Body"))) (hrm : Γ.rm = rmX5_body) (th : Nat) (p1 : Int32) (m : MM) : Sm (QM Γ E emR 0 0) Γ E 2 0 0 0 [(0, va_rf (some th)), (1, .int p1)] [] m (g_X5_body_0 th p1 m) := by
  unfold g_X5_body_0
  refine z_iload_n C dX5_body_0 rfl 1 rfl ?_
  refine z_if_lt (tgt := 22) C dX5_body_1 (by decide) (fun c1 => ?_) (fun c1 => ?_)
  · exact z_sub [0, 1] rfl (s_X5_body_22 C hr hrm th p1 m)
  · refine z_iload_n C dX5_body_4 rfl 1 rfl ?_
    refine z_aload_n C dX5_body_5 rfl 0 rfl ?_
    refine z_chk (fun hk1 => ?_)
    refine z_getR C fl_RX5_11 rfl hk1 dX5_body_6 ?_
    refine z_ck (fun a1 hr1 hk2 => ?_)
    refine z_alen C hr1 hk2 (by decide) (by decide) dX5_body_9 ?_
    refine z_icmp_ge (tgt := 22) C dX5_body_10 (by decide) (fun c2 => ?_) (fun c2 => ?_)
    · exact z_sub [0, 1] rfl (s_X5_body_22 C hr hrm th p1 m)
    · refine z_aload_n C dX5_body_13 rfl 0 rfl ?_
      refine z_getR C fl_RX5_11 rfl hk1 dX5_body_14 ?_
      refine z_iload_n C dX5_body_17 rfl 1 rfl ?_
      refine z_chk (fun hj1 => ?_)
      refine z_aald C hr1 hk2 (by decide) (by decide) hj1 dX5_body_18 ?_
      refine z_goto (tgt := 23) C dX5_body_19 (by decide) ?_
      exact z_aret C hr dX5_body_23
def f_X5_body (th : Nat) (p1 : Int32) (m : MM) : Option (Option Nat × MM) := g_X5_body_0 th p1 m
theorem M_X5_body (l : Launch) (E : EX) (th : Nat) (p1 : Int32) (m : MM) (r : Option Nat) (m2 : MM) (h : f_X5_body th p1 m = some (r, m2)) : Met l yX5_body (.code yX5_body cX5_body 2 (some (.object "FarTown$Body")) :: TB) rmX5_body (va_Pc [.ref th, .int p1] (St E m)) (QR E (emR r) m2) 0 0 (AA E) :=
  met_of (em := emR) (plainFor_of_name rfl) (Nat.le_of_ble_eq_true rfl) (L0 := [(0, va_rf (some th)), (1, .int p1)]) rfl (fun Γ _ hrm C hr hn => s_X5_body_0 C hr hrm th p1 m) h

theorem dX5_sortHolds_0 : decode cX5_sortHolds 0 = .ok (.aload 4, 2) := by decide +kernel
theorem dX5_sortHolds_2 : decode cX5_sortHolds 2 = .ok (.getfield 65, 3) := by decide +kernel
theorem dX5_sortHolds_5 : decode cX5_sortHolds 5 = .ok (.aload_n 3, 1) := by decide +kernel
theorem dX5_sortHolds_6 : decode cX5_sortHolds 6 = .ok (.getfield 65, 3) := by decide +kernel
theorem dX5_sortHolds_9 : decode cX5_sortHolds 9 = .ok (.isub, 1) := by decide +kernel
theorem dX5_sortHolds_10 : decode cX5_sortHolds 10 = .ok (.istore 5, 2) := by decide +kernel
theorem dX5_sortHolds_12 : decode cX5_sortHolds 12 = .ok (.aload 4, 2) := by decide +kernel
theorem dX5_sortHolds_14 : decode cX5_sortHolds 14 = .ok (.getfield 68, 3) := by decide +kernel
theorem dX5_sortHolds_17 : decode cX5_sortHolds 17 = .ok (.aload_n 3, 1) := by decide +kernel
theorem dX5_sortHolds_18 : decode cX5_sortHolds 18 = .ok (.getfield 68, 3) := by decide +kernel
theorem dX5_sortHolds_21 : decode cX5_sortHolds 21 = .ok (.isub, 1) := by decide +kernel
theorem dX5_sortHolds_22 : decode cX5_sortHolds 22 = .ok (.istore 6, 2) := by decide +kernel
theorem dX5_sortHolds_24 : decode cX5_sortHolds 24 = .ok (.iload_n 2, 1) := by decide +kernel
theorem dX5_sortHolds_25 : decode cX5_sortHolds 25 = .ok (.tableswitch 102 0 3 #[31, 33, 54, 78], 31) := by decide +kernel
theorem dX5_sortHolds_56 : decode cX5_sortHolds 56 = .ok (.iconst 1, 1) := by decide +kernel
theorem dX5_sortHolds_57 : decode cX5_sortHolds 57 = .ok (.ireturn, 1) := by decide +kernel
theorem dX5_sortHolds_58 : decode cX5_sortHolds 58 = .ok (.aload_n 1, 1) := by decide +kernel
theorem dX5_sortHolds_59 : decode cX5_sortHolds 59 = .ok (.aload_n 0, 1) := by decide +kernel
theorem dX5_sortHolds_60 : decode cX5_sortHolds 60 = .ok (.getfield 37, 3) := by decide +kernel
theorem dX5_sortHolds_63 : decode cX5_sortHolds 63 = .ok (.iload 5, 2) := by decide +kernel
theorem dX5_sortHolds_65 : decode cX5_sortHolds 65 = .ok (.iload 6, 2) := by decide +kernel
theorem dX5_sortHolds_67 : decode cX5_sortHolds 67 = .ok (.invokevirtual 121, 3) := by decide +kernel
theorem dX5_sortHolds_70 : decode cX5_sortHolds 70 = .ok (.ifCond .le 7, 3) := by decide +kernel
theorem dX5_sortHolds_73 : decode cX5_sortHolds 73 = .ok (.iconst 1, 1) := by decide +kernel
theorem dX5_sortHolds_74 : decode cX5_sortHolds 74 = .ok (.goto 4, 3) := by decide +kernel
theorem dX5_sortHolds_77 : decode cX5_sortHolds 77 = .ok (.iconst 0, 1) := by decide +kernel
theorem dX5_sortHolds_78 : decode cX5_sortHolds 78 = .ok (.ireturn, 1) := by decide +kernel
theorem dX5_sortHolds_79 : decode cX5_sortHolds 79 = .ok (.aload_n 1, 1) := by decide +kernel
theorem dX5_sortHolds_80 : decode cX5_sortHolds 80 = .ok (.getfield 125, 3) := by decide +kernel
theorem dX5_sortHolds_83 : decode cX5_sortHolds 83 = .ok (.iload 5, 2) := by decide +kernel
theorem dX5_sortHolds_85 : decode cX5_sortHolds 85 = .ok (.imul, 1) := by decide +kernel
theorem dX5_sortHolds_86 : decode cX5_sortHolds 86 = .ok (.aload_n 1, 1) := by decide +kernel
theorem dX5_sortHolds_87 : decode cX5_sortHolds 87 = .ok (.getfield 128, 3) := by decide +kernel
theorem dX5_sortHolds_90 : decode cX5_sortHolds 90 = .ok (.iload 6, 2) := by decide +kernel
theorem dX5_sortHolds_92 : decode cX5_sortHolds 92 = .ok (.imul, 1) := by decide +kernel
theorem dX5_sortHolds_93 : decode cX5_sortHolds 93 = .ok (.iadd, 1) := by decide +kernel
theorem dX5_sortHolds_94 : decode cX5_sortHolds 94 = .ok (.ifCond .ge 7, 3) := by decide +kernel
theorem dX5_sortHolds_97 : decode cX5_sortHolds 97 = .ok (.iconst 1, 1) := by decide +kernel
theorem dX5_sortHolds_98 : decode cX5_sortHolds 98 = .ok (.goto 4, 3) := by decide +kernel
theorem dX5_sortHolds_101 : decode cX5_sortHolds 101 = .ok (.iconst 0, 1) := by decide +kernel
theorem dX5_sortHolds_102 : decode cX5_sortHolds 102 = .ok (.ireturn, 1) := by decide +kernel
theorem dX5_sortHolds_103 : decode cX5_sortHolds 103 = .ok (.aload_n 3, 1) := by decide +kernel
theorem dX5_sortHolds_104 : decode cX5_sortHolds 104 = .ok (.aload 4, 2) := by decide +kernel
theorem dX5_sortHolds_106 : decode cX5_sortHolds 106 = .ok (.invokevirtual 131, 3) := by decide +kernel
theorem dX5_sortHolds_109 : decode cX5_sortHolds 109 = .ok (.ifCond .eq 16, 3) := by decide +kernel
theorem dX5_sortHolds_112 : decode cX5_sortHolds 112 = .ok (.aload 4, 2) := by decide +kernel
theorem dX5_sortHolds_114 : decode cX5_sortHolds 114 = .ok (.aload_n 3, 1) := by decide +kernel
theorem dX5_sortHolds_115 : decode cX5_sortHolds 115 = .ok (.invokevirtual 131, 3) := by decide +kernel
theorem dX5_sortHolds_118 : decode cX5_sortHolds 118 = .ok (.ifCond .eq 7, 3) := by decide +kernel
theorem dX5_sortHolds_121 : decode cX5_sortHolds 121 = .ok (.iconst 1, 1) := by decide +kernel
theorem dX5_sortHolds_122 : decode cX5_sortHolds 122 = .ok (.goto 4, 3) := by decide +kernel
theorem dX5_sortHolds_125 : decode cX5_sortHolds 125 = .ok (.iconst 0, 1) := by decide +kernel
theorem dX5_sortHolds_126 : decode cX5_sortHolds 126 = .ok (.ireturn, 1) := by decide +kernel
theorem dX5_sortHolds_127 : decode cX5_sortHolds 127 = .ok (.iconst 0, 1) := by decide +kernel
theorem dX5_sortHolds_128 : decode cX5_sortHolds 128 = .ok (.ireturn, 1) := by decide +kernel
def rmX5_sortHolds : Room := { frames := 1, cells := 0, slots := 0, locals := 28 }
set_option maxRecDepth 100000 in
def g_X5_sortHolds_125 (th : Nat) (p1 : Option Nat) (p2 : Int32) (p3 : Option Nat) (p4 : Option Nat) (m : MM) : Option (Int32 × MM) :=
  some (0, m)
set_option maxHeartbeats 4000000 in
set_option maxRecDepth 100000 in
theorem s_X5_sortHolds_125 {Γ : GX} {E : EX} (C : Cx Γ E cX5_sortHolds RX5 7) (hr : Γ.meth.sig.returnType = (some .boolean)) (hrm : Γ.rm = rmX5_sortHolds) (th : Nat) (p1 : Option Nat) (p2 : Int32) (p3 : Option Nat) (p4 : Option Nat) (m : MM) : Sm (QM Γ E emI 0 0) Γ E 7 0 0 125 [(0, va_rf (some th)), (1, va_rf p1), (2, .int p2), (3, va_rf p3), (4, va_rf p4)] [] m (g_X5_sortHolds_125 th p1 p2 p3 p4 m) := by
  unfold g_X5_sortHolds_125
  refine z_iconst (v := 0) C dX5_sortHolds_125 (by decide) ?_
  exact z_zret C hr rfl dX5_sortHolds_126
set_option maxRecDepth 100000 in
def g_X5_sortHolds_0 (th : Nat) (p1 : Option Nat) (p2 : Int32) (p3 : Option Nat) (p4 : Option Nat) (m : MM) : Option (Int32 × MM) :=
  ck m p4 1 (fun a1 => ck m p3 1 (fun a2 => bnd ((m.I 101 a1 0) - (m.I 101 a2 0)) (fun y1 => bnd ((m.I 102 a1 0) - (m.I 102 a2 0)) (fun y2 => if p2 = 0 then (some (1, m)) else (if p2 = 1 then (chk (m.K th = 6) (ck m p1 9 (fun a3 => cal (f_X8_hoursDownwind a3 (m.I 607 th 0) y1 y2 m) (fun r1 m1 => if r1 ≤ 0 then (some (0, m1)) else (some (1, m1)))))) else (if p2 = 2 then (ck m p1 9 (fun a4 => if 0 ≤ (((m.I 902 a4 0) * y1) + ((m.I 903 a4 0) * y2)) then (some (0, m)) else (some (1, m)))) else (if p2 = 3 then (cal (f_X0_seesAhead a2 p4 m) (fun r2 m2 => if r2 = 0 then (g_X5_sortHolds_125 th p1 p2 p3 p4 m2) else (chk (m2.K a1 = 1) (cal (f_X0_seesAhead a1 p3 m2) (fun r3 m3 => if r3 = 0 then (g_X5_sortHolds_125 th p1 p2 p3 p4 m3) else (some (1, m3))))))) else (some (0, m)))))))))
set_option maxHeartbeats 4000000 in
set_option maxRecDepth 100000 in
theorem s_X5_sortHolds_0 {Γ : GX} {E : EX} (C : Cx Γ E cX5_sortHolds RX5 7) (hr : Γ.meth.sig.returnType = (some .boolean)) (hrm : Γ.rm = rmX5_sortHolds) (th : Nat) (p1 : Option Nat) (p2 : Int32) (p3 : Option Nat) (p4 : Option Nat) (m : MM) : Sm (QM Γ E emI 0 0) Γ E 7 0 0 0 [(0, va_rf (some th)), (1, va_rf p1), (2, .int p2), (3, va_rf p3), (4, va_rf p4)] [] m (g_X5_sortHolds_0 th p1 p2 p3 p4 m) := by
  unfold g_X5_sortHolds_0
  refine z_aload C dX5_sortHolds_0 4 rfl ?_
  refine z_ck (fun a1 hr1 hk1 => ?_)
  refine z_getI C fl_RX5_65 hr1 hk1 dX5_sortHolds_2 ?_
  refine z_aload_n C dX5_sortHolds_5 rfl 3 rfl ?_
  refine z_ck (fun a2 hr2 hk2 => ?_)
  refine z_getI C fl_RX5_65 hr2 hk2 dX5_sortHolds_6 ?_
  refine z_isub C dX5_sortHolds_9 ?_
  refine z_bndI (fun y1 => ?_)
  refine z_istore (i := 5) (L2 := [(5, .int y1), (0, va_rf (some th)), (1, va_rf p1), (2, .int p2), (3, va_rf p3), (4, va_rf p4)]) C dX5_sortHolds_10 (by decide) (by simp [cat_rf, cat_i, cat_l, cat_a]) ?_
  refine z_aload C dX5_sortHolds_12 5 rfl ?_
  refine z_getI C fl_RX5_68 hr1 hk1 dX5_sortHolds_14 ?_
  refine z_aload_n C dX5_sortHolds_17 rfl 4 rfl ?_
  refine z_getI C fl_RX5_68 hr2 hk2 dX5_sortHolds_18 ?_
  refine z_isub C dX5_sortHolds_21 ?_
  refine z_bndI (fun y2 => ?_)
  refine z_istore (i := 6) (L2 := [(6, .int y2), (5, .int y1), (0, va_rf (some th)), (1, va_rf p1), (2, .int p2), (3, va_rf p3), (4, va_rf p4)]) C dX5_sortHolds_22 (by decide) rfl ?_
  refine z_iload_n C dX5_sortHolds_24 rfl 4 rfl ?_
  refine z_ite (fun c1 => ?_) (fun c1 => ?_)
  · refine z_tabI (v := 0) (tgt := 56) C dX5_sortHolds_25 c1 (by decide) (by decide) (off := 31) (by decide) (by decide) ?_
    refine z_iconst (v := 1) C dX5_sortHolds_56 (by decide) ?_
    exact z_zret C hr rfl dX5_sortHolds_57
  refine z_ite (fun c2 => ?_) (fun c2 => ?_)
  · refine z_tabI (v := 1) (tgt := 58) C dX5_sortHolds_25 c2 (by decide) (by decide) (off := 33) (by decide) (by decide) ?_
    refine z_aload_n C dX5_sortHolds_58 rfl 3 rfl ?_
    refine z_aload_n C dX5_sortHolds_59 rfl 2 rfl ?_
    refine z_chk (fun hk3 => ?_)
    refine z_getI C fl_RX5_37 rfl hk3 dX5_sortHolds_60 ?_
    refine z_iload C dX5_sortHolds_63 1 rfl ?_
    refine z_iload C dX5_sortHolds_65 0 rfl ?_
    refine z_ck (fun a3 hr3 hk4 => ?_)
    refine z_cVI [.int (m.I 607 th 0), .int y1, .int y2] [] C mv_RX5_121 (fun r0 m0 h0 => M_X8_hoursDownwind _ _ _ _ _ _ _ _ _ h0) rfl rfl ⟨by rw [hrm]; exact Nat.le_of_ble_eq_true rfl, by rw [hrm]; exact Nat.le_of_ble_eq_true rfl⟩ ⟨by rw [hrm]; exact Nat.le_of_ble_eq_true rfl, by rw [hrm]; exact Nat.le_of_ble_eq_true rfl⟩ hr3 hk4 rfl rfl rfl (Nat.le_of_ble_eq_true rfl) dX5_sortHolds_67 (fun r1 m1 => ?_)
    refine z_if_le (tgt := 77) C dX5_sortHolds_70 (by decide) (fun c3 => ?_) (fun c3 => ?_)
    · refine z_iconst (v := 0) C dX5_sortHolds_77 (by decide) ?_
      exact z_zret C hr rfl dX5_sortHolds_78
    · refine z_iconst (v := 1) C dX5_sortHolds_73 (by decide) ?_
      refine z_goto (tgt := 78) C dX5_sortHolds_74 (by decide) ?_
      exact z_zret C hr rfl dX5_sortHolds_78
  refine z_ite (fun c4 => ?_) (fun c4 => ?_)
  · refine z_tabI (v := 2) (tgt := 79) C dX5_sortHolds_25 c4 (by decide) (by decide) (off := 54) (by decide) (by decide) ?_
    refine z_aload_n C dX5_sortHolds_79 rfl 3 rfl ?_
    refine z_ck (fun a4 hr4 hk5 => ?_)
    refine z_getI C fl_RX5_125 hr4 hk5 dX5_sortHolds_80 ?_
    refine z_iload C dX5_sortHolds_83 1 rfl ?_
    refine z_imul C dX5_sortHolds_85 ?_
    refine z_aload_n C dX5_sortHolds_86 rfl 3 rfl ?_
    refine z_getI C fl_RX5_128 hr4 hk5 dX5_sortHolds_87 ?_
    refine z_iload C dX5_sortHolds_90 0 rfl ?_
    refine z_imul C dX5_sortHolds_92 ?_
    refine z_iadd C dX5_sortHolds_93 ?_
    refine z_if_ge (tgt := 101) C dX5_sortHolds_94 (by decide) (fun c5 => ?_) (fun c5 => ?_)
    · refine z_iconst (v := 0) C dX5_sortHolds_101 (by decide) ?_
      exact z_zret C hr rfl dX5_sortHolds_102
    · refine z_iconst (v := 1) C dX5_sortHolds_97 (by decide) ?_
      refine z_goto (tgt := 102) C dX5_sortHolds_98 (by decide) ?_
      exact z_zret C hr rfl dX5_sortHolds_102
  refine z_ite (fun c6 => ?_) (fun c6 => ?_)
  · refine z_tabI (v := 3) (tgt := 103) C dX5_sortHolds_25 c6 (by decide) (by decide) (off := 78) (by decide) (by decide) ?_
    refine z_aload_n C dX5_sortHolds_103 rfl 5 rfl ?_
    refine z_aload C dX5_sortHolds_104 6 rfl ?_
    refine z_cVI [va_rf p4] [] C mv_RX5_131 (fun r0 m0 h0 => M_X0_seesAhead _ _ _ _ _ _ _ h0) rfl rfl ⟨by rw [hrm]; exact Nat.le_of_ble_eq_true rfl, by rw [hrm]; exact Nat.le_of_ble_eq_true rfl⟩ ⟨by rw [hrm]; exact Nat.le_of_ble_eq_true rfl, by rw [hrm]; exact Nat.le_of_ble_eq_true rfl⟩ hr2 hk2 rfl rfl rfl (Nat.le_of_ble_eq_true rfl) dX5_sortHolds_106 (fun r2 m2 => ?_)
    refine z_if_eq (tgt := 125) C dX5_sortHolds_109 (by decide) (fun c7 => ?_) (fun c7 => ?_)
    · exact z_sub [2, 3, 4, 5, 6] rfl (s_X5_sortHolds_125 C hr hrm th p1 p2 p3 p4 m2)
    · refine z_aload C dX5_sortHolds_112 6 rfl ?_
      refine z_aload_n C dX5_sortHolds_114 rfl 5 rfl ?_
      refine z_chk (fun hk6 => ?_)
      refine z_cVI [va_rf p3] [] C mv_RX5_131 (fun r0 m0 h0 => M_X0_seesAhead _ _ _ _ _ _ _ h0) rfl rfl ⟨by rw [hrm]; exact Nat.le_of_ble_eq_true rfl, by rw [hrm]; exact Nat.le_of_ble_eq_true rfl⟩ ⟨by rw [hrm]; exact Nat.le_of_ble_eq_true rfl, by rw [hrm]; exact Nat.le_of_ble_eq_true rfl⟩ hr1 hk6 rfl rfl rfl (Nat.le_of_ble_eq_true rfl) dX5_sortHolds_115 (fun r3 m3 => ?_)
      refine z_if_eq (tgt := 125) C dX5_sortHolds_118 (by decide) (fun c8 => ?_) (fun c8 => ?_)
      · exact z_sub [2, 3, 4, 5, 6] rfl (s_X5_sortHolds_125 C hr hrm th p1 p2 p3 p4 m3)
      · refine z_iconst (v := 1) C dX5_sortHolds_121 (by decide) ?_
        refine z_goto (tgt := 126) C dX5_sortHolds_122 (by decide) ?_
        exact z_zret C hr rfl dX5_sortHolds_126
  refine z_tabO (tgt := 127) C dX5_sortHolds_25 (by have qc1 := ne_int (n := 0) c1 (by decide); have qc2 := ne_int (n := 1) c2 (by decide); have qc4 := ne_int (n := 2) c4 (by decide); have qc6 := ne_int (n := 3) c6 (by decide); omega) (by decide) ?_
  refine z_iconst (v := 0) C dX5_sortHolds_127 (by decide) ?_
  exact z_zret C hr rfl dX5_sortHolds_128
def f_X5_sortHolds (th : Nat) (p1 : Option Nat) (p2 : Int32) (p3 : Option Nat) (p4 : Option Nat) (m : MM) : Option (Int32 × MM) := g_X5_sortHolds_0 th p1 p2 p3 p4 m
theorem M_X5_sortHolds (l : Launch) (E : EX) (th : Nat) (p1 : Option Nat) (p2 : Int32) (p3 : Option Nat) (p4 : Option Nat) (m : MM) (r : Int32) (m2 : MM) (h : f_X5_sortHolds th p1 p2 p3 p4 m = some (r, m2)) : Met l yX5_sortHolds (.code yX5_sortHolds cX5_sortHolds 7 (some .boolean) :: TB) rmX5_sortHolds (va_Pc [.ref th, va_rf p1, .int p2, va_rf p3, va_rf p4] (St E m)) (QR E (emI r) m2) 0 0 (AA E) :=
  met_of (em := emI) (plainFor_of_name rfl) (by simp [lg_sl, cat_rf, cat_i, cat_l, cat_a]) (L0 := [(0, va_rf (some th)), (1, va_rf p1), (2, .int p2), (3, va_rf p3), (4, va_rf p4)]) (by simp [lv_args, cat_rf, cat_i, cat_l, cat_a] <;> rfl) (fun Γ _ hrm C hr hn => s_X5_sortHolds_0 C hr hrm th p1 p2 p3 p4 m) h

theorem dX5_cuts_0 : decode cX5_cuts 0 = .ok (.aload_n 1, 1) := by decide +kernel
theorem dX5_cuts_1 : decode cX5_cuts 1 = .ok (.getfield 65, 3) := by decide +kernel
theorem dX5_cuts_4 : decode cX5_cuts 4 = .ok (.aload_n 0, 1) := by decide +kernel
theorem dX5_cuts_5 : decode cX5_cuts 5 = .ok (.getfield 65, 3) := by decide +kernel
theorem dX5_cuts_8 : decode cX5_cuts 8 = .ok (.isub, 1) := by decide +kernel
theorem dX5_cuts_9 : decode cX5_cuts 9 = .ok (.istore 6, 2) := by decide +kernel
theorem dX5_cuts_11 : decode cX5_cuts 11 = .ok (.aload_n 1, 1) := by decide +kernel
theorem dX5_cuts_12 : decode cX5_cuts 12 = .ok (.getfield 68, 3) := by decide +kernel
theorem dX5_cuts_15 : decode cX5_cuts 15 = .ok (.aload_n 0, 1) := by decide +kernel
theorem dX5_cuts_16 : decode cX5_cuts 16 = .ok (.getfield 68, 3) := by decide +kernel
theorem dX5_cuts_19 : decode cX5_cuts 19 = .ok (.isub, 1) := by decide +kernel
theorem dX5_cuts_20 : decode cX5_cuts 20 = .ok (.istore 7, 2) := by decide +kernel
theorem dX5_cuts_22 : decode cX5_cuts 22 = .ok (.iload 4, 2) := by decide +kernel
theorem dX5_cuts_24 : decode cX5_cuts 24 = .ok (.iload_n 2, 1) := by decide +kernel
theorem dX5_cuts_25 : decode cX5_cuts 25 = .ok (.isub, 1) := by decide +kernel
theorem dX5_cuts_26 : decode cX5_cuts 26 = .ok (.istore 8, 2) := by decide +kernel
theorem dX5_cuts_28 : decode cX5_cuts 28 = .ok (.iload 5, 2) := by decide +kernel
theorem dX5_cuts_30 : decode cX5_cuts 30 = .ok (.iload_n 3, 1) := by decide +kernel
theorem dX5_cuts_31 : decode cX5_cuts 31 = .ok (.isub, 1) := by decide +kernel
theorem dX5_cuts_32 : decode cX5_cuts 32 = .ok (.istore 9, 2) := by decide +kernel
theorem dX5_cuts_34 : decode cX5_cuts 34 = .ok (.iload 6, 2) := by decide +kernel
theorem dX5_cuts_36 : decode cX5_cuts 36 = .ok (.iload_n 3, 1) := by decide +kernel
theorem dX5_cuts_37 : decode cX5_cuts 37 = .ok (.aload_n 0, 1) := by decide +kernel
theorem dX5_cuts_38 : decode cX5_cuts 38 = .ok (.getfield 68, 3) := by decide +kernel
theorem dX5_cuts_41 : decode cX5_cuts 41 = .ok (.isub, 1) := by decide +kernel
theorem dX5_cuts_42 : decode cX5_cuts 42 = .ok (.imul, 1) := by decide +kernel
theorem dX5_cuts_43 : decode cX5_cuts 43 = .ok (.iload 7, 2) := by decide +kernel
theorem dX5_cuts_45 : decode cX5_cuts 45 = .ok (.iload_n 2, 1) := by decide +kernel
theorem dX5_cuts_46 : decode cX5_cuts 46 = .ok (.aload_n 0, 1) := by decide +kernel
theorem dX5_cuts_47 : decode cX5_cuts 47 = .ok (.getfield 65, 3) := by decide +kernel
theorem dX5_cuts_50 : decode cX5_cuts 50 = .ok (.isub, 1) := by decide +kernel
theorem dX5_cuts_51 : decode cX5_cuts 51 = .ok (.imul, 1) := by decide +kernel
theorem dX5_cuts_52 : decode cX5_cuts 52 = .ok (.isub, 1) := by decide +kernel
theorem dX5_cuts_53 : decode cX5_cuts 53 = .ok (.istore 10, 2) := by decide +kernel
theorem dX5_cuts_55 : decode cX5_cuts 55 = .ok (.iload 6, 2) := by decide +kernel
theorem dX5_cuts_57 : decode cX5_cuts 57 = .ok (.iload 5, 2) := by decide +kernel
theorem dX5_cuts_59 : decode cX5_cuts 59 = .ok (.aload_n 0, 1) := by decide +kernel
theorem dX5_cuts_60 : decode cX5_cuts 60 = .ok (.getfield 68, 3) := by decide +kernel
theorem dX5_cuts_63 : decode cX5_cuts 63 = .ok (.isub, 1) := by decide +kernel
theorem dX5_cuts_64 : decode cX5_cuts 64 = .ok (.imul, 1) := by decide +kernel
theorem dX5_cuts_65 : decode cX5_cuts 65 = .ok (.iload 7, 2) := by decide +kernel
theorem dX5_cuts_67 : decode cX5_cuts 67 = .ok (.iload 4, 2) := by decide +kernel
theorem dX5_cuts_69 : decode cX5_cuts 69 = .ok (.aload_n 0, 1) := by decide +kernel
theorem dX5_cuts_70 : decode cX5_cuts 70 = .ok (.getfield 65, 3) := by decide +kernel
theorem dX5_cuts_73 : decode cX5_cuts 73 = .ok (.isub, 1) := by decide +kernel
theorem dX5_cuts_74 : decode cX5_cuts 74 = .ok (.imul, 1) := by decide +kernel
theorem dX5_cuts_75 : decode cX5_cuts 75 = .ok (.isub, 1) := by decide +kernel
theorem dX5_cuts_76 : decode cX5_cuts 76 = .ok (.istore 11, 2) := by decide +kernel
theorem dX5_cuts_78 : decode cX5_cuts 78 = .ok (.iload 8, 2) := by decide +kernel
theorem dX5_cuts_80 : decode cX5_cuts 80 = .ok (.aload_n 0, 1) := by decide +kernel
theorem dX5_cuts_81 : decode cX5_cuts 81 = .ok (.getfield 68, 3) := by decide +kernel
theorem dX5_cuts_84 : decode cX5_cuts 84 = .ok (.iload_n 3, 1) := by decide +kernel
theorem dX5_cuts_85 : decode cX5_cuts 85 = .ok (.isub, 1) := by decide +kernel
theorem dX5_cuts_86 : decode cX5_cuts 86 = .ok (.imul, 1) := by decide +kernel
theorem dX5_cuts_87 : decode cX5_cuts 87 = .ok (.iload 9, 2) := by decide +kernel
theorem dX5_cuts_89 : decode cX5_cuts 89 = .ok (.aload_n 0, 1) := by decide +kernel
theorem dX5_cuts_90 : decode cX5_cuts 90 = .ok (.getfield 65, 3) := by decide +kernel
theorem dX5_cuts_93 : decode cX5_cuts 93 = .ok (.iload_n 2, 1) := by decide +kernel
theorem dX5_cuts_94 : decode cX5_cuts 94 = .ok (.isub, 1) := by decide +kernel
theorem dX5_cuts_95 : decode cX5_cuts 95 = .ok (.imul, 1) := by decide +kernel
theorem dX5_cuts_96 : decode cX5_cuts 96 = .ok (.isub, 1) := by decide +kernel
theorem dX5_cuts_97 : decode cX5_cuts 97 = .ok (.istore 12, 2) := by decide +kernel
theorem dX5_cuts_99 : decode cX5_cuts 99 = .ok (.iload 8, 2) := by decide +kernel
theorem dX5_cuts_101 : decode cX5_cuts 101 = .ok (.aload_n 1, 1) := by decide +kernel
theorem dX5_cuts_102 : decode cX5_cuts 102 = .ok (.getfield 68, 3) := by decide +kernel
theorem dX5_cuts_105 : decode cX5_cuts 105 = .ok (.iload_n 3, 1) := by decide +kernel
theorem dX5_cuts_106 : decode cX5_cuts 106 = .ok (.isub, 1) := by decide +kernel
theorem dX5_cuts_107 : decode cX5_cuts 107 = .ok (.imul, 1) := by decide +kernel
theorem dX5_cuts_108 : decode cX5_cuts 108 = .ok (.iload 9, 2) := by decide +kernel
theorem dX5_cuts_110 : decode cX5_cuts 110 = .ok (.aload_n 1, 1) := by decide +kernel
theorem dX5_cuts_111 : decode cX5_cuts 111 = .ok (.getfield 65, 3) := by decide +kernel
theorem dX5_cuts_114 : decode cX5_cuts 114 = .ok (.iload_n 2, 1) := by decide +kernel
theorem dX5_cuts_115 : decode cX5_cuts 115 = .ok (.isub, 1) := by decide +kernel
theorem dX5_cuts_116 : decode cX5_cuts 116 = .ok (.imul, 1) := by decide +kernel
theorem dX5_cuts_117 : decode cX5_cuts 117 = .ok (.isub, 1) := by decide +kernel
theorem dX5_cuts_118 : decode cX5_cuts 118 = .ok (.istore 13, 2) := by decide +kernel
theorem dX5_cuts_120 : decode cX5_cuts 120 = .ok (.iload 10, 2) := by decide +kernel
theorem dX5_cuts_122 : decode cX5_cuts 122 = .ok (.iload 11, 2) := by decide +kernel
theorem dX5_cuts_124 : decode cX5_cuts 124 = .ok (.imul, 1) := by decide +kernel
theorem dX5_cuts_125 : decode cX5_cuts 125 = .ok (.ifCond .gt 11, 3) := by decide +kernel
theorem dX5_cuts_128 : decode cX5_cuts 128 = .ok (.iload 12, 2) := by decide +kernel
theorem dX5_cuts_130 : decode cX5_cuts 130 = .ok (.iload 13, 2) := by decide +kernel
theorem dX5_cuts_132 : decode cX5_cuts 132 = .ok (.imul, 1) := by decide +kernel
theorem dX5_cuts_133 : decode cX5_cuts 133 = .ok (.ifCond .le 5, 3) := by decide +kernel
theorem dX5_cuts_136 : decode cX5_cuts 136 = .ok (.iconst 0, 1) := by decide +kernel
theorem dX5_cuts_137 : decode cX5_cuts 137 = .ok (.ireturn, 1) := by decide +kernel
theorem dX5_cuts_138 : decode cX5_cuts 138 = .ok (.iload 10, 2) := by decide +kernel
theorem dX5_cuts_140 : decode cX5_cuts 140 = .ok (.ifCond .ne 18, 3) := by decide +kernel
theorem dX5_cuts_143 : decode cX5_cuts 143 = .ok (.iload 11, 2) := by decide +kernel
theorem dX5_cuts_145 : decode cX5_cuts 145 = .ok (.ifCond .ne 13, 3) := by decide +kernel
theorem dX5_cuts_148 : decode cX5_cuts 148 = .ok (.iload 12, 2) := by decide +kernel
theorem dX5_cuts_150 : decode cX5_cuts 150 = .ok (.ifCond .ne 8, 3) := by decide +kernel
theorem dX5_cuts_153 : decode cX5_cuts 153 = .ok (.iload 13, 2) := by decide +kernel
theorem dX5_cuts_155 : decode cX5_cuts 155 = .ok (.ifCond .eq 5, 3) := by decide +kernel
theorem dX5_cuts_158 : decode cX5_cuts 158 = .ok (.iconst 1, 1) := by decide +kernel
theorem dX5_cuts_159 : decode cX5_cuts 159 = .ok (.ireturn, 1) := by decide +kernel
theorem dX5_cuts_160 : decode cX5_cuts 160 = .ok (.aload_n 0, 1) := by decide +kernel
theorem dX5_cuts_161 : decode cX5_cuts 161 = .ok (.getfield 65, 3) := by decide +kernel
theorem dX5_cuts_164 : decode cX5_cuts 164 = .ok (.iload_n 2, 1) := by decide +kernel
theorem dX5_cuts_165 : decode cX5_cuts 165 = .ok (.isub, 1) := by decide +kernel
theorem dX5_cuts_166 : decode cX5_cuts 166 = .ok (.aload_n 0, 1) := by decide +kernel
theorem dX5_cuts_167 : decode cX5_cuts 167 = .ok (.getfield 65, 3) := by decide +kernel
theorem dX5_cuts_170 : decode cX5_cuts 170 = .ok (.iload 4, 2) := by decide +kernel
theorem dX5_cuts_172 : decode cX5_cuts 172 = .ok (.isub, 1) := by decide +kernel
theorem dX5_cuts_173 : decode cX5_cuts 173 = .ok (.imul, 1) := by decide +kernel
theorem dX5_cuts_174 : decode cX5_cuts 174 = .ok (.ifCond .gt 24, 3) := by decide +kernel
theorem dX5_cuts_177 : decode cX5_cuts 177 = .ok (.aload_n 0, 1) := by decide +kernel
theorem dX5_cuts_178 : decode cX5_cuts 178 = .ok (.getfield 68, 3) := by decide +kernel
theorem dX5_cuts_181 : decode cX5_cuts 181 = .ok (.iload_n 3, 1) := by decide +kernel
theorem dX5_cuts_182 : decode cX5_cuts 182 = .ok (.isub, 1) := by decide +kernel
theorem dX5_cuts_183 : decode cX5_cuts 183 = .ok (.aload_n 0, 1) := by decide +kernel
theorem dX5_cuts_184 : decode cX5_cuts 184 = .ok (.getfield 68, 3) := by decide +kernel
theorem dX5_cuts_187 : decode cX5_cuts 187 = .ok (.iload 5, 2) := by decide +kernel
theorem dX5_cuts_189 : decode cX5_cuts 189 = .ok (.isub, 1) := by decide +kernel
theorem dX5_cuts_190 : decode cX5_cuts 190 = .ok (.imul, 1) := by decide +kernel
theorem dX5_cuts_191 : decode cX5_cuts 191 = .ok (.ifCond .gt 7, 3) := by decide +kernel
theorem dX5_cuts_194 : decode cX5_cuts 194 = .ok (.iconst 1, 1) := by decide +kernel
theorem dX5_cuts_195 : decode cX5_cuts 195 = .ok (.goto 4, 3) := by decide +kernel
theorem dX5_cuts_198 : decode cX5_cuts 198 = .ok (.iconst 0, 1) := by decide +kernel
theorem dX5_cuts_199 : decode cX5_cuts 199 = .ok (.istore 14, 2) := by decide +kernel
theorem dX5_cuts_201 : decode cX5_cuts 201 = .ok (.aload_n 1, 1) := by decide +kernel
theorem dX5_cuts_202 : decode cX5_cuts 202 = .ok (.getfield 65, 3) := by decide +kernel
theorem dX5_cuts_205 : decode cX5_cuts 205 = .ok (.iload_n 2, 1) := by decide +kernel
theorem dX5_cuts_206 : decode cX5_cuts 206 = .ok (.isub, 1) := by decide +kernel
theorem dX5_cuts_207 : decode cX5_cuts 207 = .ok (.aload_n 1, 1) := by decide +kernel
theorem dX5_cuts_208 : decode cX5_cuts 208 = .ok (.getfield 65, 3) := by decide +kernel
theorem dX5_cuts_211 : decode cX5_cuts 211 = .ok (.iload 4, 2) := by decide +kernel
theorem dX5_cuts_213 : decode cX5_cuts 213 = .ok (.isub, 1) := by decide +kernel
theorem dX5_cuts_214 : decode cX5_cuts 214 = .ok (.imul, 1) := by decide +kernel
theorem dX5_cuts_215 : decode cX5_cuts 215 = .ok (.ifCond .gt 24, 3) := by decide +kernel
theorem dX5_cuts_218 : decode cX5_cuts 218 = .ok (.aload_n 1, 1) := by decide +kernel
theorem dX5_cuts_219 : decode cX5_cuts 219 = .ok (.getfield 68, 3) := by decide +kernel
theorem dX5_cuts_222 : decode cX5_cuts 222 = .ok (.iload_n 3, 1) := by decide +kernel
theorem dX5_cuts_223 : decode cX5_cuts 223 = .ok (.isub, 1) := by decide +kernel
theorem dX5_cuts_224 : decode cX5_cuts 224 = .ok (.aload_n 1, 1) := by decide +kernel
theorem dX5_cuts_225 : decode cX5_cuts 225 = .ok (.getfield 68, 3) := by decide +kernel
theorem dX5_cuts_228 : decode cX5_cuts 228 = .ok (.iload 5, 2) := by decide +kernel
theorem dX5_cuts_230 : decode cX5_cuts 230 = .ok (.isub, 1) := by decide +kernel
theorem dX5_cuts_231 : decode cX5_cuts 231 = .ok (.imul, 1) := by decide +kernel
theorem dX5_cuts_232 : decode cX5_cuts 232 = .ok (.ifCond .gt 7, 3) := by decide +kernel
theorem dX5_cuts_235 : decode cX5_cuts 235 = .ok (.iconst 1, 1) := by decide +kernel
theorem dX5_cuts_236 : decode cX5_cuts 236 = .ok (.goto 4, 3) := by decide +kernel
theorem dX5_cuts_239 : decode cX5_cuts 239 = .ok (.iconst 0, 1) := by decide +kernel
theorem dX5_cuts_240 : decode cX5_cuts 240 = .ok (.istore 15, 2) := by decide +kernel
theorem dX5_cuts_242 : decode cX5_cuts 242 = .ok (.iload_n 2, 1) := by decide +kernel
theorem dX5_cuts_243 : decode cX5_cuts 243 = .ok (.aload_n 0, 1) := by decide +kernel
theorem dX5_cuts_244 : decode cX5_cuts 244 = .ok (.getfield 65, 3) := by decide +kernel
theorem dX5_cuts_247 : decode cX5_cuts 247 = .ok (.isub, 1) := by decide +kernel
theorem dX5_cuts_248 : decode cX5_cuts 248 = .ok (.iload_n 2, 1) := by decide +kernel
theorem dX5_cuts_249 : decode cX5_cuts 249 = .ok (.aload_n 1, 1) := by decide +kernel
theorem dX5_cuts_250 : decode cX5_cuts 250 = .ok (.getfield 65, 3) := by decide +kernel
theorem dX5_cuts_253 : decode cX5_cuts 253 = .ok (.isub, 1) := by decide +kernel
theorem dX5_cuts_254 : decode cX5_cuts 254 = .ok (.imul, 1) := by decide +kernel
theorem dX5_cuts_255 : decode cX5_cuts 255 = .ok (.ifCond .gt 23, 3) := by decide +kernel
theorem dX5_cuts_258 : decode cX5_cuts 258 = .ok (.iload_n 3, 1) := by decide +kernel
theorem dX5_cuts_259 : decode cX5_cuts 259 = .ok (.aload_n 0, 1) := by decide +kernel
theorem dX5_cuts_260 : decode cX5_cuts 260 = .ok (.getfield 68, 3) := by decide +kernel
theorem dX5_cuts_263 : decode cX5_cuts 263 = .ok (.isub, 1) := by decide +kernel
theorem dX5_cuts_264 : decode cX5_cuts 264 = .ok (.iload_n 3, 1) := by decide +kernel
theorem dX5_cuts_265 : decode cX5_cuts 265 = .ok (.aload_n 1, 1) := by decide +kernel
theorem dX5_cuts_266 : decode cX5_cuts 266 = .ok (.getfield 68, 3) := by decide +kernel
theorem dX5_cuts_269 : decode cX5_cuts 269 = .ok (.isub, 1) := by decide +kernel
theorem dX5_cuts_270 : decode cX5_cuts 270 = .ok (.imul, 1) := by decide +kernel
theorem dX5_cuts_271 : decode cX5_cuts 271 = .ok (.ifCond .gt 7, 3) := by decide +kernel
theorem dX5_cuts_274 : decode cX5_cuts 274 = .ok (.iconst 1, 1) := by decide +kernel
theorem dX5_cuts_275 : decode cX5_cuts 275 = .ok (.goto 4, 3) := by decide +kernel
theorem dX5_cuts_278 : decode cX5_cuts 278 = .ok (.iconst 0, 1) := by decide +kernel
theorem dX5_cuts_279 : decode cX5_cuts 279 = .ok (.istore 16, 2) := by decide +kernel
theorem dX5_cuts_281 : decode cX5_cuts 281 = .ok (.iload 14, 2) := by decide +kernel
theorem dX5_cuts_283 : decode cX5_cuts 283 = .ok (.ifCond .ne 13, 3) := by decide +kernel
theorem dX5_cuts_286 : decode cX5_cuts 286 = .ok (.iload 15, 2) := by decide +kernel
theorem dX5_cuts_288 : decode cX5_cuts 288 = .ok (.ifCond .ne 8, 3) := by decide +kernel
theorem dX5_cuts_291 : decode cX5_cuts 291 = .ok (.iload 16, 2) := by decide +kernel
theorem dX5_cuts_293 : decode cX5_cuts 293 = .ok (.ifCond .eq 7, 3) := by decide +kernel
theorem dX5_cuts_296 : decode cX5_cuts 296 = .ok (.iconst 1, 1) := by decide +kernel
theorem dX5_cuts_297 : decode cX5_cuts 297 = .ok (.goto 4, 3) := by decide +kernel
theorem dX5_cuts_300 : decode cX5_cuts 300 = .ok (.iconst 0, 1) := by decide +kernel
theorem dX5_cuts_301 : decode cX5_cuts 301 = .ok (.ireturn, 1) := by decide +kernel
def rmX5_cuts : Room := { frames := 0, cells := 0, slots := 0, locals := 0 }
set_option maxRecDepth 100000 in
def g_X5_cuts_296 (p0 : Option Nat) (p1 : Option Nat) (p2 : Int32) (p3 : Int32) (p4 : Int32) (p5 : Int32) (m : MM) : Option (Int32 × MM) :=
  some (1, m)
set_option maxHeartbeats 4000000 in
set_option maxRecDepth 100000 in
theorem s_X5_cuts_296 {Γ : GX} {E : EX} (C : Cx Γ E cX5_cuts RX5 17) (hr : Γ.meth.sig.returnType = (some .boolean)) (hrm : Γ.rm = rmX5_cuts) (p0 : Option Nat) (p1 : Option Nat) (p2 : Int32) (p3 : Int32) (p4 : Int32) (p5 : Int32) (m : MM) : Sm (QM Γ E emI 0 0) Γ E 17 0 0 296 [(0, va_rf p0), (1, va_rf p1), (2, .int p2), (3, .int p3), (4, .int p4), (5, .int p5)] [] m (g_X5_cuts_296 p0 p1 p2 p3 p4 p5 m) := by
  unfold g_X5_cuts_296
  refine z_iconst (v := 1) C dX5_cuts_296 (by decide) ?_
  refine z_goto (tgt := 301) C dX5_cuts_297 (by decide) ?_
  exact z_zret C hr rfl dX5_cuts_301
set_option maxRecDepth 100000 in
def g_X5_cuts_279 (p0 : Option Nat) (p1 : Option Nat) (p2 : Int32) (p3 : Int32) (p4 : Int32) (p5 : Int32) (x14 : Int32) (x15 : Int32) (s0 : Int32) (m : MM) : Option (Int32 × MM) :=
  if x14 = 0 then (if x15 = 0 then (if s0 = 0 then (some (0, m)) else (g_X5_cuts_296 p0 p1 p2 p3 p4 p5 m)) else (g_X5_cuts_296 p0 p1 p2 p3 p4 p5 m)) else (g_X5_cuts_296 p0 p1 p2 p3 p4 p5 m)
set_option maxHeartbeats 4000000 in
set_option maxRecDepth 100000 in
theorem s_X5_cuts_279 {Γ : GX} {E : EX} (C : Cx Γ E cX5_cuts RX5 17) (hr : Γ.meth.sig.returnType = (some .boolean)) (hrm : Γ.rm = rmX5_cuts) (p0 : Option Nat) (p1 : Option Nat) (p2 : Int32) (p3 : Int32) (p4 : Int32) (p5 : Int32) (x14 : Int32) (x15 : Int32) (s0 : Int32) (m : MM) : Sm (QM Γ E emI 0 0) Γ E 17 0 0 279 [(0, va_rf p0), (1, va_rf p1), (2, .int p2), (3, .int p3), (4, .int p4), (5, .int p5), (14, .int x14), (15, .int x15)] [.int s0] m (g_X5_cuts_279 p0 p1 p2 p3 p4 p5 x14 x15 s0 m) := by
  unfold g_X5_cuts_279
  refine z_istore (i := 16) (L2 := [(16, .int s0), (0, va_rf p0), (1, va_rf p1), (2, .int p2), (3, .int p3), (4, .int p4), (5, .int p5), (14, .int x14), (15, .int x15)]) C dX5_cuts_279 (by decide) rfl ?_
  refine z_iload C dX5_cuts_281 7 rfl ?_
  refine z_if_ne (tgt := 296) C dX5_cuts_283 (by decide) (fun c1 => ?_) (fun c1 => ?_)
  · exact z_sub [1, 2, 3, 4, 5, 6] rfl (s_X5_cuts_296 C hr hrm p0 p1 p2 p3 p4 p5 m)
  · refine z_iload C dX5_cuts_286 8 rfl ?_
    refine z_if_ne (tgt := 296) C dX5_cuts_288 (by decide) (fun c2 => ?_) (fun c2 => ?_)
    · exact z_sub [1, 2, 3, 4, 5, 6] rfl (s_X5_cuts_296 C hr hrm p0 p1 p2 p3 p4 p5 m)
    · refine z_iload C dX5_cuts_291 0 rfl ?_
      refine z_if_eq (tgt := 300) C dX5_cuts_293 (by decide) (fun c3 => ?_) (fun c3 => ?_)
      · refine z_iconst (v := 0) C dX5_cuts_300 (by decide) ?_
        exact z_zret C hr rfl dX5_cuts_301
      · exact z_sub [1, 2, 3, 4, 5, 6] rfl (s_X5_cuts_296 C hr hrm p0 p1 p2 p3 p4 p5 m)
set_option maxRecDepth 100000 in
def g_X5_cuts_278 (p0 : Option Nat) (p1 : Option Nat) (p2 : Int32) (p3 : Int32) (p4 : Int32) (p5 : Int32) (x14 : Int32) (x15 : Int32) (m : MM) : Option (Int32 × MM) :=
  g_X5_cuts_279 p0 p1 p2 p3 p4 p5 x14 x15 0 m
set_option maxHeartbeats 4000000 in
set_option maxRecDepth 100000 in
theorem s_X5_cuts_278 {Γ : GX} {E : EX} (C : Cx Γ E cX5_cuts RX5 17) (hr : Γ.meth.sig.returnType = (some .boolean)) (hrm : Γ.rm = rmX5_cuts) (p0 : Option Nat) (p1 : Option Nat) (p2 : Int32) (p3 : Int32) (p4 : Int32) (p5 : Int32) (x14 : Int32) (x15 : Int32) (m : MM) : Sm (QM Γ E emI 0 0) Γ E 17 0 0 278 [(0, va_rf p0), (1, va_rf p1), (2, .int p2), (3, .int p3), (4, .int p4), (5, .int p5), (14, .int x14), (15, .int x15)] [] m (g_X5_cuts_278 p0 p1 p2 p3 p4 p5 x14 x15 m) := by
  unfold g_X5_cuts_278
  refine z_iconst (v := 0) C dX5_cuts_278 (by decide) ?_
  exact z_sub [0, 1, 2, 3, 4, 5, 6, 7] rfl (s_X5_cuts_279 C hr hrm p0 p1 p2 p3 p4 p5 x14 x15 0 m)
set_option maxRecDepth 100000 in
def g_X5_cuts_240 (p0 : Option Nat) (p1 : Option Nat) (p2 : Int32) (p3 : Int32) (p4 : Int32) (p5 : Int32) (x14 : Int32) (s0 : Int32) (m : MM) : Option (Int32 × MM) :=
  ck m p0 1 (fun a1 => ck m p1 1 (fun a2 => if 0 < ((p2 - (m.I 101 a1 0)) * (p2 - (m.I 101 a2 0))) then (g_X5_cuts_278 p0 p1 p2 p3 p4 p5 x14 s0 m) else (if 0 < ((p3 - (m.I 102 a1 0)) * (p3 - (m.I 102 a2 0))) then (g_X5_cuts_278 p0 p1 p2 p3 p4 p5 x14 s0 m) else (g_X5_cuts_279 p0 p1 p2 p3 p4 p5 x14 s0 1 m))))
set_option maxHeartbeats 4000000 in
set_option maxRecDepth 100000 in
theorem s_X5_cuts_240 {Γ : GX} {E : EX} (C : Cx Γ E cX5_cuts RX5 17) (hr : Γ.meth.sig.returnType = (some .boolean)) (hrm : Γ.rm = rmX5_cuts) (p0 : Option Nat) (p1 : Option Nat) (p2 : Int32) (p3 : Int32) (p4 : Int32) (p5 : Int32) (x14 : Int32) (s0 : Int32) (m : MM) : Sm (QM Γ E emI 0 0) Γ E 17 0 0 240 [(0, va_rf p0), (1, va_rf p1), (2, .int p2), (3, .int p3), (4, .int p4), (5, .int p5), (14, .int x14)] [.int s0] m (g_X5_cuts_240 p0 p1 p2 p3 p4 p5 x14 s0 m) := by
  unfold g_X5_cuts_240
  refine z_istore (i := 15) (L2 := [(15, .int s0), (0, va_rf p0), (1, va_rf p1), (2, .int p2), (3, .int p3), (4, .int p4), (5, .int p5), (14, .int x14)]) C dX5_cuts_240 (by decide) rfl ?_
  refine z_iload_n C dX5_cuts_242 rfl 3 rfl ?_
  refine z_aload_n C dX5_cuts_243 rfl 1 rfl ?_
  refine z_ck (fun a1 hr1 hk1 => ?_)
  refine z_getI C fl_RX5_65 hr1 hk1 dX5_cuts_244 ?_
  refine z_isub C dX5_cuts_247 ?_
  refine z_iload_n C dX5_cuts_248 rfl 3 rfl ?_
  refine z_aload_n C dX5_cuts_249 rfl 2 rfl ?_
  refine z_ck (fun a2 hr2 hk2 => ?_)
  refine z_getI C fl_RX5_65 hr2 hk2 dX5_cuts_250 ?_
  refine z_isub C dX5_cuts_253 ?_
  refine z_imul C dX5_cuts_254 ?_
  refine z_if_gt (tgt := 278) C dX5_cuts_255 (by decide) (fun c4 => ?_) (fun c4 => ?_)
  · exact z_sub [1, 2, 3, 4, 5, 6, 7, 0] rfl (s_X5_cuts_278 C hr hrm p0 p1 p2 p3 p4 p5 x14 s0 m)
  · refine z_iload_n C dX5_cuts_258 rfl 4 rfl ?_
    refine z_aload_n C dX5_cuts_259 rfl 1 rfl ?_
    refine z_getI C fl_RX5_68 hr1 hk1 dX5_cuts_260 ?_
    refine z_isub C dX5_cuts_263 ?_
    refine z_iload_n C dX5_cuts_264 rfl 4 rfl ?_
    refine z_aload_n C dX5_cuts_265 rfl 2 rfl ?_
    refine z_getI C fl_RX5_68 hr2 hk2 dX5_cuts_266 ?_
    refine z_isub C dX5_cuts_269 ?_
    refine z_imul C dX5_cuts_270 ?_
    refine z_if_gt (tgt := 278) C dX5_cuts_271 (by decide) (fun c5 => ?_) (fun c5 => ?_)
    · exact z_sub [1, 2, 3, 4, 5, 6, 7, 0] rfl (s_X5_cuts_278 C hr hrm p0 p1 p2 p3 p4 p5 x14 s0 m)
    · refine z_iconst (v := 1) C dX5_cuts_274 (by decide) ?_
      refine z_goto (tgt := 279) C dX5_cuts_275 (by decide) ?_
      exact z_sub [1, 2, 3, 4, 5, 6, 7, 0] rfl (s_X5_cuts_279 C hr hrm p0 p1 p2 p3 p4 p5 x14 s0 1 m)
set_option maxRecDepth 100000 in
def g_X5_cuts_239 (p0 : Option Nat) (p1 : Option Nat) (p2 : Int32) (p3 : Int32) (p4 : Int32) (p5 : Int32) (x14 : Int32) (m : MM) : Option (Int32 × MM) :=
  g_X5_cuts_240 p0 p1 p2 p3 p4 p5 x14 0 m
set_option maxHeartbeats 4000000 in
set_option maxRecDepth 100000 in
theorem s_X5_cuts_239 {Γ : GX} {E : EX} (C : Cx Γ E cX5_cuts RX5 17) (hr : Γ.meth.sig.returnType = (some .boolean)) (hrm : Γ.rm = rmX5_cuts) (p0 : Option Nat) (p1 : Option Nat) (p2 : Int32) (p3 : Int32) (p4 : Int32) (p5 : Int32) (x14 : Int32) (m : MM) : Sm (QM Γ E emI 0 0) Γ E 17 0 0 239 [(0, va_rf p0), (1, va_rf p1), (2, .int p2), (3, .int p3), (4, .int p4), (5, .int p5), (14, .int x14)] [] m (g_X5_cuts_239 p0 p1 p2 p3 p4 p5 x14 m) := by
  unfold g_X5_cuts_239
  refine z_iconst (v := 0) C dX5_cuts_239 (by decide) ?_
  exact z_sub [0, 1, 2, 3, 4, 5, 6] rfl (s_X5_cuts_240 C hr hrm p0 p1 p2 p3 p4 p5 x14 0 m)
set_option maxRecDepth 100000 in
def g_X5_cuts_199 (p0 : Option Nat) (p1 : Option Nat) (p2 : Int32) (p3 : Int32) (p4 : Int32) (p5 : Int32) (s0 : Int32) (m : MM) : Option (Int32 × MM) :=
  ck m p1 1 (fun a3 => if 0 < (((m.I 101 a3 0) - p2) * ((m.I 101 a3 0) - p4)) then (g_X5_cuts_239 p0 p1 p2 p3 p4 p5 s0 m) else (if 0 < (((m.I 102 a3 0) - p3) * ((m.I 102 a3 0) - p5)) then (g_X5_cuts_239 p0 p1 p2 p3 p4 p5 s0 m) else (g_X5_cuts_240 p0 p1 p2 p3 p4 p5 s0 1 m)))
set_option maxHeartbeats 4000000 in
set_option maxRecDepth 100000 in
theorem s_X5_cuts_199 {Γ : GX} {E : EX} (C : Cx Γ E cX5_cuts RX5 17) (hr : Γ.meth.sig.returnType = (some .boolean)) (hrm : Γ.rm = rmX5_cuts) (p0 : Option Nat) (p1 : Option Nat) (p2 : Int32) (p3 : Int32) (p4 : Int32) (p5 : Int32) (s0 : Int32) (m : MM) : Sm (QM Γ E emI 0 0) Γ E 17 0 0 199 [(0, va_rf p0), (1, va_rf p1), (2, .int p2), (3, .int p3), (4, .int p4), (5, .int p5)] [.int s0] m (g_X5_cuts_199 p0 p1 p2 p3 p4 p5 s0 m) := by
  unfold g_X5_cuts_199
  refine z_istore (i := 14) (L2 := [(14, .int s0), (0, va_rf p0), (1, va_rf p1), (2, .int p2), (3, .int p3), (4, .int p4), (5, .int p5)]) C dX5_cuts_199 (by decide) rfl ?_
  refine z_aload_n C dX5_cuts_201 rfl 2 rfl ?_
  refine z_ck (fun a3 hr3 hk3 => ?_)
  refine z_getI C fl_RX5_65 hr3 hk3 dX5_cuts_202 ?_
  refine z_iload_n C dX5_cuts_205 rfl 3 rfl ?_
  refine z_isub C dX5_cuts_206 ?_
  refine z_aload_n C dX5_cuts_207 rfl 2 rfl ?_
  refine z_getI C fl_RX5_65 hr3 hk3 dX5_cuts_208 ?_
  refine z_iload C dX5_cuts_211 5 rfl ?_
  refine z_isub C dX5_cuts_213 ?_
  refine z_imul C dX5_cuts_214 ?_
  refine z_if_gt (tgt := 239) C dX5_cuts_215 (by decide) (fun c6 => ?_) (fun c6 => ?_)
  · exact z_sub [1, 2, 3, 4, 5, 6, 0] rfl (s_X5_cuts_239 C hr hrm p0 p1 p2 p3 p4 p5 s0 m)
  · refine z_aload_n C dX5_cuts_218 rfl 2 rfl ?_
    refine z_getI C fl_RX5_68 hr3 hk3 dX5_cuts_219 ?_
    refine z_iload_n C dX5_cuts_222 rfl 4 rfl ?_
    refine z_isub C dX5_cuts_223 ?_
    refine z_aload_n C dX5_cuts_224 rfl 2 rfl ?_
    refine z_getI C fl_RX5_68 hr3 hk3 dX5_cuts_225 ?_
    refine z_iload C dX5_cuts_228 6 rfl ?_
    refine z_isub C dX5_cuts_230 ?_
    refine z_imul C dX5_cuts_231 ?_
    refine z_if_gt (tgt := 239) C dX5_cuts_232 (by decide) (fun c7 => ?_) (fun c7 => ?_)
    · exact z_sub [1, 2, 3, 4, 5, 6, 0] rfl (s_X5_cuts_239 C hr hrm p0 p1 p2 p3 p4 p5 s0 m)
    · refine z_iconst (v := 1) C dX5_cuts_235 (by decide) ?_
      refine z_goto (tgt := 240) C dX5_cuts_236 (by decide) ?_
      exact z_sub [1, 2, 3, 4, 5, 6, 0] rfl (s_X5_cuts_240 C hr hrm p0 p1 p2 p3 p4 p5 s0 1 m)
set_option maxRecDepth 100000 in
def g_X5_cuts_198 (p0 : Option Nat) (p1 : Option Nat) (p2 : Int32) (p3 : Int32) (p4 : Int32) (p5 : Int32) (m : MM) : Option (Int32 × MM) :=
  g_X5_cuts_199 p0 p1 p2 p3 p4 p5 0 m
set_option maxHeartbeats 4000000 in
set_option maxRecDepth 100000 in
theorem s_X5_cuts_198 {Γ : GX} {E : EX} (C : Cx Γ E cX5_cuts RX5 17) (hr : Γ.meth.sig.returnType = (some .boolean)) (hrm : Γ.rm = rmX5_cuts) (p0 : Option Nat) (p1 : Option Nat) (p2 : Int32) (p3 : Int32) (p4 : Int32) (p5 : Int32) (m : MM) : Sm (QM Γ E emI 0 0) Γ E 17 0 0 198 [(0, va_rf p0), (1, va_rf p1), (2, .int p2), (3, .int p3), (4, .int p4), (5, .int p5)] [] m (g_X5_cuts_198 p0 p1 p2 p3 p4 p5 m) := by
  unfold g_X5_cuts_198
  refine z_iconst (v := 0) C dX5_cuts_198 (by decide) ?_
  exact z_sub [0, 1, 2, 3, 4, 5] rfl (s_X5_cuts_199 C hr hrm p0 p1 p2 p3 p4 p5 0 m)
set_option maxRecDepth 100000 in
def g_X5_cuts_0 (p0 : Option Nat) (p1 : Option Nat) (p2 : Int32) (p3 : Int32) (p4 : Int32) (p5 : Int32) (m : MM) : Option (Int32 × MM) :=
  ck m p1 1 (fun a4 => ck m p0 1 (fun a5 => bnd ((m.I 101 a4 0) - (m.I 101 a5 0)) (fun y1 => bnd ((m.I 102 a4 0) - (m.I 102 a5 0)) (fun y2 => bnd (p4 - p2) (fun y3 => bnd (p5 - p3) (fun y4 => bnd ((y1 * (p3 - (m.I 102 a5 0))) - (y2 * (p2 - (m.I 101 a5 0)))) (fun y5 => bnd ((y1 * (p5 - (m.I 102 a5 0))) - (y2 * (p4 - (m.I 101 a5 0)))) (fun y6 => bnd ((y3 * ((m.I 102 a5 0) - p3)) - (y4 * ((m.I 101 a5 0) - p2))) (fun y7 => bnd ((y3 * ((m.I 102 a4 0) - p3)) - (y4 * ((m.I 101 a4 0) - p2))) (fun y8 => if 0 < (y5 * y6) then (some (0, m)) else (if (y7 * y8) ≤ 0 then (if y5 = 0 then (if y6 = 0 then (if y7 = 0 then (if y8 = 0 then (if 0 < (((m.I 101 a5 0) - p2) * ((m.I 101 a5 0) - p4)) then (g_X5_cuts_198 p0 p1 p2 p3 p4 p5 m) else (if 0 < (((m.I 102 a5 0) - p3) * ((m.I 102 a5 0) - p5)) then (g_X5_cuts_198 p0 p1 p2 p3 p4 p5 m) else (g_X5_cuts_199 p0 p1 p2 p3 p4 p5 1 m))) else (some (1, m))) else (some (1, m))) else (some (1, m))) else (some (1, m))) else (some (0, m)))))))))))))
set_option maxHeartbeats 4000000 in
set_option maxRecDepth 100000 in
theorem s_X5_cuts_0 {Γ : GX} {E : EX} (C : Cx Γ E cX5_cuts RX5 17) (hr : Γ.meth.sig.returnType = (some .boolean)) (hrm : Γ.rm = rmX5_cuts) (p0 : Option Nat) (p1 : Option Nat) (p2 : Int32) (p3 : Int32) (p4 : Int32) (p5 : Int32) (m : MM) : Sm (QM Γ E emI 0 0) Γ E 17 0 0 0 [(0, va_rf p0), (1, va_rf p1), (2, .int p2), (3, .int p3), (4, .int p4), (5, .int p5)] [] m (g_X5_cuts_0 p0 p1 p2 p3 p4 p5 m) := by
  unfold g_X5_cuts_0
  refine z_aload_n C dX5_cuts_0 rfl 1 rfl ?_
  refine z_ck (fun a4 hr4 hk4 => ?_)
  refine z_getI C fl_RX5_65 hr4 hk4 dX5_cuts_1 ?_
  refine z_aload_n C dX5_cuts_4 rfl 0 rfl ?_
  refine z_ck (fun a5 hr5 hk5 => ?_)
  refine z_getI C fl_RX5_65 hr5 hk5 dX5_cuts_5 ?_
  refine z_isub C dX5_cuts_8 ?_
  refine z_bndI (fun y1 => ?_)
  refine z_istore (i := 6) (L2 := [(6, .int y1), (0, va_rf p0), (1, va_rf p1), (2, .int p2), (3, .int p3), (4, .int p4), (5, .int p5)]) C dX5_cuts_9 (by decide) rfl ?_
  refine z_aload_n C dX5_cuts_11 rfl 2 rfl ?_
  refine z_getI C fl_RX5_68 hr4 hk4 dX5_cuts_12 ?_
  refine z_aload_n C dX5_cuts_15 rfl 1 rfl ?_
  refine z_getI C fl_RX5_68 hr5 hk5 dX5_cuts_16 ?_
  refine z_isub C dX5_cuts_19 ?_
  refine z_bndI (fun y2 => ?_)
  refine z_istore (i := 7) (L2 := [(7, .int y2), (6, .int y1), (0, va_rf p0), (1, va_rf p1), (2, .int p2), (3, .int p3), (4, .int p4), (5, .int p5)]) C dX5_cuts_20 (by decide) rfl ?_
  refine z_iload C dX5_cuts_22 6 rfl ?_
  refine z_iload_n C dX5_cuts_24 rfl 4 rfl ?_
  refine z_isub C dX5_cuts_25 ?_
  refine z_bndI (fun y3 => ?_)
  refine z_istore (i := 8) (L2 := [(8, .int y3), (7, .int y2), (6, .int y1), (0, va_rf p0), (1, va_rf p1), (2, .int p2), (3, .int p3), (4, .int p4), (5, .int p5)]) C dX5_cuts_26 (by decide) rfl ?_
  refine z_iload C dX5_cuts_28 8 rfl ?_
  refine z_iload_n C dX5_cuts_30 rfl 6 rfl ?_
  refine z_isub C dX5_cuts_31 ?_
  refine z_bndI (fun y4 => ?_)
  refine z_istore (i := 9) (L2 := [(9, .int y4), (8, .int y3), (7, .int y2), (6, .int y1), (0, va_rf p0), (1, va_rf p1), (2, .int p2), (3, .int p3), (4, .int p4), (5, .int p5)]) C dX5_cuts_32 (by decide) rfl ?_
  refine z_iload C dX5_cuts_34 3 rfl ?_
  refine z_iload_n C dX5_cuts_36 rfl 7 rfl ?_
  refine z_aload_n C dX5_cuts_37 rfl 4 rfl ?_
  refine z_getI C fl_RX5_68 hr5 hk5 dX5_cuts_38 ?_
  refine z_isub C dX5_cuts_41 ?_
  refine z_imul C dX5_cuts_42 ?_
  refine z_iload C dX5_cuts_43 2 rfl ?_
  refine z_iload_n C dX5_cuts_45 rfl 6 rfl ?_
  refine z_aload_n C dX5_cuts_46 rfl 4 rfl ?_
  refine z_getI C fl_RX5_65 hr5 hk5 dX5_cuts_47 ?_
  refine z_isub C dX5_cuts_50 ?_
  refine z_imul C dX5_cuts_51 ?_
  refine z_isub C dX5_cuts_52 ?_
  refine z_bndI (fun y5 => ?_)
  refine z_istore (i := 10) (L2 := [(10, .int y5), (9, .int y4), (8, .int y3), (7, .int y2), (6, .int y1), (0, va_rf p0), (1, va_rf p1), (2, .int p2), (3, .int p3), (4, .int p4), (5, .int p5)]) C dX5_cuts_53 (by decide) rfl ?_
  refine z_iload C dX5_cuts_55 4 rfl ?_
  refine z_iload C dX5_cuts_57 10 rfl ?_
  refine z_aload_n C dX5_cuts_59 rfl 5 rfl ?_
  refine z_getI C fl_RX5_68 hr5 hk5 dX5_cuts_60 ?_
  refine z_isub C dX5_cuts_63 ?_
  refine z_imul C dX5_cuts_64 ?_
  refine z_iload C dX5_cuts_65 3 rfl ?_
  refine z_iload C dX5_cuts_67 9 rfl ?_
  refine z_aload_n C dX5_cuts_69 rfl 5 rfl ?_
  refine z_getI C fl_RX5_65 hr5 hk5 dX5_cuts_70 ?_
  refine z_isub C dX5_cuts_73 ?_
  refine z_imul C dX5_cuts_74 ?_
  refine z_isub C dX5_cuts_75 ?_
  refine z_bndI (fun y6 => ?_)
  refine z_istore (i := 11) (L2 := [(11, .int y6), (10, .int y5), (9, .int y4), (8, .int y3), (7, .int y2), (6, .int y1), (0, va_rf p0), (1, va_rf p1), (2, .int p2), (3, .int p3), (4, .int p4), (5, .int p5)]) C dX5_cuts_76 (by decide) rfl ?_
  refine z_iload C dX5_cuts_78 3 rfl ?_
  refine z_aload_n C dX5_cuts_80 rfl 6 rfl ?_
  refine z_getI C fl_RX5_68 hr5 hk5 dX5_cuts_81 ?_
  refine z_iload_n C dX5_cuts_84 rfl 9 rfl ?_
  refine z_isub C dX5_cuts_85 ?_
  refine z_imul C dX5_cuts_86 ?_
  refine z_iload C dX5_cuts_87 2 rfl ?_
  refine z_aload_n C dX5_cuts_89 rfl 6 rfl ?_
  refine z_getI C fl_RX5_65 hr5 hk5 dX5_cuts_90 ?_
  refine z_iload_n C dX5_cuts_93 rfl 8 rfl ?_
  refine z_isub C dX5_cuts_94 ?_
  refine z_imul C dX5_cuts_95 ?_
  refine z_isub C dX5_cuts_96 ?_
  refine z_bndI (fun y7 => ?_)
  refine z_istore (i := 12) (L2 := [(12, .int y7), (11, .int y6), (10, .int y5), (9, .int y4), (8, .int y3), (7, .int y2), (6, .int y1), (0, va_rf p0), (1, va_rf p1), (2, .int p2), (3, .int p3), (4, .int p4), (5, .int p5)]) C dX5_cuts_97 (by decide) rfl ?_
  refine z_iload C dX5_cuts_99 4 rfl ?_
  refine z_aload_n C dX5_cuts_101 rfl 8 rfl ?_
  refine z_getI C fl_RX5_68 hr4 hk4 dX5_cuts_102 ?_
  refine z_iload_n C dX5_cuts_105 rfl 10 rfl ?_
  refine z_isub C dX5_cuts_106 ?_
  refine z_imul C dX5_cuts_107 ?_
  refine z_iload C dX5_cuts_108 3 rfl ?_
  refine z_aload_n C dX5_cuts_110 rfl 8 rfl ?_
  refine z_getI C fl_RX5_65 hr4 hk4 dX5_cuts_111 ?_
  refine z_iload_n C dX5_cuts_114 rfl 9 rfl ?_
  refine z_isub C dX5_cuts_115 ?_
  refine z_imul C dX5_cuts_116 ?_
  refine z_isub C dX5_cuts_117 ?_
  refine z_bndI (fun y8 => ?_)
  refine z_istore (i := 13) (L2 := [(13, .int y8), (12, .int y7), (11, .int y6), (10, .int y5), (9, .int y4), (8, .int y3), (7, .int y2), (6, .int y1), (0, va_rf p0), (1, va_rf p1), (2, .int p2), (3, .int p3), (4, .int p4), (5, .int p5)]) C dX5_cuts_118 (by decide) rfl ?_
  refine z_iload C dX5_cuts_120 3 rfl ?_
  refine z_iload C dX5_cuts_122 2 rfl ?_
  refine z_imul C dX5_cuts_124 ?_
  refine z_if_gt (tgt := 136) C dX5_cuts_125 (by decide) (fun c8 => ?_) (fun c8 => ?_)
  · refine z_iconst (v := 0) C dX5_cuts_136 (by decide) ?_
    exact z_zret C hr rfl dX5_cuts_137
  · refine z_iload C dX5_cuts_128 1 rfl ?_
    refine z_iload C dX5_cuts_130 0 rfl ?_
    refine z_imul C dX5_cuts_132 ?_
    refine z_if_le (tgt := 138) C dX5_cuts_133 (by decide) (fun c9 => ?_) (fun c9 => ?_)
    · refine z_iload C dX5_cuts_138 3 rfl ?_
      refine z_if_ne (tgt := 158) C dX5_cuts_140 (by decide) (fun c10 => ?_) (fun c10 => ?_)
      · refine z_iconst (v := 1) C dX5_cuts_158 (by decide) ?_
        exact z_zret C hr rfl dX5_cuts_159
      · refine z_iload C dX5_cuts_143 2 rfl ?_
        refine z_if_ne (tgt := 158) C dX5_cuts_145 (by decide) (fun c11 => ?_) (fun c11 => ?_)
        · refine z_iconst (v := 1) C dX5_cuts_158 (by decide) ?_
          exact z_zret C hr rfl dX5_cuts_159
        · refine z_iload C dX5_cuts_148 1 rfl ?_
          refine z_if_ne (tgt := 158) C dX5_cuts_150 (by decide) (fun c12 => ?_) (fun c12 => ?_)
          · refine z_iconst (v := 1) C dX5_cuts_158 (by decide) ?_
            exact z_zret C hr rfl dX5_cuts_159
          · refine z_iload C dX5_cuts_153 0 rfl ?_
            refine z_if_eq (tgt := 160) C dX5_cuts_155 (by decide) (fun c13 => ?_) (fun c13 => ?_)
            · refine z_aload_n C dX5_cuts_160 rfl 8 rfl ?_
              refine z_getI C fl_RX5_65 hr5 hk5 dX5_cuts_161 ?_
              refine z_iload_n C dX5_cuts_164 rfl 10 rfl ?_
              refine z_isub C dX5_cuts_165 ?_
              refine z_aload_n C dX5_cuts_166 rfl 8 rfl ?_
              refine z_getI C fl_RX5_65 hr5 hk5 dX5_cuts_167 ?_
              refine z_iload C dX5_cuts_170 12 rfl ?_
              refine z_isub C dX5_cuts_172 ?_
              refine z_imul C dX5_cuts_173 ?_
              refine z_if_gt (tgt := 198) C dX5_cuts_174 (by decide) (fun c14 => ?_) (fun c14 => ?_)
              · exact z_sub [8, 9, 10, 11, 12, 13] rfl (s_X5_cuts_198 C hr hrm p0 p1 p2 p3 p4 p5 m)
              · refine z_aload_n C dX5_cuts_177 rfl 8 rfl ?_
                refine z_getI C fl_RX5_68 hr5 hk5 dX5_cuts_178 ?_
                refine z_iload_n C dX5_cuts_181 rfl 11 rfl ?_
                refine z_isub C dX5_cuts_182 ?_
                refine z_aload_n C dX5_cuts_183 rfl 8 rfl ?_
                refine z_getI C fl_RX5_68 hr5 hk5 dX5_cuts_184 ?_
                refine z_iload C dX5_cuts_187 13 rfl ?_
                refine z_isub C dX5_cuts_189 ?_
                refine z_imul C dX5_cuts_190 ?_
                refine z_if_gt (tgt := 198) C dX5_cuts_191 (by decide) (fun c15 => ?_) (fun c15 => ?_)
                · exact z_sub [8, 9, 10, 11, 12, 13] rfl (s_X5_cuts_198 C hr hrm p0 p1 p2 p3 p4 p5 m)
                · refine z_iconst (v := 1) C dX5_cuts_194 (by decide) ?_
                  refine z_goto (tgt := 199) C dX5_cuts_195 (by decide) ?_
                  exact z_sub [8, 9, 10, 11, 12, 13] rfl (s_X5_cuts_199 C hr hrm p0 p1 p2 p3 p4 p5 1 m)
            · refine z_iconst (v := 1) C dX5_cuts_158 (by decide) ?_
              exact z_zret C hr rfl dX5_cuts_159
    · refine z_iconst (v := 0) C dX5_cuts_136 (by decide) ?_
      exact z_zret C hr rfl dX5_cuts_137
def f_X5_cuts (p0 : Option Nat) (p1 : Option Nat) (p2 : Int32) (p3 : Int32) (p4 : Int32) (p5 : Int32) (m : MM) : Option (Int32 × MM) := g_X5_cuts_0 p0 p1 p2 p3 p4 p5 m
theorem M_X5_cuts (l : Launch) (E : EX) (p0 : Option Nat) (p1 : Option Nat) (p2 : Int32) (p3 : Int32) (p4 : Int32) (p5 : Int32) (m : MM) (r : Int32) (m2 : MM) (h : f_X5_cuts p0 p1 p2 p3 p4 p5 m = some (r, m2)) : Met l yX5_cuts (.code yX5_cuts cX5_cuts 17 (some .boolean) :: TB) rmX5_cuts (va_Pc [va_rf p0, va_rf p1, .int p2, .int p3, .int p4, .int p5] (St E m)) (QR E (emI r) m2) 0 0 (AA E) :=
  met_of (em := emI) (plainFor_of_name rfl) (by simp [lg_sl, cat_rf, cat_i, cat_l, cat_a]) (L0 := [(0, va_rf p0), (1, va_rf p1), (2, .int p2), (3, .int p3), (4, .int p4), (5, .int p5)]) (by simp [lv_args, cat_rf, cat_i, cat_l, cat_a] <;> rfl) (fun Γ _ hrm C hr hn => s_X5_cuts_0 C hr hrm p0 p1 p2 p3 p4 p5 m) h

theorem dX5_linesBetween_0 : decode cX5_linesBetween 0 = .ok (.iconst 0, 1) := by decide +kernel
theorem dX5_linesBetween_1 : decode cX5_linesBetween 1 = .ok (.istore 5, 2) := by decide +kernel
theorem dX5_linesBetween_3 : decode cX5_linesBetween 3 = .ok (.aload_n 3, 1) := by decide +kernel
theorem dX5_linesBetween_4 : decode cX5_linesBetween 4 = .ok (.ifnull 8, 3) := by decide +kernel
theorem dX5_linesBetween_7 : decode cX5_linesBetween 7 = .ok (.aload 4, 2) := by decide +kernel
theorem dX5_linesBetween_9 : decode cX5_linesBetween 9 = .ok (.ifnonnull 6, 3) := by decide +kernel
theorem dX5_linesBetween_12 : decode cX5_linesBetween 12 = .ok (.iload 5, 2) := by decide +kernel
theorem dX5_linesBetween_14 : decode cX5_linesBetween 14 = .ok (.ireturn, 1) := by decide +kernel
theorem dX5_linesBetween_15 : decode cX5_linesBetween 15 = .ok (.iconst 0, 1) := by decide +kernel
theorem dX5_linesBetween_16 : decode cX5_linesBetween 16 = .ok (.istore 6, 2) := by decide +kernel
theorem dX5_linesBetween_18 : decode cX5_linesBetween 18 = .ok (.iload 6, 2) := by decide +kernel
theorem dX5_linesBetween_20 : decode cX5_linesBetween 20 = .ok (.aload_n 1, 1) := by decide +kernel
theorem dX5_linesBetween_21 : decode cX5_linesBetween 21 = .ok (.getfield 103, 3) := by decide +kernel
theorem dX5_linesBetween_24 : decode cX5_linesBetween 24 = .ok (.if_icmp .ge 92, 3) := by decide +kernel
theorem dX5_linesBetween_27 : decode cX5_linesBetween 27 = .ok (.iload_n 2, 1) := by decide +kernel
theorem dX5_linesBetween_28 : decode cX5_linesBetween 28 = .ok (.ifCond .eq 20, 3) := by decide +kernel
theorem dX5_linesBetween_31 : decode cX5_linesBetween 31 = .ok (.aload_n 1, 1) := by decide +kernel
theorem dX5_linesBetween_32 : decode cX5_linesBetween 32 = .ok (.iload 6, 2) := by decide +kernel
theorem dX5_linesBetween_34 : decode cX5_linesBetween 34 = .ok (.iconst 4, 1) := by decide +kernel
theorem dX5_linesBetween_35 : decode cX5_linesBetween 35 = .ok (.invokevirtual 56, 3) := by decide +kernel
theorem dX5_linesBetween_38 : decode cX5_linesBetween 38 = .ok (.aload_n 0, 1) := by decide +kernel
theorem dX5_linesBetween_39 : decode cX5_linesBetween 39 = .ok (.getfield 30, 3) := by decide +kernel
theorem dX5_linesBetween_42 : decode cX5_linesBetween 42 = .ok (.if_icmp .le 6, 3) := by decide +kernel
theorem dX5_linesBetween_45 : decode cX5_linesBetween 45 = .ok (.goto 65, 3) := by decide +kernel
theorem dX5_linesBetween_48 : decode cX5_linesBetween 48 = .ok (.aload_n 1, 1) := by decide +kernel
theorem dX5_linesBetween_49 : decode cX5_linesBetween 49 = .ok (.iload 6, 2) := by decide +kernel
theorem dX5_linesBetween_51 : decode cX5_linesBetween 51 = .ok (.iconst 0, 1) := by decide +kernel
theorem dX5_linesBetween_52 : decode cX5_linesBetween 52 = .ok (.invokevirtual 56, 3) := by decide +kernel
theorem dX5_linesBetween_55 : decode cX5_linesBetween 55 = .ok (.istore 7, 2) := by decide +kernel
theorem dX5_linesBetween_57 : decode cX5_linesBetween 57 = .ok (.aload_n 1, 1) := by decide +kernel
theorem dX5_linesBetween_58 : decode cX5_linesBetween 58 = .ok (.iload 6, 2) := by decide +kernel
theorem dX5_linesBetween_60 : decode cX5_linesBetween 60 = .ok (.iconst 1, 1) := by decide +kernel
theorem dX5_linesBetween_61 : decode cX5_linesBetween 61 = .ok (.invokevirtual 56, 3) := by decide +kernel
theorem dX5_linesBetween_64 : decode cX5_linesBetween 64 = .ok (.istore 8, 2) := by decide +kernel
theorem dX5_linesBetween_66 : decode cX5_linesBetween 66 = .ok (.aload_n 1, 1) := by decide +kernel
theorem dX5_linesBetween_67 : decode cX5_linesBetween 67 = .ok (.iload 6, 2) := by decide +kernel
theorem dX5_linesBetween_69 : decode cX5_linesBetween 69 = .ok (.iconst 2, 1) := by decide +kernel
theorem dX5_linesBetween_70 : decode cX5_linesBetween 70 = .ok (.invokevirtual 56, 3) := by decide +kernel
theorem dX5_linesBetween_73 : decode cX5_linesBetween 73 = .ok (.istore 9, 2) := by decide +kernel
theorem dX5_linesBetween_75 : decode cX5_linesBetween 75 = .ok (.aload_n 1, 1) := by decide +kernel
theorem dX5_linesBetween_76 : decode cX5_linesBetween 76 = .ok (.iload 6, 2) := by decide +kernel
theorem dX5_linesBetween_78 : decode cX5_linesBetween 78 = .ok (.iconst 3, 1) := by decide +kernel
theorem dX5_linesBetween_79 : decode cX5_linesBetween 79 = .ok (.invokevirtual 56, 3) := by decide +kernel
theorem dX5_linesBetween_82 : decode cX5_linesBetween 82 = .ok (.istore 10, 2) := by decide +kernel
theorem dX5_linesBetween_84 : decode cX5_linesBetween 84 = .ok (.aload_n 3, 1) := by decide +kernel
theorem dX5_linesBetween_85 : decode cX5_linesBetween 85 = .ok (.aload 4, 2) := by decide +kernel
theorem dX5_linesBetween_87 : decode cX5_linesBetween 87 = .ok (.iload 7, 2) := by decide +kernel
theorem dX5_linesBetween_89 : decode cX5_linesBetween 89 = .ok (.iload 8, 2) := by decide +kernel
theorem dX5_linesBetween_91 : decode cX5_linesBetween 91 = .ok (.iload 9, 2) := by decide +kernel
theorem dX5_linesBetween_93 : decode cX5_linesBetween 93 = .ok (.iload 10, 2) := by decide +kernel
theorem dX5_linesBetween_95 : decode cX5_linesBetween 95 = .ok (.invokestatic 138, 3) := by decide +kernel
theorem dX5_linesBetween_98 : decode cX5_linesBetween 98 = .ok (.ifCond .eq 12, 3) := by decide +kernel
theorem dX5_linesBetween_101 : decode cX5_linesBetween 101 = .ok (.iload 5, 2) := by decide +kernel
theorem dX5_linesBetween_103 : decode cX5_linesBetween 103 = .ok (.iconst 1, 1) := by decide +kernel
theorem dX5_linesBetween_104 : decode cX5_linesBetween 104 = .ok (.iload 6, 2) := by decide +kernel
theorem dX5_linesBetween_106 : decode cX5_linesBetween 106 = .ok (.ishl, 1) := by decide +kernel
theorem dX5_linesBetween_107 : decode cX5_linesBetween 107 = .ok (.ior, 1) := by decide +kernel
theorem dX5_linesBetween_108 : decode cX5_linesBetween 108 = .ok (.istore 5, 2) := by decide +kernel
theorem dX5_linesBetween_110 : decode cX5_linesBetween 110 = .ok (.iinc 6 1, 3) := by decide +kernel
theorem dX5_linesBetween_113 : decode cX5_linesBetween 113 = .ok (.goto (-95), 3) := by decide +kernel
theorem dX5_linesBetween_116 : decode cX5_linesBetween 116 = .ok (.iload 5, 2) := by decide +kernel
theorem dX5_linesBetween_118 : decode cX5_linesBetween 118 = .ok (.ireturn, 1) := by decide +kernel
def rmX5_linesBetween : Room := { frames := 1, cells := 0, slots := 0, locals := 36 }
set_option maxRecDepth 100000 in
def g_X5_linesBetween_110 (th : Nat) (p1 : Option Nat) (p2 : Int32) (p3 : Option Nat) (p4 : Option Nat) (k18 : Int32 → Int32 → MM → Option (Int32 × MM)) (x5 : Int32) (x6 : Int32) (m : MM) : Option (Int32 × MM) :=
  k18 x5 (x6 + 1) m
set_option maxHeartbeats 4000000 in
set_option maxRecDepth 100000 in
theorem s_X5_linesBetween_110 {Γ : GX} {E : EX} (C : Cx Γ E cX5_linesBetween RX5 11) (hr : Γ.meth.sig.returnType = (some .int)) (hrm : Γ.rm = rmX5_linesBetween) (th : Nat) (p1 : Option Nat) (p2 : Int32) (p3 : Option Nat) (p4 : Option Nat) (k18 : Int32 → Int32 → MM → Option (Int32 × MM)) (h18 : ∀ (x5 : Int32) (x6 : Int32) (m : MM), Sm (QM Γ E emI 0 0) Γ E 11 0 0 18 [(0, va_rf (some th)), (1, va_rf p1), (2, .int p2), (3, va_rf p3), (4, va_rf p4), (5, .int x5), (6, .int x6)] [] m (k18 x5 x6 m)) (x5 : Int32) (x6 : Int32) (m : MM) : Sm (QM Γ E emI 0 0) Γ E 11 0 0 110 [(0, va_rf (some th)), (1, va_rf p1), (2, .int p2), (3, va_rf p3), (4, va_rf p4), (5, .int x5), (6, .int x6)] [] m (g_X5_linesBetween_110 th p1 p2 p3 p4 k18 x5 x6 m) := by
  unfold g_X5_linesBetween_110
  refine z_iinc (v := 1) (L2 := [(6, .int (x6 + 1)), (0, va_rf (some th)), (1, va_rf p1), (2, .int p2), (3, va_rf p3), (4, va_rf p4), (5, .int x5)]) C dX5_linesBetween_110 6 rfl (by decide) (by decide) rfl ?_
  refine z_goto (tgt := 18) C dX5_linesBetween_113 (by decide) ?_
  exact z_sub [1, 2, 3, 4, 5, 6, 0] rfl (h18 x5 (x6 + 1) m)
set_option maxRecDepth 100000 in
def g_X5_linesBetween_48 (th : Nat) (p1 : Option Nat) (p2 : Int32) (p3 : Option Nat) (p4 : Option Nat) (k18 : Int32 → Int32 → MM → Option (Int32 × MM)) (x5 : Int32) (x6 : Int32) (m : MM) : Option (Int32 × MM) :=
  ck m p1 7 (fun a1 => cal (f_X6_cell a1 x6 0 m) (fun r1 m1 => chk (m1.K a1 = 7) (cal (f_X6_cell a1 x6 1 m1) (fun r2 m2 => chk (m2.K a1 = 7) (cal (f_X6_cell a1 x6 2 m2) (fun r3 m3 => chk (m3.K a1 = 7) (cal (f_X6_cell a1 x6 3 m3) (fun r4 m4 => cal (f_X5_cuts p3 p4 r1 r2 r3 r4 m4) (fun r5 m5 => if r5 = 0 then (g_X5_linesBetween_110 th p1 p2 p3 p4 k18 x5 x6 m5) else (bnd (x5 ||| (1 <<< (x6 &&& 31))) (fun y1 => g_X5_linesBetween_110 th p1 p2 p3 p4 k18 y1 x6 m5)))))))))))
set_option maxHeartbeats 4000000 in
set_option maxRecDepth 100000 in
theorem s_X5_linesBetween_48 {Γ : GX} {E : EX} (C : Cx Γ E cX5_linesBetween RX5 11) (hr : Γ.meth.sig.returnType = (some .int)) (hrm : Γ.rm = rmX5_linesBetween) (th : Nat) (p1 : Option Nat) (p2 : Int32) (p3 : Option Nat) (p4 : Option Nat) (k18 : Int32 → Int32 → MM → Option (Int32 × MM)) (h18 : ∀ (x5 : Int32) (x6 : Int32) (m : MM), Sm (QM Γ E emI 0 0) Γ E 11 0 0 18 [(0, va_rf (some th)), (1, va_rf p1), (2, .int p2), (3, va_rf p3), (4, va_rf p4), (5, .int x5), (6, .int x6)] [] m (k18 x5 x6 m)) (x5 : Int32) (x6 : Int32) (m : MM) : Sm (QM Γ E emI 0 0) Γ E 11 0 0 48 [(0, va_rf (some th)), (1, va_rf p1), (2, .int p2), (3, va_rf p3), (4, va_rf p4), (5, .int x5), (6, .int x6)] [] m (g_X5_linesBetween_48 th p1 p2 p3 p4 k18 x5 x6 m) := by
  unfold g_X5_linesBetween_48
  refine z_aload_n C dX5_linesBetween_48 rfl 1 rfl ?_
  refine z_iload C dX5_linesBetween_49 6 rfl ?_
  refine z_iconst (v := 0) C dX5_linesBetween_51 (by decide) ?_
  refine z_ck (fun a1 hr1 hk1 => ?_)
  refine z_cVI [.int x6, .int 0] [] C mv_RX5_56 (fun r0 m0 h0 => M_X6_cell _ _ _ _ _ _ _ _ h0) rfl rfl ⟨by rw [hrm]; exact Nat.le_of_ble_eq_true rfl, by rw [hrm]; exact Nat.le_of_ble_eq_true rfl⟩ ⟨by rw [hrm]; exact Nat.le_of_ble_eq_true rfl, by rw [hrm]; exact Nat.le_of_ble_eq_true rfl⟩ hr1 hk1 rfl rfl rfl (Nat.le_of_ble_eq_true rfl) dX5_linesBetween_52 (fun r1 m1 => ?_)
  refine z_istore (i := 7) (L2 := [(7, .int r1), (0, va_rf (some th)), (1, va_rf p1), (2, .int p2), (3, va_rf p3), (4, va_rf p4), (5, .int x5), (6, .int x6)]) C dX5_linesBetween_55 (by decide) rfl ?_
  refine z_aload_n C dX5_linesBetween_57 rfl 2 rfl ?_
  refine z_iload C dX5_linesBetween_58 7 rfl ?_
  refine z_iconst (v := 1) C dX5_linesBetween_60 (by decide) ?_
  refine z_chk (fun hk2 => ?_)
  refine z_cVI [.int x6, .int 1] [] C mv_RX5_56 (fun r0 m0 h0 => M_X6_cell _ _ _ _ _ _ _ _ h0) rfl rfl ⟨by rw [hrm]; exact Nat.le_of_ble_eq_true rfl, by rw [hrm]; exact Nat.le_of_ble_eq_true rfl⟩ ⟨by rw [hrm]; exact Nat.le_of_ble_eq_true rfl, by rw [hrm]; exact Nat.le_of_ble_eq_true rfl⟩ hr1 hk2 rfl rfl rfl (Nat.le_of_ble_eq_true rfl) dX5_linesBetween_61 (fun r2 m2 => ?_)
  refine z_istore (i := 8) (L2 := [(8, .int r2), (7, .int r1), (0, va_rf (some th)), (1, va_rf p1), (2, .int p2), (3, va_rf p3), (4, va_rf p4), (5, .int x5), (6, .int x6)]) C dX5_linesBetween_64 (by decide) rfl ?_
  refine z_aload_n C dX5_linesBetween_66 rfl 3 rfl ?_
  refine z_iload C dX5_linesBetween_67 8 rfl ?_
  refine z_iconst (v := 2) C dX5_linesBetween_69 (by decide) ?_
  refine z_chk (fun hk3 => ?_)
  refine z_cVI [.int x6, .int 2] [] C mv_RX5_56 (fun r0 m0 h0 => M_X6_cell _ _ _ _ _ _ _ _ h0) rfl rfl ⟨by rw [hrm]; exact Nat.le_of_ble_eq_true rfl, by rw [hrm]; exact Nat.le_of_ble_eq_true rfl⟩ ⟨by rw [hrm]; exact Nat.le_of_ble_eq_true rfl, by rw [hrm]; exact Nat.le_of_ble_eq_true rfl⟩ hr1 hk3 rfl rfl rfl (Nat.le_of_ble_eq_true rfl) dX5_linesBetween_70 (fun r3 m3 => ?_)
  refine z_istore (i := 9) (L2 := [(9, .int r3), (8, .int r2), (7, .int r1), (0, va_rf (some th)), (1, va_rf p1), (2, .int p2), (3, va_rf p3), (4, va_rf p4), (5, .int x5), (6, .int x6)]) C dX5_linesBetween_73 (by decide) rfl ?_
  refine z_aload_n C dX5_linesBetween_75 rfl 4 rfl ?_
  refine z_iload C dX5_linesBetween_76 9 rfl ?_
  refine z_iconst (v := 3) C dX5_linesBetween_78 (by decide) ?_
  refine z_chk (fun hk4 => ?_)
  refine z_cVI [.int x6, .int 3] [] C mv_RX5_56 (fun r0 m0 h0 => M_X6_cell _ _ _ _ _ _ _ _ h0) rfl rfl ⟨by rw [hrm]; exact Nat.le_of_ble_eq_true rfl, by rw [hrm]; exact Nat.le_of_ble_eq_true rfl⟩ ⟨by rw [hrm]; exact Nat.le_of_ble_eq_true rfl, by rw [hrm]; exact Nat.le_of_ble_eq_true rfl⟩ hr1 hk4 rfl rfl rfl (Nat.le_of_ble_eq_true rfl) dX5_linesBetween_79 (fun r4 m4 => ?_)
  refine z_istore (i := 10) (L2 := [(10, .int r4), (9, .int r3), (8, .int r2), (7, .int r1), (0, va_rf (some th)), (1, va_rf p1), (2, .int p2), (3, va_rf p3), (4, va_rf p4), (5, .int x5), (6, .int x6)]) C dX5_linesBetween_82 (by decide) rfl ?_
  refine z_aload_n C dX5_linesBetween_84 rfl 7 rfl ?_
  refine z_aload C dX5_linesBetween_85 8 rfl ?_
  refine z_iload C dX5_linesBetween_87 3 rfl ?_
  refine z_iload C dX5_linesBetween_89 2 rfl ?_
  refine z_iload C dX5_linesBetween_91 1 rfl ?_
  refine z_iload C dX5_linesBetween_93 0 rfl ?_
  refine z_cSI [va_rf p3, va_rf p4, .int r1, .int r2, .int r3, .int r4] [] C mv_RX5_138 (fun r0 m0 h0 => M_X5_cuts _ _ _ _ _ _ _ _ _ _ _ h0) rfl rfl ⟨by rw [hrm]; exact Nat.le_of_ble_eq_true rfl, by rw [hrm]; exact Nat.le_of_ble_eq_true rfl⟩ ⟨by rw [hrm]; exact Nat.le_of_ble_eq_true rfl, by rw [hrm]; exact Nat.le_of_ble_eq_true rfl⟩ rfl rfl (Nat.le_of_ble_eq_true rfl) dX5_linesBetween_95 (fun r5 m5 => ?_)
  refine z_if_eq (tgt := 110) C dX5_linesBetween_98 (by decide) (fun c1 => ?_) (fun c1 => ?_)
  · exact z_sub [4, 5, 6, 7, 8, 9, 10] rfl (s_X5_linesBetween_110 C hr hrm th p1 p2 p3 p4 k18 h18 x5 x6 m5)
  · refine z_iload C dX5_linesBetween_101 9 rfl ?_
    refine z_iconst (v := 1) C dX5_linesBetween_103 (by decide) ?_
    refine z_iload C dX5_linesBetween_104 10 rfl ?_
    refine z_ishl C dX5_linesBetween_106 ?_
    refine z_ior C dX5_linesBetween_107 ?_
    refine z_bndI (fun y1 => ?_)
    refine z_istore (i := 5) (L2 := [(5, .int y1), (10, .int r4), (9, .int r3), (8, .int r2), (7, .int r1), (0, va_rf (some th)), (1, va_rf p1), (2, .int p2), (3, va_rf p3), (4, va_rf p4), (6, .int x6)]) C dX5_linesBetween_108 (by decide) (by simp [cat_rf, cat_i, cat_l, cat_a]) ?_
    exact z_sub [5, 6, 7, 8, 9, 0, 10] rfl (s_X5_linesBetween_110 C hr hrm th p1 p2 p3 p4 k18 h18 y1 x6 m5)
set_option maxRecDepth 100000 in
def g_X5_linesBetween_18 (th : Nat) (p1 : Option Nat) (p2 : Int32) (p3 : Option Nat) (p4 : Option Nat) (k18 : Int32 → Int32 → MM → Option (Int32 × MM)) (x5 : Int32) (x6 : Int32) (m : MM) : Option (Int32 × MM) :=
  ck m p1 7 (fun a2 => if (m.I 703 a2 0) ≤ x6 then (some (x5, m)) else (if p2 = 0 then (g_X5_linesBetween_48 th p1 p2 p3 p4 k18 x5 x6 m) else (cal (f_X6_cell a2 x6 4 m) (fun r6 m6 => chk (m6.K th = 6) (if r6 ≤ (m6.I 604 th 0) then (g_X5_linesBetween_48 th p1 p2 p3 p4 k18 x5 x6 m6) else (g_X5_linesBetween_110 th p1 p2 p3 p4 k18 x5 x6 m6))))))
set_option maxHeartbeats 4000000 in
set_option maxRecDepth 100000 in
theorem s_X5_linesBetween_18 {Γ : GX} {E : EX} (C : Cx Γ E cX5_linesBetween RX5 11) (hr : Γ.meth.sig.returnType = (some .int)) (hrm : Γ.rm = rmX5_linesBetween) (th : Nat) (p1 : Option Nat) (p2 : Int32) (p3 : Option Nat) (p4 : Option Nat) (k18 : Int32 → Int32 → MM → Option (Int32 × MM)) (h18 : ∀ (x5 : Int32) (x6 : Int32) (m : MM), Sm (QM Γ E emI 0 0) Γ E 11 0 0 18 [(0, va_rf (some th)), (1, va_rf p1), (2, .int p2), (3, va_rf p3), (4, va_rf p4), (5, .int x5), (6, .int x6)] [] m (k18 x5 x6 m)) (x5 : Int32) (x6 : Int32) (m : MM) : Sm (QM Γ E emI 0 0) Γ E 11 0 0 18 [(0, va_rf (some th)), (1, va_rf p1), (2, .int p2), (3, va_rf p3), (4, va_rf p4), (5, .int x5), (6, .int x6)] [] m (g_X5_linesBetween_18 th p1 p2 p3 p4 k18 x5 x6 m) := by
  unfold g_X5_linesBetween_18
  refine z_iload C dX5_linesBetween_18 6 rfl ?_
  refine z_aload_n C dX5_linesBetween_20 rfl 1 rfl ?_
  refine z_ck (fun a2 hr2 hk5 => ?_)
  refine z_getI C fl_RX5_103 hr2 hk5 dX5_linesBetween_21 ?_
  refine z_icmp_ge (tgt := 116) C dX5_linesBetween_24 (by decide) (fun c2 => ?_) (fun c2 => ?_)
  · refine z_iload C dX5_linesBetween_116 5 rfl ?_
    exact z_iret C hr dX5_linesBetween_118
  · refine z_iload_n C dX5_linesBetween_27 rfl 2 rfl ?_
    refine z_if_eq (tgt := 48) C dX5_linesBetween_28 (by decide) (fun c3 => ?_) (fun c3 => ?_)
    · exact z_sub [0, 1, 2, 3, 4, 5, 6] rfl (s_X5_linesBetween_48 C hr hrm th p1 p2 p3 p4 k18 h18 x5 x6 m)
    · refine z_aload_n C dX5_linesBetween_31 rfl 1 rfl ?_
      refine z_iload C dX5_linesBetween_32 6 rfl ?_
      refine z_iconst (v := 4) C dX5_linesBetween_34 (by decide) ?_
      refine z_cVI [.int x6, .int 4] [] C mv_RX5_56 (fun r0 m0 h0 => M_X6_cell _ _ _ _ _ _ _ _ h0) rfl rfl ⟨by rw [hrm]; exact Nat.le_of_ble_eq_true rfl, by rw [hrm]; exact Nat.le_of_ble_eq_true rfl⟩ ⟨by rw [hrm]; exact Nat.le_of_ble_eq_true rfl, by rw [hrm]; exact Nat.le_of_ble_eq_true rfl⟩ hr2 hk5 rfl rfl rfl (Nat.le_of_ble_eq_true rfl) dX5_linesBetween_35 (fun r6 m6 => ?_)
      refine z_aload_n C dX5_linesBetween_38 rfl 0 rfl ?_
      refine z_chk (fun hk6 => ?_)
      refine z_getI C fl_RX5_30 rfl hk6 dX5_linesBetween_39 ?_
      refine z_icmp_le (tgt := 48) C dX5_linesBetween_42 (by decide) (fun c4 => ?_) (fun c4 => ?_)
      · exact z_sub [0, 1, 2, 3, 4, 5, 6] rfl (s_X5_linesBetween_48 C hr hrm th p1 p2 p3 p4 k18 h18 x5 x6 m6)
      · refine z_goto (tgt := 110) C dX5_linesBetween_45 (by decide) ?_
        exact z_sub [0, 1, 2, 3, 4, 5, 6] rfl (s_X5_linesBetween_110 C hr hrm th p1 p2 p3 p4 k18 h18 x5 x6 m6)
def l_X5_linesBetween_18 (th : Nat) (p1 : Option Nat) (p2 : Int32) (p3 : Option Nat) (p4 : Option Nat) : Nat → Int32 → Int32 → MM → Option (Int32 × MM) := lp (fun _ _ _ => none) (fun k18 => g_X5_linesBetween_18 th p1 p2 p3 p4 k18)
theorem t_X5_linesBetween_18 {Γ : GX} {E : EX} (C : Cx Γ E cX5_linesBetween RX5 11) (hr : Γ.meth.sig.returnType = (some .int)) (hrm : Γ.rm = rmX5_linesBetween) (th : Nat) (p1 : Option Nat) (p2 : Int32) (p3 : Option Nat) (p4 : Option Nat) : ∀ (n : Nat) (x5 : Int32) (x6 : Int32) (m : MM), Sm (QM Γ E emI 0 0) Γ E 11 0 0 18 [(0, va_rf (some th)), (1, va_rf p1), (2, .int p2), (3, va_rf p3), (4, va_rf p4), (5, .int x5), (6, .int x6)] [] m (l_X5_linesBetween_18 th p1 p2 p3 p4 n x5 x6 m) := by
  intro n
  induction n with
  | zero => intros; exact z_none
  | succ n ih => intro x5 x6 m; exact s_X5_linesBetween_18 C hr hrm th p1 p2 p3 p4 (l_X5_linesBetween_18 th p1 p2 p3 p4 n) ih x5 x6 m
set_option maxRecDepth 100000 in
def g_X5_linesBetween_0 (th : Nat) (p1 : Option Nat) (p2 : Int32) (p3 : Option Nat) (p4 : Option Nat) (m : MM) : Option (Int32 × MM) :=
  ifn p3 (some (0, m)) (fun a3 => ifn p4 (some (0, m)) (fun a4 => l_X5_linesBetween_18 th p1 p2 p3 p4 FU 0 0 m))
set_option maxHeartbeats 4000000 in
set_option maxRecDepth 100000 in
theorem s_X5_linesBetween_0 {Γ : GX} {E : EX} (C : Cx Γ E cX5_linesBetween RX5 11) (hr : Γ.meth.sig.returnType = (some .int)) (hrm : Γ.rm = rmX5_linesBetween) (th : Nat) (p1 : Option Nat) (p2 : Int32) (p3 : Option Nat) (p4 : Option Nat) (m : MM) : Sm (QM Γ E emI 0 0) Γ E 11 0 0 0 [(0, va_rf (some th)), (1, va_rf p1), (2, .int p2), (3, va_rf p3), (4, va_rf p4)] [] m (g_X5_linesBetween_0 th p1 p2 p3 p4 m) := by
  unfold g_X5_linesBetween_0
  refine z_iconst (v := 0) C dX5_linesBetween_0 (by decide) ?_
  refine z_istore (i := 5) (L2 := [(5, .int 0), (0, va_rf (some th)), (1, va_rf p1), (2, .int p2), (3, va_rf p3), (4, va_rf p4)]) C dX5_linesBetween_1 (by decide) (by simp [cat_rf, cat_i, cat_l, cat_a]) ?_
  refine z_aload_n C dX5_linesBetween_3 rfl 4 rfl ?_
  refine z_ifnull (tgt := 12) C dX5_linesBetween_4 (by decide) (fun hn1 => ?_) (fun a3 ha1 => ?_)
  · refine z_iload C dX5_linesBetween_12 0 rfl ?_
    exact z_iret C hr dX5_linesBetween_14
  · refine z_aload C dX5_linesBetween_7 5 rfl ?_
    refine z_ifnonnull (tgt := 15) C dX5_linesBetween_9 (by decide) (fun a4 ha2 => ?_) (fun hn2 => ?_)
    · refine z_iconst (v := 0) C dX5_linesBetween_15 (by decide) ?_
      refine z_istore (i := 6) (L2 := [(6, .int 0), (5, .int 0), (0, va_rf (some th)), (1, va_rf p1), (2, .int p2), (3, va_rf p3), (4, va_rf p4)]) C dX5_linesBetween_16 (by decide) rfl ?_
      exact z_sub [2, 3, 4, 5, 6, 1, 0] rfl (t_X5_linesBetween_18 C hr hrm th p1 p2 p3 p4 FU 0 0 m)
    · refine z_iload C dX5_linesBetween_12 0 rfl ?_
      exact z_iret C hr dX5_linesBetween_14
def f_X5_linesBetween (th : Nat) (p1 : Option Nat) (p2 : Int32) (p3 : Option Nat) (p4 : Option Nat) (m : MM) : Option (Int32 × MM) := g_X5_linesBetween_0 th p1 p2 p3 p4 m
theorem M_X5_linesBetween (l : Launch) (E : EX) (th : Nat) (p1 : Option Nat) (p2 : Int32) (p3 : Option Nat) (p4 : Option Nat) (m : MM) (r : Int32) (m2 : MM) (h : f_X5_linesBetween th p1 p2 p3 p4 m = some (r, m2)) : Met l yX5_linesBetween (.code yX5_linesBetween cX5_linesBetween 11 (some .int) :: TB) rmX5_linesBetween (va_Pc [.ref th, va_rf p1, .int p2, va_rf p3, va_rf p4] (St E m)) (QR E (emI r) m2) 0 0 (AA E) :=
  met_of (em := emI) (plainFor_of_name rfl) (by simp [lg_sl, cat_rf, cat_i, cat_l, cat_a]) (L0 := [(0, va_rf (some th)), (1, va_rf p1), (2, .int p2), (3, va_rf p3), (4, va_rf p4)]) (by simp [lv_args, cat_rf, cat_i, cat_l, cat_a] <;> rfl) (fun Γ _ hrm C hr hn => s_X5_linesBetween_0 C hr hrm th p1 p2 p3 p4 m) h

theorem dX5_barsTwo_0 : decode cX5_barsTwo 0 = .ok (.aload_n 0, 1) := by decide +kernel
theorem dX5_barsTwo_1 : decode cX5_barsTwo 1 = .ok (.getfield 22, 3) := by decide +kernel
theorem dX5_barsTwo_4 : decode cX5_barsTwo 4 = .ok (.astore 4, 2) := by decide +kernel
theorem dX5_barsTwo_6 : decode cX5_barsTwo 6 = .ok (.aload_n 0, 1) := by decide +kernel
theorem dX5_barsTwo_7 : decode cX5_barsTwo 7 = .ok (.getfield 26, 3) := by decide +kernel
theorem dX5_barsTwo_10 : decode cX5_barsTwo 10 = .ok (.astore 5, 2) := by decide +kernel
theorem dX5_barsTwo_12 : decode cX5_barsTwo 12 = .ok (.aload 4, 2) := by decide +kernel
theorem dX5_barsTwo_14 : decode cX5_barsTwo 14 = .ok (.ifnull 24, 3) := by decide +kernel
theorem dX5_barsTwo_17 : decode cX5_barsTwo 17 = .ok (.aload 5, 2) := by decide +kernel
theorem dX5_barsTwo_19 : decode cX5_barsTwo 19 = .ok (.ifnull 19, 3) := by decide +kernel
theorem dX5_barsTwo_22 : decode cX5_barsTwo 22 = .ok (.aload_n 1, 1) := by decide +kernel
theorem dX5_barsTwo_23 : decode cX5_barsTwo 23 = .ok (.ifnull 15, 3) := by decide +kernel
theorem dX5_barsTwo_26 : decode cX5_barsTwo 26 = .ok (.aload_n 2, 1) := by decide +kernel
theorem dX5_barsTwo_27 : decode cX5_barsTwo 27 = .ok (.ifnull 11, 3) := by decide +kernel
theorem dX5_barsTwo_30 : decode cX5_barsTwo 30 = .ok (.iload_n 3, 1) := by decide +kernel
theorem dX5_barsTwo_31 : decode cX5_barsTwo 31 = .ok (.aload_n 0, 1) := by decide +kernel
theorem dX5_barsTwo_32 : decode cX5_barsTwo 32 = .ok (.getfield 40, 3) := by decide +kernel
theorem dX5_barsTwo_35 : decode cX5_barsTwo 35 = .ok (.if_icmp .ne 5, 3) := by decide +kernel
theorem dX5_barsTwo_38 : decode cX5_barsTwo 38 = .ok (.iconst 0, 1) := by decide +kernel
theorem dX5_barsTwo_39 : decode cX5_barsTwo 39 = .ok (.ireturn, 1) := by decide +kernel
theorem dX5_barsTwo_40 : decode cX5_barsTwo 40 = .ok (.aload 5, 2) := by decide +kernel
theorem dX5_barsTwo_42 : decode cX5_barsTwo 42 = .ok (.getfield 98, 3) := by decide +kernel
theorem dX5_barsTwo_45 : decode cX5_barsTwo 45 = .ok (.astore 6, 2) := by decide +kernel
theorem dX5_barsTwo_47 : decode cX5_barsTwo 47 = .ok (.aload_n 1, 1) := by decide +kernel
theorem dX5_barsTwo_48 : decode cX5_barsTwo 48 = .ok (.getfield 62, 3) := by decide +kernel
theorem dX5_barsTwo_51 : decode cX5_barsTwo 51 = .ok (.aload 6, 2) := by decide +kernel
theorem dX5_barsTwo_53 : decode cX5_barsTwo 53 = .ok (.iload_n 3, 1) := by decide +kernel
theorem dX5_barsTwo_54 : decode cX5_barsTwo 54 = .ok (.iconst 1, 1) := by decide +kernel
theorem dX5_barsTwo_55 : decode cX5_barsTwo 55 = .ok (.invokevirtual 56, 3) := by decide +kernel
theorem dX5_barsTwo_58 : decode cX5_barsTwo 58 = .ok (.if_icmp .ne 17, 3) := by decide +kernel
theorem dX5_barsTwo_61 : decode cX5_barsTwo 61 = .ok (.aload_n 2, 1) := by decide +kernel
theorem dX5_barsTwo_62 : decode cX5_barsTwo 62 = .ok (.getfield 62, 3) := by decide +kernel
theorem dX5_barsTwo_65 : decode cX5_barsTwo 65 = .ok (.aload 6, 2) := by decide +kernel
theorem dX5_barsTwo_67 : decode cX5_barsTwo 67 = .ok (.iload_n 3, 1) := by decide +kernel
theorem dX5_barsTwo_68 : decode cX5_barsTwo 68 = .ok (.iconst 2, 1) := by decide +kernel
theorem dX5_barsTwo_69 : decode cX5_barsTwo 69 = .ok (.invokevirtual 56, 3) := by decide +kernel
theorem dX5_barsTwo_72 : decode cX5_barsTwo 72 = .ok (.if_icmp .eq 5, 3) := by decide +kernel
theorem dX5_barsTwo_75 : decode cX5_barsTwo 75 = .ok (.iconst 0, 1) := by decide +kernel
theorem dX5_barsTwo_76 : decode cX5_barsTwo 76 = .ok (.ireturn, 1) := by decide +kernel
theorem dX5_barsTwo_77 : decode cX5_barsTwo 77 = .ok (.aload_n 2, 1) := by decide +kernel
theorem dX5_barsTwo_78 : decode cX5_barsTwo 78 = .ok (.getfield 65, 3) := by decide +kernel
theorem dX5_barsTwo_81 : decode cX5_barsTwo 81 = .ok (.aload_n 1, 1) := by decide +kernel
theorem dX5_barsTwo_82 : decode cX5_barsTwo 82 = .ok (.getfield 65, 3) := by decide +kernel
theorem dX5_barsTwo_85 : decode cX5_barsTwo 85 = .ok (.isub, 1) := by decide +kernel
theorem dX5_barsTwo_86 : decode cX5_barsTwo 86 = .ok (.istore 7, 2) := by decide +kernel
theorem dX5_barsTwo_88 : decode cX5_barsTwo 88 = .ok (.aload_n 2, 1) := by decide +kernel
theorem dX5_barsTwo_89 : decode cX5_barsTwo 89 = .ok (.getfield 68, 3) := by decide +kernel
theorem dX5_barsTwo_92 : decode cX5_barsTwo 92 = .ok (.aload_n 1, 1) := by decide +kernel
theorem dX5_barsTwo_93 : decode cX5_barsTwo 93 = .ok (.getfield 68, 3) := by decide +kernel
theorem dX5_barsTwo_96 : decode cX5_barsTwo 96 = .ok (.isub, 1) := by decide +kernel
theorem dX5_barsTwo_97 : decode cX5_barsTwo 97 = .ok (.istore 8, 2) := by decide +kernel
theorem dX5_barsTwo_99 : decode cX5_barsTwo 99 = .ok (.aload 6, 2) := by decide +kernel
theorem dX5_barsTwo_101 : decode cX5_barsTwo 101 = .ok (.iload_n 3, 1) := by decide +kernel
theorem dX5_barsTwo_102 : decode cX5_barsTwo 102 = .ok (.iconst 3, 1) := by decide +kernel
theorem dX5_barsTwo_103 : decode cX5_barsTwo 103 = .ok (.invokevirtual 56, 3) := by decide +kernel
theorem dX5_barsTwo_106 : decode cX5_barsTwo 106 = .ok (.aload_n 0, 1) := by decide +kernel
theorem dX5_barsTwo_107 : decode cX5_barsTwo 107 = .ok (.getfield 34, 3) := by decide +kernel
theorem dX5_barsTwo_110 : decode cX5_barsTwo 110 = .ok (.iadd, 1) := by decide +kernel
theorem dX5_barsTwo_111 : decode cX5_barsTwo 111 = .ok (.aload_n 1, 1) := by decide +kernel
theorem dX5_barsTwo_112 : decode cX5_barsTwo 112 = .ok (.getfield 77, 3) := by decide +kernel
theorem dX5_barsTwo_115 : decode cX5_barsTwo 115 = .ok (.iadd, 1) := by decide +kernel
theorem dX5_barsTwo_116 : decode cX5_barsTwo 116 = .ok (.aload_n 2, 1) := by decide +kernel
theorem dX5_barsTwo_117 : decode cX5_barsTwo 117 = .ok (.getfield 77, 3) := by decide +kernel
theorem dX5_barsTwo_120 : decode cX5_barsTwo 120 = .ok (.iadd, 1) := by decide +kernel
theorem dX5_barsTwo_121 : decode cX5_barsTwo 121 = .ok (.istore 9, 2) := by decide +kernel
theorem dX5_barsTwo_123 : decode cX5_barsTwo 123 = .ok (.iload 7, 2) := by decide +kernel
theorem dX5_barsTwo_125 : decode cX5_barsTwo 125 = .ok (.iload 7, 2) := by decide +kernel
theorem dX5_barsTwo_127 : decode cX5_barsTwo 127 = .ok (.imul, 1) := by decide +kernel
theorem dX5_barsTwo_128 : decode cX5_barsTwo 128 = .ok (.iload 8, 2) := by decide +kernel
theorem dX5_barsTwo_130 : decode cX5_barsTwo 130 = .ok (.iload 8, 2) := by decide +kernel
theorem dX5_barsTwo_132 : decode cX5_barsTwo 132 = .ok (.imul, 1) := by decide +kernel
theorem dX5_barsTwo_133 : decode cX5_barsTwo 133 = .ok (.iadd, 1) := by decide +kernel
theorem dX5_barsTwo_134 : decode cX5_barsTwo 134 = .ok (.iload 9, 2) := by decide +kernel
theorem dX5_barsTwo_136 : decode cX5_barsTwo 136 = .ok (.iload 9, 2) := by decide +kernel
theorem dX5_barsTwo_138 : decode cX5_barsTwo 138 = .ok (.imul, 1) := by decide +kernel
theorem dX5_barsTwo_139 : decode cX5_barsTwo 139 = .ok (.if_icmp .ge 21, 3) := by decide +kernel
theorem dX5_barsTwo_142 : decode cX5_barsTwo 142 = .ok (.aload_n 0, 1) := by decide +kernel
theorem dX5_barsTwo_143 : decode cX5_barsTwo 143 = .ok (.aload 4, 2) := by decide +kernel
theorem dX5_barsTwo_145 : decode cX5_barsTwo 145 = .ok (.aload 6, 2) := by decide +kernel
theorem dX5_barsTwo_147 : decode cX5_barsTwo 147 = .ok (.iload_n 3, 1) := by decide +kernel
theorem dX5_barsTwo_148 : decode cX5_barsTwo 148 = .ok (.iconst 0, 1) := by decide +kernel
theorem dX5_barsTwo_149 : decode cX5_barsTwo 149 = .ok (.invokevirtual 56, 3) := by decide +kernel
theorem dX5_barsTwo_152 : decode cX5_barsTwo 152 = .ok (.aload_n 1, 1) := by decide +kernel
theorem dX5_barsTwo_153 : decode cX5_barsTwo 153 = .ok (.aload_n 2, 1) := by decide +kernel
theorem dX5_barsTwo_154 : decode cX5_barsTwo 154 = .ok (.invokevirtual 110, 3) := by decide +kernel
theorem dX5_barsTwo_157 : decode cX5_barsTwo 157 = .ok (.ifCond .ne 5, 3) := by decide +kernel
theorem dX5_barsTwo_160 : decode cX5_barsTwo 160 = .ok (.iconst 0, 1) := by decide +kernel
theorem dX5_barsTwo_161 : decode cX5_barsTwo 161 = .ok (.ireturn, 1) := by decide +kernel
theorem dX5_barsTwo_162 : decode cX5_barsTwo 162 = .ok (.aload 6, 2) := by decide +kernel
theorem dX5_barsTwo_164 : decode cX5_barsTwo 164 = .ok (.iload_n 3, 1) := by decide +kernel
theorem dX5_barsTwo_165 : decode cX5_barsTwo 165 = .ok (.iconst 4, 1) := by decide +kernel
theorem dX5_barsTwo_166 : decode cX5_barsTwo 166 = .ok (.invokevirtual 56, 3) := by decide +kernel
theorem dX5_barsTwo_169 : decode cX5_barsTwo 169 = .ok (.ifCond .eq 18, 3) := by decide +kernel
theorem dX5_barsTwo_172 : decode cX5_barsTwo 172 = .ok (.aload_n 0, 1) := by decide +kernel
theorem dX5_barsTwo_173 : decode cX5_barsTwo 173 = .ok (.aload 4, 2) := by decide +kernel
theorem dX5_barsTwo_175 : decode cX5_barsTwo 175 = .ok (.getfield 114, 3) := by decide +kernel
theorem dX5_barsTwo_178 : decode cX5_barsTwo 178 = .ok (.iconst 1, 1) := by decide +kernel
theorem dX5_barsTwo_179 : decode cX5_barsTwo 179 = .ok (.aload_n 1, 1) := by decide +kernel
theorem dX5_barsTwo_180 : decode cX5_barsTwo 180 = .ok (.aload_n 2, 1) := by decide +kernel
theorem dX5_barsTwo_181 : decode cX5_barsTwo 181 = .ok (.invokevirtual 117, 3) := by decide +kernel
theorem dX5_barsTwo_184 : decode cX5_barsTwo 184 = .ok (.ifCond .ne 7, 3) := by decide +kernel
theorem dX5_barsTwo_187 : decode cX5_barsTwo 187 = .ok (.iconst 1, 1) := by decide +kernel
theorem dX5_barsTwo_188 : decode cX5_barsTwo 188 = .ok (.goto 4, 3) := by decide +kernel
theorem dX5_barsTwo_191 : decode cX5_barsTwo 191 = .ok (.iconst 0, 1) := by decide +kernel
theorem dX5_barsTwo_192 : decode cX5_barsTwo 192 = .ok (.ireturn, 1) := by decide +kernel
def rmX5_barsTwo : Room := { frames := 2, cells := 0, slots := 0, locals := 66 }
set_option maxRecDepth 100000 in
def g_X5_barsTwo_187 (th : Nat) (p1 : Option Nat) (p2 : Option Nat) (p3 : Int32) (m : MM) : Option (Int32 × MM) :=
  some (1, m)
set_option maxHeartbeats 4000000 in
set_option maxRecDepth 100000 in
theorem s_X5_barsTwo_187 {Γ : GX} {E : EX} (C : Cx Γ E cX5_barsTwo RX5 10) (hr : Γ.meth.sig.returnType = (some .boolean)) (hrm : Γ.rm = rmX5_barsTwo) (th : Nat) (p1 : Option Nat) (p2 : Option Nat) (p3 : Int32) (m : MM) : Sm (QM Γ E emI 0 0) Γ E 10 0 0 187 [(0, va_rf (some th)), (1, va_rf p1), (2, va_rf p2), (3, .int p3)] [] m (g_X5_barsTwo_187 th p1 p2 p3 m) := by
  unfold g_X5_barsTwo_187
  refine z_iconst (v := 1) C dX5_barsTwo_187 (by decide) ?_
  refine z_goto (tgt := 192) C dX5_barsTwo_188 (by decide) ?_
  exact z_zret C hr rfl dX5_barsTwo_192
set_option maxRecDepth 100000 in
def g_X5_barsTwo_0 (th : Nat) (p1 : Option Nat) (p2 : Option Nat) (p3 : Int32) (m : MM) : Option (Int32 × MM) :=
  chk (m.K th = 6) (bnd (m.R 602 th 0) (fun y1 => bnd (m.R 603 th 0) (fun y2 => ifn y1 (some (0, m)) (fun a1 => ifn y2 (some (0, m)) (fun a2 => ifn p1 (some (0, m)) (fun a3 => ifn p2 (some (0, m)) (fun a4 => if p3 = (m.I 608 th 0) then (some (0, m)) else (chk (m.K a2 = 3) (bnd (m.R 300 a2 0) (fun y3 => chk (m.K a3 = 1) (ck m y3 7 (fun a5 => cal (f_X6_cell a5 p3 1 m) (fun r1 m1 => if (m.I 100 a3 0) = r1 then (chk (m1.K a4 = 1) (chk (m1.K a5 = 7) (cal (f_X6_cell a5 p3 2 m1) (fun r2 m2 => if (m1.I 100 a4 0) = r2 then (chk (m2.K a4 = 1) (chk (m2.K a3 = 1) (bnd ((m2.I 101 a4 0) - (m2.I 101 a3 0)) (fun y4 => bnd ((m2.I 102 a4 0) - (m2.I 102 a3 0)) (fun y5 => chk (m2.K a5 = 7) (cal (f_X6_cell a5 p3 3 m2) (fun r3 m3 => chk (m3.K th = 6) (chk (m3.K a3 = 1) (chk (m3.K a4 = 1) (bnd (((r3 + (m3.I 606 th 0)) + (m3.I 104 a3 0)) + (m3.I 104 a4 0)) (fun y6 => if (y6 * y6) ≤ ((y4 * y4) + (y5 * y5)) then (some (0, m3)) else (chk (m3.K a5 = 7) (cal (f_X6_cell a5 p3 0 m3) (fun r4 m4 => chk (m4.K th = 6) (cal (f_X5_sortHolds th y1 r4 p1 p2 m4) (fun r5 m5 => if r5 = 0 then (some (0, m5)) else (chk (m5.K a5 = 7) (cal (f_X6_cell a5 p3 4 m5) (fun r6 m6 => if r6 = 0 then (g_X5_barsTwo_187 th p1 p2 p3 m6) else (chk (m6.K a1 = 9) (chk (m6.K th = 6) (cal (f_X5_linesBetween th (m6.R 905 a1 0) 1 p1 p2 m6) (fun r7 m7 => if r7 = 0 then (g_X5_barsTwo_187 th p1 p2 p3 m7) else (some (0, m7))))))))))))))))))))))))) else (some (0, m2)))))) else (some (0, m1)))))))))))))))
set_option maxHeartbeats 4000000 in
set_option maxRecDepth 100000 in
theorem s_X5_barsTwo_0 {Γ : GX} {E : EX} (C : Cx Γ E cX5_barsTwo RX5 10) (hr : Γ.meth.sig.returnType = (some .boolean)) (hrm : Γ.rm = rmX5_barsTwo) (th : Nat) (p1 : Option Nat) (p2 : Option Nat) (p3 : Int32) (m : MM) : Sm (QM Γ E emI 0 0) Γ E 10 0 0 0 [(0, va_rf (some th)), (1, va_rf p1), (2, va_rf p2), (3, .int p3)] [] m (g_X5_barsTwo_0 th p1 p2 p3 m) := by
  unfold g_X5_barsTwo_0
  refine z_aload_n C dX5_barsTwo_0 rfl 0 rfl ?_
  refine z_chk (fun hk1 => ?_)
  refine z_getR C fl_RX5_22 rfl hk1 dX5_barsTwo_1 ?_
  refine z_bndR (fun y1 => ?_)
  refine z_astore (i := 4) (L2 := [(4, va_rf y1), (0, va_rf (some th)), (1, va_rf p1), (2, va_rf p2), (3, .int p3)]) C dX5_barsTwo_4 (by decide) rfl ?_
  refine z_aload_n C dX5_barsTwo_6 rfl 1 rfl ?_
  refine z_getR C fl_RX5_26 rfl hk1 dX5_barsTwo_7 ?_
  refine z_bndR (fun y2 => ?_)
  refine z_astore (i := 5) (L2 := [(5, va_rf y2), (4, va_rf y1), (0, va_rf (some th)), (1, va_rf p1), (2, va_rf p2), (3, .int p3)]) C dX5_barsTwo_10 (by decide) (by simp [cat_rf, cat_i, cat_l, cat_a]) ?_
  refine z_aload C dX5_barsTwo_12 1 rfl ?_
  refine z_ifnull (tgt := 38) C dX5_barsTwo_14 (by decide) (fun hn1 => ?_) (fun a1 ha1 => ?_)
  · refine z_iconst (v := 0) C dX5_barsTwo_38 (by decide) ?_
    exact z_zret C hr rfl dX5_barsTwo_39
  · refine z_aload C dX5_barsTwo_17 0 rfl ?_
    refine z_ifnull (tgt := 38) C dX5_barsTwo_19 (by decide) (fun hn2 => ?_) (fun a2 ha2 => ?_)
    · refine z_iconst (v := 0) C dX5_barsTwo_38 (by decide) ?_
      exact z_zret C hr rfl dX5_barsTwo_39
    · refine z_aload_n C dX5_barsTwo_22 rfl 3 rfl ?_
      refine z_ifnull (tgt := 38) C dX5_barsTwo_23 (by decide) (fun hn3 => ?_) (fun a3 ha3 => ?_)
      · refine z_iconst (v := 0) C dX5_barsTwo_38 (by decide) ?_
        exact z_zret C hr rfl dX5_barsTwo_39
      · refine z_aload_n C dX5_barsTwo_26 rfl 4 rfl ?_
        refine z_ifnull (tgt := 38) C dX5_barsTwo_27 (by decide) (fun hn4 => ?_) (fun a4 ha4 => ?_)
        · refine z_iconst (v := 0) C dX5_barsTwo_38 (by decide) ?_
          exact z_zret C hr rfl dX5_barsTwo_39
        · refine z_iload_n C dX5_barsTwo_30 rfl 5 rfl ?_
          refine z_aload_n C dX5_barsTwo_31 rfl 2 rfl ?_
          refine z_getI C fl_RX5_40 rfl hk1 dX5_barsTwo_32 ?_
          refine z_icmp_ne (tgt := 40) C dX5_barsTwo_35 (by decide) (fun c1 => ?_) (fun c1 => ?_)
          · refine z_aload C dX5_barsTwo_40 0 rfl ?_
            refine z_chk (fun hk2 => ?_)
            refine z_getR C fl_RX5_98 ha2 hk2 dX5_barsTwo_42 ?_
            refine z_bndR (fun y3 => ?_)
            refine z_astore (i := 6) (L2 := [(6, va_rf y3), (5, va_rf y2), (4, va_rf y1), (0, va_rf (some th)), (1, va_rf p1), (2, va_rf p2), (3, .int p3)]) C dX5_barsTwo_45 (by decide) (by simp [cat_rf, cat_i, cat_l, cat_a]) ?_
            refine z_aload_n C dX5_barsTwo_47 rfl 4 rfl ?_
            refine z_chk (fun hk3 => ?_)
            refine z_getI C fl_RX5_62 ha3 hk3 dX5_barsTwo_48 ?_
            refine z_aload C dX5_barsTwo_51 0 rfl ?_
            refine z_iload_n C dX5_barsTwo_53 rfl 6 rfl ?_
            refine z_iconst (v := 1) C dX5_barsTwo_54 (by decide) ?_
            refine z_ck (fun a5 hr1 hk4 => ?_)
            refine z_cVI [.int p3, .int 1] [.int (m.I 100 a3 0)] C mv_RX5_56 (fun r0 m0 h0 => M_X6_cell _ _ _ _ _ _ _ _ h0) rfl rfl ⟨by rw [hrm]; exact Nat.le_of_ble_eq_true rfl, by rw [hrm]; exact Nat.le_of_ble_eq_true rfl⟩ ⟨by rw [hrm]; exact Nat.le_of_ble_eq_true rfl, by rw [hrm]; exact Nat.le_of_ble_eq_true rfl⟩ hr1 hk4 rfl rfl rfl (Nat.le_of_ble_eq_true rfl) dX5_barsTwo_55 (fun r1 m1 => ?_)
            refine z_icmp_ne (tgt := 75) C dX5_barsTwo_58 (by decide) (fun c2 => ?_) (fun c2 => ?_)
            · refine z_iconst (v := 0) C dX5_barsTwo_75 (by decide) ?_
              exact z_zret C hr rfl dX5_barsTwo_76
            · refine z_aload_n C dX5_barsTwo_61 rfl 5 rfl ?_
              refine z_chk (fun hk5 => ?_)
              refine z_getI C fl_RX5_62 ha4 hk5 dX5_barsTwo_62 ?_
              refine z_aload C dX5_barsTwo_65 0 rfl ?_
              refine z_iload_n C dX5_barsTwo_67 rfl 6 rfl ?_
              refine z_iconst (v := 2) C dX5_barsTwo_68 (by decide) ?_
              refine z_chk (fun hk6 => ?_)
              refine z_cVI [.int p3, .int 2] [.int (m1.I 100 a4 0)] C mv_RX5_56 (fun r0 m0 h0 => M_X6_cell _ _ _ _ _ _ _ _ h0) rfl rfl ⟨by rw [hrm]; exact Nat.le_of_ble_eq_true rfl, by rw [hrm]; exact Nat.le_of_ble_eq_true rfl⟩ ⟨by rw [hrm]; exact Nat.le_of_ble_eq_true rfl, by rw [hrm]; exact Nat.le_of_ble_eq_true rfl⟩ hr1 hk6 rfl rfl rfl (Nat.le_of_ble_eq_true rfl) dX5_barsTwo_69 (fun r2 m2 => ?_)
              refine z_icmp_eq (tgt := 77) C dX5_barsTwo_72 (by decide) (fun c3 => ?_) (fun c3 => ?_)
              · refine z_aload_n C dX5_barsTwo_77 rfl 5 rfl ?_
                refine z_chk (fun hk7 => ?_)
                refine z_getI C fl_RX5_65 ha4 hk7 dX5_barsTwo_78 ?_
                refine z_aload_n C dX5_barsTwo_81 rfl 4 rfl ?_
                refine z_chk (fun hk8 => ?_)
                refine z_getI C fl_RX5_65 ha3 hk8 dX5_barsTwo_82 ?_
                refine z_isub C dX5_barsTwo_85 ?_
                refine z_bndI (fun y4 => ?_)
                refine z_istore (i := 7) (L2 := [(7, .int y4), (6, va_rf y3), (5, va_rf y2), (4, va_rf y1), (0, va_rf (some th)), (1, va_rf p1), (2, va_rf p2), (3, .int p3)]) C dX5_barsTwo_86 (by decide) (by simp [cat_rf, cat_i, cat_l, cat_a]) ?_
                refine z_aload_n C dX5_barsTwo_88 rfl 6 rfl ?_
                refine z_getI C fl_RX5_68 ha4 hk7 dX5_barsTwo_89 ?_
                refine z_aload_n C dX5_barsTwo_92 rfl 5 rfl ?_
                refine z_getI C fl_RX5_68 ha3 hk8 dX5_barsTwo_93 ?_
                refine z_isub C dX5_barsTwo_96 ?_
                refine z_bndI (fun y5 => ?_)
                refine z_istore (i := 8) (L2 := [(8, .int y5), (7, .int y4), (6, va_rf y3), (5, va_rf y2), (4, va_rf y1), (0, va_rf (some th)), (1, va_rf p1), (2, va_rf p2), (3, .int p3)]) C dX5_barsTwo_97 (by decide) rfl ?_
                refine z_aload C dX5_barsTwo_99 2 rfl ?_
                refine z_iload_n C dX5_barsTwo_101 rfl 8 rfl ?_
                refine z_iconst (v := 3) C dX5_barsTwo_102 (by decide) ?_
                refine z_chk (fun hk9 => ?_)
                refine z_cVI [.int p3, .int 3] [] C mv_RX5_56 (fun r0 m0 h0 => M_X6_cell _ _ _ _ _ _ _ _ h0) rfl rfl ⟨by rw [hrm]; exact Nat.le_of_ble_eq_true rfl, by rw [hrm]; exact Nat.le_of_ble_eq_true rfl⟩ ⟨by rw [hrm]; exact Nat.le_of_ble_eq_true rfl, by rw [hrm]; exact Nat.le_of_ble_eq_true rfl⟩ hr1 hk9 rfl rfl rfl (Nat.le_of_ble_eq_true rfl) dX5_barsTwo_103 (fun r3 m3 => ?_)
                refine z_aload_n C dX5_barsTwo_106 rfl 5 rfl ?_
                refine z_chk (fun hk10 => ?_)
                refine z_getI C fl_RX5_34 rfl hk10 dX5_barsTwo_107 ?_
                refine z_iadd C dX5_barsTwo_110 ?_
                refine z_aload_n C dX5_barsTwo_111 rfl 6 rfl ?_
                refine z_chk (fun hk11 => ?_)
                refine z_getI C fl_RX5_77 ha3 hk11 dX5_barsTwo_112 ?_
                refine z_iadd C dX5_barsTwo_115 ?_
                refine z_aload_n C dX5_barsTwo_116 rfl 7 rfl ?_
                refine z_chk (fun hk12 => ?_)
                refine z_getI C fl_RX5_77 ha4 hk12 dX5_barsTwo_117 ?_
                refine z_iadd C dX5_barsTwo_120 ?_
                refine z_bndI (fun y6 => ?_)
                refine z_istore (i := 9) (L2 := [(9, .int y6), (8, .int y5), (7, .int y4), (6, va_rf y3), (5, va_rf y2), (4, va_rf y1), (0, va_rf (some th)), (1, va_rf p1), (2, va_rf p2), (3, .int p3)]) C dX5_barsTwo_121 (by decide) rfl ?_
                refine z_iload C dX5_barsTwo_123 2 rfl ?_
                refine z_iload C dX5_barsTwo_125 2 rfl ?_
                refine z_imul C dX5_barsTwo_127 ?_
                refine z_iload C dX5_barsTwo_128 1 rfl ?_
                refine z_iload C dX5_barsTwo_130 1 rfl ?_
                refine z_imul C dX5_barsTwo_132 ?_
                refine z_iadd C dX5_barsTwo_133 ?_
                refine z_iload C dX5_barsTwo_134 0 rfl ?_
                refine z_iload C dX5_barsTwo_136 0 rfl ?_
                refine z_imul C dX5_barsTwo_138 ?_
                refine z_icmp_ge (tgt := 160) C dX5_barsTwo_139 (by decide) (fun c4 => ?_) (fun c4 => ?_)
                · refine z_iconst (v := 0) C dX5_barsTwo_160 (by decide) ?_
                  exact z_zret C hr rfl dX5_barsTwo_161
                · refine z_aload_n C dX5_barsTwo_142 rfl 6 rfl ?_
                  refine z_aload C dX5_barsTwo_143 5 rfl ?_
                  refine z_aload C dX5_barsTwo_145 3 rfl ?_
                  refine z_iload_n C dX5_barsTwo_147 rfl 9 rfl ?_
                  refine z_iconst (v := 0) C dX5_barsTwo_148 (by decide) ?_
                  refine z_chk (fun hk13 => ?_)
                  refine z_cVI [.int p3, .int 0] [va_rf y1, va_rf (some th)] C mv_RX5_56 (fun r0 m0 h0 => M_X6_cell _ _ _ _ _ _ _ _ h0) rfl rfl ⟨by rw [hrm]; exact Nat.le_of_ble_eq_true rfl, by rw [hrm]; exact Nat.le_of_ble_eq_true rfl⟩ ⟨by rw [hrm]; exact Nat.le_of_ble_eq_true rfl, by rw [hrm]; exact Nat.le_of_ble_eq_true rfl⟩ hr1 hk13 rfl rfl rfl (by simp [cat_rf, cat_i, cat_l, cat_a]) dX5_barsTwo_149 (fun r4 m4 => ?_)
                  refine z_aload_n C dX5_barsTwo_152 rfl 7 rfl ?_
                  refine z_aload_n C dX5_barsTwo_153 rfl 8 rfl ?_
                  refine z_chk (fun hk14 => ?_)
                  refine z_cVI [va_rf y1, .int r4, va_rf p1, va_rf p2] [] C mv_RX5_110 (fun r0 m0 h0 => M_X5_sortHolds _ _ _ _ _ _ _ _ _ _ h0) rfl rfl ⟨by rw [hrm]; exact Nat.le_of_ble_eq_true rfl, by rw [hrm]; exact Nat.le_of_ble_eq_true rfl⟩ ⟨by rw [hrm]; exact Nat.le_of_ble_eq_true rfl, by rw [hrm]; exact Nat.le_of_ble_eq_true rfl⟩ rfl hk14 rfl rfl rfl (Nat.le_of_ble_eq_true rfl) dX5_barsTwo_154 (fun r5 m5 => ?_)
                  refine z_if_ne (tgt := 162) C dX5_barsTwo_157 (by decide) (fun c5 => ?_) (fun c5 => ?_)
                  · refine z_aload C dX5_barsTwo_162 3 rfl ?_
                    refine z_iload_n C dX5_barsTwo_164 rfl 9 rfl ?_
                    refine z_iconst (v := 4) C dX5_barsTwo_165 (by decide) ?_
                    refine z_chk (fun hk15 => ?_)
                    refine z_cVI [.int p3, .int 4] [] C mv_RX5_56 (fun r0 m0 h0 => M_X6_cell _ _ _ _ _ _ _ _ h0) rfl rfl ⟨by rw [hrm]; exact Nat.le_of_ble_eq_true rfl, by rw [hrm]; exact Nat.le_of_ble_eq_true rfl⟩ ⟨by rw [hrm]; exact Nat.le_of_ble_eq_true rfl, by rw [hrm]; exact Nat.le_of_ble_eq_true rfl⟩ hr1 hk15 rfl rfl rfl (Nat.le_of_ble_eq_true rfl) dX5_barsTwo_166 (fun r6 m6 => ?_)
                    refine z_if_eq (tgt := 187) C dX5_barsTwo_169 (by decide) (fun c6 => ?_) (fun c6 => ?_)
                    · exact z_sub [6, 7, 8, 9] rfl (s_X5_barsTwo_187 C hr hrm th p1 p2 p3 m6)
                    · refine z_aload_n C dX5_barsTwo_172 rfl 6 rfl ?_
                      refine z_aload C dX5_barsTwo_173 5 rfl ?_
                      refine z_chk (fun hk16 => ?_)
                      refine z_getR C fl_RX5_114 ha1 hk16 dX5_barsTwo_175 ?_
                      refine z_iconst (v := 1) C dX5_barsTwo_178 (by decide) ?_
                      refine z_aload_n C dX5_barsTwo_179 rfl 7 rfl ?_
                      refine z_aload_n C dX5_barsTwo_180 rfl 8 rfl ?_
                      refine z_chk (fun hk17 => ?_)
                      refine z_cVI [va_rf (m6.R 905 a1 0), .int 1, va_rf p1, va_rf p2] [] C mv_RX5_117 (fun r0 m0 h0 => M_X5_linesBetween _ _ _ _ _ _ _ _ _ _ h0) rfl rfl ⟨by rw [hrm]; exact Nat.le_of_ble_eq_true rfl, by rw [hrm]; exact Nat.le_of_ble_eq_true rfl⟩ ⟨by rw [hrm]; exact Nat.le_of_ble_eq_true rfl, by rw [hrm]; exact Nat.le_of_ble_eq_true rfl⟩ rfl hk17 rfl rfl rfl (Nat.le_of_ble_eq_true rfl) dX5_barsTwo_181 (fun r7 m7 => ?_)
                      refine z_if_ne (tgt := 191) C dX5_barsTwo_184 (by decide) (fun c7 => ?_) (fun c7 => ?_)
                      · refine z_iconst (v := 0) C dX5_barsTwo_191 (by decide) ?_
                        exact z_zret C hr rfl dX5_barsTwo_192
                      · exact z_sub [6, 7, 8, 9] rfl (s_X5_barsTwo_187 C hr hrm th p1 p2 p3 m7)
                  · refine z_iconst (v := 0) C dX5_barsTwo_160 (by decide) ?_
                    exact z_zret C hr rfl dX5_barsTwo_161
              · refine z_iconst (v := 0) C dX5_barsTwo_75 (by decide) ?_
                exact z_zret C hr rfl dX5_barsTwo_76
          · refine z_iconst (v := 0) C dX5_barsTwo_38 (by decide) ?_
            exact z_zret C hr rfl dX5_barsTwo_39
def f_X5_barsTwo (th : Nat) (p1 : Option Nat) (p2 : Option Nat) (p3 : Int32) (m : MM) : Option (Int32 × MM) := g_X5_barsTwo_0 th p1 p2 p3 m
theorem M_X5_barsTwo (l : Launch) (E : EX) (th : Nat) (p1 : Option Nat) (p2 : Option Nat) (p3 : Int32) (m : MM) (r : Int32) (m2 : MM) (h : f_X5_barsTwo th p1 p2 p3 m = some (r, m2)) : Met l yX5_barsTwo (.code yX5_barsTwo cX5_barsTwo 10 (some .boolean) :: TB) rmX5_barsTwo (va_Pc [.ref th, va_rf p1, va_rf p2, .int p3] (St E m)) (QR E (emI r) m2) 0 0 (AA E) :=
  met_of (em := emI) (plainFor_of_name rfl) (by simp [lg_sl, cat_rf, cat_i, cat_l, cat_a]) (L0 := [(0, va_rf (some th)), (1, va_rf p1), (2, va_rf p2), (3, .int p3)]) (by simp [lv_args, cat_rf, cat_i, cat_l, cat_a] <;> rfl) (fun Γ _ hrm C hr hn => s_X5_barsTwo_0 C hr hrm th p1 p2 p3 m) h

theorem dX5_ofThing_0 : decode cX5_ofThing 0 = .ok (.aload_n 0, 1) := by decide +kernel
theorem dX5_ofThing_1 : decode cX5_ofThing 1 = .ok (.getfield 22, 3) := by decide +kernel
theorem dX5_ofThing_4 : decode cX5_ofThing 4 = .ok (.ifnonnull 7, 3) := by decide +kernel
theorem dX5_ofThing_7 : decode cX5_ofThing 7 = .ok (.iconst (-1), 1) := by decide +kernel
theorem dX5_ofThing_8 : decode cX5_ofThing 8 = .ok (.goto 15, 3) := by decide +kernel
theorem dX5_ofThing_11 : decode cX5_ofThing 11 = .ok (.aload_n 0, 1) := by decide +kernel
theorem dX5_ofThing_12 : decode cX5_ofThing 12 = .ok (.getfield 22, 3) := by decide +kernel
theorem dX5_ofThing_15 : decode cX5_ofThing 15 = .ok (.getfield 52, 3) := by decide +kernel
theorem dX5_ofThing_18 : decode cX5_ofThing 18 = .ok (.iload_n 1, 1) := by decide +kernel
theorem dX5_ofThing_19 : decode cX5_ofThing 19 = .ok (.iload_n 2, 1) := by decide +kernel
theorem dX5_ofThing_20 : decode cX5_ofThing 20 = .ok (.invokevirtual 56, 3) := by decide +kernel
theorem dX5_ofThing_23 : decode cX5_ofThing 23 = .ok (.ireturn, 1) := by decide +kernel
def rmX5_ofThing : Room := { frames := 1, cells := 0, slots := 0, locals := 23 }
set_option maxRecDepth 100000 in
def g_X5_ofThing_0 (th : Nat) (p1 : Int32) (p2 : Int32) (m : MM) : Option (Int32 × MM) :=
  chk (m.K th = 6) (ifn (m.R 602 th 0) (some ((-1), m)) (fun a1 => chk (m.K a1 = 9) (ck m (m.R 904 a1 0) 7 (fun a2 => cal (f_X6_cell a2 p1 p2 m) (fun r1 m1 => some (r1, m1))))))
set_option maxHeartbeats 4000000 in
set_option maxRecDepth 100000 in
theorem s_X5_ofThing_0 {Γ : GX} {E : EX} (C : Cx Γ E cX5_ofThing RX5 3) (hr : Γ.meth.sig.returnType = (some .int)) (hrm : Γ.rm = rmX5_ofThing) (th : Nat) (p1 : Int32) (p2 : Int32) (m : MM) : Sm (QM Γ E emI 0 0) Γ E 3 0 0 0 [(0, va_rf (some th)), (1, .int p1), (2, .int p2)] [] m (g_X5_ofThing_0 th p1 p2 m) := by
  unfold g_X5_ofThing_0
  refine z_aload_n C dX5_ofThing_0 rfl 0 rfl ?_
  refine z_chk (fun hk1 => ?_)
  refine z_getR C fl_RX5_22 rfl hk1 dX5_ofThing_1 ?_
  refine z_ifnonnull (tgt := 11) C dX5_ofThing_4 (by decide) (fun a1 ha1 => ?_) (fun hn1 => ?_)
  · refine z_aload_n C dX5_ofThing_11 rfl 0 rfl ?_
    refine z_getR C fl_RX5_22 rfl hk1 dX5_ofThing_12 ?_
    refine z_chk (fun hk2 => ?_)
    refine z_getR C fl_RX5_52 ha1 hk2 dX5_ofThing_15 ?_
    refine z_iload_n C dX5_ofThing_18 rfl 1 rfl ?_
    refine z_iload_n C dX5_ofThing_19 rfl 2 rfl ?_
    refine z_ck (fun a2 hr1 hk3 => ?_)
    refine z_cVI [.int p1, .int p2] [] C mv_RX5_56 (fun r0 m0 h0 => M_X6_cell _ _ _ _ _ _ _ _ h0) rfl rfl ⟨by rw [hrm]; exact Nat.le_of_ble_eq_true rfl, by rw [hrm]; exact Nat.le_of_ble_eq_true rfl⟩ ⟨by rw [hrm]; exact Nat.le_of_ble_eq_true rfl, by rw [hrm]; exact Nat.le_of_ble_eq_true rfl⟩ hr1 hk3 rfl rfl rfl (Nat.le_of_ble_eq_true rfl) dX5_ofThing_20 (fun r1 m1 => ?_)
    exact z_iret C hr dX5_ofThing_23
  · refine z_iconst (v := (-1)) C dX5_ofThing_7 (by decide) ?_
    refine z_goto (tgt := 23) C dX5_ofThing_8 (by decide) ?_
    exact z_iret C hr dX5_ofThing_23
def f_X5_ofThing (th : Nat) (p1 : Int32) (p2 : Int32) (m : MM) : Option (Int32 × MM) := g_X5_ofThing_0 th p1 p2 m
theorem M_X5_ofThing (l : Launch) (E : EX) (th : Nat) (p1 : Int32) (p2 : Int32) (m : MM) (r : Int32) (m2 : MM) (h : f_X5_ofThing th p1 p2 m = some (r, m2)) : Met l yX5_ofThing (.code yX5_ofThing cX5_ofThing 3 (some .int) :: TB) rmX5_ofThing (va_Pc [.ref th, .int p1, .int p2] (St E m)) (QR E (emI r) m2) 0 0 (AA E) :=
  met_of (em := emI) (plainFor_of_name rfl) (Nat.le_of_ble_eq_true rfl) (L0 := [(0, va_rf (some th)), (1, .int p1), (2, .int p2)]) rfl (fun Γ _ hrm C hr hn => s_X5_ofThing_0 C hr hrm th p1 p2 m) h

theorem dX5_rids_0 : decode cX5_rids 0 = .ok (.iconst 0, 1) := by decide +kernel
theorem dX5_rids_1 : decode cX5_rids 1 = .ok (.istore_n 2, 1) := by decide +kernel
theorem dX5_rids_2 : decode cX5_rids 2 = .ok (.iload_n 2, 1) := by decide +kernel
theorem dX5_rids_3 : decode cX5_rids 3 = .ok (.aload_n 0, 1) := by decide +kernel
theorem dX5_rids_4 : decode cX5_rids 4 = .ok (.getfield 18, 3) := by decide +kernel
theorem dX5_rids_7 : decode cX5_rids 7 = .ok (.arraylength, 1) := by decide +kernel
theorem dX5_rids_8 : decode cX5_rids 8 = .ok (.if_icmp .ge 32, 3) := by decide +kernel
theorem dX5_rids_11 : decode cX5_rids 11 = .ok (.iload_n 1, 1) := by decide +kernel
theorem dX5_rids_12 : decode cX5_rids 12 = .ok (.iload_n 2, 1) := by decide +kernel
theorem dX5_rids_13 : decode cX5_rids 13 = .ok (.ishr, 1) := by decide +kernel
theorem dX5_rids_14 : decode cX5_rids 14 = .ok (.iconst 1, 1) := by decide +kernel
theorem dX5_rids_15 : decode cX5_rids 15 = .ok (.iand, 1) := by decide +kernel
theorem dX5_rids_16 : decode cX5_rids 16 = .ok (.ifCond .ne 18, 3) := by decide +kernel
theorem dX5_rids_19 : decode cX5_rids 19 = .ok (.aload_n 0, 1) := by decide +kernel
theorem dX5_rids_20 : decode cX5_rids 20 = .ok (.getfield 18, 3) := by decide +kernel
theorem dX5_rids_23 : decode cX5_rids 23 = .ok (.iload_n 2, 1) := by decide +kernel
theorem dX5_rids_24 : decode cX5_rids 24 = .ok (.iaload, 1) := by decide +kernel
theorem dX5_rids_25 : decode cX5_rids 25 = .ok (.iload_n 1, 1) := by decide +kernel
theorem dX5_rids_26 : decode cX5_rids 26 = .ok (.iconst (-1), 1) := by decide +kernel
theorem dX5_rids_27 : decode cX5_rids 27 = .ok (.ixor, 1) := by decide +kernel
theorem dX5_rids_28 : decode cX5_rids 28 = .ok (.iand, 1) := by decide +kernel
theorem dX5_rids_29 : decode cX5_rids 29 = .ok (.ifCond .eq 5, 3) := by decide +kernel
theorem dX5_rids_32 : decode cX5_rids 32 = .ok (.iconst 0, 1) := by decide +kernel
theorem dX5_rids_33 : decode cX5_rids 33 = .ok (.ireturn, 1) := by decide +kernel
theorem dX5_rids_34 : decode cX5_rids 34 = .ok (.iinc 2 1, 3) := by decide +kernel
theorem dX5_rids_37 : decode cX5_rids 37 = .ok (.goto (-35), 3) := by decide +kernel
theorem dX5_rids_40 : decode cX5_rids 40 = .ok (.iconst 1, 1) := by decide +kernel
theorem dX5_rids_41 : decode cX5_rids 41 = .ok (.ireturn, 1) := by decide +kernel
def rmX5_rids : Room := { frames := 0, cells := 0, slots := 0, locals := 0 }
set_option maxRecDepth 100000 in
def g_X5_rids_34 (th : Nat) (p1 : Int32) (k2 : Int32 → MM → Option (Int32 × MM)) (x2 : Int32) (m : MM) : Option (Int32 × MM) :=
  k2 (x2 + 1) m
set_option maxHeartbeats 4000000 in
set_option maxRecDepth 100000 in
theorem s_X5_rids_34 {Γ : GX} {E : EX} (C : Cx Γ E cX5_rids RX5 3) (hr : Γ.meth.sig.returnType = (some .boolean)) (hrm : Γ.rm = rmX5_rids) (th : Nat) (p1 : Int32) (k2 : Int32 → MM → Option (Int32 × MM)) (h2 : ∀ (x2 : Int32) (m : MM), Sm (QM Γ E emI 0 0) Γ E 3 0 0 2 [(0, va_rf (some th)), (1, .int p1), (2, .int x2)] [] m (k2 x2 m)) (x2 : Int32) (m : MM) : Sm (QM Γ E emI 0 0) Γ E 3 0 0 34 [(0, va_rf (some th)), (1, .int p1), (2, .int x2)] [] m (g_X5_rids_34 th p1 k2 x2 m) := by
  unfold g_X5_rids_34
  refine z_iinc (v := 1) (L2 := [(2, .int (x2 + 1)), (0, va_rf (some th)), (1, .int p1)]) C dX5_rids_34 2 rfl (by decide) (by decide) rfl ?_
  refine z_goto (tgt := 2) C dX5_rids_37 (by decide) ?_
  exact z_sub [1, 2, 0] rfl (h2 (x2 + 1) m)
set_option maxRecDepth 100000 in
def g_X5_rids_2 (th : Nat) (p1 : Int32) (k2 : Int32 → MM → Option (Int32 × MM)) (x2 : Int32) (m : MM) : Option (Int32 × MM) :=
  chk (m.K th = 6) (ck m (m.R 601 th 0) 22 (fun a1 => if (Int32.ofNat (m.N a1)) ≤ x2 then (some (1, m)) else (if ((p1 >>> (x2 &&& 31)) &&& 1) = 0 then (chk (inb x2 (m.N a1) = true) (if ((m.I 22 a1 (Int32.toNatClampNeg x2)) &&& (p1 ^^^ (-1))) = 0 then (g_X5_rids_34 th p1 k2 x2 m) else (some (0, m)))) else (g_X5_rids_34 th p1 k2 x2 m))))
set_option maxHeartbeats 4000000 in
set_option maxRecDepth 100000 in
theorem s_X5_rids_2 {Γ : GX} {E : EX} (C : Cx Γ E cX5_rids RX5 3) (hr : Γ.meth.sig.returnType = (some .boolean)) (hrm : Γ.rm = rmX5_rids) (th : Nat) (p1 : Int32) (k2 : Int32 → MM → Option (Int32 × MM)) (h2 : ∀ (x2 : Int32) (m : MM), Sm (QM Γ E emI 0 0) Γ E 3 0 0 2 [(0, va_rf (some th)), (1, .int p1), (2, .int x2)] [] m (k2 x2 m)) (x2 : Int32) (m : MM) : Sm (QM Γ E emI 0 0) Γ E 3 0 0 2 [(0, va_rf (some th)), (1, .int p1), (2, .int x2)] [] m (g_X5_rids_2 th p1 k2 x2 m) := by
  unfold g_X5_rids_2
  refine z_iload_n C dX5_rids_2 rfl 2 rfl ?_
  refine z_aload_n C dX5_rids_3 rfl 0 rfl ?_
  refine z_chk (fun hk1 => ?_)
  refine z_getR C fl_RX5_18 rfl hk1 dX5_rids_4 ?_
  refine z_ck (fun a1 hr1 hk2 => ?_)
  refine z_alen C hr1 hk2 (by decide) (by decide) dX5_rids_7 ?_
  refine z_icmp_ge (tgt := 40) C dX5_rids_8 (by decide) (fun c1 => ?_) (fun c1 => ?_)
  · refine z_iconst (v := 1) C dX5_rids_40 (by decide) ?_
    exact z_zret C hr rfl dX5_rids_41
  · refine z_iload_n C dX5_rids_11 rfl 1 rfl ?_
    refine z_iload_n C dX5_rids_12 rfl 2 rfl ?_
    refine z_ishr C dX5_rids_13 ?_
    refine z_iconst (v := 1) C dX5_rids_14 (by decide) ?_
    refine z_iand C dX5_rids_15 ?_
    refine z_if_ne (tgt := 34) C dX5_rids_16 (by decide) (fun c2 => ?_) (fun c2 => ?_)
    · exact z_sub [0, 1, 2] rfl (s_X5_rids_34 C hr hrm th p1 k2 h2 x2 m)
    · refine z_aload_n C dX5_rids_19 rfl 0 rfl ?_
      refine z_getR C fl_RX5_18 rfl hk1 dX5_rids_20 ?_
      refine z_iload_n C dX5_rids_23 rfl 2 rfl ?_
      refine z_chk (fun hj1 => ?_)
      refine z_iald C hr1 hk2 hj1 dX5_rids_24 ?_
      refine z_iload_n C dX5_rids_25 rfl 1 rfl ?_
      refine z_iconst (v := (-1)) C dX5_rids_26 (by decide) ?_
      refine z_ixor C dX5_rids_27 ?_
      refine z_iand C dX5_rids_28 ?_
      refine z_if_eq (tgt := 34) C dX5_rids_29 (by decide) (fun c3 => ?_) (fun c3 => ?_)
      · exact z_sub [0, 1, 2] rfl (s_X5_rids_34 C hr hrm th p1 k2 h2 x2 m)
      · refine z_iconst (v := 0) C dX5_rids_32 (by decide) ?_
        exact z_zret C hr rfl dX5_rids_33
def l_X5_rids_2 (th : Nat) (p1 : Int32) : Nat → Int32 → MM → Option (Int32 × MM) := lp (fun _ _ => none) (fun k2 => g_X5_rids_2 th p1 k2)
theorem t_X5_rids_2 {Γ : GX} {E : EX} (C : Cx Γ E cX5_rids RX5 3) (hr : Γ.meth.sig.returnType = (some .boolean)) (hrm : Γ.rm = rmX5_rids) (th : Nat) (p1 : Int32) : ∀ (n : Nat) (x2 : Int32) (m : MM), Sm (QM Γ E emI 0 0) Γ E 3 0 0 2 [(0, va_rf (some th)), (1, .int p1), (2, .int x2)] [] m (l_X5_rids_2 th p1 n x2 m) := by
  intro n
  induction n with
  | zero => intros; exact z_none
  | succ n ih => intro x2 m; exact s_X5_rids_2 C hr hrm th p1 (l_X5_rids_2 th p1 n) ih x2 m
set_option maxRecDepth 100000 in
def g_X5_rids_0 (th : Nat) (p1 : Int32) (m : MM) : Option (Int32 × MM) :=
  l_X5_rids_2 th p1 FU 0 m
set_option maxHeartbeats 4000000 in
set_option maxRecDepth 100000 in
theorem s_X5_rids_0 {Γ : GX} {E : EX} (C : Cx Γ E cX5_rids RX5 3) (hr : Γ.meth.sig.returnType = (some .boolean)) (hrm : Γ.rm = rmX5_rids) (th : Nat) (p1 : Int32) (m : MM) : Sm (QM Γ E emI 0 0) Γ E 3 0 0 0 [(0, va_rf (some th)), (1, .int p1)] [] m (g_X5_rids_0 th p1 m) := by
  unfold g_X5_rids_0
  refine z_iconst (v := 0) C dX5_rids_0 (by decide) ?_
  refine z_istore_n (i := 2) (L2 := [(2, .int 0), (0, va_rf (some th)), (1, .int p1)]) C dX5_rids_1 rfl (by decide) rfl ?_
  exact z_sub [1, 2, 0] rfl (t_X5_rids_2 C hr hrm th p1 FU 0 m)
def f_X5_rids (th : Nat) (p1 : Int32) (m : MM) : Option (Int32 × MM) := g_X5_rids_0 th p1 m
theorem M_X5_rids (l : Launch) (E : EX) (th : Nat) (p1 : Int32) (m : MM) (r : Int32) (m2 : MM) (h : f_X5_rids th p1 m = some (r, m2)) : Met l yX5_rids (.code yX5_rids cX5_rids 3 (some .boolean) :: TB) rmX5_rids (va_Pc [.ref th, .int p1] (St E m)) (QR E (emI r) m2) 0 0 (AA E) :=
  met_of (em := emI) (plainFor_of_name rfl) (Nat.le_of_ble_eq_true rfl) (L0 := [(0, va_rf (some th)), (1, .int p1)]) rfl (fun Γ _ hrm C hr hn => s_X5_rids_0 C hr hrm th p1 m) h

theorem dX5_fencesBetween_0 : decode cX5_fencesBetween 0 = .ok (.aload_n 0, 1) := by decide +kernel
theorem dX5_fencesBetween_1 : decode cX5_fencesBetween 1 = .ok (.getfield 22, 3) := by decide +kernel
theorem dX5_fencesBetween_4 : decode cX5_fencesBetween 4 = .ok (.astore_n 3, 1) := by decide +kernel
theorem dX5_fencesBetween_5 : decode cX5_fencesBetween 5 = .ok (.aload_n 3, 1) := by decide +kernel
theorem dX5_fencesBetween_6 : decode cX5_fencesBetween 6 = .ok (.ifnonnull 7, 3) := by decide +kernel
theorem dX5_fencesBetween_9 : decode cX5_fencesBetween 9 = .ok (.iconst 0, 1) := by decide +kernel
theorem dX5_fencesBetween_10 : decode cX5_fencesBetween 10 = .ok (.goto 14, 3) := by decide +kernel
theorem dX5_fencesBetween_13 : decode cX5_fencesBetween 13 = .ok (.aload_n 0, 1) := by decide +kernel
theorem dX5_fencesBetween_14 : decode cX5_fencesBetween 14 = .ok (.aload_n 3, 1) := by decide +kernel
theorem dX5_fencesBetween_15 : decode cX5_fencesBetween 15 = .ok (.getfield 135, 3) := by decide +kernel
theorem dX5_fencesBetween_18 : decode cX5_fencesBetween 18 = .ok (.iconst 0, 1) := by decide +kernel
theorem dX5_fencesBetween_19 : decode cX5_fencesBetween 19 = .ok (.aload_n 1, 1) := by decide +kernel
theorem dX5_fencesBetween_20 : decode cX5_fencesBetween 20 = .ok (.aload_n 2, 1) := by decide +kernel
theorem dX5_fencesBetween_21 : decode cX5_fencesBetween 21 = .ok (.invokevirtual 117, 3) := by decide +kernel
theorem dX5_fencesBetween_24 : decode cX5_fencesBetween 24 = .ok (.ireturn, 1) := by decide +kernel
def rmX5_fencesBetween : Room := { frames := 2, cells := 0, slots := 0, locals := 66 }
set_option maxRecDepth 100000 in
def g_X5_fencesBetween_0 (th : Nat) (p1 : Option Nat) (p2 : Option Nat) (m : MM) : Option (Int32 × MM) :=
  chk (m.K th = 6) (bnd (m.R 602 th 0) (fun y1 => ifn y1 (some (0, m)) (fun a1 => chk (m.K a1 = 9) (cal (f_X5_linesBetween th (m.R 906 a1 0) 0 p1 p2 m) (fun r1 m1 => some (r1, m1))))))
set_option maxHeartbeats 4000000 in
set_option maxRecDepth 100000 in
theorem s_X5_fencesBetween_0 {Γ : GX} {E : EX} (C : Cx Γ E cX5_fencesBetween RX5 4) (hr : Γ.meth.sig.returnType = (some .int)) (hrm : Γ.rm = rmX5_fencesBetween) (th : Nat) (p1 : Option Nat) (p2 : Option Nat) (m : MM) : Sm (QM Γ E emI 0 0) Γ E 4 0 0 0 [(0, va_rf (some th)), (1, va_rf p1), (2, va_rf p2)] [] m (g_X5_fencesBetween_0 th p1 p2 m) := by
  unfold g_X5_fencesBetween_0
  refine z_aload_n C dX5_fencesBetween_0 rfl 0 rfl ?_
  refine z_chk (fun hk1 => ?_)
  refine z_getR C fl_RX5_22 rfl hk1 dX5_fencesBetween_1 ?_
  refine z_bndR (fun y1 => ?_)
  refine z_astore_n (i := 3) (L2 := [(3, va_rf y1), (0, va_rf (some th)), (1, va_rf p1), (2, va_rf p2)]) C dX5_fencesBetween_4 rfl (by decide) (by simp [cat_rf, cat_i, cat_l, cat_a]) ?_
  refine z_aload_n C dX5_fencesBetween_5 rfl 0 rfl ?_
  refine z_ifnonnull (tgt := 13) C dX5_fencesBetween_6 (by decide) (fun a1 ha1 => ?_) (fun hn1 => ?_)
  · refine z_aload_n C dX5_fencesBetween_13 rfl 1 rfl ?_
    refine z_aload_n C dX5_fencesBetween_14 rfl 0 rfl ?_
    refine z_chk (fun hk2 => ?_)
    refine z_getR C fl_RX5_135 ha1 hk2 dX5_fencesBetween_15 ?_
    refine z_iconst (v := 0) C dX5_fencesBetween_18 (by decide) ?_
    refine z_aload_n C dX5_fencesBetween_19 rfl 2 rfl ?_
    refine z_aload_n C dX5_fencesBetween_20 rfl 3 rfl ?_
    refine z_cVI [va_rf (m.R 906 a1 0), .int 0, va_rf p1, va_rf p2] [] C mv_RX5_117 (fun r0 m0 h0 => M_X5_linesBetween _ _ _ _ _ _ _ _ _ _ h0) rfl rfl ⟨by rw [hrm]; exact Nat.le_of_ble_eq_true rfl, by rw [hrm]; exact Nat.le_of_ble_eq_true rfl⟩ ⟨by rw [hrm]; exact Nat.le_of_ble_eq_true rfl, by rw [hrm]; exact Nat.le_of_ble_eq_true rfl⟩ rfl hk1 rfl rfl rfl (Nat.le_of_ble_eq_true rfl) dX5_fencesBetween_21 (fun r1 m1 => ?_)
    exact z_iret C hr dX5_fencesBetween_24
  · refine z_iconst (v := 0) C dX5_fencesBetween_9 (by decide) ?_
    refine z_goto (tgt := 24) C dX5_fencesBetween_10 (by decide) ?_
    exact z_iret C hr dX5_fencesBetween_24
def f_X5_fencesBetween (th : Nat) (p1 : Option Nat) (p2 : Option Nat) (m : MM) : Option (Int32 × MM) := g_X5_fencesBetween_0 th p1 p2 m
theorem M_X5_fencesBetween (l : Launch) (E : EX) (th : Nat) (p1 : Option Nat) (p2 : Option Nat) (m : MM) (r : Int32) (m2 : MM) (h : f_X5_fencesBetween th p1 p2 m = some (r, m2)) : Met l yX5_fencesBetween (.code yX5_fencesBetween cX5_fencesBetween 4 (some .int) :: TB) rmX5_fencesBetween (va_Pc [.ref th, va_rf p1, va_rf p2] (St E m)) (QR E (emI r) m2) 0 0 (AA E) :=
  met_of (em := emI) (plainFor_of_name rfl) (by simp [lg_sl, cat_rf, cat_i, cat_l, cat_a]) (L0 := [(0, va_rf (some th)), (1, va_rf p1), (2, va_rf p2)]) (by simp [lv_args, cat_rf, cat_i, cat_l, cat_a] <;> rfl) (fun Γ _ hrm C hr hn => s_X5_fencesBetween_0 C hr hrm th p1 p2 m) h

theorem dX5_clash_0 : decode cX5_clash 0 = .ok (.aload_n 0, 1) := by decide +kernel
theorem dX5_clash_1 : decode cX5_clash 1 = .ok (.getfield 26, 3) := by decide +kernel
theorem dX5_clash_4 : decode cX5_clash 4 = .ok (.ifnonnull 5, 3) := by decide +kernel
theorem dX5_clash_7 : decode cX5_clash 7 = .ok (.iconst 0, 1) := by decide +kernel
theorem dX5_clash_8 : decode cX5_clash 8 = .ok (.ireturn, 1) := by decide +kernel
theorem dX5_clash_9 : decode cX5_clash 9 = .ok (.iconst 0, 1) := by decide +kernel
theorem dX5_clash_10 : decode cX5_clash 10 = .ok (.istore_n 3, 1) := by decide +kernel
theorem dX5_clash_11 : decode cX5_clash 11 = .ok (.iload_n 3, 1) := by decide +kernel
theorem dX5_clash_12 : decode cX5_clash 12 = .ok (.aload_n 0, 1) := by decide +kernel
theorem dX5_clash_13 : decode cX5_clash 13 = .ok (.getfield 26, 3) := by decide +kernel
theorem dX5_clash_16 : decode cX5_clash 16 = .ok (.getfield 98, 3) := by decide +kernel
theorem dX5_clash_19 : decode cX5_clash 19 = .ok (.getfield 103, 3) := by decide +kernel
theorem dX5_clash_22 : decode cX5_clash 22 = .ok (.if_icmp .ge 31, 3) := by decide +kernel
theorem dX5_clash_25 : decode cX5_clash 25 = .ok (.aload_n 0, 1) := by decide +kernel
theorem dX5_clash_26 : decode cX5_clash 26 = .ok (.aload_n 1, 1) := by decide +kernel
theorem dX5_clash_27 : decode cX5_clash 27 = .ok (.aload_n 2, 1) := by decide +kernel
theorem dX5_clash_28 : decode cX5_clash 28 = .ok (.iload_n 3, 1) := by decide +kernel
theorem dX5_clash_29 : decode cX5_clash 29 = .ok (.invokevirtual 106, 3) := by decide +kernel
theorem dX5_clash_32 : decode cX5_clash 32 = .ok (.ifCond .ne 13, 3) := by decide +kernel
theorem dX5_clash_35 : decode cX5_clash 35 = .ok (.aload_n 0, 1) := by decide +kernel
theorem dX5_clash_36 : decode cX5_clash 36 = .ok (.aload_n 2, 1) := by decide +kernel
theorem dX5_clash_37 : decode cX5_clash 37 = .ok (.aload_n 1, 1) := by decide +kernel
theorem dX5_clash_38 : decode cX5_clash 38 = .ok (.iload_n 3, 1) := by decide +kernel
theorem dX5_clash_39 : decode cX5_clash 39 = .ok (.invokevirtual 106, 3) := by decide +kernel
theorem dX5_clash_42 : decode cX5_clash 42 = .ok (.ifCond .eq 5, 3) := by decide +kernel
theorem dX5_clash_45 : decode cX5_clash 45 = .ok (.iconst 1, 1) := by decide +kernel
theorem dX5_clash_46 : decode cX5_clash 46 = .ok (.ireturn, 1) := by decide +kernel
theorem dX5_clash_47 : decode cX5_clash 47 = .ok (.iinc 3 1, 3) := by decide +kernel
theorem dX5_clash_50 : decode cX5_clash 50 = .ok (.goto (-39), 3) := by decide +kernel
theorem dX5_clash_53 : decode cX5_clash 53 = .ok (.iconst 0, 1) := by decide +kernel
theorem dX5_clash_54 : decode cX5_clash 54 = .ok (.ireturn, 1) := by decide +kernel
def rmX5_clash : Room := { frames := 3, cells := 0, slots := 0, locals := 95 }
set_option maxRecDepth 100000 in
def g_X5_clash_11 (th : Nat) (p1 : Option Nat) (p2 : Option Nat) (k11 : Int32 → MM → Option (Int32 × MM)) (x3 : Int32) (m : MM) : Option (Int32 × MM) :=
  chk (m.K th = 6) (ck m (m.R 603 th 0) 3 (fun a1 => ck m (m.R 300 a1 0) 7 (fun a2 => if (m.I 703 a2 0) ≤ x3 then (some (0, m)) else (cal (f_X5_barsTwo th p1 p2 x3 m) (fun r1 m1 => if r1 = 0 then (chk (m1.K th = 6) (cal (f_X5_barsTwo th p2 p1 x3 m1) (fun r2 m2 => if r2 = 0 then (k11 (x3 + 1) m2) else (some (1, m2))))) else (some (1, m1)))))))
set_option maxHeartbeats 4000000 in
set_option maxRecDepth 100000 in
theorem s_X5_clash_11 {Γ : GX} {E : EX} (C : Cx Γ E cX5_clash RX5 4) (hr : Γ.meth.sig.returnType = (some .boolean)) (hrm : Γ.rm = rmX5_clash) (th : Nat) (p1 : Option Nat) (p2 : Option Nat) (k11 : Int32 → MM → Option (Int32 × MM)) (h11 : ∀ (x3 : Int32) (m : MM), Sm (QM Γ E emI 0 0) Γ E 4 0 0 11 [(0, va_rf (some th)), (1, va_rf p1), (2, va_rf p2), (3, .int x3)] [] m (k11 x3 m)) (x3 : Int32) (m : MM) : Sm (QM Γ E emI 0 0) Γ E 4 0 0 11 [(0, va_rf (some th)), (1, va_rf p1), (2, va_rf p2), (3, .int x3)] [] m (g_X5_clash_11 th p1 p2 k11 x3 m) := by
  unfold g_X5_clash_11
  refine z_iload_n C dX5_clash_11 rfl 3 rfl ?_
  refine z_aload_n C dX5_clash_12 rfl 0 rfl ?_
  refine z_chk (fun hk1 => ?_)
  refine z_getR C fl_RX5_26 rfl hk1 dX5_clash_13 ?_
  refine z_ck (fun a1 hr1 hk2 => ?_)
  refine z_getR C fl_RX5_98 hr1 hk2 dX5_clash_16 ?_
  refine z_ck (fun a2 hr2 hk3 => ?_)
  refine z_getI C fl_RX5_103 hr2 hk3 dX5_clash_19 ?_
  refine z_icmp_ge (tgt := 53) C dX5_clash_22 (by decide) (fun c1 => ?_) (fun c1 => ?_)
  · refine z_iconst (v := 0) C dX5_clash_53 (by decide) ?_
    exact z_zret C hr rfl dX5_clash_54
  · refine z_aload_n C dX5_clash_25 rfl 0 rfl ?_
    refine z_aload_n C dX5_clash_26 rfl 1 rfl ?_
    refine z_aload_n C dX5_clash_27 rfl 2 rfl ?_
    refine z_iload_n C dX5_clash_28 rfl 3 rfl ?_
    refine z_cVI [va_rf p1, va_rf p2, .int x3] [] C mv_RX5_106 (fun r0 m0 h0 => M_X5_barsTwo _ _ _ _ _ _ _ _ _ h0) rfl rfl ⟨by rw [hrm]; exact Nat.le_of_ble_eq_true rfl, by rw [hrm]; exact Nat.le_of_ble_eq_true rfl⟩ ⟨by rw [hrm]; exact Nat.le_of_ble_eq_true rfl, by rw [hrm]; exact Nat.le_of_ble_eq_true rfl⟩ rfl hk1 rfl rfl rfl (Nat.le_of_ble_eq_true rfl) dX5_clash_29 (fun r1 m1 => ?_)
    refine z_if_ne (tgt := 45) C dX5_clash_32 (by decide) (fun c2 => ?_) (fun c2 => ?_)
    · refine z_iconst (v := 1) C dX5_clash_45 (by decide) ?_
      exact z_zret C hr rfl dX5_clash_46
    · refine z_aload_n C dX5_clash_35 rfl 0 rfl ?_
      refine z_aload_n C dX5_clash_36 rfl 2 rfl ?_
      refine z_aload_n C dX5_clash_37 rfl 1 rfl ?_
      refine z_iload_n C dX5_clash_38 rfl 3 rfl ?_
      refine z_chk (fun hk4 => ?_)
      refine z_cVI [va_rf p2, va_rf p1, .int x3] [] C mv_RX5_106 (fun r0 m0 h0 => M_X5_barsTwo _ _ _ _ _ _ _ _ _ h0) rfl rfl ⟨by rw [hrm]; exact Nat.le_of_ble_eq_true rfl, by rw [hrm]; exact Nat.le_of_ble_eq_true rfl⟩ ⟨by rw [hrm]; exact Nat.le_of_ble_eq_true rfl, by rw [hrm]; exact Nat.le_of_ble_eq_true rfl⟩ rfl hk4 rfl rfl rfl (Nat.le_of_ble_eq_true rfl) dX5_clash_39 (fun r2 m2 => ?_)
      refine z_if_eq (tgt := 47) C dX5_clash_42 (by decide) (fun c3 => ?_) (fun c3 => ?_)
      · refine z_iinc (v := 1) (L2 := [(3, .int (x3 + 1)), (0, va_rf (some th)), (1, va_rf p1), (2, va_rf p2)]) C dX5_clash_47 3 rfl (by decide) (by decide) (by simp [cat_rf, cat_i, cat_l, cat_a]) ?_
        refine z_goto (tgt := 11) C dX5_clash_50 (by decide) ?_
        exact z_sub [1, 2, 3, 0] rfl (h11 (x3 + 1) m2)
      · refine z_iconst (v := 1) C dX5_clash_45 (by decide) ?_
        exact z_zret C hr rfl dX5_clash_46
def l_X5_clash_11 (th : Nat) (p1 : Option Nat) (p2 : Option Nat) : Nat → Int32 → MM → Option (Int32 × MM) := lp (fun _ _ => none) (fun k11 => g_X5_clash_11 th p1 p2 k11)
theorem t_X5_clash_11 {Γ : GX} {E : EX} (C : Cx Γ E cX5_clash RX5 4) (hr : Γ.meth.sig.returnType = (some .boolean)) (hrm : Γ.rm = rmX5_clash) (th : Nat) (p1 : Option Nat) (p2 : Option Nat) : ∀ (n : Nat) (x3 : Int32) (m : MM), Sm (QM Γ E emI 0 0) Γ E 4 0 0 11 [(0, va_rf (some th)), (1, va_rf p1), (2, va_rf p2), (3, .int x3)] [] m (l_X5_clash_11 th p1 p2 n x3 m) := by
  intro n
  induction n with
  | zero => intros; exact z_none
  | succ n ih => intro x3 m; exact s_X5_clash_11 C hr hrm th p1 p2 (l_X5_clash_11 th p1 p2 n) ih x3 m
set_option maxRecDepth 100000 in
def g_X5_clash_0 (th : Nat) (p1 : Option Nat) (p2 : Option Nat) (m : MM) : Option (Int32 × MM) :=
  chk (m.K th = 6) (ifn (m.R 603 th 0) (some (0, m)) (fun a3 => l_X5_clash_11 th p1 p2 FU 0 m))
set_option maxHeartbeats 4000000 in
set_option maxRecDepth 100000 in
theorem s_X5_clash_0 {Γ : GX} {E : EX} (C : Cx Γ E cX5_clash RX5 4) (hr : Γ.meth.sig.returnType = (some .boolean)) (hrm : Γ.rm = rmX5_clash) (th : Nat) (p1 : Option Nat) (p2 : Option Nat) (m : MM) : Sm (QM Γ E emI 0 0) Γ E 4 0 0 0 [(0, va_rf (some th)), (1, va_rf p1), (2, va_rf p2)] [] m (g_X5_clash_0 th p1 p2 m) := by
  unfold g_X5_clash_0
  refine z_aload_n C dX5_clash_0 rfl 0 rfl ?_
  refine z_chk (fun hk5 => ?_)
  refine z_getR C fl_RX5_26 rfl hk5 dX5_clash_1 ?_
  refine z_ifnonnull (tgt := 9) C dX5_clash_4 (by decide) (fun a3 ha1 => ?_) (fun hn1 => ?_)
  · refine z_iconst (v := 0) C dX5_clash_9 (by decide) ?_
    refine z_istore_n (i := 3) (L2 := [(3, .int 0), (0, va_rf (some th)), (1, va_rf p1), (2, va_rf p2)]) C dX5_clash_10 rfl (by decide) (by simp [cat_rf, cat_i, cat_l, cat_a]) ?_
    exact z_sub [1, 2, 3, 0] rfl (t_X5_clash_11 C hr hrm th p1 p2 FU 0 m)
  · refine z_iconst (v := 0) C dX5_clash_7 (by decide) ?_
    exact z_zret C hr rfl dX5_clash_8
def f_X5_clash (th : Nat) (p1 : Option Nat) (p2 : Option Nat) (m : MM) : Option (Int32 × MM) := g_X5_clash_0 th p1 p2 m
theorem M_X5_clash (l : Launch) (E : EX) (th : Nat) (p1 : Option Nat) (p2 : Option Nat) (m : MM) (r : Int32) (m2 : MM) (h : f_X5_clash th p1 p2 m = some (r, m2)) : Met l yX5_clash (.code yX5_clash cX5_clash 4 (some .boolean) :: TB) rmX5_clash (va_Pc [.ref th, va_rf p1, va_rf p2] (St E m)) (QR E (emI r) m2) 0 0 (AA E) :=
  met_of (em := emI) (plainFor_of_name rfl) (by simp [lg_sl, cat_rf, cat_i, cat_l, cat_a]) (L0 := [(0, va_rf (some th)), (1, va_rf p1), (2, va_rf p2)]) (by simp [lv_args, cat_rf, cat_i, cat_l, cat_a] <;> rfl) (fun Γ _ hrm C hr hn => s_X5_clash_0 C hr hrm th p1 p2 m) h

theorem dX5_foes_0 : decode cX5_foes 0 = .ok (.iload_n 1, 1) := by decide +kernel
theorem dX5_foes_1 : decode cX5_foes 1 = .ok (.iload_n 2, 1) := by decide +kernel
theorem dX5_foes_2 : decode cX5_foes 2 = .ok (.if_icmp .eq 33, 3) := by decide +kernel
theorem dX5_foes_5 : decode cX5_foes 5 = .ok (.aload_n 0, 1) := by decide +kernel
theorem dX5_foes_6 : decode cX5_foes 6 = .ok (.iload_n 1, 1) := by decide +kernel
theorem dX5_foes_7 : decode cX5_foes 7 = .ok (.iload_n 2, 1) := by decide +kernel
theorem dX5_foes_8 : decode cX5_foes 8 = .ok (.invokevirtual 84, 3) := by decide +kernel
theorem dX5_foes_11 : decode cX5_foes 11 = .ok (.ifCond .eq 24, 3) := by decide +kernel
theorem dX5_foes_14 : decode cX5_foes 14 = .ok (.aload_n 0, 1) := by decide +kernel
theorem dX5_foes_15 : decode cX5_foes 15 = .ok (.aload_n 0, 1) := by decide +kernel
theorem dX5_foes_16 : decode cX5_foes 16 = .ok (.iload_n 1, 1) := by decide +kernel
theorem dX5_foes_17 : decode cX5_foes 17 = .ok (.invokevirtual 87, 3) := by decide +kernel
theorem dX5_foes_20 : decode cX5_foes 20 = .ok (.aload_n 0, 1) := by decide +kernel
theorem dX5_foes_21 : decode cX5_foes 21 = .ok (.iload_n 2, 1) := by decide +kernel
theorem dX5_foes_22 : decode cX5_foes 22 = .ok (.invokevirtual 87, 3) := by decide +kernel
theorem dX5_foes_25 : decode cX5_foes 25 = .ok (.invokevirtual 91, 3) := by decide +kernel
theorem dX5_foes_28 : decode cX5_foes 28 = .ok (.ifCond .eq 7, 3) := by decide +kernel
theorem dX5_foes_31 : decode cX5_foes 31 = .ok (.iconst 1, 1) := by decide +kernel
theorem dX5_foes_32 : decode cX5_foes 32 = .ok (.goto 4, 3) := by decide +kernel
theorem dX5_foes_35 : decode cX5_foes 35 = .ok (.iconst 0, 1) := by decide +kernel
theorem dX5_foes_36 : decode cX5_foes 36 = .ok (.ireturn, 1) := by decide +kernel
def rmX5_foes : Room := { frames := 4, cells := 0, slots := 0, locals := 118 }
set_option maxRecDepth 100000 in
def g_X5_foes_35 (th : Nat) (p1 : Int32) (p2 : Int32) (m : MM) : Option (Int32 × MM) :=
  some (0, m)
set_option maxHeartbeats 4000000 in
set_option maxRecDepth 100000 in
theorem s_X5_foes_35 {Γ : GX} {E : EX} (C : Cx Γ E cX5_foes RX5 3) (hr : Γ.meth.sig.returnType = (some .boolean)) (hrm : Γ.rm = rmX5_foes) (th : Nat) (p1 : Int32) (p2 : Int32) (m : MM) : Sm (QM Γ E emI 0 0) Γ E 3 0 0 35 [(0, va_rf (some th)), (1, .int p1), (2, .int p2)] [] m (g_X5_foes_35 th p1 p2 m) := by
  unfold g_X5_foes_35
  refine z_iconst (v := 0) C dX5_foes_35 (by decide) ?_
  exact z_zret C hr rfl dX5_foes_36
set_option maxRecDepth 100000 in
def g_X5_foes_0 (th : Nat) (p1 : Int32) (p2 : Int32) (m : MM) : Option (Int32 × MM) :=
  if p1 = p2 then (g_X5_foes_35 th p1 p2 m) else (chk (m.K th = 6) (cal (f_X5_bothStand th p1 p2 m) (fun r1 m1 => if r1 = 0 then (g_X5_foes_35 th p1 p2 m1) else (chk (m1.K th = 6) (cal (f_X5_body th p1 m1) (fun r2 m2 => chk (m2.K th = 6) (cal (f_X5_body th p2 m2) (fun r3 m3 => chk (m3.K th = 6) (cal (f_X5_clash th r2 r3 m3) (fun r4 m4 => if r4 = 0 then (g_X5_foes_35 th p1 p2 m4) else (some (1, m4))))))))))))
set_option maxHeartbeats 4000000 in
set_option maxRecDepth 100000 in
theorem s_X5_foes_0 {Γ : GX} {E : EX} (C : Cx Γ E cX5_foes RX5 3) (hr : Γ.meth.sig.returnType = (some .boolean)) (hrm : Γ.rm = rmX5_foes) (th : Nat) (p1 : Int32) (p2 : Int32) (m : MM) : Sm (QM Γ E emI 0 0) Γ E 3 0 0 0 [(0, va_rf (some th)), (1, .int p1), (2, .int p2)] [] m (g_X5_foes_0 th p1 p2 m) := by
  unfold g_X5_foes_0
  refine z_iload_n C dX5_foes_0 rfl 1 rfl ?_
  refine z_iload_n C dX5_foes_1 rfl 2 rfl ?_
  refine z_icmp_eq (tgt := 35) C dX5_foes_2 (by decide) (fun c1 => ?_) (fun c1 => ?_)
  · exact z_sub [0, 1, 2] rfl (s_X5_foes_35 C hr hrm th p1 p2 m)
  · refine z_aload_n C dX5_foes_5 rfl 0 rfl ?_
    refine z_iload_n C dX5_foes_6 rfl 1 rfl ?_
    refine z_iload_n C dX5_foes_7 rfl 2 rfl ?_
    refine z_chk (fun hk1 => ?_)
    refine z_cVI [.int p1, .int p2] [] C mv_RX5_84 (fun r0 m0 h0 => M_X5_bothStand _ _ _ _ _ _ _ _ h0) rfl rfl ⟨by rw [hrm]; exact Nat.le_of_ble_eq_true rfl, by rw [hrm]; exact Nat.le_of_ble_eq_true rfl⟩ ⟨by rw [hrm]; exact Nat.le_of_ble_eq_true rfl, by rw [hrm]; exact Nat.le_of_ble_eq_true rfl⟩ rfl hk1 rfl rfl rfl (Nat.le_of_ble_eq_true rfl) dX5_foes_8 (fun r1 m1 => ?_)
    refine z_if_eq (tgt := 35) C dX5_foes_11 (by decide) (fun c2 => ?_) (fun c2 => ?_)
    · exact z_sub [0, 1, 2] rfl (s_X5_foes_35 C hr hrm th p1 p2 m1)
    · refine z_aload_n C dX5_foes_14 rfl 0 rfl ?_
      refine z_aload_n C dX5_foes_15 rfl 0 rfl ?_
      refine z_iload_n C dX5_foes_16 rfl 1 rfl ?_
      refine z_chk (fun hk2 => ?_)
      refine z_cVR [.int p1] [va_rf (some th)] C mv_RX5_87 (fun r0 m0 h0 => M_X5_body _ _ _ _ _ _ _ h0) rfl rfl ⟨by rw [hrm]; exact Nat.le_of_ble_eq_true rfl, by rw [hrm]; exact Nat.le_of_ble_eq_true rfl⟩ ⟨by rw [hrm]; exact Nat.le_of_ble_eq_true rfl, by rw [hrm]; exact Nat.le_of_ble_eq_true rfl⟩ rfl hk2 rfl rfl rfl (Nat.le_of_ble_eq_true rfl) dX5_foes_17 (fun r2 m2 => ?_)
      refine z_aload_n C dX5_foes_20 rfl 0 rfl ?_
      refine z_iload_n C dX5_foes_21 rfl 2 rfl ?_
      refine z_chk (fun hk3 => ?_)
      refine z_cVR [.int p2] [va_rf r2, va_rf (some th)] C mv_RX5_87 (fun r0 m0 h0 => M_X5_body _ _ _ _ _ _ _ h0) rfl rfl ⟨by rw [hrm]; exact Nat.le_of_ble_eq_true rfl, by rw [hrm]; exact Nat.le_of_ble_eq_true rfl⟩ ⟨by rw [hrm]; exact Nat.le_of_ble_eq_true rfl, by rw [hrm]; exact Nat.le_of_ble_eq_true rfl⟩ rfl hk3 rfl rfl rfl (by simp [cat_rf, cat_i, cat_l, cat_a]) dX5_foes_22 (fun r3 m3 => ?_)
      refine z_chk (fun hk4 => ?_)
      refine z_cVI [va_rf r2, va_rf r3] [] C mv_RX5_91 (fun r0 m0 h0 => M_X5_clash _ _ _ _ _ _ _ _ h0) rfl rfl ⟨by rw [hrm]; exact Nat.le_of_ble_eq_true rfl, by rw [hrm]; exact Nat.le_of_ble_eq_true rfl⟩ ⟨by rw [hrm]; exact Nat.le_of_ble_eq_true rfl, by rw [hrm]; exact Nat.le_of_ble_eq_true rfl⟩ rfl hk4 rfl rfl rfl (Nat.le_of_ble_eq_true rfl) dX5_foes_25 (fun r4 m4 => ?_)
      refine z_if_eq (tgt := 35) C dX5_foes_28 (by decide) (fun c3 => ?_) (fun c3 => ?_)
      · exact z_sub [0, 1, 2] rfl (s_X5_foes_35 C hr hrm th p1 p2 m4)
      · refine z_iconst (v := 1) C dX5_foes_31 (by decide) ?_
        refine z_goto (tgt := 36) C dX5_foes_32 (by decide) ?_
        exact z_zret C hr rfl dX5_foes_36
def f_X5_foes (th : Nat) (p1 : Int32) (p2 : Int32) (m : MM) : Option (Int32 × MM) := g_X5_foes_0 th p1 p2 m
theorem M_X5_foes (l : Launch) (E : EX) (th : Nat) (p1 : Int32) (p2 : Int32) (m : MM) (r : Int32) (m2 : MM) (h : f_X5_foes th p1 p2 m = some (r, m2)) : Met l yX5_foes (.code yX5_foes cX5_foes 3 (some .boolean) :: TB) rmX5_foes (va_Pc [.ref th, .int p1, .int p2] (St E m)) (QR E (emI r) m2) 0 0 (AA E) :=
  met_of (em := emI) (plainFor_of_name rfl) (Nat.le_of_ble_eq_true rfl) (L0 := [(0, va_rf (some th)), (1, .int p1), (2, .int p2)]) rfl (fun Γ _ hrm C hr hn => s_X5_foes_0 C hr hrm th p1 p2 m) h

theorem dX5_findFoes_0 : decode cX5_findFoes 0 = .ok (.iconst 0, 1) := by decide +kernel
theorem dX5_findFoes_1 : decode cX5_findFoes 1 = .ok (.istore_n 1, 1) := by decide +kernel
theorem dX5_findFoes_2 : decode cX5_findFoes 2 = .ok (.iconst 0, 1) := by decide +kernel
theorem dX5_findFoes_3 : decode cX5_findFoes 3 = .ok (.istore_n 2, 1) := by decide +kernel
theorem dX5_findFoes_4 : decode cX5_findFoes 4 = .ok (.iload_n 2, 1) := by decide +kernel
theorem dX5_findFoes_5 : decode cX5_findFoes 5 = .ok (.aload_n 0, 1) := by decide +kernel
theorem dX5_findFoes_6 : decode cX5_findFoes 6 = .ok (.getfield 18, 3) := by decide +kernel
theorem dX5_findFoes_9 : decode cX5_findFoes 9 = .ok (.arraylength, 1) := by decide +kernel
theorem dX5_findFoes_10 : decode cX5_findFoes 10 = .ok (.if_icmp .ge 16, 3) := by decide +kernel
theorem dX5_findFoes_13 : decode cX5_findFoes 13 = .ok (.aload_n 0, 1) := by decide +kernel
theorem dX5_findFoes_14 : decode cX5_findFoes 14 = .ok (.getfield 18, 3) := by decide +kernel
theorem dX5_findFoes_17 : decode cX5_findFoes 17 = .ok (.iload_n 2, 1) := by decide +kernel
theorem dX5_findFoes_18 : decode cX5_findFoes 18 = .ok (.iconst 0, 1) := by decide +kernel
theorem dX5_findFoes_19 : decode cX5_findFoes 19 = .ok (.iastore, 1) := by decide +kernel
theorem dX5_findFoes_20 : decode cX5_findFoes 20 = .ok (.iinc 2 1, 3) := by decide +kernel
theorem dX5_findFoes_23 : decode cX5_findFoes 23 = .ok (.goto (-19), 3) := by decide +kernel
theorem dX5_findFoes_26 : decode cX5_findFoes 26 = .ok (.iconst 0, 1) := by decide +kernel
theorem dX5_findFoes_27 : decode cX5_findFoes 27 = .ok (.istore_n 2, 1) := by decide +kernel
theorem dX5_findFoes_28 : decode cX5_findFoes 28 = .ok (.iload_n 2, 1) := by decide +kernel
theorem dX5_findFoes_29 : decode cX5_findFoes 29 = .ok (.aload_n 0, 1) := by decide +kernel
theorem dX5_findFoes_30 : decode cX5_findFoes 30 = .ok (.getfield 18, 3) := by decide +kernel
theorem dX5_findFoes_33 : decode cX5_findFoes 33 = .ok (.arraylength, 1) := by decide +kernel
theorem dX5_findFoes_34 : decode cX5_findFoes 34 = .ok (.if_icmp .ge 63, 3) := by decide +kernel
theorem dX5_findFoes_37 : decode cX5_findFoes 37 = .ok (.iload_n 2, 1) := by decide +kernel
theorem dX5_findFoes_38 : decode cX5_findFoes 38 = .ok (.iconst 1, 1) := by decide +kernel
theorem dX5_findFoes_39 : decode cX5_findFoes 39 = .ok (.iadd, 1) := by decide +kernel
theorem dX5_findFoes_40 : decode cX5_findFoes 40 = .ok (.istore_n 3, 1) := by decide +kernel
theorem dX5_findFoes_41 : decode cX5_findFoes 41 = .ok (.iload_n 3, 1) := by decide +kernel
theorem dX5_findFoes_42 : decode cX5_findFoes 42 = .ok (.aload_n 0, 1) := by decide +kernel
theorem dX5_findFoes_43 : decode cX5_findFoes 43 = .ok (.getfield 18, 3) := by decide +kernel
theorem dX5_findFoes_46 : decode cX5_findFoes 46 = .ok (.arraylength, 1) := by decide +kernel
theorem dX5_findFoes_47 : decode cX5_findFoes 47 = .ok (.if_icmp .ge 44, 3) := by decide +kernel
theorem dX5_findFoes_50 : decode cX5_findFoes 50 = .ok (.aload_n 0, 1) := by decide +kernel
theorem dX5_findFoes_51 : decode cX5_findFoes 51 = .ok (.iload_n 2, 1) := by decide +kernel
theorem dX5_findFoes_52 : decode cX5_findFoes 52 = .ok (.iload_n 3, 1) := by decide +kernel
theorem dX5_findFoes_53 : decode cX5_findFoes 53 = .ok (.invokevirtual 95, 3) := by decide +kernel
theorem dX5_findFoes_56 : decode cX5_findFoes 56 = .ok (.ifCond .eq 29, 3) := by decide +kernel
theorem dX5_findFoes_59 : decode cX5_findFoes 59 = .ok (.aload_n 0, 1) := by decide +kernel
theorem dX5_findFoes_60 : decode cX5_findFoes 60 = .ok (.getfield 18, 3) := by decide +kernel
theorem dX5_findFoes_63 : decode cX5_findFoes 63 = .ok (.iload_n 2, 1) := by decide +kernel
theorem dX5_findFoes_64 : decode cX5_findFoes 64 = .ok (.dup2, 1) := by decide +kernel
theorem dX5_findFoes_65 : decode cX5_findFoes 65 = .ok (.iaload, 1) := by decide +kernel
theorem dX5_findFoes_66 : decode cX5_findFoes 66 = .ok (.iconst 1, 1) := by decide +kernel
theorem dX5_findFoes_67 : decode cX5_findFoes 67 = .ok (.iload_n 3, 1) := by decide +kernel
theorem dX5_findFoes_68 : decode cX5_findFoes 68 = .ok (.ishl, 1) := by decide +kernel
theorem dX5_findFoes_69 : decode cX5_findFoes 69 = .ok (.ior, 1) := by decide +kernel
theorem dX5_findFoes_70 : decode cX5_findFoes 70 = .ok (.iastore, 1) := by decide +kernel
theorem dX5_findFoes_71 : decode cX5_findFoes 71 = .ok (.aload_n 0, 1) := by decide +kernel
theorem dX5_findFoes_72 : decode cX5_findFoes 72 = .ok (.getfield 18, 3) := by decide +kernel
theorem dX5_findFoes_75 : decode cX5_findFoes 75 = .ok (.iload_n 3, 1) := by decide +kernel
theorem dX5_findFoes_76 : decode cX5_findFoes 76 = .ok (.dup2, 1) := by decide +kernel
theorem dX5_findFoes_77 : decode cX5_findFoes 77 = .ok (.iaload, 1) := by decide +kernel
theorem dX5_findFoes_78 : decode cX5_findFoes 78 = .ok (.iconst 1, 1) := by decide +kernel
theorem dX5_findFoes_79 : decode cX5_findFoes 79 = .ok (.iload_n 2, 1) := by decide +kernel
theorem dX5_findFoes_80 : decode cX5_findFoes 80 = .ok (.ishl, 1) := by decide +kernel
theorem dX5_findFoes_81 : decode cX5_findFoes 81 = .ok (.ior, 1) := by decide +kernel
theorem dX5_findFoes_82 : decode cX5_findFoes 82 = .ok (.iastore, 1) := by decide +kernel
theorem dX5_findFoes_83 : decode cX5_findFoes 83 = .ok (.iconst 1, 1) := by decide +kernel
theorem dX5_findFoes_84 : decode cX5_findFoes 84 = .ok (.istore_n 1, 1) := by decide +kernel
theorem dX5_findFoes_85 : decode cX5_findFoes 85 = .ok (.iinc 3 1, 3) := by decide +kernel
theorem dX5_findFoes_88 : decode cX5_findFoes 88 = .ok (.goto (-47), 3) := by decide +kernel
theorem dX5_findFoes_91 : decode cX5_findFoes 91 = .ok (.iinc 2 1, 3) := by decide +kernel
theorem dX5_findFoes_94 : decode cX5_findFoes 94 = .ok (.goto (-66), 3) := by decide +kernel
theorem dX5_findFoes_97 : decode cX5_findFoes 97 = .ok (.iload_n 1, 1) := by decide +kernel
theorem dX5_findFoes_98 : decode cX5_findFoes 98 = .ok (.ireturn, 1) := by decide +kernel
def rmX5_findFoes : Room := { frames := 5, cells := 0, slots := 0, locals := 140 }
set_option maxRecDepth 100000 in
def g_X5_findFoes_4 (th : Nat) (k4 : Int32 → Int32 → MM → Option (Int32 × MM)) (k26 : Int32 → MM → Option (Int32 × MM)) (x1 : Int32) (x2 : Int32) (m : MM) : Option (Int32 × MM) :=
  chk (m.K th = 6) (ck m (m.R 601 th 0) 22 (fun a1 => if (Int32.ofNat (m.N a1)) ≤ x2 then (k26 x1 m) else (chk (inb x2 (m.N a1) = true) (bnd (m.sI 22 a1 (Int32.toNatClampNeg x2) 0) (fun m1 => k4 x1 (x2 + 1) m1)))))
set_option maxHeartbeats 4000000 in
set_option maxRecDepth 100000 in
theorem s_X5_findFoes_4 {Γ : GX} {E : EX} (C : Cx Γ E cX5_findFoes RX5 4) (hr : Γ.meth.sig.returnType = (some .boolean)) (hrm : Γ.rm = rmX5_findFoes) (th : Nat) (k4 : Int32 → Int32 → MM → Option (Int32 × MM)) (k26 : Int32 → MM → Option (Int32 × MM)) (h4 : ∀ (x1 : Int32) (x2 : Int32) (m : MM), Sm (QM Γ E emI 0 0) Γ E 4 0 0 4 [(0, va_rf (some th)), (1, .int x1), (2, .int x2)] [] m (k4 x1 x2 m)) (h26 : ∀ (x1 : Int32) (m : MM), Sm (QM Γ E emI 0 0) Γ E 4 0 0 26 [(0, va_rf (some th)), (1, .int x1)] [] m (k26 x1 m)) (x1 : Int32) (x2 : Int32) (m : MM) : Sm (QM Γ E emI 0 0) Γ E 4 0 0 4 [(0, va_rf (some th)), (1, .int x1), (2, .int x2)] [] m (g_X5_findFoes_4 th k4 k26 x1 x2 m) := by
  unfold g_X5_findFoes_4
  refine z_iload_n C dX5_findFoes_4 rfl 2 rfl ?_
  refine z_aload_n C dX5_findFoes_5 rfl 0 rfl ?_
  refine z_chk (fun hk1 => ?_)
  refine z_getR C fl_RX5_18 rfl hk1 dX5_findFoes_6 ?_
  refine z_ck (fun a1 hr1 hk2 => ?_)
  refine z_alen C hr1 hk2 (by decide) (by decide) dX5_findFoes_9 ?_
  refine z_icmp_ge (tgt := 26) C dX5_findFoes_10 (by decide) (fun c1 => ?_) (fun c1 => ?_)
  · exact z_sub [0, 1] rfl (h26 x1 m)
  · refine z_aload_n C dX5_findFoes_13 rfl 0 rfl ?_
    refine z_getR C fl_RX5_18 rfl hk1 dX5_findFoes_14 ?_
    refine z_iload_n C dX5_findFoes_17 rfl 2 rfl ?_
    refine z_iconst (v := 0) C dX5_findFoes_18 (by decide) ?_
    refine z_chk (fun hj1 => ?_)
    refine z_iast C hr1 hk2 hj1 dX5_findFoes_19 (fun m1 eK1 eN1 => ?_)
    refine z_iinc (v := 1) (L2 := [(2, .int (x2 + 1)), (0, va_rf (some th)), (1, .int x1)]) C dX5_findFoes_20 2 rfl (by decide) (by decide) rfl ?_
    refine z_goto (tgt := 4) C dX5_findFoes_23 (by decide) ?_
    exact z_sub [1, 2, 0] rfl (h4 x1 (x2 + 1) m1)
def l_X5_findFoes_4 (th : Nat) (k26 : Int32 → MM → Option (Int32 × MM)) : Nat → Int32 → Int32 → MM → Option (Int32 × MM) := lp (fun _ _ _ => none) (fun k4 => g_X5_findFoes_4 th k4 k26)
theorem t_X5_findFoes_4 {Γ : GX} {E : EX} (C : Cx Γ E cX5_findFoes RX5 4) (hr : Γ.meth.sig.returnType = (some .boolean)) (hrm : Γ.rm = rmX5_findFoes) (th : Nat) (k26 : Int32 → MM → Option (Int32 × MM)) (h26 : ∀ (x1 : Int32) (m : MM), Sm (QM Γ E emI 0 0) Γ E 4 0 0 26 [(0, va_rf (some th)), (1, .int x1)] [] m (k26 x1 m)) : ∀ (n : Nat) (x1 : Int32) (x2 : Int32) (m : MM), Sm (QM Γ E emI 0 0) Γ E 4 0 0 4 [(0, va_rf (some th)), (1, .int x1), (2, .int x2)] [] m (l_X5_findFoes_4 th k26 n x1 x2 m) := by
  intro n
  induction n with
  | zero => intros; exact z_none
  | succ n ih => intro x1 x2 m; exact s_X5_findFoes_4 C hr hrm th (l_X5_findFoes_4 th k26 n) k26 ih h26 x1 x2 m
set_option maxRecDepth 100000 in
def g_X5_findFoes_85 (th : Nat) (k41 : Int32 → Int32 → Int32 → MM → Option (Int32 × MM)) (k91 : Int32 → Int32 → MM → Option (Int32 × MM)) (x1 : Int32) (x2 : Int32) (x3 : Int32) (m : MM) : Option (Int32 × MM) :=
  k41 x1 x2 (x3 + 1) m
set_option maxHeartbeats 4000000 in
set_option maxRecDepth 100000 in
theorem s_X5_findFoes_85 {Γ : GX} {E : EX} (C : Cx Γ E cX5_findFoes RX5 4) (hr : Γ.meth.sig.returnType = (some .boolean)) (hrm : Γ.rm = rmX5_findFoes) (th : Nat) (k41 : Int32 → Int32 → Int32 → MM → Option (Int32 × MM)) (k91 : Int32 → Int32 → MM → Option (Int32 × MM)) (h41 : ∀ (x1 : Int32) (x2 : Int32) (x3 : Int32) (m : MM), Sm (QM Γ E emI 0 0) Γ E 4 0 0 41 [(0, va_rf (some th)), (1, .int x1), (2, .int x2), (3, .int x3)] [] m (k41 x1 x2 x3 m)) (h91 : ∀ (x1 : Int32) (x2 : Int32) (m : MM), Sm (QM Γ E emI 0 0) Γ E 4 0 0 91 [(0, va_rf (some th)), (1, .int x1), (2, .int x2)] [] m (k91 x1 x2 m)) (x1 : Int32) (x2 : Int32) (x3 : Int32) (m : MM) : Sm (QM Γ E emI 0 0) Γ E 4 0 0 85 [(0, va_rf (some th)), (1, .int x1), (2, .int x2), (3, .int x3)] [] m (g_X5_findFoes_85 th k41 k91 x1 x2 x3 m) := by
  unfold g_X5_findFoes_85
  refine z_iinc (v := 1) (L2 := [(3, .int (x3 + 1)), (0, va_rf (some th)), (1, .int x1), (2, .int x2)]) C dX5_findFoes_85 3 rfl (by decide) (by decide) rfl ?_
  refine z_goto (tgt := 41) C dX5_findFoes_88 (by decide) ?_
  exact z_sub [1, 2, 3, 0] rfl (h41 x1 x2 (x3 + 1) m)
set_option maxRecDepth 100000 in
def g_X5_findFoes_41 (th : Nat) (k41 : Int32 → Int32 → Int32 → MM → Option (Int32 × MM)) (k91 : Int32 → Int32 → MM → Option (Int32 × MM)) (x1 : Int32) (x2 : Int32) (x3 : Int32) (m : MM) : Option (Int32 × MM) :=
  chk (m.K th = 6) (ck m (m.R 601 th 0) 22 (fun a2 => if (Int32.ofNat (m.N a2)) ≤ x3 then (k91 x1 x2 m) else (cal (f_X5_foes th x2 x3 m) (fun r1 m2 => if r1 = 0 then (g_X5_findFoes_85 th k41 k91 x1 x2 x3 m2) else (chk (m2.K th = 6) (ck m2 (m2.R 601 th 0) 22 (fun a3 => chk (inb x2 (m2.N a3) = true) (chk (inb x2 (m2.N a3) = true) (bnd (m2.sI 22 a3 (Int32.toNatClampNeg x2) ((m2.I 22 a3 (Int32.toNatClampNeg x2)) ||| (1 <<< (x3 &&& 31)))) (fun m3 => ck m3 (m3.R 601 th 0) 22 (fun a4 => chk (inb x3 (m3.N a4) = true) (chk (inb x3 (m3.N a4) = true) (bnd (m3.sI 22 a4 (Int32.toNatClampNeg x3) ((m3.I 22 a4 (Int32.toNatClampNeg x3)) ||| (1 <<< (x2 &&& 31)))) (fun m4 => g_X5_findFoes_85 th k41 k91 1 x2 x3 m4))))))))))))))
set_option maxHeartbeats 4000000 in
set_option maxRecDepth 100000 in
theorem s_X5_findFoes_41 {Γ : GX} {E : EX} (C : Cx Γ E cX5_findFoes RX5 4) (hr : Γ.meth.sig.returnType = (some .boolean)) (hrm : Γ.rm = rmX5_findFoes) (th : Nat) (k41 : Int32 → Int32 → Int32 → MM → Option (Int32 × MM)) (k91 : Int32 → Int32 → MM → Option (Int32 × MM)) (h41 : ∀ (x1 : Int32) (x2 : Int32) (x3 : Int32) (m : MM), Sm (QM Γ E emI 0 0) Γ E 4 0 0 41 [(0, va_rf (some th)), (1, .int x1), (2, .int x2), (3, .int x3)] [] m (k41 x1 x2 x3 m)) (h91 : ∀ (x1 : Int32) (x2 : Int32) (m : MM), Sm (QM Γ E emI 0 0) Γ E 4 0 0 91 [(0, va_rf (some th)), (1, .int x1), (2, .int x2)] [] m (k91 x1 x2 m)) (x1 : Int32) (x2 : Int32) (x3 : Int32) (m : MM) : Sm (QM Γ E emI 0 0) Γ E 4 0 0 41 [(0, va_rf (some th)), (1, .int x1), (2, .int x2), (3, .int x3)] [] m (g_X5_findFoes_41 th k41 k91 x1 x2 x3 m) := by
  unfold g_X5_findFoes_41
  refine z_iload_n C dX5_findFoes_41 rfl 3 rfl ?_
  refine z_aload_n C dX5_findFoes_42 rfl 0 rfl ?_
  refine z_chk (fun hk3 => ?_)
  refine z_getR C fl_RX5_18 rfl hk3 dX5_findFoes_43 ?_
  refine z_ck (fun a2 hr2 hk4 => ?_)
  refine z_alen C hr2 hk4 (by decide) (by decide) dX5_findFoes_46 ?_
  refine z_icmp_ge (tgt := 91) C dX5_findFoes_47 (by decide) (fun c2 => ?_) (fun c2 => ?_)
  · exact z_sub [0, 1, 2] rfl (h91 x1 x2 m)
  · refine z_aload_n C dX5_findFoes_50 rfl 0 rfl ?_
    refine z_iload_n C dX5_findFoes_51 rfl 2 rfl ?_
    refine z_iload_n C dX5_findFoes_52 rfl 3 rfl ?_
    refine z_cVI [.int x2, .int x3] [] C mv_RX5_95 (fun r0 m0 h0 => M_X5_foes _ _ _ _ _ _ _ _ h0) rfl rfl ⟨by rw [hrm]; exact Nat.le_of_ble_eq_true rfl, by rw [hrm]; exact Nat.le_of_ble_eq_true rfl⟩ ⟨by rw [hrm]; exact Nat.le_of_ble_eq_true rfl, by rw [hrm]; exact Nat.le_of_ble_eq_true rfl⟩ rfl hk3 rfl rfl rfl (Nat.le_of_ble_eq_true rfl) dX5_findFoes_53 (fun r1 m2 => ?_)
    refine z_if_eq (tgt := 85) C dX5_findFoes_56 (by decide) (fun c3 => ?_) (fun c3 => ?_)
    · exact z_sub [0, 1, 2, 3] rfl (s_X5_findFoes_85 C hr hrm th k41 k91 h41 h91 x1 x2 x3 m2)
    · refine z_aload_n C dX5_findFoes_59 rfl 0 rfl ?_
      refine z_chk (fun hk5 => ?_)
      refine z_getR C fl_RX5_18 rfl hk5 dX5_findFoes_60 ?_
      refine z_iload_n C dX5_findFoes_63 rfl 2 rfl ?_
      refine z_dup2 C rfl (cat_rf _) dX5_findFoes_64 ?_
      refine z_ck (fun a3 hr3 hk6 => ?_)
      refine z_chk (fun hj2 => ?_)
      refine z_iald C hr3 hk6 hj2 dX5_findFoes_65 ?_
      refine z_iconst (v := 1) C dX5_findFoes_66 (by decide) ?_
      refine z_iload_n C dX5_findFoes_67 rfl 3 rfl ?_
      refine z_ishl C dX5_findFoes_68 ?_
      refine z_ior C dX5_findFoes_69 ?_
      refine z_chk (fun hj3 => ?_)
      refine z_iast C hr3 hk6 hj3 dX5_findFoes_70 (fun m3 eK2 eN2 => ?_)
      refine z_aload_n C dX5_findFoes_71 rfl 0 rfl ?_
      refine z_getR C fl_RX5_18 rfl (kfw eK2 hk5) dX5_findFoes_72 ?_
      refine z_iload_n C dX5_findFoes_75 rfl 3 rfl ?_
      refine z_dup2 C rfl (cat_rf _) dX5_findFoes_76 ?_
      refine z_ck (fun a4 hr4 hk7 => ?_)
      refine z_chk (fun hj4 => ?_)
      refine z_iald C hr4 hk7 hj4 dX5_findFoes_77 ?_
      refine z_iconst (v := 1) C dX5_findFoes_78 (by decide) ?_
      refine z_iload_n C dX5_findFoes_79 rfl 2 rfl ?_
      refine z_ishl C dX5_findFoes_80 ?_
      refine z_ior C dX5_findFoes_81 ?_
      refine z_chk (fun hj5 => ?_)
      refine z_iast C hr4 hk7 hj5 dX5_findFoes_82 (fun m4 eK3 eN3 => ?_)
      refine z_iconst (v := 1) C dX5_findFoes_83 (by decide) ?_
      refine z_istore_n (i := 1) (L2 := [(1, .int 1), (0, va_rf (some th)), (2, .int x2), (3, .int x3)]) C dX5_findFoes_84 rfl (by decide) rfl ?_
      exact z_sub [1, 0, 2, 3] rfl (s_X5_findFoes_85 C hr hrm th k41 k91 h41 h91 1 x2 x3 m4)
def l_X5_findFoes_41 (th : Nat) (k91 : Int32 → Int32 → MM → Option (Int32 × MM)) : Nat → Int32 → Int32 → Int32 → MM → Option (Int32 × MM) := lp (fun _ _ _ _ => none) (fun k41 => g_X5_findFoes_41 th k41 k91)
theorem t_X5_findFoes_41 {Γ : GX} {E : EX} (C : Cx Γ E cX5_findFoes RX5 4) (hr : Γ.meth.sig.returnType = (some .boolean)) (hrm : Γ.rm = rmX5_findFoes) (th : Nat) (k91 : Int32 → Int32 → MM → Option (Int32 × MM)) (h91 : ∀ (x1 : Int32) (x2 : Int32) (m : MM), Sm (QM Γ E emI 0 0) Γ E 4 0 0 91 [(0, va_rf (some th)), (1, .int x1), (2, .int x2)] [] m (k91 x1 x2 m)) : ∀ (n : Nat) (x1 : Int32) (x2 : Int32) (x3 : Int32) (m : MM), Sm (QM Γ E emI 0 0) Γ E 4 0 0 41 [(0, va_rf (some th)), (1, .int x1), (2, .int x2), (3, .int x3)] [] m (l_X5_findFoes_41 th k91 n x1 x2 x3 m) := by
  intro n
  induction n with
  | zero => intros; exact z_none
  | succ n ih => intro x1 x2 x3 m; exact s_X5_findFoes_41 C hr hrm th (l_X5_findFoes_41 th k91 n) k91 ih h91 x1 x2 x3 m
set_option maxRecDepth 100000 in
def g_X5_findFoes_91 (th : Nat) (k28 : Int32 → Int32 → MM → Option (Int32 × MM)) (x1 : Int32) (x2 : Int32) (m : MM) : Option (Int32 × MM) :=
  k28 x1 (x2 + 1) m
set_option maxHeartbeats 4000000 in
set_option maxRecDepth 100000 in
theorem s_X5_findFoes_91 {Γ : GX} {E : EX} (C : Cx Γ E cX5_findFoes RX5 4) (hr : Γ.meth.sig.returnType = (some .boolean)) (hrm : Γ.rm = rmX5_findFoes) (th : Nat) (k28 : Int32 → Int32 → MM → Option (Int32 × MM)) (h28 : ∀ (x1 : Int32) (x2 : Int32) (m : MM), Sm (QM Γ E emI 0 0) Γ E 4 0 0 28 [(0, va_rf (some th)), (1, .int x1), (2, .int x2)] [] m (k28 x1 x2 m)) (x1 : Int32) (x2 : Int32) (m : MM) : Sm (QM Γ E emI 0 0) Γ E 4 0 0 91 [(0, va_rf (some th)), (1, .int x1), (2, .int x2)] [] m (g_X5_findFoes_91 th k28 x1 x2 m) := by
  unfold g_X5_findFoes_91
  refine z_iinc (v := 1) (L2 := [(2, .int (x2 + 1)), (0, va_rf (some th)), (1, .int x1)]) C dX5_findFoes_91 2 rfl (by decide) (by decide) rfl ?_
  refine z_goto (tgt := 28) C dX5_findFoes_94 (by decide) ?_
  exact z_sub [1, 2, 0] rfl (h28 x1 (x2 + 1) m)
set_option maxRecDepth 100000 in
def g_X5_findFoes_28 (th : Nat) (k28 : Int32 → Int32 → MM → Option (Int32 × MM)) (x1 : Int32) (x2 : Int32) (m : MM) : Option (Int32 × MM) :=
  chk (m.K th = 6) (ck m (m.R 601 th 0) 22 (fun a5 => if (Int32.ofNat (m.N a5)) ≤ x2 then (chk (x1 = 0 ∨ x1 = 1) (some (x1, m))) else (bnd (x2 + 1) (fun y1 => l_X5_findFoes_41 th (g_X5_findFoes_91 th k28) FU x1 x2 y1 m))))
set_option maxHeartbeats 4000000 in
set_option maxRecDepth 100000 in
theorem s_X5_findFoes_28 {Γ : GX} {E : EX} (C : Cx Γ E cX5_findFoes RX5 4) (hr : Γ.meth.sig.returnType = (some .boolean)) (hrm : Γ.rm = rmX5_findFoes) (th : Nat) (k28 : Int32 → Int32 → MM → Option (Int32 × MM)) (h28 : ∀ (x1 : Int32) (x2 : Int32) (m : MM), Sm (QM Γ E emI 0 0) Γ E 4 0 0 28 [(0, va_rf (some th)), (1, .int x1), (2, .int x2)] [] m (k28 x1 x2 m)) (x1 : Int32) (x2 : Int32) (m : MM) : Sm (QM Γ E emI 0 0) Γ E 4 0 0 28 [(0, va_rf (some th)), (1, .int x1), (2, .int x2)] [] m (g_X5_findFoes_28 th k28 x1 x2 m) := by
  unfold g_X5_findFoes_28
  refine z_iload_n C dX5_findFoes_28 rfl 2 rfl ?_
  refine z_aload_n C dX5_findFoes_29 rfl 0 rfl ?_
  refine z_chk (fun hk8 => ?_)
  refine z_getR C fl_RX5_18 rfl hk8 dX5_findFoes_30 ?_
  refine z_ck (fun a5 hr5 hk9 => ?_)
  refine z_alen C hr5 hk9 (by decide) (by decide) dX5_findFoes_33 ?_
  refine z_icmp_ge (tgt := 97) C dX5_findFoes_34 (by decide) (fun c4 => ?_) (fun c4 => ?_)
  · refine z_iload_n C dX5_findFoes_97 rfl 1 rfl ?_
    refine z_chk (fun hb1 => ?_)
    exact z_zret C hr (nb_of hb1) dX5_findFoes_98
  · refine z_iload_n C dX5_findFoes_37 rfl 2 rfl ?_
    refine z_iconst (v := 1) C dX5_findFoes_38 (by decide) ?_
    refine z_iadd C dX5_findFoes_39 ?_
    refine z_bndI (fun y1 => ?_)
    refine z_istore_n (i := 3) (L2 := [(3, .int y1), (0, va_rf (some th)), (1, .int x1), (2, .int x2)]) C dX5_findFoes_40 rfl (by decide) rfl ?_
    exact z_sub [1, 2, 3, 0] rfl (t_X5_findFoes_41 C hr hrm th (g_X5_findFoes_91 th k28) (s_X5_findFoes_91 C hr hrm th k28 h28) FU x1 x2 y1 m)
def l_X5_findFoes_28 (th : Nat) : Nat → Int32 → Int32 → MM → Option (Int32 × MM) := lp (fun _ _ _ => none) (fun k28 => g_X5_findFoes_28 th k28)
theorem t_X5_findFoes_28 {Γ : GX} {E : EX} (C : Cx Γ E cX5_findFoes RX5 4) (hr : Γ.meth.sig.returnType = (some .boolean)) (hrm : Γ.rm = rmX5_findFoes) (th : Nat) : ∀ (n : Nat) (x1 : Int32) (x2 : Int32) (m : MM), Sm (QM Γ E emI 0 0) Γ E 4 0 0 28 [(0, va_rf (some th)), (1, .int x1), (2, .int x2)] [] m (l_X5_findFoes_28 th n x1 x2 m) := by
  intro n
  induction n with
  | zero => intros; exact z_none
  | succ n ih => intro x1 x2 m; exact s_X5_findFoes_28 C hr hrm th (l_X5_findFoes_28 th n) ih x1 x2 m
set_option maxRecDepth 100000 in
def g_X5_findFoes_26 (th : Nat) (x1 : Int32) (m : MM) : Option (Int32 × MM) :=
  l_X5_findFoes_28 th FU x1 0 m
set_option maxHeartbeats 4000000 in
set_option maxRecDepth 100000 in
theorem s_X5_findFoes_26 {Γ : GX} {E : EX} (C : Cx Γ E cX5_findFoes RX5 4) (hr : Γ.meth.sig.returnType = (some .boolean)) (hrm : Γ.rm = rmX5_findFoes) (th : Nat) (x1 : Int32) (m : MM) : Sm (QM Γ E emI 0 0) Γ E 4 0 0 26 [(0, va_rf (some th)), (1, .int x1)] [] m (g_X5_findFoes_26 th x1 m) := by
  unfold g_X5_findFoes_26
  refine z_iconst (v := 0) C dX5_findFoes_26 (by decide) ?_
  refine z_istore_n (i := 2) (L2 := [(2, .int 0), (0, va_rf (some th)), (1, .int x1)]) C dX5_findFoes_27 rfl (by decide) rfl ?_
  exact z_sub [1, 2, 0] rfl (t_X5_findFoes_28 C hr hrm th FU x1 0 m)
set_option maxRecDepth 100000 in
def g_X5_findFoes_0 (th : Nat) (m : MM) : Option (Int32 × MM) :=
  l_X5_findFoes_4 th (g_X5_findFoes_26 th) FU 0 0 m
set_option maxHeartbeats 4000000 in
set_option maxRecDepth 100000 in
theorem s_X5_findFoes_0 {Γ : GX} {E : EX} (C : Cx Γ E cX5_findFoes RX5 4) (hr : Γ.meth.sig.returnType = (some .boolean)) (hrm : Γ.rm = rmX5_findFoes) (th : Nat) (m : MM) : Sm (QM Γ E emI 0 0) Γ E 4 0 0 0 [(0, va_rf (some th))] [] m (g_X5_findFoes_0 th m) := by
  unfold g_X5_findFoes_0
  refine z_iconst (v := 0) C dX5_findFoes_0 (by decide) ?_
  refine z_istore_n (i := 1) (L2 := [(1, .int 0), (0, va_rf (some th))]) C dX5_findFoes_1 rfl (by decide) rfl ?_
  refine z_iconst (v := 0) C dX5_findFoes_2 (by decide) ?_
  refine z_istore_n (i := 2) (L2 := [(2, .int 0), (1, .int 0), (0, va_rf (some th))]) C dX5_findFoes_3 rfl (by decide) rfl ?_
  exact z_sub [2, 1, 0] rfl (t_X5_findFoes_4 C hr hrm th (g_X5_findFoes_26 th) (s_X5_findFoes_26 C hr hrm th) FU 0 0 m)
def f_X5_findFoes (th : Nat) (m : MM) : Option (Int32 × MM) := g_X5_findFoes_0 th m
theorem M_X5_findFoes (l : Launch) (E : EX) (th : Nat) (m : MM) (r : Int32) (m2 : MM) (h : f_X5_findFoes th m = some (r, m2)) : Met l yX5_findFoes (.code yX5_findFoes cX5_findFoes 4 (some .boolean) :: TB) rmX5_findFoes (va_Pc [.ref th] (St E m)) (QR E (emI r) m2) 0 0 (AA E) :=
  met_of (em := emI) (plainFor_of_name rfl) (Nat.le_of_ble_eq_true rfl) (L0 := [(0, va_rf (some th))]) rfl (fun Γ _ hrm C hr hn => s_X5_findFoes_0 C hr hrm th m) h

theorem dX5_init_0 : decode cX5_init 0 = .ok (.aload_n 0, 1) := by decide +kernel
theorem dX5_init_1 : decode cX5_init 1 = .ok (.invokespecial 3, 3) := by decide +kernel
theorem dX5_init_4 : decode cX5_init 4 = .ok (.aload_n 0, 1) := by decide +kernel
theorem dX5_init_5 : decode cX5_init 5 = .ok (.bipush 12, 2) := by decide +kernel
theorem dX5_init_7 : decode cX5_init 7 = .ok (.anewarray 9, 3) := by decide +kernel
theorem dX5_init_10 : decode cX5_init 10 = .ok (.putfield 11, 3) := by decide +kernel
theorem dX5_init_13 : decode cX5_init 13 = .ok (.iconst 0, 1) := by decide +kernel
theorem dX5_init_14 : decode cX5_init 14 = .ok (.istore_n 1, 1) := by decide +kernel
theorem dX5_init_15 : decode cX5_init 15 = .ok (.iload_n 1, 1) := by decide +kernel
theorem dX5_init_16 : decode cX5_init 16 = .ok (.bipush 12, 2) := by decide +kernel
theorem dX5_init_18 : decode cX5_init 18 = .ok (.if_icmp .ge 22, 3) := by decide +kernel
theorem dX5_init_21 : decode cX5_init 21 = .ok (.aload_n 0, 1) := by decide +kernel
theorem dX5_init_22 : decode cX5_init 22 = .ok (.getfield 11, 3) := by decide +kernel
theorem dX5_init_25 : decode cX5_init 25 = .ok (.iload_n 1, 1) := by decide +kernel
theorem dX5_init_26 : decode cX5_init 26 = .ok (.new 9, 3) := by decide +kernel
theorem dX5_init_29 : decode cX5_init 29 = .ok (.dup, 1) := by decide +kernel
theorem dX5_init_30 : decode cX5_init 30 = .ok (.invokespecial 17, 3) := by decide +kernel
theorem dX5_init_33 : decode cX5_init 33 = .ok (.aastore, 1) := by decide +kernel
theorem dX5_init_34 : decode cX5_init 34 = .ok (.iinc 1 1, 3) := by decide +kernel
theorem dX5_init_37 : decode cX5_init 37 = .ok (.goto (-22), 3) := by decide +kernel
theorem dX5_init_40 : decode cX5_init 40 = .ok (.aload_n 0, 1) := by decide +kernel
theorem dX5_init_41 : decode cX5_init 41 = .ok (.bipush 12, 2) := by decide +kernel
theorem dX5_init_43 : decode cX5_init 43 = .ok (.newarray .int, 2) := by decide +kernel
theorem dX5_init_45 : decode cX5_init 45 = .ok (.putfield 18, 3) := by decide +kernel
theorem dX5_init_48 : decode cX5_init 48 = .ok (.return_, 1) := by decide +kernel
def rmX5_init : Room := { frames := 2, cells := 14, slots := 84, locals := 40 }
set_option maxRecDepth 100000 in
def f_X5_init (th : Nat) (m : MM) : Option (Unit × MM) :=
  bnd m.S (fun a1 => bnd (m.nw 25 12) (fun m1 => chk (m1.K th = 6) (bnd (m1.sR 600 th 0 (some a1)) (fun m2 => bnd m2.S (fun a2 => bnd (m2.nw 1 0) (fun m3 => cal (f_X0_init a2 m3) (fun r1 m4 => ck m4 (m2.R 600 th 0) 25 (fun a3 => chk (m4.K a2 = 1) (chk (inb 0 (m4.N a3) = true) (bnd (m4.sR 25 a3 (Int32.toNatClampNeg 0) (some a2)) (fun m5 => chk (m5.K th = 6) (bnd m5.S (fun a4 => bnd (m5.nw 1 0) (fun m6 => cal (f_X0_init a4 m6) (fun r2 m7 => ck m7 (m5.R 600 th 0) 25 (fun a5 => chk (m7.K a4 = 1) (chk (inb 1 (m7.N a5) = true) (bnd (m7.sR 25 a5 (Int32.toNatClampNeg 1) (some a4)) (fun m8 => chk (m8.K th = 6) (bnd m8.S (fun a6 => bnd (m8.nw 1 0) (fun m9 => cal (f_X0_init a6 m9) (fun r3 m10 => ck m10 (m8.R 600 th 0) 25 (fun a7 => chk (m10.K a6 = 1) (chk (inb 2 (m10.N a7) = true) (bnd (m10.sR 25 a7 (Int32.toNatClampNeg 2) (some a6)) (fun m11 => chk (m11.K th = 6) (bnd m11.S (fun a8 => bnd (m11.nw 1 0) (fun m12 => cal (f_X0_init a8 m12) (fun r4 m13 => ck m13 (m11.R 600 th 0) 25 (fun a9 => chk (m13.K a8 = 1) (chk (inb 3 (m13.N a9) = true) (bnd (m13.sR 25 a9 (Int32.toNatClampNeg 3) (some a8)) (fun m14 => chk (m14.K th = 6) (bnd m14.S (fun a10 => bnd (m14.nw 1 0) (fun m15 => cal (f_X0_init a10 m15) (fun r5 m16 => ck m16 (m14.R 600 th 0) 25 (fun a11 => chk (m16.K a10 = 1) (chk (inb 4 (m16.N a11) = true) (bnd (m16.sR 25 a11 (Int32.toNatClampNeg 4) (some a10)) (fun m17 => chk (m17.K th = 6) (bnd m17.S (fun a12 => bnd (m17.nw 1 0) (fun m18 => cal (f_X0_init a12 m18) (fun r6 m19 => ck m19 (m17.R 600 th 0) 25 (fun a13 => chk (m19.K a12 = 1) (chk (inb 5 (m19.N a13) = true) (bnd (m19.sR 25 a13 (Int32.toNatClampNeg 5) (some a12)) (fun m20 => chk (m20.K th = 6) (bnd m20.S (fun a14 => bnd (m20.nw 1 0) (fun m21 => cal (f_X0_init a14 m21) (fun r7 m22 => ck m22 (m20.R 600 th 0) 25 (fun a15 => chk (m22.K a14 = 1) (chk (inb 6 (m22.N a15) = true) (bnd (m22.sR 25 a15 (Int32.toNatClampNeg 6) (some a14)) (fun m23 => chk (m23.K th = 6) (bnd m23.S (fun a16 => bnd (m23.nw 1 0) (fun m24 => cal (f_X0_init a16 m24) (fun r8 m25 => ck m25 (m23.R 600 th 0) 25 (fun a17 => chk (m25.K a16 = 1) (chk (inb 7 (m25.N a17) = true) (bnd (m25.sR 25 a17 (Int32.toNatClampNeg 7) (some a16)) (fun m26 => chk (m26.K th = 6) (bnd m26.S (fun a18 => bnd (m26.nw 1 0) (fun m27 => cal (f_X0_init a18 m27) (fun r9 m28 => ck m28 (m26.R 600 th 0) 25 (fun a19 => chk (m28.K a18 = 1) (chk (inb 8 (m28.N a19) = true) (bnd (m28.sR 25 a19 (Int32.toNatClampNeg 8) (some a18)) (fun m29 => chk (m29.K th = 6) (bnd m29.S (fun a20 => bnd (m29.nw 1 0) (fun m30 => cal (f_X0_init a20 m30) (fun r10 m31 => ck m31 (m29.R 600 th 0) 25 (fun a21 => chk (m31.K a20 = 1) (chk (inb 9 (m31.N a21) = true) (bnd (m31.sR 25 a21 (Int32.toNatClampNeg 9) (some a20)) (fun m32 => chk (m32.K th = 6) (bnd m32.S (fun a22 => bnd (m32.nw 1 0) (fun m33 => cal (f_X0_init a22 m33) (fun r11 m34 => ck m34 (m32.R 600 th 0) 25 (fun a23 => chk (m34.K a22 = 1) (chk (inb 10 (m34.N a23) = true) (bnd (m34.sR 25 a23 (Int32.toNatClampNeg 10) (some a22)) (fun m35 => chk (m35.K th = 6) (bnd m35.S (fun a24 => bnd (m35.nw 1 0) (fun m36 => cal (f_X0_init a24 m36) (fun r12 m37 => ck m37 (m35.R 600 th 0) 25 (fun a25 => chk (m37.K a24 = 1) (chk (inb 11 (m37.N a25) = true) (bnd (m37.sR 25 a25 (Int32.toNatClampNeg 11) (some a24)) (fun m38 => bnd m38.S (fun a26 => bnd (m38.nw 22 12) (fun m39 => chk (m39.K th = 6) (bnd (m39.sR 601 th 0 (some a26)) (fun m40 => some ((), m40))))))))))))))))))))))))))))))))))))))))))))))))))))))))))))))))))))))))))))))))))))))))))))))))))))))))
set_option maxHeartbeats 4000000 in
set_option maxRecDepth 100000 in
theorem s_X5_init_0 {Γ : GX} {E : EX} (C : Cx Γ E cX5_init RX5 2) (hr : Γ.meth.sig.returnType = none) (hrm : Γ.rm = rmX5_init) (hnm : Γ.meth.name = "<init>") (th : Nat) (m : MM) : Sm (QM Γ E emV 14 84) Γ E 2 0 0 0 [(0, va_rf (some th))] [] m (f_X5_init th m) := by
  unfold f_X5_init
  refine z_aload_n C dX5_init_0 rfl 0 rfl ?_
  refine z_obj C rfl mo_RX5_3 (by rw [hrm]; exact Nat.le_of_ble_eq_true rfl) (by rw [hrm]; exact Nat.le_of_ble_eq_true rfl) (Nat.le_of_ble_eq_true rfl) dX5_init_1 ?_
  refine z_aload_n C dX5_init_4 rfl 0 rfl ?_
  refine z_bipush (v := 12) C dX5_init_5 (by decide) ?_
  refine z_anew2 (kd := 25) (N := 12) C cl_RX5_9 (by decide) (by decide) (by decide) rfl (by decide) (by decide) (by decide) (by rw [hrm]; exact Nat.le_of_ble_eq_true rfl) (by rw [hrm]; exact Nat.le_of_ble_eq_true rfl) dX5_init_7 (fun a1 m1 hk1 => ?_)
  refine z_chk (fun hk2 => ?_)
  refine z_putR C fl_RX5_11 (fun _ => ⟨hnm, rfl⟩) rfl hk2 na_of fa_of dX5_init_10 (fun m2 eK1 eN1 => ?_)
  refine z_iconst (v := 0) C dX5_init_13 (by decide) ?_
  refine z_istore_n (i := 1) (L2 := [(1, .int 0), (0, va_rf (some th))]) C dX5_init_14 rfl (by decide) rfl ?_
  refine z_iload_n C dX5_init_15 rfl 0 rfl ?_
  refine z_bipush (v := 12) C dX5_init_16 (by decide) ?_
  refine z_icmp_ge_f (tgt := 40) C dX5_init_18 (by decide) (by decide) ?_
  refine z_aload_n C dX5_init_21 rfl 1 rfl ?_
  refine z_getR C fl_RX5_11 rfl (kfw eK1 hk2) dX5_init_22 ?_
  refine z_iload_n C dX5_init_25 rfl 0 rfl ?_
  refine z_new2 C co_X0 cl_RX5_9 in_RX0 ii_RX0 (by rw [hrm]; exact Nat.le_of_ble_eq_true rfl) (by rw [hrm]; exact Nat.le_of_ble_eq_true rfl) dX5_init_26 (fun a2 m3 hk3 => ?_)
  refine z_dup C rfl dX5_init_29 ?_
  refine z_callN [] [va_rf (some a2), .int 0, va_rf (m2.R 600 th 0)] C mv_RX5_17 (fun r0 m0 h0 => M_X0_init _ _ _ _ _ _ h0) rfl rfl ⟨by rw [hrm]; exact Nat.le_of_ble_eq_true rfl, by rw [hrm]; exact Nat.le_of_ble_eq_true rfl⟩ rfl rfl rfl (by simp [cat_rf, cat_i, cat_l, cat_a]) dX5_init_30 ⟨by rw [hrm]; exact Nat.le_of_ble_eq_true rfl, by rw [hrm]; exact Nat.le_of_ble_eq_true rfl⟩ (fun r1 m4 => ?_)
  refine z_ck (fun a3 hr1 hk4 => ?_)
  refine z_chk (fun hk5 => ?_)
  refine z_chk (fun hj1 => ?_)
  refine z_aast C hr1 hk4 (by decide) (by decide) rfl hk5 (hc := rfl) rfl hj1 dX5_init_33 (fun m5 eK2 eN2 => ?_)
  refine z_iincK (v := 1) (L2 := [(1, .int 1), (0, va_rf (some th))]) C dX5_init_34 0 rfl (by decide) (by decide) rfl ?_
  refine z_goto (tgt := 15) C dX5_init_37 (by decide) ?_
  refine z_iload_n C dX5_init_15 rfl 0 rfl ?_
  refine z_bipush (v := 12) C dX5_init_16 (by decide) ?_
  refine z_icmp_ge_f (tgt := 40) C dX5_init_18 (by decide) (by decide) ?_
  refine z_aload_n C dX5_init_21 rfl 1 rfl ?_
  refine z_chk (fun hk6 => ?_)
  refine z_getR C fl_RX5_11 rfl hk6 dX5_init_22 ?_
  refine z_iload_n C dX5_init_25 rfl 0 rfl ?_
  refine z_new2 C co_X0 cl_RX5_9 in_RX0 ii_RX0 (by rw [hrm]; exact Nat.le_of_ble_eq_true rfl) (by rw [hrm]; exact Nat.le_of_ble_eq_true rfl) dX5_init_26 (fun a4 m6 hk7 => ?_)
  refine z_dup C rfl dX5_init_29 ?_
  refine z_callN [] [va_rf (some a4), .int 1, va_rf (m5.R 600 th 0)] C mv_RX5_17 (fun r0 m0 h0 => M_X0_init _ _ _ _ _ _ h0) rfl rfl ⟨by rw [hrm]; exact Nat.le_of_ble_eq_true rfl, by rw [hrm]; exact Nat.le_of_ble_eq_true rfl⟩ rfl rfl rfl (by simp [cat_rf, cat_i, cat_l, cat_a]) dX5_init_30 ⟨by rw [hrm]; exact Nat.le_of_ble_eq_true rfl, by rw [hrm]; exact Nat.le_of_ble_eq_true rfl⟩ (fun r2 m7 => ?_)
  refine z_ck (fun a5 hr2 hk8 => ?_)
  refine z_chk (fun hk9 => ?_)
  refine z_chk (fun hj2 => ?_)
  refine z_aast C hr2 hk8 (by decide) (by decide) rfl hk9 (hc := rfl) rfl hj2 dX5_init_33 (fun m8 eK3 eN3 => ?_)
  refine z_iincK (v := 2) (L2 := [(1, .int 2), (0, va_rf (some th))]) C dX5_init_34 0 rfl (by decide) (by decide) rfl ?_
  refine z_goto (tgt := 15) C dX5_init_37 (by decide) ?_
  refine z_iload_n C dX5_init_15 rfl 0 rfl ?_
  refine z_bipush (v := 12) C dX5_init_16 (by decide) ?_
  refine z_icmp_ge_f (tgt := 40) C dX5_init_18 (by decide) (by decide) ?_
  refine z_aload_n C dX5_init_21 rfl 1 rfl ?_
  refine z_chk (fun hk10 => ?_)
  refine z_getR C fl_RX5_11 rfl hk10 dX5_init_22 ?_
  refine z_iload_n C dX5_init_25 rfl 0 rfl ?_
  refine z_new2 C co_X0 cl_RX5_9 in_RX0 ii_RX0 (by rw [hrm]; exact Nat.le_of_ble_eq_true rfl) (by rw [hrm]; exact Nat.le_of_ble_eq_true rfl) dX5_init_26 (fun a6 m9 hk11 => ?_)
  refine z_dup C rfl dX5_init_29 ?_
  refine z_callN [] [va_rf (some a6), .int 2, va_rf (m8.R 600 th 0)] C mv_RX5_17 (fun r0 m0 h0 => M_X0_init _ _ _ _ _ _ h0) rfl rfl ⟨by rw [hrm]; exact Nat.le_of_ble_eq_true rfl, by rw [hrm]; exact Nat.le_of_ble_eq_true rfl⟩ rfl rfl rfl (by simp [cat_rf, cat_i, cat_l, cat_a]) dX5_init_30 ⟨by rw [hrm]; exact Nat.le_of_ble_eq_true rfl, by rw [hrm]; exact Nat.le_of_ble_eq_true rfl⟩ (fun r3 m10 => ?_)
  refine z_ck (fun a7 hr3 hk12 => ?_)
  refine z_chk (fun hk13 => ?_)
  refine z_chk (fun hj3 => ?_)
  refine z_aast C hr3 hk12 (by decide) (by decide) rfl hk13 (hc := rfl) rfl hj3 dX5_init_33 (fun m11 eK4 eN4 => ?_)
  refine z_iincK (v := 3) (L2 := [(1, .int 3), (0, va_rf (some th))]) C dX5_init_34 0 rfl (by decide) (by decide) rfl ?_
  refine z_goto (tgt := 15) C dX5_init_37 (by decide) ?_
  refine z_iload_n C dX5_init_15 rfl 0 rfl ?_
  refine z_bipush (v := 12) C dX5_init_16 (by decide) ?_
  refine z_icmp_ge_f (tgt := 40) C dX5_init_18 (by decide) (by decide) ?_
  refine z_aload_n C dX5_init_21 rfl 1 rfl ?_
  refine z_chk (fun hk14 => ?_)
  refine z_getR C fl_RX5_11 rfl hk14 dX5_init_22 ?_
  refine z_iload_n C dX5_init_25 rfl 0 rfl ?_
  refine z_new2 C co_X0 cl_RX5_9 in_RX0 ii_RX0 (by rw [hrm]; exact Nat.le_of_ble_eq_true rfl) (by rw [hrm]; exact Nat.le_of_ble_eq_true rfl) dX5_init_26 (fun a8 m12 hk15 => ?_)
  refine z_dup C rfl dX5_init_29 ?_
  refine z_callN [] [va_rf (some a8), .int 3, va_rf (m11.R 600 th 0)] C mv_RX5_17 (fun r0 m0 h0 => M_X0_init _ _ _ _ _ _ h0) rfl rfl ⟨by rw [hrm]; exact Nat.le_of_ble_eq_true rfl, by rw [hrm]; exact Nat.le_of_ble_eq_true rfl⟩ rfl rfl rfl (by simp [cat_rf, cat_i, cat_l, cat_a]) dX5_init_30 ⟨by rw [hrm]; exact Nat.le_of_ble_eq_true rfl, by rw [hrm]; exact Nat.le_of_ble_eq_true rfl⟩ (fun r4 m13 => ?_)
  refine z_ck (fun a9 hr4 hk16 => ?_)
  refine z_chk (fun hk17 => ?_)
  refine z_chk (fun hj4 => ?_)
  refine z_aast C hr4 hk16 (by decide) (by decide) rfl hk17 (hc := rfl) rfl hj4 dX5_init_33 (fun m14 eK5 eN5 => ?_)
  refine z_iincK (v := 4) (L2 := [(1, .int 4), (0, va_rf (some th))]) C dX5_init_34 0 rfl (by decide) (by decide) rfl ?_
  refine z_goto (tgt := 15) C dX5_init_37 (by decide) ?_
  refine z_iload_n C dX5_init_15 rfl 0 rfl ?_
  refine z_bipush (v := 12) C dX5_init_16 (by decide) ?_
  refine z_icmp_ge_f (tgt := 40) C dX5_init_18 (by decide) (by decide) ?_
  refine z_aload_n C dX5_init_21 rfl 1 rfl ?_
  refine z_chk (fun hk18 => ?_)
  refine z_getR C fl_RX5_11 rfl hk18 dX5_init_22 ?_
  refine z_iload_n C dX5_init_25 rfl 0 rfl ?_
  refine z_new2 C co_X0 cl_RX5_9 in_RX0 ii_RX0 (by rw [hrm]; exact Nat.le_of_ble_eq_true rfl) (by rw [hrm]; exact Nat.le_of_ble_eq_true rfl) dX5_init_26 (fun a10 m15 hk19 => ?_)
  refine z_dup C rfl dX5_init_29 ?_
  refine z_callN [] [va_rf (some a10), .int 4, va_rf (m14.R 600 th 0)] C mv_RX5_17 (fun r0 m0 h0 => M_X0_init _ _ _ _ _ _ h0) rfl rfl ⟨by rw [hrm]; exact Nat.le_of_ble_eq_true rfl, by rw [hrm]; exact Nat.le_of_ble_eq_true rfl⟩ rfl rfl rfl (by simp [cat_rf, cat_i, cat_l, cat_a]) dX5_init_30 ⟨by rw [hrm]; exact Nat.le_of_ble_eq_true rfl, by rw [hrm]; exact Nat.le_of_ble_eq_true rfl⟩ (fun r5 m16 => ?_)
  refine z_ck (fun a11 hr5 hk20 => ?_)
  refine z_chk (fun hk21 => ?_)
  refine z_chk (fun hj5 => ?_)
  refine z_aast C hr5 hk20 (by decide) (by decide) rfl hk21 (hc := rfl) rfl hj5 dX5_init_33 (fun m17 eK6 eN6 => ?_)
  refine z_iincK (v := 5) (L2 := [(1, .int 5), (0, va_rf (some th))]) C dX5_init_34 0 rfl (by decide) (by decide) rfl ?_
  refine z_goto (tgt := 15) C dX5_init_37 (by decide) ?_
  refine z_iload_n C dX5_init_15 rfl 0 rfl ?_
  refine z_bipush (v := 12) C dX5_init_16 (by decide) ?_
  refine z_icmp_ge_f (tgt := 40) C dX5_init_18 (by decide) (by decide) ?_
  refine z_aload_n C dX5_init_21 rfl 1 rfl ?_
  refine z_chk (fun hk22 => ?_)
  refine z_getR C fl_RX5_11 rfl hk22 dX5_init_22 ?_
  refine z_iload_n C dX5_init_25 rfl 0 rfl ?_
  refine z_new2 C co_X0 cl_RX5_9 in_RX0 ii_RX0 (by rw [hrm]; exact Nat.le_of_ble_eq_true rfl) (by rw [hrm]; exact Nat.le_of_ble_eq_true rfl) dX5_init_26 (fun a12 m18 hk23 => ?_)
  refine z_dup C rfl dX5_init_29 ?_
  refine z_callN [] [va_rf (some a12), .int 5, va_rf (m17.R 600 th 0)] C mv_RX5_17 (fun r0 m0 h0 => M_X0_init _ _ _ _ _ _ h0) rfl rfl ⟨by rw [hrm]; exact Nat.le_of_ble_eq_true rfl, by rw [hrm]; exact Nat.le_of_ble_eq_true rfl⟩ rfl rfl rfl (by simp [cat_rf, cat_i, cat_l, cat_a]) dX5_init_30 ⟨by rw [hrm]; exact Nat.le_of_ble_eq_true rfl, by rw [hrm]; exact Nat.le_of_ble_eq_true rfl⟩ (fun r6 m19 => ?_)
  refine z_ck (fun a13 hr6 hk24 => ?_)
  refine z_chk (fun hk25 => ?_)
  refine z_chk (fun hj6 => ?_)
  refine z_aast C hr6 hk24 (by decide) (by decide) rfl hk25 (hc := rfl) rfl hj6 dX5_init_33 (fun m20 eK7 eN7 => ?_)
  refine z_iincK (v := 6) (L2 := [(1, .int 6), (0, va_rf (some th))]) C dX5_init_34 0 rfl (by decide) (by decide) rfl ?_
  refine z_goto (tgt := 15) C dX5_init_37 (by decide) ?_
  refine z_iload_n C dX5_init_15 rfl 0 rfl ?_
  refine z_bipush (v := 12) C dX5_init_16 (by decide) ?_
  refine z_icmp_ge_f (tgt := 40) C dX5_init_18 (by decide) (by decide) ?_
  refine z_aload_n C dX5_init_21 rfl 1 rfl ?_
  refine z_chk (fun hk26 => ?_)
  refine z_getR C fl_RX5_11 rfl hk26 dX5_init_22 ?_
  refine z_iload_n C dX5_init_25 rfl 0 rfl ?_
  refine z_new2 C co_X0 cl_RX5_9 in_RX0 ii_RX0 (by rw [hrm]; exact Nat.le_of_ble_eq_true rfl) (by rw [hrm]; exact Nat.le_of_ble_eq_true rfl) dX5_init_26 (fun a14 m21 hk27 => ?_)
  refine z_dup C rfl dX5_init_29 ?_
  refine z_callN [] [va_rf (some a14), .int 6, va_rf (m20.R 600 th 0)] C mv_RX5_17 (fun r0 m0 h0 => M_X0_init _ _ _ _ _ _ h0) rfl rfl ⟨by rw [hrm]; exact Nat.le_of_ble_eq_true rfl, by rw [hrm]; exact Nat.le_of_ble_eq_true rfl⟩ rfl rfl rfl (by simp [cat_rf, cat_i, cat_l, cat_a]) dX5_init_30 ⟨by rw [hrm]; exact Nat.le_of_ble_eq_true rfl, by rw [hrm]; exact Nat.le_of_ble_eq_true rfl⟩ (fun r7 m22 => ?_)
  refine z_ck (fun a15 hr7 hk28 => ?_)
  refine z_chk (fun hk29 => ?_)
  refine z_chk (fun hj7 => ?_)
  refine z_aast C hr7 hk28 (by decide) (by decide) rfl hk29 (hc := rfl) rfl hj7 dX5_init_33 (fun m23 eK8 eN8 => ?_)
  refine z_iincK (v := 7) (L2 := [(1, .int 7), (0, va_rf (some th))]) C dX5_init_34 0 rfl (by decide) (by decide) rfl ?_
  refine z_goto (tgt := 15) C dX5_init_37 (by decide) ?_
  refine z_iload_n C dX5_init_15 rfl 0 rfl ?_
  refine z_bipush (v := 12) C dX5_init_16 (by decide) ?_
  refine z_icmp_ge_f (tgt := 40) C dX5_init_18 (by decide) (by decide) ?_
  refine z_aload_n C dX5_init_21 rfl 1 rfl ?_
  refine z_chk (fun hk30 => ?_)
  refine z_getR C fl_RX5_11 rfl hk30 dX5_init_22 ?_
  refine z_iload_n C dX5_init_25 rfl 0 rfl ?_
  refine z_new2 C co_X0 cl_RX5_9 in_RX0 ii_RX0 (by rw [hrm]; exact Nat.le_of_ble_eq_true rfl) (by rw [hrm]; exact Nat.le_of_ble_eq_true rfl) dX5_init_26 (fun a16 m24 hk31 => ?_)
  refine z_dup C rfl dX5_init_29 ?_
  refine z_callN [] [va_rf (some a16), .int 7, va_rf (m23.R 600 th 0)] C mv_RX5_17 (fun r0 m0 h0 => M_X0_init _ _ _ _ _ _ h0) rfl rfl ⟨by rw [hrm]; exact Nat.le_of_ble_eq_true rfl, by rw [hrm]; exact Nat.le_of_ble_eq_true rfl⟩ rfl rfl rfl (by simp [cat_rf, cat_i, cat_l, cat_a]) dX5_init_30 ⟨by rw [hrm]; exact Nat.le_of_ble_eq_true rfl, by rw [hrm]; exact Nat.le_of_ble_eq_true rfl⟩ (fun r8 m25 => ?_)
  refine z_ck (fun a17 hr8 hk32 => ?_)
  refine z_chk (fun hk33 => ?_)
  refine z_chk (fun hj8 => ?_)
  refine z_aast C hr8 hk32 (by decide) (by decide) rfl hk33 (hc := rfl) rfl hj8 dX5_init_33 (fun m26 eK9 eN9 => ?_)
  refine z_iincK (v := 8) (L2 := [(1, .int 8), (0, va_rf (some th))]) C dX5_init_34 0 rfl (by decide) (by decide) rfl ?_
  refine z_goto (tgt := 15) C dX5_init_37 (by decide) ?_
  refine z_iload_n C dX5_init_15 rfl 0 rfl ?_
  refine z_bipush (v := 12) C dX5_init_16 (by decide) ?_
  refine z_icmp_ge_f (tgt := 40) C dX5_init_18 (by decide) (by decide) ?_
  refine z_aload_n C dX5_init_21 rfl 1 rfl ?_
  refine z_chk (fun hk34 => ?_)
  refine z_getR C fl_RX5_11 rfl hk34 dX5_init_22 ?_
  refine z_iload_n C dX5_init_25 rfl 0 rfl ?_
  refine z_new2 C co_X0 cl_RX5_9 in_RX0 ii_RX0 (by rw [hrm]; exact Nat.le_of_ble_eq_true rfl) (by rw [hrm]; exact Nat.le_of_ble_eq_true rfl) dX5_init_26 (fun a18 m27 hk35 => ?_)
  refine z_dup C rfl dX5_init_29 ?_
  refine z_callN [] [va_rf (some a18), .int 8, va_rf (m26.R 600 th 0)] C mv_RX5_17 (fun r0 m0 h0 => M_X0_init _ _ _ _ _ _ h0) rfl rfl ⟨by rw [hrm]; exact Nat.le_of_ble_eq_true rfl, by rw [hrm]; exact Nat.le_of_ble_eq_true rfl⟩ rfl rfl rfl (by simp [cat_rf, cat_i, cat_l, cat_a]) dX5_init_30 ⟨by rw [hrm]; exact Nat.le_of_ble_eq_true rfl, by rw [hrm]; exact Nat.le_of_ble_eq_true rfl⟩ (fun r9 m28 => ?_)
  refine z_ck (fun a19 hr9 hk36 => ?_)
  refine z_chk (fun hk37 => ?_)
  refine z_chk (fun hj9 => ?_)
  refine z_aast C hr9 hk36 (by decide) (by decide) rfl hk37 (hc := rfl) rfl hj9 dX5_init_33 (fun m29 eK10 eN10 => ?_)
  refine z_iincK (v := 9) (L2 := [(1, .int 9), (0, va_rf (some th))]) C dX5_init_34 0 rfl (by decide) (by decide) rfl ?_
  refine z_goto (tgt := 15) C dX5_init_37 (by decide) ?_
  refine z_iload_n C dX5_init_15 rfl 0 rfl ?_
  refine z_bipush (v := 12) C dX5_init_16 (by decide) ?_
  refine z_icmp_ge_f (tgt := 40) C dX5_init_18 (by decide) (by decide) ?_
  refine z_aload_n C dX5_init_21 rfl 1 rfl ?_
  refine z_chk (fun hk38 => ?_)
  refine z_getR C fl_RX5_11 rfl hk38 dX5_init_22 ?_
  refine z_iload_n C dX5_init_25 rfl 0 rfl ?_
  refine z_new2 C co_X0 cl_RX5_9 in_RX0 ii_RX0 (by rw [hrm]; exact Nat.le_of_ble_eq_true rfl) (by rw [hrm]; exact Nat.le_of_ble_eq_true rfl) dX5_init_26 (fun a20 m30 hk39 => ?_)
  refine z_dup C rfl dX5_init_29 ?_
  refine z_callN [] [va_rf (some a20), .int 9, va_rf (m29.R 600 th 0)] C mv_RX5_17 (fun r0 m0 h0 => M_X0_init _ _ _ _ _ _ h0) rfl rfl ⟨by rw [hrm]; exact Nat.le_of_ble_eq_true rfl, by rw [hrm]; exact Nat.le_of_ble_eq_true rfl⟩ rfl rfl rfl (by simp [cat_rf, cat_i, cat_l, cat_a]) dX5_init_30 ⟨by rw [hrm]; exact Nat.le_of_ble_eq_true rfl, by rw [hrm]; exact Nat.le_of_ble_eq_true rfl⟩ (fun r10 m31 => ?_)
  refine z_ck (fun a21 hr10 hk40 => ?_)
  refine z_chk (fun hk41 => ?_)
  refine z_chk (fun hj10 => ?_)
  refine z_aast C hr10 hk40 (by decide) (by decide) rfl hk41 (hc := rfl) rfl hj10 dX5_init_33 (fun m32 eK11 eN11 => ?_)
  refine z_iincK (v := 10) (L2 := [(1, .int 10), (0, va_rf (some th))]) C dX5_init_34 0 rfl (by decide) (by decide) rfl ?_
  refine z_goto (tgt := 15) C dX5_init_37 (by decide) ?_
  refine z_iload_n C dX5_init_15 rfl 0 rfl ?_
  refine z_bipush (v := 12) C dX5_init_16 (by decide) ?_
  refine z_icmp_ge_f (tgt := 40) C dX5_init_18 (by decide) (by decide) ?_
  refine z_aload_n C dX5_init_21 rfl 1 rfl ?_
  refine z_chk (fun hk42 => ?_)
  refine z_getR C fl_RX5_11 rfl hk42 dX5_init_22 ?_
  refine z_iload_n C dX5_init_25 rfl 0 rfl ?_
  refine z_new2 C co_X0 cl_RX5_9 in_RX0 ii_RX0 (by rw [hrm]; exact Nat.le_of_ble_eq_true rfl) (by rw [hrm]; exact Nat.le_of_ble_eq_true rfl) dX5_init_26 (fun a22 m33 hk43 => ?_)
  refine z_dup C rfl dX5_init_29 ?_
  refine z_callN [] [va_rf (some a22), .int 10, va_rf (m32.R 600 th 0)] C mv_RX5_17 (fun r0 m0 h0 => M_X0_init _ _ _ _ _ _ h0) rfl rfl ⟨by rw [hrm]; exact Nat.le_of_ble_eq_true rfl, by rw [hrm]; exact Nat.le_of_ble_eq_true rfl⟩ rfl rfl rfl (by simp [cat_rf, cat_i, cat_l, cat_a]) dX5_init_30 ⟨by rw [hrm]; exact Nat.le_of_ble_eq_true rfl, by rw [hrm]; exact Nat.le_of_ble_eq_true rfl⟩ (fun r11 m34 => ?_)
  refine z_ck (fun a23 hr11 hk44 => ?_)
  refine z_chk (fun hk45 => ?_)
  refine z_chk (fun hj11 => ?_)
  refine z_aast C hr11 hk44 (by decide) (by decide) rfl hk45 (hc := rfl) rfl hj11 dX5_init_33 (fun m35 eK12 eN12 => ?_)
  refine z_iincK (v := 11) (L2 := [(1, .int 11), (0, va_rf (some th))]) C dX5_init_34 0 rfl (by decide) (by decide) rfl ?_
  refine z_goto (tgt := 15) C dX5_init_37 (by decide) ?_
  refine z_iload_n C dX5_init_15 rfl 0 rfl ?_
  refine z_bipush (v := 12) C dX5_init_16 (by decide) ?_
  refine z_icmp_ge_f (tgt := 40) C dX5_init_18 (by decide) (by decide) ?_
  refine z_aload_n C dX5_init_21 rfl 1 rfl ?_
  refine z_chk (fun hk46 => ?_)
  refine z_getR C fl_RX5_11 rfl hk46 dX5_init_22 ?_
  refine z_iload_n C dX5_init_25 rfl 0 rfl ?_
  refine z_new2 C co_X0 cl_RX5_9 in_RX0 ii_RX0 (by rw [hrm]; exact Nat.le_of_ble_eq_true rfl) (by rw [hrm]; exact Nat.le_of_ble_eq_true rfl) dX5_init_26 (fun a24 m36 hk47 => ?_)
  refine z_dup C rfl dX5_init_29 ?_
  refine z_callN [] [va_rf (some a24), .int 11, va_rf (m35.R 600 th 0)] C mv_RX5_17 (fun r0 m0 h0 => M_X0_init _ _ _ _ _ _ h0) rfl rfl ⟨by rw [hrm]; exact Nat.le_of_ble_eq_true rfl, by rw [hrm]; exact Nat.le_of_ble_eq_true rfl⟩ rfl rfl rfl (by simp [cat_rf, cat_i, cat_l, cat_a]) dX5_init_30 ⟨by rw [hrm]; exact Nat.le_of_ble_eq_true rfl, by rw [hrm]; exact Nat.le_of_ble_eq_true rfl⟩ (fun r12 m37 => ?_)
  refine z_ck (fun a25 hr12 hk48 => ?_)
  refine z_chk (fun hk49 => ?_)
  refine z_chk (fun hj12 => ?_)
  refine z_aast C hr12 hk48 (by decide) (by decide) rfl hk49 (hc := rfl) rfl hj12 dX5_init_33 (fun m38 eK13 eN13 => ?_)
  refine z_iincK (v := 12) (L2 := [(1, .int 12), (0, va_rf (some th))]) C dX5_init_34 0 rfl (by decide) (by decide) rfl ?_
  refine z_goto (tgt := 15) C dX5_init_37 (by decide) ?_
  refine z_iload_n C dX5_init_15 rfl 0 rfl ?_
  refine z_bipush (v := 12) C dX5_init_16 (by decide) ?_
  refine z_icmp_ge_t (tgt := 40) C dX5_init_18 (by decide) (by decide) ?_
  refine z_aload_n C dX5_init_40 rfl 1 rfl ?_
  refine z_bipush (v := 12) C dX5_init_41 (by decide) ?_
  refine z_newa2 (at0 := .int) (kd := 22) (N := 12) C ac_int (by decide) (by decide) rfl (by decide) (by decide) (by decide) (by rw [hrm]; exact Nat.le_of_ble_eq_true rfl) (by rw [hrm]; exact Nat.le_of_ble_eq_true rfl) dX5_init_43 (fun a26 m39 hk50 => ?_)
  refine z_chk (fun hk51 => ?_)
  refine z_putR C fl_RX5_18 (fun _ => ⟨hnm, rfl⟩) rfl hk51 na_of fa_of dX5_init_45 (fun m40 eK14 eN14 => ?_)
  refine z_wid (k := 14) (n := 84) (Nat.le_of_ble_eq_true rfl) (Nat.le_of_ble_eq_true rfl) ?_
  exact z_vret C hr dX5_init_48
theorem M_X5_init (l : Launch) (E : EX) (th : Nat) (m : MM) (r : Unit) (m2 : MM) (h : f_X5_init th m = some (r, m2)) : Met l yX5_init (.code yX5_init cX5_init 2 none :: TB) rmX5_init (va_Pc [.ref th] (St E m)) (QR E (emV r) m2) 14 84 (AA E) :=
  met_of (em := emV) (plainFor_of_name rfl) (Nat.le_of_ble_eq_true rfl) (L0 := [(0, va_rf (some th))]) rfl (fun Γ _ hrm C hr hn => s_X5_init_0 C hr hrm hn th m) h

theorem dX5_open_0 : decode cX5_open 0 = .ok (.aload_n 0, 1) := by decide +kernel
theorem dX5_open_1 : decode cX5_open 1 = .ok (.aload_n 1, 1) := by decide +kernel
theorem dX5_open_2 : decode cX5_open 2 = .ok (.putfield 22, 3) := by decide +kernel
theorem dX5_open_5 : decode cX5_open 5 = .ok (.aload_n 0, 1) := by decide +kernel
theorem dX5_open_6 : decode cX5_open 6 = .ok (.aload_n 2, 1) := by decide +kernel
theorem dX5_open_7 : decode cX5_open 7 = .ok (.putfield 26, 3) := by decide +kernel
theorem dX5_open_10 : decode cX5_open 10 = .ok (.aload_n 0, 1) := by decide +kernel
theorem dX5_open_11 : decode cX5_open 11 = .ok (.iload_n 3, 1) := by decide +kernel
theorem dX5_open_12 : decode cX5_open 12 = .ok (.putfield 30, 3) := by decide +kernel
theorem dX5_open_15 : decode cX5_open 15 = .ok (.aload_n 0, 1) := by decide +kernel
theorem dX5_open_16 : decode cX5_open 16 = .ok (.iconst 0, 1) := by decide +kernel
theorem dX5_open_17 : decode cX5_open 17 = .ok (.putfield 34, 3) := by decide +kernel
theorem dX5_open_20 : decode cX5_open 20 = .ok (.aload_n 0, 1) := by decide +kernel
theorem dX5_open_21 : decode cX5_open 21 = .ok (.sipush 255, 3) := by decide +kernel
theorem dX5_open_24 : decode cX5_open 24 = .ok (.putfield 37, 3) := by decide +kernel
theorem dX5_open_27 : decode cX5_open 27 = .ok (.aload_n 0, 1) := by decide +kernel
theorem dX5_open_28 : decode cX5_open 28 = .ok (.iconst (-1), 1) := by decide +kernel
theorem dX5_open_29 : decode cX5_open 29 = .ok (.putfield 40, 3) := by decide +kernel
theorem dX5_open_32 : decode cX5_open 32 = .ok (.aload_n 0, 1) := by decide +kernel
theorem dX5_open_33 : decode cX5_open 33 = .ok (.iconst 0, 1) := by decide +kernel
theorem dX5_open_34 : decode cX5_open 34 = .ok (.putfield 43, 3) := by decide +kernel
theorem dX5_open_37 : decode cX5_open 37 = .ok (.iconst 0, 1) := by decide +kernel
theorem dX5_open_38 : decode cX5_open 38 = .ok (.istore 4, 2) := by decide +kernel
theorem dX5_open_40 : decode cX5_open 40 = .ok (.iload 4, 2) := by decide +kernel
theorem dX5_open_42 : decode cX5_open 42 = .ok (.aload_n 0, 1) := by decide +kernel
theorem dX5_open_43 : decode cX5_open 43 = .ok (.getfield 11, 3) := by decide +kernel
theorem dX5_open_46 : decode cX5_open 46 = .ok (.arraylength, 1) := by decide +kernel
theorem dX5_open_47 : decode cX5_open 47 = .ok (.if_icmp .ge 134, 3) := by decide +kernel
theorem dX5_open_50 : decode cX5_open 50 = .ok (.aload_n 0, 1) := by decide +kernel
theorem dX5_open_51 : decode cX5_open 51 = .ok (.getfield 11, 3) := by decide +kernel
theorem dX5_open_54 : decode cX5_open 54 = .ok (.iload 4, 2) := by decide +kernel
theorem dX5_open_56 : decode cX5_open 56 = .ok (.aaload, 1) := by decide +kernel
theorem dX5_open_57 : decode cX5_open 57 = .ok (.astore 5, 2) := by decide +kernel
theorem dX5_open_59 : decode cX5_open 59 = .ok (.aload_n 1, 1) := by decide +kernel
theorem dX5_open_60 : decode cX5_open 60 = .ok (.ifnull 115, 3) := by decide +kernel
theorem dX5_open_63 : decode cX5_open 63 = .ok (.aload 5, 2) := by decide +kernel
theorem dX5_open_65 : decode cX5_open 65 = .ok (.ifnull 110, 3) := by decide +kernel
theorem dX5_open_68 : decode cX5_open 68 = .ok (.aload_n 1, 1) := by decide +kernel
theorem dX5_open_69 : decode cX5_open 69 = .ok (.iload 4, 2) := by decide +kernel
theorem dX5_open_71 : decode cX5_open 71 = .ok (.invokevirtual 46, 3) := by decide +kernel
theorem dX5_open_74 : decode cX5_open 74 = .ok (.ifCond .ne 6, 3) := by decide +kernel
theorem dX5_open_77 : decode cX5_open 77 = .ok (.goto 98, 3) := by decide +kernel
theorem dX5_open_80 : decode cX5_open 80 = .ok (.aload 5, 2) := by decide +kernel
theorem dX5_open_82 : decode cX5_open 82 = .ok (.aload_n 1, 1) := by decide +kernel
theorem dX5_open_83 : decode cX5_open 83 = .ok (.getfield 52, 3) := by decide +kernel
theorem dX5_open_86 : decode cX5_open 86 = .ok (.iload 4, 2) := by decide +kernel
theorem dX5_open_88 : decode cX5_open 88 = .ok (.iconst 0, 1) := by decide +kernel
theorem dX5_open_89 : decode cX5_open 89 = .ok (.invokevirtual 56, 3) := by decide +kernel
theorem dX5_open_92 : decode cX5_open 92 = .ok (.putfield 62, 3) := by decide +kernel
theorem dX5_open_95 : decode cX5_open 95 = .ok (.aload 5, 2) := by decide +kernel
theorem dX5_open_97 : decode cX5_open 97 = .ok (.aload_n 1, 1) := by decide +kernel
theorem dX5_open_98 : decode cX5_open 98 = .ok (.getfield 52, 3) := by decide +kernel
theorem dX5_open_101 : decode cX5_open 101 = .ok (.iload 4, 2) := by decide +kernel
theorem dX5_open_103 : decode cX5_open 103 = .ok (.iconst 1, 1) := by decide +kernel
theorem dX5_open_104 : decode cX5_open 104 = .ok (.invokevirtual 56, 3) := by decide +kernel
theorem dX5_open_107 : decode cX5_open 107 = .ok (.putfield 65, 3) := by decide +kernel
theorem dX5_open_110 : decode cX5_open 110 = .ok (.aload 5, 2) := by decide +kernel
theorem dX5_open_112 : decode cX5_open 112 = .ok (.aload_n 1, 1) := by decide +kernel
theorem dX5_open_113 : decode cX5_open 113 = .ok (.getfield 52, 3) := by decide +kernel
theorem dX5_open_116 : decode cX5_open 116 = .ok (.iload 4, 2) := by decide +kernel
theorem dX5_open_118 : decode cX5_open 118 = .ok (.iconst 2, 1) := by decide +kernel
theorem dX5_open_119 : decode cX5_open 119 = .ok (.invokevirtual 56, 3) := by decide +kernel
theorem dX5_open_122 : decode cX5_open 122 = .ok (.putfield 68, 3) := by decide +kernel
theorem dX5_open_125 : decode cX5_open 125 = .ok (.aload 5, 2) := by decide +kernel
theorem dX5_open_127 : decode cX5_open 127 = .ok (.aload_n 1, 1) := by decide +kernel
theorem dX5_open_128 : decode cX5_open 128 = .ok (.getfield 52, 3) := by decide +kernel
theorem dX5_open_131 : decode cX5_open 131 = .ok (.iload 4, 2) := by decide +kernel
theorem dX5_open_133 : decode cX5_open 133 = .ok (.iconst 5, 1) := by decide +kernel
theorem dX5_open_134 : decode cX5_open 134 = .ok (.invokevirtual 56, 3) := by decide +kernel
theorem dX5_open_137 : decode cX5_open 137 = .ok (.putfield 71, 3) := by decide +kernel
theorem dX5_open_140 : decode cX5_open 140 = .ok (.aload 5, 2) := by decide +kernel
theorem dX5_open_142 : decode cX5_open 142 = .ok (.aload_n 1, 1) := by decide +kernel
theorem dX5_open_143 : decode cX5_open 143 = .ok (.iload 4, 2) := by decide +kernel
theorem dX5_open_145 : decode cX5_open 145 = .ok (.iload_n 3, 1) := by decide +kernel
theorem dX5_open_146 : decode cX5_open 146 = .ok (.invokevirtual 74, 3) := by decide +kernel
theorem dX5_open_149 : decode cX5_open 149 = .ok (.putfield 77, 3) := by decide +kernel
theorem dX5_open_152 : decode cX5_open 152 = .ok (.aload_n 1, 1) := by decide +kernel
theorem dX5_open_153 : decode cX5_open 153 = .ok (.iload 4, 2) := by decide +kernel
theorem dX5_open_155 : decode cX5_open 155 = .ok (.iload_n 3, 1) := by decide +kernel
theorem dX5_open_156 : decode cX5_open 156 = .ok (.invokevirtual 80, 3) := by decide +kernel
theorem dX5_open_159 : decode cX5_open 159 = .ok (.ifCond .eq 16, 3) := by decide +kernel
theorem dX5_open_162 : decode cX5_open 162 = .ok (.aload_n 0, 1) := by decide +kernel
theorem dX5_open_163 : decode cX5_open 163 = .ok (.dup, 1) := by decide +kernel
theorem dX5_open_164 : decode cX5_open 164 = .ok (.getfield 43, 3) := by decide +kernel
theorem dX5_open_167 : decode cX5_open 167 = .ok (.iconst 1, 1) := by decide +kernel
theorem dX5_open_168 : decode cX5_open 168 = .ok (.iload 4, 2) := by decide +kernel
theorem dX5_open_170 : decode cX5_open 170 = .ok (.ishl, 1) := by decide +kernel
theorem dX5_open_171 : decode cX5_open 171 = .ok (.ior, 1) := by decide +kernel
theorem dX5_open_172 : decode cX5_open 172 = .ok (.putfield 43, 3) := by decide +kernel
theorem dX5_open_175 : decode cX5_open 175 = .ok (.iinc 4 1, 3) := by decide +kernel
theorem dX5_open_178 : decode cX5_open 178 = .ok (.goto (-138), 3) := by decide +kernel
theorem dX5_open_181 : decode cX5_open 181 = .ok (.return_, 1) := by decide +kernel
def rmX5_open : Room := { frames := 2, cells := 0, slots := 0, locals := 48 }
set_option maxRecDepth 100000 in
def g_X5_open_175 (th : Nat) (p1 : Option Nat) (p2 : Option Nat) (p3 : Int32) (k40 : Int32 → MM → Option (Unit × MM)) (x4 : Int32) (m : MM) : Option (Unit × MM) :=
  k40 (x4 + 1) m
set_option maxHeartbeats 4000000 in
set_option maxRecDepth 100000 in
theorem s_X5_open_175 {Γ : GX} {E : EX} (C : Cx Γ E cX5_open RX5 6) (hr : Γ.meth.sig.returnType = none) (hrm : Γ.rm = rmX5_open) (th : Nat) (p1 : Option Nat) (p2 : Option Nat) (p3 : Int32) (k40 : Int32 → MM → Option (Unit × MM)) (h40 : ∀ (x4 : Int32) (m : MM), Sm (QM Γ E emV 0 0) Γ E 6 0 0 40 [(0, va_rf (some th)), (1, va_rf p1), (2, va_rf p2), (3, .int p3), (4, .int x4)] [] m (k40 x4 m)) (x4 : Int32) (m : MM) : Sm (QM Γ E emV 0 0) Γ E 6 0 0 175 [(0, va_rf (some th)), (1, va_rf p1), (2, va_rf p2), (3, .int p3), (4, .int x4)] [] m (g_X5_open_175 th p1 p2 p3 k40 x4 m) := by
  unfold g_X5_open_175
  refine z_iinc (v := 1) (L2 := [(4, .int (x4 + 1)), (0, va_rf (some th)), (1, va_rf p1), (2, va_rf p2), (3, .int p3)]) C dX5_open_175 4 rfl (by decide) (by decide) rfl ?_
  refine z_goto (tgt := 40) C dX5_open_178 (by decide) ?_
  exact z_sub [1, 2, 3, 4, 0] rfl (h40 (x4 + 1) m)
set_option maxRecDepth 100000 in
def g_X5_open_40 (th : Nat) (p1 : Option Nat) (p2 : Option Nat) (p3 : Int32) (k40 : Int32 → MM → Option (Unit × MM)) (x4 : Int32) (m : MM) : Option (Unit × MM) :=
  chk (m.K th = 6) (ck m (m.R 600 th 0) 25 (fun a1 => if (Int32.ofNat (m.N a1)) ≤ x4 then (some ((), m)) else (chk (inb x4 (m.N a1) = true) (bnd (m.R 25 a1 (Int32.toNatClampNeg x4)) (fun y1 => ifn p1 (g_X5_open_175 th p1 p2 p3 k40 x4 m) (fun a2 => ifn y1 (g_X5_open_175 th p1 p2 p3 k40 x4 m) (fun a3 => chk (m.K a2 = 9) (cal (f_X8_hasThing a2 x4 m) (fun r1 m1 => if r1 = 0 then (g_X5_open_175 th p1 p2 p3 k40 x4 m1) else (chk (m1.K a2 = 9) (ck m1 (m1.R 904 a2 0) 7 (fun a4 => cal (f_X6_cell a4 x4 0 m1) (fun r2 m2 => chk (m2.K a3 = 1) (bnd (m2.sI 100 a3 0 r2) (fun m3 => chk (m3.K a2 = 9) (ck m3 (m3.R 904 a2 0) 7 (fun a5 => cal (f_X6_cell a5 x4 1 m3) (fun r3 m4 => chk (m4.K a3 = 1) (bnd (m4.sI 101 a3 0 r3) (fun m5 => chk (m5.K a2 = 9) (ck m5 (m5.R 904 a2 0) 7 (fun a6 => cal (f_X6_cell a6 x4 2 m5) (fun r4 m6 => chk (m6.K a3 = 1) (bnd (m6.sI 102 a3 0 r4) (fun m7 => chk (m7.K a2 = 9) (ck m7 (m7.R 904 a2 0) 7 (fun a7 => cal (f_X6_cell a7 x4 5 m7) (fun r5 m8 => chk (m8.K a3 = 1) (bnd (m8.sI 103 a3 0 r5) (fun m9 => chk (m9.K a2 = 9) (cal (f_X8_growth a2 x4 p3 m9) (fun r6 m10 => chk (m10.K a3 = 1) (bnd (m10.sI 104 a3 0 r6) (fun m11 => chk (m11.K a2 = 9) (cal (f_X8_stands a2 x4 p3 m11) (fun r7 m12 => if r7 = 0 then (g_X5_open_175 th p1 p2 p3 k40 x4 m12) else (chk (m12.K th = 6) (bnd (m12.sI 605 th 0 ((m12.I 605 th 0) ||| (1 <<< (x4 &&& 31)))) (fun m13 => g_X5_open_175 th p1 p2 p3 k40 x4 m13)))))))))))))))))))))))))))))))))))))))
set_option maxHeartbeats 4000000 in
set_option maxRecDepth 100000 in
theorem s_X5_open_40 {Γ : GX} {E : EX} (C : Cx Γ E cX5_open RX5 6) (hr : Γ.meth.sig.returnType = none) (hrm : Γ.rm = rmX5_open) (th : Nat) (p1 : Option Nat) (p2 : Option Nat) (p3 : Int32) (k40 : Int32 → MM → Option (Unit × MM)) (h40 : ∀ (x4 : Int32) (m : MM), Sm (QM Γ E emV 0 0) Γ E 6 0 0 40 [(0, va_rf (some th)), (1, va_rf p1), (2, va_rf p2), (3, .int p3), (4, .int x4)] [] m (k40 x4 m)) (x4 : Int32) (m : MM) : Sm (QM Γ E emV 0 0) Γ E 6 0 0 40 [(0, va_rf (some th)), (1, va_rf p1), (2, va_rf p2), (3, .int p3), (4, .int x4)] [] m (g_X5_open_40 th p1 p2 p3 k40 x4 m) := by
  unfold g_X5_open_40
  refine z_iload C dX5_open_40 4 rfl ?_
  refine z_aload_n C dX5_open_42 rfl 0 rfl ?_
  refine z_chk (fun hk1 => ?_)
  refine z_getR C fl_RX5_11 rfl hk1 dX5_open_43 ?_
  refine z_ck (fun a1 hr1 hk2 => ?_)
  refine z_alen C hr1 hk2 (by decide) (by decide) dX5_open_46 ?_
  refine z_icmp_ge (tgt := 181) C dX5_open_47 (by decide) (fun c1 => ?_) (fun c1 => ?_)
  · exact z_vret C hr dX5_open_181
  · refine z_aload_n C dX5_open_50 rfl 0 rfl ?_
    refine z_getR C fl_RX5_11 rfl hk1 dX5_open_51 ?_
    refine z_iload C dX5_open_54 4 rfl ?_
    refine z_chk (fun hj1 => ?_)
    refine z_aald C hr1 hk2 (by decide) (by decide) hj1 dX5_open_56 ?_
    refine z_bndR (fun y1 => ?_)
    refine z_astore (i := 5) (L2 := [(5, va_rf y1), (0, va_rf (some th)), (1, va_rf p1), (2, va_rf p2), (3, .int p3), (4, .int x4)]) C dX5_open_57 (by decide) rfl ?_
    refine z_aload_n C dX5_open_59 rfl 2 rfl ?_
    refine z_ifnull (tgt := 175) C dX5_open_60 (by decide) (fun hn1 => ?_) (fun a2 ha1 => ?_)
    · exact z_sub [1, 2, 3, 4, 5] rfl (s_X5_open_175 C hr hrm th p1 p2 p3 k40 h40 x4 m)
    · refine z_aload C dX5_open_63 0 rfl ?_
      refine z_ifnull (tgt := 175) C dX5_open_65 (by decide) (fun hn2 => ?_) (fun a3 ha2 => ?_)
      · exact z_sub [1, 2, 3, 4, 5] rfl (s_X5_open_175 C hr hrm th p1 p2 p3 k40 h40 x4 m)
      · refine z_aload_n C dX5_open_68 rfl 2 rfl ?_
        refine z_iload C dX5_open_69 5 rfl ?_
        refine z_chk (fun hk3 => ?_)
        refine z_cVI [.int x4] [] C mv_RX5_46 (fun r0 m0 h0 => M_X8_hasThing _ _ _ _ _ _ _ h0) rfl rfl ⟨by rw [hrm]; exact Nat.le_of_ble_eq_true rfl, by rw [hrm]; exact Nat.le_of_ble_eq_true rfl⟩ ⟨by rw [hrm]; exact Nat.le_of_ble_eq_true rfl, by rw [hrm]; exact Nat.le_of_ble_eq_true rfl⟩ ha1 hk3 rfl rfl rfl (Nat.le_of_ble_eq_true rfl) dX5_open_71 (fun r1 m1 => ?_)
        refine z_if_ne (tgt := 80) C dX5_open_74 (by decide) (fun c2 => ?_) (fun c2 => ?_)
        · refine z_aload C dX5_open_80 0 rfl ?_
          refine z_aload_n C dX5_open_82 rfl 2 rfl ?_
          refine z_chk (fun hk4 => ?_)
          refine z_getR C fl_RX5_52 ha1 hk4 dX5_open_83 ?_
          refine z_iload C dX5_open_86 5 rfl ?_
          refine z_iconst (v := 0) C dX5_open_88 (by decide) ?_
          refine z_ck (fun a4 hr2 hk5 => ?_)
          refine z_cVI [.int x4, .int 0] [va_rf y1] C mv_RX5_56 (fun r0 m0 h0 => M_X6_cell _ _ _ _ _ _ _ _ h0) rfl rfl ⟨by rw [hrm]; exact Nat.le_of_ble_eq_true rfl, by rw [hrm]; exact Nat.le_of_ble_eq_true rfl⟩ ⟨by rw [hrm]; exact Nat.le_of_ble_eq_true rfl, by rw [hrm]; exact Nat.le_of_ble_eq_true rfl⟩ hr2 hk5 rfl rfl rfl (by simp [cat_rf, cat_i, cat_l, cat_a]) dX5_open_89 (fun r2 m2 => ?_)
          refine z_chk (fun hk6 => ?_)
          refine z_putI C fl_RX5_62 (fun h => by cases h) ha2 hk6 rfl rfl dX5_open_92 (fun m3 eK1 eN1 => ?_)
          refine z_aload C dX5_open_95 0 rfl ?_
          refine z_aload_n C dX5_open_97 rfl 2 rfl ?_
          refine z_chk (fun hk7 => ?_)
          refine z_getR C fl_RX5_52 ha1 hk7 dX5_open_98 ?_
          refine z_iload C dX5_open_101 5 rfl ?_
          refine z_iconst (v := 1) C dX5_open_103 (by decide) ?_
          refine z_ck (fun a5 hr3 hk8 => ?_)
          refine z_cVI [.int x4, .int 1] [va_rf y1] C mv_RX5_56 (fun r0 m0 h0 => M_X6_cell _ _ _ _ _ _ _ _ h0) rfl rfl ⟨by rw [hrm]; exact Nat.le_of_ble_eq_true rfl, by rw [hrm]; exact Nat.le_of_ble_eq_true rfl⟩ ⟨by rw [hrm]; exact Nat.le_of_ble_eq_true rfl, by rw [hrm]; exact Nat.le_of_ble_eq_true rfl⟩ hr3 hk8 rfl rfl rfl (by simp [cat_rf, cat_i, cat_l, cat_a]) dX5_open_104 (fun r3 m4 => ?_)
          refine z_chk (fun hk9 => ?_)
          refine z_putI C fl_RX5_65 (fun h => by cases h) ha2 hk9 rfl rfl dX5_open_107 (fun m5 eK2 eN2 => ?_)
          refine z_aload C dX5_open_110 0 rfl ?_
          refine z_aload_n C dX5_open_112 rfl 2 rfl ?_
          refine z_chk (fun hk10 => ?_)
          refine z_getR C fl_RX5_52 ha1 hk10 dX5_open_113 ?_
          refine z_iload C dX5_open_116 5 rfl ?_
          refine z_iconst (v := 2) C dX5_open_118 (by decide) ?_
          refine z_ck (fun a6 hr4 hk11 => ?_)
          refine z_cVI [.int x4, .int 2] [va_rf y1] C mv_RX5_56 (fun r0 m0 h0 => M_X6_cell _ _ _ _ _ _ _ _ h0) rfl rfl ⟨by rw [hrm]; exact Nat.le_of_ble_eq_true rfl, by rw [hrm]; exact Nat.le_of_ble_eq_true rfl⟩ ⟨by rw [hrm]; exact Nat.le_of_ble_eq_true rfl, by rw [hrm]; exact Nat.le_of_ble_eq_true rfl⟩ hr4 hk11 rfl rfl rfl (by simp [cat_rf, cat_i, cat_l, cat_a]) dX5_open_119 (fun r4 m6 => ?_)
          refine z_chk (fun hk12 => ?_)
          refine z_putI C fl_RX5_68 (fun h => by cases h) ha2 hk12 rfl rfl dX5_open_122 (fun m7 eK3 eN3 => ?_)
          refine z_aload C dX5_open_125 0 rfl ?_
          refine z_aload_n C dX5_open_127 rfl 2 rfl ?_
          refine z_chk (fun hk13 => ?_)
          refine z_getR C fl_RX5_52 ha1 hk13 dX5_open_128 ?_
          refine z_iload C dX5_open_131 5 rfl ?_
          refine z_iconst (v := 5) C dX5_open_133 (by decide) ?_
          refine z_ck (fun a7 hr5 hk14 => ?_)
          refine z_cVI [.int x4, .int 5] [va_rf y1] C mv_RX5_56 (fun r0 m0 h0 => M_X6_cell _ _ _ _ _ _ _ _ h0) rfl rfl ⟨by rw [hrm]; exact Nat.le_of_ble_eq_true rfl, by rw [hrm]; exact Nat.le_of_ble_eq_true rfl⟩ ⟨by rw [hrm]; exact Nat.le_of_ble_eq_true rfl, by rw [hrm]; exact Nat.le_of_ble_eq_true rfl⟩ hr5 hk14 rfl rfl rfl (by simp [cat_rf, cat_i, cat_l, cat_a]) dX5_open_134 (fun r5 m8 => ?_)
          refine z_chk (fun hk15 => ?_)
          refine z_putI C fl_RX5_71 (fun h => by cases h) ha2 hk15 rfl rfl dX5_open_137 (fun m9 eK4 eN4 => ?_)
          refine z_aload C dX5_open_140 0 rfl ?_
          refine z_aload_n C dX5_open_142 rfl 2 rfl ?_
          refine z_iload C dX5_open_143 5 rfl ?_
          refine z_iload_n C dX5_open_145 rfl 4 rfl ?_
          refine z_chk (fun hk16 => ?_)
          refine z_cVI [.int x4, .int p3] [va_rf y1] C mv_RX5_74 (fun r0 m0 h0 => M_X8_growth _ _ _ _ _ _ _ _ h0) rfl rfl ⟨by rw [hrm]; exact Nat.le_of_ble_eq_true rfl, by rw [hrm]; exact Nat.le_of_ble_eq_true rfl⟩ ⟨by rw [hrm]; exact Nat.le_of_ble_eq_true rfl, by rw [hrm]; exact Nat.le_of_ble_eq_true rfl⟩ ha1 hk16 rfl rfl rfl (by simp [cat_rf, cat_i, cat_l, cat_a]) dX5_open_146 (fun r6 m10 => ?_)
          refine z_chk (fun hk17 => ?_)
          refine z_putI C fl_RX5_77 (fun h => by cases h) ha2 hk17 rfl rfl dX5_open_149 (fun m11 eK5 eN5 => ?_)
          refine z_aload_n C dX5_open_152 rfl 2 rfl ?_
          refine z_iload C dX5_open_153 5 rfl ?_
          refine z_iload_n C dX5_open_155 rfl 4 rfl ?_
          refine z_chk (fun hk18 => ?_)
          refine z_cVI [.int x4, .int p3] [] C mv_RX5_80 (fun r0 m0 h0 => M_X8_stands _ _ _ _ _ _ _ _ h0) rfl rfl ⟨by rw [hrm]; exact Nat.le_of_ble_eq_true rfl, by rw [hrm]; exact Nat.le_of_ble_eq_true rfl⟩ ⟨by rw [hrm]; exact Nat.le_of_ble_eq_true rfl, by rw [hrm]; exact Nat.le_of_ble_eq_true rfl⟩ ha1 hk18 rfl rfl rfl (Nat.le_of_ble_eq_true rfl) dX5_open_156 (fun r7 m12 => ?_)
          refine z_if_eq (tgt := 175) C dX5_open_159 (by decide) (fun c3 => ?_) (fun c3 => ?_)
          · exact z_sub [1, 2, 3, 4, 5] rfl (s_X5_open_175 C hr hrm th p1 p2 p3 k40 h40 x4 m12)
          · refine z_aload_n C dX5_open_162 rfl 1 rfl ?_
            refine z_dup C rfl dX5_open_163 ?_
            refine z_chk (fun hk19 => ?_)
            refine z_getI C fl_RX5_43 rfl hk19 dX5_open_164 ?_
            refine z_iconst (v := 1) C dX5_open_167 (by decide) ?_
            refine z_iload C dX5_open_168 5 rfl ?_
            refine z_ishl C dX5_open_170 ?_
            refine z_ior C dX5_open_171 ?_
            refine z_putI C fl_RX5_43 (fun h => by cases h) rfl hk19 rfl rfl dX5_open_172 (fun m13 eK6 eN6 => ?_)
            exact z_sub [1, 2, 3, 4, 5] rfl (s_X5_open_175 C hr hrm th p1 p2 p3 k40 h40 x4 m13)
        · refine z_goto (tgt := 175) C dX5_open_77 (by decide) ?_
          exact z_sub [1, 2, 3, 4, 5] rfl (s_X5_open_175 C hr hrm th p1 p2 p3 k40 h40 x4 m1)
def l_X5_open_40 (th : Nat) (p1 : Option Nat) (p2 : Option Nat) (p3 : Int32) : Nat → Int32 → MM → Option (Unit × MM) := lp (fun _ _ => none) (fun k40 => g_X5_open_40 th p1 p2 p3 k40)
theorem t_X5_open_40 {Γ : GX} {E : EX} (C : Cx Γ E cX5_open RX5 6) (hr : Γ.meth.sig.returnType = none) (hrm : Γ.rm = rmX5_open) (th : Nat) (p1 : Option Nat) (p2 : Option Nat) (p3 : Int32) : ∀ (n : Nat) (x4 : Int32) (m : MM), Sm (QM Γ E emV 0 0) Γ E 6 0 0 40 [(0, va_rf (some th)), (1, va_rf p1), (2, va_rf p2), (3, .int p3), (4, .int x4)] [] m (l_X5_open_40 th p1 p2 p3 n x4 m) := by
  intro n
  induction n with
  | zero => intros; exact z_none
  | succ n ih => intro x4 m; exact s_X5_open_40 C hr hrm th p1 p2 p3 (l_X5_open_40 th p1 p2 p3 n) ih x4 m
set_option maxRecDepth 100000 in
def g_X5_open_0 (th : Nat) (p1 : Option Nat) (p2 : Option Nat) (p3 : Int32) (m : MM) : Option (Unit × MM) :=
  chk (m.K th = 6) (bnd (m.sR 602 th 0 p1) (fun m14 => bnd (m14.sR 603 th 0 p2) (fun m15 => bnd (m15.sI 604 th 0 p3) (fun m16 => bnd (m16.sI 606 th 0 0) (fun m17 => bnd (m17.sI 607 th 0 255) (fun m18 => bnd (m18.sI 608 th 0 (-1)) (fun m19 => bnd (m19.sI 605 th 0 0) (fun m20 => l_X5_open_40 th p1 p2 p3 FU 0 m20))))))))
set_option maxHeartbeats 4000000 in
set_option maxRecDepth 100000 in
theorem s_X5_open_0 {Γ : GX} {E : EX} (C : Cx Γ E cX5_open RX5 6) (hr : Γ.meth.sig.returnType = none) (hrm : Γ.rm = rmX5_open) (th : Nat) (p1 : Option Nat) (p2 : Option Nat) (p3 : Int32) (m : MM) : Sm (QM Γ E emV 0 0) Γ E 6 0 0 0 [(0, va_rf (some th)), (1, va_rf p1), (2, va_rf p2), (3, .int p3)] [] m (g_X5_open_0 th p1 p2 p3 m) := by
  unfold g_X5_open_0
  refine z_aload_n C dX5_open_0 rfl 0 rfl ?_
  refine z_aload_n C dX5_open_1 rfl 1 rfl ?_
  refine z_chk (fun hk20 => ?_)
  refine z_putR C fl_RX5_22 (fun h => by cases h) rfl hk20 nr_of fr_of dX5_open_2 (fun m14 eK7 eN7 => ?_)
  refine z_aload_n C dX5_open_5 rfl 0 rfl ?_
  refine z_aload_n C dX5_open_6 rfl 2 rfl ?_
  refine z_putR C fl_RX5_26 (fun h => by cases h) rfl (kfw eK7 hk20) nr_of fr_of dX5_open_7 (fun m15 eK8 eN8 => ?_)
  refine z_aload_n C dX5_open_10 rfl 0 rfl ?_
  refine z_iload_n C dX5_open_11 rfl 3 rfl ?_
  refine z_putI C fl_RX5_30 (fun h => by cases h) rfl (kfw eK8 (kfw eK7 hk20)) rfl rfl dX5_open_12 (fun m16 eK9 eN9 => ?_)
  refine z_aload_n C dX5_open_15 rfl 0 rfl ?_
  refine z_iconst (v := 0) C dX5_open_16 (by decide) ?_
  refine z_putI C fl_RX5_34 (fun h => by cases h) rfl (kfw eK9 (kfw eK8 (kfw eK7 hk20))) rfl rfl dX5_open_17 (fun m17 eK10 eN10 => ?_)
  refine z_aload_n C dX5_open_20 rfl 0 rfl ?_
  refine z_sipush (v := 255) C dX5_open_21 (by decide) ?_
  refine z_putI C fl_RX5_37 (fun h => by cases h) rfl (kfw eK10 (kfw eK9 (kfw eK8 (kfw eK7 hk20)))) rfl rfl dX5_open_24 (fun m18 eK11 eN11 => ?_)
  refine z_aload_n C dX5_open_27 rfl 0 rfl ?_
  refine z_iconst (v := (-1)) C dX5_open_28 (by decide) ?_
  refine z_putI C fl_RX5_40 (fun h => by cases h) rfl (kfw eK11 (kfw eK10 (kfw eK9 (kfw eK8 (kfw eK7 hk20))))) rfl rfl dX5_open_29 (fun m19 eK12 eN12 => ?_)
  refine z_aload_n C dX5_open_32 rfl 0 rfl ?_
  refine z_iconst (v := 0) C dX5_open_33 (by decide) ?_
  refine z_putI C fl_RX5_43 (fun h => by cases h) rfl (kfw eK12 (kfw eK11 (kfw eK10 (kfw eK9 (kfw eK8 (kfw eK7 hk20)))))) rfl rfl dX5_open_34 (fun m20 eK13 eN13 => ?_)
  refine z_iconst (v := 0) C dX5_open_37 (by decide) ?_
  refine z_istore (i := 4) (L2 := [(4, .int 0), (0, va_rf (some th)), (1, va_rf p1), (2, va_rf p2), (3, .int p3)]) C dX5_open_38 (by decide) rfl ?_
  exact z_sub [1, 2, 3, 4, 0] rfl (t_X5_open_40 C hr hrm th p1 p2 p3 FU 0 m20)
def f_X5_open (th : Nat) (p1 : Option Nat) (p2 : Option Nat) (p3 : Int32) (m : MM) : Option (Unit × MM) := g_X5_open_0 th p1 p2 p3 m
theorem M_X5_open (l : Launch) (E : EX) (th : Nat) (p1 : Option Nat) (p2 : Option Nat) (p3 : Int32) (m : MM) (r : Unit) (m2 : MM) (h : f_X5_open th p1 p2 p3 m = some (r, m2)) : Met l yX5_open (.code yX5_open cX5_open 6 none :: TB) rmX5_open (va_Pc [.ref th, va_rf p1, va_rf p2, .int p3] (St E m)) (QR E (emV r) m2) 0 0 (AA E) :=
  met_of (em := emV) (plainFor_of_name rfl) (by simp [lg_sl, cat_rf, cat_i, cat_l, cat_a]) (L0 := [(0, va_rf (some th)), (1, va_rf p1), (2, va_rf p2), (3, .int p3)]) (by simp [lv_args, cat_rf, cat_i, cat_l, cat_a] <;> rfl) (fun Γ _ hrm C hr hn => s_X5_open_0 C hr hrm th p1 p2 p3 m) h

theorem dX5_wallsBetween_0 : decode cX5_wallsBetween 0 = .ok (.aload_n 0, 1) := by decide +kernel
theorem dX5_wallsBetween_1 : decode cX5_wallsBetween 1 = .ok (.getfield 22, 3) := by decide +kernel
theorem dX5_wallsBetween_4 : decode cX5_wallsBetween 4 = .ok (.astore_n 3, 1) := by decide +kernel
theorem dX5_wallsBetween_5 : decode cX5_wallsBetween 5 = .ok (.aload_n 3, 1) := by decide +kernel
theorem dX5_wallsBetween_6 : decode cX5_wallsBetween 6 = .ok (.ifnonnull 7, 3) := by decide +kernel
theorem dX5_wallsBetween_9 : decode cX5_wallsBetween 9 = .ok (.iconst 0, 1) := by decide +kernel
theorem dX5_wallsBetween_10 : decode cX5_wallsBetween 10 = .ok (.goto 14, 3) := by decide +kernel
theorem dX5_wallsBetween_13 : decode cX5_wallsBetween 13 = .ok (.aload_n 0, 1) := by decide +kernel
theorem dX5_wallsBetween_14 : decode cX5_wallsBetween 14 = .ok (.aload_n 3, 1) := by decide +kernel
theorem dX5_wallsBetween_15 : decode cX5_wallsBetween 15 = .ok (.getfield 114, 3) := by decide +kernel
theorem dX5_wallsBetween_18 : decode cX5_wallsBetween 18 = .ok (.iconst 1, 1) := by decide +kernel
theorem dX5_wallsBetween_19 : decode cX5_wallsBetween 19 = .ok (.aload_n 1, 1) := by decide +kernel
theorem dX5_wallsBetween_20 : decode cX5_wallsBetween 20 = .ok (.aload_n 2, 1) := by decide +kernel
theorem dX5_wallsBetween_21 : decode cX5_wallsBetween 21 = .ok (.invokevirtual 117, 3) := by decide +kernel
theorem dX5_wallsBetween_24 : decode cX5_wallsBetween 24 = .ok (.ireturn, 1) := by decide +kernel
def rmX5_wallsBetween : Room := { frames := 2, cells := 0, slots := 0, locals := 66 }
set_option maxRecDepth 100000 in
def g_X5_wallsBetween_0 (th : Nat) (p1 : Option Nat) (p2 : Option Nat) (m : MM) : Option (Int32 × MM) :=
  chk (m.K th = 6) (bnd (m.R 602 th 0) (fun y1 => ifn y1 (some (0, m)) (fun a1 => chk (m.K a1 = 9) (cal (f_X5_linesBetween th (m.R 905 a1 0) 1 p1 p2 m) (fun r1 m1 => some (r1, m1))))))
set_option maxHeartbeats 4000000 in
set_option maxRecDepth 100000 in
theorem s_X5_wallsBetween_0 {Γ : GX} {E : EX} (C : Cx Γ E cX5_wallsBetween RX5 4) (hr : Γ.meth.sig.returnType = (some .int)) (hrm : Γ.rm = rmX5_wallsBetween) (th : Nat) (p1 : Option Nat) (p2 : Option Nat) (m : MM) : Sm (QM Γ E emI 0 0) Γ E 4 0 0 0 [(0, va_rf (some th)), (1, va_rf p1), (2, va_rf p2)] [] m (g_X5_wallsBetween_0 th p1 p2 m) := by
  unfold g_X5_wallsBetween_0
  refine z_aload_n C dX5_wallsBetween_0 rfl 0 rfl ?_
  refine z_chk (fun hk1 => ?_)
  refine z_getR C fl_RX5_22 rfl hk1 dX5_wallsBetween_1 ?_
  refine z_bndR (fun y1 => ?_)
  refine z_astore_n (i := 3) (L2 := [(3, va_rf y1), (0, va_rf (some th)), (1, va_rf p1), (2, va_rf p2)]) C dX5_wallsBetween_4 rfl (by decide) (by simp [cat_rf, cat_i, cat_l, cat_a]) ?_
  refine z_aload_n C dX5_wallsBetween_5 rfl 0 rfl ?_
  refine z_ifnonnull (tgt := 13) C dX5_wallsBetween_6 (by decide) (fun a1 ha1 => ?_) (fun hn1 => ?_)
  · refine z_aload_n C dX5_wallsBetween_13 rfl 1 rfl ?_
    refine z_aload_n C dX5_wallsBetween_14 rfl 0 rfl ?_
    refine z_chk (fun hk2 => ?_)
    refine z_getR C fl_RX5_114 ha1 hk2 dX5_wallsBetween_15 ?_
    refine z_iconst (v := 1) C dX5_wallsBetween_18 (by decide) ?_
    refine z_aload_n C dX5_wallsBetween_19 rfl 2 rfl ?_
    refine z_aload_n C dX5_wallsBetween_20 rfl 3 rfl ?_
    refine z_cVI [va_rf (m.R 905 a1 0), .int 1, va_rf p1, va_rf p2] [] C mv_RX5_117 (fun r0 m0 h0 => M_X5_linesBetween _ _ _ _ _ _ _ _ _ _ h0) rfl rfl ⟨by rw [hrm]; exact Nat.le_of_ble_eq_true rfl, by rw [hrm]; exact Nat.le_of_ble_eq_true rfl⟩ ⟨by rw [hrm]; exact Nat.le_of_ble_eq_true rfl, by rw [hrm]; exact Nat.le_of_ble_eq_true rfl⟩ rfl hk1 rfl rfl rfl (Nat.le_of_ble_eq_true rfl) dX5_wallsBetween_21 (fun r1 m1 => ?_)
    exact z_iret C hr dX5_wallsBetween_24
  · refine z_iconst (v := 0) C dX5_wallsBetween_9 (by decide) ?_
    refine z_goto (tgt := 24) C dX5_wallsBetween_10 (by decide) ?_
    exact z_iret C hr dX5_wallsBetween_24
def f_X5_wallsBetween (th : Nat) (p1 : Option Nat) (p2 : Option Nat) (m : MM) : Option (Int32 × MM) := g_X5_wallsBetween_0 th p1 p2 m
theorem M_X5_wallsBetween (l : Launch) (E : EX) (th : Nat) (p1 : Option Nat) (p2 : Option Nat) (m : MM) (r : Int32) (m2 : MM) (h : f_X5_wallsBetween th p1 p2 m = some (r, m2)) : Met l yX5_wallsBetween (.code yX5_wallsBetween cX5_wallsBetween 4 (some .int) :: TB) rmX5_wallsBetween (va_Pc [.ref th, va_rf p1, va_rf p2] (St E m)) (QR E (emI r) m2) 0 0 (AA E) :=
  met_of (em := emI) (plainFor_of_name rfl) (by simp [lg_sl, cat_rf, cat_i, cat_l, cat_a]) (L0 := [(0, va_rf (some th)), (1, va_rf p1), (2, va_rf p2)]) (by simp [lv_args, cat_rf, cat_i, cat_l, cat_a] <;> rfl) (fun Γ _ hrm C hr hn => s_X5_wallsBetween_0 C hr hrm th p1 p2 m) h

theorem dX5_lacks_0 : decode cX5_lacks 0 = .ok (.aload_n 0, 1) := by decide +kernel
theorem dX5_lacks_1 : decode cX5_lacks 1 = .ok (.iload_n 1, 1) := by decide +kernel
theorem dX5_lacks_2 : decode cX5_lacks 2 = .ok (.invokevirtual 87, 3) := by decide +kernel
theorem dX5_lacks_5 : decode cX5_lacks 5 = .ok (.astore 4, 2) := by decide +kernel
theorem dX5_lacks_7 : decode cX5_lacks 7 = .ok (.aload_n 0, 1) := by decide +kernel
theorem dX5_lacks_8 : decode cX5_lacks 8 = .ok (.iload_n 2, 1) := by decide +kernel
theorem dX5_lacks_9 : decode cX5_lacks 9 = .ok (.invokevirtual 87, 3) := by decide +kernel
theorem dX5_lacks_12 : decode cX5_lacks 12 = .ok (.astore 5, 2) := by decide +kernel
theorem dX5_lacks_14 : decode cX5_lacks 14 = .ok (.aload_n 0, 1) := by decide +kernel
theorem dX5_lacks_15 : decode cX5_lacks 15 = .ok (.getfield 26, 3) := by decide +kernel
theorem dX5_lacks_18 : decode cX5_lacks 18 = .ok (.ifnull 13, 3) := by decide +kernel
theorem dX5_lacks_21 : decode cX5_lacks 21 = .ok (.aload 4, 2) := by decide +kernel
theorem dX5_lacks_23 : decode cX5_lacks 23 = .ok (.ifnull 8, 3) := by decide +kernel
theorem dX5_lacks_26 : decode cX5_lacks 26 = .ok (.aload 5, 2) := by decide +kernel
theorem dX5_lacks_28 : decode cX5_lacks 28 = .ok (.ifnonnull 5, 3) := by decide +kernel
theorem dX5_lacks_31 : decode cX5_lacks 31 = .ok (.iconst (-1), 1) := by decide +kernel
theorem dX5_lacks_32 : decode cX5_lacks 32 = .ok (.ireturn, 1) := by decide +kernel
theorem dX5_lacks_33 : decode cX5_lacks 33 = .ok (.aload 5, 2) := by decide +kernel
theorem dX5_lacks_35 : decode cX5_lacks 35 = .ok (.getfield 65, 3) := by decide +kernel
theorem dX5_lacks_38 : decode cX5_lacks 38 = .ok (.aload 4, 2) := by decide +kernel
theorem dX5_lacks_40 : decode cX5_lacks 40 = .ok (.getfield 65, 3) := by decide +kernel
theorem dX5_lacks_43 : decode cX5_lacks 43 = .ok (.isub, 1) := by decide +kernel
theorem dX5_lacks_44 : decode cX5_lacks 44 = .ok (.istore 6, 2) := by decide +kernel
theorem dX5_lacks_46 : decode cX5_lacks 46 = .ok (.aload 5, 2) := by decide +kernel
theorem dX5_lacks_48 : decode cX5_lacks 48 = .ok (.getfield 68, 3) := by decide +kernel
theorem dX5_lacks_51 : decode cX5_lacks 51 = .ok (.aload 4, 2) := by decide +kernel
theorem dX5_lacks_53 : decode cX5_lacks 53 = .ok (.getfield 68, 3) := by decide +kernel
theorem dX5_lacks_56 : decode cX5_lacks 56 = .ok (.isub, 1) := by decide +kernel
theorem dX5_lacks_57 : decode cX5_lacks 57 = .ok (.istore 7, 2) := by decide +kernel
theorem dX5_lacks_59 : decode cX5_lacks 59 = .ok (.iconst 0, 1) := by decide +kernel
theorem dX5_lacks_60 : decode cX5_lacks 60 = .ok (.istore 8, 2) := by decide +kernel
theorem dX5_lacks_62 : decode cX5_lacks 62 = .ok (.iload 8, 2) := by decide +kernel
theorem dX5_lacks_64 : decode cX5_lacks 64 = .ok (.bipush 64, 2) := by decide +kernel
theorem dX5_lacks_66 : decode cX5_lacks 66 = .ok (.if_icmp .ge 32, 3) := by decide +kernel
theorem dX5_lacks_69 : decode cX5_lacks 69 = .ok (.iload 8, 2) := by decide +kernel
theorem dX5_lacks_71 : decode cX5_lacks 71 = .ok (.iconst 1, 1) := by decide +kernel
theorem dX5_lacks_72 : decode cX5_lacks 72 = .ok (.iadd, 1) := by decide +kernel
theorem dX5_lacks_73 : decode cX5_lacks 73 = .ok (.iload 8, 2) := by decide +kernel
theorem dX5_lacks_75 : decode cX5_lacks 75 = .ok (.iconst 1, 1) := by decide +kernel
theorem dX5_lacks_76 : decode cX5_lacks 76 = .ok (.iadd, 1) := by decide +kernel
theorem dX5_lacks_77 : decode cX5_lacks 77 = .ok (.imul, 1) := by decide +kernel
theorem dX5_lacks_78 : decode cX5_lacks 78 = .ok (.iload 6, 2) := by decide +kernel
theorem dX5_lacks_80 : decode cX5_lacks 80 = .ok (.iload 6, 2) := by decide +kernel
theorem dX5_lacks_82 : decode cX5_lacks 82 = .ok (.imul, 1) := by decide +kernel
theorem dX5_lacks_83 : decode cX5_lacks 83 = .ok (.iload 7, 2) := by decide +kernel
theorem dX5_lacks_85 : decode cX5_lacks 85 = .ok (.iload 7, 2) := by decide +kernel
theorem dX5_lacks_87 : decode cX5_lacks 87 = .ok (.imul, 1) := by decide +kernel
theorem dX5_lacks_88 : decode cX5_lacks 88 = .ok (.iadd, 1) := by decide +kernel
theorem dX5_lacks_89 : decode cX5_lacks 89 = .ok (.if_icmp .gt 9, 3) := by decide +kernel
theorem dX5_lacks_92 : decode cX5_lacks 92 = .ok (.iinc 8 1, 3) := by decide +kernel
theorem dX5_lacks_95 : decode cX5_lacks 95 = .ok (.goto (-33), 3) := by decide +kernel
theorem dX5_lacks_98 : decode cX5_lacks 98 = .ok (.aload_n 0, 1) := by decide +kernel
theorem dX5_lacks_99 : decode cX5_lacks 99 = .ok (.getfield 26, 3) := by decide +kernel
theorem dX5_lacks_102 : decode cX5_lacks 102 = .ok (.getfield 98, 3) := by decide +kernel
theorem dX5_lacks_105 : decode cX5_lacks 105 = .ok (.iload_n 3, 1) := by decide +kernel
theorem dX5_lacks_106 : decode cX5_lacks 106 = .ok (.iconst 3, 1) := by decide +kernel
theorem dX5_lacks_107 : decode cX5_lacks 107 = .ok (.invokevirtual 56, 3) := by decide +kernel
theorem dX5_lacks_110 : decode cX5_lacks 110 = .ok (.aload 4, 2) := by decide +kernel
theorem dX5_lacks_112 : decode cX5_lacks 112 = .ok (.getfield 77, 3) := by decide +kernel
theorem dX5_lacks_115 : decode cX5_lacks 115 = .ok (.iadd, 1) := by decide +kernel
theorem dX5_lacks_116 : decode cX5_lacks 116 = .ok (.aload 5, 2) := by decide +kernel
theorem dX5_lacks_118 : decode cX5_lacks 118 = .ok (.getfield 77, 3) := by decide +kernel
theorem dX5_lacks_121 : decode cX5_lacks 121 = .ok (.iadd, 1) := by decide +kernel
theorem dX5_lacks_122 : decode cX5_lacks 122 = .ok (.iload 8, 2) := by decide +kernel
theorem dX5_lacks_124 : decode cX5_lacks 124 = .ok (.isub, 1) := by decide +kernel
theorem dX5_lacks_125 : decode cX5_lacks 125 = .ok (.ireturn, 1) := by decide +kernel
def rmX5_lacks : Room := { frames := 1, cells := 0, slots := 0, locals := 23 }
set_option maxRecDepth 100000 in
def g_X5_lacks_62 (th : Nat) (p1 : Int32) (p2 : Int32) (p3 : Int32) (k62 : Option Nat → Option Nat → Int32 → Int32 → Int32 → MM → Option (Int32 × MM)) (k98 : Option Nat → Option Nat → Int32 → MM → Option (Int32 × MM)) (x4 : Option Nat) (x5 : Option Nat) (x6 : Int32) (x7 : Int32) (x8 : Int32) (m : MM) : Option (Int32 × MM) :=
  if 64 ≤ x8 then (k98 x4 x5 x8 m) else (if ((x6 * x6) + (x7 * x7)) < ((x8 + 1) * (x8 + 1)) then (k98 x4 x5 x8 m) else (k62 x4 x5 x6 x7 (x8 + 1) m))
set_option maxHeartbeats 4000000 in
set_option maxRecDepth 100000 in
theorem s_X5_lacks_62 {Γ : GX} {E : EX} (C : Cx Γ E cX5_lacks RX5 9) (hr : Γ.meth.sig.returnType = (some .int)) (hrm : Γ.rm = rmX5_lacks) (th : Nat) (p1 : Int32) (p2 : Int32) (p3 : Int32) (k62 : Option Nat → Option Nat → Int32 → Int32 → Int32 → MM → Option (Int32 × MM)) (k98 : Option Nat → Option Nat → Int32 → MM → Option (Int32 × MM)) (h62 : ∀ (x4 : Option Nat) (x5 : Option Nat) (x6 : Int32) (x7 : Int32) (x8 : Int32) (m : MM), Sm (QM Γ E emI 0 0) Γ E 9 0 0 62 [(0, va_rf (some th)), (1, .int p1), (2, .int p2), (3, .int p3), (4, va_rf x4), (5, va_rf x5), (6, .int x6), (7, .int x7), (8, .int x8)] [] m (k62 x4 x5 x6 x7 x8 m)) (h98 : ∀ (x4 : Option Nat) (x5 : Option Nat) (x8 : Int32) (m : MM), Sm (QM Γ E emI 0 0) Γ E 9 0 0 98 [(0, va_rf (some th)), (1, .int p1), (2, .int p2), (3, .int p3), (4, va_rf x4), (5, va_rf x5), (8, .int x8)] [] m (k98 x4 x5 x8 m)) (x4 : Option Nat) (x5 : Option Nat) (x6 : Int32) (x7 : Int32) (x8 : Int32) (m : MM) : Sm (QM Γ E emI 0 0) Γ E 9 0 0 62 [(0, va_rf (some th)), (1, .int p1), (2, .int p2), (3, .int p3), (4, va_rf x4), (5, va_rf x5), (6, .int x6), (7, .int x7), (8, .int x8)] [] m (g_X5_lacks_62 th p1 p2 p3 k62 k98 x4 x5 x6 x7 x8 m) := by
  unfold g_X5_lacks_62
  refine z_iload C dX5_lacks_62 8 rfl ?_
  refine z_bipush (v := 64) C dX5_lacks_64 (by decide) ?_
  refine z_icmp_ge (tgt := 98) C dX5_lacks_66 (by decide) (fun c1 => ?_) (fun c1 => ?_)
  · exact z_sub [0, 1, 2, 3, 4, 5, 8] rfl (h98 x4 x5 x8 m)
  · refine z_iload C dX5_lacks_69 8 rfl ?_
    refine z_iconst (v := 1) C dX5_lacks_71 (by decide) ?_
    refine z_iadd C dX5_lacks_72 ?_
    refine z_iload C dX5_lacks_73 8 rfl ?_
    refine z_iconst (v := 1) C dX5_lacks_75 (by decide) ?_
    refine z_iadd C dX5_lacks_76 ?_
    refine z_imul C dX5_lacks_77 ?_
    refine z_iload C dX5_lacks_78 6 rfl ?_
    refine z_iload C dX5_lacks_80 6 rfl ?_
    refine z_imul C dX5_lacks_82 ?_
    refine z_iload C dX5_lacks_83 7 rfl ?_
    refine z_iload C dX5_lacks_85 7 rfl ?_
    refine z_imul C dX5_lacks_87 ?_
    refine z_iadd C dX5_lacks_88 ?_
    refine z_icmp_gt (tgt := 98) C dX5_lacks_89 (by decide) (fun c2 => ?_) (fun c2 => ?_)
    · exact z_sub [0, 1, 2, 3, 4, 5, 8] rfl (h98 x4 x5 x8 m)
    · refine z_iinc (v := 1) (L2 := [(8, .int (x8 + 1)), (0, va_rf (some th)), (1, .int p1), (2, .int p2), (3, .int p3), (4, va_rf x4), (5, va_rf x5), (6, .int x6), (7, .int x7)]) C dX5_lacks_92 8 rfl (by decide) (by decide) rfl ?_
      refine z_goto (tgt := 62) C dX5_lacks_95 (by decide) ?_
      exact z_sub [1, 2, 3, 4, 5, 6, 7, 8, 0] rfl (h62 x4 x5 x6 x7 (x8 + 1) m)
def l_X5_lacks_62 (th : Nat) (p1 : Int32) (p2 : Int32) (p3 : Int32) (k98 : Option Nat → Option Nat → Int32 → MM → Option (Int32 × MM)) : Nat → Option Nat → Option Nat → Int32 → Int32 → Int32 → MM → Option (Int32 × MM) := lp (fun _ _ _ _ _ _ => none) (fun k62 => g_X5_lacks_62 th p1 p2 p3 k62 k98)
theorem t_X5_lacks_62 {Γ : GX} {E : EX} (C : Cx Γ E cX5_lacks RX5 9) (hr : Γ.meth.sig.returnType = (some .int)) (hrm : Γ.rm = rmX5_lacks) (th : Nat) (p1 : Int32) (p2 : Int32) (p3 : Int32) (k98 : Option Nat → Option Nat → Int32 → MM → Option (Int32 × MM)) (h98 : ∀ (x4 : Option Nat) (x5 : Option Nat) (x8 : Int32) (m : MM), Sm (QM Γ E emI 0 0) Γ E 9 0 0 98 [(0, va_rf (some th)), (1, .int p1), (2, .int p2), (3, .int p3), (4, va_rf x4), (5, va_rf x5), (8, .int x8)] [] m (k98 x4 x5 x8 m)) : ∀ (n : Nat) (x4 : Option Nat) (x5 : Option Nat) (x6 : Int32) (x7 : Int32) (x8 : Int32) (m : MM), Sm (QM Γ E emI 0 0) Γ E 9 0 0 62 [(0, va_rf (some th)), (1, .int p1), (2, .int p2), (3, .int p3), (4, va_rf x4), (5, va_rf x5), (6, .int x6), (7, .int x7), (8, .int x8)] [] m (l_X5_lacks_62 th p1 p2 p3 k98 n x4 x5 x6 x7 x8 m) := by
  intro n
  induction n with
  | zero => intros; exact z_none
  | succ n ih => intro x4 x5 x6 x7 x8 m; exact s_X5_lacks_62 C hr hrm th p1 p2 p3 (l_X5_lacks_62 th p1 p2 p3 k98 n) k98 ih h98 x4 x5 x6 x7 x8 m
set_option maxRecDepth 100000 in
def g_X5_lacks_98 (th : Nat) (p1 : Int32) (p2 : Int32) (p3 : Int32) (x4 : Option Nat) (x5 : Option Nat) (x8 : Int32) (m : MM) : Option (Int32 × MM) :=
  chk (m.K th = 6) (ck m (m.R 603 th 0) 3 (fun a1 => ck m (m.R 300 a1 0) 7 (fun a2 => cal (f_X6_cell a2 p3 3 m) (fun r1 m1 => ck m1 x4 1 (fun a3 => ck m1 x5 1 (fun a4 => some (((r1 + (m1.I 104 a3 0)) + (m1.I 104 a4 0)) - x8, m1)))))))
set_option maxHeartbeats 4000000 in
set_option maxRecDepth 100000 in
theorem s_X5_lacks_98 {Γ : GX} {E : EX} (C : Cx Γ E cX5_lacks RX5 9) (hr : Γ.meth.sig.returnType = (some .int)) (hrm : Γ.rm = rmX5_lacks) (th : Nat) (p1 : Int32) (p2 : Int32) (p3 : Int32) (x4 : Option Nat) (x5 : Option Nat) (x8 : Int32) (m : MM) : Sm (QM Γ E emI 0 0) Γ E 9 0 0 98 [(0, va_rf (some th)), (1, .int p1), (2, .int p2), (3, .int p3), (4, va_rf x4), (5, va_rf x5), (8, .int x8)] [] m (g_X5_lacks_98 th p1 p2 p3 x4 x5 x8 m) := by
  unfold g_X5_lacks_98
  refine z_aload_n C dX5_lacks_98 rfl 0 rfl ?_
  refine z_chk (fun hk1 => ?_)
  refine z_getR C fl_RX5_26 rfl hk1 dX5_lacks_99 ?_
  refine z_ck (fun a1 hr1 hk2 => ?_)
  refine z_getR C fl_RX5_98 hr1 hk2 dX5_lacks_102 ?_
  refine z_iload_n C dX5_lacks_105 rfl 3 rfl ?_
  refine z_iconst (v := 3) C dX5_lacks_106 (by decide) ?_
  refine z_ck (fun a2 hr2 hk3 => ?_)
  refine z_cVI [.int p3, .int 3] [] C mv_RX5_56 (fun r0 m0 h0 => M_X6_cell _ _ _ _ _ _ _ _ h0) rfl rfl ⟨by rw [hrm]; exact Nat.le_of_ble_eq_true rfl, by rw [hrm]; exact Nat.le_of_ble_eq_true rfl⟩ ⟨by rw [hrm]; exact Nat.le_of_ble_eq_true rfl, by rw [hrm]; exact Nat.le_of_ble_eq_true rfl⟩ hr2 hk3 rfl rfl rfl (Nat.le_of_ble_eq_true rfl) dX5_lacks_107 (fun r1 m1 => ?_)
  refine z_aload C dX5_lacks_110 4 rfl ?_
  refine z_ck (fun a3 hr3 hk4 => ?_)
  refine z_getI C fl_RX5_77 hr3 hk4 dX5_lacks_112 ?_
  refine z_iadd C dX5_lacks_115 ?_
  refine z_aload C dX5_lacks_116 5 rfl ?_
  refine z_ck (fun a4 hr4 hk5 => ?_)
  refine z_getI C fl_RX5_77 hr4 hk5 dX5_lacks_118 ?_
  refine z_iadd C dX5_lacks_121 ?_
  refine z_iload C dX5_lacks_122 6 rfl ?_
  refine z_isub C dX5_lacks_124 ?_
  exact z_iret C hr dX5_lacks_125
set_option maxRecDepth 100000 in
def g_X5_lacks_0 (th : Nat) (p1 : Int32) (p2 : Int32) (p3 : Int32) (m : MM) : Option (Int32 × MM) :=
  chk (m.K th = 6) (cal (f_X5_body th p1 m) (fun r2 m2 => chk (m2.K th = 6) (cal (f_X5_body th p2 m2) (fun r3 m3 => chk (m3.K th = 6) (ifn (m3.R 603 th 0) (some ((-1), m3)) (fun a5 => ifn r2 (some ((-1), m3)) (fun a6 => ifn r3 (some ((-1), m3)) (fun a7 => chk (m3.K a7 = 1) (chk (m3.K a6 = 1) (bnd ((m3.I 101 a7 0) - (m3.I 101 a6 0)) (fun y1 => bnd ((m3.I 102 a7 0) - (m3.I 102 a6 0)) (fun y2 => l_X5_lacks_62 th p1 p2 p3 (g_X5_lacks_98 th p1 p2 p3) FU r2 r3 y1 y2 0 m3))))))))))))
set_option maxHeartbeats 4000000 in
set_option maxRecDepth 100000 in
theorem s_X5_lacks_0 {Γ : GX} {E : EX} (C : Cx Γ E cX5_lacks RX5 9) (hr : Γ.meth.sig.returnType = (some .int)) (hrm : Γ.rm = rmX5_lacks) (th : Nat) (p1 : Int32) (p2 : Int32) (p3 : Int32) (m : MM) : Sm (QM Γ E emI 0 0) Γ E 9 0 0 0 [(0, va_rf (some th)), (1, .int p1), (2, .int p2), (3, .int p3)] [] m (g_X5_lacks_0 th p1 p2 p3 m) := by
  unfold g_X5_lacks_0
  refine z_aload_n C dX5_lacks_0 rfl 0 rfl ?_
  refine z_iload_n C dX5_lacks_1 rfl 1 rfl ?_
  refine z_chk (fun hk6 => ?_)
  refine z_cVR [.int p1] [] C mv_RX5_87 (fun r0 m0 h0 => M_X5_body _ _ _ _ _ _ _ h0) rfl rfl ⟨by rw [hrm]; exact Nat.le_of_ble_eq_true rfl, by rw [hrm]; exact Nat.le_of_ble_eq_true rfl⟩ ⟨by rw [hrm]; exact Nat.le_of_ble_eq_true rfl, by rw [hrm]; exact Nat.le_of_ble_eq_true rfl⟩ rfl hk6 rfl rfl rfl (Nat.le_of_ble_eq_true rfl) dX5_lacks_2 (fun r2 m2 => ?_)
  refine z_astore (i := 4) (L2 := [(4, va_rf r2), (0, va_rf (some th)), (1, .int p1), (2, .int p2), (3, .int p3)]) C dX5_lacks_5 (by decide) rfl ?_
  refine z_aload_n C dX5_lacks_7 rfl 1 rfl ?_
  refine z_iload_n C dX5_lacks_8 rfl 3 rfl ?_
  refine z_chk (fun hk7 => ?_)
  refine z_cVR [.int p2] [] C mv_RX5_87 (fun r0 m0 h0 => M_X5_body _ _ _ _ _ _ _ h0) rfl rfl ⟨by rw [hrm]; exact Nat.le_of_ble_eq_true rfl, by rw [hrm]; exact Nat.le_of_ble_eq_true rfl⟩ ⟨by rw [hrm]; exact Nat.le_of_ble_eq_true rfl, by rw [hrm]; exact Nat.le_of_ble_eq_true rfl⟩ rfl hk7 rfl rfl rfl (Nat.le_of_ble_eq_true rfl) dX5_lacks_9 (fun r3 m3 => ?_)
  refine z_astore (i := 5) (L2 := [(5, va_rf r3), (4, va_rf r2), (0, va_rf (some th)), (1, .int p1), (2, .int p2), (3, .int p3)]) C dX5_lacks_12 (by decide) (by simp [cat_rf, cat_i, cat_l, cat_a]) ?_
  refine z_aload_n C dX5_lacks_14 rfl 2 rfl ?_
  refine z_chk (fun hk8 => ?_)
  refine z_getR C fl_RX5_26 rfl hk8 dX5_lacks_15 ?_
  refine z_ifnull (tgt := 31) C dX5_lacks_18 (by decide) (fun hn1 => ?_) (fun a5 ha1 => ?_)
  · refine z_iconst (v := (-1)) C dX5_lacks_31 (by decide) ?_
    exact z_iret C hr dX5_lacks_32
  · refine z_aload C dX5_lacks_21 1 rfl ?_
    refine z_ifnull (tgt := 31) C dX5_lacks_23 (by decide) (fun hn2 => ?_) (fun a6 ha2 => ?_)
    · refine z_iconst (v := (-1)) C dX5_lacks_31 (by decide) ?_
      exact z_iret C hr dX5_lacks_32
    · refine z_aload C dX5_lacks_26 0 rfl ?_
      refine z_ifnonnull (tgt := 33) C dX5_lacks_28 (by decide) (fun a7 ha3 => ?_) (fun hn3 => ?_)
      · refine z_aload C dX5_lacks_33 0 rfl ?_
        refine z_chk (fun hk9 => ?_)
        refine z_getI C fl_RX5_65 ha3 hk9 dX5_lacks_35 ?_
        refine z_aload C dX5_lacks_38 1 rfl ?_
        refine z_chk (fun hk10 => ?_)
        refine z_getI C fl_RX5_65 ha2 hk10 dX5_lacks_40 ?_
        refine z_isub C dX5_lacks_43 ?_
        refine z_bndI (fun y1 => ?_)
        refine z_istore (i := 6) (L2 := [(6, .int y1), (5, va_rf r3), (4, va_rf r2), (0, va_rf (some th)), (1, .int p1), (2, .int p2), (3, .int p3)]) C dX5_lacks_44 (by decide) (by simp [cat_rf, cat_i, cat_l, cat_a]) ?_
        refine z_aload C dX5_lacks_46 1 rfl ?_
        refine z_getI C fl_RX5_68 ha3 hk9 dX5_lacks_48 ?_
        refine z_aload C dX5_lacks_51 2 rfl ?_
        refine z_getI C fl_RX5_68 ha2 hk10 dX5_lacks_53 ?_
        refine z_isub C dX5_lacks_56 ?_
        refine z_bndI (fun y2 => ?_)
        refine z_istore (i := 7) (L2 := [(7, .int y2), (6, .int y1), (5, va_rf r3), (4, va_rf r2), (0, va_rf (some th)), (1, .int p1), (2, .int p2), (3, .int p3)]) C dX5_lacks_57 (by decide) rfl ?_
        refine z_iconst (v := 0) C dX5_lacks_59 (by decide) ?_
        refine z_istore (i := 8) (L2 := [(8, .int 0), (7, .int y2), (6, .int y1), (5, va_rf r3), (4, va_rf r2), (0, va_rf (some th)), (1, .int p1), (2, .int p2), (3, .int p3)]) C dX5_lacks_60 (by decide) rfl ?_
        exact z_sub [5, 6, 7, 8, 4, 3, 2, 1, 0] rfl (t_X5_lacks_62 C hr hrm th p1 p2 p3 (g_X5_lacks_98 th p1 p2 p3) (s_X5_lacks_98 C hr hrm th p1 p2 p3) FU r2 r3 y1 y2 0 m3)
      · refine z_iconst (v := (-1)) C dX5_lacks_31 (by decide) ?_
        exact z_iret C hr dX5_lacks_32
def f_X5_lacks (th : Nat) (p1 : Int32) (p2 : Int32) (p3 : Int32) (m : MM) : Option (Int32 × MM) := g_X5_lacks_0 th p1 p2 p3 m
theorem M_X5_lacks (l : Launch) (E : EX) (th : Nat) (p1 : Int32) (p2 : Int32) (p3 : Int32) (m : MM) (r : Int32) (m2 : MM) (h : f_X5_lacks th p1 p2 p3 m = some (r, m2)) : Met l yX5_lacks (.code yX5_lacks cX5_lacks 9 (some .int) :: TB) rmX5_lacks (va_Pc [.ref th, .int p1, .int p2, .int p3] (St E m)) (QR E (emI r) m2) 0 0 (AA E) :=
  met_of (em := emI) (plainFor_of_name rfl) (Nat.le_of_ble_eq_true rfl) (L0 := [(0, va_rf (some th)), (1, .int p1), (2, .int p2), (3, .int p3)]) rfl (fun Γ _ hrm C hr hn => s_X5_lacks_0 C hr hrm th p1 p2 p3 m) h
