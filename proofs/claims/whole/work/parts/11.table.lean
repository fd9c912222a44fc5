theorem dX0_init_0 : decode cX0_init 0 = .ok (.aload_n 0, 1) := by decide +kernel
theorem dX0_init_1 : decode cX0_init 1 = .ok (.invokespecial 1, 3) := by decide +kernel
theorem dX0_init_4 : decode cX0_init 4 = .ok (.return_, 1) := by decide +kernel
def rmX0_init : Room := { frames := 1, cells := 0, slots := 0, locals := 20 }
set_option maxRecDepth 100000 in
def f_X0_init (th : Nat) (m : MM) : Option (Unit × MM) :=
  some ((), m)
set_option maxHeartbeats 4000000 in
set_option maxRecDepth 100000 in
theorem s_X0_init_0 {Γ : GX} {E : EX} (C : Cx Γ E cX0_init RX0 1) (hr : Γ.meth.sig.returnType = none) (hrm : Γ.rm = rmX0_init) (hnm : Γ.meth.name = "<init>") (th : Nat) (m : MM) : Sm (QM Γ E emV 0 0) Γ E 1 0 0 0 [(0, va_rf (some th))] [] m (f_X0_init th m) := by
  unfold f_X0_init
  refine z_aload_n C dX0_init_0 rfl 0 rfl ?_
  refine z_obj C rfl mo_RX0_1 (by rw [hrm]; exact Nat.le_of_ble_eq_true rfl) (by rw [hrm]; exact Nat.le_of_ble_eq_true rfl) (Nat.le_of_ble_eq_true rfl) dX0_init_1 ?_
  exact z_vret C hr dX0_init_4
theorem M_X0_init (l : Launch) (E : EX) (th : Nat) (m : MM) (r : Unit) (m2 : MM) (h : f_X0_init th m = some (r, m2)) : Met l yX0_init (.code yX0_init cX0_init 1 none :: TB) rmX0_init (va_Pc [.ref th] (St E m)) (QR E (emV r) m2) 0 0 (AA E) :=
  met_of (em := emV) (plainFor_of_name rfl) (Nat.le_of_ble_eq_true rfl) (L0 := [(0, va_rf (some th))]) rfl (fun Γ _ hrm C hr hn => s_X0_init_0 C hr hrm hn th m) h

theorem dX0_seesAhead_0 : decode cX0_seesAhead 0 = .ok (.aload_n 0, 1) := by decide +kernel
theorem dX0_seesAhead_1 : decode cX0_seesAhead 1 = .ok (.getfield 7, 3) := by decide +kernel
theorem dX0_seesAhead_4 : decode cX0_seesAhead 4 = .ok (.ifCond .lt 25, 3) := by decide +kernel
theorem dX0_seesAhead_7 : decode cX0_seesAhead 7 = .ok (.aload_n 0, 1) := by decide +kernel
theorem dX0_seesAhead_8 : decode cX0_seesAhead 8 = .ok (.getfield 7, 3) := by decide +kernel
theorem dX0_seesAhead_11 : decode cX0_seesAhead 11 = .ok (.getstatic 13, 3) := by decide +kernel
theorem dX0_seesAhead_14 : decode cX0_seesAhead 14 = .ok (.arraylength, 1) := by decide +kernel
theorem dX0_seesAhead_15 : decode cX0_seesAhead 15 = .ok (.if_icmp .ge 14, 3) := by decide +kernel
theorem dX0_seesAhead_18 : decode cX0_seesAhead 18 = .ok (.aload_n 0, 1) := by decide +kernel
theorem dX0_seesAhead_19 : decode cX0_seesAhead 19 = .ok (.getfield 7, 3) := by decide +kernel
theorem dX0_seesAhead_22 : decode cX0_seesAhead 22 = .ok (.getstatic 19, 3) := by decide +kernel
theorem dX0_seesAhead_25 : decode cX0_seesAhead 25 = .ok (.arraylength, 1) := by decide +kernel
theorem dX0_seesAhead_26 : decode cX0_seesAhead 26 = .ok (.if_icmp .lt 5, 3) := by decide +kernel
theorem dX0_seesAhead_29 : decode cX0_seesAhead 29 = .ok (.iconst 0, 1) := by decide +kernel
theorem dX0_seesAhead_30 : decode cX0_seesAhead 30 = .ok (.ireturn, 1) := by decide +kernel
theorem dX0_seesAhead_31 : decode cX0_seesAhead 31 = .ok (.aload_n 1, 1) := by decide +kernel
theorem dX0_seesAhead_32 : decode cX0_seesAhead 32 = .ok (.getfield 22, 3) := by decide +kernel
theorem dX0_seesAhead_35 : decode cX0_seesAhead 35 = .ok (.aload_n 0, 1) := by decide +kernel
theorem dX0_seesAhead_36 : decode cX0_seesAhead 36 = .ok (.getfield 22, 3) := by decide +kernel
theorem dX0_seesAhead_39 : decode cX0_seesAhead 39 = .ok (.isub, 1) := by decide +kernel
theorem dX0_seesAhead_40 : decode cX0_seesAhead 40 = .ok (.istore_n 2, 1) := by decide +kernel
theorem dX0_seesAhead_41 : decode cX0_seesAhead 41 = .ok (.aload_n 1, 1) := by decide +kernel
theorem dX0_seesAhead_42 : decode cX0_seesAhead 42 = .ok (.getfield 25, 3) := by decide +kernel
theorem dX0_seesAhead_45 : decode cX0_seesAhead 45 = .ok (.aload_n 0, 1) := by decide +kernel
theorem dX0_seesAhead_46 : decode cX0_seesAhead 46 = .ok (.getfield 25, 3) := by decide +kernel
theorem dX0_seesAhead_49 : decode cX0_seesAhead 49 = .ok (.isub, 1) := by decide +kernel
theorem dX0_seesAhead_50 : decode cX0_seesAhead 50 = .ok (.istore_n 3, 1) := by decide +kernel
theorem dX0_seesAhead_51 : decode cX0_seesAhead 51 = .ok (.iload_n 2, 1) := by decide +kernel
theorem dX0_seesAhead_52 : decode cX0_seesAhead 52 = .ok (.getstatic 13, 3) := by decide +kernel
theorem dX0_seesAhead_55 : decode cX0_seesAhead 55 = .ok (.aload_n 0, 1) := by decide +kernel
theorem dX0_seesAhead_56 : decode cX0_seesAhead 56 = .ok (.getfield 7, 3) := by decide +kernel
theorem dX0_seesAhead_59 : decode cX0_seesAhead 59 = .ok (.iaload, 1) := by decide +kernel
theorem dX0_seesAhead_60 : decode cX0_seesAhead 60 = .ok (.imul, 1) := by decide +kernel
theorem dX0_seesAhead_61 : decode cX0_seesAhead 61 = .ok (.iload_n 3, 1) := by decide +kernel
theorem dX0_seesAhead_62 : decode cX0_seesAhead 62 = .ok (.getstatic 19, 3) := by decide +kernel
theorem dX0_seesAhead_65 : decode cX0_seesAhead 65 = .ok (.aload_n 0, 1) := by decide +kernel
theorem dX0_seesAhead_66 : decode cX0_seesAhead 66 = .ok (.getfield 7, 3) := by decide +kernel
theorem dX0_seesAhead_69 : decode cX0_seesAhead 69 = .ok (.iaload, 1) := by decide +kernel
theorem dX0_seesAhead_70 : decode cX0_seesAhead 70 = .ok (.imul, 1) := by decide +kernel
theorem dX0_seesAhead_71 : decode cX0_seesAhead 71 = .ok (.iadd, 1) := by decide +kernel
theorem dX0_seesAhead_72 : decode cX0_seesAhead 72 = .ok (.istore 4, 2) := by decide +kernel
theorem dX0_seesAhead_74 : decode cX0_seesAhead 74 = .ok (.iload_n 2, 1) := by decide +kernel
theorem dX0_seesAhead_75 : decode cX0_seesAhead 75 = .ok (.getstatic 19, 3) := by decide +kernel
theorem dX0_seesAhead_78 : decode cX0_seesAhead 78 = .ok (.aload_n 0, 1) := by decide +kernel
theorem dX0_seesAhead_79 : decode cX0_seesAhead 79 = .ok (.getfield 7, 3) := by decide +kernel
theorem dX0_seesAhead_82 : decode cX0_seesAhead 82 = .ok (.iaload, 1) := by decide +kernel
theorem dX0_seesAhead_83 : decode cX0_seesAhead 83 = .ok (.imul, 1) := by decide +kernel
theorem dX0_seesAhead_84 : decode cX0_seesAhead 84 = .ok (.iload_n 3, 1) := by decide +kernel
theorem dX0_seesAhead_85 : decode cX0_seesAhead 85 = .ok (.getstatic 13, 3) := by decide +kernel
theorem dX0_seesAhead_88 : decode cX0_seesAhead 88 = .ok (.aload_n 0, 1) := by decide +kernel
theorem dX0_seesAhead_89 : decode cX0_seesAhead 89 = .ok (.getfield 7, 3) := by decide +kernel
theorem dX0_seesAhead_92 : decode cX0_seesAhead 92 = .ok (.iaload, 1) := by decide +kernel
theorem dX0_seesAhead_93 : decode cX0_seesAhead 93 = .ok (.imul, 1) := by decide +kernel
theorem dX0_seesAhead_94 : decode cX0_seesAhead 94 = .ok (.isub, 1) := by decide +kernel
theorem dX0_seesAhead_95 : decode cX0_seesAhead 95 = .ok (.istore 5, 2) := by decide +kernel
theorem dX0_seesAhead_97 : decode cX0_seesAhead 97 = .ok (.iload 4, 2) := by decide +kernel
theorem dX0_seesAhead_99 : decode cX0_seesAhead 99 = .ok (.ifCond .le 12, 3) := by decide +kernel
theorem dX0_seesAhead_102 : decode cX0_seesAhead 102 = .ok (.iload 5, 2) := by decide +kernel
theorem dX0_seesAhead_104 : decode cX0_seesAhead 104 = .ok (.ifCond .ne 7, 3) := by decide +kernel
theorem dX0_seesAhead_107 : decode cX0_seesAhead 107 = .ok (.iconst 1, 1) := by decide +kernel
theorem dX0_seesAhead_108 : decode cX0_seesAhead 108 = .ok (.goto 4, 3) := by decide +kernel
theorem dX0_seesAhead_111 : decode cX0_seesAhead 111 = .ok (.iconst 0, 1) := by decide +kernel
theorem dX0_seesAhead_112 : decode cX0_seesAhead 112 = .ok (.ireturn, 1) := by decide +kernel
def rmX0_seesAhead : Room := { frames := 0, cells := 0, slots := 0, locals := 0 }
set_option maxRecDepth 100000 in
def g_X0_seesAhead_111 (th : Nat) (p1 : Option Nat) (m : MM) : Option (Int32 × MM) :=
  some (0, m)
set_option maxHeartbeats 4000000 in
set_option maxRecDepth 100000 in
theorem s_X0_seesAhead_111 {Γ : GX} {E : EX} (C : Cx Γ E cX0_seesAhead RX0 6) (hr : Γ.meth.sig.returnType = (some .boolean)) (hrm : Γ.rm = rmX0_seesAhead) (th : Nat) (p1 : Option Nat) (m : MM) : Sm (QM Γ E emI 0 0) Γ E 6 0 0 111 [(0, va_rf (some th)), (1, va_rf p1)] [] m (g_X0_seesAhead_111 th p1 m) := by
  unfold g_X0_seesAhead_111
  refine z_iconst (v := 0) C dX0_seesAhead_111 (by decide) ?_
  exact z_zret C hr rfl dX0_seesAhead_112
set_option maxRecDepth 100000 in
def g_X0_seesAhead_0 (th : Nat) (p1 : Option Nat) (m : MM) : Option (Int32 × MM) :=
  chk (m.K th = 1) (if (m.I 103 th 0) < 0 then (some (0, m)) else (if 4 ≤ (m.I 103 th 0) then (some (0, m)) else (if (m.I 103 th 0) < 4 then (ck m p1 1 (fun a1 => bnd ((m.I 101 a1 0) - (m.I 101 th 0)) (fun y1 => bnd ((m.I 102 a1 0) - (m.I 102 th 0)) (fun y2 => chk (inb (m.I 103 th 0) (saV 2).length = true) (chk (inb (m.I 103 th 0) (saV 3).length = true) (bnd ((y1 * ((saV 2).getD (Int32.toNatClampNeg (m.I 103 th 0)) 0)) + (y2 * ((saV 3).getD (Int32.toNatClampNeg (m.I 103 th 0)) 0))) (fun y3 => chk (inb (m.I 103 th 0) (saV 3).length = true) (chk (inb (m.I 103 th 0) (saV 2).length = true) (bnd ((y1 * ((saV 3).getD (Int32.toNatClampNeg (m.I 103 th 0)) 0)) - (y2 * ((saV 2).getD (Int32.toNatClampNeg (m.I 103 th 0)) 0))) (fun y4 => if y3 ≤ 0 then (g_X0_seesAhead_111 th p1 m) else (if y4 = 0 then (some (1, m)) else (g_X0_seesAhead_111 th p1 m)))))))))))) else (some (0, m)))))
set_option maxHeartbeats 4000000 in
set_option maxRecDepth 100000 in
theorem s_X0_seesAhead_0 {Γ : GX} {E : EX} (C : Cx Γ E cX0_seesAhead RX0 6) (hr : Γ.meth.sig.returnType = (some .boolean)) (hrm : Γ.rm = rmX0_seesAhead) (th : Nat) (p1 : Option Nat) (m : MM) : Sm (QM Γ E emI 0 0) Γ E 6 0 0 0 [(0, va_rf (some th)), (1, va_rf p1)] [] m (g_X0_seesAhead_0 th p1 m) := by
  unfold g_X0_seesAhead_0
  refine z_aload_n C dX0_seesAhead_0 rfl 0 rfl ?_
  refine z_chk (fun hk1 => ?_)
  refine z_getI C fl_RX0_7 rfl hk1 dX0_seesAhead_1 ?_
  refine z_if_lt (tgt := 29) C dX0_seesAhead_4 (by decide) (fun c1 => ?_) (fun c1 => ?_)
  · refine z_iconst (v := 0) C dX0_seesAhead_29 (by decide) ?_
    exact z_zret C hr rfl dX0_seesAhead_30
  · refine z_aload_n C dX0_seesAhead_7 rfl 0 rfl ?_
    refine z_getI C fl_RX0_7 rfl hk1 dX0_seesAhead_8 ?_
    refine z_getsN C (j := 2) (host := "FarTown") (by decide) (by decide +kernel) dX0_seesAhead_11 ?_
    refine z_slen C (by decide) (v := 4) (by decide) dX0_seesAhead_14 ?_
    refine z_icmp_ge (tgt := 29) C dX0_seesAhead_15 (by decide) (fun c2 => ?_) (fun c2 => ?_)
    · refine z_iconst (v := 0) C dX0_seesAhead_29 (by decide) ?_
      exact z_zret C hr rfl dX0_seesAhead_30
    · refine z_aload_n C dX0_seesAhead_18 rfl 0 rfl ?_
      refine z_getI C fl_RX0_7 rfl hk1 dX0_seesAhead_19 ?_
      refine z_getsN C (j := 3) (host := "FarTown") (by decide) (by decide +kernel) dX0_seesAhead_22 ?_
      refine z_slen C (by decide) (v := 4) (by decide) dX0_seesAhead_25 ?_
      refine z_icmp_lt (tgt := 31) C dX0_seesAhead_26 (by decide) (fun c3 => ?_) (fun c3 => ?_)
      · refine z_aload_n C dX0_seesAhead_31 rfl 1 rfl ?_
        refine z_ck (fun a1 hr1 hk2 => ?_)
        refine z_getI C fl_RX0_22 hr1 hk2 dX0_seesAhead_32 ?_
        refine z_aload_n C dX0_seesAhead_35 rfl 0 rfl ?_
        refine z_getI C fl_RX0_22 rfl hk1 dX0_seesAhead_36 ?_
        refine z_isub C dX0_seesAhead_39 ?_
        refine z_bndI (fun y1 => ?_)
        refine z_istore_n (i := 2) (L2 := [(2, .int y1), (0, va_rf (some th)), (1, va_rf p1)]) C dX0_seesAhead_40 rfl (by decide) (by simp [cat_rf, cat_i, cat_l, cat_a]) ?_
        refine z_aload_n C dX0_seesAhead_41 rfl 2 rfl ?_
        refine z_getI C fl_RX0_25 hr1 hk2 dX0_seesAhead_42 ?_
        refine z_aload_n C dX0_seesAhead_45 rfl 1 rfl ?_
        refine z_getI C fl_RX0_25 rfl hk1 dX0_seesAhead_46 ?_
        refine z_isub C dX0_seesAhead_49 ?_
        refine z_bndI (fun y2 => ?_)
        refine z_istore_n (i := 3) (L2 := [(3, .int y2), (2, .int y1), (0, va_rf (some th)), (1, va_rf p1)]) C dX0_seesAhead_50 rfl (by decide) rfl ?_
        refine z_iload_n C dX0_seesAhead_51 rfl 1 rfl ?_
        refine z_getsN C (j := 2) (host := "FarTown") (by decide) (by decide +kernel) dX0_seesAhead_52 ?_
        refine z_aload_n C dX0_seesAhead_55 rfl 2 rfl ?_
        refine z_getI C fl_RX0_7 rfl hk1 dX0_seesAhead_56 ?_
        refine z_chk (fun hj1 => ?_)
        refine z_sald C (by decide) hj1 dX0_seesAhead_59 ?_
        refine z_imul C dX0_seesAhead_60 ?_
        refine z_iload_n C dX0_seesAhead_61 rfl 0 rfl ?_
        refine z_getsN C (j := 3) (host := "FarTown") (by decide) (by decide +kernel) dX0_seesAhead_62 ?_
        refine z_aload_n C dX0_seesAhead_65 rfl 2 rfl ?_
        refine z_getI C fl_RX0_7 rfl hk1 dX0_seesAhead_66 ?_
        refine z_chk (fun hj2 => ?_)
        refine z_sald C (by decide) hj2 dX0_seesAhead_69 ?_
        refine z_imul C dX0_seesAhead_70 ?_
        refine z_iadd C dX0_seesAhead_71 ?_
        refine z_bndI (fun y3 => ?_)
        refine z_istore (i := 4) (L2 := [(4, .int y3), (3, .int y2), (2, .int y1), (0, va_rf (some th)), (1, va_rf p1)]) C dX0_seesAhead_72 (by decide) rfl ?_
        refine z_iload_n C dX0_seesAhead_74 rfl 2 rfl ?_
        refine z_getsN C (j := 3) (host := "FarTown") (by decide) (by decide +kernel) dX0_seesAhead_75 ?_
        refine z_aload_n C dX0_seesAhead_78 rfl 3 rfl ?_
        refine z_getI C fl_RX0_7 rfl hk1 dX0_seesAhead_79 ?_
        refine z_chk (fun hj3 => ?_)
        refine z_sald C (by decide) hj3 dX0_seesAhead_82 ?_
        refine z_imul C dX0_seesAhead_83 ?_
        refine z_iload_n C dX0_seesAhead_84 rfl 1 rfl ?_
        refine z_getsN C (j := 2) (host := "FarTown") (by decide) (by decide +kernel) dX0_seesAhead_85 ?_
        refine z_aload_n C dX0_seesAhead_88 rfl 3 rfl ?_
        refine z_getI C fl_RX0_7 rfl hk1 dX0_seesAhead_89 ?_
        refine z_chk (fun hj4 => ?_)
        refine z_sald C (by decide) hj4 dX0_seesAhead_92 ?_
        refine z_imul C dX0_seesAhead_93 ?_
        refine z_isub C dX0_seesAhead_94 ?_
        refine z_bndI (fun y4 => ?_)
        refine z_istore (i := 5) (L2 := [(5, .int y4), (4, .int y3), (3, .int y2), (2, .int y1), (0, va_rf (some th)), (1, va_rf p1)]) C dX0_seesAhead_95 (by decide) rfl ?_
        refine z_iload C dX0_seesAhead_97 1 rfl ?_
        refine z_if_le (tgt := 111) C dX0_seesAhead_99 (by decide) (fun c4 => ?_) (fun c4 => ?_)
        · exact z_sub [4, 5] rfl (s_X0_seesAhead_111 C hr hrm th p1 m)
        · refine z_iload C dX0_seesAhead_102 0 rfl ?_
          refine z_if_ne (tgt := 111) C dX0_seesAhead_104 (by decide) (fun c5 => ?_) (fun c5 => ?_)
          · exact z_sub [4, 5] rfl (s_X0_seesAhead_111 C hr hrm th p1 m)
          · refine z_iconst (v := 1) C dX0_seesAhead_107 (by decide) ?_
            refine z_goto (tgt := 112) C dX0_seesAhead_108 (by decide) ?_
            exact z_zret C hr rfl dX0_seesAhead_112
      · refine z_iconst (v := 0) C dX0_seesAhead_29 (by decide) ?_
        exact z_zret C hr rfl dX0_seesAhead_30
def f_X0_seesAhead (th : Nat) (p1 : Option Nat) (m : MM) : Option (Int32 × MM) := g_X0_seesAhead_0 th p1 m
theorem M_X0_seesAhead (l : Launch) (E : EX) (th : Nat) (p1 : Option Nat) (m : MM) (r : Int32) (m2 : MM) (h : f_X0_seesAhead th p1 m = some (r, m2)) : Met l yX0_seesAhead (.code yX0_seesAhead cX0_seesAhead 6 (some .boolean) :: TB) rmX0_seesAhead (va_Pc [.ref th, va_rf p1] (St E m)) (QR E (emI r) m2) 0 0 (AA E) :=
  met_of (em := emI) (plainFor_of_name rfl) (by simp [lg_sl, cat_rf, cat_i, cat_l, cat_a]) (L0 := [(0, va_rf (some th)), (1, va_rf p1)]) (by simp [lv_args, cat_rf, cat_i, cat_l, cat_a] <;> rfl) (fun Γ _ hrm C hr hn => s_X0_seesAhead_0 C hr hrm th p1 m) h

theorem dX6_cell_0 : decode cX6_cell 0 = .ok (.iload_n 1, 1) := by decide +kernel
theorem dX6_cell_1 : decode cX6_cell 1 = .ok (.ifCond .lt 23, 3) := by decide +kernel
theorem dX6_cell_4 : decode cX6_cell 4 = .ok (.iload_n 1, 1) := by decide +kernel
theorem dX6_cell_5 : decode cX6_cell 5 = .ok (.aload_n 0, 1) := by decide +kernel
theorem dX6_cell_6 : decode cX6_cell 6 = .ok (.getfield 22, 3) := by decide +kernel
theorem dX6_cell_9 : decode cX6_cell 9 = .ok (.if_icmp .ge 15, 3) := by decide +kernel
theorem dX6_cell_12 : decode cX6_cell 12 = .ok (.iload_n 2, 1) := by decide +kernel
theorem dX6_cell_13 : decode cX6_cell 13 = .ok (.ifCond .lt 11, 3) := by decide +kernel
theorem dX6_cell_16 : decode cX6_cell 16 = .ok (.iload_n 2, 1) := by decide +kernel
theorem dX6_cell_17 : decode cX6_cell 17 = .ok (.aload_n 0, 1) := by decide +kernel
theorem dX6_cell_18 : decode cX6_cell 18 = .ok (.getfield 15, 3) := by decide +kernel
theorem dX6_cell_21 : decode cX6_cell 21 = .ok (.if_icmp .lt 5, 3) := by decide +kernel
theorem dX6_cell_24 : decode cX6_cell 24 = .ok (.iconst (-1), 1) := by decide +kernel
theorem dX6_cell_25 : decode cX6_cell 25 = .ok (.ireturn, 1) := by decide +kernel
theorem dX6_cell_26 : decode cX6_cell 26 = .ok (.iload_n 1, 1) := by decide +kernel
theorem dX6_cell_27 : decode cX6_cell 27 = .ok (.aload_n 0, 1) := by decide +kernel
theorem dX6_cell_28 : decode cX6_cell 28 = .ok (.getfield 15, 3) := by decide +kernel
theorem dX6_cell_31 : decode cX6_cell 31 = .ok (.imul, 1) := by decide +kernel
theorem dX6_cell_32 : decode cX6_cell 32 = .ok (.iload_n 2, 1) := by decide +kernel
theorem dX6_cell_33 : decode cX6_cell 33 = .ok (.iadd, 1) := by decide +kernel
theorem dX6_cell_34 : decode cX6_cell 34 = .ok (.istore_n 3, 1) := by decide +kernel
theorem dX6_cell_35 : decode cX6_cell 35 = .ok (.iload_n 3, 1) := by decide +kernel
theorem dX6_cell_36 : decode cX6_cell 36 = .ok (.aload_n 0, 1) := by decide +kernel
theorem dX6_cell_37 : decode cX6_cell 37 = .ok (.getfield 18, 3) := by decide +kernel
theorem dX6_cell_40 : decode cX6_cell 40 = .ok (.arraylength, 1) := by decide +kernel
theorem dX6_cell_41 : decode cX6_cell 41 = .ok (.if_icmp .ge 12, 3) := by decide +kernel
theorem dX6_cell_44 : decode cX6_cell 44 = .ok (.aload_n 0, 1) := by decide +kernel
theorem dX6_cell_45 : decode cX6_cell 45 = .ok (.getfield 18, 3) := by decide +kernel
theorem dX6_cell_48 : decode cX6_cell 48 = .ok (.iload_n 3, 1) := by decide +kernel
theorem dX6_cell_49 : decode cX6_cell 49 = .ok (.iaload, 1) := by decide +kernel
theorem dX6_cell_50 : decode cX6_cell 50 = .ok (.goto 4, 3) := by decide +kernel
theorem dX6_cell_53 : decode cX6_cell 53 = .ok (.iconst (-1), 1) := by decide +kernel
theorem dX6_cell_54 : decode cX6_cell 54 = .ok (.ireturn, 1) := by decide +kernel
def rmX6_cell : Room := { frames := 0, cells := 0, slots := 0, locals := 0 }
set_option maxRecDepth 100000 in
def g_X6_cell_0 (th : Nat) (p1 : Int32) (p2 : Int32) (m : MM) : Option (Int32 × MM) :=
  if p1 < 0 then (some ((-1), m)) else (chk (m.K th = 7) (if (m.I 703 th 0) ≤ p1 then (some ((-1), m)) else (if p2 < 0 then (some ((-1), m)) else (if p2 < (m.I 701 th 0) then (bnd ((p1 * (m.I 701 th 0)) + p2) (fun y1 => ck m (m.R 702 th 0) 22 (fun a1 => if (Int32.ofNat (m.N a1)) ≤ y1 then (some ((-1), m)) else (chk (inb y1 (m.N a1) = true) (some (m.I 22 a1 (Int32.toNatClampNeg y1), m)))))) else (some ((-1), m))))))
set_option maxHeartbeats 4000000 in
set_option maxRecDepth 100000 in
theorem s_X6_cell_0 {Γ : GX} {E : EX} (C : Cx Γ E cX6_cell RX6 4) (hr : Γ.meth.sig.returnType = (some .int)) (hrm : Γ.rm = rmX6_cell) (th : Nat) (p1 : Int32) (p2 : Int32) (m : MM) : Sm (QM Γ E emI 0 0) Γ E 4 0 0 0 [(0, va_rf (some th)), (1, .int p1), (2, .int p2)] [] m (g_X6_cell_0 th p1 p2 m) := by
  unfold g_X6_cell_0
  refine z_iload_n C dX6_cell_0 rfl 1 rfl ?_
  refine z_if_lt (tgt := 24) C dX6_cell_1 (by decide) (fun c1 => ?_) (fun c1 => ?_)
  · refine z_iconst (v := (-1)) C dX6_cell_24 (by decide) ?_
    exact z_iret C hr dX6_cell_25
  · refine z_iload_n C dX6_cell_4 rfl 1 rfl ?_
    refine z_aload_n C dX6_cell_5 rfl 0 rfl ?_
    refine z_chk (fun hk1 => ?_)
    refine z_getI C fl_RX6_22 rfl hk1 dX6_cell_6 ?_
    refine z_icmp_ge (tgt := 24) C dX6_cell_9 (by decide) (fun c2 => ?_) (fun c2 => ?_)
    · refine z_iconst (v := (-1)) C dX6_cell_24 (by decide) ?_
      exact z_iret C hr dX6_cell_25
    · refine z_iload_n C dX6_cell_12 rfl 2 rfl ?_
      refine z_if_lt (tgt := 24) C dX6_cell_13 (by decide) (fun c3 => ?_) (fun c3 => ?_)
      · refine z_iconst (v := (-1)) C dX6_cell_24 (by decide) ?_
        exact z_iret C hr dX6_cell_25
      · refine z_iload_n C dX6_cell_16 rfl 2 rfl ?_
        refine z_aload_n C dX6_cell_17 rfl 0 rfl ?_
        refine z_getI C fl_RX6_15 rfl hk1 dX6_cell_18 ?_
        refine z_icmp_lt (tgt := 26) C dX6_cell_21 (by decide) (fun c4 => ?_) (fun c4 => ?_)
        · refine z_iload_n C dX6_cell_26 rfl 1 rfl ?_
          refine z_aload_n C dX6_cell_27 rfl 0 rfl ?_
          refine z_getI C fl_RX6_15 rfl hk1 dX6_cell_28 ?_
          refine z_imul C dX6_cell_31 ?_
          refine z_iload_n C dX6_cell_32 rfl 2 rfl ?_
          refine z_iadd C dX6_cell_33 ?_
          refine z_bndI (fun y1 => ?_)
          refine z_istore_n (i := 3) (L2 := [(3, .int y1), (0, va_rf (some th)), (1, .int p1), (2, .int p2)]) C dX6_cell_34 rfl (by decide) rfl ?_
          refine z_iload_n C dX6_cell_35 rfl 0 rfl ?_
          refine z_aload_n C dX6_cell_36 rfl 1 rfl ?_
          refine z_getR C fl_RX6_18 rfl hk1 dX6_cell_37 ?_
          refine z_ck (fun a1 hr1 hk2 => ?_)
          refine z_alen C hr1 hk2 (by decide) (by decide) dX6_cell_40 ?_
          refine z_icmp_ge (tgt := 53) C dX6_cell_41 (by decide) (fun c5 => ?_) (fun c5 => ?_)
          · refine z_iconst (v := (-1)) C dX6_cell_53 (by decide) ?_
            exact z_iret C hr dX6_cell_54
          · refine z_aload_n C dX6_cell_44 rfl 1 rfl ?_
            refine z_getR C fl_RX6_18 rfl hk1 dX6_cell_45 ?_
            refine z_iload_n C dX6_cell_48 rfl 0 rfl ?_
            refine z_chk (fun hj1 => ?_)
            refine z_iald C hr1 hk2 hj1 dX6_cell_49 ?_
            refine z_goto (tgt := 54) C dX6_cell_50 (by decide) ?_
            exact z_iret C hr dX6_cell_54
        · refine z_iconst (v := (-1)) C dX6_cell_24 (by decide) ?_
          exact z_iret C hr dX6_cell_25
def f_X6_cell (th : Nat) (p1 : Int32) (p2 : Int32) (m : MM) : Option (Int32 × MM) := g_X6_cell_0 th p1 p2 m
theorem M_X6_cell (l : Launch) (E : EX) (th : Nat) (p1 : Int32) (p2 : Int32) (m : MM) (r : Int32) (m2 : MM) (h : f_X6_cell th p1 p2 m = some (r, m2)) : Met l yX6_cell (.code yX6_cell cX6_cell 4 (some .int) :: TB) rmX6_cell (va_Pc [.ref th, .int p1, .int p2] (St E m)) (QR E (emI r) m2) 0 0 (AA E) :=
  met_of (em := emI) (plainFor_of_name rfl) (Nat.le_of_ble_eq_true rfl) (L0 := [(0, va_rf (some th)), (1, .int p1), (2, .int p2)]) rfl (fun Γ _ hrm C hr hn => s_X6_cell_0 C hr hrm th p1 p2 m) h

theorem dX6_init_0 : decode cX6_init 0 = .ok (.aload_n 0, 1) := by decide +kernel
theorem dX6_init_1 : decode cX6_init 1 = .ok (.invokespecial 3, 3) := by decide +kernel
theorem dX6_init_4 : decode cX6_init 4 = .ok (.aload_n 0, 1) := by decide +kernel
theorem dX6_init_5 : decode cX6_init 5 = .ok (.iload_n 1, 1) := by decide +kernel
theorem dX6_init_6 : decode cX6_init 6 = .ok (.ifCond .le 11, 3) := by decide +kernel
theorem dX6_init_9 : decode cX6_init 9 = .ok (.iload_n 2, 1) := by decide +kernel
theorem dX6_init_10 : decode cX6_init 10 = .ok (.ifCond .le 7, 3) := by decide +kernel
theorem dX6_init_13 : decode cX6_init 13 = .ok (.iload_n 1, 1) := by decide +kernel
theorem dX6_init_14 : decode cX6_init 14 = .ok (.goto 4, 3) := by decide +kernel
theorem dX6_init_17 : decode cX6_init 17 = .ok (.iconst 0, 1) := by decide +kernel
theorem dX6_init_18 : decode cX6_init 18 = .ok (.putfield 9, 3) := by decide +kernel
theorem dX6_init_21 : decode cX6_init 21 = .ok (.aload_n 0, 1) := by decide +kernel
theorem dX6_init_22 : decode cX6_init 22 = .ok (.iload_n 1, 1) := by decide +kernel
theorem dX6_init_23 : decode cX6_init 23 = .ok (.ifCond .le 11, 3) := by decide +kernel
theorem dX6_init_26 : decode cX6_init 26 = .ok (.iload_n 2, 1) := by decide +kernel
theorem dX6_init_27 : decode cX6_init 27 = .ok (.ifCond .le 7, 3) := by decide +kernel
theorem dX6_init_30 : decode cX6_init 30 = .ok (.iload_n 2, 1) := by decide +kernel
theorem dX6_init_31 : decode cX6_init 31 = .ok (.goto 4, 3) := by decide +kernel
theorem dX6_init_34 : decode cX6_init 34 = .ok (.iconst 0, 1) := by decide +kernel
theorem dX6_init_35 : decode cX6_init 35 = .ok (.putfield 15, 3) := by decide +kernel
theorem dX6_init_38 : decode cX6_init 38 = .ok (.aload_n 0, 1) := by decide +kernel
theorem dX6_init_39 : decode cX6_init 39 = .ok (.aload_n 0, 1) := by decide +kernel
theorem dX6_init_40 : decode cX6_init 40 = .ok (.getfield 9, 3) := by decide +kernel
theorem dX6_init_43 : decode cX6_init 43 = .ok (.aload_n 0, 1) := by decide +kernel
theorem dX6_init_44 : decode cX6_init 44 = .ok (.getfield 15, 3) := by decide +kernel
theorem dX6_init_47 : decode cX6_init 47 = .ok (.imul, 1) := by decide +kernel
theorem dX6_init_48 : decode cX6_init 48 = .ok (.newarray .int, 2) := by decide +kernel
theorem dX6_init_50 : decode cX6_init 50 = .ok (.putfield 18, 3) := by decide +kernel
theorem dX6_init_53 : decode cX6_init 53 = .ok (.return_, 1) := by decide +kernel
def rmX6_init_12_8 : Room := { frames := 1, cells := 1, slots := 96, locals := 20 }
set_option maxRecDepth 100000 in
def f_X6_init_12_8 (th : Nat) (m : MM) : Option (Unit × MM) :=
  chk (m.K th = 7) (bnd (m.sI 700 th 0 12) (fun m1 => bnd (m1.sI 701 th 0 8) (fun m2 => chk (((m2.I 700 th 0) * (m2.I 701 th 0)) = 96) (bnd m2.S (fun a1 => bnd (m2.nw 22 96) (fun m3 => chk (m3.K th = 7) (bnd (m3.sR 702 th 0 (some a1)) (fun m4 => some ((), m4)))))))))
set_option maxHeartbeats 4000000 in
set_option maxRecDepth 100000 in
theorem s_X6_init_12_8_0 {Γ : GX} {E : EX} (C : Cx Γ E cX6_init RX6 3) (hr : Γ.meth.sig.returnType = none) (hrm : Γ.rm = rmX6_init_12_8) (hnm : Γ.meth.name = "<init>") (th : Nat) (m : MM) : Sm (QM Γ E emV 1 96) Γ E 3 0 0 0 [(0, va_rf (some th)), (1, .int 12), (2, .int 8)] [] m (f_X6_init_12_8 th m) := by
  unfold f_X6_init_12_8
  refine z_aload_n C dX6_init_0 rfl 0 rfl ?_
  refine z_obj C rfl mo_RX6_3 (by rw [hrm]; exact Nat.le_of_ble_eq_true rfl) (by rw [hrm]; exact Nat.le_of_ble_eq_true rfl) (Nat.le_of_ble_eq_true rfl) dX6_init_1 ?_
  refine z_aload_n C dX6_init_4 rfl 0 rfl ?_
  refine z_iload_n C dX6_init_5 rfl 1 rfl ?_
  refine z_if_le_f (tgt := 17) C dX6_init_6 (by decide) (by decide) ?_
  refine z_iload_n C dX6_init_9 rfl 2 rfl ?_
  refine z_if_le_f (tgt := 17) C dX6_init_10 (by decide) (by decide) ?_
  refine z_iload_n C dX6_init_13 rfl 1 rfl ?_
  refine z_goto (tgt := 18) C dX6_init_14 (by decide) ?_
  refine z_chk (fun hk1 => ?_)
  refine z_putI C fl_RX6_9 (fun _ => ⟨hnm, rfl⟩) rfl hk1 rfl rfl dX6_init_18 (fun m1 eK1 eN1 => ?_)
  refine z_aload_n C dX6_init_21 rfl 0 rfl ?_
  refine z_iload_n C dX6_init_22 rfl 1 rfl ?_
  refine z_if_le_f (tgt := 34) C dX6_init_23 (by decide) (by decide) ?_
  refine z_iload_n C dX6_init_26 rfl 2 rfl ?_
  refine z_if_le_f (tgt := 34) C dX6_init_27 (by decide) (by decide) ?_
  refine z_iload_n C dX6_init_30 rfl 2 rfl ?_
  refine z_goto (tgt := 35) C dX6_init_31 (by decide) ?_
  refine z_putI C fl_RX6_15 (fun _ => ⟨hnm, rfl⟩) rfl (kfw eK1 hk1) rfl rfl dX6_init_35 (fun m2 eK2 eN2 => ?_)
  refine z_aload_n C dX6_init_38 rfl 0 rfl ?_
  refine z_aload_n C dX6_init_39 rfl 0 rfl ?_
  refine z_getI C fl_RX6_9 rfl (kfw eK2 (kfw eK1 hk1)) dX6_init_40 ?_
  refine z_aload_n C dX6_init_43 rfl 0 rfl ?_
  refine z_getI C fl_RX6_15 rfl (kfw eK2 (kfw eK1 hk1)) dX6_init_44 ?_
  refine z_imul C dX6_init_47 ?_
  refine z_chk (fun hq1 => ?_)
  refine z_newa2 (at0 := .int) (kd := 22) (N := 96) C ac_int (by decide) (by decide) rfl (by rw [hq1]; decide) (by rw [hq1]; decide) (by decide) (by rw [hrm]; exact Nat.le_of_ble_eq_true rfl) (by rw [hrm]; exact Nat.le_of_ble_eq_true rfl) dX6_init_48 (fun a1 m3 hk2 => ?_)
  refine z_chk (fun hk3 => ?_)
  refine z_putR C fl_RX6_18 (fun _ => ⟨hnm, rfl⟩) rfl hk3 na_of fa_of dX6_init_50 (fun m4 eK3 eN3 => ?_)
  refine z_wid (k := 1) (n := 96) (Nat.le_of_ble_eq_true rfl) (Nat.le_of_ble_eq_true rfl) ?_
  exact z_vret C hr dX6_init_53
theorem M_X6_init_12_8 (l : Launch) (E : EX) (th : Nat) (m : MM) (r : Unit) (m2 : MM) (h : f_X6_init_12_8 th m = some (r, m2)) : Met l yX6_init (.code yX6_init cX6_init 3 none :: TB) rmX6_init_12_8 (va_Pc [.ref th, .int 12, .int 8] (St E m)) (QR E (emV r) m2) 1 96 (AA E) :=
  met_of (em := emV) (plainFor_of_name rfl) (Nat.le_of_ble_eq_true rfl) (L0 := [(0, va_rf (some th)), (1, .int 12), (2, .int 8)]) rfl (fun Γ _ hrm C hr hn => s_X6_init_12_8_0 C hr hrm hn th m) h
def rmX6_init_8_5 : Room := { frames := 1, cells := 1, slots := 40, locals := 20 }
set_option maxRecDepth 100000 in
def f_X6_init_8_5 (th : Nat) (m : MM) : Option (Unit × MM) :=
  chk (m.K th = 7) (bnd (m.sI 700 th 0 8) (fun m1 => bnd (m1.sI 701 th 0 5) (fun m2 => chk (((m2.I 700 th 0) * (m2.I 701 th 0)) = 40) (bnd m2.S (fun a1 => bnd (m2.nw 22 40) (fun m3 => chk (m3.K th = 7) (bnd (m3.sR 702 th 0 (some a1)) (fun m4 => some ((), m4)))))))))
set_option maxHeartbeats 4000000 in
set_option maxRecDepth 100000 in
theorem s_X6_init_8_5_0 {Γ : GX} {E : EX} (C : Cx Γ E cX6_init RX6 3) (hr : Γ.meth.sig.returnType = none) (hrm : Γ.rm = rmX6_init_8_5) (hnm : Γ.meth.name = "<init>") (th : Nat) (m : MM) : Sm (QM Γ E emV 1 40) Γ E 3 0 0 0 [(0, va_rf (some th)), (1, .int 8), (2, .int 5)] [] m (f_X6_init_8_5 th m) := by
  unfold f_X6_init_8_5
  refine z_aload_n C dX6_init_0 rfl 0 rfl ?_
  refine z_obj C rfl mo_RX6_3 (by rw [hrm]; exact Nat.le_of_ble_eq_true rfl) (by rw [hrm]; exact Nat.le_of_ble_eq_true rfl) (Nat.le_of_ble_eq_true rfl) dX6_init_1 ?_
  refine z_aload_n C dX6_init_4 rfl 0 rfl ?_
  refine z_iload_n C dX6_init_5 rfl 1 rfl ?_
  refine z_if_le_f (tgt := 17) C dX6_init_6 (by decide) (by decide) ?_
  refine z_iload_n C dX6_init_9 rfl 2 rfl ?_
  refine z_if_le_f (tgt := 17) C dX6_init_10 (by decide) (by decide) ?_
  refine z_iload_n C dX6_init_13 rfl 1 rfl ?_
  refine z_goto (tgt := 18) C dX6_init_14 (by decide) ?_
  refine z_chk (fun hk1 => ?_)
  refine z_putI C fl_RX6_9 (fun _ => ⟨hnm, rfl⟩) rfl hk1 rfl rfl dX6_init_18 (fun m1 eK1 eN1 => ?_)
  refine z_aload_n C dX6_init_21 rfl 0 rfl ?_
  refine z_iload_n C dX6_init_22 rfl 1 rfl ?_
  refine z_if_le_f (tgt := 34) C dX6_init_23 (by decide) (by decide) ?_
  refine z_iload_n C dX6_init_26 rfl 2 rfl ?_
  refine z_if_le_f (tgt := 34) C dX6_init_27 (by decide) (by decide) ?_
  refine z_iload_n C dX6_init_30 rfl 2 rfl ?_
  refine z_goto (tgt := 35) C dX6_init_31 (by decide) ?_
  refine z_putI C fl_RX6_15 (fun _ => ⟨hnm, rfl⟩) rfl (kfw eK1 hk1) rfl rfl dX6_init_35 (fun m2 eK2 eN2 => ?_)
  refine z_aload_n C dX6_init_38 rfl 0 rfl ?_
  refine z_aload_n C dX6_init_39 rfl 0 rfl ?_
  refine z_getI C fl_RX6_9 rfl (kfw eK2 (kfw eK1 hk1)) dX6_init_40 ?_
  refine z_aload_n C dX6_init_43 rfl 0 rfl ?_
  refine z_getI C fl_RX6_15 rfl (kfw eK2 (kfw eK1 hk1)) dX6_init_44 ?_
  refine z_imul C dX6_init_47 ?_
  refine z_chk (fun hq1 => ?_)
  refine z_newa2 (at0 := .int) (kd := 22) (N := 40) C ac_int (by decide) (by decide) rfl (by rw [hq1]; decide) (by rw [hq1]; decide) (by decide) (by rw [hrm]; exact Nat.le_of_ble_eq_true rfl) (by rw [hrm]; exact Nat.le_of_ble_eq_true rfl) dX6_init_48 (fun a1 m3 hk2 => ?_)
  refine z_chk (fun hk3 => ?_)
  refine z_putR C fl_RX6_18 (fun _ => ⟨hnm, rfl⟩) rfl hk3 na_of fa_of dX6_init_50 (fun m4 eK3 eN3 => ?_)
  refine z_wid (k := 1) (n := 40) (Nat.le_of_ble_eq_true rfl) (Nat.le_of_ble_eq_true rfl) ?_
  exact z_vret C hr dX6_init_53
theorem M_X6_init_8_5 (l : Launch) (E : EX) (th : Nat) (m : MM) (r : Unit) (m2 : MM) (h : f_X6_init_8_5 th m = some (r, m2)) : Met l yX6_init (.code yX6_init cX6_init 3 none :: TB) rmX6_init_8_5 (va_Pc [.ref th, .int 8, .int 5] (St E m)) (QR E (emV r) m2) 1 40 (AA E) :=
  met_of (em := emV) (plainFor_of_name rfl) (Nat.le_of_ble_eq_true rfl) (L0 := [(0, va_rf (some th)), (1, .int 8), (2, .int 5)]) rfl (fun Γ _ hrm C hr hn => s_X6_init_8_5_0 C hr hrm hn th m) h
def rmX6_init_6_5 : Room := { frames := 1, cells := 1, slots := 30, locals := 20 }
set_option maxRecDepth 100000 in
def f_X6_init_6_5 (th : Nat) (m : MM) : Option (Unit × MM) :=
  chk (m.K th = 7) (bnd (m.sI 700 th 0 6) (fun m1 => bnd (m1.sI 701 th 0 5) (fun m2 => chk (((m2.I 700 th 0) * (m2.I 701 th 0)) = 30) (bnd m2.S (fun a1 => bnd (m2.nw 22 30) (fun m3 => chk (m3.K th = 7) (bnd (m3.sR 702 th 0 (some a1)) (fun m4 => some ((), m4)))))))))
set_option maxHeartbeats 4000000 in
set_option maxRecDepth 100000 in
theorem s_X6_init_6_5_0 {Γ : GX} {E : EX} (C : Cx Γ E cX6_init RX6 3) (hr : Γ.meth.sig.returnType = none) (hrm : Γ.rm = rmX6_init_6_5) (hnm : Γ.meth.name = "<init>") (th : Nat) (m : MM) : Sm (QM Γ E emV 1 30) Γ E 3 0 0 0 [(0, va_rf (some th)), (1, .int 6), (2, .int 5)] [] m (f_X6_init_6_5 th m) := by
  unfold f_X6_init_6_5
  refine z_aload_n C dX6_init_0 rfl 0 rfl ?_
  refine z_obj C rfl mo_RX6_3 (by rw [hrm]; exact Nat.le_of_ble_eq_true rfl) (by rw [hrm]; exact Nat.le_of_ble_eq_true rfl) (Nat.le_of_ble_eq_true rfl) dX6_init_1 ?_
  refine z_aload_n C dX6_init_4 rfl 0 rfl ?_
  refine z_iload_n C dX6_init_5 rfl 1 rfl ?_
  refine z_if_le_f (tgt := 17) C dX6_init_6 (by decide) (by decide) ?_
  refine z_iload_n C dX6_init_9 rfl 2 rfl ?_
  refine z_if_le_f (tgt := 17) C dX6_init_10 (by decide) (by decide) ?_
  refine z_iload_n C dX6_init_13 rfl 1 rfl ?_
  refine z_goto (tgt := 18) C dX6_init_14 (by decide) ?_
  refine z_chk (fun hk1 => ?_)
  refine z_putI C fl_RX6_9 (fun _ => ⟨hnm, rfl⟩) rfl hk1 rfl rfl dX6_init_18 (fun m1 eK1 eN1 => ?_)
  refine z_aload_n C dX6_init_21 rfl 0 rfl ?_
  refine z_iload_n C dX6_init_22 rfl 1 rfl ?_
  refine z_if_le_f (tgt := 34) C dX6_init_23 (by decide) (by decide) ?_
  refine z_iload_n C dX6_init_26 rfl 2 rfl ?_
  refine z_if_le_f (tgt := 34) C dX6_init_27 (by decide) (by decide) ?_
  refine z_iload_n C dX6_init_30 rfl 2 rfl ?_
  refine z_goto (tgt := 35) C dX6_init_31 (by decide) ?_
  refine z_putI C fl_RX6_15 (fun _ => ⟨hnm, rfl⟩) rfl (kfw eK1 hk1) rfl rfl dX6_init_35 (fun m2 eK2 eN2 => ?_)
  refine z_aload_n C dX6_init_38 rfl 0 rfl ?_
  refine z_aload_n C dX6_init_39 rfl 0 rfl ?_
  refine z_getI C fl_RX6_9 rfl (kfw eK2 (kfw eK1 hk1)) dX6_init_40 ?_
  refine z_aload_n C dX6_init_43 rfl 0 rfl ?_
  refine z_getI C fl_RX6_15 rfl (kfw eK2 (kfw eK1 hk1)) dX6_init_44 ?_
  refine z_imul C dX6_init_47 ?_
  refine z_chk (fun hq1 => ?_)
  refine z_newa2 (at0 := .int) (kd := 22) (N := 30) C ac_int (by decide) (by decide) rfl (by rw [hq1]; decide) (by rw [hq1]; decide) (by decide) (by rw [hrm]; exact Nat.le_of_ble_eq_true rfl) (by rw [hrm]; exact Nat.le_of_ble_eq_true rfl) dX6_init_48 (fun a1 m3 hk2 => ?_)
  refine z_chk (fun hk3 => ?_)
  refine z_putR C fl_RX6_18 (fun _ => ⟨hnm, rfl⟩) rfl hk3 na_of fa_of dX6_init_50 (fun m4 eK3 eN3 => ?_)
  refine z_wid (k := 1) (n := 30) (Nat.le_of_ble_eq_true rfl) (Nat.le_of_ble_eq_true rfl) ?_
  exact z_vret C hr dX6_init_53
theorem M_X6_init_6_5 (l : Launch) (E : EX) (th : Nat) (m : MM) (r : Unit) (m2 : MM) (h : f_X6_init_6_5 th m = some (r, m2)) : Met l yX6_init (.code yX6_init cX6_init 3 none :: TB) rmX6_init_6_5 (va_Pc [.ref th, .int 6, .int 5] (St E m)) (QR E (emV r) m2) 1 30 (AA E) :=
  met_of (em := emV) (plainFor_of_name rfl) (Nat.le_of_ble_eq_true rfl) (L0 := [(0, va_rf (some th)), (1, .int 6), (2, .int 5)]) rfl (fun Γ _ hrm C hr hn => s_X6_init_6_5_0 C hr hrm hn th m) h
def rmX6_init_12_3 : Room := { frames := 1, cells := 1, slots := 36, locals := 20 }
set_option maxRecDepth 100000 in
def f_X6_init_12_3 (th : Nat) (m : MM) : Option (Unit × MM) :=
  chk (m.K th = 7) (bnd (m.sI 700 th 0 12) (fun m1 => bnd (m1.sI 701 th 0 3) (fun m2 => chk (((m2.I 700 th 0) * (m2.I 701 th 0)) = 36) (bnd m2.S (fun a1 => bnd (m2.nw 22 36) (fun m3 => chk (m3.K th = 7) (bnd (m3.sR 702 th 0 (some a1)) (fun m4 => some ((), m4)))))))))
set_option maxHeartbeats 4000000 in
set_option maxRecDepth 100000 in
theorem s_X6_init_12_3_0 {Γ : GX} {E : EX} (C : Cx Γ E cX6_init RX6 3) (hr : Γ.meth.sig.returnType = none) (hrm : Γ.rm = rmX6_init_12_3) (hnm : Γ.meth.name = "<init>") (th : Nat) (m : MM) : Sm (QM Γ E emV 1 36) Γ E 3 0 0 0 [(0, va_rf (some th)), (1, .int 12), (2, .int 3)] [] m (f_X6_init_12_3 th m) := by
  unfold f_X6_init_12_3
  refine z_aload_n C dX6_init_0 rfl 0 rfl ?_
  refine z_obj C rfl mo_RX6_3 (by rw [hrm]; exact Nat.le_of_ble_eq_true rfl) (by rw [hrm]; exact Nat.le_of_ble_eq_true rfl) (Nat.le_of_ble_eq_true rfl) dX6_init_1 ?_
  refine z_aload_n C dX6_init_4 rfl 0 rfl ?_
  refine z_iload_n C dX6_init_5 rfl 1 rfl ?_
  refine z_if_le_f (tgt := 17) C dX6_init_6 (by decide) (by decide) ?_
  refine z_iload_n C dX6_init_9 rfl 2 rfl ?_
  refine z_if_le_f (tgt := 17) C dX6_init_10 (by decide) (by decide) ?_
  refine z_iload_n C dX6_init_13 rfl 1 rfl ?_
  refine z_goto (tgt := 18) C dX6_init_14 (by decide) ?_
  refine z_chk (fun hk1 => ?_)
  refine z_putI C fl_RX6_9 (fun _ => ⟨hnm, rfl⟩) rfl hk1 rfl rfl dX6_init_18 (fun m1 eK1 eN1 => ?_)
  refine z_aload_n C dX6_init_21 rfl 0 rfl ?_
  refine z_iload_n C dX6_init_22 rfl 1 rfl ?_
  refine z_if_le_f (tgt := 34) C dX6_init_23 (by decide) (by decide) ?_
  refine z_iload_n C dX6_init_26 rfl 2 rfl ?_
  refine z_if_le_f (tgt := 34) C dX6_init_27 (by decide) (by decide) ?_
  refine z_iload_n C dX6_init_30 rfl 2 rfl ?_
  refine z_goto (tgt := 35) C dX6_init_31 (by decide) ?_
  refine z_putI C fl_RX6_15 (fun _ => ⟨hnm, rfl⟩) rfl (kfw eK1 hk1) rfl rfl dX6_init_35 (fun m2 eK2 eN2 => ?_)
  refine z_aload_n C dX6_init_38 rfl 0 rfl ?_
  refine z_aload_n C dX6_init_39 rfl 0 rfl ?_
  refine z_getI C fl_RX6_9 rfl (kfw eK2 (kfw eK1 hk1)) dX6_init_40 ?_
  refine z_aload_n C dX6_init_43 rfl 0 rfl ?_
  refine z_getI C fl_RX6_15 rfl (kfw eK2 (kfw eK1 hk1)) dX6_init_44 ?_
  refine z_imul C dX6_init_47 ?_
  refine z_chk (fun hq1 => ?_)
  refine z_newa2 (at0 := .int) (kd := 22) (N := 36) C ac_int (by decide) (by decide) rfl (by rw [hq1]; decide) (by rw [hq1]; decide) (by decide) (by rw [hrm]; exact Nat.le_of_ble_eq_true rfl) (by rw [hrm]; exact Nat.le_of_ble_eq_true rfl) dX6_init_48 (fun a1 m3 hk2 => ?_)
  refine z_chk (fun hk3 => ?_)
  refine z_putR C fl_RX6_18 (fun _ => ⟨hnm, rfl⟩) rfl hk3 na_of fa_of dX6_init_50 (fun m4 eK3 eN3 => ?_)
  refine z_wid (k := 1) (n := 36) (Nat.le_of_ble_eq_true rfl) (Nat.le_of_ble_eq_true rfl) ?_
  exact z_vret C hr dX6_init_53
theorem M_X6_init_12_3 (l : Launch) (E : EX) (th : Nat) (m : MM) (r : Unit) (m2 : MM) (h : f_X6_init_12_3 th m = some (r, m2)) : Met l yX6_init (.code yX6_init cX6_init 3 none :: TB) rmX6_init_12_3 (va_Pc [.ref th, .int 12, .int 3] (St E m)) (QR E (emV r) m2) 1 36 (AA E) :=
  met_of (em := emV) (plainFor_of_name rfl) (Nat.le_of_ble_eq_true rfl) (L0 := [(0, va_rf (some th)), (1, .int 12), (2, .int 3)]) rfl (fun Γ _ hrm C hr hn => s_X6_init_12_3_0 C hr hrm hn th m) h
def rmX6_init_3_2 : Room := { frames := 1, cells := 1, slots := 6, locals := 20 }
set_option maxRecDepth 100000 in
def f_X6_init_3_2 (th : Nat) (m : MM) : Option (Unit × MM) :=
  chk (m.K th = 7) (bnd (m.sI 700 th 0 3) (fun m1 => bnd (m1.sI 701 th 0 2) (fun m2 => chk (((m2.I 700 th 0) * (m2.I 701 th 0)) = 6) (bnd m2.S (fun a1 => bnd (m2.nw 22 6) (fun m3 => chk (m3.K th = 7) (bnd (m3.sR 702 th 0 (some a1)) (fun m4 => some ((), m4)))))))))
set_option maxHeartbeats 4000000 in
set_option maxRecDepth 100000 in
theorem s_X6_init_3_2_0 {Γ : GX} {E : EX} (C : Cx Γ E cX6_init RX6 3) (hr : Γ.meth.sig.returnType = none) (hrm : Γ.rm = rmX6_init_3_2) (hnm : Γ.meth.name = "<init>") (th : Nat) (m : MM) : Sm (QM Γ E emV 1 6) Γ E 3 0 0 0 [(0, va_rf (some th)), (1, .int 3), (2, .int 2)] [] m (f_X6_init_3_2 th m) := by
  unfold f_X6_init_3_2
  refine z_aload_n C dX6_init_0 rfl 0 rfl ?_
  refine z_obj C rfl mo_RX6_3 (by rw [hrm]; exact Nat.le_of_ble_eq_true rfl) (by rw [hrm]; exact Nat.le_of_ble_eq_true rfl) (Nat.le_of_ble_eq_true rfl) dX6_init_1 ?_
  refine z_aload_n C dX6_init_4 rfl 0 rfl ?_
  refine z_iload_n C dX6_init_5 rfl 1 rfl ?_
  refine z_if_le_f (tgt := 17) C dX6_init_6 (by decide) (by decide) ?_
  refine z_iload_n C dX6_init_9 rfl 2 rfl ?_
  refine z_if_le_f (tgt := 17) C dX6_init_10 (by decide) (by decide) ?_
  refine z_iload_n C dX6_init_13 rfl 1 rfl ?_
  refine z_goto (tgt := 18) C dX6_init_14 (by decide) ?_
  refine z_chk (fun hk1 => ?_)
  refine z_putI C fl_RX6_9 (fun _ => ⟨hnm, rfl⟩) rfl hk1 rfl rfl dX6_init_18 (fun m1 eK1 eN1 => ?_)
  refine z_aload_n C dX6_init_21 rfl 0 rfl ?_
  refine z_iload_n C dX6_init_22 rfl 1 rfl ?_
  refine z_if_le_f (tgt := 34) C dX6_init_23 (by decide) (by decide) ?_
  refine z_iload_n C dX6_init_26 rfl 2 rfl ?_
  refine z_if_le_f (tgt := 34) C dX6_init_27 (by decide) (by decide) ?_
  refine z_iload_n C dX6_init_30 rfl 2 rfl ?_
  refine z_goto (tgt := 35) C dX6_init_31 (by decide) ?_
  refine z_putI C fl_RX6_15 (fun _ => ⟨hnm, rfl⟩) rfl (kfw eK1 hk1) rfl rfl dX6_init_35 (fun m2 eK2 eN2 => ?_)
  refine z_aload_n C dX6_init_38 rfl 0 rfl ?_
  refine z_aload_n C dX6_init_39 rfl 0 rfl ?_
  refine z_getI C fl_RX6_9 rfl (kfw eK2 (kfw eK1 hk1)) dX6_init_40 ?_
  refine z_aload_n C dX6_init_43 rfl 0 rfl ?_
  refine z_getI C fl_RX6_15 rfl (kfw eK2 (kfw eK1 hk1)) dX6_init_44 ?_
  refine z_imul C dX6_init_47 ?_
  refine z_chk (fun hq1 => ?_)
  refine z_newa2 (at0 := .int) (kd := 22) (N := 6) C ac_int (by decide) (by decide) rfl (by rw [hq1]; decide) (by rw [hq1]; decide) (by decide) (by rw [hrm]; exact Nat.le_of_ble_eq_true rfl) (by rw [hrm]; exact Nat.le_of_ble_eq_true rfl) dX6_init_48 (fun a1 m3 hk2 => ?_)
  refine z_chk (fun hk3 => ?_)
  refine z_putR C fl_RX6_18 (fun _ => ⟨hnm, rfl⟩) rfl hk3 na_of fa_of dX6_init_50 (fun m4 eK3 eN3 => ?_)
  refine z_wid (k := 1) (n := 6) (Nat.le_of_ble_eq_true rfl) (Nat.le_of_ble_eq_true rfl) ?_
  exact z_vret C hr dX6_init_53
theorem M_X6_init_3_2 (l : Launch) (E : EX) (th : Nat) (m : MM) (r : Unit) (m2 : MM) (h : f_X6_init_3_2 th m = some (r, m2)) : Met l yX6_init (.code yX6_init cX6_init 3 none :: TB) rmX6_init_3_2 (va_Pc [.ref th, .int 3, .int 2] (St E m)) (QR E (emV r) m2) 1 6 (AA E) :=
  met_of (em := emV) (plainFor_of_name rfl) (Nat.le_of_ble_eq_true rfl) (L0 := [(0, va_rf (some th)), (1, .int 3), (2, .int 2)]) rfl (fun Γ _ hrm C hr hn => s_X6_init_3_2_0 C hr hrm hn th m) h
def rmX6_init_10_5 : Room := { frames := 1, cells := 1, slots := 50, locals := 20 }
set_option maxRecDepth 100000 in
def f_X6_init_10_5 (th : Nat) (m : MM) : Option (Unit × MM) :=
  chk (m.K th = 7) (bnd (m.sI 700 th 0 10) (fun m1 => bnd (m1.sI 701 th 0 5) (fun m2 => chk (((m2.I 700 th 0) * (m2.I 701 th 0)) = 50) (bnd m2.S (fun a1 => bnd (m2.nw 22 50) (fun m3 => chk (m3.K th = 7) (bnd (m3.sR 702 th 0 (some a1)) (fun m4 => some ((), m4)))))))))
set_option maxHeartbeats 4000000 in
set_option maxRecDepth 100000 in
theorem s_X6_init_10_5_0 {Γ : GX} {E : EX} (C : Cx Γ E cX6_init RX6 3) (hr : Γ.meth.sig.returnType = none) (hrm : Γ.rm = rmX6_init_10_5) (hnm : Γ.meth.name = "<init>") (th : Nat) (m : MM) : Sm (QM Γ E emV 1 50) Γ E 3 0 0 0 [(0, va_rf (some th)), (1, .int 10), (2, .int 5)] [] m (f_X6_init_10_5 th m) := by
  unfold f_X6_init_10_5
  refine z_aload_n C dX6_init_0 rfl 0 rfl ?_
  refine z_obj C rfl mo_RX6_3 (by rw [hrm]; exact Nat.le_of_ble_eq_true rfl) (by rw [hrm]; exact Nat.le_of_ble_eq_true rfl) (Nat.le_of_ble_eq_true rfl) dX6_init_1 ?_
  refine z_aload_n C dX6_init_4 rfl 0 rfl ?_
  refine z_iload_n C dX6_init_5 rfl 1 rfl ?_
  refine z_if_le_f (tgt := 17) C dX6_init_6 (by decide) (by decide) ?_
  refine z_iload_n C dX6_init_9 rfl 2 rfl ?_
  refine z_if_le_f (tgt := 17) C dX6_init_10 (by decide) (by decide) ?_
  refine z_iload_n C dX6_init_13 rfl 1 rfl ?_
  refine z_goto (tgt := 18) C dX6_init_14 (by decide) ?_
  refine z_chk (fun hk1 => ?_)
  refine z_putI C fl_RX6_9 (fun _ => ⟨hnm, rfl⟩) rfl hk1 rfl rfl dX6_init_18 (fun m1 eK1 eN1 => ?_)
  refine z_aload_n C dX6_init_21 rfl 0 rfl ?_
  refine z_iload_n C dX6_init_22 rfl 1 rfl ?_
  refine z_if_le_f (tgt := 34) C dX6_init_23 (by decide) (by decide) ?_
  refine z_iload_n C dX6_init_26 rfl 2 rfl ?_
  refine z_if_le_f (tgt := 34) C dX6_init_27 (by decide) (by decide) ?_
  refine z_iload_n C dX6_init_30 rfl 2 rfl ?_
  refine z_goto (tgt := 35) C dX6_init_31 (by decide) ?_
  refine z_putI C fl_RX6_15 (fun _ => ⟨hnm, rfl⟩) rfl (kfw eK1 hk1) rfl rfl dX6_init_35 (fun m2 eK2 eN2 => ?_)
  refine z_aload_n C dX6_init_38 rfl 0 rfl ?_
  refine z_aload_n C dX6_init_39 rfl 0 rfl ?_
  refine z_getI C fl_RX6_9 rfl (kfw eK2 (kfw eK1 hk1)) dX6_init_40 ?_
  refine z_aload_n C dX6_init_43 rfl 0 rfl ?_
  refine z_getI C fl_RX6_15 rfl (kfw eK2 (kfw eK1 hk1)) dX6_init_44 ?_
  refine z_imul C dX6_init_47 ?_
  refine z_chk (fun hq1 => ?_)
  refine z_newa2 (at0 := .int) (kd := 22) (N := 50) C ac_int (by decide) (by decide) rfl (by rw [hq1]; decide) (by rw [hq1]; decide) (by decide) (by rw [hrm]; exact Nat.le_of_ble_eq_true rfl) (by rw [hrm]; exact Nat.le_of_ble_eq_true rfl) dX6_init_48 (fun a1 m3 hk2 => ?_)
  refine z_chk (fun hk3 => ?_)
  refine z_putR C fl_RX6_18 (fun _ => ⟨hnm, rfl⟩) rfl hk3 na_of fa_of dX6_init_50 (fun m4 eK3 eN3 => ?_)
  refine z_wid (k := 1) (n := 50) (Nat.le_of_ble_eq_true rfl) (Nat.le_of_ble_eq_true rfl) ?_
  exact z_vret C hr dX6_init_53
theorem M_X6_init_10_5 (l : Launch) (E : EX) (th : Nat) (m : MM) (r : Unit) (m2 : MM) (h : f_X6_init_10_5 th m = some (r, m2)) : Met l yX6_init (.code yX6_init cX6_init 3 none :: TB) rmX6_init_10_5 (va_Pc [.ref th, .int 10, .int 5] (St E m)) (QR E (emV r) m2) 1 50 (AA E) :=
  met_of (em := emV) (plainFor_of_name rfl) (Nat.le_of_ble_eq_true rfl) (L0 := [(0, va_rf (some th)), (1, .int 10), (2, .int 5)]) rfl (fun Γ _ hrm C hr hn => s_X6_init_10_5_0 C hr hrm hn th m) h

theorem dX2_init_0 : decode cX2_init 0 = .ok (.aload_n 0, 1) := by decide +kernel
theorem dX2_init_1 : decode cX2_init 1 = .ok (.invokespecial 3, 3) := by decide +kernel
theorem dX2_init_4 : decode cX2_init 4 = .ok (.aload_n 0, 1) := by decide +kernel
theorem dX2_init_5 : decode cX2_init 5 = .ok (.new 9, 3) := by decide +kernel
theorem dX2_init_8 : decode cX2_init 8 = .ok (.dup, 1) := by decide +kernel
theorem dX2_init_9 : decode cX2_init 9 = .ok (.bipush 10, 2) := by decide +kernel
theorem dX2_init_11 : decode cX2_init 11 = .ok (.iconst 5, 1) := by decide +kernel
theorem dX2_init_12 : decode cX2_init 12 = .ok (.invokespecial 11, 3) := by decide +kernel
theorem dX2_init_15 : decode cX2_init 15 = .ok (.putfield 14, 3) := by decide +kernel
theorem dX2_init_18 : decode cX2_init 18 = .ok (.aload_n 0, 1) := by decide +kernel
theorem dX2_init_19 : decode cX2_init 19 = .ok (.iconst (-1), 1) := by decide +kernel
theorem dX2_init_20 : decode cX2_init 20 = .ok (.putfield 20, 3) := by decide +kernel
theorem dX2_init_23 : decode cX2_init 23 = .ok (.return_, 1) := by decide +kernel
def rmX2_init : Room := { frames := 2, cells := 2, slots := 54, locals := 42 }
set_option maxRecDepth 100000 in
def f_X2_init (th : Nat) (m : MM) : Option (Unit × MM) :=
  bnd m.S (fun a1 => bnd (m.nw 7 0) (fun m1 => cal (f_X6_init_10_5 a1 m1) (fun r1 m2 => chk (m2.K th = 3) (bnd (m2.sR 300 th 0 (some a1)) (fun m3 => bnd (m3.sI 303 th 0 (-1)) (fun m4 => some ((), m4)))))))
set_option maxHeartbeats 4000000 in
set_option maxRecDepth 100000 in
theorem s_X2_init_0 {Γ : GX} {E : EX} (C : Cx Γ E cX2_init RX2 1) (hr : Γ.meth.sig.returnType = none) (hrm : Γ.rm = rmX2_init) (hnm : Γ.meth.name = "<init>") (th : Nat) (m : MM) : Sm (QM Γ E emV 2 54) Γ E 1 0 0 0 [(0, va_rf (some th))] [] m (f_X2_init th m) := by
  unfold f_X2_init
  refine z_aload_n C dX2_init_0 rfl 0 rfl ?_
  refine z_obj C rfl mo_RX2_3 (by rw [hrm]; exact Nat.le_of_ble_eq_true rfl) (by rw [hrm]; exact Nat.le_of_ble_eq_true rfl) (Nat.le_of_ble_eq_true rfl) dX2_init_1 ?_
  refine z_aload_n C dX2_init_4 rfl 0 rfl ?_
  refine z_new2 C co_X6 cl_RX2_9 in_RX6 ii_RX6 (by rw [hrm]; exact Nat.le_of_ble_eq_true rfl) (by rw [hrm]; exact Nat.le_of_ble_eq_true rfl) dX2_init_5 (fun a1 m1 hk1 => ?_)
  refine z_dup C rfl dX2_init_8 ?_
  refine z_bipush (v := 10) C dX2_init_9 (by decide) ?_
  refine z_iconst (v := 5) C dX2_init_11 (by decide) ?_
  refine z_callI [.int 10, .int 5] [va_rf (some a1), va_rf (some th)] C mv_RX2_11 (fun r0 m0 h0 => M_X6_init_10_5 _ _ _ _ _ _ h0) rfl rfl ⟨by rw [hrm]; exact Nat.le_of_ble_eq_true rfl, by rw [hrm]; exact Nat.le_of_ble_eq_true rfl⟩ rfl rfl rfl (Nat.le_of_ble_eq_true rfl) dX2_init_12 ⟨by rw [hrm]; exact Nat.le_of_ble_eq_true rfl, by rw [hrm]; exact Nat.le_of_ble_eq_true rfl⟩ (fun r1 m2 => ?_)
  refine z_chk (fun hk2 => ?_)
  refine z_putR C fl_RX2_14 (fun _ => ⟨hnm, rfl⟩) rfl hk2 nr_of fr_of dX2_init_15 (fun m3 eK1 eN1 => ?_)
  refine z_aload_n C dX2_init_18 rfl 0 rfl ?_
  refine z_iconst (v := (-1)) C dX2_init_19 (by decide) ?_
  refine z_putI C fl_RX2_20 (fun h => by cases h) rfl (kfw eK1 hk2) rfl rfl dX2_init_20 (fun m4 eK2 eN2 => ?_)
  refine z_wid (k := 2) (n := 54) (Nat.le_of_ble_eq_true rfl) (Nat.le_of_ble_eq_true rfl) ?_
  exact z_vret C hr dX2_init_23
theorem M_X2_init (l : Launch) (E : EX) (th : Nat) (m : MM) (r : Unit) (m2 : MM) (h : f_X2_init th m = some (r, m2)) : Met l yX2_init (.code yX2_init cX2_init 1 none :: TB) rmX2_init (va_Pc [.ref th] (St E m)) (QR E (emV r) m2) 2 54 (AA E) :=
  met_of (em := emV) (plainFor_of_name rfl) (Nat.le_of_ble_eq_true rfl) (L0 := [(0, va_rf (some th))]) rfl (fun Γ _ hrm C hr hn => s_X2_init_0 C hr hrm hn th m) h

theorem dX2_clear_0 : decode cX2_clear 0 = .ok (.aload_n 0, 1) := by decide +kernel
theorem dX2_clear_1 : decode cX2_clear 1 = .ok (.getfield 14, 3) := by decide +kernel
theorem dX2_clear_4 : decode cX2_clear 4 = .ok (.iconst 0, 1) := by decide +kernel
theorem dX2_clear_5 : decode cX2_clear 5 = .ok (.putfield 24, 3) := by decide +kernel
theorem dX2_clear_8 : decode cX2_clear 8 = .ok (.aload_n 0, 1) := by decide +kernel
theorem dX2_clear_9 : decode cX2_clear 9 = .ok (.iconst 0, 1) := by decide +kernel
theorem dX2_clear_10 : decode cX2_clear 10 = .ok (.putfield 27, 3) := by decide +kernel
theorem dX2_clear_13 : decode cX2_clear 13 = .ok (.aload_n 0, 1) := by decide +kernel
theorem dX2_clear_14 : decode cX2_clear 14 = .ok (.iconst 0, 1) := by decide +kernel
theorem dX2_clear_15 : decode cX2_clear 15 = .ok (.putfield 31, 3) := by decide +kernel
theorem dX2_clear_18 : decode cX2_clear 18 = .ok (.aload_n 0, 1) := by decide +kernel
theorem dX2_clear_19 : decode cX2_clear 19 = .ok (.iconst (-1), 1) := by decide +kernel
theorem dX2_clear_20 : decode cX2_clear 20 = .ok (.putfield 20, 3) := by decide +kernel
theorem dX2_clear_23 : decode cX2_clear 23 = .ok (.return_, 1) := by decide +kernel
def rmX2_clear : Room := { frames := 0, cells := 0, slots := 0, locals := 0 }
set_option maxRecDepth 100000 in
def g_X2_clear_0 (th : Nat) (m : MM) : Option (Unit × MM) :=
  chk (m.K th = 3) (ck m (m.R 300 th 0) 7 (fun a1 => bnd (m.sI 703 a1 0 0) (fun m1 => bnd (m1.sI 301 th 0 0) (fun m2 => bnd (m2.sI 302 th 0 0) (fun m3 => bnd (m3.sI 303 th 0 (-1)) (fun m4 => some ((), m4)))))))
set_option maxHeartbeats 4000000 in
set_option maxRecDepth 100000 in
theorem s_X2_clear_0 {Γ : GX} {E : EX} (C : Cx Γ E cX2_clear RX2 1) (hr : Γ.meth.sig.returnType = none) (hrm : Γ.rm = rmX2_clear) (th : Nat) (m : MM) : Sm (QM Γ E emV 0 0) Γ E 1 0 0 0 [(0, va_rf (some th))] [] m (g_X2_clear_0 th m) := by
  unfold g_X2_clear_0
  refine z_aload_n C dX2_clear_0 rfl 0 rfl ?_
  refine z_chk (fun hk1 => ?_)
  refine z_getR C fl_RX2_14 rfl hk1 dX2_clear_1 ?_
  refine z_iconst (v := 0) C dX2_clear_4 (by decide) ?_
  refine z_ck (fun a1 hr1 hk2 => ?_)
  refine z_putI C fl_RX2_24 (fun h => by cases h) hr1 hk2 rfl rfl dX2_clear_5 (fun m1 eK1 eN1 => ?_)
  refine z_aload_n C dX2_clear_8 rfl 0 rfl ?_
  refine z_iconst (v := 0) C dX2_clear_9 (by decide) ?_
  refine z_putI C fl_RX2_27 (fun h => by cases h) rfl (kfw eK1 hk1) rfl rfl dX2_clear_10 (fun m2 eK2 eN2 => ?_)
  refine z_aload_n C dX2_clear_13 rfl 0 rfl ?_
  refine z_iconst (v := 0) C dX2_clear_14 (by decide) ?_
  refine z_putI C fl_RX2_31 (fun h => by cases h) rfl (kfw eK2 (kfw eK1 hk1)) rfl rfl dX2_clear_15 (fun m3 eK3 eN3 => ?_)
  refine z_aload_n C dX2_clear_18 rfl 0 rfl ?_
  refine z_iconst (v := (-1)) C dX2_clear_19 (by decide) ?_
  refine z_putI C fl_RX2_20 (fun h => by cases h) rfl (kfw eK3 (kfw eK2 (kfw eK1 hk1))) rfl rfl dX2_clear_20 (fun m4 eK4 eN4 => ?_)
  exact z_vret C hr dX2_clear_23
def f_X2_clear (th : Nat) (m : MM) : Option (Unit × MM) := g_X2_clear_0 th m
theorem M_X2_clear (l : Launch) (E : EX) (th : Nat) (m : MM) (r : Unit) (m2 : MM) (h : f_X2_clear th m = some (r, m2)) : Met l yX2_clear (.code yX2_clear cX2_clear 1 none :: TB) rmX2_clear (va_Pc [.ref th] (St E m)) (QR E (emV r) m2) 0 0 (AA E) :=
  met_of (em := emV) (plainFor_of_name rfl) (Nat.le_of_ble_eq_true rfl) (L0 := [(0, va_rf (some th))]) rfl (fun Γ _ hrm C hr hn => s_X2_clear_0 C hr hrm th m) h

theorem dX6_take_0 : decode cX6_take 0 = .ok (.aload_n 1, 1) := by decide +kernel
theorem dX6_take_1 : decode cX6_take 1 = .ok (.ifnull 16, 3) := by decide +kernel
theorem dX6_take_4 : decode cX6_take 4 = .ok (.aload_n 1, 1) := by decide +kernel
theorem dX6_take_5 : decode cX6_take 5 = .ok (.getfield 18, 3) := by decide +kernel
theorem dX6_take_8 : decode cX6_take 8 = .ok (.arraylength, 1) := by decide +kernel
theorem dX6_take_9 : decode cX6_take 9 = .ok (.aload_n 0, 1) := by decide +kernel
theorem dX6_take_10 : decode cX6_take 10 = .ok (.getfield 18, 3) := by decide +kernel
theorem dX6_take_13 : decode cX6_take 13 = .ok (.arraylength, 1) := by decide +kernel
theorem dX6_take_14 : decode cX6_take 14 = .ok (.if_icmp .eq 4, 3) := by decide +kernel
theorem dX6_take_17 : decode cX6_take 17 = .ok (.return_, 1) := by decide +kernel
theorem dX6_take_18 : decode cX6_take 18 = .ok (.aload_n 1, 1) := by decide +kernel
theorem dX6_take_19 : decode cX6_take 19 = .ok (.getfield 18, 3) := by decide +kernel
theorem dX6_take_22 : decode cX6_take 22 = .ok (.iconst 0, 1) := by decide +kernel
theorem dX6_take_23 : decode cX6_take 23 = .ok (.aload_n 0, 1) := by decide +kernel
theorem dX6_take_24 : decode cX6_take 24 = .ok (.getfield 18, 3) := by decide +kernel
theorem dX6_take_27 : decode cX6_take 27 = .ok (.iconst 0, 1) := by decide +kernel
theorem dX6_take_28 : decode cX6_take 28 = .ok (.aload_n 0, 1) := by decide +kernel
theorem dX6_take_29 : decode cX6_take 29 = .ok (.getfield 18, 3) := by decide +kernel
theorem dX6_take_32 : decode cX6_take 32 = .ok (.arraylength, 1) := by decide +kernel
theorem dX6_take_33 : decode cX6_take 33 = .ok (.invokestatic 25, 3) := by decide +kernel
theorem dX6_take_36 : decode cX6_take 36 = .ok (.aload_n 0, 1) := by decide +kernel
theorem dX6_take_37 : decode cX6_take 37 = .ok (.aload_n 1, 1) := by decide +kernel
theorem dX6_take_38 : decode cX6_take 38 = .ok (.getfield 22, 3) := by decide +kernel
theorem dX6_take_41 : decode cX6_take 41 = .ok (.putfield 22, 3) := by decide +kernel
theorem dX6_take_44 : decode cX6_take 44 = .ok (.return_, 1) := by decide +kernel
def rmX6_take : Room := { frames := 1, cells := 0, slots := 0, locals := 40 }
set_option maxRecDepth 100000 in
def g_X6_take_0 (th : Nat) (p1 : Option Nat) (m : MM) : Option (Unit × MM) :=
  ifn p1 (some ((), m)) (fun a1 => chk (m.K a1 = 7) (ck m (m.R 702 a1 0) 22 (fun a2 => chk (m.K th = 7) (ck m (m.R 702 th 0) 22 (fun a3 => if (Int32.ofNat (m.N a2)) = (Int32.ofNat (m.N a3)) then (chk (okcp m a2 0 a3 0 (Int32.ofNat (m.N a3)) = true) (bnd (m.cp a2 (Int32.toNatClampNeg 0) a3 (Int32.toNatClampNeg 0) (Int32.toNatClampNeg (Int32.ofNat (m.N a3)))) (fun m1 => bnd (m1.sI 703 th 0 (m1.I 703 a1 0)) (fun m2 => some ((), m2))))) else (some ((), m)))))))
set_option maxHeartbeats 4000000 in
set_option maxRecDepth 100000 in
theorem s_X6_take_0 {Γ : GX} {E : EX} (C : Cx Γ E cX6_take RX6 2) (hr : Γ.meth.sig.returnType = none) (hrm : Γ.rm = rmX6_take) (th : Nat) (p1 : Option Nat) (m : MM) : Sm (QM Γ E emV 0 0) Γ E 2 0 0 0 [(0, va_rf (some th)), (1, va_rf p1)] [] m (g_X6_take_0 th p1 m) := by
  unfold g_X6_take_0
  refine z_aload_n C dX6_take_0 rfl 1 rfl ?_
  refine z_ifnull (tgt := 17) C dX6_take_1 (by decide) (fun hn1 => ?_) (fun a1 ha1 => ?_)
  · exact z_vret C hr dX6_take_17
  · refine z_aload_n C dX6_take_4 rfl 1 rfl ?_
    refine z_chk (fun hk1 => ?_)
    refine z_getR C fl_RX6_18 ha1 hk1 dX6_take_5 ?_
    refine z_ck (fun a2 hr1 hk2 => ?_)
    refine z_alen C hr1 hk2 (by decide) (by decide) dX6_take_8 ?_
    refine z_aload_n C dX6_take_9 rfl 0 rfl ?_
    refine z_chk (fun hk3 => ?_)
    refine z_getR C fl_RX6_18 rfl hk3 dX6_take_10 ?_
    refine z_ck (fun a3 hr2 hk4 => ?_)
    refine z_alen C hr2 hk4 (by decide) (by decide) dX6_take_13 ?_
    refine z_icmp_eq (tgt := 18) C dX6_take_14 (by decide) (fun c1 => ?_) (fun c1 => ?_)
    · refine z_aload_n C dX6_take_18 rfl 1 rfl ?_
      refine z_getR C fl_RX6_18 ha1 hk1 dX6_take_19 ?_
      refine z_iconst (v := 0) C dX6_take_22 (by decide) ?_
      refine z_aload_n C dX6_take_23 rfl 0 rfl ?_
      refine z_getR C fl_RX6_18 rfl hk3 dX6_take_24 ?_
      refine z_iconst (v := 0) C dX6_take_27 (by decide) ?_
      refine z_aload_n C dX6_take_28 rfl 0 rfl ?_
      refine z_getR C fl_RX6_18 rfl hk3 dX6_take_29 ?_
      refine z_alen C hr2 hk4 (by decide) (by decide) dX6_take_32 ?_
      refine z_chk (fun hc1 => ?_)
      refine z_copy C hr1 hk2 hr2 hk4 hc1 mc_RX6_25 (by rw [hrm]; exact Nat.le_of_ble_eq_true rfl) (by rw [hrm]; exact Nat.le_of_ble_eq_true rfl) (Nat.le_of_ble_eq_true rfl) dX6_take_33 (fun m1 eK1 eN1 => ?_)
      refine z_aload_n C dX6_take_36 rfl 0 rfl ?_
      refine z_aload_n C dX6_take_37 rfl 1 rfl ?_
      refine z_getI C fl_RX6_22 ha1 (kfw eK1 hk1) dX6_take_38 ?_
      refine z_putI C fl_RX6_22 (fun h => by cases h) rfl (kfw eK1 hk3) rfl rfl dX6_take_41 (fun m2 eK2 eN2 => ?_)
      exact z_vret C hr dX6_take_44
    · exact z_vret C hr dX6_take_17
def f_X6_take (th : Nat) (p1 : Option Nat) (m : MM) : Option (Unit × MM) := g_X6_take_0 th p1 m
theorem M_X6_take (l : Launch) (E : EX) (th : Nat) (p1 : Option Nat) (m : MM) (r : Unit) (m2 : MM) (h : f_X6_take th p1 m = some (r, m2)) : Met l yX6_take (.code yX6_take cX6_take 2 none :: TB) rmX6_take (va_Pc [.ref th, va_rf p1] (St E m)) (QR E (emV r) m2) 0 0 (AA E) :=
  met_of (em := emV) (plainFor_of_name rfl) (by simp [lg_sl, cat_rf, cat_i, cat_l, cat_a]) (L0 := [(0, va_rf (some th)), (1, va_rf p1)]) (by simp [lv_args, cat_rf, cat_i, cat_l, cat_a] <;> rfl) (fun Γ _ hrm C hr hn => s_X6_take_0 C hr hrm th p1 m) h

theorem dX2_take_0 : decode cX2_take 0 = .ok (.aload_n 1, 1) := by decide +kernel
theorem dX2_take_1 : decode cX2_take 1 = .ok (.ifnonnull 4, 3) := by decide +kernel
theorem dX2_take_4 : decode cX2_take 4 = .ok (.return_, 1) := by decide +kernel
theorem dX2_take_5 : decode cX2_take 5 = .ok (.aload_n 0, 1) := by decide +kernel
theorem dX2_take_6 : decode cX2_take 6 = .ok (.getfield 14, 3) := by decide +kernel
theorem dX2_take_9 : decode cX2_take 9 = .ok (.aload_n 1, 1) := by decide +kernel
theorem dX2_take_10 : decode cX2_take 10 = .ok (.getfield 14, 3) := by decide +kernel
theorem dX2_take_13 : decode cX2_take 13 = .ok (.invokevirtual 34, 3) := by decide +kernel
theorem dX2_take_16 : decode cX2_take 16 = .ok (.aload_n 0, 1) := by decide +kernel
theorem dX2_take_17 : decode cX2_take 17 = .ok (.aload_n 1, 1) := by decide +kernel
theorem dX2_take_18 : decode cX2_take 18 = .ok (.getfield 27, 3) := by decide +kernel
theorem dX2_take_21 : decode cX2_take 21 = .ok (.putfield 27, 3) := by decide +kernel
theorem dX2_take_24 : decode cX2_take 24 = .ok (.aload_n 0, 1) := by decide +kernel
theorem dX2_take_25 : decode cX2_take 25 = .ok (.aload_n 1, 1) := by decide +kernel
theorem dX2_take_26 : decode cX2_take 26 = .ok (.getfield 31, 3) := by decide +kernel
theorem dX2_take_29 : decode cX2_take 29 = .ok (.putfield 31, 3) := by decide +kernel
theorem dX2_take_32 : decode cX2_take 32 = .ok (.aload_n 0, 1) := by decide +kernel
theorem dX2_take_33 : decode cX2_take 33 = .ok (.aload_n 1, 1) := by decide +kernel
theorem dX2_take_34 : decode cX2_take 34 = .ok (.getfield 20, 3) := by decide +kernel
theorem dX2_take_37 : decode cX2_take 37 = .ok (.putfield 20, 3) := by decide +kernel
theorem dX2_take_40 : decode cX2_take 40 = .ok (.return_, 1) := by decide +kernel
def rmX2_take : Room := { frames := 2, cells := 0, slots := 0, locals := 61 }
set_option maxRecDepth 100000 in
def g_X2_take_0 (th : Nat) (p1 : Option Nat) (m : MM) : Option (Unit × MM) :=
  ifn p1 (some ((), m)) (fun a1 => chk (m.K th = 3) (chk (m.K a1 = 3) (ck m (m.R 300 th 0) 7 (fun a2 => cal (f_X6_take a2 (m.R 300 a1 0) m) (fun r1 m1 => chk (m1.K a1 = 3) (chk (m1.K th = 3) (chk ((m1.I 301 a1 0) = 0 ∨ (m1.I 301 a1 0) = 1) (bnd (m1.sI 301 th 0 (m1.I 301 a1 0)) (fun m2 => chk ((m2.I 302 a1 0) = 0 ∨ (m2.I 302 a1 0) = 1) (bnd (m2.sI 302 th 0 (m2.I 302 a1 0)) (fun m3 => bnd (m3.sI 303 th 0 (m3.I 303 a1 0)) (fun m4 => some ((), m4)))))))))))))
set_option maxHeartbeats 4000000 in
set_option maxRecDepth 100000 in
theorem s_X2_take_0 {Γ : GX} {E : EX} (C : Cx Γ E cX2_take RX2 2) (hr : Γ.meth.sig.returnType = none) (hrm : Γ.rm = rmX2_take) (th : Nat) (p1 : Option Nat) (m : MM) : Sm (QM Γ E emV 0 0) Γ E 2 0 0 0 [(0, va_rf (some th)), (1, va_rf p1)] [] m (g_X2_take_0 th p1 m) := by
  unfold g_X2_take_0
  refine z_aload_n C dX2_take_0 rfl 1 rfl ?_
  refine z_ifnonnull (tgt := 5) C dX2_take_1 (by decide) (fun a1 ha1 => ?_) (fun hn1 => ?_)
  · refine z_aload_n C dX2_take_5 rfl 0 rfl ?_
    refine z_chk (fun hk1 => ?_)
    refine z_getR C fl_RX2_14 rfl hk1 dX2_take_6 ?_
    refine z_aload_n C dX2_take_9 rfl 1 rfl ?_
    refine z_chk (fun hk2 => ?_)
    refine z_getR C fl_RX2_14 ha1 hk2 dX2_take_10 ?_
    refine z_ck (fun a2 hr1 hk3 => ?_)
    refine z_cVV [va_rf (m.R 300 a1 0)] [] C mv_RX2_34 (fun r0 m0 h0 => M_X6_take _ _ _ _ _ _ _ h0) rfl rfl ⟨by rw [hrm]; exact Nat.le_of_ble_eq_true rfl, by rw [hrm]; exact Nat.le_of_ble_eq_true rfl⟩ ⟨by rw [hrm]; exact Nat.le_of_ble_eq_true rfl, by rw [hrm]; exact Nat.le_of_ble_eq_true rfl⟩ hr1 hk3 rfl rfl rfl (Nat.le_of_ble_eq_true rfl) dX2_take_13 (fun r1 m1 => ?_)
    refine z_aload_n C dX2_take_16 rfl 0 rfl ?_
    refine z_aload_n C dX2_take_17 rfl 1 rfl ?_
    refine z_chk (fun hk4 => ?_)
    refine z_getI C fl_RX2_27 ha1 hk4 dX2_take_18 ?_
    refine z_chk (fun hk5 => ?_)
    refine z_chk (fun hb1 => ?_)
    refine z_putI C fl_RX2_27 (fun h => by cases h) rfl hk5 (nb_of hb1) (fb_of hb1) dX2_take_21 (fun m2 eK1 eN1 => ?_)
    refine z_aload_n C dX2_take_24 rfl 0 rfl ?_
    refine z_aload_n C dX2_take_25 rfl 1 rfl ?_
    refine z_getI C fl_RX2_31 ha1 (kfw eK1 hk4) dX2_take_26 ?_
    refine z_chk (fun hb2 => ?_)
    refine z_putI C fl_RX2_31 (fun h => by cases h) rfl (kfw eK1 hk5) (nb_of hb2) (fb_of hb2) dX2_take_29 (fun m3 eK2 eN2 => ?_)
    refine z_aload_n C dX2_take_32 rfl 0 rfl ?_
    refine z_aload_n C dX2_take_33 rfl 1 rfl ?_
    refine z_getI C fl_RX2_20 ha1 (kfw eK2 (kfw eK1 hk4)) dX2_take_34 ?_
    refine z_putI C fl_RX2_20 (fun h => by cases h) rfl (kfw eK2 (kfw eK1 hk5)) rfl rfl dX2_take_37 (fun m4 eK3 eN3 => ?_)
    exact z_vret C hr dX2_take_40
  · exact z_vret C hr dX2_take_4
def f_X2_take (th : Nat) (p1 : Option Nat) (m : MM) : Option (Unit × MM) := g_X2_take_0 th p1 m
theorem M_X2_take (l : Launch) (E : EX) (th : Nat) (p1 : Option Nat) (m : MM) (r : Unit) (m2 : MM) (h : f_X2_take th p1 m = some (r, m2)) : Met l yX2_take (.code yX2_take cX2_take 2 none :: TB) rmX2_take (va_Pc [.ref th, va_rf p1] (St E m)) (QR E (emV r) m2) 0 0 (AA E) :=
  met_of (em := emV) (plainFor_of_name rfl) (by simp [lg_sl, cat_rf, cat_i, cat_l, cat_a]) (L0 := [(0, va_rf (some th)), (1, va_rf p1)]) (by simp [lv_args, cat_rf, cat_i, cat_l, cat_a] <;> rfl) (fun Γ _ hrm C hr hn => s_X2_take_0 C hr hrm th p1 m) h

theorem dX6_addRow_0 : decode cX6_addRow 0 = .ok (.aload_n 0, 1) := by decide +kernel
theorem dX6_addRow_1 : decode cX6_addRow 1 = .ok (.getfield 22, 3) := by decide +kernel
theorem dX6_addRow_4 : decode cX6_addRow 4 = .ok (.aload_n 0, 1) := by decide +kernel
theorem dX6_addRow_5 : decode cX6_addRow 5 = .ok (.getfield 9, 3) := by decide +kernel
theorem dX6_addRow_8 : decode cX6_addRow 8 = .ok (.if_icmp .lt 5, 3) := by decide +kernel
theorem dX6_addRow_11 : decode cX6_addRow 11 = .ok (.iconst (-1), 1) := by decide +kernel
theorem dX6_addRow_12 : decode cX6_addRow 12 = .ok (.ireturn, 1) := by decide +kernel
theorem dX6_addRow_13 : decode cX6_addRow 13 = .ok (.aload_n 0, 1) := by decide +kernel
theorem dX6_addRow_14 : decode cX6_addRow 14 = .ok (.dup, 1) := by decide +kernel
theorem dX6_addRow_15 : decode cX6_addRow 15 = .ok (.getfield 22, 3) := by decide +kernel
theorem dX6_addRow_18 : decode cX6_addRow 18 = .ok (.iconst 1, 1) := by decide +kernel
theorem dX6_addRow_19 : decode cX6_addRow 19 = .ok (.iadd, 1) := by decide +kernel
theorem dX6_addRow_20 : decode cX6_addRow 20 = .ok (.putfield 22, 3) := by decide +kernel
theorem dX6_addRow_23 : decode cX6_addRow 23 = .ok (.aload_n 0, 1) := by decide +kernel
theorem dX6_addRow_24 : decode cX6_addRow 24 = .ok (.getfield 22, 3) := by decide +kernel
theorem dX6_addRow_27 : decode cX6_addRow 27 = .ok (.iconst 1, 1) := by decide +kernel
theorem dX6_addRow_28 : decode cX6_addRow 28 = .ok (.isub, 1) := by decide +kernel
theorem dX6_addRow_29 : decode cX6_addRow 29 = .ok (.ireturn, 1) := by decide +kernel
def rmX6_addRow : Room := { frames := 0, cells := 0, slots := 0, locals := 0 }
set_option maxRecDepth 100000 in
def g_X6_addRow_0 (th : Nat) (m : MM) : Option (Int32 × MM) :=
  chk (m.K th = 7) (if (m.I 703 th 0) < (m.I 700 th 0) then (bnd (m.sI 703 th 0 ((m.I 703 th 0) + 1)) (fun m1 => some ((m1.I 703 th 0) - 1, m1))) else (some ((-1), m)))
set_option maxHeartbeats 4000000 in
set_option maxRecDepth 100000 in
theorem s_X6_addRow_0 {Γ : GX} {E : EX} (C : Cx Γ E cX6_addRow RX6 1) (hr : Γ.meth.sig.returnType = (some .int)) (hrm : Γ.rm = rmX6_addRow) (th : Nat) (m : MM) : Sm (QM Γ E emI 0 0) Γ E 1 0 0 0 [(0, va_rf (some th))] [] m (g_X6_addRow_0 th m) := by
  unfold g_X6_addRow_0
  refine z_aload_n C dX6_addRow_0 rfl 0 rfl ?_
  refine z_chk (fun hk1 => ?_)
  refine z_getI C fl_RX6_22 rfl hk1 dX6_addRow_1 ?_
  refine z_aload_n C dX6_addRow_4 rfl 0 rfl ?_
  refine z_getI C fl_RX6_9 rfl hk1 dX6_addRow_5 ?_
  refine z_icmp_lt (tgt := 13) C dX6_addRow_8 (by decide) (fun c1 => ?_) (fun c1 => ?_)
  · refine z_aload_n C dX6_addRow_13 rfl 0 rfl ?_
    refine z_dup C rfl dX6_addRow_14 ?_
    refine z_getI C fl_RX6_22 rfl hk1 dX6_addRow_15 ?_
    refine z_iconst (v := 1) C dX6_addRow_18 (by decide) ?_
    refine z_iadd C dX6_addRow_19 ?_
    refine z_putI C fl_RX6_22 (fun h => by cases h) rfl hk1 rfl rfl dX6_addRow_20 (fun m1 eK1 eN1 => ?_)
    refine z_aload_n C dX6_addRow_23 rfl 0 rfl ?_
    refine z_getI C fl_RX6_22 rfl (kfw eK1 hk1) dX6_addRow_24 ?_
    refine z_iconst (v := 1) C dX6_addRow_27 (by decide) ?_
    refine z_isub C dX6_addRow_28 ?_
    exact z_iret C hr dX6_addRow_29
  · refine z_iconst (v := (-1)) C dX6_addRow_11 (by decide) ?_
    exact z_iret C hr dX6_addRow_12
def f_X6_addRow (th : Nat) (m : MM) : Option (Int32 × MM) := g_X6_addRow_0 th m
theorem M_X6_addRow (l : Launch) (E : EX) (th : Nat) (m : MM) (r : Int32) (m2 : MM) (h : f_X6_addRow th m = some (r, m2)) : Met l yX6_addRow (.code yX6_addRow cX6_addRow 1 (some .int) :: TB) rmX6_addRow (va_Pc [.ref th] (St E m)) (QR E (emI r) m2) 0 0 (AA E) :=
  met_of (em := emI) (plainFor_of_name rfl) (Nat.le_of_ble_eq_true rfl) (L0 := [(0, va_rf (some th))]) rfl (fun Γ _ hrm C hr hn => s_X6_addRow_0 C hr hrm th m) h

theorem dX6_put_0 : decode cX6_put 0 = .ok (.iload_n 1, 1) := by decide +kernel
theorem dX6_put_1 : decode cX6_put 1 = .ok (.ifCond .lt 23, 3) := by decide +kernel
theorem dX6_put_4 : decode cX6_put 4 = .ok (.iload_n 1, 1) := by decide +kernel
theorem dX6_put_5 : decode cX6_put 5 = .ok (.aload_n 0, 1) := by decide +kernel
theorem dX6_put_6 : decode cX6_put 6 = .ok (.getfield 22, 3) := by decide +kernel
theorem dX6_put_9 : decode cX6_put 9 = .ok (.if_icmp .ge 15, 3) := by decide +kernel
theorem dX6_put_12 : decode cX6_put 12 = .ok (.iload_n 2, 1) := by decide +kernel
theorem dX6_put_13 : decode cX6_put 13 = .ok (.ifCond .lt 11, 3) := by decide +kernel
theorem dX6_put_16 : decode cX6_put 16 = .ok (.iload_n 2, 1) := by decide +kernel
theorem dX6_put_17 : decode cX6_put 17 = .ok (.aload_n 0, 1) := by decide +kernel
theorem dX6_put_18 : decode cX6_put 18 = .ok (.getfield 15, 3) := by decide +kernel
theorem dX6_put_21 : decode cX6_put 21 = .ok (.if_icmp .lt 4, 3) := by decide +kernel
theorem dX6_put_24 : decode cX6_put 24 = .ok (.return_, 1) := by decide +kernel
theorem dX6_put_25 : decode cX6_put 25 = .ok (.iload_n 1, 1) := by decide +kernel
theorem dX6_put_26 : decode cX6_put 26 = .ok (.aload_n 0, 1) := by decide +kernel
theorem dX6_put_27 : decode cX6_put 27 = .ok (.getfield 15, 3) := by decide +kernel
theorem dX6_put_30 : decode cX6_put 30 = .ok (.imul, 1) := by decide +kernel
theorem dX6_put_31 : decode cX6_put 31 = .ok (.iload_n 2, 1) := by decide +kernel
theorem dX6_put_32 : decode cX6_put 32 = .ok (.iadd, 1) := by decide +kernel
theorem dX6_put_33 : decode cX6_put 33 = .ok (.istore 4, 2) := by decide +kernel
theorem dX6_put_35 : decode cX6_put 35 = .ok (.iload 4, 2) := by decide +kernel
theorem dX6_put_37 : decode cX6_put 37 = .ok (.aload_n 0, 1) := by decide +kernel
theorem dX6_put_38 : decode cX6_put 38 = .ok (.getfield 18, 3) := by decide +kernel
theorem dX6_put_41 : decode cX6_put 41 = .ok (.arraylength, 1) := by decide +kernel
theorem dX6_put_42 : decode cX6_put 42 = .ok (.if_icmp .ge 11, 3) := by decide +kernel
theorem dX6_put_45 : decode cX6_put 45 = .ok (.aload_n 0, 1) := by decide +kernel
theorem dX6_put_46 : decode cX6_put 46 = .ok (.getfield 18, 3) := by decide +kernel
theorem dX6_put_49 : decode cX6_put 49 = .ok (.iload 4, 2) := by decide +kernel
theorem dX6_put_51 : decode cX6_put 51 = .ok (.iload_n 3, 1) := by decide +kernel
theorem dX6_put_52 : decode cX6_put 52 = .ok (.iastore, 1) := by decide +kernel
theorem dX6_put_53 : decode cX6_put 53 = .ok (.return_, 1) := by decide +kernel
def rmX6_put : Room := { frames := 0, cells := 0, slots := 0, locals := 0 }
set_option maxRecDepth 100000 in
def g_X6_put_0 (th : Nat) (p1 : Int32) (p2 : Int32) (p3 : Int32) (m : MM) : Option (Unit × MM) :=
  if p1 < 0 then (some ((), m)) else (chk (m.K th = 7) (if (m.I 703 th 0) ≤ p1 then (some ((), m)) else (if p2 < 0 then (some ((), m)) else (if p2 < (m.I 701 th 0) then (bnd ((p1 * (m.I 701 th 0)) + p2) (fun y1 => ck m (m.R 702 th 0) 22 (fun a1 => if (Int32.ofNat (m.N a1)) ≤ y1 then (some ((), m)) else (chk (inb y1 (m.N a1) = true) (bnd (m.sI 22 a1 (Int32.toNatClampNeg y1) p3) (fun m1 => some ((), m1))))))) else (some ((), m))))))
set_option maxHeartbeats 4000000 in
set_option maxRecDepth 100000 in
theorem s_X6_put_0 {Γ : GX} {E : EX} (C : Cx Γ E cX6_put RX6 5) (hr : Γ.meth.sig.returnType = none) (hrm : Γ.rm = rmX6_put) (th : Nat) (p1 : Int32) (p2 : Int32) (p3 : Int32) (m : MM) : Sm (QM Γ E emV 0 0) Γ E 5 0 0 0 [(0, va_rf (some th)), (1, .int p1), (2, .int p2), (3, .int p3)] [] m (g_X6_put_0 th p1 p2 p3 m) := by
  unfold g_X6_put_0
  refine z_iload_n C dX6_put_0 rfl 1 rfl ?_
  refine z_if_lt (tgt := 24) C dX6_put_1 (by decide) (fun c1 => ?_) (fun c1 => ?_)
  · exact z_vret C hr dX6_put_24
  · refine z_iload_n C dX6_put_4 rfl 1 rfl ?_
    refine z_aload_n C dX6_put_5 rfl 0 rfl ?_
    refine z_chk (fun hk1 => ?_)
    refine z_getI C fl_RX6_22 rfl hk1 dX6_put_6 ?_
    refine z_icmp_ge (tgt := 24) C dX6_put_9 (by decide) (fun c2 => ?_) (fun c2 => ?_)
    · exact z_vret C hr dX6_put_24
    · refine z_iload_n C dX6_put_12 rfl 2 rfl ?_
      refine z_if_lt (tgt := 24) C dX6_put_13 (by decide) (fun c3 => ?_) (fun c3 => ?_)
      · exact z_vret C hr dX6_put_24
      · refine z_iload_n C dX6_put_16 rfl 2 rfl ?_
        refine z_aload_n C dX6_put_17 rfl 0 rfl ?_
        refine z_getI C fl_RX6_15 rfl hk1 dX6_put_18 ?_
        refine z_icmp_lt (tgt := 25) C dX6_put_21 (by decide) (fun c4 => ?_) (fun c4 => ?_)
        · refine z_iload_n C dX6_put_25 rfl 1 rfl ?_
          refine z_aload_n C dX6_put_26 rfl 0 rfl ?_
          refine z_getI C fl_RX6_15 rfl hk1 dX6_put_27 ?_
          refine z_imul C dX6_put_30 ?_
          refine z_iload_n C dX6_put_31 rfl 2 rfl ?_
          refine z_iadd C dX6_put_32 ?_
          refine z_bndI (fun y1 => ?_)
          refine z_istore (i := 4) (L2 := [(4, .int y1), (0, va_rf (some th)), (1, .int p1), (2, .int p2), (3, .int p3)]) C dX6_put_33 (by decide) rfl ?_
          refine z_iload C dX6_put_35 0 rfl ?_
          refine z_aload_n C dX6_put_37 rfl 1 rfl ?_
          refine z_getR C fl_RX6_18 rfl hk1 dX6_put_38 ?_
          refine z_ck (fun a1 hr1 hk2 => ?_)
          refine z_alen C hr1 hk2 (by decide) (by decide) dX6_put_41 ?_
          refine z_icmp_ge (tgt := 53) C dX6_put_42 (by decide) (fun c5 => ?_) (fun c5 => ?_)
          · exact z_vret C hr dX6_put_53
          · refine z_aload_n C dX6_put_45 rfl 1 rfl ?_
            refine z_getR C fl_RX6_18 rfl hk1 dX6_put_46 ?_
            refine z_iload C dX6_put_49 0 rfl ?_
            refine z_iload_n C dX6_put_51 rfl 4 rfl ?_
            refine z_chk (fun hj1 => ?_)
            refine z_iast C hr1 hk2 hj1 dX6_put_52 (fun m1 eK1 eN1 => ?_)
            exact z_vret C hr dX6_put_53
        · exact z_vret C hr dX6_put_24
def f_X6_put (th : Nat) (p1 : Int32) (p2 : Int32) (p3 : Int32) (m : MM) : Option (Unit × MM) := g_X6_put_0 th p1 p2 p3 m
theorem M_X6_put (l : Launch) (E : EX) (th : Nat) (p1 : Int32) (p2 : Int32) (p3 : Int32) (m : MM) (r : Unit) (m2 : MM) (h : f_X6_put th p1 p2 p3 m = some (r, m2)) : Met l yX6_put (.code yX6_put cX6_put 5 none :: TB) rmX6_put (va_Pc [.ref th, .int p1, .int p2, .int p3] (St E m)) (QR E (emV r) m2) 0 0 (AA E) :=
  met_of (em := emV) (plainFor_of_name rfl) (Nat.le_of_ble_eq_true rfl) (L0 := [(0, va_rf (some th)), (1, .int p1), (2, .int p2), (3, .int p3)]) rfl (fun Γ _ hrm C hr hn => s_X6_put_0 C hr hrm th p1 p2 p3 m) h
