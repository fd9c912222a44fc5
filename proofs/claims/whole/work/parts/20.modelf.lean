theorem dX10_bar_0 : decode cX10_bar 0 = .ok (.aload_n 0, 1) := by decide +kernel
theorem dX10_bar_1 : decode cX10_bar 1 = .ok (.iconst 0, 1) := by decide +kernel
theorem dX10_bar_2 : decode cX10_bar 2 = .ok (.putfield 180, 3) := by decide +kernel
theorem dX10_bar_5 : decode cX10_bar 5 = .ok (.aload_n 0, 1) := by decide +kernel
theorem dX10_bar_6 : decode cX10_bar 6 = .ok (.iload_n 1, 1) := by decide +kernel
theorem dX10_bar_7 : decode cX10_bar 7 = .ok (.iload_n 2, 1) := by decide +kernel
theorem dX10_bar_8 : decode cX10_bar 8 = .ok (.iload_n 3, 1) := by decide +kernel
theorem dX10_bar_9 : decode cX10_bar 9 = .ok (.invokevirtual 452, 3) := by decide +kernel
theorem dX10_bar_12 : decode cX10_bar 12 = .ok (.ifCond .eq 18, 3) := by decide +kernel
theorem dX10_bar_15 : decode cX10_bar 15 = .ok (.iload 4, 2) := by decide +kernel
theorem dX10_bar_17 : decode cX10_bar 17 = .ok (.iconst 0, 1) := by decide +kernel
theorem dX10_bar_18 : decode cX10_bar 18 = .ok (.aload_n 0, 1) := by decide +kernel
theorem dX10_bar_19 : decode cX10_bar 19 = .ok (.getfield 443, 3) := by decide +kernel
theorem dX10_bar_22 : decode cX10_bar 22 = .ok (.iconst 1, 1) := by decide +kernel
theorem dX10_bar_23 : decode cX10_bar 23 = .ok (.isub, 1) := by decide +kernel
theorem dX10_bar_24 : decode cX10_bar 24 = .ok (.invokestatic 188, 3) := by decide +kernel
theorem dX10_bar_27 : decode cX10_bar 27 = .ok (.ifCond .ne 7, 3) := by decide +kernel
theorem dX10_bar_30 : decode cX10_bar 30 = .ok (.sipush (-10000), 3) := by decide +kernel
theorem dX10_bar_33 : decode cX10_bar 33 = .ok (.ireturn, 1) := by decide +kernel
theorem dX10_bar_34 : decode cX10_bar 34 = .ok (.iload 5, 2) := by decide +kernel
theorem dX10_bar_36 : decode cX10_bar 36 = .ok (.tableswitch 76 0 4 #[36, 44, 52, 60, 68], 36) := by decide +kernel
theorem dX10_bar_72 : decode cX10_bar 72 = .ok (.aload_n 0, 1) := by decide +kernel
theorem dX10_bar_73 : decode cX10_bar 73 = .ok (.getfield 158, 3) := by decide +kernel
theorem dX10_bar_76 : decode cX10_bar 76 = .ok (.iload 4, 2) := by decide +kernel
theorem dX10_bar_78 : decode cX10_bar 78 = .ok (.iaload, 1) := by decide +kernel
theorem dX10_bar_79 : decode cX10_bar 79 = .ok (.ireturn, 1) := by decide +kernel
theorem dX10_bar_80 : decode cX10_bar 80 = .ok (.aload_n 0, 1) := by decide +kernel
theorem dX10_bar_81 : decode cX10_bar 81 = .ok (.getfield 161, 3) := by decide +kernel
theorem dX10_bar_84 : decode cX10_bar 84 = .ok (.iload 4, 2) := by decide +kernel
theorem dX10_bar_86 : decode cX10_bar 86 = .ok (.iaload, 1) := by decide +kernel
theorem dX10_bar_87 : decode cX10_bar 87 = .ok (.ireturn, 1) := by decide +kernel
theorem dX10_bar_88 : decode cX10_bar 88 = .ok (.aload_n 0, 1) := by decide +kernel
theorem dX10_bar_89 : decode cX10_bar 89 = .ok (.getfield 164, 3) := by decide +kernel
theorem dX10_bar_92 : decode cX10_bar 92 = .ok (.iload 4, 2) := by decide +kernel
theorem dX10_bar_94 : decode cX10_bar 94 = .ok (.iaload, 1) := by decide +kernel
theorem dX10_bar_95 : decode cX10_bar 95 = .ok (.ireturn, 1) := by decide +kernel
theorem dX10_bar_96 : decode cX10_bar 96 = .ok (.aload_n 0, 1) := by decide +kernel
theorem dX10_bar_97 : decode cX10_bar 97 = .ok (.iload_n 2, 1) := by decide +kernel
theorem dX10_bar_98 : decode cX10_bar 98 = .ok (.iload 4, 2) := by decide +kernel
theorem dX10_bar_100 : decode cX10_bar 100 = .ok (.invokevirtual 464, 3) := by decide +kernel
theorem dX10_bar_103 : decode cX10_bar 103 = .ok (.ireturn, 1) := by decide +kernel
theorem dX10_bar_104 : decode cX10_bar 104 = .ok (.aload_n 0, 1) := by decide +kernel
theorem dX10_bar_105 : decode cX10_bar 105 = .ok (.iload_n 2, 1) := by decide +kernel
theorem dX10_bar_106 : decode cX10_bar 106 = .ok (.iload 4, 2) := by decide +kernel
theorem dX10_bar_108 : decode cX10_bar 108 = .ok (.invokevirtual 467, 3) := by decide +kernel
theorem dX10_bar_111 : decode cX10_bar 111 = .ok (.ireturn, 1) := by decide +kernel
theorem dX10_bar_112 : decode cX10_bar 112 = .ok (.sipush (-10000), 3) := by decide +kernel
theorem dX10_bar_115 : decode cX10_bar 115 = .ok (.ireturn, 1) := by decide +kernel
def rmX10_bar : Room := { frames := 7, cells := 0, slots := 0, locals := 180 }
set_option maxRecDepth 100000 in
def g_X10_bar_0 (th : Nat) (p1 : Int32) (p2 : Int32) (p3 : Int32) (p4 : Int32) (p5 : Int32) (m : MM) : Option (Int32 × MM) :=
  chk (m.K th = 11) (bnd (m.sI 1100 th 0 0) (fun m1 => cal (f_X10_bringBars th p1 p2 p3 m1) (fun r1 m2 => if r1 = 0 then (some ((-10000), m2)) else (chk (m2.K th = 11) (cal (f_X10_in p4 0 ((m2.I 1174 th 0) - 1) m2) (fun r2 m3 => if r2 = 0 then (some ((-10000), m3)) else (if p5 = 0 then (chk (m3.K th = 11) (ck m3 (m3.R 1171 th 0) 22 (fun a1 => chk (inb p4 (m3.N a1) = true) (some (m3.I 22 a1 (Int32.toNatClampNeg p4), m3))))) else (if p5 = 1 then (chk (m3.K th = 11) (ck m3 (m3.R 1172 th 0) 22 (fun a2 => chk (inb p4 (m3.N a2) = true) (some (m3.I 22 a2 (Int32.toNatClampNeg p4), m3))))) else (if p5 = 2 then (chk (m3.K th = 11) (ck m3 (m3.R 1173 th 0) 22 (fun a3 => chk (inb p4 (m3.N a3) = true) (some (m3.I 22 a3 (Int32.toNatClampNeg p4), m3))))) else (if p5 = 3 then (chk (m3.K th = 11) (cal (f_X10_shortBy th p2 p4 m3) (fun r3 m4 => some (r3, m4)))) else (if p5 = 4 then (chk (m3.K th = 11) (cal (f_X10_goer th p2 p4 m3) (fun r4 m5 => some (r4, m5)))) else (some ((-10000), m3)))))))))))))
set_option maxHeartbeats 4000000 in
set_option maxRecDepth 100000 in
theorem s_X10_bar_0 {Γ : GX} {E : EX} (C : Cx Γ E cX10_bar RX10 6) (hr : Γ.meth.sig.returnType = (some .int)) (hrm : Γ.rm = rmX10_bar) (th : Nat) (p1 : Int32) (p2 : Int32) (p3 : Int32) (p4 : Int32) (p5 : Int32) (m : MM) : Sm (QM Γ E emI 0 0) Γ E 6 0 0 0 [(0, va_rf (some th)), (1, .int p1), (2, .int p2), (3, .int p3), (4, .int p4), (5, .int p5)] [] m (g_X10_bar_0 th p1 p2 p3 p4 p5 m) := by
  unfold g_X10_bar_0
  refine z_aload_n C dX10_bar_0 rfl 0 rfl ?_
  refine z_iconst (v := 0) C dX10_bar_1 (by decide) ?_
  refine z_chk (fun hk1 => ?_)
  refine z_putI C fl_RX10_180 (fun h => by cases h) rfl hk1 rfl rfl dX10_bar_2 (fun m1 eK1 eN1 => ?_)
  refine z_aload_n C dX10_bar_5 rfl 0 rfl ?_
  refine z_iload_n C dX10_bar_6 rfl 1 rfl ?_
  refine z_iload_n C dX10_bar_7 rfl 2 rfl ?_
  refine z_iload_n C dX10_bar_8 rfl 3 rfl ?_
  refine z_cVI [.int p1, .int p2, .int p3] [] C mv_RX10_452 (fun r0 m0 h0 => M_X10_bringBars _ _ _ _ _ _ _ _ _ h0) rfl rfl ⟨by rw [hrm]; exact Nat.le_of_ble_eq_true rfl, by rw [hrm]; exact Nat.le_of_ble_eq_true rfl⟩ ⟨by rw [hrm]; exact Nat.le_of_ble_eq_true rfl, by rw [hrm]; exact Nat.le_of_ble_eq_true rfl⟩ rfl (kfw eK1 hk1) rfl rfl rfl (Nat.le_of_ble_eq_true rfl) dX10_bar_9 (fun r1 m2 => ?_)
  refine z_if_eq (tgt := 30) C dX10_bar_12 (by decide) (fun c1 => ?_) (fun c1 => ?_)
  · refine z_sipush (v := (-10000)) C dX10_bar_30 (by decide) ?_
    exact z_iret C hr dX10_bar_33
  · refine z_iload C dX10_bar_15 4 rfl ?_
    refine z_iconst (v := 0) C dX10_bar_17 (by decide) ?_
    refine z_aload_n C dX10_bar_18 rfl 0 rfl ?_
    refine z_chk (fun hk2 => ?_)
    refine z_getI C fl_RX10_443 rfl hk2 dX10_bar_19 ?_
    refine z_iconst (v := 1) C dX10_bar_22 (by decide) ?_
    refine z_isub C dX10_bar_23 ?_
    refine z_cSI [.int p4, .int 0, .int ((m2.I 1174 th 0) - 1)] [] C mv_RX10_188 (fun r0 m0 h0 => M_X10_in _ _ _ _ _ _ _ _ h0) rfl rfl ⟨by rw [hrm]; exact Nat.le_of_ble_eq_true rfl, by rw [hrm]; exact Nat.le_of_ble_eq_true rfl⟩ ⟨by rw [hrm]; exact Nat.le_of_ble_eq_true rfl, by rw [hrm]; exact Nat.le_of_ble_eq_true rfl⟩ rfl rfl (Nat.le_of_ble_eq_true rfl) dX10_bar_24 (fun r2 m3 => ?_)
    refine z_if_ne (tgt := 34) C dX10_bar_27 (by decide) (fun c2 => ?_) (fun c2 => ?_)
    · refine z_iload C dX10_bar_34 5 rfl ?_
      refine z_ite (fun c3 => ?_) (fun c3 => ?_)
      · refine z_tabI (v := 0) (tgt := 72) C dX10_bar_36 c3 (by decide) (by decide) (off := 36) (by decide) (by decide) ?_
        refine z_aload_n C dX10_bar_72 rfl 0 rfl ?_
        refine z_chk (fun hk3 => ?_)
        refine z_getR C fl_RX10_158 rfl hk3 dX10_bar_73 ?_
        refine z_iload C dX10_bar_76 4 rfl ?_
        refine z_ck (fun a1 hr1 hk4 => ?_)
        refine z_chk (fun hj1 => ?_)
        refine z_iald C hr1 hk4 hj1 dX10_bar_78 ?_
        exact z_iret C hr dX10_bar_79
      refine z_ite (fun c4 => ?_) (fun c4 => ?_)
      · refine z_tabI (v := 1) (tgt := 80) C dX10_bar_36 c4 (by decide) (by decide) (off := 44) (by decide) (by decide) ?_
        refine z_aload_n C dX10_bar_80 rfl 0 rfl ?_
        refine z_chk (fun hk5 => ?_)
        refine z_getR C fl_RX10_161 rfl hk5 dX10_bar_81 ?_
        refine z_iload C dX10_bar_84 4 rfl ?_
        refine z_ck (fun a2 hr2 hk6 => ?_)
        refine z_chk (fun hj2 => ?_)
        refine z_iald C hr2 hk6 hj2 dX10_bar_86 ?_
        exact z_iret C hr dX10_bar_87
      refine z_ite (fun c5 => ?_) (fun c5 => ?_)
      · refine z_tabI (v := 2) (tgt := 88) C dX10_bar_36 c5 (by decide) (by decide) (off := 52) (by decide) (by decide) ?_
        refine z_aload_n C dX10_bar_88 rfl 0 rfl ?_
        refine z_chk (fun hk7 => ?_)
        refine z_getR C fl_RX10_164 rfl hk7 dX10_bar_89 ?_
        refine z_iload C dX10_bar_92 4 rfl ?_
        refine z_ck (fun a3 hr3 hk8 => ?_)
        refine z_chk (fun hj3 => ?_)
        refine z_iald C hr3 hk8 hj3 dX10_bar_94 ?_
        exact z_iret C hr dX10_bar_95
      refine z_ite (fun c6 => ?_) (fun c6 => ?_)
      · refine z_tabI (v := 3) (tgt := 96) C dX10_bar_36 c6 (by decide) (by decide) (off := 60) (by decide) (by decide) ?_
        refine z_aload_n C dX10_bar_96 rfl 0 rfl ?_
        refine z_iload_n C dX10_bar_97 rfl 2 rfl ?_
        refine z_iload C dX10_bar_98 4 rfl ?_
        refine z_chk (fun hk9 => ?_)
        refine z_cVI [.int p2, .int p4] [] C mv_RX10_464 (fun r0 m0 h0 => M_X10_shortBy _ _ _ _ _ _ _ _ h0) rfl rfl ⟨by rw [hrm]; exact Nat.le_of_ble_eq_true rfl, by rw [hrm]; exact Nat.le_of_ble_eq_true rfl⟩ ⟨by rw [hrm]; exact Nat.le_of_ble_eq_true rfl, by rw [hrm]; exact Nat.le_of_ble_eq_true rfl⟩ rfl hk9 rfl rfl rfl (Nat.le_of_ble_eq_true rfl) dX10_bar_100 (fun r3 m4 => ?_)
        exact z_iret C hr dX10_bar_103
      refine z_ite (fun c7 => ?_) (fun c7 => ?_)
      · refine z_tabI (v := 4) (tgt := 104) C dX10_bar_36 c7 (by decide) (by decide) (off := 68) (by decide) (by decide) ?_
        refine z_aload_n C dX10_bar_104 rfl 0 rfl ?_
        refine z_iload_n C dX10_bar_105 rfl 2 rfl ?_
        refine z_iload C dX10_bar_106 4 rfl ?_
        refine z_chk (fun hk10 => ?_)
        refine z_cVI [.int p2, .int p4] [] C mv_RX10_467 (fun r0 m0 h0 => M_X10_goer _ _ _ _ _ _ _ _ h0) rfl rfl ⟨by rw [hrm]; exact Nat.le_of_ble_eq_true rfl, by rw [hrm]; exact Nat.le_of_ble_eq_true rfl⟩ ⟨by rw [hrm]; exact Nat.le_of_ble_eq_true rfl, by rw [hrm]; exact Nat.le_of_ble_eq_true rfl⟩ rfl hk10 rfl rfl rfl (Nat.le_of_ble_eq_true rfl) dX10_bar_108 (fun r4 m5 => ?_)
        exact z_iret C hr dX10_bar_111
      refine z_tabO (tgt := 112) C dX10_bar_36 (by have qc3 := ne_int (n := 0) c3 (by decide); have qc4 := ne_int (n := 1) c4 (by decide); have qc5 := ne_int (n := 2) c5 (by decide); have qc6 := ne_int (n := 3) c6 (by decide); have qc7 := ne_int (n := 4) c7 (by decide); omega) (by decide) ?_
      refine z_sipush (v := (-10000)) C dX10_bar_112 (by decide) ?_
      exact z_iret C hr dX10_bar_115
    · refine z_sipush (v := (-10000)) C dX10_bar_30 (by decide) ?_
      exact z_iret C hr dX10_bar_33
def f_X10_bar (th : Nat) (p1 : Int32) (p2 : Int32) (p3 : Int32) (p4 : Int32) (p5 : Int32) (m : MM) : Option (Int32 × MM) := g_X10_bar_0 th p1 p2 p3 p4 p5 m
theorem M_X10_bar (l : Launch) (E : EX) (th : Nat) (p1 : Int32) (p2 : Int32) (p3 : Int32) (p4 : Int32) (p5 : Int32) (m : MM) (r : Int32) (m2 : MM) (h : f_X10_bar th p1 p2 p3 p4 p5 m = some (r, m2)) : Met l yX10_bar (.code yX10_bar cX10_bar 6 (some .int) :: TB) rmX10_bar (va_Pc [.ref th, .int p1, .int p2, .int p3, .int p4, .int p5] (St E m)) (QR E (emI r) m2) 0 0 (AA E) :=
  met_of (em := emI) (plainFor_of_name rfl) (Nat.le_of_ble_eq_true rfl) (L0 := [(0, va_rf (some th)), (1, .int p1), (2, .int p2), (3, .int p3), (4, .int p4), (5, .int p5)]) rfl (fun Γ _ hrm C hr hn => s_X10_bar_0 C hr hrm th p1 p2 p3 p4 p5 m) h

theorem dX10_goes_0 : decode cX10_goes 0 = .ok (.aload_n 0, 1) := by decide +kernel
theorem dX10_goes_1 : decode cX10_goes 1 = .ok (.iconst 0, 1) := by decide +kernel
theorem dX10_goes_2 : decode cX10_goes 2 = .ok (.putfield 180, 3) := by decide +kernel
theorem dX10_goes_5 : decode cX10_goes 5 = .ok (.aload_n 0, 1) := by decide +kernel
theorem dX10_goes_6 : decode cX10_goes 6 = .ok (.iload_n 1, 1) := by decide +kernel
theorem dX10_goes_7 : decode cX10_goes 7 = .ok (.iload_n 2, 1) := by decide +kernel
theorem dX10_goes_8 : decode cX10_goes 8 = .ok (.iload_n 3, 1) := by decide +kernel
theorem dX10_goes_9 : decode cX10_goes 9 = .ok (.invokevirtual 452, 3) := by decide +kernel
theorem dX10_goes_12 : decode cX10_goes 12 = .ok (.ifCond .ne 5, 3) := by decide +kernel
theorem dX10_goes_15 : decode cX10_goes 15 = .ok (.iconst (-1), 1) := by decide +kernel
theorem dX10_goes_16 : decode cX10_goes 16 = .ok (.ireturn, 1) := by decide +kernel
theorem dX10_goes_17 : decode cX10_goes 17 = .ok (.iconst 0, 1) := by decide +kernel
theorem dX10_goes_18 : decode cX10_goes 18 = .ok (.istore 4, 2) := by decide +kernel
theorem dX10_goes_20 : decode cX10_goes 20 = .ok (.iconst 0, 1) := by decide +kernel
theorem dX10_goes_21 : decode cX10_goes 21 = .ok (.istore 5, 2) := by decide +kernel
theorem dX10_goes_23 : decode cX10_goes 23 = .ok (.iload 5, 2) := by decide +kernel
theorem dX10_goes_25 : decode cX10_goes 25 = .ok (.aload_n 0, 1) := by decide +kernel
theorem dX10_goes_26 : decode cX10_goes 26 = .ok (.getfield 443, 3) := by decide +kernel
theorem dX10_goes_29 : decode cX10_goes 29 = .ok (.if_icmp .ge 37, 3) := by decide +kernel
theorem dX10_goes_32 : decode cX10_goes 32 = .ok (.aload_n 0, 1) := by decide +kernel
theorem dX10_goes_33 : decode cX10_goes 33 = .ok (.iload_n 2, 1) := by decide +kernel
theorem dX10_goes_34 : decode cX10_goes 34 = .ok (.iload 5, 2) := by decide +kernel
theorem dX10_goes_36 : decode cX10_goes 36 = .ok (.invokevirtual 467, 3) := by decide +kernel
theorem dX10_goes_39 : decode cX10_goes 39 = .ok (.istore 6, 2) := by decide +kernel
theorem dX10_goes_41 : decode cX10_goes 41 = .ok (.iload 4, 2) := by decide +kernel
theorem dX10_goes_43 : decode cX10_goes 43 = .ok (.iload 6, 2) := by decide +kernel
theorem dX10_goes_45 : decode cX10_goes 45 = .ok (.iconst (-1), 1) := by decide +kernel
theorem dX10_goes_46 : decode cX10_goes 46 = .ok (.if_icmp .ne 7, 3) := by decide +kernel
theorem dX10_goes_49 : decode cX10_goes 49 = .ok (.iconst 0, 1) := by decide +kernel
theorem dX10_goes_50 : decode cX10_goes 50 = .ok (.goto 7, 3) := by decide +kernel
theorem dX10_goes_53 : decode cX10_goes 53 = .ok (.iconst 1, 1) := by decide +kernel
theorem dX10_goes_54 : decode cX10_goes 54 = .ok (.iload 6, 2) := by decide +kernel
theorem dX10_goes_56 : decode cX10_goes 56 = .ok (.ishl, 1) := by decide +kernel
theorem dX10_goes_57 : decode cX10_goes 57 = .ok (.ior, 1) := by decide +kernel
theorem dX10_goes_58 : decode cX10_goes 58 = .ok (.istore 4, 2) := by decide +kernel
theorem dX10_goes_60 : decode cX10_goes 60 = .ok (.iinc 5 1, 3) := by decide +kernel
theorem dX10_goes_63 : decode cX10_goes 63 = .ok (.goto (-40), 3) := by decide +kernel
theorem dX10_goes_66 : decode cX10_goes 66 = .ok (.iload 4, 2) := by decide +kernel
theorem dX10_goes_68 : decode cX10_goes 68 = .ok (.ireturn, 1) := by decide +kernel
def rmX10_goes : Room := { frames := 7, cells := 0, slots := 0, locals := 180 }
set_option maxRecDepth 100000 in
def g_X10_goes_57 (th : Nat) (p1 : Int32) (p2 : Int32) (p3 : Int32) (k23 : Int32 → Int32 → MM → Option (Int32 × MM)) (x5 : Int32) (s0 : Int32) (s1 : Int32) (m : MM) : Option (Int32 × MM) :=
  bnd (s0 ||| s1) (fun y1 => k23 y1 (x5 + 1) m)
set_option maxHeartbeats 4000000 in
set_option maxRecDepth 100000 in
theorem s_X10_goes_57 {Γ : GX} {E : EX} (C : Cx Γ E cX10_goes RX10 7) (hr : Γ.meth.sig.returnType = (some .int)) (hrm : Γ.rm = rmX10_goes) (th : Nat) (p1 : Int32) (p2 : Int32) (p3 : Int32) (k23 : Int32 → Int32 → MM → Option (Int32 × MM)) (h23 : ∀ (x4 : Int32) (x5 : Int32) (m : MM), Sm (QM Γ E emI 0 0) Γ E 7 0 0 23 [(0, va_rf (some th)), (1, .int p1), (2, .int p2), (3, .int p3), (4, .int x4), (5, .int x5)] [] m (k23 x4 x5 m)) (x5 : Int32) (s0 : Int32) (s1 : Int32) (m : MM) : Sm (QM Γ E emI 0 0) Γ E 7 0 0 57 [(0, va_rf (some th)), (1, .int p1), (2, .int p2), (3, .int p3), (5, .int x5)] [.int s1, .int s0] m (g_X10_goes_57 th p1 p2 p3 k23 x5 s0 s1 m) := by
  unfold g_X10_goes_57
  refine z_ior C dX10_goes_57 ?_
  refine z_bndI (fun y1 => ?_)
  refine z_istore (i := 4) (L2 := [(4, .int y1), (0, va_rf (some th)), (1, .int p1), (2, .int p2), (3, .int p3), (5, .int x5)]) C dX10_goes_58 (by decide) rfl ?_
  refine z_iinc (v := 1) (L2 := [(5, .int (x5 + 1)), (4, .int y1), (0, va_rf (some th)), (1, .int p1), (2, .int p2), (3, .int p3)]) C dX10_goes_60 5 rfl (by decide) (by decide) rfl ?_
  refine z_goto (tgt := 23) C dX10_goes_63 (by decide) ?_
  exact z_sub [2, 3, 4, 5, 1, 0] rfl (h23 y1 (x5 + 1) m)
set_option maxRecDepth 100000 in
def g_X10_goes_23 (th : Nat) (p1 : Int32) (p2 : Int32) (p3 : Int32) (k23 : Int32 → Int32 → MM → Option (Int32 × MM)) (x4 : Int32) (x5 : Int32) (m : MM) : Option (Int32 × MM) :=
  chk (m.K th = 11) (if (m.I 1174 th 0) ≤ x5 then (some (x4, m)) else (cal (f_X10_goer th p2 x5 m) (fun r1 m1 => if r1 = (-1) then (g_X10_goes_57 th p1 p2 p3 k23 x5 x4 0 m1) else (g_X10_goes_57 th p1 p2 p3 k23 x5 x4 (1 <<< (r1 &&& 31)) m1))))
set_option maxHeartbeats 4000000 in
set_option maxRecDepth 100000 in
theorem s_X10_goes_23 {Γ : GX} {E : EX} (C : Cx Γ E cX10_goes RX10 7) (hr : Γ.meth.sig.returnType = (some .int)) (hrm : Γ.rm = rmX10_goes) (th : Nat) (p1 : Int32) (p2 : Int32) (p3 : Int32) (k23 : Int32 → Int32 → MM → Option (Int32 × MM)) (h23 : ∀ (x4 : Int32) (x5 : Int32) (m : MM), Sm (QM Γ E emI 0 0) Γ E 7 0 0 23 [(0, va_rf (some th)), (1, .int p1), (2, .int p2), (3, .int p3), (4, .int x4), (5, .int x5)] [] m (k23 x4 x5 m)) (x4 : Int32) (x5 : Int32) (m : MM) : Sm (QM Γ E emI 0 0) Γ E 7 0 0 23 [(0, va_rf (some th)), (1, .int p1), (2, .int p2), (3, .int p3), (4, .int x4), (5, .int x5)] [] m (g_X10_goes_23 th p1 p2 p3 k23 x4 x5 m) := by
  unfold g_X10_goes_23
  refine z_iload C dX10_goes_23 5 rfl ?_
  refine z_aload_n C dX10_goes_25 rfl 0 rfl ?_
  refine z_chk (fun hk1 => ?_)
  refine z_getI C fl_RX10_443 rfl hk1 dX10_goes_26 ?_
  refine z_icmp_ge (tgt := 66) C dX10_goes_29 (by decide) (fun c1 => ?_) (fun c1 => ?_)
  · refine z_iload C dX10_goes_66 4 rfl ?_
    exact z_iret C hr dX10_goes_68
  · refine z_aload_n C dX10_goes_32 rfl 0 rfl ?_
    refine z_iload_n C dX10_goes_33 rfl 2 rfl ?_
    refine z_iload C dX10_goes_34 5 rfl ?_
    refine z_cVI [.int p2, .int x5] [] C mv_RX10_467 (fun r0 m0 h0 => M_X10_goer _ _ _ _ _ _ _ _ h0) rfl rfl ⟨by rw [hrm]; exact Nat.le_of_ble_eq_true rfl, by rw [hrm]; exact Nat.le_of_ble_eq_true rfl⟩ ⟨by rw [hrm]; exact Nat.le_of_ble_eq_true rfl, by rw [hrm]; exact Nat.le_of_ble_eq_true rfl⟩ rfl hk1 rfl rfl rfl (Nat.le_of_ble_eq_true rfl) dX10_goes_36 (fun r1 m1 => ?_)
    refine z_istore (i := 6) (L2 := [(6, .int r1), (0, va_rf (some th)), (1, .int p1), (2, .int p2), (3, .int p3), (4, .int x4), (5, .int x5)]) C dX10_goes_39 (by decide) rfl ?_
    refine z_iload C dX10_goes_41 5 rfl ?_
    refine z_iload C dX10_goes_43 0 rfl ?_
    refine z_iconst (v := (-1)) C dX10_goes_45 (by decide) ?_
    refine z_icmp_ne (tgt := 53) C dX10_goes_46 (by decide) (fun c2 => ?_) (fun c2 => ?_)
    · refine z_iconst (v := 1) C dX10_goes_53 (by decide) ?_
      refine z_iload C dX10_goes_54 0 rfl ?_
      refine z_ishl C dX10_goes_56 ?_
      exact z_sub [1, 2, 3, 4, 6] rfl (s_X10_goes_57 C hr hrm th p1 p2 p3 k23 h23 x5 x4 (1 <<< (r1 &&& 31)) m1)
    · refine z_iconst (v := 0) C dX10_goes_49 (by decide) ?_
      refine z_goto (tgt := 57) C dX10_goes_50 (by decide) ?_
      exact z_sub [1, 2, 3, 4, 6] rfl (s_X10_goes_57 C hr hrm th p1 p2 p3 k23 h23 x5 x4 0 m1)
def l_X10_goes_23 (th : Nat) (p1 : Int32) (p2 : Int32) (p3 : Int32) : Nat → Int32 → Int32 → MM → Option (Int32 × MM) := lp (fun _ _ _ => none) (fun k23 => g_X10_goes_23 th p1 p2 p3 k23)
theorem t_X10_goes_23 {Γ : GX} {E : EX} (C : Cx Γ E cX10_goes RX10 7) (hr : Γ.meth.sig.returnType = (some .int)) (hrm : Γ.rm = rmX10_goes) (th : Nat) (p1 : Int32) (p2 : Int32) (p3 : Int32) : ∀ (n : Nat) (x4 : Int32) (x5 : Int32) (m : MM), Sm (QM Γ E emI 0 0) Γ E 7 0 0 23 [(0, va_rf (some th)), (1, .int p1), (2, .int p2), (3, .int p3), (4, .int x4), (5, .int x5)] [] m (l_X10_goes_23 th p1 p2 p3 n x4 x5 m) := by
  intro n
  induction n with
  | zero => intros; exact z_none
  | succ n ih => intro x4 x5 m; exact s_X10_goes_23 C hr hrm th p1 p2 p3 (l_X10_goes_23 th p1 p2 p3 n) ih x4 x5 m
set_option maxRecDepth 100000 in
def g_X10_goes_0 (th : Nat) (p1 : Int32) (p2 : Int32) (p3 : Int32) (m : MM) : Option (Int32 × MM) :=
  chk (m.K th = 11) (bnd (m.sI 1100 th 0 0) (fun m2 => cal (f_X10_bringBars th p1 p2 p3 m2) (fun r2 m3 => if r2 = 0 then (some ((-1), m3)) else (l_X10_goes_23 th p1 p2 p3 FU 0 0 m3))))
set_option maxHeartbeats 4000000 in
set_option maxRecDepth 100000 in
theorem s_X10_goes_0 {Γ : GX} {E : EX} (C : Cx Γ E cX10_goes RX10 7) (hr : Γ.meth.sig.returnType = (some .int)) (hrm : Γ.rm = rmX10_goes) (th : Nat) (p1 : Int32) (p2 : Int32) (p3 : Int32) (m : MM) : Sm (QM Γ E emI 0 0) Γ E 7 0 0 0 [(0, va_rf (some th)), (1, .int p1), (2, .int p2), (3, .int p3)] [] m (g_X10_goes_0 th p1 p2 p3 m) := by
  unfold g_X10_goes_0
  refine z_aload_n C dX10_goes_0 rfl 0 rfl ?_
  refine z_iconst (v := 0) C dX10_goes_1 (by decide) ?_
  refine z_chk (fun hk2 => ?_)
  refine z_putI C fl_RX10_180 (fun h => by cases h) rfl hk2 rfl rfl dX10_goes_2 (fun m2 eK1 eN1 => ?_)
  refine z_aload_n C dX10_goes_5 rfl 0 rfl ?_
  refine z_iload_n C dX10_goes_6 rfl 1 rfl ?_
  refine z_iload_n C dX10_goes_7 rfl 2 rfl ?_
  refine z_iload_n C dX10_goes_8 rfl 3 rfl ?_
  refine z_cVI [.int p1, .int p2, .int p3] [] C mv_RX10_452 (fun r0 m0 h0 => M_X10_bringBars _ _ _ _ _ _ _ _ _ h0) rfl rfl ⟨by rw [hrm]; exact Nat.le_of_ble_eq_true rfl, by rw [hrm]; exact Nat.le_of_ble_eq_true rfl⟩ ⟨by rw [hrm]; exact Nat.le_of_ble_eq_true rfl, by rw [hrm]; exact Nat.le_of_ble_eq_true rfl⟩ rfl (kfw eK1 hk2) rfl rfl rfl (Nat.le_of_ble_eq_true rfl) dX10_goes_9 (fun r2 m3 => ?_)
  refine z_if_ne (tgt := 17) C dX10_goes_12 (by decide) (fun c3 => ?_) (fun c3 => ?_)
  · refine z_iconst (v := 0) C dX10_goes_17 (by decide) ?_
    refine z_istore (i := 4) (L2 := [(4, .int 0), (0, va_rf (some th)), (1, .int p1), (2, .int p2), (3, .int p3)]) C dX10_goes_18 (by decide) rfl ?_
    refine z_iconst (v := 0) C dX10_goes_20 (by decide) ?_
    refine z_istore (i := 5) (L2 := [(5, .int 0), (4, .int 0), (0, va_rf (some th)), (1, .int p1), (2, .int p2), (3, .int p3)]) C dX10_goes_21 (by decide) rfl ?_
    exact z_sub [2, 3, 4, 5, 1, 0] rfl (t_X10_goes_23 C hr hrm th p1 p2 p3 FU 0 0 m3)
  · refine z_iconst (v := (-1)) C dX10_goes_15 (by decide) ?_
    exact z_iret C hr dX10_goes_16
def f_X10_goes (th : Nat) (p1 : Int32) (p2 : Int32) (p3 : Int32) (m : MM) : Option (Int32 × MM) := g_X10_goes_0 th p1 p2 p3 m
theorem M_X10_goes (l : Launch) (E : EX) (th : Nat) (p1 : Int32) (p2 : Int32) (p3 : Int32) (m : MM) (r : Int32) (m2 : MM) (h : f_X10_goes th p1 p2 p3 m = some (r, m2)) : Met l yX10_goes (.code yX10_goes cX10_goes 7 (some .int) :: TB) rmX10_goes (va_Pc [.ref th, .int p1, .int p2, .int p3] (St E m)) (QR E (emI r) m2) 0 0 (AA E) :=
  met_of (em := emI) (plainFor_of_name rfl) (Nat.le_of_ble_eq_true rfl) (L0 := [(0, va_rf (some th)), (1, .int p1), (2, .int p2), (3, .int p3)]) rfl (fun Γ _ hrm C hr hn => s_X10_goes_0 C hr hrm th p1 p2 p3 m) h

theorem dX10_pays_0 : decode cX10_pays 0 = .ok (.aload_n 0, 1) := by decide +kernel
theorem dX10_pays_1 : decode cX10_pays 1 = .ok (.iconst 0, 1) := by decide +kernel
theorem dX10_pays_2 : decode cX10_pays 2 = .ok (.putfield 180, 3) := by decide +kernel
theorem dX10_pays_5 : decode cX10_pays 5 = .ok (.iload 4, 2) := by decide +kernel
theorem dX10_pays_7 : decode cX10_pays 7 = .ok (.iconst 0, 1) := by decide +kernel
theorem dX10_pays_8 : decode cX10_pays 8 = .ok (.bipush 7, 2) := by decide +kernel
theorem dX10_pays_10 : decode cX10_pays 10 = .ok (.invokestatic 188, 3) := by decide +kernel
theorem dX10_pays_13 : decode cX10_pays 13 = .ok (.ifCond .eq 13, 3) := by decide +kernel
theorem dX10_pays_16 : decode cX10_pays 16 = .ok (.aload_n 0, 1) := by decide +kernel
theorem dX10_pays_17 : decode cX10_pays 17 = .ok (.iload_n 1, 1) := by decide +kernel
theorem dX10_pays_18 : decode cX10_pays 18 = .ok (.iload_n 2, 1) := by decide +kernel
theorem dX10_pays_19 : decode cX10_pays 19 = .ok (.iload_n 3, 1) := by decide +kernel
theorem dX10_pays_20 : decode cX10_pays 20 = .ok (.invokevirtual 452, 3) := by decide +kernel
theorem dX10_pays_23 : decode cX10_pays 23 = .ok (.ifCond .ne 5, 3) := by decide +kernel
theorem dX10_pays_26 : decode cX10_pays 26 = .ok (.iconst (-1), 1) := by decide +kernel
theorem dX10_pays_27 : decode cX10_pays 27 = .ok (.ireturn, 1) := by decide +kernel
theorem dX10_pays_28 : decode cX10_pays 28 = .ok (.iconst 0, 1) := by decide +kernel
theorem dX10_pays_29 : decode cX10_pays 29 = .ok (.istore 5, 2) := by decide +kernel
theorem dX10_pays_31 : decode cX10_pays 31 = .ok (.iconst 0, 1) := by decide +kernel
theorem dX10_pays_32 : decode cX10_pays 32 = .ok (.istore 6, 2) := by decide +kernel
theorem dX10_pays_34 : decode cX10_pays 34 = .ok (.iconst 0, 1) := by decide +kernel
theorem dX10_pays_35 : decode cX10_pays 35 = .ok (.istore 7, 2) := by decide +kernel
theorem dX10_pays_37 : decode cX10_pays 37 = .ok (.iload 7, 2) := by decide +kernel
theorem dX10_pays_39 : decode cX10_pays 39 = .ok (.aload_n 0, 1) := by decide +kernel
theorem dX10_pays_40 : decode cX10_pays 40 = .ok (.getfield 443, 3) := by decide +kernel
theorem dX10_pays_43 : decode cX10_pays 43 = .ok (.if_icmp .ge 135, 3) := by decide +kernel
theorem dX10_pays_46 : decode cX10_pays 46 = .ok (.aload_n 0, 1) := by decide +kernel
theorem dX10_pays_47 : decode cX10_pays 47 = .ok (.iload_n 2, 1) := by decide +kernel
theorem dX10_pays_48 : decode cX10_pays 48 = .ok (.iload 7, 2) := by decide +kernel
theorem dX10_pays_50 : decode cX10_pays 50 = .ok (.invokevirtual 467, 3) := by decide +kernel
theorem dX10_pays_53 : decode cX10_pays 53 = .ok (.istore 8, 2) := by decide +kernel
theorem dX10_pays_55 : decode cX10_pays 55 = .ok (.iload 8, 2) := by decide +kernel
theorem dX10_pays_57 : decode cX10_pays 57 = .ok (.iconst (-1), 1) := by decide +kernel
theorem dX10_pays_58 : decode cX10_pays 58 = .ok (.if_icmp .eq 114, 3) := by decide +kernel
theorem dX10_pays_61 : decode cX10_pays 61 = .ok (.iload 5, 2) := by decide +kernel
theorem dX10_pays_63 : decode cX10_pays 63 = .ok (.iload 8, 2) := by decide +kernel
theorem dX10_pays_65 : decode cX10_pays 65 = .ok (.ishr, 1) := by decide +kernel
theorem dX10_pays_66 : decode cX10_pays 66 = .ok (.iconst 1, 1) := by decide +kernel
theorem dX10_pays_67 : decode cX10_pays 67 = .ok (.iand, 1) := by decide +kernel
theorem dX10_pays_68 : decode cX10_pays 68 = .ok (.ifCond .eq 6, 3) := by decide +kernel
theorem dX10_pays_71 : decode cX10_pays 71 = .ok (.goto 101, 3) := by decide +kernel
theorem dX10_pays_74 : decode cX10_pays 74 = .ok (.iload 5, 2) := by decide +kernel
theorem dX10_pays_76 : decode cX10_pays 76 = .ok (.iconst 1, 1) := by decide +kernel
theorem dX10_pays_77 : decode cX10_pays 77 = .ok (.iload 8, 2) := by decide +kernel
theorem dX10_pays_79 : decode cX10_pays 79 = .ok (.ishl, 1) := by decide +kernel
theorem dX10_pays_80 : decode cX10_pays 80 = .ok (.ior, 1) := by decide +kernel
theorem dX10_pays_81 : decode cX10_pays 81 = .ok (.istore 5, 2) := by decide +kernel
theorem dX10_pays_83 : decode cX10_pays 83 = .ok (.iload 8, 2) := by decide +kernel
theorem dX10_pays_85 : decode cX10_pays 85 = .ok (.aload_n 0, 1) := by decide +kernel
theorem dX10_pays_86 : decode cX10_pays 86 = .ok (.getfield 158, 3) := by decide +kernel
theorem dX10_pays_89 : decode cX10_pays 89 = .ok (.iload 7, 2) := by decide +kernel
theorem dX10_pays_91 : decode cX10_pays 91 = .ok (.iaload, 1) := by decide +kernel
theorem dX10_pays_92 : decode cX10_pays 92 = .ok (.if_icmp .ne 13, 3) := by decide +kernel
theorem dX10_pays_95 : decode cX10_pays 95 = .ok (.aload_n 0, 1) := by decide +kernel
theorem dX10_pays_96 : decode cX10_pays 96 = .ok (.getfield 161, 3) := by decide +kernel
theorem dX10_pays_99 : decode cX10_pays 99 = .ok (.iload 7, 2) := by decide +kernel
theorem dX10_pays_101 : decode cX10_pays 101 = .ok (.iaload, 1) := by decide +kernel
theorem dX10_pays_102 : decode cX10_pays 102 = .ok (.goto 10, 3) := by decide +kernel
theorem dX10_pays_105 : decode cX10_pays 105 = .ok (.aload_n 0, 1) := by decide +kernel
theorem dX10_pays_106 : decode cX10_pays 106 = .ok (.getfield 158, 3) := by decide +kernel
theorem dX10_pays_109 : decode cX10_pays 109 = .ok (.iload 7, 2) := by decide +kernel
theorem dX10_pays_111 : decode cX10_pays 111 = .ok (.iaload, 1) := by decide +kernel
theorem dX10_pays_112 : decode cX10_pays 112 = .ok (.istore 9, 2) := by decide +kernel
theorem dX10_pays_114 : decode cX10_pays 114 = .ok (.aload_n 0, 1) := by decide +kernel
theorem dX10_pays_115 : decode cX10_pays 115 = .ok (.iload 8, 2) := by decide +kernel
theorem dX10_pays_117 : decode cX10_pays 117 = .ok (.iload 9, 2) := by decide +kernel
theorem dX10_pays_119 : decode cX10_pays 119 = .ok (.invokevirtual 455, 3) := by decide +kernel
theorem dX10_pays_122 : decode cX10_pays 122 = .ok (.ifCond .eq 8, 3) := by decide +kernel
theorem dX10_pays_125 : decode cX10_pays 125 = .ok (.iload 8, 2) := by decide +kernel
theorem dX10_pays_127 : decode cX10_pays 127 = .ok (.goto 5, 3) := by decide +kernel
theorem dX10_pays_130 : decode cX10_pays 130 = .ok (.iload 9, 2) := by decide +kernel
theorem dX10_pays_132 : decode cX10_pays 132 = .ok (.istore 10, 2) := by decide +kernel
theorem dX10_pays_134 : decode cX10_pays 134 = .ok (.iload 6, 2) := by decide +kernel
theorem dX10_pays_136 : decode cX10_pays 136 = .ok (.aload_n 0, 1) := by decide +kernel
theorem dX10_pays_137 : decode cX10_pays 137 = .ok (.getfield 38, 3) := by decide +kernel
theorem dX10_pays_140 : decode cX10_pays 140 = .ok (.bipush 12, 2) := by decide +kernel
theorem dX10_pays_142 : decode cX10_pays 142 = .ok (.iload_n 1, 1) := by decide +kernel
theorem dX10_pays_143 : decode cX10_pays 143 = .ok (.imul, 1) := by decide +kernel
theorem dX10_pays_144 : decode cX10_pays 144 = .ok (.iload 10, 2) := by decide +kernel
theorem dX10_pays_146 : decode cX10_pays 146 = .ok (.iadd, 1) := by decide +kernel
theorem dX10_pays_147 : decode cX10_pays 147 = .ok (.iaload, 1) := by decide +kernel
theorem dX10_pays_148 : decode cX10_pays 148 = .ok (.iload 4, 2) := by decide +kernel
theorem dX10_pays_150 : decode cX10_pays 150 = .ok (.if_icmp .ne 18, 3) := by decide +kernel
theorem dX10_pays_153 : decode cX10_pays 153 = .ok (.aload_n 0, 1) := by decide +kernel
theorem dX10_pays_154 : decode cX10_pays 154 = .ok (.getfield 47, 3) := by decide +kernel
theorem dX10_pays_157 : decode cX10_pays 157 = .ok (.bipush 12, 2) := by decide +kernel
theorem dX10_pays_159 : decode cX10_pays 159 = .ok (.iload_n 1, 1) := by decide +kernel
theorem dX10_pays_160 : decode cX10_pays 160 = .ok (.imul, 1) := by decide +kernel
theorem dX10_pays_161 : decode cX10_pays 161 = .ok (.iload 8, 2) := by decide +kernel
theorem dX10_pays_163 : decode cX10_pays 163 = .ok (.iadd, 1) := by decide +kernel
theorem dX10_pays_164 : decode cX10_pays 164 = .ok (.iaload, 1) := by decide +kernel
theorem dX10_pays_165 : decode cX10_pays 165 = .ok (.goto 4, 3) := by decide +kernel
theorem dX10_pays_168 : decode cX10_pays 168 = .ok (.iconst 0, 1) := by decide +kernel
theorem dX10_pays_169 : decode cX10_pays 169 = .ok (.iadd, 1) := by decide +kernel
theorem dX10_pays_170 : decode cX10_pays 170 = .ok (.istore 6, 2) := by decide +kernel
theorem dX10_pays_172 : decode cX10_pays 172 = .ok (.iinc 7 1, 3) := by decide +kernel
theorem dX10_pays_175 : decode cX10_pays 175 = .ok (.goto (-138), 3) := by decide +kernel
theorem dX10_pays_178 : decode cX10_pays 178 = .ok (.iload 6, 2) := by decide +kernel
theorem dX10_pays_180 : decode cX10_pays 180 = .ok (.ireturn, 1) := by decide +kernel
def rmX10_pays : Room := { frames := 7, cells := 0, slots := 0, locals := 180 }
set_option maxRecDepth 100000 in
def g_X10_pays_172 (th : Nat) (p1 : Int32) (p2 : Int32) (p3 : Int32) (p4 : Int32) (k37 : Int32 → Int32 → Int32 → MM → Option (Int32 × MM)) (x5 : Int32) (x6 : Int32) (x7 : Int32) (m : MM) : Option (Int32 × MM) :=
  k37 x5 x6 (x7 + 1) m
set_option maxHeartbeats 4000000 in
set_option maxRecDepth 100000 in
theorem s_X10_pays_172 {Γ : GX} {E : EX} (C : Cx Γ E cX10_pays RX10 11) (hr : Γ.meth.sig.returnType = (some .int)) (hrm : Γ.rm = rmX10_pays) (th : Nat) (p1 : Int32) (p2 : Int32) (p3 : Int32) (p4 : Int32) (k37 : Int32 → Int32 → Int32 → MM → Option (Int32 × MM)) (h37 : ∀ (x5 : Int32) (x6 : Int32) (x7 : Int32) (m : MM), Sm (QM Γ E emI 0 0) Γ E 11 0 0 37 [(0, va_rf (some th)), (1, .int p1), (2, .int p2), (3, .int p3), (4, .int p4), (5, .int x5), (6, .int x6), (7, .int x7)] [] m (k37 x5 x6 x7 m)) (x5 : Int32) (x6 : Int32) (x7 : Int32) (m : MM) : Sm (QM Γ E emI 0 0) Γ E 11 0 0 172 [(0, va_rf (some th)), (1, .int p1), (2, .int p2), (3, .int p3), (4, .int p4), (5, .int x5), (6, .int x6), (7, .int x7)] [] m (g_X10_pays_172 th p1 p2 p3 p4 k37 x5 x6 x7 m) := by
  unfold g_X10_pays_172
  refine z_iinc (v := 1) (L2 := [(7, .int (x7 + 1)), (0, va_rf (some th)), (1, .int p1), (2, .int p2), (3, .int p3), (4, .int p4), (5, .int x5), (6, .int x6)]) C dX10_pays_172 7 rfl (by decide) (by decide) rfl ?_
  refine z_goto (tgt := 37) C dX10_pays_175 (by decide) ?_
  exact z_sub [1, 2, 3, 4, 5, 6, 7, 0] rfl (h37 x5 x6 (x7 + 1) m)
set_option maxRecDepth 100000 in
def g_X10_pays_169 (th : Nat) (p1 : Int32) (p2 : Int32) (p3 : Int32) (p4 : Int32) (k37 : Int32 → Int32 → Int32 → MM → Option (Int32 × MM)) (x5 : Int32) (x7 : Int32) (s0 : Int32) (s1 : Int32) (m : MM) : Option (Int32 × MM) :=
  bnd (s0 + s1) (fun y1 => g_X10_pays_172 th p1 p2 p3 p4 k37 x5 y1 x7 m)
set_option maxHeartbeats 4000000 in
set_option maxRecDepth 100000 in
theorem s_X10_pays_169 {Γ : GX} {E : EX} (C : Cx Γ E cX10_pays RX10 11) (hr : Γ.meth.sig.returnType = (some .int)) (hrm : Γ.rm = rmX10_pays) (th : Nat) (p1 : Int32) (p2 : Int32) (p3 : Int32) (p4 : Int32) (k37 : Int32 → Int32 → Int32 → MM → Option (Int32 × MM)) (h37 : ∀ (x5 : Int32) (x6 : Int32) (x7 : Int32) (m : MM), Sm (QM Γ E emI 0 0) Γ E 11 0 0 37 [(0, va_rf (some th)), (1, .int p1), (2, .int p2), (3, .int p3), (4, .int p4), (5, .int x5), (6, .int x6), (7, .int x7)] [] m (k37 x5 x6 x7 m)) (x5 : Int32) (x7 : Int32) (s0 : Int32) (s1 : Int32) (m : MM) : Sm (QM Γ E emI 0 0) Γ E 11 0 0 169 [(0, va_rf (some th)), (1, .int p1), (2, .int p2), (3, .int p3), (4, .int p4), (5, .int x5), (7, .int x7)] [.int s1, .int s0] m (g_X10_pays_169 th p1 p2 p3 p4 k37 x5 x7 s0 s1 m) := by
  unfold g_X10_pays_169
  refine z_iadd C dX10_pays_169 ?_
  refine z_bndI (fun y1 => ?_)
  refine z_istore (i := 6) (L2 := [(6, .int y1), (0, va_rf (some th)), (1, .int p1), (2, .int p2), (3, .int p3), (4, .int p4), (5, .int x5), (7, .int x7)]) C dX10_pays_170 (by decide) rfl ?_
  exact z_sub [1, 2, 3, 4, 5, 6, 0, 7] rfl (s_X10_pays_172 C hr hrm th p1 p2 p3 p4 k37 h37 x5 y1 x7 m)
set_option maxRecDepth 100000 in
def g_X10_pays_132 (th : Nat) (p1 : Int32) (p2 : Int32) (p3 : Int32) (p4 : Int32) (k37 : Int32 → Int32 → Int32 → MM → Option (Int32 × MM)) (x5 : Int32) (x6 : Int32) (x7 : Int32) (x8 : Int32) (s0 : Int32) (m : MM) : Option (Int32 × MM) :=
  chk (m.K th = 11) (ck m (m.R 1110 th 0) 22 (fun a1 => chk (inb ((12 * p1) + s0) (m.N a1) = true) (if (m.I 22 a1 (Int32.toNatClampNeg ((12 * p1) + s0))) = p4 then (ck m (m.R 1113 th 0) 22 (fun a2 => chk (inb ((12 * p1) + x8) (m.N a2) = true) (g_X10_pays_169 th p1 p2 p3 p4 k37 x5 x7 x6 (m.I 22 a2 (Int32.toNatClampNeg ((12 * p1) + x8))) m))) else (g_X10_pays_169 th p1 p2 p3 p4 k37 x5 x7 x6 0 m))))
set_option maxHeartbeats 4000000 in
set_option maxRecDepth 100000 in
theorem s_X10_pays_132 {Γ : GX} {E : EX} (C : Cx Γ E cX10_pays RX10 11) (hr : Γ.meth.sig.returnType = (some .int)) (hrm : Γ.rm = rmX10_pays) (th : Nat) (p1 : Int32) (p2 : Int32) (p3 : Int32) (p4 : Int32) (k37 : Int32 → Int32 → Int32 → MM → Option (Int32 × MM)) (h37 : ∀ (x5 : Int32) (x6 : Int32) (x7 : Int32) (m : MM), Sm (QM Γ E emI 0 0) Γ E 11 0 0 37 [(0, va_rf (some th)), (1, .int p1), (2, .int p2), (3, .int p3), (4, .int p4), (5, .int x5), (6, .int x6), (7, .int x7)] [] m (k37 x5 x6 x7 m)) (x5 : Int32) (x6 : Int32) (x7 : Int32) (x8 : Int32) (s0 : Int32) (m : MM) : Sm (QM Γ E emI 0 0) Γ E 11 0 0 132 [(0, va_rf (some th)), (1, .int p1), (2, .int p2), (3, .int p3), (4, .int p4), (5, .int x5), (6, .int x6), (7, .int x7), (8, .int x8)] [.int s0] m (g_X10_pays_132 th p1 p2 p3 p4 k37 x5 x6 x7 x8 s0 m) := by
  unfold g_X10_pays_132
  refine z_istore (i := 10) (L2 := [(10, .int s0), (0, va_rf (some th)), (1, .int p1), (2, .int p2), (3, .int p3), (4, .int p4), (5, .int x5), (6, .int x6), (7, .int x7), (8, .int x8)]) C dX10_pays_132 (by decide) rfl ?_
  refine z_iload C dX10_pays_134 7 rfl ?_
  refine z_aload_n C dX10_pays_136 rfl 1 rfl ?_
  refine z_chk (fun hk1 => ?_)
  refine z_getR C fl_RX10_38 rfl hk1 dX10_pays_137 ?_
  refine z_bipush (v := 12) C dX10_pays_140 (by decide) ?_
  refine z_iload_n C dX10_pays_142 rfl 2 rfl ?_
  refine z_imul C dX10_pays_143 ?_
  refine z_iload C dX10_pays_144 0 rfl ?_
  refine z_iadd C dX10_pays_146 ?_
  refine z_ck (fun a1 hr1 hk2 => ?_)
  refine z_chk (fun hj1 => ?_)
  refine z_iald C hr1 hk2 hj1 dX10_pays_147 ?_
  refine z_iload C dX10_pays_148 5 rfl ?_
  refine z_icmp_ne (tgt := 168) C dX10_pays_150 (by decide) (fun c1 => ?_) (fun c1 => ?_)
  · refine z_iconst (v := 0) C dX10_pays_168 (by decide) ?_
    exact z_sub [1, 2, 3, 4, 5, 6, 8] rfl (s_X10_pays_169 C hr hrm th p1 p2 p3 p4 k37 h37 x5 x7 x6 0 m)
  · refine z_aload_n C dX10_pays_153 rfl 1 rfl ?_
    refine z_getR C fl_RX10_47 rfl hk1 dX10_pays_154 ?_
    refine z_bipush (v := 12) C dX10_pays_157 (by decide) ?_
    refine z_iload_n C dX10_pays_159 rfl 2 rfl ?_
    refine z_imul C dX10_pays_160 ?_
    refine z_iload C dX10_pays_161 9 rfl ?_
    refine z_iadd C dX10_pays_163 ?_
    refine z_ck (fun a2 hr2 hk3 => ?_)
    refine z_chk (fun hj2 => ?_)
    refine z_iald C hr2 hk3 hj2 dX10_pays_164 ?_
    refine z_goto (tgt := 169) C dX10_pays_165 (by decide) ?_
    exact z_sub [1, 2, 3, 4, 5, 6, 8] rfl (s_X10_pays_169 C hr hrm th p1 p2 p3 p4 k37 h37 x5 x7 x6 (m.I 22 a2 (Int32.toNatClampNeg ((12 * p1) + x8))) m)
set_option maxRecDepth 100000 in
def g_X10_pays_112 (th : Nat) (p1 : Int32) (p2 : Int32) (p3 : Int32) (p4 : Int32) (k37 : Int32 → Int32 → Int32 → MM → Option (Int32 × MM)) (x5 : Int32) (x6 : Int32) (x7 : Int32) (x8 : Int32) (s0 : Int32) (m : MM) : Option (Int32 × MM) :=
  chk (m.K th = 11) (cal (f_X10_isLater th x8 s0 m) (fun r1 m1 => if r1 = 0 then (g_X10_pays_132 th p1 p2 p3 p4 k37 x5 x6 x7 x8 s0 m1) else (g_X10_pays_132 th p1 p2 p3 p4 k37 x5 x6 x7 x8 x8 m1)))
set_option maxHeartbeats 4000000 in
set_option maxRecDepth 100000 in
theorem s_X10_pays_112 {Γ : GX} {E : EX} (C : Cx Γ E cX10_pays RX10 11) (hr : Γ.meth.sig.returnType = (some .int)) (hrm : Γ.rm = rmX10_pays) (th : Nat) (p1 : Int32) (p2 : Int32) (p3 : Int32) (p4 : Int32) (k37 : Int32 → Int32 → Int32 → MM → Option (Int32 × MM)) (h37 : ∀ (x5 : Int32) (x6 : Int32) (x7 : Int32) (m : MM), Sm (QM Γ E emI 0 0) Γ E 11 0 0 37 [(0, va_rf (some th)), (1, .int p1), (2, .int p2), (3, .int p3), (4, .int p4), (5, .int x5), (6, .int x6), (7, .int x7)] [] m (k37 x5 x6 x7 m)) (x5 : Int32) (x6 : Int32) (x7 : Int32) (x8 : Int32) (s0 : Int32) (m : MM) : Sm (QM Γ E emI 0 0) Γ E 11 0 0 112 [(0, va_rf (some th)), (1, .int p1), (2, .int p2), (3, .int p3), (4, .int p4), (5, .int x5), (6, .int x6), (7, .int x7), (8, .int x8)] [.int s0] m (g_X10_pays_112 th p1 p2 p3 p4 k37 x5 x6 x7 x8 s0 m) := by
  unfold g_X10_pays_112
  refine z_istore (i := 9) (L2 := [(9, .int s0), (0, va_rf (some th)), (1, .int p1), (2, .int p2), (3, .int p3), (4, .int p4), (5, .int x5), (6, .int x6), (7, .int x7), (8, .int x8)]) C dX10_pays_112 (by decide) rfl ?_
  refine z_aload_n C dX10_pays_114 rfl 1 rfl ?_
  refine z_iload C dX10_pays_115 9 rfl ?_
  refine z_iload C dX10_pays_117 0 rfl ?_
  refine z_chk (fun hk4 => ?_)
  refine z_cVI [.int x8, .int s0] [] C mv_RX10_455 (fun r0 m0 h0 => M_X10_isLater _ _ _ _ _ _ _ _ h0) rfl rfl ⟨by rw [hrm]; exact Nat.le_of_ble_eq_true rfl, by rw [hrm]; exact Nat.le_of_ble_eq_true rfl⟩ ⟨by rw [hrm]; exact Nat.le_of_ble_eq_true rfl, by rw [hrm]; exact Nat.le_of_ble_eq_true rfl⟩ rfl hk4 rfl rfl rfl (Nat.le_of_ble_eq_true rfl) dX10_pays_119 (fun r1 m1 => ?_)
  refine z_if_eq (tgt := 130) C dX10_pays_122 (by decide) (fun c2 => ?_) (fun c2 => ?_)
  · refine z_iload C dX10_pays_130 0 rfl ?_
    exact z_sub [1, 2, 3, 4, 5, 6, 7, 8, 9] rfl (s_X10_pays_132 C hr hrm th p1 p2 p3 p4 k37 h37 x5 x6 x7 x8 s0 m1)
  · refine z_iload C dX10_pays_125 9 rfl ?_
    refine z_goto (tgt := 132) C dX10_pays_127 (by decide) ?_
    exact z_sub [1, 2, 3, 4, 5, 6, 7, 8, 9] rfl (s_X10_pays_132 C hr hrm th p1 p2 p3 p4 k37 h37 x5 x6 x7 x8 x8 m1)
set_option maxRecDepth 100000 in
def g_X10_pays_37 (th : Nat) (p1 : Int32) (p2 : Int32) (p3 : Int32) (p4 : Int32) (k37 : Int32 → Int32 → Int32 → MM → Option (Int32 × MM)) (x5 : Int32) (x6 : Int32) (x7 : Int32) (m : MM) : Option (Int32 × MM) :=
  chk (m.K th = 11) (if (m.I 1174 th 0) ≤ x7 then (some (x6, m)) else (cal (f_X10_goer th p2 x7 m) (fun r2 m2 => if r2 = (-1) then (g_X10_pays_172 th p1 p2 p3 p4 k37 x5 x6 x7 m2) else (if ((x5 >>> (r2 &&& 31)) &&& 1) = 0 then (bnd (x5 ||| (1 <<< (r2 &&& 31))) (fun y2 => chk (m2.K th = 11) (ck m2 (m2.R 1171 th 0) 22 (fun a3 => chk (inb x7 (m2.N a3) = true) (if r2 = (m2.I 22 a3 (Int32.toNatClampNeg x7)) then (ck m2 (m2.R 1172 th 0) 22 (fun a4 => chk (inb x7 (m2.N a4) = true) (g_X10_pays_112 th p1 p2 p3 p4 k37 y2 x6 x7 r2 (m2.I 22 a4 (Int32.toNatClampNeg x7)) m2))) else (chk (inb x7 (m2.N a3) = true) (g_X10_pays_112 th p1 p2 p3 p4 k37 y2 x6 x7 r2 (m2.I 22 a3 (Int32.toNatClampNeg x7)) m2))))))) else (g_X10_pays_172 th p1 p2 p3 p4 k37 x5 x6 x7 m2)))))
set_option maxHeartbeats 4000000 in
set_option maxRecDepth 100000 in
theorem s_X10_pays_37 {Γ : GX} {E : EX} (C : Cx Γ E cX10_pays RX10 11) (hr : Γ.meth.sig.returnType = (some .int)) (hrm : Γ.rm = rmX10_pays) (th : Nat) (p1 : Int32) (p2 : Int32) (p3 : Int32) (p4 : Int32) (k37 : Int32 → Int32 → Int32 → MM → Option (Int32 × MM)) (h37 : ∀ (x5 : Int32) (x6 : Int32) (x7 : Int32) (m : MM), Sm (QM Γ E emI 0 0) Γ E 11 0 0 37 [(0, va_rf (some th)), (1, .int p1), (2, .int p2), (3, .int p3), (4, .int p4), (5, .int x5), (6, .int x6), (7, .int x7)] [] m (k37 x5 x6 x7 m)) (x5 : Int32) (x6 : Int32) (x7 : Int32) (m : MM) : Sm (QM Γ E emI 0 0) Γ E 11 0 0 37 [(0, va_rf (some th)), (1, .int p1), (2, .int p2), (3, .int p3), (4, .int p4), (5, .int x5), (6, .int x6), (7, .int x7)] [] m (g_X10_pays_37 th p1 p2 p3 p4 k37 x5 x6 x7 m) := by
  unfold g_X10_pays_37
  refine z_iload C dX10_pays_37 7 rfl ?_
  refine z_aload_n C dX10_pays_39 rfl 0 rfl ?_
  refine z_chk (fun hk5 => ?_)
  refine z_getI C fl_RX10_443 rfl hk5 dX10_pays_40 ?_
  refine z_icmp_ge (tgt := 178) C dX10_pays_43 (by decide) (fun c3 => ?_) (fun c3 => ?_)
  · refine z_iload C dX10_pays_178 6 rfl ?_
    exact z_iret C hr dX10_pays_180
  · refine z_aload_n C dX10_pays_46 rfl 0 rfl ?_
    refine z_iload_n C dX10_pays_47 rfl 2 rfl ?_
    refine z_iload C dX10_pays_48 7 rfl ?_
    refine z_cVI [.int p2, .int x7] [] C mv_RX10_467 (fun r0 m0 h0 => M_X10_goer _ _ _ _ _ _ _ _ h0) rfl rfl ⟨by rw [hrm]; exact Nat.le_of_ble_eq_true rfl, by rw [hrm]; exact Nat.le_of_ble_eq_true rfl⟩ ⟨by rw [hrm]; exact Nat.le_of_ble_eq_true rfl, by rw [hrm]; exact Nat.le_of_ble_eq_true rfl⟩ rfl hk5 rfl rfl rfl (Nat.le_of_ble_eq_true rfl) dX10_pays_50 (fun r2 m2 => ?_)
    refine z_istore (i := 8) (L2 := [(8, .int r2), (0, va_rf (some th)), (1, .int p1), (2, .int p2), (3, .int p3), (4, .int p4), (5, .int x5), (6, .int x6), (7, .int x7)]) C dX10_pays_53 (by decide) rfl ?_
    refine z_iload C dX10_pays_55 0 rfl ?_
    refine z_iconst (v := (-1)) C dX10_pays_57 (by decide) ?_
    refine z_icmp_eq (tgt := 172) C dX10_pays_58 (by decide) (fun c4 => ?_) (fun c4 => ?_)
    · exact z_sub [1, 2, 3, 4, 5, 6, 7, 8] rfl (s_X10_pays_172 C hr hrm th p1 p2 p3 p4 k37 h37 x5 x6 x7 m2)
    · refine z_iload C dX10_pays_61 6 rfl ?_
      refine z_iload C dX10_pays_63 0 rfl ?_
      refine z_ishr C dX10_pays_65 ?_
      refine z_iconst (v := 1) C dX10_pays_66 (by decide) ?_
      refine z_iand C dX10_pays_67 ?_
      refine z_if_eq (tgt := 74) C dX10_pays_68 (by decide) (fun c5 => ?_) (fun c5 => ?_)
      · refine z_iload C dX10_pays_74 6 rfl ?_
        refine z_iconst (v := 1) C dX10_pays_76 (by decide) ?_
        refine z_iload C dX10_pays_77 0 rfl ?_
        refine z_ishl C dX10_pays_79 ?_
        refine z_ior C dX10_pays_80 ?_
        refine z_bndI (fun y2 => ?_)
        refine z_istore (i := 5) (L2 := [(5, .int y2), (8, .int r2), (0, va_rf (some th)), (1, .int p1), (2, .int p2), (3, .int p3), (4, .int p4), (6, .int x6), (7, .int x7)]) C dX10_pays_81 (by decide) rfl ?_
        refine z_iload C dX10_pays_83 1 rfl ?_
        refine z_aload_n C dX10_pays_85 rfl 2 rfl ?_
        refine z_chk (fun hk6 => ?_)
        refine z_getR C fl_RX10_158 rfl hk6 dX10_pays_86 ?_
        refine z_iload C dX10_pays_89 8 rfl ?_
        refine z_ck (fun a3 hr3 hk7 => ?_)
        refine z_chk (fun hj3 => ?_)
        refine z_iald C hr3 hk7 hj3 dX10_pays_91 ?_
        refine z_icmp_ne (tgt := 105) C dX10_pays_92 (by decide) (fun c6 => ?_) (fun c6 => ?_)
        · refine z_aload_n C dX10_pays_105 rfl 2 rfl ?_
          refine z_getR C fl_RX10_158 rfl hk6 dX10_pays_106 ?_
          refine z_iload C dX10_pays_109 8 rfl ?_
          refine z_chk (fun hj4 => ?_)
          refine z_iald C hr3 hk7 hj4 dX10_pays_111 ?_
          exact z_sub [2, 3, 4, 5, 6, 0, 7, 8, 1] rfl (s_X10_pays_112 C hr hrm th p1 p2 p3 p4 k37 h37 y2 x6 x7 r2 (m2.I 22 a3 (Int32.toNatClampNeg x7)) m2)
        · refine z_aload_n C dX10_pays_95 rfl 2 rfl ?_
          refine z_getR C fl_RX10_161 rfl hk6 dX10_pays_96 ?_
          refine z_iload C dX10_pays_99 8 rfl ?_
          refine z_ck (fun a4 hr4 hk8 => ?_)
          refine z_chk (fun hj5 => ?_)
          refine z_iald C hr4 hk8 hj5 dX10_pays_101 ?_
          refine z_goto (tgt := 112) C dX10_pays_102 (by decide) ?_
          exact z_sub [2, 3, 4, 5, 6, 0, 7, 8, 1] rfl (s_X10_pays_112 C hr hrm th p1 p2 p3 p4 k37 h37 y2 x6 x7 r2 (m2.I 22 a4 (Int32.toNatClampNeg x7)) m2)
      · refine z_goto (tgt := 172) C dX10_pays_71 (by decide) ?_
        exact z_sub [1, 2, 3, 4, 5, 6, 7, 8] rfl (s_X10_pays_172 C hr hrm th p1 p2 p3 p4 k37 h37 x5 x6 x7 m2)
def l_X10_pays_37 (th : Nat) (p1 : Int32) (p2 : Int32) (p3 : Int32) (p4 : Int32) : Nat → Int32 → Int32 → Int32 → MM → Option (Int32 × MM) := lp (fun _ _ _ _ => none) (fun k37 => g_X10_pays_37 th p1 p2 p3 p4 k37)
theorem t_X10_pays_37 {Γ : GX} {E : EX} (C : Cx Γ E cX10_pays RX10 11) (hr : Γ.meth.sig.returnType = (some .int)) (hrm : Γ.rm = rmX10_pays) (th : Nat) (p1 : Int32) (p2 : Int32) (p3 : Int32) (p4 : Int32) : ∀ (n : Nat) (x5 : Int32) (x6 : Int32) (x7 : Int32) (m : MM), Sm (QM Γ E emI 0 0) Γ E 11 0 0 37 [(0, va_rf (some th)), (1, .int p1), (2, .int p2), (3, .int p3), (4, .int p4), (5, .int x5), (6, .int x6), (7, .int x7)] [] m (l_X10_pays_37 th p1 p2 p3 p4 n x5 x6 x7 m) := by
  intro n
  induction n with
  | zero => intros; exact z_none
  | succ n ih => intro x5 x6 x7 m; exact s_X10_pays_37 C hr hrm th p1 p2 p3 p4 (l_X10_pays_37 th p1 p2 p3 p4 n) ih x5 x6 x7 m
set_option maxRecDepth 100000 in
def g_X10_pays_0 (th : Nat) (p1 : Int32) (p2 : Int32) (p3 : Int32) (p4 : Int32) (m : MM) : Option (Int32 × MM) :=
  chk (m.K th = 11) (bnd (m.sI 1100 th 0 0) (fun m3 => cal (f_X10_in p4 0 7 m3) (fun r3 m4 => if r3 = 0 then (some ((-1), m4)) else (chk (m4.K th = 11) (cal (f_X10_bringBars th p1 p2 p3 m4) (fun r4 m5 => if r4 = 0 then (some ((-1), m5)) else (l_X10_pays_37 th p1 p2 p3 p4 FU 0 0 0 m5)))))))
set_option maxHeartbeats 4000000 in
set_option maxRecDepth 100000 in
theorem s_X10_pays_0 {Γ : GX} {E : EX} (C : Cx Γ E cX10_pays RX10 11) (hr : Γ.meth.sig.returnType = (some .int)) (hrm : Γ.rm = rmX10_pays) (th : Nat) (p1 : Int32) (p2 : Int32) (p3 : Int32) (p4 : Int32) (m : MM) : Sm (QM Γ E emI 0 0) Γ E 11 0 0 0 [(0, va_rf (some th)), (1, .int p1), (2, .int p2), (3, .int p3), (4, .int p4)] [] m (g_X10_pays_0 th p1 p2 p3 p4 m) := by
  unfold g_X10_pays_0
  refine z_aload_n C dX10_pays_0 rfl 0 rfl ?_
  refine z_iconst (v := 0) C dX10_pays_1 (by decide) ?_
  refine z_chk (fun hk9 => ?_)
  refine z_putI C fl_RX10_180 (fun h => by cases h) rfl hk9 rfl rfl dX10_pays_2 (fun m3 eK1 eN1 => ?_)
  refine z_iload C dX10_pays_5 4 rfl ?_
  refine z_iconst (v := 0) C dX10_pays_7 (by decide) ?_
  refine z_bipush (v := 7) C dX10_pays_8 (by decide) ?_
  refine z_cSI [.int p4, .int 0, .int 7] [] C mv_RX10_188 (fun r0 m0 h0 => M_X10_in _ _ _ _ _ _ _ _ h0) rfl rfl ⟨by rw [hrm]; exact Nat.le_of_ble_eq_true rfl, by rw [hrm]; exact Nat.le_of_ble_eq_true rfl⟩ ⟨by rw [hrm]; exact Nat.le_of_ble_eq_true rfl, by rw [hrm]; exact Nat.le_of_ble_eq_true rfl⟩ rfl rfl (Nat.le_of_ble_eq_true rfl) dX10_pays_10 (fun r3 m4 => ?_)
  refine z_if_eq (tgt := 26) C dX10_pays_13 (by decide) (fun c7 => ?_) (fun c7 => ?_)
  · refine z_iconst (v := (-1)) C dX10_pays_26 (by decide) ?_
    exact z_iret C hr dX10_pays_27
  · refine z_aload_n C dX10_pays_16 rfl 0 rfl ?_
    refine z_iload_n C dX10_pays_17 rfl 1 rfl ?_
    refine z_iload_n C dX10_pays_18 rfl 2 rfl ?_
    refine z_iload_n C dX10_pays_19 rfl 3 rfl ?_
    refine z_chk (fun hk10 => ?_)
    refine z_cVI [.int p1, .int p2, .int p3] [] C mv_RX10_452 (fun r0 m0 h0 => M_X10_bringBars _ _ _ _ _ _ _ _ _ h0) rfl rfl ⟨by rw [hrm]; exact Nat.le_of_ble_eq_true rfl, by rw [hrm]; exact Nat.le_of_ble_eq_true rfl⟩ ⟨by rw [hrm]; exact Nat.le_of_ble_eq_true rfl, by rw [hrm]; exact Nat.le_of_ble_eq_true rfl⟩ rfl hk10 rfl rfl rfl (Nat.le_of_ble_eq_true rfl) dX10_pays_20 (fun r4 m5 => ?_)
    refine z_if_ne (tgt := 28) C dX10_pays_23 (by decide) (fun c8 => ?_) (fun c8 => ?_)
    · refine z_iconst (v := 0) C dX10_pays_28 (by decide) ?_
      refine z_istore (i := 5) (L2 := [(5, .int 0), (0, va_rf (some th)), (1, .int p1), (2, .int p2), (3, .int p3), (4, .int p4)]) C dX10_pays_29 (by decide) rfl ?_
      refine z_iconst (v := 0) C dX10_pays_31 (by decide) ?_
      refine z_istore (i := 6) (L2 := [(6, .int 0), (5, .int 0), (0, va_rf (some th)), (1, .int p1), (2, .int p2), (3, .int p3), (4, .int p4)]) C dX10_pays_32 (by decide) rfl ?_
      refine z_iconst (v := 0) C dX10_pays_34 (by decide) ?_
      refine z_istore (i := 7) (L2 := [(7, .int 0), (6, .int 0), (5, .int 0), (0, va_rf (some th)), (1, .int p1), (2, .int p2), (3, .int p3), (4, .int p4)]) C dX10_pays_35 (by decide) rfl ?_
      exact z_sub [3, 4, 5, 6, 7, 2, 1, 0] rfl (t_X10_pays_37 C hr hrm th p1 p2 p3 p4 FU 0 0 0 m5)
    · refine z_iconst (v := (-1)) C dX10_pays_26 (by decide) ?_
      exact z_iret C hr dX10_pays_27
def f_X10_pays (th : Nat) (p1 : Int32) (p2 : Int32) (p3 : Int32) (p4 : Int32) (m : MM) : Option (Int32 × MM) := g_X10_pays_0 th p1 p2 p3 p4 m
theorem M_X10_pays (l : Launch) (E : EX) (th : Nat) (p1 : Int32) (p2 : Int32) (p3 : Int32) (p4 : Int32) (m : MM) (r : Int32) (m2 : MM) (h : f_X10_pays th p1 p2 p3 p4 m = some (r, m2)) : Met l yX10_pays (.code yX10_pays cX10_pays 11 (some .int) :: TB) rmX10_pays (va_Pc [.ref th, .int p1, .int p2, .int p3, .int p4] (St E m)) (QR E (emI r) m2) 0 0 (AA E) :=
  met_of (em := emI) (plainFor_of_name rfl) (Nat.le_of_ble_eq_true rfl) (L0 := [(0, va_rf (some th)), (1, .int p1), (2, .int p2), (3, .int p3), (4, .int p4)]) rfl (fun Γ _ hrm C hr hn => s_X10_pays_0 C hr hrm th p1 p2 p3 p4 m) h

theorem dX10_first_0 : decode cX10_first 0 = .ok (.aload_n 0, 1) := by decide +kernel
theorem dX10_first_1 : decode cX10_first 1 = .ok (.iconst 0, 1) := by decide +kernel
theorem dX10_first_2 : decode cX10_first 2 = .ok (.putfield 180, 3) := by decide +kernel
theorem dX10_first_5 : decode cX10_first 5 = .ok (.aload_n 0, 1) := by decide +kernel
theorem dX10_first_6 : decode cX10_first 6 = .ok (.iload_n 1, 1) := by decide +kernel
theorem dX10_first_7 : decode cX10_first 7 = .ok (.iload_n 3, 1) := by decide +kernel
theorem dX10_first_8 : decode cX10_first 8 = .ok (.invokevirtual 366, 3) := by decide +kernel
theorem dX10_first_11 : decode cX10_first 11 = .ok (.ifCond .eq 27, 3) := by decide +kernel
theorem dX10_first_14 : decode cX10_first 14 = .ok (.aload_n 0, 1) := by decide +kernel
theorem dX10_first_15 : decode cX10_first 15 = .ok (.iload_n 1, 1) := by decide +kernel
theorem dX10_first_16 : decode cX10_first 16 = .ok (.iload 4, 2) := by decide +kernel
theorem dX10_first_18 : decode cX10_first 18 = .ok (.invokevirtual 366, 3) := by decide +kernel
theorem dX10_first_21 : decode cX10_first 21 = .ok (.ifCond .eq 17, 3) := by decide +kernel
theorem dX10_first_24 : decode cX10_first 24 = .ok (.iload_n 3, 1) := by decide +kernel
theorem dX10_first_25 : decode cX10_first 25 = .ok (.iload 4, 2) := by decide +kernel
theorem dX10_first_27 : decode cX10_first 27 = .ok (.if_icmp .eq 11, 3) := by decide +kernel
theorem dX10_first_30 : decode cX10_first 30 = .ok (.aload_n 0, 1) := by decide +kernel
theorem dX10_first_31 : decode cX10_first 31 = .ok (.iload_n 2, 1) := by decide +kernel
theorem dX10_first_32 : decode cX10_first 32 = .ok (.invokevirtual 360, 3) := by decide +kernel
theorem dX10_first_35 : decode cX10_first 35 = .ok (.ifCond .ne 5, 3) := by decide +kernel
theorem dX10_first_38 : decode cX10_first 38 = .ok (.iconst (-1), 1) := by decide +kernel
theorem dX10_first_39 : decode cX10_first 39 = .ok (.ireturn, 1) := by decide +kernel
theorem dX10_first_40 : decode cX10_first 40 = .ok (.iconst 0, 1) := by decide +kernel
theorem dX10_first_41 : decode cX10_first 41 = .ok (.istore 5, 2) := by decide +kernel
theorem dX10_first_43 : decode cX10_first 43 = .ok (.iload 5, 2) := by decide +kernel
theorem dX10_first_45 : decode cX10_first 45 = .ok (.sipush 999, 3) := by decide +kernel
theorem dX10_first_48 : decode cX10_first 48 = .ok (.if_icmp .gt 48, 3) := by decide +kernel
theorem dX10_first_51 : decode cX10_first 51 = .ok (.aload_n 0, 1) := by decide +kernel
theorem dX10_first_52 : decode cX10_first 52 = .ok (.iload_n 1, 1) := by decide +kernel
theorem dX10_first_53 : decode cX10_first 53 = .ok (.iload 5, 2) := by decide +kernel
theorem dX10_first_55 : decode cX10_first 55 = .ok (.invokevirtual 393, 3) := by decide +kernel
theorem dX10_first_58 : decode cX10_first 58 = .ok (.aload_n 0, 1) := by decide +kernel
theorem dX10_first_59 : decode cX10_first 59 = .ok (.iload_n 3, 1) := by decide +kernel
theorem dX10_first_60 : decode cX10_first 60 = .ok (.invokevirtual 446, 3) := by decide +kernel
theorem dX10_first_63 : decode cX10_first 63 = .ok (.ifCond .eq 27, 3) := by decide +kernel
theorem dX10_first_66 : decode cX10_first 66 = .ok (.aload_n 0, 1) := by decide +kernel
theorem dX10_first_67 : decode cX10_first 67 = .ok (.iload 4, 2) := by decide +kernel
theorem dX10_first_69 : decode cX10_first 69 = .ok (.invokevirtual 446, 3) := by decide +kernel
theorem dX10_first_72 : decode cX10_first 72 = .ok (.ifCond .eq 18, 3) := by decide +kernel
theorem dX10_first_75 : decode cX10_first 75 = .ok (.aload_n 0, 1) := by decide +kernel
theorem dX10_first_76 : decode cX10_first 76 = .ok (.iload_n 2, 1) := by decide +kernel
theorem dX10_first_77 : decode cX10_first 77 = .ok (.iload_n 3, 1) := by decide +kernel
theorem dX10_first_78 : decode cX10_first 78 = .ok (.iload 4, 2) := by decide +kernel
theorem dX10_first_80 : decode cX10_first 80 = .ok (.iconst (-1), 1) := by decide +kernel
theorem dX10_first_81 : decode cX10_first 81 = .ok (.invokevirtual 470, 3) := by decide +kernel
theorem dX10_first_84 : decode cX10_first 84 = .ok (.ifCond .eq 6, 3) := by decide +kernel
theorem dX10_first_87 : decode cX10_first 87 = .ok (.iload 5, 2) := by decide +kernel
theorem dX10_first_89 : decode cX10_first 89 = .ok (.ireturn, 1) := by decide +kernel
theorem dX10_first_90 : decode cX10_first 90 = .ok (.iinc 5 1, 3) := by decide +kernel
theorem dX10_first_93 : decode cX10_first 93 = .ok (.goto (-50), 3) := by decide +kernel
theorem dX10_first_96 : decode cX10_first 96 = .ok (.iconst (-1), 1) := by decide +kernel
theorem dX10_first_97 : decode cX10_first 97 = .ok (.ireturn, 1) := by decide +kernel
def rmX10_first : Room := { frames := 6, cells := 0, slots := 0, locals := 158 }
set_option maxRecDepth 100000 in
def g_X10_first_90 (th : Nat) (p1 : Int32) (p2 : Int32) (p3 : Int32) (p4 : Int32) (k43 : Int32 → MM → Option (Int32 × MM)) (x5 : Int32) (m : MM) : Option (Int32 × MM) :=
  k43 (x5 + 1) m
set_option maxHeartbeats 4000000 in
set_option maxRecDepth 100000 in
theorem s_X10_first_90 {Γ : GX} {E : EX} (C : Cx Γ E cX10_first RX10 6) (hr : Γ.meth.sig.returnType = (some .int)) (hrm : Γ.rm = rmX10_first) (th : Nat) (p1 : Int32) (p2 : Int32) (p3 : Int32) (p4 : Int32) (k43 : Int32 → MM → Option (Int32 × MM)) (h43 : ∀ (x5 : Int32) (m : MM), Sm (QM Γ E emI 0 0) Γ E 6 0 0 43 [(0, va_rf (some th)), (1, .int p1), (2, .int p2), (3, .int p3), (4, .int p4), (5, .int x5)] [] m (k43 x5 m)) (x5 : Int32) (m : MM) : Sm (QM Γ E emI 0 0) Γ E 6 0 0 90 [(0, va_rf (some th)), (1, .int p1), (2, .int p2), (3, .int p3), (4, .int p4), (5, .int x5)] [] m (g_X10_first_90 th p1 p2 p3 p4 k43 x5 m) := by
  unfold g_X10_first_90
  refine z_iinc (v := 1) (L2 := [(5, .int (x5 + 1)), (0, va_rf (some th)), (1, .int p1), (2, .int p2), (3, .int p3), (4, .int p4)]) C dX10_first_90 5 rfl (by decide) (by decide) rfl ?_
  refine z_goto (tgt := 43) C dX10_first_93 (by decide) ?_
  exact z_sub [1, 2, 3, 4, 5, 0] rfl (h43 (x5 + 1) m)
set_option maxRecDepth 100000 in
def g_X10_first_43 (th : Nat) (p1 : Int32) (p2 : Int32) (p3 : Int32) (p4 : Int32) (k43 : Int32 → MM → Option (Int32 × MM)) (x5 : Int32) (m : MM) : Option (Int32 × MM) :=
  if 999 < x5 then (some ((-1), m)) else (chk (m.K th = 11) (cal (f_X10_bring th p1 x5 m) (fun r1 m1 => chk (m1.K th = 11) (cal (f_X10_stands th p3 m1) (fun r2 m2 => if r2 = 0 then (g_X10_first_90 th p1 p2 p3 p4 k43 x5 m2) else (chk (m2.K th = 11) (cal (f_X10_stands th p4 m2) (fun r3 m3 => if r3 = 0 then (g_X10_first_90 th p1 p2 p3 p4 k43 x5 m3) else (chk (m3.K th = 11) (cal (f_X10_barsBoth th p2 p3 p4 (-1) m3) (fun r4 m4 => if r4 = 0 then (g_X10_first_90 th p1 p2 p3 p4 k43 x5 m4) else (some (x5, m4)))))))))))))
set_option maxHeartbeats 4000000 in
set_option maxRecDepth 100000 in
theorem s_X10_first_43 {Γ : GX} {E : EX} (C : Cx Γ E cX10_first RX10 6) (hr : Γ.meth.sig.returnType = (some .int)) (hrm : Γ.rm = rmX10_first) (th : Nat) (p1 : Int32) (p2 : Int32) (p3 : Int32) (p4 : Int32) (k43 : Int32 → MM → Option (Int32 × MM)) (h43 : ∀ (x5 : Int32) (m : MM), Sm (QM Γ E emI 0 0) Γ E 6 0 0 43 [(0, va_rf (some th)), (1, .int p1), (2, .int p2), (3, .int p3), (4, .int p4), (5, .int x5)] [] m (k43 x5 m)) (x5 : Int32) (m : MM) : Sm (QM Γ E emI 0 0) Γ E 6 0 0 43 [(0, va_rf (some th)), (1, .int p1), (2, .int p2), (3, .int p3), (4, .int p4), (5, .int x5)] [] m (g_X10_first_43 th p1 p2 p3 p4 k43 x5 m) := by
  unfold g_X10_first_43
  refine z_iload C dX10_first_43 5 rfl ?_
  refine z_sipush (v := 999) C dX10_first_45 (by decide) ?_
  refine z_icmp_gt (tgt := 96) C dX10_first_48 (by decide) (fun c1 => ?_) (fun c1 => ?_)
  · refine z_iconst (v := (-1)) C dX10_first_96 (by decide) ?_
    exact z_iret C hr dX10_first_97
  · refine z_aload_n C dX10_first_51 rfl 0 rfl ?_
    refine z_iload_n C dX10_first_52 rfl 1 rfl ?_
    refine z_iload C dX10_first_53 5 rfl ?_
    refine z_chk (fun hk1 => ?_)
    refine z_cVV [.int p1, .int x5] [] C mv_RX10_393 (fun r0 m0 h0 => M_X10_bring _ _ _ _ _ _ _ _ h0) rfl rfl ⟨by rw [hrm]; exact Nat.le_of_ble_eq_true rfl, by rw [hrm]; exact Nat.le_of_ble_eq_true rfl⟩ ⟨by rw [hrm]; exact Nat.le_of_ble_eq_true rfl, by rw [hrm]; exact Nat.le_of_ble_eq_true rfl⟩ rfl hk1 rfl rfl rfl (Nat.le_of_ble_eq_true rfl) dX10_first_55 (fun r1 m1 => ?_)
    refine z_aload_n C dX10_first_58 rfl 0 rfl ?_
    refine z_iload_n C dX10_first_59 rfl 3 rfl ?_
    refine z_chk (fun hk2 => ?_)
    refine z_cVI [.int p3] [] C mv_RX10_446 (fun r0 m0 h0 => M_X10_stands _ _ _ _ _ _ _ h0) rfl rfl ⟨by rw [hrm]; exact Nat.le_of_ble_eq_true rfl, by rw [hrm]; exact Nat.le_of_ble_eq_true rfl⟩ ⟨by rw [hrm]; exact Nat.le_of_ble_eq_true rfl, by rw [hrm]; exact Nat.le_of_ble_eq_true rfl⟩ rfl hk2 rfl rfl rfl (Nat.le_of_ble_eq_true rfl) dX10_first_60 (fun r2 m2 => ?_)
    refine z_if_eq (tgt := 90) C dX10_first_63 (by decide) (fun c2 => ?_) (fun c2 => ?_)
    · exact z_sub [0, 1, 2, 3, 4, 5] rfl (s_X10_first_90 C hr hrm th p1 p2 p3 p4 k43 h43 x5 m2)
    · refine z_aload_n C dX10_first_66 rfl 0 rfl ?_
      refine z_iload C dX10_first_67 4 rfl ?_
      refine z_chk (fun hk3 => ?_)
      refine z_cVI [.int p4] [] C mv_RX10_446 (fun r0 m0 h0 => M_X10_stands _ _ _ _ _ _ _ h0) rfl rfl ⟨by rw [hrm]; exact Nat.le_of_ble_eq_true rfl, by rw [hrm]; exact Nat.le_of_ble_eq_true rfl⟩ ⟨by rw [hrm]; exact Nat.le_of_ble_eq_true rfl, by rw [hrm]; exact Nat.le_of_ble_eq_true rfl⟩ rfl hk3 rfl rfl rfl (Nat.le_of_ble_eq_true rfl) dX10_first_69 (fun r3 m3 => ?_)
      refine z_if_eq (tgt := 90) C dX10_first_72 (by decide) (fun c3 => ?_) (fun c3 => ?_)
      · exact z_sub [0, 1, 2, 3, 4, 5] rfl (s_X10_first_90 C hr hrm th p1 p2 p3 p4 k43 h43 x5 m3)
      · refine z_aload_n C dX10_first_75 rfl 0 rfl ?_
        refine z_iload_n C dX10_first_76 rfl 2 rfl ?_
        refine z_iload_n C dX10_first_77 rfl 3 rfl ?_
        refine z_iload C dX10_first_78 4 rfl ?_
        refine z_iconst (v := (-1)) C dX10_first_80 (by decide) ?_
        refine z_chk (fun hk4 => ?_)
        refine z_cVI [.int p2, .int p3, .int p4, .int (-1)] [] C mv_RX10_470 (fun r0 m0 h0 => M_X10_barsBoth _ _ _ _ _ _ _ _ _ _ h0) rfl rfl ⟨by rw [hrm]; exact Nat.le_of_ble_eq_true rfl, by rw [hrm]; exact Nat.le_of_ble_eq_true rfl⟩ ⟨by rw [hrm]; exact Nat.le_of_ble_eq_true rfl, by rw [hrm]; exact Nat.le_of_ble_eq_true rfl⟩ rfl hk4 rfl rfl rfl (Nat.le_of_ble_eq_true rfl) dX10_first_81 (fun r4 m4 => ?_)
        refine z_if_eq (tgt := 90) C dX10_first_84 (by decide) (fun c4 => ?_) (fun c4 => ?_)
        · exact z_sub [0, 1, 2, 3, 4, 5] rfl (s_X10_first_90 C hr hrm th p1 p2 p3 p4 k43 h43 x5 m4)
        · refine z_iload C dX10_first_87 5 rfl ?_
          exact z_iret C hr dX10_first_89
def l_X10_first_43 (th : Nat) (p1 : Int32) (p2 : Int32) (p3 : Int32) (p4 : Int32) : Nat → Int32 → MM → Option (Int32 × MM) := lp (fun _ _ => none) (fun k43 => g_X10_first_43 th p1 p2 p3 p4 k43)
theorem t_X10_first_43 {Γ : GX} {E : EX} (C : Cx Γ E cX10_first RX10 6) (hr : Γ.meth.sig.returnType = (some .int)) (hrm : Γ.rm = rmX10_first) (th : Nat) (p1 : Int32) (p2 : Int32) (p3 : Int32) (p4 : Int32) : ∀ (n : Nat) (x5 : Int32) (m : MM), Sm (QM Γ E emI 0 0) Γ E 6 0 0 43 [(0, va_rf (some th)), (1, .int p1), (2, .int p2), (3, .int p3), (4, .int p4), (5, .int x5)] [] m (l_X10_first_43 th p1 p2 p3 p4 n x5 m) := by
  intro n
  induction n with
  | zero => intros; exact z_none
  | succ n ih => intro x5 m; exact s_X10_first_43 C hr hrm th p1 p2 p3 p4 (l_X10_first_43 th p1 p2 p3 p4 n) ih x5 m
set_option maxRecDepth 100000 in
def g_X10_first_0 (th : Nat) (p1 : Int32) (p2 : Int32) (p3 : Int32) (p4 : Int32) (m : MM) : Option (Int32 × MM) :=
  chk (m.K th = 11) (bnd (m.sI 1100 th 0 0) (fun m5 => cal (f_X10_isThing th p1 p3 m5) (fun r5 m6 => if r5 = 0 then (some ((-1), m6)) else (chk (m6.K th = 11) (cal (f_X10_isThing th p1 p4 m6) (fun r6 m7 => if r6 = 0 then (some ((-1), m7)) else (if p3 = p4 then (some ((-1), m7)) else (chk (m7.K th = 11) (cal (f_X10_isLaw th p2 m7) (fun r7 m8 => if r7 = 0 then (some ((-1), m8)) else (l_X10_first_43 th p1 p2 p3 p4 FU 0 m8)))))))))))
set_option maxHeartbeats 4000000 in
set_option maxRecDepth 100000 in
theorem s_X10_first_0 {Γ : GX} {E : EX} (C : Cx Γ E cX10_first RX10 6) (hr : Γ.meth.sig.returnType = (some .int)) (hrm : Γ.rm = rmX10_first) (th : Nat) (p1 : Int32) (p2 : Int32) (p3 : Int32) (p4 : Int32) (m : MM) : Sm (QM Γ E emI 0 0) Γ E 6 0 0 0 [(0, va_rf (some th)), (1, .int p1), (2, .int p2), (3, .int p3), (4, .int p4)] [] m (g_X10_first_0 th p1 p2 p3 p4 m) := by
  unfold g_X10_first_0
  refine z_aload_n C dX10_first_0 rfl 0 rfl ?_
  refine z_iconst (v := 0) C dX10_first_1 (by decide) ?_
  refine z_chk (fun hk5 => ?_)
  refine z_putI C fl_RX10_180 (fun h => by cases h) rfl hk5 rfl rfl dX10_first_2 (fun m5 eK1 eN1 => ?_)
  refine z_aload_n C dX10_first_5 rfl 0 rfl ?_
  refine z_iload_n C dX10_first_6 rfl 1 rfl ?_
  refine z_iload_n C dX10_first_7 rfl 3 rfl ?_
  refine z_cVI [.int p1, .int p3] [] C mv_RX10_366 (fun r0 m0 h0 => M_X10_isThing _ _ _ _ _ _ _ _ h0) rfl rfl ⟨by rw [hrm]; exact Nat.le_of_ble_eq_true rfl, by rw [hrm]; exact Nat.le_of_ble_eq_true rfl⟩ ⟨by rw [hrm]; exact Nat.le_of_ble_eq_true rfl, by rw [hrm]; exact Nat.le_of_ble_eq_true rfl⟩ rfl (kfw eK1 hk5) rfl rfl rfl (Nat.le_of_ble_eq_true rfl) dX10_first_8 (fun r5 m6 => ?_)
  refine z_if_eq (tgt := 38) C dX10_first_11 (by decide) (fun c5 => ?_) (fun c5 => ?_)
  · refine z_iconst (v := (-1)) C dX10_first_38 (by decide) ?_
    exact z_iret C hr dX10_first_39
  · refine z_aload_n C dX10_first_14 rfl 0 rfl ?_
    refine z_iload_n C dX10_first_15 rfl 1 rfl ?_
    refine z_iload C dX10_first_16 4 rfl ?_
    refine z_chk (fun hk6 => ?_)
    refine z_cVI [.int p1, .int p4] [] C mv_RX10_366 (fun r0 m0 h0 => M_X10_isThing _ _ _ _ _ _ _ _ h0) rfl rfl ⟨by rw [hrm]; exact Nat.le_of_ble_eq_true rfl, by rw [hrm]; exact Nat.le_of_ble_eq_true rfl⟩ ⟨by rw [hrm]; exact Nat.le_of_ble_eq_true rfl, by rw [hrm]; exact Nat.le_of_ble_eq_true rfl⟩ rfl hk6 rfl rfl rfl (Nat.le_of_ble_eq_true rfl) dX10_first_18 (fun r6 m7 => ?_)
    refine z_if_eq (tgt := 38) C dX10_first_21 (by decide) (fun c6 => ?_) (fun c6 => ?_)
    · refine z_iconst (v := (-1)) C dX10_first_38 (by decide) ?_
      exact z_iret C hr dX10_first_39
    · refine z_iload_n C dX10_first_24 rfl 3 rfl ?_
      refine z_iload C dX10_first_25 4 rfl ?_
      refine z_icmp_eq (tgt := 38) C dX10_first_27 (by decide) (fun c7 => ?_) (fun c7 => ?_)
      · refine z_iconst (v := (-1)) C dX10_first_38 (by decide) ?_
        exact z_iret C hr dX10_first_39
      · refine z_aload_n C dX10_first_30 rfl 0 rfl ?_
        refine z_iload_n C dX10_first_31 rfl 2 rfl ?_
        refine z_chk (fun hk7 => ?_)
        refine z_cVI [.int p2] [] C mv_RX10_360 (fun r0 m0 h0 => M_X10_isLaw _ _ _ _ _ _ _ h0) rfl rfl ⟨by rw [hrm]; exact Nat.le_of_ble_eq_true rfl, by rw [hrm]; exact Nat.le_of_ble_eq_true rfl⟩ ⟨by rw [hrm]; exact Nat.le_of_ble_eq_true rfl, by rw [hrm]; exact Nat.le_of_ble_eq_true rfl⟩ rfl hk7 rfl rfl rfl (Nat.le_of_ble_eq_true rfl) dX10_first_32 (fun r7 m8 => ?_)
        refine z_if_ne (tgt := 40) C dX10_first_35 (by decide) (fun c8 => ?_) (fun c8 => ?_)
        · refine z_iconst (v := 0) C dX10_first_40 (by decide) ?_
          refine z_istore (i := 5) (L2 := [(5, .int 0), (0, va_rf (some th)), (1, .int p1), (2, .int p2), (3, .int p3), (4, .int p4)]) C dX10_first_41 (by decide) rfl ?_
          exact z_sub [1, 2, 3, 4, 5, 0] rfl (t_X10_first_43 C hr hrm th p1 p2 p3 p4 FU 0 m8)
        · refine z_iconst (v := (-1)) C dX10_first_38 (by decide) ?_
          exact z_iret C hr dX10_first_39
def f_X10_first (th : Nat) (p1 : Int32) (p2 : Int32) (p3 : Int32) (p4 : Int32) (m : MM) : Option (Int32 × MM) := g_X10_first_0 th p1 p2 p3 p4 m
theorem M_X10_first (l : Launch) (E : EX) (th : Nat) (p1 : Int32) (p2 : Int32) (p3 : Int32) (p4 : Int32) (m : MM) (r : Int32) (m2 : MM) (h : f_X10_first th p1 p2 p3 p4 m = some (r, m2)) : Met l yX10_first (.code yX10_first cX10_first 6 (some .int) :: TB) rmX10_first (va_Pc [.ref th, .int p1, .int p2, .int p3, .int p4] (St E m)) (QR E (emI r) m2) 0 0 (AA E) :=
  met_of (em := emI) (plainFor_of_name rfl) (Nat.le_of_ble_eq_true rfl) (L0 := [(0, va_rf (some th)), (1, .int p1), (2, .int p2), (3, .int p3), (4, .int p4)]) rfl (fun Γ _ hrm C hr hn => s_X10_first_0 C hr hrm th p1 p2 p3 p4 m) h

theorem dX10_lay_0 : decode cX10_lay 0 = .ok (.aload_n 0, 1) := by decide +kernel
theorem dX10_lay_1 : decode cX10_lay 1 = .ok (.getfield 143, 3) := by decide +kernel
theorem dX10_lay_4 : decode cX10_lay 4 = .ok (.bipush 12, 2) := by decide +kernel
theorem dX10_lay_6 : decode cX10_lay 6 = .ok (.iload_n 1, 1) := by decide +kernel
theorem dX10_lay_7 : decode cX10_lay 7 = .ok (.iadd, 1) := by decide +kernel
theorem dX10_lay_8 : decode cX10_lay 8 = .ok (.iload_n 2, 1) := by decide +kernel
theorem dX10_lay_9 : decode cX10_lay 9 = .ok (.iastore, 1) := by decide +kernel
theorem dX10_lay_10 : decode cX10_lay 10 = .ok (.aload_n 0, 1) := by decide +kernel
theorem dX10_lay_11 : decode cX10_lay 11 = .ok (.getfield 146, 3) := by decide +kernel
theorem dX10_lay_14 : decode cX10_lay 14 = .ok (.bipush 12, 2) := by decide +kernel
theorem dX10_lay_16 : decode cX10_lay 16 = .ok (.iload_n 1, 1) := by decide +kernel
theorem dX10_lay_17 : decode cX10_lay 17 = .ok (.iadd, 1) := by decide +kernel
theorem dX10_lay_18 : decode cX10_lay 18 = .ok (.iload_n 3, 1) := by decide +kernel
theorem dX10_lay_19 : decode cX10_lay 19 = .ok (.iastore, 1) := by decide +kernel
theorem dX10_lay_20 : decode cX10_lay 20 = .ok (.aload_n 0, 1) := by decide +kernel
theorem dX10_lay_21 : decode cX10_lay 21 = .ok (.getfield 149, 3) := by decide +kernel
theorem dX10_lay_24 : decode cX10_lay 24 = .ok (.bipush 12, 2) := by decide +kernel
theorem dX10_lay_26 : decode cX10_lay 26 = .ok (.iload_n 1, 1) := by decide +kernel
theorem dX10_lay_27 : decode cX10_lay 27 = .ok (.iadd, 1) := by decide +kernel
theorem dX10_lay_28 : decode cX10_lay 28 = .ok (.iload 4, 2) := by decide +kernel
theorem dX10_lay_30 : decode cX10_lay 30 = .ok (.iastore, 1) := by decide +kernel
theorem dX10_lay_31 : decode cX10_lay 31 = .ok (.aload_n 0, 1) := by decide +kernel
theorem dX10_lay_32 : decode cX10_lay 32 = .ok (.getfield 152, 3) := by decide +kernel
theorem dX10_lay_35 : decode cX10_lay 35 = .ok (.bipush 12, 2) := by decide +kernel
theorem dX10_lay_37 : decode cX10_lay 37 = .ok (.iload_n 1, 1) := by decide +kernel
theorem dX10_lay_38 : decode cX10_lay 38 = .ok (.iadd, 1) := by decide +kernel
theorem dX10_lay_39 : decode cX10_lay 39 = .ok (.iload 5, 2) := by decide +kernel
theorem dX10_lay_41 : decode cX10_lay 41 = .ok (.iastore, 1) := by decide +kernel
theorem dX10_lay_42 : decode cX10_lay 42 = .ok (.aload_n 0, 1) := by decide +kernel
theorem dX10_lay_43 : decode cX10_lay 43 = .ok (.getfield 155, 3) := by decide +kernel
theorem dX10_lay_46 : decode cX10_lay 46 = .ok (.bipush 12, 2) := by decide +kernel
theorem dX10_lay_48 : decode cX10_lay 48 = .ok (.iload_n 1, 1) := by decide +kernel
theorem dX10_lay_49 : decode cX10_lay 49 = .ok (.iadd, 1) := by decide +kernel
theorem dX10_lay_50 : decode cX10_lay 50 = .ok (.aload_n 0, 1) := by decide +kernel
theorem dX10_lay_51 : decode cX10_lay 51 = .ok (.getfield 378, 3) := by decide +kernel
theorem dX10_lay_54 : decode cX10_lay 54 = .ok (.iastore, 1) := by decide +kernel
theorem dX10_lay_55 : decode cX10_lay 55 = .ok (.return_, 1) := by decide +kernel
def rmX10_lay : Room := { frames := 0, cells := 0, slots := 0, locals := 0 }
set_option maxRecDepth 100000 in
def g_X10_lay_0 (th : Nat) (p1 : Int32) (p2 : Int32) (p3 : Int32) (p4 : Int32) (p5 : Int32) (m : MM) : Option (Unit × MM) :=
  chk (m.K th = 11) (ck m (m.R 1160 th 0) 22 (fun a1 => chk (inb (12 + p1) (m.N a1) = true) (bnd (m.sI 22 a1 (Int32.toNatClampNeg (12 + p1)) p2) (fun m1 => ck m1 (m1.R 1161 th 0) 22 (fun a2 => chk (inb (12 + p1) (m1.N a2) = true) (bnd (m1.sI 22 a2 (Int32.toNatClampNeg (12 + p1)) p3) (fun m2 => ck m2 (m2.R 1162 th 0) 22 (fun a3 => chk (inb (12 + p1) (m2.N a3) = true) (bnd (m2.sI 22 a3 (Int32.toNatClampNeg (12 + p1)) p4) (fun m3 => ck m3 (m3.R 1163 th 0) 22 (fun a4 => chk (inb (12 + p1) (m3.N a4) = true) (bnd (m3.sI 22 a4 (Int32.toNatClampNeg (12 + p1)) p5) (fun m4 => ck m4 (m4.R 1164 th 0) 22 (fun a5 => chk (inb (12 + p1) (m4.N a5) = true) (bnd (m4.sI 22 a5 (Int32.toNatClampNeg (12 + p1)) (m4.I 1167 th 0)) (fun m5 => some ((), m5)))))))))))))))))
set_option maxHeartbeats 4000000 in
set_option maxRecDepth 100000 in
theorem s_X10_lay_0 {Γ : GX} {E : EX} (C : Cx Γ E cX10_lay RX10 6) (hr : Γ.meth.sig.returnType = none) (hrm : Γ.rm = rmX10_lay) (th : Nat) (p1 : Int32) (p2 : Int32) (p3 : Int32) (p4 : Int32) (p5 : Int32) (m : MM) : Sm (QM Γ E emV 0 0) Γ E 6 0 0 0 [(0, va_rf (some th)), (1, .int p1), (2, .int p2), (3, .int p3), (4, .int p4), (5, .int p5)] [] m (g_X10_lay_0 th p1 p2 p3 p4 p5 m) := by
  unfold g_X10_lay_0
  refine z_aload_n C dX10_lay_0 rfl 0 rfl ?_
  refine z_chk (fun hk1 => ?_)
  refine z_getR C fl_RX10_143 rfl hk1 dX10_lay_1 ?_
  refine z_bipush (v := 12) C dX10_lay_4 (by decide) ?_
  refine z_iload_n C dX10_lay_6 rfl 1 rfl ?_
  refine z_iadd C dX10_lay_7 ?_
  refine z_iload_n C dX10_lay_8 rfl 2 rfl ?_
  refine z_ck (fun a1 hr1 hk2 => ?_)
  refine z_chk (fun hj1 => ?_)
  refine z_iast C hr1 hk2 hj1 dX10_lay_9 (fun m1 eK1 eN1 => ?_)
  refine z_aload_n C dX10_lay_10 rfl 0 rfl ?_
  refine z_getR C fl_RX10_146 rfl (kfw eK1 hk1) dX10_lay_11 ?_
  refine z_bipush (v := 12) C dX10_lay_14 (by decide) ?_
  refine z_iload_n C dX10_lay_16 rfl 1 rfl ?_
  refine z_iadd C dX10_lay_17 ?_
  refine z_iload_n C dX10_lay_18 rfl 3 rfl ?_
  refine z_ck (fun a2 hr2 hk3 => ?_)
  refine z_chk (fun hj2 => ?_)
  refine z_iast C hr2 hk3 hj2 dX10_lay_19 (fun m2 eK2 eN2 => ?_)
  refine z_aload_n C dX10_lay_20 rfl 0 rfl ?_
  refine z_getR C fl_RX10_149 rfl (kfw eK2 (kfw eK1 hk1)) dX10_lay_21 ?_
  refine z_bipush (v := 12) C dX10_lay_24 (by decide) ?_
  refine z_iload_n C dX10_lay_26 rfl 1 rfl ?_
  refine z_iadd C dX10_lay_27 ?_
  refine z_iload C dX10_lay_28 4 rfl ?_
  refine z_ck (fun a3 hr3 hk4 => ?_)
  refine z_chk (fun hj3 => ?_)
  refine z_iast C hr3 hk4 hj3 dX10_lay_30 (fun m3 eK3 eN3 => ?_)
  refine z_aload_n C dX10_lay_31 rfl 0 rfl ?_
  refine z_getR C fl_RX10_152 rfl (kfw eK3 (kfw eK2 (kfw eK1 hk1))) dX10_lay_32 ?_
  refine z_bipush (v := 12) C dX10_lay_35 (by decide) ?_
  refine z_iload_n C dX10_lay_37 rfl 1 rfl ?_
  refine z_iadd C dX10_lay_38 ?_
  refine z_iload C dX10_lay_39 5 rfl ?_
  refine z_ck (fun a4 hr4 hk5 => ?_)
  refine z_chk (fun hj4 => ?_)
  refine z_iast C hr4 hk5 hj4 dX10_lay_41 (fun m4 eK4 eN4 => ?_)
  refine z_aload_n C dX10_lay_42 rfl 0 rfl ?_
  refine z_getR C fl_RX10_155 rfl (kfw eK4 (kfw eK3 (kfw eK2 (kfw eK1 hk1)))) dX10_lay_43 ?_
  refine z_bipush (v := 12) C dX10_lay_46 (by decide) ?_
  refine z_iload_n C dX10_lay_48 rfl 1 rfl ?_
  refine z_iadd C dX10_lay_49 ?_
  refine z_aload_n C dX10_lay_50 rfl 0 rfl ?_
  refine z_getI C fl_RX10_378 rfl (kfw eK4 (kfw eK3 (kfw eK2 (kfw eK1 hk1)))) dX10_lay_51 ?_
  refine z_ck (fun a5 hr5 hk6 => ?_)
  refine z_chk (fun hj5 => ?_)
  refine z_iast C hr5 hk6 hj5 dX10_lay_54 (fun m5 eK5 eN5 => ?_)
  exact z_vret C hr dX10_lay_55
def f_X10_lay (th : Nat) (p1 : Int32) (p2 : Int32) (p3 : Int32) (p4 : Int32) (p5 : Int32) (m : MM) : Option (Unit × MM) := g_X10_lay_0 th p1 p2 p3 p4 p5 m
theorem M_X10_lay (l : Launch) (E : EX) (th : Nat) (p1 : Int32) (p2 : Int32) (p3 : Int32) (p4 : Int32) (p5 : Int32) (m : MM) (r : Unit) (m2 : MM) (h : f_X10_lay th p1 p2 p3 p4 p5 m = some (r, m2)) : Met l yX10_lay (.code yX10_lay cX10_lay 6 none :: TB) rmX10_lay (va_Pc [.ref th, .int p1, .int p2, .int p3, .int p4, .int p5] (St E m)) (QR E (emV r) m2) 0 0 (AA E) :=
  met_of (em := emV) (plainFor_of_name rfl) (Nat.le_of_ble_eq_true rfl) (L0 := [(0, va_rf (some th)), (1, .int p1), (2, .int p2), (3, .int p3), (4, .int p4), (5, .int p5)]) rfl (fun Γ _ hrm C hr hn => s_X10_lay_0 C hr hrm th p1 p2 p3 p4 p5 m) h

theorem dX10_mayBy_0 : decode cX10_mayBy 0 = .ok (.iconst 0, 1) := by decide +kernel
theorem dX10_mayBy_1 : decode cX10_mayBy 1 = .ok (.istore 4, 2) := by decide +kernel
theorem dX10_mayBy_3 : decode cX10_mayBy 3 = .ok (.iload 4, 2) := by decide +kernel
theorem dX10_mayBy_5 : decode cX10_mayBy 5 = .ok (.bipush 12, 2) := by decide +kernel
theorem dX10_mayBy_7 : decode cX10_mayBy 7 = .ok (.if_icmp .ge 48, 3) := by decide +kernel
theorem dX10_mayBy_10 : decode cX10_mayBy 10 = .ok (.aload_n 0, 1) := by decide +kernel
theorem dX10_mayBy_11 : decode cX10_mayBy 11 = .ok (.iload 4, 2) := by decide +kernel
theorem dX10_mayBy_13 : decode cX10_mayBy 13 = .ok (.invokevirtual 446, 3) := by decide +kernel
theorem dX10_mayBy_16 : decode cX10_mayBy 16 = .ok (.ifCond .eq 33, 3) := by decide +kernel
theorem dX10_mayBy_19 : decode cX10_mayBy 19 = .ok (.aload_n 0, 1) := by decide +kernel
theorem dX10_mayBy_20 : decode cX10_mayBy 20 = .ok (.iload 4, 2) := by decide +kernel
theorem dX10_mayBy_22 : decode cX10_mayBy 22 = .ok (.bipush 12, 2) := by decide +kernel
theorem dX10_mayBy_24 : decode cX10_mayBy 24 = .ok (.iload_n 2, 1) := by decide +kernel
theorem dX10_mayBy_25 : decode cX10_mayBy 25 = .ok (.iadd, 1) := by decide +kernel
theorem dX10_mayBy_26 : decode cX10_mayBy 26 = .ok (.invokevirtual 396, 3) := by decide +kernel
theorem dX10_mayBy_29 : decode cX10_mayBy 29 = .ok (.ifCond .eq 18, 3) := by decide +kernel
theorem dX10_mayBy_32 : decode cX10_mayBy 32 = .ok (.aload_n 0, 1) := by decide +kernel
theorem dX10_mayBy_33 : decode cX10_mayBy 33 = .ok (.iload_n 1, 1) := by decide +kernel
theorem dX10_mayBy_34 : decode cX10_mayBy 34 = .ok (.iload 4, 2) := by decide +kernel
theorem dX10_mayBy_36 : decode cX10_mayBy 36 = .ok (.bipush 12, 2) := by decide +kernel
theorem dX10_mayBy_38 : decode cX10_mayBy 38 = .ok (.iload_n 2, 1) := by decide +kernel
theorem dX10_mayBy_39 : decode cX10_mayBy 39 = .ok (.iadd, 1) := by decide +kernel
theorem dX10_mayBy_40 : decode cX10_mayBy 40 = .ok (.iload_n 3, 1) := by decide +kernel
theorem dX10_mayBy_41 : decode cX10_mayBy 41 = .ok (.invokevirtual 470, 3) := by decide +kernel
theorem dX10_mayBy_44 : decode cX10_mayBy 44 = .ok (.ifCond .eq 5, 3) := by decide +kernel
theorem dX10_mayBy_47 : decode cX10_mayBy 47 = .ok (.iconst 0, 1) := by decide +kernel
theorem dX10_mayBy_48 : decode cX10_mayBy 48 = .ok (.ireturn, 1) := by decide +kernel
theorem dX10_mayBy_49 : decode cX10_mayBy 49 = .ok (.iinc 4 1, 3) := by decide +kernel
theorem dX10_mayBy_52 : decode cX10_mayBy 52 = .ok (.goto (-49), 3) := by decide +kernel
theorem dX10_mayBy_55 : decode cX10_mayBy 55 = .ok (.iconst 1, 1) := by decide +kernel
theorem dX10_mayBy_56 : decode cX10_mayBy 56 = .ok (.ireturn, 1) := by decide +kernel
def rmX10_mayBy : Room := { frames := 6, cells := 0, slots := 0, locals := 158 }
set_option maxRecDepth 100000 in
def g_X10_mayBy_49 (th : Nat) (p1 : Int32) (p2 : Int32) (p3 : Int32) (k3 : Int32 → MM → Option (Int32 × MM)) (x4 : Int32) (m : MM) : Option (Int32 × MM) :=
  k3 (x4 + 1) m
set_option maxHeartbeats 4000000 in
set_option maxRecDepth 100000 in
theorem s_X10_mayBy_49 {Γ : GX} {E : EX} (C : Cx Γ E cX10_mayBy RX10 5) (hr : Γ.meth.sig.returnType = (some .boolean)) (hrm : Γ.rm = rmX10_mayBy) (th : Nat) (p1 : Int32) (p2 : Int32) (p3 : Int32) (k3 : Int32 → MM → Option (Int32 × MM)) (h3 : ∀ (x4 : Int32) (m : MM), Sm (QM Γ E emI 0 0) Γ E 5 0 0 3 [(0, va_rf (some th)), (1, .int p1), (2, .int p2), (3, .int p3), (4, .int x4)] [] m (k3 x4 m)) (x4 : Int32) (m : MM) : Sm (QM Γ E emI 0 0) Γ E 5 0 0 49 [(0, va_rf (some th)), (1, .int p1), (2, .int p2), (3, .int p3), (4, .int x4)] [] m (g_X10_mayBy_49 th p1 p2 p3 k3 x4 m) := by
  unfold g_X10_mayBy_49
  refine z_iinc (v := 1) (L2 := [(4, .int (x4 + 1)), (0, va_rf (some th)), (1, .int p1), (2, .int p2), (3, .int p3)]) C dX10_mayBy_49 4 rfl (by decide) (by decide) rfl ?_
  refine z_goto (tgt := 3) C dX10_mayBy_52 (by decide) ?_
  exact z_sub [1, 2, 3, 4, 0] rfl (h3 (x4 + 1) m)
set_option maxRecDepth 100000 in
def g_X10_mayBy_3 (th : Nat) (p1 : Int32) (p2 : Int32) (p3 : Int32) (k3 : Int32 → MM → Option (Int32 × MM)) (x4 : Int32) (m : MM) : Option (Int32 × MM) :=
  if 12 ≤ x4 then (some (1, m)) else (chk (m.K th = 11) (cal (f_X10_stands th x4 m) (fun r1 m1 => if r1 = 0 then (g_X10_mayBy_49 th p1 p2 p3 k3 x4 m1) else (chk (m1.K th = 11) (cal (f_X10_apartBy th x4 (12 + p2) m1) (fun r2 m2 => if r2 = 0 then (some (0, m2)) else (chk (m2.K th = 11) (cal (f_X10_barsBoth th p1 x4 (12 + p2) p3 m2) (fun r3 m3 => if r3 = 0 then (g_X10_mayBy_49 th p1 p2 p3 k3 x4 m3) else (some (0, m3)))))))))))
set_option maxHeartbeats 4000000 in
set_option maxRecDepth 100000 in
theorem s_X10_mayBy_3 {Γ : GX} {E : EX} (C : Cx Γ E cX10_mayBy RX10 5) (hr : Γ.meth.sig.returnType = (some .boolean)) (hrm : Γ.rm = rmX10_mayBy) (th : Nat) (p1 : Int32) (p2 : Int32) (p3 : Int32) (k3 : Int32 → MM → Option (Int32 × MM)) (h3 : ∀ (x4 : Int32) (m : MM), Sm (QM Γ E emI 0 0) Γ E 5 0 0 3 [(0, va_rf (some th)), (1, .int p1), (2, .int p2), (3, .int p3), (4, .int x4)] [] m (k3 x4 m)) (x4 : Int32) (m : MM) : Sm (QM Γ E emI 0 0) Γ E 5 0 0 3 [(0, va_rf (some th)), (1, .int p1), (2, .int p2), (3, .int p3), (4, .int x4)] [] m (g_X10_mayBy_3 th p1 p2 p3 k3 x4 m) := by
  unfold g_X10_mayBy_3
  refine z_iload C dX10_mayBy_3 4 rfl ?_
  refine z_bipush (v := 12) C dX10_mayBy_5 (by decide) ?_
  refine z_icmp_ge (tgt := 55) C dX10_mayBy_7 (by decide) (fun c1 => ?_) (fun c1 => ?_)
  · refine z_iconst (v := 1) C dX10_mayBy_55 (by decide) ?_
    exact z_zret C hr rfl dX10_mayBy_56
  · refine z_aload_n C dX10_mayBy_10 rfl 0 rfl ?_
    refine z_iload C dX10_mayBy_11 4 rfl ?_
    refine z_chk (fun hk1 => ?_)
    refine z_cVI [.int x4] [] C mv_RX10_446 (fun r0 m0 h0 => M_X10_stands _ _ _ _ _ _ _ h0) rfl rfl ⟨by rw [hrm]; exact Nat.le_of_ble_eq_true rfl, by rw [hrm]; exact Nat.le_of_ble_eq_true rfl⟩ ⟨by rw [hrm]; exact Nat.le_of_ble_eq_true rfl, by rw [hrm]; exact Nat.le_of_ble_eq_true rfl⟩ rfl hk1 rfl rfl rfl (Nat.le_of_ble_eq_true rfl) dX10_mayBy_13 (fun r1 m1 => ?_)
    refine z_if_eq (tgt := 49) C dX10_mayBy_16 (by decide) (fun c2 => ?_) (fun c2 => ?_)
    · exact z_sub [0, 1, 2, 3, 4] rfl (s_X10_mayBy_49 C hr hrm th p1 p2 p3 k3 h3 x4 m1)
    · refine z_aload_n C dX10_mayBy_19 rfl 0 rfl ?_
      refine z_iload C dX10_mayBy_20 4 rfl ?_
      refine z_bipush (v := 12) C dX10_mayBy_22 (by decide) ?_
      refine z_iload_n C dX10_mayBy_24 rfl 2 rfl ?_
      refine z_iadd C dX10_mayBy_25 ?_
      refine z_chk (fun hk2 => ?_)
      refine z_cVI [.int x4, .int (12 + p2)] [] C mv_RX10_396 (fun r0 m0 h0 => M_X10_apartBy _ _ _ _ _ _ _ _ h0) rfl rfl ⟨by rw [hrm]; exact Nat.le_of_ble_eq_true rfl, by rw [hrm]; exact Nat.le_of_ble_eq_true rfl⟩ ⟨by rw [hrm]; exact Nat.le_of_ble_eq_true rfl, by rw [hrm]; exact Nat.le_of_ble_eq_true rfl⟩ rfl hk2 rfl rfl rfl (Nat.le_of_ble_eq_true rfl) dX10_mayBy_26 (fun r2 m2 => ?_)
      refine z_if_eq (tgt := 47) C dX10_mayBy_29 (by decide) (fun c3 => ?_) (fun c3 => ?_)
      · refine z_iconst (v := 0) C dX10_mayBy_47 (by decide) ?_
        exact z_zret C hr rfl dX10_mayBy_48
      · refine z_aload_n C dX10_mayBy_32 rfl 0 rfl ?_
        refine z_iload_n C dX10_mayBy_33 rfl 1 rfl ?_
        refine z_iload C dX10_mayBy_34 4 rfl ?_
        refine z_bipush (v := 12) C dX10_mayBy_36 (by decide) ?_
        refine z_iload_n C dX10_mayBy_38 rfl 2 rfl ?_
        refine z_iadd C dX10_mayBy_39 ?_
        refine z_iload_n C dX10_mayBy_40 rfl 3 rfl ?_
        refine z_chk (fun hk3 => ?_)
        refine z_cVI [.int p1, .int x4, .int (12 + p2), .int p3] [] C mv_RX10_470 (fun r0 m0 h0 => M_X10_barsBoth _ _ _ _ _ _ _ _ _ _ h0) rfl rfl ⟨by rw [hrm]; exact Nat.le_of_ble_eq_true rfl, by rw [hrm]; exact Nat.le_of_ble_eq_true rfl⟩ ⟨by rw [hrm]; exact Nat.le_of_ble_eq_true rfl, by rw [hrm]; exact Nat.le_of_ble_eq_true rfl⟩ rfl hk3 rfl rfl rfl (Nat.le_of_ble_eq_true rfl) dX10_mayBy_41 (fun r3 m3 => ?_)
        refine z_if_eq (tgt := 49) C dX10_mayBy_44 (by decide) (fun c4 => ?_) (fun c4 => ?_)
        · exact z_sub [0, 1, 2, 3, 4] rfl (s_X10_mayBy_49 C hr hrm th p1 p2 p3 k3 h3 x4 m3)
        · refine z_iconst (v := 0) C dX10_mayBy_47 (by decide) ?_
          exact z_zret C hr rfl dX10_mayBy_48
def l_X10_mayBy_3 (th : Nat) (p1 : Int32) (p2 : Int32) (p3 : Int32) : Nat → Int32 → MM → Option (Int32 × MM) := lp (fun _ _ => none) (fun k3 => g_X10_mayBy_3 th p1 p2 p3 k3)
theorem t_X10_mayBy_3 {Γ : GX} {E : EX} (C : Cx Γ E cX10_mayBy RX10 5) (hr : Γ.meth.sig.returnType = (some .boolean)) (hrm : Γ.rm = rmX10_mayBy) (th : Nat) (p1 : Int32) (p2 : Int32) (p3 : Int32) : ∀ (n : Nat) (x4 : Int32) (m : MM), Sm (QM Γ E emI 0 0) Γ E 5 0 0 3 [(0, va_rf (some th)), (1, .int p1), (2, .int p2), (3, .int p3), (4, .int x4)] [] m (l_X10_mayBy_3 th p1 p2 p3 n x4 m) := by
  intro n
  induction n with
  | zero => intros; exact z_none
  | succ n ih => intro x4 m; exact s_X10_mayBy_3 C hr hrm th p1 p2 p3 (l_X10_mayBy_3 th p1 p2 p3 n) ih x4 m
set_option maxRecDepth 100000 in
def g_X10_mayBy_0 (th : Nat) (p1 : Int32) (p2 : Int32) (p3 : Int32) (m : MM) : Option (Int32 × MM) :=
  l_X10_mayBy_3 th p1 p2 p3 FU 0 m
set_option maxHeartbeats 4000000 in
set_option maxRecDepth 100000 in
theorem s_X10_mayBy_0 {Γ : GX} {E : EX} (C : Cx Γ E cX10_mayBy RX10 5) (hr : Γ.meth.sig.returnType = (some .boolean)) (hrm : Γ.rm = rmX10_mayBy) (th : Nat) (p1 : Int32) (p2 : Int32) (p3 : Int32) (m : MM) : Sm (QM Γ E emI 0 0) Γ E 5 0 0 0 [(0, va_rf (some th)), (1, .int p1), (2, .int p2), (3, .int p3)] [] m (g_X10_mayBy_0 th p1 p2 p3 m) := by
  unfold g_X10_mayBy_0
  refine z_iconst (v := 0) C dX10_mayBy_0 (by decide) ?_
  refine z_istore (i := 4) (L2 := [(4, .int 0), (0, va_rf (some th)), (1, .int p1), (2, .int p2), (3, .int p3)]) C dX10_mayBy_1 (by decide) rfl ?_
  exact z_sub [1, 2, 3, 4, 0] rfl (t_X10_mayBy_3 C hr hrm th p1 p2 p3 FU 0 m)
def f_X10_mayBy (th : Nat) (p1 : Int32) (p2 : Int32) (p3 : Int32) (m : MM) : Option (Int32 × MM) := g_X10_mayBy_0 th p1 p2 p3 m
theorem M_X10_mayBy (l : Launch) (E : EX) (th : Nat) (p1 : Int32) (p2 : Int32) (p3 : Int32) (m : MM) (r : Int32) (m2 : MM) (h : f_X10_mayBy th p1 p2 p3 m = some (r, m2)) : Met l yX10_mayBy (.code yX10_mayBy cX10_mayBy 5 (some .boolean) :: TB) rmX10_mayBy (va_Pc [.ref th, .int p1, .int p2, .int p3] (St E m)) (QR E (emI r) m2) 0 0 (AA E) :=
  met_of (em := emI) (plainFor_of_name rfl) (Nat.le_of_ble_eq_true rfl) (L0 := [(0, va_rf (some th)), (1, .int p1), (2, .int p2), (3, .int p3)]) rfl (fun Γ _ hrm C hr hn => s_X10_mayBy_0 C hr hrm th p1 p2 p3 m) h

theorem dX10_isAsked_0 : decode cX10_isAsked 0 = .ok (.aload_n 0, 1) := by decide +kernel
theorem dX10_isAsked_1 : decode cX10_isAsked 1 = .ok (.iload_n 1, 1) := by decide +kernel
theorem dX10_isAsked_2 : decode cX10_isAsked 2 = .ok (.invokevirtual 192, 3) := by decide +kernel
theorem dX10_isAsked_5 : decode cX10_isAsked 5 = .ok (.ifCond .eq 42, 3) := by decide +kernel
theorem dX10_isAsked_8 : decode cX10_isAsked 8 = .ok (.aload_n 0, 1) := by decide +kernel
theorem dX10_isAsked_9 : decode cX10_isAsked 9 = .ok (.iload_n 2, 1) := by decide +kernel
theorem dX10_isAsked_10 : decode cX10_isAsked 10 = .ok (.invokevirtual 360, 3) := by decide +kernel
theorem dX10_isAsked_13 : decode cX10_isAsked 13 = .ok (.ifCond .eq 34, 3) := by decide +kernel
theorem dX10_isAsked_16 : decode cX10_isAsked 16 = .ok (.iload_n 3, 1) := by decide +kernel
theorem dX10_isAsked_17 : decode cX10_isAsked 17 = .ok (.invokestatic 372, 3) := by decide +kernel
theorem dX10_isAsked_20 : decode cX10_isAsked 20 = .ok (.ifCond .eq 27, 3) := by decide +kernel
theorem dX10_isAsked_23 : decode cX10_isAsked 23 = .ok (.iload 4, 2) := by decide +kernel
theorem dX10_isAsked_25 : decode cX10_isAsked 25 = .ok (.iconst 0, 1) := by decide +kernel
theorem dX10_isAsked_26 : decode cX10_isAsked 26 = .ok (.iconst 5, 1) := by decide +kernel
theorem dX10_isAsked_27 : decode cX10_isAsked 27 = .ok (.invokestatic 188, 3) := by decide +kernel
theorem dX10_isAsked_30 : decode cX10_isAsked 30 = .ok (.ifCond .eq 17, 3) := by decide +kernel
theorem dX10_isAsked_33 : decode cX10_isAsked 33 = .ok (.iload 5, 2) := by decide +kernel
theorem dX10_isAsked_35 : decode cX10_isAsked 35 = .ok (.iconst (-1), 1) := by decide +kernel
theorem dX10_isAsked_36 : decode cX10_isAsked 36 = .ok (.iconst 3, 1) := by decide +kernel
theorem dX10_isAsked_37 : decode cX10_isAsked 37 = .ok (.invokestatic 188, 3) := by decide +kernel
theorem dX10_isAsked_40 : decode cX10_isAsked 40 = .ok (.ifCond .eq 7, 3) := by decide +kernel
theorem dX10_isAsked_43 : decode cX10_isAsked 43 = .ok (.iconst 1, 1) := by decide +kernel
theorem dX10_isAsked_44 : decode cX10_isAsked 44 = .ok (.goto 4, 3) := by decide +kernel
theorem dX10_isAsked_47 : decode cX10_isAsked 47 = .ok (.iconst 0, 1) := by decide +kernel
theorem dX10_isAsked_48 : decode cX10_isAsked 48 = .ok (.ireturn, 1) := by decide +kernel
def rmX10_isAsked : Room := { frames := 2, cells := 0, slots := 0, locals := 43 }
set_option maxRecDepth 100000 in
def g_X10_isAsked_47 (th : Nat) (p1 : Int32) (p2 : Int32) (p3 : Int32) (p4 : Int32) (p5 : Int32) (m : MM) : Option (Int32 × MM) :=
  some (0, m)
set_option maxHeartbeats 4000000 in
set_option maxRecDepth 100000 in
theorem s_X10_isAsked_47 {Γ : GX} {E : EX} (C : Cx Γ E cX10_isAsked RX10 6) (hr : Γ.meth.sig.returnType = (some .boolean)) (hrm : Γ.rm = rmX10_isAsked) (th : Nat) (p1 : Int32) (p2 : Int32) (p3 : Int32) (p4 : Int32) (p5 : Int32) (m : MM) : Sm (QM Γ E emI 0 0) Γ E 6 0 0 47 [(0, va_rf (some th)), (1, .int p1), (2, .int p2), (3, .int p3), (4, .int p4), (5, .int p5)] [] m (g_X10_isAsked_47 th p1 p2 p3 p4 p5 m) := by
  unfold g_X10_isAsked_47
  refine z_iconst (v := 0) C dX10_isAsked_47 (by decide) ?_
  exact z_zret C hr rfl dX10_isAsked_48
set_option maxRecDepth 100000 in
def g_X10_isAsked_0 (th : Nat) (p1 : Int32) (p2 : Int32) (p3 : Int32) (p4 : Int32) (p5 : Int32) (m : MM) : Option (Int32 × MM) :=
  chk (m.K th = 11) (cal (f_X10_isTown th p1 m) (fun r1 m1 => if r1 = 0 then (g_X10_isAsked_47 th p1 p2 p3 p4 p5 m1) else (chk (m1.K th = 11) (cal (f_X10_isLaw th p2 m1) (fun r2 m2 => if r2 = 0 then (g_X10_isAsked_47 th p1 p2 p3 p4 p5 m2) else (cal (f_X10_isDay p3 m2) (fun r3 m3 => if r3 = 0 then (g_X10_isAsked_47 th p1 p2 p3 p4 p5 m3) else (cal (f_X10_in p4 0 5 m3) (fun r4 m4 => if r4 = 0 then (g_X10_isAsked_47 th p1 p2 p3 p4 p5 m4) else (cal (f_X10_in p5 (-1) 3 m4) (fun r5 m5 => if r5 = 0 then (g_X10_isAsked_47 th p1 p2 p3 p4 p5 m5) else (some (1, m5)))))))))))))
set_option maxHeartbeats 4000000 in
set_option maxRecDepth 100000 in
theorem s_X10_isAsked_0 {Γ : GX} {E : EX} (C : Cx Γ E cX10_isAsked RX10 6) (hr : Γ.meth.sig.returnType = (some .boolean)) (hrm : Γ.rm = rmX10_isAsked) (th : Nat) (p1 : Int32) (p2 : Int32) (p3 : Int32) (p4 : Int32) (p5 : Int32) (m : MM) : Sm (QM Γ E emI 0 0) Γ E 6 0 0 0 [(0, va_rf (some th)), (1, .int p1), (2, .int p2), (3, .int p3), (4, .int p4), (5, .int p5)] [] m (g_X10_isAsked_0 th p1 p2 p3 p4 p5 m) := by
  unfold g_X10_isAsked_0
  refine z_aload_n C dX10_isAsked_0 rfl 0 rfl ?_
  refine z_iload_n C dX10_isAsked_1 rfl 1 rfl ?_
  refine z_chk (fun hk1 => ?_)
  refine z_cVI [.int p1] [] C mv_RX10_192 (fun r0 m0 h0 => M_X10_isTown _ _ _ _ _ _ _ h0) rfl rfl ⟨by rw [hrm]; exact Nat.le_of_ble_eq_true rfl, by rw [hrm]; exact Nat.le_of_ble_eq_true rfl⟩ ⟨by rw [hrm]; exact Nat.le_of_ble_eq_true rfl, by rw [hrm]; exact Nat.le_of_ble_eq_true rfl⟩ rfl hk1 rfl rfl rfl (Nat.le_of_ble_eq_true rfl) dX10_isAsked_2 (fun r1 m1 => ?_)
  refine z_if_eq (tgt := 47) C dX10_isAsked_5 (by decide) (fun c1 => ?_) (fun c1 => ?_)
  · exact z_sub [0, 1, 2, 3, 4, 5] rfl (s_X10_isAsked_47 C hr hrm th p1 p2 p3 p4 p5 m1)
  · refine z_aload_n C dX10_isAsked_8 rfl 0 rfl ?_
    refine z_iload_n C dX10_isAsked_9 rfl 2 rfl ?_
    refine z_chk (fun hk2 => ?_)
    refine z_cVI [.int p2] [] C mv_RX10_360 (fun r0 m0 h0 => M_X10_isLaw _ _ _ _ _ _ _ h0) rfl rfl ⟨by rw [hrm]; exact Nat.le_of_ble_eq_true rfl, by rw [hrm]; exact Nat.le_of_ble_eq_true rfl⟩ ⟨by rw [hrm]; exact Nat.le_of_ble_eq_true rfl, by rw [hrm]; exact Nat.le_of_ble_eq_true rfl⟩ rfl hk2 rfl rfl rfl (Nat.le_of_ble_eq_true rfl) dX10_isAsked_10 (fun r2 m2 => ?_)
    refine z_if_eq (tgt := 47) C dX10_isAsked_13 (by decide) (fun c2 => ?_) (fun c2 => ?_)
    · exact z_sub [0, 1, 2, 3, 4, 5] rfl (s_X10_isAsked_47 C hr hrm th p1 p2 p3 p4 p5 m2)
    · refine z_iload_n C dX10_isAsked_16 rfl 3 rfl ?_
      refine z_cSI [.int p3] [] C mv_RX10_372 (fun r0 m0 h0 => M_X10_isDay _ _ _ _ _ _ h0) rfl rfl ⟨by rw [hrm]; exact Nat.le_of_ble_eq_true rfl, by rw [hrm]; exact Nat.le_of_ble_eq_true rfl⟩ ⟨by rw [hrm]; exact Nat.le_of_ble_eq_true rfl, by rw [hrm]; exact Nat.le_of_ble_eq_true rfl⟩ rfl rfl (Nat.le_of_ble_eq_true rfl) dX10_isAsked_17 (fun r3 m3 => ?_)
      refine z_if_eq (tgt := 47) C dX10_isAsked_20 (by decide) (fun c3 => ?_) (fun c3 => ?_)
      · exact z_sub [0, 1, 2, 3, 4, 5] rfl (s_X10_isAsked_47 C hr hrm th p1 p2 p3 p4 p5 m3)
      · refine z_iload C dX10_isAsked_23 4 rfl ?_
        refine z_iconst (v := 0) C dX10_isAsked_25 (by decide) ?_
        refine z_iconst (v := 5) C dX10_isAsked_26 (by decide) ?_
        refine z_cSI [.int p4, .int 0, .int 5] [] C mv_RX10_188 (fun r0 m0 h0 => M_X10_in _ _ _ _ _ _ _ _ h0) rfl rfl ⟨by rw [hrm]; exact Nat.le_of_ble_eq_true rfl, by rw [hrm]; exact Nat.le_of_ble_eq_true rfl⟩ ⟨by rw [hrm]; exact Nat.le_of_ble_eq_true rfl, by rw [hrm]; exact Nat.le_of_ble_eq_true rfl⟩ rfl rfl (Nat.le_of_ble_eq_true rfl) dX10_isAsked_27 (fun r4 m4 => ?_)
        refine z_if_eq (tgt := 47) C dX10_isAsked_30 (by decide) (fun c4 => ?_) (fun c4 => ?_)
        · exact z_sub [0, 1, 2, 3, 4, 5] rfl (s_X10_isAsked_47 C hr hrm th p1 p2 p3 p4 p5 m4)
        · refine z_iload C dX10_isAsked_33 5 rfl ?_
          refine z_iconst (v := (-1)) C dX10_isAsked_35 (by decide) ?_
          refine z_iconst (v := 3) C dX10_isAsked_36 (by decide) ?_
          refine z_cSI [.int p5, .int (-1), .int 3] [] C mv_RX10_188 (fun r0 m0 h0 => M_X10_in _ _ _ _ _ _ _ _ h0) rfl rfl ⟨by rw [hrm]; exact Nat.le_of_ble_eq_true rfl, by rw [hrm]; exact Nat.le_of_ble_eq_true rfl⟩ ⟨by rw [hrm]; exact Nat.le_of_ble_eq_true rfl, by rw [hrm]; exact Nat.le_of_ble_eq_true rfl⟩ rfl rfl (Nat.le_of_ble_eq_true rfl) dX10_isAsked_37 (fun r5 m5 => ?_)
          refine z_if_eq (tgt := 47) C dX10_isAsked_40 (by decide) (fun c5 => ?_) (fun c5 => ?_)
          · exact z_sub [0, 1, 2, 3, 4, 5] rfl (s_X10_isAsked_47 C hr hrm th p1 p2 p3 p4 p5 m5)
          · refine z_iconst (v := 1) C dX10_isAsked_43 (by decide) ?_
            refine z_goto (tgt := 48) C dX10_isAsked_44 (by decide) ?_
            exact z_zret C hr rfl dX10_isAsked_48
def f_X10_isAsked (th : Nat) (p1 : Int32) (p2 : Int32) (p3 : Int32) (p4 : Int32) (p5 : Int32) (m : MM) : Option (Int32 × MM) := g_X10_isAsked_0 th p1 p2 p3 p4 p5 m
theorem M_X10_isAsked (l : Launch) (E : EX) (th : Nat) (p1 : Int32) (p2 : Int32) (p3 : Int32) (p4 : Int32) (p5 : Int32) (m : MM) (r : Int32) (m2 : MM) (h : f_X10_isAsked th p1 p2 p3 p4 p5 m = some (r, m2)) : Met l yX10_isAsked (.code yX10_isAsked cX10_isAsked 6 (some .boolean) :: TB) rmX10_isAsked (va_Pc [.ref th, .int p1, .int p2, .int p3, .int p4, .int p5] (St E m)) (QR E (emI r) m2) 0 0 (AA E) :=
  met_of (em := emI) (plainFor_of_name rfl) (Nat.le_of_ble_eq_true rfl) (L0 := [(0, va_rf (some th)), (1, .int p1), (2, .int p2), (3, .int p3), (4, .int p4), (5, .int p5)]) rfl (fun Γ _ hrm C hr hn => s_X10_isAsked_0 C hr hrm th p1 p2 p3 p4 p5 m) h

theorem dX10_may_0 : decode cX10_may 0 = .ok (.aload_n 0, 1) := by decide +kernel
theorem dX10_may_1 : decode cX10_may 1 = .ok (.iconst 0, 1) := by decide +kernel
theorem dX10_may_2 : decode cX10_may 2 = .ok (.putfield 180, 3) := by decide +kernel
theorem dX10_may_5 : decode cX10_may 5 = .ok (.aload_n 0, 1) := by decide +kernel
theorem dX10_may_6 : decode cX10_may 6 = .ok (.iload_n 1, 1) := by decide +kernel
theorem dX10_may_7 : decode cX10_may 7 = .ok (.iload_n 2, 1) := by decide +kernel
theorem dX10_may_8 : decode cX10_may 8 = .ok (.iload_n 3, 1) := by decide +kernel
theorem dX10_may_9 : decode cX10_may 9 = .ok (.iload 4, 2) := by decide +kernel
theorem dX10_may_11 : decode cX10_may 11 = .ok (.iload 7, 2) := by decide +kernel
theorem dX10_may_13 : decode cX10_may 13 = .ok (.invokevirtual 473, 3) := by decide +kernel
theorem dX10_may_16 : decode cX10_may 16 = .ok (.ifCond .eq 15, 3) := by decide +kernel
theorem dX10_may_19 : decode cX10_may 19 = .ok (.aload_n 0, 1) := by decide +kernel
theorem dX10_may_20 : decode cX10_may 20 = .ok (.iload_n 1, 1) := by decide +kernel
theorem dX10_may_21 : decode cX10_may 21 = .ok (.iload 5, 2) := by decide +kernel
theorem dX10_may_23 : decode cX10_may 23 = .ok (.iload 6, 2) := by decide +kernel
theorem dX10_may_25 : decode cX10_may 25 = .ok (.invokevirtual 369, 3) := by decide +kernel
theorem dX10_may_28 : decode cX10_may 28 = .ok (.ifCond .ne 5, 3) := by decide +kernel
theorem dX10_may_31 : decode cX10_may 31 = .ok (.iconst 0, 1) := by decide +kernel
theorem dX10_may_32 : decode cX10_may 32 = .ok (.ireturn, 1) := by decide +kernel
theorem dX10_may_33 : decode cX10_may 33 = .ok (.aload_n 0, 1) := by decide +kernel
theorem dX10_may_34 : decode cX10_may 34 = .ok (.iload_n 1, 1) := by decide +kernel
theorem dX10_may_35 : decode cX10_may 35 = .ok (.iload_n 3, 1) := by decide +kernel
theorem dX10_may_36 : decode cX10_may 36 = .ok (.invokevirtual 393, 3) := by decide +kernel
theorem dX10_may_39 : decode cX10_may 39 = .ok (.aload_n 0, 1) := by decide +kernel
theorem dX10_may_40 : decode cX10_may 40 = .ok (.iconst 0, 1) := by decide +kernel
theorem dX10_may_41 : decode cX10_may 41 = .ok (.iload 4, 2) := by decide +kernel
theorem dX10_may_43 : decode cX10_may 43 = .ok (.iload 5, 2) := by decide +kernel
theorem dX10_may_45 : decode cX10_may 45 = .ok (.iload 6, 2) := by decide +kernel
theorem dX10_may_47 : decode cX10_may 47 = .ok (.iload 7, 2) := by decide +kernel
theorem dX10_may_49 : decode cX10_may 49 = .ok (.invokevirtual 477, 3) := by decide +kernel
theorem dX10_may_52 : decode cX10_may 52 = .ok (.aload_n 0, 1) := by decide +kernel
theorem dX10_may_53 : decode cX10_may 53 = .ok (.iload_n 2, 1) := by decide +kernel
theorem dX10_may_54 : decode cX10_may 54 = .ok (.iconst 0, 1) := by decide +kernel
theorem dX10_may_55 : decode cX10_may 55 = .ok (.iconst (-1), 1) := by decide +kernel
theorem dX10_may_56 : decode cX10_may 56 = .ok (.invokevirtual 481, 3) := by decide +kernel
theorem dX10_may_59 : decode cX10_may 59 = .ok (.ireturn, 1) := by decide +kernel
def rmX10_may : Room := { frames := 7, cells := 0, slots := 0, locals := 182 }
set_option maxRecDepth 100000 in
def g_X10_may_0 (th : Nat) (p1 : Int32) (p2 : Int32) (p3 : Int32) (p4 : Int32) (p5 : Int32) (p6 : Int32) (p7 : Int32) (m : MM) : Option (Int32 × MM) :=
  chk (m.K th = 11) (bnd (m.sI 1100 th 0 0) (fun m1 => cal (f_X10_isAsked th p1 p2 p3 p4 p7 m1) (fun r1 m2 => if r1 = 0 then (some (0, m2)) else (chk (m2.K th = 11) (cal (f_X10_isPoint th p1 p5 p6 m2) (fun r2 m3 => if r2 = 0 then (some (0, m3)) else (chk (m3.K th = 11) (cal (f_X10_bring th p1 p3 m3) (fun r3 m4 => chk (m4.K th = 11) (cal (f_X10_lay th 0 p4 p5 p6 p7 m4) (fun r4 m5 => chk (m5.K th = 11) (cal (f_X10_mayBy th p2 0 (-1) m5) (fun r5 m6 => chk (r5 = 0 ∨ r5 = 1) (some (r5, m6)))))))))))))))
set_option maxHeartbeats 4000000 in
set_option maxRecDepth 100000 in
theorem s_X10_may_0 {Γ : GX} {E : EX} (C : Cx Γ E cX10_may RX10 8) (hr : Γ.meth.sig.returnType = (some .boolean)) (hrm : Γ.rm = rmX10_may) (th : Nat) (p1 : Int32) (p2 : Int32) (p3 : Int32) (p4 : Int32) (p5 : Int32) (p6 : Int32) (p7 : Int32) (m : MM) : Sm (QM Γ E emI 0 0) Γ E 8 0 0 0 [(0, va_rf (some th)), (1, .int p1), (2, .int p2), (3, .int p3), (4, .int p4), (5, .int p5), (6, .int p6), (7, .int p7)] [] m (g_X10_may_0 th p1 p2 p3 p4 p5 p6 p7 m) := by
  unfold g_X10_may_0
  refine z_aload_n C dX10_may_0 rfl 0 rfl ?_
  refine z_iconst (v := 0) C dX10_may_1 (by decide) ?_
  refine z_chk (fun hk1 => ?_)
  refine z_putI C fl_RX10_180 (fun h => by cases h) rfl hk1 rfl rfl dX10_may_2 (fun m1 eK1 eN1 => ?_)
  refine z_aload_n C dX10_may_5 rfl 0 rfl ?_
  refine z_iload_n C dX10_may_6 rfl 1 rfl ?_
  refine z_iload_n C dX10_may_7 rfl 2 rfl ?_
  refine z_iload_n C dX10_may_8 rfl 3 rfl ?_
  refine z_iload C dX10_may_9 4 rfl ?_
  refine z_iload C dX10_may_11 7 rfl ?_
  refine z_cVI [.int p1, .int p2, .int p3, .int p4, .int p7] [] C mv_RX10_473 (fun r0 m0 h0 => M_X10_isAsked _ _ _ _ _ _ _ _ _ _ _ h0) rfl rfl ⟨by rw [hrm]; exact Nat.le_of_ble_eq_true rfl, by rw [hrm]; exact Nat.le_of_ble_eq_true rfl⟩ ⟨by rw [hrm]; exact Nat.le_of_ble_eq_true rfl, by rw [hrm]; exact Nat.le_of_ble_eq_true rfl⟩ rfl (kfw eK1 hk1) rfl rfl rfl (Nat.le_of_ble_eq_true rfl) dX10_may_13 (fun r1 m2 => ?_)
  refine z_if_eq (tgt := 31) C dX10_may_16 (by decide) (fun c1 => ?_) (fun c1 => ?_)
  · refine z_iconst (v := 0) C dX10_may_31 (by decide) ?_
    exact z_zret C hr rfl dX10_may_32
  · refine z_aload_n C dX10_may_19 rfl 0 rfl ?_
    refine z_iload_n C dX10_may_20 rfl 1 rfl ?_
    refine z_iload C dX10_may_21 5 rfl ?_
    refine z_iload C dX10_may_23 6 rfl ?_
    refine z_chk (fun hk2 => ?_)
    refine z_cVI [.int p1, .int p5, .int p6] [] C mv_RX10_369 (fun r0 m0 h0 => M_X10_isPoint _ _ _ _ _ _ _ _ _ h0) rfl rfl ⟨by rw [hrm]; exact Nat.le_of_ble_eq_true rfl, by rw [hrm]; exact Nat.le_of_ble_eq_true rfl⟩ ⟨by rw [hrm]; exact Nat.le_of_ble_eq_true rfl, by rw [hrm]; exact Nat.le_of_ble_eq_true rfl⟩ rfl hk2 rfl rfl rfl (Nat.le_of_ble_eq_true rfl) dX10_may_25 (fun r2 m3 => ?_)
    refine z_if_ne (tgt := 33) C dX10_may_28 (by decide) (fun c2 => ?_) (fun c2 => ?_)
    · refine z_aload_n C dX10_may_33 rfl 0 rfl ?_
      refine z_iload_n C dX10_may_34 rfl 1 rfl ?_
      refine z_iload_n C dX10_may_35 rfl 3 rfl ?_
      refine z_chk (fun hk3 => ?_)
      refine z_cVV [.int p1, .int p3] [] C mv_RX10_393 (fun r0 m0 h0 => M_X10_bring _ _ _ _ _ _ _ _ h0) rfl rfl ⟨by rw [hrm]; exact Nat.le_of_ble_eq_true rfl, by rw [hrm]; exact Nat.le_of_ble_eq_true rfl⟩ ⟨by rw [hrm]; exact Nat.le_of_ble_eq_true rfl, by rw [hrm]; exact Nat.le_of_ble_eq_true rfl⟩ rfl hk3 rfl rfl rfl (Nat.le_of_ble_eq_true rfl) dX10_may_36 (fun r3 m4 => ?_)
      refine z_aload_n C dX10_may_39 rfl 0 rfl ?_
      refine z_iconst (v := 0) C dX10_may_40 (by decide) ?_
      refine z_iload C dX10_may_41 4 rfl ?_
      refine z_iload C dX10_may_43 5 rfl ?_
      refine z_iload C dX10_may_45 6 rfl ?_
      refine z_iload C dX10_may_47 7 rfl ?_
      refine z_chk (fun hk4 => ?_)
      refine z_cVV [.int 0, .int p4, .int p5, .int p6, .int p7] [] C mv_RX10_477 (fun r0 m0 h0 => M_X10_lay _ _ _ _ _ _ _ _ _ _ _ h0) rfl rfl ⟨by rw [hrm]; exact Nat.le_of_ble_eq_true rfl, by rw [hrm]; exact Nat.le_of_ble_eq_true rfl⟩ ⟨by rw [hrm]; exact Nat.le_of_ble_eq_true rfl, by rw [hrm]; exact Nat.le_of_ble_eq_true rfl⟩ rfl hk4 rfl rfl rfl (Nat.le_of_ble_eq_true rfl) dX10_may_49 (fun r4 m5 => ?_)
      refine z_aload_n C dX10_may_52 rfl 0 rfl ?_
      refine z_iload_n C dX10_may_53 rfl 2 rfl ?_
      refine z_iconst (v := 0) C dX10_may_54 (by decide) ?_
      refine z_iconst (v := (-1)) C dX10_may_55 (by decide) ?_
      refine z_chk (fun hk5 => ?_)
      refine z_cVI [.int p2, .int 0, .int (-1)] [] C mv_RX10_481 (fun r0 m0 h0 => M_X10_mayBy _ _ _ _ _ _ _ _ _ h0) rfl rfl ⟨by rw [hrm]; exact Nat.le_of_ble_eq_true rfl, by rw [hrm]; exact Nat.le_of_ble_eq_true rfl⟩ ⟨by rw [hrm]; exact Nat.le_of_ble_eq_true rfl, by rw [hrm]; exact Nat.le_of_ble_eq_true rfl⟩ rfl hk5 rfl rfl rfl (Nat.le_of_ble_eq_true rfl) dX10_may_56 (fun r5 m6 => ?_)
      refine z_chk (fun hb1 => ?_)
      exact z_zret C hr (nb_of hb1) dX10_may_59
    · refine z_iconst (v := 0) C dX10_may_31 (by decide) ?_
      exact z_zret C hr rfl dX10_may_32
def f_X10_may (th : Nat) (p1 : Int32) (p2 : Int32) (p3 : Int32) (p4 : Int32) (p5 : Int32) (p6 : Int32) (p7 : Int32) (m : MM) : Option (Int32 × MM) := g_X10_may_0 th p1 p2 p3 p4 p5 p6 p7 m
theorem M_X10_may (l : Launch) (E : EX) (th : Nat) (p1 : Int32) (p2 : Int32) (p3 : Int32) (p4 : Int32) (p5 : Int32) (p6 : Int32) (p7 : Int32) (m : MM) (r : Int32) (m2 : MM) (h : f_X10_may th p1 p2 p3 p4 p5 p6 p7 m = some (r, m2)) : Met l yX10_may (.code yX10_may cX10_may 8 (some .boolean) :: TB) rmX10_may (va_Pc [.ref th, .int p1, .int p2, .int p3, .int p4, .int p5, .int p6, .int p7] (St E m)) (QR E (emI r) m2) 0 0 (AA E) :=
  met_of (em := emI) (plainFor_of_name rfl) (Nat.le_of_ble_eq_true rfl) (L0 := [(0, va_rf (some th)), (1, .int p1), (2, .int p2), (3, .int p3), (4, .int p4), (5, .int p5), (6, .int p6), (7, .int p7)]) rfl (fun Γ _ hrm C hr hn => s_X10_may_0 C hr hrm th p1 p2 p3 p4 p5 p6 p7 m) h

theorem dX10_spotsBy_0 : decode cX10_spotsBy 0 = .ok (.iconst 0, 1) := by decide +kernel
theorem dX10_spotsBy_1 : decode cX10_spotsBy 1 = .ok (.istore 6, 2) := by decide +kernel
theorem dX10_spotsBy_3 : decode cX10_spotsBy 3 = .ok (.aload_n 0, 1) := by decide +kernel
theorem dX10_spotsBy_4 : decode cX10_spotsBy 4 = .ok (.iconst (-1), 1) := by decide +kernel
theorem dX10_spotsBy_5 : decode cX10_spotsBy 5 = .ok (.putfield 484, 3) := by decide +kernel
theorem dX10_spotsBy_8 : decode cX10_spotsBy 8 = .ok (.iconst 0, 1) := by decide +kernel
theorem dX10_spotsBy_9 : decode cX10_spotsBy 9 = .ok (.istore 7, 2) := by decide +kernel
theorem dX10_spotsBy_11 : decode cX10_spotsBy 11 = .ok (.iload 7, 2) := by decide +kernel
theorem dX10_spotsBy_13 : decode cX10_spotsBy 13 = .ok (.bipush 64, 2) := by decide +kernel
theorem dX10_spotsBy_15 : decode cX10_spotsBy 15 = .ok (.if_icmp .ge 81, 3) := by decide +kernel
theorem dX10_spotsBy_18 : decode cX10_spotsBy 18 = .ok (.aload_n 0, 1) := by decide +kernel
theorem dX10_spotsBy_19 : decode cX10_spotsBy 19 = .ok (.iload_n 1, 1) := by decide +kernel
theorem dX10_spotsBy_20 : decode cX10_spotsBy 20 = .ok (.iload 7, 2) := by decide +kernel
theorem dX10_spotsBy_22 : decode cX10_spotsBy 22 = .ok (.bipush 8, 2) := by decide +kernel
theorem dX10_spotsBy_24 : decode cX10_spotsBy 24 = .ok (.irem, 1) := by decide +kernel
theorem dX10_spotsBy_25 : decode cX10_spotsBy 25 = .ok (.iload 7, 2) := by decide +kernel
theorem dX10_spotsBy_27 : decode cX10_spotsBy 27 = .ok (.bipush 8, 2) := by decide +kernel
theorem dX10_spotsBy_29 : decode cX10_spotsBy 29 = .ok (.idiv, 1) := by decide +kernel
theorem dX10_spotsBy_30 : decode cX10_spotsBy 30 = .ok (.invokevirtual 369, 3) := by decide +kernel
theorem dX10_spotsBy_33 : decode cX10_spotsBy 33 = .ok (.ifCond .ne 6, 3) := by decide +kernel
theorem dX10_spotsBy_36 : decode cX10_spotsBy 36 = .ok (.goto 54, 3) := by decide +kernel
theorem dX10_spotsBy_39 : decode cX10_spotsBy 39 = .ok (.aload_n 0, 1) := by decide +kernel
theorem dX10_spotsBy_40 : decode cX10_spotsBy 40 = .ok (.iconst 0, 1) := by decide +kernel
theorem dX10_spotsBy_41 : decode cX10_spotsBy 41 = .ok (.iload_n 3, 1) := by decide +kernel
theorem dX10_spotsBy_42 : decode cX10_spotsBy 42 = .ok (.iload 7, 2) := by decide +kernel
theorem dX10_spotsBy_44 : decode cX10_spotsBy 44 = .ok (.bipush 8, 2) := by decide +kernel
theorem dX10_spotsBy_46 : decode cX10_spotsBy 46 = .ok (.irem, 1) := by decide +kernel
theorem dX10_spotsBy_47 : decode cX10_spotsBy 47 = .ok (.iload 7, 2) := by decide +kernel
theorem dX10_spotsBy_49 : decode cX10_spotsBy 49 = .ok (.bipush 8, 2) := by decide +kernel
theorem dX10_spotsBy_51 : decode cX10_spotsBy 51 = .ok (.idiv, 1) := by decide +kernel
theorem dX10_spotsBy_52 : decode cX10_spotsBy 52 = .ok (.iload 4, 2) := by decide +kernel
theorem dX10_spotsBy_54 : decode cX10_spotsBy 54 = .ok (.invokevirtual 477, 3) := by decide +kernel
theorem dX10_spotsBy_57 : decode cX10_spotsBy 57 = .ok (.aload_n 0, 1) := by decide +kernel
theorem dX10_spotsBy_58 : decode cX10_spotsBy 58 = .ok (.iload_n 2, 1) := by decide +kernel
theorem dX10_spotsBy_59 : decode cX10_spotsBy 59 = .ok (.iconst 0, 1) := by decide +kernel
theorem dX10_spotsBy_60 : decode cX10_spotsBy 60 = .ok (.iconst (-1), 1) := by decide +kernel
theorem dX10_spotsBy_61 : decode cX10_spotsBy 61 = .ok (.invokevirtual 481, 3) := by decide +kernel
theorem dX10_spotsBy_64 : decode cX10_spotsBy 64 = .ok (.ifCond .eq 26, 3) := by decide +kernel
theorem dX10_spotsBy_67 : decode cX10_spotsBy 67 = .ok (.aload_n 0, 1) := by decide +kernel
theorem dX10_spotsBy_68 : decode cX10_spotsBy 68 = .ok (.iload 6, 2) := by decide +kernel
theorem dX10_spotsBy_70 : decode cX10_spotsBy 70 = .ok (.iload 5, 2) := by decide +kernel
theorem dX10_spotsBy_72 : decode cX10_spotsBy 72 = .ok (.if_icmp .ne 8, 3) := by decide +kernel
theorem dX10_spotsBy_75 : decode cX10_spotsBy 75 = .ok (.iload 7, 2) := by decide +kernel
theorem dX10_spotsBy_77 : decode cX10_spotsBy 77 = .ok (.goto 7, 3) := by decide +kernel
theorem dX10_spotsBy_80 : decode cX10_spotsBy 80 = .ok (.aload_n 0, 1) := by decide +kernel
theorem dX10_spotsBy_81 : decode cX10_spotsBy 81 = .ok (.getfield 484, 3) := by decide +kernel
theorem dX10_spotsBy_84 : decode cX10_spotsBy 84 = .ok (.putfield 484, 3) := by decide +kernel
theorem dX10_spotsBy_87 : decode cX10_spotsBy 87 = .ok (.iinc 6 1, 3) := by decide +kernel
theorem dX10_spotsBy_90 : decode cX10_spotsBy 90 = .ok (.iinc 7 1, 3) := by decide +kernel
theorem dX10_spotsBy_93 : decode cX10_spotsBy 93 = .ok (.goto (-82), 3) := by decide +kernel
theorem dX10_spotsBy_96 : decode cX10_spotsBy 96 = .ok (.iload 6, 2) := by decide +kernel
theorem dX10_spotsBy_98 : decode cX10_spotsBy 98 = .ok (.ireturn, 1) := by decide +kernel
def rmX10_spotsBy : Room := { frames := 7, cells := 0, slots := 0, locals := 182 }
set_option maxRecDepth 100000 in
def g_X10_spotsBy_90 (th : Nat) (p1 : Int32) (p2 : Int32) (p3 : Int32) (p4 : Int32) (p5 : Int32) (k11 : Int32 → Int32 → MM → Option (Int32 × MM)) (x6 : Int32) (x7 : Int32) (m : MM) : Option (Int32 × MM) :=
  k11 x6 (x7 + 1) m
set_option maxHeartbeats 4000000 in
set_option maxRecDepth 100000 in
theorem s_X10_spotsBy_90 {Γ : GX} {E : EX} (C : Cx Γ E cX10_spotsBy RX10 8) (hr : Γ.meth.sig.returnType = (some .int)) (hrm : Γ.rm = rmX10_spotsBy) (th : Nat) (p1 : Int32) (p2 : Int32) (p3 : Int32) (p4 : Int32) (p5 : Int32) (k11 : Int32 → Int32 → MM → Option (Int32 × MM)) (h11 : ∀ (x6 : Int32) (x7 : Int32) (m : MM), Sm (QM Γ E emI 0 0) Γ E 8 0 0 11 [(0, va_rf (some th)), (1, .int p1), (2, .int p2), (3, .int p3), (4, .int p4), (5, .int p5), (6, .int x6), (7, .int x7)] [] m (k11 x6 x7 m)) (x6 : Int32) (x7 : Int32) (m : MM) : Sm (QM Γ E emI 0 0) Γ E 8 0 0 90 [(0, va_rf (some th)), (1, .int p1), (2, .int p2), (3, .int p3), (4, .int p4), (5, .int p5), (6, .int x6), (7, .int x7)] [] m (g_X10_spotsBy_90 th p1 p2 p3 p4 p5 k11 x6 x7 m) := by
  unfold g_X10_spotsBy_90
  refine z_iinc (v := 1) (L2 := [(7, .int (x7 + 1)), (0, va_rf (some th)), (1, .int p1), (2, .int p2), (3, .int p3), (4, .int p4), (5, .int p5), (6, .int x6)]) C dX10_spotsBy_90 7 rfl (by decide) (by decide) rfl ?_
  refine z_goto (tgt := 11) C dX10_spotsBy_93 (by decide) ?_
  exact z_sub [1, 2, 3, 4, 5, 6, 7, 0] rfl (h11 x6 (x7 + 1) m)
set_option maxRecDepth 100000 in
def g_X10_spotsBy_84 (th : Nat) (p1 : Int32) (p2 : Int32) (p3 : Int32) (p4 : Int32) (p5 : Int32) (k11 : Int32 → Int32 → MM → Option (Int32 × MM)) (x6 : Int32) (x7 : Int32) (s0 : Option Nat) (s1 : Int32) (m : MM) : Option (Int32 × MM) :=
  ck m s0 11 (fun a1 => bnd (m.sI 1175 a1 0 s1) (fun m1 => g_X10_spotsBy_90 th p1 p2 p3 p4 p5 k11 (x6 + 1) x7 m1))
set_option maxHeartbeats 4000000 in
set_option maxRecDepth 100000 in
theorem s_X10_spotsBy_84 {Γ : GX} {E : EX} (C : Cx Γ E cX10_spotsBy RX10 8) (hr : Γ.meth.sig.returnType = (some .int)) (hrm : Γ.rm = rmX10_spotsBy) (th : Nat) (p1 : Int32) (p2 : Int32) (p3 : Int32) (p4 : Int32) (p5 : Int32) (k11 : Int32 → Int32 → MM → Option (Int32 × MM)) (h11 : ∀ (x6 : Int32) (x7 : Int32) (m : MM), Sm (QM Γ E emI 0 0) Γ E 8 0 0 11 [(0, va_rf (some th)), (1, .int p1), (2, .int p2), (3, .int p3), (4, .int p4), (5, .int p5), (6, .int x6), (7, .int x7)] [] m (k11 x6 x7 m)) (x6 : Int32) (x7 : Int32) (s0 : Option Nat) (s1 : Int32) (m : MM) : Sm (QM Γ E emI 0 0) Γ E 8 0 0 84 [(0, va_rf (some th)), (1, .int p1), (2, .int p2), (3, .int p3), (4, .int p4), (5, .int p5), (6, .int x6), (7, .int x7)] [.int s1, va_rf s0] m (g_X10_spotsBy_84 th p1 p2 p3 p4 p5 k11 x6 x7 s0 s1 m) := by
  unfold g_X10_spotsBy_84
  refine z_ck (fun a1 hr1 hk1 => ?_)
  refine z_putI C fl_RX10_484 (fun h => by cases h) hr1 hk1 rfl rfl dX10_spotsBy_84 (fun m1 eK1 eN1 => ?_)
  refine z_iinc (v := 1) (L2 := [(6, .int (x6 + 1)), (0, va_rf (some th)), (1, .int p1), (2, .int p2), (3, .int p3), (4, .int p4), (5, .int p5), (7, .int x7)]) C dX10_spotsBy_87 6 rfl (by decide) (by decide) rfl ?_
  exact z_sub [1, 2, 3, 4, 5, 6, 0, 7] rfl (s_X10_spotsBy_90 C hr hrm th p1 p2 p3 p4 p5 k11 h11 (x6 + 1) x7 m1)
set_option maxRecDepth 100000 in
def g_X10_spotsBy_11 (th : Nat) (p1 : Int32) (p2 : Int32) (p3 : Int32) (p4 : Int32) (p5 : Int32) (k11 : Int32 → Int32 → MM → Option (Int32 × MM)) (x6 : Int32) (x7 : Int32) (m : MM) : Option (Int32 × MM) :=
  if 64 ≤ x7 then (some (x6, m)) else (chk (m.K th = 11) (cal (f_X10_isPoint th p1 (x7 - x7 / 8 * 8) (x7 / 8) m) (fun r1 m2 => if r1 = 0 then (g_X10_spotsBy_90 th p1 p2 p3 p4 p5 k11 x6 x7 m2) else (chk (m2.K th = 11) (cal (f_X10_lay th 0 p3 (x7 - x7 / 8 * 8) (x7 / 8) p4 m2) (fun r2 m3 => chk (m3.K th = 11) (cal (f_X10_mayBy th p2 0 (-1) m3) (fun r3 m4 => if r3 = 0 then (g_X10_spotsBy_90 th p1 p2 p3 p4 p5 k11 x6 x7 m4) else (if x6 = p5 then (g_X10_spotsBy_84 th p1 p2 p3 p4 p5 k11 x6 x7 (some th) x7 m4) else (chk (m4.K th = 11) (g_X10_spotsBy_84 th p1 p2 p3 p4 p5 k11 x6 x7 (some th) (m4.I 1175 th 0) m4)))))))))))
set_option maxHeartbeats 4000000 in
set_option maxRecDepth 100000 in
theorem s_X10_spotsBy_11 {Γ : GX} {E : EX} (C : Cx Γ E cX10_spotsBy RX10 8) (hr : Γ.meth.sig.returnType = (some .int)) (hrm : Γ.rm = rmX10_spotsBy) (th : Nat) (p1 : Int32) (p2 : Int32) (p3 : Int32) (p4 : Int32) (p5 : Int32) (k11 : Int32 → Int32 → MM → Option (Int32 × MM)) (h11 : ∀ (x6 : Int32) (x7 : Int32) (m : MM), Sm (QM Γ E emI 0 0) Γ E 8 0 0 11 [(0, va_rf (some th)), (1, .int p1), (2, .int p2), (3, .int p3), (4, .int p4), (5, .int p5), (6, .int x6), (7, .int x7)] [] m (k11 x6 x7 m)) (x6 : Int32) (x7 : Int32) (m : MM) : Sm (QM Γ E emI 0 0) Γ E 8 0 0 11 [(0, va_rf (some th)), (1, .int p1), (2, .int p2), (3, .int p3), (4, .int p4), (5, .int p5), (6, .int x6), (7, .int x7)] [] m (g_X10_spotsBy_11 th p1 p2 p3 p4 p5 k11 x6 x7 m) := by
  unfold g_X10_spotsBy_11
  refine z_iload C dX10_spotsBy_11 7 rfl ?_
  refine z_bipush (v := 64) C dX10_spotsBy_13 (by decide) ?_
  refine z_icmp_ge (tgt := 96) C dX10_spotsBy_15 (by decide) (fun c1 => ?_) (fun c1 => ?_)
  · refine z_iload C dX10_spotsBy_96 6 rfl ?_
    exact z_iret C hr dX10_spotsBy_98
  · refine z_aload_n C dX10_spotsBy_18 rfl 0 rfl ?_
    refine z_iload_n C dX10_spotsBy_19 rfl 1 rfl ?_
    refine z_iload C dX10_spotsBy_20 7 rfl ?_
    refine z_bipush (v := 8) C dX10_spotsBy_22 (by decide) ?_
    refine z_irem C (by decide) dX10_spotsBy_24 ?_
    refine z_iload C dX10_spotsBy_25 7 rfl ?_
    refine z_bipush (v := 8) C dX10_spotsBy_27 (by decide) ?_
    refine z_idiv C (by decide) dX10_spotsBy_29 ?_
    refine z_chk (fun hk2 => ?_)
    refine z_cVI [.int p1, .int (x7 - x7 / 8 * 8), .int (x7 / 8)] [] C mv_RX10_369 (fun r0 m0 h0 => M_X10_isPoint _ _ _ _ _ _ _ _ _ h0) rfl rfl ⟨by rw [hrm]; exact Nat.le_of_ble_eq_true rfl, by rw [hrm]; exact Nat.le_of_ble_eq_true rfl⟩ ⟨by rw [hrm]; exact Nat.le_of_ble_eq_true rfl, by rw [hrm]; exact Nat.le_of_ble_eq_true rfl⟩ rfl hk2 rfl rfl rfl (Nat.le_of_ble_eq_true rfl) dX10_spotsBy_30 (fun r1 m2 => ?_)
    refine z_if_ne (tgt := 39) C dX10_spotsBy_33 (by decide) (fun c2 => ?_) (fun c2 => ?_)
    · refine z_aload_n C dX10_spotsBy_39 rfl 0 rfl ?_
      refine z_iconst (v := 0) C dX10_spotsBy_40 (by decide) ?_
      refine z_iload_n C dX10_spotsBy_41 rfl 3 rfl ?_
      refine z_iload C dX10_spotsBy_42 7 rfl ?_
      refine z_bipush (v := 8) C dX10_spotsBy_44 (by decide) ?_
      refine z_irem C (by decide) dX10_spotsBy_46 ?_
      refine z_iload C dX10_spotsBy_47 7 rfl ?_
      refine z_bipush (v := 8) C dX10_spotsBy_49 (by decide) ?_
      refine z_idiv C (by decide) dX10_spotsBy_51 ?_
      refine z_iload C dX10_spotsBy_52 4 rfl ?_
      refine z_chk (fun hk3 => ?_)
      refine z_cVV [.int 0, .int p3, .int (x7 - x7 / 8 * 8), .int (x7 / 8), .int p4] [] C mv_RX10_477 (fun r0 m0 h0 => M_X10_lay _ _ _ _ _ _ _ _ _ _ _ h0) rfl rfl ⟨by rw [hrm]; exact Nat.le_of_ble_eq_true rfl, by rw [hrm]; exact Nat.le_of_ble_eq_true rfl⟩ ⟨by rw [hrm]; exact Nat.le_of_ble_eq_true rfl, by rw [hrm]; exact Nat.le_of_ble_eq_true rfl⟩ rfl hk3 rfl rfl rfl (Nat.le_of_ble_eq_true rfl) dX10_spotsBy_54 (fun r2 m3 => ?_)
      refine z_aload_n C dX10_spotsBy_57 rfl 0 rfl ?_
      refine z_iload_n C dX10_spotsBy_58 rfl 2 rfl ?_
      refine z_iconst (v := 0) C dX10_spotsBy_59 (by decide) ?_
      refine z_iconst (v := (-1)) C dX10_spotsBy_60 (by decide) ?_
      refine z_chk (fun hk4 => ?_)
      refine z_cVI [.int p2, .int 0, .int (-1)] [] C mv_RX10_481 (fun r0 m0 h0 => M_X10_mayBy _ _ _ _ _ _ _ _ _ h0) rfl rfl ⟨by rw [hrm]; exact Nat.le_of_ble_eq_true rfl, by rw [hrm]; exact Nat.le_of_ble_eq_true rfl⟩ ⟨by rw [hrm]; exact Nat.le_of_ble_eq_true rfl, by rw [hrm]; exact Nat.le_of_ble_eq_true rfl⟩ rfl hk4 rfl rfl rfl (Nat.le_of_ble_eq_true rfl) dX10_spotsBy_61 (fun r3 m4 => ?_)
      refine z_if_eq (tgt := 90) C dX10_spotsBy_64 (by decide) (fun c3 => ?_) (fun c3 => ?_)
      · exact z_sub [0, 1, 2, 3, 4, 5, 6, 7] rfl (s_X10_spotsBy_90 C hr hrm th p1 p2 p3 p4 p5 k11 h11 x6 x7 m4)
      · refine z_aload_n C dX10_spotsBy_67 rfl 0 rfl ?_
        refine z_iload C dX10_spotsBy_68 6 rfl ?_
        refine z_iload C dX10_spotsBy_70 5 rfl ?_
        refine z_icmp_ne (tgt := 80) C dX10_spotsBy_72 (by decide) (fun c4 => ?_) (fun c4 => ?_)
        · refine z_aload_n C dX10_spotsBy_80 rfl 0 rfl ?_
          refine z_chk (fun hk5 => ?_)
          refine z_getI C fl_RX10_484 rfl hk5 dX10_spotsBy_81 ?_
          exact z_sub [0, 1, 2, 3, 4, 5, 6, 7] rfl (s_X10_spotsBy_84 C hr hrm th p1 p2 p3 p4 p5 k11 h11 x6 x7 (some th) (m4.I 1175 th 0) m4)
        · refine z_iload C dX10_spotsBy_75 7 rfl ?_
          refine z_goto (tgt := 84) C dX10_spotsBy_77 (by decide) ?_
          exact z_sub [0, 1, 2, 3, 4, 5, 6, 7] rfl (s_X10_spotsBy_84 C hr hrm th p1 p2 p3 p4 p5 k11 h11 x6 x7 (some th) x7 m4)
    · refine z_goto (tgt := 90) C dX10_spotsBy_36 (by decide) ?_
      exact z_sub [0, 1, 2, 3, 4, 5, 6, 7] rfl (s_X10_spotsBy_90 C hr hrm th p1 p2 p3 p4 p5 k11 h11 x6 x7 m2)
def l_X10_spotsBy_11 (th : Nat) (p1 : Int32) (p2 : Int32) (p3 : Int32) (p4 : Int32) (p5 : Int32) : Nat → Int32 → Int32 → MM → Option (Int32 × MM) := lp (fun _ _ _ => none) (fun k11 => g_X10_spotsBy_11 th p1 p2 p3 p4 p5 k11)
theorem t_X10_spotsBy_11 {Γ : GX} {E : EX} (C : Cx Γ E cX10_spotsBy RX10 8) (hr : Γ.meth.sig.returnType = (some .int)) (hrm : Γ.rm = rmX10_spotsBy) (th : Nat) (p1 : Int32) (p2 : Int32) (p3 : Int32) (p4 : Int32) (p5 : Int32) : ∀ (n : Nat) (x6 : Int32) (x7 : Int32) (m : MM), Sm (QM Γ E emI 0 0) Γ E 8 0 0 11 [(0, va_rf (some th)), (1, .int p1), (2, .int p2), (3, .int p3), (4, .int p4), (5, .int p5), (6, .int x6), (7, .int x7)] [] m (l_X10_spotsBy_11 th p1 p2 p3 p4 p5 n x6 x7 m) := by
  intro n
  induction n with
  | zero => intros; exact z_none
  | succ n ih => intro x6 x7 m; exact s_X10_spotsBy_11 C hr hrm th p1 p2 p3 p4 p5 (l_X10_spotsBy_11 th p1 p2 p3 p4 p5 n) ih x6 x7 m
set_option maxRecDepth 100000 in
def g_X10_spotsBy_0 (th : Nat) (p1 : Int32) (p2 : Int32) (p3 : Int32) (p4 : Int32) (p5 : Int32) (m : MM) : Option (Int32 × MM) :=
  chk (m.K th = 11) (bnd (m.sI 1175 th 0 (-1)) (fun m5 => l_X10_spotsBy_11 th p1 p2 p3 p4 p5 FU 0 0 m5))
set_option maxHeartbeats 4000000 in
set_option maxRecDepth 100000 in
theorem s_X10_spotsBy_0 {Γ : GX} {E : EX} (C : Cx Γ E cX10_spotsBy RX10 8) (hr : Γ.meth.sig.returnType = (some .int)) (hrm : Γ.rm = rmX10_spotsBy) (th : Nat) (p1 : Int32) (p2 : Int32) (p3 : Int32) (p4 : Int32) (p5 : Int32) (m : MM) : Sm (QM Γ E emI 0 0) Γ E 8 0 0 0 [(0, va_rf (some th)), (1, .int p1), (2, .int p2), (3, .int p3), (4, .int p4), (5, .int p5)] [] m (g_X10_spotsBy_0 th p1 p2 p3 p4 p5 m) := by
  unfold g_X10_spotsBy_0
  refine z_iconst (v := 0) C dX10_spotsBy_0 (by decide) ?_
  refine z_istore (i := 6) (L2 := [(6, .int 0), (0, va_rf (some th)), (1, .int p1), (2, .int p2), (3, .int p3), (4, .int p4), (5, .int p5)]) C dX10_spotsBy_1 (by decide) rfl ?_
  refine z_aload_n C dX10_spotsBy_3 rfl 1 rfl ?_
  refine z_iconst (v := (-1)) C dX10_spotsBy_4 (by decide) ?_
  refine z_chk (fun hk6 => ?_)
  refine z_putI C fl_RX10_484 (fun h => by cases h) rfl hk6 rfl rfl dX10_spotsBy_5 (fun m5 eK2 eN2 => ?_)
  refine z_iconst (v := 0) C dX10_spotsBy_8 (by decide) ?_
  refine z_istore (i := 7) (L2 := [(7, .int 0), (6, .int 0), (0, va_rf (some th)), (1, .int p1), (2, .int p2), (3, .int p3), (4, .int p4), (5, .int p5)]) C dX10_spotsBy_9 (by decide) rfl ?_
  exact z_sub [2, 3, 4, 5, 6, 7, 1, 0] rfl (t_X10_spotsBy_11 C hr hrm th p1 p2 p3 p4 p5 FU 0 0 m5)
def f_X10_spotsBy (th : Nat) (p1 : Int32) (p2 : Int32) (p3 : Int32) (p4 : Int32) (p5 : Int32) (m : MM) : Option (Int32 × MM) := g_X10_spotsBy_0 th p1 p2 p3 p4 p5 m
theorem M_X10_spotsBy (l : Launch) (E : EX) (th : Nat) (p1 : Int32) (p2 : Int32) (p3 : Int32) (p4 : Int32) (p5 : Int32) (m : MM) (r : Int32) (m2 : MM) (h : f_X10_spotsBy th p1 p2 p3 p4 p5 m = some (r, m2)) : Met l yX10_spotsBy (.code yX10_spotsBy cX10_spotsBy 8 (some .int) :: TB) rmX10_spotsBy (va_Pc [.ref th, .int p1, .int p2, .int p3, .int p4, .int p5] (St E m)) (QR E (emI r) m2) 0 0 (AA E) :=
  met_of (em := emI) (plainFor_of_name rfl) (Nat.le_of_ble_eq_true rfl) (L0 := [(0, va_rf (some th)), (1, .int p1), (2, .int p2), (3, .int p3), (4, .int p4), (5, .int p5)]) rfl (fun Γ _ hrm C hr hn => s_X10_spotsBy_0 C hr hrm th p1 p2 p3 p4 p5 m) h

theorem dX10_spots_0 : decode cX10_spots 0 = .ok (.aload_n 0, 1) := by decide +kernel
theorem dX10_spots_1 : decode cX10_spots 1 = .ok (.iconst 0, 1) := by decide +kernel
theorem dX10_spots_2 : decode cX10_spots 2 = .ok (.putfield 180, 3) := by decide +kernel
theorem dX10_spots_5 : decode cX10_spots 5 = .ok (.aload_n 0, 1) := by decide +kernel
theorem dX10_spots_6 : decode cX10_spots 6 = .ok (.iload_n 1, 1) := by decide +kernel
theorem dX10_spots_7 : decode cX10_spots 7 = .ok (.iload_n 2, 1) := by decide +kernel
theorem dX10_spots_8 : decode cX10_spots 8 = .ok (.iload_n 3, 1) := by decide +kernel
theorem dX10_spots_9 : decode cX10_spots 9 = .ok (.iload 4, 2) := by decide +kernel
theorem dX10_spots_11 : decode cX10_spots 11 = .ok (.iload 5, 2) := by decide +kernel
theorem dX10_spots_13 : decode cX10_spots 13 = .ok (.invokevirtual 473, 3) := by decide +kernel
theorem dX10_spots_16 : decode cX10_spots 16 = .ok (.ifCond .ne 5, 3) := by decide +kernel
theorem dX10_spots_19 : decode cX10_spots 19 = .ok (.iconst (-1), 1) := by decide +kernel
theorem dX10_spots_20 : decode cX10_spots 20 = .ok (.ireturn, 1) := by decide +kernel
theorem dX10_spots_21 : decode cX10_spots 21 = .ok (.aload_n 0, 1) := by decide +kernel
theorem dX10_spots_22 : decode cX10_spots 22 = .ok (.iload_n 1, 1) := by decide +kernel
theorem dX10_spots_23 : decode cX10_spots 23 = .ok (.iload_n 3, 1) := by decide +kernel
theorem dX10_spots_24 : decode cX10_spots 24 = .ok (.invokevirtual 393, 3) := by decide +kernel
theorem dX10_spots_27 : decode cX10_spots 27 = .ok (.aload_n 0, 1) := by decide +kernel
theorem dX10_spots_28 : decode cX10_spots 28 = .ok (.iload_n 1, 1) := by decide +kernel
theorem dX10_spots_29 : decode cX10_spots 29 = .ok (.iload_n 2, 1) := by decide +kernel
theorem dX10_spots_30 : decode cX10_spots 30 = .ok (.iload 4, 2) := by decide +kernel
theorem dX10_spots_32 : decode cX10_spots 32 = .ok (.iload 5, 2) := by decide +kernel
theorem dX10_spots_34 : decode cX10_spots 34 = .ok (.iconst (-1), 1) := by decide +kernel
theorem dX10_spots_35 : decode cX10_spots 35 = .ok (.invokevirtual 487, 3) := by decide +kernel
theorem dX10_spots_38 : decode cX10_spots 38 = .ok (.ireturn, 1) := by decide +kernel
def rmX10_spots : Room := { frames := 8, cells := 0, slots := 0, locals := 209 }
set_option maxRecDepth 100000 in
def g_X10_spots_0 (th : Nat) (p1 : Int32) (p2 : Int32) (p3 : Int32) (p4 : Int32) (p5 : Int32) (m : MM) : Option (Int32 × MM) :=
  chk (m.K th = 11) (bnd (m.sI 1100 th 0 0) (fun m1 => cal (f_X10_isAsked th p1 p2 p3 p4 p5 m1) (fun r1 m2 => if r1 = 0 then (some ((-1), m2)) else (chk (m2.K th = 11) (cal (f_X10_bring th p1 p3 m2) (fun r2 m3 => chk (m3.K th = 11) (cal (f_X10_spotsBy th p1 p2 p4 p5 (-1) m3) (fun r3 m4 => some (r3, m4)))))))))
set_option maxHeartbeats 4000000 in
set_option maxRecDepth 100000 in
theorem s_X10_spots_0 {Γ : GX} {E : EX} (C : Cx Γ E cX10_spots RX10 6) (hr : Γ.meth.sig.returnType = (some .int)) (hrm : Γ.rm = rmX10_spots) (th : Nat) (p1 : Int32) (p2 : Int32) (p3 : Int32) (p4 : Int32) (p5 : Int32) (m : MM) : Sm (QM Γ E emI 0 0) Γ E 6 0 0 0 [(0, va_rf (some th)), (1, .int p1), (2, .int p2), (3, .int p3), (4, .int p4), (5, .int p5)] [] m (g_X10_spots_0 th p1 p2 p3 p4 p5 m) := by
  unfold g_X10_spots_0
  refine z_aload_n C dX10_spots_0 rfl 0 rfl ?_
  refine z_iconst (v := 0) C dX10_spots_1 (by decide) ?_
  refine z_chk (fun hk1 => ?_)
  refine z_putI C fl_RX10_180 (fun h => by cases h) rfl hk1 rfl rfl dX10_spots_2 (fun m1 eK1 eN1 => ?_)
  refine z_aload_n C dX10_spots_5 rfl 0 rfl ?_
  refine z_iload_n C dX10_spots_6 rfl 1 rfl ?_
  refine z_iload_n C dX10_spots_7 rfl 2 rfl ?_
  refine z_iload_n C dX10_spots_8 rfl 3 rfl ?_
  refine z_iload C dX10_spots_9 4 rfl ?_
  refine z_iload C dX10_spots_11 5 rfl ?_
  refine z_cVI [.int p1, .int p2, .int p3, .int p4, .int p5] [] C mv_RX10_473 (fun r0 m0 h0 => M_X10_isAsked _ _ _ _ _ _ _ _ _ _ _ h0) rfl rfl ⟨by rw [hrm]; exact Nat.le_of_ble_eq_true rfl, by rw [hrm]; exact Nat.le_of_ble_eq_true rfl⟩ ⟨by rw [hrm]; exact Nat.le_of_ble_eq_true rfl, by rw [hrm]; exact Nat.le_of_ble_eq_true rfl⟩ rfl (kfw eK1 hk1) rfl rfl rfl (Nat.le_of_ble_eq_true rfl) dX10_spots_13 (fun r1 m2 => ?_)
  refine z_if_ne (tgt := 21) C dX10_spots_16 (by decide) (fun c1 => ?_) (fun c1 => ?_)
  · refine z_aload_n C dX10_spots_21 rfl 0 rfl ?_
    refine z_iload_n C dX10_spots_22 rfl 1 rfl ?_
    refine z_iload_n C dX10_spots_23 rfl 3 rfl ?_
    refine z_chk (fun hk2 => ?_)
    refine z_cVV [.int p1, .int p3] [] C mv_RX10_393 (fun r0 m0 h0 => M_X10_bring _ _ _ _ _ _ _ _ h0) rfl rfl ⟨by rw [hrm]; exact Nat.le_of_ble_eq_true rfl, by rw [hrm]; exact Nat.le_of_ble_eq_true rfl⟩ ⟨by rw [hrm]; exact Nat.le_of_ble_eq_true rfl, by rw [hrm]; exact Nat.le_of_ble_eq_true rfl⟩ rfl hk2 rfl rfl rfl (Nat.le_of_ble_eq_true rfl) dX10_spots_24 (fun r2 m3 => ?_)
    refine z_aload_n C dX10_spots_27 rfl 0 rfl ?_
    refine z_iload_n C dX10_spots_28 rfl 1 rfl ?_
    refine z_iload_n C dX10_spots_29 rfl 2 rfl ?_
    refine z_iload C dX10_spots_30 4 rfl ?_
    refine z_iload C dX10_spots_32 5 rfl ?_
    refine z_iconst (v := (-1)) C dX10_spots_34 (by decide) ?_
    refine z_chk (fun hk3 => ?_)
    refine z_cVI [.int p1, .int p2, .int p4, .int p5, .int (-1)] [] C mv_RX10_487 (fun r0 m0 h0 => M_X10_spotsBy _ _ _ _ _ _ _ _ _ _ _ h0) rfl rfl ⟨by rw [hrm]; exact Nat.le_of_ble_eq_true rfl, by rw [hrm]; exact Nat.le_of_ble_eq_true rfl⟩ ⟨by rw [hrm]; exact Nat.le_of_ble_eq_true rfl, by rw [hrm]; exact Nat.le_of_ble_eq_true rfl⟩ rfl hk3 rfl rfl rfl (Nat.le_of_ble_eq_true rfl) dX10_spots_35 (fun r3 m4 => ?_)
    exact z_iret C hr dX10_spots_38
  · refine z_iconst (v := (-1)) C dX10_spots_19 (by decide) ?_
    exact z_iret C hr dX10_spots_20
def f_X10_spots (th : Nat) (p1 : Int32) (p2 : Int32) (p3 : Int32) (p4 : Int32) (p5 : Int32) (m : MM) : Option (Int32 × MM) := g_X10_spots_0 th p1 p2 p3 p4 p5 m
theorem M_X10_spots (l : Launch) (E : EX) (th : Nat) (p1 : Int32) (p2 : Int32) (p3 : Int32) (p4 : Int32) (p5 : Int32) (m : MM) (r : Int32) (m2 : MM) (h : f_X10_spots th p1 p2 p3 p4 p5 m = some (r, m2)) : Met l yX10_spots (.code yX10_spots cX10_spots 6 (some .int) :: TB) rmX10_spots (va_Pc [.ref th, .int p1, .int p2, .int p3, .int p4, .int p5] (St E m)) (QR E (emI r) m2) 0 0 (AA E) :=
  met_of (em := emI) (plainFor_of_name rfl) (Nat.le_of_ble_eq_true rfl) (L0 := [(0, va_rf (some th)), (1, .int p1), (2, .int p2), (3, .int p3), (4, .int p4), (5, .int p5)]) rfl (fun Γ _ hrm C hr hn => s_X10_spots_0 C hr hrm th p1 p2 p3 p4 p5 m) h

theorem dX10_spot_0 : decode cX10_spot 0 = .ok (.aload_n 0, 1) := by decide +kernel
theorem dX10_spot_1 : decode cX10_spot 1 = .ok (.iconst 0, 1) := by decide +kernel
theorem dX10_spot_2 : decode cX10_spot 2 = .ok (.putfield 180, 3) := by decide +kernel
theorem dX10_spot_5 : decode cX10_spot 5 = .ok (.aload_n 0, 1) := by decide +kernel
theorem dX10_spot_6 : decode cX10_spot 6 = .ok (.iload_n 1, 1) := by decide +kernel
theorem dX10_spot_7 : decode cX10_spot 7 = .ok (.iload_n 2, 1) := by decide +kernel
theorem dX10_spot_8 : decode cX10_spot 8 = .ok (.iload_n 3, 1) := by decide +kernel
theorem dX10_spot_9 : decode cX10_spot 9 = .ok (.iload 4, 2) := by decide +kernel
theorem dX10_spot_11 : decode cX10_spot 11 = .ok (.iload 5, 2) := by decide +kernel
theorem dX10_spot_13 : decode cX10_spot 13 = .ok (.invokevirtual 473, 3) := by decide +kernel
theorem dX10_spot_16 : decode cX10_spot 16 = .ok (.ifCond .ne 5, 3) := by decide +kernel
theorem dX10_spot_19 : decode cX10_spot 19 = .ok (.iconst (-1), 1) := by decide +kernel
theorem dX10_spot_20 : decode cX10_spot 20 = .ok (.ireturn, 1) := by decide +kernel
theorem dX10_spot_21 : decode cX10_spot 21 = .ok (.aload_n 0, 1) := by decide +kernel
theorem dX10_spot_22 : decode cX10_spot 22 = .ok (.iload_n 1, 1) := by decide +kernel
theorem dX10_spot_23 : decode cX10_spot 23 = .ok (.iload_n 3, 1) := by decide +kernel
theorem dX10_spot_24 : decode cX10_spot 24 = .ok (.invokevirtual 393, 3) := by decide +kernel
theorem dX10_spot_27 : decode cX10_spot 27 = .ok (.aload_n 0, 1) := by decide +kernel
theorem dX10_spot_28 : decode cX10_spot 28 = .ok (.iload_n 1, 1) := by decide +kernel
theorem dX10_spot_29 : decode cX10_spot 29 = .ok (.iload_n 2, 1) := by decide +kernel
theorem dX10_spot_30 : decode cX10_spot 30 = .ok (.iload 4, 2) := by decide +kernel
theorem dX10_spot_32 : decode cX10_spot 32 = .ok (.iload 5, 2) := by decide +kernel
theorem dX10_spot_34 : decode cX10_spot 34 = .ok (.iload 6, 2) := by decide +kernel
theorem dX10_spot_36 : decode cX10_spot 36 = .ok (.invokevirtual 487, 3) := by decide +kernel
theorem dX10_spot_39 : decode cX10_spot 39 = .ok (.pop, 1) := by decide +kernel
theorem dX10_spot_40 : decode cX10_spot 40 = .ok (.aload_n 0, 1) := by decide +kernel
theorem dX10_spot_41 : decode cX10_spot 41 = .ok (.getfield 484, 3) := by decide +kernel
theorem dX10_spot_44 : decode cX10_spot 44 = .ok (.ireturn, 1) := by decide +kernel
def rmX10_spot : Room := { frames := 8, cells := 0, slots := 0, locals := 209 }
set_option maxRecDepth 100000 in
def g_X10_spot_0 (th : Nat) (p1 : Int32) (p2 : Int32) (p3 : Int32) (p4 : Int32) (p5 : Int32) (p6 : Int32) (m : MM) : Option (Int32 × MM) :=
  chk (m.K th = 11) (bnd (m.sI 1100 th 0 0) (fun m1 => cal (f_X10_isAsked th p1 p2 p3 p4 p5 m1) (fun r1 m2 => if r1 = 0 then (some ((-1), m2)) else (chk (m2.K th = 11) (cal (f_X10_bring th p1 p3 m2) (fun r2 m3 => chk (m3.K th = 11) (cal (f_X10_spotsBy th p1 p2 p4 p5 p6 m3) (fun r3 m4 => chk (m4.K th = 11) (some (m4.I 1175 th 0, m4))))))))))
set_option maxHeartbeats 4000000 in
set_option maxRecDepth 100000 in
theorem s_X10_spot_0 {Γ : GX} {E : EX} (C : Cx Γ E cX10_spot RX10 7) (hr : Γ.meth.sig.returnType = (some .int)) (hrm : Γ.rm = rmX10_spot) (th : Nat) (p1 : Int32) (p2 : Int32) (p3 : Int32) (p4 : Int32) (p5 : Int32) (p6 : Int32) (m : MM) : Sm (QM Γ E emI 0 0) Γ E 7 0 0 0 [(0, va_rf (some th)), (1, .int p1), (2, .int p2), (3, .int p3), (4, .int p4), (5, .int p5), (6, .int p6)] [] m (g_X10_spot_0 th p1 p2 p3 p4 p5 p6 m) := by
  unfold g_X10_spot_0
  refine z_aload_n C dX10_spot_0 rfl 0 rfl ?_
  refine z_iconst (v := 0) C dX10_spot_1 (by decide) ?_
  refine z_chk (fun hk1 => ?_)
  refine z_putI C fl_RX10_180 (fun h => by cases h) rfl hk1 rfl rfl dX10_spot_2 (fun m1 eK1 eN1 => ?_)
  refine z_aload_n C dX10_spot_5 rfl 0 rfl ?_
  refine z_iload_n C dX10_spot_6 rfl 1 rfl ?_
  refine z_iload_n C dX10_spot_7 rfl 2 rfl ?_
  refine z_iload_n C dX10_spot_8 rfl 3 rfl ?_
  refine z_iload C dX10_spot_9 4 rfl ?_
  refine z_iload C dX10_spot_11 5 rfl ?_
  refine z_cVI [.int p1, .int p2, .int p3, .int p4, .int p5] [] C mv_RX10_473 (fun r0 m0 h0 => M_X10_isAsked _ _ _ _ _ _ _ _ _ _ _ h0) rfl rfl ⟨by rw [hrm]; exact Nat.le_of_ble_eq_true rfl, by rw [hrm]; exact Nat.le_of_ble_eq_true rfl⟩ ⟨by rw [hrm]; exact Nat.le_of_ble_eq_true rfl, by rw [hrm]; exact Nat.le_of_ble_eq_true rfl⟩ rfl (kfw eK1 hk1) rfl rfl rfl (Nat.le_of_ble_eq_true rfl) dX10_spot_13 (fun r1 m2 => ?_)
  refine z_if_ne (tgt := 21) C dX10_spot_16 (by decide) (fun c1 => ?_) (fun c1 => ?_)
  · refine z_aload_n C dX10_spot_21 rfl 0 rfl ?_
    refine z_iload_n C dX10_spot_22 rfl 1 rfl ?_
    refine z_iload_n C dX10_spot_23 rfl 3 rfl ?_
    refine z_chk (fun hk2 => ?_)
    refine z_cVV [.int p1, .int p3] [] C mv_RX10_393 (fun r0 m0 h0 => M_X10_bring _ _ _ _ _ _ _ _ h0) rfl rfl ⟨by rw [hrm]; exact Nat.le_of_ble_eq_true rfl, by rw [hrm]; exact Nat.le_of_ble_eq_true rfl⟩ ⟨by rw [hrm]; exact Nat.le_of_ble_eq_true rfl, by rw [hrm]; exact Nat.le_of_ble_eq_true rfl⟩ rfl hk2 rfl rfl rfl (Nat.le_of_ble_eq_true rfl) dX10_spot_24 (fun r2 m3 => ?_)
    refine z_aload_n C dX10_spot_27 rfl 0 rfl ?_
    refine z_iload_n C dX10_spot_28 rfl 1 rfl ?_
    refine z_iload_n C dX10_spot_29 rfl 2 rfl ?_
    refine z_iload C dX10_spot_30 4 rfl ?_
    refine z_iload C dX10_spot_32 5 rfl ?_
    refine z_iload C dX10_spot_34 6 rfl ?_
    refine z_chk (fun hk3 => ?_)
    refine z_cVI [.int p1, .int p2, .int p4, .int p5, .int p6] [] C mv_RX10_487 (fun r0 m0 h0 => M_X10_spotsBy _ _ _ _ _ _ _ _ _ _ _ h0) rfl rfl ⟨by rw [hrm]; exact Nat.le_of_ble_eq_true rfl, by rw [hrm]; exact Nat.le_of_ble_eq_true rfl⟩ ⟨by rw [hrm]; exact Nat.le_of_ble_eq_true rfl, by rw [hrm]; exact Nat.le_of_ble_eq_true rfl⟩ rfl hk3 rfl rfl rfl (Nat.le_of_ble_eq_true rfl) dX10_spot_36 (fun r3 m4 => ?_)
    refine z_pop C rfl dX10_spot_39 ?_
    refine z_aload_n C dX10_spot_40 rfl 0 rfl ?_
    refine z_chk (fun hk4 => ?_)
    refine z_getI C fl_RX10_484 rfl hk4 dX10_spot_41 ?_
    exact z_iret C hr dX10_spot_44
  · refine z_iconst (v := (-1)) C dX10_spot_19 (by decide) ?_
    exact z_iret C hr dX10_spot_20
def f_X10_spot (th : Nat) (p1 : Int32) (p2 : Int32) (p3 : Int32) (p4 : Int32) (p5 : Int32) (p6 : Int32) (m : MM) : Option (Int32 × MM) := g_X10_spot_0 th p1 p2 p3 p4 p5 p6 m
theorem M_X10_spot (l : Launch) (E : EX) (th : Nat) (p1 : Int32) (p2 : Int32) (p3 : Int32) (p4 : Int32) (p5 : Int32) (p6 : Int32) (m : MM) (r : Int32) (m2 : MM) (h : f_X10_spot th p1 p2 p3 p4 p5 p6 m = some (r, m2)) : Met l yX10_spot (.code yX10_spot cX10_spot 7 (some .int) :: TB) rmX10_spot (va_Pc [.ref th, .int p1, .int p2, .int p3, .int p4, .int p5, .int p6] (St E m)) (QR E (emI r) m2) 0 0 (AA E) :=
  met_of (em := emI) (plainFor_of_name rfl) (Nat.le_of_ble_eq_true rfl) (L0 := [(0, va_rf (some th)), (1, .int p1), (2, .int p2), (3, .int p3), (4, .int p4), (5, .int p5), (6, .int p6)]) rfl (fun Γ _ hrm C hr hn => s_X10_spot_0 C hr hrm th p1 p2 p3 p4 p5 p6 m) h

theorem dX10_wish_0 : decode cX10_wish 0 = .ok (.aload_n 0, 1) := by decide +kernel
theorem dX10_wish_1 : decode cX10_wish 1 = .ok (.iconst 0, 1) := by decide +kernel
theorem dX10_wish_2 : decode cX10_wish 2 = .ok (.putfield 180, 3) := by decide +kernel
theorem dX10_wish_5 : decode cX10_wish 5 = .ok (.aload_n 0, 1) := by decide +kernel
theorem dX10_wish_6 : decode cX10_wish 6 = .ok (.iload_n 1, 1) := by decide +kernel
theorem dX10_wish_7 : decode cX10_wish 7 = .ok (.invokevirtual 192, 3) := by decide +kernel
theorem dX10_wish_10 : decode cX10_wish 10 = .ok (.ifCond .eq 32, 3) := by decide +kernel
theorem dX10_wish_13 : decode cX10_wish 13 = .ok (.aload_n 0, 1) := by decide +kernel
theorem dX10_wish_14 : decode cX10_wish 14 = .ok (.iload_n 1, 1) := by decide +kernel
theorem dX10_wish_15 : decode cX10_wish 15 = .ok (.bipush 9, 2) := by decide +kernel
theorem dX10_wish_17 : decode cX10_wish 17 = .ok (.invokevirtual 196, 3) := by decide +kernel
theorem dX10_wish_20 : decode cX10_wish 20 = .ok (.iconst 3, 1) := by decide +kernel
theorem dX10_wish_21 : decode cX10_wish 21 = .ok (.if_icmp .eq 21, 3) := by decide +kernel
theorem dX10_wish_24 : decode cX10_wish 24 = .ok (.iload_n 2, 1) := by decide +kernel
theorem dX10_wish_25 : decode cX10_wish 25 = .ok (.iconst 0, 1) := by decide +kernel
theorem dX10_wish_26 : decode cX10_wish 26 = .ok (.iconst 5, 1) := by decide +kernel
theorem dX10_wish_27 : decode cX10_wish 27 = .ok (.invokestatic 188, 3) := by decide +kernel
theorem dX10_wish_30 : decode cX10_wish 30 = .ok (.ifCond .eq 12, 3) := by decide +kernel
theorem dX10_wish_33 : decode cX10_wish 33 = .ok (.iload_n 3, 1) := by decide +kernel
theorem dX10_wish_34 : decode cX10_wish 34 = .ok (.iconst (-1), 1) := by decide +kernel
theorem dX10_wish_35 : decode cX10_wish 35 = .ok (.iconst 3, 1) := by decide +kernel
theorem dX10_wish_36 : decode cX10_wish 36 = .ok (.invokestatic 188, 3) := by decide +kernel
theorem dX10_wish_39 : decode cX10_wish 39 = .ok (.ifCond .ne 5, 3) := by decide +kernel
theorem dX10_wish_42 : decode cX10_wish 42 = .ok (.iconst (-1), 1) := by decide +kernel
theorem dX10_wish_43 : decode cX10_wish 43 = .ok (.ireturn, 1) := by decide +kernel
theorem dX10_wish_44 : decode cX10_wish 44 = .ok (.aload_n 0, 1) := by decide +kernel
theorem dX10_wish_45 : decode cX10_wish 45 = .ok (.getfield 86, 3) := by decide +kernel
theorem dX10_wish_48 : decode cX10_wish 48 = .ok (.iconst 3, 1) := by decide +kernel
theorem dX10_wish_49 : decode cX10_wish 49 = .ok (.iload_n 1, 1) := by decide +kernel
theorem dX10_wish_50 : decode cX10_wish 50 = .ok (.imul, 1) := by decide +kernel
theorem dX10_wish_51 : decode cX10_wish 51 = .ok (.aload_n 0, 1) := by decide +kernel
theorem dX10_wish_52 : decode cX10_wish 52 = .ok (.iload_n 1, 1) := by decide +kernel
theorem dX10_wish_53 : decode cX10_wish 53 = .ok (.bipush 9, 2) := by decide +kernel
theorem dX10_wish_55 : decode cX10_wish 55 = .ok (.invokevirtual 196, 3) := by decide +kernel
theorem dX10_wish_58 : decode cX10_wish 58 = .ok (.iadd, 1) := by decide +kernel
theorem dX10_wish_59 : decode cX10_wish 59 = .ok (.iload_n 2, 1) := by decide +kernel
theorem dX10_wish_60 : decode cX10_wish 60 = .ok (.iastore, 1) := by decide +kernel
theorem dX10_wish_61 : decode cX10_wish 61 = .ok (.aload_n 0, 1) := by decide +kernel
theorem dX10_wish_62 : decode cX10_wish 62 = .ok (.getfield 89, 3) := by decide +kernel
theorem dX10_wish_65 : decode cX10_wish 65 = .ok (.iconst 3, 1) := by decide +kernel
theorem dX10_wish_66 : decode cX10_wish 66 = .ok (.iload_n 1, 1) := by decide +kernel
theorem dX10_wish_67 : decode cX10_wish 67 = .ok (.imul, 1) := by decide +kernel
theorem dX10_wish_68 : decode cX10_wish 68 = .ok (.aload_n 0, 1) := by decide +kernel
theorem dX10_wish_69 : decode cX10_wish 69 = .ok (.iload_n 1, 1) := by decide +kernel
theorem dX10_wish_70 : decode cX10_wish 70 = .ok (.bipush 9, 2) := by decide +kernel
theorem dX10_wish_72 : decode cX10_wish 72 = .ok (.invokevirtual 196, 3) := by decide +kernel
theorem dX10_wish_75 : decode cX10_wish 75 = .ok (.iadd, 1) := by decide +kernel
theorem dX10_wish_76 : decode cX10_wish 76 = .ok (.iload_n 3, 1) := by decide +kernel
theorem dX10_wish_77 : decode cX10_wish 77 = .ok (.iastore, 1) := by decide +kernel
theorem dX10_wish_78 : decode cX10_wish 78 = .ok (.aload_n 0, 1) := by decide +kernel
theorem dX10_wish_79 : decode cX10_wish 79 = .ok (.getfield 26, 3) := by decide +kernel
theorem dX10_wish_82 : decode cX10_wish 82 = .ok (.bipush 32, 2) := by decide +kernel
theorem dX10_wish_84 : decode cX10_wish 84 = .ok (.iload_n 1, 1) := by decide +kernel
theorem dX10_wish_85 : decode cX10_wish 85 = .ok (.imul, 1) := by decide +kernel
theorem dX10_wish_86 : decode cX10_wish 86 = .ok (.bipush 9, 2) := by decide +kernel
theorem dX10_wish_88 : decode cX10_wish 88 = .ok (.iadd, 1) := by decide +kernel
theorem dX10_wish_89 : decode cX10_wish 89 = .ok (.dup2, 1) := by decide +kernel
theorem dX10_wish_90 : decode cX10_wish 90 = .ok (.iaload, 1) := by decide +kernel
theorem dX10_wish_91 : decode cX10_wish 91 = .ok (.iconst 1, 1) := by decide +kernel
theorem dX10_wish_92 : decode cX10_wish 92 = .ok (.iadd, 1) := by decide +kernel
theorem dX10_wish_93 : decode cX10_wish 93 = .ok (.iastore, 1) := by decide +kernel
theorem dX10_wish_94 : decode cX10_wish 94 = .ok (.aload_n 0, 1) := by decide +kernel
theorem dX10_wish_95 : decode cX10_wish 95 = .ok (.iload_n 1, 1) := by decide +kernel
theorem dX10_wish_96 : decode cX10_wish 96 = .ok (.bipush 9, 2) := by decide +kernel
theorem dX10_wish_98 : decode cX10_wish 98 = .ok (.invokevirtual 196, 3) := by decide +kernel
theorem dX10_wish_101 : decode cX10_wish 101 = .ok (.ireturn, 1) := by decide +kernel
def rmX10_wish : Room := { frames := 2, cells := 0, slots := 0, locals := 43 }
set_option maxRecDepth 100000 in
def g_X10_wish_0 (th : Nat) (p1 : Int32) (p2 : Int32) (p3 : Int32) (m : MM) : Option (Int32 × MM) :=
  chk (m.K th = 11) (bnd (m.sI 1100 th 0 0) (fun m1 => cal (f_X10_isTown th p1 m1) (fun r1 m2 => if r1 = 0 then (some ((-1), m2)) else (chk (m2.K th = 11) (cal (f_X10_of th p1 9 m2) (fun r2 m3 => if r2 = 3 then (some ((-1), m3)) else (cal (f_X10_in p2 0 5 m3) (fun r3 m4 => if r3 = 0 then (some ((-1), m4)) else (cal (f_X10_in p3 (-1) 3 m4) (fun r4 m5 => if r4 = 0 then (some ((-1), m5)) else (chk (m5.K th = 11) (cal (f_X10_of th p1 9 m5) (fun r5 m6 => ck m6 (m5.R 1126 th 0) 22 (fun a1 => chk (inb ((3 * p1) + r5) (m6.N a1) = true) (bnd (m6.sI 22 a1 (Int32.toNatClampNeg ((3 * p1) + r5)) p2) (fun m7 => chk (m7.K th = 11) (cal (f_X10_of th p1 9 m7) (fun r6 m8 => ck m8 (m7.R 1127 th 0) 22 (fun a2 => chk (inb ((3 * p1) + r6) (m8.N a2) = true) (bnd (m8.sI 22 a2 (Int32.toNatClampNeg ((3 * p1) + r6)) p3) (fun m9 => chk (m9.K th = 11) (bnd ((32 * p1) + 9) (fun y1 => ck m9 (m9.R 1106 th 0) 22 (fun a3 => chk (inb y1 (m9.N a3) = true) (chk (inb y1 (m9.N a3) = true) (bnd (m9.sI 22 a3 (Int32.toNatClampNeg y1) ((m9.I 22 a3 (Int32.toNatClampNeg y1)) + 1)) (fun m10 => cal (f_X10_of th p1 9 m10) (fun r7 m11 => some (r7, m11)))))))))))))))))))))))))))))
set_option maxHeartbeats 4000000 in
set_option maxRecDepth 100000 in
theorem s_X10_wish_0 {Γ : GX} {E : EX} (C : Cx Γ E cX10_wish RX10 4) (hr : Γ.meth.sig.returnType = (some .int)) (hrm : Γ.rm = rmX10_wish) (th : Nat) (p1 : Int32) (p2 : Int32) (p3 : Int32) (m : MM) : Sm (QM Γ E emI 0 0) Γ E 4 0 0 0 [(0, va_rf (some th)), (1, .int p1), (2, .int p2), (3, .int p3)] [] m (g_X10_wish_0 th p1 p2 p3 m) := by
  unfold g_X10_wish_0
  refine z_aload_n C dX10_wish_0 rfl 0 rfl ?_
  refine z_iconst (v := 0) C dX10_wish_1 (by decide) ?_
  refine z_chk (fun hk1 => ?_)
  refine z_putI C fl_RX10_180 (fun h => by cases h) rfl hk1 rfl rfl dX10_wish_2 (fun m1 eK1 eN1 => ?_)
  refine z_aload_n C dX10_wish_5 rfl 0 rfl ?_
  refine z_iload_n C dX10_wish_6 rfl 1 rfl ?_
  refine z_cVI [.int p1] [] C mv_RX10_192 (fun r0 m0 h0 => M_X10_isTown _ _ _ _ _ _ _ h0) rfl rfl ⟨by rw [hrm]; exact Nat.le_of_ble_eq_true rfl, by rw [hrm]; exact Nat.le_of_ble_eq_true rfl⟩ ⟨by rw [hrm]; exact Nat.le_of_ble_eq_true rfl, by rw [hrm]; exact Nat.le_of_ble_eq_true rfl⟩ rfl (kfw eK1 hk1) rfl rfl rfl (Nat.le_of_ble_eq_true rfl) dX10_wish_7 (fun r1 m2 => ?_)
  refine z_if_eq (tgt := 42) C dX10_wish_10 (by decide) (fun c1 => ?_) (fun c1 => ?_)
  · refine z_iconst (v := (-1)) C dX10_wish_42 (by decide) ?_
    exact z_iret C hr dX10_wish_43
  · refine z_aload_n C dX10_wish_13 rfl 0 rfl ?_
    refine z_iload_n C dX10_wish_14 rfl 1 rfl ?_
    refine z_bipush (v := 9) C dX10_wish_15 (by decide) ?_
    refine z_chk (fun hk2 => ?_)
    refine z_cVI [.int p1, .int 9] [] C mv_RX10_196 (fun r0 m0 h0 => M_X10_of _ _ _ _ _ _ _ _ h0) rfl rfl ⟨by rw [hrm]; exact Nat.le_of_ble_eq_true rfl, by rw [hrm]; exact Nat.le_of_ble_eq_true rfl⟩ ⟨by rw [hrm]; exact Nat.le_of_ble_eq_true rfl, by rw [hrm]; exact Nat.le_of_ble_eq_true rfl⟩ rfl hk2 rfl rfl rfl (Nat.le_of_ble_eq_true rfl) dX10_wish_17 (fun r2 m3 => ?_)
    refine z_iconst (v := 3) C dX10_wish_20 (by decide) ?_
    refine z_icmp_eq (tgt := 42) C dX10_wish_21 (by decide) (fun c2 => ?_) (fun c2 => ?_)
    · refine z_iconst (v := (-1)) C dX10_wish_42 (by decide) ?_
      exact z_iret C hr dX10_wish_43
    · refine z_iload_n C dX10_wish_24 rfl 2 rfl ?_
      refine z_iconst (v := 0) C dX10_wish_25 (by decide) ?_
      refine z_iconst (v := 5) C dX10_wish_26 (by decide) ?_
      refine z_cSI [.int p2, .int 0, .int 5] [] C mv_RX10_188 (fun r0 m0 h0 => M_X10_in _ _ _ _ _ _ _ _ h0) rfl rfl ⟨by rw [hrm]; exact Nat.le_of_ble_eq_true rfl, by rw [hrm]; exact Nat.le_of_ble_eq_true rfl⟩ ⟨by rw [hrm]; exact Nat.le_of_ble_eq_true rfl, by rw [hrm]; exact Nat.le_of_ble_eq_true rfl⟩ rfl rfl (Nat.le_of_ble_eq_true rfl) dX10_wish_27 (fun r3 m4 => ?_)
      refine z_if_eq (tgt := 42) C dX10_wish_30 (by decide) (fun c3 => ?_) (fun c3 => ?_)
      · refine z_iconst (v := (-1)) C dX10_wish_42 (by decide) ?_
        exact z_iret C hr dX10_wish_43
      · refine z_iload_n C dX10_wish_33 rfl 3 rfl ?_
        refine z_iconst (v := (-1)) C dX10_wish_34 (by decide) ?_
        refine z_iconst (v := 3) C dX10_wish_35 (by decide) ?_
        refine z_cSI [.int p3, .int (-1), .int 3] [] C mv_RX10_188 (fun r0 m0 h0 => M_X10_in _ _ _ _ _ _ _ _ h0) rfl rfl ⟨by rw [hrm]; exact Nat.le_of_ble_eq_true rfl, by rw [hrm]; exact Nat.le_of_ble_eq_true rfl⟩ ⟨by rw [hrm]; exact Nat.le_of_ble_eq_true rfl, by rw [hrm]; exact Nat.le_of_ble_eq_true rfl⟩ rfl rfl (Nat.le_of_ble_eq_true rfl) dX10_wish_36 (fun r4 m5 => ?_)
        refine z_if_ne (tgt := 44) C dX10_wish_39 (by decide) (fun c4 => ?_) (fun c4 => ?_)
        · refine z_aload_n C dX10_wish_44 rfl 0 rfl ?_
          refine z_chk (fun hk3 => ?_)
          refine z_getR C fl_RX10_86 rfl hk3 dX10_wish_45 ?_
          refine z_iconst (v := 3) C dX10_wish_48 (by decide) ?_
          refine z_iload_n C dX10_wish_49 rfl 1 rfl ?_
          refine z_imul C dX10_wish_50 ?_
          refine z_aload_n C dX10_wish_51 rfl 0 rfl ?_
          refine z_iload_n C dX10_wish_52 rfl 1 rfl ?_
          refine z_bipush (v := 9) C dX10_wish_53 (by decide) ?_
          refine z_cVI [.int p1, .int 9] [.int (3 * p1), va_rf (m5.R 1126 th 0)] C mv_RX10_196 (fun r0 m0 h0 => M_X10_of _ _ _ _ _ _ _ _ h0) rfl rfl ⟨by rw [hrm]; exact Nat.le_of_ble_eq_true rfl, by rw [hrm]; exact Nat.le_of_ble_eq_true rfl⟩ ⟨by rw [hrm]; exact Nat.le_of_ble_eq_true rfl, by rw [hrm]; exact Nat.le_of_ble_eq_true rfl⟩ rfl hk3 rfl rfl rfl (by simp [cat_rf, cat_i, cat_l, cat_a]) dX10_wish_55 (fun r5 m6 => ?_)
          refine z_iadd C dX10_wish_58 ?_
          refine z_iload_n C dX10_wish_59 rfl 2 rfl ?_
          refine z_ck (fun a1 hr1 hk4 => ?_)
          refine z_chk (fun hj1 => ?_)
          refine z_iast C hr1 hk4 hj1 dX10_wish_60 (fun m7 eK2 eN2 => ?_)
          refine z_aload_n C dX10_wish_61 rfl 0 rfl ?_
          refine z_chk (fun hk5 => ?_)
          refine z_getR C fl_RX10_89 rfl hk5 dX10_wish_62 ?_
          refine z_iconst (v := 3) C dX10_wish_65 (by decide) ?_
          refine z_iload_n C dX10_wish_66 rfl 1 rfl ?_
          refine z_imul C dX10_wish_67 ?_
          refine z_aload_n C dX10_wish_68 rfl 0 rfl ?_
          refine z_iload_n C dX10_wish_69 rfl 1 rfl ?_
          refine z_bipush (v := 9) C dX10_wish_70 (by decide) ?_
          refine z_cVI [.int p1, .int 9] [.int (3 * p1), va_rf (m7.R 1127 th 0)] C mv_RX10_196 (fun r0 m0 h0 => M_X10_of _ _ _ _ _ _ _ _ h0) rfl rfl ⟨by rw [hrm]; exact Nat.le_of_ble_eq_true rfl, by rw [hrm]; exact Nat.le_of_ble_eq_true rfl⟩ ⟨by rw [hrm]; exact Nat.le_of_ble_eq_true rfl, by rw [hrm]; exact Nat.le_of_ble_eq_true rfl⟩ rfl hk5 rfl rfl rfl (by simp [cat_rf, cat_i, cat_l, cat_a]) dX10_wish_72 (fun r6 m8 => ?_)
          refine z_iadd C dX10_wish_75 ?_
          refine z_iload_n C dX10_wish_76 rfl 3 rfl ?_
          refine z_ck (fun a2 hr2 hk6 => ?_)
          refine z_chk (fun hj2 => ?_)
          refine z_iast C hr2 hk6 hj2 dX10_wish_77 (fun m9 eK3 eN3 => ?_)
          refine z_aload_n C dX10_wish_78 rfl 0 rfl ?_
          refine z_chk (fun hk7 => ?_)
          refine z_getR C fl_RX10_26 rfl hk7 dX10_wish_79 ?_
          refine z_bipush (v := 32) C dX10_wish_82 (by decide) ?_
          refine z_iload_n C dX10_wish_84 rfl 1 rfl ?_
          refine z_imul C dX10_wish_85 ?_
          refine z_bipush (v := 9) C dX10_wish_86 (by decide) ?_
          refine z_iadd C dX10_wish_88 ?_
          refine z_bndI (fun y1 => ?_)
          refine z_dup2 C rfl (cat_rf _) dX10_wish_89 ?_
          refine z_ck (fun a3 hr3 hk8 => ?_)
          refine z_chk (fun hj3 => ?_)
          refine z_iald C hr3 hk8 hj3 dX10_wish_90 ?_
          refine z_iconst (v := 1) C dX10_wish_91 (by decide) ?_
          refine z_iadd C dX10_wish_92 ?_
          refine z_chk (fun hj4 => ?_)
          refine z_iast C hr3 hk8 hj4 dX10_wish_93 (fun m10 eK4 eN4 => ?_)
          refine z_aload_n C dX10_wish_94 rfl 0 rfl ?_
          refine z_iload_n C dX10_wish_95 rfl 1 rfl ?_
          refine z_bipush (v := 9) C dX10_wish_96 (by decide) ?_
          refine z_cVI [.int p1, .int 9] [] C mv_RX10_196 (fun r0 m0 h0 => M_X10_of _ _ _ _ _ _ _ _ h0) rfl rfl ⟨by rw [hrm]; exact Nat.le_of_ble_eq_true rfl, by rw [hrm]; exact Nat.le_of_ble_eq_true rfl⟩ ⟨by rw [hrm]; exact Nat.le_of_ble_eq_true rfl, by rw [hrm]; exact Nat.le_of_ble_eq_true rfl⟩ rfl (kfw eK4 hk7) rfl rfl rfl (Nat.le_of_ble_eq_true rfl) dX10_wish_98 (fun r7 m11 => ?_)
          exact z_iret C hr dX10_wish_101
        · refine z_iconst (v := (-1)) C dX10_wish_42 (by decide) ?_
          exact z_iret C hr dX10_wish_43
def f_X10_wish (th : Nat) (p1 : Int32) (p2 : Int32) (p3 : Int32) (m : MM) : Option (Int32 × MM) := g_X10_wish_0 th p1 p2 p3 m
theorem M_X10_wish (l : Launch) (E : EX) (th : Nat) (p1 : Int32) (p2 : Int32) (p3 : Int32) (m : MM) (r : Int32) (m2 : MM) (h : f_X10_wish th p1 p2 p3 m = some (r, m2)) : Met l yX10_wish (.code yX10_wish cX10_wish 4 (some .int) :: TB) rmX10_wish (va_Pc [.ref th, .int p1, .int p2, .int p3] (St E m)) (QR E (emI r) m2) 0 0 (AA E) :=
  met_of (em := emI) (plainFor_of_name rfl) (Nat.le_of_ble_eq_true rfl) (L0 := [(0, va_rf (some th)), (1, .int p1), (2, .int p2), (3, .int p3)]) rfl (fun Γ _ hrm C hr hn => s_X10_wish_0 C hr hrm th p1 p2 p3 m) h

theorem dX10_forget_0 : decode cX10_forget 0 = .ok (.aload_n 0, 1) := by decide +kernel
theorem dX10_forget_1 : decode cX10_forget 1 = .ok (.iconst 0, 1) := by decide +kernel
theorem dX10_forget_2 : decode cX10_forget 2 = .ok (.putfield 180, 3) := by decide +kernel
theorem dX10_forget_5 : decode cX10_forget 5 = .ok (.aload_n 0, 1) := by decide +kernel
theorem dX10_forget_6 : decode cX10_forget 6 = .ok (.iload_n 1, 1) := by decide +kernel
theorem dX10_forget_7 : decode cX10_forget 7 = .ok (.invokevirtual 192, 3) := by decide +kernel
theorem dX10_forget_10 : decode cX10_forget 10 = .ok (.ifCond .eq 13, 3) := by decide +kernel
theorem dX10_forget_13 : decode cX10_forget 13 = .ok (.aload_n 0, 1) := by decide +kernel
theorem dX10_forget_14 : decode cX10_forget 14 = .ok (.iload_n 1, 1) := by decide +kernel
theorem dX10_forget_15 : decode cX10_forget 15 = .ok (.bipush 9, 2) := by decide +kernel
theorem dX10_forget_17 : decode cX10_forget 17 = .ok (.invokevirtual 196, 3) := by decide +kernel
theorem dX10_forget_20 : decode cX10_forget 20 = .ok (.ifCond .ne 5, 3) := by decide +kernel
theorem dX10_forget_23 : decode cX10_forget 23 = .ok (.iconst 0, 1) := by decide +kernel
theorem dX10_forget_24 : decode cX10_forget 24 = .ok (.ireturn, 1) := by decide +kernel
theorem dX10_forget_25 : decode cX10_forget 25 = .ok (.aload_n 0, 1) := by decide +kernel
theorem dX10_forget_26 : decode cX10_forget 26 = .ok (.getfield 26, 3) := by decide +kernel
theorem dX10_forget_29 : decode cX10_forget 29 = .ok (.bipush 32, 2) := by decide +kernel
theorem dX10_forget_31 : decode cX10_forget 31 = .ok (.iload_n 1, 1) := by decide +kernel
theorem dX10_forget_32 : decode cX10_forget 32 = .ok (.imul, 1) := by decide +kernel
theorem dX10_forget_33 : decode cX10_forget 33 = .ok (.bipush 9, 2) := by decide +kernel
theorem dX10_forget_35 : decode cX10_forget 35 = .ok (.iadd, 1) := by decide +kernel
theorem dX10_forget_36 : decode cX10_forget 36 = .ok (.iconst 0, 1) := by decide +kernel
theorem dX10_forget_37 : decode cX10_forget 37 = .ok (.iastore, 1) := by decide +kernel
theorem dX10_forget_38 : decode cX10_forget 38 = .ok (.iconst 1, 1) := by decide +kernel
theorem dX10_forget_39 : decode cX10_forget 39 = .ok (.ireturn, 1) := by decide +kernel
def rmX10_forget : Room := { frames := 2, cells := 0, slots := 0, locals := 43 }
set_option maxRecDepth 100000 in
def g_X10_forget_0 (th : Nat) (p1 : Int32) (m : MM) : Option (Int32 × MM) :=
  chk (m.K th = 11) (bnd (m.sI 1100 th 0 0) (fun m1 => cal (f_X10_isTown th p1 m1) (fun r1 m2 => if r1 = 0 then (some (0, m2)) else (chk (m2.K th = 11) (cal (f_X10_of th p1 9 m2) (fun r2 m3 => if r2 = 0 then (some (0, m3)) else (chk (m3.K th = 11) (ck m3 (m3.R 1106 th 0) 22 (fun a1 => chk (inb ((32 * p1) + 9) (m3.N a1) = true) (bnd (m3.sI 22 a1 (Int32.toNatClampNeg ((32 * p1) + 9)) 0) (fun m4 => some (1, m4))))))))))))
set_option maxHeartbeats 4000000 in
set_option maxRecDepth 100000 in
theorem s_X10_forget_0 {Γ : GX} {E : EX} (C : Cx Γ E cX10_forget RX10 2) (hr : Γ.meth.sig.returnType = (some .boolean)) (hrm : Γ.rm = rmX10_forget) (th : Nat) (p1 : Int32) (m : MM) : Sm (QM Γ E emI 0 0) Γ E 2 0 0 0 [(0, va_rf (some th)), (1, .int p1)] [] m (g_X10_forget_0 th p1 m) := by
  unfold g_X10_forget_0
  refine z_aload_n C dX10_forget_0 rfl 0 rfl ?_
  refine z_iconst (v := 0) C dX10_forget_1 (by decide) ?_
  refine z_chk (fun hk1 => ?_)
  refine z_putI C fl_RX10_180 (fun h => by cases h) rfl hk1 rfl rfl dX10_forget_2 (fun m1 eK1 eN1 => ?_)
  refine z_aload_n C dX10_forget_5 rfl 0 rfl ?_
  refine z_iload_n C dX10_forget_6 rfl 1 rfl ?_
  refine z_cVI [.int p1] [] C mv_RX10_192 (fun r0 m0 h0 => M_X10_isTown _ _ _ _ _ _ _ h0) rfl rfl ⟨by rw [hrm]; exact Nat.le_of_ble_eq_true rfl, by rw [hrm]; exact Nat.le_of_ble_eq_true rfl⟩ ⟨by rw [hrm]; exact Nat.le_of_ble_eq_true rfl, by rw [hrm]; exact Nat.le_of_ble_eq_true rfl⟩ rfl (kfw eK1 hk1) rfl rfl rfl (Nat.le_of_ble_eq_true rfl) dX10_forget_7 (fun r1 m2 => ?_)
  refine z_if_eq (tgt := 23) C dX10_forget_10 (by decide) (fun c1 => ?_) (fun c1 => ?_)
  · refine z_iconst (v := 0) C dX10_forget_23 (by decide) ?_
    exact z_zret C hr rfl dX10_forget_24
  · refine z_aload_n C dX10_forget_13 rfl 0 rfl ?_
    refine z_iload_n C dX10_forget_14 rfl 1 rfl ?_
    refine z_bipush (v := 9) C dX10_forget_15 (by decide) ?_
    refine z_chk (fun hk2 => ?_)
    refine z_cVI [.int p1, .int 9] [] C mv_RX10_196 (fun r0 m0 h0 => M_X10_of _ _ _ _ _ _ _ _ h0) rfl rfl ⟨by rw [hrm]; exact Nat.le_of_ble_eq_true rfl, by rw [hrm]; exact Nat.le_of_ble_eq_true rfl⟩ ⟨by rw [hrm]; exact Nat.le_of_ble_eq_true rfl, by rw [hrm]; exact Nat.le_of_ble_eq_true rfl⟩ rfl hk2 rfl rfl rfl (Nat.le_of_ble_eq_true rfl) dX10_forget_17 (fun r2 m3 => ?_)
    refine z_if_ne (tgt := 25) C dX10_forget_20 (by decide) (fun c2 => ?_) (fun c2 => ?_)
    · refine z_aload_n C dX10_forget_25 rfl 0 rfl ?_
      refine z_chk (fun hk3 => ?_)
      refine z_getR C fl_RX10_26 rfl hk3 dX10_forget_26 ?_
      refine z_bipush (v := 32) C dX10_forget_29 (by decide) ?_
      refine z_iload_n C dX10_forget_31 rfl 1 rfl ?_
      refine z_imul C dX10_forget_32 ?_
      refine z_bipush (v := 9) C dX10_forget_33 (by decide) ?_
      refine z_iadd C dX10_forget_35 ?_
      refine z_iconst (v := 0) C dX10_forget_36 (by decide) ?_
      refine z_ck (fun a1 hr1 hk4 => ?_)
      refine z_chk (fun hj1 => ?_)
      refine z_iast C hr1 hk4 hj1 dX10_forget_37 (fun m4 eK2 eN2 => ?_)
      refine z_iconst (v := 1) C dX10_forget_38 (by decide) ?_
      exact z_zret C hr rfl dX10_forget_39
    · refine z_iconst (v := 0) C dX10_forget_23 (by decide) ?_
      exact z_zret C hr rfl dX10_forget_24
def f_X10_forget (th : Nat) (p1 : Int32) (m : MM) : Option (Int32 × MM) := g_X10_forget_0 th p1 m
theorem M_X10_forget (l : Launch) (E : EX) (th : Nat) (p1 : Int32) (m : MM) (r : Int32) (m2 : MM) (h : f_X10_forget th p1 m = some (r, m2)) : Met l yX10_forget (.code yX10_forget cX10_forget 2 (some .boolean) :: TB) rmX10_forget (va_Pc [.ref th, .int p1] (St E m)) (QR E (emI r) m2) 0 0 (AA E) :=
  met_of (em := emI) (plainFor_of_name rfl) (Nat.le_of_ble_eq_true rfl) (L0 := [(0, va_rf (some th)), (1, .int p1)]) rfl (fun Γ _ hrm C hr hn => s_X10_forget_0 C hr hrm th p1 m) h

theorem dX10_fits_0 : decode cX10_fits 0 = .ok (.iconst 0, 1) := by decide +kernel
theorem dX10_fits_1 : decode cX10_fits 1 = .ok (.istore 4, 2) := by decide +kernel
theorem dX10_fits_3 : decode cX10_fits 3 = .ok (.iload 4, 2) := by decide +kernel
theorem dX10_fits_5 : decode cX10_fits 5 = .ok (.iload_n 2, 1) := by decide +kernel
theorem dX10_fits_6 : decode cX10_fits 6 = .ok (.if_icmp .ge 45, 3) := by decide +kernel
theorem dX10_fits_9 : decode cX10_fits 9 = .ok (.aload_n 0, 1) := by decide +kernel
theorem dX10_fits_10 : decode cX10_fits 10 = .ok (.getfield 167, 3) := by decide +kernel
theorem dX10_fits_13 : decode cX10_fits 13 = .ok (.iload 4, 2) := by decide +kernel
theorem dX10_fits_15 : decode cX10_fits 15 = .ok (.iaload, 1) := by decide +kernel
theorem dX10_fits_16 : decode cX10_fits 16 = .ok (.aload_n 0, 1) := by decide +kernel
theorem dX10_fits_17 : decode cX10_fits 17 = .ok (.getfield 167, 3) := by decide +kernel
theorem dX10_fits_20 : decode cX10_fits 20 = .ok (.iload_n 2, 1) := by decide +kernel
theorem dX10_fits_21 : decode cX10_fits 21 = .ok (.iaload, 1) := by decide +kernel
theorem dX10_fits_22 : decode cX10_fits 22 = .ok (.if_icmp .eq 21, 3) := by decide +kernel
theorem dX10_fits_25 : decode cX10_fits 25 = .ok (.aload_n 0, 1) := by decide +kernel
theorem dX10_fits_26 : decode cX10_fits 26 = .ok (.iload_n 1, 1) := by decide +kernel
theorem dX10_fits_27 : decode cX10_fits 27 = .ok (.bipush 12, 2) := by decide +kernel
theorem dX10_fits_29 : decode cX10_fits 29 = .ok (.iload 4, 2) := by decide +kernel
theorem dX10_fits_31 : decode cX10_fits 31 = .ok (.iadd, 1) := by decide +kernel
theorem dX10_fits_32 : decode cX10_fits 32 = .ok (.bipush 12, 2) := by decide +kernel
theorem dX10_fits_34 : decode cX10_fits 34 = .ok (.iload_n 2, 1) := by decide +kernel
theorem dX10_fits_35 : decode cX10_fits 35 = .ok (.iadd, 1) := by decide +kernel
theorem dX10_fits_36 : decode cX10_fits 36 = .ok (.iload_n 3, 1) := by decide +kernel
theorem dX10_fits_37 : decode cX10_fits 37 = .ok (.invokevirtual 470, 3) := by decide +kernel
theorem dX10_fits_40 : decode cX10_fits 40 = .ok (.ifCond .eq 5, 3) := by decide +kernel
theorem dX10_fits_43 : decode cX10_fits 43 = .ok (.iconst 0, 1) := by decide +kernel
theorem dX10_fits_44 : decode cX10_fits 44 = .ok (.ireturn, 1) := by decide +kernel
theorem dX10_fits_45 : decode cX10_fits 45 = .ok (.iinc 4 1, 3) := by decide +kernel
theorem dX10_fits_48 : decode cX10_fits 48 = .ok (.goto (-45), 3) := by decide +kernel
theorem dX10_fits_51 : decode cX10_fits 51 = .ok (.aload_n 0, 1) := by decide +kernel
theorem dX10_fits_52 : decode cX10_fits 52 = .ok (.iload_n 1, 1) := by decide +kernel
theorem dX10_fits_53 : decode cX10_fits 53 = .ok (.iload_n 2, 1) := by decide +kernel
theorem dX10_fits_54 : decode cX10_fits 54 = .ok (.iload_n 3, 1) := by decide +kernel
theorem dX10_fits_55 : decode cX10_fits 55 = .ok (.invokevirtual 481, 3) := by decide +kernel
theorem dX10_fits_58 : decode cX10_fits 58 = .ok (.ireturn, 1) := by decide +kernel
def rmX10_fits : Room := { frames := 7, cells := 0, slots := 0, locals := 182 }
set_option maxRecDepth 100000 in
def g_X10_fits_3 (th : Nat) (p1 : Int32) (p2 : Int32) (p3 : Int32) (k3 : Int32 → MM → Option (Int32 × MM)) (x4 : Int32) (m : MM) : Option (Int32 × MM) :=
  if p2 ≤ x4 then (chk (m.K th = 11) (cal (f_X10_mayBy th p1 p2 p3 m) (fun r1 m1 => chk (r1 = 0 ∨ r1 = 1) (some (r1, m1))))) else (chk (m.K th = 11) (ck m (m.R 1176 th 0) 22 (fun a1 => chk (inb x4 (m.N a1) = true) (chk (inb p2 (m.N a1) = true) (if (m.I 22 a1 (Int32.toNatClampNeg x4)) = (m.I 22 a1 (Int32.toNatClampNeg p2)) then (some (0, m)) else (cal (f_X10_barsBoth th p1 (12 + x4) (12 + p2) p3 m) (fun r2 m2 => if r2 = 0 then (k3 (x4 + 1) m2) else (some (0, m2)))))))))
set_option maxHeartbeats 4000000 in
set_option maxRecDepth 100000 in
theorem s_X10_fits_3 {Γ : GX} {E : EX} (C : Cx Γ E cX10_fits RX10 5) (hr : Γ.meth.sig.returnType = (some .boolean)) (hrm : Γ.rm = rmX10_fits) (th : Nat) (p1 : Int32) (p2 : Int32) (p3 : Int32) (k3 : Int32 → MM → Option (Int32 × MM)) (h3 : ∀ (x4 : Int32) (m : MM), Sm (QM Γ E emI 0 0) Γ E 5 0 0 3 [(0, va_rf (some th)), (1, .int p1), (2, .int p2), (3, .int p3), (4, .int x4)] [] m (k3 x4 m)) (x4 : Int32) (m : MM) : Sm (QM Γ E emI 0 0) Γ E 5 0 0 3 [(0, va_rf (some th)), (1, .int p1), (2, .int p2), (3, .int p3), (4, .int x4)] [] m (g_X10_fits_3 th p1 p2 p3 k3 x4 m) := by
  unfold g_X10_fits_3
  refine z_iload C dX10_fits_3 4 rfl ?_
  refine z_iload_n C dX10_fits_5 rfl 2 rfl ?_
  refine z_icmp_ge (tgt := 51) C dX10_fits_6 (by decide) (fun c1 => ?_) (fun c1 => ?_)
  · refine z_aload_n C dX10_fits_51 rfl 0 rfl ?_
    refine z_iload_n C dX10_fits_52 rfl 1 rfl ?_
    refine z_iload_n C dX10_fits_53 rfl 2 rfl ?_
    refine z_iload_n C dX10_fits_54 rfl 3 rfl ?_
    refine z_chk (fun hk1 => ?_)
    refine z_cVI [.int p1, .int p2, .int p3] [] C mv_RX10_481 (fun r0 m0 h0 => M_X10_mayBy _ _ _ _ _ _ _ _ _ h0) rfl rfl ⟨by rw [hrm]; exact Nat.le_of_ble_eq_true rfl, by rw [hrm]; exact Nat.le_of_ble_eq_true rfl⟩ ⟨by rw [hrm]; exact Nat.le_of_ble_eq_true rfl, by rw [hrm]; exact Nat.le_of_ble_eq_true rfl⟩ rfl hk1 rfl rfl rfl (Nat.le_of_ble_eq_true rfl) dX10_fits_55 (fun r1 m1 => ?_)
    refine z_chk (fun hb1 => ?_)
    exact z_zret C hr (nb_of hb1) dX10_fits_58
  · refine z_aload_n C dX10_fits_9 rfl 0 rfl ?_
    refine z_chk (fun hk2 => ?_)
    refine z_getR C fl_RX10_167 rfl hk2 dX10_fits_10 ?_
    refine z_iload C dX10_fits_13 4 rfl ?_
    refine z_ck (fun a1 hr1 hk3 => ?_)
    refine z_chk (fun hj1 => ?_)
    refine z_iald C hr1 hk3 hj1 dX10_fits_15 ?_
    refine z_aload_n C dX10_fits_16 rfl 0 rfl ?_
    refine z_getR C fl_RX10_167 rfl hk2 dX10_fits_17 ?_
    refine z_iload_n C dX10_fits_20 rfl 2 rfl ?_
    refine z_chk (fun hj2 => ?_)
    refine z_iald C hr1 hk3 hj2 dX10_fits_21 ?_
    refine z_icmp_eq (tgt := 43) C dX10_fits_22 (by decide) (fun c2 => ?_) (fun c2 => ?_)
    · refine z_iconst (v := 0) C dX10_fits_43 (by decide) ?_
      exact z_zret C hr rfl dX10_fits_44
    · refine z_aload_n C dX10_fits_25 rfl 0 rfl ?_
      refine z_iload_n C dX10_fits_26 rfl 1 rfl ?_
      refine z_bipush (v := 12) C dX10_fits_27 (by decide) ?_
      refine z_iload C dX10_fits_29 4 rfl ?_
      refine z_iadd C dX10_fits_31 ?_
      refine z_bipush (v := 12) C dX10_fits_32 (by decide) ?_
      refine z_iload_n C dX10_fits_34 rfl 2 rfl ?_
      refine z_iadd C dX10_fits_35 ?_
      refine z_iload_n C dX10_fits_36 rfl 3 rfl ?_
      refine z_cVI [.int p1, .int (12 + x4), .int (12 + p2), .int p3] [] C mv_RX10_470 (fun r0 m0 h0 => M_X10_barsBoth _ _ _ _ _ _ _ _ _ _ h0) rfl rfl ⟨by rw [hrm]; exact Nat.le_of_ble_eq_true rfl, by rw [hrm]; exact Nat.le_of_ble_eq_true rfl⟩ ⟨by rw [hrm]; exact Nat.le_of_ble_eq_true rfl, by rw [hrm]; exact Nat.le_of_ble_eq_true rfl⟩ rfl hk2 rfl rfl rfl (Nat.le_of_ble_eq_true rfl) dX10_fits_37 (fun r2 m2 => ?_)
      refine z_if_eq (tgt := 45) C dX10_fits_40 (by decide) (fun c3 => ?_) (fun c3 => ?_)
      · refine z_iinc (v := 1) (L2 := [(4, .int (x4 + 1)), (0, va_rf (some th)), (1, .int p1), (2, .int p2), (3, .int p3)]) C dX10_fits_45 4 rfl (by decide) (by decide) rfl ?_
        refine z_goto (tgt := 3) C dX10_fits_48 (by decide) ?_
        exact z_sub [1, 2, 3, 4, 0] rfl (h3 (x4 + 1) m2)
      · refine z_iconst (v := 0) C dX10_fits_43 (by decide) ?_
        exact z_zret C hr rfl dX10_fits_44
def l_X10_fits_3 (th : Nat) (p1 : Int32) (p2 : Int32) (p3 : Int32) : Nat → Int32 → MM → Option (Int32 × MM) := lp (fun _ _ => none) (fun k3 => g_X10_fits_3 th p1 p2 p3 k3)
theorem t_X10_fits_3 {Γ : GX} {E : EX} (C : Cx Γ E cX10_fits RX10 5) (hr : Γ.meth.sig.returnType = (some .boolean)) (hrm : Γ.rm = rmX10_fits) (th : Nat) (p1 : Int32) (p2 : Int32) (p3 : Int32) : ∀ (n : Nat) (x4 : Int32) (m : MM), Sm (QM Γ E emI 0 0) Γ E 5 0 0 3 [(0, va_rf (some th)), (1, .int p1), (2, .int p2), (3, .int p3), (4, .int x4)] [] m (l_X10_fits_3 th p1 p2 p3 n x4 m) := by
  intro n
  induction n with
  | zero => intros; exact z_none
  | succ n ih => intro x4 m; exact s_X10_fits_3 C hr hrm th p1 p2 p3 (l_X10_fits_3 th p1 p2 p3 n) ih x4 m
set_option maxRecDepth 100000 in
def g_X10_fits_0 (th : Nat) (p1 : Int32) (p2 : Int32) (p3 : Int32) (m : MM) : Option (Int32 × MM) :=
  l_X10_fits_3 th p1 p2 p3 FU 0 m
set_option maxHeartbeats 4000000 in
set_option maxRecDepth 100000 in
theorem s_X10_fits_0 {Γ : GX} {E : EX} (C : Cx Γ E cX10_fits RX10 5) (hr : Γ.meth.sig.returnType = (some .boolean)) (hrm : Γ.rm = rmX10_fits) (th : Nat) (p1 : Int32) (p2 : Int32) (p3 : Int32) (m : MM) : Sm (QM Γ E emI 0 0) Γ E 5 0 0 0 [(0, va_rf (some th)), (1, .int p1), (2, .int p2), (3, .int p3)] [] m (g_X10_fits_0 th p1 p2 p3 m) := by
  unfold g_X10_fits_0
  refine z_iconst (v := 0) C dX10_fits_0 (by decide) ?_
  refine z_istore (i := 4) (L2 := [(4, .int 0), (0, va_rf (some th)), (1, .int p1), (2, .int p2), (3, .int p3)]) C dX10_fits_1 (by decide) rfl ?_
  exact z_sub [1, 2, 3, 4, 0] rfl (t_X10_fits_3 C hr hrm th p1 p2 p3 FU 0 m)
def f_X10_fits (th : Nat) (p1 : Int32) (p2 : Int32) (p3 : Int32) (m : MM) : Option (Int32 × MM) := g_X10_fits_0 th p1 p2 p3 m
theorem M_X10_fits (l : Launch) (E : EX) (th : Nat) (p1 : Int32) (p2 : Int32) (p3 : Int32) (m : MM) (r : Int32) (m2 : MM) (h : f_X10_fits th p1 p2 p3 m = some (r, m2)) : Met l yX10_fits (.code yX10_fits cX10_fits 5 (some .boolean) :: TB) rmX10_fits (va_Pc [.ref th, .int p1, .int p2, .int p3] (St E m)) (QR E (emI r) m2) 0 0 (AA E) :=
  met_of (em := emI) (plainFor_of_name rfl) (Nat.le_of_ble_eq_true rfl) (L0 := [(0, va_rf (some th)), (1, .int p1), (2, .int p2), (3, .int p3)]) rfl (fun Γ _ hrm C hr hn => s_X10_fits_0 C hr hrm th p1 p2 p3 m) h

theorem dX10_findPlan_0 : decode cX10_findPlan 0 = .ok (.aload_n 0, 1) := by decide +kernel
theorem dX10_findPlan_1 : decode cX10_findPlan 1 = .ok (.iload_n 3, 1) := by decide +kernel
theorem dX10_findPlan_2 : decode cX10_findPlan 2 = .ok (.ifCond .eq 7, 3) := by decide +kernel
theorem dX10_findPlan_5 : decode cX10_findPlan 5 = .ok (.iconst 0, 1) := by decide +kernel
theorem dX10_findPlan_6 : decode cX10_findPlan 6 = .ok (.goto 7, 3) := by decide +kernel
theorem dX10_findPlan_9 : decode cX10_findPlan 9 = .ok (.aload_n 0, 1) := by decide +kernel
theorem dX10_findPlan_10 : decode cX10_findPlan 10 = .ok (.getfield 381, 3) := by decide +kernel
theorem dX10_findPlan_13 : decode cX10_findPlan 13 = .ok (.putfield 381, 3) := by decide +kernel
theorem dX10_findPlan_16 : decode cX10_findPlan 16 = .ok (.aload_n 0, 1) := by decide +kernel
theorem dX10_findPlan_17 : decode cX10_findPlan 17 = .ok (.iload_n 1, 1) := by decide +kernel
theorem dX10_findPlan_18 : decode cX10_findPlan 18 = .ok (.bipush 9, 2) := by decide +kernel
theorem dX10_findPlan_20 : decode cX10_findPlan 20 = .ok (.invokevirtual 196, 3) := by decide +kernel
theorem dX10_findPlan_23 : decode cX10_findPlan 23 = .ok (.istore 5, 2) := by decide +kernel
theorem dX10_findPlan_25 : decode cX10_findPlan 25 = .ok (.iconst 0, 1) := by decide +kernel
theorem dX10_findPlan_26 : decode cX10_findPlan 26 = .ok (.istore 6, 2) := by decide +kernel
theorem dX10_findPlan_28 : decode cX10_findPlan 28 = .ok (.aload_n 0, 1) := by decide +kernel
theorem dX10_findPlan_29 : decode cX10_findPlan 29 = .ok (.getfield 167, 3) := by decide +kernel
theorem dX10_findPlan_32 : decode cX10_findPlan 32 = .ok (.iconst 0, 1) := by decide +kernel
theorem dX10_findPlan_33 : decode cX10_findPlan 33 = .ok (.iconst (-1), 1) := by decide +kernel
theorem dX10_findPlan_34 : decode cX10_findPlan 34 = .ok (.iastore, 1) := by decide +kernel
theorem dX10_findPlan_35 : decode cX10_findPlan 35 = .ok (.iload 6, 2) := by decide +kernel
theorem dX10_findPlan_37 : decode cX10_findPlan 37 = .ok (.iload 5, 2) := by decide +kernel
theorem dX10_findPlan_39 : decode cX10_findPlan 39 = .ok (.if_icmp .ge 130, 3) := by decide +kernel
theorem dX10_findPlan_42 : decode cX10_findPlan 42 = .ok (.iload 6, 2) := by decide +kernel
theorem dX10_findPlan_44 : decode cX10_findPlan 44 = .ok (.ifCond .lt 125, 3) := by decide +kernel
theorem dX10_findPlan_47 : decode cX10_findPlan 47 = .ok (.aload_n 0, 1) := by decide +kernel
theorem dX10_findPlan_48 : decode cX10_findPlan 48 = .ok (.getfield 167, 3) := by decide +kernel
theorem dX10_findPlan_51 : decode cX10_findPlan 51 = .ok (.iload 6, 2) := by decide +kernel
theorem dX10_findPlan_53 : decode cX10_findPlan 53 = .ok (.dup2, 1) := by decide +kernel
theorem dX10_findPlan_54 : decode cX10_findPlan 54 = .ok (.iaload, 1) := by decide +kernel
theorem dX10_findPlan_55 : decode cX10_findPlan 55 = .ok (.iconst 1, 1) := by decide +kernel
theorem dX10_findPlan_56 : decode cX10_findPlan 56 = .ok (.iadd, 1) := by decide +kernel
theorem dX10_findPlan_57 : decode cX10_findPlan 57 = .ok (.iastore, 1) := by decide +kernel
theorem dX10_findPlan_58 : decode cX10_findPlan 58 = .ok (.aload_n 0, 1) := by decide +kernel
theorem dX10_findPlan_59 : decode cX10_findPlan 59 = .ok (.getfield 167, 3) := by decide +kernel
theorem dX10_findPlan_62 : decode cX10_findPlan 62 = .ok (.iload 6, 2) := by decide +kernel
theorem dX10_findPlan_64 : decode cX10_findPlan 64 = .ok (.iaload, 1) := by decide +kernel
theorem dX10_findPlan_65 : decode cX10_findPlan 65 = .ok (.istore 7, 2) := by decide +kernel
theorem dX10_findPlan_67 : decode cX10_findPlan 67 = .ok (.iload 7, 2) := by decide +kernel
theorem dX10_findPlan_69 : decode cX10_findPlan 69 = .ok (.bipush 64, 2) := by decide +kernel
theorem dX10_findPlan_71 : decode cX10_findPlan 71 = .ok (.if_icmp .ne 9, 3) := by decide +kernel
theorem dX10_findPlan_74 : decode cX10_findPlan 74 = .ok (.iinc 6 (-1), 3) := by decide +kernel
theorem dX10_findPlan_77 : decode cX10_findPlan 77 = .ok (.goto 89, 3) := by decide +kernel
theorem dX10_findPlan_80 : decode cX10_findPlan 80 = .ok (.aload_n 0, 1) := by decide +kernel
theorem dX10_findPlan_81 : decode cX10_findPlan 81 = .ok (.iload_n 1, 1) := by decide +kernel
theorem dX10_findPlan_82 : decode cX10_findPlan 82 = .ok (.iload 7, 2) := by decide +kernel
theorem dX10_findPlan_84 : decode cX10_findPlan 84 = .ok (.bipush 8, 2) := by decide +kernel
theorem dX10_findPlan_86 : decode cX10_findPlan 86 = .ok (.irem, 1) := by decide +kernel
theorem dX10_findPlan_87 : decode cX10_findPlan 87 = .ok (.iload 7, 2) := by decide +kernel
theorem dX10_findPlan_89 : decode cX10_findPlan 89 = .ok (.bipush 8, 2) := by decide +kernel
theorem dX10_findPlan_91 : decode cX10_findPlan 91 = .ok (.idiv, 1) := by decide +kernel
theorem dX10_findPlan_92 : decode cX10_findPlan 92 = .ok (.invokevirtual 369, 3) := by decide +kernel
theorem dX10_findPlan_95 : decode cX10_findPlan 95 = .ok (.ifCond .eq 71, 3) := by decide +kernel
theorem dX10_findPlan_98 : decode cX10_findPlan 98 = .ok (.aload_n 0, 1) := by decide +kernel
theorem dX10_findPlan_99 : decode cX10_findPlan 99 = .ok (.iload 6, 2) := by decide +kernel
theorem dX10_findPlan_101 : decode cX10_findPlan 101 = .ok (.aload_n 0, 1) := by decide +kernel
theorem dX10_findPlan_102 : decode cX10_findPlan 102 = .ok (.getfield 86, 3) := by decide +kernel
theorem dX10_findPlan_105 : decode cX10_findPlan 105 = .ok (.iconst 3, 1) := by decide +kernel
theorem dX10_findPlan_106 : decode cX10_findPlan 106 = .ok (.iload_n 1, 1) := by decide +kernel
theorem dX10_findPlan_107 : decode cX10_findPlan 107 = .ok (.imul, 1) := by decide +kernel
theorem dX10_findPlan_108 : decode cX10_findPlan 108 = .ok (.iload 6, 2) := by decide +kernel
theorem dX10_findPlan_110 : decode cX10_findPlan 110 = .ok (.iadd, 1) := by decide +kernel
theorem dX10_findPlan_111 : decode cX10_findPlan 111 = .ok (.iaload, 1) := by decide +kernel
theorem dX10_findPlan_112 : decode cX10_findPlan 112 = .ok (.iload 7, 2) := by decide +kernel
theorem dX10_findPlan_114 : decode cX10_findPlan 114 = .ok (.bipush 8, 2) := by decide +kernel
theorem dX10_findPlan_116 : decode cX10_findPlan 116 = .ok (.irem, 1) := by decide +kernel
theorem dX10_findPlan_117 : decode cX10_findPlan 117 = .ok (.iload 7, 2) := by decide +kernel
theorem dX10_findPlan_119 : decode cX10_findPlan 119 = .ok (.bipush 8, 2) := by decide +kernel
theorem dX10_findPlan_121 : decode cX10_findPlan 121 = .ok (.idiv, 1) := by decide +kernel
theorem dX10_findPlan_122 : decode cX10_findPlan 122 = .ok (.aload_n 0, 1) := by decide +kernel
theorem dX10_findPlan_123 : decode cX10_findPlan 123 = .ok (.getfield 89, 3) := by decide +kernel
theorem dX10_findPlan_126 : decode cX10_findPlan 126 = .ok (.iconst 3, 1) := by decide +kernel
theorem dX10_findPlan_127 : decode cX10_findPlan 127 = .ok (.iload_n 1, 1) := by decide +kernel
theorem dX10_findPlan_128 : decode cX10_findPlan 128 = .ok (.imul, 1) := by decide +kernel
theorem dX10_findPlan_129 : decode cX10_findPlan 129 = .ok (.iload 6, 2) := by decide +kernel
theorem dX10_findPlan_131 : decode cX10_findPlan 131 = .ok (.iadd, 1) := by decide +kernel
theorem dX10_findPlan_132 : decode cX10_findPlan 132 = .ok (.iaload, 1) := by decide +kernel
theorem dX10_findPlan_133 : decode cX10_findPlan 133 = .ok (.invokevirtual 477, 3) := by decide +kernel
theorem dX10_findPlan_136 : decode cX10_findPlan 136 = .ok (.aload_n 0, 1) := by decide +kernel
theorem dX10_findPlan_137 : decode cX10_findPlan 137 = .ok (.iload_n 2, 1) := by decide +kernel
theorem dX10_findPlan_138 : decode cX10_findPlan 138 = .ok (.iload 6, 2) := by decide +kernel
theorem dX10_findPlan_140 : decode cX10_findPlan 140 = .ok (.iload 4, 2) := by decide +kernel
theorem dX10_findPlan_142 : decode cX10_findPlan 142 = .ok (.invokevirtual 491, 3) := by decide +kernel
theorem dX10_findPlan_145 : decode cX10_findPlan 145 = .ok (.ifCond .eq 21, 3) := by decide +kernel
theorem dX10_findPlan_148 : decode cX10_findPlan 148 = .ok (.iinc 6 1, 3) := by decide +kernel
theorem dX10_findPlan_151 : decode cX10_findPlan 151 = .ok (.iload 6, 2) := by decide +kernel
theorem dX10_findPlan_153 : decode cX10_findPlan 153 = .ok (.iload 5, 2) := by decide +kernel
theorem dX10_findPlan_155 : decode cX10_findPlan 155 = .ok (.if_icmp .ge 11, 3) := by decide +kernel
theorem dX10_findPlan_158 : decode cX10_findPlan 158 = .ok (.aload_n 0, 1) := by decide +kernel
theorem dX10_findPlan_159 : decode cX10_findPlan 159 = .ok (.getfield 167, 3) := by decide +kernel
theorem dX10_findPlan_162 : decode cX10_findPlan 162 = .ok (.iload 6, 2) := by decide +kernel
theorem dX10_findPlan_164 : decode cX10_findPlan 164 = .ok (.iconst (-1), 1) := by decide +kernel
theorem dX10_findPlan_165 : decode cX10_findPlan 165 = .ok (.iastore, 1) := by decide +kernel
theorem dX10_findPlan_166 : decode cX10_findPlan 166 = .ok (.goto (-131), 3) := by decide +kernel
theorem dX10_findPlan_169 : decode cX10_findPlan 169 = .ok (.iload 6, 2) := by decide +kernel
theorem dX10_findPlan_171 : decode cX10_findPlan 171 = .ok (.iload 5, 2) := by decide +kernel
theorem dX10_findPlan_173 : decode cX10_findPlan 173 = .ok (.if_icmp .ne 7, 3) := by decide +kernel
theorem dX10_findPlan_176 : decode cX10_findPlan 176 = .ok (.iconst 1, 1) := by decide +kernel
theorem dX10_findPlan_177 : decode cX10_findPlan 177 = .ok (.goto 4, 3) := by decide +kernel
theorem dX10_findPlan_180 : decode cX10_findPlan 180 = .ok (.iconst 0, 1) := by decide +kernel
theorem dX10_findPlan_181 : decode cX10_findPlan 181 = .ok (.ireturn, 1) := by decide +kernel
def rmX10_findPlan : Room := { frames := 8, cells := 0, slots := 0, locals := 206 }
set_option maxRecDepth 100000 in
def g_X10_findPlan_166 (th : Nat) (p1 : Int32) (p2 : Int32) (p3 : Int32) (p4 : Int32) (k35 : Int32 → Int32 → MM → Option (Int32 × MM)) (k169 : Int32 → Int32 → MM → Option (Int32 × MM)) (x5 : Int32) (x6 : Int32) (m : MM) : Option (Int32 × MM) :=
  k35 x5 x6 m
set_option maxHeartbeats 4000000 in
set_option maxRecDepth 100000 in
theorem s_X10_findPlan_166 {Γ : GX} {E : EX} (C : Cx Γ E cX10_findPlan RX10 8) (hr : Γ.meth.sig.returnType = (some .boolean)) (hrm : Γ.rm = rmX10_findPlan) (th : Nat) (p1 : Int32) (p2 : Int32) (p3 : Int32) (p4 : Int32) (k35 : Int32 → Int32 → MM → Option (Int32 × MM)) (k169 : Int32 → Int32 → MM → Option (Int32 × MM)) (h35 : ∀ (x5 : Int32) (x6 : Int32) (m : MM), Sm (QM Γ E emI 0 0) Γ E 8 0 0 35 [(0, va_rf (some th)), (1, .int p1), (2, .int p2), (3, .int p3), (4, .int p4), (5, .int x5), (6, .int x6)] [] m (k35 x5 x6 m)) (h169 : ∀ (x5 : Int32) (x6 : Int32) (m : MM), Sm (QM Γ E emI 0 0) Γ E 8 0 0 169 [(0, va_rf (some th)), (1, .int p1), (2, .int p2), (3, .int p3), (4, .int p4), (5, .int x5), (6, .int x6)] [] m (k169 x5 x6 m)) (x5 : Int32) (x6 : Int32) (m : MM) : Sm (QM Γ E emI 0 0) Γ E 8 0 0 166 [(0, va_rf (some th)), (1, .int p1), (2, .int p2), (3, .int p3), (4, .int p4), (5, .int x5), (6, .int x6)] [] m (g_X10_findPlan_166 th p1 p2 p3 p4 k35 k169 x5 x6 m) := by
  unfold g_X10_findPlan_166
  refine z_goto (tgt := 35) C dX10_findPlan_166 (by decide) ?_
  exact z_sub [0, 1, 2, 3, 4, 5, 6] rfl (h35 x5 x6 m)
set_option maxRecDepth 100000 in
def g_X10_findPlan_35 (th : Nat) (p1 : Int32) (p2 : Int32) (p3 : Int32) (p4 : Int32) (k35 : Int32 → Int32 → MM → Option (Int32 × MM)) (k169 : Int32 → Int32 → MM → Option (Int32 × MM)) (x5 : Int32) (x6 : Int32) (m : MM) : Option (Int32 × MM) :=
  if x5 ≤ x6 then (k169 x5 x6 m) else (if x6 < 0 then (k169 x5 x6 m) else (chk (m.K th = 11) (ck m (m.R 1176 th 0) 22 (fun a1 => chk (inb x6 (m.N a1) = true) (chk (inb x6 (m.N a1) = true) (bnd (m.sI 22 a1 (Int32.toNatClampNeg x6) ((m.I 22 a1 (Int32.toNatClampNeg x6)) + 1)) (fun m1 => ck m1 (m1.R 1176 th 0) 22 (fun a2 => chk (inb x6 (m1.N a2) = true) (bnd (m1.I 22 a2 (Int32.toNatClampNeg x6)) (fun y1 => if y1 = 64 then (g_X10_findPlan_166 th p1 p2 p3 p4 k35 k169 x5 (x6 + (-1)) m1) else (cal (f_X10_isPoint th p1 (y1 - y1 / 8 * 8) (y1 / 8) m1) (fun r1 m2 => if r1 = 0 then (g_X10_findPlan_166 th p1 p2 p3 p4 k35 k169 x5 x6 m2) else (chk (m2.K th = 11) (ck m2 (m2.R 1126 th 0) 22 (fun a3 => chk (inb ((3 * p1) + x6) (m2.N a3) = true) (ck m2 (m2.R 1127 th 0) 22 (fun a4 => chk (inb ((3 * p1) + x6) (m2.N a4) = true) (cal (f_X10_lay th x6 (m2.I 22 a3 (Int32.toNatClampNeg ((3 * p1) + x6))) (y1 - y1 / 8 * 8) (y1 / 8) (m2.I 22 a4 (Int32.toNatClampNeg ((3 * p1) + x6))) m2) (fun r2 m3 => chk (m3.K th = 11) (cal (f_X10_fits th p2 x6 p4 m3) (fun r3 m4 => if r3 = 0 then (g_X10_findPlan_166 th p1 p2 p3 p4 k35 k169 x5 x6 m4) else (if x5 ≤ (x6 + 1) then (g_X10_findPlan_166 th p1 p2 p3 p4 k35 k169 x5 (x6 + 1) m4) else (chk (m4.K th = 11) (ck m4 (m4.R 1176 th 0) 22 (fun a5 => chk (inb (x6 + 1) (m4.N a5) = true) (bnd (m4.sI 22 a5 (Int32.toNatClampNeg (x6 + 1)) (-1)) (fun m5 => g_X10_findPlan_166 th p1 p2 p3 p4 k35 k169 x5 (x6 + 1) m5)))))))))))))))))))))))))))
set_option maxHeartbeats 4000000 in
set_option maxRecDepth 100000 in
theorem s_X10_findPlan_35 {Γ : GX} {E : EX} (C : Cx Γ E cX10_findPlan RX10 8) (hr : Γ.meth.sig.returnType = (some .boolean)) (hrm : Γ.rm = rmX10_findPlan) (th : Nat) (p1 : Int32) (p2 : Int32) (p3 : Int32) (p4 : Int32) (k35 : Int32 → Int32 → MM → Option (Int32 × MM)) (k169 : Int32 → Int32 → MM → Option (Int32 × MM)) (h35 : ∀ (x5 : Int32) (x6 : Int32) (m : MM), Sm (QM Γ E emI 0 0) Γ E 8 0 0 35 [(0, va_rf (some th)), (1, .int p1), (2, .int p2), (3, .int p3), (4, .int p4), (5, .int x5), (6, .int x6)] [] m (k35 x5 x6 m)) (h169 : ∀ (x5 : Int32) (x6 : Int32) (m : MM), Sm (QM Γ E emI 0 0) Γ E 8 0 0 169 [(0, va_rf (some th)), (1, .int p1), (2, .int p2), (3, .int p3), (4, .int p4), (5, .int x5), (6, .int x6)] [] m (k169 x5 x6 m)) (x5 : Int32) (x6 : Int32) (m : MM) : Sm (QM Γ E emI 0 0) Γ E 8 0 0 35 [(0, va_rf (some th)), (1, .int p1), (2, .int p2), (3, .int p3), (4, .int p4), (5, .int x5), (6, .int x6)] [] m (g_X10_findPlan_35 th p1 p2 p3 p4 k35 k169 x5 x6 m) := by
  unfold g_X10_findPlan_35
  refine z_iload C dX10_findPlan_35 6 rfl ?_
  refine z_iload C dX10_findPlan_37 5 rfl ?_
  refine z_icmp_ge (tgt := 169) C dX10_findPlan_39 (by decide) (fun c1 => ?_) (fun c1 => ?_)
  · exact z_sub [0, 1, 2, 3, 4, 5, 6] rfl (h169 x5 x6 m)
  · refine z_iload C dX10_findPlan_42 6 rfl ?_
    refine z_if_lt (tgt := 169) C dX10_findPlan_44 (by decide) (fun c2 => ?_) (fun c2 => ?_)
    · exact z_sub [0, 1, 2, 3, 4, 5, 6] rfl (h169 x5 x6 m)
    · refine z_aload_n C dX10_findPlan_47 rfl 0 rfl ?_
      refine z_chk (fun hk1 => ?_)
      refine z_getR C fl_RX10_167 rfl hk1 dX10_findPlan_48 ?_
      refine z_iload C dX10_findPlan_51 6 rfl ?_
      refine z_dup2 C rfl (cat_rf _) dX10_findPlan_53 ?_
      refine z_ck (fun a1 hr1 hk2 => ?_)
      refine z_chk (fun hj1 => ?_)
      refine z_iald C hr1 hk2 hj1 dX10_findPlan_54 ?_
      refine z_iconst (v := 1) C dX10_findPlan_55 (by decide) ?_
      refine z_iadd C dX10_findPlan_56 ?_
      refine z_chk (fun hj2 => ?_)
      refine z_iast C hr1 hk2 hj2 dX10_findPlan_57 (fun m1 eK1 eN1 => ?_)
      refine z_aload_n C dX10_findPlan_58 rfl 0 rfl ?_
      refine z_getR C fl_RX10_167 rfl (kfw eK1 hk1) dX10_findPlan_59 ?_
      refine z_iload C dX10_findPlan_62 6 rfl ?_
      refine z_ck (fun a2 hr2 hk3 => ?_)
      refine z_chk (fun hj3 => ?_)
      refine z_iald C hr2 hk3 hj3 dX10_findPlan_64 ?_
      refine z_bndI (fun y1 => ?_)
      refine z_istore (i := 7) (L2 := [(7, .int y1), (0, va_rf (some th)), (1, .int p1), (2, .int p2), (3, .int p3), (4, .int p4), (5, .int x5), (6, .int x6)]) C dX10_findPlan_65 (by decide) rfl ?_
      refine z_iload C dX10_findPlan_67 0 rfl ?_
      refine z_bipush (v := 64) C dX10_findPlan_69 (by decide) ?_
      refine z_icmp_ne (tgt := 80) C dX10_findPlan_71 (by decide) (fun c3 => ?_) (fun c3 => ?_)
      · refine z_aload_n C dX10_findPlan_80 rfl 1 rfl ?_
        refine z_iload_n C dX10_findPlan_81 rfl 2 rfl ?_
        refine z_iload C dX10_findPlan_82 0 rfl ?_
        refine z_bipush (v := 8) C dX10_findPlan_84 (by decide) ?_
        refine z_irem C (by decide) dX10_findPlan_86 ?_
        refine z_iload C dX10_findPlan_87 0 rfl ?_
        refine z_bipush (v := 8) C dX10_findPlan_89 (by decide) ?_
        refine z_idiv C (by decide) dX10_findPlan_91 ?_
        refine z_cVI [.int p1, .int (y1 - y1 / 8 * 8), .int (y1 / 8)] [] C mv_RX10_369 (fun r0 m0 h0 => M_X10_isPoint _ _ _ _ _ _ _ _ _ h0) rfl rfl ⟨by rw [hrm]; exact Nat.le_of_ble_eq_true rfl, by rw [hrm]; exact Nat.le_of_ble_eq_true rfl⟩ ⟨by rw [hrm]; exact Nat.le_of_ble_eq_true rfl, by rw [hrm]; exact Nat.le_of_ble_eq_true rfl⟩ rfl (kfw eK1 hk1) rfl rfl rfl (Nat.le_of_ble_eq_true rfl) dX10_findPlan_92 (fun r1 m2 => ?_)
        refine z_if_eq (tgt := 166) C dX10_findPlan_95 (by decide) (fun c4 => ?_) (fun c4 => ?_)
        · exact z_sub [1, 2, 3, 4, 5, 6, 7] rfl (s_X10_findPlan_166 C hr hrm th p1 p2 p3 p4 k35 k169 h35 h169 x5 x6 m2)
        · refine z_aload_n C dX10_findPlan_98 rfl 1 rfl ?_
          refine z_iload C dX10_findPlan_99 7 rfl ?_
          refine z_aload_n C dX10_findPlan_101 rfl 1 rfl ?_
          refine z_chk (fun hk4 => ?_)
          refine z_getR C fl_RX10_86 rfl hk4 dX10_findPlan_102 ?_
          refine z_iconst (v := 3) C dX10_findPlan_105 (by decide) ?_
          refine z_iload_n C dX10_findPlan_106 rfl 2 rfl ?_
          refine z_imul C dX10_findPlan_107 ?_
          refine z_iload C dX10_findPlan_108 7 rfl ?_
          refine z_iadd C dX10_findPlan_110 ?_
          refine z_ck (fun a3 hr3 hk5 => ?_)
          refine z_chk (fun hj4 => ?_)
          refine z_iald C hr3 hk5 hj4 dX10_findPlan_111 ?_
          refine z_iload C dX10_findPlan_112 0 rfl ?_
          refine z_bipush (v := 8) C dX10_findPlan_114 (by decide) ?_
          refine z_irem C (by decide) dX10_findPlan_116 ?_
          refine z_iload C dX10_findPlan_117 0 rfl ?_
          refine z_bipush (v := 8) C dX10_findPlan_119 (by decide) ?_
          refine z_idiv C (by decide) dX10_findPlan_121 ?_
          refine z_aload_n C dX10_findPlan_122 rfl 1 rfl ?_
          refine z_getR C fl_RX10_89 rfl hk4 dX10_findPlan_123 ?_
          refine z_iconst (v := 3) C dX10_findPlan_126 (by decide) ?_
          refine z_iload_n C dX10_findPlan_127 rfl 2 rfl ?_
          refine z_imul C dX10_findPlan_128 ?_
          refine z_iload C dX10_findPlan_129 7 rfl ?_
          refine z_iadd C dX10_findPlan_131 ?_
          refine z_ck (fun a4 hr4 hk6 => ?_)
          refine z_chk (fun hj5 => ?_)
          refine z_iald C hr4 hk6 hj5 dX10_findPlan_132 ?_
          refine z_cVV [.int x6, .int (m2.I 22 a3 (Int32.toNatClampNeg ((3 * p1) + x6))), .int (y1 - y1 / 8 * 8), .int (y1 / 8), .int (m2.I 22 a4 (Int32.toNatClampNeg ((3 * p1) + x6)))] [] C mv_RX10_477 (fun r0 m0 h0 => M_X10_lay _ _ _ _ _ _ _ _ _ _ _ h0) rfl rfl ⟨by rw [hrm]; exact Nat.le_of_ble_eq_true rfl, by rw [hrm]; exact Nat.le_of_ble_eq_true rfl⟩ ⟨by rw [hrm]; exact Nat.le_of_ble_eq_true rfl, by rw [hrm]; exact Nat.le_of_ble_eq_true rfl⟩ rfl hk4 rfl rfl rfl (Nat.le_of_ble_eq_true rfl) dX10_findPlan_133 (fun r2 m3 => ?_)
          refine z_aload_n C dX10_findPlan_136 rfl 1 rfl ?_
          refine z_iload_n C dX10_findPlan_137 rfl 3 rfl ?_
          refine z_iload C dX10_findPlan_138 7 rfl ?_
          refine z_iload C dX10_findPlan_140 5 rfl ?_
          refine z_chk (fun hk7 => ?_)
          refine z_cVI [.int p2, .int x6, .int p4] [] C mv_RX10_491 (fun r0 m0 h0 => M_X10_fits _ _ _ _ _ _ _ _ _ h0) rfl rfl ⟨by rw [hrm]; exact Nat.le_of_ble_eq_true rfl, by rw [hrm]; exact Nat.le_of_ble_eq_true rfl⟩ ⟨by rw [hrm]; exact Nat.le_of_ble_eq_true rfl, by rw [hrm]; exact Nat.le_of_ble_eq_true rfl⟩ rfl hk7 rfl rfl rfl (Nat.le_of_ble_eq_true rfl) dX10_findPlan_142 (fun r3 m4 => ?_)
          refine z_if_eq (tgt := 166) C dX10_findPlan_145 (by decide) (fun c5 => ?_) (fun c5 => ?_)
          · exact z_sub [1, 2, 3, 4, 5, 6, 7] rfl (s_X10_findPlan_166 C hr hrm th p1 p2 p3 p4 k35 k169 h35 h169 x5 x6 m4)
          · refine z_iinc (v := 1) (L2 := [(6, .int (x6 + 1)), (7, .int y1), (0, va_rf (some th)), (1, .int p1), (2, .int p2), (3, .int p3), (4, .int p4), (5, .int x5)]) C dX10_findPlan_148 7 rfl (by decide) (by decide) rfl ?_
            refine z_iload C dX10_findPlan_151 0 rfl ?_
            refine z_iload C dX10_findPlan_153 7 rfl ?_
            refine z_icmp_ge (tgt := 166) C dX10_findPlan_155 (by decide) (fun c6 => ?_) (fun c6 => ?_)
            · exact z_sub [2, 3, 4, 5, 6, 7, 0] rfl (s_X10_findPlan_166 C hr hrm th p1 p2 p3 p4 k35 k169 h35 h169 x5 (x6 + 1) m4)
            · refine z_aload_n C dX10_findPlan_158 rfl 2 rfl ?_
              refine z_chk (fun hk8 => ?_)
              refine z_getR C fl_RX10_167 rfl hk8 dX10_findPlan_159 ?_
              refine z_iload C dX10_findPlan_162 0 rfl ?_
              refine z_iconst (v := (-1)) C dX10_findPlan_164 (by decide) ?_
              refine z_ck (fun a5 hr5 hk9 => ?_)
              refine z_chk (fun hj6 => ?_)
              refine z_iast C hr5 hk9 hj6 dX10_findPlan_165 (fun m5 eK2 eN2 => ?_)
              exact z_sub [2, 3, 4, 5, 6, 7, 0] rfl (s_X10_findPlan_166 C hr hrm th p1 p2 p3 p4 k35 k169 h35 h169 x5 (x6 + 1) m5)
      · refine z_iinc (v := (-1)) (L2 := [(6, .int (x6 + (-1))), (7, .int y1), (0, va_rf (some th)), (1, .int p1), (2, .int p2), (3, .int p3), (4, .int p4), (5, .int x5)]) C dX10_findPlan_74 7 rfl (by decide) (by decide) rfl ?_
        refine z_goto (tgt := 166) C dX10_findPlan_77 (by decide) ?_
        exact z_sub [2, 3, 4, 5, 6, 7, 0] rfl (s_X10_findPlan_166 C hr hrm th p1 p2 p3 p4 k35 k169 h35 h169 x5 (x6 + (-1)) m1)
def l_X10_findPlan_35 (th : Nat) (p1 : Int32) (p2 : Int32) (p3 : Int32) (p4 : Int32) (k169 : Int32 → Int32 → MM → Option (Int32 × MM)) : Nat → Int32 → Int32 → MM → Option (Int32 × MM) := lp (fun _ _ _ => none) (fun k35 => g_X10_findPlan_35 th p1 p2 p3 p4 k35 k169)
theorem t_X10_findPlan_35 {Γ : GX} {E : EX} (C : Cx Γ E cX10_findPlan RX10 8) (hr : Γ.meth.sig.returnType = (some .boolean)) (hrm : Γ.rm = rmX10_findPlan) (th : Nat) (p1 : Int32) (p2 : Int32) (p3 : Int32) (p4 : Int32) (k169 : Int32 → Int32 → MM → Option (Int32 × MM)) (h169 : ∀ (x5 : Int32) (x6 : Int32) (m : MM), Sm (QM Γ E emI 0 0) Γ E 8 0 0 169 [(0, va_rf (some th)), (1, .int p1), (2, .int p2), (3, .int p3), (4, .int p4), (5, .int x5), (6, .int x6)] [] m (k169 x5 x6 m)) : ∀ (n : Nat) (x5 : Int32) (x6 : Int32) (m : MM), Sm (QM Γ E emI 0 0) Γ E 8 0 0 35 [(0, va_rf (some th)), (1, .int p1), (2, .int p2), (3, .int p3), (4, .int p4), (5, .int x5), (6, .int x6)] [] m (l_X10_findPlan_35 th p1 p2 p3 p4 k169 n x5 x6 m) := by
  intro n
  induction n with
  | zero => intros; exact z_none
  | succ n ih => intro x5 x6 m; exact s_X10_findPlan_35 C hr hrm th p1 p2 p3 p4 (l_X10_findPlan_35 th p1 p2 p3 p4 k169 n) k169 ih h169 x5 x6 m
set_option maxRecDepth 100000 in
def g_X10_findPlan_169 (th : Nat) (p1 : Int32) (p2 : Int32) (p3 : Int32) (p4 : Int32) (x5 : Int32) (x6 : Int32) (m : MM) : Option (Int32 × MM) :=
  if x6 = x5 then (some (1, m)) else (some (0, m))
set_option maxHeartbeats 4000000 in
set_option maxRecDepth 100000 in
theorem s_X10_findPlan_169 {Γ : GX} {E : EX} (C : Cx Γ E cX10_findPlan RX10 8) (hr : Γ.meth.sig.returnType = (some .boolean)) (hrm : Γ.rm = rmX10_findPlan) (th : Nat) (p1 : Int32) (p2 : Int32) (p3 : Int32) (p4 : Int32) (x5 : Int32) (x6 : Int32) (m : MM) : Sm (QM Γ E emI 0 0) Γ E 8 0 0 169 [(0, va_rf (some th)), (1, .int p1), (2, .int p2), (3, .int p3), (4, .int p4), (5, .int x5), (6, .int x6)] [] m (g_X10_findPlan_169 th p1 p2 p3 p4 x5 x6 m) := by
  unfold g_X10_findPlan_169
  refine z_iload C dX10_findPlan_169 6 rfl ?_
  refine z_iload C dX10_findPlan_171 5 rfl ?_
  refine z_icmp_ne (tgt := 180) C dX10_findPlan_173 (by decide) (fun c7 => ?_) (fun c7 => ?_)
  · refine z_iconst (v := 0) C dX10_findPlan_180 (by decide) ?_
    exact z_zret C hr rfl dX10_findPlan_181
  · refine z_iconst (v := 1) C dX10_findPlan_176 (by decide) ?_
    refine z_goto (tgt := 181) C dX10_findPlan_177 (by decide) ?_
    exact z_zret C hr rfl dX10_findPlan_181
set_option maxRecDepth 100000 in
def g_X10_findPlan_13 (th : Nat) (p1 : Int32) (p2 : Int32) (p3 : Int32) (p4 : Int32) (s0 : Option Nat) (s1 : Int32) (m : MM) : Option (Int32 × MM) :=
  ck m s0 11 (fun a6 => bnd (m.sI 1165 a6 0 s1) (fun m6 => chk (m6.K th = 11) (cal (f_X10_of th p1 9 m6) (fun r4 m7 => chk (m7.K th = 11) (ck m7 (m7.R 1176 th 0) 22 (fun a7 => chk (inb 0 (m7.N a7) = true) (bnd (m7.sI 22 a7 (Int32.toNatClampNeg 0) (-1)) (fun m8 => l_X10_findPlan_35 th p1 p2 p3 p4 (g_X10_findPlan_169 th p1 p2 p3 p4) FU r4 0 m8))))))))
set_option maxHeartbeats 4000000 in
set_option maxRecDepth 100000 in
theorem s_X10_findPlan_13 {Γ : GX} {E : EX} (C : Cx Γ E cX10_findPlan RX10 8) (hr : Γ.meth.sig.returnType = (some .boolean)) (hrm : Γ.rm = rmX10_findPlan) (th : Nat) (p1 : Int32) (p2 : Int32) (p3 : Int32) (p4 : Int32) (s0 : Option Nat) (s1 : Int32) (m : MM) : Sm (QM Γ E emI 0 0) Γ E 8 0 0 13 [(0, va_rf (some th)), (1, .int p1), (2, .int p2), (3, .int p3), (4, .int p4)] [.int s1, va_rf s0] m (g_X10_findPlan_13 th p1 p2 p3 p4 s0 s1 m) := by
  unfold g_X10_findPlan_13
  refine z_ck (fun a6 hr6 hk10 => ?_)
  refine z_putI C fl_RX10_381 (fun h => by cases h) hr6 hk10 rfl rfl dX10_findPlan_13 (fun m6 eK3 eN3 => ?_)
  refine z_aload_n C dX10_findPlan_16 rfl 0 rfl ?_
  refine z_iload_n C dX10_findPlan_17 rfl 1 rfl ?_
  refine z_bipush (v := 9) C dX10_findPlan_18 (by decide) ?_
  refine z_chk (fun hk11 => ?_)
  refine z_cVI [.int p1, .int 9] [] C mv_RX10_196 (fun r0 m0 h0 => M_X10_of _ _ _ _ _ _ _ _ h0) rfl rfl ⟨by rw [hrm]; exact Nat.le_of_ble_eq_true rfl, by rw [hrm]; exact Nat.le_of_ble_eq_true rfl⟩ ⟨by rw [hrm]; exact Nat.le_of_ble_eq_true rfl, by rw [hrm]; exact Nat.le_of_ble_eq_true rfl⟩ rfl hk11 rfl rfl rfl (Nat.le_of_ble_eq_true rfl) dX10_findPlan_20 (fun r4 m7 => ?_)
  refine z_istore (i := 5) (L2 := [(5, .int r4), (0, va_rf (some th)), (1, .int p1), (2, .int p2), (3, .int p3), (4, .int p4)]) C dX10_findPlan_23 (by decide) rfl ?_
  refine z_iconst (v := 0) C dX10_findPlan_25 (by decide) ?_
  refine z_istore (i := 6) (L2 := [(6, .int 0), (5, .int r4), (0, va_rf (some th)), (1, .int p1), (2, .int p2), (3, .int p3), (4, .int p4)]) C dX10_findPlan_26 (by decide) rfl ?_
  refine z_aload_n C dX10_findPlan_28 rfl 2 rfl ?_
  refine z_chk (fun hk12 => ?_)
  refine z_getR C fl_RX10_167 rfl hk12 dX10_findPlan_29 ?_
  refine z_iconst (v := 0) C dX10_findPlan_32 (by decide) ?_
  refine z_iconst (v := (-1)) C dX10_findPlan_33 (by decide) ?_
  refine z_ck (fun a7 hr7 hk13 => ?_)
  refine z_chk (fun hj7 => ?_)
  refine z_iast C hr7 hk13 hj7 dX10_findPlan_34 (fun m8 eK4 eN4 => ?_)
  exact z_sub [2, 3, 4, 5, 6, 1, 0] rfl (t_X10_findPlan_35 C hr hrm th p1 p2 p3 p4 (g_X10_findPlan_169 th p1 p2 p3 p4) (s_X10_findPlan_169 C hr hrm th p1 p2 p3 p4) FU r4 0 m8)
set_option maxRecDepth 100000 in
def g_X10_findPlan_0 (th : Nat) (p1 : Int32) (p2 : Int32) (p3 : Int32) (p4 : Int32) (m : MM) : Option (Int32 × MM) :=
  if p3 = 0 then (chk (m.K th = 11) (g_X10_findPlan_13 th p1 p2 p3 p4 (some th) (m.I 1165 th 0) m)) else (g_X10_findPlan_13 th p1 p2 p3 p4 (some th) 0 m)
set_option maxHeartbeats 4000000 in
set_option maxRecDepth 100000 in
theorem s_X10_findPlan_0 {Γ : GX} {E : EX} (C : Cx Γ E cX10_findPlan RX10 8) (hr : Γ.meth.sig.returnType = (some .boolean)) (hrm : Γ.rm = rmX10_findPlan) (th : Nat) (p1 : Int32) (p2 : Int32) (p3 : Int32) (p4 : Int32) (m : MM) : Sm (QM Γ E emI 0 0) Γ E 8 0 0 0 [(0, va_rf (some th)), (1, .int p1), (2, .int p2), (3, .int p3), (4, .int p4)] [] m (g_X10_findPlan_0 th p1 p2 p3 p4 m) := by
  unfold g_X10_findPlan_0
  refine z_aload_n C dX10_findPlan_0 rfl 0 rfl ?_
  refine z_iload_n C dX10_findPlan_1 rfl 3 rfl ?_
  refine z_if_eq (tgt := 9) C dX10_findPlan_2 (by decide) (fun c8 => ?_) (fun c8 => ?_)
  · refine z_aload_n C dX10_findPlan_9 rfl 0 rfl ?_
    refine z_chk (fun hk14 => ?_)
    refine z_getI C fl_RX10_381 rfl hk14 dX10_findPlan_10 ?_
    exact z_sub [0, 1, 2, 3, 4] rfl (s_X10_findPlan_13 C hr hrm th p1 p2 p3 p4 (some th) (m.I 1165 th 0) m)
  · refine z_iconst (v := 0) C dX10_findPlan_5 (by decide) ?_
    refine z_goto (tgt := 13) C dX10_findPlan_6 (by decide) ?_
    exact z_sub [0, 1, 2, 3, 4] rfl (s_X10_findPlan_13 C hr hrm th p1 p2 p3 p4 (some th) 0 m)
def f_X10_findPlan (th : Nat) (p1 : Int32) (p2 : Int32) (p3 : Int32) (p4 : Int32) (m : MM) : Option (Int32 × MM) := g_X10_findPlan_0 th p1 p2 p3 p4 m
theorem M_X10_findPlan (l : Launch) (E : EX) (th : Nat) (p1 : Int32) (p2 : Int32) (p3 : Int32) (p4 : Int32) (m : MM) (r : Int32) (m2 : MM) (h : f_X10_findPlan th p1 p2 p3 p4 m = some (r, m2)) : Met l yX10_findPlan (.code yX10_findPlan cX10_findPlan 8 (some .boolean) :: TB) rmX10_findPlan (va_Pc [.ref th, .int p1, .int p2, .int p3, .int p4] (St E m)) (QR E (emI r) m2) 0 0 (AA E) :=
  met_of (em := emI) (plainFor_of_name rfl) (Nat.le_of_ble_eq_true rfl) (L0 := [(0, va_rf (some th)), (1, .int p1), (2, .int p2), (3, .int p3), (4, .int p4)]) rfl (fun Γ _ hrm C hr hn => s_X10_findPlan_0 C hr hrm th p1 p2 p3 p4 m) h

theorem dX10_plan_0 : decode cX10_plan 0 = .ok (.aload_n 0, 1) := by decide +kernel
theorem dX10_plan_1 : decode cX10_plan 1 = .ok (.iconst 0, 1) := by decide +kernel
theorem dX10_plan_2 : decode cX10_plan 2 = .ok (.putfield 180, 3) := by decide +kernel
theorem dX10_plan_5 : decode cX10_plan 5 = .ok (.aload_n 0, 1) := by decide +kernel
theorem dX10_plan_6 : decode cX10_plan 6 = .ok (.iload_n 1, 1) := by decide +kernel
theorem dX10_plan_7 : decode cX10_plan 7 = .ok (.invokevirtual 192, 3) := by decide +kernel
theorem dX10_plan_10 : decode cX10_plan 10 = .ok (.ifCond .eq 36, 3) := by decide +kernel
theorem dX10_plan_13 : decode cX10_plan 13 = .ok (.aload_n 0, 1) := by decide +kernel
theorem dX10_plan_14 : decode cX10_plan 14 = .ok (.iload_n 2, 1) := by decide +kernel
theorem dX10_plan_15 : decode cX10_plan 15 = .ok (.invokevirtual 360, 3) := by decide +kernel
theorem dX10_plan_18 : decode cX10_plan 18 = .ok (.ifCond .eq 28, 3) := by decide +kernel
theorem dX10_plan_21 : decode cX10_plan 21 = .ok (.iload_n 3, 1) := by decide +kernel
theorem dX10_plan_22 : decode cX10_plan 22 = .ok (.invokestatic 372, 3) := by decide +kernel
theorem dX10_plan_25 : decode cX10_plan 25 = .ok (.ifCond .eq 21, 3) := by decide +kernel
theorem dX10_plan_28 : decode cX10_plan 28 = .ok (.iload 5, 2) := by decide +kernel
theorem dX10_plan_30 : decode cX10_plan 30 = .ok (.iconst 0, 1) := by decide +kernel
theorem dX10_plan_31 : decode cX10_plan 31 = .ok (.aload_n 0, 1) := by decide +kernel
theorem dX10_plan_32 : decode cX10_plan 32 = .ok (.iload_n 1, 1) := by decide +kernel
theorem dX10_plan_33 : decode cX10_plan 33 = .ok (.bipush 9, 2) := by decide +kernel
theorem dX10_plan_35 : decode cX10_plan 35 = .ok (.invokevirtual 196, 3) := by decide +kernel
theorem dX10_plan_38 : decode cX10_plan 38 = .ok (.iconst 1, 1) := by decide +kernel
theorem dX10_plan_39 : decode cX10_plan 39 = .ok (.isub, 1) := by decide +kernel
theorem dX10_plan_40 : decode cX10_plan 40 = .ok (.invokestatic 188, 3) := by decide +kernel
theorem dX10_plan_43 : decode cX10_plan 43 = .ok (.ifCond .ne 5, 3) := by decide +kernel
theorem dX10_plan_46 : decode cX10_plan 46 = .ok (.iconst (-1), 1) := by decide +kernel
theorem dX10_plan_47 : decode cX10_plan 47 = .ok (.ireturn, 1) := by decide +kernel
theorem dX10_plan_48 : decode cX10_plan 48 = .ok (.aload_n 0, 1) := by decide +kernel
theorem dX10_plan_49 : decode cX10_plan 49 = .ok (.iload_n 1, 1) := by decide +kernel
theorem dX10_plan_50 : decode cX10_plan 50 = .ok (.iload_n 3, 1) := by decide +kernel
theorem dX10_plan_51 : decode cX10_plan 51 = .ok (.invokevirtual 393, 3) := by decide +kernel
theorem dX10_plan_54 : decode cX10_plan 54 = .ok (.aload_n 0, 1) := by decide +kernel
theorem dX10_plan_55 : decode cX10_plan 55 = .ok (.iload_n 1, 1) := by decide +kernel
theorem dX10_plan_56 : decode cX10_plan 56 = .ok (.iload_n 2, 1) := by decide +kernel
theorem dX10_plan_57 : decode cX10_plan 57 = .ok (.iload 4, 2) := by decide +kernel
theorem dX10_plan_59 : decode cX10_plan 59 = .ok (.iconst (-1), 1) := by decide +kernel
theorem dX10_plan_60 : decode cX10_plan 60 = .ok (.invokevirtual 494, 3) := by decide +kernel
theorem dX10_plan_63 : decode cX10_plan 63 = .ok (.ifCond .eq 13, 3) := by decide +kernel
theorem dX10_plan_66 : decode cX10_plan 66 = .ok (.aload_n 0, 1) := by decide +kernel
theorem dX10_plan_67 : decode cX10_plan 67 = .ok (.getfield 167, 3) := by decide +kernel
theorem dX10_plan_70 : decode cX10_plan 70 = .ok (.iload 5, 2) := by decide +kernel
theorem dX10_plan_72 : decode cX10_plan 72 = .ok (.iaload, 1) := by decide +kernel
theorem dX10_plan_73 : decode cX10_plan 73 = .ok (.goto 4, 3) := by decide +kernel
theorem dX10_plan_76 : decode cX10_plan 76 = .ok (.iconst (-1), 1) := by decide +kernel
theorem dX10_plan_77 : decode cX10_plan 77 = .ok (.ireturn, 1) := by decide +kernel
def rmX10_plan : Room := { frames := 9, cells := 0, slots := 0, locals := 233 }
set_option maxRecDepth 100000 in
def g_X10_plan_0 (th : Nat) (p1 : Int32) (p2 : Int32) (p3 : Int32) (p4 : Int32) (p5 : Int32) (m : MM) : Option (Int32 × MM) :=
  chk (m.K th = 11) (bnd (m.sI 1100 th 0 0) (fun m1 => cal (f_X10_isTown th p1 m1) (fun r1 m2 => if r1 = 0 then (some ((-1), m2)) else (chk (m2.K th = 11) (cal (f_X10_isLaw th p2 m2) (fun r2 m3 => if r2 = 0 then (some ((-1), m3)) else (cal (f_X10_isDay p3 m3) (fun r3 m4 => if r3 = 0 then (some ((-1), m4)) else (chk (m4.K th = 11) (cal (f_X10_of th p1 9 m4) (fun r4 m5 => cal (f_X10_in p5 0 (r4 - 1) m5) (fun r5 m6 => if r5 = 0 then (some ((-1), m6)) else (chk (m6.K th = 11) (cal (f_X10_bring th p1 p3 m6) (fun r6 m7 => chk (m7.K th = 11) (cal (f_X10_findPlan th p1 p2 p4 (-1) m7) (fun r7 m8 => if r7 = 0 then (some ((-1), m8)) else (chk (m8.K th = 11) (ck m8 (m8.R 1176 th 0) 22 (fun a1 => chk (inb p5 (m8.N a1) = true) (some (m8.I 22 a1 (Int32.toNatClampNeg p5), m8))))))))))))))))))))))
set_option maxHeartbeats 4000000 in
set_option maxRecDepth 100000 in
theorem s_X10_plan_0 {Γ : GX} {E : EX} (C : Cx Γ E cX10_plan RX10 6) (hr : Γ.meth.sig.returnType = (some .int)) (hrm : Γ.rm = rmX10_plan) (th : Nat) (p1 : Int32) (p2 : Int32) (p3 : Int32) (p4 : Int32) (p5 : Int32) (m : MM) : Sm (QM Γ E emI 0 0) Γ E 6 0 0 0 [(0, va_rf (some th)), (1, .int p1), (2, .int p2), (3, .int p3), (4, .int p4), (5, .int p5)] [] m (g_X10_plan_0 th p1 p2 p3 p4 p5 m) := by
  unfold g_X10_plan_0
  refine z_aload_n C dX10_plan_0 rfl 0 rfl ?_
  refine z_iconst (v := 0) C dX10_plan_1 (by decide) ?_
  refine z_chk (fun hk1 => ?_)
  refine z_putI C fl_RX10_180 (fun h => by cases h) rfl hk1 rfl rfl dX10_plan_2 (fun m1 eK1 eN1 => ?_)
  refine z_aload_n C dX10_plan_5 rfl 0 rfl ?_
  refine z_iload_n C dX10_plan_6 rfl 1 rfl ?_
  refine z_cVI [.int p1] [] C mv_RX10_192 (fun r0 m0 h0 => M_X10_isTown _ _ _ _ _ _ _ h0) rfl rfl ⟨by rw [hrm]; exact Nat.le_of_ble_eq_true rfl, by rw [hrm]; exact Nat.le_of_ble_eq_true rfl⟩ ⟨by rw [hrm]; exact Nat.le_of_ble_eq_true rfl, by rw [hrm]; exact Nat.le_of_ble_eq_true rfl⟩ rfl (kfw eK1 hk1) rfl rfl rfl (Nat.le_of_ble_eq_true rfl) dX10_plan_7 (fun r1 m2 => ?_)
  refine z_if_eq (tgt := 46) C dX10_plan_10 (by decide) (fun c1 => ?_) (fun c1 => ?_)
  · refine z_iconst (v := (-1)) C dX10_plan_46 (by decide) ?_
    exact z_iret C hr dX10_plan_47
  · refine z_aload_n C dX10_plan_13 rfl 0 rfl ?_
    refine z_iload_n C dX10_plan_14 rfl 2 rfl ?_
    refine z_chk (fun hk2 => ?_)
    refine z_cVI [.int p2] [] C mv_RX10_360 (fun r0 m0 h0 => M_X10_isLaw _ _ _ _ _ _ _ h0) rfl rfl ⟨by rw [hrm]; exact Nat.le_of_ble_eq_true rfl, by rw [hrm]; exact Nat.le_of_ble_eq_true rfl⟩ ⟨by rw [hrm]; exact Nat.le_of_ble_eq_true rfl, by rw [hrm]; exact Nat.le_of_ble_eq_true rfl⟩ rfl hk2 rfl rfl rfl (Nat.le_of_ble_eq_true rfl) dX10_plan_15 (fun r2 m3 => ?_)
    refine z_if_eq (tgt := 46) C dX10_plan_18 (by decide) (fun c2 => ?_) (fun c2 => ?_)
    · refine z_iconst (v := (-1)) C dX10_plan_46 (by decide) ?_
      exact z_iret C hr dX10_plan_47
    · refine z_iload_n C dX10_plan_21 rfl 3 rfl ?_
      refine z_cSI [.int p3] [] C mv_RX10_372 (fun r0 m0 h0 => M_X10_isDay _ _ _ _ _ _ h0) rfl rfl ⟨by rw [hrm]; exact Nat.le_of_ble_eq_true rfl, by rw [hrm]; exact Nat.le_of_ble_eq_true rfl⟩ ⟨by rw [hrm]; exact Nat.le_of_ble_eq_true rfl, by rw [hrm]; exact Nat.le_of_ble_eq_true rfl⟩ rfl rfl (Nat.le_of_ble_eq_true rfl) dX10_plan_22 (fun r3 m4 => ?_)
      refine z_if_eq (tgt := 46) C dX10_plan_25 (by decide) (fun c3 => ?_) (fun c3 => ?_)
      · refine z_iconst (v := (-1)) C dX10_plan_46 (by decide) ?_
        exact z_iret C hr dX10_plan_47
      · refine z_iload C dX10_plan_28 5 rfl ?_
        refine z_iconst (v := 0) C dX10_plan_30 (by decide) ?_
        refine z_aload_n C dX10_plan_31 rfl 0 rfl ?_
        refine z_iload_n C dX10_plan_32 rfl 1 rfl ?_
        refine z_bipush (v := 9) C dX10_plan_33 (by decide) ?_
        refine z_chk (fun hk3 => ?_)
        refine z_cVI [.int p1, .int 9] [.int 0, .int p5] C mv_RX10_196 (fun r0 m0 h0 => M_X10_of _ _ _ _ _ _ _ _ h0) rfl rfl ⟨by rw [hrm]; exact Nat.le_of_ble_eq_true rfl, by rw [hrm]; exact Nat.le_of_ble_eq_true rfl⟩ ⟨by rw [hrm]; exact Nat.le_of_ble_eq_true rfl, by rw [hrm]; exact Nat.le_of_ble_eq_true rfl⟩ rfl hk3 rfl rfl rfl (Nat.le_of_ble_eq_true rfl) dX10_plan_35 (fun r4 m5 => ?_)
        refine z_iconst (v := 1) C dX10_plan_38 (by decide) ?_
        refine z_isub C dX10_plan_39 ?_
        refine z_cSI [.int p5, .int 0, .int (r4 - 1)] [] C mv_RX10_188 (fun r0 m0 h0 => M_X10_in _ _ _ _ _ _ _ _ h0) rfl rfl ⟨by rw [hrm]; exact Nat.le_of_ble_eq_true rfl, by rw [hrm]; exact Nat.le_of_ble_eq_true rfl⟩ ⟨by rw [hrm]; exact Nat.le_of_ble_eq_true rfl, by rw [hrm]; exact Nat.le_of_ble_eq_true rfl⟩ rfl rfl (Nat.le_of_ble_eq_true rfl) dX10_plan_40 (fun r5 m6 => ?_)
        refine z_if_ne (tgt := 48) C dX10_plan_43 (by decide) (fun c4 => ?_) (fun c4 => ?_)
        · refine z_aload_n C dX10_plan_48 rfl 0 rfl ?_
          refine z_iload_n C dX10_plan_49 rfl 1 rfl ?_
          refine z_iload_n C dX10_plan_50 rfl 3 rfl ?_
          refine z_chk (fun hk4 => ?_)
          refine z_cVV [.int p1, .int p3] [] C mv_RX10_393 (fun r0 m0 h0 => M_X10_bring _ _ _ _ _ _ _ _ h0) rfl rfl ⟨by rw [hrm]; exact Nat.le_of_ble_eq_true rfl, by rw [hrm]; exact Nat.le_of_ble_eq_true rfl⟩ ⟨by rw [hrm]; exact Nat.le_of_ble_eq_true rfl, by rw [hrm]; exact Nat.le_of_ble_eq_true rfl⟩ rfl hk4 rfl rfl rfl (Nat.le_of_ble_eq_true rfl) dX10_plan_51 (fun r6 m7 => ?_)
          refine z_aload_n C dX10_plan_54 rfl 0 rfl ?_
          refine z_iload_n C dX10_plan_55 rfl 1 rfl ?_
          refine z_iload_n C dX10_plan_56 rfl 2 rfl ?_
          refine z_iload C dX10_plan_57 4 rfl ?_
          refine z_iconst (v := (-1)) C dX10_plan_59 (by decide) ?_
          refine z_chk (fun hk5 => ?_)
          refine z_cVI [.int p1, .int p2, .int p4, .int (-1)] [] C mv_RX10_494 (fun r0 m0 h0 => M_X10_findPlan _ _ _ _ _ _ _ _ _ _ h0) rfl rfl ⟨by rw [hrm]; exact Nat.le_of_ble_eq_true rfl, by rw [hrm]; exact Nat.le_of_ble_eq_true rfl⟩ ⟨by rw [hrm]; exact Nat.le_of_ble_eq_true rfl, by rw [hrm]; exact Nat.le_of_ble_eq_true rfl⟩ rfl hk5 rfl rfl rfl (Nat.le_of_ble_eq_true rfl) dX10_plan_60 (fun r7 m8 => ?_)
          refine z_if_eq (tgt := 76) C dX10_plan_63 (by decide) (fun c5 => ?_) (fun c5 => ?_)
          · refine z_iconst (v := (-1)) C dX10_plan_76 (by decide) ?_
            exact z_iret C hr dX10_plan_77
          · refine z_aload_n C dX10_plan_66 rfl 0 rfl ?_
            refine z_chk (fun hk6 => ?_)
            refine z_getR C fl_RX10_167 rfl hk6 dX10_plan_67 ?_
            refine z_iload C dX10_plan_70 5 rfl ?_
            refine z_ck (fun a1 hr1 hk7 => ?_)
            refine z_chk (fun hj1 => ?_)
            refine z_iald C hr1 hk7 hj1 dX10_plan_72 ?_
            refine z_goto (tgt := 77) C dX10_plan_73 (by decide) ?_
            exact z_iret C hr dX10_plan_77
        · refine z_iconst (v := (-1)) C dX10_plan_46 (by decide) ?_
          exact z_iret C hr dX10_plan_47
def f_X10_plan (th : Nat) (p1 : Int32) (p2 : Int32) (p3 : Int32) (p4 : Int32) (p5 : Int32) (m : MM) : Option (Int32 × MM) := g_X10_plan_0 th p1 p2 p3 p4 p5 m
theorem M_X10_plan (l : Launch) (E : EX) (th : Nat) (p1 : Int32) (p2 : Int32) (p3 : Int32) (p4 : Int32) (p5 : Int32) (m : MM) (r : Int32) (m2 : MM) (h : f_X10_plan th p1 p2 p3 p4 p5 m = some (r, m2)) : Met l yX10_plan (.code yX10_plan cX10_plan 6 (some .int) :: TB) rmX10_plan (va_Pc [.ref th, .int p1, .int p2, .int p3, .int p4, .int p5] (St E m)) (QR E (emI r) m2) 0 0 (AA E) :=
  met_of (em := emI) (plainFor_of_name rfl) (Nat.le_of_ble_eq_true rfl) (L0 := [(0, va_rf (some th)), (1, .int p1), (2, .int p2), (3, .int p3), (4, .int p4), (5, .int p5)]) rfl (fun Γ _ hrm C hr hn => s_X10_plan_0 C hr hrm th p1 p2 p3 p4 p5 m) h

theorem dX10_blame_0 : decode cX10_blame 0 = .ok (.aload_n 0, 1) := by decide +kernel
theorem dX10_blame_1 : decode cX10_blame 1 = .ok (.iconst 0, 1) := by decide +kernel
theorem dX10_blame_2 : decode cX10_blame 2 = .ok (.putfield 180, 3) := by decide +kernel
theorem dX10_blame_5 : decode cX10_blame 5 = .ok (.aload_n 0, 1) := by decide +kernel
theorem dX10_blame_6 : decode cX10_blame 6 = .ok (.iload_n 1, 1) := by decide +kernel
theorem dX10_blame_7 : decode cX10_blame 7 = .ok (.invokevirtual 192, 3) := by decide +kernel
theorem dX10_blame_10 : decode cX10_blame 10 = .ok (.ifCond .eq 18, 3) := by decide +kernel
theorem dX10_blame_13 : decode cX10_blame 13 = .ok (.aload_n 0, 1) := by decide +kernel
theorem dX10_blame_14 : decode cX10_blame 14 = .ok (.iload_n 2, 1) := by decide +kernel
theorem dX10_blame_15 : decode cX10_blame 15 = .ok (.invokevirtual 360, 3) := by decide +kernel
theorem dX10_blame_18 : decode cX10_blame 18 = .ok (.ifCond .eq 10, 3) := by decide +kernel
theorem dX10_blame_21 : decode cX10_blame 21 = .ok (.iload_n 3, 1) := by decide +kernel
theorem dX10_blame_22 : decode cX10_blame 22 = .ok (.invokestatic 372, 3) := by decide +kernel
theorem dX10_blame_25 : decode cX10_blame 25 = .ok (.ifCond .ne 5, 3) := by decide +kernel
theorem dX10_blame_28 : decode cX10_blame 28 = .ok (.iconst (-1), 1) := by decide +kernel
theorem dX10_blame_29 : decode cX10_blame 29 = .ok (.ireturn, 1) := by decide +kernel
theorem dX10_blame_30 : decode cX10_blame 30 = .ok (.aload_n 0, 1) := by decide +kernel
theorem dX10_blame_31 : decode cX10_blame 31 = .ok (.iload_n 1, 1) := by decide +kernel
theorem dX10_blame_32 : decode cX10_blame 32 = .ok (.iload_n 3, 1) := by decide +kernel
theorem dX10_blame_33 : decode cX10_blame 33 = .ok (.invokevirtual 393, 3) := by decide +kernel
theorem dX10_blame_36 : decode cX10_blame 36 = .ok (.aload_n 0, 1) := by decide +kernel
theorem dX10_blame_37 : decode cX10_blame 37 = .ok (.iload_n 1, 1) := by decide +kernel
theorem dX10_blame_38 : decode cX10_blame 38 = .ok (.iload_n 2, 1) := by decide +kernel
theorem dX10_blame_39 : decode cX10_blame 39 = .ok (.iconst 1, 1) := by decide +kernel
theorem dX10_blame_40 : decode cX10_blame 40 = .ok (.iconst (-1), 1) := by decide +kernel
theorem dX10_blame_41 : decode cX10_blame 41 = .ok (.invokevirtual 494, 3) := by decide +kernel
theorem dX10_blame_44 : decode cX10_blame 44 = .ok (.ifCond .eq 5, 3) := by decide +kernel
theorem dX10_blame_47 : decode cX10_blame 47 = .ok (.iconst (-1), 1) := by decide +kernel
theorem dX10_blame_48 : decode cX10_blame 48 = .ok (.ireturn, 1) := by decide +kernel
theorem dX10_blame_49 : decode cX10_blame 49 = .ok (.iconst 0, 1) := by decide +kernel
theorem dX10_blame_50 : decode cX10_blame 50 = .ok (.istore 4, 2) := by decide +kernel
theorem dX10_blame_52 : decode cX10_blame 52 = .ok (.iload 4, 2) := by decide +kernel
theorem dX10_blame_54 : decode cX10_blame 54 = .ok (.aload_n 0, 1) := by decide +kernel
theorem dX10_blame_55 : decode cX10_blame 55 = .ok (.getfield 95, 3) := by decide +kernel
theorem dX10_blame_58 : decode cX10_blame 58 = .ok (.iload_n 2, 1) := by decide +kernel
theorem dX10_blame_59 : decode cX10_blame 59 = .ok (.iaload, 1) := by decide +kernel
theorem dX10_blame_60 : decode cX10_blame 60 = .ok (.if_icmp .ge 24, 3) := by decide +kernel
theorem dX10_blame_63 : decode cX10_blame 63 = .ok (.aload_n 0, 1) := by decide +kernel
theorem dX10_blame_64 : decode cX10_blame 64 = .ok (.iload_n 1, 1) := by decide +kernel
theorem dX10_blame_65 : decode cX10_blame 65 = .ok (.iload_n 2, 1) := by decide +kernel
theorem dX10_blame_66 : decode cX10_blame 66 = .ok (.iconst 1, 1) := by decide +kernel
theorem dX10_blame_67 : decode cX10_blame 67 = .ok (.iload 4, 2) := by decide +kernel
theorem dX10_blame_69 : decode cX10_blame 69 = .ok (.invokevirtual 494, 3) := by decide +kernel
theorem dX10_blame_72 : decode cX10_blame 72 = .ok (.ifCond .eq 6, 3) := by decide +kernel
theorem dX10_blame_75 : decode cX10_blame 75 = .ok (.iload 4, 2) := by decide +kernel
theorem dX10_blame_77 : decode cX10_blame 77 = .ok (.ireturn, 1) := by decide +kernel
theorem dX10_blame_78 : decode cX10_blame 78 = .ok (.iinc 4 1, 3) := by decide +kernel
theorem dX10_blame_81 : decode cX10_blame 81 = .ok (.goto (-29), 3) := by decide +kernel
theorem dX10_blame_84 : decode cX10_blame 84 = .ok (.iconst (-1), 1) := by decide +kernel
theorem dX10_blame_85 : decode cX10_blame 85 = .ok (.ireturn, 1) := by decide +kernel
def rmX10_blame : Room := { frames := 9, cells := 0, slots := 0, locals := 233 }
set_option maxRecDepth 100000 in
def g_X10_blame_52 (th : Nat) (p1 : Int32) (p2 : Int32) (p3 : Int32) (k52 : Int32 → MM → Option (Int32 × MM)) (x4 : Int32) (m : MM) : Option (Int32 × MM) :=
  chk (m.K th = 11) (ck m (m.R 1129 th 0) 22 (fun a1 => chk (inb p2 (m.N a1) = true) (if (m.I 22 a1 (Int32.toNatClampNeg p2)) ≤ x4 then (some ((-1), m)) else (cal (f_X10_findPlan th p1 p2 1 x4 m) (fun r1 m1 => if r1 = 0 then (k52 (x4 + 1) m1) else (some (x4, m1)))))))
set_option maxHeartbeats 4000000 in
set_option maxRecDepth 100000 in
theorem s_X10_blame_52 {Γ : GX} {E : EX} (C : Cx Γ E cX10_blame RX10 5) (hr : Γ.meth.sig.returnType = (some .int)) (hrm : Γ.rm = rmX10_blame) (th : Nat) (p1 : Int32) (p2 : Int32) (p3 : Int32) (k52 : Int32 → MM → Option (Int32 × MM)) (h52 : ∀ (x4 : Int32) (m : MM), Sm (QM Γ E emI 0 0) Γ E 5 0 0 52 [(0, va_rf (some th)), (1, .int p1), (2, .int p2), (3, .int p3), (4, .int x4)] [] m (k52 x4 m)) (x4 : Int32) (m : MM) : Sm (QM Γ E emI 0 0) Γ E 5 0 0 52 [(0, va_rf (some th)), (1, .int p1), (2, .int p2), (3, .int p3), (4, .int x4)] [] m (g_X10_blame_52 th p1 p2 p3 k52 x4 m) := by
  unfold g_X10_blame_52
  refine z_iload C dX10_blame_52 4 rfl ?_
  refine z_aload_n C dX10_blame_54 rfl 0 rfl ?_
  refine z_chk (fun hk1 => ?_)
  refine z_getR C fl_RX10_95 rfl hk1 dX10_blame_55 ?_
  refine z_iload_n C dX10_blame_58 rfl 2 rfl ?_
  refine z_ck (fun a1 hr1 hk2 => ?_)
  refine z_chk (fun hj1 => ?_)
  refine z_iald C hr1 hk2 hj1 dX10_blame_59 ?_
  refine z_icmp_ge (tgt := 84) C dX10_blame_60 (by decide) (fun c1 => ?_) (fun c1 => ?_)
  · refine z_iconst (v := (-1)) C dX10_blame_84 (by decide) ?_
    exact z_iret C hr dX10_blame_85
  · refine z_aload_n C dX10_blame_63 rfl 0 rfl ?_
    refine z_iload_n C dX10_blame_64 rfl 1 rfl ?_
    refine z_iload_n C dX10_blame_65 rfl 2 rfl ?_
    refine z_iconst (v := 1) C dX10_blame_66 (by decide) ?_
    refine z_iload C dX10_blame_67 4 rfl ?_
    refine z_cVI [.int p1, .int p2, .int 1, .int x4] [] C mv_RX10_494 (fun r0 m0 h0 => M_X10_findPlan _ _ _ _ _ _ _ _ _ _ h0) rfl rfl ⟨by rw [hrm]; exact Nat.le_of_ble_eq_true rfl, by rw [hrm]; exact Nat.le_of_ble_eq_true rfl⟩ ⟨by rw [hrm]; exact Nat.le_of_ble_eq_true rfl, by rw [hrm]; exact Nat.le_of_ble_eq_true rfl⟩ rfl hk1 rfl rfl rfl (Nat.le_of_ble_eq_true rfl) dX10_blame_69 (fun r1 m1 => ?_)
    refine z_if_eq (tgt := 78) C dX10_blame_72 (by decide) (fun c2 => ?_) (fun c2 => ?_)
    · refine z_iinc (v := 1) (L2 := [(4, .int (x4 + 1)), (0, va_rf (some th)), (1, .int p1), (2, .int p2), (3, .int p3)]) C dX10_blame_78 4 rfl (by decide) (by decide) rfl ?_
      refine z_goto (tgt := 52) C dX10_blame_81 (by decide) ?_
      exact z_sub [1, 2, 3, 4, 0] rfl (h52 (x4 + 1) m1)
    · refine z_iload C dX10_blame_75 4 rfl ?_
      exact z_iret C hr dX10_blame_77
def l_X10_blame_52 (th : Nat) (p1 : Int32) (p2 : Int32) (p3 : Int32) : Nat → Int32 → MM → Option (Int32 × MM) := lp (fun _ _ => none) (fun k52 => g_X10_blame_52 th p1 p2 p3 k52)
theorem t_X10_blame_52 {Γ : GX} {E : EX} (C : Cx Γ E cX10_blame RX10 5) (hr : Γ.meth.sig.returnType = (some .int)) (hrm : Γ.rm = rmX10_blame) (th : Nat) (p1 : Int32) (p2 : Int32) (p3 : Int32) : ∀ (n : Nat) (x4 : Int32) (m : MM), Sm (QM Γ E emI 0 0) Γ E 5 0 0 52 [(0, va_rf (some th)), (1, .int p1), (2, .int p2), (3, .int p3), (4, .int x4)] [] m (l_X10_blame_52 th p1 p2 p3 n x4 m) := by
  intro n
  induction n with
  | zero => intros; exact z_none
  | succ n ih => intro x4 m; exact s_X10_blame_52 C hr hrm th p1 p2 p3 (l_X10_blame_52 th p1 p2 p3 n) ih x4 m
set_option maxRecDepth 100000 in
def g_X10_blame_0 (th : Nat) (p1 : Int32) (p2 : Int32) (p3 : Int32) (m : MM) : Option (Int32 × MM) :=
  chk (m.K th = 11) (bnd (m.sI 1100 th 0 0) (fun m2 => cal (f_X10_isTown th p1 m2) (fun r2 m3 => if r2 = 0 then (some ((-1), m3)) else (chk (m3.K th = 11) (cal (f_X10_isLaw th p2 m3) (fun r3 m4 => if r3 = 0 then (some ((-1), m4)) else (cal (f_X10_isDay p3 m4) (fun r4 m5 => if r4 = 0 then (some ((-1), m5)) else (chk (m5.K th = 11) (cal (f_X10_bring th p1 p3 m5) (fun r5 m6 => chk (m6.K th = 11) (cal (f_X10_findPlan th p1 p2 1 (-1) m6) (fun r6 m7 => if r6 = 0 then (l_X10_blame_52 th p1 p2 p3 FU 0 m7) else (some ((-1), m7)))))))))))))))
set_option maxHeartbeats 4000000 in
set_option maxRecDepth 100000 in
theorem s_X10_blame_0 {Γ : GX} {E : EX} (C : Cx Γ E cX10_blame RX10 5) (hr : Γ.meth.sig.returnType = (some .int)) (hrm : Γ.rm = rmX10_blame) (th : Nat) (p1 : Int32) (p2 : Int32) (p3 : Int32) (m : MM) : Sm (QM Γ E emI 0 0) Γ E 5 0 0 0 [(0, va_rf (some th)), (1, .int p1), (2, .int p2), (3, .int p3)] [] m (g_X10_blame_0 th p1 p2 p3 m) := by
  unfold g_X10_blame_0
  refine z_aload_n C dX10_blame_0 rfl 0 rfl ?_
  refine z_iconst (v := 0) C dX10_blame_1 (by decide) ?_
  refine z_chk (fun hk3 => ?_)
  refine z_putI C fl_RX10_180 (fun h => by cases h) rfl hk3 rfl rfl dX10_blame_2 (fun m2 eK1 eN1 => ?_)
  refine z_aload_n C dX10_blame_5 rfl 0 rfl ?_
  refine z_iload_n C dX10_blame_6 rfl 1 rfl ?_
  refine z_cVI [.int p1] [] C mv_RX10_192 (fun r0 m0 h0 => M_X10_isTown _ _ _ _ _ _ _ h0) rfl rfl ⟨by rw [hrm]; exact Nat.le_of_ble_eq_true rfl, by rw [hrm]; exact Nat.le_of_ble_eq_true rfl⟩ ⟨by rw [hrm]; exact Nat.le_of_ble_eq_true rfl, by rw [hrm]; exact Nat.le_of_ble_eq_true rfl⟩ rfl (kfw eK1 hk3) rfl rfl rfl (Nat.le_of_ble_eq_true rfl) dX10_blame_7 (fun r2 m3 => ?_)
  refine z_if_eq (tgt := 28) C dX10_blame_10 (by decide) (fun c3 => ?_) (fun c3 => ?_)
  · refine z_iconst (v := (-1)) C dX10_blame_28 (by decide) ?_
    exact z_iret C hr dX10_blame_29
  · refine z_aload_n C dX10_blame_13 rfl 0 rfl ?_
    refine z_iload_n C dX10_blame_14 rfl 2 rfl ?_
    refine z_chk (fun hk4 => ?_)
    refine z_cVI [.int p2] [] C mv_RX10_360 (fun r0 m0 h0 => M_X10_isLaw _ _ _ _ _ _ _ h0) rfl rfl ⟨by rw [hrm]; exact Nat.le_of_ble_eq_true rfl, by rw [hrm]; exact Nat.le_of_ble_eq_true rfl⟩ ⟨by rw [hrm]; exact Nat.le_of_ble_eq_true rfl, by rw [hrm]; exact Nat.le_of_ble_eq_true rfl⟩ rfl hk4 rfl rfl rfl (Nat.le_of_ble_eq_true rfl) dX10_blame_15 (fun r3 m4 => ?_)
    refine z_if_eq (tgt := 28) C dX10_blame_18 (by decide) (fun c4 => ?_) (fun c4 => ?_)
    · refine z_iconst (v := (-1)) C dX10_blame_28 (by decide) ?_
      exact z_iret C hr dX10_blame_29
    · refine z_iload_n C dX10_blame_21 rfl 3 rfl ?_
      refine z_cSI [.int p3] [] C mv_RX10_372 (fun r0 m0 h0 => M_X10_isDay _ _ _ _ _ _ h0) rfl rfl ⟨by rw [hrm]; exact Nat.le_of_ble_eq_true rfl, by rw [hrm]; exact Nat.le_of_ble_eq_true rfl⟩ ⟨by rw [hrm]; exact Nat.le_of_ble_eq_true rfl, by rw [hrm]; exact Nat.le_of_ble_eq_true rfl⟩ rfl rfl (Nat.le_of_ble_eq_true rfl) dX10_blame_22 (fun r4 m5 => ?_)
      refine z_if_ne (tgt := 30) C dX10_blame_25 (by decide) (fun c5 => ?_) (fun c5 => ?_)
      · refine z_aload_n C dX10_blame_30 rfl 0 rfl ?_
        refine z_iload_n C dX10_blame_31 rfl 1 rfl ?_
        refine z_iload_n C dX10_blame_32 rfl 3 rfl ?_
        refine z_chk (fun hk5 => ?_)
        refine z_cVV [.int p1, .int p3] [] C mv_RX10_393 (fun r0 m0 h0 => M_X10_bring _ _ _ _ _ _ _ _ h0) rfl rfl ⟨by rw [hrm]; exact Nat.le_of_ble_eq_true rfl, by rw [hrm]; exact Nat.le_of_ble_eq_true rfl⟩ ⟨by rw [hrm]; exact Nat.le_of_ble_eq_true rfl, by rw [hrm]; exact Nat.le_of_ble_eq_true rfl⟩ rfl hk5 rfl rfl rfl (Nat.le_of_ble_eq_true rfl) dX10_blame_33 (fun r5 m6 => ?_)
        refine z_aload_n C dX10_blame_36 rfl 0 rfl ?_
        refine z_iload_n C dX10_blame_37 rfl 1 rfl ?_
        refine z_iload_n C dX10_blame_38 rfl 2 rfl ?_
        refine z_iconst (v := 1) C dX10_blame_39 (by decide) ?_
        refine z_iconst (v := (-1)) C dX10_blame_40 (by decide) ?_
        refine z_chk (fun hk6 => ?_)
        refine z_cVI [.int p1, .int p2, .int 1, .int (-1)] [] C mv_RX10_494 (fun r0 m0 h0 => M_X10_findPlan _ _ _ _ _ _ _ _ _ _ h0) rfl rfl ⟨by rw [hrm]; exact Nat.le_of_ble_eq_true rfl, by rw [hrm]; exact Nat.le_of_ble_eq_true rfl⟩ ⟨by rw [hrm]; exact Nat.le_of_ble_eq_true rfl, by rw [hrm]; exact Nat.le_of_ble_eq_true rfl⟩ rfl hk6 rfl rfl rfl (Nat.le_of_ble_eq_true rfl) dX10_blame_41 (fun r6 m7 => ?_)
        refine z_if_eq (tgt := 49) C dX10_blame_44 (by decide) (fun c6 => ?_) (fun c6 => ?_)
        · refine z_iconst (v := 0) C dX10_blame_49 (by decide) ?_
          refine z_istore (i := 4) (L2 := [(4, .int 0), (0, va_rf (some th)), (1, .int p1), (2, .int p2), (3, .int p3)]) C dX10_blame_50 (by decide) rfl ?_
          exact z_sub [1, 2, 3, 4, 0] rfl (t_X10_blame_52 C hr hrm th p1 p2 p3 FU 0 m7)
        · refine z_iconst (v := (-1)) C dX10_blame_47 (by decide) ?_
          exact z_iret C hr dX10_blame_48
      · refine z_iconst (v := (-1)) C dX10_blame_28 (by decide) ?_
        exact z_iret C hr dX10_blame_29
def f_X10_blame (th : Nat) (p1 : Int32) (p2 : Int32) (p3 : Int32) (m : MM) : Option (Int32 × MM) := g_X10_blame_0 th p1 p2 p3 m
theorem M_X10_blame (l : Launch) (E : EX) (th : Nat) (p1 : Int32) (p2 : Int32) (p3 : Int32) (m : MM) (r : Int32) (m2 : MM) (h : f_X10_blame th p1 p2 p3 m = some (r, m2)) : Met l yX10_blame (.code yX10_blame cX10_blame 5 (some .int) :: TB) rmX10_blame (va_Pc [.ref th, .int p1, .int p2, .int p3] (St E m)) (QR E (emI r) m2) 0 0 (AA E) :=
  met_of (em := emI) (plainFor_of_name rfl) (Nat.le_of_ble_eq_true rfl) (L0 := [(0, va_rf (some th)), (1, .int p1), (2, .int p2), (3, .int p3)]) rfl (fun Γ _ hrm C hr hn => s_X10_blame_0 C hr hrm th p1 p2 p3 m) h

theorem dX10_ones_0 : decode cX10_ones 0 = .ok (.iconst 0, 1) := by decide +kernel
theorem dX10_ones_1 : decode cX10_ones 1 = .ok (.istore_n 1, 1) := by decide +kernel
theorem dX10_ones_2 : decode cX10_ones 2 = .ok (.iconst 0, 1) := by decide +kernel
theorem dX10_ones_3 : decode cX10_ones 3 = .ok (.istore_n 2, 1) := by decide +kernel
theorem dX10_ones_4 : decode cX10_ones 4 = .ok (.iload_n 2, 1) := by decide +kernel
theorem dX10_ones_5 : decode cX10_ones 5 = .ok (.bipush 12, 2) := by decide +kernel
theorem dX10_ones_7 : decode cX10_ones 7 = .ok (.if_icmp .ge 17, 3) := by decide +kernel
theorem dX10_ones_10 : decode cX10_ones 10 = .ok (.iload_n 1, 1) := by decide +kernel
theorem dX10_ones_11 : decode cX10_ones 11 = .ok (.iload_n 0, 1) := by decide +kernel
theorem dX10_ones_12 : decode cX10_ones 12 = .ok (.iload_n 2, 1) := by decide +kernel
theorem dX10_ones_13 : decode cX10_ones 13 = .ok (.ishr, 1) := by decide +kernel
theorem dX10_ones_14 : decode cX10_ones 14 = .ok (.iconst 1, 1) := by decide +kernel
theorem dX10_ones_15 : decode cX10_ones 15 = .ok (.iand, 1) := by decide +kernel
theorem dX10_ones_16 : decode cX10_ones 16 = .ok (.iadd, 1) := by decide +kernel
theorem dX10_ones_17 : decode cX10_ones 17 = .ok (.istore_n 1, 1) := by decide +kernel
theorem dX10_ones_18 : decode cX10_ones 18 = .ok (.iinc 2 1, 3) := by decide +kernel
theorem dX10_ones_21 : decode cX10_ones 21 = .ok (.goto (-17), 3) := by decide +kernel
theorem dX10_ones_24 : decode cX10_ones 24 = .ok (.iload_n 1, 1) := by decide +kernel
theorem dX10_ones_25 : decode cX10_ones 25 = .ok (.ireturn, 1) := by decide +kernel
def rmX10_ones : Room := { frames := 0, cells := 0, slots := 0, locals := 0 }
set_option maxRecDepth 100000 in
def g_X10_ones_4 (p0 : Int32) (k4 : Int32 → Int32 → MM → Option (Int32 × MM)) (x1 : Int32) (x2 : Int32) (m : MM) : Option (Int32 × MM) :=
  if 12 ≤ x2 then (some (x1, m)) else (bnd (x1 + ((p0 >>> (x2 &&& 31)) &&& 1)) (fun y1 => k4 y1 (x2 + 1) m))
set_option maxHeartbeats 4000000 in
set_option maxRecDepth 100000 in
theorem s_X10_ones_4 {Γ : GX} {E : EX} (C : Cx Γ E cX10_ones RX10 3) (hr : Γ.meth.sig.returnType = (some .int)) (hrm : Γ.rm = rmX10_ones) (p0 : Int32) (k4 : Int32 → Int32 → MM → Option (Int32 × MM)) (h4 : ∀ (x1 : Int32) (x2 : Int32) (m : MM), Sm (QM Γ E emI 0 0) Γ E 3 0 0 4 [(0, .int p0), (1, .int x1), (2, .int x2)] [] m (k4 x1 x2 m)) (x1 : Int32) (x2 : Int32) (m : MM) : Sm (QM Γ E emI 0 0) Γ E 3 0 0 4 [(0, .int p0), (1, .int x1), (2, .int x2)] [] m (g_X10_ones_4 p0 k4 x1 x2 m) := by
  unfold g_X10_ones_4
  refine z_iload_n C dX10_ones_4 rfl 2 rfl ?_
  refine z_bipush (v := 12) C dX10_ones_5 (by decide) ?_
  refine z_icmp_ge (tgt := 24) C dX10_ones_7 (by decide) (fun c1 => ?_) (fun c1 => ?_)
  · refine z_iload_n C dX10_ones_24 rfl 1 rfl ?_
    exact z_iret C hr dX10_ones_25
  · refine z_iload_n C dX10_ones_10 rfl 1 rfl ?_
    refine z_iload_n C dX10_ones_11 rfl 0 rfl ?_
    refine z_iload_n C dX10_ones_12 rfl 2 rfl ?_
    refine z_ishr C dX10_ones_13 ?_
    refine z_iconst (v := 1) C dX10_ones_14 (by decide) ?_
    refine z_iand C dX10_ones_15 ?_
    refine z_iadd C dX10_ones_16 ?_
    refine z_bndI (fun y1 => ?_)
    refine z_istore_n (i := 1) (L2 := [(1, .int y1), (0, .int p0), (2, .int x2)]) C dX10_ones_17 rfl (by decide) rfl ?_
    refine z_iinc (v := 1) (L2 := [(2, .int (x2 + 1)), (1, .int y1), (0, .int p0)]) C dX10_ones_18 2 rfl (by decide) (by decide) rfl ?_
    refine z_goto (tgt := 4) C dX10_ones_21 (by decide) ?_
    exact z_sub [2, 1, 0] rfl (h4 y1 (x2 + 1) m)
def l_X10_ones_4 (p0 : Int32) : Nat → Int32 → Int32 → MM → Option (Int32 × MM) := lp (fun _ _ _ => none) (fun k4 => g_X10_ones_4 p0 k4)
theorem t_X10_ones_4 {Γ : GX} {E : EX} (C : Cx Γ E cX10_ones RX10 3) (hr : Γ.meth.sig.returnType = (some .int)) (hrm : Γ.rm = rmX10_ones) (p0 : Int32) : ∀ (n : Nat) (x1 : Int32) (x2 : Int32) (m : MM), Sm (QM Γ E emI 0 0) Γ E 3 0 0 4 [(0, .int p0), (1, .int x1), (2, .int x2)] [] m (l_X10_ones_4 p0 n x1 x2 m) := by
  intro n
  induction n with
  | zero => intros; exact z_none
  | succ n ih => intro x1 x2 m; exact s_X10_ones_4 C hr hrm p0 (l_X10_ones_4 p0 n) ih x1 x2 m
set_option maxRecDepth 100000 in
def g_X10_ones_0 (p0 : Int32) (m : MM) : Option (Int32 × MM) :=
  l_X10_ones_4 p0 FU 0 0 m
set_option maxHeartbeats 4000000 in
set_option maxRecDepth 100000 in
theorem s_X10_ones_0 {Γ : GX} {E : EX} (C : Cx Γ E cX10_ones RX10 3) (hr : Γ.meth.sig.returnType = (some .int)) (hrm : Γ.rm = rmX10_ones) (p0 : Int32) (m : MM) : Sm (QM Γ E emI 0 0) Γ E 3 0 0 0 [(0, .int p0)] [] m (g_X10_ones_0 p0 m) := by
  unfold g_X10_ones_0
  refine z_iconst (v := 0) C dX10_ones_0 (by decide) ?_
  refine z_istore_n (i := 1) (L2 := [(1, .int 0), (0, .int p0)]) C dX10_ones_1 rfl (by decide) rfl ?_
  refine z_iconst (v := 0) C dX10_ones_2 (by decide) ?_
  refine z_istore_n (i := 2) (L2 := [(2, .int 0), (1, .int 0), (0, .int p0)]) C dX10_ones_3 rfl (by decide) rfl ?_
  exact z_sub [2, 1, 0] rfl (t_X10_ones_4 C hr hrm p0 FU 0 0 m)
def f_X10_ones (p0 : Int32) (m : MM) : Option (Int32 × MM) := g_X10_ones_0 p0 m
theorem M_X10_ones (l : Launch) (E : EX) (p0 : Int32) (m : MM) (r : Int32) (m2 : MM) (h : f_X10_ones p0 m = some (r, m2)) : Met l yX10_ones (.code yX10_ones cX10_ones 3 (some .int) :: TB) rmX10_ones (va_Pc [.int p0] (St E m)) (QR E (emI r) m2) 0 0 (AA E) :=
  met_of (em := emI) (plainFor_of_name rfl) (Nat.le_of_ble_eq_true rfl) (L0 := [(0, .int p0)]) rfl (fun Γ _ hrm C hr hn => s_X10_ones_0 C hr hrm p0 m) h

theorem dX10_isLessRow_0 : decode cX10_isLessRow 0 = .ok (.iload_n 0, 1) := by decide +kernel
theorem dX10_isLessRow_1 : decode cX10_isLessRow 1 = .ok (.iload_n 1, 1) := by decide +kernel
theorem dX10_isLessRow_2 : decode cX10_isLessRow 2 = .ok (.ixor, 1) := by decide +kernel
theorem dX10_isLessRow_3 : decode cX10_isLessRow 3 = .ok (.istore_n 2, 1) := by decide +kernel
theorem dX10_isLessRow_4 : decode cX10_isLessRow 4 = .ok (.iload_n 0, 1) := by decide +kernel
theorem dX10_isLessRow_5 : decode cX10_isLessRow 5 = .ok (.iload_n 2, 1) := by decide +kernel
theorem dX10_isLessRow_6 : decode cX10_isLessRow 6 = .ok (.iand, 1) := by decide +kernel
theorem dX10_isLessRow_7 : decode cX10_isLessRow 7 = .ok (.iload_n 2, 1) := by decide +kernel
theorem dX10_isLessRow_8 : decode cX10_isLessRow 8 = .ok (.ineg, 1) := by decide +kernel
theorem dX10_isLessRow_9 : decode cX10_isLessRow 9 = .ok (.iand, 1) := by decide +kernel
theorem dX10_isLessRow_10 : decode cX10_isLessRow 10 = .ok (.ifCond .eq 7, 3) := by decide +kernel
theorem dX10_isLessRow_13 : decode cX10_isLessRow 13 = .ok (.iconst 1, 1) := by decide +kernel
theorem dX10_isLessRow_14 : decode cX10_isLessRow 14 = .ok (.goto 4, 3) := by decide +kernel
theorem dX10_isLessRow_17 : decode cX10_isLessRow 17 = .ok (.iconst 0, 1) := by decide +kernel
theorem dX10_isLessRow_18 : decode cX10_isLessRow 18 = .ok (.ireturn, 1) := by decide +kernel
def rmX10_isLessRow : Room := { frames := 0, cells := 0, slots := 0, locals := 0 }
set_option maxRecDepth 100000 in
def g_X10_isLessRow_0 (p0 : Int32) (p1 : Int32) (m : MM) : Option (Int32 × MM) :=
  bnd (p0 ^^^ p1) (fun y1 => if ((p0 &&& y1) &&& (-y1)) = 0 then (some (0, m)) else (some (1, m)))
set_option maxHeartbeats 4000000 in
set_option maxRecDepth 100000 in
theorem s_X10_isLessRow_0 {Γ : GX} {E : EX} (C : Cx Γ E cX10_isLessRow RX10 3) (hr : Γ.meth.sig.returnType = (some .boolean)) (hrm : Γ.rm = rmX10_isLessRow) (p0 : Int32) (p1 : Int32) (m : MM) : Sm (QM Γ E emI 0 0) Γ E 3 0 0 0 [(0, .int p0), (1, .int p1)] [] m (g_X10_isLessRow_0 p0 p1 m) := by
  unfold g_X10_isLessRow_0
  refine z_iload_n C dX10_isLessRow_0 rfl 0 rfl ?_
  refine z_iload_n C dX10_isLessRow_1 rfl 1 rfl ?_
  refine z_ixor C dX10_isLessRow_2 ?_
  refine z_bndI (fun y1 => ?_)
  refine z_istore_n (i := 2) (L2 := [(2, .int y1), (0, .int p0), (1, .int p1)]) C dX10_isLessRow_3 rfl (by decide) rfl ?_
  refine z_iload_n C dX10_isLessRow_4 rfl 1 rfl ?_
  refine z_iload_n C dX10_isLessRow_5 rfl 0 rfl ?_
  refine z_iand C dX10_isLessRow_6 ?_
  refine z_iload_n C dX10_isLessRow_7 rfl 0 rfl ?_
  refine z_ineg C dX10_isLessRow_8 ?_
  refine z_iand C dX10_isLessRow_9 ?_
  refine z_if_eq (tgt := 17) C dX10_isLessRow_10 (by decide) (fun c1 => ?_) (fun c1 => ?_)
  · refine z_iconst (v := 0) C dX10_isLessRow_17 (by decide) ?_
    exact z_zret C hr rfl dX10_isLessRow_18
  · refine z_iconst (v := 1) C dX10_isLessRow_13 (by decide) ?_
    refine z_goto (tgt := 18) C dX10_isLessRow_14 (by decide) ?_
    exact z_zret C hr rfl dX10_isLessRow_18
def f_X10_isLessRow (p0 : Int32) (p1 : Int32) (m : MM) : Option (Int32 × MM) := g_X10_isLessRow_0 p0 p1 m
theorem M_X10_isLessRow (l : Launch) (E : EX) (p0 : Int32) (p1 : Int32) (m : MM) (r : Int32) (m2 : MM) (h : f_X10_isLessRow p0 p1 m = some (r, m2)) : Met l yX10_isLessRow (.code yX10_isLessRow cX10_isLessRow 3 (some .boolean) :: TB) rmX10_isLessRow (va_Pc [.int p0, .int p1] (St E m)) (QR E (emI r) m2) 0 0 (AA E) :=
  met_of (em := emI) (plainFor_of_name rfl) (Nat.le_of_ble_eq_true rfl) (L0 := [(0, .int p0), (1, .int p1)]) rfl (fun Γ _ hrm C hr hn => s_X10_isLessRow_0 C hr hrm p0 p1 m) h

theorem dX10_frees_0 : decode cX10_frees 0 = .ok (.iconst 0, 1) := by decide +kernel
theorem dX10_frees_1 : decode cX10_frees 1 = .ok (.istore_n 2, 1) := by decide +kernel
theorem dX10_frees_2 : decode cX10_frees 2 = .ok (.iload_n 2, 1) := by decide +kernel
theorem dX10_frees_3 : decode cX10_frees 3 = .ok (.aload_n 0, 1) := by decide +kernel
theorem dX10_frees_4 : decode cX10_frees 4 = .ok (.getfield 443, 3) := by decide +kernel
theorem dX10_frees_7 : decode cX10_frees 7 = .ok (.if_icmp .ge 37, 3) := by decide +kernel
theorem dX10_frees_10 : decode cX10_frees 10 = .ok (.iload_n 1, 1) := by decide +kernel
theorem dX10_frees_11 : decode cX10_frees 11 = .ok (.aload_n 0, 1) := by decide +kernel
theorem dX10_frees_12 : decode cX10_frees 12 = .ok (.getfield 158, 3) := by decide +kernel
theorem dX10_frees_15 : decode cX10_frees 15 = .ok (.iload_n 2, 1) := by decide +kernel
theorem dX10_frees_16 : decode cX10_frees 16 = .ok (.iaload, 1) := by decide +kernel
theorem dX10_frees_17 : decode cX10_frees 17 = .ok (.ishr, 1) := by decide +kernel
theorem dX10_frees_18 : decode cX10_frees 18 = .ok (.iconst 1, 1) := by decide +kernel
theorem dX10_frees_19 : decode cX10_frees 19 = .ok (.iand, 1) := by decide +kernel
theorem dX10_frees_20 : decode cX10_frees 20 = .ok (.ifCond .ne 18, 3) := by decide +kernel
theorem dX10_frees_23 : decode cX10_frees 23 = .ok (.iload_n 1, 1) := by decide +kernel
theorem dX10_frees_24 : decode cX10_frees 24 = .ok (.aload_n 0, 1) := by decide +kernel
theorem dX10_frees_25 : decode cX10_frees 25 = .ok (.getfield 161, 3) := by decide +kernel
theorem dX10_frees_28 : decode cX10_frees 28 = .ok (.iload_n 2, 1) := by decide +kernel
theorem dX10_frees_29 : decode cX10_frees 29 = .ok (.iaload, 1) := by decide +kernel
theorem dX10_frees_30 : decode cX10_frees 30 = .ok (.ishr, 1) := by decide +kernel
theorem dX10_frees_31 : decode cX10_frees 31 = .ok (.iconst 1, 1) := by decide +kernel
theorem dX10_frees_32 : decode cX10_frees 32 = .ok (.iand, 1) := by decide +kernel
theorem dX10_frees_33 : decode cX10_frees 33 = .ok (.ifCond .ne 5, 3) := by decide +kernel
theorem dX10_frees_36 : decode cX10_frees 36 = .ok (.iconst 0, 1) := by decide +kernel
theorem dX10_frees_37 : decode cX10_frees 37 = .ok (.ireturn, 1) := by decide +kernel
theorem dX10_frees_38 : decode cX10_frees 38 = .ok (.iinc 2 1, 3) := by decide +kernel
theorem dX10_frees_41 : decode cX10_frees 41 = .ok (.goto (-39), 3) := by decide +kernel
theorem dX10_frees_44 : decode cX10_frees 44 = .ok (.iconst 1, 1) := by decide +kernel
theorem dX10_frees_45 : decode cX10_frees 45 = .ok (.ireturn, 1) := by decide +kernel
def rmX10_frees : Room := { frames := 0, cells := 0, slots := 0, locals := 0 }
set_option maxRecDepth 100000 in
def g_X10_frees_38 (th : Nat) (p1 : Int32) (k2 : Int32 → MM → Option (Int32 × MM)) (x2 : Int32) (m : MM) : Option (Int32 × MM) :=
  k2 (x2 + 1) m
set_option maxHeartbeats 4000000 in
set_option maxRecDepth 100000 in
theorem s_X10_frees_38 {Γ : GX} {E : EX} (C : Cx Γ E cX10_frees RX10 3) (hr : Γ.meth.sig.returnType = (some .boolean)) (hrm : Γ.rm = rmX10_frees) (th : Nat) (p1 : Int32) (k2 : Int32 → MM → Option (Int32 × MM)) (h2 : ∀ (x2 : Int32) (m : MM), Sm (QM Γ E emI 0 0) Γ E 3 0 0 2 [(0, va_rf (some th)), (1, .int p1), (2, .int x2)] [] m (k2 x2 m)) (x2 : Int32) (m : MM) : Sm (QM Γ E emI 0 0) Γ E 3 0 0 38 [(0, va_rf (some th)), (1, .int p1), (2, .int x2)] [] m (g_X10_frees_38 th p1 k2 x2 m) := by
  unfold g_X10_frees_38
  refine z_iinc (v := 1) (L2 := [(2, .int (x2 + 1)), (0, va_rf (some th)), (1, .int p1)]) C dX10_frees_38 2 rfl (by decide) (by decide) rfl ?_
  refine z_goto (tgt := 2) C dX10_frees_41 (by decide) ?_
  exact z_sub [1, 2, 0] rfl (h2 (x2 + 1) m)
set_option maxRecDepth 100000 in
def g_X10_frees_2 (th : Nat) (p1 : Int32) (k2 : Int32 → MM → Option (Int32 × MM)) (x2 : Int32) (m : MM) : Option (Int32 × MM) :=
  chk (m.K th = 11) (if (m.I 1174 th 0) ≤ x2 then (some (1, m)) else (ck m (m.R 1171 th 0) 22 (fun a1 => chk (inb x2 (m.N a1) = true) (if ((p1 >>> ((m.I 22 a1 (Int32.toNatClampNeg x2)) &&& 31)) &&& 1) = 0 then (ck m (m.R 1172 th 0) 22 (fun a2 => chk (inb x2 (m.N a2) = true) (if ((p1 >>> ((m.I 22 a2 (Int32.toNatClampNeg x2)) &&& 31)) &&& 1) = 0 then (some (0, m)) else (g_X10_frees_38 th p1 k2 x2 m)))) else (g_X10_frees_38 th p1 k2 x2 m)))))
set_option maxHeartbeats 4000000 in
set_option maxRecDepth 100000 in
theorem s_X10_frees_2 {Γ : GX} {E : EX} (C : Cx Γ E cX10_frees RX10 3) (hr : Γ.meth.sig.returnType = (some .boolean)) (hrm : Γ.rm = rmX10_frees) (th : Nat) (p1 : Int32) (k2 : Int32 → MM → Option (Int32 × MM)) (h2 : ∀ (x2 : Int32) (m : MM), Sm (QM Γ E emI 0 0) Γ E 3 0 0 2 [(0, va_rf (some th)), (1, .int p1), (2, .int x2)] [] m (k2 x2 m)) (x2 : Int32) (m : MM) : Sm (QM Γ E emI 0 0) Γ E 3 0 0 2 [(0, va_rf (some th)), (1, .int p1), (2, .int x2)] [] m (g_X10_frees_2 th p1 k2 x2 m) := by
  unfold g_X10_frees_2
  refine z_iload_n C dX10_frees_2 rfl 2 rfl ?_
  refine z_aload_n C dX10_frees_3 rfl 0 rfl ?_
  refine z_chk (fun hk1 => ?_)
  refine z_getI C fl_RX10_443 rfl hk1 dX10_frees_4 ?_
  refine z_icmp_ge (tgt := 44) C dX10_frees_7 (by decide) (fun c1 => ?_) (fun c1 => ?_)
  · refine z_iconst (v := 1) C dX10_frees_44 (by decide) ?_
    exact z_zret C hr rfl dX10_frees_45
  · refine z_iload_n C dX10_frees_10 rfl 1 rfl ?_
    refine z_aload_n C dX10_frees_11 rfl 0 rfl ?_
    refine z_getR C fl_RX10_158 rfl hk1 dX10_frees_12 ?_
    refine z_iload_n C dX10_frees_15 rfl 2 rfl ?_
    refine z_ck (fun a1 hr1 hk2 => ?_)
    refine z_chk (fun hj1 => ?_)
    refine z_iald C hr1 hk2 hj1 dX10_frees_16 ?_
    refine z_ishr C dX10_frees_17 ?_
    refine z_iconst (v := 1) C dX10_frees_18 (by decide) ?_
    refine z_iand C dX10_frees_19 ?_
    refine z_if_ne (tgt := 38) C dX10_frees_20 (by decide) (fun c2 => ?_) (fun c2 => ?_)
    · exact z_sub [0, 1, 2] rfl (s_X10_frees_38 C hr hrm th p1 k2 h2 x2 m)
    · refine z_iload_n C dX10_frees_23 rfl 1 rfl ?_
      refine z_aload_n C dX10_frees_24 rfl 0 rfl ?_
      refine z_getR C fl_RX10_161 rfl hk1 dX10_frees_25 ?_
      refine z_iload_n C dX10_frees_28 rfl 2 rfl ?_
      refine z_ck (fun a2 hr2 hk3 => ?_)
      refine z_chk (fun hj2 => ?_)
      refine z_iald C hr2 hk3 hj2 dX10_frees_29 ?_
      refine z_ishr C dX10_frees_30 ?_
      refine z_iconst (v := 1) C dX10_frees_31 (by decide) ?_
      refine z_iand C dX10_frees_32 ?_
      refine z_if_ne (tgt := 38) C dX10_frees_33 (by decide) (fun c3 => ?_) (fun c3 => ?_)
      · exact z_sub [0, 1, 2] rfl (s_X10_frees_38 C hr hrm th p1 k2 h2 x2 m)
      · refine z_iconst (v := 0) C dX10_frees_36 (by decide) ?_
        exact z_zret C hr rfl dX10_frees_37
def l_X10_frees_2 (th : Nat) (p1 : Int32) : Nat → Int32 → MM → Option (Int32 × MM) := lp (fun _ _ => none) (fun k2 => g_X10_frees_2 th p1 k2)
theorem t_X10_frees_2 {Γ : GX} {E : EX} (C : Cx Γ E cX10_frees RX10 3) (hr : Γ.meth.sig.returnType = (some .boolean)) (hrm : Γ.rm = rmX10_frees) (th : Nat) (p1 : Int32) : ∀ (n : Nat) (x2 : Int32) (m : MM), Sm (QM Γ E emI 0 0) Γ E 3 0 0 2 [(0, va_rf (some th)), (1, .int p1), (2, .int x2)] [] m (l_X10_frees_2 th p1 n x2 m) := by
  intro n
  induction n with
  | zero => intros; exact z_none
  | succ n ih => intro x2 m; exact s_X10_frees_2 C hr hrm th p1 (l_X10_frees_2 th p1 n) ih x2 m
set_option maxRecDepth 100000 in
def g_X10_frees_0 (th : Nat) (p1 : Int32) (m : MM) : Option (Int32 × MM) :=
  l_X10_frees_2 th p1 FU 0 m
set_option maxHeartbeats 4000000 in
set_option maxRecDepth 100000 in
theorem s_X10_frees_0 {Γ : GX} {E : EX} (C : Cx Γ E cX10_frees RX10 3) (hr : Γ.meth.sig.returnType = (some .boolean)) (hrm : Γ.rm = rmX10_frees) (th : Nat) (p1 : Int32) (m : MM) : Sm (QM Γ E emI 0 0) Γ E 3 0 0 0 [(0, va_rf (some th)), (1, .int p1)] [] m (g_X10_frees_0 th p1 m) := by
  unfold g_X10_frees_0
  refine z_iconst (v := 0) C dX10_frees_0 (by decide) ?_
  refine z_istore_n (i := 2) (L2 := [(2, .int 0), (0, va_rf (some th)), (1, .int p1)]) C dX10_frees_1 rfl (by decide) rfl ?_
  exact z_sub [1, 2, 0] rfl (t_X10_frees_2 C hr hrm th p1 FU 0 m)
def f_X10_frees (th : Nat) (p1 : Int32) (m : MM) : Option (Int32 × MM) := g_X10_frees_0 th p1 m
theorem M_X10_frees (l : Launch) (E : EX) (th : Nat) (p1 : Int32) (m : MM) (r : Int32) (m2 : MM) (h : f_X10_frees th p1 m = some (r, m2)) : Met l yX10_frees (.code yX10_frees cX10_frees 3 (some .boolean) :: TB) rmX10_frees (va_Pc [.ref th, .int p1] (St E m)) (QR E (emI r) m2) 0 0 (AA E) :=
  met_of (em := emI) (plainFor_of_name rfl) (Nat.le_of_ble_eq_true rfl) (L0 := [(0, va_rf (some th)), (1, .int p1)]) rfl (fun Γ _ hrm C hr hn => s_X10_frees_0 C hr hrm th p1 m) h

theorem dX10_costOf_0 : decode cX10_costOf 0 = .ok (.iconst 0, 1) := by decide +kernel
theorem dX10_costOf_1 : decode cX10_costOf 1 = .ok (.istore_n 3, 1) := by decide +kernel
theorem dX10_costOf_2 : decode cX10_costOf 2 = .ok (.iconst 0, 1) := by decide +kernel
theorem dX10_costOf_3 : decode cX10_costOf 3 = .ok (.istore 4, 2) := by decide +kernel
theorem dX10_costOf_5 : decode cX10_costOf 5 = .ok (.iload 4, 2) := by decide +kernel
theorem dX10_costOf_7 : decode cX10_costOf 7 = .ok (.bipush 12, 2) := by decide +kernel
theorem dX10_costOf_9 : decode cX10_costOf 9 = .ok (.if_icmp .ge 37, 3) := by decide +kernel
theorem dX10_costOf_12 : decode cX10_costOf 12 = .ok (.iload_n 3, 1) := by decide +kernel
theorem dX10_costOf_13 : decode cX10_costOf 13 = .ok (.iload_n 2, 1) := by decide +kernel
theorem dX10_costOf_14 : decode cX10_costOf 14 = .ok (.iload 4, 2) := by decide +kernel
theorem dX10_costOf_16 : decode cX10_costOf 16 = .ok (.ishr, 1) := by decide +kernel
theorem dX10_costOf_17 : decode cX10_costOf 17 = .ok (.iconst 1, 1) := by decide +kernel
theorem dX10_costOf_18 : decode cX10_costOf 18 = .ok (.iand, 1) := by decide +kernel
theorem dX10_costOf_19 : decode cX10_costOf 19 = .ok (.ifCond .eq 18, 3) := by decide +kernel
theorem dX10_costOf_22 : decode cX10_costOf 22 = .ok (.aload_n 0, 1) := by decide +kernel
theorem dX10_costOf_23 : decode cX10_costOf 23 = .ok (.getfield 47, 3) := by decide +kernel
theorem dX10_costOf_26 : decode cX10_costOf 26 = .ok (.bipush 12, 2) := by decide +kernel
theorem dX10_costOf_28 : decode cX10_costOf 28 = .ok (.iload_n 1, 1) := by decide +kernel
theorem dX10_costOf_29 : decode cX10_costOf 29 = .ok (.imul, 1) := by decide +kernel
theorem dX10_costOf_30 : decode cX10_costOf 30 = .ok (.iload 4, 2) := by decide +kernel
theorem dX10_costOf_32 : decode cX10_costOf 32 = .ok (.iadd, 1) := by decide +kernel
theorem dX10_costOf_33 : decode cX10_costOf 33 = .ok (.iaload, 1) := by decide +kernel
theorem dX10_costOf_34 : decode cX10_costOf 34 = .ok (.goto 4, 3) := by decide +kernel
theorem dX10_costOf_37 : decode cX10_costOf 37 = .ok (.iconst 0, 1) := by decide +kernel
theorem dX10_costOf_38 : decode cX10_costOf 38 = .ok (.iadd, 1) := by decide +kernel
theorem dX10_costOf_39 : decode cX10_costOf 39 = .ok (.istore_n 3, 1) := by decide +kernel
theorem dX10_costOf_40 : decode cX10_costOf 40 = .ok (.iinc 4 1, 3) := by decide +kernel
theorem dX10_costOf_43 : decode cX10_costOf 43 = .ok (.goto (-38), 3) := by decide +kernel
theorem dX10_costOf_46 : decode cX10_costOf 46 = .ok (.iload_n 3, 1) := by decide +kernel
theorem dX10_costOf_47 : decode cX10_costOf 47 = .ok (.ireturn, 1) := by decide +kernel
def rmX10_costOf : Room := { frames := 0, cells := 0, slots := 0, locals := 0 }
set_option maxRecDepth 100000 in
def g_X10_costOf_38 (th : Nat) (p1 : Int32) (p2 : Int32) (k5 : Int32 → Int32 → MM → Option (Int32 × MM)) (x4 : Int32) (s0 : Int32) (s1 : Int32) (m : MM) : Option (Int32 × MM) :=
  bnd (s0 + s1) (fun y1 => k5 y1 (x4 + 1) m)
set_option maxHeartbeats 4000000 in
set_option maxRecDepth 100000 in
theorem s_X10_costOf_38 {Γ : GX} {E : EX} (C : Cx Γ E cX10_costOf RX10 5) (hr : Γ.meth.sig.returnType = (some .int)) (hrm : Γ.rm = rmX10_costOf) (th : Nat) (p1 : Int32) (p2 : Int32) (k5 : Int32 → Int32 → MM → Option (Int32 × MM)) (h5 : ∀ (x3 : Int32) (x4 : Int32) (m : MM), Sm (QM Γ E emI 0 0) Γ E 5 0 0 5 [(0, va_rf (some th)), (1, .int p1), (2, .int p2), (3, .int x3), (4, .int x4)] [] m (k5 x3 x4 m)) (x4 : Int32) (s0 : Int32) (s1 : Int32) (m : MM) : Sm (QM Γ E emI 0 0) Γ E 5 0 0 38 [(0, va_rf (some th)), (1, .int p1), (2, .int p2), (4, .int x4)] [.int s1, .int s0] m (g_X10_costOf_38 th p1 p2 k5 x4 s0 s1 m) := by
  unfold g_X10_costOf_38
  refine z_iadd C dX10_costOf_38 ?_
  refine z_bndI (fun y1 => ?_)
  refine z_istore_n (i := 3) (L2 := [(3, .int y1), (0, va_rf (some th)), (1, .int p1), (2, .int p2), (4, .int x4)]) C dX10_costOf_39 rfl (by decide) rfl ?_
  refine z_iinc (v := 1) (L2 := [(4, .int (x4 + 1)), (3, .int y1), (0, va_rf (some th)), (1, .int p1), (2, .int p2)]) C dX10_costOf_40 4 rfl (by decide) (by decide) rfl ?_
  refine z_goto (tgt := 5) C dX10_costOf_43 (by decide) ?_
  exact z_sub [2, 3, 4, 1, 0] rfl (h5 y1 (x4 + 1) m)
set_option maxRecDepth 100000 in
def g_X10_costOf_5 (th : Nat) (p1 : Int32) (p2 : Int32) (k5 : Int32 → Int32 → MM → Option (Int32 × MM)) (x3 : Int32) (x4 : Int32) (m : MM) : Option (Int32 × MM) :=
  if 12 ≤ x4 then (some (x3, m)) else (if ((p2 >>> (x4 &&& 31)) &&& 1) = 0 then (g_X10_costOf_38 th p1 p2 k5 x4 x3 0 m) else (chk (m.K th = 11) (ck m (m.R 1113 th 0) 22 (fun a1 => chk (inb ((12 * p1) + x4) (m.N a1) = true) (g_X10_costOf_38 th p1 p2 k5 x4 x3 (m.I 22 a1 (Int32.toNatClampNeg ((12 * p1) + x4))) m)))))
set_option maxHeartbeats 4000000 in
set_option maxRecDepth 100000 in
theorem s_X10_costOf_5 {Γ : GX} {E : EX} (C : Cx Γ E cX10_costOf RX10 5) (hr : Γ.meth.sig.returnType = (some .int)) (hrm : Γ.rm = rmX10_costOf) (th : Nat) (p1 : Int32) (p2 : Int32) (k5 : Int32 → Int32 → MM → Option (Int32 × MM)) (h5 : ∀ (x3 : Int32) (x4 : Int32) (m : MM), Sm (QM Γ E emI 0 0) Γ E 5 0 0 5 [(0, va_rf (some th)), (1, .int p1), (2, .int p2), (3, .int x3), (4, .int x4)] [] m (k5 x3 x4 m)) (x3 : Int32) (x4 : Int32) (m : MM) : Sm (QM Γ E emI 0 0) Γ E 5 0 0 5 [(0, va_rf (some th)), (1, .int p1), (2, .int p2), (3, .int x3), (4, .int x4)] [] m (g_X10_costOf_5 th p1 p2 k5 x3 x4 m) := by
  unfold g_X10_costOf_5
  refine z_iload C dX10_costOf_5 4 rfl ?_
  refine z_bipush (v := 12) C dX10_costOf_7 (by decide) ?_
  refine z_icmp_ge (tgt := 46) C dX10_costOf_9 (by decide) (fun c1 => ?_) (fun c1 => ?_)
  · refine z_iload_n C dX10_costOf_46 rfl 3 rfl ?_
    exact z_iret C hr dX10_costOf_47
  · refine z_iload_n C dX10_costOf_12 rfl 3 rfl ?_
    refine z_iload_n C dX10_costOf_13 rfl 2 rfl ?_
    refine z_iload C dX10_costOf_14 4 rfl ?_
    refine z_ishr C dX10_costOf_16 ?_
    refine z_iconst (v := 1) C dX10_costOf_17 (by decide) ?_
    refine z_iand C dX10_costOf_18 ?_
    refine z_if_eq (tgt := 37) C dX10_costOf_19 (by decide) (fun c2 => ?_) (fun c2 => ?_)
    · refine z_iconst (v := 0) C dX10_costOf_37 (by decide) ?_
      exact z_sub [0, 1, 2, 4] rfl (s_X10_costOf_38 C hr hrm th p1 p2 k5 h5 x4 x3 0 m)
    · refine z_aload_n C dX10_costOf_22 rfl 0 rfl ?_
      refine z_chk (fun hk1 => ?_)
      refine z_getR C fl_RX10_47 rfl hk1 dX10_costOf_23 ?_
      refine z_bipush (v := 12) C dX10_costOf_26 (by decide) ?_
      refine z_iload_n C dX10_costOf_28 rfl 1 rfl ?_
      refine z_imul C dX10_costOf_29 ?_
      refine z_iload C dX10_costOf_30 4 rfl ?_
      refine z_iadd C dX10_costOf_32 ?_
      refine z_ck (fun a1 hr1 hk2 => ?_)
      refine z_chk (fun hj1 => ?_)
      refine z_iald C hr1 hk2 hj1 dX10_costOf_33 ?_
      refine z_goto (tgt := 38) C dX10_costOf_34 (by decide) ?_
      exact z_sub [0, 1, 2, 4] rfl (s_X10_costOf_38 C hr hrm th p1 p2 k5 h5 x4 x3 (m.I 22 a1 (Int32.toNatClampNeg ((12 * p1) + x4))) m)
def l_X10_costOf_5 (th : Nat) (p1 : Int32) (p2 : Int32) : Nat → Int32 → Int32 → MM → Option (Int32 × MM) := lp (fun _ _ _ => none) (fun k5 => g_X10_costOf_5 th p1 p2 k5)
theorem t_X10_costOf_5 {Γ : GX} {E : EX} (C : Cx Γ E cX10_costOf RX10 5) (hr : Γ.meth.sig.returnType = (some .int)) (hrm : Γ.rm = rmX10_costOf) (th : Nat) (p1 : Int32) (p2 : Int32) : ∀ (n : Nat) (x3 : Int32) (x4 : Int32) (m : MM), Sm (QM Γ E emI 0 0) Γ E 5 0 0 5 [(0, va_rf (some th)), (1, .int p1), (2, .int p2), (3, .int x3), (4, .int x4)] [] m (l_X10_costOf_5 th p1 p2 n x3 x4 m) := by
  intro n
  induction n with
  | zero => intros; exact z_none
  | succ n ih => intro x3 x4 m; exact s_X10_costOf_5 C hr hrm th p1 p2 (l_X10_costOf_5 th p1 p2 n) ih x3 x4 m
set_option maxRecDepth 100000 in
def g_X10_costOf_0 (th : Nat) (p1 : Int32) (p2 : Int32) (m : MM) : Option (Int32 × MM) :=
  l_X10_costOf_5 th p1 p2 FU 0 0 m
set_option maxHeartbeats 4000000 in
set_option maxRecDepth 100000 in
theorem s_X10_costOf_0 {Γ : GX} {E : EX} (C : Cx Γ E cX10_costOf RX10 5) (hr : Γ.meth.sig.returnType = (some .int)) (hrm : Γ.rm = rmX10_costOf) (th : Nat) (p1 : Int32) (p2 : Int32) (m : MM) : Sm (QM Γ E emI 0 0) Γ E 5 0 0 0 [(0, va_rf (some th)), (1, .int p1), (2, .int p2)] [] m (g_X10_costOf_0 th p1 p2 m) := by
  unfold g_X10_costOf_0
  refine z_iconst (v := 0) C dX10_costOf_0 (by decide) ?_
  refine z_istore_n (i := 3) (L2 := [(3, .int 0), (0, va_rf (some th)), (1, .int p1), (2, .int p2)]) C dX10_costOf_1 rfl (by decide) rfl ?_
  refine z_iconst (v := 0) C dX10_costOf_2 (by decide) ?_
  refine z_istore (i := 4) (L2 := [(4, .int 0), (3, .int 0), (0, va_rf (some th)), (1, .int p1), (2, .int p2)]) C dX10_costOf_3 (by decide) rfl ?_
  exact z_sub [2, 3, 4, 1, 0] rfl (t_X10_costOf_5 C hr hrm th p1 p2 FU 0 0 m)
def f_X10_costOf (th : Nat) (p1 : Int32) (p2 : Int32) (m : MM) : Option (Int32 × MM) := g_X10_costOf_0 th p1 p2 m
theorem M_X10_costOf (l : Launch) (E : EX) (th : Nat) (p1 : Int32) (p2 : Int32) (m : MM) (r : Int32) (m2 : MM) (h : f_X10_costOf th p1 p2 m = some (r, m2)) : Met l yX10_costOf (.code yX10_costOf cX10_costOf 5 (some .int) :: TB) rmX10_costOf (va_Pc [.ref th, .int p1, .int p2] (St E m)) (QR E (emI r) m2) 0 0 (AA E) :=
  met_of (em := emI) (plainFor_of_name rfl) (Nat.le_of_ble_eq_true rfl) (L0 := [(0, va_rf (some th)), (1, .int p1), (2, .int p2)]) rfl (fun Γ _ hrm C hr hn => s_X10_costOf_0 C hr hrm th p1 p2 m) h
