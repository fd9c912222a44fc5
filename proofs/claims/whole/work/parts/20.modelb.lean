theorem dX10_takeTape_0 : decode cX10_takeTape 0 = .ok (.aload_n 0, 1) := by decide +kernel
theorem dX10_takeTape_1 : decode cX10_takeTape 1 = .ok (.aload_n 0, 1) := by decide +kernel
theorem dX10_takeTape_2 : decode cX10_takeTape 2 = .ok (.getfield 13, 3) := by decide +kernel
theorem dX10_takeTape_5 : decode cX10_takeTape 5 = .ok (.iconst 0, 1) := by decide +kernel
theorem dX10_takeTape_6 : decode cX10_takeTape 6 = .ok (.iaload, 1) := by decide +kernel
theorem dX10_takeTape_7 : decode cX10_takeTape 7 = .ok (.putfield 207, 3) := by decide +kernel
theorem dX10_takeTape_10 : decode cX10_takeTape 10 = .ok (.aload_n 0, 1) := by decide +kernel
theorem dX10_takeTape_11 : decode cX10_takeTape 11 = .ok (.getfield 13, 3) := by decide +kernel
theorem dX10_takeTape_14 : decode cX10_takeTape 14 = .ok (.iconst 0, 1) := by decide +kernel
theorem dX10_takeTape_15 : decode cX10_takeTape 15 = .ok (.iconst 0, 1) := by decide +kernel
theorem dX10_takeTape_16 : decode cX10_takeTape 16 = .ok (.iastore, 1) := by decide +kernel
theorem dX10_takeTape_17 : decode cX10_takeTape 17 = .ok (.aload_n 0, 1) := by decide +kernel
theorem dX10_takeTape_18 : decode cX10_takeTape 18 = .ok (.getfield 17, 3) := by decide +kernel
theorem dX10_takeTape_21 : decode cX10_takeTape 21 = .ok (.iconst 0, 1) := by decide +kernel
theorem dX10_takeTape_22 : decode cX10_takeTape 22 = .ok (.iconst 0, 1) := by decide +kernel
theorem dX10_takeTape_23 : decode cX10_takeTape 23 = .ok (.iastore, 1) := by decide +kernel
theorem dX10_takeTape_24 : decode cX10_takeTape 24 = .ok (.aload_n 0, 1) := by decide +kernel
theorem dX10_takeTape_25 : decode cX10_takeTape 25 = .ok (.getfield 20, 3) := by decide +kernel
theorem dX10_takeTape_28 : decode cX10_takeTape 28 = .ok (.iconst 0, 1) := by decide +kernel
theorem dX10_takeTape_29 : decode cX10_takeTape 29 = .ok (.iconst (-1), 1) := by decide +kernel
theorem dX10_takeTape_30 : decode cX10_takeTape 30 = .ok (.iastore, 1) := by decide +kernel
theorem dX10_takeTape_31 : decode cX10_takeTape 31 = .ok (.aload_n 0, 1) := by decide +kernel
theorem dX10_takeTape_32 : decode cX10_takeTape 32 = .ok (.iconst 0, 1) := by decide +kernel
theorem dX10_takeTape_33 : decode cX10_takeTape 33 = .ok (.putfield 204, 3) := by decide +kernel
theorem dX10_takeTape_36 : decode cX10_takeTape 36 = .ok (.aload_n 0, 1) := by decide +kernel
theorem dX10_takeTape_37 : decode cX10_takeTape 37 = .ok (.iconst 0, 1) := by decide +kernel
theorem dX10_takeTape_38 : decode cX10_takeTape 38 = .ok (.putfield 230, 3) := by decide +kernel
theorem dX10_takeTape_41 : decode cX10_takeTape 41 = .ok (.return_, 1) := by decide +kernel
def rmX10_takeTape : Room := { frames := 0, cells := 0, slots := 0, locals := 0 }
set_option maxRecDepth 100000 in
def g_X10_takeTape_0 (th : Nat) (m : MM) : Option (Unit × MM) :=
  chk (m.K th = 11) (ck m (m.R 1102 th 0) 22 (fun a1 => chk (inb 0 (m.N a1) = true) (bnd (m.sI 1139 th 0 (m.I 22 a1 (Int32.toNatClampNeg 0))) (fun m1 => ck m1 (m1.R 1102 th 0) 22 (fun a2 => chk (inb 0 (m1.N a2) = true) (bnd (m1.sI 22 a2 (Int32.toNatClampNeg 0) 0) (fun m2 => ck m2 (m2.R 1103 th 0) 22 (fun a3 => chk (inb 0 (m2.N a3) = true) (bnd (m2.sI 22 a3 (Int32.toNatClampNeg 0) 0) (fun m3 => ck m3 (m3.R 1104 th 0) 22 (fun a4 => chk (inb 0 (m3.N a4) = true) (bnd (m3.sI 22 a4 (Int32.toNatClampNeg 0) (-1)) (fun m4 => bnd (m4.sI 1138 th 0 0) (fun m5 => bnd (m5.sI 1145 th 0 0) (fun m6 => some ((), m6))))))))))))))))
set_option maxHeartbeats 4000000 in
set_option maxRecDepth 100000 in
theorem s_X10_takeTape_0 {Γ : GX} {E : EX} (C : Cx Γ E cX10_takeTape RX10 1) (hr : Γ.meth.sig.returnType = none) (hrm : Γ.rm = rmX10_takeTape) (th : Nat) (m : MM) : Sm (QM Γ E emV 0 0) Γ E 1 0 0 0 [(0, va_rf (some th))] [] m (g_X10_takeTape_0 th m) := by
  unfold g_X10_takeTape_0
  refine z_aload_n C dX10_takeTape_0 rfl 0 rfl ?_
  refine z_aload_n C dX10_takeTape_1 rfl 0 rfl ?_
  refine z_chk (fun hk1 => ?_)
  refine z_getR C fl_RX10_13 rfl hk1 dX10_takeTape_2 ?_
  refine z_iconst (v := 0) C dX10_takeTape_5 (by decide) ?_
  refine z_ck (fun a1 hr1 hk2 => ?_)
  refine z_chk (fun hj1 => ?_)
  refine z_iald C hr1 hk2 hj1 dX10_takeTape_6 ?_
  refine z_putI C fl_RX10_207 (fun h => by cases h) rfl hk1 rfl rfl dX10_takeTape_7 (fun m1 eK1 eN1 => ?_)
  refine z_aload_n C dX10_takeTape_10 rfl 0 rfl ?_
  refine z_getR C fl_RX10_13 rfl (kfw eK1 hk1) dX10_takeTape_11 ?_
  refine z_iconst (v := 0) C dX10_takeTape_14 (by decide) ?_
  refine z_iconst (v := 0) C dX10_takeTape_15 (by decide) ?_
  refine z_ck (fun a2 hr2 hk3 => ?_)
  refine z_chk (fun hj2 => ?_)
  refine z_iast C hr2 hk3 hj2 dX10_takeTape_16 (fun m2 eK2 eN2 => ?_)
  refine z_aload_n C dX10_takeTape_17 rfl 0 rfl ?_
  refine z_getR C fl_RX10_17 rfl (kfw eK2 (kfw eK1 hk1)) dX10_takeTape_18 ?_
  refine z_iconst (v := 0) C dX10_takeTape_21 (by decide) ?_
  refine z_iconst (v := 0) C dX10_takeTape_22 (by decide) ?_
  refine z_ck (fun a3 hr3 hk4 => ?_)
  refine z_chk (fun hj3 => ?_)
  refine z_iast C hr3 hk4 hj3 dX10_takeTape_23 (fun m3 eK3 eN3 => ?_)
  refine z_aload_n C dX10_takeTape_24 rfl 0 rfl ?_
  refine z_getR C fl_RX10_20 rfl (kfw eK3 (kfw eK2 (kfw eK1 hk1))) dX10_takeTape_25 ?_
  refine z_iconst (v := 0) C dX10_takeTape_28 (by decide) ?_
  refine z_iconst (v := (-1)) C dX10_takeTape_29 (by decide) ?_
  refine z_ck (fun a4 hr4 hk5 => ?_)
  refine z_chk (fun hj4 => ?_)
  refine z_iast C hr4 hk5 hj4 dX10_takeTape_30 (fun m4 eK4 eN4 => ?_)
  refine z_aload_n C dX10_takeTape_31 rfl 0 rfl ?_
  refine z_iconst (v := 0) C dX10_takeTape_32 (by decide) ?_
  refine z_putI C fl_RX10_204 (fun h => by cases h) rfl (kfw eK4 (kfw eK3 (kfw eK2 (kfw eK1 hk1)))) rfl rfl dX10_takeTape_33 (fun m5 eK5 eN5 => ?_)
  refine z_aload_n C dX10_takeTape_36 rfl 0 rfl ?_
  refine z_iconst (v := 0) C dX10_takeTape_37 (by decide) ?_
  refine z_putI C fl_RX10_230 (fun h => by cases h) rfl (kfw eK5 (kfw eK4 (kfw eK3 (kfw eK2 (kfw eK1 hk1))))) rfl rfl dX10_takeTape_38 (fun m6 eK6 eN6 => ?_)
  exact z_vret C hr dX10_takeTape_41
def f_X10_takeTape (th : Nat) (m : MM) : Option (Unit × MM) := g_X10_takeTape_0 th m
theorem M_X10_takeTape (l : Launch) (E : EX) (th : Nat) (m : MM) (r : Unit) (m2 : MM) (h : f_X10_takeTape th m = some (r, m2)) : Met l yX10_takeTape (.code yX10_takeTape cX10_takeTape 1 none :: TB) rmX10_takeTape (va_Pc [.ref th] (St E m)) (QR E (emV r) m2) 0 0 (AA E) :=
  met_of (em := emV) (plainFor_of_name rfl) (Nat.le_of_ble_eq_true rfl) (L0 := [(0, va_rf (some th))]) rfl (fun Γ _ hrm C hr hn => s_X10_takeTape_0 C hr hrm th m) h

theorem dX10_isGood_0 : decode cX10_isGood 0 = .ok (.aload_n 0, 1) := by decide +kernel
theorem dX10_isGood_1 : decode cX10_isGood 1 = .ok (.getfield 17, 3) := by decide +kernel
theorem dX10_isGood_4 : decode cX10_isGood 4 = .ok (.iconst 0, 1) := by decide +kernel
theorem dX10_isGood_5 : decode cX10_isGood 5 = .ok (.iload_n 1, 1) := by decide +kernel
theorem dX10_isGood_6 : decode cX10_isGood 6 = .ok (.ifCond .eq 10, 3) := by decide +kernel
theorem dX10_isGood_9 : decode cX10_isGood 9 = .ok (.aload_n 0, 1) := by decide +kernel
theorem dX10_isGood_10 : decode cX10_isGood 10 = .ok (.getfield 230, 3) := by decide +kernel
theorem dX10_isGood_13 : decode cX10_isGood 13 = .ok (.goto 4, 3) := by decide +kernel
theorem dX10_isGood_16 : decode cX10_isGood 16 = .ok (.iconst 1, 1) := by decide +kernel
theorem dX10_isGood_17 : decode cX10_isGood 17 = .ok (.iastore, 1) := by decide +kernel
theorem dX10_isGood_18 : decode cX10_isGood 18 = .ok (.aload_n 0, 1) := by decide +kernel
theorem dX10_isGood_19 : decode cX10_isGood 19 = .ok (.getfield 20, 3) := by decide +kernel
theorem dX10_isGood_22 : decode cX10_isGood 22 = .ok (.iconst 0, 1) := by decide +kernel
theorem dX10_isGood_23 : decode cX10_isGood 23 = .ok (.iload_n 1, 1) := by decide +kernel
theorem dX10_isGood_24 : decode cX10_isGood 24 = .ok (.ifCond .ne 10, 3) := by decide +kernel
theorem dX10_isGood_27 : decode cX10_isGood 27 = .ok (.aload_n 0, 1) := by decide +kernel
theorem dX10_isGood_28 : decode cX10_isGood 28 = .ok (.getfield 227, 3) := by decide +kernel
theorem dX10_isGood_31 : decode cX10_isGood 31 = .ok (.goto 18, 3) := by decide +kernel
theorem dX10_isGood_34 : decode cX10_isGood 34 = .ok (.aload_n 0, 1) := by decide +kernel
theorem dX10_isGood_35 : decode cX10_isGood 35 = .ok (.getfield 230, 3) := by decide +kernel
theorem dX10_isGood_38 : decode cX10_isGood 38 = .ok (.ifCond .le 10, 3) := by decide +kernel
theorem dX10_isGood_41 : decode cX10_isGood 41 = .ok (.aload_n 0, 1) := by decide +kernel
theorem dX10_isGood_42 : decode cX10_isGood 42 = .ok (.getfield 233, 3) := by decide +kernel
theorem dX10_isGood_45 : decode cX10_isGood 45 = .ok (.goto 4, 3) := by decide +kernel
theorem dX10_isGood_48 : decode cX10_isGood 48 = .ok (.iconst (-1), 1) := by decide +kernel
theorem dX10_isGood_49 : decode cX10_isGood 49 = .ok (.iastore, 1) := by decide +kernel
theorem dX10_isGood_50 : decode cX10_isGood 50 = .ok (.aload_n 0, 1) := by decide +kernel
theorem dX10_isGood_51 : decode cX10_isGood 51 = .ok (.getfield 17, 3) := by decide +kernel
theorem dX10_isGood_54 : decode cX10_isGood 54 = .ok (.iconst 0, 1) := by decide +kernel
theorem dX10_isGood_55 : decode cX10_isGood 55 = .ok (.iaload, 1) := by decide +kernel
theorem dX10_isGood_56 : decode cX10_isGood 56 = .ok (.ifCond .ne 7, 3) := by decide +kernel
theorem dX10_isGood_59 : decode cX10_isGood 59 = .ok (.iconst 1, 1) := by decide +kernel
theorem dX10_isGood_60 : decode cX10_isGood 60 = .ok (.goto 4, 3) := by decide +kernel
theorem dX10_isGood_63 : decode cX10_isGood 63 = .ok (.iconst 0, 1) := by decide +kernel
theorem dX10_isGood_64 : decode cX10_isGood 64 = .ok (.ireturn, 1) := by decide +kernel
def rmX10_isGood : Room := { frames := 0, cells := 0, slots := 0, locals := 0 }
set_option maxRecDepth 100000 in
def g_X10_isGood_49 (th : Nat) (p1 : Int32) (s0 : Option Nat) (s1 : Int32) (s2 : Int32) (m : MM) : Option (Int32 × MM) :=
  ck m s0 22 (fun a1 => chk (inb s1 (m.N a1) = true) (bnd (m.sI 22 a1 (Int32.toNatClampNeg s1) s2) (fun m1 => chk (m1.K th = 11) (ck m1 (m1.R 1103 th 0) 22 (fun a2 => chk (inb 0 (m1.N a2) = true) (if (m1.I 22 a2 (Int32.toNatClampNeg 0)) = 0 then (some (1, m1)) else (some (0, m1))))))))
set_option maxHeartbeats 4000000 in
set_option maxRecDepth 100000 in
theorem s_X10_isGood_49 {Γ : GX} {E : EX} (C : Cx Γ E cX10_isGood RX10 2) (hr : Γ.meth.sig.returnType = (some .boolean)) (hrm : Γ.rm = rmX10_isGood) (th : Nat) (p1 : Int32) (s0 : Option Nat) (s1 : Int32) (s2 : Int32) (m : MM) : Sm (QM Γ E emI 0 0) Γ E 2 0 0 49 [(0, va_rf (some th)), (1, .int p1)] [.int s2, .int s1, va_rf s0] m (g_X10_isGood_49 th p1 s0 s1 s2 m) := by
  unfold g_X10_isGood_49
  refine z_ck (fun a1 hr1 hk1 => ?_)
  refine z_chk (fun hj1 => ?_)
  refine z_iast C hr1 hk1 hj1 dX10_isGood_49 (fun m1 eK1 eN1 => ?_)
  refine z_aload_n C dX10_isGood_50 rfl 0 rfl ?_
  refine z_chk (fun hk2 => ?_)
  refine z_getR C fl_RX10_17 rfl hk2 dX10_isGood_51 ?_
  refine z_iconst (v := 0) C dX10_isGood_54 (by decide) ?_
  refine z_ck (fun a2 hr2 hk3 => ?_)
  refine z_chk (fun hj2 => ?_)
  refine z_iald C hr2 hk3 hj2 dX10_isGood_55 ?_
  refine z_if_ne (tgt := 63) C dX10_isGood_56 (by decide) (fun c1 => ?_) (fun c1 => ?_)
  · refine z_iconst (v := 0) C dX10_isGood_63 (by decide) ?_
    exact z_zret C hr rfl dX10_isGood_64
  · refine z_iconst (v := 1) C dX10_isGood_59 (by decide) ?_
    refine z_goto (tgt := 64) C dX10_isGood_60 (by decide) ?_
    exact z_zret C hr rfl dX10_isGood_64
set_option maxRecDepth 100000 in
def g_X10_isGood_17 (th : Nat) (p1 : Int32) (s0 : Option Nat) (s1 : Int32) (s2 : Int32) (m : MM) : Option (Int32 × MM) :=
  ck m s0 22 (fun a3 => chk (inb s1 (m.N a3) = true) (bnd (m.sI 22 a3 (Int32.toNatClampNeg s1) s2) (fun m2 => chk (m2.K th = 11) (if p1 = 0 then (g_X10_isGood_49 th p1 (m2.R 1104 th 0) 0 (m2.I 1144 th 0) m2) else (if (m2.I 1145 th 0) ≤ 0 then (g_X10_isGood_49 th p1 (m2.R 1104 th 0) 0 (-1) m2) else (g_X10_isGood_49 th p1 (m2.R 1104 th 0) 0 (m2.I 1146 th 0) m2))))))
set_option maxHeartbeats 4000000 in
set_option maxRecDepth 100000 in
theorem s_X10_isGood_17 {Γ : GX} {E : EX} (C : Cx Γ E cX10_isGood RX10 2) (hr : Γ.meth.sig.returnType = (some .boolean)) (hrm : Γ.rm = rmX10_isGood) (th : Nat) (p1 : Int32) (s0 : Option Nat) (s1 : Int32) (s2 : Int32) (m : MM) : Sm (QM Γ E emI 0 0) Γ E 2 0 0 17 [(0, va_rf (some th)), (1, .int p1)] [.int s2, .int s1, va_rf s0] m (g_X10_isGood_17 th p1 s0 s1 s2 m) := by
  unfold g_X10_isGood_17
  refine z_ck (fun a3 hr3 hk4 => ?_)
  refine z_chk (fun hj3 => ?_)
  refine z_iast C hr3 hk4 hj3 dX10_isGood_17 (fun m2 eK2 eN2 => ?_)
  refine z_aload_n C dX10_isGood_18 rfl 0 rfl ?_
  refine z_chk (fun hk5 => ?_)
  refine z_getR C fl_RX10_20 rfl hk5 dX10_isGood_19 ?_
  refine z_iconst (v := 0) C dX10_isGood_22 (by decide) ?_
  refine z_iload_n C dX10_isGood_23 rfl 1 rfl ?_
  refine z_if_ne (tgt := 34) C dX10_isGood_24 (by decide) (fun c2 => ?_) (fun c2 => ?_)
  · refine z_aload_n C dX10_isGood_34 rfl 0 rfl ?_
    refine z_getI C fl_RX10_230 rfl hk5 dX10_isGood_35 ?_
    refine z_if_le (tgt := 48) C dX10_isGood_38 (by decide) (fun c3 => ?_) (fun c3 => ?_)
    · refine z_iconst (v := (-1)) C dX10_isGood_48 (by decide) ?_
      exact z_sub [0, 1] rfl (s_X10_isGood_49 C hr hrm th p1 (m2.R 1104 th 0) 0 (-1) m2)
    · refine z_aload_n C dX10_isGood_41 rfl 0 rfl ?_
      refine z_getI C fl_RX10_233 rfl hk5 dX10_isGood_42 ?_
      refine z_goto (tgt := 49) C dX10_isGood_45 (by decide) ?_
      exact z_sub [0, 1] rfl (s_X10_isGood_49 C hr hrm th p1 (m2.R 1104 th 0) 0 (m2.I 1146 th 0) m2)
  · refine z_aload_n C dX10_isGood_27 rfl 0 rfl ?_
    refine z_getI C fl_RX10_227 rfl hk5 dX10_isGood_28 ?_
    refine z_goto (tgt := 49) C dX10_isGood_31 (by decide) ?_
    exact z_sub [0, 1] rfl (s_X10_isGood_49 C hr hrm th p1 (m2.R 1104 th 0) 0 (m2.I 1144 th 0) m2)
set_option maxRecDepth 100000 in
def g_X10_isGood_0 (th : Nat) (p1 : Int32) (m : MM) : Option (Int32 × MM) :=
  chk (m.K th = 11) (if p1 = 0 then (g_X10_isGood_17 th p1 (m.R 1103 th 0) 0 1 m) else (g_X10_isGood_17 th p1 (m.R 1103 th 0) 0 (m.I 1145 th 0) m))
set_option maxHeartbeats 4000000 in
set_option maxRecDepth 100000 in
theorem s_X10_isGood_0 {Γ : GX} {E : EX} (C : Cx Γ E cX10_isGood RX10 2) (hr : Γ.meth.sig.returnType = (some .boolean)) (hrm : Γ.rm = rmX10_isGood) (th : Nat) (p1 : Int32) (m : MM) : Sm (QM Γ E emI 0 0) Γ E 2 0 0 0 [(0, va_rf (some th)), (1, .int p1)] [] m (g_X10_isGood_0 th p1 m) := by
  unfold g_X10_isGood_0
  refine z_aload_n C dX10_isGood_0 rfl 0 rfl ?_
  refine z_chk (fun hk6 => ?_)
  refine z_getR C fl_RX10_17 rfl hk6 dX10_isGood_1 ?_
  refine z_iconst (v := 0) C dX10_isGood_4 (by decide) ?_
  refine z_iload_n C dX10_isGood_5 rfl 1 rfl ?_
  refine z_if_eq (tgt := 16) C dX10_isGood_6 (by decide) (fun c4 => ?_) (fun c4 => ?_)
  · refine z_iconst (v := 1) C dX10_isGood_16 (by decide) ?_
    exact z_sub [0, 1] rfl (s_X10_isGood_17 C hr hrm th p1 (m.R 1103 th 0) 0 1 m)
  · refine z_aload_n C dX10_isGood_9 rfl 0 rfl ?_
    refine z_getI C fl_RX10_230 rfl hk6 dX10_isGood_10 ?_
    refine z_goto (tgt := 17) C dX10_isGood_13 (by decide) ?_
    exact z_sub [0, 1] rfl (s_X10_isGood_17 C hr hrm th p1 (m.R 1103 th 0) 0 (m.I 1145 th 0) m)
def f_X10_isGood (th : Nat) (p1 : Int32) (m : MM) : Option (Int32 × MM) := g_X10_isGood_0 th p1 m
theorem M_X10_isGood (l : Launch) (E : EX) (th : Nat) (p1 : Int32) (m : MM) (r : Int32) (m2 : MM) (h : f_X10_isGood th p1 m = some (r, m2)) : Met l yX10_isGood (.code yX10_isGood cX10_isGood 2 (some .boolean) :: TB) rmX10_isGood (va_Pc [.ref th, .int p1] (St E m)) (QR E (emI r) m2) 0 0 (AA E) :=
  met_of (em := emI) (plainFor_of_name rfl) (Nat.le_of_ble_eq_true rfl) (L0 := [(0, va_rf (some th)), (1, .int p1)]) rfl (fun Γ _ hrm C hr hn => s_X10_isGood_0 C hr hrm th p1 m) h

theorem dX10_sane_0 : decode cX10_sane 0 = .ok (.iload_n 1, 1) := by decide +kernel
theorem dX10_sane_1 : decode cX10_sane 1 = .ok (.iconst 0, 1) := by decide +kernel
theorem dX10_sane_2 : decode cX10_sane 2 = .ok (.iload_n 2, 1) := by decide +kernel
theorem dX10_sane_3 : decode cX10_sane 3 = .ok (.invokestatic 188, 3) := by decide +kernel
theorem dX10_sane_6 : decode cX10_sane 6 = .ok (.ifCond .eq 7, 3) := by decide +kernel
theorem dX10_sane_9 : decode cX10_sane 9 = .ok (.iload_n 1, 1) := by decide +kernel
theorem dX10_sane_10 : decode cX10_sane 10 = .ok (.goto 4, 3) := by decide +kernel
theorem dX10_sane_13 : decode cX10_sane 13 = .ok (.iconst 0, 1) := by decide +kernel
theorem dX10_sane_14 : decode cX10_sane 14 = .ok (.ireturn, 1) := by decide +kernel
def rmX10_sane : Room := { frames := 1, cells := 0, slots := 0, locals := 22 }
set_option maxRecDepth 100000 in
def g_X10_sane_0 (th : Nat) (p1 : Int32) (p2 : Int32) (m : MM) : Option (Int32 × MM) :=
  cal (f_X10_in p1 0 p2 m) (fun r1 m1 => if r1 = 0 then (some (0, m1)) else (some (p1, m1)))
set_option maxHeartbeats 4000000 in
set_option maxRecDepth 100000 in
theorem s_X10_sane_0 {Γ : GX} {E : EX} (C : Cx Γ E cX10_sane RX10 3) (hr : Γ.meth.sig.returnType = (some .int)) (hrm : Γ.rm = rmX10_sane) (th : Nat) (p1 : Int32) (p2 : Int32) (m : MM) : Sm (QM Γ E emI 0 0) Γ E 3 0 0 0 [(0, va_rf (some th)), (1, .int p1), (2, .int p2)] [] m (g_X10_sane_0 th p1 p2 m) := by
  unfold g_X10_sane_0
  refine z_iload_n C dX10_sane_0 rfl 1 rfl ?_
  refine z_iconst (v := 0) C dX10_sane_1 (by decide) ?_
  refine z_iload_n C dX10_sane_2 rfl 2 rfl ?_
  refine z_cSI [.int p1, .int 0, .int p2] [] C mv_RX10_188 (fun r0 m0 h0 => M_X10_in _ _ _ _ _ _ _ _ h0) rfl rfl ⟨by rw [hrm]; exact Nat.le_of_ble_eq_true rfl, by rw [hrm]; exact Nat.le_of_ble_eq_true rfl⟩ ⟨by rw [hrm]; exact Nat.le_of_ble_eq_true rfl, by rw [hrm]; exact Nat.le_of_ble_eq_true rfl⟩ rfl rfl (Nat.le_of_ble_eq_true rfl) dX10_sane_3 (fun r1 m1 => ?_)
  refine z_if_eq (tgt := 13) C dX10_sane_6 (by decide) (fun c1 => ?_) (fun c1 => ?_)
  · refine z_iconst (v := 0) C dX10_sane_13 (by decide) ?_
    exact z_iret C hr dX10_sane_14
  · refine z_iload_n C dX10_sane_9 rfl 1 rfl ?_
    refine z_goto (tgt := 14) C dX10_sane_10 (by decide) ?_
    exact z_iret C hr dX10_sane_14
def f_X10_sane (th : Nat) (p1 : Int32) (p2 : Int32) (m : MM) : Option (Int32 × MM) := g_X10_sane_0 th p1 p2 m
theorem M_X10_sane (l : Launch) (E : EX) (th : Nat) (p1 : Int32) (p2 : Int32) (m : MM) (r : Int32) (m2 : MM) (h : f_X10_sane th p1 p2 m = some (r, m2)) : Met l yX10_sane (.code yX10_sane cX10_sane 3 (some .int) :: TB) rmX10_sane (va_Pc [.ref th, .int p1, .int p2] (St E m)) (QR E (emI r) m2) 0 0 (AA E) :=
  met_of (em := emI) (plainFor_of_name rfl) (Nat.le_of_ble_eq_true rfl) (L0 := [(0, va_rf (some th)), (1, .int p1), (2, .int p2)]) rfl (fun Γ _ hrm C hr hn => s_X10_sane_0 C hr hrm th p1 p2 m) h

theorem dX10_point_0 : decode cX10_point 0 = .ok (.aload_n 0, 1) := by decide +kernel
theorem dX10_point_1 : decode cX10_point 1 = .ok (.iconst 0, 1) := by decide +kernel
theorem dX10_point_2 : decode cX10_point 2 = .ok (.aload_n 0, 1) := by decide +kernel
theorem dX10_point_3 : decode cX10_point 3 = .ok (.getfield 125, 3) := by decide +kernel
theorem dX10_point_6 : decode cX10_point 6 = .ok (.iconst 0, 1) := by decide +kernel
theorem dX10_point_7 : decode cX10_point 7 = .ok (.iaload, 1) := by decide +kernel
theorem dX10_point_8 : decode cX10_point 8 = .ok (.iconst 1, 1) := by decide +kernel
theorem dX10_point_9 : decode cX10_point 9 = .ok (.isub, 1) := by decide +kernel
theorem dX10_point_10 : decode cX10_point 10 = .ok (.invokevirtual 254, 3) := by decide +kernel
theorem dX10_point_13 : decode cX10_point 13 = .ok (.ifCond .eq 23, 3) := by decide +kernel
theorem dX10_point_16 : decode cX10_point 16 = .ok (.aload_n 0, 1) := by decide +kernel
theorem dX10_point_17 : decode cX10_point 17 = .ok (.iconst 0, 1) := by decide +kernel
theorem dX10_point_18 : decode cX10_point 18 = .ok (.aload_n 0, 1) := by decide +kernel
theorem dX10_point_19 : decode cX10_point 19 = .ok (.getfield 125, 3) := by decide +kernel
theorem dX10_point_22 : decode cX10_point 22 = .ok (.iconst 1, 1) := by decide +kernel
theorem dX10_point_23 : decode cX10_point 23 = .ok (.iaload, 1) := by decide +kernel
theorem dX10_point_24 : decode cX10_point 24 = .ok (.iconst 1, 1) := by decide +kernel
theorem dX10_point_25 : decode cX10_point 25 = .ok (.isub, 1) := by decide +kernel
theorem dX10_point_26 : decode cX10_point 26 = .ok (.invokevirtual 254, 3) := by decide +kernel
theorem dX10_point_29 : decode cX10_point 29 = .ok (.ifCond .eq 7, 3) := by decide +kernel
theorem dX10_point_32 : decode cX10_point 32 = .ok (.iconst 1, 1) := by decide +kernel
theorem dX10_point_33 : decode cX10_point 33 = .ok (.goto 4, 3) := by decide +kernel
theorem dX10_point_36 : decode cX10_point 36 = .ok (.iconst 0, 1) := by decide +kernel
theorem dX10_point_37 : decode cX10_point 37 = .ok (.ireturn, 1) := by decide +kernel
def rmX10_point : Room := { frames := 3, cells := 0, slots := 0, locals := 66 }
set_option maxRecDepth 100000 in
def g_X10_point_36 (th : Nat) (m : MM) : Option (Int32 × MM) :=
  some (0, m)
set_option maxHeartbeats 4000000 in
set_option maxRecDepth 100000 in
theorem s_X10_point_36 {Γ : GX} {E : EX} (C : Cx Γ E cX10_point RX10 1) (hr : Γ.meth.sig.returnType = (some .boolean)) (hrm : Γ.rm = rmX10_point) (th : Nat) (m : MM) : Sm (QM Γ E emI 0 0) Γ E 1 0 0 36 [(0, va_rf (some th))] [] m (g_X10_point_36 th m) := by
  unfold g_X10_point_36
  refine z_iconst (v := 0) C dX10_point_36 (by decide) ?_
  exact z_zret C hr rfl dX10_point_37
set_option maxRecDepth 100000 in
def g_X10_point_0 (th : Nat) (m : MM) : Option (Int32 × MM) :=
  chk (m.K th = 11) (ck m (m.R 1150 th 0) 22 (fun a1 => chk (inb 0 (m.N a1) = true) (cal (f_X10_number th 0 ((m.I 22 a1 (Int32.toNatClampNeg 0)) - 1) m) (fun r1 m1 => if r1 = 0 then (g_X10_point_36 th m1) else (chk (m1.K th = 11) (ck m1 (m1.R 1150 th 0) 22 (fun a2 => chk (inb 1 (m1.N a2) = true) (cal (f_X10_number th 0 ((m1.I 22 a2 (Int32.toNatClampNeg 1)) - 1) m1) (fun r2 m2 => if r2 = 0 then (g_X10_point_36 th m2) else (some (1, m2)))))))))))
set_option maxHeartbeats 4000000 in
set_option maxRecDepth 100000 in
theorem s_X10_point_0 {Γ : GX} {E : EX} (C : Cx Γ E cX10_point RX10 1) (hr : Γ.meth.sig.returnType = (some .boolean)) (hrm : Γ.rm = rmX10_point) (th : Nat) (m : MM) : Sm (QM Γ E emI 0 0) Γ E 1 0 0 0 [(0, va_rf (some th))] [] m (g_X10_point_0 th m) := by
  unfold g_X10_point_0
  refine z_aload_n C dX10_point_0 rfl 0 rfl ?_
  refine z_iconst (v := 0) C dX10_point_1 (by decide) ?_
  refine z_aload_n C dX10_point_2 rfl 0 rfl ?_
  refine z_chk (fun hk1 => ?_)
  refine z_getR C fl_RX10_125 rfl hk1 dX10_point_3 ?_
  refine z_iconst (v := 0) C dX10_point_6 (by decide) ?_
  refine z_ck (fun a1 hr1 hk2 => ?_)
  refine z_chk (fun hj1 => ?_)
  refine z_iald C hr1 hk2 hj1 dX10_point_7 ?_
  refine z_iconst (v := 1) C dX10_point_8 (by decide) ?_
  refine z_isub C dX10_point_9 ?_
  refine z_cVI [.int 0, .int ((m.I 22 a1 (Int32.toNatClampNeg 0)) - 1)] [] C mv_RX10_254 (fun r0 m0 h0 => M_X10_number _ _ _ _ _ _ _ _ h0) rfl rfl ⟨by rw [hrm]; exact Nat.le_of_ble_eq_true rfl, by rw [hrm]; exact Nat.le_of_ble_eq_true rfl⟩ ⟨by rw [hrm]; exact Nat.le_of_ble_eq_true rfl, by rw [hrm]; exact Nat.le_of_ble_eq_true rfl⟩ rfl hk1 rfl rfl rfl (Nat.le_of_ble_eq_true rfl) dX10_point_10 (fun r1 m1 => ?_)
  refine z_if_eq (tgt := 36) C dX10_point_13 (by decide) (fun c1 => ?_) (fun c1 => ?_)
  · exact z_sub [0] rfl (s_X10_point_36 C hr hrm th m1)
  · refine z_aload_n C dX10_point_16 rfl 0 rfl ?_
    refine z_iconst (v := 0) C dX10_point_17 (by decide) ?_
    refine z_aload_n C dX10_point_18 rfl 0 rfl ?_
    refine z_chk (fun hk3 => ?_)
    refine z_getR C fl_RX10_125 rfl hk3 dX10_point_19 ?_
    refine z_iconst (v := 1) C dX10_point_22 (by decide) ?_
    refine z_ck (fun a2 hr2 hk4 => ?_)
    refine z_chk (fun hj2 => ?_)
    refine z_iald C hr2 hk4 hj2 dX10_point_23 ?_
    refine z_iconst (v := 1) C dX10_point_24 (by decide) ?_
    refine z_isub C dX10_point_25 ?_
    refine z_cVI [.int 0, .int ((m1.I 22 a2 (Int32.toNatClampNeg 1)) - 1)] [] C mv_RX10_254 (fun r0 m0 h0 => M_X10_number _ _ _ _ _ _ _ _ h0) rfl rfl ⟨by rw [hrm]; exact Nat.le_of_ble_eq_true rfl, by rw [hrm]; exact Nat.le_of_ble_eq_true rfl⟩ ⟨by rw [hrm]; exact Nat.le_of_ble_eq_true rfl, by rw [hrm]; exact Nat.le_of_ble_eq_true rfl⟩ rfl hk3 rfl rfl rfl (Nat.le_of_ble_eq_true rfl) dX10_point_26 (fun r2 m2 => ?_)
    refine z_if_eq (tgt := 36) C dX10_point_29 (by decide) (fun c2 => ?_) (fun c2 => ?_)
    · exact z_sub [0] rfl (s_X10_point_36 C hr hrm th m2)
    · refine z_iconst (v := 1) C dX10_point_32 (by decide) ?_
      refine z_goto (tgt := 37) C dX10_point_33 (by decide) ?_
      exact z_zret C hr rfl dX10_point_37
def f_X10_point (th : Nat) (m : MM) : Option (Int32 × MM) := g_X10_point_0 th m
theorem M_X10_point (l : Launch) (E : EX) (th : Nat) (m : MM) (r : Int32) (m2 : MM) (h : f_X10_point th m = some (r, m2)) : Met l yX10_point (.code yX10_point cX10_point 1 (some .boolean) :: TB) rmX10_point (va_Pc [.ref th] (St E m)) (QR E (emI r) m2) 0 0 (AA E) :=
  met_of (em := emI) (plainFor_of_name rfl) (Nat.le_of_ble_eq_true rfl) (L0 := [(0, va_rf (some th))]) rfl (fun Γ _ hrm C hr hn => s_X10_point_0 C hr hrm th m) h

theorem dX10_thingLine_0 : decode cX10_thingLine 0 = .ok (.aload_n 0, 1) := by decide +kernel
theorem dX10_thingLine_1 : decode cX10_thingLine 1 = .ok (.getfield 125, 3) := by decide +kernel
theorem dX10_thingLine_4 : decode cX10_thingLine 4 = .ok (.iconst 2, 1) := by decide +kernel
theorem dX10_thingLine_5 : decode cX10_thingLine 5 = .ok (.iaload, 1) := by decide +kernel
theorem dX10_thingLine_6 : decode cX10_thingLine 6 = .ok (.bipush 12, 2) := by decide +kernel
theorem dX10_thingLine_8 : decode cX10_thingLine 8 = .ok (.if_icmp .ne 9, 3) := by decide +kernel
theorem dX10_thingLine_11 : decode cX10_thingLine 11 = .ok (.aload_n 0, 1) := by decide +kernel
theorem dX10_thingLine_12 : decode cX10_thingLine 12 = .ok (.iconst 3, 1) := by decide +kernel
theorem dX10_thingLine_13 : decode cX10_thingLine 13 = .ok (.iload_n 1, 1) := by decide +kernel
theorem dX10_thingLine_14 : decode cX10_thingLine 14 = .ok (.invokevirtual 243, 3) := by decide +kernel
theorem dX10_thingLine_17 : decode cX10_thingLine 17 = .ok (.aload_n 0, 1) := by decide +kernel
theorem dX10_thingLine_18 : decode cX10_thingLine 18 = .ok (.iconst 0, 1) := by decide +kernel
theorem dX10_thingLine_19 : decode cX10_thingLine 19 = .ok (.iconst 5, 1) := by decide +kernel
theorem dX10_thingLine_20 : decode cX10_thingLine 20 = .ok (.invokevirtual 254, 3) := by decide +kernel
theorem dX10_thingLine_23 : decode cX10_thingLine 23 = .ok (.ifCond .ne 5, 3) := by decide +kernel
theorem dX10_thingLine_26 : decode cX10_thingLine 26 = .ok (.iconst 0, 1) := by decide +kernel
theorem dX10_thingLine_27 : decode cX10_thingLine 27 = .ok (.ireturn, 1) := by decide +kernel
theorem dX10_thingLine_28 : decode cX10_thingLine 28 = .ok (.aload_n 0, 1) := by decide +kernel
theorem dX10_thingLine_29 : decode cX10_thingLine 29 = .ok (.getfield 214, 3) := by decide +kernel
theorem dX10_thingLine_32 : decode cX10_thingLine 32 = .ok (.istore_n 2, 1) := by decide +kernel
theorem dX10_thingLine_33 : decode cX10_thingLine 33 = .ok (.aload_n 0, 1) := by decide +kernel
theorem dX10_thingLine_34 : decode cX10_thingLine 34 = .ok (.invokevirtual 258, 3) := by decide +kernel
theorem dX10_thingLine_37 : decode cX10_thingLine 37 = .ok (.ifCond .ne 5, 3) := by decide +kernel
theorem dX10_thingLine_40 : decode cX10_thingLine 40 = .ok (.iconst 0, 1) := by decide +kernel
theorem dX10_thingLine_41 : decode cX10_thingLine 41 = .ok (.ireturn, 1) := by decide +kernel
theorem dX10_thingLine_42 : decode cX10_thingLine 42 = .ok (.iconst 0, 1) := by decide +kernel
theorem dX10_thingLine_43 : decode cX10_thingLine 43 = .ok (.istore_n 3, 1) := by decide +kernel
theorem dX10_thingLine_44 : decode cX10_thingLine 44 = .ok (.iconst 0, 1) := by decide +kernel
theorem dX10_thingLine_45 : decode cX10_thingLine 45 = .ok (.istore 4, 2) := by decide +kernel
theorem dX10_thingLine_47 : decode cX10_thingLine 47 = .ok (.iload 4, 2) := by decide +kernel
theorem dX10_thingLine_49 : decode cX10_thingLine 49 = .ok (.aload_n 0, 1) := by decide +kernel
theorem dX10_thingLine_50 : decode cX10_thingLine 50 = .ok (.getfield 125, 3) := by decide +kernel
theorem dX10_thingLine_53 : decode cX10_thingLine 53 = .ok (.iconst 2, 1) := by decide +kernel
theorem dX10_thingLine_54 : decode cX10_thingLine 54 = .ok (.iaload, 1) := by decide +kernel
theorem dX10_thingLine_55 : decode cX10_thingLine 55 = .ok (.if_icmp .ge 61, 3) := by decide +kernel
theorem dX10_thingLine_58 : decode cX10_thingLine 58 = .ok (.iload_n 3, 1) := by decide +kernel
theorem dX10_thingLine_59 : decode cX10_thingLine 59 = .ok (.ifCond .ne 45, 3) := by decide +kernel
theorem dX10_thingLine_62 : decode cX10_thingLine 62 = .ok (.aload_n 0, 1) := by decide +kernel
theorem dX10_thingLine_63 : decode cX10_thingLine 63 = .ok (.getfield 128, 3) := by decide +kernel
theorem dX10_thingLine_66 : decode cX10_thingLine 66 = .ok (.bipush 7, 2) := by decide +kernel
theorem dX10_thingLine_68 : decode cX10_thingLine 68 = .ok (.iload 4, 2) := by decide +kernel
theorem dX10_thingLine_70 : decode cX10_thingLine 70 = .ok (.imul, 1) := by decide +kernel
theorem dX10_thingLine_71 : decode cX10_thingLine 71 = .ok (.iconst 1, 1) := by decide +kernel
theorem dX10_thingLine_72 : decode cX10_thingLine 72 = .ok (.iadd, 1) := by decide +kernel
theorem dX10_thingLine_73 : decode cX10_thingLine 73 = .ok (.iaload, 1) := by decide +kernel
theorem dX10_thingLine_74 : decode cX10_thingLine 74 = .ok (.aload_n 0, 1) := by decide +kernel
theorem dX10_thingLine_75 : decode cX10_thingLine 75 = .ok (.getfield 122, 3) := by decide +kernel
theorem dX10_thingLine_78 : decode cX10_thingLine 78 = .ok (.iconst 1, 1) := by decide +kernel
theorem dX10_thingLine_79 : decode cX10_thingLine 79 = .ok (.iaload, 1) := by decide +kernel
theorem dX10_thingLine_80 : decode cX10_thingLine 80 = .ok (.if_icmp .ne 28, 3) := by decide +kernel
theorem dX10_thingLine_83 : decode cX10_thingLine 83 = .ok (.aload_n 0, 1) := by decide +kernel
theorem dX10_thingLine_84 : decode cX10_thingLine 84 = .ok (.getfield 128, 3) := by decide +kernel
theorem dX10_thingLine_87 : decode cX10_thingLine 87 = .ok (.bipush 7, 2) := by decide +kernel
theorem dX10_thingLine_89 : decode cX10_thingLine 89 = .ok (.iload 4, 2) := by decide +kernel
theorem dX10_thingLine_91 : decode cX10_thingLine 91 = .ok (.imul, 1) := by decide +kernel
theorem dX10_thingLine_92 : decode cX10_thingLine 92 = .ok (.iconst 2, 1) := by decide +kernel
theorem dX10_thingLine_93 : decode cX10_thingLine 93 = .ok (.iadd, 1) := by decide +kernel
theorem dX10_thingLine_94 : decode cX10_thingLine 94 = .ok (.iaload, 1) := by decide +kernel
theorem dX10_thingLine_95 : decode cX10_thingLine 95 = .ok (.aload_n 0, 1) := by decide +kernel
theorem dX10_thingLine_96 : decode cX10_thingLine 96 = .ok (.getfield 122, 3) := by decide +kernel
theorem dX10_thingLine_99 : decode cX10_thingLine 99 = .ok (.iconst 2, 1) := by decide +kernel
theorem dX10_thingLine_100 : decode cX10_thingLine 100 = .ok (.iaload, 1) := by decide +kernel
theorem dX10_thingLine_101 : decode cX10_thingLine 101 = .ok (.if_icmp .ne 7, 3) := by decide +kernel
theorem dX10_thingLine_104 : decode cX10_thingLine 104 = .ok (.iconst 1, 1) := by decide +kernel
theorem dX10_thingLine_105 : decode cX10_thingLine 105 = .ok (.goto 4, 3) := by decide +kernel
theorem dX10_thingLine_108 : decode cX10_thingLine 108 = .ok (.iconst 0, 1) := by decide +kernel
theorem dX10_thingLine_109 : decode cX10_thingLine 109 = .ok (.istore_n 3, 1) := by decide +kernel
theorem dX10_thingLine_110 : decode cX10_thingLine 110 = .ok (.iinc 4 1, 3) := by decide +kernel
theorem dX10_thingLine_113 : decode cX10_thingLine 113 = .ok (.goto (-66), 3) := by decide +kernel
theorem dX10_thingLine_116 : decode cX10_thingLine 116 = .ok (.iload_n 3, 1) := by decide +kernel
theorem dX10_thingLine_117 : decode cX10_thingLine 117 = .ok (.ifCond .eq 9, 3) := by decide +kernel
theorem dX10_thingLine_120 : decode cX10_thingLine 120 = .ok (.aload_n 0, 1) := by decide +kernel
theorem dX10_thingLine_121 : decode cX10_thingLine 121 = .ok (.iconst 4, 1) := by decide +kernel
theorem dX10_thingLine_122 : decode cX10_thingLine 122 = .ok (.iload_n 2, 1) := by decide +kernel
theorem dX10_thingLine_123 : decode cX10_thingLine 123 = .ok (.invokevirtual 243, 3) := by decide +kernel
theorem dX10_thingLine_126 : decode cX10_thingLine 126 = .ok (.aload_n 0, 1) := by decide +kernel
theorem dX10_thingLine_127 : decode cX10_thingLine 127 = .ok (.iconst 0, 1) := by decide +kernel
theorem dX10_thingLine_128 : decode cX10_thingLine 128 = .ok (.bipush 7, 2) := by decide +kernel
theorem dX10_thingLine_130 : decode cX10_thingLine 130 = .ok (.invokevirtual 254, 3) := by decide +kernel
theorem dX10_thingLine_133 : decode cX10_thingLine 133 = .ok (.ifCond .eq 14, 3) := by decide +kernel
theorem dX10_thingLine_136 : decode cX10_thingLine 136 = .ok (.aload_n 0, 1) := by decide +kernel
theorem dX10_thingLine_137 : decode cX10_thingLine 137 = .ok (.iconst 0, 1) := by decide +kernel
theorem dX10_thingLine_138 : decode cX10_thingLine 138 = .ok (.sipush 999, 3) := by decide +kernel
theorem dX10_thingLine_141 : decode cX10_thingLine 141 = .ok (.invokevirtual 254, 3) := by decide +kernel
theorem dX10_thingLine_144 : decode cX10_thingLine 144 = .ok (.ifCond .ne 5, 3) := by decide +kernel
theorem dX10_thingLine_147 : decode cX10_thingLine 147 = .ok (.iconst 0, 1) := by decide +kernel
theorem dX10_thingLine_148 : decode cX10_thingLine 148 = .ok (.ireturn, 1) := by decide +kernel
theorem dX10_thingLine_149 : decode cX10_thingLine 149 = .ok (.iconst (-1), 1) := by decide +kernel
theorem dX10_thingLine_150 : decode cX10_thingLine 150 = .ok (.istore 4, 2) := by decide +kernel
theorem dX10_thingLine_152 : decode cX10_thingLine 152 = .ok (.aload_n 0, 1) := by decide +kernel
theorem dX10_thingLine_153 : decode cX10_thingLine 153 = .ok (.ldc2_w 261, 3) := by decide +kernel
theorem dX10_thingLine_156 : decode cX10_thingLine 156 = .ok (.invokevirtual 263, 3) := by decide +kernel
theorem dX10_thingLine_159 : decode cX10_thingLine 159 = .ok (.ifCond .eq 26, 3) := by decide +kernel
theorem dX10_thingLine_162 : decode cX10_thingLine 162 = .ok (.aload_n 0, 1) := by decide +kernel
theorem dX10_thingLine_163 : decode cX10_thingLine 163 = .ok (.invokevirtual 251, 3) := by decide +kernel
theorem dX10_thingLine_166 : decode cX10_thingLine 166 = .ok (.aload_n 0, 1) := by decide +kernel
theorem dX10_thingLine_167 : decode cX10_thingLine 167 = .ok (.iconst 0, 1) := by decide +kernel
theorem dX10_thingLine_168 : decode cX10_thingLine 168 = .ok (.iconst 3, 1) := by decide +kernel
theorem dX10_thingLine_169 : decode cX10_thingLine 169 = .ok (.invokevirtual 254, 3) := by decide +kernel
theorem dX10_thingLine_172 : decode cX10_thingLine 172 = .ok (.ifCond .ne 5, 3) := by decide +kernel
theorem dX10_thingLine_175 : decode cX10_thingLine 175 = .ok (.iconst 0, 1) := by decide +kernel
theorem dX10_thingLine_176 : decode cX10_thingLine 176 = .ok (.ireturn, 1) := by decide +kernel
theorem dX10_thingLine_177 : decode cX10_thingLine 177 = .ok (.aload_n 0, 1) := by decide +kernel
theorem dX10_thingLine_178 : decode cX10_thingLine 178 = .ok (.getfield 122, 3) := by decide +kernel
theorem dX10_thingLine_181 : decode cX10_thingLine 181 = .ok (.iconst 5, 1) := by decide +kernel
theorem dX10_thingLine_182 : decode cX10_thingLine 182 = .ok (.iaload, 1) := by decide +kernel
theorem dX10_thingLine_183 : decode cX10_thingLine 183 = .ok (.istore 4, 2) := by decide +kernel
theorem dX10_thingLine_185 : decode cX10_thingLine 185 = .ok (.aload_n 0, 1) := by decide +kernel
theorem dX10_thingLine_186 : decode cX10_thingLine 186 = .ok (.getfield 125, 3) := by decide +kernel
theorem dX10_thingLine_189 : decode cX10_thingLine 189 = .ok (.iconst 2, 1) := by decide +kernel
theorem dX10_thingLine_190 : decode cX10_thingLine 190 = .ok (.iaload, 1) := by decide +kernel
theorem dX10_thingLine_191 : decode cX10_thingLine 191 = .ok (.istore 5, 2) := by decide +kernel
theorem dX10_thingLine_193 : decode cX10_thingLine 193 = .ok (.iconst 0, 1) := by decide +kernel
theorem dX10_thingLine_194 : decode cX10_thingLine 194 = .ok (.istore 6, 2) := by decide +kernel
theorem dX10_thingLine_196 : decode cX10_thingLine 196 = .ok (.iload 6, 2) := by decide +kernel
theorem dX10_thingLine_198 : decode cX10_thingLine 198 = .ok (.iconst 5, 1) := by decide +kernel
theorem dX10_thingLine_199 : decode cX10_thingLine 199 = .ok (.if_icmp .ge 29, 3) := by decide +kernel
theorem dX10_thingLine_202 : decode cX10_thingLine 202 = .ok (.aload_n 0, 1) := by decide +kernel
theorem dX10_thingLine_203 : decode cX10_thingLine 203 = .ok (.getfield 128, 3) := by decide +kernel
theorem dX10_thingLine_206 : decode cX10_thingLine 206 = .ok (.bipush 7, 2) := by decide +kernel
theorem dX10_thingLine_208 : decode cX10_thingLine 208 = .ok (.iload 5, 2) := by decide +kernel
theorem dX10_thingLine_210 : decode cX10_thingLine 210 = .ok (.imul, 1) := by decide +kernel
theorem dX10_thingLine_211 : decode cX10_thingLine 211 = .ok (.iload 6, 2) := by decide +kernel
theorem dX10_thingLine_213 : decode cX10_thingLine 213 = .ok (.iadd, 1) := by decide +kernel
theorem dX10_thingLine_214 : decode cX10_thingLine 214 = .ok (.aload_n 0, 1) := by decide +kernel
theorem dX10_thingLine_215 : decode cX10_thingLine 215 = .ok (.getfield 122, 3) := by decide +kernel
theorem dX10_thingLine_218 : decode cX10_thingLine 218 = .ok (.iload 6, 2) := by decide +kernel
theorem dX10_thingLine_220 : decode cX10_thingLine 220 = .ok (.iaload, 1) := by decide +kernel
theorem dX10_thingLine_221 : decode cX10_thingLine 221 = .ok (.iastore, 1) := by decide +kernel
theorem dX10_thingLine_222 : decode cX10_thingLine 222 = .ok (.iinc 6 1, 3) := by decide +kernel
theorem dX10_thingLine_225 : decode cX10_thingLine 225 = .ok (.goto (-29), 3) := by decide +kernel
theorem dX10_thingLine_228 : decode cX10_thingLine 228 = .ok (.aload_n 0, 1) := by decide +kernel
theorem dX10_thingLine_229 : decode cX10_thingLine 229 = .ok (.getfield 128, 3) := by decide +kernel
theorem dX10_thingLine_232 : decode cX10_thingLine 232 = .ok (.bipush 7, 2) := by decide +kernel
theorem dX10_thingLine_234 : decode cX10_thingLine 234 = .ok (.iload 5, 2) := by decide +kernel
theorem dX10_thingLine_236 : decode cX10_thingLine 236 = .ok (.imul, 1) := by decide +kernel
theorem dX10_thingLine_237 : decode cX10_thingLine 237 = .ok (.iconst 5, 1) := by decide +kernel
theorem dX10_thingLine_238 : decode cX10_thingLine 238 = .ok (.iadd, 1) := by decide +kernel
theorem dX10_thingLine_239 : decode cX10_thingLine 239 = .ok (.iload 4, 2) := by decide +kernel
theorem dX10_thingLine_241 : decode cX10_thingLine 241 = .ok (.iastore, 1) := by decide +kernel
theorem dX10_thingLine_242 : decode cX10_thingLine 242 = .ok (.aload_n 0, 1) := by decide +kernel
theorem dX10_thingLine_243 : decode cX10_thingLine 243 = .ok (.getfield 128, 3) := by decide +kernel
theorem dX10_thingLine_246 : decode cX10_thingLine 246 = .ok (.bipush 7, 2) := by decide +kernel
theorem dX10_thingLine_248 : decode cX10_thingLine 248 = .ok (.iload 5, 2) := by decide +kernel
theorem dX10_thingLine_250 : decode cX10_thingLine 250 = .ok (.imul, 1) := by decide +kernel
theorem dX10_thingLine_251 : decode cX10_thingLine 251 = .ok (.bipush 6, 2) := by decide +kernel
theorem dX10_thingLine_253 : decode cX10_thingLine 253 = .ok (.iadd, 1) := by decide +kernel
theorem dX10_thingLine_254 : decode cX10_thingLine 254 = .ok (.iconst 1, 1) := by decide +kernel
theorem dX10_thingLine_255 : decode cX10_thingLine 255 = .ok (.iastore, 1) := by decide +kernel
theorem dX10_thingLine_256 : decode cX10_thingLine 256 = .ok (.aload_n 0, 1) := by decide +kernel
theorem dX10_thingLine_257 : decode cX10_thingLine 257 = .ok (.getfield 125, 3) := by decide +kernel
theorem dX10_thingLine_260 : decode cX10_thingLine 260 = .ok (.iconst 2, 1) := by decide +kernel
theorem dX10_thingLine_261 : decode cX10_thingLine 261 = .ok (.dup2, 1) := by decide +kernel
theorem dX10_thingLine_262 : decode cX10_thingLine 262 = .ok (.iaload, 1) := by decide +kernel
theorem dX10_thingLine_263 : decode cX10_thingLine 263 = .ok (.iload 5, 2) := by decide +kernel
theorem dX10_thingLine_265 : decode cX10_thingLine 265 = .ok (.bipush 12, 2) := by decide +kernel
theorem dX10_thingLine_267 : decode cX10_thingLine 267 = .ok (.if_icmp .ge 7, 3) := by decide +kernel
theorem dX10_thingLine_270 : decode cX10_thingLine 270 = .ok (.iconst 1, 1) := by decide +kernel
theorem dX10_thingLine_271 : decode cX10_thingLine 271 = .ok (.goto 4, 3) := by decide +kernel
theorem dX10_thingLine_274 : decode cX10_thingLine 274 = .ok (.iconst 0, 1) := by decide +kernel
theorem dX10_thingLine_275 : decode cX10_thingLine 275 = .ok (.iadd, 1) := by decide +kernel
theorem dX10_thingLine_276 : decode cX10_thingLine 276 = .ok (.iastore, 1) := by decide +kernel
theorem dX10_thingLine_277 : decode cX10_thingLine 277 = .ok (.iconst 1, 1) := by decide +kernel
theorem dX10_thingLine_278 : decode cX10_thingLine 278 = .ok (.ireturn, 1) := by decide +kernel
def rmX10_thingLine : Room := { frames := 4, cells := 0, slots := 0, locals := 86 }
set_option maxRecDepth 100000 in
def g_X10_thingLine_109 (th : Nat) (p1 : Int32) (k47 : Int32 → Int32 → Int32 → MM → Option (Int32 × MM)) (k116 : Int32 → Int32 → MM → Option (Int32 × MM)) (x2 : Int32) (x4 : Int32) (s0 : Int32) (m : MM) : Option (Int32 × MM) :=
  k47 x2 s0 (x4 + 1) m
set_option maxHeartbeats 4000000 in
set_option maxRecDepth 100000 in
theorem s_X10_thingLine_109 {Γ : GX} {E : EX} (C : Cx Γ E cX10_thingLine RX10 7) (hr : Γ.meth.sig.returnType = (some .boolean)) (hrm : Γ.rm = rmX10_thingLine) (th : Nat) (p1 : Int32) (k47 : Int32 → Int32 → Int32 → MM → Option (Int32 × MM)) (k116 : Int32 → Int32 → MM → Option (Int32 × MM)) (h47 : ∀ (x2 : Int32) (x3 : Int32) (x4 : Int32) (m : MM), Sm (QM Γ E emI 0 0) Γ E 7 0 0 47 [(0, va_rf (some th)), (1, .int p1), (2, .int x2), (3, .int x3), (4, .int x4)] [] m (k47 x2 x3 x4 m)) (h116 : ∀ (x2 : Int32) (x3 : Int32) (m : MM), Sm (QM Γ E emI 0 0) Γ E 7 0 0 116 [(0, va_rf (some th)), (1, .int p1), (2, .int x2), (3, .int x3)] [] m (k116 x2 x3 m)) (x2 : Int32) (x4 : Int32) (s0 : Int32) (m : MM) : Sm (QM Γ E emI 0 0) Γ E 7 0 0 109 [(0, va_rf (some th)), (1, .int p1), (2, .int x2), (4, .int x4)] [.int s0] m (g_X10_thingLine_109 th p1 k47 k116 x2 x4 s0 m) := by
  unfold g_X10_thingLine_109
  refine z_istore_n (i := 3) (L2 := [(3, .int s0), (0, va_rf (some th)), (1, .int p1), (2, .int x2), (4, .int x4)]) C dX10_thingLine_109 rfl (by decide) rfl ?_
  refine z_iinc (v := 1) (L2 := [(4, .int (x4 + 1)), (3, .int s0), (0, va_rf (some th)), (1, .int p1), (2, .int x2)]) C dX10_thingLine_110 4 rfl (by decide) (by decide) rfl ?_
  refine z_goto (tgt := 47) C dX10_thingLine_113 (by decide) ?_
  exact z_sub [2, 3, 4, 1, 0] rfl (h47 x2 s0 (x4 + 1) m)
set_option maxRecDepth 100000 in
def g_X10_thingLine_104 (th : Nat) (p1 : Int32) (k47 : Int32 → Int32 → Int32 → MM → Option (Int32 × MM)) (k116 : Int32 → Int32 → MM → Option (Int32 × MM)) (x2 : Int32) (x4 : Int32) (m : MM) : Option (Int32 × MM) :=
  g_X10_thingLine_109 th p1 k47 k116 x2 x4 1 m
set_option maxHeartbeats 4000000 in
set_option maxRecDepth 100000 in
theorem s_X10_thingLine_104 {Γ : GX} {E : EX} (C : Cx Γ E cX10_thingLine RX10 7) (hr : Γ.meth.sig.returnType = (some .boolean)) (hrm : Γ.rm = rmX10_thingLine) (th : Nat) (p1 : Int32) (k47 : Int32 → Int32 → Int32 → MM → Option (Int32 × MM)) (k116 : Int32 → Int32 → MM → Option (Int32 × MM)) (h47 : ∀ (x2 : Int32) (x3 : Int32) (x4 : Int32) (m : MM), Sm (QM Γ E emI 0 0) Γ E 7 0 0 47 [(0, va_rf (some th)), (1, .int p1), (2, .int x2), (3, .int x3), (4, .int x4)] [] m (k47 x2 x3 x4 m)) (h116 : ∀ (x2 : Int32) (x3 : Int32) (m : MM), Sm (QM Γ E emI 0 0) Γ E 7 0 0 116 [(0, va_rf (some th)), (1, .int p1), (2, .int x2), (3, .int x3)] [] m (k116 x2 x3 m)) (x2 : Int32) (x4 : Int32) (m : MM) : Sm (QM Γ E emI 0 0) Γ E 7 0 0 104 [(0, va_rf (some th)), (1, .int p1), (2, .int x2), (4, .int x4)] [] m (g_X10_thingLine_104 th p1 k47 k116 x2 x4 m) := by
  unfold g_X10_thingLine_104
  refine z_iconst (v := 1) C dX10_thingLine_104 (by decide) ?_
  refine z_goto (tgt := 109) C dX10_thingLine_105 (by decide) ?_
  exact z_sub [0, 1, 2, 3] rfl (s_X10_thingLine_109 C hr hrm th p1 k47 k116 h47 h116 x2 x4 1 m)
set_option maxRecDepth 100000 in
def g_X10_thingLine_108 (th : Nat) (p1 : Int32) (k47 : Int32 → Int32 → Int32 → MM → Option (Int32 × MM)) (k116 : Int32 → Int32 → MM → Option (Int32 × MM)) (x2 : Int32) (x4 : Int32) (m : MM) : Option (Int32 × MM) :=
  g_X10_thingLine_109 th p1 k47 k116 x2 x4 0 m
set_option maxHeartbeats 4000000 in
set_option maxRecDepth 100000 in
theorem s_X10_thingLine_108 {Γ : GX} {E : EX} (C : Cx Γ E cX10_thingLine RX10 7) (hr : Γ.meth.sig.returnType = (some .boolean)) (hrm : Γ.rm = rmX10_thingLine) (th : Nat) (p1 : Int32) (k47 : Int32 → Int32 → Int32 → MM → Option (Int32 × MM)) (k116 : Int32 → Int32 → MM → Option (Int32 × MM)) (h47 : ∀ (x2 : Int32) (x3 : Int32) (x4 : Int32) (m : MM), Sm (QM Γ E emI 0 0) Γ E 7 0 0 47 [(0, va_rf (some th)), (1, .int p1), (2, .int x2), (3, .int x3), (4, .int x4)] [] m (k47 x2 x3 x4 m)) (h116 : ∀ (x2 : Int32) (x3 : Int32) (m : MM), Sm (QM Γ E emI 0 0) Γ E 7 0 0 116 [(0, va_rf (some th)), (1, .int p1), (2, .int x2), (3, .int x3)] [] m (k116 x2 x3 m)) (x2 : Int32) (x4 : Int32) (m : MM) : Sm (QM Γ E emI 0 0) Γ E 7 0 0 108 [(0, va_rf (some th)), (1, .int p1), (2, .int x2), (4, .int x4)] [] m (g_X10_thingLine_108 th p1 k47 k116 x2 x4 m) := by
  unfold g_X10_thingLine_108
  refine z_iconst (v := 0) C dX10_thingLine_108 (by decide) ?_
  exact z_sub [0, 1, 2, 3] rfl (s_X10_thingLine_109 C hr hrm th p1 k47 k116 h47 h116 x2 x4 0 m)
set_option maxRecDepth 100000 in
def g_X10_thingLine_47 (th : Nat) (p1 : Int32) (k47 : Int32 → Int32 → Int32 → MM → Option (Int32 × MM)) (k116 : Int32 → Int32 → MM → Option (Int32 × MM)) (x2 : Int32) (x3 : Int32) (x4 : Int32) (m : MM) : Option (Int32 × MM) :=
  chk (m.K th = 11) (ck m (m.R 1150 th 0) 22 (fun a1 => chk (inb 2 (m.N a1) = true) (if (m.I 22 a1 (Int32.toNatClampNeg 2)) ≤ x4 then (k116 x2 x3 m) else (if x3 = 0 then (ck m (m.R 1151 th 0) 22 (fun a2 => chk (inb ((7 * x4) + 1) (m.N a2) = true) (ck m (m.R 1147 th 0) 22 (fun a3 => chk (inb 1 (m.N a3) = true) (if (m.I 22 a2 (Int32.toNatClampNeg ((7 * x4) + 1))) = (m.I 22 a3 (Int32.toNatClampNeg 1)) then (chk (inb ((7 * x4) + 2) (m.N a2) = true) (chk (inb 2 (m.N a3) = true) (if (m.I 22 a2 (Int32.toNatClampNeg ((7 * x4) + 2))) = (m.I 22 a3 (Int32.toNatClampNeg 2)) then (g_X10_thingLine_104 th p1 k47 k116 x2 x4 m) else (g_X10_thingLine_108 th p1 k47 k116 x2 x4 m)))) else (g_X10_thingLine_108 th p1 k47 k116 x2 x4 m)))))) else (g_X10_thingLine_104 th p1 k47 k116 x2 x4 m)))))
set_option maxHeartbeats 4000000 in
set_option maxRecDepth 100000 in
theorem s_X10_thingLine_47 {Γ : GX} {E : EX} (C : Cx Γ E cX10_thingLine RX10 7) (hr : Γ.meth.sig.returnType = (some .boolean)) (hrm : Γ.rm = rmX10_thingLine) (th : Nat) (p1 : Int32) (k47 : Int32 → Int32 → Int32 → MM → Option (Int32 × MM)) (k116 : Int32 → Int32 → MM → Option (Int32 × MM)) (h47 : ∀ (x2 : Int32) (x3 : Int32) (x4 : Int32) (m : MM), Sm (QM Γ E emI 0 0) Γ E 7 0 0 47 [(0, va_rf (some th)), (1, .int p1), (2, .int x2), (3, .int x3), (4, .int x4)] [] m (k47 x2 x3 x4 m)) (h116 : ∀ (x2 : Int32) (x3 : Int32) (m : MM), Sm (QM Γ E emI 0 0) Γ E 7 0 0 116 [(0, va_rf (some th)), (1, .int p1), (2, .int x2), (3, .int x3)] [] m (k116 x2 x3 m)) (x2 : Int32) (x3 : Int32) (x4 : Int32) (m : MM) : Sm (QM Γ E emI 0 0) Γ E 7 0 0 47 [(0, va_rf (some th)), (1, .int p1), (2, .int x2), (3, .int x3), (4, .int x4)] [] m (g_X10_thingLine_47 th p1 k47 k116 x2 x3 x4 m) := by
  unfold g_X10_thingLine_47
  refine z_iload C dX10_thingLine_47 4 rfl ?_
  refine z_aload_n C dX10_thingLine_49 rfl 0 rfl ?_
  refine z_chk (fun hk1 => ?_)
  refine z_getR C fl_RX10_125 rfl hk1 dX10_thingLine_50 ?_
  refine z_iconst (v := 2) C dX10_thingLine_53 (by decide) ?_
  refine z_ck (fun a1 hr1 hk2 => ?_)
  refine z_chk (fun hj1 => ?_)
  refine z_iald C hr1 hk2 hj1 dX10_thingLine_54 ?_
  refine z_icmp_ge (tgt := 116) C dX10_thingLine_55 (by decide) (fun c1 => ?_) (fun c1 => ?_)
  · exact z_sub [0, 1, 2, 3] rfl (h116 x2 x3 m)
  · refine z_iload_n C dX10_thingLine_58 rfl 3 rfl ?_
    refine z_if_ne (tgt := 104) C dX10_thingLine_59 (by decide) (fun c2 => ?_) (fun c2 => ?_)
    · exact z_sub [0, 1, 2, 4] rfl (s_X10_thingLine_104 C hr hrm th p1 k47 k116 h47 h116 x2 x4 m)
    · refine z_aload_n C dX10_thingLine_62 rfl 0 rfl ?_
      refine z_getR C fl_RX10_128 rfl hk1 dX10_thingLine_63 ?_
      refine z_bipush (v := 7) C dX10_thingLine_66 (by decide) ?_
      refine z_iload C dX10_thingLine_68 4 rfl ?_
      refine z_imul C dX10_thingLine_70 ?_
      refine z_iconst (v := 1) C dX10_thingLine_71 (by decide) ?_
      refine z_iadd C dX10_thingLine_72 ?_
      refine z_ck (fun a2 hr2 hk3 => ?_)
      refine z_chk (fun hj2 => ?_)
      refine z_iald C hr2 hk3 hj2 dX10_thingLine_73 ?_
      refine z_aload_n C dX10_thingLine_74 rfl 0 rfl ?_
      refine z_getR C fl_RX10_122 rfl hk1 dX10_thingLine_75 ?_
      refine z_iconst (v := 1) C dX10_thingLine_78 (by decide) ?_
      refine z_ck (fun a3 hr3 hk4 => ?_)
      refine z_chk (fun hj3 => ?_)
      refine z_iald C hr3 hk4 hj3 dX10_thingLine_79 ?_
      refine z_icmp_ne (tgt := 108) C dX10_thingLine_80 (by decide) (fun c3 => ?_) (fun c3 => ?_)
      · exact z_sub [0, 1, 2, 4] rfl (s_X10_thingLine_108 C hr hrm th p1 k47 k116 h47 h116 x2 x4 m)
      · refine z_aload_n C dX10_thingLine_83 rfl 0 rfl ?_
        refine z_getR C fl_RX10_128 rfl hk1 dX10_thingLine_84 ?_
        refine z_bipush (v := 7) C dX10_thingLine_87 (by decide) ?_
        refine z_iload C dX10_thingLine_89 4 rfl ?_
        refine z_imul C dX10_thingLine_91 ?_
        refine z_iconst (v := 2) C dX10_thingLine_92 (by decide) ?_
        refine z_iadd C dX10_thingLine_93 ?_
        refine z_chk (fun hj4 => ?_)
        refine z_iald C hr2 hk3 hj4 dX10_thingLine_94 ?_
        refine z_aload_n C dX10_thingLine_95 rfl 0 rfl ?_
        refine z_getR C fl_RX10_122 rfl hk1 dX10_thingLine_96 ?_
        refine z_iconst (v := 2) C dX10_thingLine_99 (by decide) ?_
        refine z_chk (fun hj5 => ?_)
        refine z_iald C hr3 hk4 hj5 dX10_thingLine_100 ?_
        refine z_icmp_ne (tgt := 108) C dX10_thingLine_101 (by decide) (fun c4 => ?_) (fun c4 => ?_)
        · exact z_sub [0, 1, 2, 4] rfl (s_X10_thingLine_108 C hr hrm th p1 k47 k116 h47 h116 x2 x4 m)
        · exact z_sub [0, 1, 2, 4] rfl (s_X10_thingLine_104 C hr hrm th p1 k47 k116 h47 h116 x2 x4 m)
def l_X10_thingLine_47 (th : Nat) (p1 : Int32) (k116 : Int32 → Int32 → MM → Option (Int32 × MM)) : Nat → Int32 → Int32 → Int32 → MM → Option (Int32 × MM) := lp (fun _ _ _ _ => none) (fun k47 => g_X10_thingLine_47 th p1 k47 k116)
theorem t_X10_thingLine_47 {Γ : GX} {E : EX} (C : Cx Γ E cX10_thingLine RX10 7) (hr : Γ.meth.sig.returnType = (some .boolean)) (hrm : Γ.rm = rmX10_thingLine) (th : Nat) (p1 : Int32) (k116 : Int32 → Int32 → MM → Option (Int32 × MM)) (h116 : ∀ (x2 : Int32) (x3 : Int32) (m : MM), Sm (QM Γ E emI 0 0) Γ E 7 0 0 116 [(0, va_rf (some th)), (1, .int p1), (2, .int x2), (3, .int x3)] [] m (k116 x2 x3 m)) : ∀ (n : Nat) (x2 : Int32) (x3 : Int32) (x4 : Int32) (m : MM), Sm (QM Γ E emI 0 0) Γ E 7 0 0 47 [(0, va_rf (some th)), (1, .int p1), (2, .int x2), (3, .int x3), (4, .int x4)] [] m (l_X10_thingLine_47 th p1 k116 n x2 x3 x4 m) := by
  intro n
  induction n with
  | zero => intros; exact z_none
  | succ n ih => intro x2 x3 x4 m; exact s_X10_thingLine_47 C hr hrm th p1 (l_X10_thingLine_47 th p1 k116 n) k116 ih h116 x2 x3 x4 m
set_option maxRecDepth 100000 in
def g_X10_thingLine_196 (th : Nat) (p1 : Int32) (k196 : Int32 → Int32 → Int32 → MM → Option (Int32 × MM)) (k228 : Int32 → Int32 → MM → Option (Int32 × MM)) (x4 : Int32) (x5 : Int32) (x6 : Int32) (m : MM) : Option (Int32 × MM) :=
  if 5 ≤ x6 then (k228 x4 x5 m) else (chk (m.K th = 11) (ck m (m.R 1147 th 0) 22 (fun a4 => chk (inb x6 (m.N a4) = true) (ck m (m.R 1151 th 0) 22 (fun a5 => chk (inb ((7 * x5) + x6) (m.N a5) = true) (bnd (m.sI 22 a5 (Int32.toNatClampNeg ((7 * x5) + x6)) (m.I 22 a4 (Int32.toNatClampNeg x6))) (fun m1 => k196 x4 x5 (x6 + 1) m1)))))))
set_option maxHeartbeats 4000000 in
set_option maxRecDepth 100000 in
theorem s_X10_thingLine_196 {Γ : GX} {E : EX} (C : Cx Γ E cX10_thingLine RX10 7) (hr : Γ.meth.sig.returnType = (some .boolean)) (hrm : Γ.rm = rmX10_thingLine) (th : Nat) (p1 : Int32) (k196 : Int32 → Int32 → Int32 → MM → Option (Int32 × MM)) (k228 : Int32 → Int32 → MM → Option (Int32 × MM)) (h196 : ∀ (x4 : Int32) (x5 : Int32) (x6 : Int32) (m : MM), Sm (QM Γ E emI 0 0) Γ E 7 0 0 196 [(0, va_rf (some th)), (1, .int p1), (4, .int x4), (5, .int x5), (6, .int x6)] [] m (k196 x4 x5 x6 m)) (h228 : ∀ (x4 : Int32) (x5 : Int32) (m : MM), Sm (QM Γ E emI 0 0) Γ E 7 0 0 228 [(0, va_rf (some th)), (1, .int p1), (4, .int x4), (5, .int x5)] [] m (k228 x4 x5 m)) (x4 : Int32) (x5 : Int32) (x6 : Int32) (m : MM) : Sm (QM Γ E emI 0 0) Γ E 7 0 0 196 [(0, va_rf (some th)), (1, .int p1), (4, .int x4), (5, .int x5), (6, .int x6)] [] m (g_X10_thingLine_196 th p1 k196 k228 x4 x5 x6 m) := by
  unfold g_X10_thingLine_196
  refine z_iload C dX10_thingLine_196 4 rfl ?_
  refine z_iconst (v := 5) C dX10_thingLine_198 (by decide) ?_
  refine z_icmp_ge (tgt := 228) C dX10_thingLine_199 (by decide) (fun c5 => ?_) (fun c5 => ?_)
  · exact z_sub [0, 1, 2, 3] rfl (h228 x4 x5 m)
  · refine z_aload_n C dX10_thingLine_202 rfl 0 rfl ?_
    refine z_chk (fun hk5 => ?_)
    refine z_getR C fl_RX10_128 rfl hk5 dX10_thingLine_203 ?_
    refine z_bipush (v := 7) C dX10_thingLine_206 (by decide) ?_
    refine z_iload C dX10_thingLine_208 3 rfl ?_
    refine z_imul C dX10_thingLine_210 ?_
    refine z_iload C dX10_thingLine_211 4 rfl ?_
    refine z_iadd C dX10_thingLine_213 ?_
    refine z_aload_n C dX10_thingLine_214 rfl 0 rfl ?_
    refine z_getR C fl_RX10_122 rfl hk5 dX10_thingLine_215 ?_
    refine z_iload C dX10_thingLine_218 4 rfl ?_
    refine z_ck (fun a4 hr4 hk6 => ?_)
    refine z_chk (fun hj6 => ?_)
    refine z_iald C hr4 hk6 hj6 dX10_thingLine_220 ?_
    refine z_ck (fun a5 hr5 hk7 => ?_)
    refine z_chk (fun hj7 => ?_)
    refine z_iast C hr5 hk7 hj7 dX10_thingLine_221 (fun m1 eK1 eN1 => ?_)
    refine z_iinc (v := 1) (L2 := [(6, .int (x6 + 1)), (0, va_rf (some th)), (1, .int p1), (4, .int x4), (5, .int x5)]) C dX10_thingLine_222 4 rfl (by decide) (by decide) rfl ?_
    refine z_goto (tgt := 196) C dX10_thingLine_225 (by decide) ?_
    exact z_sub [1, 2, 3, 4, 0] rfl (h196 x4 x5 (x6 + 1) m1)
def l_X10_thingLine_196 (th : Nat) (p1 : Int32) (k228 : Int32 → Int32 → MM → Option (Int32 × MM)) : Nat → Int32 → Int32 → Int32 → MM → Option (Int32 × MM) := lp (fun _ _ _ _ => none) (fun k196 => g_X10_thingLine_196 th p1 k196 k228)
theorem t_X10_thingLine_196 {Γ : GX} {E : EX} (C : Cx Γ E cX10_thingLine RX10 7) (hr : Γ.meth.sig.returnType = (some .boolean)) (hrm : Γ.rm = rmX10_thingLine) (th : Nat) (p1 : Int32) (k228 : Int32 → Int32 → MM → Option (Int32 × MM)) (h228 : ∀ (x4 : Int32) (x5 : Int32) (m : MM), Sm (QM Γ E emI 0 0) Γ E 7 0 0 228 [(0, va_rf (some th)), (1, .int p1), (4, .int x4), (5, .int x5)] [] m (k228 x4 x5 m)) : ∀ (n : Nat) (x4 : Int32) (x5 : Int32) (x6 : Int32) (m : MM), Sm (QM Γ E emI 0 0) Γ E 7 0 0 196 [(0, va_rf (some th)), (1, .int p1), (4, .int x4), (5, .int x5), (6, .int x6)] [] m (l_X10_thingLine_196 th p1 k228 n x4 x5 x6 m) := by
  intro n
  induction n with
  | zero => intros; exact z_none
  | succ n ih => intro x4 x5 x6 m; exact s_X10_thingLine_196 C hr hrm th p1 (l_X10_thingLine_196 th p1 k228 n) k228 ih h228 x4 x5 x6 m
set_option maxRecDepth 100000 in
def g_X10_thingLine_228 (th : Nat) (p1 : Int32) (x4 : Int32) (x5 : Int32) (m : MM) : Option (Int32 × MM) :=
  chk (m.K th = 11) (ck m (m.R 1151 th 0) 22 (fun a6 => chk (inb ((7 * x5) + 5) (m.N a6) = true) (bnd (m.sI 22 a6 (Int32.toNatClampNeg ((7 * x5) + 5)) x4) (fun m2 => ck m2 (m2.R 1151 th 0) 22 (fun a7 => chk (inb ((7 * x5) + 6) (m2.N a7) = true) (bnd (m2.sI 22 a7 (Int32.toNatClampNeg ((7 * x5) + 6)) 1) (fun m3 => ck m3 (m3.R 1150 th 0) 22 (fun a8 => chk (inb 2 (m3.N a8) = true) (if 12 ≤ x5 then (chk (inb 2 (m3.N a8) = true) (bnd (m3.sI 22 a8 (Int32.toNatClampNeg 2) ((m3.I 22 a8 (Int32.toNatClampNeg 2)) + 0)) (fun m4 => some (1, m4)))) else (chk (inb 2 (m3.N a8) = true) (bnd (m3.sI 22 a8 (Int32.toNatClampNeg 2) ((m3.I 22 a8 (Int32.toNatClampNeg 2)) + 1)) (fun m5 => some (1, m5)))))))))))))
set_option maxHeartbeats 4000000 in
set_option maxRecDepth 100000 in
theorem s_X10_thingLine_228 {Γ : GX} {E : EX} (C : Cx Γ E cX10_thingLine RX10 7) (hr : Γ.meth.sig.returnType = (some .boolean)) (hrm : Γ.rm = rmX10_thingLine) (th : Nat) (p1 : Int32) (x4 : Int32) (x5 : Int32) (m : MM) : Sm (QM Γ E emI 0 0) Γ E 7 0 0 228 [(0, va_rf (some th)), (1, .int p1), (4, .int x4), (5, .int x5)] [] m (g_X10_thingLine_228 th p1 x4 x5 m) := by
  unfold g_X10_thingLine_228
  refine z_aload_n C dX10_thingLine_228 rfl 0 rfl ?_
  refine z_chk (fun hk8 => ?_)
  refine z_getR C fl_RX10_128 rfl hk8 dX10_thingLine_229 ?_
  refine z_bipush (v := 7) C dX10_thingLine_232 (by decide) ?_
  refine z_iload C dX10_thingLine_234 3 rfl ?_
  refine z_imul C dX10_thingLine_236 ?_
  refine z_iconst (v := 5) C dX10_thingLine_237 (by decide) ?_
  refine z_iadd C dX10_thingLine_238 ?_
  refine z_iload C dX10_thingLine_239 2 rfl ?_
  refine z_ck (fun a6 hr6 hk9 => ?_)
  refine z_chk (fun hj8 => ?_)
  refine z_iast C hr6 hk9 hj8 dX10_thingLine_241 (fun m2 eK2 eN2 => ?_)
  refine z_aload_n C dX10_thingLine_242 rfl 0 rfl ?_
  refine z_getR C fl_RX10_128 rfl (kfw eK2 hk8) dX10_thingLine_243 ?_
  refine z_bipush (v := 7) C dX10_thingLine_246 (by decide) ?_
  refine z_iload C dX10_thingLine_248 3 rfl ?_
  refine z_imul C dX10_thingLine_250 ?_
  refine z_bipush (v := 6) C dX10_thingLine_251 (by decide) ?_
  refine z_iadd C dX10_thingLine_253 ?_
  refine z_iconst (v := 1) C dX10_thingLine_254 (by decide) ?_
  refine z_ck (fun a7 hr7 hk10 => ?_)
  refine z_chk (fun hj9 => ?_)
  refine z_iast C hr7 hk10 hj9 dX10_thingLine_255 (fun m3 eK3 eN3 => ?_)
  refine z_aload_n C dX10_thingLine_256 rfl 0 rfl ?_
  refine z_getR C fl_RX10_125 rfl (kfw eK3 (kfw eK2 hk8)) dX10_thingLine_257 ?_
  refine z_iconst (v := 2) C dX10_thingLine_260 (by decide) ?_
  refine z_dup2 C rfl (cat_rf _) dX10_thingLine_261 ?_
  refine z_ck (fun a8 hr8 hk11 => ?_)
  refine z_chk (fun hj10 => ?_)
  refine z_iald C hr8 hk11 hj10 dX10_thingLine_262 ?_
  refine z_iload C dX10_thingLine_263 3 rfl ?_
  refine z_bipush (v := 12) C dX10_thingLine_265 (by decide) ?_
  refine z_icmp_ge (tgt := 274) C dX10_thingLine_267 (by decide) (fun c6 => ?_) (fun c6 => ?_)
  · refine z_iconst (v := 0) C dX10_thingLine_274 (by decide) ?_
    refine z_iadd C dX10_thingLine_275 ?_
    refine z_chk (fun hj11 => ?_)
    refine z_iast C hr8 hk11 hj11 dX10_thingLine_276 (fun m4 eK4 eN4 => ?_)
    refine z_iconst (v := 1) C dX10_thingLine_277 (by decide) ?_
    exact z_zret C hr rfl dX10_thingLine_278
  · refine z_iconst (v := 1) C dX10_thingLine_270 (by decide) ?_
    refine z_goto (tgt := 275) C dX10_thingLine_271 (by decide) ?_
    refine z_iadd C dX10_thingLine_275 ?_
    refine z_chk (fun hj12 => ?_)
    refine z_iast C hr8 hk11 hj12 dX10_thingLine_276 (fun m5 eK5 eN5 => ?_)
    refine z_iconst (v := 1) C dX10_thingLine_277 (by decide) ?_
    exact z_zret C hr rfl dX10_thingLine_278
set_option maxRecDepth 100000 in
def g_X10_thingLine_185 (th : Nat) (p1 : Int32) (x4 : Int32) (m : MM) : Option (Int32 × MM) :=
  chk (m.K th = 11) (ck m (m.R 1150 th 0) 22 (fun a9 => chk (inb 2 (m.N a9) = true) (bnd (m.I 22 a9 (Int32.toNatClampNeg 2)) (fun y1 => l_X10_thingLine_196 th p1 (g_X10_thingLine_228 th p1) FU x4 y1 0 m))))
set_option maxHeartbeats 4000000 in
set_option maxRecDepth 100000 in
theorem s_X10_thingLine_185 {Γ : GX} {E : EX} (C : Cx Γ E cX10_thingLine RX10 7) (hr : Γ.meth.sig.returnType = (some .boolean)) (hrm : Γ.rm = rmX10_thingLine) (th : Nat) (p1 : Int32) (x4 : Int32) (m : MM) : Sm (QM Γ E emI 0 0) Γ E 7 0 0 185 [(0, va_rf (some th)), (1, .int p1), (4, .int x4)] [] m (g_X10_thingLine_185 th p1 x4 m) := by
  unfold g_X10_thingLine_185
  refine z_aload_n C dX10_thingLine_185 rfl 0 rfl ?_
  refine z_chk (fun hk12 => ?_)
  refine z_getR C fl_RX10_125 rfl hk12 dX10_thingLine_186 ?_
  refine z_iconst (v := 2) C dX10_thingLine_189 (by decide) ?_
  refine z_ck (fun a9 hr9 hk13 => ?_)
  refine z_chk (fun hj13 => ?_)
  refine z_iald C hr9 hk13 hj13 dX10_thingLine_190 ?_
  refine z_bndI (fun y1 => ?_)
  refine z_istore (i := 5) (L2 := [(5, .int y1), (0, va_rf (some th)), (1, .int p1), (4, .int x4)]) C dX10_thingLine_191 (by decide) rfl ?_
  refine z_iconst (v := 0) C dX10_thingLine_193 (by decide) ?_
  refine z_istore (i := 6) (L2 := [(6, .int 0), (5, .int y1), (0, va_rf (some th)), (1, .int p1), (4, .int x4)]) C dX10_thingLine_194 (by decide) rfl ?_
  exact z_sub [2, 3, 4, 1, 0] rfl (t_X10_thingLine_196 C hr hrm th p1 (g_X10_thingLine_228 th p1) (s_X10_thingLine_228 C hr hrm th p1) FU x4 y1 0 m)
set_option maxRecDepth 100000 in
def g_X10_thingLine_126 (th : Nat) (p1 : Int32) (m : MM) : Option (Int32 × MM) :=
  chk (m.K th = 11) (cal (f_X10_number th 0 7 m) (fun r1 m6 => if r1 = 0 then (some (0, m6)) else (chk (m6.K th = 11) (cal (f_X10_number th 0 999 m6) (fun r2 m7 => if r2 = 0 then (some (0, m7)) else (chk (m7.K th = 11) (cal (f_X10_isWord th 439720568179 m7) (fun r3 m8 => if r3 = 0 then (g_X10_thingLine_185 th p1 (-1) m8) else (chk (m8.K th = 11) (cal (f_X10_token th m8) (fun r4 m9 => chk (m9.K th = 11) (cal (f_X10_number th 0 3 m9) (fun r5 m10 => if r5 = 0 then (some (0, m10)) else (chk (m10.K th = 11) (ck m10 (m10.R 1147 th 0) 22 (fun a10 => chk (inb 5 (m10.N a10) = true) (bnd (m10.I 22 a10 (Int32.toNatClampNeg 5)) (fun y2 => g_X10_thingLine_185 th p1 y2 m10))))))))))))))))))
set_option maxHeartbeats 4000000 in
set_option maxRecDepth 100000 in
theorem s_X10_thingLine_126 {Γ : GX} {E : EX} (C : Cx Γ E cX10_thingLine RX10 7) (hr : Γ.meth.sig.returnType = (some .boolean)) (hrm : Γ.rm = rmX10_thingLine) (th : Nat) (p1 : Int32) (m : MM) : Sm (QM Γ E emI 0 0) Γ E 7 0 0 126 [(0, va_rf (some th)), (1, .int p1)] [] m (g_X10_thingLine_126 th p1 m) := by
  unfold g_X10_thingLine_126
  refine z_aload_n C dX10_thingLine_126 rfl 0 rfl ?_
  refine z_iconst (v := 0) C dX10_thingLine_127 (by decide) ?_
  refine z_bipush (v := 7) C dX10_thingLine_128 (by decide) ?_
  refine z_chk (fun hk14 => ?_)
  refine z_cVI [.int 0, .int 7] [] C mv_RX10_254 (fun r0 m0 h0 => M_X10_number _ _ _ _ _ _ _ _ h0) rfl rfl ⟨by rw [hrm]; exact Nat.le_of_ble_eq_true rfl, by rw [hrm]; exact Nat.le_of_ble_eq_true rfl⟩ ⟨by rw [hrm]; exact Nat.le_of_ble_eq_true rfl, by rw [hrm]; exact Nat.le_of_ble_eq_true rfl⟩ rfl hk14 rfl rfl rfl (Nat.le_of_ble_eq_true rfl) dX10_thingLine_130 (fun r1 m6 => ?_)
  refine z_if_eq (tgt := 147) C dX10_thingLine_133 (by decide) (fun c7 => ?_) (fun c7 => ?_)
  · refine z_iconst (v := 0) C dX10_thingLine_147 (by decide) ?_
    exact z_zret C hr rfl dX10_thingLine_148
  · refine z_aload_n C dX10_thingLine_136 rfl 0 rfl ?_
    refine z_iconst (v := 0) C dX10_thingLine_137 (by decide) ?_
    refine z_sipush (v := 999) C dX10_thingLine_138 (by decide) ?_
    refine z_chk (fun hk15 => ?_)
    refine z_cVI [.int 0, .int 999] [] C mv_RX10_254 (fun r0 m0 h0 => M_X10_number _ _ _ _ _ _ _ _ h0) rfl rfl ⟨by rw [hrm]; exact Nat.le_of_ble_eq_true rfl, by rw [hrm]; exact Nat.le_of_ble_eq_true rfl⟩ ⟨by rw [hrm]; exact Nat.le_of_ble_eq_true rfl, by rw [hrm]; exact Nat.le_of_ble_eq_true rfl⟩ rfl hk15 rfl rfl rfl (Nat.le_of_ble_eq_true rfl) dX10_thingLine_141 (fun r2 m7 => ?_)
    refine z_if_ne (tgt := 149) C dX10_thingLine_144 (by decide) (fun c8 => ?_) (fun c8 => ?_)
    · refine z_iconst (v := (-1)) C dX10_thingLine_149 (by decide) ?_
      refine z_istore (i := 4) (L2 := [(4, .int (-1)), (0, va_rf (some th)), (1, .int p1)]) C dX10_thingLine_150 (by decide) rfl ?_
      refine z_aload_n C dX10_thingLine_152 rfl 1 rfl ?_
      refine z_ldc2 C dX10_thingLine_153 kl_RX10_261 ?_
      refine z_chk (fun hk16 => ?_)
      refine z_cVI [.long 439720568179] [] C mv_RX10_263 (fun r0 m0 h0 => M_X10_isWord _ _ _ _ _ _ _ h0) rfl rfl ⟨by rw [hrm]; exact Nat.le_of_ble_eq_true rfl, by rw [hrm]; exact Nat.le_of_ble_eq_true rfl⟩ ⟨by rw [hrm]; exact Nat.le_of_ble_eq_true rfl, by rw [hrm]; exact Nat.le_of_ble_eq_true rfl⟩ rfl hk16 rfl rfl rfl (Nat.le_of_ble_eq_true rfl) dX10_thingLine_156 (fun r3 m8 => ?_)
      refine z_if_eq (tgt := 185) C dX10_thingLine_159 (by decide) (fun c9 => ?_) (fun c9 => ?_)
      · exact z_sub [1, 2, 0] rfl (s_X10_thingLine_185 C hr hrm th p1 (-1) m8)
      · refine z_aload_n C dX10_thingLine_162 rfl 1 rfl ?_
        refine z_chk (fun hk17 => ?_)
        refine z_cVV [] [] C mv_RX10_251 (fun r0 m0 h0 => M_X10_token _ _ _ _ _ _ h0) rfl rfl ⟨by rw [hrm]; exact Nat.le_of_ble_eq_true rfl, by rw [hrm]; exact Nat.le_of_ble_eq_true rfl⟩ ⟨by rw [hrm]; exact Nat.le_of_ble_eq_true rfl, by rw [hrm]; exact Nat.le_of_ble_eq_true rfl⟩ rfl hk17 rfl rfl rfl (Nat.le_of_ble_eq_true rfl) dX10_thingLine_163 (fun r4 m9 => ?_)
        refine z_aload_n C dX10_thingLine_166 rfl 1 rfl ?_
        refine z_iconst (v := 0) C dX10_thingLine_167 (by decide) ?_
        refine z_iconst (v := 3) C dX10_thingLine_168 (by decide) ?_
        refine z_chk (fun hk18 => ?_)
        refine z_cVI [.int 0, .int 3] [] C mv_RX10_254 (fun r0 m0 h0 => M_X10_number _ _ _ _ _ _ _ _ h0) rfl rfl ⟨by rw [hrm]; exact Nat.le_of_ble_eq_true rfl, by rw [hrm]; exact Nat.le_of_ble_eq_true rfl⟩ ⟨by rw [hrm]; exact Nat.le_of_ble_eq_true rfl, by rw [hrm]; exact Nat.le_of_ble_eq_true rfl⟩ rfl hk18 rfl rfl rfl (Nat.le_of_ble_eq_true rfl) dX10_thingLine_169 (fun r5 m10 => ?_)
        refine z_if_ne (tgt := 177) C dX10_thingLine_172 (by decide) (fun c10 => ?_) (fun c10 => ?_)
        · refine z_aload_n C dX10_thingLine_177 rfl 1 rfl ?_
          refine z_chk (fun hk19 => ?_)
          refine z_getR C fl_RX10_122 rfl hk19 dX10_thingLine_178 ?_
          refine z_iconst (v := 5) C dX10_thingLine_181 (by decide) ?_
          refine z_ck (fun a10 hr10 hk20 => ?_)
          refine z_chk (fun hj14 => ?_)
          refine z_iald C hr10 hk20 hj14 dX10_thingLine_182 ?_
          refine z_bndI (fun y2 => ?_)
          refine z_istore (i := 4) (L2 := [(4, .int y2), (0, va_rf (some th)), (1, .int p1)]) C dX10_thingLine_183 (by decide) rfl ?_
          exact z_sub [1, 2, 0] rfl (s_X10_thingLine_185 C hr hrm th p1 y2 m10)
        · refine z_iconst (v := 0) C dX10_thingLine_175 (by decide) ?_
          exact z_zret C hr rfl dX10_thingLine_176
    · refine z_iconst (v := 0) C dX10_thingLine_147 (by decide) ?_
      exact z_zret C hr rfl dX10_thingLine_148
set_option maxRecDepth 100000 in
def g_X10_thingLine_116 (th : Nat) (p1 : Int32) (x2 : Int32) (x3 : Int32) (m : MM) : Option (Int32 × MM) :=
  if x3 = 0 then (g_X10_thingLine_126 th p1 m) else (chk (m.K th = 11) (cal (f_X10_later th 4 x2 m) (fun r6 m11 => g_X10_thingLine_126 th p1 m11)))
set_option maxHeartbeats 4000000 in
set_option maxRecDepth 100000 in
theorem s_X10_thingLine_116 {Γ : GX} {E : EX} (C : Cx Γ E cX10_thingLine RX10 7) (hr : Γ.meth.sig.returnType = (some .boolean)) (hrm : Γ.rm = rmX10_thingLine) (th : Nat) (p1 : Int32) (x2 : Int32) (x3 : Int32) (m : MM) : Sm (QM Γ E emI 0 0) Γ E 7 0 0 116 [(0, va_rf (some th)), (1, .int p1), (2, .int x2), (3, .int x3)] [] m (g_X10_thingLine_116 th p1 x2 x3 m) := by
  unfold g_X10_thingLine_116
  refine z_iload_n C dX10_thingLine_116 rfl 3 rfl ?_
  refine z_if_eq (tgt := 126) C dX10_thingLine_117 (by decide) (fun c11 => ?_) (fun c11 => ?_)
  · exact z_sub [0, 1] rfl (s_X10_thingLine_126 C hr hrm th p1 m)
  · refine z_aload_n C dX10_thingLine_120 rfl 0 rfl ?_
    refine z_iconst (v := 4) C dX10_thingLine_121 (by decide) ?_
    refine z_iload_n C dX10_thingLine_122 rfl 2 rfl ?_
    refine z_chk (fun hk21 => ?_)
    refine z_cVV [.int 4, .int x2] [] C mv_RX10_243 (fun r0 m0 h0 => M_X10_later _ _ _ _ _ _ _ _ h0) rfl rfl ⟨by rw [hrm]; exact Nat.le_of_ble_eq_true rfl, by rw [hrm]; exact Nat.le_of_ble_eq_true rfl⟩ ⟨by rw [hrm]; exact Nat.le_of_ble_eq_true rfl, by rw [hrm]; exact Nat.le_of_ble_eq_true rfl⟩ rfl hk21 rfl rfl rfl (Nat.le_of_ble_eq_true rfl) dX10_thingLine_123 (fun r6 m11 => ?_)
    exact z_sub [0, 1] rfl (s_X10_thingLine_126 C hr hrm th p1 m11)
set_option maxRecDepth 100000 in
def g_X10_thingLine_17 (th : Nat) (p1 : Int32) (m : MM) : Option (Int32 × MM) :=
  chk (m.K th = 11) (cal (f_X10_number th 0 5 m) (fun r7 m12 => if r7 = 0 then (some (0, m12)) else (chk (m12.K th = 11) (bnd (m12.I 1140 th 0) (fun y3 => cal (f_X10_point th m12) (fun r8 m13 => if r8 = 0 then (some (0, m13)) else (l_X10_thingLine_47 th p1 (g_X10_thingLine_116 th p1) FU y3 0 0 m13)))))))
set_option maxHeartbeats 4000000 in
set_option maxRecDepth 100000 in
theorem s_X10_thingLine_17 {Γ : GX} {E : EX} (C : Cx Γ E cX10_thingLine RX10 7) (hr : Γ.meth.sig.returnType = (some .boolean)) (hrm : Γ.rm = rmX10_thingLine) (th : Nat) (p1 : Int32) (m : MM) : Sm (QM Γ E emI 0 0) Γ E 7 0 0 17 [(0, va_rf (some th)), (1, .int p1)] [] m (g_X10_thingLine_17 th p1 m) := by
  unfold g_X10_thingLine_17
  refine z_aload_n C dX10_thingLine_17 rfl 0 rfl ?_
  refine z_iconst (v := 0) C dX10_thingLine_18 (by decide) ?_
  refine z_iconst (v := 5) C dX10_thingLine_19 (by decide) ?_
  refine z_chk (fun hk22 => ?_)
  refine z_cVI [.int 0, .int 5] [] C mv_RX10_254 (fun r0 m0 h0 => M_X10_number _ _ _ _ _ _ _ _ h0) rfl rfl ⟨by rw [hrm]; exact Nat.le_of_ble_eq_true rfl, by rw [hrm]; exact Nat.le_of_ble_eq_true rfl⟩ ⟨by rw [hrm]; exact Nat.le_of_ble_eq_true rfl, by rw [hrm]; exact Nat.le_of_ble_eq_true rfl⟩ rfl hk22 rfl rfl rfl (Nat.le_of_ble_eq_true rfl) dX10_thingLine_20 (fun r7 m12 => ?_)
  refine z_if_ne (tgt := 28) C dX10_thingLine_23 (by decide) (fun c12 => ?_) (fun c12 => ?_)
  · refine z_aload_n C dX10_thingLine_28 rfl 0 rfl ?_
    refine z_chk (fun hk23 => ?_)
    refine z_getI C fl_RX10_214 rfl hk23 dX10_thingLine_29 ?_
    refine z_bndI (fun y3 => ?_)
    refine z_istore_n (i := 2) (L2 := [(2, .int y3), (0, va_rf (some th)), (1, .int p1)]) C dX10_thingLine_32 rfl (by decide) rfl ?_
    refine z_aload_n C dX10_thingLine_33 rfl 1 rfl ?_
    refine z_cVI [] [] C mv_RX10_258 (fun r0 m0 h0 => M_X10_point _ _ _ _ _ _ h0) rfl rfl ⟨by rw [hrm]; exact Nat.le_of_ble_eq_true rfl, by rw [hrm]; exact Nat.le_of_ble_eq_true rfl⟩ ⟨by rw [hrm]; exact Nat.le_of_ble_eq_true rfl, by rw [hrm]; exact Nat.le_of_ble_eq_true rfl⟩ rfl hk23 rfl rfl rfl (Nat.le_of_ble_eq_true rfl) dX10_thingLine_34 (fun r8 m13 => ?_)
    refine z_if_ne (tgt := 42) C dX10_thingLine_37 (by decide) (fun c13 => ?_) (fun c13 => ?_)
    · refine z_iconst (v := 0) C dX10_thingLine_42 (by decide) ?_
      refine z_istore_n (i := 3) (L2 := [(3, .int 0), (2, .int y3), (0, va_rf (some th)), (1, .int p1)]) C dX10_thingLine_43 rfl (by decide) rfl ?_
      refine z_iconst (v := 0) C dX10_thingLine_44 (by decide) ?_
      refine z_istore (i := 4) (L2 := [(4, .int 0), (3, .int 0), (2, .int y3), (0, va_rf (some th)), (1, .int p1)]) C dX10_thingLine_45 (by decide) rfl ?_
      exact z_sub [3, 4, 2, 1, 0] rfl (t_X10_thingLine_47 C hr hrm th p1 (g_X10_thingLine_116 th p1) (s_X10_thingLine_116 C hr hrm th p1) FU y3 0 0 m13)
    · refine z_iconst (v := 0) C dX10_thingLine_40 (by decide) ?_
      exact z_zret C hr rfl dX10_thingLine_41
  · refine z_iconst (v := 0) C dX10_thingLine_26 (by decide) ?_
    exact z_zret C hr rfl dX10_thingLine_27
set_option maxRecDepth 100000 in
def g_X10_thingLine_0 (th : Nat) (p1 : Int32) (m : MM) : Option (Int32 × MM) :=
  chk (m.K th = 11) (ck m (m.R 1150 th 0) 22 (fun a11 => chk (inb 2 (m.N a11) = true) (if (m.I 22 a11 (Int32.toNatClampNeg 2)) = 12 then (cal (f_X10_later th 3 p1 m) (fun r9 m14 => g_X10_thingLine_17 th p1 m14)) else (g_X10_thingLine_17 th p1 m))))
set_option maxHeartbeats 4000000 in
set_option maxRecDepth 100000 in
theorem s_X10_thingLine_0 {Γ : GX} {E : EX} (C : Cx Γ E cX10_thingLine RX10 7) (hr : Γ.meth.sig.returnType = (some .boolean)) (hrm : Γ.rm = rmX10_thingLine) (th : Nat) (p1 : Int32) (m : MM) : Sm (QM Γ E emI 0 0) Γ E 7 0 0 0 [(0, va_rf (some th)), (1, .int p1)] [] m (g_X10_thingLine_0 th p1 m) := by
  unfold g_X10_thingLine_0
  refine z_aload_n C dX10_thingLine_0 rfl 0 rfl ?_
  refine z_chk (fun hk24 => ?_)
  refine z_getR C fl_RX10_125 rfl hk24 dX10_thingLine_1 ?_
  refine z_iconst (v := 2) C dX10_thingLine_4 (by decide) ?_
  refine z_ck (fun a11 hr11 hk25 => ?_)
  refine z_chk (fun hj15 => ?_)
  refine z_iald C hr11 hk25 hj15 dX10_thingLine_5 ?_
  refine z_bipush (v := 12) C dX10_thingLine_6 (by decide) ?_
  refine z_icmp_ne (tgt := 17) C dX10_thingLine_8 (by decide) (fun c14 => ?_) (fun c14 => ?_)
  · exact z_sub [0, 1] rfl (s_X10_thingLine_17 C hr hrm th p1 m)
  · refine z_aload_n C dX10_thingLine_11 rfl 0 rfl ?_
    refine z_iconst (v := 3) C dX10_thingLine_12 (by decide) ?_
    refine z_iload_n C dX10_thingLine_13 rfl 1 rfl ?_
    refine z_cVV [.int 3, .int p1] [] C mv_RX10_243 (fun r0 m0 h0 => M_X10_later _ _ _ _ _ _ _ _ h0) rfl rfl ⟨by rw [hrm]; exact Nat.le_of_ble_eq_true rfl, by rw [hrm]; exact Nat.le_of_ble_eq_true rfl⟩ ⟨by rw [hrm]; exact Nat.le_of_ble_eq_true rfl, by rw [hrm]; exact Nat.le_of_ble_eq_true rfl⟩ rfl hk24 rfl rfl rfl (Nat.le_of_ble_eq_true rfl) dX10_thingLine_14 (fun r9 m14 => ?_)
    exact z_sub [0, 1] rfl (s_X10_thingLine_17 C hr hrm th p1 m14)
def f_X10_thingLine (th : Nat) (p1 : Int32) (m : MM) : Option (Int32 × MM) := g_X10_thingLine_0 th p1 m
theorem M_X10_thingLine (l : Launch) (E : EX) (th : Nat) (p1 : Int32) (m : MM) (r : Int32) (m2 : MM) (h : f_X10_thingLine th p1 m = some (r, m2)) : Met l yX10_thingLine (.code yX10_thingLine cX10_thingLine 7 (some .boolean) :: TB) rmX10_thingLine (va_Pc [.ref th, .int p1] (St E m)) (QR E (emI r) m2) 0 0 (AA E) :=
  met_of (em := emI) (plainFor_of_name rfl) (Nat.le_of_ble_eq_true rfl) (L0 := [(0, va_rf (some th)), (1, .int p1)]) rfl (fun Γ _ hrm C hr hn => s_X10_thingLine_0 C hr hrm th p1 m) h

theorem dX10_wallLine_0 : decode cX10_wallLine 0 = .ok (.iload_n 2, 1) := by decide +kernel
theorem dX10_wallLine_1 : decode cX10_wallLine 1 = .ok (.ifCond .eq 7, 3) := by decide +kernel
theorem dX10_wallLine_4 : decode cX10_wallLine 4 = .ok (.iconst 4, 1) := by decide +kernel
theorem dX10_wallLine_5 : decode cX10_wallLine 5 = .ok (.goto 4, 3) := by decide +kernel
theorem dX10_wallLine_8 : decode cX10_wallLine 8 = .ok (.iconst 3, 1) := by decide +kernel
theorem dX10_wallLine_9 : decode cX10_wallLine 9 = .ok (.istore_n 3, 1) := by decide +kernel
theorem dX10_wallLine_10 : decode cX10_wallLine 10 = .ok (.iload_n 2, 1) := by decide +kernel
theorem dX10_wallLine_11 : decode cX10_wallLine 11 = .ok (.ifCond .eq 8, 3) := by decide +kernel
theorem dX10_wallLine_14 : decode cX10_wallLine 14 = .ok (.bipush 6, 2) := by decide +kernel
theorem dX10_wallLine_16 : decode cX10_wallLine 16 = .ok (.goto 5, 3) := by decide +kernel
theorem dX10_wallLine_19 : decode cX10_wallLine 19 = .ok (.bipush 8, 2) := by decide +kernel
theorem dX10_wallLine_21 : decode cX10_wallLine 21 = .ok (.istore 4, 2) := by decide +kernel
theorem dX10_wallLine_23 : decode cX10_wallLine 23 = .ok (.aload_n 0, 1) := by decide +kernel
theorem dX10_wallLine_24 : decode cX10_wallLine 24 = .ok (.getfield 125, 3) := by decide +kernel
theorem dX10_wallLine_27 : decode cX10_wallLine 27 = .ok (.iload_n 3, 1) := by decide +kernel
theorem dX10_wallLine_28 : decode cX10_wallLine 28 = .ok (.iaload, 1) := by decide +kernel
theorem dX10_wallLine_29 : decode cX10_wallLine 29 = .ok (.iload 4, 2) := by decide +kernel
theorem dX10_wallLine_31 : decode cX10_wallLine 31 = .ok (.if_icmp .ne 9, 3) := by decide +kernel
theorem dX10_wallLine_34 : decode cX10_wallLine 34 = .ok (.aload_n 0, 1) := by decide +kernel
theorem dX10_wallLine_35 : decode cX10_wallLine 35 = .ok (.iconst 3, 1) := by decide +kernel
theorem dX10_wallLine_36 : decode cX10_wallLine 36 = .ok (.iload_n 1, 1) := by decide +kernel
theorem dX10_wallLine_37 : decode cX10_wallLine 37 = .ok (.invokevirtual 243, 3) := by decide +kernel
theorem dX10_wallLine_40 : decode cX10_wallLine 40 = .ok (.aload_n 0, 1) := by decide +kernel
theorem dX10_wallLine_41 : decode cX10_wallLine 41 = .ok (.invokevirtual 258, 3) := by decide +kernel
theorem dX10_wallLine_44 : decode cX10_wallLine 44 = .ok (.ifCond .eq 19, 3) := by decide +kernel
theorem dX10_wallLine_47 : decode cX10_wallLine 47 = .ok (.aload_n 0, 1) := by decide +kernel
theorem dX10_wallLine_48 : decode cX10_wallLine 48 = .ok (.iconst 0, 1) := by decide +kernel
theorem dX10_wallLine_49 : decode cX10_wallLine 49 = .ok (.aload_n 0, 1) := by decide +kernel
theorem dX10_wallLine_50 : decode cX10_wallLine 50 = .ok (.getfield 125, 3) := by decide +kernel
theorem dX10_wallLine_53 : decode cX10_wallLine 53 = .ok (.iconst 0, 1) := by decide +kernel
theorem dX10_wallLine_54 : decode cX10_wallLine 54 = .ok (.iaload, 1) := by decide +kernel
theorem dX10_wallLine_55 : decode cX10_wallLine 55 = .ok (.iconst 1, 1) := by decide +kernel
theorem dX10_wallLine_56 : decode cX10_wallLine 56 = .ok (.isub, 1) := by decide +kernel
theorem dX10_wallLine_57 : decode cX10_wallLine 57 = .ok (.invokevirtual 254, 3) := by decide +kernel
theorem dX10_wallLine_60 : decode cX10_wallLine 60 = .ok (.ifCond .ne 5, 3) := by decide +kernel
theorem dX10_wallLine_63 : decode cX10_wallLine 63 = .ok (.iconst 0, 1) := by decide +kernel
theorem dX10_wallLine_64 : decode cX10_wallLine 64 = .ok (.ireturn, 1) := by decide +kernel
theorem dX10_wallLine_65 : decode cX10_wallLine 65 = .ok (.aload_n 0, 1) := by decide +kernel
theorem dX10_wallLine_66 : decode cX10_wallLine 66 = .ok (.getfield 214, 3) := by decide +kernel
theorem dX10_wallLine_69 : decode cX10_wallLine 69 = .ok (.istore 5, 2) := by decide +kernel
theorem dX10_wallLine_71 : decode cX10_wallLine 71 = .ok (.aload_n 0, 1) := by decide +kernel
theorem dX10_wallLine_72 : decode cX10_wallLine 72 = .ok (.iconst 0, 1) := by decide +kernel
theorem dX10_wallLine_73 : decode cX10_wallLine 73 = .ok (.aload_n 0, 1) := by decide +kernel
theorem dX10_wallLine_74 : decode cX10_wallLine 74 = .ok (.getfield 125, 3) := by decide +kernel
theorem dX10_wallLine_77 : decode cX10_wallLine 77 = .ok (.iconst 1, 1) := by decide +kernel
theorem dX10_wallLine_78 : decode cX10_wallLine 78 = .ok (.iaload, 1) := by decide +kernel
theorem dX10_wallLine_79 : decode cX10_wallLine 79 = .ok (.iconst 1, 1) := by decide +kernel
theorem dX10_wallLine_80 : decode cX10_wallLine 80 = .ok (.isub, 1) := by decide +kernel
theorem dX10_wallLine_81 : decode cX10_wallLine 81 = .ok (.invokevirtual 254, 3) := by decide +kernel
theorem dX10_wallLine_84 : decode cX10_wallLine 84 = .ok (.ifCond .ne 5, 3) := by decide +kernel
theorem dX10_wallLine_87 : decode cX10_wallLine 87 = .ok (.iconst 0, 1) := by decide +kernel
theorem dX10_wallLine_88 : decode cX10_wallLine 88 = .ok (.ireturn, 1) := by decide +kernel
theorem dX10_wallLine_89 : decode cX10_wallLine 89 = .ok (.aload_n 0, 1) := by decide +kernel
theorem dX10_wallLine_90 : decode cX10_wallLine 90 = .ok (.getfield 247, 3) := by decide +kernel
theorem dX10_wallLine_93 : decode cX10_wallLine 93 = .ok (.ifCond .eq 40, 3) := by decide +kernel
theorem dX10_wallLine_96 : decode cX10_wallLine 96 = .ok (.aload_n 0, 1) := by decide +kernel
theorem dX10_wallLine_97 : decode cX10_wallLine 97 = .ok (.getfield 122, 3) := by decide +kernel
theorem dX10_wallLine_100 : decode cX10_wallLine 100 = .ok (.iconst 0, 1) := by decide +kernel
theorem dX10_wallLine_101 : decode cX10_wallLine 101 = .ok (.iaload, 1) := by decide +kernel
theorem dX10_wallLine_102 : decode cX10_wallLine 102 = .ok (.aload_n 0, 1) := by decide +kernel
theorem dX10_wallLine_103 : decode cX10_wallLine 103 = .ok (.getfield 122, 3) := by decide +kernel
theorem dX10_wallLine_106 : decode cX10_wallLine 106 = .ok (.iconst 2, 1) := by decide +kernel
theorem dX10_wallLine_107 : decode cX10_wallLine 107 = .ok (.iaload, 1) := by decide +kernel
theorem dX10_wallLine_108 : decode cX10_wallLine 108 = .ok (.if_icmp .ne 25, 3) := by decide +kernel
theorem dX10_wallLine_111 : decode cX10_wallLine 111 = .ok (.aload_n 0, 1) := by decide +kernel
theorem dX10_wallLine_112 : decode cX10_wallLine 112 = .ok (.getfield 122, 3) := by decide +kernel
theorem dX10_wallLine_115 : decode cX10_wallLine 115 = .ok (.iconst 1, 1) := by decide +kernel
theorem dX10_wallLine_116 : decode cX10_wallLine 116 = .ok (.iaload, 1) := by decide +kernel
theorem dX10_wallLine_117 : decode cX10_wallLine 117 = .ok (.aload_n 0, 1) := by decide +kernel
theorem dX10_wallLine_118 : decode cX10_wallLine 118 = .ok (.getfield 122, 3) := by decide +kernel
theorem dX10_wallLine_121 : decode cX10_wallLine 121 = .ok (.iconst 3, 1) := by decide +kernel
theorem dX10_wallLine_122 : decode cX10_wallLine 122 = .ok (.iaload, 1) := by decide +kernel
theorem dX10_wallLine_123 : decode cX10_wallLine 123 = .ok (.if_icmp .ne 10, 3) := by decide +kernel
theorem dX10_wallLine_126 : decode cX10_wallLine 126 = .ok (.aload_n 0, 1) := by decide +kernel
theorem dX10_wallLine_127 : decode cX10_wallLine 127 = .ok (.iconst 2, 1) := by decide +kernel
theorem dX10_wallLine_128 : decode cX10_wallLine 128 = .ok (.iload 5, 2) := by decide +kernel
theorem dX10_wallLine_130 : decode cX10_wallLine 130 = .ok (.invokevirtual 243, 3) := by decide +kernel
theorem dX10_wallLine_133 : decode cX10_wallLine 133 = .ok (.iload_n 2, 1) := by decide +kernel
theorem dX10_wallLine_134 : decode cX10_wallLine 134 = .ok (.ifCond .ne 16, 3) := by decide +kernel
theorem dX10_wallLine_137 : decode cX10_wallLine 137 = .ok (.aload_n 0, 1) := by decide +kernel
theorem dX10_wallLine_138 : decode cX10_wallLine 138 = .ok (.iconst 0, 1) := by decide +kernel
theorem dX10_wallLine_139 : decode cX10_wallLine 139 = .ok (.sipush 999, 3) := by decide +kernel
theorem dX10_wallLine_142 : decode cX10_wallLine 142 = .ok (.invokevirtual 254, 3) := by decide +kernel
theorem dX10_wallLine_145 : decode cX10_wallLine 145 = .ok (.ifCond .ne 5, 3) := by decide +kernel
theorem dX10_wallLine_148 : decode cX10_wallLine 148 = .ok (.iconst 0, 1) := by decide +kernel
theorem dX10_wallLine_149 : decode cX10_wallLine 149 = .ok (.ireturn, 1) := by decide +kernel
theorem dX10_wallLine_150 : decode cX10_wallLine 150 = .ok (.aload_n 0, 1) := by decide +kernel
theorem dX10_wallLine_151 : decode cX10_wallLine 151 = .ok (.getfield 125, 3) := by decide +kernel
theorem dX10_wallLine_154 : decode cX10_wallLine 154 = .ok (.iload_n 3, 1) := by decide +kernel
theorem dX10_wallLine_155 : decode cX10_wallLine 155 = .ok (.iaload, 1) := by decide +kernel
theorem dX10_wallLine_156 : decode cX10_wallLine 156 = .ok (.iload 4, 2) := by decide +kernel
theorem dX10_wallLine_158 : decode cX10_wallLine 158 = .ok (.if_icmp .ge 23, 3) := by decide +kernel
theorem dX10_wallLine_161 : decode cX10_wallLine 161 = .ok (.iload_n 2, 1) := by decide +kernel
theorem dX10_wallLine_162 : decode cX10_wallLine 162 = .ok (.ifCond .eq 8, 3) := by decide +kernel
theorem dX10_wallLine_165 : decode cX10_wallLine 165 = .ok (.bipush 8, 2) := by decide +kernel
theorem dX10_wallLine_167 : decode cX10_wallLine 167 = .ok (.goto 4, 3) := by decide +kernel
theorem dX10_wallLine_170 : decode cX10_wallLine 170 = .ok (.iconst 0, 1) := by decide +kernel
theorem dX10_wallLine_171 : decode cX10_wallLine 171 = .ok (.aload_n 0, 1) := by decide +kernel
theorem dX10_wallLine_172 : decode cX10_wallLine 172 = .ok (.getfield 125, 3) := by decide +kernel
theorem dX10_wallLine_175 : decode cX10_wallLine 175 = .ok (.iload_n 3, 1) := by decide +kernel
theorem dX10_wallLine_176 : decode cX10_wallLine 176 = .ok (.iaload, 1) := by decide +kernel
theorem dX10_wallLine_177 : decode cX10_wallLine 177 = .ok (.iadd, 1) := by decide +kernel
theorem dX10_wallLine_178 : decode cX10_wallLine 178 = .ok (.goto 5, 3) := by decide +kernel
theorem dX10_wallLine_181 : decode cX10_wallLine 181 = .ok (.bipush 14, 2) := by decide +kernel
theorem dX10_wallLine_183 : decode cX10_wallLine 183 = .ok (.istore 6, 2) := by decide +kernel
theorem dX10_wallLine_185 : decode cX10_wallLine 185 = .ok (.iconst 0, 1) := by decide +kernel
theorem dX10_wallLine_186 : decode cX10_wallLine 186 = .ok (.istore 7, 2) := by decide +kernel
theorem dX10_wallLine_188 : decode cX10_wallLine 188 = .ok (.iload 7, 2) := by decide +kernel
theorem dX10_wallLine_190 : decode cX10_wallLine 190 = .ok (.iconst 4, 1) := by decide +kernel
theorem dX10_wallLine_191 : decode cX10_wallLine 191 = .ok (.if_icmp .ge 28, 3) := by decide +kernel
theorem dX10_wallLine_194 : decode cX10_wallLine 194 = .ok (.aload_n 0, 1) := by decide +kernel
theorem dX10_wallLine_195 : decode cX10_wallLine 195 = .ok (.getfield 131, 3) := by decide +kernel
theorem dX10_wallLine_198 : decode cX10_wallLine 198 = .ok (.iconst 5, 1) := by decide +kernel
theorem dX10_wallLine_199 : decode cX10_wallLine 199 = .ok (.iload 6, 2) := by decide +kernel
theorem dX10_wallLine_201 : decode cX10_wallLine 201 = .ok (.imul, 1) := by decide +kernel
theorem dX10_wallLine_202 : decode cX10_wallLine 202 = .ok (.iload 7, 2) := by decide +kernel
theorem dX10_wallLine_204 : decode cX10_wallLine 204 = .ok (.iadd, 1) := by decide +kernel
theorem dX10_wallLine_205 : decode cX10_wallLine 205 = .ok (.aload_n 0, 1) := by decide +kernel
theorem dX10_wallLine_206 : decode cX10_wallLine 206 = .ok (.getfield 122, 3) := by decide +kernel
theorem dX10_wallLine_209 : decode cX10_wallLine 209 = .ok (.iload 7, 2) := by decide +kernel
theorem dX10_wallLine_211 : decode cX10_wallLine 211 = .ok (.iaload, 1) := by decide +kernel
theorem dX10_wallLine_212 : decode cX10_wallLine 212 = .ok (.iastore, 1) := by decide +kernel
theorem dX10_wallLine_213 : decode cX10_wallLine 213 = .ok (.iinc 7 1, 3) := by decide +kernel
theorem dX10_wallLine_216 : decode cX10_wallLine 216 = .ok (.goto (-28), 3) := by decide +kernel
theorem dX10_wallLine_219 : decode cX10_wallLine 219 = .ok (.aload_n 0, 1) := by decide +kernel
theorem dX10_wallLine_220 : decode cX10_wallLine 220 = .ok (.getfield 131, 3) := by decide +kernel
theorem dX10_wallLine_223 : decode cX10_wallLine 223 = .ok (.iconst 5, 1) := by decide +kernel
theorem dX10_wallLine_224 : decode cX10_wallLine 224 = .ok (.iload 6, 2) := by decide +kernel
theorem dX10_wallLine_226 : decode cX10_wallLine 226 = .ok (.imul, 1) := by decide +kernel
theorem dX10_wallLine_227 : decode cX10_wallLine 227 = .ok (.iconst 4, 1) := by decide +kernel
theorem dX10_wallLine_228 : decode cX10_wallLine 228 = .ok (.iadd, 1) := by decide +kernel
theorem dX10_wallLine_229 : decode cX10_wallLine 229 = .ok (.iload_n 2, 1) := by decide +kernel
theorem dX10_wallLine_230 : decode cX10_wallLine 230 = .ok (.ifCond .eq 7, 3) := by decide +kernel
theorem dX10_wallLine_233 : decode cX10_wallLine 233 = .ok (.iconst 0, 1) := by decide +kernel
theorem dX10_wallLine_234 : decode cX10_wallLine 234 = .ok (.goto 9, 3) := by decide +kernel
theorem dX10_wallLine_237 : decode cX10_wallLine 237 = .ok (.aload_n 0, 1) := by decide +kernel
theorem dX10_wallLine_238 : decode cX10_wallLine 238 = .ok (.getfield 122, 3) := by decide +kernel
theorem dX10_wallLine_241 : decode cX10_wallLine 241 = .ok (.iconst 4, 1) := by decide +kernel
theorem dX10_wallLine_242 : decode cX10_wallLine 242 = .ok (.iaload, 1) := by decide +kernel
theorem dX10_wallLine_243 : decode cX10_wallLine 243 = .ok (.iastore, 1) := by decide +kernel
theorem dX10_wallLine_244 : decode cX10_wallLine 244 = .ok (.aload_n 0, 1) := by decide +kernel
theorem dX10_wallLine_245 : decode cX10_wallLine 245 = .ok (.getfield 125, 3) := by decide +kernel
theorem dX10_wallLine_248 : decode cX10_wallLine 248 = .ok (.iload_n 3, 1) := by decide +kernel
theorem dX10_wallLine_249 : decode cX10_wallLine 249 = .ok (.dup2, 1) := by decide +kernel
theorem dX10_wallLine_250 : decode cX10_wallLine 250 = .ok (.iaload, 1) := by decide +kernel
theorem dX10_wallLine_251 : decode cX10_wallLine 251 = .ok (.aload_n 0, 1) := by decide +kernel
theorem dX10_wallLine_252 : decode cX10_wallLine 252 = .ok (.getfield 125, 3) := by decide +kernel
theorem dX10_wallLine_255 : decode cX10_wallLine 255 = .ok (.iload_n 3, 1) := by decide +kernel
theorem dX10_wallLine_256 : decode cX10_wallLine 256 = .ok (.iaload, 1) := by decide +kernel
theorem dX10_wallLine_257 : decode cX10_wallLine 257 = .ok (.iload 4, 2) := by decide +kernel
theorem dX10_wallLine_259 : decode cX10_wallLine 259 = .ok (.if_icmp .ge 7, 3) := by decide +kernel
theorem dX10_wallLine_262 : decode cX10_wallLine 262 = .ok (.iconst 1, 1) := by decide +kernel
theorem dX10_wallLine_263 : decode cX10_wallLine 263 = .ok (.goto 4, 3) := by decide +kernel
theorem dX10_wallLine_266 : decode cX10_wallLine 266 = .ok (.iconst 0, 1) := by decide +kernel
theorem dX10_wallLine_267 : decode cX10_wallLine 267 = .ok (.iadd, 1) := by decide +kernel
theorem dX10_wallLine_268 : decode cX10_wallLine 268 = .ok (.iastore, 1) := by decide +kernel
theorem dX10_wallLine_269 : decode cX10_wallLine 269 = .ok (.iconst 1, 1) := by decide +kernel
theorem dX10_wallLine_270 : decode cX10_wallLine 270 = .ok (.ireturn, 1) := by decide +kernel
def rmX10_wallLine : Room := { frames := 4, cells := 0, slots := 0, locals := 86 }
set_option maxRecDepth 100000 in
def g_X10_wallLine_188 (th : Nat) (p1 : Int32) (p2 : Int32) (k188 : Int32 → Int32 → Int32 → Int32 → MM → Option (Int32 × MM)) (k219 : Int32 → Int32 → Int32 → MM → Option (Int32 × MM)) (x3 : Int32) (x4 : Int32) (x6 : Int32) (x7 : Int32) (m : MM) : Option (Int32 × MM) :=
  if 4 ≤ x7 then (k219 x3 x4 x6 m) else (chk (m.K th = 11) (ck m (m.R 1147 th 0) 22 (fun a1 => chk (inb x7 (m.N a1) = true) (ck m (m.R 1152 th 0) 22 (fun a2 => chk (inb ((5 * x6) + x7) (m.N a2) = true) (bnd (m.sI 22 a2 (Int32.toNatClampNeg ((5 * x6) + x7)) (m.I 22 a1 (Int32.toNatClampNeg x7))) (fun m1 => k188 x3 x4 x6 (x7 + 1) m1)))))))
set_option maxHeartbeats 4000000 in
set_option maxRecDepth 100000 in
theorem s_X10_wallLine_188 {Γ : GX} {E : EX} (C : Cx Γ E cX10_wallLine RX10 8) (hr : Γ.meth.sig.returnType = (some .boolean)) (hrm : Γ.rm = rmX10_wallLine) (th : Nat) (p1 : Int32) (p2 : Int32) (k188 : Int32 → Int32 → Int32 → Int32 → MM → Option (Int32 × MM)) (k219 : Int32 → Int32 → Int32 → MM → Option (Int32 × MM)) (h188 : ∀ (x3 : Int32) (x4 : Int32) (x6 : Int32) (x7 : Int32) (m : MM), Sm (QM Γ E emI 0 0) Γ E 8 0 0 188 [(0, va_rf (some th)), (1, .int p1), (2, .int p2), (3, .int x3), (4, .int x4), (6, .int x6), (7, .int x7)] [] m (k188 x3 x4 x6 x7 m)) (h219 : ∀ (x3 : Int32) (x4 : Int32) (x6 : Int32) (m : MM), Sm (QM Γ E emI 0 0) Γ E 8 0 0 219 [(0, va_rf (some th)), (1, .int p1), (2, .int p2), (3, .int x3), (4, .int x4), (6, .int x6)] [] m (k219 x3 x4 x6 m)) (x3 : Int32) (x4 : Int32) (x6 : Int32) (x7 : Int32) (m : MM) : Sm (QM Γ E emI 0 0) Γ E 8 0 0 188 [(0, va_rf (some th)), (1, .int p1), (2, .int p2), (3, .int x3), (4, .int x4), (6, .int x6), (7, .int x7)] [] m (g_X10_wallLine_188 th p1 p2 k188 k219 x3 x4 x6 x7 m) := by
  unfold g_X10_wallLine_188
  refine z_iload C dX10_wallLine_188 6 rfl ?_
  refine z_iconst (v := 4) C dX10_wallLine_190 (by decide) ?_
  refine z_icmp_ge (tgt := 219) C dX10_wallLine_191 (by decide) (fun c1 => ?_) (fun c1 => ?_)
  · exact z_sub [0, 1, 2, 3, 4, 5] rfl (h219 x3 x4 x6 m)
  · refine z_aload_n C dX10_wallLine_194 rfl 0 rfl ?_
    refine z_chk (fun hk1 => ?_)
    refine z_getR C fl_RX10_131 rfl hk1 dX10_wallLine_195 ?_
    refine z_iconst (v := 5) C dX10_wallLine_198 (by decide) ?_
    refine z_iload C dX10_wallLine_199 5 rfl ?_
    refine z_imul C dX10_wallLine_201 ?_
    refine z_iload C dX10_wallLine_202 6 rfl ?_
    refine z_iadd C dX10_wallLine_204 ?_
    refine z_aload_n C dX10_wallLine_205 rfl 0 rfl ?_
    refine z_getR C fl_RX10_122 rfl hk1 dX10_wallLine_206 ?_
    refine z_iload C dX10_wallLine_209 6 rfl ?_
    refine z_ck (fun a1 hr1 hk2 => ?_)
    refine z_chk (fun hj1 => ?_)
    refine z_iald C hr1 hk2 hj1 dX10_wallLine_211 ?_
    refine z_ck (fun a2 hr2 hk3 => ?_)
    refine z_chk (fun hj2 => ?_)
    refine z_iast C hr2 hk3 hj2 dX10_wallLine_212 (fun m1 eK1 eN1 => ?_)
    refine z_iinc (v := 1) (L2 := [(7, .int (x7 + 1)), (0, va_rf (some th)), (1, .int p1), (2, .int p2), (3, .int x3), (4, .int x4), (6, .int x6)]) C dX10_wallLine_213 6 rfl (by decide) (by decide) rfl ?_
    refine z_goto (tgt := 188) C dX10_wallLine_216 (by decide) ?_
    exact z_sub [1, 2, 3, 4, 5, 6, 0] rfl (h188 x3 x4 x6 (x7 + 1) m1)
def l_X10_wallLine_188 (th : Nat) (p1 : Int32) (p2 : Int32) (k219 : Int32 → Int32 → Int32 → MM → Option (Int32 × MM)) : Nat → Int32 → Int32 → Int32 → Int32 → MM → Option (Int32 × MM) := lp (fun _ _ _ _ _ => none) (fun k188 => g_X10_wallLine_188 th p1 p2 k188 k219)
theorem t_X10_wallLine_188 {Γ : GX} {E : EX} (C : Cx Γ E cX10_wallLine RX10 8) (hr : Γ.meth.sig.returnType = (some .boolean)) (hrm : Γ.rm = rmX10_wallLine) (th : Nat) (p1 : Int32) (p2 : Int32) (k219 : Int32 → Int32 → Int32 → MM → Option (Int32 × MM)) (h219 : ∀ (x3 : Int32) (x4 : Int32) (x6 : Int32) (m : MM), Sm (QM Γ E emI 0 0) Γ E 8 0 0 219 [(0, va_rf (some th)), (1, .int p1), (2, .int p2), (3, .int x3), (4, .int x4), (6, .int x6)] [] m (k219 x3 x4 x6 m)) : ∀ (n : Nat) (x3 : Int32) (x4 : Int32) (x6 : Int32) (x7 : Int32) (m : MM), Sm (QM Γ E emI 0 0) Γ E 8 0 0 188 [(0, va_rf (some th)), (1, .int p1), (2, .int p2), (3, .int x3), (4, .int x4), (6, .int x6), (7, .int x7)] [] m (l_X10_wallLine_188 th p1 p2 k219 n x3 x4 x6 x7 m) := by
  intro n
  induction n with
  | zero => intros; exact z_none
  | succ n ih => intro x3 x4 x6 x7 m; exact s_X10_wallLine_188 C hr hrm th p1 p2 (l_X10_wallLine_188 th p1 p2 k219 n) k219 ih h219 x3 x4 x6 x7 m
set_option maxRecDepth 100000 in
def g_X10_wallLine_243 (th : Nat) (p1 : Int32) (p2 : Int32) (x3 : Int32) (x4 : Int32) (s0 : Option Nat) (s1 : Int32) (s2 : Int32) (m : MM) : Option (Int32 × MM) :=
  ck m s0 22 (fun a3 => chk (inb s1 (m.N a3) = true) (bnd (m.sI 22 a3 (Int32.toNatClampNeg s1) s2) (fun m2 => chk (m2.K th = 11) (ck m2 (m2.R 1150 th 0) 22 (fun a4 => chk (inb x3 (m2.N a4) = true) (chk (inb x3 (m2.N a4) = true) (if x4 ≤ (m2.I 22 a4 (Int32.toNatClampNeg x3)) then (chk (inb x3 (m2.N a4) = true) (bnd (m2.sI 22 a4 (Int32.toNatClampNeg x3) ((m2.I 22 a4 (Int32.toNatClampNeg x3)) + 0)) (fun m3 => some (1, m3)))) else (chk (inb x3 (m2.N a4) = true) (bnd (m2.sI 22 a4 (Int32.toNatClampNeg x3) ((m2.I 22 a4 (Int32.toNatClampNeg x3)) + 1)) (fun m4 => some (1, m4)))))))))))
set_option maxHeartbeats 4000000 in
set_option maxRecDepth 100000 in
theorem s_X10_wallLine_243 {Γ : GX} {E : EX} (C : Cx Γ E cX10_wallLine RX10 8) (hr : Γ.meth.sig.returnType = (some .boolean)) (hrm : Γ.rm = rmX10_wallLine) (th : Nat) (p1 : Int32) (p2 : Int32) (x3 : Int32) (x4 : Int32) (s0 : Option Nat) (s1 : Int32) (s2 : Int32) (m : MM) : Sm (QM Γ E emI 0 0) Γ E 8 0 0 243 [(0, va_rf (some th)), (1, .int p1), (2, .int p2), (3, .int x3), (4, .int x4)] [.int s2, .int s1, va_rf s0] m (g_X10_wallLine_243 th p1 p2 x3 x4 s0 s1 s2 m) := by
  unfold g_X10_wallLine_243
  refine z_ck (fun a3 hr3 hk4 => ?_)
  refine z_chk (fun hj3 => ?_)
  refine z_iast C hr3 hk4 hj3 dX10_wallLine_243 (fun m2 eK2 eN2 => ?_)
  refine z_aload_n C dX10_wallLine_244 rfl 0 rfl ?_
  refine z_chk (fun hk5 => ?_)
  refine z_getR C fl_RX10_125 rfl hk5 dX10_wallLine_245 ?_
  refine z_iload_n C dX10_wallLine_248 rfl 3 rfl ?_
  refine z_dup2 C rfl (cat_rf _) dX10_wallLine_249 ?_
  refine z_ck (fun a4 hr4 hk6 => ?_)
  refine z_chk (fun hj4 => ?_)
  refine z_iald C hr4 hk6 hj4 dX10_wallLine_250 ?_
  refine z_aload_n C dX10_wallLine_251 rfl 0 rfl ?_
  refine z_getR C fl_RX10_125 rfl hk5 dX10_wallLine_252 ?_
  refine z_iload_n C dX10_wallLine_255 rfl 3 rfl ?_
  refine z_chk (fun hj5 => ?_)
  refine z_iald C hr4 hk6 hj5 dX10_wallLine_256 ?_
  refine z_iload C dX10_wallLine_257 4 rfl ?_
  refine z_icmp_ge (tgt := 266) C dX10_wallLine_259 (by decide) (fun c2 => ?_) (fun c2 => ?_)
  · refine z_iconst (v := 0) C dX10_wallLine_266 (by decide) ?_
    refine z_iadd C dX10_wallLine_267 ?_
    refine z_chk (fun hj6 => ?_)
    refine z_iast C hr4 hk6 hj6 dX10_wallLine_268 (fun m3 eK3 eN3 => ?_)
    refine z_iconst (v := 1) C dX10_wallLine_269 (by decide) ?_
    exact z_zret C hr rfl dX10_wallLine_270
  · refine z_iconst (v := 1) C dX10_wallLine_262 (by decide) ?_
    refine z_goto (tgt := 267) C dX10_wallLine_263 (by decide) ?_
    refine z_iadd C dX10_wallLine_267 ?_
    refine z_chk (fun hj7 => ?_)
    refine z_iast C hr4 hk6 hj7 dX10_wallLine_268 (fun m4 eK4 eN4 => ?_)
    refine z_iconst (v := 1) C dX10_wallLine_269 (by decide) ?_
    exact z_zret C hr rfl dX10_wallLine_270
set_option maxRecDepth 100000 in
def g_X10_wallLine_219 (th : Nat) (p1 : Int32) (p2 : Int32) (x3 : Int32) (x4 : Int32) (x6 : Int32) (m : MM) : Option (Int32 × MM) :=
  chk (m.K th = 11) (if p2 = 0 then (ck m (m.R 1147 th 0) 22 (fun a5 => chk (inb 4 (m.N a5) = true) (g_X10_wallLine_243 th p1 p2 x3 x4 (m.R 1152 th 0) ((5 * x6) + 4) (m.I 22 a5 (Int32.toNatClampNeg 4)) m))) else (g_X10_wallLine_243 th p1 p2 x3 x4 (m.R 1152 th 0) ((5 * x6) + 4) 0 m))
set_option maxHeartbeats 4000000 in
set_option maxRecDepth 100000 in
theorem s_X10_wallLine_219 {Γ : GX} {E : EX} (C : Cx Γ E cX10_wallLine RX10 8) (hr : Γ.meth.sig.returnType = (some .boolean)) (hrm : Γ.rm = rmX10_wallLine) (th : Nat) (p1 : Int32) (p2 : Int32) (x3 : Int32) (x4 : Int32) (x6 : Int32) (m : MM) : Sm (QM Γ E emI 0 0) Γ E 8 0 0 219 [(0, va_rf (some th)), (1, .int p1), (2, .int p2), (3, .int x3), (4, .int x4), (6, .int x6)] [] m (g_X10_wallLine_219 th p1 p2 x3 x4 x6 m) := by
  unfold g_X10_wallLine_219
  refine z_aload_n C dX10_wallLine_219 rfl 0 rfl ?_
  refine z_chk (fun hk7 => ?_)
  refine z_getR C fl_RX10_131 rfl hk7 dX10_wallLine_220 ?_
  refine z_iconst (v := 5) C dX10_wallLine_223 (by decide) ?_
  refine z_iload C dX10_wallLine_224 5 rfl ?_
  refine z_imul C dX10_wallLine_226 ?_
  refine z_iconst (v := 4) C dX10_wallLine_227 (by decide) ?_
  refine z_iadd C dX10_wallLine_228 ?_
  refine z_iload_n C dX10_wallLine_229 rfl 2 rfl ?_
  refine z_if_eq (tgt := 237) C dX10_wallLine_230 (by decide) (fun c3 => ?_) (fun c3 => ?_)
  · refine z_aload_n C dX10_wallLine_237 rfl 0 rfl ?_
    refine z_getR C fl_RX10_122 rfl hk7 dX10_wallLine_238 ?_
    refine z_iconst (v := 4) C dX10_wallLine_241 (by decide) ?_
    refine z_ck (fun a5 hr5 hk8 => ?_)
    refine z_chk (fun hj8 => ?_)
    refine z_iald C hr5 hk8 hj8 dX10_wallLine_242 ?_
    exact z_sub [0, 1, 2, 3, 4] rfl (s_X10_wallLine_243 C hr hrm th p1 p2 x3 x4 (m.R 1152 th 0) ((5 * x6) + 4) (m.I 22 a5 (Int32.toNatClampNeg 4)) m)
  · refine z_iconst (v := 0) C dX10_wallLine_233 (by decide) ?_
    refine z_goto (tgt := 243) C dX10_wallLine_234 (by decide) ?_
    exact z_sub [0, 1, 2, 3, 4] rfl (s_X10_wallLine_243 C hr hrm th p1 p2 x3 x4 (m.R 1152 th 0) ((5 * x6) + 4) 0 m)
set_option maxRecDepth 100000 in
def g_X10_wallLine_183 (th : Nat) (p1 : Int32) (p2 : Int32) (x3 : Int32) (x4 : Int32) (s0 : Int32) (m : MM) : Option (Int32 × MM) :=
  l_X10_wallLine_188 th p1 p2 (g_X10_wallLine_219 th p1 p2) FU x3 x4 s0 0 m
set_option maxHeartbeats 4000000 in
set_option maxRecDepth 100000 in
theorem s_X10_wallLine_183 {Γ : GX} {E : EX} (C : Cx Γ E cX10_wallLine RX10 8) (hr : Γ.meth.sig.returnType = (some .boolean)) (hrm : Γ.rm = rmX10_wallLine) (th : Nat) (p1 : Int32) (p2 : Int32) (x3 : Int32) (x4 : Int32) (s0 : Int32) (m : MM) : Sm (QM Γ E emI 0 0) Γ E 8 0 0 183 [(0, va_rf (some th)), (1, .int p1), (2, .int p2), (3, .int x3), (4, .int x4)] [.int s0] m (g_X10_wallLine_183 th p1 p2 x3 x4 s0 m) := by
  unfold g_X10_wallLine_183
  refine z_istore (i := 6) (L2 := [(6, .int s0), (0, va_rf (some th)), (1, .int p1), (2, .int p2), (3, .int x3), (4, .int x4)]) C dX10_wallLine_183 (by decide) rfl ?_
  refine z_iconst (v := 0) C dX10_wallLine_185 (by decide) ?_
  refine z_istore (i := 7) (L2 := [(7, .int 0), (6, .int s0), (0, va_rf (some th)), (1, .int p1), (2, .int p2), (3, .int x3), (4, .int x4)]) C dX10_wallLine_186 (by decide) rfl ?_
  exact z_sub [2, 3, 4, 5, 6, 1, 0] rfl (t_X10_wallLine_188 C hr hrm th p1 p2 (g_X10_wallLine_219 th p1 p2) (s_X10_wallLine_219 C hr hrm th p1 p2) FU x3 x4 s0 0 m)
set_option maxRecDepth 100000 in
def g_X10_wallLine_171 (th : Nat) (p1 : Int32) (p2 : Int32) (x3 : Int32) (x4 : Int32) (s0 : Int32) (m : MM) : Option (Int32 × MM) :=
  chk (m.K th = 11) (ck m (m.R 1150 th 0) 22 (fun a6 => chk (inb x3 (m.N a6) = true) (g_X10_wallLine_183 th p1 p2 x3 x4 (s0 + (m.I 22 a6 (Int32.toNatClampNeg x3))) m)))
set_option maxHeartbeats 4000000 in
set_option maxRecDepth 100000 in
theorem s_X10_wallLine_171 {Γ : GX} {E : EX} (C : Cx Γ E cX10_wallLine RX10 8) (hr : Γ.meth.sig.returnType = (some .boolean)) (hrm : Γ.rm = rmX10_wallLine) (th : Nat) (p1 : Int32) (p2 : Int32) (x3 : Int32) (x4 : Int32) (s0 : Int32) (m : MM) : Sm (QM Γ E emI 0 0) Γ E 8 0 0 171 [(0, va_rf (some th)), (1, .int p1), (2, .int p2), (3, .int x3), (4, .int x4)] [.int s0] m (g_X10_wallLine_171 th p1 p2 x3 x4 s0 m) := by
  unfold g_X10_wallLine_171
  refine z_aload_n C dX10_wallLine_171 rfl 0 rfl ?_
  refine z_chk (fun hk9 => ?_)
  refine z_getR C fl_RX10_125 rfl hk9 dX10_wallLine_172 ?_
  refine z_iload_n C dX10_wallLine_175 rfl 3 rfl ?_
  refine z_ck (fun a6 hr6 hk10 => ?_)
  refine z_chk (fun hj9 => ?_)
  refine z_iald C hr6 hk10 hj9 dX10_wallLine_176 ?_
  refine z_iadd C dX10_wallLine_177 ?_
  refine z_goto (tgt := 183) C dX10_wallLine_178 (by decide) ?_
  exact z_sub [0, 1, 2, 3, 4] rfl (s_X10_wallLine_183 C hr hrm th p1 p2 x3 x4 (s0 + (m.I 22 a6 (Int32.toNatClampNeg x3))) m)
set_option maxRecDepth 100000 in
def g_X10_wallLine_150 (th : Nat) (p1 : Int32) (p2 : Int32) (x3 : Int32) (x4 : Int32) (m : MM) : Option (Int32 × MM) :=
  chk (m.K th = 11) (ck m (m.R 1150 th 0) 22 (fun a7 => chk (inb x3 (m.N a7) = true) (if x4 ≤ (m.I 22 a7 (Int32.toNatClampNeg x3)) then (g_X10_wallLine_183 th p1 p2 x3 x4 14 m) else (if p2 = 0 then (g_X10_wallLine_171 th p1 p2 x3 x4 0 m) else (g_X10_wallLine_171 th p1 p2 x3 x4 8 m)))))
set_option maxHeartbeats 4000000 in
set_option maxRecDepth 100000 in
theorem s_X10_wallLine_150 {Γ : GX} {E : EX} (C : Cx Γ E cX10_wallLine RX10 8) (hr : Γ.meth.sig.returnType = (some .boolean)) (hrm : Γ.rm = rmX10_wallLine) (th : Nat) (p1 : Int32) (p2 : Int32) (x3 : Int32) (x4 : Int32) (m : MM) : Sm (QM Γ E emI 0 0) Γ E 8 0 0 150 [(0, va_rf (some th)), (1, .int p1), (2, .int p2), (3, .int x3), (4, .int x4)] [] m (g_X10_wallLine_150 th p1 p2 x3 x4 m) := by
  unfold g_X10_wallLine_150
  refine z_aload_n C dX10_wallLine_150 rfl 0 rfl ?_
  refine z_chk (fun hk11 => ?_)
  refine z_getR C fl_RX10_125 rfl hk11 dX10_wallLine_151 ?_
  refine z_iload_n C dX10_wallLine_154 rfl 3 rfl ?_
  refine z_ck (fun a7 hr7 hk12 => ?_)
  refine z_chk (fun hj10 => ?_)
  refine z_iald C hr7 hk12 hj10 dX10_wallLine_155 ?_
  refine z_iload C dX10_wallLine_156 4 rfl ?_
  refine z_icmp_ge (tgt := 181) C dX10_wallLine_158 (by decide) (fun c4 => ?_) (fun c4 => ?_)
  · refine z_bipush (v := 14) C dX10_wallLine_181 (by decide) ?_
    exact z_sub [0, 1, 2, 3, 4] rfl (s_X10_wallLine_183 C hr hrm th p1 p2 x3 x4 14 m)
  · refine z_iload_n C dX10_wallLine_161 rfl 2 rfl ?_
    refine z_if_eq (tgt := 170) C dX10_wallLine_162 (by decide) (fun c5 => ?_) (fun c5 => ?_)
    · refine z_iconst (v := 0) C dX10_wallLine_170 (by decide) ?_
      exact z_sub [0, 1, 2, 3, 4] rfl (s_X10_wallLine_171 C hr hrm th p1 p2 x3 x4 0 m)
    · refine z_bipush (v := 8) C dX10_wallLine_165 (by decide) ?_
      refine z_goto (tgt := 171) C dX10_wallLine_167 (by decide) ?_
      exact z_sub [0, 1, 2, 3, 4] rfl (s_X10_wallLine_171 C hr hrm th p1 p2 x3 x4 8 m)
set_option maxRecDepth 100000 in
def g_X10_wallLine_133 (th : Nat) (p1 : Int32) (p2 : Int32) (x3 : Int32) (x4 : Int32) (m : MM) : Option (Int32 × MM) :=
  if p2 = 0 then (chk (m.K th = 11) (cal (f_X10_number th 0 999 m) (fun r1 m5 => if r1 = 0 then (some (0, m5)) else (g_X10_wallLine_150 th p1 p2 x3 x4 m5)))) else (g_X10_wallLine_150 th p1 p2 x3 x4 m)
set_option maxHeartbeats 4000000 in
set_option maxRecDepth 100000 in
theorem s_X10_wallLine_133 {Γ : GX} {E : EX} (C : Cx Γ E cX10_wallLine RX10 8) (hr : Γ.meth.sig.returnType = (some .boolean)) (hrm : Γ.rm = rmX10_wallLine) (th : Nat) (p1 : Int32) (p2 : Int32) (x3 : Int32) (x4 : Int32) (m : MM) : Sm (QM Γ E emI 0 0) Γ E 8 0 0 133 [(0, va_rf (some th)), (1, .int p1), (2, .int p2), (3, .int x3), (4, .int x4)] [] m (g_X10_wallLine_133 th p1 p2 x3 x4 m) := by
  unfold g_X10_wallLine_133
  refine z_iload_n C dX10_wallLine_133 rfl 2 rfl ?_
  refine z_if_ne (tgt := 150) C dX10_wallLine_134 (by decide) (fun c6 => ?_) (fun c6 => ?_)
  · exact z_sub [0, 1, 2, 3, 4] rfl (s_X10_wallLine_150 C hr hrm th p1 p2 x3 x4 m)
  · refine z_aload_n C dX10_wallLine_137 rfl 0 rfl ?_
    refine z_iconst (v := 0) C dX10_wallLine_138 (by decide) ?_
    refine z_sipush (v := 999) C dX10_wallLine_139 (by decide) ?_
    refine z_chk (fun hk13 => ?_)
    refine z_cVI [.int 0, .int 999] [] C mv_RX10_254 (fun r0 m0 h0 => M_X10_number _ _ _ _ _ _ _ _ h0) rfl rfl ⟨by rw [hrm]; exact Nat.le_of_ble_eq_true rfl, by rw [hrm]; exact Nat.le_of_ble_eq_true rfl⟩ ⟨by rw [hrm]; exact Nat.le_of_ble_eq_true rfl, by rw [hrm]; exact Nat.le_of_ble_eq_true rfl⟩ rfl hk13 rfl rfl rfl (Nat.le_of_ble_eq_true rfl) dX10_wallLine_142 (fun r1 m5 => ?_)
    refine z_if_ne (tgt := 150) C dX10_wallLine_145 (by decide) (fun c7 => ?_) (fun c7 => ?_)
    · exact z_sub [0, 1, 2, 3, 4] rfl (s_X10_wallLine_150 C hr hrm th p1 p2 x3 x4 m5)
    · refine z_iconst (v := 0) C dX10_wallLine_148 (by decide) ?_
      exact z_zret C hr rfl dX10_wallLine_149
set_option maxRecDepth 100000 in
def g_X10_wallLine_40 (th : Nat) (p1 : Int32) (p2 : Int32) (x3 : Int32) (x4 : Int32) (m : MM) : Option (Int32 × MM) :=
  chk (m.K th = 11) (cal (f_X10_point th m) (fun r2 m6 => if r2 = 0 then (some (0, m6)) else (chk (m6.K th = 11) (ck m6 (m6.R 1150 th 0) 22 (fun a8 => chk (inb 0 (m6.N a8) = true) (cal (f_X10_number th 0 ((m6.I 22 a8 (Int32.toNatClampNeg 0)) - 1) m6) (fun r3 m7 => if r3 = 0 then (some (0, m7)) else (chk (m7.K th = 11) (bnd (m7.I 1140 th 0) (fun y1 => ck m7 (m7.R 1150 th 0) 22 (fun a9 => chk (inb 1 (m7.N a9) = true) (cal (f_X10_number th 0 ((m7.I 22 a9 (Int32.toNatClampNeg 1)) - 1) m7) (fun r4 m8 => if r4 = 0 then (some (0, m8)) else (chk (m8.K th = 11) (if (m8.I 1149 th 0) = 0 then (g_X10_wallLine_133 th p1 p2 x3 x4 m8) else (ck m8 (m8.R 1147 th 0) 22 (fun a10 => chk (inb 0 (m8.N a10) = true) (chk (inb 2 (m8.N a10) = true) (if (m8.I 22 a10 (Int32.toNatClampNeg 0)) = (m8.I 22 a10 (Int32.toNatClampNeg 2)) then (chk (inb 1 (m8.N a10) = true) (chk (inb 3 (m8.N a10) = true) (if (m8.I 22 a10 (Int32.toNatClampNeg 1)) = (m8.I 22 a10 (Int32.toNatClampNeg 3)) then (cal (f_X10_later th 2 y1 m8) (fun r5 m9 => g_X10_wallLine_133 th p1 p2 x3 x4 m9)) else (g_X10_wallLine_133 th p1 p2 x3 x4 m8)))) else (g_X10_wallLine_133 th p1 p2 x3 x4 m8))))))))))))))))))))
set_option maxHeartbeats 4000000 in
set_option maxRecDepth 100000 in
theorem s_X10_wallLine_40 {Γ : GX} {E : EX} (C : Cx Γ E cX10_wallLine RX10 8) (hr : Γ.meth.sig.returnType = (some .boolean)) (hrm : Γ.rm = rmX10_wallLine) (th : Nat) (p1 : Int32) (p2 : Int32) (x3 : Int32) (x4 : Int32) (m : MM) : Sm (QM Γ E emI 0 0) Γ E 8 0 0 40 [(0, va_rf (some th)), (1, .int p1), (2, .int p2), (3, .int x3), (4, .int x4)] [] m (g_X10_wallLine_40 th p1 p2 x3 x4 m) := by
  unfold g_X10_wallLine_40
  refine z_aload_n C dX10_wallLine_40 rfl 0 rfl ?_
  refine z_chk (fun hk14 => ?_)
  refine z_cVI [] [] C mv_RX10_258 (fun r0 m0 h0 => M_X10_point _ _ _ _ _ _ h0) rfl rfl ⟨by rw [hrm]; exact Nat.le_of_ble_eq_true rfl, by rw [hrm]; exact Nat.le_of_ble_eq_true rfl⟩ ⟨by rw [hrm]; exact Nat.le_of_ble_eq_true rfl, by rw [hrm]; exact Nat.le_of_ble_eq_true rfl⟩ rfl hk14 rfl rfl rfl (Nat.le_of_ble_eq_true rfl) dX10_wallLine_41 (fun r2 m6 => ?_)
  refine z_if_eq (tgt := 63) C dX10_wallLine_44 (by decide) (fun c8 => ?_) (fun c8 => ?_)
  · refine z_iconst (v := 0) C dX10_wallLine_63 (by decide) ?_
    exact z_zret C hr rfl dX10_wallLine_64
  · refine z_aload_n C dX10_wallLine_47 rfl 0 rfl ?_
    refine z_iconst (v := 0) C dX10_wallLine_48 (by decide) ?_
    refine z_aload_n C dX10_wallLine_49 rfl 0 rfl ?_
    refine z_chk (fun hk15 => ?_)
    refine z_getR C fl_RX10_125 rfl hk15 dX10_wallLine_50 ?_
    refine z_iconst (v := 0) C dX10_wallLine_53 (by decide) ?_
    refine z_ck (fun a8 hr8 hk16 => ?_)
    refine z_chk (fun hj11 => ?_)
    refine z_iald C hr8 hk16 hj11 dX10_wallLine_54 ?_
    refine z_iconst (v := 1) C dX10_wallLine_55 (by decide) ?_
    refine z_isub C dX10_wallLine_56 ?_
    refine z_cVI [.int 0, .int ((m6.I 22 a8 (Int32.toNatClampNeg 0)) - 1)] [] C mv_RX10_254 (fun r0 m0 h0 => M_X10_number _ _ _ _ _ _ _ _ h0) rfl rfl ⟨by rw [hrm]; exact Nat.le_of_ble_eq_true rfl, by rw [hrm]; exact Nat.le_of_ble_eq_true rfl⟩ ⟨by rw [hrm]; exact Nat.le_of_ble_eq_true rfl, by rw [hrm]; exact Nat.le_of_ble_eq_true rfl⟩ rfl hk15 rfl rfl rfl (Nat.le_of_ble_eq_true rfl) dX10_wallLine_57 (fun r3 m7 => ?_)
    refine z_if_ne (tgt := 65) C dX10_wallLine_60 (by decide) (fun c9 => ?_) (fun c9 => ?_)
    · refine z_aload_n C dX10_wallLine_65 rfl 0 rfl ?_
      refine z_chk (fun hk17 => ?_)
      refine z_getI C fl_RX10_214 rfl hk17 dX10_wallLine_66 ?_
      refine z_bndI (fun y1 => ?_)
      refine z_istore (i := 5) (L2 := [(5, .int y1), (0, va_rf (some th)), (1, .int p1), (2, .int p2), (3, .int x3), (4, .int x4)]) C dX10_wallLine_69 (by decide) rfl ?_
      refine z_aload_n C dX10_wallLine_71 rfl 1 rfl ?_
      refine z_iconst (v := 0) C dX10_wallLine_72 (by decide) ?_
      refine z_aload_n C dX10_wallLine_73 rfl 1 rfl ?_
      refine z_getR C fl_RX10_125 rfl hk17 dX10_wallLine_74 ?_
      refine z_iconst (v := 1) C dX10_wallLine_77 (by decide) ?_
      refine z_ck (fun a9 hr9 hk18 => ?_)
      refine z_chk (fun hj12 => ?_)
      refine z_iald C hr9 hk18 hj12 dX10_wallLine_78 ?_
      refine z_iconst (v := 1) C dX10_wallLine_79 (by decide) ?_
      refine z_isub C dX10_wallLine_80 ?_
      refine z_cVI [.int 0, .int ((m7.I 22 a9 (Int32.toNatClampNeg 1)) - 1)] [] C mv_RX10_254 (fun r0 m0 h0 => M_X10_number _ _ _ _ _ _ _ _ h0) rfl rfl ⟨by rw [hrm]; exact Nat.le_of_ble_eq_true rfl, by rw [hrm]; exact Nat.le_of_ble_eq_true rfl⟩ ⟨by rw [hrm]; exact Nat.le_of_ble_eq_true rfl, by rw [hrm]; exact Nat.le_of_ble_eq_true rfl⟩ rfl hk17 rfl rfl rfl (Nat.le_of_ble_eq_true rfl) dX10_wallLine_81 (fun r4 m8 => ?_)
      refine z_if_ne (tgt := 89) C dX10_wallLine_84 (by decide) (fun c10 => ?_) (fun c10 => ?_)
      · refine z_aload_n C dX10_wallLine_89 rfl 1 rfl ?_
        refine z_chk (fun hk19 => ?_)
        refine z_getI C fl_RX10_247 rfl hk19 dX10_wallLine_90 ?_
        refine z_if_eq (tgt := 133) C dX10_wallLine_93 (by decide) (fun c11 => ?_) (fun c11 => ?_)
        · exact z_sub [1, 2, 3, 4, 5] rfl (s_X10_wallLine_133 C hr hrm th p1 p2 x3 x4 m8)
        · refine z_aload_n C dX10_wallLine_96 rfl 1 rfl ?_
          refine z_getR C fl_RX10_122 rfl hk19 dX10_wallLine_97 ?_
          refine z_iconst (v := 0) C dX10_wallLine_100 (by decide) ?_
          refine z_ck (fun a10 hr10 hk20 => ?_)
          refine z_chk (fun hj13 => ?_)
          refine z_iald C hr10 hk20 hj13 dX10_wallLine_101 ?_
          refine z_aload_n C dX10_wallLine_102 rfl 1 rfl ?_
          refine z_getR C fl_RX10_122 rfl hk19 dX10_wallLine_103 ?_
          refine z_iconst (v := 2) C dX10_wallLine_106 (by decide) ?_
          refine z_chk (fun hj14 => ?_)
          refine z_iald C hr10 hk20 hj14 dX10_wallLine_107 ?_
          refine z_icmp_ne (tgt := 133) C dX10_wallLine_108 (by decide) (fun c12 => ?_) (fun c12 => ?_)
          · exact z_sub [1, 2, 3, 4, 5] rfl (s_X10_wallLine_133 C hr hrm th p1 p2 x3 x4 m8)
          · refine z_aload_n C dX10_wallLine_111 rfl 1 rfl ?_
            refine z_getR C fl_RX10_122 rfl hk19 dX10_wallLine_112 ?_
            refine z_iconst (v := 1) C dX10_wallLine_115 (by decide) ?_
            refine z_chk (fun hj15 => ?_)
            refine z_iald C hr10 hk20 hj15 dX10_wallLine_116 ?_
            refine z_aload_n C dX10_wallLine_117 rfl 1 rfl ?_
            refine z_getR C fl_RX10_122 rfl hk19 dX10_wallLine_118 ?_
            refine z_iconst (v := 3) C dX10_wallLine_121 (by decide) ?_
            refine z_chk (fun hj16 => ?_)
            refine z_iald C hr10 hk20 hj16 dX10_wallLine_122 ?_
            refine z_icmp_ne (tgt := 133) C dX10_wallLine_123 (by decide) (fun c13 => ?_) (fun c13 => ?_)
            · exact z_sub [1, 2, 3, 4, 5] rfl (s_X10_wallLine_133 C hr hrm th p1 p2 x3 x4 m8)
            · refine z_aload_n C dX10_wallLine_126 rfl 1 rfl ?_
              refine z_iconst (v := 2) C dX10_wallLine_127 (by decide) ?_
              refine z_iload C dX10_wallLine_128 0 rfl ?_
              refine z_cVV [.int 2, .int y1] [] C mv_RX10_243 (fun r0 m0 h0 => M_X10_later _ _ _ _ _ _ _ _ h0) rfl rfl ⟨by rw [hrm]; exact Nat.le_of_ble_eq_true rfl, by rw [hrm]; exact Nat.le_of_ble_eq_true rfl⟩ ⟨by rw [hrm]; exact Nat.le_of_ble_eq_true rfl, by rw [hrm]; exact Nat.le_of_ble_eq_true rfl⟩ rfl hk19 rfl rfl rfl (Nat.le_of_ble_eq_true rfl) dX10_wallLine_130 (fun r5 m9 => ?_)
              exact z_sub [1, 2, 3, 4, 5] rfl (s_X10_wallLine_133 C hr hrm th p1 p2 x3 x4 m9)
      · refine z_iconst (v := 0) C dX10_wallLine_87 (by decide) ?_
        exact z_zret C hr rfl dX10_wallLine_88
    · refine z_iconst (v := 0) C dX10_wallLine_63 (by decide) ?_
      exact z_zret C hr rfl dX10_wallLine_64
set_option maxRecDepth 100000 in
def g_X10_wallLine_21 (th : Nat) (p1 : Int32) (p2 : Int32) (x3 : Int32) (s0 : Int32) (m : MM) : Option (Int32 × MM) :=
  chk (m.K th = 11) (ck m (m.R 1150 th 0) 22 (fun a11 => chk (inb x3 (m.N a11) = true) (if (m.I 22 a11 (Int32.toNatClampNeg x3)) = s0 then (cal (f_X10_later th 3 p1 m) (fun r6 m10 => g_X10_wallLine_40 th p1 p2 x3 s0 m10)) else (g_X10_wallLine_40 th p1 p2 x3 s0 m))))
set_option maxHeartbeats 4000000 in
set_option maxRecDepth 100000 in
theorem s_X10_wallLine_21 {Γ : GX} {E : EX} (C : Cx Γ E cX10_wallLine RX10 8) (hr : Γ.meth.sig.returnType = (some .boolean)) (hrm : Γ.rm = rmX10_wallLine) (th : Nat) (p1 : Int32) (p2 : Int32) (x3 : Int32) (s0 : Int32) (m : MM) : Sm (QM Γ E emI 0 0) Γ E 8 0 0 21 [(0, va_rf (some th)), (1, .int p1), (2, .int p2), (3, .int x3)] [.int s0] m (g_X10_wallLine_21 th p1 p2 x3 s0 m) := by
  unfold g_X10_wallLine_21
  refine z_istore (i := 4) (L2 := [(4, .int s0), (0, va_rf (some th)), (1, .int p1), (2, .int p2), (3, .int x3)]) C dX10_wallLine_21 (by decide) rfl ?_
  refine z_aload_n C dX10_wallLine_23 rfl 1 rfl ?_
  refine z_chk (fun hk21 => ?_)
  refine z_getR C fl_RX10_125 rfl hk21 dX10_wallLine_24 ?_
  refine z_iload_n C dX10_wallLine_27 rfl 4 rfl ?_
  refine z_ck (fun a11 hr11 hk22 => ?_)
  refine z_chk (fun hj17 => ?_)
  refine z_iald C hr11 hk22 hj17 dX10_wallLine_28 ?_
  refine z_iload C dX10_wallLine_29 0 rfl ?_
  refine z_icmp_ne (tgt := 40) C dX10_wallLine_31 (by decide) (fun c14 => ?_) (fun c14 => ?_)
  · exact z_sub [1, 2, 3, 4, 0] rfl (s_X10_wallLine_40 C hr hrm th p1 p2 x3 s0 m)
  · refine z_aload_n C dX10_wallLine_34 rfl 1 rfl ?_
    refine z_iconst (v := 3) C dX10_wallLine_35 (by decide) ?_
    refine z_iload_n C dX10_wallLine_36 rfl 2 rfl ?_
    refine z_cVV [.int 3, .int p1] [] C mv_RX10_243 (fun r0 m0 h0 => M_X10_later _ _ _ _ _ _ _ _ h0) rfl rfl ⟨by rw [hrm]; exact Nat.le_of_ble_eq_true rfl, by rw [hrm]; exact Nat.le_of_ble_eq_true rfl⟩ ⟨by rw [hrm]; exact Nat.le_of_ble_eq_true rfl, by rw [hrm]; exact Nat.le_of_ble_eq_true rfl⟩ rfl hk21 rfl rfl rfl (Nat.le_of_ble_eq_true rfl) dX10_wallLine_37 (fun r6 m10 => ?_)
    exact z_sub [1, 2, 3, 4, 0] rfl (s_X10_wallLine_40 C hr hrm th p1 p2 x3 s0 m10)
set_option maxRecDepth 100000 in
def g_X10_wallLine_9 (th : Nat) (p1 : Int32) (p2 : Int32) (s0 : Int32) (m : MM) : Option (Int32 × MM) :=
  if p2 = 0 then (g_X10_wallLine_21 th p1 p2 s0 8 m) else (g_X10_wallLine_21 th p1 p2 s0 6 m)
set_option maxHeartbeats 4000000 in
set_option maxRecDepth 100000 in
theorem s_X10_wallLine_9 {Γ : GX} {E : EX} (C : Cx Γ E cX10_wallLine RX10 8) (hr : Γ.meth.sig.returnType = (some .boolean)) (hrm : Γ.rm = rmX10_wallLine) (th : Nat) (p1 : Int32) (p2 : Int32) (s0 : Int32) (m : MM) : Sm (QM Γ E emI 0 0) Γ E 8 0 0 9 [(0, va_rf (some th)), (1, .int p1), (2, .int p2)] [.int s0] m (g_X10_wallLine_9 th p1 p2 s0 m) := by
  unfold g_X10_wallLine_9
  refine z_istore_n (i := 3) (L2 := [(3, .int s0), (0, va_rf (some th)), (1, .int p1), (2, .int p2)]) C dX10_wallLine_9 rfl (by decide) rfl ?_
  refine z_iload_n C dX10_wallLine_10 rfl 3 rfl ?_
  refine z_if_eq (tgt := 19) C dX10_wallLine_11 (by decide) (fun c15 => ?_) (fun c15 => ?_)
  · refine z_bipush (v := 8) C dX10_wallLine_19 (by decide) ?_
    exact z_sub [1, 2, 3, 0] rfl (s_X10_wallLine_21 C hr hrm th p1 p2 s0 8 m)
  · refine z_bipush (v := 6) C dX10_wallLine_14 (by decide) ?_
    refine z_goto (tgt := 21) C dX10_wallLine_16 (by decide) ?_
    exact z_sub [1, 2, 3, 0] rfl (s_X10_wallLine_21 C hr hrm th p1 p2 s0 6 m)
set_option maxRecDepth 100000 in
def g_X10_wallLine_0 (th : Nat) (p1 : Int32) (p2 : Int32) (m : MM) : Option (Int32 × MM) :=
  if p2 = 0 then (g_X10_wallLine_9 th p1 p2 3 m) else (g_X10_wallLine_9 th p1 p2 4 m)
set_option maxHeartbeats 4000000 in
set_option maxRecDepth 100000 in
theorem s_X10_wallLine_0 {Γ : GX} {E : EX} (C : Cx Γ E cX10_wallLine RX10 8) (hr : Γ.meth.sig.returnType = (some .boolean)) (hrm : Γ.rm = rmX10_wallLine) (th : Nat) (p1 : Int32) (p2 : Int32) (m : MM) : Sm (QM Γ E emI 0 0) Γ E 8 0 0 0 [(0, va_rf (some th)), (1, .int p1), (2, .int p2)] [] m (g_X10_wallLine_0 th p1 p2 m) := by
  unfold g_X10_wallLine_0
  refine z_iload_n C dX10_wallLine_0 rfl 2 rfl ?_
  refine z_if_eq (tgt := 8) C dX10_wallLine_1 (by decide) (fun c16 => ?_) (fun c16 => ?_)
  · refine z_iconst (v := 3) C dX10_wallLine_8 (by decide) ?_
    exact z_sub [0, 1, 2] rfl (s_X10_wallLine_9 C hr hrm th p1 p2 3 m)
  · refine z_iconst (v := 4) C dX10_wallLine_4 (by decide) ?_
    refine z_goto (tgt := 9) C dX10_wallLine_5 (by decide) ?_
    exact z_sub [0, 1, 2] rfl (s_X10_wallLine_9 C hr hrm th p1 p2 4 m)
def f_X10_wallLine (th : Nat) (p1 : Int32) (p2 : Int32) (m : MM) : Option (Int32 × MM) := g_X10_wallLine_0 th p1 p2 m
theorem M_X10_wallLine (l : Launch) (E : EX) (th : Nat) (p1 : Int32) (p2 : Int32) (m : MM) (r : Int32) (m2 : MM) (h : f_X10_wallLine th p1 p2 m = some (r, m2)) : Met l yX10_wallLine (.code yX10_wallLine cX10_wallLine 8 (some .boolean) :: TB) rmX10_wallLine (va_Pc [.ref th, .int p1, .int p2] (St E m)) (QR E (emI r) m2) 0 0 (AA E) :=
  met_of (em := emI) (plainFor_of_name rfl) (Nat.le_of_ble_eq_true rfl) (L0 := [(0, va_rf (some th)), (1, .int p1), (2, .int p2)]) rfl (fun Γ _ hrm C hr hn => s_X10_wallLine_0 C hr hrm th p1 p2 m) h

theorem dX10_slope_0 : decode cX10_slope 0 = .ok (.aload_n 0, 1) := by decide +kernel
theorem dX10_slope_1 : decode cX10_slope 1 = .ok (.ldc2_w 267, 3) := by decide +kernel
theorem dX10_slope_4 : decode cX10_slope 4 = .ok (.invokevirtual 263, 3) := by decide +kernel
theorem dX10_slope_7 : decode cX10_slope 7 = .ok (.istore_n 1, 1) := by decide +kernel
theorem dX10_slope_8 : decode cX10_slope 8 = .ok (.iload_n 1, 1) := by decide +kernel
theorem dX10_slope_9 : decode cX10_slope 9 = .ok (.ifCond .ne 18, 3) := by decide +kernel
theorem dX10_slope_12 : decode cX10_slope 12 = .ok (.aload_n 0, 1) := by decide +kernel
theorem dX10_slope_13 : decode cX10_slope 13 = .ok (.ldc2_w 269, 3) := by decide +kernel
theorem dX10_slope_16 : decode cX10_slope 16 = .ok (.invokevirtual 263, 3) := by decide +kernel
theorem dX10_slope_19 : decode cX10_slope 19 = .ok (.ifCond .ne 8, 3) := by decide +kernel
theorem dX10_slope_22 : decode cX10_slope 22 = .ok (.aload_n 0, 1) := by decide +kernel
theorem dX10_slope_23 : decode cX10_slope 23 = .ok (.invokevirtual 236, 3) := by decide +kernel
theorem dX10_slope_26 : decode cX10_slope 26 = .ok (.ireturn, 1) := by decide +kernel
theorem dX10_slope_27 : decode cX10_slope 27 = .ok (.aload_n 0, 1) := by decide +kernel
theorem dX10_slope_28 : decode cX10_slope 28 = .ok (.invokevirtual 251, 3) := by decide +kernel
theorem dX10_slope_31 : decode cX10_slope 31 = .ok (.aload_n 0, 1) := by decide +kernel
theorem dX10_slope_32 : decode cX10_slope 32 = .ok (.iconst 0, 1) := by decide +kernel
theorem dX10_slope_33 : decode cX10_slope 33 = .ok (.bipush 9, 2) := by decide +kernel
theorem dX10_slope_35 : decode cX10_slope 35 = .ok (.invokevirtual 254, 3) := by decide +kernel
theorem dX10_slope_38 : decode cX10_slope 38 = .ok (.ifCond .ne 5, 3) := by decide +kernel
theorem dX10_slope_41 : decode cX10_slope 41 = .ok (.iconst 0, 1) := by decide +kernel
theorem dX10_slope_42 : decode cX10_slope 42 = .ok (.ireturn, 1) := by decide +kernel
theorem dX10_slope_43 : decode cX10_slope 43 = .ok (.aload_n 0, 1) := by decide +kernel
theorem dX10_slope_44 : decode cX10_slope 44 = .ok (.getfield 122, 3) := by decide +kernel
theorem dX10_slope_47 : decode cX10_slope 47 = .ok (.aload_n 0, 1) := by decide +kernel
theorem dX10_slope_48 : decode cX10_slope 48 = .ok (.getfield 240, 3) := by decide +kernel
theorem dX10_slope_51 : decode cX10_slope 51 = .ok (.iconst 1, 1) := by decide +kernel
theorem dX10_slope_52 : decode cX10_slope 52 = .ok (.isub, 1) := by decide +kernel
theorem dX10_slope_53 : decode cX10_slope 53 = .ok (.iload_n 1, 1) := by decide +kernel
theorem dX10_slope_54 : decode cX10_slope 54 = .ok (.ifCond .eq 18, 3) := by decide +kernel
theorem dX10_slope_57 : decode cX10_slope 57 = .ok (.aload_n 0, 1) := by decide +kernel
theorem dX10_slope_58 : decode cX10_slope 58 = .ok (.getfield 122, 3) := by decide +kernel
theorem dX10_slope_61 : decode cX10_slope 61 = .ok (.aload_n 0, 1) := by decide +kernel
theorem dX10_slope_62 : decode cX10_slope 62 = .ok (.getfield 240, 3) := by decide +kernel
theorem dX10_slope_65 : decode cX10_slope 65 = .ok (.iconst 1, 1) := by decide +kernel
theorem dX10_slope_66 : decode cX10_slope 66 = .ok (.isub, 1) := by decide +kernel
theorem dX10_slope_67 : decode cX10_slope 67 = .ok (.iaload, 1) := by decide +kernel
theorem dX10_slope_68 : decode cX10_slope 68 = .ok (.ineg, 1) := by decide +kernel
theorem dX10_slope_69 : decode cX10_slope 69 = .ok (.goto 14, 3) := by decide +kernel
theorem dX10_slope_72 : decode cX10_slope 72 = .ok (.aload_n 0, 1) := by decide +kernel
theorem dX10_slope_73 : decode cX10_slope 73 = .ok (.getfield 122, 3) := by decide +kernel
theorem dX10_slope_76 : decode cX10_slope 76 = .ok (.aload_n 0, 1) := by decide +kernel
theorem dX10_slope_77 : decode cX10_slope 77 = .ok (.getfield 240, 3) := by decide +kernel
theorem dX10_slope_80 : decode cX10_slope 80 = .ok (.iconst 1, 1) := by decide +kernel
theorem dX10_slope_81 : decode cX10_slope 81 = .ok (.isub, 1) := by decide +kernel
theorem dX10_slope_82 : decode cX10_slope 82 = .ok (.iaload, 1) := by decide +kernel
theorem dX10_slope_83 : decode cX10_slope 83 = .ok (.iastore, 1) := by decide +kernel
theorem dX10_slope_84 : decode cX10_slope 84 = .ok (.iconst 1, 1) := by decide +kernel
theorem dX10_slope_85 : decode cX10_slope 85 = .ok (.ireturn, 1) := by decide +kernel
def rmX10_slope : Room := { frames := 3, cells := 0, slots := 0, locals := 66 }
set_option maxRecDepth 100000 in
def g_X10_slope_27 (th : Nat) (x1 : Int32) (m : MM) : Option (Int32 × MM) :=
  chk (m.K th = 11) (cal (f_X10_token th m) (fun r1 m1 => chk (m1.K th = 11) (cal (f_X10_number th 0 9 m1) (fun r2 m2 => if r2 = 0 then (some (0, m2)) else (chk (m2.K th = 11) (if x1 = 0 then (ck m2 (m2.R 1147 th 0) 22 (fun a1 => chk (inb ((m2.I 1148 th 0) - 1) (m2.N a1) = true) (chk (inb ((m2.I 1148 th 0) - 1) (m2.N a1) = true) (bnd (m2.sI 22 a1 (Int32.toNatClampNeg ((m2.I 1148 th 0) - 1)) (m2.I 22 a1 (Int32.toNatClampNeg ((m2.I 1148 th 0) - 1)))) (fun m3 => some (1, m3)))))) else (ck m2 (m2.R 1147 th 0) 22 (fun a2 => chk (inb ((m2.I 1148 th 0) - 1) (m2.N a2) = true) (chk (inb ((m2.I 1148 th 0) - 1) (m2.N a2) = true) (bnd (m2.sI 22 a2 (Int32.toNatClampNeg ((m2.I 1148 th 0) - 1)) (-(m2.I 22 a2 (Int32.toNatClampNeg ((m2.I 1148 th 0) - 1))))) (fun m4 => some (1, m4))))))))))))
set_option maxHeartbeats 4000000 in
set_option maxRecDepth 100000 in
theorem s_X10_slope_27 {Γ : GX} {E : EX} (C : Cx Γ E cX10_slope RX10 2) (hr : Γ.meth.sig.returnType = (some .boolean)) (hrm : Γ.rm = rmX10_slope) (th : Nat) (x1 : Int32) (m : MM) : Sm (QM Γ E emI 0 0) Γ E 2 0 0 27 [(0, va_rf (some th)), (1, .int x1)] [] m (g_X10_slope_27 th x1 m) := by
  unfold g_X10_slope_27
  refine z_aload_n C dX10_slope_27 rfl 0 rfl ?_
  refine z_chk (fun hk1 => ?_)
  refine z_cVV [] [] C mv_RX10_251 (fun r0 m0 h0 => M_X10_token _ _ _ _ _ _ h0) rfl rfl ⟨by rw [hrm]; exact Nat.le_of_ble_eq_true rfl, by rw [hrm]; exact Nat.le_of_ble_eq_true rfl⟩ ⟨by rw [hrm]; exact Nat.le_of_ble_eq_true rfl, by rw [hrm]; exact Nat.le_of_ble_eq_true rfl⟩ rfl hk1 rfl rfl rfl (Nat.le_of_ble_eq_true rfl) dX10_slope_28 (fun r1 m1 => ?_)
  refine z_aload_n C dX10_slope_31 rfl 0 rfl ?_
  refine z_iconst (v := 0) C dX10_slope_32 (by decide) ?_
  refine z_bipush (v := 9) C dX10_slope_33 (by decide) ?_
  refine z_chk (fun hk2 => ?_)
  refine z_cVI [.int 0, .int 9] [] C mv_RX10_254 (fun r0 m0 h0 => M_X10_number _ _ _ _ _ _ _ _ h0) rfl rfl ⟨by rw [hrm]; exact Nat.le_of_ble_eq_true rfl, by rw [hrm]; exact Nat.le_of_ble_eq_true rfl⟩ ⟨by rw [hrm]; exact Nat.le_of_ble_eq_true rfl, by rw [hrm]; exact Nat.le_of_ble_eq_true rfl⟩ rfl hk2 rfl rfl rfl (Nat.le_of_ble_eq_true rfl) dX10_slope_35 (fun r2 m2 => ?_)
  refine z_if_ne (tgt := 43) C dX10_slope_38 (by decide) (fun c1 => ?_) (fun c1 => ?_)
  · refine z_aload_n C dX10_slope_43 rfl 0 rfl ?_
    refine z_chk (fun hk3 => ?_)
    refine z_getR C fl_RX10_122 rfl hk3 dX10_slope_44 ?_
    refine z_aload_n C dX10_slope_47 rfl 0 rfl ?_
    refine z_getI C fl_RX10_240 rfl hk3 dX10_slope_48 ?_
    refine z_iconst (v := 1) C dX10_slope_51 (by decide) ?_
    refine z_isub C dX10_slope_52 ?_
    refine z_iload_n C dX10_slope_53 rfl 1 rfl ?_
    refine z_if_eq (tgt := 72) C dX10_slope_54 (by decide) (fun c2 => ?_) (fun c2 => ?_)
    · refine z_aload_n C dX10_slope_72 rfl 0 rfl ?_
      refine z_getR C fl_RX10_122 rfl hk3 dX10_slope_73 ?_
      refine z_aload_n C dX10_slope_76 rfl 0 rfl ?_
      refine z_getI C fl_RX10_240 rfl hk3 dX10_slope_77 ?_
      refine z_iconst (v := 1) C dX10_slope_80 (by decide) ?_
      refine z_isub C dX10_slope_81 ?_
      refine z_ck (fun a1 hr1 hk4 => ?_)
      refine z_chk (fun hj1 => ?_)
      refine z_iald C hr1 hk4 hj1 dX10_slope_82 ?_
      refine z_chk (fun hj2 => ?_)
      refine z_iast C hr1 hk4 hj2 dX10_slope_83 (fun m3 eK1 eN1 => ?_)
      refine z_iconst (v := 1) C dX10_slope_84 (by decide) ?_
      exact z_zret C hr rfl dX10_slope_85
    · refine z_aload_n C dX10_slope_57 rfl 0 rfl ?_
      refine z_getR C fl_RX10_122 rfl hk3 dX10_slope_58 ?_
      refine z_aload_n C dX10_slope_61 rfl 0 rfl ?_
      refine z_getI C fl_RX10_240 rfl hk3 dX10_slope_62 ?_
      refine z_iconst (v := 1) C dX10_slope_65 (by decide) ?_
      refine z_isub C dX10_slope_66 ?_
      refine z_ck (fun a2 hr2 hk5 => ?_)
      refine z_chk (fun hj3 => ?_)
      refine z_iald C hr2 hk5 hj3 dX10_slope_67 ?_
      refine z_ineg C dX10_slope_68 ?_
      refine z_goto (tgt := 83) C dX10_slope_69 (by decide) ?_
      refine z_chk (fun hj4 => ?_)
      refine z_iast C hr2 hk5 hj4 dX10_slope_83 (fun m4 eK2 eN2 => ?_)
      refine z_iconst (v := 1) C dX10_slope_84 (by decide) ?_
      exact z_zret C hr rfl dX10_slope_85
  · refine z_iconst (v := 0) C dX10_slope_41 (by decide) ?_
    exact z_zret C hr rfl dX10_slope_42
set_option maxRecDepth 100000 in
def g_X10_slope_0 (th : Nat) (m : MM) : Option (Int32 × MM) :=
  chk (m.K th = 11) (cal (f_X10_isWord th 1685026670 m) (fun r3 m5 => if r3 = 0 then (chk (m5.K th = 11) (cal (f_X10_isWord th 30064 m5) (fun r4 m6 => if r4 = 0 then (chk (m6.K th = 11) (cal (f_X10_stops th m6) (fun r5 m7 => chk (r5 = 0 ∨ r5 = 1) (some (r5, m7))))) else (g_X10_slope_27 th r3 m6)))) else (g_X10_slope_27 th r3 m5)))
set_option maxHeartbeats 4000000 in
set_option maxRecDepth 100000 in
theorem s_X10_slope_0 {Γ : GX} {E : EX} (C : Cx Γ E cX10_slope RX10 2) (hr : Γ.meth.sig.returnType = (some .boolean)) (hrm : Γ.rm = rmX10_slope) (th : Nat) (m : MM) : Sm (QM Γ E emI 0 0) Γ E 2 0 0 0 [(0, va_rf (some th))] [] m (g_X10_slope_0 th m) := by
  unfold g_X10_slope_0
  refine z_aload_n C dX10_slope_0 rfl 0 rfl ?_
  refine z_ldc2 C dX10_slope_1 kl_RX10_267 ?_
  refine z_chk (fun hk6 => ?_)
  refine z_cVI [.long 1685026670] [] C mv_RX10_263 (fun r0 m0 h0 => M_X10_isWord _ _ _ _ _ _ _ h0) rfl rfl ⟨by rw [hrm]; exact Nat.le_of_ble_eq_true rfl, by rw [hrm]; exact Nat.le_of_ble_eq_true rfl⟩ ⟨by rw [hrm]; exact Nat.le_of_ble_eq_true rfl, by rw [hrm]; exact Nat.le_of_ble_eq_true rfl⟩ rfl hk6 rfl rfl rfl (Nat.le_of_ble_eq_true rfl) dX10_slope_4 (fun r3 m5 => ?_)
  refine z_istore_n (i := 1) (L2 := [(1, .int r3), (0, va_rf (some th))]) C dX10_slope_7 rfl (by decide) rfl ?_
  refine z_iload_n C dX10_slope_8 rfl 0 rfl ?_
  refine z_if_ne (tgt := 27) C dX10_slope_9 (by decide) (fun c3 => ?_) (fun c3 => ?_)
  · exact z_sub [1, 0] rfl (s_X10_slope_27 C hr hrm th r3 m5)
  · refine z_aload_n C dX10_slope_12 rfl 1 rfl ?_
    refine z_ldc2 C dX10_slope_13 kl_RX10_269 ?_
    refine z_chk (fun hk7 => ?_)
    refine z_cVI [.long 30064] [] C mv_RX10_263 (fun r0 m0 h0 => M_X10_isWord _ _ _ _ _ _ _ h0) rfl rfl ⟨by rw [hrm]; exact Nat.le_of_ble_eq_true rfl, by rw [hrm]; exact Nat.le_of_ble_eq_true rfl⟩ ⟨by rw [hrm]; exact Nat.le_of_ble_eq_true rfl, by rw [hrm]; exact Nat.le_of_ble_eq_true rfl⟩ rfl hk7 rfl rfl rfl (Nat.le_of_ble_eq_true rfl) dX10_slope_16 (fun r4 m6 => ?_)
    refine z_if_ne (tgt := 27) C dX10_slope_19 (by decide) (fun c4 => ?_) (fun c4 => ?_)
    · exact z_sub [1, 0] rfl (s_X10_slope_27 C hr hrm th r3 m6)
    · refine z_aload_n C dX10_slope_22 rfl 1 rfl ?_
      refine z_chk (fun hk8 => ?_)
      refine z_cVI [] [] C mv_RX10_236 (fun r0 m0 h0 => M_X10_stops _ _ _ _ _ _ h0) rfl rfl ⟨by rw [hrm]; exact Nat.le_of_ble_eq_true rfl, by rw [hrm]; exact Nat.le_of_ble_eq_true rfl⟩ ⟨by rw [hrm]; exact Nat.le_of_ble_eq_true rfl, by rw [hrm]; exact Nat.le_of_ble_eq_true rfl⟩ rfl hk8 rfl rfl rfl (Nat.le_of_ble_eq_true rfl) dX10_slope_23 (fun r5 m7 => ?_)
      refine z_chk (fun hb1 => ?_)
      exact z_zret C hr (nb_of hb1) dX10_slope_26
def f_X10_slope (th : Nat) (m : MM) : Option (Int32 × MM) := g_X10_slope_0 th m
theorem M_X10_slope (l : Launch) (E : EX) (th : Nat) (m : MM) (r : Int32) (m2 : MM) (h : f_X10_slope th m = some (r, m2)) : Met l yX10_slope (.code yX10_slope cX10_slope 2 (some .boolean) :: TB) rmX10_slope (va_Pc [.ref th] (St E m)) (QR E (emI r) m2) 0 0 (AA E) :=
  met_of (em := emI) (plainFor_of_name rfl) (Nat.le_of_ble_eq_true rfl) (L0 := [(0, va_rf (some th))]) rfl (fun Γ _ hrm C hr hn => s_X10_slope_0 C hr hrm th m) h

theorem dX10_leaveLine_0 : decode cX10_leaveLine 0 = .ok (.aload_n 0, 1) := by decide +kernel
theorem dX10_leaveLine_1 : decode cX10_leaveLine 1 = .ok (.getfield 125, 3) := by decide +kernel
theorem dX10_leaveLine_4 : decode cX10_leaveLine 4 = .ok (.bipush 7, 2) := by decide +kernel
theorem dX10_leaveLine_6 : decode cX10_leaveLine 6 = .ok (.iaload, 1) := by decide +kernel
theorem dX10_leaveLine_7 : decode cX10_leaveLine 7 = .ok (.bipush 12, 2) := by decide +kernel
theorem dX10_leaveLine_9 : decode cX10_leaveLine 9 = .ok (.if_icmp .ne 9, 3) := by decide +kernel
theorem dX10_leaveLine_12 : decode cX10_leaveLine 12 = .ok (.aload_n 0, 1) := by decide +kernel
theorem dX10_leaveLine_13 : decode cX10_leaveLine 13 = .ok (.iconst 3, 1) := by decide +kernel
theorem dX10_leaveLine_14 : decode cX10_leaveLine 14 = .ok (.iload_n 1, 1) := by decide +kernel
theorem dX10_leaveLine_15 : decode cX10_leaveLine 15 = .ok (.invokevirtual 243, 3) := by decide +kernel
theorem dX10_leaveLine_18 : decode cX10_leaveLine 18 = .ok (.aload_n 0, 1) := by decide +kernel
theorem dX10_leaveLine_19 : decode cX10_leaveLine 19 = .ok (.iconst 0, 1) := by decide +kernel
theorem dX10_leaveLine_20 : decode cX10_leaveLine 20 = .ok (.bipush 7, 2) := by decide +kernel
theorem dX10_leaveLine_22 : decode cX10_leaveLine 22 = .ok (.invokevirtual 254, 3) := by decide +kernel
theorem dX10_leaveLine_25 : decode cX10_leaveLine 25 = .ok (.ifCond .eq 24, 3) := by decide +kernel
theorem dX10_leaveLine_28 : decode cX10_leaveLine 28 = .ok (.aload_n 0, 1) := by decide +kernel
theorem dX10_leaveLine_29 : decode cX10_leaveLine 29 = .ok (.iconst 0, 1) := by decide +kernel
theorem dX10_leaveLine_30 : decode cX10_leaveLine 30 = .ok (.bipush 7, 2) := by decide +kernel
theorem dX10_leaveLine_32 : decode cX10_leaveLine 32 = .ok (.invokevirtual 254, 3) := by decide +kernel
theorem dX10_leaveLine_35 : decode cX10_leaveLine 35 = .ok (.ifCond .eq 14, 3) := by decide +kernel
theorem dX10_leaveLine_38 : decode cX10_leaveLine 38 = .ok (.aload_n 0, 1) := by decide +kernel
theorem dX10_leaveLine_39 : decode cX10_leaveLine 39 = .ok (.iconst 0, 1) := by decide +kernel
theorem dX10_leaveLine_40 : decode cX10_leaveLine 40 = .ok (.sipush 999, 3) := by decide +kernel
theorem dX10_leaveLine_43 : decode cX10_leaveLine 43 = .ok (.invokevirtual 254, 3) := by decide +kernel
theorem dX10_leaveLine_46 : decode cX10_leaveLine 46 = .ok (.ifCond .ne 5, 3) := by decide +kernel
theorem dX10_leaveLine_49 : decode cX10_leaveLine 49 = .ok (.iconst 0, 1) := by decide +kernel
theorem dX10_leaveLine_50 : decode cX10_leaveLine 50 = .ok (.ireturn, 1) := by decide +kernel
theorem dX10_leaveLine_51 : decode cX10_leaveLine 51 = .ok (.aload_n 0, 1) := by decide +kernel
theorem dX10_leaveLine_52 : decode cX10_leaveLine 52 = .ok (.getfield 125, 3) := by decide +kernel
theorem dX10_leaveLine_55 : decode cX10_leaveLine 55 = .ok (.bipush 7, 2) := by decide +kernel
theorem dX10_leaveLine_57 : decode cX10_leaveLine 57 = .ok (.iaload, 1) := by decide +kernel
theorem dX10_leaveLine_58 : decode cX10_leaveLine 58 = .ok (.istore_n 2, 1) := by decide +kernel
theorem dX10_leaveLine_59 : decode cX10_leaveLine 59 = .ok (.iconst 0, 1) := by decide +kernel
theorem dX10_leaveLine_60 : decode cX10_leaveLine 60 = .ok (.istore_n 3, 1) := by decide +kernel
theorem dX10_leaveLine_61 : decode cX10_leaveLine 61 = .ok (.iload_n 3, 1) := by decide +kernel
theorem dX10_leaveLine_62 : decode cX10_leaveLine 62 = .ok (.iconst 3, 1) := by decide +kernel
theorem dX10_leaveLine_63 : decode cX10_leaveLine 63 = .ok (.if_icmp .ge 25, 3) := by decide +kernel
theorem dX10_leaveLine_66 : decode cX10_leaveLine 66 = .ok (.aload_n 0, 1) := by decide +kernel
theorem dX10_leaveLine_67 : decode cX10_leaveLine 67 = .ok (.getfield 134, 3) := by decide +kernel
theorem dX10_leaveLine_70 : decode cX10_leaveLine 70 = .ok (.iconst 3, 1) := by decide +kernel
theorem dX10_leaveLine_71 : decode cX10_leaveLine 71 = .ok (.iload_n 2, 1) := by decide +kernel
theorem dX10_leaveLine_72 : decode cX10_leaveLine 72 = .ok (.imul, 1) := by decide +kernel
theorem dX10_leaveLine_73 : decode cX10_leaveLine 73 = .ok (.iload_n 3, 1) := by decide +kernel
theorem dX10_leaveLine_74 : decode cX10_leaveLine 74 = .ok (.iadd, 1) := by decide +kernel
theorem dX10_leaveLine_75 : decode cX10_leaveLine 75 = .ok (.aload_n 0, 1) := by decide +kernel
theorem dX10_leaveLine_76 : decode cX10_leaveLine 76 = .ok (.getfield 122, 3) := by decide +kernel
theorem dX10_leaveLine_79 : decode cX10_leaveLine 79 = .ok (.iload_n 3, 1) := by decide +kernel
theorem dX10_leaveLine_80 : decode cX10_leaveLine 80 = .ok (.iaload, 1) := by decide +kernel
theorem dX10_leaveLine_81 : decode cX10_leaveLine 81 = .ok (.iastore, 1) := by decide +kernel
theorem dX10_leaveLine_82 : decode cX10_leaveLine 82 = .ok (.iinc 3 1, 3) := by decide +kernel
theorem dX10_leaveLine_85 : decode cX10_leaveLine 85 = .ok (.goto (-24), 3) := by decide +kernel
theorem dX10_leaveLine_88 : decode cX10_leaveLine 88 = .ok (.aload_n 0, 1) := by decide +kernel
theorem dX10_leaveLine_89 : decode cX10_leaveLine 89 = .ok (.getfield 125, 3) := by decide +kernel
theorem dX10_leaveLine_92 : decode cX10_leaveLine 92 = .ok (.bipush 7, 2) := by decide +kernel
theorem dX10_leaveLine_94 : decode cX10_leaveLine 94 = .ok (.dup2, 1) := by decide +kernel
theorem dX10_leaveLine_95 : decode cX10_leaveLine 95 = .ok (.iaload, 1) := by decide +kernel
theorem dX10_leaveLine_96 : decode cX10_leaveLine 96 = .ok (.iload_n 2, 1) := by decide +kernel
theorem dX10_leaveLine_97 : decode cX10_leaveLine 97 = .ok (.bipush 12, 2) := by decide +kernel
theorem dX10_leaveLine_99 : decode cX10_leaveLine 99 = .ok (.if_icmp .ge 7, 3) := by decide +kernel
theorem dX10_leaveLine_102 : decode cX10_leaveLine 102 = .ok (.iconst 1, 1) := by decide +kernel
theorem dX10_leaveLine_103 : decode cX10_leaveLine 103 = .ok (.goto 4, 3) := by decide +kernel
theorem dX10_leaveLine_106 : decode cX10_leaveLine 106 = .ok (.iconst 0, 1) := by decide +kernel
theorem dX10_leaveLine_107 : decode cX10_leaveLine 107 = .ok (.iadd, 1) := by decide +kernel
theorem dX10_leaveLine_108 : decode cX10_leaveLine 108 = .ok (.iastore, 1) := by decide +kernel
theorem dX10_leaveLine_109 : decode cX10_leaveLine 109 = .ok (.iconst 1, 1) := by decide +kernel
theorem dX10_leaveLine_110 : decode cX10_leaveLine 110 = .ok (.ireturn, 1) := by decide +kernel
def rmX10_leaveLine : Room := { frames := 3, cells := 0, slots := 0, locals := 66 }
set_option maxRecDepth 100000 in
def g_X10_leaveLine_61 (th : Nat) (p1 : Int32) (k61 : Int32 → Int32 → MM → Option (Int32 × MM)) (k88 : Int32 → MM → Option (Int32 × MM)) (x2 : Int32) (x3 : Int32) (m : MM) : Option (Int32 × MM) :=
  if 3 ≤ x3 then (k88 x2 m) else (chk (m.K th = 11) (ck m (m.R 1147 th 0) 22 (fun a1 => chk (inb x3 (m.N a1) = true) (ck m (m.R 1153 th 0) 22 (fun a2 => chk (inb ((3 * x2) + x3) (m.N a2) = true) (bnd (m.sI 22 a2 (Int32.toNatClampNeg ((3 * x2) + x3)) (m.I 22 a1 (Int32.toNatClampNeg x3))) (fun m1 => k61 x2 (x3 + 1) m1)))))))
set_option maxHeartbeats 4000000 in
set_option maxRecDepth 100000 in
theorem s_X10_leaveLine_61 {Γ : GX} {E : EX} (C : Cx Γ E cX10_leaveLine RX10 4) (hr : Γ.meth.sig.returnType = (some .boolean)) (hrm : Γ.rm = rmX10_leaveLine) (th : Nat) (p1 : Int32) (k61 : Int32 → Int32 → MM → Option (Int32 × MM)) (k88 : Int32 → MM → Option (Int32 × MM)) (h61 : ∀ (x2 : Int32) (x3 : Int32) (m : MM), Sm (QM Γ E emI 0 0) Γ E 4 0 0 61 [(0, va_rf (some th)), (1, .int p1), (2, .int x2), (3, .int x3)] [] m (k61 x2 x3 m)) (h88 : ∀ (x2 : Int32) (m : MM), Sm (QM Γ E emI 0 0) Γ E 4 0 0 88 [(0, va_rf (some th)), (1, .int p1), (2, .int x2)] [] m (k88 x2 m)) (x2 : Int32) (x3 : Int32) (m : MM) : Sm (QM Γ E emI 0 0) Γ E 4 0 0 61 [(0, va_rf (some th)), (1, .int p1), (2, .int x2), (3, .int x3)] [] m (g_X10_leaveLine_61 th p1 k61 k88 x2 x3 m) := by
  unfold g_X10_leaveLine_61
  refine z_iload_n C dX10_leaveLine_61 rfl 3 rfl ?_
  refine z_iconst (v := 3) C dX10_leaveLine_62 (by decide) ?_
  refine z_icmp_ge (tgt := 88) C dX10_leaveLine_63 (by decide) (fun c1 => ?_) (fun c1 => ?_)
  · exact z_sub [0, 1, 2] rfl (h88 x2 m)
  · refine z_aload_n C dX10_leaveLine_66 rfl 0 rfl ?_
    refine z_chk (fun hk1 => ?_)
    refine z_getR C fl_RX10_134 rfl hk1 dX10_leaveLine_67 ?_
    refine z_iconst (v := 3) C dX10_leaveLine_70 (by decide) ?_
    refine z_iload_n C dX10_leaveLine_71 rfl 2 rfl ?_
    refine z_imul C dX10_leaveLine_72 ?_
    refine z_iload_n C dX10_leaveLine_73 rfl 3 rfl ?_
    refine z_iadd C dX10_leaveLine_74 ?_
    refine z_aload_n C dX10_leaveLine_75 rfl 0 rfl ?_
    refine z_getR C fl_RX10_122 rfl hk1 dX10_leaveLine_76 ?_
    refine z_iload_n C dX10_leaveLine_79 rfl 3 rfl ?_
    refine z_ck (fun a1 hr1 hk2 => ?_)
    refine z_chk (fun hj1 => ?_)
    refine z_iald C hr1 hk2 hj1 dX10_leaveLine_80 ?_
    refine z_ck (fun a2 hr2 hk3 => ?_)
    refine z_chk (fun hj2 => ?_)
    refine z_iast C hr2 hk3 hj2 dX10_leaveLine_81 (fun m1 eK1 eN1 => ?_)
    refine z_iinc (v := 1) (L2 := [(3, .int (x3 + 1)), (0, va_rf (some th)), (1, .int p1), (2, .int x2)]) C dX10_leaveLine_82 3 rfl (by decide) (by decide) rfl ?_
    refine z_goto (tgt := 61) C dX10_leaveLine_85 (by decide) ?_
    exact z_sub [1, 2, 3, 0] rfl (h61 x2 (x3 + 1) m1)
def l_X10_leaveLine_61 (th : Nat) (p1 : Int32) (k88 : Int32 → MM → Option (Int32 × MM)) : Nat → Int32 → Int32 → MM → Option (Int32 × MM) := lp (fun _ _ _ => none) (fun k61 => g_X10_leaveLine_61 th p1 k61 k88)
theorem t_X10_leaveLine_61 {Γ : GX} {E : EX} (C : Cx Γ E cX10_leaveLine RX10 4) (hr : Γ.meth.sig.returnType = (some .boolean)) (hrm : Γ.rm = rmX10_leaveLine) (th : Nat) (p1 : Int32) (k88 : Int32 → MM → Option (Int32 × MM)) (h88 : ∀ (x2 : Int32) (m : MM), Sm (QM Γ E emI 0 0) Γ E 4 0 0 88 [(0, va_rf (some th)), (1, .int p1), (2, .int x2)] [] m (k88 x2 m)) : ∀ (n : Nat) (x2 : Int32) (x3 : Int32) (m : MM), Sm (QM Γ E emI 0 0) Γ E 4 0 0 61 [(0, va_rf (some th)), (1, .int p1), (2, .int x2), (3, .int x3)] [] m (l_X10_leaveLine_61 th p1 k88 n x2 x3 m) := by
  intro n
  induction n with
  | zero => intros; exact z_none
  | succ n ih => intro x2 x3 m; exact s_X10_leaveLine_61 C hr hrm th p1 (l_X10_leaveLine_61 th p1 k88 n) k88 ih h88 x2 x3 m
set_option maxRecDepth 100000 in
def g_X10_leaveLine_88 (th : Nat) (p1 : Int32) (x2 : Int32) (m : MM) : Option (Int32 × MM) :=
  chk (m.K th = 11) (ck m (m.R 1150 th 0) 22 (fun a3 => chk (inb 7 (m.N a3) = true) (if 12 ≤ x2 then (chk (inb 7 (m.N a3) = true) (bnd (m.sI 22 a3 (Int32.toNatClampNeg 7) ((m.I 22 a3 (Int32.toNatClampNeg 7)) + 0)) (fun m2 => some (1, m2)))) else (chk (inb 7 (m.N a3) = true) (bnd (m.sI 22 a3 (Int32.toNatClampNeg 7) ((m.I 22 a3 (Int32.toNatClampNeg 7)) + 1)) (fun m3 => some (1, m3)))))))
set_option maxHeartbeats 4000000 in
set_option maxRecDepth 100000 in
theorem s_X10_leaveLine_88 {Γ : GX} {E : EX} (C : Cx Γ E cX10_leaveLine RX10 4) (hr : Γ.meth.sig.returnType = (some .boolean)) (hrm : Γ.rm = rmX10_leaveLine) (th : Nat) (p1 : Int32) (x2 : Int32) (m : MM) : Sm (QM Γ E emI 0 0) Γ E 4 0 0 88 [(0, va_rf (some th)), (1, .int p1), (2, .int x2)] [] m (g_X10_leaveLine_88 th p1 x2 m) := by
  unfold g_X10_leaveLine_88
  refine z_aload_n C dX10_leaveLine_88 rfl 0 rfl ?_
  refine z_chk (fun hk4 => ?_)
  refine z_getR C fl_RX10_125 rfl hk4 dX10_leaveLine_89 ?_
  refine z_bipush (v := 7) C dX10_leaveLine_92 (by decide) ?_
  refine z_dup2 C rfl (cat_rf _) dX10_leaveLine_94 ?_
  refine z_ck (fun a3 hr3 hk5 => ?_)
  refine z_chk (fun hj3 => ?_)
  refine z_iald C hr3 hk5 hj3 dX10_leaveLine_95 ?_
  refine z_iload_n C dX10_leaveLine_96 rfl 2 rfl ?_
  refine z_bipush (v := 12) C dX10_leaveLine_97 (by decide) ?_
  refine z_icmp_ge (tgt := 106) C dX10_leaveLine_99 (by decide) (fun c2 => ?_) (fun c2 => ?_)
  · refine z_iconst (v := 0) C dX10_leaveLine_106 (by decide) ?_
    refine z_iadd C dX10_leaveLine_107 ?_
    refine z_chk (fun hj4 => ?_)
    refine z_iast C hr3 hk5 hj4 dX10_leaveLine_108 (fun m2 eK2 eN2 => ?_)
    refine z_iconst (v := 1) C dX10_leaveLine_109 (by decide) ?_
    exact z_zret C hr rfl dX10_leaveLine_110
  · refine z_iconst (v := 1) C dX10_leaveLine_102 (by decide) ?_
    refine z_goto (tgt := 107) C dX10_leaveLine_103 (by decide) ?_
    refine z_iadd C dX10_leaveLine_107 ?_
    refine z_chk (fun hj5 => ?_)
    refine z_iast C hr3 hk5 hj5 dX10_leaveLine_108 (fun m3 eK3 eN3 => ?_)
    refine z_iconst (v := 1) C dX10_leaveLine_109 (by decide) ?_
    exact z_zret C hr rfl dX10_leaveLine_110
set_option maxRecDepth 100000 in
def g_X10_leaveLine_18 (th : Nat) (p1 : Int32) (m : MM) : Option (Int32 × MM) :=
  chk (m.K th = 11) (cal (f_X10_number th 0 7 m) (fun r1 m4 => if r1 = 0 then (some (0, m4)) else (chk (m4.K th = 11) (cal (f_X10_number th 0 7 m4) (fun r2 m5 => if r2 = 0 then (some (0, m5)) else (chk (m5.K th = 11) (cal (f_X10_number th 0 999 m5) (fun r3 m6 => if r3 = 0 then (some (0, m6)) else (chk (m6.K th = 11) (ck m6 (m6.R 1150 th 0) 22 (fun a4 => chk (inb 7 (m6.N a4) = true) (bnd (m6.I 22 a4 (Int32.toNatClampNeg 7)) (fun y1 => l_X10_leaveLine_61 th p1 (g_X10_leaveLine_88 th p1) FU y1 0 m6)))))))))))))
set_option maxHeartbeats 4000000 in
set_option maxRecDepth 100000 in
theorem s_X10_leaveLine_18 {Γ : GX} {E : EX} (C : Cx Γ E cX10_leaveLine RX10 4) (hr : Γ.meth.sig.returnType = (some .boolean)) (hrm : Γ.rm = rmX10_leaveLine) (th : Nat) (p1 : Int32) (m : MM) : Sm (QM Γ E emI 0 0) Γ E 4 0 0 18 [(0, va_rf (some th)), (1, .int p1)] [] m (g_X10_leaveLine_18 th p1 m) := by
  unfold g_X10_leaveLine_18
  refine z_aload_n C dX10_leaveLine_18 rfl 0 rfl ?_
  refine z_iconst (v := 0) C dX10_leaveLine_19 (by decide) ?_
  refine z_bipush (v := 7) C dX10_leaveLine_20 (by decide) ?_
  refine z_chk (fun hk6 => ?_)
  refine z_cVI [.int 0, .int 7] [] C mv_RX10_254 (fun r0 m0 h0 => M_X10_number _ _ _ _ _ _ _ _ h0) rfl rfl ⟨by rw [hrm]; exact Nat.le_of_ble_eq_true rfl, by rw [hrm]; exact Nat.le_of_ble_eq_true rfl⟩ ⟨by rw [hrm]; exact Nat.le_of_ble_eq_true rfl, by rw [hrm]; exact Nat.le_of_ble_eq_true rfl⟩ rfl hk6 rfl rfl rfl (Nat.le_of_ble_eq_true rfl) dX10_leaveLine_22 (fun r1 m4 => ?_)
  refine z_if_eq (tgt := 49) C dX10_leaveLine_25 (by decide) (fun c3 => ?_) (fun c3 => ?_)
  · refine z_iconst (v := 0) C dX10_leaveLine_49 (by decide) ?_
    exact z_zret C hr rfl dX10_leaveLine_50
  · refine z_aload_n C dX10_leaveLine_28 rfl 0 rfl ?_
    refine z_iconst (v := 0) C dX10_leaveLine_29 (by decide) ?_
    refine z_bipush (v := 7) C dX10_leaveLine_30 (by decide) ?_
    refine z_chk (fun hk7 => ?_)
    refine z_cVI [.int 0, .int 7] [] C mv_RX10_254 (fun r0 m0 h0 => M_X10_number _ _ _ _ _ _ _ _ h0) rfl rfl ⟨by rw [hrm]; exact Nat.le_of_ble_eq_true rfl, by rw [hrm]; exact Nat.le_of_ble_eq_true rfl⟩ ⟨by rw [hrm]; exact Nat.le_of_ble_eq_true rfl, by rw [hrm]; exact Nat.le_of_ble_eq_true rfl⟩ rfl hk7 rfl rfl rfl (Nat.le_of_ble_eq_true rfl) dX10_leaveLine_32 (fun r2 m5 => ?_)
    refine z_if_eq (tgt := 49) C dX10_leaveLine_35 (by decide) (fun c4 => ?_) (fun c4 => ?_)
    · refine z_iconst (v := 0) C dX10_leaveLine_49 (by decide) ?_
      exact z_zret C hr rfl dX10_leaveLine_50
    · refine z_aload_n C dX10_leaveLine_38 rfl 0 rfl ?_
      refine z_iconst (v := 0) C dX10_leaveLine_39 (by decide) ?_
      refine z_sipush (v := 999) C dX10_leaveLine_40 (by decide) ?_
      refine z_chk (fun hk8 => ?_)
      refine z_cVI [.int 0, .int 999] [] C mv_RX10_254 (fun r0 m0 h0 => M_X10_number _ _ _ _ _ _ _ _ h0) rfl rfl ⟨by rw [hrm]; exact Nat.le_of_ble_eq_true rfl, by rw [hrm]; exact Nat.le_of_ble_eq_true rfl⟩ ⟨by rw [hrm]; exact Nat.le_of_ble_eq_true rfl, by rw [hrm]; exact Nat.le_of_ble_eq_true rfl⟩ rfl hk8 rfl rfl rfl (Nat.le_of_ble_eq_true rfl) dX10_leaveLine_43 (fun r3 m6 => ?_)
      refine z_if_ne (tgt := 51) C dX10_leaveLine_46 (by decide) (fun c5 => ?_) (fun c5 => ?_)
      · refine z_aload_n C dX10_leaveLine_51 rfl 0 rfl ?_
        refine z_chk (fun hk9 => ?_)
        refine z_getR C fl_RX10_125 rfl hk9 dX10_leaveLine_52 ?_
        refine z_bipush (v := 7) C dX10_leaveLine_55 (by decide) ?_
        refine z_ck (fun a4 hr4 hk10 => ?_)
        refine z_chk (fun hj6 => ?_)
        refine z_iald C hr4 hk10 hj6 dX10_leaveLine_57 ?_
        refine z_bndI (fun y1 => ?_)
        refine z_istore_n (i := 2) (L2 := [(2, .int y1), (0, va_rf (some th)), (1, .int p1)]) C dX10_leaveLine_58 rfl (by decide) rfl ?_
        refine z_iconst (v := 0) C dX10_leaveLine_59 (by decide) ?_
        refine z_istore_n (i := 3) (L2 := [(3, .int 0), (2, .int y1), (0, va_rf (some th)), (1, .int p1)]) C dX10_leaveLine_60 rfl (by decide) rfl ?_
        exact z_sub [2, 3, 1, 0] rfl (t_X10_leaveLine_61 C hr hrm th p1 (g_X10_leaveLine_88 th p1) (s_X10_leaveLine_88 C hr hrm th p1) FU y1 0 m6)
      · refine z_iconst (v := 0) C dX10_leaveLine_49 (by decide) ?_
        exact z_zret C hr rfl dX10_leaveLine_50
set_option maxRecDepth 100000 in
def g_X10_leaveLine_0 (th : Nat) (p1 : Int32) (m : MM) : Option (Int32 × MM) :=
  chk (m.K th = 11) (ck m (m.R 1150 th 0) 22 (fun a5 => chk (inb 7 (m.N a5) = true) (if (m.I 22 a5 (Int32.toNatClampNeg 7)) = 12 then (cal (f_X10_later th 3 p1 m) (fun r4 m7 => g_X10_leaveLine_18 th p1 m7)) else (g_X10_leaveLine_18 th p1 m))))
set_option maxHeartbeats 4000000 in
set_option maxRecDepth 100000 in
theorem s_X10_leaveLine_0 {Γ : GX} {E : EX} (C : Cx Γ E cX10_leaveLine RX10 4) (hr : Γ.meth.sig.returnType = (some .boolean)) (hrm : Γ.rm = rmX10_leaveLine) (th : Nat) (p1 : Int32) (m : MM) : Sm (QM Γ E emI 0 0) Γ E 4 0 0 0 [(0, va_rf (some th)), (1, .int p1)] [] m (g_X10_leaveLine_0 th p1 m) := by
  unfold g_X10_leaveLine_0
  refine z_aload_n C dX10_leaveLine_0 rfl 0 rfl ?_
  refine z_chk (fun hk11 => ?_)
  refine z_getR C fl_RX10_125 rfl hk11 dX10_leaveLine_1 ?_
  refine z_bipush (v := 7) C dX10_leaveLine_4 (by decide) ?_
  refine z_ck (fun a5 hr5 hk12 => ?_)
  refine z_chk (fun hj7 => ?_)
  refine z_iald C hr5 hk12 hj7 dX10_leaveLine_6 ?_
  refine z_bipush (v := 12) C dX10_leaveLine_7 (by decide) ?_
  refine z_icmp_ne (tgt := 18) C dX10_leaveLine_9 (by decide) (fun c6 => ?_) (fun c6 => ?_)
  · exact z_sub [0, 1] rfl (s_X10_leaveLine_18 C hr hrm th p1 m)
  · refine z_aload_n C dX10_leaveLine_12 rfl 0 rfl ?_
    refine z_iconst (v := 3) C dX10_leaveLine_13 (by decide) ?_
    refine z_iload_n C dX10_leaveLine_14 rfl 1 rfl ?_
    refine z_cVV [.int 3, .int p1] [] C mv_RX10_243 (fun r0 m0 h0 => M_X10_later _ _ _ _ _ _ _ _ h0) rfl rfl ⟨by rw [hrm]; exact Nat.le_of_ble_eq_true rfl, by rw [hrm]; exact Nat.le_of_ble_eq_true rfl⟩ ⟨by rw [hrm]; exact Nat.le_of_ble_eq_true rfl, by rw [hrm]; exact Nat.le_of_ble_eq_true rfl⟩ rfl hk11 rfl rfl rfl (Nat.le_of_ble_eq_true rfl) dX10_leaveLine_15 (fun r4 m7 => ?_)
    exact z_sub [0, 1] rfl (s_X10_leaveLine_18 C hr hrm th p1 m7)
def f_X10_leaveLine (th : Nat) (p1 : Int32) (m : MM) : Option (Int32 × MM) := g_X10_leaveLine_0 th p1 m
theorem M_X10_leaveLine (l : Launch) (E : EX) (th : Nat) (p1 : Int32) (m : MM) (r : Int32) (m2 : MM) (h : f_X10_leaveLine th p1 m = some (r, m2)) : Met l yX10_leaveLine (.code yX10_leaveLine cX10_leaveLine 4 (some .boolean) :: TB) rmX10_leaveLine (va_Pc [.ref th, .int p1] (St E m)) (QR E (emI r) m2) 0 0 (AA E) :=
  met_of (em := emI) (plainFor_of_name rfl) (Nat.le_of_ble_eq_true rfl) (L0 := [(0, va_rf (some th)), (1, .int p1)]) rfl (fun Γ _ hrm C hr hn => s_X10_leaveLine_0 C hr hrm th p1 m) h

theorem dX10_objectLine_0 : decode cX10_objectLine 0 = .ok (.aload_n 0, 1) := by decide +kernel
theorem dX10_objectLine_1 : decode cX10_objectLine 1 = .ok (.getfield 125, 3) := by decide +kernel
theorem dX10_objectLine_4 : decode cX10_objectLine 4 = .ok (.bipush 8, 2) := by decide +kernel
theorem dX10_objectLine_6 : decode cX10_objectLine 6 = .ok (.iaload, 1) := by decide +kernel
theorem dX10_objectLine_7 : decode cX10_objectLine 7 = .ok (.bipush 12, 2) := by decide +kernel
theorem dX10_objectLine_9 : decode cX10_objectLine 9 = .ok (.if_icmp .ne 9, 3) := by decide +kernel
theorem dX10_objectLine_12 : decode cX10_objectLine 12 = .ok (.aload_n 0, 1) := by decide +kernel
theorem dX10_objectLine_13 : decode cX10_objectLine 13 = .ok (.iconst 3, 1) := by decide +kernel
theorem dX10_objectLine_14 : decode cX10_objectLine 14 = .ok (.iload_n 1, 1) := by decide +kernel
theorem dX10_objectLine_15 : decode cX10_objectLine 15 = .ok (.invokevirtual 243, 3) := by decide +kernel
theorem dX10_objectLine_18 : decode cX10_objectLine 18 = .ok (.aload_n 0, 1) := by decide +kernel
theorem dX10_objectLine_19 : decode cX10_objectLine 19 = .ok (.iconst 0, 1) := by decide +kernel
theorem dX10_objectLine_20 : decode cX10_objectLine 20 = .ok (.aload_n 0, 1) := by decide +kernel
theorem dX10_objectLine_21 : decode cX10_objectLine 21 = .ok (.getfield 125, 3) := by decide +kernel
theorem dX10_objectLine_24 : decode cX10_objectLine 24 = .ok (.iconst 2, 1) := by decide +kernel
theorem dX10_objectLine_25 : decode cX10_objectLine 25 = .ok (.iaload, 1) := by decide +kernel
theorem dX10_objectLine_26 : decode cX10_objectLine 26 = .ok (.iconst 1, 1) := by decide +kernel
theorem dX10_objectLine_27 : decode cX10_objectLine 27 = .ok (.isub, 1) := by decide +kernel
theorem dX10_objectLine_28 : decode cX10_objectLine 28 = .ok (.invokevirtual 254, 3) := by decide +kernel
theorem dX10_objectLine_31 : decode cX10_objectLine 31 = .ok (.ifCond .ne 5, 3) := by decide +kernel
theorem dX10_objectLine_34 : decode cX10_objectLine 34 = .ok (.iconst 0, 1) := by decide +kernel
theorem dX10_objectLine_35 : decode cX10_objectLine 35 = .ok (.ireturn, 1) := by decide +kernel
theorem dX10_objectLine_36 : decode cX10_objectLine 36 = .ok (.aload_n 0, 1) := by decide +kernel
theorem dX10_objectLine_37 : decode cX10_objectLine 37 = .ok (.getfield 214, 3) := by decide +kernel
theorem dX10_objectLine_40 : decode cX10_objectLine 40 = .ok (.istore_n 2, 1) := by decide +kernel
theorem dX10_objectLine_41 : decode cX10_objectLine 41 = .ok (.aload_n 0, 1) := by decide +kernel
theorem dX10_objectLine_42 : decode cX10_objectLine 42 = .ok (.iconst 0, 1) := by decide +kernel
theorem dX10_objectLine_43 : decode cX10_objectLine 43 = .ok (.aload_n 0, 1) := by decide +kernel
theorem dX10_objectLine_44 : decode cX10_objectLine 44 = .ok (.getfield 125, 3) := by decide +kernel
theorem dX10_objectLine_47 : decode cX10_objectLine 47 = .ok (.iconst 2, 1) := by decide +kernel
theorem dX10_objectLine_48 : decode cX10_objectLine 48 = .ok (.iaload, 1) := by decide +kernel
theorem dX10_objectLine_49 : decode cX10_objectLine 49 = .ok (.iconst 1, 1) := by decide +kernel
theorem dX10_objectLine_50 : decode cX10_objectLine 50 = .ok (.isub, 1) := by decide +kernel
theorem dX10_objectLine_51 : decode cX10_objectLine 51 = .ok (.invokevirtual 254, 3) := by decide +kernel
theorem dX10_objectLine_54 : decode cX10_objectLine 54 = .ok (.ifCond .ne 5, 3) := by decide +kernel
theorem dX10_objectLine_57 : decode cX10_objectLine 57 = .ok (.iconst 0, 1) := by decide +kernel
theorem dX10_objectLine_58 : decode cX10_objectLine 58 = .ok (.ireturn, 1) := by decide +kernel
theorem dX10_objectLine_59 : decode cX10_objectLine 59 = .ok (.aload_n 0, 1) := by decide +kernel
theorem dX10_objectLine_60 : decode cX10_objectLine 60 = .ok (.getfield 247, 3) := by decide +kernel
theorem dX10_objectLine_63 : decode cX10_objectLine 63 = .ok (.ifCond .eq 24, 3) := by decide +kernel
theorem dX10_objectLine_66 : decode cX10_objectLine 66 = .ok (.aload_n 0, 1) := by decide +kernel
theorem dX10_objectLine_67 : decode cX10_objectLine 67 = .ok (.getfield 122, 3) := by decide +kernel
theorem dX10_objectLine_70 : decode cX10_objectLine 70 = .ok (.iconst 0, 1) := by decide +kernel
theorem dX10_objectLine_71 : decode cX10_objectLine 71 = .ok (.iaload, 1) := by decide +kernel
theorem dX10_objectLine_72 : decode cX10_objectLine 72 = .ok (.aload_n 0, 1) := by decide +kernel
theorem dX10_objectLine_73 : decode cX10_objectLine 73 = .ok (.getfield 122, 3) := by decide +kernel
theorem dX10_objectLine_76 : decode cX10_objectLine 76 = .ok (.iconst 1, 1) := by decide +kernel
theorem dX10_objectLine_77 : decode cX10_objectLine 77 = .ok (.iaload, 1) := by decide +kernel
theorem dX10_objectLine_78 : decode cX10_objectLine 78 = .ok (.if_icmp .ne 9, 3) := by decide +kernel
theorem dX10_objectLine_81 : decode cX10_objectLine 81 = .ok (.aload_n 0, 1) := by decide +kernel
theorem dX10_objectLine_82 : decode cX10_objectLine 82 = .ok (.iconst 2, 1) := by decide +kernel
theorem dX10_objectLine_83 : decode cX10_objectLine 83 = .ok (.iload_n 2, 1) := by decide +kernel
theorem dX10_objectLine_84 : decode cX10_objectLine 84 = .ok (.invokevirtual 243, 3) := by decide +kernel
theorem dX10_objectLine_87 : decode cX10_objectLine 87 = .ok (.aload_n 0, 1) := by decide +kernel
theorem dX10_objectLine_88 : decode cX10_objectLine 88 = .ok (.iconst 0, 1) := by decide +kernel
theorem dX10_objectLine_89 : decode cX10_objectLine 89 = .ok (.sipush 999, 3) := by decide +kernel
theorem dX10_objectLine_92 : decode cX10_objectLine 92 = .ok (.invokevirtual 254, 3) := by decide +kernel
theorem dX10_objectLine_95 : decode cX10_objectLine 95 = .ok (.ifCond .ne 5, 3) := by decide +kernel
theorem dX10_objectLine_98 : decode cX10_objectLine 98 = .ok (.iconst 0, 1) := by decide +kernel
theorem dX10_objectLine_99 : decode cX10_objectLine 99 = .ok (.ireturn, 1) := by decide +kernel
theorem dX10_objectLine_100 : decode cX10_objectLine 100 = .ok (.aload_n 0, 1) := by decide +kernel
theorem dX10_objectLine_101 : decode cX10_objectLine 101 = .ok (.getfield 125, 3) := by decide +kernel
theorem dX10_objectLine_104 : decode cX10_objectLine 104 = .ok (.bipush 8, 2) := by decide +kernel
theorem dX10_objectLine_106 : decode cX10_objectLine 106 = .ok (.iaload, 1) := by decide +kernel
theorem dX10_objectLine_107 : decode cX10_objectLine 107 = .ok (.istore_n 3, 1) := by decide +kernel
theorem dX10_objectLine_108 : decode cX10_objectLine 108 = .ok (.iconst 0, 1) := by decide +kernel
theorem dX10_objectLine_109 : decode cX10_objectLine 109 = .ok (.istore 4, 2) := by decide +kernel
theorem dX10_objectLine_111 : decode cX10_objectLine 111 = .ok (.iload 4, 2) := by decide +kernel
theorem dX10_objectLine_113 : decode cX10_objectLine 113 = .ok (.iconst 3, 1) := by decide +kernel
theorem dX10_objectLine_114 : decode cX10_objectLine 114 = .ok (.if_icmp .ge 27, 3) := by decide +kernel
theorem dX10_objectLine_117 : decode cX10_objectLine 117 = .ok (.aload_n 0, 1) := by decide +kernel
theorem dX10_objectLine_118 : decode cX10_objectLine 118 = .ok (.getfield 137, 3) := by decide +kernel
theorem dX10_objectLine_121 : decode cX10_objectLine 121 = .ok (.iconst 3, 1) := by decide +kernel
theorem dX10_objectLine_122 : decode cX10_objectLine 122 = .ok (.iload_n 3, 1) := by decide +kernel
theorem dX10_objectLine_123 : decode cX10_objectLine 123 = .ok (.imul, 1) := by decide +kernel
theorem dX10_objectLine_124 : decode cX10_objectLine 124 = .ok (.iload 4, 2) := by decide +kernel
theorem dX10_objectLine_126 : decode cX10_objectLine 126 = .ok (.iadd, 1) := by decide +kernel
theorem dX10_objectLine_127 : decode cX10_objectLine 127 = .ok (.aload_n 0, 1) := by decide +kernel
theorem dX10_objectLine_128 : decode cX10_objectLine 128 = .ok (.getfield 122, 3) := by decide +kernel
theorem dX10_objectLine_131 : decode cX10_objectLine 131 = .ok (.iload 4, 2) := by decide +kernel
theorem dX10_objectLine_133 : decode cX10_objectLine 133 = .ok (.iaload, 1) := by decide +kernel
theorem dX10_objectLine_134 : decode cX10_objectLine 134 = .ok (.iastore, 1) := by decide +kernel
theorem dX10_objectLine_135 : decode cX10_objectLine 135 = .ok (.iinc 4 1, 3) := by decide +kernel
theorem dX10_objectLine_138 : decode cX10_objectLine 138 = .ok (.goto (-27), 3) := by decide +kernel
theorem dX10_objectLine_141 : decode cX10_objectLine 141 = .ok (.aload_n 0, 1) := by decide +kernel
theorem dX10_objectLine_142 : decode cX10_objectLine 142 = .ok (.getfield 125, 3) := by decide +kernel
theorem dX10_objectLine_145 : decode cX10_objectLine 145 = .ok (.bipush 8, 2) := by decide +kernel
theorem dX10_objectLine_147 : decode cX10_objectLine 147 = .ok (.dup2, 1) := by decide +kernel
theorem dX10_objectLine_148 : decode cX10_objectLine 148 = .ok (.iaload, 1) := by decide +kernel
theorem dX10_objectLine_149 : decode cX10_objectLine 149 = .ok (.iload_n 3, 1) := by decide +kernel
theorem dX10_objectLine_150 : decode cX10_objectLine 150 = .ok (.bipush 12, 2) := by decide +kernel
theorem dX10_objectLine_152 : decode cX10_objectLine 152 = .ok (.if_icmp .ge 7, 3) := by decide +kernel
theorem dX10_objectLine_155 : decode cX10_objectLine 155 = .ok (.iconst 1, 1) := by decide +kernel
theorem dX10_objectLine_156 : decode cX10_objectLine 156 = .ok (.goto 4, 3) := by decide +kernel
theorem dX10_objectLine_159 : decode cX10_objectLine 159 = .ok (.iconst 0, 1) := by decide +kernel
theorem dX10_objectLine_160 : decode cX10_objectLine 160 = .ok (.iadd, 1) := by decide +kernel
theorem dX10_objectLine_161 : decode cX10_objectLine 161 = .ok (.iastore, 1) := by decide +kernel
theorem dX10_objectLine_162 : decode cX10_objectLine 162 = .ok (.iconst 1, 1) := by decide +kernel
theorem dX10_objectLine_163 : decode cX10_objectLine 163 = .ok (.ireturn, 1) := by decide +kernel
def rmX10_objectLine : Room := { frames := 3, cells := 0, slots := 0, locals := 66 }
set_option maxRecDepth 100000 in
def g_X10_objectLine_111 (th : Nat) (p1 : Int32) (k111 : Int32 → Int32 → MM → Option (Int32 × MM)) (k141 : Int32 → MM → Option (Int32 × MM)) (x3 : Int32) (x4 : Int32) (m : MM) : Option (Int32 × MM) :=
  if 3 ≤ x4 then (k141 x3 m) else (chk (m.K th = 11) (ck m (m.R 1147 th 0) 22 (fun a1 => chk (inb x4 (m.N a1) = true) (ck m (m.R 1154 th 0) 22 (fun a2 => chk (inb ((3 * x3) + x4) (m.N a2) = true) (bnd (m.sI 22 a2 (Int32.toNatClampNeg ((3 * x3) + x4)) (m.I 22 a1 (Int32.toNatClampNeg x4))) (fun m1 => k111 x3 (x4 + 1) m1)))))))
set_option maxHeartbeats 4000000 in
set_option maxRecDepth 100000 in
theorem s_X10_objectLine_111 {Γ : GX} {E : EX} (C : Cx Γ E cX10_objectLine RX10 5) (hr : Γ.meth.sig.returnType = (some .boolean)) (hrm : Γ.rm = rmX10_objectLine) (th : Nat) (p1 : Int32) (k111 : Int32 → Int32 → MM → Option (Int32 × MM)) (k141 : Int32 → MM → Option (Int32 × MM)) (h111 : ∀ (x3 : Int32) (x4 : Int32) (m : MM), Sm (QM Γ E emI 0 0) Γ E 5 0 0 111 [(0, va_rf (some th)), (1, .int p1), (3, .int x3), (4, .int x4)] [] m (k111 x3 x4 m)) (h141 : ∀ (x3 : Int32) (m : MM), Sm (QM Γ E emI 0 0) Γ E 5 0 0 141 [(0, va_rf (some th)), (1, .int p1), (3, .int x3)] [] m (k141 x3 m)) (x3 : Int32) (x4 : Int32) (m : MM) : Sm (QM Γ E emI 0 0) Γ E 5 0 0 111 [(0, va_rf (some th)), (1, .int p1), (3, .int x3), (4, .int x4)] [] m (g_X10_objectLine_111 th p1 k111 k141 x3 x4 m) := by
  unfold g_X10_objectLine_111
  refine z_iload C dX10_objectLine_111 3 rfl ?_
  refine z_iconst (v := 3) C dX10_objectLine_113 (by decide) ?_
  refine z_icmp_ge (tgt := 141) C dX10_objectLine_114 (by decide) (fun c1 => ?_) (fun c1 => ?_)
  · exact z_sub [0, 1, 2] rfl (h141 x3 m)
  · refine z_aload_n C dX10_objectLine_117 rfl 0 rfl ?_
    refine z_chk (fun hk1 => ?_)
    refine z_getR C fl_RX10_137 rfl hk1 dX10_objectLine_118 ?_
    refine z_iconst (v := 3) C dX10_objectLine_121 (by decide) ?_
    refine z_iload_n C dX10_objectLine_122 rfl 2 rfl ?_
    refine z_imul C dX10_objectLine_123 ?_
    refine z_iload C dX10_objectLine_124 3 rfl ?_
    refine z_iadd C dX10_objectLine_126 ?_
    refine z_aload_n C dX10_objectLine_127 rfl 0 rfl ?_
    refine z_getR C fl_RX10_122 rfl hk1 dX10_objectLine_128 ?_
    refine z_iload C dX10_objectLine_131 3 rfl ?_
    refine z_ck (fun a1 hr1 hk2 => ?_)
    refine z_chk (fun hj1 => ?_)
    refine z_iald C hr1 hk2 hj1 dX10_objectLine_133 ?_
    refine z_ck (fun a2 hr2 hk3 => ?_)
    refine z_chk (fun hj2 => ?_)
    refine z_iast C hr2 hk3 hj2 dX10_objectLine_134 (fun m1 eK1 eN1 => ?_)
    refine z_iinc (v := 1) (L2 := [(4, .int (x4 + 1)), (0, va_rf (some th)), (1, .int p1), (3, .int x3)]) C dX10_objectLine_135 3 rfl (by decide) (by decide) rfl ?_
    refine z_goto (tgt := 111) C dX10_objectLine_138 (by decide) ?_
    exact z_sub [1, 2, 3, 0] rfl (h111 x3 (x4 + 1) m1)
def l_X10_objectLine_111 (th : Nat) (p1 : Int32) (k141 : Int32 → MM → Option (Int32 × MM)) : Nat → Int32 → Int32 → MM → Option (Int32 × MM) := lp (fun _ _ _ => none) (fun k111 => g_X10_objectLine_111 th p1 k111 k141)
theorem t_X10_objectLine_111 {Γ : GX} {E : EX} (C : Cx Γ E cX10_objectLine RX10 5) (hr : Γ.meth.sig.returnType = (some .boolean)) (hrm : Γ.rm = rmX10_objectLine) (th : Nat) (p1 : Int32) (k141 : Int32 → MM → Option (Int32 × MM)) (h141 : ∀ (x3 : Int32) (m : MM), Sm (QM Γ E emI 0 0) Γ E 5 0 0 141 [(0, va_rf (some th)), (1, .int p1), (3, .int x3)] [] m (k141 x3 m)) : ∀ (n : Nat) (x3 : Int32) (x4 : Int32) (m : MM), Sm (QM Γ E emI 0 0) Γ E 5 0 0 111 [(0, va_rf (some th)), (1, .int p1), (3, .int x3), (4, .int x4)] [] m (l_X10_objectLine_111 th p1 k141 n x3 x4 m) := by
  intro n
  induction n with
  | zero => intros; exact z_none
  | succ n ih => intro x3 x4 m; exact s_X10_objectLine_111 C hr hrm th p1 (l_X10_objectLine_111 th p1 k141 n) k141 ih h141 x3 x4 m
set_option maxRecDepth 100000 in
def g_X10_objectLine_141 (th : Nat) (p1 : Int32) (x3 : Int32) (m : MM) : Option (Int32 × MM) :=
  chk (m.K th = 11) (ck m (m.R 1150 th 0) 22 (fun a3 => chk (inb 8 (m.N a3) = true) (if 12 ≤ x3 then (chk (inb 8 (m.N a3) = true) (bnd (m.sI 22 a3 (Int32.toNatClampNeg 8) ((m.I 22 a3 (Int32.toNatClampNeg 8)) + 0)) (fun m2 => some (1, m2)))) else (chk (inb 8 (m.N a3) = true) (bnd (m.sI 22 a3 (Int32.toNatClampNeg 8) ((m.I 22 a3 (Int32.toNatClampNeg 8)) + 1)) (fun m3 => some (1, m3)))))))
set_option maxHeartbeats 4000000 in
set_option maxRecDepth 100000 in
theorem s_X10_objectLine_141 {Γ : GX} {E : EX} (C : Cx Γ E cX10_objectLine RX10 5) (hr : Γ.meth.sig.returnType = (some .boolean)) (hrm : Γ.rm = rmX10_objectLine) (th : Nat) (p1 : Int32) (x3 : Int32) (m : MM) : Sm (QM Γ E emI 0 0) Γ E 5 0 0 141 [(0, va_rf (some th)), (1, .int p1), (3, .int x3)] [] m (g_X10_objectLine_141 th p1 x3 m) := by
  unfold g_X10_objectLine_141
  refine z_aload_n C dX10_objectLine_141 rfl 0 rfl ?_
  refine z_chk (fun hk4 => ?_)
  refine z_getR C fl_RX10_125 rfl hk4 dX10_objectLine_142 ?_
  refine z_bipush (v := 8) C dX10_objectLine_145 (by decide) ?_
  refine z_dup2 C rfl (cat_rf _) dX10_objectLine_147 ?_
  refine z_ck (fun a3 hr3 hk5 => ?_)
  refine z_chk (fun hj3 => ?_)
  refine z_iald C hr3 hk5 hj3 dX10_objectLine_148 ?_
  refine z_iload_n C dX10_objectLine_149 rfl 2 rfl ?_
  refine z_bipush (v := 12) C dX10_objectLine_150 (by decide) ?_
  refine z_icmp_ge (tgt := 159) C dX10_objectLine_152 (by decide) (fun c2 => ?_) (fun c2 => ?_)
  · refine z_iconst (v := 0) C dX10_objectLine_159 (by decide) ?_
    refine z_iadd C dX10_objectLine_160 ?_
    refine z_chk (fun hj4 => ?_)
    refine z_iast C hr3 hk5 hj4 dX10_objectLine_161 (fun m2 eK2 eN2 => ?_)
    refine z_iconst (v := 1) C dX10_objectLine_162 (by decide) ?_
    exact z_zret C hr rfl dX10_objectLine_163
  · refine z_iconst (v := 1) C dX10_objectLine_155 (by decide) ?_
    refine z_goto (tgt := 160) C dX10_objectLine_156 (by decide) ?_
    refine z_iadd C dX10_objectLine_160 ?_
    refine z_chk (fun hj5 => ?_)
    refine z_iast C hr3 hk5 hj5 dX10_objectLine_161 (fun m3 eK3 eN3 => ?_)
    refine z_iconst (v := 1) C dX10_objectLine_162 (by decide) ?_
    exact z_zret C hr rfl dX10_objectLine_163
set_option maxRecDepth 100000 in
def g_X10_objectLine_87 (th : Nat) (p1 : Int32) (m : MM) : Option (Int32 × MM) :=
  chk (m.K th = 11) (cal (f_X10_number th 0 999 m) (fun r1 m4 => if r1 = 0 then (some (0, m4)) else (chk (m4.K th = 11) (ck m4 (m4.R 1150 th 0) 22 (fun a4 => chk (inb 8 (m4.N a4) = true) (bnd (m4.I 22 a4 (Int32.toNatClampNeg 8)) (fun y1 => l_X10_objectLine_111 th p1 (g_X10_objectLine_141 th p1) FU y1 0 m4)))))))
set_option maxHeartbeats 4000000 in
set_option maxRecDepth 100000 in
theorem s_X10_objectLine_87 {Γ : GX} {E : EX} (C : Cx Γ E cX10_objectLine RX10 5) (hr : Γ.meth.sig.returnType = (some .boolean)) (hrm : Γ.rm = rmX10_objectLine) (th : Nat) (p1 : Int32) (m : MM) : Sm (QM Γ E emI 0 0) Γ E 5 0 0 87 [(0, va_rf (some th)), (1, .int p1)] [] m (g_X10_objectLine_87 th p1 m) := by
  unfold g_X10_objectLine_87
  refine z_aload_n C dX10_objectLine_87 rfl 0 rfl ?_
  refine z_iconst (v := 0) C dX10_objectLine_88 (by decide) ?_
  refine z_sipush (v := 999) C dX10_objectLine_89 (by decide) ?_
  refine z_chk (fun hk6 => ?_)
  refine z_cVI [.int 0, .int 999] [] C mv_RX10_254 (fun r0 m0 h0 => M_X10_number _ _ _ _ _ _ _ _ h0) rfl rfl ⟨by rw [hrm]; exact Nat.le_of_ble_eq_true rfl, by rw [hrm]; exact Nat.le_of_ble_eq_true rfl⟩ ⟨by rw [hrm]; exact Nat.le_of_ble_eq_true rfl, by rw [hrm]; exact Nat.le_of_ble_eq_true rfl⟩ rfl hk6 rfl rfl rfl (Nat.le_of_ble_eq_true rfl) dX10_objectLine_92 (fun r1 m4 => ?_)
  refine z_if_ne (tgt := 100) C dX10_objectLine_95 (by decide) (fun c3 => ?_) (fun c3 => ?_)
  · refine z_aload_n C dX10_objectLine_100 rfl 0 rfl ?_
    refine z_chk (fun hk7 => ?_)
    refine z_getR C fl_RX10_125 rfl hk7 dX10_objectLine_101 ?_
    refine z_bipush (v := 8) C dX10_objectLine_104 (by decide) ?_
    refine z_ck (fun a4 hr4 hk8 => ?_)
    refine z_chk (fun hj6 => ?_)
    refine z_iald C hr4 hk8 hj6 dX10_objectLine_106 ?_
    refine z_bndI (fun y1 => ?_)
    refine z_istore_n (i := 3) (L2 := [(3, .int y1), (0, va_rf (some th)), (1, .int p1)]) C dX10_objectLine_107 rfl (by decide) rfl ?_
    refine z_iconst (v := 0) C dX10_objectLine_108 (by decide) ?_
    refine z_istore (i := 4) (L2 := [(4, .int 0), (3, .int y1), (0, va_rf (some th)), (1, .int p1)]) C dX10_objectLine_109 (by decide) rfl ?_
    exact z_sub [2, 3, 1, 0] rfl (t_X10_objectLine_111 C hr hrm th p1 (g_X10_objectLine_141 th p1) (s_X10_objectLine_141 C hr hrm th p1) FU y1 0 m4)
  · refine z_iconst (v := 0) C dX10_objectLine_98 (by decide) ?_
    exact z_zret C hr rfl dX10_objectLine_99
set_option maxRecDepth 100000 in
def g_X10_objectLine_18 (th : Nat) (p1 : Int32) (m : MM) : Option (Int32 × MM) :=
  chk (m.K th = 11) (ck m (m.R 1150 th 0) 22 (fun a5 => chk (inb 2 (m.N a5) = true) (cal (f_X10_number th 0 ((m.I 22 a5 (Int32.toNatClampNeg 2)) - 1) m) (fun r2 m5 => if r2 = 0 then (some (0, m5)) else (chk (m5.K th = 11) (bnd (m5.I 1140 th 0) (fun y2 => ck m5 (m5.R 1150 th 0) 22 (fun a6 => chk (inb 2 (m5.N a6) = true) (cal (f_X10_number th 0 ((m5.I 22 a6 (Int32.toNatClampNeg 2)) - 1) m5) (fun r3 m6 => if r3 = 0 then (some (0, m6)) else (chk (m6.K th = 11) (if (m6.I 1149 th 0) = 0 then (g_X10_objectLine_87 th p1 m6) else (ck m6 (m6.R 1147 th 0) 22 (fun a7 => chk (inb 0 (m6.N a7) = true) (chk (inb 1 (m6.N a7) = true) (if (m6.I 22 a7 (Int32.toNatClampNeg 0)) = (m6.I 22 a7 (Int32.toNatClampNeg 1)) then (cal (f_X10_later th 2 y2 m6) (fun r4 m7 => g_X10_objectLine_87 th p1 m7)) else (g_X10_objectLine_87 th p1 m6)))))))))))))))))
set_option maxHeartbeats 4000000 in
set_option maxRecDepth 100000 in
theorem s_X10_objectLine_18 {Γ : GX} {E : EX} (C : Cx Γ E cX10_objectLine RX10 5) (hr : Γ.meth.sig.returnType = (some .boolean)) (hrm : Γ.rm = rmX10_objectLine) (th : Nat) (p1 : Int32) (m : MM) : Sm (QM Γ E emI 0 0) Γ E 5 0 0 18 [(0, va_rf (some th)), (1, .int p1)] [] m (g_X10_objectLine_18 th p1 m) := by
  unfold g_X10_objectLine_18
  refine z_aload_n C dX10_objectLine_18 rfl 0 rfl ?_
  refine z_iconst (v := 0) C dX10_objectLine_19 (by decide) ?_
  refine z_aload_n C dX10_objectLine_20 rfl 0 rfl ?_
  refine z_chk (fun hk9 => ?_)
  refine z_getR C fl_RX10_125 rfl hk9 dX10_objectLine_21 ?_
  refine z_iconst (v := 2) C dX10_objectLine_24 (by decide) ?_
  refine z_ck (fun a5 hr5 hk10 => ?_)
  refine z_chk (fun hj7 => ?_)
  refine z_iald C hr5 hk10 hj7 dX10_objectLine_25 ?_
  refine z_iconst (v := 1) C dX10_objectLine_26 (by decide) ?_
  refine z_isub C dX10_objectLine_27 ?_
  refine z_cVI [.int 0, .int ((m.I 22 a5 (Int32.toNatClampNeg 2)) - 1)] [] C mv_RX10_254 (fun r0 m0 h0 => M_X10_number _ _ _ _ _ _ _ _ h0) rfl rfl ⟨by rw [hrm]; exact Nat.le_of_ble_eq_true rfl, by rw [hrm]; exact Nat.le_of_ble_eq_true rfl⟩ ⟨by rw [hrm]; exact Nat.le_of_ble_eq_true rfl, by rw [hrm]; exact Nat.le_of_ble_eq_true rfl⟩ rfl hk9 rfl rfl rfl (Nat.le_of_ble_eq_true rfl) dX10_objectLine_28 (fun r2 m5 => ?_)
  refine z_if_ne (tgt := 36) C dX10_objectLine_31 (by decide) (fun c4 => ?_) (fun c4 => ?_)
  · refine z_aload_n C dX10_objectLine_36 rfl 0 rfl ?_
    refine z_chk (fun hk11 => ?_)
    refine z_getI C fl_RX10_214 rfl hk11 dX10_objectLine_37 ?_
    refine z_bndI (fun y2 => ?_)
    refine z_istore_n (i := 2) (L2 := [(2, .int y2), (0, va_rf (some th)), (1, .int p1)]) C dX10_objectLine_40 rfl (by decide) rfl ?_
    refine z_aload_n C dX10_objectLine_41 rfl 1 rfl ?_
    refine z_iconst (v := 0) C dX10_objectLine_42 (by decide) ?_
    refine z_aload_n C dX10_objectLine_43 rfl 1 rfl ?_
    refine z_getR C fl_RX10_125 rfl hk11 dX10_objectLine_44 ?_
    refine z_iconst (v := 2) C dX10_objectLine_47 (by decide) ?_
    refine z_ck (fun a6 hr6 hk12 => ?_)
    refine z_chk (fun hj8 => ?_)
    refine z_iald C hr6 hk12 hj8 dX10_objectLine_48 ?_
    refine z_iconst (v := 1) C dX10_objectLine_49 (by decide) ?_
    refine z_isub C dX10_objectLine_50 ?_
    refine z_cVI [.int 0, .int ((m5.I 22 a6 (Int32.toNatClampNeg 2)) - 1)] [] C mv_RX10_254 (fun r0 m0 h0 => M_X10_number _ _ _ _ _ _ _ _ h0) rfl rfl ⟨by rw [hrm]; exact Nat.le_of_ble_eq_true rfl, by rw [hrm]; exact Nat.le_of_ble_eq_true rfl⟩ ⟨by rw [hrm]; exact Nat.le_of_ble_eq_true rfl, by rw [hrm]; exact Nat.le_of_ble_eq_true rfl⟩ rfl hk11 rfl rfl rfl (Nat.le_of_ble_eq_true rfl) dX10_objectLine_51 (fun r3 m6 => ?_)
    refine z_if_ne (tgt := 59) C dX10_objectLine_54 (by decide) (fun c5 => ?_) (fun c5 => ?_)
    · refine z_aload_n C dX10_objectLine_59 rfl 1 rfl ?_
      refine z_chk (fun hk13 => ?_)
      refine z_getI C fl_RX10_247 rfl hk13 dX10_objectLine_60 ?_
      refine z_if_eq (tgt := 87) C dX10_objectLine_63 (by decide) (fun c6 => ?_) (fun c6 => ?_)
      · exact z_sub [1, 2] rfl (s_X10_objectLine_87 C hr hrm th p1 m6)
      · refine z_aload_n C dX10_objectLine_66 rfl 1 rfl ?_
        refine z_getR C fl_RX10_122 rfl hk13 dX10_objectLine_67 ?_
        refine z_iconst (v := 0) C dX10_objectLine_70 (by decide) ?_
        refine z_ck (fun a7 hr7 hk14 => ?_)
        refine z_chk (fun hj9 => ?_)
        refine z_iald C hr7 hk14 hj9 dX10_objectLine_71 ?_
        refine z_aload_n C dX10_objectLine_72 rfl 1 rfl ?_
        refine z_getR C fl_RX10_122 rfl hk13 dX10_objectLine_73 ?_
        refine z_iconst (v := 1) C dX10_objectLine_76 (by decide) ?_
        refine z_chk (fun hj10 => ?_)
        refine z_iald C hr7 hk14 hj10 dX10_objectLine_77 ?_
        refine z_icmp_ne (tgt := 87) C dX10_objectLine_78 (by decide) (fun c7 => ?_) (fun c7 => ?_)
        · exact z_sub [1, 2] rfl (s_X10_objectLine_87 C hr hrm th p1 m6)
        · refine z_aload_n C dX10_objectLine_81 rfl 1 rfl ?_
          refine z_iconst (v := 2) C dX10_objectLine_82 (by decide) ?_
          refine z_iload_n C dX10_objectLine_83 rfl 0 rfl ?_
          refine z_cVV [.int 2, .int y2] [] C mv_RX10_243 (fun r0 m0 h0 => M_X10_later _ _ _ _ _ _ _ _ h0) rfl rfl ⟨by rw [hrm]; exact Nat.le_of_ble_eq_true rfl, by rw [hrm]; exact Nat.le_of_ble_eq_true rfl⟩ ⟨by rw [hrm]; exact Nat.le_of_ble_eq_true rfl, by rw [hrm]; exact Nat.le_of_ble_eq_true rfl⟩ rfl hk13 rfl rfl rfl (Nat.le_of_ble_eq_true rfl) dX10_objectLine_84 (fun r4 m7 => ?_)
          exact z_sub [1, 2] rfl (s_X10_objectLine_87 C hr hrm th p1 m7)
    · refine z_iconst (v := 0) C dX10_objectLine_57 (by decide) ?_
      exact z_zret C hr rfl dX10_objectLine_58
  · refine z_iconst (v := 0) C dX10_objectLine_34 (by decide) ?_
    exact z_zret C hr rfl dX10_objectLine_35
set_option maxRecDepth 100000 in
def g_X10_objectLine_0 (th : Nat) (p1 : Int32) (m : MM) : Option (Int32 × MM) :=
  chk (m.K th = 11) (ck m (m.R 1150 th 0) 22 (fun a8 => chk (inb 8 (m.N a8) = true) (if (m.I 22 a8 (Int32.toNatClampNeg 8)) = 12 then (cal (f_X10_later th 3 p1 m) (fun r5 m8 => g_X10_objectLine_18 th p1 m8)) else (g_X10_objectLine_18 th p1 m))))
set_option maxHeartbeats 4000000 in
set_option maxRecDepth 100000 in
theorem s_X10_objectLine_0 {Γ : GX} {E : EX} (C : Cx Γ E cX10_objectLine RX10 5) (hr : Γ.meth.sig.returnType = (some .boolean)) (hrm : Γ.rm = rmX10_objectLine) (th : Nat) (p1 : Int32) (m : MM) : Sm (QM Γ E emI 0 0) Γ E 5 0 0 0 [(0, va_rf (some th)), (1, .int p1)] [] m (g_X10_objectLine_0 th p1 m) := by
  unfold g_X10_objectLine_0
  refine z_aload_n C dX10_objectLine_0 rfl 0 rfl ?_
  refine z_chk (fun hk15 => ?_)
  refine z_getR C fl_RX10_125 rfl hk15 dX10_objectLine_1 ?_
  refine z_bipush (v := 8) C dX10_objectLine_4 (by decide) ?_
  refine z_ck (fun a8 hr8 hk16 => ?_)
  refine z_chk (fun hj11 => ?_)
  refine z_iald C hr8 hk16 hj11 dX10_objectLine_6 ?_
  refine z_bipush (v := 12) C dX10_objectLine_7 (by decide) ?_
  refine z_icmp_ne (tgt := 18) C dX10_objectLine_9 (by decide) (fun c8 => ?_) (fun c8 => ?_)
  · exact z_sub [0, 1] rfl (s_X10_objectLine_18 C hr hrm th p1 m)
  · refine z_aload_n C dX10_objectLine_12 rfl 0 rfl ?_
    refine z_iconst (v := 3) C dX10_objectLine_13 (by decide) ?_
    refine z_iload_n C dX10_objectLine_14 rfl 1 rfl ?_
    refine z_cVV [.int 3, .int p1] [] C mv_RX10_243 (fun r0 m0 h0 => M_X10_later _ _ _ _ _ _ _ _ h0) rfl rfl ⟨by rw [hrm]; exact Nat.le_of_ble_eq_true rfl, by rw [hrm]; exact Nat.le_of_ble_eq_true rfl⟩ ⟨by rw [hrm]; exact Nat.le_of_ble_eq_true rfl, by rw [hrm]; exact Nat.le_of_ble_eq_true rfl⟩ rfl hk15 rfl rfl rfl (Nat.le_of_ble_eq_true rfl) dX10_objectLine_15 (fun r5 m8 => ?_)
    exact z_sub [0, 1] rfl (s_X10_objectLine_18 C hr hrm th p1 m8)
def f_X10_objectLine (th : Nat) (p1 : Int32) (m : MM) : Option (Int32 × MM) := g_X10_objectLine_0 th p1 m
theorem M_X10_objectLine (l : Launch) (E : EX) (th : Nat) (p1 : Int32) (m : MM) (r : Int32) (m2 : MM) (h : f_X10_objectLine th p1 m = some (r, m2)) : Met l yX10_objectLine (.code yX10_objectLine cX10_objectLine 5 (some .boolean) :: TB) rmX10_objectLine (va_Pc [.ref th, .int p1] (St E m)) (QR E (emI r) m2) 0 0 (AA E) :=
  met_of (em := emI) (plainFor_of_name rfl) (Nat.le_of_ble_eq_true rfl) (L0 := [(0, va_rf (some th)), (1, .int p1)]) rfl (fun Γ _ hrm C hr hn => s_X10_objectLine_0 C hr hrm th p1 m) h

theorem dX10_pairLine_0 : decode cX10_pairLine 0 = .ok (.aload_n 0, 1) := by decide +kernel
theorem dX10_pairLine_1 : decode cX10_pairLine 1 = .ok (.iconst 0, 1) := by decide +kernel
theorem dX10_pairLine_2 : decode cX10_pairLine 2 = .ok (.iload_n 1, 1) := by decide +kernel
theorem dX10_pairLine_3 : decode cX10_pairLine 3 = .ok (.ifCond .eq 8, 3) := by decide +kernel
theorem dX10_pairLine_6 : decode cX10_pairLine 6 = .ok (.bipush 7, 2) := by decide +kernel
theorem dX10_pairLine_8 : decode cX10_pairLine 8 = .ok (.goto 19, 3) := by decide +kernel
theorem dX10_pairLine_11 : decode cX10_pairLine 11 = .ok (.iload_n 2, 1) := by decide +kernel
theorem dX10_pairLine_12 : decode cX10_pairLine 12 = .ok (.ifCond .eq 14, 3) := by decide +kernel
theorem dX10_pairLine_15 : decode cX10_pairLine 15 = .ok (.aload_n 0, 1) := by decide +kernel
theorem dX10_pairLine_16 : decode cX10_pairLine 16 = .ok (.getfield 125, 3) := by decide +kernel
theorem dX10_pairLine_19 : decode cX10_pairLine 19 = .ok (.iconst 2, 1) := by decide +kernel
theorem dX10_pairLine_20 : decode cX10_pairLine 20 = .ok (.iaload, 1) := by decide +kernel
theorem dX10_pairLine_21 : decode cX10_pairLine 21 = .ok (.iconst 1, 1) := by decide +kernel
theorem dX10_pairLine_22 : decode cX10_pairLine 22 = .ok (.isub, 1) := by decide +kernel
theorem dX10_pairLine_23 : decode cX10_pairLine 23 = .ok (.goto 4, 3) := by decide +kernel
theorem dX10_pairLine_26 : decode cX10_pairLine 26 = .ok (.iconst 5, 1) := by decide +kernel
theorem dX10_pairLine_27 : decode cX10_pairLine 27 = .ok (.invokevirtual 254, 3) := by decide +kernel
theorem dX10_pairLine_30 : decode cX10_pairLine 30 = .ok (.ifCond .eq 34, 3) := by decide +kernel
theorem dX10_pairLine_33 : decode cX10_pairLine 33 = .ok (.aload_n 0, 1) := by decide +kernel
theorem dX10_pairLine_34 : decode cX10_pairLine 34 = .ok (.iload_n 1, 1) := by decide +kernel
theorem dX10_pairLine_35 : decode cX10_pairLine 35 = .ok (.ifCond .ne 7, 3) := by decide +kernel
theorem dX10_pairLine_38 : decode cX10_pairLine 38 = .ok (.iload_n 2, 1) := by decide +kernel
theorem dX10_pairLine_39 : decode cX10_pairLine 39 = .ok (.ifCond .eq 7, 3) := by decide +kernel
theorem dX10_pairLine_42 : decode cX10_pairLine 42 = .ok (.iconst 0, 1) := by decide +kernel
theorem dX10_pairLine_43 : decode cX10_pairLine 43 = .ok (.goto 4, 3) := by decide +kernel
theorem dX10_pairLine_46 : decode cX10_pairLine 46 = .ok (.iconst 1, 1) := by decide +kernel
theorem dX10_pairLine_47 : decode cX10_pairLine 47 = .ok (.iload_n 1, 1) := by decide +kernel
theorem dX10_pairLine_48 : decode cX10_pairLine 48 = .ok (.ifCond .eq 8, 3) := by decide +kernel
theorem dX10_pairLine_51 : decode cX10_pairLine 51 = .ok (.bipush 7, 2) := by decide +kernel
theorem dX10_pairLine_53 : decode cX10_pairLine 53 = .ok (.goto 5, 3) := by decide +kernel
theorem dX10_pairLine_56 : decode cX10_pairLine 56 = .ok (.bipush 99, 2) := by decide +kernel
theorem dX10_pairLine_58 : decode cX10_pairLine 58 = .ok (.invokevirtual 254, 3) := by decide +kernel
theorem dX10_pairLine_61 : decode cX10_pairLine 61 = .ok (.ifCond .ne 5, 3) := by decide +kernel
theorem dX10_pairLine_64 : decode cX10_pairLine 64 = .ok (.iconst 0, 1) := by decide +kernel
theorem dX10_pairLine_65 : decode cX10_pairLine 65 = .ok (.ireturn, 1) := by decide +kernel
theorem dX10_pairLine_66 : decode cX10_pairLine 66 = .ok (.aload_n 0, 1) := by decide +kernel
theorem dX10_pairLine_67 : decode cX10_pairLine 67 = .ok (.getfield 247, 3) := by decide +kernel
theorem dX10_pairLine_70 : decode cX10_pairLine 70 = .ok (.ifCond .eq 33, 3) := by decide +kernel
theorem dX10_pairLine_73 : decode cX10_pairLine 73 = .ok (.iload_n 2, 1) := by decide +kernel
theorem dX10_pairLine_74 : decode cX10_pairLine 74 = .ok (.ifCond .eq 29, 3) := by decide +kernel
theorem dX10_pairLine_77 : decode cX10_pairLine 77 = .ok (.aload_n 0, 1) := by decide +kernel
theorem dX10_pairLine_78 : decode cX10_pairLine 78 = .ok (.getfield 128, 3) := by decide +kernel
theorem dX10_pairLine_81 : decode cX10_pairLine 81 = .ok (.bipush 7, 2) := by decide +kernel
theorem dX10_pairLine_83 : decode cX10_pairLine 83 = .ok (.aload_n 0, 1) := by decide +kernel
theorem dX10_pairLine_84 : decode cX10_pairLine 84 = .ok (.getfield 122, 3) := by decide +kernel
theorem dX10_pairLine_87 : decode cX10_pairLine 87 = .ok (.iconst 0, 1) := by decide +kernel
theorem dX10_pairLine_88 : decode cX10_pairLine 88 = .ok (.iaload, 1) := by decide +kernel
theorem dX10_pairLine_89 : decode cX10_pairLine 89 = .ok (.imul, 1) := by decide +kernel
theorem dX10_pairLine_90 : decode cX10_pairLine 90 = .ok (.bipush 6, 2) := by decide +kernel
theorem dX10_pairLine_92 : decode cX10_pairLine 92 = .ok (.iadd, 1) := by decide +kernel
theorem dX10_pairLine_93 : decode cX10_pairLine 93 = .ok (.aload_n 0, 1) := by decide +kernel
theorem dX10_pairLine_94 : decode cX10_pairLine 94 = .ok (.getfield 122, 3) := by decide +kernel
theorem dX10_pairLine_97 : decode cX10_pairLine 97 = .ok (.iconst 1, 1) := by decide +kernel
theorem dX10_pairLine_98 : decode cX10_pairLine 98 = .ok (.iaload, 1) := by decide +kernel
theorem dX10_pairLine_99 : decode cX10_pairLine 99 = .ok (.iastore, 1) := by decide +kernel
theorem dX10_pairLine_100 : decode cX10_pairLine 100 = .ok (.goto 39, 3) := by decide +kernel
theorem dX10_pairLine_103 : decode cX10_pairLine 103 = .ok (.aload_n 0, 1) := by decide +kernel
theorem dX10_pairLine_104 : decode cX10_pairLine 104 = .ok (.getfield 247, 3) := by decide +kernel
theorem dX10_pairLine_107 : decode cX10_pairLine 107 = .ok (.ifCond .eq 32, 3) := by decide +kernel
theorem dX10_pairLine_110 : decode cX10_pairLine 110 = .ok (.aload_n 0, 1) := by decide +kernel
theorem dX10_pairLine_111 : decode cX10_pairLine 111 = .ok (.getfield 125, 3) := by decide +kernel
theorem dX10_pairLine_114 : decode cX10_pairLine 114 = .ok (.iload_n 1, 1) := by decide +kernel
theorem dX10_pairLine_115 : decode cX10_pairLine 115 = .ok (.ifCond .eq 8, 3) := by decide +kernel
theorem dX10_pairLine_118 : decode cX10_pairLine 118 = .ok (.bipush 10, 2) := by decide +kernel
theorem dX10_pairLine_120 : decode cX10_pairLine 120 = .ok (.goto 5, 3) := by decide +kernel
theorem dX10_pairLine_123 : decode cX10_pairLine 123 = .ok (.bipush 18, 2) := by decide +kernel
theorem dX10_pairLine_125 : decode cX10_pairLine 125 = .ok (.aload_n 0, 1) := by decide +kernel
theorem dX10_pairLine_126 : decode cX10_pairLine 126 = .ok (.getfield 122, 3) := by decide +kernel
theorem dX10_pairLine_129 : decode cX10_pairLine 129 = .ok (.iconst 0, 1) := by decide +kernel
theorem dX10_pairLine_130 : decode cX10_pairLine 130 = .ok (.iaload, 1) := by decide +kernel
theorem dX10_pairLine_131 : decode cX10_pairLine 131 = .ok (.iadd, 1) := by decide +kernel
theorem dX10_pairLine_132 : decode cX10_pairLine 132 = .ok (.aload_n 0, 1) := by decide +kernel
theorem dX10_pairLine_133 : decode cX10_pairLine 133 = .ok (.getfield 122, 3) := by decide +kernel
theorem dX10_pairLine_136 : decode cX10_pairLine 136 = .ok (.iconst 1, 1) := by decide +kernel
theorem dX10_pairLine_137 : decode cX10_pairLine 137 = .ok (.iaload, 1) := by decide +kernel
theorem dX10_pairLine_138 : decode cX10_pairLine 138 = .ok (.iastore, 1) := by decide +kernel
theorem dX10_pairLine_139 : decode cX10_pairLine 139 = .ok (.iconst 1, 1) := by decide +kernel
theorem dX10_pairLine_140 : decode cX10_pairLine 140 = .ok (.ireturn, 1) := by decide +kernel
def rmX10_pairLine : Room := { frames := 3, cells := 0, slots := 0, locals := 66 }
set_option maxRecDepth 100000 in
def g_X10_pairLine_125 (th : Nat) (p1 : Int32) (p2 : Int32) (s0 : Option Nat) (s1 : Int32) (m : MM) : Option (Int32 × MM) :=
  chk (m.K th = 11) (ck m (m.R 1147 th 0) 22 (fun a1 => chk (inb 0 (m.N a1) = true) (chk (inb 1 (m.N a1) = true) (ck m s0 22 (fun a2 => chk (inb (s1 + (m.I 22 a1 (Int32.toNatClampNeg 0))) (m.N a2) = true) (bnd (m.sI 22 a2 (Int32.toNatClampNeg (s1 + (m.I 22 a1 (Int32.toNatClampNeg 0)))) (m.I 22 a1 (Int32.toNatClampNeg 1))) (fun m1 => some (1, m1))))))))
set_option maxHeartbeats 4000000 in
set_option maxRecDepth 100000 in
theorem s_X10_pairLine_125 {Γ : GX} {E : EX} (C : Cx Γ E cX10_pairLine RX10 3) (hr : Γ.meth.sig.returnType = (some .boolean)) (hrm : Γ.rm = rmX10_pairLine) (th : Nat) (p1 : Int32) (p2 : Int32) (s0 : Option Nat) (s1 : Int32) (m : MM) : Sm (QM Γ E emI 0 0) Γ E 3 0 0 125 [(0, va_rf (some th)), (1, .int p1), (2, .int p2)] [.int s1, va_rf s0] m (g_X10_pairLine_125 th p1 p2 s0 s1 m) := by
  unfold g_X10_pairLine_125
  refine z_aload_n C dX10_pairLine_125 rfl 0 rfl ?_
  refine z_chk (fun hk1 => ?_)
  refine z_getR C fl_RX10_122 rfl hk1 dX10_pairLine_126 ?_
  refine z_iconst (v := 0) C dX10_pairLine_129 (by decide) ?_
  refine z_ck (fun a1 hr1 hk2 => ?_)
  refine z_chk (fun hj1 => ?_)
  refine z_iald C hr1 hk2 hj1 dX10_pairLine_130 ?_
  refine z_iadd C dX10_pairLine_131 ?_
  refine z_aload_n C dX10_pairLine_132 rfl 0 rfl ?_
  refine z_getR C fl_RX10_122 rfl hk1 dX10_pairLine_133 ?_
  refine z_iconst (v := 1) C dX10_pairLine_136 (by decide) ?_
  refine z_chk (fun hj2 => ?_)
  refine z_iald C hr1 hk2 hj2 dX10_pairLine_137 ?_
  refine z_ck (fun a2 hr2 hk3 => ?_)
  refine z_chk (fun hj3 => ?_)
  refine z_iast C hr2 hk3 hj3 dX10_pairLine_138 (fun m1 eK1 eN1 => ?_)
  refine z_iconst (v := 1) C dX10_pairLine_139 (by decide) ?_
  exact z_zret C hr rfl dX10_pairLine_140
set_option maxRecDepth 100000 in
def g_X10_pairLine_103 (th : Nat) (p1 : Int32) (p2 : Int32) (m : MM) : Option (Int32 × MM) :=
  chk (m.K th = 11) (if (m.I 1149 th 0) = 0 then (some (1, m)) else (if p1 = 0 then (g_X10_pairLine_125 th p1 p2 (m.R 1150 th 0) 18 m) else (g_X10_pairLine_125 th p1 p2 (m.R 1150 th 0) 10 m)))
set_option maxHeartbeats 4000000 in
set_option maxRecDepth 100000 in
theorem s_X10_pairLine_103 {Γ : GX} {E : EX} (C : Cx Γ E cX10_pairLine RX10 3) (hr : Γ.meth.sig.returnType = (some .boolean)) (hrm : Γ.rm = rmX10_pairLine) (th : Nat) (p1 : Int32) (p2 : Int32) (m : MM) : Sm (QM Γ E emI 0 0) Γ E 3 0 0 103 [(0, va_rf (some th)), (1, .int p1), (2, .int p2)] [] m (g_X10_pairLine_103 th p1 p2 m) := by
  unfold g_X10_pairLine_103
  refine z_aload_n C dX10_pairLine_103 rfl 0 rfl ?_
  refine z_chk (fun hk4 => ?_)
  refine z_getI C fl_RX10_247 rfl hk4 dX10_pairLine_104 ?_
  refine z_if_eq (tgt := 139) C dX10_pairLine_107 (by decide) (fun c1 => ?_) (fun c1 => ?_)
  · refine z_iconst (v := 1) C dX10_pairLine_139 (by decide) ?_
    exact z_zret C hr rfl dX10_pairLine_140
  · refine z_aload_n C dX10_pairLine_110 rfl 0 rfl ?_
    refine z_getR C fl_RX10_125 rfl hk4 dX10_pairLine_111 ?_
    refine z_iload_n C dX10_pairLine_114 rfl 1 rfl ?_
    refine z_if_eq (tgt := 123) C dX10_pairLine_115 (by decide) (fun c2 => ?_) (fun c2 => ?_)
    · refine z_bipush (v := 18) C dX10_pairLine_123 (by decide) ?_
      exact z_sub [0, 1, 2] rfl (s_X10_pairLine_125 C hr hrm th p1 p2 (m.R 1150 th 0) 18 m)
    · refine z_bipush (v := 10) C dX10_pairLine_118 (by decide) ?_
      refine z_goto (tgt := 125) C dX10_pairLine_120 (by decide) ?_
      exact z_sub [0, 1, 2] rfl (s_X10_pairLine_125 C hr hrm th p1 p2 (m.R 1150 th 0) 10 m)
set_option maxRecDepth 100000 in
def g_X10_pairLine_58 (th : Nat) (p1 : Int32) (p2 : Int32) (s0 : Option Nat) (s1 : Int32) (s2 : Int32) (m : MM) : Option (Int32 × MM) :=
  ck m s0 11 (fun a3 => cal (f_X10_number a3 s1 s2 m) (fun r1 m2 => if r1 = 0 then (some (0, m2)) else (chk (m2.K th = 11) (if (m2.I 1149 th 0) = 0 then (g_X10_pairLine_103 th p1 p2 m2) else (if p2 = 0 then (g_X10_pairLine_103 th p1 p2 m2) else (ck m2 (m2.R 1147 th 0) 22 (fun a4 => chk (inb 0 (m2.N a4) = true) (chk (inb 1 (m2.N a4) = true) (ck m2 (m2.R 1151 th 0) 22 (fun a5 => chk (inb ((7 * (m2.I 22 a4 (Int32.toNatClampNeg 0))) + 6) (m2.N a5) = true) (bnd (m2.sI 22 a5 (Int32.toNatClampNeg ((7 * (m2.I 22 a4 (Int32.toNatClampNeg 0))) + 6)) (m2.I 22 a4 (Int32.toNatClampNeg 1))) (fun m3 => some (1, m3)))))))))))))
set_option maxHeartbeats 4000000 in
set_option maxRecDepth 100000 in
theorem s_X10_pairLine_58 {Γ : GX} {E : EX} (C : Cx Γ E cX10_pairLine RX10 3) (hr : Γ.meth.sig.returnType = (some .boolean)) (hrm : Γ.rm = rmX10_pairLine) (th : Nat) (p1 : Int32) (p2 : Int32) (s0 : Option Nat) (s1 : Int32) (s2 : Int32) (m : MM) : Sm (QM Γ E emI 0 0) Γ E 3 0 0 58 [(0, va_rf (some th)), (1, .int p1), (2, .int p2)] [.int s2, .int s1, va_rf s0] m (g_X10_pairLine_58 th p1 p2 s0 s1 s2 m) := by
  unfold g_X10_pairLine_58
  refine z_ck (fun a3 hr3 hk5 => ?_)
  refine z_cVI [.int s1, .int s2] [] C mv_RX10_254 (fun r0 m0 h0 => M_X10_number _ _ _ _ _ _ _ _ h0) rfl rfl ⟨by rw [hrm]; exact Nat.le_of_ble_eq_true rfl, by rw [hrm]; exact Nat.le_of_ble_eq_true rfl⟩ ⟨by rw [hrm]; exact Nat.le_of_ble_eq_true rfl, by rw [hrm]; exact Nat.le_of_ble_eq_true rfl⟩ hr3 hk5 rfl rfl rfl (Nat.le_of_ble_eq_true rfl) dX10_pairLine_58 (fun r1 m2 => ?_)
  refine z_if_ne (tgt := 66) C dX10_pairLine_61 (by decide) (fun c3 => ?_) (fun c3 => ?_)
  · refine z_aload_n C dX10_pairLine_66 rfl 0 rfl ?_
    refine z_chk (fun hk6 => ?_)
    refine z_getI C fl_RX10_247 rfl hk6 dX10_pairLine_67 ?_
    refine z_if_eq (tgt := 103) C dX10_pairLine_70 (by decide) (fun c4 => ?_) (fun c4 => ?_)
    · exact z_sub [0, 1, 2] rfl (s_X10_pairLine_103 C hr hrm th p1 p2 m2)
    · refine z_iload_n C dX10_pairLine_73 rfl 2 rfl ?_
      refine z_if_eq (tgt := 103) C dX10_pairLine_74 (by decide) (fun c5 => ?_) (fun c5 => ?_)
      · exact z_sub [0, 1, 2] rfl (s_X10_pairLine_103 C hr hrm th p1 p2 m2)
      · refine z_aload_n C dX10_pairLine_77 rfl 0 rfl ?_
        refine z_getR C fl_RX10_128 rfl hk6 dX10_pairLine_78 ?_
        refine z_bipush (v := 7) C dX10_pairLine_81 (by decide) ?_
        refine z_aload_n C dX10_pairLine_83 rfl 0 rfl ?_
        refine z_getR C fl_RX10_122 rfl hk6 dX10_pairLine_84 ?_
        refine z_iconst (v := 0) C dX10_pairLine_87 (by decide) ?_
        refine z_ck (fun a4 hr4 hk7 => ?_)
        refine z_chk (fun hj4 => ?_)
        refine z_iald C hr4 hk7 hj4 dX10_pairLine_88 ?_
        refine z_imul C dX10_pairLine_89 ?_
        refine z_bipush (v := 6) C dX10_pairLine_90 (by decide) ?_
        refine z_iadd C dX10_pairLine_92 ?_
        refine z_aload_n C dX10_pairLine_93 rfl 0 rfl ?_
        refine z_getR C fl_RX10_122 rfl hk6 dX10_pairLine_94 ?_
        refine z_iconst (v := 1) C dX10_pairLine_97 (by decide) ?_
        refine z_chk (fun hj5 => ?_)
        refine z_iald C hr4 hk7 hj5 dX10_pairLine_98 ?_
        refine z_ck (fun a5 hr5 hk8 => ?_)
        refine z_chk (fun hj6 => ?_)
        refine z_iast C hr5 hk8 hj6 dX10_pairLine_99 (fun m3 eK2 eN2 => ?_)
        refine z_goto (tgt := 139) C dX10_pairLine_100 (by decide) ?_
        refine z_iconst (v := 1) C dX10_pairLine_139 (by decide) ?_
        exact z_zret C hr rfl dX10_pairLine_140
  · refine z_iconst (v := 0) C dX10_pairLine_64 (by decide) ?_
    exact z_zret C hr rfl dX10_pairLine_65
set_option maxRecDepth 100000 in
def g_X10_pairLine_47 (th : Nat) (p1 : Int32) (p2 : Int32) (s0 : Option Nat) (s1 : Int32) (m : MM) : Option (Int32 × MM) :=
  if p1 = 0 then (g_X10_pairLine_58 th p1 p2 s0 s1 99 m) else (g_X10_pairLine_58 th p1 p2 s0 s1 7 m)
set_option maxHeartbeats 4000000 in
set_option maxRecDepth 100000 in
theorem s_X10_pairLine_47 {Γ : GX} {E : EX} (C : Cx Γ E cX10_pairLine RX10 3) (hr : Γ.meth.sig.returnType = (some .boolean)) (hrm : Γ.rm = rmX10_pairLine) (th : Nat) (p1 : Int32) (p2 : Int32) (s0 : Option Nat) (s1 : Int32) (m : MM) : Sm (QM Γ E emI 0 0) Γ E 3 0 0 47 [(0, va_rf (some th)), (1, .int p1), (2, .int p2)] [.int s1, va_rf s0] m (g_X10_pairLine_47 th p1 p2 s0 s1 m) := by
  unfold g_X10_pairLine_47
  refine z_iload_n C dX10_pairLine_47 rfl 1 rfl ?_
  refine z_if_eq (tgt := 56) C dX10_pairLine_48 (by decide) (fun c6 => ?_) (fun c6 => ?_)
  · refine z_bipush (v := 99) C dX10_pairLine_56 (by decide) ?_
    exact z_sub [0, 1, 2] rfl (s_X10_pairLine_58 C hr hrm th p1 p2 s0 s1 99 m)
  · refine z_bipush (v := 7) C dX10_pairLine_51 (by decide) ?_
    refine z_goto (tgt := 58) C dX10_pairLine_53 (by decide) ?_
    exact z_sub [0, 1, 2] rfl (s_X10_pairLine_58 C hr hrm th p1 p2 s0 s1 7 m)
set_option maxRecDepth 100000 in
def g_X10_pairLine_42 (th : Nat) (p1 : Int32) (p2 : Int32) (s0 : Option Nat) (m : MM) : Option (Int32 × MM) :=
  g_X10_pairLine_47 th p1 p2 s0 0 m
set_option maxHeartbeats 4000000 in
set_option maxRecDepth 100000 in
theorem s_X10_pairLine_42 {Γ : GX} {E : EX} (C : Cx Γ E cX10_pairLine RX10 3) (hr : Γ.meth.sig.returnType = (some .boolean)) (hrm : Γ.rm = rmX10_pairLine) (th : Nat) (p1 : Int32) (p2 : Int32) (s0 : Option Nat) (m : MM) : Sm (QM Γ E emI 0 0) Γ E 3 0 0 42 [(0, va_rf (some th)), (1, .int p1), (2, .int p2)] [va_rf s0] m (g_X10_pairLine_42 th p1 p2 s0 m) := by
  unfold g_X10_pairLine_42
  refine z_iconst (v := 0) C dX10_pairLine_42 (by decide) ?_
  refine z_goto (tgt := 47) C dX10_pairLine_43 (by decide) ?_
  exact z_sub [0, 1, 2] rfl (s_X10_pairLine_47 C hr hrm th p1 p2 s0 0 m)
set_option maxRecDepth 100000 in
def g_X10_pairLine_27 (th : Nat) (p1 : Int32) (p2 : Int32) (s0 : Option Nat) (s1 : Int32) (s2 : Int32) (m : MM) : Option (Int32 × MM) :=
  ck m s0 11 (fun a6 => cal (f_X10_number a6 s1 s2 m) (fun r2 m4 => if r2 = 0 then (some (0, m4)) else (if p1 = 0 then (if p2 = 0 then (g_X10_pairLine_47 th p1 p2 (some th) 1 m4) else (g_X10_pairLine_42 th p1 p2 (some th) m4)) else (g_X10_pairLine_42 th p1 p2 (some th) m4))))
set_option maxHeartbeats 4000000 in
set_option maxRecDepth 100000 in
theorem s_X10_pairLine_27 {Γ : GX} {E : EX} (C : Cx Γ E cX10_pairLine RX10 3) (hr : Γ.meth.sig.returnType = (some .boolean)) (hrm : Γ.rm = rmX10_pairLine) (th : Nat) (p1 : Int32) (p2 : Int32) (s0 : Option Nat) (s1 : Int32) (s2 : Int32) (m : MM) : Sm (QM Γ E emI 0 0) Γ E 3 0 0 27 [(0, va_rf (some th)), (1, .int p1), (2, .int p2)] [.int s2, .int s1, va_rf s0] m (g_X10_pairLine_27 th p1 p2 s0 s1 s2 m) := by
  unfold g_X10_pairLine_27
  refine z_ck (fun a6 hr6 hk9 => ?_)
  refine z_cVI [.int s1, .int s2] [] C mv_RX10_254 (fun r0 m0 h0 => M_X10_number _ _ _ _ _ _ _ _ h0) rfl rfl ⟨by rw [hrm]; exact Nat.le_of_ble_eq_true rfl, by rw [hrm]; exact Nat.le_of_ble_eq_true rfl⟩ ⟨by rw [hrm]; exact Nat.le_of_ble_eq_true rfl, by rw [hrm]; exact Nat.le_of_ble_eq_true rfl⟩ hr6 hk9 rfl rfl rfl (Nat.le_of_ble_eq_true rfl) dX10_pairLine_27 (fun r2 m4 => ?_)
  refine z_if_eq (tgt := 64) C dX10_pairLine_30 (by decide) (fun c7 => ?_) (fun c7 => ?_)
  · refine z_iconst (v := 0) C dX10_pairLine_64 (by decide) ?_
    exact z_zret C hr rfl dX10_pairLine_65
  · refine z_aload_n C dX10_pairLine_33 rfl 0 rfl ?_
    refine z_iload_n C dX10_pairLine_34 rfl 1 rfl ?_
    refine z_if_ne (tgt := 42) C dX10_pairLine_35 (by decide) (fun c8 => ?_) (fun c8 => ?_)
    · exact z_sub [0, 1, 2] rfl (s_X10_pairLine_42 C hr hrm th p1 p2 (some th) m4)
    · refine z_iload_n C dX10_pairLine_38 rfl 2 rfl ?_
      refine z_if_eq (tgt := 46) C dX10_pairLine_39 (by decide) (fun c9 => ?_) (fun c9 => ?_)
      · refine z_iconst (v := 1) C dX10_pairLine_46 (by decide) ?_
        exact z_sub [0, 1, 2] rfl (s_X10_pairLine_47 C hr hrm th p1 p2 (some th) 1 m4)
      · exact z_sub [0, 1, 2] rfl (s_X10_pairLine_42 C hr hrm th p1 p2 (some th) m4)
set_option maxRecDepth 100000 in
def g_X10_pairLine_0 (th : Nat) (p1 : Int32) (p2 : Int32) (m : MM) : Option (Int32 × MM) :=
  if p1 = 0 then (if p2 = 0 then (g_X10_pairLine_27 th p1 p2 (some th) 0 5 m) else (chk (m.K th = 11) (ck m (m.R 1150 th 0) 22 (fun a7 => chk (inb 2 (m.N a7) = true) (g_X10_pairLine_27 th p1 p2 (some th) 0 ((m.I 22 a7 (Int32.toNatClampNeg 2)) - 1) m))))) else (g_X10_pairLine_27 th p1 p2 (some th) 0 7 m)
set_option maxHeartbeats 4000000 in
set_option maxRecDepth 100000 in
theorem s_X10_pairLine_0 {Γ : GX} {E : EX} (C : Cx Γ E cX10_pairLine RX10 3) (hr : Γ.meth.sig.returnType = (some .boolean)) (hrm : Γ.rm = rmX10_pairLine) (th : Nat) (p1 : Int32) (p2 : Int32) (m : MM) : Sm (QM Γ E emI 0 0) Γ E 3 0 0 0 [(0, va_rf (some th)), (1, .int p1), (2, .int p2)] [] m (g_X10_pairLine_0 th p1 p2 m) := by
  unfold g_X10_pairLine_0
  refine z_aload_n C dX10_pairLine_0 rfl 0 rfl ?_
  refine z_iconst (v := 0) C dX10_pairLine_1 (by decide) ?_
  refine z_iload_n C dX10_pairLine_2 rfl 1 rfl ?_
  refine z_if_eq (tgt := 11) C dX10_pairLine_3 (by decide) (fun c10 => ?_) (fun c10 => ?_)
  · refine z_iload_n C dX10_pairLine_11 rfl 2 rfl ?_
    refine z_if_eq (tgt := 26) C dX10_pairLine_12 (by decide) (fun c11 => ?_) (fun c11 => ?_)
    · refine z_iconst (v := 5) C dX10_pairLine_26 (by decide) ?_
      exact z_sub [0, 1, 2] rfl (s_X10_pairLine_27 C hr hrm th p1 p2 (some th) 0 5 m)
    · refine z_aload_n C dX10_pairLine_15 rfl 0 rfl ?_
      refine z_chk (fun hk10 => ?_)
      refine z_getR C fl_RX10_125 rfl hk10 dX10_pairLine_16 ?_
      refine z_iconst (v := 2) C dX10_pairLine_19 (by decide) ?_
      refine z_ck (fun a7 hr7 hk11 => ?_)
      refine z_chk (fun hj7 => ?_)
      refine z_iald C hr7 hk11 hj7 dX10_pairLine_20 ?_
      refine z_iconst (v := 1) C dX10_pairLine_21 (by decide) ?_
      refine z_isub C dX10_pairLine_22 ?_
      refine z_goto (tgt := 27) C dX10_pairLine_23 (by decide) ?_
      exact z_sub [0, 1, 2] rfl (s_X10_pairLine_27 C hr hrm th p1 p2 (some th) 0 ((m.I 22 a7 (Int32.toNatClampNeg 2)) - 1) m)
  · refine z_bipush (v := 7) C dX10_pairLine_6 (by decide) ?_
    refine z_goto (tgt := 27) C dX10_pairLine_8 (by decide) ?_
    exact z_sub [0, 1, 2] rfl (s_X10_pairLine_27 C hr hrm th p1 p2 (some th) 0 7 m)
def f_X10_pairLine (th : Nat) (p1 : Int32) (p2 : Int32) (m : MM) : Option (Int32 × MM) := g_X10_pairLine_0 th p1 p2 m
theorem M_X10_pairLine (l : Launch) (E : EX) (th : Nat) (p1 : Int32) (p2 : Int32) (m : MM) (r : Int32) (m2 : MM) (h : f_X10_pairLine th p1 p2 m = some (r, m2)) : Met l yX10_pairLine (.code yX10_pairLine cX10_pairLine 3 (some .boolean) :: TB) rmX10_pairLine (va_Pc [.ref th, .int p1, .int p2] (St E m)) (QR E (emI r) m2) 0 0 (AA E) :=
  met_of (em := emI) (plainFor_of_name rfl) (Nat.le_of_ble_eq_true rfl) (L0 := [(0, va_rf (some th)), (1, .int p1), (2, .int p2)]) rfl (fun Γ _ hrm C hr hn => s_X10_pairLine_0 C hr hrm th p1 p2 m) h

theorem dX10_townLine_0 : decode cX10_townLine 0 = .ok (.aload_n 0, 1) := by decide +kernel
theorem dX10_townLine_1 : decode cX10_townLine 1 = .ok (.getfield 214, 3) := by decide +kernel
theorem dX10_townLine_4 : decode cX10_townLine 4 = .ok (.istore_n 1, 1) := by decide +kernel
theorem dX10_townLine_5 : decode cX10_townLine 5 = .ok (.aload_n 0, 1) := by decide +kernel
theorem dX10_townLine_6 : decode cX10_townLine 6 = .ok (.iconst 0, 1) := by decide +kernel
theorem dX10_townLine_7 : decode cX10_townLine 7 = .ok (.putfield 240, 3) := by decide +kernel
theorem dX10_townLine_10 : decode cX10_townLine 10 = .ok (.aload_n 0, 1) := by decide +kernel
theorem dX10_townLine_11 : decode cX10_townLine 11 = .ok (.iconst 1, 1) := by decide +kernel
theorem dX10_townLine_12 : decode cX10_townLine 12 = .ok (.putfield 247, 3) := by decide +kernel
theorem dX10_townLine_15 : decode cX10_townLine 15 = .ok (.aload_n 0, 1) := by decide +kernel
theorem dX10_townLine_16 : decode cX10_townLine 16 = .ok (.getfield 221, 3) := by decide +kernel
theorem dX10_townLine_19 : decode cX10_townLine 19 = .ok (.iconst 2, 1) := by decide +kernel
theorem dX10_townLine_20 : decode cX10_townLine 20 = .ok (.if_icmp .ne 10, 3) := by decide +kernel
theorem dX10_townLine_23 : decode cX10_townLine 23 = .ok (.aload_n 0, 1) := by decide +kernel
theorem dX10_townLine_24 : decode cX10_townLine 24 = .ok (.getfield 217, 3) := by decide +kernel
theorem dX10_townLine_27 : decode cX10_townLine 27 = .ok (.goto 4, 3) := by decide +kernel
theorem dX10_townLine_30 : decode cX10_townLine 30 = .ok (.lconst 0, 1) := by decide +kernel
theorem dX10_townLine_31 : decode cX10_townLine 31 = .ok (.lstore_n 2, 1) := by decide +kernel
theorem dX10_townLine_32 : decode cX10_townLine 32 = .ok (.lload_n 2, 1) := by decide +kernel
theorem dX10_townLine_33 : decode cX10_townLine 33 = .ok (.ldc2_w 271, 3) := by decide +kernel
theorem dX10_townLine_36 : decode cX10_townLine 36 = .ok (.lcmp, 1) := by decide +kernel
theorem dX10_townLine_37 : decode cX10_townLine 37 = .ok (.ifCond .eq 67, 3) := by decide +kernel
theorem dX10_townLine_40 : decode cX10_townLine 40 = .ok (.lload_n 2, 1) := by decide +kernel
theorem dX10_townLine_41 : decode cX10_townLine 41 = .ok (.ldc2_w 273, 3) := by decide +kernel
theorem dX10_townLine_44 : decode cX10_townLine 44 = .ok (.lcmp, 1) := by decide +kernel
theorem dX10_townLine_45 : decode cX10_townLine 45 = .ok (.ifCond .eq 59, 3) := by decide +kernel
theorem dX10_townLine_48 : decode cX10_townLine 48 = .ok (.lload_n 2, 1) := by decide +kernel
theorem dX10_townLine_49 : decode cX10_townLine 49 = .ok (.ldc2_w 275, 3) := by decide +kernel
theorem dX10_townLine_52 : decode cX10_townLine 52 = .ok (.lcmp, 1) := by decide +kernel
theorem dX10_townLine_53 : decode cX10_townLine 53 = .ok (.ifCond .eq 51, 3) := by decide +kernel
theorem dX10_townLine_56 : decode cX10_townLine 56 = .ok (.lload_n 2, 1) := by decide +kernel
theorem dX10_townLine_57 : decode cX10_townLine 57 = .ok (.ldc2_w 277, 3) := by decide +kernel
theorem dX10_townLine_60 : decode cX10_townLine 60 = .ok (.lcmp, 1) := by decide +kernel
theorem dX10_townLine_61 : decode cX10_townLine 61 = .ok (.ifCond .eq 43, 3) := by decide +kernel
theorem dX10_townLine_64 : decode cX10_townLine 64 = .ok (.lload_n 2, 1) := by decide +kernel
theorem dX10_townLine_65 : decode cX10_townLine 65 = .ok (.ldc2_w 279, 3) := by decide +kernel
theorem dX10_townLine_68 : decode cX10_townLine 68 = .ok (.lcmp, 1) := by decide +kernel
theorem dX10_townLine_69 : decode cX10_townLine 69 = .ok (.ifCond .eq 35, 3) := by decide +kernel
theorem dX10_townLine_72 : decode cX10_townLine 72 = .ok (.lload_n 2, 1) := by decide +kernel
theorem dX10_townLine_73 : decode cX10_townLine 73 = .ok (.ldc2_w 281, 3) := by decide +kernel
theorem dX10_townLine_76 : decode cX10_townLine 76 = .ok (.lcmp, 1) := by decide +kernel
theorem dX10_townLine_77 : decode cX10_townLine 77 = .ok (.ifCond .eq 27, 3) := by decide +kernel
theorem dX10_townLine_80 : decode cX10_townLine 80 = .ok (.lload_n 2, 1) := by decide +kernel
theorem dX10_townLine_81 : decode cX10_townLine 81 = .ok (.ldc2_w 283, 3) := by decide +kernel
theorem dX10_townLine_84 : decode cX10_townLine 84 = .ok (.lcmp, 1) := by decide +kernel
theorem dX10_townLine_85 : decode cX10_townLine 85 = .ok (.ifCond .eq 19, 3) := by decide +kernel
theorem dX10_townLine_88 : decode cX10_townLine 88 = .ok (.lload_n 2, 1) := by decide +kernel
theorem dX10_townLine_89 : decode cX10_townLine 89 = .ok (.ldc2_w 285, 3) := by decide +kernel
theorem dX10_townLine_92 : decode cX10_townLine 92 = .ok (.lcmp, 1) := by decide +kernel
theorem dX10_townLine_93 : decode cX10_townLine 93 = .ok (.ifCond .eq 11, 3) := by decide +kernel
theorem dX10_townLine_96 : decode cX10_townLine 96 = .ok (.lload_n 2, 1) := by decide +kernel
theorem dX10_townLine_97 : decode cX10_townLine 97 = .ok (.ldc2_w 287, 3) := by decide +kernel
theorem dX10_townLine_100 : decode cX10_townLine 100 = .ok (.lcmp, 1) := by decide +kernel
theorem dX10_townLine_101 : decode cX10_townLine 101 = .ok (.ifCond .ne 7, 3) := by decide +kernel
theorem dX10_townLine_104 : decode cX10_townLine 104 = .ok (.iconst 1, 1) := by decide +kernel
theorem dX10_townLine_105 : decode cX10_townLine 105 = .ok (.goto 4, 3) := by decide +kernel
theorem dX10_townLine_108 : decode cX10_townLine 108 = .ok (.iconst 0, 1) := by decide +kernel
theorem dX10_townLine_109 : decode cX10_townLine 109 = .ok (.istore 4, 2) := by decide +kernel
theorem dX10_townLine_111 : decode cX10_townLine 111 = .ok (.iload 4, 2) := by decide +kernel
theorem dX10_townLine_113 : decode cX10_townLine 113 = .ok (.ifCond .ne 8, 3) := by decide +kernel
theorem dX10_townLine_116 : decode cX10_townLine 116 = .ok (.aload_n 0, 1) := by decide +kernel
theorem dX10_townLine_117 : decode cX10_townLine 117 = .ok (.invokevirtual 236, 3) := by decide +kernel
theorem dX10_townLine_120 : decode cX10_townLine 120 = .ok (.ireturn, 1) := by decide +kernel
theorem dX10_townLine_121 : decode cX10_townLine 121 = .ok (.aload_n 0, 1) := by decide +kernel
theorem dX10_townLine_122 : decode cX10_townLine 122 = .ok (.invokevirtual 251, 3) := by decide +kernel
theorem dX10_townLine_125 : decode cX10_townLine 125 = .ok (.lload_n 2, 1) := by decide +kernel
theorem dX10_townLine_126 : decode cX10_townLine 126 = .ok (.ldc2_w 271, 3) := by decide +kernel
theorem dX10_townLine_129 : decode cX10_townLine 129 = .ok (.lcmp, 1) := by decide +kernel
theorem dX10_townLine_130 : decode cX10_townLine 130 = .ok (.ifCond .ne 13, 3) := by decide +kernel
theorem dX10_townLine_133 : decode cX10_townLine 133 = .ok (.aload_n 0, 1) := by decide +kernel
theorem dX10_townLine_134 : decode cX10_townLine 134 = .ok (.iload_n 1, 1) := by decide +kernel
theorem dX10_townLine_135 : decode cX10_townLine 135 = .ok (.invokevirtual 289, 3) := by decide +kernel
theorem dX10_townLine_138 : decode cX10_townLine 138 = .ok (.istore 5, 2) := by decide +kernel
theorem dX10_townLine_140 : decode cX10_townLine 140 = .ok (.goto 185, 3) := by decide +kernel
theorem dX10_townLine_143 : decode cX10_townLine 143 = .ok (.lload_n 2, 1) := by decide +kernel
theorem dX10_townLine_144 : decode cX10_townLine 144 = .ok (.ldc2_w 273, 3) := by decide +kernel
theorem dX10_townLine_147 : decode cX10_townLine 147 = .ok (.lcmp, 1) := by decide +kernel
theorem dX10_townLine_148 : decode cX10_townLine 148 = .ok (.ifCond .eq 11, 3) := by decide +kernel
theorem dX10_townLine_151 : decode cX10_townLine 151 = .ok (.lload_n 2, 1) := by decide +kernel
theorem dX10_townLine_152 : decode cX10_townLine 152 = .ok (.ldc2_w 275, 3) := by decide +kernel
theorem dX10_townLine_155 : decode cX10_townLine 155 = .ok (.lcmp, 1) := by decide +kernel
theorem dX10_townLine_156 : decode cX10_townLine 156 = .ok (.ifCond .ne 26, 3) := by decide +kernel
theorem dX10_townLine_159 : decode cX10_townLine 159 = .ok (.aload_n 0, 1) := by decide +kernel
theorem dX10_townLine_160 : decode cX10_townLine 160 = .ok (.iload_n 1, 1) := by decide +kernel
theorem dX10_townLine_161 : decode cX10_townLine 161 = .ok (.lload_n 2, 1) := by decide +kernel
theorem dX10_townLine_162 : decode cX10_townLine 162 = .ok (.ldc2_w 275, 3) := by decide +kernel
theorem dX10_townLine_165 : decode cX10_townLine 165 = .ok (.lcmp, 1) := by decide +kernel
theorem dX10_townLine_166 : decode cX10_townLine 166 = .ok (.ifCond .ne 7, 3) := by decide +kernel
theorem dX10_townLine_169 : decode cX10_townLine 169 = .ok (.iconst 1, 1) := by decide +kernel
theorem dX10_townLine_170 : decode cX10_townLine 170 = .ok (.goto 4, 3) := by decide +kernel
theorem dX10_townLine_173 : decode cX10_townLine 173 = .ok (.iconst 0, 1) := by decide +kernel
theorem dX10_townLine_174 : decode cX10_townLine 174 = .ok (.invokevirtual 292, 3) := by decide +kernel
theorem dX10_townLine_177 : decode cX10_townLine 177 = .ok (.istore 5, 2) := by decide +kernel
theorem dX10_townLine_179 : decode cX10_townLine 179 = .ok (.goto 146, 3) := by decide +kernel
theorem dX10_townLine_182 : decode cX10_townLine 182 = .ok (.lload_n 2, 1) := by decide +kernel
theorem dX10_townLine_183 : decode cX10_townLine 183 = .ok (.ldc2_w 279, 3) := by decide +kernel
theorem dX10_townLine_186 : decode cX10_townLine 186 = .ok (.lcmp, 1) := by decide +kernel
theorem dX10_townLine_187 : decode cX10_townLine 187 = .ok (.ifCond .ne 70, 3) := by decide +kernel
theorem dX10_townLine_190 : decode cX10_townLine 190 = .ok (.aload_n 0, 1) := by decide +kernel
theorem dX10_townLine_191 : decode cX10_townLine 191 = .ok (.invokevirtual 296, 3) := by decide +kernel
theorem dX10_townLine_194 : decode cX10_townLine 194 = .ok (.ifCond .eq 14, 3) := by decide +kernel
theorem dX10_townLine_197 : decode cX10_townLine 197 = .ok (.aload_n 0, 1) := by decide +kernel
theorem dX10_townLine_198 : decode cX10_townLine 198 = .ok (.invokevirtual 296, 3) := by decide +kernel
theorem dX10_townLine_201 : decode cX10_townLine 201 = .ok (.ifCond .eq 7, 3) := by decide +kernel
theorem dX10_townLine_204 : decode cX10_townLine 204 = .ok (.iconst 1, 1) := by decide +kernel
theorem dX10_townLine_205 : decode cX10_townLine 205 = .ok (.goto 4, 3) := by decide +kernel
theorem dX10_townLine_208 : decode cX10_townLine 208 = .ok (.iconst 0, 1) := by decide +kernel
theorem dX10_townLine_209 : decode cX10_townLine 209 = .ok (.istore 5, 2) := by decide +kernel
theorem dX10_townLine_211 : decode cX10_townLine 211 = .ok (.aload_n 0, 1) := by decide +kernel
theorem dX10_townLine_212 : decode cX10_townLine 212 = .ok (.getfield 125, 3) := by decide +kernel
theorem dX10_townLine_215 : decode cX10_townLine 215 = .ok (.iconst 5, 1) := by decide +kernel
theorem dX10_townLine_216 : decode cX10_townLine 216 = .ok (.iload 5, 2) := by decide +kernel
theorem dX10_townLine_218 : decode cX10_townLine 218 = .ok (.ifCond .eq 12, 3) := by decide +kernel
theorem dX10_townLine_221 : decode cX10_townLine 221 = .ok (.aload_n 0, 1) := by decide +kernel
theorem dX10_townLine_222 : decode cX10_townLine 222 = .ok (.getfield 122, 3) := by decide +kernel
theorem dX10_townLine_225 : decode cX10_townLine 225 = .ok (.iconst 0, 1) := by decide +kernel
theorem dX10_townLine_226 : decode cX10_townLine 226 = .ok (.iaload, 1) := by decide +kernel
theorem dX10_townLine_227 : decode cX10_townLine 227 = .ok (.goto 4, 3) := by decide +kernel
theorem dX10_townLine_230 : decode cX10_townLine 230 = .ok (.iconst 0, 1) := by decide +kernel
theorem dX10_townLine_231 : decode cX10_townLine 231 = .ok (.iastore, 1) := by decide +kernel
theorem dX10_townLine_232 : decode cX10_townLine 232 = .ok (.aload_n 0, 1) := by decide +kernel
theorem dX10_townLine_233 : decode cX10_townLine 233 = .ok (.getfield 125, 3) := by decide +kernel
theorem dX10_townLine_236 : decode cX10_townLine 236 = .ok (.bipush 6, 2) := by decide +kernel
theorem dX10_townLine_238 : decode cX10_townLine 238 = .ok (.iload 5, 2) := by decide +kernel
theorem dX10_townLine_240 : decode cX10_townLine 240 = .ok (.ifCond .eq 12, 3) := by decide +kernel
theorem dX10_townLine_243 : decode cX10_townLine 243 = .ok (.aload_n 0, 1) := by decide +kernel
theorem dX10_townLine_244 : decode cX10_townLine 244 = .ok (.getfield 122, 3) := by decide +kernel
theorem dX10_townLine_247 : decode cX10_townLine 247 = .ok (.iconst 1, 1) := by decide +kernel
theorem dX10_townLine_248 : decode cX10_townLine 248 = .ok (.iaload, 1) := by decide +kernel
theorem dX10_townLine_249 : decode cX10_townLine 249 = .ok (.goto 4, 3) := by decide +kernel
theorem dX10_townLine_252 : decode cX10_townLine 252 = .ok (.iconst 0, 1) := by decide +kernel
theorem dX10_townLine_253 : decode cX10_townLine 253 = .ok (.iastore, 1) := by decide +kernel
theorem dX10_townLine_254 : decode cX10_townLine 254 = .ok (.goto 71, 3) := by decide +kernel
theorem dX10_townLine_257 : decode cX10_townLine 257 = .ok (.lload_n 2, 1) := by decide +kernel
theorem dX10_townLine_258 : decode cX10_townLine 258 = .ok (.ldc2_w 281, 3) := by decide +kernel
theorem dX10_townLine_261 : decode cX10_townLine 261 = .ok (.lcmp, 1) := by decide +kernel
theorem dX10_townLine_262 : decode cX10_townLine 262 = .ok (.ifCond .ne 13, 3) := by decide +kernel
theorem dX10_townLine_265 : decode cX10_townLine 265 = .ok (.aload_n 0, 1) := by decide +kernel
theorem dX10_townLine_266 : decode cX10_townLine 266 = .ok (.iload_n 1, 1) := by decide +kernel
theorem dX10_townLine_267 : decode cX10_townLine 267 = .ok (.invokevirtual 299, 3) := by decide +kernel
theorem dX10_townLine_270 : decode cX10_townLine 270 = .ok (.istore 5, 2) := by decide +kernel
theorem dX10_townLine_272 : decode cX10_townLine 272 = .ok (.goto 53, 3) := by decide +kernel
theorem dX10_townLine_275 : decode cX10_townLine 275 = .ok (.lload_n 2, 1) := by decide +kernel
theorem dX10_townLine_276 : decode cX10_townLine 276 = .ok (.ldc2_w 283, 3) := by decide +kernel
theorem dX10_townLine_279 : decode cX10_townLine 279 = .ok (.lcmp, 1) := by decide +kernel
theorem dX10_townLine_280 : decode cX10_townLine 280 = .ok (.ifCond .ne 13, 3) := by decide +kernel
theorem dX10_townLine_283 : decode cX10_townLine 283 = .ok (.aload_n 0, 1) := by decide +kernel
theorem dX10_townLine_284 : decode cX10_townLine 284 = .ok (.iload_n 1, 1) := by decide +kernel
theorem dX10_townLine_285 : decode cX10_townLine 285 = .ok (.invokevirtual 302, 3) := by decide +kernel
theorem dX10_townLine_288 : decode cX10_townLine 288 = .ok (.istore 5, 2) := by decide +kernel
theorem dX10_townLine_290 : decode cX10_townLine 290 = .ok (.goto 35, 3) := by decide +kernel
theorem dX10_townLine_293 : decode cX10_townLine 293 = .ok (.aload_n 0, 1) := by decide +kernel
theorem dX10_townLine_294 : decode cX10_townLine 294 = .ok (.lload_n 2, 1) := by decide +kernel
theorem dX10_townLine_295 : decode cX10_townLine 295 = .ok (.ldc2_w 277, 3) := by decide +kernel
theorem dX10_townLine_298 : decode cX10_townLine 298 = .ok (.lcmp, 1) := by decide +kernel
theorem dX10_townLine_299 : decode cX10_townLine 299 = .ok (.ifCond .ne 7, 3) := by decide +kernel
theorem dX10_townLine_302 : decode cX10_townLine 302 = .ok (.iconst 1, 1) := by decide +kernel
theorem dX10_townLine_303 : decode cX10_townLine 303 = .ok (.goto 4, 3) := by decide +kernel
theorem dX10_townLine_306 : decode cX10_townLine 306 = .ok (.iconst 0, 1) := by decide +kernel
theorem dX10_townLine_307 : decode cX10_townLine 307 = .ok (.lload_n 2, 1) := by decide +kernel
theorem dX10_townLine_308 : decode cX10_townLine 308 = .ok (.ldc2_w 285, 3) := by decide +kernel
theorem dX10_townLine_311 : decode cX10_townLine 311 = .ok (.lcmp, 1) := by decide +kernel
theorem dX10_townLine_312 : decode cX10_townLine 312 = .ok (.ifCond .ne 7, 3) := by decide +kernel
theorem dX10_townLine_315 : decode cX10_townLine 315 = .ok (.iconst 1, 1) := by decide +kernel
theorem dX10_townLine_316 : decode cX10_townLine 316 = .ok (.goto 4, 3) := by decide +kernel
theorem dX10_townLine_319 : decode cX10_townLine 319 = .ok (.iconst 0, 1) := by decide +kernel
theorem dX10_townLine_320 : decode cX10_townLine 320 = .ok (.invokevirtual 305, 3) := by decide +kernel
theorem dX10_townLine_323 : decode cX10_townLine 323 = .ok (.istore 5, 2) := by decide +kernel
theorem dX10_townLine_325 : decode cX10_townLine 325 = .ok (.iload 5, 2) := by decide +kernel
theorem dX10_townLine_327 : decode cX10_townLine 327 = .ok (.ifCond .eq 14, 3) := by decide +kernel
theorem dX10_townLine_330 : decode cX10_townLine 330 = .ok (.aload_n 0, 1) := by decide +kernel
theorem dX10_townLine_331 : decode cX10_townLine 331 = .ok (.invokevirtual 309, 3) := by decide +kernel
theorem dX10_townLine_334 : decode cX10_townLine 334 = .ok (.ifCond .eq 7, 3) := by decide +kernel
theorem dX10_townLine_337 : decode cX10_townLine 337 = .ok (.iconst 1, 1) := by decide +kernel
theorem dX10_townLine_338 : decode cX10_townLine 338 = .ok (.goto 4, 3) := by decide +kernel
theorem dX10_townLine_341 : decode cX10_townLine 341 = .ok (.iconst 0, 1) := by decide +kernel
theorem dX10_townLine_342 : decode cX10_townLine 342 = .ok (.ireturn, 1) := by decide +kernel
def rmX10_townLine : Room := { frames := 5, cells := 0, slots := 0, locals := 113 }
set_option maxRecDepth 100000 in
def g_X10_townLine_341 (th : Nat) (m : MM) : Option (Int32 × MM) :=
  some (0, m)
set_option maxHeartbeats 4000000 in
set_option maxRecDepth 100000 in
theorem s_X10_townLine_341 {Γ : GX} {E : EX} (C : Cx Γ E cX10_townLine RX10 6) (hr : Γ.meth.sig.returnType = (some .boolean)) (hrm : Γ.rm = rmX10_townLine) (th : Nat) (m : MM) : Sm (QM Γ E emI 0 0) Γ E 6 0 0 341 [(0, va_rf (some th))] [] m (g_X10_townLine_341 th m) := by
  unfold g_X10_townLine_341
  refine z_iconst (v := 0) C dX10_townLine_341 (by decide) ?_
  exact z_zret C hr rfl dX10_townLine_342
set_option maxRecDepth 100000 in
def g_X10_townLine_325 (th : Nat) (x5 : Int32) (m : MM) : Option (Int32 × MM) :=
  if x5 = 0 then (g_X10_townLine_341 th m) else (chk (m.K th = 11) (cal (f_X10_passes th m) (fun r1 m1 => if r1 = 0 then (g_X10_townLine_341 th m1) else (some (1, m1)))))
set_option maxHeartbeats 4000000 in
set_option maxRecDepth 100000 in
theorem s_X10_townLine_325 {Γ : GX} {E : EX} (C : Cx Γ E cX10_townLine RX10 6) (hr : Γ.meth.sig.returnType = (some .boolean)) (hrm : Γ.rm = rmX10_townLine) (th : Nat) (x5 : Int32) (m : MM) : Sm (QM Γ E emI 0 0) Γ E 6 0 0 325 [(0, va_rf (some th)), (5, .int x5)] [] m (g_X10_townLine_325 th x5 m) := by
  unfold g_X10_townLine_325
  refine z_iload C dX10_townLine_325 1 rfl ?_
  refine z_if_eq (tgt := 341) C dX10_townLine_327 (by decide) (fun c1 => ?_) (fun c1 => ?_)
  · exact z_sub [0] rfl (s_X10_townLine_341 C hr hrm th m)
  · refine z_aload_n C dX10_townLine_330 rfl 0 rfl ?_
    refine z_chk (fun hk1 => ?_)
    refine z_cVI [] [] C mv_RX10_309 (fun r0 m0 h0 => M_X10_passes _ _ _ _ _ _ h0) rfl rfl ⟨by rw [hrm]; exact Nat.le_of_ble_eq_true rfl, by rw [hrm]; exact Nat.le_of_ble_eq_true rfl⟩ ⟨by rw [hrm]; exact Nat.le_of_ble_eq_true rfl, by rw [hrm]; exact Nat.le_of_ble_eq_true rfl⟩ rfl hk1 rfl rfl rfl (Nat.le_of_ble_eq_true rfl) dX10_townLine_331 (fun r1 m1 => ?_)
    refine z_if_eq (tgt := 341) C dX10_townLine_334 (by decide) (fun c2 => ?_) (fun c2 => ?_)
    · exact z_sub [0] rfl (s_X10_townLine_341 C hr hrm th m1)
    · refine z_iconst (v := 1) C dX10_townLine_337 (by decide) ?_
      refine z_goto (tgt := 342) C dX10_townLine_338 (by decide) ?_
      exact z_zret C hr rfl dX10_townLine_342
set_option maxRecDepth 100000 in
def g_X10_townLine_174 (th : Nat) (s0 : Option Nat) (s1 : Int32) (s2 : Int32) (m : MM) : Option (Int32 × MM) :=
  ck m s0 11 (fun a1 => cal (f_X10_wallLine a1 s1 s2 m) (fun r2 m2 => g_X10_townLine_325 th r2 m2))
set_option maxHeartbeats 4000000 in
set_option maxRecDepth 100000 in
theorem s_X10_townLine_174 {Γ : GX} {E : EX} (C : Cx Γ E cX10_townLine RX10 6) (hr : Γ.meth.sig.returnType = (some .boolean)) (hrm : Γ.rm = rmX10_townLine) (th : Nat) (s0 : Option Nat) (s1 : Int32) (s2 : Int32) (m : MM) : Sm (QM Γ E emI 0 0) Γ E 6 0 0 174 [(0, va_rf (some th))] [.int s2, .int s1, va_rf s0] m (g_X10_townLine_174 th s0 s1 s2 m) := by
  unfold g_X10_townLine_174
  refine z_ck (fun a1 hr1 hk2 => ?_)
  refine z_cVI [.int s1, .int s2] [] C mv_RX10_292 (fun r0 m0 h0 => M_X10_wallLine _ _ _ _ _ _ _ _ h0) rfl rfl ⟨by rw [hrm]; exact Nat.le_of_ble_eq_true rfl, by rw [hrm]; exact Nat.le_of_ble_eq_true rfl⟩ ⟨by rw [hrm]; exact Nat.le_of_ble_eq_true rfl, by rw [hrm]; exact Nat.le_of_ble_eq_true rfl⟩ hr1 hk2 rfl rfl rfl (Nat.le_of_ble_eq_true rfl) dX10_townLine_174 (fun r2 m2 => ?_)
  refine z_istore (i := 5) (L2 := [(5, .int r2), (0, va_rf (some th))]) C dX10_townLine_177 (by decide) rfl ?_
  refine z_goto (tgt := 325) C dX10_townLine_179 (by decide) ?_
  exact z_sub [1, 0] rfl (s_X10_townLine_325 C hr hrm th r2 m2)
set_option maxRecDepth 100000 in
def g_X10_townLine_159 (th : Nat) (x1 : Int32) (x2 : Int64) (m : MM) : Option (Int32 × MM) :=
  if (lg_cmp x2 439788397413) = 0 then (g_X10_townLine_174 th (some th) x1 1 m) else (g_X10_townLine_174 th (some th) x1 0 m)
set_option maxHeartbeats 4000000 in
set_option maxRecDepth 100000 in
theorem s_X10_townLine_159 {Γ : GX} {E : EX} (C : Cx Γ E cX10_townLine RX10 6) (hr : Γ.meth.sig.returnType = (some .boolean)) (hrm : Γ.rm = rmX10_townLine) (th : Nat) (x1 : Int32) (x2 : Int64) (m : MM) : Sm (QM Γ E emI 0 0) Γ E 6 0 0 159 [(0, va_rf (some th)), (1, .int x1), (2, .long x2)] [] m (g_X10_townLine_159 th x1 x2 m) := by
  unfold g_X10_townLine_159
  refine z_aload_n C dX10_townLine_159 rfl 0 rfl ?_
  refine z_iload_n C dX10_townLine_160 rfl 1 rfl ?_
  refine z_lload_n C dX10_townLine_161 rfl 2 rfl ?_
  refine z_ldc2 C dX10_townLine_162 kl_RX10_275 ?_
  refine z_lcmp C dX10_townLine_165 ?_
  refine z_if_ne (tgt := 173) C dX10_townLine_166 (by decide) (fun c3 => ?_) (fun c3 => ?_)
  · refine z_iconst (v := 0) C dX10_townLine_173 (by decide) ?_
    exact z_sub [0] rfl (s_X10_townLine_174 C hr hrm th (some th) x1 0 m)
  · refine z_iconst (v := 1) C dX10_townLine_169 (by decide) ?_
    refine z_goto (tgt := 174) C dX10_townLine_170 (by decide) ?_
    exact z_sub [0] rfl (s_X10_townLine_174 C hr hrm th (some th) x1 1 m)
set_option maxRecDepth 100000 in
def g_X10_townLine_253 (th : Nat) (x5 : Int32) (s0 : Option Nat) (s1 : Int32) (s2 : Int32) (m : MM) : Option (Int32 × MM) :=
  ck m s0 22 (fun a2 => chk (inb s1 (m.N a2) = true) (bnd (m.sI 22 a2 (Int32.toNatClampNeg s1) s2) (fun m3 => g_X10_townLine_325 th x5 m3)))
set_option maxHeartbeats 4000000 in
set_option maxRecDepth 100000 in
theorem s_X10_townLine_253 {Γ : GX} {E : EX} (C : Cx Γ E cX10_townLine RX10 6) (hr : Γ.meth.sig.returnType = (some .boolean)) (hrm : Γ.rm = rmX10_townLine) (th : Nat) (x5 : Int32) (s0 : Option Nat) (s1 : Int32) (s2 : Int32) (m : MM) : Sm (QM Γ E emI 0 0) Γ E 6 0 0 253 [(0, va_rf (some th)), (5, .int x5)] [.int s2, .int s1, va_rf s0] m (g_X10_townLine_253 th x5 s0 s1 s2 m) := by
  unfold g_X10_townLine_253
  refine z_ck (fun a2 hr2 hk3 => ?_)
  refine z_chk (fun hj1 => ?_)
  refine z_iast C hr2 hk3 hj1 dX10_townLine_253 (fun m3 eK1 eN1 => ?_)
  refine z_goto (tgt := 325) C dX10_townLine_254 (by decide) ?_
  exact z_sub [0, 1] rfl (s_X10_townLine_325 C hr hrm th x5 m3)
set_option maxRecDepth 100000 in
def g_X10_townLine_231 (th : Nat) (x5 : Int32) (s0 : Option Nat) (s1 : Int32) (s2 : Int32) (m : MM) : Option (Int32 × MM) :=
  ck m s0 22 (fun a3 => chk (inb s1 (m.N a3) = true) (bnd (m.sI 22 a3 (Int32.toNatClampNeg s1) s2) (fun m4 => chk (m4.K th = 11) (if x5 = 0 then (g_X10_townLine_253 th x5 (m4.R 1150 th 0) 6 0 m4) else (ck m4 (m4.R 1147 th 0) 22 (fun a4 => chk (inb 1 (m4.N a4) = true) (g_X10_townLine_253 th x5 (m4.R 1150 th 0) 6 (m4.I 22 a4 (Int32.toNatClampNeg 1)) m4)))))))
set_option maxHeartbeats 4000000 in
set_option maxRecDepth 100000 in
theorem s_X10_townLine_231 {Γ : GX} {E : EX} (C : Cx Γ E cX10_townLine RX10 6) (hr : Γ.meth.sig.returnType = (some .boolean)) (hrm : Γ.rm = rmX10_townLine) (th : Nat) (x5 : Int32) (s0 : Option Nat) (s1 : Int32) (s2 : Int32) (m : MM) : Sm (QM Γ E emI 0 0) Γ E 6 0 0 231 [(0, va_rf (some th)), (5, .int x5)] [.int s2, .int s1, va_rf s0] m (g_X10_townLine_231 th x5 s0 s1 s2 m) := by
  unfold g_X10_townLine_231
  refine z_ck (fun a3 hr3 hk4 => ?_)
  refine z_chk (fun hj2 => ?_)
  refine z_iast C hr3 hk4 hj2 dX10_townLine_231 (fun m4 eK2 eN2 => ?_)
  refine z_aload_n C dX10_townLine_232 rfl 0 rfl ?_
  refine z_chk (fun hk5 => ?_)
  refine z_getR C fl_RX10_125 rfl hk5 dX10_townLine_233 ?_
  refine z_bipush (v := 6) C dX10_townLine_236 (by decide) ?_
  refine z_iload C dX10_townLine_238 1 rfl ?_
  refine z_if_eq (tgt := 252) C dX10_townLine_240 (by decide) (fun c4 => ?_) (fun c4 => ?_)
  · refine z_iconst (v := 0) C dX10_townLine_252 (by decide) ?_
    exact z_sub [0, 1] rfl (s_X10_townLine_253 C hr hrm th x5 (m4.R 1150 th 0) 6 0 m4)
  · refine z_aload_n C dX10_townLine_243 rfl 0 rfl ?_
    refine z_getR C fl_RX10_122 rfl hk5 dX10_townLine_244 ?_
    refine z_iconst (v := 1) C dX10_townLine_247 (by decide) ?_
    refine z_ck (fun a4 hr4 hk6 => ?_)
    refine z_chk (fun hj3 => ?_)
    refine z_iald C hr4 hk6 hj3 dX10_townLine_248 ?_
    refine z_goto (tgt := 253) C dX10_townLine_249 (by decide) ?_
    exact z_sub [0, 1] rfl (s_X10_townLine_253 C hr hrm th x5 (m4.R 1150 th 0) 6 (m4.I 22 a4 (Int32.toNatClampNeg 1)) m4)
set_option maxRecDepth 100000 in
def g_X10_townLine_209 (th : Nat) (s0 : Int32) (m : MM) : Option (Int32 × MM) :=
  chk (m.K th = 11) (if s0 = 0 then (g_X10_townLine_231 th s0 (m.R 1150 th 0) 5 0 m) else (ck m (m.R 1147 th 0) 22 (fun a5 => chk (inb 0 (m.N a5) = true) (g_X10_townLine_231 th s0 (m.R 1150 th 0) 5 (m.I 22 a5 (Int32.toNatClampNeg 0)) m))))
set_option maxHeartbeats 4000000 in
set_option maxRecDepth 100000 in
theorem s_X10_townLine_209 {Γ : GX} {E : EX} (C : Cx Γ E cX10_townLine RX10 6) (hr : Γ.meth.sig.returnType = (some .boolean)) (hrm : Γ.rm = rmX10_townLine) (th : Nat) (s0 : Int32) (m : MM) : Sm (QM Γ E emI 0 0) Γ E 6 0 0 209 [(0, va_rf (some th))] [.int s0] m (g_X10_townLine_209 th s0 m) := by
  unfold g_X10_townLine_209
  refine z_istore (i := 5) (L2 := [(5, .int s0), (0, va_rf (some th))]) C dX10_townLine_209 (by decide) rfl ?_
  refine z_aload_n C dX10_townLine_211 rfl 1 rfl ?_
  refine z_chk (fun hk7 => ?_)
  refine z_getR C fl_RX10_125 rfl hk7 dX10_townLine_212 ?_
  refine z_iconst (v := 5) C dX10_townLine_215 (by decide) ?_
  refine z_iload C dX10_townLine_216 0 rfl ?_
  refine z_if_eq (tgt := 230) C dX10_townLine_218 (by decide) (fun c5 => ?_) (fun c5 => ?_)
  · refine z_iconst (v := 0) C dX10_townLine_230 (by decide) ?_
    exact z_sub [1, 0] rfl (s_X10_townLine_231 C hr hrm th s0 (m.R 1150 th 0) 5 0 m)
  · refine z_aload_n C dX10_townLine_221 rfl 1 rfl ?_
    refine z_getR C fl_RX10_122 rfl hk7 dX10_townLine_222 ?_
    refine z_iconst (v := 0) C dX10_townLine_225 (by decide) ?_
    refine z_ck (fun a5 hr5 hk8 => ?_)
    refine z_chk (fun hj4 => ?_)
    refine z_iald C hr5 hk8 hj4 dX10_townLine_226 ?_
    refine z_goto (tgt := 231) C dX10_townLine_227 (by decide) ?_
    exact z_sub [1, 0] rfl (s_X10_townLine_231 C hr hrm th s0 (m.R 1150 th 0) 5 (m.I 22 a5 (Int32.toNatClampNeg 0)) m)
set_option maxRecDepth 100000 in
def g_X10_townLine_208 (th : Nat) (m : MM) : Option (Int32 × MM) :=
  g_X10_townLine_209 th 0 m
set_option maxHeartbeats 4000000 in
set_option maxRecDepth 100000 in
theorem s_X10_townLine_208 {Γ : GX} {E : EX} (C : Cx Γ E cX10_townLine RX10 6) (hr : Γ.meth.sig.returnType = (some .boolean)) (hrm : Γ.rm = rmX10_townLine) (th : Nat) (m : MM) : Sm (QM Γ E emI 0 0) Γ E 6 0 0 208 [(0, va_rf (some th))] [] m (g_X10_townLine_208 th m) := by
  unfold g_X10_townLine_208
  refine z_iconst (v := 0) C dX10_townLine_208 (by decide) ?_
  exact z_sub [0] rfl (s_X10_townLine_209 C hr hrm th 0 m)
set_option maxRecDepth 100000 in
def g_X10_townLine_320 (th : Nat) (s0 : Option Nat) (s1 : Int32) (s2 : Int32) (m : MM) : Option (Int32 × MM) :=
  ck m s0 11 (fun a6 => cal (f_X10_pairLine a6 s1 s2 m) (fun r3 m5 => g_X10_townLine_325 th r3 m5))
set_option maxHeartbeats 4000000 in
set_option maxRecDepth 100000 in
theorem s_X10_townLine_320 {Γ : GX} {E : EX} (C : Cx Γ E cX10_townLine RX10 6) (hr : Γ.meth.sig.returnType = (some .boolean)) (hrm : Γ.rm = rmX10_townLine) (th : Nat) (s0 : Option Nat) (s1 : Int32) (s2 : Int32) (m : MM) : Sm (QM Γ E emI 0 0) Γ E 6 0 0 320 [(0, va_rf (some th))] [.int s2, .int s1, va_rf s0] m (g_X10_townLine_320 th s0 s1 s2 m) := by
  unfold g_X10_townLine_320
  refine z_ck (fun a6 hr6 hk9 => ?_)
  refine z_cVI [.int s1, .int s2] [] C mv_RX10_305 (fun r0 m0 h0 => M_X10_pairLine _ _ _ _ _ _ _ _ h0) rfl rfl ⟨by rw [hrm]; exact Nat.le_of_ble_eq_true rfl, by rw [hrm]; exact Nat.le_of_ble_eq_true rfl⟩ ⟨by rw [hrm]; exact Nat.le_of_ble_eq_true rfl, by rw [hrm]; exact Nat.le_of_ble_eq_true rfl⟩ hr6 hk9 rfl rfl rfl (Nat.le_of_ble_eq_true rfl) dX10_townLine_320 (fun r3 m5 => ?_)
  refine z_istore (i := 5) (L2 := [(5, .int r3), (0, va_rf (some th))]) C dX10_townLine_323 (by decide) rfl ?_
  exact z_sub [1, 0] rfl (s_X10_townLine_325 C hr hrm th r3 m5)
set_option maxRecDepth 100000 in
def g_X10_townLine_307 (th : Nat) (x2 : Int64) (s0 : Option Nat) (s1 : Int32) (m : MM) : Option (Int32 × MM) :=
  if (lg_cmp x2 1668248436) = 0 then (g_X10_townLine_320 th s0 s1 1 m) else (g_X10_townLine_320 th s0 s1 0 m)
set_option maxHeartbeats 4000000 in
set_option maxRecDepth 100000 in
theorem s_X10_townLine_307 {Γ : GX} {E : EX} (C : Cx Γ E cX10_townLine RX10 6) (hr : Γ.meth.sig.returnType = (some .boolean)) (hrm : Γ.rm = rmX10_townLine) (th : Nat) (x2 : Int64) (s0 : Option Nat) (s1 : Int32) (m : MM) : Sm (QM Γ E emI 0 0) Γ E 6 0 0 307 [(0, va_rf (some th)), (2, .long x2)] [.int s1, va_rf s0] m (g_X10_townLine_307 th x2 s0 s1 m) := by
  unfold g_X10_townLine_307
  refine z_lload_n C dX10_townLine_307 rfl 1 rfl ?_
  refine z_ldc2 C dX10_townLine_308 kl_RX10_285 ?_
  refine z_lcmp C dX10_townLine_311 ?_
  refine z_if_ne (tgt := 319) C dX10_townLine_312 (by decide) (fun c6 => ?_) (fun c6 => ?_)
  · refine z_iconst (v := 0) C dX10_townLine_319 (by decide) ?_
    exact z_sub [0] rfl (s_X10_townLine_320 C hr hrm th s0 s1 0 m)
  · refine z_iconst (v := 1) C dX10_townLine_315 (by decide) ?_
    refine z_goto (tgt := 320) C dX10_townLine_316 (by decide) ?_
    exact z_sub [0] rfl (s_X10_townLine_320 C hr hrm th s0 s1 1 m)
set_option maxRecDepth 100000 in
def g_X10_townLine_109 (th : Nat) (x1 : Int32) (x2 : Int64) (s0 : Int32) (m : MM) : Option (Int32 × MM) :=
  if s0 = 0 then (chk (m.K th = 11) (cal (f_X10_stops th m) (fun r10 m12 => chk (r10 = 0 ∨ r10 = 1) (some (r10, m12))))) else (chk (m.K th = 11) (cal (f_X10_token th m) (fun r4 m6 => if (lg_cmp x2 499967946343) = 0 then (chk (m6.K th = 11) (cal (f_X10_thingLine th x1 m6) (fun r9 m11 => g_X10_townLine_325 th r9 m11))) else (if (lg_cmp x2 2002873452) = 0 then (g_X10_townLine_159 th x1 x2 m6) else (if (lg_cmp x2 439788397413) = 0 then (g_X10_townLine_159 th x1 x2 m6) else (if (lg_cmp x2 495740481637) = 0 then (chk (m6.K th = 11) (cal (f_X10_slope th m6) (fun r7 m9 => if r7 = 0 then (g_X10_townLine_208 th m9) else (chk (m9.K th = 11) (cal (f_X10_slope th m9) (fun r8 m10 => if r8 = 0 then (g_X10_townLine_208 th m10) else (g_X10_townLine_209 th 1 m10))))))) else (if (lg_cmp x2 465557354085) = 0 then (chk (m6.K th = 11) (cal (f_X10_leaveLine th x1 m6) (fun r6 m8 => g_X10_townLine_325 th r6 m8))) else (if (lg_cmp x2 122468482507636) = 0 then (chk (m6.K th = 11) (cal (f_X10_objectLine th x1 m6) (fun r5 m7 => g_X10_townLine_325 th r5 m7))) else (if (lg_cmp x2 2003398244) = 0 then (g_X10_townLine_307 th x2 (some th) 1 m6) else (g_X10_townLine_307 th x2 (some th) 0 m6))))))))))
set_option maxHeartbeats 4000000 in
set_option maxRecDepth 100000 in
theorem s_X10_townLine_109 {Γ : GX} {E : EX} (C : Cx Γ E cX10_townLine RX10 6) (hr : Γ.meth.sig.returnType = (some .boolean)) (hrm : Γ.rm = rmX10_townLine) (th : Nat) (x1 : Int32) (x2 : Int64) (s0 : Int32) (m : MM) : Sm (QM Γ E emI 0 0) Γ E 6 0 0 109 [(0, va_rf (some th)), (1, .int x1), (2, .long x2)] [.int s0] m (g_X10_townLine_109 th x1 x2 s0 m) := by
  unfold g_X10_townLine_109
  refine z_istore (i := 4) (L2 := [(4, .int s0), (0, va_rf (some th)), (1, .int x1), (2, .long x2)]) C dX10_townLine_109 (by decide) rfl ?_
  refine z_iload C dX10_townLine_111 0 rfl ?_
  refine z_if_ne (tgt := 121) C dX10_townLine_113 (by decide) (fun c7 => ?_) (fun c7 => ?_)
  · refine z_aload_n C dX10_townLine_121 rfl 1 rfl ?_
    refine z_chk (fun hk10 => ?_)
    refine z_cVV [] [] C mv_RX10_251 (fun r0 m0 h0 => M_X10_token _ _ _ _ _ _ h0) rfl rfl ⟨by rw [hrm]; exact Nat.le_of_ble_eq_true rfl, by rw [hrm]; exact Nat.le_of_ble_eq_true rfl⟩ ⟨by rw [hrm]; exact Nat.le_of_ble_eq_true rfl, by rw [hrm]; exact Nat.le_of_ble_eq_true rfl⟩ rfl hk10 rfl rfl rfl (Nat.le_of_ble_eq_true rfl) dX10_townLine_122 (fun r4 m6 => ?_)
    refine z_lload_n C dX10_townLine_125 rfl 3 rfl ?_
    refine z_ldc2 C dX10_townLine_126 kl_RX10_271 ?_
    refine z_lcmp C dX10_townLine_129 ?_
    refine z_if_ne (tgt := 143) C dX10_townLine_130 (by decide) (fun c8 => ?_) (fun c8 => ?_)
    · refine z_lload_n C dX10_townLine_143 rfl 3 rfl ?_
      refine z_ldc2 C dX10_townLine_144 kl_RX10_273 ?_
      refine z_lcmp C dX10_townLine_147 ?_
      refine z_if_eq (tgt := 159) C dX10_townLine_148 (by decide) (fun c9 => ?_) (fun c9 => ?_)
      · exact z_sub [1, 2, 3] rfl (s_X10_townLine_159 C hr hrm th x1 x2 m6)
      · refine z_lload_n C dX10_townLine_151 rfl 3 rfl ?_
        refine z_ldc2 C dX10_townLine_152 kl_RX10_275 ?_
        refine z_lcmp C dX10_townLine_155 ?_
        refine z_if_ne (tgt := 182) C dX10_townLine_156 (by decide) (fun c10 => ?_) (fun c10 => ?_)
        · refine z_lload_n C dX10_townLine_182 rfl 3 rfl ?_
          refine z_ldc2 C dX10_townLine_183 kl_RX10_279 ?_
          refine z_lcmp C dX10_townLine_186 ?_
          refine z_if_ne (tgt := 257) C dX10_townLine_187 (by decide) (fun c11 => ?_) (fun c11 => ?_)
          · refine z_lload_n C dX10_townLine_257 rfl 3 rfl ?_
            refine z_ldc2 C dX10_townLine_258 kl_RX10_281 ?_
            refine z_lcmp C dX10_townLine_261 ?_
            refine z_if_ne (tgt := 275) C dX10_townLine_262 (by decide) (fun c12 => ?_) (fun c12 => ?_)
            · refine z_lload_n C dX10_townLine_275 rfl 3 rfl ?_
              refine z_ldc2 C dX10_townLine_276 kl_RX10_283 ?_
              refine z_lcmp C dX10_townLine_279 ?_
              refine z_if_ne (tgt := 293) C dX10_townLine_280 (by decide) (fun c13 => ?_) (fun c13 => ?_)
              · refine z_aload_n C dX10_townLine_293 rfl 1 rfl ?_
                refine z_lload_n C dX10_townLine_294 rfl 3 rfl ?_
                refine z_ldc2 C dX10_townLine_295 kl_RX10_277 ?_
                refine z_lcmp C dX10_townLine_298 ?_
                refine z_if_ne (tgt := 306) C dX10_townLine_299 (by decide) (fun c14 => ?_) (fun c14 => ?_)
                · refine z_iconst (v := 0) C dX10_townLine_306 (by decide) ?_
                  exact z_sub [1, 3] rfl (s_X10_townLine_307 C hr hrm th x2 (some th) 0 m6)
                · refine z_iconst (v := 1) C dX10_townLine_302 (by decide) ?_
                  refine z_goto (tgt := 307) C dX10_townLine_303 (by decide) ?_
                  exact z_sub [1, 3] rfl (s_X10_townLine_307 C hr hrm th x2 (some th) 1 m6)
              · refine z_aload_n C dX10_townLine_283 rfl 1 rfl ?_
                refine z_iload_n C dX10_townLine_284 rfl 2 rfl ?_
                refine z_chk (fun hk11 => ?_)
                refine z_cVI [.int x1] [] C mv_RX10_302 (fun r0 m0 h0 => M_X10_objectLine _ _ _ _ _ _ _ h0) rfl rfl ⟨by rw [hrm]; exact Nat.le_of_ble_eq_true rfl, by rw [hrm]; exact Nat.le_of_ble_eq_true rfl⟩ ⟨by rw [hrm]; exact Nat.le_of_ble_eq_true rfl, by rw [hrm]; exact Nat.le_of_ble_eq_true rfl⟩ rfl hk11 rfl rfl rfl (Nat.le_of_ble_eq_true rfl) dX10_townLine_285 (fun r5 m7 => ?_)
                refine z_istore (i := 5) (L2 := [(5, .int r5), (4, .int s0), (0, va_rf (some th)), (1, .int x1), (2, .long x2)]) C dX10_townLine_288 (by decide) rfl ?_
                refine z_goto (tgt := 325) C dX10_townLine_290 (by decide) ?_
                exact z_sub [2, 0] rfl (s_X10_townLine_325 C hr hrm th r5 m7)
            · refine z_aload_n C dX10_townLine_265 rfl 1 rfl ?_
              refine z_iload_n C dX10_townLine_266 rfl 2 rfl ?_
              refine z_chk (fun hk12 => ?_)
              refine z_cVI [.int x1] [] C mv_RX10_299 (fun r0 m0 h0 => M_X10_leaveLine _ _ _ _ _ _ _ h0) rfl rfl ⟨by rw [hrm]; exact Nat.le_of_ble_eq_true rfl, by rw [hrm]; exact Nat.le_of_ble_eq_true rfl⟩ ⟨by rw [hrm]; exact Nat.le_of_ble_eq_true rfl, by rw [hrm]; exact Nat.le_of_ble_eq_true rfl⟩ rfl hk12 rfl rfl rfl (Nat.le_of_ble_eq_true rfl) dX10_townLine_267 (fun r6 m8 => ?_)
              refine z_istore (i := 5) (L2 := [(5, .int r6), (4, .int s0), (0, va_rf (some th)), (1, .int x1), (2, .long x2)]) C dX10_townLine_270 (by decide) rfl ?_
              refine z_goto (tgt := 325) C dX10_townLine_272 (by decide) ?_
              exact z_sub [2, 0] rfl (s_X10_townLine_325 C hr hrm th r6 m8)
          · refine z_aload_n C dX10_townLine_190 rfl 1 rfl ?_
            refine z_chk (fun hk13 => ?_)
            refine z_cVI [] [] C mv_RX10_296 (fun r0 m0 h0 => M_X10_slope _ _ _ _ _ _ h0) rfl rfl ⟨by rw [hrm]; exact Nat.le_of_ble_eq_true rfl, by rw [hrm]; exact Nat.le_of_ble_eq_true rfl⟩ ⟨by rw [hrm]; exact Nat.le_of_ble_eq_true rfl, by rw [hrm]; exact Nat.le_of_ble_eq_true rfl⟩ rfl hk13 rfl rfl rfl (Nat.le_of_ble_eq_true rfl) dX10_townLine_191 (fun r7 m9 => ?_)
            refine z_if_eq (tgt := 208) C dX10_townLine_194 (by decide) (fun c15 => ?_) (fun c15 => ?_)
            · exact z_sub [1] rfl (s_X10_townLine_208 C hr hrm th m9)
            · refine z_aload_n C dX10_townLine_197 rfl 1 rfl ?_
              refine z_chk (fun hk14 => ?_)
              refine z_cVI [] [] C mv_RX10_296 (fun r0 m0 h0 => M_X10_slope _ _ _ _ _ _ h0) rfl rfl ⟨by rw [hrm]; exact Nat.le_of_ble_eq_true rfl, by rw [hrm]; exact Nat.le_of_ble_eq_true rfl⟩ ⟨by rw [hrm]; exact Nat.le_of_ble_eq_true rfl, by rw [hrm]; exact Nat.le_of_ble_eq_true rfl⟩ rfl hk14 rfl rfl rfl (Nat.le_of_ble_eq_true rfl) dX10_townLine_198 (fun r8 m10 => ?_)
              refine z_if_eq (tgt := 208) C dX10_townLine_201 (by decide) (fun c16 => ?_) (fun c16 => ?_)
              · exact z_sub [1] rfl (s_X10_townLine_208 C hr hrm th m10)
              · refine z_iconst (v := 1) C dX10_townLine_204 (by decide) ?_
                refine z_goto (tgt := 209) C dX10_townLine_205 (by decide) ?_
                exact z_sub [1] rfl (s_X10_townLine_209 C hr hrm th 1 m10)
        · exact z_sub [1, 2, 3] rfl (s_X10_townLine_159 C hr hrm th x1 x2 m6)
    · refine z_aload_n C dX10_townLine_133 rfl 1 rfl ?_
      refine z_iload_n C dX10_townLine_134 rfl 2 rfl ?_
      refine z_chk (fun hk15 => ?_)
      refine z_cVI [.int x1] [] C mv_RX10_289 (fun r0 m0 h0 => M_X10_thingLine _ _ _ _ _ _ _ h0) rfl rfl ⟨by rw [hrm]; exact Nat.le_of_ble_eq_true rfl, by rw [hrm]; exact Nat.le_of_ble_eq_true rfl⟩ ⟨by rw [hrm]; exact Nat.le_of_ble_eq_true rfl, by rw [hrm]; exact Nat.le_of_ble_eq_true rfl⟩ rfl hk15 rfl rfl rfl (Nat.le_of_ble_eq_true rfl) dX10_townLine_135 (fun r9 m11 => ?_)
      refine z_istore (i := 5) (L2 := [(5, .int r9), (4, .int s0), (0, va_rf (some th)), (1, .int x1), (2, .long x2)]) C dX10_townLine_138 (by decide) rfl ?_
      refine z_goto (tgt := 325) C dX10_townLine_140 (by decide) ?_
      exact z_sub [2, 0] rfl (s_X10_townLine_325 C hr hrm th r9 m11)
  · refine z_aload_n C dX10_townLine_116 rfl 1 rfl ?_
    refine z_chk (fun hk16 => ?_)
    refine z_cVI [] [] C mv_RX10_236 (fun r0 m0 h0 => M_X10_stops _ _ _ _ _ _ h0) rfl rfl ⟨by rw [hrm]; exact Nat.le_of_ble_eq_true rfl, by rw [hrm]; exact Nat.le_of_ble_eq_true rfl⟩ ⟨by rw [hrm]; exact Nat.le_of_ble_eq_true rfl, by rw [hrm]; exact Nat.le_of_ble_eq_true rfl⟩ rfl hk16 rfl rfl rfl (Nat.le_of_ble_eq_true rfl) dX10_townLine_117 (fun r10 m12 => ?_)
    refine z_chk (fun hb1 => ?_)
    exact z_zret C hr (nb_of hb1) dX10_townLine_120
set_option maxRecDepth 100000 in
def g_X10_townLine_104 (th : Nat) (x1 : Int32) (x2 : Int64) (m : MM) : Option (Int32 × MM) :=
  g_X10_townLine_109 th x1 x2 1 m
set_option maxHeartbeats 4000000 in
set_option maxRecDepth 100000 in
theorem s_X10_townLine_104 {Γ : GX} {E : EX} (C : Cx Γ E cX10_townLine RX10 6) (hr : Γ.meth.sig.returnType = (some .boolean)) (hrm : Γ.rm = rmX10_townLine) (th : Nat) (x1 : Int32) (x2 : Int64) (m : MM) : Sm (QM Γ E emI 0 0) Γ E 6 0 0 104 [(0, va_rf (some th)), (1, .int x1), (2, .long x2)] [] m (g_X10_townLine_104 th x1 x2 m) := by
  unfold g_X10_townLine_104
  refine z_iconst (v := 1) C dX10_townLine_104 (by decide) ?_
  refine z_goto (tgt := 109) C dX10_townLine_105 (by decide) ?_
  exact z_sub [0, 1, 2] rfl (s_X10_townLine_109 C hr hrm th x1 x2 1 m)
set_option maxRecDepth 100000 in
def g_X10_townLine_31 (th : Nat) (x1 : Int32) (s0 : Int64) (m : MM) : Option (Int32 × MM) :=
  if (lg_cmp s0 499967946343) = 0 then (g_X10_townLine_104 th x1 s0 m) else (if (lg_cmp s0 2002873452) = 0 then (g_X10_townLine_104 th x1 s0 m) else (if (lg_cmp s0 439788397413) = 0 then (g_X10_townLine_104 th x1 s0 m) else (if (lg_cmp s0 2003398244) = 0 then (g_X10_townLine_104 th x1 s0 m) else (if (lg_cmp s0 495740481637) = 0 then (g_X10_townLine_104 th x1 s0 m) else (if (lg_cmp s0 465557354085) = 0 then (g_X10_townLine_104 th x1 s0 m) else (if (lg_cmp s0 122468482507636) = 0 then (g_X10_townLine_104 th x1 s0 m) else (if (lg_cmp s0 1668248436) = 0 then (g_X10_townLine_104 th x1 s0 m) else (if (lg_cmp s0 1735552887) = 0 then (g_X10_townLine_104 th x1 s0 m) else (g_X10_townLine_109 th x1 s0 0 m)))))))))
set_option maxHeartbeats 4000000 in
set_option maxRecDepth 100000 in
theorem s_X10_townLine_31 {Γ : GX} {E : EX} (C : Cx Γ E cX10_townLine RX10 6) (hr : Γ.meth.sig.returnType = (some .boolean)) (hrm : Γ.rm = rmX10_townLine) (th : Nat) (x1 : Int32) (s0 : Int64) (m : MM) : Sm (QM Γ E emI 0 0) Γ E 6 0 0 31 [(0, va_rf (some th)), (1, .int x1)] [.long s0] m (g_X10_townLine_31 th x1 s0 m) := by
  unfold g_X10_townLine_31
  refine z_lstore_n (i := 2) (L2 := [(2, .long s0), (0, va_rf (some th)), (1, .int x1)]) C dX10_townLine_31 rfl (by decide) rfl ?_
  refine z_lload_n C dX10_townLine_32 rfl 0 rfl ?_
  refine z_ldc2 C dX10_townLine_33 kl_RX10_271 ?_
  refine z_lcmp C dX10_townLine_36 ?_
  refine z_if_eq (tgt := 104) C dX10_townLine_37 (by decide) (fun c17 => ?_) (fun c17 => ?_)
  · exact z_sub [1, 2, 0] rfl (s_X10_townLine_104 C hr hrm th x1 s0 m)
  · refine z_lload_n C dX10_townLine_40 rfl 0 rfl ?_
    refine z_ldc2 C dX10_townLine_41 kl_RX10_273 ?_
    refine z_lcmp C dX10_townLine_44 ?_
    refine z_if_eq (tgt := 104) C dX10_townLine_45 (by decide) (fun c18 => ?_) (fun c18 => ?_)
    · exact z_sub [1, 2, 0] rfl (s_X10_townLine_104 C hr hrm th x1 s0 m)
    · refine z_lload_n C dX10_townLine_48 rfl 0 rfl ?_
      refine z_ldc2 C dX10_townLine_49 kl_RX10_275 ?_
      refine z_lcmp C dX10_townLine_52 ?_
      refine z_if_eq (tgt := 104) C dX10_townLine_53 (by decide) (fun c19 => ?_) (fun c19 => ?_)
      · exact z_sub [1, 2, 0] rfl (s_X10_townLine_104 C hr hrm th x1 s0 m)
      · refine z_lload_n C dX10_townLine_56 rfl 0 rfl ?_
        refine z_ldc2 C dX10_townLine_57 kl_RX10_277 ?_
        refine z_lcmp C dX10_townLine_60 ?_
        refine z_if_eq (tgt := 104) C dX10_townLine_61 (by decide) (fun c20 => ?_) (fun c20 => ?_)
        · exact z_sub [1, 2, 0] rfl (s_X10_townLine_104 C hr hrm th x1 s0 m)
        · refine z_lload_n C dX10_townLine_64 rfl 0 rfl ?_
          refine z_ldc2 C dX10_townLine_65 kl_RX10_279 ?_
          refine z_lcmp C dX10_townLine_68 ?_
          refine z_if_eq (tgt := 104) C dX10_townLine_69 (by decide) (fun c21 => ?_) (fun c21 => ?_)
          · exact z_sub [1, 2, 0] rfl (s_X10_townLine_104 C hr hrm th x1 s0 m)
          · refine z_lload_n C dX10_townLine_72 rfl 0 rfl ?_
            refine z_ldc2 C dX10_townLine_73 kl_RX10_281 ?_
            refine z_lcmp C dX10_townLine_76 ?_
            refine z_if_eq (tgt := 104) C dX10_townLine_77 (by decide) (fun c22 => ?_) (fun c22 => ?_)
            · exact z_sub [1, 2, 0] rfl (s_X10_townLine_104 C hr hrm th x1 s0 m)
            · refine z_lload_n C dX10_townLine_80 rfl 0 rfl ?_
              refine z_ldc2 C dX10_townLine_81 kl_RX10_283 ?_
              refine z_lcmp C dX10_townLine_84 ?_
              refine z_if_eq (tgt := 104) C dX10_townLine_85 (by decide) (fun c23 => ?_) (fun c23 => ?_)
              · exact z_sub [1, 2, 0] rfl (s_X10_townLine_104 C hr hrm th x1 s0 m)
              · refine z_lload_n C dX10_townLine_88 rfl 0 rfl ?_
                refine z_ldc2 C dX10_townLine_89 kl_RX10_285 ?_
                refine z_lcmp C dX10_townLine_92 ?_
                refine z_if_eq (tgt := 104) C dX10_townLine_93 (by decide) (fun c24 => ?_) (fun c24 => ?_)
                · exact z_sub [1, 2, 0] rfl (s_X10_townLine_104 C hr hrm th x1 s0 m)
                · refine z_lload_n C dX10_townLine_96 rfl 0 rfl ?_
                  refine z_ldc2 C dX10_townLine_97 kl_RX10_287 ?_
                  refine z_lcmp C dX10_townLine_100 ?_
                  refine z_if_ne (tgt := 108) C dX10_townLine_101 (by decide) (fun c25 => ?_) (fun c25 => ?_)
                  · refine z_iconst (v := 0) C dX10_townLine_108 (by decide) ?_
                    exact z_sub [1, 2, 0] rfl (s_X10_townLine_109 C hr hrm th x1 s0 0 m)
                  · exact z_sub [1, 2, 0] rfl (s_X10_townLine_104 C hr hrm th x1 s0 m)
set_option maxRecDepth 100000 in
def g_X10_townLine_0 (th : Nat) (m : MM) : Option (Int32 × MM) :=
  chk (m.K th = 11) (bnd (m.I 1140 th 0) (fun y1 => bnd (m.sI 1148 th 0 0) (fun m13 => bnd (m13.sI 1149 th 0 1) (fun m14 => if (m14.I 1141 th 0) = 2 then (g_X10_townLine_31 th y1 (m14.J 1143 th 0) m14) else (g_X10_townLine_31 th y1 0 m14)))))
set_option maxHeartbeats 4000000 in
set_option maxRecDepth 100000 in
theorem s_X10_townLine_0 {Γ : GX} {E : EX} (C : Cx Γ E cX10_townLine RX10 6) (hr : Γ.meth.sig.returnType = (some .boolean)) (hrm : Γ.rm = rmX10_townLine) (th : Nat) (m : MM) : Sm (QM Γ E emI 0 0) Γ E 6 0 0 0 [(0, va_rf (some th))] [] m (g_X10_townLine_0 th m) := by
  unfold g_X10_townLine_0
  refine z_aload_n C dX10_townLine_0 rfl 0 rfl ?_
  refine z_chk (fun hk17 => ?_)
  refine z_getI C fl_RX10_214 rfl hk17 dX10_townLine_1 ?_
  refine z_bndI (fun y1 => ?_)
  refine z_istore_n (i := 1) (L2 := [(1, .int y1), (0, va_rf (some th))]) C dX10_townLine_4 rfl (by decide) rfl ?_
  refine z_aload_n C dX10_townLine_5 rfl 1 rfl ?_
  refine z_iconst (v := 0) C dX10_townLine_6 (by decide) ?_
  refine z_putI C fl_RX10_240 (fun h => by cases h) rfl hk17 rfl rfl dX10_townLine_7 (fun m13 eK3 eN3 => ?_)
  refine z_aload_n C dX10_townLine_10 rfl 1 rfl ?_
  refine z_iconst (v := 1) C dX10_townLine_11 (by decide) ?_
  refine z_putI C fl_RX10_247 (fun h => by cases h) rfl (kfw eK3 hk17) rfl rfl dX10_townLine_12 (fun m14 eK4 eN4 => ?_)
  refine z_aload_n C dX10_townLine_15 rfl 1 rfl ?_
  refine z_getI C fl_RX10_221 rfl (kfw eK4 (kfw eK3 hk17)) dX10_townLine_16 ?_
  refine z_iconst (v := 2) C dX10_townLine_19 (by decide) ?_
  refine z_icmp_ne (tgt := 30) C dX10_townLine_20 (by decide) (fun c26 => ?_) (fun c26 => ?_)
  · refine z_lconst (v := 0) C dX10_townLine_30 rfl ?_
    exact z_sub [1, 0] rfl (s_X10_townLine_31 C hr hrm th y1 0 m14)
  · refine z_aload_n C dX10_townLine_23 rfl 1 rfl ?_
    refine z_getJ C fl_RX10_217 rfl (kfw eK4 (kfw eK3 hk17)) dX10_townLine_24 ?_
    refine z_goto (tgt := 31) C dX10_townLine_27 (by decide) ?_
    exact z_sub [1, 0] rfl (s_X10_townLine_31 C hr hrm th y1 (m14.J 1143 th 0) m14)
def f_X10_townLine (th : Nat) (m : MM) : Option (Int32 × MM) := g_X10_townLine_0 th m
theorem M_X10_townLine (l : Launch) (E : EX) (th : Nat) (m : MM) (r : Int32) (m2 : MM) (h : f_X10_townLine th m = some (r, m2)) : Met l yX10_townLine (.code yX10_townLine cX10_townLine 6 (some .boolean) :: TB) rmX10_townLine (va_Pc [.ref th] (St E m)) (QR E (emI r) m2) 0 0 (AA E) :=
  met_of (em := emI) (plainFor_of_name rfl) (Nat.le_of_ble_eq_true rfl) (L0 := [(0, va_rf (some th))]) rfl (fun Γ _ hrm C hr hn => s_X10_townLine_0 C hr hrm th m) h
