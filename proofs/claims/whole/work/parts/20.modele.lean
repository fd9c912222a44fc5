theorem dX10_between_0 : decode cX10_between 0 = .ok (.aload_n 0, 1) := by decide +kernel
theorem dX10_between_1 : decode cX10_between 1 = .ok (.iconst 0, 1) := by decide +kernel
theorem dX10_between_2 : decode cX10_between 2 = .ok (.putfield 180, 3) := by decide +kernel
theorem dX10_between_5 : decode cX10_between 5 = .ok (.aload_n 0, 1) := by decide +kernel
theorem dX10_between_6 : decode cX10_between 6 = .ok (.iload_n 1, 1) := by decide +kernel
theorem dX10_between_7 : decode cX10_between 7 = .ok (.iload_n 2, 1) := by decide +kernel
theorem dX10_between_8 : decode cX10_between 8 = .ok (.invokevirtual 366, 3) := by decide +kernel
theorem dX10_between_11 : decode cX10_between 11 = .ok (.ifCond .eq 25, 3) := by decide +kernel
theorem dX10_between_14 : decode cX10_between 14 = .ok (.aload_n 0, 1) := by decide +kernel
theorem dX10_between_15 : decode cX10_between 15 = .ok (.iload_n 1, 1) := by decide +kernel
theorem dX10_between_16 : decode cX10_between 16 = .ok (.iload_n 3, 1) := by decide +kernel
theorem dX10_between_17 : decode cX10_between 17 = .ok (.invokevirtual 366, 3) := by decide +kernel
theorem dX10_between_20 : decode cX10_between 20 = .ok (.ifCond .eq 16, 3) := by decide +kernel
theorem dX10_between_23 : decode cX10_between 23 = .ok (.iload_n 2, 1) := by decide +kernel
theorem dX10_between_24 : decode cX10_between 24 = .ok (.iload_n 3, 1) := by decide +kernel
theorem dX10_between_25 : decode cX10_between 25 = .ok (.if_icmp .eq 11, 3) := by decide +kernel
theorem dX10_between_28 : decode cX10_between 28 = .ok (.iload 4, 2) := by decide +kernel
theorem dX10_between_30 : decode cX10_between 30 = .ok (.invokestatic 372, 3) := by decide +kernel
theorem dX10_between_33 : decode cX10_between 33 = .ok (.ifCond .ne 5, 3) := by decide +kernel
theorem dX10_between_36 : decode cX10_between 36 = .ok (.iconst (-1), 1) := by decide +kernel
theorem dX10_between_37 : decode cX10_between 37 = .ok (.ireturn, 1) := by decide +kernel
theorem dX10_between_38 : decode cX10_between 38 = .ok (.aload_n 0, 1) := by decide +kernel
theorem dX10_between_39 : decode cX10_between 39 = .ok (.iload_n 1, 1) := by decide +kernel
theorem dX10_between_40 : decode cX10_between 40 = .ok (.iload 4, 2) := by decide +kernel
theorem dX10_between_42 : decode cX10_between 42 = .ok (.invokevirtual 393, 3) := by decide +kernel
theorem dX10_between_45 : decode cX10_between 45 = .ok (.aload_n 0, 1) := by decide +kernel
theorem dX10_between_46 : decode cX10_between 46 = .ok (.iload_n 2, 1) := by decide +kernel
theorem dX10_between_47 : decode cX10_between 47 = .ok (.iload_n 3, 1) := by decide +kernel
theorem dX10_between_48 : decode cX10_between 48 = .ok (.invokevirtual 410, 3) := by decide +kernel
theorem dX10_between_51 : decode cX10_between 51 = .ok (.ireturn, 1) := by decide +kernel
def rmX10_between : Room := { frames := 4, cells := 0, slots := 0, locals := 105 }
set_option maxRecDepth 100000 in
def g_X10_between_0 (th : Nat) (p1 : Int32) (p2 : Int32) (p3 : Int32) (p4 : Int32) (m : MM) : Option (Int32 × MM) :=
  chk (m.K th = 11) (bnd (m.sI 1100 th 0 0) (fun m1 => cal (f_X10_isThing th p1 p2 m1) (fun r1 m2 => if r1 = 0 then (some ((-1), m2)) else (chk (m2.K th = 11) (cal (f_X10_isThing th p1 p3 m2) (fun r2 m3 => if r2 = 0 then (some ((-1), m3)) else (if p2 = p3 then (some ((-1), m3)) else (cal (f_X10_isDay p4 m3) (fun r3 m4 => if r3 = 0 then (some ((-1), m4)) else (chk (m4.K th = 11) (cal (f_X10_bring th p1 p4 m4) (fun r4 m5 => chk (m5.K th = 11) (cal (f_X10_wallsBetween th p2 p3 m5) (fun r5 m6 => some (r5, m6)))))))))))))))
set_option maxHeartbeats 4000000 in
set_option maxRecDepth 100000 in
theorem s_X10_between_0 {Γ : GX} {E : EX} (C : Cx Γ E cX10_between RX10 5) (hr : Γ.meth.sig.returnType = (some .int)) (hrm : Γ.rm = rmX10_between) (th : Nat) (p1 : Int32) (p2 : Int32) (p3 : Int32) (p4 : Int32) (m : MM) : Sm (QM Γ E emI 0 0) Γ E 5 0 0 0 [(0, va_rf (some th)), (1, .int p1), (2, .int p2), (3, .int p3), (4, .int p4)] [] m (g_X10_between_0 th p1 p2 p3 p4 m) := by
  unfold g_X10_between_0
  refine z_aload_n C dX10_between_0 rfl 0 rfl ?_
  refine z_iconst (v := 0) C dX10_between_1 (by decide) ?_
  refine z_chk (fun hk1 => ?_)
  refine z_putI C fl_RX10_180 (fun h => by cases h) rfl hk1 rfl rfl dX10_between_2 (fun m1 eK1 eN1 => ?_)
  refine z_aload_n C dX10_between_5 rfl 0 rfl ?_
  refine z_iload_n C dX10_between_6 rfl 1 rfl ?_
  refine z_iload_n C dX10_between_7 rfl 2 rfl ?_
  refine z_cVI [.int p1, .int p2] [] C mv_RX10_366 (fun r0 m0 h0 => M_X10_isThing _ _ _ _ _ _ _ _ h0) rfl rfl ⟨by rw [hrm]; exact Nat.le_of_ble_eq_true rfl, by rw [hrm]; exact Nat.le_of_ble_eq_true rfl⟩ ⟨by rw [hrm]; exact Nat.le_of_ble_eq_true rfl, by rw [hrm]; exact Nat.le_of_ble_eq_true rfl⟩ rfl (kfw eK1 hk1) rfl rfl rfl (Nat.le_of_ble_eq_true rfl) dX10_between_8 (fun r1 m2 => ?_)
  refine z_if_eq (tgt := 36) C dX10_between_11 (by decide) (fun c1 => ?_) (fun c1 => ?_)
  · refine z_iconst (v := (-1)) C dX10_between_36 (by decide) ?_
    exact z_iret C hr dX10_between_37
  · refine z_aload_n C dX10_between_14 rfl 0 rfl ?_
    refine z_iload_n C dX10_between_15 rfl 1 rfl ?_
    refine z_iload_n C dX10_between_16 rfl 3 rfl ?_
    refine z_chk (fun hk2 => ?_)
    refine z_cVI [.int p1, .int p3] [] C mv_RX10_366 (fun r0 m0 h0 => M_X10_isThing _ _ _ _ _ _ _ _ h0) rfl rfl ⟨by rw [hrm]; exact Nat.le_of_ble_eq_true rfl, by rw [hrm]; exact Nat.le_of_ble_eq_true rfl⟩ ⟨by rw [hrm]; exact Nat.le_of_ble_eq_true rfl, by rw [hrm]; exact Nat.le_of_ble_eq_true rfl⟩ rfl hk2 rfl rfl rfl (Nat.le_of_ble_eq_true rfl) dX10_between_17 (fun r2 m3 => ?_)
    refine z_if_eq (tgt := 36) C dX10_between_20 (by decide) (fun c2 => ?_) (fun c2 => ?_)
    · refine z_iconst (v := (-1)) C dX10_between_36 (by decide) ?_
      exact z_iret C hr dX10_between_37
    · refine z_iload_n C dX10_between_23 rfl 2 rfl ?_
      refine z_iload_n C dX10_between_24 rfl 3 rfl ?_
      refine z_icmp_eq (tgt := 36) C dX10_between_25 (by decide) (fun c3 => ?_) (fun c3 => ?_)
      · refine z_iconst (v := (-1)) C dX10_between_36 (by decide) ?_
        exact z_iret C hr dX10_between_37
      · refine z_iload C dX10_between_28 4 rfl ?_
        refine z_cSI [.int p4] [] C mv_RX10_372 (fun r0 m0 h0 => M_X10_isDay _ _ _ _ _ _ h0) rfl rfl ⟨by rw [hrm]; exact Nat.le_of_ble_eq_true rfl, by rw [hrm]; exact Nat.le_of_ble_eq_true rfl⟩ ⟨by rw [hrm]; exact Nat.le_of_ble_eq_true rfl, by rw [hrm]; exact Nat.le_of_ble_eq_true rfl⟩ rfl rfl (Nat.le_of_ble_eq_true rfl) dX10_between_30 (fun r3 m4 => ?_)
        refine z_if_ne (tgt := 38) C dX10_between_33 (by decide) (fun c4 => ?_) (fun c4 => ?_)
        · refine z_aload_n C dX10_between_38 rfl 0 rfl ?_
          refine z_iload_n C dX10_between_39 rfl 1 rfl ?_
          refine z_iload C dX10_between_40 4 rfl ?_
          refine z_chk (fun hk3 => ?_)
          refine z_cVV [.int p1, .int p4] [] C mv_RX10_393 (fun r0 m0 h0 => M_X10_bring _ _ _ _ _ _ _ _ h0) rfl rfl ⟨by rw [hrm]; exact Nat.le_of_ble_eq_true rfl, by rw [hrm]; exact Nat.le_of_ble_eq_true rfl⟩ ⟨by rw [hrm]; exact Nat.le_of_ble_eq_true rfl, by rw [hrm]; exact Nat.le_of_ble_eq_true rfl⟩ rfl hk3 rfl rfl rfl (Nat.le_of_ble_eq_true rfl) dX10_between_42 (fun r4 m5 => ?_)
          refine z_aload_n C dX10_between_45 rfl 0 rfl ?_
          refine z_iload_n C dX10_between_46 rfl 2 rfl ?_
          refine z_iload_n C dX10_between_47 rfl 3 rfl ?_
          refine z_chk (fun hk4 => ?_)
          refine z_cVI [.int p2, .int p3] [] C mv_RX10_410 (fun r0 m0 h0 => M_X10_wallsBetween _ _ _ _ _ _ _ _ h0) rfl rfl ⟨by rw [hrm]; exact Nat.le_of_ble_eq_true rfl, by rw [hrm]; exact Nat.le_of_ble_eq_true rfl⟩ ⟨by rw [hrm]; exact Nat.le_of_ble_eq_true rfl, by rw [hrm]; exact Nat.le_of_ble_eq_true rfl⟩ rfl hk4 rfl rfl rfl (Nat.le_of_ble_eq_true rfl) dX10_between_48 (fun r5 m6 => ?_)
          exact z_iret C hr dX10_between_51
        · refine z_iconst (v := (-1)) C dX10_between_36 (by decide) ?_
          exact z_iret C hr dX10_between_37
def f_X10_between (th : Nat) (p1 : Int32) (p2 : Int32) (p3 : Int32) (p4 : Int32) (m : MM) : Option (Int32 × MM) := g_X10_between_0 th p1 p2 p3 p4 m
theorem M_X10_between (l : Launch) (E : EX) (th : Nat) (p1 : Int32) (p2 : Int32) (p3 : Int32) (p4 : Int32) (m : MM) (r : Int32) (m2 : MM) (h : f_X10_between th p1 p2 p3 p4 m = some (r, m2)) : Met l yX10_between (.code yX10_between cX10_between 5 (some .int) :: TB) rmX10_between (va_Pc [.ref th, .int p1, .int p2, .int p3, .int p4] (St E m)) (QR E (emI r) m2) 0 0 (AA E) :=
  met_of (em := emI) (plainFor_of_name rfl) (Nat.le_of_ble_eq_true rfl) (L0 := [(0, va_rf (some th)), (1, .int p1), (2, .int p2), (3, .int p3), (4, .int p4)]) rfl (fun Γ _ hrm C hr hn => s_X10_between_0 C hr hrm th p1 p2 p3 p4 m) h

theorem dX10_grownBy_0 : decode cX10_grownBy 0 = .ok (.aload_n 0, 1) := by decide +kernel
theorem dX10_grownBy_1 : decode cX10_grownBy 1 = .ok (.aload_n 0, 1) := by decide +kernel
theorem dX10_grownBy_2 : decode cX10_grownBy 2 = .ok (.getfield 375, 3) := by decide +kernel
theorem dX10_grownBy_5 : decode cX10_grownBy 5 = .ok (.bipush 18, 2) := by decide +kernel
theorem dX10_grownBy_7 : decode cX10_grownBy 7 = .ok (.aload_n 0, 1) := by decide +kernel
theorem dX10_grownBy_8 : decode cX10_grownBy 8 = .ok (.getfield 143, 3) := by decide +kernel
theorem dX10_grownBy_11 : decode cX10_grownBy 11 = .ok (.iload_n 1, 1) := by decide +kernel
theorem dX10_grownBy_12 : decode cX10_grownBy 12 = .ok (.iaload, 1) := by decide +kernel
theorem dX10_grownBy_13 : decode cX10_grownBy 13 = .ok (.iadd, 1) := by decide +kernel
theorem dX10_grownBy_14 : decode cX10_grownBy 14 = .ok (.invokevirtual 196, 3) := by decide +kernel
theorem dX10_grownBy_17 : decode cX10_grownBy 17 = .ok (.istore_n 2, 1) := by decide +kernel
theorem dX10_grownBy_18 : decode cX10_grownBy 18 = .ok (.iload_n 2, 1) := by decide +kernel
theorem dX10_grownBy_19 : decode cX10_grownBy 19 = .ok (.iconst (-1), 1) := by decide +kernel
theorem dX10_grownBy_20 : decode cX10_grownBy 20 = .ok (.if_icmp .eq 16, 3) := by decide +kernel
theorem dX10_grownBy_23 : decode cX10_grownBy 23 = .ok (.aload_n 0, 1) := by decide +kernel
theorem dX10_grownBy_24 : decode cX10_grownBy 24 = .ok (.getfield 378, 3) := by decide +kernel
theorem dX10_grownBy_27 : decode cX10_grownBy 27 = .ok (.aload_n 0, 1) := by decide +kernel
theorem dX10_grownBy_28 : decode cX10_grownBy 28 = .ok (.getfield 155, 3) := by decide +kernel
theorem dX10_grownBy_31 : decode cX10_grownBy 31 = .ok (.iload_n 1, 1) := by decide +kernel
theorem dX10_grownBy_32 : decode cX10_grownBy 32 = .ok (.iaload, 1) := by decide +kernel
theorem dX10_grownBy_33 : decode cX10_grownBy 33 = .ok (.if_icmp .ge 5, 3) := by decide +kernel
theorem dX10_grownBy_36 : decode cX10_grownBy 36 = .ok (.iconst 0, 1) := by decide +kernel
theorem dX10_grownBy_37 : decode cX10_grownBy 37 = .ok (.ireturn, 1) := by decide +kernel
theorem dX10_grownBy_38 : decode cX10_grownBy 38 = .ok (.aload_n 0, 1) := by decide +kernel
theorem dX10_grownBy_39 : decode cX10_grownBy 39 = .ok (.getfield 378, 3) := by decide +kernel
theorem dX10_grownBy_42 : decode cX10_grownBy 42 = .ok (.aload_n 0, 1) := by decide +kernel
theorem dX10_grownBy_43 : decode cX10_grownBy 43 = .ok (.getfield 155, 3) := by decide +kernel
theorem dX10_grownBy_46 : decode cX10_grownBy 46 = .ok (.iload_n 1, 1) := by decide +kernel
theorem dX10_grownBy_47 : decode cX10_grownBy 47 = .ok (.iaload, 1) := by decide +kernel
theorem dX10_grownBy_48 : decode cX10_grownBy 48 = .ok (.isub, 1) := by decide +kernel
theorem dX10_grownBy_49 : decode cX10_grownBy 49 = .ok (.iload_n 2, 1) := by decide +kernel
theorem dX10_grownBy_50 : decode cX10_grownBy 50 = .ok (.idiv, 1) := by decide +kernel
theorem dX10_grownBy_51 : decode cX10_grownBy 51 = .ok (.istore_n 3, 1) := by decide +kernel
theorem dX10_grownBy_52 : decode cX10_grownBy 52 = .ok (.iload_n 3, 1) := by decide +kernel
theorem dX10_grownBy_53 : decode cX10_grownBy 53 = .ok (.bipush 9, 2) := by decide +kernel
theorem dX10_grownBy_55 : decode cX10_grownBy 55 = .ok (.if_icmp .ge 7, 3) := by decide +kernel
theorem dX10_grownBy_58 : decode cX10_grownBy 58 = .ok (.iload_n 3, 1) := by decide +kernel
theorem dX10_grownBy_59 : decode cX10_grownBy 59 = .ok (.goto 5, 3) := by decide +kernel
theorem dX10_grownBy_62 : decode cX10_grownBy 62 = .ok (.bipush 9, 2) := by decide +kernel
theorem dX10_grownBy_64 : decode cX10_grownBy 64 = .ok (.ireturn, 1) := by decide +kernel
def rmX10_grownBy : Room := { frames := 1, cells := 0, slots := 0, locals := 22 }
set_option maxRecDepth 100000 in
def g_X10_grownBy_0 (th : Nat) (p1 : Int32) (m : MM) : Option (Int32 × MM) :=
  chk (m.K th = 11) (ck m (m.R 1160 th 0) 22 (fun a1 => chk (inb p1 (m.N a1) = true) (cal (f_X10_of th (m.I 1166 th 0) (18 + (m.I 22 a1 (Int32.toNatClampNeg p1))) m) (fun r1 m1 => if r1 = (-1) then (some (0, m1)) else (chk (m1.K th = 11) (ck m1 (m1.R 1164 th 0) 22 (fun a2 => chk (inb p1 (m1.N a2) = true) (if (m1.I 22 a2 (Int32.toNatClampNeg p1)) ≤ (m1.I 1167 th 0) then (chk (inb p1 (m1.N a2) = true) (chk (¬ r1 = 0) (bnd (((m1.I 1167 th 0) - (m1.I 22 a2 (Int32.toNatClampNeg p1))) / r1) (fun y1 => if 9 ≤ y1 then (some (9, m1)) else (some (y1, m1)))))) else (some (0, m1))))))))))
set_option maxHeartbeats 4000000 in
set_option maxRecDepth 100000 in
theorem s_X10_grownBy_0 {Γ : GX} {E : EX} (C : Cx Γ E cX10_grownBy RX10 4) (hr : Γ.meth.sig.returnType = (some .int)) (hrm : Γ.rm = rmX10_grownBy) (th : Nat) (p1 : Int32) (m : MM) : Sm (QM Γ E emI 0 0) Γ E 4 0 0 0 [(0, va_rf (some th)), (1, .int p1)] [] m (g_X10_grownBy_0 th p1 m) := by
  unfold g_X10_grownBy_0
  refine z_aload_n C dX10_grownBy_0 rfl 0 rfl ?_
  refine z_aload_n C dX10_grownBy_1 rfl 0 rfl ?_
  refine z_chk (fun hk1 => ?_)
  refine z_getI C fl_RX10_375 rfl hk1 dX10_grownBy_2 ?_
  refine z_bipush (v := 18) C dX10_grownBy_5 (by decide) ?_
  refine z_aload_n C dX10_grownBy_7 rfl 0 rfl ?_
  refine z_getR C fl_RX10_143 rfl hk1 dX10_grownBy_8 ?_
  refine z_iload_n C dX10_grownBy_11 rfl 1 rfl ?_
  refine z_ck (fun a1 hr1 hk2 => ?_)
  refine z_chk (fun hj1 => ?_)
  refine z_iald C hr1 hk2 hj1 dX10_grownBy_12 ?_
  refine z_iadd C dX10_grownBy_13 ?_
  refine z_cVI [.int (m.I 1166 th 0), .int (18 + (m.I 22 a1 (Int32.toNatClampNeg p1)))] [] C mv_RX10_196 (fun r0 m0 h0 => M_X10_of _ _ _ _ _ _ _ _ h0) rfl rfl ⟨by rw [hrm]; exact Nat.le_of_ble_eq_true rfl, by rw [hrm]; exact Nat.le_of_ble_eq_true rfl⟩ ⟨by rw [hrm]; exact Nat.le_of_ble_eq_true rfl, by rw [hrm]; exact Nat.le_of_ble_eq_true rfl⟩ rfl hk1 rfl rfl rfl (Nat.le_of_ble_eq_true rfl) dX10_grownBy_14 (fun r1 m1 => ?_)
  refine z_istore_n (i := 2) (L2 := [(2, .int r1), (0, va_rf (some th)), (1, .int p1)]) C dX10_grownBy_17 rfl (by decide) rfl ?_
  refine z_iload_n C dX10_grownBy_18 rfl 0 rfl ?_
  refine z_iconst (v := (-1)) C dX10_grownBy_19 (by decide) ?_
  refine z_icmp_eq (tgt := 36) C dX10_grownBy_20 (by decide) (fun c1 => ?_) (fun c1 => ?_)
  · refine z_iconst (v := 0) C dX10_grownBy_36 (by decide) ?_
    exact z_iret C hr dX10_grownBy_37
  · refine z_aload_n C dX10_grownBy_23 rfl 1 rfl ?_
    refine z_chk (fun hk3 => ?_)
    refine z_getI C fl_RX10_378 rfl hk3 dX10_grownBy_24 ?_
    refine z_aload_n C dX10_grownBy_27 rfl 1 rfl ?_
    refine z_getR C fl_RX10_155 rfl hk3 dX10_grownBy_28 ?_
    refine z_iload_n C dX10_grownBy_31 rfl 2 rfl ?_
    refine z_ck (fun a2 hr2 hk4 => ?_)
    refine z_chk (fun hj2 => ?_)
    refine z_iald C hr2 hk4 hj2 dX10_grownBy_32 ?_
    refine z_icmp_ge (tgt := 38) C dX10_grownBy_33 (by decide) (fun c2 => ?_) (fun c2 => ?_)
    · refine z_aload_n C dX10_grownBy_38 rfl 1 rfl ?_
      refine z_getI C fl_RX10_378 rfl hk3 dX10_grownBy_39 ?_
      refine z_aload_n C dX10_grownBy_42 rfl 1 rfl ?_
      refine z_getR C fl_RX10_155 rfl hk3 dX10_grownBy_43 ?_
      refine z_iload_n C dX10_grownBy_46 rfl 2 rfl ?_
      refine z_chk (fun hj3 => ?_)
      refine z_iald C hr2 hk4 hj3 dX10_grownBy_47 ?_
      refine z_isub C dX10_grownBy_48 ?_
      refine z_iload_n C dX10_grownBy_49 rfl 0 rfl ?_
      refine z_chk (fun hz1 => ?_)
      refine z_idiv C hz1 dX10_grownBy_50 ?_
      refine z_bndI (fun y1 => ?_)
      refine z_istore_n (i := 3) (L2 := [(3, .int y1), (2, .int r1), (0, va_rf (some th)), (1, .int p1)]) C dX10_grownBy_51 rfl (by decide) rfl ?_
      refine z_iload_n C dX10_grownBy_52 rfl 0 rfl ?_
      refine z_bipush (v := 9) C dX10_grownBy_53 (by decide) ?_
      refine z_icmp_ge (tgt := 62) C dX10_grownBy_55 (by decide) (fun c3 => ?_) (fun c3 => ?_)
      · refine z_bipush (v := 9) C dX10_grownBy_62 (by decide) ?_
        exact z_iret C hr dX10_grownBy_64
      · refine z_iload_n C dX10_grownBy_58 rfl 0 rfl ?_
        refine z_goto (tgt := 64) C dX10_grownBy_59 (by decide) ?_
        exact z_iret C hr dX10_grownBy_64
    · refine z_iconst (v := 0) C dX10_grownBy_36 (by decide) ?_
      exact z_iret C hr dX10_grownBy_37
def f_X10_grownBy (th : Nat) (p1 : Int32) (m : MM) : Option (Int32 × MM) := g_X10_grownBy_0 th p1 m
theorem M_X10_grownBy (l : Launch) (E : EX) (th : Nat) (p1 : Int32) (m : MM) (r : Int32) (m2 : MM) (h : f_X10_grownBy th p1 m = some (r, m2)) : Met l yX10_grownBy (.code yX10_grownBy cX10_grownBy 4 (some .int) :: TB) rmX10_grownBy (va_Pc [.ref th, .int p1] (St E m)) (QR E (emI r) m2) 0 0 (AA E) :=
  met_of (em := emI) (plainFor_of_name rfl) (Nat.le_of_ble_eq_true rfl) (L0 := [(0, va_rf (some th)), (1, .int p1)]) rfl (fun Γ _ hrm C hr hn => s_X10_grownBy_0 C hr hrm th p1 m) h

theorem dX10_grown_0 : decode cX10_grown 0 = .ok (.aload_n 0, 1) := by decide +kernel
theorem dX10_grown_1 : decode cX10_grown 1 = .ok (.iconst 0, 1) := by decide +kernel
theorem dX10_grown_2 : decode cX10_grown 2 = .ok (.putfield 180, 3) := by decide +kernel
theorem dX10_grown_5 : decode cX10_grown 5 = .ok (.aload_n 0, 1) := by decide +kernel
theorem dX10_grown_6 : decode cX10_grown 6 = .ok (.iload_n 1, 1) := by decide +kernel
theorem dX10_grown_7 : decode cX10_grown 7 = .ok (.iload_n 2, 1) := by decide +kernel
theorem dX10_grown_8 : decode cX10_grown 8 = .ok (.invokevirtual 366, 3) := by decide +kernel
theorem dX10_grown_11 : decode cX10_grown 11 = .ok (.ifCond .eq 10, 3) := by decide +kernel
theorem dX10_grown_14 : decode cX10_grown 14 = .ok (.iload_n 3, 1) := by decide +kernel
theorem dX10_grown_15 : decode cX10_grown 15 = .ok (.invokestatic 372, 3) := by decide +kernel
theorem dX10_grown_18 : decode cX10_grown 18 = .ok (.ifCond .ne 5, 3) := by decide +kernel
theorem dX10_grown_21 : decode cX10_grown 21 = .ok (.iconst (-1), 1) := by decide +kernel
theorem dX10_grown_22 : decode cX10_grown 22 = .ok (.ireturn, 1) := by decide +kernel
theorem dX10_grown_23 : decode cX10_grown 23 = .ok (.aload_n 0, 1) := by decide +kernel
theorem dX10_grown_24 : decode cX10_grown 24 = .ok (.iload_n 1, 1) := by decide +kernel
theorem dX10_grown_25 : decode cX10_grown 25 = .ok (.iload_n 3, 1) := by decide +kernel
theorem dX10_grown_26 : decode cX10_grown 26 = .ok (.invokevirtual 393, 3) := by decide +kernel
theorem dX10_grown_29 : decode cX10_grown 29 = .ok (.aload_n 0, 1) := by decide +kernel
theorem dX10_grown_30 : decode cX10_grown 30 = .ok (.iload_n 2, 1) := by decide +kernel
theorem dX10_grown_31 : decode cX10_grown 31 = .ok (.invokevirtual 413, 3) := by decide +kernel
theorem dX10_grown_34 : decode cX10_grown 34 = .ok (.ireturn, 1) := by decide +kernel
def rmX10_grown : Room := { frames := 3, cells := 0, slots := 0, locals := 65 }
set_option maxRecDepth 100000 in
def g_X10_grown_0 (th : Nat) (p1 : Int32) (p2 : Int32) (p3 : Int32) (m : MM) : Option (Int32 × MM) :=
  chk (m.K th = 11) (bnd (m.sI 1100 th 0 0) (fun m1 => cal (f_X10_isThing th p1 p2 m1) (fun r1 m2 => if r1 = 0 then (some ((-1), m2)) else (cal (f_X10_isDay p3 m2) (fun r2 m3 => if r2 = 0 then (some ((-1), m3)) else (chk (m3.K th = 11) (cal (f_X10_bring th p1 p3 m3) (fun r3 m4 => chk (m4.K th = 11) (cal (f_X10_grownBy th p2 m4) (fun r4 m5 => some (r4, m5)))))))))))
set_option maxHeartbeats 4000000 in
set_option maxRecDepth 100000 in
theorem s_X10_grown_0 {Γ : GX} {E : EX} (C : Cx Γ E cX10_grown RX10 4) (hr : Γ.meth.sig.returnType = (some .int)) (hrm : Γ.rm = rmX10_grown) (th : Nat) (p1 : Int32) (p2 : Int32) (p3 : Int32) (m : MM) : Sm (QM Γ E emI 0 0) Γ E 4 0 0 0 [(0, va_rf (some th)), (1, .int p1), (2, .int p2), (3, .int p3)] [] m (g_X10_grown_0 th p1 p2 p3 m) := by
  unfold g_X10_grown_0
  refine z_aload_n C dX10_grown_0 rfl 0 rfl ?_
  refine z_iconst (v := 0) C dX10_grown_1 (by decide) ?_
  refine z_chk (fun hk1 => ?_)
  refine z_putI C fl_RX10_180 (fun h => by cases h) rfl hk1 rfl rfl dX10_grown_2 (fun m1 eK1 eN1 => ?_)
  refine z_aload_n C dX10_grown_5 rfl 0 rfl ?_
  refine z_iload_n C dX10_grown_6 rfl 1 rfl ?_
  refine z_iload_n C dX10_grown_7 rfl 2 rfl ?_
  refine z_cVI [.int p1, .int p2] [] C mv_RX10_366 (fun r0 m0 h0 => M_X10_isThing _ _ _ _ _ _ _ _ h0) rfl rfl ⟨by rw [hrm]; exact Nat.le_of_ble_eq_true rfl, by rw [hrm]; exact Nat.le_of_ble_eq_true rfl⟩ ⟨by rw [hrm]; exact Nat.le_of_ble_eq_true rfl, by rw [hrm]; exact Nat.le_of_ble_eq_true rfl⟩ rfl (kfw eK1 hk1) rfl rfl rfl (Nat.le_of_ble_eq_true rfl) dX10_grown_8 (fun r1 m2 => ?_)
  refine z_if_eq (tgt := 21) C dX10_grown_11 (by decide) (fun c1 => ?_) (fun c1 => ?_)
  · refine z_iconst (v := (-1)) C dX10_grown_21 (by decide) ?_
    exact z_iret C hr dX10_grown_22
  · refine z_iload_n C dX10_grown_14 rfl 3 rfl ?_
    refine z_cSI [.int p3] [] C mv_RX10_372 (fun r0 m0 h0 => M_X10_isDay _ _ _ _ _ _ h0) rfl rfl ⟨by rw [hrm]; exact Nat.le_of_ble_eq_true rfl, by rw [hrm]; exact Nat.le_of_ble_eq_true rfl⟩ ⟨by rw [hrm]; exact Nat.le_of_ble_eq_true rfl, by rw [hrm]; exact Nat.le_of_ble_eq_true rfl⟩ rfl rfl (Nat.le_of_ble_eq_true rfl) dX10_grown_15 (fun r2 m3 => ?_)
    refine z_if_ne (tgt := 23) C dX10_grown_18 (by decide) (fun c2 => ?_) (fun c2 => ?_)
    · refine z_aload_n C dX10_grown_23 rfl 0 rfl ?_
      refine z_iload_n C dX10_grown_24 rfl 1 rfl ?_
      refine z_iload_n C dX10_grown_25 rfl 3 rfl ?_
      refine z_chk (fun hk2 => ?_)
      refine z_cVV [.int p1, .int p3] [] C mv_RX10_393 (fun r0 m0 h0 => M_X10_bring _ _ _ _ _ _ _ _ h0) rfl rfl ⟨by rw [hrm]; exact Nat.le_of_ble_eq_true rfl, by rw [hrm]; exact Nat.le_of_ble_eq_true rfl⟩ ⟨by rw [hrm]; exact Nat.le_of_ble_eq_true rfl, by rw [hrm]; exact Nat.le_of_ble_eq_true rfl⟩ rfl hk2 rfl rfl rfl (Nat.le_of_ble_eq_true rfl) dX10_grown_26 (fun r3 m4 => ?_)
      refine z_aload_n C dX10_grown_29 rfl 0 rfl ?_
      refine z_iload_n C dX10_grown_30 rfl 2 rfl ?_
      refine z_chk (fun hk3 => ?_)
      refine z_cVI [.int p2] [] C mv_RX10_413 (fun r0 m0 h0 => M_X10_grownBy _ _ _ _ _ _ _ h0) rfl rfl ⟨by rw [hrm]; exact Nat.le_of_ble_eq_true rfl, by rw [hrm]; exact Nat.le_of_ble_eq_true rfl⟩ ⟨by rw [hrm]; exact Nat.le_of_ble_eq_true rfl, by rw [hrm]; exact Nat.le_of_ble_eq_true rfl⟩ rfl hk3 rfl rfl rfl (Nat.le_of_ble_eq_true rfl) dX10_grown_31 (fun r4 m5 => ?_)
      exact z_iret C hr dX10_grown_34
    · refine z_iconst (v := (-1)) C dX10_grown_21 (by decide) ?_
      exact z_iret C hr dX10_grown_22
def f_X10_grown (th : Nat) (p1 : Int32) (p2 : Int32) (p3 : Int32) (m : MM) : Option (Int32 × MM) := g_X10_grown_0 th p1 p2 p3 m
theorem M_X10_grown (l : Launch) (E : EX) (th : Nat) (p1 : Int32) (p2 : Int32) (p3 : Int32) (m : MM) (r : Int32) (m2 : MM) (h : f_X10_grown th p1 p2 p3 m = some (r, m2)) : Met l yX10_grown (.code yX10_grown cX10_grown 4 (some .int) :: TB) rmX10_grown (va_Pc [.ref th, .int p1, .int p2, .int p3] (St E m)) (QR E (emI r) m2) 0 0 (AA E) :=
  met_of (em := emI) (plainFor_of_name rfl) (Nat.le_of_ble_eq_true rfl) (L0 := [(0, va_rf (some th)), (1, .int p1), (2, .int p2), (3, .int p3)]) rfl (fun Γ _ hrm C hr hn => s_X10_grown_0 C hr hrm th p1 p2 p3 m) h

theorem dX10_towardX_0 : decode cX10_towardX 0 = .ok (.iload_n 0, 1) := by decide +kernel
theorem dX10_towardX_1 : decode cX10_towardX 1 = .ok (.ifCond .eq 14, 3) := by decide +kernel
theorem dX10_towardX_4 : decode cX10_towardX 4 = .ok (.iload_n 0, 1) := by decide +kernel
theorem dX10_towardX_5 : decode cX10_towardX 5 = .ok (.iconst 1, 1) := by decide +kernel
theorem dX10_towardX_6 : decode cX10_towardX 6 = .ok (.if_icmp .eq 9, 3) := by decide +kernel
theorem dX10_towardX_9 : decode cX10_towardX 9 = .ok (.iload_n 0, 1) := by decide +kernel
theorem dX10_towardX_10 : decode cX10_towardX 10 = .ok (.bipush 7, 2) := by decide +kernel
theorem dX10_towardX_12 : decode cX10_towardX 12 = .ok (.if_icmp .ne 7, 3) := by decide +kernel
theorem dX10_towardX_15 : decode cX10_towardX 15 = .ok (.iconst 1, 1) := by decide +kernel
theorem dX10_towardX_16 : decode cX10_towardX 16 = .ok (.goto 19, 3) := by decide +kernel
theorem dX10_towardX_19 : decode cX10_towardX 19 = .ok (.iload_n 0, 1) := by decide +kernel
theorem dX10_towardX_20 : decode cX10_towardX 20 = .ok (.iconst 2, 1) := by decide +kernel
theorem dX10_towardX_21 : decode cX10_towardX 21 = .ok (.if_icmp .eq 9, 3) := by decide +kernel
theorem dX10_towardX_24 : decode cX10_towardX 24 = .ok (.iload_n 0, 1) := by decide +kernel
theorem dX10_towardX_25 : decode cX10_towardX 25 = .ok (.bipush 6, 2) := by decide +kernel
theorem dX10_towardX_27 : decode cX10_towardX 27 = .ok (.if_icmp .ne 7, 3) := by decide +kernel
theorem dX10_towardX_30 : decode cX10_towardX 30 = .ok (.iconst 0, 1) := by decide +kernel
theorem dX10_towardX_31 : decode cX10_towardX 31 = .ok (.goto 4, 3) := by decide +kernel
theorem dX10_towardX_34 : decode cX10_towardX 34 = .ok (.iconst (-1), 1) := by decide +kernel
theorem dX10_towardX_35 : decode cX10_towardX 35 = .ok (.ireturn, 1) := by decide +kernel
def rmX10_towardX : Room := { frames := 0, cells := 0, slots := 0, locals := 0 }
set_option maxRecDepth 100000 in
def g_X10_towardX_15 (p0 : Int32) (m : MM) : Option (Int32 × MM) :=
  some (1, m)
set_option maxHeartbeats 4000000 in
set_option maxRecDepth 100000 in
theorem s_X10_towardX_15 {Γ : GX} {E : EX} (C : Cx Γ E cX10_towardX RX10 1) (hr : Γ.meth.sig.returnType = (some .int)) (hrm : Γ.rm = rmX10_towardX) (p0 : Int32) (m : MM) : Sm (QM Γ E emI 0 0) Γ E 1 0 0 15 [(0, .int p0)] [] m (g_X10_towardX_15 p0 m) := by
  unfold g_X10_towardX_15
  refine z_iconst (v := 1) C dX10_towardX_15 (by decide) ?_
  refine z_goto (tgt := 35) C dX10_towardX_16 (by decide) ?_
  exact z_iret C hr dX10_towardX_35
set_option maxRecDepth 100000 in
def g_X10_towardX_30 (p0 : Int32) (m : MM) : Option (Int32 × MM) :=
  some (0, m)
set_option maxHeartbeats 4000000 in
set_option maxRecDepth 100000 in
theorem s_X10_towardX_30 {Γ : GX} {E : EX} (C : Cx Γ E cX10_towardX RX10 1) (hr : Γ.meth.sig.returnType = (some .int)) (hrm : Γ.rm = rmX10_towardX) (p0 : Int32) (m : MM) : Sm (QM Γ E emI 0 0) Γ E 1 0 0 30 [(0, .int p0)] [] m (g_X10_towardX_30 p0 m) := by
  unfold g_X10_towardX_30
  refine z_iconst (v := 0) C dX10_towardX_30 (by decide) ?_
  refine z_goto (tgt := 35) C dX10_towardX_31 (by decide) ?_
  exact z_iret C hr dX10_towardX_35
set_option maxRecDepth 100000 in
def g_X10_towardX_0 (p0 : Int32) (m : MM) : Option (Int32 × MM) :=
  if p0 = 0 then (g_X10_towardX_15 p0 m) else (if p0 = 1 then (g_X10_towardX_15 p0 m) else (if p0 = 7 then (g_X10_towardX_15 p0 m) else (if p0 = 2 then (g_X10_towardX_30 p0 m) else (if p0 = 6 then (g_X10_towardX_30 p0 m) else (some ((-1), m))))))
set_option maxHeartbeats 4000000 in
set_option maxRecDepth 100000 in
theorem s_X10_towardX_0 {Γ : GX} {E : EX} (C : Cx Γ E cX10_towardX RX10 1) (hr : Γ.meth.sig.returnType = (some .int)) (hrm : Γ.rm = rmX10_towardX) (p0 : Int32) (m : MM) : Sm (QM Γ E emI 0 0) Γ E 1 0 0 0 [(0, .int p0)] [] m (g_X10_towardX_0 p0 m) := by
  unfold g_X10_towardX_0
  refine z_iload_n C dX10_towardX_0 rfl 0 rfl ?_
  refine z_if_eq (tgt := 15) C dX10_towardX_1 (by decide) (fun c1 => ?_) (fun c1 => ?_)
  · exact z_sub [0] rfl (s_X10_towardX_15 C hr hrm p0 m)
  · refine z_iload_n C dX10_towardX_4 rfl 0 rfl ?_
    refine z_iconst (v := 1) C dX10_towardX_5 (by decide) ?_
    refine z_icmp_eq (tgt := 15) C dX10_towardX_6 (by decide) (fun c2 => ?_) (fun c2 => ?_)
    · exact z_sub [0] rfl (s_X10_towardX_15 C hr hrm p0 m)
    · refine z_iload_n C dX10_towardX_9 rfl 0 rfl ?_
      refine z_bipush (v := 7) C dX10_towardX_10 (by decide) ?_
      refine z_icmp_ne (tgt := 19) C dX10_towardX_12 (by decide) (fun c3 => ?_) (fun c3 => ?_)
      · refine z_iload_n C dX10_towardX_19 rfl 0 rfl ?_
        refine z_iconst (v := 2) C dX10_towardX_20 (by decide) ?_
        refine z_icmp_eq (tgt := 30) C dX10_towardX_21 (by decide) (fun c4 => ?_) (fun c4 => ?_)
        · exact z_sub [0] rfl (s_X10_towardX_30 C hr hrm p0 m)
        · refine z_iload_n C dX10_towardX_24 rfl 0 rfl ?_
          refine z_bipush (v := 6) C dX10_towardX_25 (by decide) ?_
          refine z_icmp_ne (tgt := 34) C dX10_towardX_27 (by decide) (fun c5 => ?_) (fun c5 => ?_)
          · refine z_iconst (v := (-1)) C dX10_towardX_34 (by decide) ?_
            exact z_iret C hr dX10_towardX_35
          · exact z_sub [0] rfl (s_X10_towardX_30 C hr hrm p0 m)
      · exact z_sub [0] rfl (s_X10_towardX_15 C hr hrm p0 m)
def f_X10_towardX (p0 : Int32) (m : MM) : Option (Int32 × MM) := g_X10_towardX_0 p0 m
theorem M_X10_towardX (l : Launch) (E : EX) (p0 : Int32) (m : MM) (r : Int32) (m2 : MM) (h : f_X10_towardX p0 m = some (r, m2)) : Met l yX10_towardX (.code yX10_towardX cX10_towardX 1 (some .int) :: TB) rmX10_towardX (va_Pc [.int p0] (St E m)) (QR E (emI r) m2) 0 0 (AA E) :=
  met_of (em := emI) (plainFor_of_name rfl) (Nat.le_of_ble_eq_true rfl) (L0 := [(0, .int p0)]) rfl (fun Γ _ hrm C hr hn => s_X10_towardX_0 C hr hrm p0 m) h

theorem dX10_towardY_0 : decode cX10_towardY 0 = .ok (.iload_n 0, 1) := by decide +kernel
theorem dX10_towardY_1 : decode cX10_towardY 1 = .ok (.iconst 1, 1) := by decide +kernel
theorem dX10_towardY_2 : decode cX10_towardY 2 = .ok (.if_icmp .eq 13, 3) := by decide +kernel
theorem dX10_towardY_5 : decode cX10_towardY 5 = .ok (.iload_n 0, 1) := by decide +kernel
theorem dX10_towardY_6 : decode cX10_towardY 6 = .ok (.iconst 2, 1) := by decide +kernel
theorem dX10_towardY_7 : decode cX10_towardY 7 = .ok (.if_icmp .eq 8, 3) := by decide +kernel
theorem dX10_towardY_10 : decode cX10_towardY 10 = .ok (.iload_n 0, 1) := by decide +kernel
theorem dX10_towardY_11 : decode cX10_towardY 11 = .ok (.iconst 3, 1) := by decide +kernel
theorem dX10_towardY_12 : decode cX10_towardY 12 = .ok (.if_icmp .ne 7, 3) := by decide +kernel
theorem dX10_towardY_15 : decode cX10_towardY 15 = .ok (.iconst 1, 1) := by decide +kernel
theorem dX10_towardY_16 : decode cX10_towardY 16 = .ok (.goto 17, 3) := by decide +kernel
theorem dX10_towardY_19 : decode cX10_towardY 19 = .ok (.iload_n 0, 1) := by decide +kernel
theorem dX10_towardY_20 : decode cX10_towardY 20 = .ok (.ifCond .eq 8, 3) := by decide +kernel
theorem dX10_towardY_23 : decode cX10_towardY 23 = .ok (.iload_n 0, 1) := by decide +kernel
theorem dX10_towardY_24 : decode cX10_towardY 24 = .ok (.iconst 4, 1) := by decide +kernel
theorem dX10_towardY_25 : decode cX10_towardY 25 = .ok (.if_icmp .ne 7, 3) := by decide +kernel
theorem dX10_towardY_28 : decode cX10_towardY 28 = .ok (.iconst 0, 1) := by decide +kernel
theorem dX10_towardY_29 : decode cX10_towardY 29 = .ok (.goto 4, 3) := by decide +kernel
theorem dX10_towardY_32 : decode cX10_towardY 32 = .ok (.iconst (-1), 1) := by decide +kernel
theorem dX10_towardY_33 : decode cX10_towardY 33 = .ok (.ireturn, 1) := by decide +kernel
def rmX10_towardY : Room := { frames := 0, cells := 0, slots := 0, locals := 0 }
set_option maxRecDepth 100000 in
def g_X10_towardY_15 (p0 : Int32) (m : MM) : Option (Int32 × MM) :=
  some (1, m)
set_option maxHeartbeats 4000000 in
set_option maxRecDepth 100000 in
theorem s_X10_towardY_15 {Γ : GX} {E : EX} (C : Cx Γ E cX10_towardY RX10 1) (hr : Γ.meth.sig.returnType = (some .int)) (hrm : Γ.rm = rmX10_towardY) (p0 : Int32) (m : MM) : Sm (QM Γ E emI 0 0) Γ E 1 0 0 15 [(0, .int p0)] [] m (g_X10_towardY_15 p0 m) := by
  unfold g_X10_towardY_15
  refine z_iconst (v := 1) C dX10_towardY_15 (by decide) ?_
  refine z_goto (tgt := 33) C dX10_towardY_16 (by decide) ?_
  exact z_iret C hr dX10_towardY_33
set_option maxRecDepth 100000 in
def g_X10_towardY_28 (p0 : Int32) (m : MM) : Option (Int32 × MM) :=
  some (0, m)
set_option maxHeartbeats 4000000 in
set_option maxRecDepth 100000 in
theorem s_X10_towardY_28 {Γ : GX} {E : EX} (C : Cx Γ E cX10_towardY RX10 1) (hr : Γ.meth.sig.returnType = (some .int)) (hrm : Γ.rm = rmX10_towardY) (p0 : Int32) (m : MM) : Sm (QM Γ E emI 0 0) Γ E 1 0 0 28 [(0, .int p0)] [] m (g_X10_towardY_28 p0 m) := by
  unfold g_X10_towardY_28
  refine z_iconst (v := 0) C dX10_towardY_28 (by decide) ?_
  refine z_goto (tgt := 33) C dX10_towardY_29 (by decide) ?_
  exact z_iret C hr dX10_towardY_33
set_option maxRecDepth 100000 in
def g_X10_towardY_0 (p0 : Int32) (m : MM) : Option (Int32 × MM) :=
  if p0 = 1 then (g_X10_towardY_15 p0 m) else (if p0 = 2 then (g_X10_towardY_15 p0 m) else (if p0 = 3 then (g_X10_towardY_15 p0 m) else (if p0 = 0 then (g_X10_towardY_28 p0 m) else (if p0 = 4 then (g_X10_towardY_28 p0 m) else (some ((-1), m))))))
set_option maxHeartbeats 4000000 in
set_option maxRecDepth 100000 in
theorem s_X10_towardY_0 {Γ : GX} {E : EX} (C : Cx Γ E cX10_towardY RX10 1) (hr : Γ.meth.sig.returnType = (some .int)) (hrm : Γ.rm = rmX10_towardY) (p0 : Int32) (m : MM) : Sm (QM Γ E emI 0 0) Γ E 1 0 0 0 [(0, .int p0)] [] m (g_X10_towardY_0 p0 m) := by
  unfold g_X10_towardY_0
  refine z_iload_n C dX10_towardY_0 rfl 0 rfl ?_
  refine z_iconst (v := 1) C dX10_towardY_1 (by decide) ?_
  refine z_icmp_eq (tgt := 15) C dX10_towardY_2 (by decide) (fun c1 => ?_) (fun c1 => ?_)
  · exact z_sub [0] rfl (s_X10_towardY_15 C hr hrm p0 m)
  · refine z_iload_n C dX10_towardY_5 rfl 0 rfl ?_
    refine z_iconst (v := 2) C dX10_towardY_6 (by decide) ?_
    refine z_icmp_eq (tgt := 15) C dX10_towardY_7 (by decide) (fun c2 => ?_) (fun c2 => ?_)
    · exact z_sub [0] rfl (s_X10_towardY_15 C hr hrm p0 m)
    · refine z_iload_n C dX10_towardY_10 rfl 0 rfl ?_
      refine z_iconst (v := 3) C dX10_towardY_11 (by decide) ?_
      refine z_icmp_ne (tgt := 19) C dX10_towardY_12 (by decide) (fun c3 => ?_) (fun c3 => ?_)
      · refine z_iload_n C dX10_towardY_19 rfl 0 rfl ?_
        refine z_if_eq (tgt := 28) C dX10_towardY_20 (by decide) (fun c4 => ?_) (fun c4 => ?_)
        · exact z_sub [0] rfl (s_X10_towardY_28 C hr hrm p0 m)
        · refine z_iload_n C dX10_towardY_23 rfl 0 rfl ?_
          refine z_iconst (v := 4) C dX10_towardY_24 (by decide) ?_
          refine z_icmp_ne (tgt := 32) C dX10_towardY_25 (by decide) (fun c5 => ?_) (fun c5 => ?_)
          · refine z_iconst (v := (-1)) C dX10_towardY_32 (by decide) ?_
            exact z_iret C hr dX10_towardY_33
          · exact z_sub [0] rfl (s_X10_towardY_28 C hr hrm p0 m)
      · exact z_sub [0] rfl (s_X10_towardY_15 C hr hrm p0 m)
def f_X10_towardY (p0 : Int32) (m : MM) : Option (Int32 × MM) := g_X10_towardY_0 p0 m
theorem M_X10_towardY (l : Launch) (E : EX) (p0 : Int32) (m : MM) (r : Int32) (m2 : MM) (h : f_X10_towardY p0 m = some (r, m2)) : Met l yX10_towardY (.code yX10_towardY cX10_towardY 1 (some .int) :: TB) rmX10_towardY (va_Pc [.int p0] (St E m)) (QR E (emI r) m2) 0 0 (AA E) :=
  met_of (em := emI) (plainFor_of_name rfl) (Nat.le_of_ble_eq_true rfl) (L0 := [(0, .int p0)]) rfl (fun Γ _ hrm C hr hn => s_X10_towardY_0 C hr hrm p0 m) h

theorem dX10_smellsIn_0 : decode cX10_smellsIn 0 = .ok (.aload_n 0, 1) := by decide +kernel
theorem dX10_smellsIn_1 : decode cX10_smellsIn 1 = .ok (.aload_n 0, 1) := by decide +kernel
theorem dX10_smellsIn_2 : decode cX10_smellsIn 2 = .ok (.getfield 375, 3) := by decide +kernel
theorem dX10_smellsIn_5 : decode cX10_smellsIn 5 = .ok (.bipush 10, 2) := by decide +kernel
theorem dX10_smellsIn_7 : decode cX10_smellsIn 7 = .ok (.iload_n 1, 1) := by decide +kernel
theorem dX10_smellsIn_8 : decode cX10_smellsIn 8 = .ok (.iadd, 1) := by decide +kernel
theorem dX10_smellsIn_9 : decode cX10_smellsIn 9 = .ok (.invokevirtual 196, 3) := by decide +kernel
theorem dX10_smellsIn_12 : decode cX10_smellsIn 12 = .ok (.istore 4, 2) := by decide +kernel
theorem dX10_smellsIn_14 : decode cX10_smellsIn 14 = .ok (.iload 4, 2) := by decide +kernel
theorem dX10_smellsIn_16 : decode cX10_smellsIn 16 = .ok (.iconst (-1), 1) := by decide +kernel
theorem dX10_smellsIn_17 : decode cX10_smellsIn 17 = .ok (.if_icmp .ne 5, 3) := by decide +kernel
theorem dX10_smellsIn_20 : decode cX10_smellsIn 20 = .ok (.iconst 0, 1) := by decide +kernel
theorem dX10_smellsIn_21 : decode cX10_smellsIn 21 = .ok (.ireturn, 1) := by decide +kernel
theorem dX10_smellsIn_22 : decode cX10_smellsIn 22 = .ok (.aload_n 0, 1) := by decide +kernel
theorem dX10_smellsIn_23 : decode cX10_smellsIn 23 = .ok (.getfield 146, 3) := by decide +kernel
theorem dX10_smellsIn_26 : decode cX10_smellsIn 26 = .ok (.iload_n 3, 1) := by decide +kernel
theorem dX10_smellsIn_27 : decode cX10_smellsIn 27 = .ok (.iaload, 1) := by decide +kernel
theorem dX10_smellsIn_28 : decode cX10_smellsIn 28 = .ok (.aload_n 0, 1) := by decide +kernel
theorem dX10_smellsIn_29 : decode cX10_smellsIn 29 = .ok (.getfield 146, 3) := by decide +kernel
theorem dX10_smellsIn_32 : decode cX10_smellsIn 32 = .ok (.iload_n 2, 1) := by decide +kernel
theorem dX10_smellsIn_33 : decode cX10_smellsIn 33 = .ok (.iaload, 1) := by decide +kernel
theorem dX10_smellsIn_34 : decode cX10_smellsIn 34 = .ok (.isub, 1) := by decide +kernel
theorem dX10_smellsIn_35 : decode cX10_smellsIn 35 = .ok (.istore 5, 2) := by decide +kernel
theorem dX10_smellsIn_37 : decode cX10_smellsIn 37 = .ok (.aload_n 0, 1) := by decide +kernel
theorem dX10_smellsIn_38 : decode cX10_smellsIn 38 = .ok (.getfield 149, 3) := by decide +kernel
theorem dX10_smellsIn_41 : decode cX10_smellsIn 41 = .ok (.iload_n 3, 1) := by decide +kernel
theorem dX10_smellsIn_42 : decode cX10_smellsIn 42 = .ok (.iaload, 1) := by decide +kernel
theorem dX10_smellsIn_43 : decode cX10_smellsIn 43 = .ok (.aload_n 0, 1) := by decide +kernel
theorem dX10_smellsIn_44 : decode cX10_smellsIn 44 = .ok (.getfield 149, 3) := by decide +kernel
theorem dX10_smellsIn_47 : decode cX10_smellsIn 47 = .ok (.iload_n 2, 1) := by decide +kernel
theorem dX10_smellsIn_48 : decode cX10_smellsIn 48 = .ok (.iaload, 1) := by decide +kernel
theorem dX10_smellsIn_49 : decode cX10_smellsIn 49 = .ok (.isub, 1) := by decide +kernel
theorem dX10_smellsIn_50 : decode cX10_smellsIn 50 = .ok (.istore 6, 2) := by decide +kernel
theorem dX10_smellsIn_52 : decode cX10_smellsIn 52 = .ok (.iload 5, 2) := by decide +kernel
theorem dX10_smellsIn_54 : decode cX10_smellsIn 54 = .ok (.iload 4, 2) := by decide +kernel
theorem dX10_smellsIn_56 : decode cX10_smellsIn 56 = .ok (.invokestatic 417, 3) := by decide +kernel
theorem dX10_smellsIn_59 : decode cX10_smellsIn 59 = .ok (.imul, 1) := by decide +kernel
theorem dX10_smellsIn_60 : decode cX10_smellsIn 60 = .ok (.iload 6, 2) := by decide +kernel
theorem dX10_smellsIn_62 : decode cX10_smellsIn 62 = .ok (.iload 4, 2) := by decide +kernel
theorem dX10_smellsIn_64 : decode cX10_smellsIn 64 = .ok (.invokestatic 420, 3) := by decide +kernel
theorem dX10_smellsIn_67 : decode cX10_smellsIn 67 = .ok (.imul, 1) := by decide +kernel
theorem dX10_smellsIn_68 : decode cX10_smellsIn 68 = .ok (.iadd, 1) := by decide +kernel
theorem dX10_smellsIn_69 : decode cX10_smellsIn 69 = .ok (.istore 7, 2) := by decide +kernel
theorem dX10_smellsIn_71 : decode cX10_smellsIn 71 = .ok (.iload 5, 2) := by decide +kernel
theorem dX10_smellsIn_73 : decode cX10_smellsIn 73 = .ok (.iload 4, 2) := by decide +kernel
theorem dX10_smellsIn_75 : decode cX10_smellsIn 75 = .ok (.invokestatic 420, 3) := by decide +kernel
theorem dX10_smellsIn_78 : decode cX10_smellsIn 78 = .ok (.imul, 1) := by decide +kernel
theorem dX10_smellsIn_79 : decode cX10_smellsIn 79 = .ok (.iload 6, 2) := by decide +kernel
theorem dX10_smellsIn_81 : decode cX10_smellsIn 81 = .ok (.iload 4, 2) := by decide +kernel
theorem dX10_smellsIn_83 : decode cX10_smellsIn 83 = .ok (.invokestatic 417, 3) := by decide +kernel
theorem dX10_smellsIn_86 : decode cX10_smellsIn 86 = .ok (.imul, 1) := by decide +kernel
theorem dX10_smellsIn_87 : decode cX10_smellsIn 87 = .ok (.isub, 1) := by decide +kernel
theorem dX10_smellsIn_88 : decode cX10_smellsIn 88 = .ok (.istore 8, 2) := by decide +kernel
theorem dX10_smellsIn_90 : decode cX10_smellsIn 90 = .ok (.iload 7, 2) := by decide +kernel
theorem dX10_smellsIn_92 : decode cX10_smellsIn 92 = .ok (.ifCond .le 25, 3) := by decide +kernel
theorem dX10_smellsIn_95 : decode cX10_smellsIn 95 = .ok (.iload 7, 2) := by decide +kernel
theorem dX10_smellsIn_97 : decode cX10_smellsIn 97 = .ok (.iload 8, 2) := by decide +kernel
theorem dX10_smellsIn_99 : decode cX10_smellsIn 99 = .ok (.ifCond .ge 9, 3) := by decide +kernel
theorem dX10_smellsIn_102 : decode cX10_smellsIn 102 = .ok (.iload 8, 2) := by decide +kernel
theorem dX10_smellsIn_104 : decode cX10_smellsIn 104 = .ok (.ineg, 1) := by decide +kernel
theorem dX10_smellsIn_105 : decode cX10_smellsIn 105 = .ok (.goto 5, 3) := by decide +kernel
theorem dX10_smellsIn_108 : decode cX10_smellsIn 108 = .ok (.iload 8, 2) := by decide +kernel
theorem dX10_smellsIn_110 : decode cX10_smellsIn 110 = .ok (.if_icmp .lt 7, 3) := by decide +kernel
theorem dX10_smellsIn_113 : decode cX10_smellsIn 113 = .ok (.iconst 1, 1) := by decide +kernel
theorem dX10_smellsIn_114 : decode cX10_smellsIn 114 = .ok (.goto 4, 3) := by decide +kernel
theorem dX10_smellsIn_117 : decode cX10_smellsIn 117 = .ok (.iconst 0, 1) := by decide +kernel
theorem dX10_smellsIn_118 : decode cX10_smellsIn 118 = .ok (.ireturn, 1) := by decide +kernel
def rmX10_smellsIn : Room := { frames := 1, cells := 0, slots := 0, locals := 22 }
set_option maxRecDepth 100000 in
def g_X10_smellsIn_117 (th : Nat) (p1 : Int32) (p2 : Int32) (p3 : Int32) (m : MM) : Option (Int32 × MM) :=
  some (0, m)
set_option maxHeartbeats 4000000 in
set_option maxRecDepth 100000 in
theorem s_X10_smellsIn_117 {Γ : GX} {E : EX} (C : Cx Γ E cX10_smellsIn RX10 9) (hr : Γ.meth.sig.returnType = (some .boolean)) (hrm : Γ.rm = rmX10_smellsIn) (th : Nat) (p1 : Int32) (p2 : Int32) (p3 : Int32) (m : MM) : Sm (QM Γ E emI 0 0) Γ E 9 0 0 117 [(0, va_rf (some th)), (1, .int p1), (2, .int p2), (3, .int p3)] [] m (g_X10_smellsIn_117 th p1 p2 p3 m) := by
  unfold g_X10_smellsIn_117
  refine z_iconst (v := 0) C dX10_smellsIn_117 (by decide) ?_
  exact z_zret C hr rfl dX10_smellsIn_118
set_option maxRecDepth 100000 in
def g_X10_smellsIn_110 (th : Nat) (p1 : Int32) (p2 : Int32) (p3 : Int32) (s0 : Int32) (s1 : Int32) (m : MM) : Option (Int32 × MM) :=
  if s0 < s1 then (g_X10_smellsIn_117 th p1 p2 p3 m) else (some (1, m))
set_option maxHeartbeats 4000000 in
set_option maxRecDepth 100000 in
theorem s_X10_smellsIn_110 {Γ : GX} {E : EX} (C : Cx Γ E cX10_smellsIn RX10 9) (hr : Γ.meth.sig.returnType = (some .boolean)) (hrm : Γ.rm = rmX10_smellsIn) (th : Nat) (p1 : Int32) (p2 : Int32) (p3 : Int32) (s0 : Int32) (s1 : Int32) (m : MM) : Sm (QM Γ E emI 0 0) Γ E 9 0 0 110 [(0, va_rf (some th)), (1, .int p1), (2, .int p2), (3, .int p3)] [.int s1, .int s0] m (g_X10_smellsIn_110 th p1 p2 p3 s0 s1 m) := by
  unfold g_X10_smellsIn_110
  refine z_icmp_lt (tgt := 117) C dX10_smellsIn_110 (by decide) (fun c1 => ?_) (fun c1 => ?_)
  · exact z_sub [0, 1, 2, 3] rfl (s_X10_smellsIn_117 C hr hrm th p1 p2 p3 m)
  · refine z_iconst (v := 1) C dX10_smellsIn_113 (by decide) ?_
    refine z_goto (tgt := 118) C dX10_smellsIn_114 (by decide) ?_
    exact z_zret C hr rfl dX10_smellsIn_118
set_option maxRecDepth 100000 in
def g_X10_smellsIn_0 (th : Nat) (p1 : Int32) (p2 : Int32) (p3 : Int32) (m : MM) : Option (Int32 × MM) :=
  chk (m.K th = 11) (cal (f_X10_of th (m.I 1166 th 0) (10 + p1) m) (fun r1 m1 => if r1 = (-1) then (some (0, m1)) else (chk (m1.K th = 11) (ck m1 (m1.R 1161 th 0) 22 (fun a1 => chk (inb p3 (m1.N a1) = true) (chk (inb p2 (m1.N a1) = true) (bnd ((m1.I 22 a1 (Int32.toNatClampNeg p3)) - (m1.I 22 a1 (Int32.toNatClampNeg p2))) (fun y1 => ck m1 (m1.R 1162 th 0) 22 (fun a2 => chk (inb p3 (m1.N a2) = true) (chk (inb p2 (m1.N a2) = true) (bnd ((m1.I 22 a2 (Int32.toNatClampNeg p3)) - (m1.I 22 a2 (Int32.toNatClampNeg p2))) (fun y2 => cal (f_X10_towardX r1 m1) (fun r2 m2 => cal (f_X10_towardY r1 m2) (fun r3 m3 => bnd ((y1 * r2) + (y2 * r3)) (fun y3 => cal (f_X10_towardY r1 m3) (fun r4 m4 => cal (f_X10_towardX r1 m4) (fun r5 m5 => bnd ((y1 * r4) - (y2 * r5)) (fun y4 => if y3 ≤ 0 then (g_X10_smellsIn_117 th p1 p2 p3 m5) else (if 0 ≤ y4 then (g_X10_smellsIn_110 th p1 p2 p3 y3 y4 m5) else (g_X10_smellsIn_110 th p1 p2 p3 y3 (-y4) m5))))))))))))))))))))
set_option maxHeartbeats 4000000 in
set_option maxRecDepth 100000 in
theorem s_X10_smellsIn_0 {Γ : GX} {E : EX} (C : Cx Γ E cX10_smellsIn RX10 9) (hr : Γ.meth.sig.returnType = (some .boolean)) (hrm : Γ.rm = rmX10_smellsIn) (th : Nat) (p1 : Int32) (p2 : Int32) (p3 : Int32) (m : MM) : Sm (QM Γ E emI 0 0) Γ E 9 0 0 0 [(0, va_rf (some th)), (1, .int p1), (2, .int p2), (3, .int p3)] [] m (g_X10_smellsIn_0 th p1 p2 p3 m) := by
  unfold g_X10_smellsIn_0
  refine z_aload_n C dX10_smellsIn_0 rfl 0 rfl ?_
  refine z_aload_n C dX10_smellsIn_1 rfl 0 rfl ?_
  refine z_chk (fun hk1 => ?_)
  refine z_getI C fl_RX10_375 rfl hk1 dX10_smellsIn_2 ?_
  refine z_bipush (v := 10) C dX10_smellsIn_5 (by decide) ?_
  refine z_iload_n C dX10_smellsIn_7 rfl 1 rfl ?_
  refine z_iadd C dX10_smellsIn_8 ?_
  refine z_cVI [.int (m.I 1166 th 0), .int (10 + p1)] [] C mv_RX10_196 (fun r0 m0 h0 => M_X10_of _ _ _ _ _ _ _ _ h0) rfl rfl ⟨by rw [hrm]; exact Nat.le_of_ble_eq_true rfl, by rw [hrm]; exact Nat.le_of_ble_eq_true rfl⟩ ⟨by rw [hrm]; exact Nat.le_of_ble_eq_true rfl, by rw [hrm]; exact Nat.le_of_ble_eq_true rfl⟩ rfl hk1 rfl rfl rfl (Nat.le_of_ble_eq_true rfl) dX10_smellsIn_9 (fun r1 m1 => ?_)
  refine z_istore (i := 4) (L2 := [(4, .int r1), (0, va_rf (some th)), (1, .int p1), (2, .int p2), (3, .int p3)]) C dX10_smellsIn_12 (by decide) rfl ?_
  refine z_iload C dX10_smellsIn_14 0 rfl ?_
  refine z_iconst (v := (-1)) C dX10_smellsIn_16 (by decide) ?_
  refine z_icmp_ne (tgt := 22) C dX10_smellsIn_17 (by decide) (fun c2 => ?_) (fun c2 => ?_)
  · refine z_aload_n C dX10_smellsIn_22 rfl 1 rfl ?_
    refine z_chk (fun hk2 => ?_)
    refine z_getR C fl_RX10_146 rfl hk2 dX10_smellsIn_23 ?_
    refine z_iload_n C dX10_smellsIn_26 rfl 4 rfl ?_
    refine z_ck (fun a1 hr1 hk3 => ?_)
    refine z_chk (fun hj1 => ?_)
    refine z_iald C hr1 hk3 hj1 dX10_smellsIn_27 ?_
    refine z_aload_n C dX10_smellsIn_28 rfl 1 rfl ?_
    refine z_getR C fl_RX10_146 rfl hk2 dX10_smellsIn_29 ?_
    refine z_iload_n C dX10_smellsIn_32 rfl 3 rfl ?_
    refine z_chk (fun hj2 => ?_)
    refine z_iald C hr1 hk3 hj2 dX10_smellsIn_33 ?_
    refine z_isub C dX10_smellsIn_34 ?_
    refine z_bndI (fun y1 => ?_)
    refine z_istore (i := 5) (L2 := [(5, .int y1), (4, .int r1), (0, va_rf (some th)), (1, .int p1), (2, .int p2), (3, .int p3)]) C dX10_smellsIn_35 (by decide) rfl ?_
    refine z_aload_n C dX10_smellsIn_37 rfl 2 rfl ?_
    refine z_getR C fl_RX10_149 rfl hk2 dX10_smellsIn_38 ?_
    refine z_iload_n C dX10_smellsIn_41 rfl 5 rfl ?_
    refine z_ck (fun a2 hr2 hk4 => ?_)
    refine z_chk (fun hj3 => ?_)
    refine z_iald C hr2 hk4 hj3 dX10_smellsIn_42 ?_
    refine z_aload_n C dX10_smellsIn_43 rfl 2 rfl ?_
    refine z_getR C fl_RX10_149 rfl hk2 dX10_smellsIn_44 ?_
    refine z_iload_n C dX10_smellsIn_47 rfl 4 rfl ?_
    refine z_chk (fun hj4 => ?_)
    refine z_iald C hr2 hk4 hj4 dX10_smellsIn_48 ?_
    refine z_isub C dX10_smellsIn_49 ?_
    refine z_bndI (fun y2 => ?_)
    refine z_istore (i := 6) (L2 := [(6, .int y2), (5, .int y1), (4, .int r1), (0, va_rf (some th)), (1, .int p1), (2, .int p2), (3, .int p3)]) C dX10_smellsIn_50 (by decide) rfl ?_
    refine z_iload C dX10_smellsIn_52 1 rfl ?_
    refine z_iload C dX10_smellsIn_54 2 rfl ?_
    refine z_cSI [.int r1] [.int y1] C mv_RX10_417 (fun r0 m0 h0 => M_X10_towardX _ _ _ _ _ _ h0) rfl rfl ⟨by rw [hrm]; exact Nat.le_of_ble_eq_true rfl, by rw [hrm]; exact Nat.le_of_ble_eq_true rfl⟩ ⟨by rw [hrm]; exact Nat.le_of_ble_eq_true rfl, by rw [hrm]; exact Nat.le_of_ble_eq_true rfl⟩ rfl rfl (Nat.le_of_ble_eq_true rfl) dX10_smellsIn_56 (fun r2 m2 => ?_)
    refine z_imul C dX10_smellsIn_59 ?_
    refine z_iload C dX10_smellsIn_60 0 rfl ?_
    refine z_iload C dX10_smellsIn_62 2 rfl ?_
    refine z_cSI [.int r1] [.int y2, .int (y1 * r2)] C mv_RX10_420 (fun r0 m0 h0 => M_X10_towardY _ _ _ _ _ _ h0) rfl rfl ⟨by rw [hrm]; exact Nat.le_of_ble_eq_true rfl, by rw [hrm]; exact Nat.le_of_ble_eq_true rfl⟩ ⟨by rw [hrm]; exact Nat.le_of_ble_eq_true rfl, by rw [hrm]; exact Nat.le_of_ble_eq_true rfl⟩ rfl rfl (Nat.le_of_ble_eq_true rfl) dX10_smellsIn_64 (fun r3 m3 => ?_)
    refine z_imul C dX10_smellsIn_67 ?_
    refine z_iadd C dX10_smellsIn_68 ?_
    refine z_bndI (fun y3 => ?_)
    refine z_istore (i := 7) (L2 := [(7, .int y3), (6, .int y2), (5, .int y1), (4, .int r1), (0, va_rf (some th)), (1, .int p1), (2, .int p2), (3, .int p3)]) C dX10_smellsIn_69 (by decide) rfl ?_
    refine z_iload C dX10_smellsIn_71 2 rfl ?_
    refine z_iload C dX10_smellsIn_73 3 rfl ?_
    refine z_cSI [.int r1] [.int y1] C mv_RX10_420 (fun r0 m0 h0 => M_X10_towardY _ _ _ _ _ _ h0) rfl rfl ⟨by rw [hrm]; exact Nat.le_of_ble_eq_true rfl, by rw [hrm]; exact Nat.le_of_ble_eq_true rfl⟩ ⟨by rw [hrm]; exact Nat.le_of_ble_eq_true rfl, by rw [hrm]; exact Nat.le_of_ble_eq_true rfl⟩ rfl rfl (Nat.le_of_ble_eq_true rfl) dX10_smellsIn_75 (fun r4 m4 => ?_)
    refine z_imul C dX10_smellsIn_78 ?_
    refine z_iload C dX10_smellsIn_79 1 rfl ?_
    refine z_iload C dX10_smellsIn_81 3 rfl ?_
    refine z_cSI [.int r1] [.int y2, .int (y1 * r4)] C mv_RX10_417 (fun r0 m0 h0 => M_X10_towardX _ _ _ _ _ _ h0) rfl rfl ⟨by rw [hrm]; exact Nat.le_of_ble_eq_true rfl, by rw [hrm]; exact Nat.le_of_ble_eq_true rfl⟩ ⟨by rw [hrm]; exact Nat.le_of_ble_eq_true rfl, by rw [hrm]; exact Nat.le_of_ble_eq_true rfl⟩ rfl rfl (Nat.le_of_ble_eq_true rfl) dX10_smellsIn_83 (fun r5 m5 => ?_)
    refine z_imul C dX10_smellsIn_86 ?_
    refine z_isub C dX10_smellsIn_87 ?_
    refine z_bndI (fun y4 => ?_)
    refine z_istore (i := 8) (L2 := [(8, .int y4), (7, .int y3), (6, .int y2), (5, .int y1), (4, .int r1), (0, va_rf (some th)), (1, .int p1), (2, .int p2), (3, .int p3)]) C dX10_smellsIn_88 (by decide) rfl ?_
    refine z_iload C dX10_smellsIn_90 1 rfl ?_
    refine z_if_le (tgt := 117) C dX10_smellsIn_92 (by decide) (fun c3 => ?_) (fun c3 => ?_)
    · exact z_sub [5, 6, 7, 8] rfl (s_X10_smellsIn_117 C hr hrm th p1 p2 p3 m5)
    · refine z_iload C dX10_smellsIn_95 1 rfl ?_
      refine z_iload C dX10_smellsIn_97 0 rfl ?_
      refine z_if_ge (tgt := 108) C dX10_smellsIn_99 (by decide) (fun c4 => ?_) (fun c4 => ?_)
      · refine z_iload C dX10_smellsIn_108 0 rfl ?_
        exact z_sub [5, 6, 7, 8] rfl (s_X10_smellsIn_110 C hr hrm th p1 p2 p3 y3 y4 m5)
      · refine z_iload C dX10_smellsIn_102 0 rfl ?_
        refine z_ineg C dX10_smellsIn_104 ?_
        refine z_goto (tgt := 110) C dX10_smellsIn_105 (by decide) ?_
        exact z_sub [5, 6, 7, 8] rfl (s_X10_smellsIn_110 C hr hrm th p1 p2 p3 y3 (-y4) m5)
  · refine z_iconst (v := 0) C dX10_smellsIn_20 (by decide) ?_
    exact z_zret C hr rfl dX10_smellsIn_21
def f_X10_smellsIn (th : Nat) (p1 : Int32) (p2 : Int32) (p3 : Int32) (m : MM) : Option (Int32 × MM) := g_X10_smellsIn_0 th p1 p2 p3 m
theorem M_X10_smellsIn (l : Launch) (E : EX) (th : Nat) (p1 : Int32) (p2 : Int32) (p3 : Int32) (m : MM) (r : Int32) (m2 : MM) (h : f_X10_smellsIn th p1 p2 p3 m = some (r, m2)) : Met l yX10_smellsIn (.code yX10_smellsIn cX10_smellsIn 9 (some .boolean) :: TB) rmX10_smellsIn (va_Pc [.ref th, .int p1, .int p2, .int p3] (St E m)) (QR E (emI r) m2) 0 0 (AA E) :=
  met_of (em := emI) (plainFor_of_name rfl) (Nat.le_of_ble_eq_true rfl) (L0 := [(0, va_rf (some th)), (1, .int p1), (2, .int p2), (3, .int p3)]) rfl (fun Γ _ hrm C hr hn => s_X10_smellsIn_0 C hr hrm th p1 p2 p3 m) h

theorem dX10_smellHours_0 : decode cX10_smellHours 0 = .ok (.iconst 0, 1) := by decide +kernel
theorem dX10_smellHours_1 : decode cX10_smellHours 1 = .ok (.istore_n 3, 1) := by decide +kernel
theorem dX10_smellHours_2 : decode cX10_smellHours 2 = .ok (.iconst 0, 1) := by decide +kernel
theorem dX10_smellHours_3 : decode cX10_smellHours 3 = .ok (.istore 4, 2) := by decide +kernel
theorem dX10_smellHours_5 : decode cX10_smellHours 5 = .ok (.iload 4, 2) := by decide +kernel
theorem dX10_smellHours_7 : decode cX10_smellHours 7 = .ok (.bipush 8, 2) := by decide +kernel
theorem dX10_smellHours_9 : decode cX10_smellHours 9 = .ok (.if_icmp .ge 45, 3) := by decide +kernel
theorem dX10_smellHours_12 : decode cX10_smellHours 12 = .ok (.iload_n 3, 1) := by decide +kernel
theorem dX10_smellHours_13 : decode cX10_smellHours 13 = .ok (.aload_n 0, 1) := by decide +kernel
theorem dX10_smellHours_14 : decode cX10_smellHours 14 = .ok (.getfield 387, 3) := by decide +kernel
theorem dX10_smellHours_17 : decode cX10_smellHours 17 = .ok (.iconst (-1), 1) := by decide +kernel
theorem dX10_smellHours_18 : decode cX10_smellHours 18 = .ok (.if_icmp .eq 12, 3) := by decide +kernel
theorem dX10_smellHours_21 : decode cX10_smellHours 21 = .ok (.aload_n 0, 1) := by decide +kernel
theorem dX10_smellHours_22 : decode cX10_smellHours 22 = .ok (.getfield 387, 3) := by decide +kernel
theorem dX10_smellHours_25 : decode cX10_smellHours 25 = .ok (.iload 4, 2) := by decide +kernel
theorem dX10_smellHours_27 : decode cX10_smellHours 27 = .ok (.if_icmp .ne 18, 3) := by decide +kernel
theorem dX10_smellHours_30 : decode cX10_smellHours 30 = .ok (.aload_n 0, 1) := by decide +kernel
theorem dX10_smellHours_31 : decode cX10_smellHours 31 = .ok (.iload 4, 2) := by decide +kernel
theorem dX10_smellHours_33 : decode cX10_smellHours 33 = .ok (.iload_n 1, 1) := by decide +kernel
theorem dX10_smellHours_34 : decode cX10_smellHours 34 = .ok (.iload_n 2, 1) := by decide +kernel
theorem dX10_smellHours_35 : decode cX10_smellHours 35 = .ok (.invokevirtual 423, 3) := by decide +kernel
theorem dX10_smellHours_38 : decode cX10_smellHours 38 = .ok (.ifCond .eq 7, 3) := by decide +kernel
theorem dX10_smellHours_41 : decode cX10_smellHours 41 = .ok (.iconst 1, 1) := by decide +kernel
theorem dX10_smellHours_42 : decode cX10_smellHours 42 = .ok (.goto 4, 3) := by decide +kernel
theorem dX10_smellHours_45 : decode cX10_smellHours 45 = .ok (.iconst 0, 1) := by decide +kernel
theorem dX10_smellHours_46 : decode cX10_smellHours 46 = .ok (.iadd, 1) := by decide +kernel
theorem dX10_smellHours_47 : decode cX10_smellHours 47 = .ok (.istore_n 3, 1) := by decide +kernel
theorem dX10_smellHours_48 : decode cX10_smellHours 48 = .ok (.iinc 4 1, 3) := by decide +kernel
theorem dX10_smellHours_51 : decode cX10_smellHours 51 = .ok (.goto (-46), 3) := by decide +kernel
theorem dX10_smellHours_54 : decode cX10_smellHours 54 = .ok (.iload_n 3, 1) := by decide +kernel
theorem dX10_smellHours_55 : decode cX10_smellHours 55 = .ok (.ireturn, 1) := by decide +kernel
def rmX10_smellHours : Room := { frames := 2, cells := 0, slots := 0, locals := 50 }
set_option maxRecDepth 100000 in
def g_X10_smellHours_46 (th : Nat) (p1 : Int32) (p2 : Int32) (k5 : Int32 → Int32 → MM → Option (Int32 × MM)) (x4 : Int32) (s0 : Int32) (s1 : Int32) (m : MM) : Option (Int32 × MM) :=
  bnd (s0 + s1) (fun y1 => k5 y1 (x4 + 1) m)
set_option maxHeartbeats 4000000 in
set_option maxRecDepth 100000 in
theorem s_X10_smellHours_46 {Γ : GX} {E : EX} (C : Cx Γ E cX10_smellHours RX10 5) (hr : Γ.meth.sig.returnType = (some .int)) (hrm : Γ.rm = rmX10_smellHours) (th : Nat) (p1 : Int32) (p2 : Int32) (k5 : Int32 → Int32 → MM → Option (Int32 × MM)) (h5 : ∀ (x3 : Int32) (x4 : Int32) (m : MM), Sm (QM Γ E emI 0 0) Γ E 5 0 0 5 [(0, va_rf (some th)), (1, .int p1), (2, .int p2), (3, .int x3), (4, .int x4)] [] m (k5 x3 x4 m)) (x4 : Int32) (s0 : Int32) (s1 : Int32) (m : MM) : Sm (QM Γ E emI 0 0) Γ E 5 0 0 46 [(0, va_rf (some th)), (1, .int p1), (2, .int p2), (4, .int x4)] [.int s1, .int s0] m (g_X10_smellHours_46 th p1 p2 k5 x4 s0 s1 m) := by
  unfold g_X10_smellHours_46
  refine z_iadd C dX10_smellHours_46 ?_
  refine z_bndI (fun y1 => ?_)
  refine z_istore_n (i := 3) (L2 := [(3, .int y1), (0, va_rf (some th)), (1, .int p1), (2, .int p2), (4, .int x4)]) C dX10_smellHours_47 rfl (by decide) rfl ?_
  refine z_iinc (v := 1) (L2 := [(4, .int (x4 + 1)), (3, .int y1), (0, va_rf (some th)), (1, .int p1), (2, .int p2)]) C dX10_smellHours_48 4 rfl (by decide) (by decide) rfl ?_
  refine z_goto (tgt := 5) C dX10_smellHours_51 (by decide) ?_
  exact z_sub [2, 3, 4, 1, 0] rfl (h5 y1 (x4 + 1) m)
set_option maxRecDepth 100000 in
def g_X10_smellHours_45 (th : Nat) (p1 : Int32) (p2 : Int32) (k5 : Int32 → Int32 → MM → Option (Int32 × MM)) (x4 : Int32) (s0 : Int32) (m : MM) : Option (Int32 × MM) :=
  g_X10_smellHours_46 th p1 p2 k5 x4 s0 0 m
set_option maxHeartbeats 4000000 in
set_option maxRecDepth 100000 in
theorem s_X10_smellHours_45 {Γ : GX} {E : EX} (C : Cx Γ E cX10_smellHours RX10 5) (hr : Γ.meth.sig.returnType = (some .int)) (hrm : Γ.rm = rmX10_smellHours) (th : Nat) (p1 : Int32) (p2 : Int32) (k5 : Int32 → Int32 → MM → Option (Int32 × MM)) (h5 : ∀ (x3 : Int32) (x4 : Int32) (m : MM), Sm (QM Γ E emI 0 0) Γ E 5 0 0 5 [(0, va_rf (some th)), (1, .int p1), (2, .int p2), (3, .int x3), (4, .int x4)] [] m (k5 x3 x4 m)) (x4 : Int32) (s0 : Int32) (m : MM) : Sm (QM Γ E emI 0 0) Γ E 5 0 0 45 [(0, va_rf (some th)), (1, .int p1), (2, .int p2), (4, .int x4)] [.int s0] m (g_X10_smellHours_45 th p1 p2 k5 x4 s0 m) := by
  unfold g_X10_smellHours_45
  refine z_iconst (v := 0) C dX10_smellHours_45 (by decide) ?_
  exact z_sub [0, 1, 2, 3] rfl (s_X10_smellHours_46 C hr hrm th p1 p2 k5 h5 x4 s0 0 m)
set_option maxRecDepth 100000 in
def g_X10_smellHours_30 (th : Nat) (p1 : Int32) (p2 : Int32) (k5 : Int32 → Int32 → MM → Option (Int32 × MM)) (x4 : Int32) (s0 : Int32) (m : MM) : Option (Int32 × MM) :=
  chk (m.K th = 11) (cal (f_X10_smellsIn th x4 p1 p2 m) (fun r1 m1 => if r1 = 0 then (g_X10_smellHours_45 th p1 p2 k5 x4 s0 m1) else (g_X10_smellHours_46 th p1 p2 k5 x4 s0 1 m1)))
set_option maxHeartbeats 4000000 in
set_option maxRecDepth 100000 in
theorem s_X10_smellHours_30 {Γ : GX} {E : EX} (C : Cx Γ E cX10_smellHours RX10 5) (hr : Γ.meth.sig.returnType = (some .int)) (hrm : Γ.rm = rmX10_smellHours) (th : Nat) (p1 : Int32) (p2 : Int32) (k5 : Int32 → Int32 → MM → Option (Int32 × MM)) (h5 : ∀ (x3 : Int32) (x4 : Int32) (m : MM), Sm (QM Γ E emI 0 0) Γ E 5 0 0 5 [(0, va_rf (some th)), (1, .int p1), (2, .int p2), (3, .int x3), (4, .int x4)] [] m (k5 x3 x4 m)) (x4 : Int32) (s0 : Int32) (m : MM) : Sm (QM Γ E emI 0 0) Γ E 5 0 0 30 [(0, va_rf (some th)), (1, .int p1), (2, .int p2), (4, .int x4)] [.int s0] m (g_X10_smellHours_30 th p1 p2 k5 x4 s0 m) := by
  unfold g_X10_smellHours_30
  refine z_aload_n C dX10_smellHours_30 rfl 0 rfl ?_
  refine z_iload C dX10_smellHours_31 3 rfl ?_
  refine z_iload_n C dX10_smellHours_33 rfl 1 rfl ?_
  refine z_iload_n C dX10_smellHours_34 rfl 2 rfl ?_
  refine z_chk (fun hk1 => ?_)
  refine z_cVI [.int x4, .int p1, .int p2] [.int s0] C mv_RX10_423 (fun r0 m0 h0 => M_X10_smellsIn _ _ _ _ _ _ _ _ _ h0) rfl rfl ⟨by rw [hrm]; exact Nat.le_of_ble_eq_true rfl, by rw [hrm]; exact Nat.le_of_ble_eq_true rfl⟩ ⟨by rw [hrm]; exact Nat.le_of_ble_eq_true rfl, by rw [hrm]; exact Nat.le_of_ble_eq_true rfl⟩ rfl hk1 rfl rfl rfl (Nat.le_of_ble_eq_true rfl) dX10_smellHours_35 (fun r1 m1 => ?_)
  refine z_if_eq (tgt := 45) C dX10_smellHours_38 (by decide) (fun c1 => ?_) (fun c1 => ?_)
  · exact z_sub [0, 1, 2, 3] rfl (s_X10_smellHours_45 C hr hrm th p1 p2 k5 h5 x4 s0 m1)
  · refine z_iconst (v := 1) C dX10_smellHours_41 (by decide) ?_
    refine z_goto (tgt := 46) C dX10_smellHours_42 (by decide) ?_
    exact z_sub [0, 1, 2, 3] rfl (s_X10_smellHours_46 C hr hrm th p1 p2 k5 h5 x4 s0 1 m1)
set_option maxRecDepth 100000 in
def g_X10_smellHours_5 (th : Nat) (p1 : Int32) (p2 : Int32) (k5 : Int32 → Int32 → MM → Option (Int32 × MM)) (x3 : Int32) (x4 : Int32) (m : MM) : Option (Int32 × MM) :=
  if 8 ≤ x4 then (some (x3, m)) else (chk (m.K th = 11) (if (m.I 1169 th 0) = (-1) then (g_X10_smellHours_30 th p1 p2 k5 x4 x3 m) else (if (m.I 1169 th 0) = x4 then (g_X10_smellHours_30 th p1 p2 k5 x4 x3 m) else (g_X10_smellHours_45 th p1 p2 k5 x4 x3 m))))
set_option maxHeartbeats 4000000 in
set_option maxRecDepth 100000 in
theorem s_X10_smellHours_5 {Γ : GX} {E : EX} (C : Cx Γ E cX10_smellHours RX10 5) (hr : Γ.meth.sig.returnType = (some .int)) (hrm : Γ.rm = rmX10_smellHours) (th : Nat) (p1 : Int32) (p2 : Int32) (k5 : Int32 → Int32 → MM → Option (Int32 × MM)) (h5 : ∀ (x3 : Int32) (x4 : Int32) (m : MM), Sm (QM Γ E emI 0 0) Γ E 5 0 0 5 [(0, va_rf (some th)), (1, .int p1), (2, .int p2), (3, .int x3), (4, .int x4)] [] m (k5 x3 x4 m)) (x3 : Int32) (x4 : Int32) (m : MM) : Sm (QM Γ E emI 0 0) Γ E 5 0 0 5 [(0, va_rf (some th)), (1, .int p1), (2, .int p2), (3, .int x3), (4, .int x4)] [] m (g_X10_smellHours_5 th p1 p2 k5 x3 x4 m) := by
  unfold g_X10_smellHours_5
  refine z_iload C dX10_smellHours_5 4 rfl ?_
  refine z_bipush (v := 8) C dX10_smellHours_7 (by decide) ?_
  refine z_icmp_ge (tgt := 54) C dX10_smellHours_9 (by decide) (fun c2 => ?_) (fun c2 => ?_)
  · refine z_iload_n C dX10_smellHours_54 rfl 3 rfl ?_
    exact z_iret C hr dX10_smellHours_55
  · refine z_iload_n C dX10_smellHours_12 rfl 3 rfl ?_
    refine z_aload_n C dX10_smellHours_13 rfl 0 rfl ?_
    refine z_chk (fun hk2 => ?_)
    refine z_getI C fl_RX10_387 rfl hk2 dX10_smellHours_14 ?_
    refine z_iconst (v := (-1)) C dX10_smellHours_17 (by decide) ?_
    refine z_icmp_eq (tgt := 30) C dX10_smellHours_18 (by decide) (fun c3 => ?_) (fun c3 => ?_)
    · exact z_sub [0, 1, 2, 4] rfl (s_X10_smellHours_30 C hr hrm th p1 p2 k5 h5 x4 x3 m)
    · refine z_aload_n C dX10_smellHours_21 rfl 0 rfl ?_
      refine z_getI C fl_RX10_387 rfl hk2 dX10_smellHours_22 ?_
      refine z_iload C dX10_smellHours_25 4 rfl ?_
      refine z_icmp_ne (tgt := 45) C dX10_smellHours_27 (by decide) (fun c4 => ?_) (fun c4 => ?_)
      · exact z_sub [0, 1, 2, 4] rfl (s_X10_smellHours_45 C hr hrm th p1 p2 k5 h5 x4 x3 m)
      · exact z_sub [0, 1, 2, 4] rfl (s_X10_smellHours_30 C hr hrm th p1 p2 k5 h5 x4 x3 m)
def l_X10_smellHours_5 (th : Nat) (p1 : Int32) (p2 : Int32) : Nat → Int32 → Int32 → MM → Option (Int32 × MM) := lp (fun _ _ _ => none) (fun k5 => g_X10_smellHours_5 th p1 p2 k5)
theorem t_X10_smellHours_5 {Γ : GX} {E : EX} (C : Cx Γ E cX10_smellHours RX10 5) (hr : Γ.meth.sig.returnType = (some .int)) (hrm : Γ.rm = rmX10_smellHours) (th : Nat) (p1 : Int32) (p2 : Int32) : ∀ (n : Nat) (x3 : Int32) (x4 : Int32) (m : MM), Sm (QM Γ E emI 0 0) Γ E 5 0 0 5 [(0, va_rf (some th)), (1, .int p1), (2, .int p2), (3, .int x3), (4, .int x4)] [] m (l_X10_smellHours_5 th p1 p2 n x3 x4 m) := by
  intro n
  induction n with
  | zero => intros; exact z_none
  | succ n ih => intro x3 x4 m; exact s_X10_smellHours_5 C hr hrm th p1 p2 (l_X10_smellHours_5 th p1 p2 n) ih x3 x4 m
set_option maxRecDepth 100000 in
def g_X10_smellHours_0 (th : Nat) (p1 : Int32) (p2 : Int32) (m : MM) : Option (Int32 × MM) :=
  l_X10_smellHours_5 th p1 p2 FU 0 0 m
set_option maxHeartbeats 4000000 in
set_option maxRecDepth 100000 in
theorem s_X10_smellHours_0 {Γ : GX} {E : EX} (C : Cx Γ E cX10_smellHours RX10 5) (hr : Γ.meth.sig.returnType = (some .int)) (hrm : Γ.rm = rmX10_smellHours) (th : Nat) (p1 : Int32) (p2 : Int32) (m : MM) : Sm (QM Γ E emI 0 0) Γ E 5 0 0 0 [(0, va_rf (some th)), (1, .int p1), (2, .int p2)] [] m (g_X10_smellHours_0 th p1 p2 m) := by
  unfold g_X10_smellHours_0
  refine z_iconst (v := 0) C dX10_smellHours_0 (by decide) ?_
  refine z_istore_n (i := 3) (L2 := [(3, .int 0), (0, va_rf (some th)), (1, .int p1), (2, .int p2)]) C dX10_smellHours_1 rfl (by decide) rfl ?_
  refine z_iconst (v := 0) C dX10_smellHours_2 (by decide) ?_
  refine z_istore (i := 4) (L2 := [(4, .int 0), (3, .int 0), (0, va_rf (some th)), (1, .int p1), (2, .int p2)]) C dX10_smellHours_3 (by decide) rfl ?_
  exact z_sub [2, 3, 4, 1, 0] rfl (t_X10_smellHours_5 C hr hrm th p1 p2 FU 0 0 m)
def f_X10_smellHours (th : Nat) (p1 : Int32) (p2 : Int32) (m : MM) : Option (Int32 × MM) := g_X10_smellHours_0 th p1 p2 m
theorem M_X10_smellHours (l : Launch) (E : EX) (th : Nat) (p1 : Int32) (p2 : Int32) (m : MM) (r : Int32) (m2 : MM) (h : f_X10_smellHours th p1 p2 m = some (r, m2)) : Met l yX10_smellHours (.code yX10_smellHours cX10_smellHours 5 (some .int) :: TB) rmX10_smellHours (va_Pc [.ref th, .int p1, .int p2] (St E m)) (QR E (emI r) m2) 0 0 (AA E) :=
  met_of (em := emI) (plainFor_of_name rfl) (Nat.le_of_ble_eq_true rfl) (L0 := [(0, va_rf (some th)), (1, .int p1), (2, .int p2)]) rfl (fun Γ _ hrm C hr hn => s_X10_smellHours_0 C hr hrm th p1 p2 m) h

theorem dX10_height_0 : decode cX10_height 0 = .ok (.aload_n 0, 1) := by decide +kernel
theorem dX10_height_1 : decode cX10_height 1 = .ok (.aload_n 0, 1) := by decide +kernel
theorem dX10_height_2 : decode cX10_height 2 = .ok (.getfield 375, 3) := by decide +kernel
theorem dX10_height_5 : decode cX10_height 5 = .ok (.iconst 5, 1) := by decide +kernel
theorem dX10_height_6 : decode cX10_height 6 = .ok (.invokevirtual 196, 3) := by decide +kernel
theorem dX10_height_9 : decode cX10_height 9 = .ok (.aload_n 0, 1) := by decide +kernel
theorem dX10_height_10 : decode cX10_height 10 = .ok (.getfield 146, 3) := by decide +kernel
theorem dX10_height_13 : decode cX10_height 13 = .ok (.iload_n 1, 1) := by decide +kernel
theorem dX10_height_14 : decode cX10_height 14 = .ok (.iaload, 1) := by decide +kernel
theorem dX10_height_15 : decode cX10_height 15 = .ok (.imul, 1) := by decide +kernel
theorem dX10_height_16 : decode cX10_height 16 = .ok (.aload_n 0, 1) := by decide +kernel
theorem dX10_height_17 : decode cX10_height 17 = .ok (.aload_n 0, 1) := by decide +kernel
theorem dX10_height_18 : decode cX10_height 18 = .ok (.getfield 375, 3) := by decide +kernel
theorem dX10_height_21 : decode cX10_height 21 = .ok (.bipush 6, 2) := by decide +kernel
theorem dX10_height_23 : decode cX10_height 23 = .ok (.invokevirtual 196, 3) := by decide +kernel
theorem dX10_height_26 : decode cX10_height 26 = .ok (.aload_n 0, 1) := by decide +kernel
theorem dX10_height_27 : decode cX10_height 27 = .ok (.getfield 149, 3) := by decide +kernel
theorem dX10_height_30 : decode cX10_height 30 = .ok (.iload_n 1, 1) := by decide +kernel
theorem dX10_height_31 : decode cX10_height 31 = .ok (.iaload, 1) := by decide +kernel
theorem dX10_height_32 : decode cX10_height 32 = .ok (.imul, 1) := by decide +kernel
theorem dX10_height_33 : decode cX10_height 33 = .ok (.iadd, 1) := by decide +kernel
theorem dX10_height_34 : decode cX10_height 34 = .ok (.ireturn, 1) := by decide +kernel
def rmX10_height : Room := { frames := 1, cells := 0, slots := 0, locals := 22 }
set_option maxRecDepth 100000 in
def g_X10_height_0 (th : Nat) (p1 : Int32) (m : MM) : Option (Int32 × MM) :=
  chk (m.K th = 11) (cal (f_X10_of th (m.I 1166 th 0) 5 m) (fun r1 m1 => chk (m1.K th = 11) (ck m1 (m1.R 1161 th 0) 22 (fun a1 => chk (inb p1 (m1.N a1) = true) (cal (f_X10_of th (m1.I 1166 th 0) 6 m1) (fun r2 m2 => chk (m2.K th = 11) (ck m2 (m2.R 1162 th 0) 22 (fun a2 => chk (inb p1 (m2.N a2) = true) (some ((r1 * (m1.I 22 a1 (Int32.toNatClampNeg p1))) + (r2 * (m2.I 22 a2 (Int32.toNatClampNeg p1))), m2))))))))))
set_option maxHeartbeats 4000000 in
set_option maxRecDepth 100000 in
theorem s_X10_height_0 {Γ : GX} {E : EX} (C : Cx Γ E cX10_height RX10 2) (hr : Γ.meth.sig.returnType = (some .int)) (hrm : Γ.rm = rmX10_height) (th : Nat) (p1 : Int32) (m : MM) : Sm (QM Γ E emI 0 0) Γ E 2 0 0 0 [(0, va_rf (some th)), (1, .int p1)] [] m (g_X10_height_0 th p1 m) := by
  unfold g_X10_height_0
  refine z_aload_n C dX10_height_0 rfl 0 rfl ?_
  refine z_aload_n C dX10_height_1 rfl 0 rfl ?_
  refine z_chk (fun hk1 => ?_)
  refine z_getI C fl_RX10_375 rfl hk1 dX10_height_2 ?_
  refine z_iconst (v := 5) C dX10_height_5 (by decide) ?_
  refine z_cVI [.int (m.I 1166 th 0), .int 5] [] C mv_RX10_196 (fun r0 m0 h0 => M_X10_of _ _ _ _ _ _ _ _ h0) rfl rfl ⟨by rw [hrm]; exact Nat.le_of_ble_eq_true rfl, by rw [hrm]; exact Nat.le_of_ble_eq_true rfl⟩ ⟨by rw [hrm]; exact Nat.le_of_ble_eq_true rfl, by rw [hrm]; exact Nat.le_of_ble_eq_true rfl⟩ rfl hk1 rfl rfl rfl (Nat.le_of_ble_eq_true rfl) dX10_height_6 (fun r1 m1 => ?_)
  refine z_aload_n C dX10_height_9 rfl 0 rfl ?_
  refine z_chk (fun hk2 => ?_)
  refine z_getR C fl_RX10_146 rfl hk2 dX10_height_10 ?_
  refine z_iload_n C dX10_height_13 rfl 1 rfl ?_
  refine z_ck (fun a1 hr1 hk3 => ?_)
  refine z_chk (fun hj1 => ?_)
  refine z_iald C hr1 hk3 hj1 dX10_height_14 ?_
  refine z_imul C dX10_height_15 ?_
  refine z_aload_n C dX10_height_16 rfl 0 rfl ?_
  refine z_aload_n C dX10_height_17 rfl 0 rfl ?_
  refine z_getI C fl_RX10_375 rfl hk2 dX10_height_18 ?_
  refine z_bipush (v := 6) C dX10_height_21 (by decide) ?_
  refine z_cVI [.int (m1.I 1166 th 0), .int 6] [.int (r1 * (m1.I 22 a1 (Int32.toNatClampNeg p1)))] C mv_RX10_196 (fun r0 m0 h0 => M_X10_of _ _ _ _ _ _ _ _ h0) rfl rfl ⟨by rw [hrm]; exact Nat.le_of_ble_eq_true rfl, by rw [hrm]; exact Nat.le_of_ble_eq_true rfl⟩ ⟨by rw [hrm]; exact Nat.le_of_ble_eq_true rfl, by rw [hrm]; exact Nat.le_of_ble_eq_true rfl⟩ rfl hk2 rfl rfl rfl (Nat.le_of_ble_eq_true rfl) dX10_height_23 (fun r2 m2 => ?_)
  refine z_aload_n C dX10_height_26 rfl 0 rfl ?_
  refine z_chk (fun hk4 => ?_)
  refine z_getR C fl_RX10_149 rfl hk4 dX10_height_27 ?_
  refine z_iload_n C dX10_height_30 rfl 1 rfl ?_
  refine z_ck (fun a2 hr2 hk5 => ?_)
  refine z_chk (fun hj2 => ?_)
  refine z_iald C hr2 hk5 hj2 dX10_height_31 ?_
  refine z_imul C dX10_height_32 ?_
  refine z_iadd C dX10_height_33 ?_
  exact z_iret C hr dX10_height_34
def f_X10_height (th : Nat) (p1 : Int32) (m : MM) : Option (Int32 × MM) := g_X10_height_0 th p1 m
theorem M_X10_height (l : Launch) (E : EX) (th : Nat) (p1 : Int32) (m : MM) (r : Int32) (m2 : MM) (h : f_X10_height th p1 m = some (r, m2)) : Met l yX10_height (.code yX10_height cX10_height 2 (some .int) :: TB) rmX10_height (va_Pc [.ref th, .int p1] (St E m)) (QR E (emI r) m2) 0 0 (AA E) :=
  met_of (em := emI) (plainFor_of_name rfl) (Nat.le_of_ble_eq_true rfl) (L0 := [(0, va_rf (some th)), (1, .int p1)]) rfl (fun Γ _ hrm C hr hn => s_X10_height_0 C hr hrm th p1 m) h

theorem dX10_looksAt_0 : decode cX10_looksAt 0 = .ok (.aload_n 0, 1) := by decide +kernel
theorem dX10_looksAt_1 : decode cX10_looksAt 1 = .ok (.getfield 146, 3) := by decide +kernel
theorem dX10_looksAt_4 : decode cX10_looksAt 4 = .ok (.iload_n 2, 1) := by decide +kernel
theorem dX10_looksAt_5 : decode cX10_looksAt 5 = .ok (.iaload, 1) := by decide +kernel
theorem dX10_looksAt_6 : decode cX10_looksAt 6 = .ok (.aload_n 0, 1) := by decide +kernel
theorem dX10_looksAt_7 : decode cX10_looksAt 7 = .ok (.getfield 146, 3) := by decide +kernel
theorem dX10_looksAt_10 : decode cX10_looksAt 10 = .ok (.iload_n 1, 1) := by decide +kernel
theorem dX10_looksAt_11 : decode cX10_looksAt 11 = .ok (.iaload, 1) := by decide +kernel
theorem dX10_looksAt_12 : decode cX10_looksAt 12 = .ok (.isub, 1) := by decide +kernel
theorem dX10_looksAt_13 : decode cX10_looksAt 13 = .ok (.istore_n 3, 1) := by decide +kernel
theorem dX10_looksAt_14 : decode cX10_looksAt 14 = .ok (.aload_n 0, 1) := by decide +kernel
theorem dX10_looksAt_15 : decode cX10_looksAt 15 = .ok (.getfield 149, 3) := by decide +kernel
theorem dX10_looksAt_18 : decode cX10_looksAt 18 = .ok (.iload_n 2, 1) := by decide +kernel
theorem dX10_looksAt_19 : decode cX10_looksAt 19 = .ok (.iaload, 1) := by decide +kernel
theorem dX10_looksAt_20 : decode cX10_looksAt 20 = .ok (.aload_n 0, 1) := by decide +kernel
theorem dX10_looksAt_21 : decode cX10_looksAt 21 = .ok (.getfield 149, 3) := by decide +kernel
theorem dX10_looksAt_24 : decode cX10_looksAt 24 = .ok (.iload_n 1, 1) := by decide +kernel
theorem dX10_looksAt_25 : decode cX10_looksAt 25 = .ok (.iaload, 1) := by decide +kernel
theorem dX10_looksAt_26 : decode cX10_looksAt 26 = .ok (.isub, 1) := by decide +kernel
theorem dX10_looksAt_27 : decode cX10_looksAt 27 = .ok (.istore 4, 2) := by decide +kernel
theorem dX10_looksAt_29 : decode cX10_looksAt 29 = .ok (.aload_n 0, 1) := by decide +kernel
theorem dX10_looksAt_30 : decode cX10_looksAt 30 = .ok (.getfield 152, 3) := by decide +kernel
theorem dX10_looksAt_33 : decode cX10_looksAt 33 = .ok (.iload_n 1, 1) := by decide +kernel
theorem dX10_looksAt_34 : decode cX10_looksAt 34 = .ok (.iaload, 1) := by decide +kernel
theorem dX10_looksAt_35 : decode cX10_looksAt 35 = .ok (.ifCond .ne 20, 3) := by decide +kernel
theorem dX10_looksAt_38 : decode cX10_looksAt 38 = .ok (.iload 4, 2) := by decide +kernel
theorem dX10_looksAt_40 : decode cX10_looksAt 40 = .ok (.ifCond .ne 11, 3) := by decide +kernel
theorem dX10_looksAt_43 : decode cX10_looksAt 43 = .ok (.iload_n 3, 1) := by decide +kernel
theorem dX10_looksAt_44 : decode cX10_looksAt 44 = .ok (.ifCond .le 7, 3) := by decide +kernel
theorem dX10_looksAt_47 : decode cX10_looksAt 47 = .ok (.iconst 1, 1) := by decide +kernel
theorem dX10_looksAt_48 : decode cX10_looksAt 48 = .ok (.goto 85, 3) := by decide +kernel
theorem dX10_looksAt_51 : decode cX10_looksAt 51 = .ok (.iconst 0, 1) := by decide +kernel
theorem dX10_looksAt_52 : decode cX10_looksAt 52 = .ok (.goto 81, 3) := by decide +kernel
theorem dX10_looksAt_55 : decode cX10_looksAt 55 = .ok (.aload_n 0, 1) := by decide +kernel
theorem dX10_looksAt_56 : decode cX10_looksAt 56 = .ok (.getfield 152, 3) := by decide +kernel
theorem dX10_looksAt_59 : decode cX10_looksAt 59 = .ok (.iload_n 1, 1) := by decide +kernel
theorem dX10_looksAt_60 : decode cX10_looksAt 60 = .ok (.iaload, 1) := by decide +kernel
theorem dX10_looksAt_61 : decode cX10_looksAt 61 = .ok (.iconst 1, 1) := by decide +kernel
theorem dX10_looksAt_62 : decode cX10_looksAt 62 = .ok (.if_icmp .ne 20, 3) := by decide +kernel
theorem dX10_looksAt_65 : decode cX10_looksAt 65 = .ok (.iload_n 3, 1) := by decide +kernel
theorem dX10_looksAt_66 : decode cX10_looksAt 66 = .ok (.ifCond .ne 12, 3) := by decide +kernel
theorem dX10_looksAt_69 : decode cX10_looksAt 69 = .ok (.iload 4, 2) := by decide +kernel
theorem dX10_looksAt_71 : decode cX10_looksAt 71 = .ok (.ifCond .le 7, 3) := by decide +kernel
theorem dX10_looksAt_74 : decode cX10_looksAt 74 = .ok (.iconst 1, 1) := by decide +kernel
theorem dX10_looksAt_75 : decode cX10_looksAt 75 = .ok (.goto 58, 3) := by decide +kernel
theorem dX10_looksAt_78 : decode cX10_looksAt 78 = .ok (.iconst 0, 1) := by decide +kernel
theorem dX10_looksAt_79 : decode cX10_looksAt 79 = .ok (.goto 54, 3) := by decide +kernel
theorem dX10_looksAt_82 : decode cX10_looksAt 82 = .ok (.aload_n 0, 1) := by decide +kernel
theorem dX10_looksAt_83 : decode cX10_looksAt 83 = .ok (.getfield 152, 3) := by decide +kernel
theorem dX10_looksAt_86 : decode cX10_looksAt 86 = .ok (.iload_n 1, 1) := by decide +kernel
theorem dX10_looksAt_87 : decode cX10_looksAt 87 = .ok (.iaload, 1) := by decide +kernel
theorem dX10_looksAt_88 : decode cX10_looksAt 88 = .ok (.iconst 2, 1) := by decide +kernel
theorem dX10_looksAt_89 : decode cX10_looksAt 89 = .ok (.if_icmp .ne 20, 3) := by decide +kernel
theorem dX10_looksAt_92 : decode cX10_looksAt 92 = .ok (.iload 4, 2) := by decide +kernel
theorem dX10_looksAt_94 : decode cX10_looksAt 94 = .ok (.ifCond .ne 11, 3) := by decide +kernel
theorem dX10_looksAt_97 : decode cX10_looksAt 97 = .ok (.iload_n 3, 1) := by decide +kernel
theorem dX10_looksAt_98 : decode cX10_looksAt 98 = .ok (.ifCond .ge 7, 3) := by decide +kernel
theorem dX10_looksAt_101 : decode cX10_looksAt 101 = .ok (.iconst 1, 1) := by decide +kernel
theorem dX10_looksAt_102 : decode cX10_looksAt 102 = .ok (.goto 31, 3) := by decide +kernel
theorem dX10_looksAt_105 : decode cX10_looksAt 105 = .ok (.iconst 0, 1) := by decide +kernel
theorem dX10_looksAt_106 : decode cX10_looksAt 106 = .ok (.goto 27, 3) := by decide +kernel
theorem dX10_looksAt_109 : decode cX10_looksAt 109 = .ok (.aload_n 0, 1) := by decide +kernel
theorem dX10_looksAt_110 : decode cX10_looksAt 110 = .ok (.getfield 152, 3) := by decide +kernel
theorem dX10_looksAt_113 : decode cX10_looksAt 113 = .ok (.iload_n 1, 1) := by decide +kernel
theorem dX10_looksAt_114 : decode cX10_looksAt 114 = .ok (.iaload, 1) := by decide +kernel
theorem dX10_looksAt_115 : decode cX10_looksAt 115 = .ok (.iconst 3, 1) := by decide +kernel
theorem dX10_looksAt_116 : decode cX10_looksAt 116 = .ok (.if_icmp .ne 16, 3) := by decide +kernel
theorem dX10_looksAt_119 : decode cX10_looksAt 119 = .ok (.iload_n 3, 1) := by decide +kernel
theorem dX10_looksAt_120 : decode cX10_looksAt 120 = .ok (.ifCond .ne 12, 3) := by decide +kernel
theorem dX10_looksAt_123 : decode cX10_looksAt 123 = .ok (.iload 4, 2) := by decide +kernel
theorem dX10_looksAt_125 : decode cX10_looksAt 125 = .ok (.ifCond .ge 7, 3) := by decide +kernel
theorem dX10_looksAt_128 : decode cX10_looksAt 128 = .ok (.iconst 1, 1) := by decide +kernel
theorem dX10_looksAt_129 : decode cX10_looksAt 129 = .ok (.goto 4, 3) := by decide +kernel
theorem dX10_looksAt_132 : decode cX10_looksAt 132 = .ok (.iconst 0, 1) := by decide +kernel
theorem dX10_looksAt_133 : decode cX10_looksAt 133 = .ok (.ireturn, 1) := by decide +kernel
def rmX10_looksAt : Room := { frames := 0, cells := 0, slots := 0, locals := 0 }
set_option maxRecDepth 100000 in
def g_X10_looksAt_51 (th : Nat) (p1 : Int32) (p2 : Int32) (m : MM) : Option (Int32 × MM) :=
  some (0, m)
set_option maxHeartbeats 4000000 in
set_option maxRecDepth 100000 in
theorem s_X10_looksAt_51 {Γ : GX} {E : EX} (C : Cx Γ E cX10_looksAt RX10 5) (hr : Γ.meth.sig.returnType = (some .boolean)) (hrm : Γ.rm = rmX10_looksAt) (th : Nat) (p1 : Int32) (p2 : Int32) (m : MM) : Sm (QM Γ E emI 0 0) Γ E 5 0 0 51 [(0, va_rf (some th)), (1, .int p1), (2, .int p2)] [] m (g_X10_looksAt_51 th p1 p2 m) := by
  unfold g_X10_looksAt_51
  refine z_iconst (v := 0) C dX10_looksAt_51 (by decide) ?_
  refine z_goto (tgt := 133) C dX10_looksAt_52 (by decide) ?_
  exact z_zret C hr rfl dX10_looksAt_133
set_option maxRecDepth 100000 in
def g_X10_looksAt_78 (th : Nat) (p1 : Int32) (p2 : Int32) (m : MM) : Option (Int32 × MM) :=
  some (0, m)
set_option maxHeartbeats 4000000 in
set_option maxRecDepth 100000 in
theorem s_X10_looksAt_78 {Γ : GX} {E : EX} (C : Cx Γ E cX10_looksAt RX10 5) (hr : Γ.meth.sig.returnType = (some .boolean)) (hrm : Γ.rm = rmX10_looksAt) (th : Nat) (p1 : Int32) (p2 : Int32) (m : MM) : Sm (QM Γ E emI 0 0) Γ E 5 0 0 78 [(0, va_rf (some th)), (1, .int p1), (2, .int p2)] [] m (g_X10_looksAt_78 th p1 p2 m) := by
  unfold g_X10_looksAt_78
  refine z_iconst (v := 0) C dX10_looksAt_78 (by decide) ?_
  refine z_goto (tgt := 133) C dX10_looksAt_79 (by decide) ?_
  exact z_zret C hr rfl dX10_looksAt_133
set_option maxRecDepth 100000 in
def g_X10_looksAt_105 (th : Nat) (p1 : Int32) (p2 : Int32) (m : MM) : Option (Int32 × MM) :=
  some (0, m)
set_option maxHeartbeats 4000000 in
set_option maxRecDepth 100000 in
theorem s_X10_looksAt_105 {Γ : GX} {E : EX} (C : Cx Γ E cX10_looksAt RX10 5) (hr : Γ.meth.sig.returnType = (some .boolean)) (hrm : Γ.rm = rmX10_looksAt) (th : Nat) (p1 : Int32) (p2 : Int32) (m : MM) : Sm (QM Γ E emI 0 0) Γ E 5 0 0 105 [(0, va_rf (some th)), (1, .int p1), (2, .int p2)] [] m (g_X10_looksAt_105 th p1 p2 m) := by
  unfold g_X10_looksAt_105
  refine z_iconst (v := 0) C dX10_looksAt_105 (by decide) ?_
  refine z_goto (tgt := 133) C dX10_looksAt_106 (by decide) ?_
  exact z_zret C hr rfl dX10_looksAt_133
set_option maxRecDepth 100000 in
def g_X10_looksAt_132 (th : Nat) (p1 : Int32) (p2 : Int32) (m : MM) : Option (Int32 × MM) :=
  some (0, m)
set_option maxHeartbeats 4000000 in
set_option maxRecDepth 100000 in
theorem s_X10_looksAt_132 {Γ : GX} {E : EX} (C : Cx Γ E cX10_looksAt RX10 5) (hr : Γ.meth.sig.returnType = (some .boolean)) (hrm : Γ.rm = rmX10_looksAt) (th : Nat) (p1 : Int32) (p2 : Int32) (m : MM) : Sm (QM Γ E emI 0 0) Γ E 5 0 0 132 [(0, va_rf (some th)), (1, .int p1), (2, .int p2)] [] m (g_X10_looksAt_132 th p1 p2 m) := by
  unfold g_X10_looksAt_132
  refine z_iconst (v := 0) C dX10_looksAt_132 (by decide) ?_
  exact z_zret C hr rfl dX10_looksAt_133
set_option maxRecDepth 100000 in
def g_X10_looksAt_0 (th : Nat) (p1 : Int32) (p2 : Int32) (m : MM) : Option (Int32 × MM) :=
  chk (m.K th = 11) (ck m (m.R 1161 th 0) 22 (fun a1 => chk (inb p2 (m.N a1) = true) (chk (inb p1 (m.N a1) = true) (bnd ((m.I 22 a1 (Int32.toNatClampNeg p2)) - (m.I 22 a1 (Int32.toNatClampNeg p1))) (fun y1 => ck m (m.R 1162 th 0) 22 (fun a2 => chk (inb p2 (m.N a2) = true) (chk (inb p1 (m.N a2) = true) (bnd ((m.I 22 a2 (Int32.toNatClampNeg p2)) - (m.I 22 a2 (Int32.toNatClampNeg p1))) (fun y2 => ck m (m.R 1163 th 0) 22 (fun a3 => chk (inb p1 (m.N a3) = true) (if (m.I 22 a3 (Int32.toNatClampNeg p1)) = 0 then (if y2 = 0 then (if y1 ≤ 0 then (g_X10_looksAt_51 th p1 p2 m) else (some (1, m))) else (g_X10_looksAt_51 th p1 p2 m)) else (chk (inb p1 (m.N a3) = true) (if (m.I 22 a3 (Int32.toNatClampNeg p1)) = 1 then (if y1 = 0 then (if y2 ≤ 0 then (g_X10_looksAt_78 th p1 p2 m) else (some (1, m))) else (g_X10_looksAt_78 th p1 p2 m)) else (chk (inb p1 (m.N a3) = true) (if (m.I 22 a3 (Int32.toNatClampNeg p1)) = 2 then (if y2 = 0 then (if 0 ≤ y1 then (g_X10_looksAt_105 th p1 p2 m) else (some (1, m))) else (g_X10_looksAt_105 th p1 p2 m)) else (chk (inb p1 (m.N a3) = true) (if (m.I 22 a3 (Int32.toNatClampNeg p1)) = 3 then (if y1 = 0 then (if 0 ≤ y2 then (g_X10_looksAt_132 th p1 p2 m) else (some (1, m))) else (g_X10_looksAt_132 th p1 p2 m)) else (g_X10_looksAt_132 th p1 p2 m))))))))))))))))))
set_option maxHeartbeats 4000000 in
set_option maxRecDepth 100000 in
theorem s_X10_looksAt_0 {Γ : GX} {E : EX} (C : Cx Γ E cX10_looksAt RX10 5) (hr : Γ.meth.sig.returnType = (some .boolean)) (hrm : Γ.rm = rmX10_looksAt) (th : Nat) (p1 : Int32) (p2 : Int32) (m : MM) : Sm (QM Γ E emI 0 0) Γ E 5 0 0 0 [(0, va_rf (some th)), (1, .int p1), (2, .int p2)] [] m (g_X10_looksAt_0 th p1 p2 m) := by
  unfold g_X10_looksAt_0
  refine z_aload_n C dX10_looksAt_0 rfl 0 rfl ?_
  refine z_chk (fun hk1 => ?_)
  refine z_getR C fl_RX10_146 rfl hk1 dX10_looksAt_1 ?_
  refine z_iload_n C dX10_looksAt_4 rfl 2 rfl ?_
  refine z_ck (fun a1 hr1 hk2 => ?_)
  refine z_chk (fun hj1 => ?_)
  refine z_iald C hr1 hk2 hj1 dX10_looksAt_5 ?_
  refine z_aload_n C dX10_looksAt_6 rfl 0 rfl ?_
  refine z_getR C fl_RX10_146 rfl hk1 dX10_looksAt_7 ?_
  refine z_iload_n C dX10_looksAt_10 rfl 1 rfl ?_
  refine z_chk (fun hj2 => ?_)
  refine z_iald C hr1 hk2 hj2 dX10_looksAt_11 ?_
  refine z_isub C dX10_looksAt_12 ?_
  refine z_bndI (fun y1 => ?_)
  refine z_istore_n (i := 3) (L2 := [(3, .int y1), (0, va_rf (some th)), (1, .int p1), (2, .int p2)]) C dX10_looksAt_13 rfl (by decide) rfl ?_
  refine z_aload_n C dX10_looksAt_14 rfl 1 rfl ?_
  refine z_getR C fl_RX10_149 rfl hk1 dX10_looksAt_15 ?_
  refine z_iload_n C dX10_looksAt_18 rfl 3 rfl ?_
  refine z_ck (fun a2 hr2 hk3 => ?_)
  refine z_chk (fun hj3 => ?_)
  refine z_iald C hr2 hk3 hj3 dX10_looksAt_19 ?_
  refine z_aload_n C dX10_looksAt_20 rfl 1 rfl ?_
  refine z_getR C fl_RX10_149 rfl hk1 dX10_looksAt_21 ?_
  refine z_iload_n C dX10_looksAt_24 rfl 2 rfl ?_
  refine z_chk (fun hj4 => ?_)
  refine z_iald C hr2 hk3 hj4 dX10_looksAt_25 ?_
  refine z_isub C dX10_looksAt_26 ?_
  refine z_bndI (fun y2 => ?_)
  refine z_istore (i := 4) (L2 := [(4, .int y2), (3, .int y1), (0, va_rf (some th)), (1, .int p1), (2, .int p2)]) C dX10_looksAt_27 (by decide) rfl ?_
  refine z_aload_n C dX10_looksAt_29 rfl 2 rfl ?_
  refine z_getR C fl_RX10_152 rfl hk1 dX10_looksAt_30 ?_
  refine z_iload_n C dX10_looksAt_33 rfl 3 rfl ?_
  refine z_ck (fun a3 hr3 hk4 => ?_)
  refine z_chk (fun hj5 => ?_)
  refine z_iald C hr3 hk4 hj5 dX10_looksAt_34 ?_
  refine z_if_ne (tgt := 55) C dX10_looksAt_35 (by decide) (fun c1 => ?_) (fun c1 => ?_)
  · refine z_aload_n C dX10_looksAt_55 rfl 2 rfl ?_
    refine z_getR C fl_RX10_152 rfl hk1 dX10_looksAt_56 ?_
    refine z_iload_n C dX10_looksAt_59 rfl 3 rfl ?_
    refine z_chk (fun hj6 => ?_)
    refine z_iald C hr3 hk4 hj6 dX10_looksAt_60 ?_
    refine z_iconst (v := 1) C dX10_looksAt_61 (by decide) ?_
    refine z_icmp_ne (tgt := 82) C dX10_looksAt_62 (by decide) (fun c2 => ?_) (fun c2 => ?_)
    · refine z_aload_n C dX10_looksAt_82 rfl 2 rfl ?_
      refine z_getR C fl_RX10_152 rfl hk1 dX10_looksAt_83 ?_
      refine z_iload_n C dX10_looksAt_86 rfl 3 rfl ?_
      refine z_chk (fun hj7 => ?_)
      refine z_iald C hr3 hk4 hj7 dX10_looksAt_87 ?_
      refine z_iconst (v := 2) C dX10_looksAt_88 (by decide) ?_
      refine z_icmp_ne (tgt := 109) C dX10_looksAt_89 (by decide) (fun c3 => ?_) (fun c3 => ?_)
      · refine z_aload_n C dX10_looksAt_109 rfl 2 rfl ?_
        refine z_getR C fl_RX10_152 rfl hk1 dX10_looksAt_110 ?_
        refine z_iload_n C dX10_looksAt_113 rfl 3 rfl ?_
        refine z_chk (fun hj8 => ?_)
        refine z_iald C hr3 hk4 hj8 dX10_looksAt_114 ?_
        refine z_iconst (v := 3) C dX10_looksAt_115 (by decide) ?_
        refine z_icmp_ne (tgt := 132) C dX10_looksAt_116 (by decide) (fun c4 => ?_) (fun c4 => ?_)
        · exact z_sub [2, 3, 4] rfl (s_X10_looksAt_132 C hr hrm th p1 p2 m)
        · refine z_iload_n C dX10_looksAt_119 rfl 1 rfl ?_
          refine z_if_ne (tgt := 132) C dX10_looksAt_120 (by decide) (fun c5 => ?_) (fun c5 => ?_)
          · exact z_sub [2, 3, 4] rfl (s_X10_looksAt_132 C hr hrm th p1 p2 m)
          · refine z_iload C dX10_looksAt_123 0 rfl ?_
            refine z_if_ge (tgt := 132) C dX10_looksAt_125 (by decide) (fun c6 => ?_) (fun c6 => ?_)
            · exact z_sub [2, 3, 4] rfl (s_X10_looksAt_132 C hr hrm th p1 p2 m)
            · refine z_iconst (v := 1) C dX10_looksAt_128 (by decide) ?_
              refine z_goto (tgt := 133) C dX10_looksAt_129 (by decide) ?_
              exact z_zret C hr rfl dX10_looksAt_133
      · refine z_iload C dX10_looksAt_92 0 rfl ?_
        refine z_if_ne (tgt := 105) C dX10_looksAt_94 (by decide) (fun c7 => ?_) (fun c7 => ?_)
        · exact z_sub [2, 3, 4] rfl (s_X10_looksAt_105 C hr hrm th p1 p2 m)
        · refine z_iload_n C dX10_looksAt_97 rfl 1 rfl ?_
          refine z_if_ge (tgt := 105) C dX10_looksAt_98 (by decide) (fun c8 => ?_) (fun c8 => ?_)
          · exact z_sub [2, 3, 4] rfl (s_X10_looksAt_105 C hr hrm th p1 p2 m)
          · refine z_iconst (v := 1) C dX10_looksAt_101 (by decide) ?_
            refine z_goto (tgt := 133) C dX10_looksAt_102 (by decide) ?_
            exact z_zret C hr rfl dX10_looksAt_133
    · refine z_iload_n C dX10_looksAt_65 rfl 1 rfl ?_
      refine z_if_ne (tgt := 78) C dX10_looksAt_66 (by decide) (fun c9 => ?_) (fun c9 => ?_)
      · exact z_sub [2, 3, 4] rfl (s_X10_looksAt_78 C hr hrm th p1 p2 m)
      · refine z_iload C dX10_looksAt_69 0 rfl ?_
        refine z_if_le (tgt := 78) C dX10_looksAt_71 (by decide) (fun c10 => ?_) (fun c10 => ?_)
        · exact z_sub [2, 3, 4] rfl (s_X10_looksAt_78 C hr hrm th p1 p2 m)
        · refine z_iconst (v := 1) C dX10_looksAt_74 (by decide) ?_
          refine z_goto (tgt := 133) C dX10_looksAt_75 (by decide) ?_
          exact z_zret C hr rfl dX10_looksAt_133
  · refine z_iload C dX10_looksAt_38 0 rfl ?_
    refine z_if_ne (tgt := 51) C dX10_looksAt_40 (by decide) (fun c11 => ?_) (fun c11 => ?_)
    · exact z_sub [2, 3, 4] rfl (s_X10_looksAt_51 C hr hrm th p1 p2 m)
    · refine z_iload_n C dX10_looksAt_43 rfl 1 rfl ?_
      refine z_if_le (tgt := 51) C dX10_looksAt_44 (by decide) (fun c12 => ?_) (fun c12 => ?_)
      · exact z_sub [2, 3, 4] rfl (s_X10_looksAt_51 C hr hrm th p1 p2 m)
      · refine z_iconst (v := 1) C dX10_looksAt_47 (by decide) ?_
        refine z_goto (tgt := 133) C dX10_looksAt_48 (by decide) ?_
        exact z_zret C hr rfl dX10_looksAt_133
def f_X10_looksAt (th : Nat) (p1 : Int32) (p2 : Int32) (m : MM) : Option (Int32 × MM) := g_X10_looksAt_0 th p1 p2 m
theorem M_X10_looksAt (l : Launch) (E : EX) (th : Nat) (p1 : Int32) (p2 : Int32) (m : MM) (r : Int32) (m2 : MM) (h : f_X10_looksAt th p1 p2 m = some (r, m2)) : Met l yX10_looksAt (.code yX10_looksAt cX10_looksAt 5 (some .boolean) :: TB) rmX10_looksAt (va_Pc [.ref th, .int p1, .int p2] (St E m)) (QR E (emI r) m2) 0 0 (AA E) :=
  met_of (em := emI) (plainFor_of_name rfl) (Nat.le_of_ble_eq_true rfl) (L0 := [(0, va_rf (some th)), (1, .int p1), (2, .int p2)]) rfl (fun Γ _ hrm C hr hn => s_X10_looksAt_0 C hr hrm th p1 p2 m) h

theorem dX10_farBy_0 : decode cX10_farBy 0 = .ok (.aload_n 0, 1) := by decide +kernel
theorem dX10_farBy_1 : decode cX10_farBy 1 = .ok (.getfield 116, 3) := by decide +kernel
theorem dX10_farBy_4 : decode cX10_farBy 4 = .ok (.iload_n 1, 1) := by decide +kernel
theorem dX10_farBy_5 : decode cX10_farBy 5 = .ok (.iaload, 1) := by decide +kernel
theorem dX10_farBy_6 : decode cX10_farBy 6 = .ok (.aload_n 0, 1) := by decide +kernel
theorem dX10_farBy_7 : decode cX10_farBy 7 = .ok (.getfield 390, 3) := by decide +kernel
theorem dX10_farBy_10 : decode cX10_farBy 10 = .ok (.iadd, 1) := by decide +kernel
theorem dX10_farBy_11 : decode cX10_farBy 11 = .ok (.aload_n 0, 1) := by decide +kernel
theorem dX10_farBy_12 : decode cX10_farBy 12 = .ok (.iload_n 2, 1) := by decide +kernel
theorem dX10_farBy_13 : decode cX10_farBy 13 = .ok (.invokevirtual 413, 3) := by decide +kernel
theorem dX10_farBy_16 : decode cX10_farBy 16 = .ok (.iadd, 1) := by decide +kernel
theorem dX10_farBy_17 : decode cX10_farBy 17 = .ok (.aload_n 0, 1) := by decide +kernel
theorem dX10_farBy_18 : decode cX10_farBy 18 = .ok (.iload_n 3, 1) := by decide +kernel
theorem dX10_farBy_19 : decode cX10_farBy 19 = .ok (.invokevirtual 413, 3) := by decide +kernel
theorem dX10_farBy_22 : decode cX10_farBy 22 = .ok (.iadd, 1) := by decide +kernel
theorem dX10_farBy_23 : decode cX10_farBy 23 = .ok (.ireturn, 1) := by decide +kernel
def rmX10_farBy : Room := { frames := 2, cells := 0, slots := 0, locals := 45 }
set_option maxRecDepth 100000 in
def g_X10_farBy_0 (th : Nat) (p1 : Int32) (p2 : Int32) (p3 : Int32) (m : MM) : Option (Int32 × MM) :=
  chk (m.K th = 11) (ck m (m.R 1136 th 0) 22 (fun a1 => chk (inb p1 (m.N a1) = true) (cal (f_X10_grownBy th p2 m) (fun r1 m1 => chk (m1.K th = 11) (cal (f_X10_grownBy th p3 m1) (fun r2 m2 => some ((((m.I 22 a1 (Int32.toNatClampNeg p1)) + (m.I 1170 th 0)) + r1) + r2, m2)))))))
set_option maxHeartbeats 4000000 in
set_option maxRecDepth 100000 in
theorem s_X10_farBy_0 {Γ : GX} {E : EX} (C : Cx Γ E cX10_farBy RX10 4) (hr : Γ.meth.sig.returnType = (some .int)) (hrm : Γ.rm = rmX10_farBy) (th : Nat) (p1 : Int32) (p2 : Int32) (p3 : Int32) (m : MM) : Sm (QM Γ E emI 0 0) Γ E 4 0 0 0 [(0, va_rf (some th)), (1, .int p1), (2, .int p2), (3, .int p3)] [] m (g_X10_farBy_0 th p1 p2 p3 m) := by
  unfold g_X10_farBy_0
  refine z_aload_n C dX10_farBy_0 rfl 0 rfl ?_
  refine z_chk (fun hk1 => ?_)
  refine z_getR C fl_RX10_116 rfl hk1 dX10_farBy_1 ?_
  refine z_iload_n C dX10_farBy_4 rfl 1 rfl ?_
  refine z_ck (fun a1 hr1 hk2 => ?_)
  refine z_chk (fun hj1 => ?_)
  refine z_iald C hr1 hk2 hj1 dX10_farBy_5 ?_
  refine z_aload_n C dX10_farBy_6 rfl 0 rfl ?_
  refine z_getI C fl_RX10_390 rfl hk1 dX10_farBy_7 ?_
  refine z_iadd C dX10_farBy_10 ?_
  refine z_aload_n C dX10_farBy_11 rfl 0 rfl ?_
  refine z_iload_n C dX10_farBy_12 rfl 2 rfl ?_
  refine z_cVI [.int p2] [.int ((m.I 22 a1 (Int32.toNatClampNeg p1)) + (m.I 1170 th 0))] C mv_RX10_413 (fun r0 m0 h0 => M_X10_grownBy _ _ _ _ _ _ _ h0) rfl rfl ⟨by rw [hrm]; exact Nat.le_of_ble_eq_true rfl, by rw [hrm]; exact Nat.le_of_ble_eq_true rfl⟩ ⟨by rw [hrm]; exact Nat.le_of_ble_eq_true rfl, by rw [hrm]; exact Nat.le_of_ble_eq_true rfl⟩ rfl hk1 rfl rfl rfl (Nat.le_of_ble_eq_true rfl) dX10_farBy_13 (fun r1 m1 => ?_)
  refine z_iadd C dX10_farBy_16 ?_
  refine z_aload_n C dX10_farBy_17 rfl 0 rfl ?_
  refine z_iload_n C dX10_farBy_18 rfl 3 rfl ?_
  refine z_chk (fun hk3 => ?_)
  refine z_cVI [.int p3] [.int (((m.I 22 a1 (Int32.toNatClampNeg p1)) + (m.I 1170 th 0)) + r1)] C mv_RX10_413 (fun r0 m0 h0 => M_X10_grownBy _ _ _ _ _ _ _ h0) rfl rfl ⟨by rw [hrm]; exact Nat.le_of_ble_eq_true rfl, by rw [hrm]; exact Nat.le_of_ble_eq_true rfl⟩ ⟨by rw [hrm]; exact Nat.le_of_ble_eq_true rfl, by rw [hrm]; exact Nat.le_of_ble_eq_true rfl⟩ rfl hk3 rfl rfl rfl (Nat.le_of_ble_eq_true rfl) dX10_farBy_19 (fun r2 m2 => ?_)
  refine z_iadd C dX10_farBy_22 ?_
  exact z_iret C hr dX10_farBy_23
def f_X10_farBy (th : Nat) (p1 : Int32) (p2 : Int32) (p3 : Int32) (m : MM) : Option (Int32 × MM) := g_X10_farBy_0 th p1 p2 p3 m
theorem M_X10_farBy (l : Launch) (E : EX) (th : Nat) (p1 : Int32) (p2 : Int32) (p3 : Int32) (m : MM) (r : Int32) (m2 : MM) (h : f_X10_farBy th p1 p2 p3 m = some (r, m2)) : Met l yX10_farBy (.code yX10_farBy cX10_farBy 4 (some .int) :: TB) rmX10_farBy (va_Pc [.ref th, .int p1, .int p2, .int p3] (St E m)) (QR E (emI r) m2) 0 0 (AA E) :=
  met_of (em := emI) (plainFor_of_name rfl) (Nat.le_of_ble_eq_true rfl) (L0 := [(0, va_rf (some th)), (1, .int p1), (2, .int p2), (3, .int p3)]) rfl (fun Γ _ hrm C hr hn => s_X10_farBy_0 C hr hrm th p1 p2 p3 m) h

theorem dX10_barsBy_0 : decode cX10_barsBy 0 = .ok (.bipush 10, 2) := by decide +kernel
theorem dX10_barsBy_2 : decode cX10_barsBy 2 = .ok (.iload_n 1, 1) := by decide +kernel
theorem dX10_barsBy_3 : decode cX10_barsBy 3 = .ok (.imul, 1) := by decide +kernel
theorem dX10_barsBy_4 : decode cX10_barsBy 4 = .ok (.iload_n 2, 1) := by decide +kernel
theorem dX10_barsBy_5 : decode cX10_barsBy 5 = .ok (.iadd, 1) := by decide +kernel
theorem dX10_barsBy_6 : decode cX10_barsBy 6 = .ok (.istore 5, 2) := by decide +kernel
theorem dX10_barsBy_8 : decode cX10_barsBy 8 = .ok (.iload_n 3, 1) := by decide +kernel
theorem dX10_barsBy_9 : decode cX10_barsBy 9 = .ok (.iload 4, 2) := by decide +kernel
theorem dX10_barsBy_11 : decode cX10_barsBy 11 = .ok (.if_icmp .eq 36, 3) := by decide +kernel
theorem dX10_barsBy_14 : decode cX10_barsBy 14 = .ok (.aload_n 0, 1) := by decide +kernel
theorem dX10_barsBy_15 : decode cX10_barsBy 15 = .ok (.getfield 143, 3) := by decide +kernel
theorem dX10_barsBy_18 : decode cX10_barsBy 18 = .ok (.iload_n 3, 1) := by decide +kernel
theorem dX10_barsBy_19 : decode cX10_barsBy 19 = .ok (.iaload, 1) := by decide +kernel
theorem dX10_barsBy_20 : decode cX10_barsBy 20 = .ok (.aload_n 0, 1) := by decide +kernel
theorem dX10_barsBy_21 : decode cX10_barsBy 21 = .ok (.getfield 110, 3) := by decide +kernel
theorem dX10_barsBy_24 : decode cX10_barsBy 24 = .ok (.iload 5, 2) := by decide +kernel
theorem dX10_barsBy_26 : decode cX10_barsBy 26 = .ok (.iaload, 1) := by decide +kernel
theorem dX10_barsBy_27 : decode cX10_barsBy 27 = .ok (.if_icmp .ne 20, 3) := by decide +kernel
theorem dX10_barsBy_30 : decode cX10_barsBy 30 = .ok (.aload_n 0, 1) := by decide +kernel
theorem dX10_barsBy_31 : decode cX10_barsBy 31 = .ok (.getfield 143, 3) := by decide +kernel
theorem dX10_barsBy_34 : decode cX10_barsBy 34 = .ok (.iload 4, 2) := by decide +kernel
theorem dX10_barsBy_36 : decode cX10_barsBy 36 = .ok (.iaload, 1) := by decide +kernel
theorem dX10_barsBy_37 : decode cX10_barsBy 37 = .ok (.aload_n 0, 1) := by decide +kernel
theorem dX10_barsBy_38 : decode cX10_barsBy 38 = .ok (.getfield 113, 3) := by decide +kernel
theorem dX10_barsBy_41 : decode cX10_barsBy 41 = .ok (.iload 5, 2) := by decide +kernel
theorem dX10_barsBy_43 : decode cX10_barsBy 43 = .ok (.iaload, 1) := by decide +kernel
theorem dX10_barsBy_44 : decode cX10_barsBy 44 = .ok (.if_icmp .eq 5, 3) := by decide +kernel
theorem dX10_barsBy_47 : decode cX10_barsBy 47 = .ok (.iconst 0, 1) := by decide +kernel
theorem dX10_barsBy_48 : decode cX10_barsBy 48 = .ok (.ireturn, 1) := by decide +kernel
theorem dX10_barsBy_49 : decode cX10_barsBy 49 = .ok (.aload_n 0, 1) := by decide +kernel
theorem dX10_barsBy_50 : decode cX10_barsBy 50 = .ok (.getfield 107, 3) := by decide +kernel
theorem dX10_barsBy_53 : decode cX10_barsBy 53 = .ok (.iload 5, 2) := by decide +kernel
theorem dX10_barsBy_55 : decode cX10_barsBy 55 = .ok (.iaload, 1) := by decide +kernel
theorem dX10_barsBy_56 : decode cX10_barsBy 56 = .ok (.istore 6, 2) := by decide +kernel
theorem dX10_barsBy_58 : decode cX10_barsBy 58 = .ok (.iload 6, 2) := by decide +kernel
theorem dX10_barsBy_60 : decode cX10_barsBy 60 = .ok (.ifCond .eq 9, 3) := by decide +kernel
theorem dX10_barsBy_63 : decode cX10_barsBy 63 = .ok (.iload 6, 2) := by decide +kernel
theorem dX10_barsBy_65 : decode cX10_barsBy 65 = .ok (.iconst 3, 1) := by decide +kernel
theorem dX10_barsBy_66 : decode cX10_barsBy 66 = .ok (.if_icmp .ne 27, 3) := by decide +kernel
theorem dX10_barsBy_69 : decode cX10_barsBy 69 = .ok (.aload_n 0, 1) := by decide +kernel
theorem dX10_barsBy_70 : decode cX10_barsBy 70 = .ok (.getfield 143, 3) := by decide +kernel
theorem dX10_barsBy_73 : decode cX10_barsBy 73 = .ok (.iload_n 3, 1) := by decide +kernel
theorem dX10_barsBy_74 : decode cX10_barsBy 74 = .ok (.iaload, 1) := by decide +kernel
theorem dX10_barsBy_75 : decode cX10_barsBy 75 = .ok (.aload_n 0, 1) := by decide +kernel
theorem dX10_barsBy_76 : decode cX10_barsBy 76 = .ok (.getfield 143, 3) := by decide +kernel
theorem dX10_barsBy_79 : decode cX10_barsBy 79 = .ok (.iload 4, 2) := by decide +kernel
theorem dX10_barsBy_81 : decode cX10_barsBy 81 = .ok (.iaload, 1) := by decide +kernel
theorem dX10_barsBy_82 : decode cX10_barsBy 82 = .ok (.if_icmp .ne 11, 3) := by decide +kernel
theorem dX10_barsBy_85 : decode cX10_barsBy 85 = .ok (.iload_n 3, 1) := by decide +kernel
theorem dX10_barsBy_86 : decode cX10_barsBy 86 = .ok (.iload 4, 2) := by decide +kernel
theorem dX10_barsBy_88 : decode cX10_barsBy 88 = .ok (.if_icmp .le 5, 3) := by decide +kernel
theorem dX10_barsBy_91 : decode cX10_barsBy 91 = .ok (.iconst 0, 1) := by decide +kernel
theorem dX10_barsBy_92 : decode cX10_barsBy 92 = .ok (.ireturn, 1) := by decide +kernel
theorem dX10_barsBy_93 : decode cX10_barsBy 93 = .ok (.aload_n 0, 1) := by decide +kernel
theorem dX10_barsBy_94 : decode cX10_barsBy 94 = .ok (.iload 5, 2) := by decide +kernel
theorem dX10_barsBy_96 : decode cX10_barsBy 96 = .ok (.iload_n 3, 1) := by decide +kernel
theorem dX10_barsBy_97 : decode cX10_barsBy 97 = .ok (.iload 4, 2) := by decide +kernel
theorem dX10_barsBy_99 : decode cX10_barsBy 99 = .ok (.invokevirtual 426, 3) := by decide +kernel
theorem dX10_barsBy_102 : decode cX10_barsBy 102 = .ok (.istore 7, 2) := by decide +kernel
theorem dX10_barsBy_104 : decode cX10_barsBy 104 = .ok (.aload_n 0, 1) := by decide +kernel
theorem dX10_barsBy_105 : decode cX10_barsBy 105 = .ok (.iload_n 3, 1) := by decide +kernel
theorem dX10_barsBy_106 : decode cX10_barsBy 106 = .ok (.iload 4, 2) := by decide +kernel
theorem dX10_barsBy_108 : decode cX10_barsBy 108 = .ok (.invokevirtual 396, 3) := by decide +kernel
theorem dX10_barsBy_111 : decode cX10_barsBy 111 = .ok (.iload 7, 2) := by decide +kernel
theorem dX10_barsBy_113 : decode cX10_barsBy 113 = .ok (.iload 7, 2) := by decide +kernel
theorem dX10_barsBy_115 : decode cX10_barsBy 115 = .ok (.imul, 1) := by decide +kernel
theorem dX10_barsBy_116 : decode cX10_barsBy 116 = .ok (.if_icmp .lt 5, 3) := by decide +kernel
theorem dX10_barsBy_119 : decode cX10_barsBy 119 = .ok (.iconst 0, 1) := by decide +kernel
theorem dX10_barsBy_120 : decode cX10_barsBy 120 = .ok (.ireturn, 1) := by decide +kernel
theorem dX10_barsBy_121 : decode cX10_barsBy 121 = .ok (.iload 6, 2) := by decide +kernel
theorem dX10_barsBy_123 : decode cX10_barsBy 123 = .ok (.ifCond .eq 65, 3) := by decide +kernel
theorem dX10_barsBy_126 : decode cX10_barsBy 126 = .ok (.iload 6, 2) := by decide +kernel
theorem dX10_barsBy_128 : decode cX10_barsBy 128 = .ok (.iconst 1, 1) := by decide +kernel
theorem dX10_barsBy_129 : decode cX10_barsBy 129 = .ok (.if_icmp .ne 13, 3) := by decide +kernel
theorem dX10_barsBy_132 : decode cX10_barsBy 132 = .ok (.aload_n 0, 1) := by decide +kernel
theorem dX10_barsBy_133 : decode cX10_barsBy 133 = .ok (.iload_n 3, 1) := by decide +kernel
theorem dX10_barsBy_134 : decode cX10_barsBy 134 = .ok (.iload 4, 2) := by decide +kernel
theorem dX10_barsBy_136 : decode cX10_barsBy 136 = .ok (.invokevirtual 430, 3) := by decide +kernel
theorem dX10_barsBy_139 : decode cX10_barsBy 139 = .ok (.ifCond .gt 49, 3) := by decide +kernel
theorem dX10_barsBy_142 : decode cX10_barsBy 142 = .ok (.iload 6, 2) := by decide +kernel
theorem dX10_barsBy_144 : decode cX10_barsBy 144 = .ok (.iconst 2, 1) := by decide +kernel
theorem dX10_barsBy_145 : decode cX10_barsBy 145 = .ok (.if_icmp .ne 17, 3) := by decide +kernel
theorem dX10_barsBy_148 : decode cX10_barsBy 148 = .ok (.aload_n 0, 1) := by decide +kernel
theorem dX10_barsBy_149 : decode cX10_barsBy 149 = .ok (.iload_n 3, 1) := by decide +kernel
theorem dX10_barsBy_150 : decode cX10_barsBy 150 = .ok (.invokevirtual 433, 3) := by decide +kernel
theorem dX10_barsBy_153 : decode cX10_barsBy 153 = .ok (.aload_n 0, 1) := by decide +kernel
theorem dX10_barsBy_154 : decode cX10_barsBy 154 = .ok (.iload 4, 2) := by decide +kernel
theorem dX10_barsBy_156 : decode cX10_barsBy 156 = .ok (.invokevirtual 433, 3) := by decide +kernel
theorem dX10_barsBy_159 : decode cX10_barsBy 159 = .ok (.if_icmp .gt 29, 3) := by decide +kernel
theorem dX10_barsBy_162 : decode cX10_barsBy 162 = .ok (.iload 6, 2) := by decide +kernel
theorem dX10_barsBy_164 : decode cX10_barsBy 164 = .ok (.iconst 3, 1) := by decide +kernel
theorem dX10_barsBy_165 : decode cX10_barsBy 165 = .ok (.if_icmp .ne 27, 3) := by decide +kernel
theorem dX10_barsBy_168 : decode cX10_barsBy 168 = .ok (.aload_n 0, 1) := by decide +kernel
theorem dX10_barsBy_169 : decode cX10_barsBy 169 = .ok (.iload_n 3, 1) := by decide +kernel
theorem dX10_barsBy_170 : decode cX10_barsBy 170 = .ok (.iload 4, 2) := by decide +kernel
theorem dX10_barsBy_172 : decode cX10_barsBy 172 = .ok (.invokevirtual 436, 3) := by decide +kernel
theorem dX10_barsBy_175 : decode cX10_barsBy 175 = .ok (.ifCond .eq 17, 3) := by decide +kernel
theorem dX10_barsBy_178 : decode cX10_barsBy 178 = .ok (.aload_n 0, 1) := by decide +kernel
theorem dX10_barsBy_179 : decode cX10_barsBy 179 = .ok (.iload 4, 2) := by decide +kernel
theorem dX10_barsBy_181 : decode cX10_barsBy 181 = .ok (.iload_n 3, 1) := by decide +kernel
theorem dX10_barsBy_182 : decode cX10_barsBy 182 = .ok (.invokevirtual 436, 3) := by decide +kernel
theorem dX10_barsBy_185 : decode cX10_barsBy 185 = .ok (.ifCond .eq 7, 3) := by decide +kernel
theorem dX10_barsBy_188 : decode cX10_barsBy 188 = .ok (.iconst 1, 1) := by decide +kernel
theorem dX10_barsBy_189 : decode cX10_barsBy 189 = .ok (.goto 4, 3) := by decide +kernel
theorem dX10_barsBy_192 : decode cX10_barsBy 192 = .ok (.iconst 0, 1) := by decide +kernel
theorem dX10_barsBy_193 : decode cX10_barsBy 193 = .ok (.istore 8, 2) := by decide +kernel
theorem dX10_barsBy_195 : decode cX10_barsBy 195 = .ok (.iload 8, 2) := by decide +kernel
theorem dX10_barsBy_197 : decode cX10_barsBy 197 = .ok (.ifCond .eq 27, 3) := by decide +kernel
theorem dX10_barsBy_200 : decode cX10_barsBy 200 = .ok (.aload_n 0, 1) := by decide +kernel
theorem dX10_barsBy_201 : decode cX10_barsBy 201 = .ok (.getfield 119, 3) := by decide +kernel
theorem dX10_barsBy_204 : decode cX10_barsBy 204 = .ok (.iload 5, 2) := by decide +kernel
theorem dX10_barsBy_206 : decode cX10_barsBy 206 = .ok (.iaload, 1) := by decide +kernel
theorem dX10_barsBy_207 : decode cX10_barsBy 207 = .ok (.ifCond .eq 13, 3) := by decide +kernel
theorem dX10_barsBy_210 : decode cX10_barsBy 210 = .ok (.aload_n 0, 1) := by decide +kernel
theorem dX10_barsBy_211 : decode cX10_barsBy 211 = .ok (.iload_n 3, 1) := by decide +kernel
theorem dX10_barsBy_212 : decode cX10_barsBy 212 = .ok (.iload 4, 2) := by decide +kernel
theorem dX10_barsBy_214 : decode cX10_barsBy 214 = .ok (.invokevirtual 410, 3) := by decide +kernel
theorem dX10_barsBy_217 : decode cX10_barsBy 217 = .ok (.ifCond .ne 7, 3) := by decide +kernel
theorem dX10_barsBy_220 : decode cX10_barsBy 220 = .ok (.iconst 1, 1) := by decide +kernel
theorem dX10_barsBy_221 : decode cX10_barsBy 221 = .ok (.goto 4, 3) := by decide +kernel
theorem dX10_barsBy_224 : decode cX10_barsBy 224 = .ok (.iconst 0, 1) := by decide +kernel
theorem dX10_barsBy_225 : decode cX10_barsBy 225 = .ok (.ireturn, 1) := by decide +kernel
def rmX10_barsBy : Room := { frames := 4, cells := 0, slots := 0, locals := 105 }
set_option maxRecDepth 100000 in
def g_X10_barsBy_224 (th : Nat) (p1 : Int32) (p2 : Int32) (p3 : Int32) (p4 : Int32) (m : MM) : Option (Int32 × MM) :=
  some (0, m)
set_option maxHeartbeats 4000000 in
set_option maxRecDepth 100000 in
theorem s_X10_barsBy_224 {Γ : GX} {E : EX} (C : Cx Γ E cX10_barsBy RX10 9) (hr : Γ.meth.sig.returnType = (some .boolean)) (hrm : Γ.rm = rmX10_barsBy) (th : Nat) (p1 : Int32) (p2 : Int32) (p3 : Int32) (p4 : Int32) (m : MM) : Sm (QM Γ E emI 0 0) Γ E 9 0 0 224 [(0, va_rf (some th)), (1, .int p1), (2, .int p2), (3, .int p3), (4, .int p4)] [] m (g_X10_barsBy_224 th p1 p2 p3 p4 m) := by
  unfold g_X10_barsBy_224
  refine z_iconst (v := 0) C dX10_barsBy_224 (by decide) ?_
  exact z_zret C hr rfl dX10_barsBy_225
set_option maxRecDepth 100000 in
def g_X10_barsBy_220 (th : Nat) (p1 : Int32) (p2 : Int32) (p3 : Int32) (p4 : Int32) (m : MM) : Option (Int32 × MM) :=
  some (1, m)
set_option maxHeartbeats 4000000 in
set_option maxRecDepth 100000 in
theorem s_X10_barsBy_220 {Γ : GX} {E : EX} (C : Cx Γ E cX10_barsBy RX10 9) (hr : Γ.meth.sig.returnType = (some .boolean)) (hrm : Γ.rm = rmX10_barsBy) (th : Nat) (p1 : Int32) (p2 : Int32) (p3 : Int32) (p4 : Int32) (m : MM) : Sm (QM Γ E emI 0 0) Γ E 9 0 0 220 [(0, va_rf (some th)), (1, .int p1), (2, .int p2), (3, .int p3), (4, .int p4)] [] m (g_X10_barsBy_220 th p1 p2 p3 p4 m) := by
  unfold g_X10_barsBy_220
  refine z_iconst (v := 1) C dX10_barsBy_220 (by decide) ?_
  refine z_goto (tgt := 225) C dX10_barsBy_221 (by decide) ?_
  exact z_zret C hr rfl dX10_barsBy_225
set_option maxRecDepth 100000 in
def g_X10_barsBy_193 (th : Nat) (p1 : Int32) (p2 : Int32) (p3 : Int32) (p4 : Int32) (x5 : Int32) (s0 : Int32) (m : MM) : Option (Int32 × MM) :=
  if s0 = 0 then (g_X10_barsBy_224 th p1 p2 p3 p4 m) else (chk (m.K th = 11) (ck m (m.R 1137 th 0) 22 (fun a1 => chk (inb x5 (m.N a1) = true) (if (m.I 22 a1 (Int32.toNatClampNeg x5)) = 0 then (g_X10_barsBy_220 th p1 p2 p3 p4 m) else (cal (f_X10_wallsBetween th p3 p4 m) (fun r1 m1 => if r1 = 0 then (g_X10_barsBy_220 th p1 p2 p3 p4 m1) else (g_X10_barsBy_224 th p1 p2 p3 p4 m1)))))))
set_option maxHeartbeats 4000000 in
set_option maxRecDepth 100000 in
theorem s_X10_barsBy_193 {Γ : GX} {E : EX} (C : Cx Γ E cX10_barsBy RX10 9) (hr : Γ.meth.sig.returnType = (some .boolean)) (hrm : Γ.rm = rmX10_barsBy) (th : Nat) (p1 : Int32) (p2 : Int32) (p3 : Int32) (p4 : Int32) (x5 : Int32) (s0 : Int32) (m : MM) : Sm (QM Γ E emI 0 0) Γ E 9 0 0 193 [(0, va_rf (some th)), (1, .int p1), (2, .int p2), (3, .int p3), (4, .int p4), (5, .int x5)] [.int s0] m (g_X10_barsBy_193 th p1 p2 p3 p4 x5 s0 m) := by
  unfold g_X10_barsBy_193
  refine z_istore (i := 8) (L2 := [(8, .int s0), (0, va_rf (some th)), (1, .int p1), (2, .int p2), (3, .int p3), (4, .int p4), (5, .int x5)]) C dX10_barsBy_193 (by decide) rfl ?_
  refine z_iload C dX10_barsBy_195 0 rfl ?_
  refine z_if_eq (tgt := 224) C dX10_barsBy_197 (by decide) (fun c1 => ?_) (fun c1 => ?_)
  · exact z_sub [1, 2, 3, 4, 5] rfl (s_X10_barsBy_224 C hr hrm th p1 p2 p3 p4 m)
  · refine z_aload_n C dX10_barsBy_200 rfl 1 rfl ?_
    refine z_chk (fun hk1 => ?_)
    refine z_getR C fl_RX10_119 rfl hk1 dX10_barsBy_201 ?_
    refine z_iload C dX10_barsBy_204 6 rfl ?_
    refine z_ck (fun a1 hr1 hk2 => ?_)
    refine z_chk (fun hj1 => ?_)
    refine z_iald C hr1 hk2 hj1 dX10_barsBy_206 ?_
    refine z_if_eq (tgt := 220) C dX10_barsBy_207 (by decide) (fun c2 => ?_) (fun c2 => ?_)
    · exact z_sub [1, 2, 3, 4, 5] rfl (s_X10_barsBy_220 C hr hrm th p1 p2 p3 p4 m)
    · refine z_aload_n C dX10_barsBy_210 rfl 1 rfl ?_
      refine z_iload_n C dX10_barsBy_211 rfl 4 rfl ?_
      refine z_iload C dX10_barsBy_212 5 rfl ?_
      refine z_cVI [.int p3, .int p4] [] C mv_RX10_410 (fun r0 m0 h0 => M_X10_wallsBetween _ _ _ _ _ _ _ _ h0) rfl rfl ⟨by rw [hrm]; exact Nat.le_of_ble_eq_true rfl, by rw [hrm]; exact Nat.le_of_ble_eq_true rfl⟩ ⟨by rw [hrm]; exact Nat.le_of_ble_eq_true rfl, by rw [hrm]; exact Nat.le_of_ble_eq_true rfl⟩ rfl hk1 rfl rfl rfl (Nat.le_of_ble_eq_true rfl) dX10_barsBy_214 (fun r1 m1 => ?_)
      refine z_if_ne (tgt := 224) C dX10_barsBy_217 (by decide) (fun c3 => ?_) (fun c3 => ?_)
      · exact z_sub [1, 2, 3, 4, 5] rfl (s_X10_barsBy_224 C hr hrm th p1 p2 p3 p4 m1)
      · exact z_sub [1, 2, 3, 4, 5] rfl (s_X10_barsBy_220 C hr hrm th p1 p2 p3 p4 m1)
set_option maxRecDepth 100000 in
def g_X10_barsBy_188 (th : Nat) (p1 : Int32) (p2 : Int32) (p3 : Int32) (p4 : Int32) (x5 : Int32) (m : MM) : Option (Int32 × MM) :=
  g_X10_barsBy_193 th p1 p2 p3 p4 x5 1 m
set_option maxHeartbeats 4000000 in
set_option maxRecDepth 100000 in
theorem s_X10_barsBy_188 {Γ : GX} {E : EX} (C : Cx Γ E cX10_barsBy RX10 9) (hr : Γ.meth.sig.returnType = (some .boolean)) (hrm : Γ.rm = rmX10_barsBy) (th : Nat) (p1 : Int32) (p2 : Int32) (p3 : Int32) (p4 : Int32) (x5 : Int32) (m : MM) : Sm (QM Γ E emI 0 0) Γ E 9 0 0 188 [(0, va_rf (some th)), (1, .int p1), (2, .int p2), (3, .int p3), (4, .int p4), (5, .int x5)] [] m (g_X10_barsBy_188 th p1 p2 p3 p4 x5 m) := by
  unfold g_X10_barsBy_188
  refine z_iconst (v := 1) C dX10_barsBy_188 (by decide) ?_
  refine z_goto (tgt := 193) C dX10_barsBy_189 (by decide) ?_
  exact z_sub [0, 1, 2, 3, 4, 5] rfl (s_X10_barsBy_193 C hr hrm th p1 p2 p3 p4 x5 1 m)
set_option maxRecDepth 100000 in
def g_X10_barsBy_192 (th : Nat) (p1 : Int32) (p2 : Int32) (p3 : Int32) (p4 : Int32) (x5 : Int32) (m : MM) : Option (Int32 × MM) :=
  g_X10_barsBy_193 th p1 p2 p3 p4 x5 0 m
set_option maxHeartbeats 4000000 in
set_option maxRecDepth 100000 in
theorem s_X10_barsBy_192 {Γ : GX} {E : EX} (C : Cx Γ E cX10_barsBy RX10 9) (hr : Γ.meth.sig.returnType = (some .boolean)) (hrm : Γ.rm = rmX10_barsBy) (th : Nat) (p1 : Int32) (p2 : Int32) (p3 : Int32) (p4 : Int32) (x5 : Int32) (m : MM) : Sm (QM Γ E emI 0 0) Γ E 9 0 0 192 [(0, va_rf (some th)), (1, .int p1), (2, .int p2), (3, .int p3), (4, .int p4), (5, .int x5)] [] m (g_X10_barsBy_192 th p1 p2 p3 p4 x5 m) := by
  unfold g_X10_barsBy_192
  refine z_iconst (v := 0) C dX10_barsBy_192 (by decide) ?_
  exact z_sub [0, 1, 2, 3, 4, 5] rfl (s_X10_barsBy_193 C hr hrm th p1 p2 p3 p4 x5 0 m)
set_option maxRecDepth 100000 in
def g_X10_barsBy_162 (th : Nat) (p1 : Int32) (p2 : Int32) (p3 : Int32) (p4 : Int32) (x5 : Int32) (x6 : Int32) (m : MM) : Option (Int32 × MM) :=
  if x6 = 3 then (chk (m.K th = 11) (cal (f_X10_looksAt th p3 p4 m) (fun r2 m2 => if r2 = 0 then (g_X10_barsBy_192 th p1 p2 p3 p4 x5 m2) else (chk (m2.K th = 11) (cal (f_X10_looksAt th p4 p3 m2) (fun r3 m3 => if r3 = 0 then (g_X10_barsBy_192 th p1 p2 p3 p4 x5 m3) else (g_X10_barsBy_188 th p1 p2 p3 p4 x5 m3))))))) else (g_X10_barsBy_192 th p1 p2 p3 p4 x5 m)
set_option maxHeartbeats 4000000 in
set_option maxRecDepth 100000 in
theorem s_X10_barsBy_162 {Γ : GX} {E : EX} (C : Cx Γ E cX10_barsBy RX10 9) (hr : Γ.meth.sig.returnType = (some .boolean)) (hrm : Γ.rm = rmX10_barsBy) (th : Nat) (p1 : Int32) (p2 : Int32) (p3 : Int32) (p4 : Int32) (x5 : Int32) (x6 : Int32) (m : MM) : Sm (QM Γ E emI 0 0) Γ E 9 0 0 162 [(0, va_rf (some th)), (1, .int p1), (2, .int p2), (3, .int p3), (4, .int p4), (5, .int x5), (6, .int x6)] [] m (g_X10_barsBy_162 th p1 p2 p3 p4 x5 x6 m) := by
  unfold g_X10_barsBy_162
  refine z_iload C dX10_barsBy_162 6 rfl ?_
  refine z_iconst (v := 3) C dX10_barsBy_164 (by decide) ?_
  refine z_icmp_ne (tgt := 192) C dX10_barsBy_165 (by decide) (fun c4 => ?_) (fun c4 => ?_)
  · exact z_sub [0, 1, 2, 3, 4, 5] rfl (s_X10_barsBy_192 C hr hrm th p1 p2 p3 p4 x5 m)
  · refine z_aload_n C dX10_barsBy_168 rfl 0 rfl ?_
    refine z_iload_n C dX10_barsBy_169 rfl 3 rfl ?_
    refine z_iload C dX10_barsBy_170 4 rfl ?_
    refine z_chk (fun hk3 => ?_)
    refine z_cVI [.int p3, .int p4] [] C mv_RX10_436 (fun r0 m0 h0 => M_X10_looksAt _ _ _ _ _ _ _ _ h0) rfl rfl ⟨by rw [hrm]; exact Nat.le_of_ble_eq_true rfl, by rw [hrm]; exact Nat.le_of_ble_eq_true rfl⟩ ⟨by rw [hrm]; exact Nat.le_of_ble_eq_true rfl, by rw [hrm]; exact Nat.le_of_ble_eq_true rfl⟩ rfl hk3 rfl rfl rfl (Nat.le_of_ble_eq_true rfl) dX10_barsBy_172 (fun r2 m2 => ?_)
    refine z_if_eq (tgt := 192) C dX10_barsBy_175 (by decide) (fun c5 => ?_) (fun c5 => ?_)
    · exact z_sub [0, 1, 2, 3, 4, 5] rfl (s_X10_barsBy_192 C hr hrm th p1 p2 p3 p4 x5 m2)
    · refine z_aload_n C dX10_barsBy_178 rfl 0 rfl ?_
      refine z_iload C dX10_barsBy_179 4 rfl ?_
      refine z_iload_n C dX10_barsBy_181 rfl 3 rfl ?_
      refine z_chk (fun hk4 => ?_)
      refine z_cVI [.int p4, .int p3] [] C mv_RX10_436 (fun r0 m0 h0 => M_X10_looksAt _ _ _ _ _ _ _ _ h0) rfl rfl ⟨by rw [hrm]; exact Nat.le_of_ble_eq_true rfl, by rw [hrm]; exact Nat.le_of_ble_eq_true rfl⟩ ⟨by rw [hrm]; exact Nat.le_of_ble_eq_true rfl, by rw [hrm]; exact Nat.le_of_ble_eq_true rfl⟩ rfl hk4 rfl rfl rfl (Nat.le_of_ble_eq_true rfl) dX10_barsBy_182 (fun r3 m3 => ?_)
      refine z_if_eq (tgt := 192) C dX10_barsBy_185 (by decide) (fun c6 => ?_) (fun c6 => ?_)
      · exact z_sub [0, 1, 2, 3, 4, 5] rfl (s_X10_barsBy_192 C hr hrm th p1 p2 p3 p4 x5 m3)
      · exact z_sub [0, 1, 2, 3, 4, 5] rfl (s_X10_barsBy_188 C hr hrm th p1 p2 p3 p4 x5 m3)
set_option maxRecDepth 100000 in
def g_X10_barsBy_142 (th : Nat) (p1 : Int32) (p2 : Int32) (p3 : Int32) (p4 : Int32) (x5 : Int32) (x6 : Int32) (m : MM) : Option (Int32 × MM) :=
  if x6 = 2 then (chk (m.K th = 11) (cal (f_X10_height th p3 m) (fun r4 m4 => chk (m4.K th = 11) (cal (f_X10_height th p4 m4) (fun r5 m5 => if r5 < r4 then (g_X10_barsBy_188 th p1 p2 p3 p4 x5 m5) else (g_X10_barsBy_162 th p1 p2 p3 p4 x5 x6 m5)))))) else (g_X10_barsBy_162 th p1 p2 p3 p4 x5 x6 m)
set_option maxHeartbeats 4000000 in
set_option maxRecDepth 100000 in
theorem s_X10_barsBy_142 {Γ : GX} {E : EX} (C : Cx Γ E cX10_barsBy RX10 9) (hr : Γ.meth.sig.returnType = (some .boolean)) (hrm : Γ.rm = rmX10_barsBy) (th : Nat) (p1 : Int32) (p2 : Int32) (p3 : Int32) (p4 : Int32) (x5 : Int32) (x6 : Int32) (m : MM) : Sm (QM Γ E emI 0 0) Γ E 9 0 0 142 [(0, va_rf (some th)), (1, .int p1), (2, .int p2), (3, .int p3), (4, .int p4), (5, .int x5), (6, .int x6)] [] m (g_X10_barsBy_142 th p1 p2 p3 p4 x5 x6 m) := by
  unfold g_X10_barsBy_142
  refine z_iload C dX10_barsBy_142 6 rfl ?_
  refine z_iconst (v := 2) C dX10_barsBy_144 (by decide) ?_
  refine z_icmp_ne (tgt := 162) C dX10_barsBy_145 (by decide) (fun c7 => ?_) (fun c7 => ?_)
  · exact z_sub [0, 1, 2, 3, 4, 5, 6] rfl (s_X10_barsBy_162 C hr hrm th p1 p2 p3 p4 x5 x6 m)
  · refine z_aload_n C dX10_barsBy_148 rfl 0 rfl ?_
    refine z_iload_n C dX10_barsBy_149 rfl 3 rfl ?_
    refine z_chk (fun hk5 => ?_)
    refine z_cVI [.int p3] [] C mv_RX10_433 (fun r0 m0 h0 => M_X10_height _ _ _ _ _ _ _ h0) rfl rfl ⟨by rw [hrm]; exact Nat.le_of_ble_eq_true rfl, by rw [hrm]; exact Nat.le_of_ble_eq_true rfl⟩ ⟨by rw [hrm]; exact Nat.le_of_ble_eq_true rfl, by rw [hrm]; exact Nat.le_of_ble_eq_true rfl⟩ rfl hk5 rfl rfl rfl (Nat.le_of_ble_eq_true rfl) dX10_barsBy_150 (fun r4 m4 => ?_)
    refine z_aload_n C dX10_barsBy_153 rfl 0 rfl ?_
    refine z_iload C dX10_barsBy_154 4 rfl ?_
    refine z_chk (fun hk6 => ?_)
    refine z_cVI [.int p4] [.int r4] C mv_RX10_433 (fun r0 m0 h0 => M_X10_height _ _ _ _ _ _ _ h0) rfl rfl ⟨by rw [hrm]; exact Nat.le_of_ble_eq_true rfl, by rw [hrm]; exact Nat.le_of_ble_eq_true rfl⟩ ⟨by rw [hrm]; exact Nat.le_of_ble_eq_true rfl, by rw [hrm]; exact Nat.le_of_ble_eq_true rfl⟩ rfl hk6 rfl rfl rfl (Nat.le_of_ble_eq_true rfl) dX10_barsBy_156 (fun r5 m5 => ?_)
    refine z_icmp_gt (tgt := 188) C dX10_barsBy_159 (by decide) (fun c8 => ?_) (fun c8 => ?_)
    · exact z_sub [0, 1, 2, 3, 4, 5] rfl (s_X10_barsBy_188 C hr hrm th p1 p2 p3 p4 x5 m5)
    · exact z_sub [0, 1, 2, 3, 4, 5, 6] rfl (s_X10_barsBy_162 C hr hrm th p1 p2 p3 p4 x5 x6 m5)
set_option maxRecDepth 100000 in
def g_X10_barsBy_93 (th : Nat) (p1 : Int32) (p2 : Int32) (p3 : Int32) (p4 : Int32) (x5 : Int32) (x6 : Int32) (m : MM) : Option (Int32 × MM) :=
  chk (m.K th = 11) (cal (f_X10_farBy th x5 p3 p4 m) (fun r6 m6 => chk (m6.K th = 11) (cal (f_X10_apartBy th p3 p4 m6) (fun r7 m7 => if r7 < (r6 * r6) then (if x6 = 0 then (g_X10_barsBy_188 th p1 p2 p3 p4 x5 m7) else (if x6 = 1 then (chk (m7.K th = 11) (cal (f_X10_smellHours th p3 p4 m7) (fun r8 m8 => if 0 < r8 then (g_X10_barsBy_188 th p1 p2 p3 p4 x5 m8) else (g_X10_barsBy_142 th p1 p2 p3 p4 x5 x6 m8)))) else (g_X10_barsBy_142 th p1 p2 p3 p4 x5 x6 m7))) else (some (0, m7))))))
set_option maxHeartbeats 4000000 in
set_option maxRecDepth 100000 in
theorem s_X10_barsBy_93 {Γ : GX} {E : EX} (C : Cx Γ E cX10_barsBy RX10 9) (hr : Γ.meth.sig.returnType = (some .boolean)) (hrm : Γ.rm = rmX10_barsBy) (th : Nat) (p1 : Int32) (p2 : Int32) (p3 : Int32) (p4 : Int32) (x5 : Int32) (x6 : Int32) (m : MM) : Sm (QM Γ E emI 0 0) Γ E 9 0 0 93 [(0, va_rf (some th)), (1, .int p1), (2, .int p2), (3, .int p3), (4, .int p4), (5, .int x5), (6, .int x6)] [] m (g_X10_barsBy_93 th p1 p2 p3 p4 x5 x6 m) := by
  unfold g_X10_barsBy_93
  refine z_aload_n C dX10_barsBy_93 rfl 0 rfl ?_
  refine z_iload C dX10_barsBy_94 5 rfl ?_
  refine z_iload_n C dX10_barsBy_96 rfl 3 rfl ?_
  refine z_iload C dX10_barsBy_97 4 rfl ?_
  refine z_chk (fun hk7 => ?_)
  refine z_cVI [.int x5, .int p3, .int p4] [] C mv_RX10_426 (fun r0 m0 h0 => M_X10_farBy _ _ _ _ _ _ _ _ _ h0) rfl rfl ⟨by rw [hrm]; exact Nat.le_of_ble_eq_true rfl, by rw [hrm]; exact Nat.le_of_ble_eq_true rfl⟩ ⟨by rw [hrm]; exact Nat.le_of_ble_eq_true rfl, by rw [hrm]; exact Nat.le_of_ble_eq_true rfl⟩ rfl hk7 rfl rfl rfl (Nat.le_of_ble_eq_true rfl) dX10_barsBy_99 (fun r6 m6 => ?_)
  refine z_istore (i := 7) (L2 := [(7, .int r6), (0, va_rf (some th)), (1, .int p1), (2, .int p2), (3, .int p3), (4, .int p4), (5, .int x5), (6, .int x6)]) C dX10_barsBy_102 (by decide) rfl ?_
  refine z_aload_n C dX10_barsBy_104 rfl 1 rfl ?_
  refine z_iload_n C dX10_barsBy_105 rfl 4 rfl ?_
  refine z_iload C dX10_barsBy_106 5 rfl ?_
  refine z_chk (fun hk8 => ?_)
  refine z_cVI [.int p3, .int p4] [] C mv_RX10_396 (fun r0 m0 h0 => M_X10_apartBy _ _ _ _ _ _ _ _ h0) rfl rfl ⟨by rw [hrm]; exact Nat.le_of_ble_eq_true rfl, by rw [hrm]; exact Nat.le_of_ble_eq_true rfl⟩ ⟨by rw [hrm]; exact Nat.le_of_ble_eq_true rfl, by rw [hrm]; exact Nat.le_of_ble_eq_true rfl⟩ rfl hk8 rfl rfl rfl (Nat.le_of_ble_eq_true rfl) dX10_barsBy_108 (fun r7 m7 => ?_)
  refine z_iload C dX10_barsBy_111 0 rfl ?_
  refine z_iload C dX10_barsBy_113 0 rfl ?_
  refine z_imul C dX10_barsBy_115 ?_
  refine z_icmp_lt (tgt := 121) C dX10_barsBy_116 (by decide) (fun c9 => ?_) (fun c9 => ?_)
  · refine z_iload C dX10_barsBy_121 7 rfl ?_
    refine z_if_eq (tgt := 188) C dX10_barsBy_123 (by decide) (fun c10 => ?_) (fun c10 => ?_)
    · exact z_sub [1, 2, 3, 4, 5, 6] rfl (s_X10_barsBy_188 C hr hrm th p1 p2 p3 p4 x5 m7)
    · refine z_iload C dX10_barsBy_126 7 rfl ?_
      refine z_iconst (v := 1) C dX10_barsBy_128 (by decide) ?_
      refine z_icmp_ne (tgt := 142) C dX10_barsBy_129 (by decide) (fun c11 => ?_) (fun c11 => ?_)
      · exact z_sub [1, 2, 3, 4, 5, 6, 7] rfl (s_X10_barsBy_142 C hr hrm th p1 p2 p3 p4 x5 x6 m7)
      · refine z_aload_n C dX10_barsBy_132 rfl 1 rfl ?_
        refine z_iload_n C dX10_barsBy_133 rfl 4 rfl ?_
        refine z_iload C dX10_barsBy_134 5 rfl ?_
        refine z_chk (fun hk9 => ?_)
        refine z_cVI [.int p3, .int p4] [] C mv_RX10_430 (fun r0 m0 h0 => M_X10_smellHours _ _ _ _ _ _ _ _ h0) rfl rfl ⟨by rw [hrm]; exact Nat.le_of_ble_eq_true rfl, by rw [hrm]; exact Nat.le_of_ble_eq_true rfl⟩ ⟨by rw [hrm]; exact Nat.le_of_ble_eq_true rfl, by rw [hrm]; exact Nat.le_of_ble_eq_true rfl⟩ rfl hk9 rfl rfl rfl (Nat.le_of_ble_eq_true rfl) dX10_barsBy_136 (fun r8 m8 => ?_)
        refine z_if_gt (tgt := 188) C dX10_barsBy_139 (by decide) (fun c12 => ?_) (fun c12 => ?_)
        · exact z_sub [1, 2, 3, 4, 5, 6] rfl (s_X10_barsBy_188 C hr hrm th p1 p2 p3 p4 x5 m8)
        · exact z_sub [1, 2, 3, 4, 5, 6, 7] rfl (s_X10_barsBy_142 C hr hrm th p1 p2 p3 p4 x5 x6 m8)
  · refine z_iconst (v := 0) C dX10_barsBy_119 (by decide) ?_
    exact z_zret C hr rfl dX10_barsBy_120
set_option maxRecDepth 100000 in
def g_X10_barsBy_69 (th : Nat) (p1 : Int32) (p2 : Int32) (p3 : Int32) (p4 : Int32) (x5 : Int32) (x6 : Int32) (m : MM) : Option (Int32 × MM) :=
  chk (m.K th = 11) (ck m (m.R 1160 th 0) 22 (fun a2 => chk (inb p3 (m.N a2) = true) (chk (inb p4 (m.N a2) = true) (if (m.I 22 a2 (Int32.toNatClampNeg p3)) = (m.I 22 a2 (Int32.toNatClampNeg p4)) then (if p3 ≤ p4 then (g_X10_barsBy_93 th p1 p2 p3 p4 x5 x6 m) else (some (0, m))) else (g_X10_barsBy_93 th p1 p2 p3 p4 x5 x6 m)))))
set_option maxHeartbeats 4000000 in
set_option maxRecDepth 100000 in
theorem s_X10_barsBy_69 {Γ : GX} {E : EX} (C : Cx Γ E cX10_barsBy RX10 9) (hr : Γ.meth.sig.returnType = (some .boolean)) (hrm : Γ.rm = rmX10_barsBy) (th : Nat) (p1 : Int32) (p2 : Int32) (p3 : Int32) (p4 : Int32) (x5 : Int32) (x6 : Int32) (m : MM) : Sm (QM Γ E emI 0 0) Γ E 9 0 0 69 [(0, va_rf (some th)), (1, .int p1), (2, .int p2), (3, .int p3), (4, .int p4), (5, .int x5), (6, .int x6)] [] m (g_X10_barsBy_69 th p1 p2 p3 p4 x5 x6 m) := by
  unfold g_X10_barsBy_69
  refine z_aload_n C dX10_barsBy_69 rfl 0 rfl ?_
  refine z_chk (fun hk10 => ?_)
  refine z_getR C fl_RX10_143 rfl hk10 dX10_barsBy_70 ?_
  refine z_iload_n C dX10_barsBy_73 rfl 3 rfl ?_
  refine z_ck (fun a2 hr2 hk11 => ?_)
  refine z_chk (fun hj2 => ?_)
  refine z_iald C hr2 hk11 hj2 dX10_barsBy_74 ?_
  refine z_aload_n C dX10_barsBy_75 rfl 0 rfl ?_
  refine z_getR C fl_RX10_143 rfl hk10 dX10_barsBy_76 ?_
  refine z_iload C dX10_barsBy_79 4 rfl ?_
  refine z_chk (fun hj3 => ?_)
  refine z_iald C hr2 hk11 hj3 dX10_barsBy_81 ?_
  refine z_icmp_ne (tgt := 93) C dX10_barsBy_82 (by decide) (fun c13 => ?_) (fun c13 => ?_)
  · exact z_sub [0, 1, 2, 3, 4, 5, 6] rfl (s_X10_barsBy_93 C hr hrm th p1 p2 p3 p4 x5 x6 m)
  · refine z_iload_n C dX10_barsBy_85 rfl 3 rfl ?_
    refine z_iload C dX10_barsBy_86 4 rfl ?_
    refine z_icmp_le (tgt := 93) C dX10_barsBy_88 (by decide) (fun c14 => ?_) (fun c14 => ?_)
    · exact z_sub [0, 1, 2, 3, 4, 5, 6] rfl (s_X10_barsBy_93 C hr hrm th p1 p2 p3 p4 x5 x6 m)
    · refine z_iconst (v := 0) C dX10_barsBy_91 (by decide) ?_
      exact z_zret C hr rfl dX10_barsBy_92
set_option maxRecDepth 100000 in
def g_X10_barsBy_0 (th : Nat) (p1 : Int32) (p2 : Int32) (p3 : Int32) (p4 : Int32) (m : MM) : Option (Int32 × MM) :=
  bnd ((10 * p1) + p2) (fun y1 => if p3 = p4 then (some (0, m)) else (chk (m.K th = 11) (ck m (m.R 1160 th 0) 22 (fun a3 => chk (inb p3 (m.N a3) = true) (ck m (m.R 1134 th 0) 22 (fun a4 => chk (inb y1 (m.N a4) = true) (if (m.I 22 a3 (Int32.toNatClampNeg p3)) = (m.I 22 a4 (Int32.toNatClampNeg y1)) then (chk (inb p4 (m.N a3) = true) (ck m (m.R 1135 th 0) 22 (fun a5 => chk (inb y1 (m.N a5) = true) (if (m.I 22 a3 (Int32.toNatClampNeg p4)) = (m.I 22 a5 (Int32.toNatClampNeg y1)) then (ck m (m.R 1133 th 0) 22 (fun a6 => chk (inb y1 (m.N a6) = true) (bnd (m.I 22 a6 (Int32.toNatClampNeg y1)) (fun y2 => if y2 = 0 then (g_X10_barsBy_69 th p1 p2 p3 p4 y1 y2 m) else (if y2 = 3 then (g_X10_barsBy_69 th p1 p2 p3 p4 y1 y2 m) else (g_X10_barsBy_93 th p1 p2 p3 p4 y1 y2 m)))))) else (some (0, m)))))) else (some (0, m)))))))))
set_option maxHeartbeats 4000000 in
set_option maxRecDepth 100000 in
theorem s_X10_barsBy_0 {Γ : GX} {E : EX} (C : Cx Γ E cX10_barsBy RX10 9) (hr : Γ.meth.sig.returnType = (some .boolean)) (hrm : Γ.rm = rmX10_barsBy) (th : Nat) (p1 : Int32) (p2 : Int32) (p3 : Int32) (p4 : Int32) (m : MM) : Sm (QM Γ E emI 0 0) Γ E 9 0 0 0 [(0, va_rf (some th)), (1, .int p1), (2, .int p2), (3, .int p3), (4, .int p4)] [] m (g_X10_barsBy_0 th p1 p2 p3 p4 m) := by
  unfold g_X10_barsBy_0
  refine z_bipush (v := 10) C dX10_barsBy_0 (by decide) ?_
  refine z_iload_n C dX10_barsBy_2 rfl 1 rfl ?_
  refine z_imul C dX10_barsBy_3 ?_
  refine z_iload_n C dX10_barsBy_4 rfl 2 rfl ?_
  refine z_iadd C dX10_barsBy_5 ?_
  refine z_bndI (fun y1 => ?_)
  refine z_istore (i := 5) (L2 := [(5, .int y1), (0, va_rf (some th)), (1, .int p1), (2, .int p2), (3, .int p3), (4, .int p4)]) C dX10_barsBy_6 (by decide) rfl ?_
  refine z_iload_n C dX10_barsBy_8 rfl 4 rfl ?_
  refine z_iload C dX10_barsBy_9 5 rfl ?_
  refine z_icmp_eq (tgt := 47) C dX10_barsBy_11 (by decide) (fun c15 => ?_) (fun c15 => ?_)
  · refine z_iconst (v := 0) C dX10_barsBy_47 (by decide) ?_
    exact z_zret C hr rfl dX10_barsBy_48
  · refine z_aload_n C dX10_barsBy_14 rfl 1 rfl ?_
    refine z_chk (fun hk12 => ?_)
    refine z_getR C fl_RX10_143 rfl hk12 dX10_barsBy_15 ?_
    refine z_iload_n C dX10_barsBy_18 rfl 4 rfl ?_
    refine z_ck (fun a3 hr3 hk13 => ?_)
    refine z_chk (fun hj4 => ?_)
    refine z_iald C hr3 hk13 hj4 dX10_barsBy_19 ?_
    refine z_aload_n C dX10_barsBy_20 rfl 1 rfl ?_
    refine z_getR C fl_RX10_110 rfl hk12 dX10_barsBy_21 ?_
    refine z_iload C dX10_barsBy_24 0 rfl ?_
    refine z_ck (fun a4 hr4 hk14 => ?_)
    refine z_chk (fun hj5 => ?_)
    refine z_iald C hr4 hk14 hj5 dX10_barsBy_26 ?_
    refine z_icmp_ne (tgt := 47) C dX10_barsBy_27 (by decide) (fun c16 => ?_) (fun c16 => ?_)
    · refine z_iconst (v := 0) C dX10_barsBy_47 (by decide) ?_
      exact z_zret C hr rfl dX10_barsBy_48
    · refine z_aload_n C dX10_barsBy_30 rfl 1 rfl ?_
      refine z_getR C fl_RX10_143 rfl hk12 dX10_barsBy_31 ?_
      refine z_iload C dX10_barsBy_34 5 rfl ?_
      refine z_chk (fun hj6 => ?_)
      refine z_iald C hr3 hk13 hj6 dX10_barsBy_36 ?_
      refine z_aload_n C dX10_barsBy_37 rfl 1 rfl ?_
      refine z_getR C fl_RX10_113 rfl hk12 dX10_barsBy_38 ?_
      refine z_iload C dX10_barsBy_41 0 rfl ?_
      refine z_ck (fun a5 hr5 hk15 => ?_)
      refine z_chk (fun hj7 => ?_)
      refine z_iald C hr5 hk15 hj7 dX10_barsBy_43 ?_
      refine z_icmp_eq (tgt := 49) C dX10_barsBy_44 (by decide) (fun c17 => ?_) (fun c17 => ?_)
      · refine z_aload_n C dX10_barsBy_49 rfl 1 rfl ?_
        refine z_getR C fl_RX10_107 rfl hk12 dX10_barsBy_50 ?_
        refine z_iload C dX10_barsBy_53 0 rfl ?_
        refine z_ck (fun a6 hr6 hk16 => ?_)
        refine z_chk (fun hj8 => ?_)
        refine z_iald C hr6 hk16 hj8 dX10_barsBy_55 ?_
        refine z_bndI (fun y2 => ?_)
        refine z_istore (i := 6) (L2 := [(6, .int y2), (5, .int y1), (0, va_rf (some th)), (1, .int p1), (2, .int p2), (3, .int p3), (4, .int p4)]) C dX10_barsBy_56 (by decide) rfl ?_
        refine z_iload C dX10_barsBy_58 0 rfl ?_
        refine z_if_eq (tgt := 69) C dX10_barsBy_60 (by decide) (fun c18 => ?_) (fun c18 => ?_)
        · exact z_sub [2, 3, 4, 5, 6, 1, 0] rfl (s_X10_barsBy_69 C hr hrm th p1 p2 p3 p4 y1 y2 m)
        · refine z_iload C dX10_barsBy_63 0 rfl ?_
          refine z_iconst (v := 3) C dX10_barsBy_65 (by decide) ?_
          refine z_icmp_ne (tgt := 93) C dX10_barsBy_66 (by decide) (fun c19 => ?_) (fun c19 => ?_)
          · exact z_sub [2, 3, 4, 5, 6, 1, 0] rfl (s_X10_barsBy_93 C hr hrm th p1 p2 p3 p4 y1 y2 m)
          · exact z_sub [2, 3, 4, 5, 6, 1, 0] rfl (s_X10_barsBy_69 C hr hrm th p1 p2 p3 p4 y1 y2 m)
      · refine z_iconst (v := 0) C dX10_barsBy_47 (by decide) ?_
        exact z_zret C hr rfl dX10_barsBy_48
def f_X10_barsBy (th : Nat) (p1 : Int32) (p2 : Int32) (p3 : Int32) (p4 : Int32) (m : MM) : Option (Int32 × MM) := g_X10_barsBy_0 th p1 p2 p3 p4 m
theorem M_X10_barsBy (l : Launch) (E : EX) (th : Nat) (p1 : Int32) (p2 : Int32) (p3 : Int32) (p4 : Int32) (m : MM) (r : Int32) (m2 : MM) (h : f_X10_barsBy th p1 p2 p3 p4 m = some (r, m2)) : Met l yX10_barsBy (.code yX10_barsBy cX10_barsBy 9 (some .boolean) :: TB) rmX10_barsBy (va_Pc [.ref th, .int p1, .int p2, .int p3, .int p4] (St E m)) (QR E (emI r) m2) 0 0 (AA E) :=
  met_of (em := emI) (plainFor_of_name rfl) (Nat.le_of_ble_eq_true rfl) (L0 := [(0, va_rf (some th)), (1, .int p1), (2, .int p2), (3, .int p3), (4, .int p4)]) rfl (fun Γ _ hrm C hr hn => s_X10_barsBy_0 C hr hrm th p1 p2 p3 p4 m) h

theorem dX10_barsBoth_0 : decode cX10_barsBoth 0 = .ok (.iconst 0, 1) := by decide +kernel
theorem dX10_barsBoth_1 : decode cX10_barsBoth 1 = .ok (.istore 5, 2) := by decide +kernel
theorem dX10_barsBoth_3 : decode cX10_barsBoth 3 = .ok (.iload 5, 2) := by decide +kernel
theorem dX10_barsBoth_5 : decode cX10_barsBoth 5 = .ok (.aload_n 0, 1) := by decide +kernel
theorem dX10_barsBoth_6 : decode cX10_barsBoth 6 = .ok (.getfield 95, 3) := by decide +kernel
theorem dX10_barsBoth_9 : decode cX10_barsBoth 9 = .ok (.iload_n 1, 1) := by decide +kernel
theorem dX10_barsBoth_10 : decode cX10_barsBoth 10 = .ok (.iaload, 1) := by decide +kernel
theorem dX10_barsBoth_11 : decode cX10_barsBoth 11 = .ok (.if_icmp .ge 42, 3) := by decide +kernel
theorem dX10_barsBoth_14 : decode cX10_barsBoth 14 = .ok (.iload 5, 2) := by decide +kernel
theorem dX10_barsBoth_16 : decode cX10_barsBoth 16 = .ok (.iload 4, 2) := by decide +kernel
theorem dX10_barsBoth_18 : decode cX10_barsBoth 18 = .ok (.if_icmp .eq 29, 3) := by decide +kernel
theorem dX10_barsBoth_21 : decode cX10_barsBoth 21 = .ok (.aload_n 0, 1) := by decide +kernel
theorem dX10_barsBoth_22 : decode cX10_barsBoth 22 = .ok (.iload_n 1, 1) := by decide +kernel
theorem dX10_barsBoth_23 : decode cX10_barsBoth 23 = .ok (.iload 5, 2) := by decide +kernel
theorem dX10_barsBoth_25 : decode cX10_barsBoth 25 = .ok (.iload_n 2, 1) := by decide +kernel
theorem dX10_barsBoth_26 : decode cX10_barsBoth 26 = .ok (.iload_n 3, 1) := by decide +kernel
theorem dX10_barsBoth_27 : decode cX10_barsBoth 27 = .ok (.invokevirtual 439, 3) := by decide +kernel
theorem dX10_barsBoth_30 : decode cX10_barsBoth 30 = .ok (.ifCond .ne 15, 3) := by decide +kernel
theorem dX10_barsBoth_33 : decode cX10_barsBoth 33 = .ok (.aload_n 0, 1) := by decide +kernel
theorem dX10_barsBoth_34 : decode cX10_barsBoth 34 = .ok (.iload_n 1, 1) := by decide +kernel
theorem dX10_barsBoth_35 : decode cX10_barsBoth 35 = .ok (.iload 5, 2) := by decide +kernel
theorem dX10_barsBoth_37 : decode cX10_barsBoth 37 = .ok (.iload_n 3, 1) := by decide +kernel
theorem dX10_barsBoth_38 : decode cX10_barsBoth 38 = .ok (.iload_n 2, 1) := by decide +kernel
theorem dX10_barsBoth_39 : decode cX10_barsBoth 39 = .ok (.invokevirtual 439, 3) := by decide +kernel
theorem dX10_barsBoth_42 : decode cX10_barsBoth 42 = .ok (.ifCond .eq 5, 3) := by decide +kernel
theorem dX10_barsBoth_45 : decode cX10_barsBoth 45 = .ok (.iconst 1, 1) := by decide +kernel
theorem dX10_barsBoth_46 : decode cX10_barsBoth 46 = .ok (.ireturn, 1) := by decide +kernel
theorem dX10_barsBoth_47 : decode cX10_barsBoth 47 = .ok (.iinc 5 1, 3) := by decide +kernel
theorem dX10_barsBoth_50 : decode cX10_barsBoth 50 = .ok (.goto (-47), 3) := by decide +kernel
theorem dX10_barsBoth_53 : decode cX10_barsBoth 53 = .ok (.iconst 0, 1) := by decide +kernel
theorem dX10_barsBoth_54 : decode cX10_barsBoth 54 = .ok (.ireturn, 1) := by decide +kernel
def rmX10_barsBoth : Room := { frames := 5, cells := 0, slots := 0, locals := 133 }
set_option maxRecDepth 100000 in
def g_X10_barsBoth_47 (th : Nat) (p1 : Int32) (p2 : Int32) (p3 : Int32) (p4 : Int32) (k3 : Int32 → MM → Option (Int32 × MM)) (x5 : Int32) (m : MM) : Option (Int32 × MM) :=
  k3 (x5 + 1) m
set_option maxHeartbeats 4000000 in
set_option maxRecDepth 100000 in
theorem s_X10_barsBoth_47 {Γ : GX} {E : EX} (C : Cx Γ E cX10_barsBoth RX10 6) (hr : Γ.meth.sig.returnType = (some .boolean)) (hrm : Γ.rm = rmX10_barsBoth) (th : Nat) (p1 : Int32) (p2 : Int32) (p3 : Int32) (p4 : Int32) (k3 : Int32 → MM → Option (Int32 × MM)) (h3 : ∀ (x5 : Int32) (m : MM), Sm (QM Γ E emI 0 0) Γ E 6 0 0 3 [(0, va_rf (some th)), (1, .int p1), (2, .int p2), (3, .int p3), (4, .int p4), (5, .int x5)] [] m (k3 x5 m)) (x5 : Int32) (m : MM) : Sm (QM Γ E emI 0 0) Γ E 6 0 0 47 [(0, va_rf (some th)), (1, .int p1), (2, .int p2), (3, .int p3), (4, .int p4), (5, .int x5)] [] m (g_X10_barsBoth_47 th p1 p2 p3 p4 k3 x5 m) := by
  unfold g_X10_barsBoth_47
  refine z_iinc (v := 1) (L2 := [(5, .int (x5 + 1)), (0, va_rf (some th)), (1, .int p1), (2, .int p2), (3, .int p3), (4, .int p4)]) C dX10_barsBoth_47 5 rfl (by decide) (by decide) rfl ?_
  refine z_goto (tgt := 3) C dX10_barsBoth_50 (by decide) ?_
  exact z_sub [1, 2, 3, 4, 5, 0] rfl (h3 (x5 + 1) m)
set_option maxRecDepth 100000 in
def g_X10_barsBoth_3 (th : Nat) (p1 : Int32) (p2 : Int32) (p3 : Int32) (p4 : Int32) (k3 : Int32 → MM → Option (Int32 × MM)) (x5 : Int32) (m : MM) : Option (Int32 × MM) :=
  chk (m.K th = 11) (ck m (m.R 1129 th 0) 22 (fun a1 => chk (inb p1 (m.N a1) = true) (if (m.I 22 a1 (Int32.toNatClampNeg p1)) ≤ x5 then (some (0, m)) else (if x5 = p4 then (g_X10_barsBoth_47 th p1 p2 p3 p4 k3 x5 m) else (cal (f_X10_barsBy th p1 x5 p2 p3 m) (fun r1 m1 => if r1 = 0 then (chk (m1.K th = 11) (cal (f_X10_barsBy th p1 x5 p3 p2 m1) (fun r2 m2 => if r2 = 0 then (g_X10_barsBoth_47 th p1 p2 p3 p4 k3 x5 m2) else (some (1, m2))))) else (some (1, m1))))))))
set_option maxHeartbeats 4000000 in
set_option maxRecDepth 100000 in
theorem s_X10_barsBoth_3 {Γ : GX} {E : EX} (C : Cx Γ E cX10_barsBoth RX10 6) (hr : Γ.meth.sig.returnType = (some .boolean)) (hrm : Γ.rm = rmX10_barsBoth) (th : Nat) (p1 : Int32) (p2 : Int32) (p3 : Int32) (p4 : Int32) (k3 : Int32 → MM → Option (Int32 × MM)) (h3 : ∀ (x5 : Int32) (m : MM), Sm (QM Γ E emI 0 0) Γ E 6 0 0 3 [(0, va_rf (some th)), (1, .int p1), (2, .int p2), (3, .int p3), (4, .int p4), (5, .int x5)] [] m (k3 x5 m)) (x5 : Int32) (m : MM) : Sm (QM Γ E emI 0 0) Γ E 6 0 0 3 [(0, va_rf (some th)), (1, .int p1), (2, .int p2), (3, .int p3), (4, .int p4), (5, .int x5)] [] m (g_X10_barsBoth_3 th p1 p2 p3 p4 k3 x5 m) := by
  unfold g_X10_barsBoth_3
  refine z_iload C dX10_barsBoth_3 5 rfl ?_
  refine z_aload_n C dX10_barsBoth_5 rfl 0 rfl ?_
  refine z_chk (fun hk1 => ?_)
  refine z_getR C fl_RX10_95 rfl hk1 dX10_barsBoth_6 ?_
  refine z_iload_n C dX10_barsBoth_9 rfl 1 rfl ?_
  refine z_ck (fun a1 hr1 hk2 => ?_)
  refine z_chk (fun hj1 => ?_)
  refine z_iald C hr1 hk2 hj1 dX10_barsBoth_10 ?_
  refine z_icmp_ge (tgt := 53) C dX10_barsBoth_11 (by decide) (fun c1 => ?_) (fun c1 => ?_)
  · refine z_iconst (v := 0) C dX10_barsBoth_53 (by decide) ?_
    exact z_zret C hr rfl dX10_barsBoth_54
  · refine z_iload C dX10_barsBoth_14 5 rfl ?_
    refine z_iload C dX10_barsBoth_16 4 rfl ?_
    refine z_icmp_eq (tgt := 47) C dX10_barsBoth_18 (by decide) (fun c2 => ?_) (fun c2 => ?_)
    · exact z_sub [0, 1, 2, 3, 4, 5] rfl (s_X10_barsBoth_47 C hr hrm th p1 p2 p3 p4 k3 h3 x5 m)
    · refine z_aload_n C dX10_barsBoth_21 rfl 0 rfl ?_
      refine z_iload_n C dX10_barsBoth_22 rfl 1 rfl ?_
      refine z_iload C dX10_barsBoth_23 5 rfl ?_
      refine z_iload_n C dX10_barsBoth_25 rfl 2 rfl ?_
      refine z_iload_n C dX10_barsBoth_26 rfl 3 rfl ?_
      refine z_cVI [.int p1, .int x5, .int p2, .int p3] [] C mv_RX10_439 (fun r0 m0 h0 => M_X10_barsBy _ _ _ _ _ _ _ _ _ _ h0) rfl rfl ⟨by rw [hrm]; exact Nat.le_of_ble_eq_true rfl, by rw [hrm]; exact Nat.le_of_ble_eq_true rfl⟩ ⟨by rw [hrm]; exact Nat.le_of_ble_eq_true rfl, by rw [hrm]; exact Nat.le_of_ble_eq_true rfl⟩ rfl hk1 rfl rfl rfl (Nat.le_of_ble_eq_true rfl) dX10_barsBoth_27 (fun r1 m1 => ?_)
      refine z_if_ne (tgt := 45) C dX10_barsBoth_30 (by decide) (fun c3 => ?_) (fun c3 => ?_)
      · refine z_iconst (v := 1) C dX10_barsBoth_45 (by decide) ?_
        exact z_zret C hr rfl dX10_barsBoth_46
      · refine z_aload_n C dX10_barsBoth_33 rfl 0 rfl ?_
        refine z_iload_n C dX10_barsBoth_34 rfl 1 rfl ?_
        refine z_iload C dX10_barsBoth_35 5 rfl ?_
        refine z_iload_n C dX10_barsBoth_37 rfl 3 rfl ?_
        refine z_iload_n C dX10_barsBoth_38 rfl 2 rfl ?_
        refine z_chk (fun hk3 => ?_)
        refine z_cVI [.int p1, .int x5, .int p3, .int p2] [] C mv_RX10_439 (fun r0 m0 h0 => M_X10_barsBy _ _ _ _ _ _ _ _ _ _ h0) rfl rfl ⟨by rw [hrm]; exact Nat.le_of_ble_eq_true rfl, by rw [hrm]; exact Nat.le_of_ble_eq_true rfl⟩ ⟨by rw [hrm]; exact Nat.le_of_ble_eq_true rfl, by rw [hrm]; exact Nat.le_of_ble_eq_true rfl⟩ rfl hk3 rfl rfl rfl (Nat.le_of_ble_eq_true rfl) dX10_barsBoth_39 (fun r2 m2 => ?_)
        refine z_if_eq (tgt := 47) C dX10_barsBoth_42 (by decide) (fun c4 => ?_) (fun c4 => ?_)
        · exact z_sub [0, 1, 2, 3, 4, 5] rfl (s_X10_barsBoth_47 C hr hrm th p1 p2 p3 p4 k3 h3 x5 m2)
        · refine z_iconst (v := 1) C dX10_barsBoth_45 (by decide) ?_
          exact z_zret C hr rfl dX10_barsBoth_46
def l_X10_barsBoth_3 (th : Nat) (p1 : Int32) (p2 : Int32) (p3 : Int32) (p4 : Int32) : Nat → Int32 → MM → Option (Int32 × MM) := lp (fun _ _ => none) (fun k3 => g_X10_barsBoth_3 th p1 p2 p3 p4 k3)
theorem t_X10_barsBoth_3 {Γ : GX} {E : EX} (C : Cx Γ E cX10_barsBoth RX10 6) (hr : Γ.meth.sig.returnType = (some .boolean)) (hrm : Γ.rm = rmX10_barsBoth) (th : Nat) (p1 : Int32) (p2 : Int32) (p3 : Int32) (p4 : Int32) : ∀ (n : Nat) (x5 : Int32) (m : MM), Sm (QM Γ E emI 0 0) Γ E 6 0 0 3 [(0, va_rf (some th)), (1, .int p1), (2, .int p2), (3, .int p3), (4, .int p4), (5, .int x5)] [] m (l_X10_barsBoth_3 th p1 p2 p3 p4 n x5 m) := by
  intro n
  induction n with
  | zero => intros; exact z_none
  | succ n ih => intro x5 m; exact s_X10_barsBoth_3 C hr hrm th p1 p2 p3 p4 (l_X10_barsBoth_3 th p1 p2 p3 p4 n) ih x5 m
set_option maxRecDepth 100000 in
def g_X10_barsBoth_0 (th : Nat) (p1 : Int32) (p2 : Int32) (p3 : Int32) (p4 : Int32) (m : MM) : Option (Int32 × MM) :=
  l_X10_barsBoth_3 th p1 p2 p3 p4 FU 0 m
set_option maxHeartbeats 4000000 in
set_option maxRecDepth 100000 in
theorem s_X10_barsBoth_0 {Γ : GX} {E : EX} (C : Cx Γ E cX10_barsBoth RX10 6) (hr : Γ.meth.sig.returnType = (some .boolean)) (hrm : Γ.rm = rmX10_barsBoth) (th : Nat) (p1 : Int32) (p2 : Int32) (p3 : Int32) (p4 : Int32) (m : MM) : Sm (QM Γ E emI 0 0) Γ E 6 0 0 0 [(0, va_rf (some th)), (1, .int p1), (2, .int p2), (3, .int p3), (4, .int p4)] [] m (g_X10_barsBoth_0 th p1 p2 p3 p4 m) := by
  unfold g_X10_barsBoth_0
  refine z_iconst (v := 0) C dX10_barsBoth_0 (by decide) ?_
  refine z_istore (i := 5) (L2 := [(5, .int 0), (0, va_rf (some th)), (1, .int p1), (2, .int p2), (3, .int p3), (4, .int p4)]) C dX10_barsBoth_1 (by decide) rfl ?_
  exact z_sub [1, 2, 3, 4, 5, 0] rfl (t_X10_barsBoth_3 C hr hrm th p1 p2 p3 p4 FU 0 m)
def f_X10_barsBoth (th : Nat) (p1 : Int32) (p2 : Int32) (p3 : Int32) (p4 : Int32) (m : MM) : Option (Int32 × MM) := g_X10_barsBoth_0 th p1 p2 p3 p4 m
theorem M_X10_barsBoth (l : Launch) (E : EX) (th : Nat) (p1 : Int32) (p2 : Int32) (p3 : Int32) (p4 : Int32) (m : MM) (r : Int32) (m2 : MM) (h : f_X10_barsBoth th p1 p2 p3 p4 m = some (r, m2)) : Met l yX10_barsBoth (.code yX10_barsBoth cX10_barsBoth 6 (some .boolean) :: TB) rmX10_barsBoth (va_Pc [.ref th, .int p1, .int p2, .int p3, .int p4] (St E m)) (QR E (emI r) m2) 0 0 (AA E) :=
  met_of (em := emI) (plainFor_of_name rfl) (Nat.le_of_ble_eq_true rfl) (L0 := [(0, va_rf (some th)), (1, .int p1), (2, .int p2), (3, .int p3), (4, .int p4)]) rfl (fun Γ _ hrm C hr hn => s_X10_barsBoth_0 C hr hrm th p1 p2 p3 p4 m) h

theorem dX10_stands_0 : decode cX10_stands 0 = .ok (.aload_n 0, 1) := by decide +kernel
theorem dX10_stands_1 : decode cX10_stands 1 = .ok (.getfield 381, 3) := by decide +kernel
theorem dX10_stands_4 : decode cX10_stands 4 = .ok (.iload_n 1, 1) := by decide +kernel
theorem dX10_stands_5 : decode cX10_stands 5 = .ok (.ishr, 1) := by decide +kernel
theorem dX10_stands_6 : decode cX10_stands 6 = .ok (.iconst 1, 1) := by decide +kernel
theorem dX10_stands_7 : decode cX10_stands 7 = .ok (.iand, 1) := by decide +kernel
theorem dX10_stands_8 : decode cX10_stands 8 = .ok (.ifCond .eq 7, 3) := by decide +kernel
theorem dX10_stands_11 : decode cX10_stands 11 = .ok (.iconst 1, 1) := by decide +kernel
theorem dX10_stands_12 : decode cX10_stands 12 = .ok (.goto 4, 3) := by decide +kernel
theorem dX10_stands_15 : decode cX10_stands 15 = .ok (.iconst 0, 1) := by decide +kernel
theorem dX10_stands_16 : decode cX10_stands 16 = .ok (.ireturn, 1) := by decide +kernel
def rmX10_stands : Room := { frames := 0, cells := 0, slots := 0, locals := 0 }
set_option maxRecDepth 100000 in
def g_X10_stands_0 (th : Nat) (p1 : Int32) (m : MM) : Option (Int32 × MM) :=
  chk (m.K th = 11) (if (((m.I 1165 th 0) >>> (p1 &&& 31)) &&& 1) = 0 then (some (0, m)) else (some (1, m)))
set_option maxHeartbeats 4000000 in
set_option maxRecDepth 100000 in
theorem s_X10_stands_0 {Γ : GX} {E : EX} (C : Cx Γ E cX10_stands RX10 2) (hr : Γ.meth.sig.returnType = (some .boolean)) (hrm : Γ.rm = rmX10_stands) (th : Nat) (p1 : Int32) (m : MM) : Sm (QM Γ E emI 0 0) Γ E 2 0 0 0 [(0, va_rf (some th)), (1, .int p1)] [] m (g_X10_stands_0 th p1 m) := by
  unfold g_X10_stands_0
  refine z_aload_n C dX10_stands_0 rfl 0 rfl ?_
  refine z_chk (fun hk1 => ?_)
  refine z_getI C fl_RX10_381 rfl hk1 dX10_stands_1 ?_
  refine z_iload_n C dX10_stands_4 rfl 1 rfl ?_
  refine z_ishr C dX10_stands_5 ?_
  refine z_iconst (v := 1) C dX10_stands_6 (by decide) ?_
  refine z_iand C dX10_stands_7 ?_
  refine z_if_eq (tgt := 15) C dX10_stands_8 (by decide) (fun c1 => ?_) (fun c1 => ?_)
  · refine z_iconst (v := 0) C dX10_stands_15 (by decide) ?_
    exact z_zret C hr rfl dX10_stands_16
  · refine z_iconst (v := 1) C dX10_stands_11 (by decide) ?_
    refine z_goto (tgt := 16) C dX10_stands_12 (by decide) ?_
    exact z_zret C hr rfl dX10_stands_16
def f_X10_stands (th : Nat) (p1 : Int32) (m : MM) : Option (Int32 × MM) := g_X10_stands_0 th p1 m
theorem M_X10_stands (l : Launch) (E : EX) (th : Nat) (p1 : Int32) (m : MM) (r : Int32) (m2 : MM) (h : f_X10_stands th p1 m = some (r, m2)) : Met l yX10_stands (.code yX10_stands cX10_stands 2 (some .boolean) :: TB) rmX10_stands (va_Pc [.ref th, .int p1] (St E m)) (QR E (emI r) m2) 0 0 (AA E) :=
  met_of (em := emI) (plainFor_of_name rfl) (Nat.le_of_ble_eq_true rfl) (L0 := [(0, va_rf (some th)), (1, .int p1)]) rfl (fun Γ _ hrm C hr hn => s_X10_stands_0 C hr hrm th p1 m) h

theorem dX10_findBars_0 : decode cX10_findBars 0 = .ok (.aload_n 0, 1) := by decide +kernel
theorem dX10_findBars_1 : decode cX10_findBars 1 = .ok (.iconst 0, 1) := by decide +kernel
theorem dX10_findBars_2 : decode cX10_findBars 2 = .ok (.putfield 443, 3) := by decide +kernel
theorem dX10_findBars_5 : decode cX10_findBars 5 = .ok (.iconst 0, 1) := by decide +kernel
theorem dX10_findBars_6 : decode cX10_findBars 6 = .ok (.istore_n 2, 1) := by decide +kernel
theorem dX10_findBars_7 : decode cX10_findBars 7 = .ok (.iload_n 2, 1) := by decide +kernel
theorem dX10_findBars_8 : decode cX10_findBars 8 = .ok (.bipush 12, 2) := by decide +kernel
theorem dX10_findBars_10 : decode cX10_findBars 10 = .ok (.if_icmp .ge 112, 3) := by decide +kernel
theorem dX10_findBars_13 : decode cX10_findBars 13 = .ok (.iconst 0, 1) := by decide +kernel
theorem dX10_findBars_14 : decode cX10_findBars 14 = .ok (.istore_n 3, 1) := by decide +kernel
theorem dX10_findBars_15 : decode cX10_findBars 15 = .ok (.iload_n 3, 1) := by decide +kernel
theorem dX10_findBars_16 : decode cX10_findBars 16 = .ok (.bipush 12, 2) := by decide +kernel
theorem dX10_findBars_18 : decode cX10_findBars 18 = .ok (.if_icmp .ge 98, 3) := by decide +kernel
theorem dX10_findBars_21 : decode cX10_findBars 21 = .ok (.iconst 0, 1) := by decide +kernel
theorem dX10_findBars_22 : decode cX10_findBars 22 = .ok (.istore 4, 2) := by decide +kernel
theorem dX10_findBars_24 : decode cX10_findBars 24 = .ok (.iload 4, 2) := by decide +kernel
theorem dX10_findBars_26 : decode cX10_findBars 26 = .ok (.aload_n 0, 1) := by decide +kernel
theorem dX10_findBars_27 : decode cX10_findBars 27 = .ok (.getfield 95, 3) := by decide +kernel
theorem dX10_findBars_30 : decode cX10_findBars 30 = .ok (.iload_n 1, 1) := by decide +kernel
theorem dX10_findBars_31 : decode cX10_findBars 31 = .ok (.iaload, 1) := by decide +kernel
theorem dX10_findBars_32 : decode cX10_findBars 32 = .ok (.if_icmp .ge 78, 3) := by decide +kernel
theorem dX10_findBars_35 : decode cX10_findBars 35 = .ok (.aload_n 0, 1) := by decide +kernel
theorem dX10_findBars_36 : decode cX10_findBars 36 = .ok (.iload_n 2, 1) := by decide +kernel
theorem dX10_findBars_37 : decode cX10_findBars 37 = .ok (.invokevirtual 446, 3) := by decide +kernel
theorem dX10_findBars_40 : decode cX10_findBars 40 = .ok (.ifCond .eq 70, 3) := by decide +kernel
theorem dX10_findBars_43 : decode cX10_findBars 43 = .ok (.aload_n 0, 1) := by decide +kernel
theorem dX10_findBars_44 : decode cX10_findBars 44 = .ok (.iload_n 3, 1) := by decide +kernel
theorem dX10_findBars_45 : decode cX10_findBars 45 = .ok (.invokevirtual 446, 3) := by decide +kernel
theorem dX10_findBars_48 : decode cX10_findBars 48 = .ok (.ifCond .eq 62, 3) := by decide +kernel
theorem dX10_findBars_51 : decode cX10_findBars 51 = .ok (.aload_n 0, 1) := by decide +kernel
theorem dX10_findBars_52 : decode cX10_findBars 52 = .ok (.iload_n 1, 1) := by decide +kernel
theorem dX10_findBars_53 : decode cX10_findBars 53 = .ok (.iload 4, 2) := by decide +kernel
theorem dX10_findBars_55 : decode cX10_findBars 55 = .ok (.iload_n 2, 1) := by decide +kernel
theorem dX10_findBars_56 : decode cX10_findBars 56 = .ok (.iload_n 3, 1) := by decide +kernel
theorem dX10_findBars_57 : decode cX10_findBars 57 = .ok (.invokevirtual 439, 3) := by decide +kernel
theorem dX10_findBars_60 : decode cX10_findBars 60 = .ok (.ifCond .eq 44, 3) := by decide +kernel
theorem dX10_findBars_63 : decode cX10_findBars 63 = .ok (.aload_n 0, 1) := by decide +kernel
theorem dX10_findBars_64 : decode cX10_findBars 64 = .ok (.getfield 158, 3) := by decide +kernel
theorem dX10_findBars_67 : decode cX10_findBars 67 = .ok (.aload_n 0, 1) := by decide +kernel
theorem dX10_findBars_68 : decode cX10_findBars 68 = .ok (.getfield 443, 3) := by decide +kernel
theorem dX10_findBars_71 : decode cX10_findBars 71 = .ok (.iload_n 2, 1) := by decide +kernel
theorem dX10_findBars_72 : decode cX10_findBars 72 = .ok (.iastore, 1) := by decide +kernel
theorem dX10_findBars_73 : decode cX10_findBars 73 = .ok (.aload_n 0, 1) := by decide +kernel
theorem dX10_findBars_74 : decode cX10_findBars 74 = .ok (.getfield 161, 3) := by decide +kernel
theorem dX10_findBars_77 : decode cX10_findBars 77 = .ok (.aload_n 0, 1) := by decide +kernel
theorem dX10_findBars_78 : decode cX10_findBars 78 = .ok (.getfield 443, 3) := by decide +kernel
theorem dX10_findBars_81 : decode cX10_findBars 81 = .ok (.iload_n 3, 1) := by decide +kernel
theorem dX10_findBars_82 : decode cX10_findBars 82 = .ok (.iastore, 1) := by decide +kernel
theorem dX10_findBars_83 : decode cX10_findBars 83 = .ok (.aload_n 0, 1) := by decide +kernel
theorem dX10_findBars_84 : decode cX10_findBars 84 = .ok (.getfield 164, 3) := by decide +kernel
theorem dX10_findBars_87 : decode cX10_findBars 87 = .ok (.aload_n 0, 1) := by decide +kernel
theorem dX10_findBars_88 : decode cX10_findBars 88 = .ok (.getfield 443, 3) := by decide +kernel
theorem dX10_findBars_91 : decode cX10_findBars 91 = .ok (.iload 4, 2) := by decide +kernel
theorem dX10_findBars_93 : decode cX10_findBars 93 = .ok (.iastore, 1) := by decide +kernel
theorem dX10_findBars_94 : decode cX10_findBars 94 = .ok (.aload_n 0, 1) := by decide +kernel
theorem dX10_findBars_95 : decode cX10_findBars 95 = .ok (.dup, 1) := by decide +kernel
theorem dX10_findBars_96 : decode cX10_findBars 96 = .ok (.getfield 443, 3) := by decide +kernel
theorem dX10_findBars_99 : decode cX10_findBars 99 = .ok (.iconst 1, 1) := by decide +kernel
theorem dX10_findBars_100 : decode cX10_findBars 100 = .ok (.iadd, 1) := by decide +kernel
theorem dX10_findBars_101 : decode cX10_findBars 101 = .ok (.putfield 443, 3) := by decide +kernel
theorem dX10_findBars_104 : decode cX10_findBars 104 = .ok (.iinc 4 1, 3) := by decide +kernel
theorem dX10_findBars_107 : decode cX10_findBars 107 = .ok (.goto (-83), 3) := by decide +kernel
theorem dX10_findBars_110 : decode cX10_findBars 110 = .ok (.iinc 3 1, 3) := by decide +kernel
theorem dX10_findBars_113 : decode cX10_findBars 113 = .ok (.goto (-98), 3) := by decide +kernel
theorem dX10_findBars_116 : decode cX10_findBars 116 = .ok (.iinc 2 1, 3) := by decide +kernel
theorem dX10_findBars_119 : decode cX10_findBars 119 = .ok (.goto (-112), 3) := by decide +kernel
theorem dX10_findBars_122 : decode cX10_findBars 122 = .ok (.return_, 1) := by decide +kernel
def rmX10_findBars : Room := { frames := 5, cells := 0, slots := 0, locals := 133 }
set_option maxRecDepth 100000 in
def g_X10_findBars_104 (th : Nat) (p1 : Int32) (k24 : Int32 → Int32 → Int32 → MM → Option (Unit × MM)) (k110 : Int32 → Int32 → MM → Option (Unit × MM)) (x2 : Int32) (x3 : Int32) (x4 : Int32) (m : MM) : Option (Unit × MM) :=
  k24 x2 x3 (x4 + 1) m
set_option maxHeartbeats 4000000 in
set_option maxRecDepth 100000 in
theorem s_X10_findBars_104 {Γ : GX} {E : EX} (C : Cx Γ E cX10_findBars RX10 5) (hr : Γ.meth.sig.returnType = none) (hrm : Γ.rm = rmX10_findBars) (th : Nat) (p1 : Int32) (k24 : Int32 → Int32 → Int32 → MM → Option (Unit × MM)) (k110 : Int32 → Int32 → MM → Option (Unit × MM)) (h24 : ∀ (x2 : Int32) (x3 : Int32) (x4 : Int32) (m : MM), Sm (QM Γ E emV 0 0) Γ E 5 0 0 24 [(0, va_rf (some th)), (1, .int p1), (2, .int x2), (3, .int x3), (4, .int x4)] [] m (k24 x2 x3 x4 m)) (h110 : ∀ (x2 : Int32) (x3 : Int32) (m : MM), Sm (QM Γ E emV 0 0) Γ E 5 0 0 110 [(0, va_rf (some th)), (1, .int p1), (2, .int x2), (3, .int x3)] [] m (k110 x2 x3 m)) (x2 : Int32) (x3 : Int32) (x4 : Int32) (m : MM) : Sm (QM Γ E emV 0 0) Γ E 5 0 0 104 [(0, va_rf (some th)), (1, .int p1), (2, .int x2), (3, .int x3), (4, .int x4)] [] m (g_X10_findBars_104 th p1 k24 k110 x2 x3 x4 m) := by
  unfold g_X10_findBars_104
  refine z_iinc (v := 1) (L2 := [(4, .int (x4 + 1)), (0, va_rf (some th)), (1, .int p1), (2, .int x2), (3, .int x3)]) C dX10_findBars_104 4 rfl (by decide) (by decide) rfl ?_
  refine z_goto (tgt := 24) C dX10_findBars_107 (by decide) ?_
  exact z_sub [1, 2, 3, 4, 0] rfl (h24 x2 x3 (x4 + 1) m)
set_option maxRecDepth 100000 in
def g_X10_findBars_24 (th : Nat) (p1 : Int32) (k24 : Int32 → Int32 → Int32 → MM → Option (Unit × MM)) (k110 : Int32 → Int32 → MM → Option (Unit × MM)) (x2 : Int32) (x3 : Int32) (x4 : Int32) (m : MM) : Option (Unit × MM) :=
  chk (m.K th = 11) (ck m (m.R 1129 th 0) 22 (fun a1 => chk (inb p1 (m.N a1) = true) (if (m.I 22 a1 (Int32.toNatClampNeg p1)) ≤ x4 then (k110 x2 x3 m) else (cal (f_X10_stands th x2 m) (fun r1 m1 => if r1 = 0 then (k110 x2 x3 m1) else (chk (m1.K th = 11) (cal (f_X10_stands th x3 m1) (fun r2 m2 => if r2 = 0 then (k110 x2 x3 m2) else (chk (m2.K th = 11) (cal (f_X10_barsBy th p1 x4 x2 x3 m2) (fun r3 m3 => if r3 = 0 then (g_X10_findBars_104 th p1 k24 k110 x2 x3 x4 m3) else (chk (m3.K th = 11) (ck m3 (m3.R 1171 th 0) 22 (fun a2 => chk (inb (m3.I 1174 th 0) (m3.N a2) = true) (bnd (m3.sI 22 a2 (Int32.toNatClampNeg (m3.I 1174 th 0)) x2) (fun m4 => ck m4 (m4.R 1172 th 0) 22 (fun a3 => chk (inb (m4.I 1174 th 0) (m4.N a3) = true) (bnd (m4.sI 22 a3 (Int32.toNatClampNeg (m4.I 1174 th 0)) x3) (fun m5 => ck m5 (m5.R 1173 th 0) 22 (fun a4 => chk (inb (m5.I 1174 th 0) (m5.N a4) = true) (bnd (m5.sI 22 a4 (Int32.toNatClampNeg (m5.I 1174 th 0)) x4) (fun m6 => bnd (m6.sI 1174 th 0 ((m6.I 1174 th 0) + 1)) (fun m7 => g_X10_findBars_104 th p1 k24 k110 x2 x3 x4 m7)))))))))))))))))))))))
set_option maxHeartbeats 4000000 in
set_option maxRecDepth 100000 in
theorem s_X10_findBars_24 {Γ : GX} {E : EX} (C : Cx Γ E cX10_findBars RX10 5) (hr : Γ.meth.sig.returnType = none) (hrm : Γ.rm = rmX10_findBars) (th : Nat) (p1 : Int32) (k24 : Int32 → Int32 → Int32 → MM → Option (Unit × MM)) (k110 : Int32 → Int32 → MM → Option (Unit × MM)) (h24 : ∀ (x2 : Int32) (x3 : Int32) (x4 : Int32) (m : MM), Sm (QM Γ E emV 0 0) Γ E 5 0 0 24 [(0, va_rf (some th)), (1, .int p1), (2, .int x2), (3, .int x3), (4, .int x4)] [] m (k24 x2 x3 x4 m)) (h110 : ∀ (x2 : Int32) (x3 : Int32) (m : MM), Sm (QM Γ E emV 0 0) Γ E 5 0 0 110 [(0, va_rf (some th)), (1, .int p1), (2, .int x2), (3, .int x3)] [] m (k110 x2 x3 m)) (x2 : Int32) (x3 : Int32) (x4 : Int32) (m : MM) : Sm (QM Γ E emV 0 0) Γ E 5 0 0 24 [(0, va_rf (some th)), (1, .int p1), (2, .int x2), (3, .int x3), (4, .int x4)] [] m (g_X10_findBars_24 th p1 k24 k110 x2 x3 x4 m) := by
  unfold g_X10_findBars_24
  refine z_iload C dX10_findBars_24 4 rfl ?_
  refine z_aload_n C dX10_findBars_26 rfl 0 rfl ?_
  refine z_chk (fun hk1 => ?_)
  refine z_getR C fl_RX10_95 rfl hk1 dX10_findBars_27 ?_
  refine z_iload_n C dX10_findBars_30 rfl 1 rfl ?_
  refine z_ck (fun a1 hr1 hk2 => ?_)
  refine z_chk (fun hj1 => ?_)
  refine z_iald C hr1 hk2 hj1 dX10_findBars_31 ?_
  refine z_icmp_ge (tgt := 110) C dX10_findBars_32 (by decide) (fun c1 => ?_) (fun c1 => ?_)
  · exact z_sub [0, 1, 2, 3] rfl (h110 x2 x3 m)
  · refine z_aload_n C dX10_findBars_35 rfl 0 rfl ?_
    refine z_iload_n C dX10_findBars_36 rfl 2 rfl ?_
    refine z_cVI [.int x2] [] C mv_RX10_446 (fun r0 m0 h0 => M_X10_stands _ _ _ _ _ _ _ h0) rfl rfl ⟨by rw [hrm]; exact Nat.le_of_ble_eq_true rfl, by rw [hrm]; exact Nat.le_of_ble_eq_true rfl⟩ ⟨by rw [hrm]; exact Nat.le_of_ble_eq_true rfl, by rw [hrm]; exact Nat.le_of_ble_eq_true rfl⟩ rfl hk1 rfl rfl rfl (Nat.le_of_ble_eq_true rfl) dX10_findBars_37 (fun r1 m1 => ?_)
    refine z_if_eq (tgt := 110) C dX10_findBars_40 (by decide) (fun c2 => ?_) (fun c2 => ?_)
    · exact z_sub [0, 1, 2, 3] rfl (h110 x2 x3 m1)
    · refine z_aload_n C dX10_findBars_43 rfl 0 rfl ?_
      refine z_iload_n C dX10_findBars_44 rfl 3 rfl ?_
      refine z_chk (fun hk3 => ?_)
      refine z_cVI [.int x3] [] C mv_RX10_446 (fun r0 m0 h0 => M_X10_stands _ _ _ _ _ _ _ h0) rfl rfl ⟨by rw [hrm]; exact Nat.le_of_ble_eq_true rfl, by rw [hrm]; exact Nat.le_of_ble_eq_true rfl⟩ ⟨by rw [hrm]; exact Nat.le_of_ble_eq_true rfl, by rw [hrm]; exact Nat.le_of_ble_eq_true rfl⟩ rfl hk3 rfl rfl rfl (Nat.le_of_ble_eq_true rfl) dX10_findBars_45 (fun r2 m2 => ?_)
      refine z_if_eq (tgt := 110) C dX10_findBars_48 (by decide) (fun c3 => ?_) (fun c3 => ?_)
      · exact z_sub [0, 1, 2, 3] rfl (h110 x2 x3 m2)
      · refine z_aload_n C dX10_findBars_51 rfl 0 rfl ?_
        refine z_iload_n C dX10_findBars_52 rfl 1 rfl ?_
        refine z_iload C dX10_findBars_53 4 rfl ?_
        refine z_iload_n C dX10_findBars_55 rfl 2 rfl ?_
        refine z_iload_n C dX10_findBars_56 rfl 3 rfl ?_
        refine z_chk (fun hk4 => ?_)
        refine z_cVI [.int p1, .int x4, .int x2, .int x3] [] C mv_RX10_439 (fun r0 m0 h0 => M_X10_barsBy _ _ _ _ _ _ _ _ _ _ h0) rfl rfl ⟨by rw [hrm]; exact Nat.le_of_ble_eq_true rfl, by rw [hrm]; exact Nat.le_of_ble_eq_true rfl⟩ ⟨by rw [hrm]; exact Nat.le_of_ble_eq_true rfl, by rw [hrm]; exact Nat.le_of_ble_eq_true rfl⟩ rfl hk4 rfl rfl rfl (Nat.le_of_ble_eq_true rfl) dX10_findBars_57 (fun r3 m3 => ?_)
        refine z_if_eq (tgt := 104) C dX10_findBars_60 (by decide) (fun c4 => ?_) (fun c4 => ?_)
        · exact z_sub [0, 1, 2, 3, 4] rfl (s_X10_findBars_104 C hr hrm th p1 k24 k110 h24 h110 x2 x3 x4 m3)
        · refine z_aload_n C dX10_findBars_63 rfl 0 rfl ?_
          refine z_chk (fun hk5 => ?_)
          refine z_getR C fl_RX10_158 rfl hk5 dX10_findBars_64 ?_
          refine z_aload_n C dX10_findBars_67 rfl 0 rfl ?_
          refine z_getI C fl_RX10_443 rfl hk5 dX10_findBars_68 ?_
          refine z_iload_n C dX10_findBars_71 rfl 2 rfl ?_
          refine z_ck (fun a2 hr2 hk6 => ?_)
          refine z_chk (fun hj2 => ?_)
          refine z_iast C hr2 hk6 hj2 dX10_findBars_72 (fun m4 eK1 eN1 => ?_)
          refine z_aload_n C dX10_findBars_73 rfl 0 rfl ?_
          refine z_getR C fl_RX10_161 rfl (kfw eK1 hk5) dX10_findBars_74 ?_
          refine z_aload_n C dX10_findBars_77 rfl 0 rfl ?_
          refine z_getI C fl_RX10_443 rfl (kfw eK1 hk5) dX10_findBars_78 ?_
          refine z_iload_n C dX10_findBars_81 rfl 3 rfl ?_
          refine z_ck (fun a3 hr3 hk7 => ?_)
          refine z_chk (fun hj3 => ?_)
          refine z_iast C hr3 hk7 hj3 dX10_findBars_82 (fun m5 eK2 eN2 => ?_)
          refine z_aload_n C dX10_findBars_83 rfl 0 rfl ?_
          refine z_getR C fl_RX10_164 rfl (kfw eK2 (kfw eK1 hk5)) dX10_findBars_84 ?_
          refine z_aload_n C dX10_findBars_87 rfl 0 rfl ?_
          refine z_getI C fl_RX10_443 rfl (kfw eK2 (kfw eK1 hk5)) dX10_findBars_88 ?_
          refine z_iload C dX10_findBars_91 4 rfl ?_
          refine z_ck (fun a4 hr4 hk8 => ?_)
          refine z_chk (fun hj4 => ?_)
          refine z_iast C hr4 hk8 hj4 dX10_findBars_93 (fun m6 eK3 eN3 => ?_)
          refine z_aload_n C dX10_findBars_94 rfl 0 rfl ?_
          refine z_dup C rfl dX10_findBars_95 ?_
          refine z_getI C fl_RX10_443 rfl (kfw eK3 (kfw eK2 (kfw eK1 hk5))) dX10_findBars_96 ?_
          refine z_iconst (v := 1) C dX10_findBars_99 (by decide) ?_
          refine z_iadd C dX10_findBars_100 ?_
          refine z_putI C fl_RX10_443 (fun h => by cases h) rfl (kfw eK3 (kfw eK2 (kfw eK1 hk5))) rfl rfl dX10_findBars_101 (fun m7 eK4 eN4 => ?_)
          exact z_sub [0, 1, 2, 3, 4] rfl (s_X10_findBars_104 C hr hrm th p1 k24 k110 h24 h110 x2 x3 x4 m7)
def l_X10_findBars_24 (th : Nat) (p1 : Int32) (k110 : Int32 → Int32 → MM → Option (Unit × MM)) : Nat → Int32 → Int32 → Int32 → MM → Option (Unit × MM) := lp (fun _ _ _ _ => none) (fun k24 => g_X10_findBars_24 th p1 k24 k110)
theorem t_X10_findBars_24 {Γ : GX} {E : EX} (C : Cx Γ E cX10_findBars RX10 5) (hr : Γ.meth.sig.returnType = none) (hrm : Γ.rm = rmX10_findBars) (th : Nat) (p1 : Int32) (k110 : Int32 → Int32 → MM → Option (Unit × MM)) (h110 : ∀ (x2 : Int32) (x3 : Int32) (m : MM), Sm (QM Γ E emV 0 0) Γ E 5 0 0 110 [(0, va_rf (some th)), (1, .int p1), (2, .int x2), (3, .int x3)] [] m (k110 x2 x3 m)) : ∀ (n : Nat) (x2 : Int32) (x3 : Int32) (x4 : Int32) (m : MM), Sm (QM Γ E emV 0 0) Γ E 5 0 0 24 [(0, va_rf (some th)), (1, .int p1), (2, .int x2), (3, .int x3), (4, .int x4)] [] m (l_X10_findBars_24 th p1 k110 n x2 x3 x4 m) := by
  intro n
  induction n with
  | zero => intros; exact z_none
  | succ n ih => intro x2 x3 x4 m; exact s_X10_findBars_24 C hr hrm th p1 (l_X10_findBars_24 th p1 k110 n) k110 ih h110 x2 x3 x4 m
set_option maxRecDepth 100000 in
def g_X10_findBars_110 (th : Nat) (p1 : Int32) (k15 : Int32 → Int32 → MM → Option (Unit × MM)) (k116 : Int32 → MM → Option (Unit × MM)) (x2 : Int32) (x3 : Int32) (m : MM) : Option (Unit × MM) :=
  k15 x2 (x3 + 1) m
set_option maxHeartbeats 4000000 in
set_option maxRecDepth 100000 in
theorem s_X10_findBars_110 {Γ : GX} {E : EX} (C : Cx Γ E cX10_findBars RX10 5) (hr : Γ.meth.sig.returnType = none) (hrm : Γ.rm = rmX10_findBars) (th : Nat) (p1 : Int32) (k15 : Int32 → Int32 → MM → Option (Unit × MM)) (k116 : Int32 → MM → Option (Unit × MM)) (h15 : ∀ (x2 : Int32) (x3 : Int32) (m : MM), Sm (QM Γ E emV 0 0) Γ E 5 0 0 15 [(0, va_rf (some th)), (1, .int p1), (2, .int x2), (3, .int x3)] [] m (k15 x2 x3 m)) (h116 : ∀ (x2 : Int32) (m : MM), Sm (QM Γ E emV 0 0) Γ E 5 0 0 116 [(0, va_rf (some th)), (1, .int p1), (2, .int x2)] [] m (k116 x2 m)) (x2 : Int32) (x3 : Int32) (m : MM) : Sm (QM Γ E emV 0 0) Γ E 5 0 0 110 [(0, va_rf (some th)), (1, .int p1), (2, .int x2), (3, .int x3)] [] m (g_X10_findBars_110 th p1 k15 k116 x2 x3 m) := by
  unfold g_X10_findBars_110
  refine z_iinc (v := 1) (L2 := [(3, .int (x3 + 1)), (0, va_rf (some th)), (1, .int p1), (2, .int x2)]) C dX10_findBars_110 3 rfl (by decide) (by decide) rfl ?_
  refine z_goto (tgt := 15) C dX10_findBars_113 (by decide) ?_
  exact z_sub [1, 2, 3, 0] rfl (h15 x2 (x3 + 1) m)
set_option maxRecDepth 100000 in
def g_X10_findBars_15 (th : Nat) (p1 : Int32) (k15 : Int32 → Int32 → MM → Option (Unit × MM)) (k116 : Int32 → MM → Option (Unit × MM)) (x2 : Int32) (x3 : Int32) (m : MM) : Option (Unit × MM) :=
  if 12 ≤ x3 then (k116 x2 m) else (l_X10_findBars_24 th p1 (g_X10_findBars_110 th p1 k15 k116) FU x2 x3 0 m)
set_option maxHeartbeats 4000000 in
set_option maxRecDepth 100000 in
theorem s_X10_findBars_15 {Γ : GX} {E : EX} (C : Cx Γ E cX10_findBars RX10 5) (hr : Γ.meth.sig.returnType = none) (hrm : Γ.rm = rmX10_findBars) (th : Nat) (p1 : Int32) (k15 : Int32 → Int32 → MM → Option (Unit × MM)) (k116 : Int32 → MM → Option (Unit × MM)) (h15 : ∀ (x2 : Int32) (x3 : Int32) (m : MM), Sm (QM Γ E emV 0 0) Γ E 5 0 0 15 [(0, va_rf (some th)), (1, .int p1), (2, .int x2), (3, .int x3)] [] m (k15 x2 x3 m)) (h116 : ∀ (x2 : Int32) (m : MM), Sm (QM Γ E emV 0 0) Γ E 5 0 0 116 [(0, va_rf (some th)), (1, .int p1), (2, .int x2)] [] m (k116 x2 m)) (x2 : Int32) (x3 : Int32) (m : MM) : Sm (QM Γ E emV 0 0) Γ E 5 0 0 15 [(0, va_rf (some th)), (1, .int p1), (2, .int x2), (3, .int x3)] [] m (g_X10_findBars_15 th p1 k15 k116 x2 x3 m) := by
  unfold g_X10_findBars_15
  refine z_iload_n C dX10_findBars_15 rfl 3 rfl ?_
  refine z_bipush (v := 12) C dX10_findBars_16 (by decide) ?_
  refine z_icmp_ge (tgt := 116) C dX10_findBars_18 (by decide) (fun c5 => ?_) (fun c5 => ?_)
  · exact z_sub [0, 1, 2] rfl (h116 x2 m)
  · refine z_iconst (v := 0) C dX10_findBars_21 (by decide) ?_
    refine z_istore (i := 4) (L2 := [(4, .int 0), (0, va_rf (some th)), (1, .int p1), (2, .int x2), (3, .int x3)]) C dX10_findBars_22 (by decide) rfl ?_
    exact z_sub [1, 2, 3, 4, 0] rfl (t_X10_findBars_24 C hr hrm th p1 (g_X10_findBars_110 th p1 k15 k116) (s_X10_findBars_110 C hr hrm th p1 k15 k116 h15 h116) FU x2 x3 0 m)
def l_X10_findBars_15 (th : Nat) (p1 : Int32) (k116 : Int32 → MM → Option (Unit × MM)) : Nat → Int32 → Int32 → MM → Option (Unit × MM) := lp (fun _ _ _ => none) (fun k15 => g_X10_findBars_15 th p1 k15 k116)
theorem t_X10_findBars_15 {Γ : GX} {E : EX} (C : Cx Γ E cX10_findBars RX10 5) (hr : Γ.meth.sig.returnType = none) (hrm : Γ.rm = rmX10_findBars) (th : Nat) (p1 : Int32) (k116 : Int32 → MM → Option (Unit × MM)) (h116 : ∀ (x2 : Int32) (m : MM), Sm (QM Γ E emV 0 0) Γ E 5 0 0 116 [(0, va_rf (some th)), (1, .int p1), (2, .int x2)] [] m (k116 x2 m)) : ∀ (n : Nat) (x2 : Int32) (x3 : Int32) (m : MM), Sm (QM Γ E emV 0 0) Γ E 5 0 0 15 [(0, va_rf (some th)), (1, .int p1), (2, .int x2), (3, .int x3)] [] m (l_X10_findBars_15 th p1 k116 n x2 x3 m) := by
  intro n
  induction n with
  | zero => intros; exact z_none
  | succ n ih => intro x2 x3 m; exact s_X10_findBars_15 C hr hrm th p1 (l_X10_findBars_15 th p1 k116 n) k116 ih h116 x2 x3 m
set_option maxRecDepth 100000 in
def g_X10_findBars_116 (th : Nat) (p1 : Int32) (k7 : Int32 → MM → Option (Unit × MM)) (x2 : Int32) (m : MM) : Option (Unit × MM) :=
  k7 (x2 + 1) m
set_option maxHeartbeats 4000000 in
set_option maxRecDepth 100000 in
theorem s_X10_findBars_116 {Γ : GX} {E : EX} (C : Cx Γ E cX10_findBars RX10 5) (hr : Γ.meth.sig.returnType = none) (hrm : Γ.rm = rmX10_findBars) (th : Nat) (p1 : Int32) (k7 : Int32 → MM → Option (Unit × MM)) (h7 : ∀ (x2 : Int32) (m : MM), Sm (QM Γ E emV 0 0) Γ E 5 0 0 7 [(0, va_rf (some th)), (1, .int p1), (2, .int x2)] [] m (k7 x2 m)) (x2 : Int32) (m : MM) : Sm (QM Γ E emV 0 0) Γ E 5 0 0 116 [(0, va_rf (some th)), (1, .int p1), (2, .int x2)] [] m (g_X10_findBars_116 th p1 k7 x2 m) := by
  unfold g_X10_findBars_116
  refine z_iinc (v := 1) (L2 := [(2, .int (x2 + 1)), (0, va_rf (some th)), (1, .int p1)]) C dX10_findBars_116 2 rfl (by decide) (by decide) rfl ?_
  refine z_goto (tgt := 7) C dX10_findBars_119 (by decide) ?_
  exact z_sub [1, 2, 0] rfl (h7 (x2 + 1) m)
set_option maxRecDepth 100000 in
def g_X10_findBars_7 (th : Nat) (p1 : Int32) (k7 : Int32 → MM → Option (Unit × MM)) (x2 : Int32) (m : MM) : Option (Unit × MM) :=
  if 12 ≤ x2 then (some ((), m)) else (l_X10_findBars_15 th p1 (g_X10_findBars_116 th p1 k7) FU x2 0 m)
set_option maxHeartbeats 4000000 in
set_option maxRecDepth 100000 in
theorem s_X10_findBars_7 {Γ : GX} {E : EX} (C : Cx Γ E cX10_findBars RX10 5) (hr : Γ.meth.sig.returnType = none) (hrm : Γ.rm = rmX10_findBars) (th : Nat) (p1 : Int32) (k7 : Int32 → MM → Option (Unit × MM)) (h7 : ∀ (x2 : Int32) (m : MM), Sm (QM Γ E emV 0 0) Γ E 5 0 0 7 [(0, va_rf (some th)), (1, .int p1), (2, .int x2)] [] m (k7 x2 m)) (x2 : Int32) (m : MM) : Sm (QM Γ E emV 0 0) Γ E 5 0 0 7 [(0, va_rf (some th)), (1, .int p1), (2, .int x2)] [] m (g_X10_findBars_7 th p1 k7 x2 m) := by
  unfold g_X10_findBars_7
  refine z_iload_n C dX10_findBars_7 rfl 2 rfl ?_
  refine z_bipush (v := 12) C dX10_findBars_8 (by decide) ?_
  refine z_icmp_ge (tgt := 122) C dX10_findBars_10 (by decide) (fun c6 => ?_) (fun c6 => ?_)
  · exact z_vret C hr dX10_findBars_122
  · refine z_iconst (v := 0) C dX10_findBars_13 (by decide) ?_
    refine z_istore_n (i := 3) (L2 := [(3, .int 0), (0, va_rf (some th)), (1, .int p1), (2, .int x2)]) C dX10_findBars_14 rfl (by decide) rfl ?_
    exact z_sub [1, 2, 3, 0] rfl (t_X10_findBars_15 C hr hrm th p1 (g_X10_findBars_116 th p1 k7) (s_X10_findBars_116 C hr hrm th p1 k7 h7) FU x2 0 m)
def l_X10_findBars_7 (th : Nat) (p1 : Int32) : Nat → Int32 → MM → Option (Unit × MM) := lp (fun _ _ => none) (fun k7 => g_X10_findBars_7 th p1 k7)
theorem t_X10_findBars_7 {Γ : GX} {E : EX} (C : Cx Γ E cX10_findBars RX10 5) (hr : Γ.meth.sig.returnType = none) (hrm : Γ.rm = rmX10_findBars) (th : Nat) (p1 : Int32) : ∀ (n : Nat) (x2 : Int32) (m : MM), Sm (QM Γ E emV 0 0) Γ E 5 0 0 7 [(0, va_rf (some th)), (1, .int p1), (2, .int x2)] [] m (l_X10_findBars_7 th p1 n x2 m) := by
  intro n
  induction n with
  | zero => intros; exact z_none
  | succ n ih => intro x2 m; exact s_X10_findBars_7 C hr hrm th p1 (l_X10_findBars_7 th p1 n) ih x2 m
set_option maxRecDepth 100000 in
def g_X10_findBars_0 (th : Nat) (p1 : Int32) (m : MM) : Option (Unit × MM) :=
  chk (m.K th = 11) (bnd (m.sI 1174 th 0 0) (fun m8 => l_X10_findBars_7 th p1 FU 0 m8))
set_option maxHeartbeats 4000000 in
set_option maxRecDepth 100000 in
theorem s_X10_findBars_0 {Γ : GX} {E : EX} (C : Cx Γ E cX10_findBars RX10 5) (hr : Γ.meth.sig.returnType = none) (hrm : Γ.rm = rmX10_findBars) (th : Nat) (p1 : Int32) (m : MM) : Sm (QM Γ E emV 0 0) Γ E 5 0 0 0 [(0, va_rf (some th)), (1, .int p1)] [] m (g_X10_findBars_0 th p1 m) := by
  unfold g_X10_findBars_0
  refine z_aload_n C dX10_findBars_0 rfl 0 rfl ?_
  refine z_iconst (v := 0) C dX10_findBars_1 (by decide) ?_
  refine z_chk (fun hk9 => ?_)
  refine z_putI C fl_RX10_443 (fun h => by cases h) rfl hk9 rfl rfl dX10_findBars_2 (fun m8 eK5 eN5 => ?_)
  refine z_iconst (v := 0) C dX10_findBars_5 (by decide) ?_
  refine z_istore_n (i := 2) (L2 := [(2, .int 0), (0, va_rf (some th)), (1, .int p1)]) C dX10_findBars_6 rfl (by decide) rfl ?_
  exact z_sub [1, 2, 0] rfl (t_X10_findBars_7 C hr hrm th p1 FU 0 m8)
def f_X10_findBars (th : Nat) (p1 : Int32) (m : MM) : Option (Unit × MM) := g_X10_findBars_0 th p1 m
theorem M_X10_findBars (l : Launch) (E : EX) (th : Nat) (p1 : Int32) (m : MM) (r : Unit) (m2 : MM) (h : f_X10_findBars th p1 m = some (r, m2)) : Met l yX10_findBars (.code yX10_findBars cX10_findBars 5 none :: TB) rmX10_findBars (va_Pc [.ref th, .int p1] (St E m)) (QR E (emV r) m2) 0 0 (AA E) :=
  met_of (em := emV) (plainFor_of_name rfl) (Nat.le_of_ble_eq_true rfl) (L0 := [(0, va_rf (some th)), (1, .int p1)]) rfl (fun Γ _ hrm C hr hn => s_X10_findBars_0 C hr hrm th p1 m) h

theorem dX10_bringBars_0 : decode cX10_bringBars 0 = .ok (.aload_n 0, 1) := by decide +kernel
theorem dX10_bringBars_1 : decode cX10_bringBars 1 = .ok (.iload_n 1, 1) := by decide +kernel
theorem dX10_bringBars_2 : decode cX10_bringBars 2 = .ok (.invokevirtual 192, 3) := by decide +kernel
theorem dX10_bringBars_5 : decode cX10_bringBars 5 = .ok (.ifCond .eq 18, 3) := by decide +kernel
theorem dX10_bringBars_8 : decode cX10_bringBars 8 = .ok (.aload_n 0, 1) := by decide +kernel
theorem dX10_bringBars_9 : decode cX10_bringBars 9 = .ok (.iload_n 2, 1) := by decide +kernel
theorem dX10_bringBars_10 : decode cX10_bringBars 10 = .ok (.invokevirtual 360, 3) := by decide +kernel
theorem dX10_bringBars_13 : decode cX10_bringBars 13 = .ok (.ifCond .eq 10, 3) := by decide +kernel
theorem dX10_bringBars_16 : decode cX10_bringBars 16 = .ok (.iload_n 3, 1) := by decide +kernel
theorem dX10_bringBars_17 : decode cX10_bringBars 17 = .ok (.invokestatic 372, 3) := by decide +kernel
theorem dX10_bringBars_20 : decode cX10_bringBars 20 = .ok (.ifCond .ne 5, 3) := by decide +kernel
theorem dX10_bringBars_23 : decode cX10_bringBars 23 = .ok (.iconst 0, 1) := by decide +kernel
theorem dX10_bringBars_24 : decode cX10_bringBars 24 = .ok (.ireturn, 1) := by decide +kernel
theorem dX10_bringBars_25 : decode cX10_bringBars 25 = .ok (.aload_n 0, 1) := by decide +kernel
theorem dX10_bringBars_26 : decode cX10_bringBars 26 = .ok (.iload_n 1, 1) := by decide +kernel
theorem dX10_bringBars_27 : decode cX10_bringBars 27 = .ok (.iload_n 3, 1) := by decide +kernel
theorem dX10_bringBars_28 : decode cX10_bringBars 28 = .ok (.invokevirtual 393, 3) := by decide +kernel
theorem dX10_bringBars_31 : decode cX10_bringBars 31 = .ok (.aload_n 0, 1) := by decide +kernel
theorem dX10_bringBars_32 : decode cX10_bringBars 32 = .ok (.iload_n 2, 1) := by decide +kernel
theorem dX10_bringBars_33 : decode cX10_bringBars 33 = .ok (.invokevirtual 449, 3) := by decide +kernel
theorem dX10_bringBars_36 : decode cX10_bringBars 36 = .ok (.iconst 1, 1) := by decide +kernel
theorem dX10_bringBars_37 : decode cX10_bringBars 37 = .ok (.ireturn, 1) := by decide +kernel
def rmX10_bringBars : Room := { frames := 6, cells := 0, slots := 0, locals := 157 }
set_option maxRecDepth 100000 in
def g_X10_bringBars_0 (th : Nat) (p1 : Int32) (p2 : Int32) (p3 : Int32) (m : MM) : Option (Int32 × MM) :=
  chk (m.K th = 11) (cal (f_X10_isTown th p1 m) (fun r1 m1 => if r1 = 0 then (some (0, m1)) else (chk (m1.K th = 11) (cal (f_X10_isLaw th p2 m1) (fun r2 m2 => if r2 = 0 then (some (0, m2)) else (cal (f_X10_isDay p3 m2) (fun r3 m3 => if r3 = 0 then (some (0, m3)) else (chk (m3.K th = 11) (cal (f_X10_bring th p1 p3 m3) (fun r4 m4 => chk (m4.K th = 11) (cal (f_X10_findBars th p2 m4) (fun r5 m5 => some (1, m5)))))))))))))
set_option maxHeartbeats 4000000 in
set_option maxRecDepth 100000 in
theorem s_X10_bringBars_0 {Γ : GX} {E : EX} (C : Cx Γ E cX10_bringBars RX10 4) (hr : Γ.meth.sig.returnType = (some .boolean)) (hrm : Γ.rm = rmX10_bringBars) (th : Nat) (p1 : Int32) (p2 : Int32) (p3 : Int32) (m : MM) : Sm (QM Γ E emI 0 0) Γ E 4 0 0 0 [(0, va_rf (some th)), (1, .int p1), (2, .int p2), (3, .int p3)] [] m (g_X10_bringBars_0 th p1 p2 p3 m) := by
  unfold g_X10_bringBars_0
  refine z_aload_n C dX10_bringBars_0 rfl 0 rfl ?_
  refine z_iload_n C dX10_bringBars_1 rfl 1 rfl ?_
  refine z_chk (fun hk1 => ?_)
  refine z_cVI [.int p1] [] C mv_RX10_192 (fun r0 m0 h0 => M_X10_isTown _ _ _ _ _ _ _ h0) rfl rfl ⟨by rw [hrm]; exact Nat.le_of_ble_eq_true rfl, by rw [hrm]; exact Nat.le_of_ble_eq_true rfl⟩ ⟨by rw [hrm]; exact Nat.le_of_ble_eq_true rfl, by rw [hrm]; exact Nat.le_of_ble_eq_true rfl⟩ rfl hk1 rfl rfl rfl (Nat.le_of_ble_eq_true rfl) dX10_bringBars_2 (fun r1 m1 => ?_)
  refine z_if_eq (tgt := 23) C dX10_bringBars_5 (by decide) (fun c1 => ?_) (fun c1 => ?_)
  · refine z_iconst (v := 0) C dX10_bringBars_23 (by decide) ?_
    exact z_zret C hr rfl dX10_bringBars_24
  · refine z_aload_n C dX10_bringBars_8 rfl 0 rfl ?_
    refine z_iload_n C dX10_bringBars_9 rfl 2 rfl ?_
    refine z_chk (fun hk2 => ?_)
    refine z_cVI [.int p2] [] C mv_RX10_360 (fun r0 m0 h0 => M_X10_isLaw _ _ _ _ _ _ _ h0) rfl rfl ⟨by rw [hrm]; exact Nat.le_of_ble_eq_true rfl, by rw [hrm]; exact Nat.le_of_ble_eq_true rfl⟩ ⟨by rw [hrm]; exact Nat.le_of_ble_eq_true rfl, by rw [hrm]; exact Nat.le_of_ble_eq_true rfl⟩ rfl hk2 rfl rfl rfl (Nat.le_of_ble_eq_true rfl) dX10_bringBars_10 (fun r2 m2 => ?_)
    refine z_if_eq (tgt := 23) C dX10_bringBars_13 (by decide) (fun c2 => ?_) (fun c2 => ?_)
    · refine z_iconst (v := 0) C dX10_bringBars_23 (by decide) ?_
      exact z_zret C hr rfl dX10_bringBars_24
    · refine z_iload_n C dX10_bringBars_16 rfl 3 rfl ?_
      refine z_cSI [.int p3] [] C mv_RX10_372 (fun r0 m0 h0 => M_X10_isDay _ _ _ _ _ _ h0) rfl rfl ⟨by rw [hrm]; exact Nat.le_of_ble_eq_true rfl, by rw [hrm]; exact Nat.le_of_ble_eq_true rfl⟩ ⟨by rw [hrm]; exact Nat.le_of_ble_eq_true rfl, by rw [hrm]; exact Nat.le_of_ble_eq_true rfl⟩ rfl rfl (Nat.le_of_ble_eq_true rfl) dX10_bringBars_17 (fun r3 m3 => ?_)
      refine z_if_ne (tgt := 25) C dX10_bringBars_20 (by decide) (fun c3 => ?_) (fun c3 => ?_)
      · refine z_aload_n C dX10_bringBars_25 rfl 0 rfl ?_
        refine z_iload_n C dX10_bringBars_26 rfl 1 rfl ?_
        refine z_iload_n C dX10_bringBars_27 rfl 3 rfl ?_
        refine z_chk (fun hk3 => ?_)
        refine z_cVV [.int p1, .int p3] [] C mv_RX10_393 (fun r0 m0 h0 => M_X10_bring _ _ _ _ _ _ _ _ h0) rfl rfl ⟨by rw [hrm]; exact Nat.le_of_ble_eq_true rfl, by rw [hrm]; exact Nat.le_of_ble_eq_true rfl⟩ ⟨by rw [hrm]; exact Nat.le_of_ble_eq_true rfl, by rw [hrm]; exact Nat.le_of_ble_eq_true rfl⟩ rfl hk3 rfl rfl rfl (Nat.le_of_ble_eq_true rfl) dX10_bringBars_28 (fun r4 m4 => ?_)
        refine z_aload_n C dX10_bringBars_31 rfl 0 rfl ?_
        refine z_iload_n C dX10_bringBars_32 rfl 2 rfl ?_
        refine z_chk (fun hk4 => ?_)
        refine z_cVV [.int p2] [] C mv_RX10_449 (fun r0 m0 h0 => M_X10_findBars _ _ _ _ _ _ _ h0) rfl rfl ⟨by rw [hrm]; exact Nat.le_of_ble_eq_true rfl, by rw [hrm]; exact Nat.le_of_ble_eq_true rfl⟩ ⟨by rw [hrm]; exact Nat.le_of_ble_eq_true rfl, by rw [hrm]; exact Nat.le_of_ble_eq_true rfl⟩ rfl hk4 rfl rfl rfl (Nat.le_of_ble_eq_true rfl) dX10_bringBars_33 (fun r5 m5 => ?_)
        refine z_iconst (v := 1) C dX10_bringBars_36 (by decide) ?_
        exact z_zret C hr rfl dX10_bringBars_37
      · refine z_iconst (v := 0) C dX10_bringBars_23 (by decide) ?_
        exact z_zret C hr rfl dX10_bringBars_24
def f_X10_bringBars (th : Nat) (p1 : Int32) (p2 : Int32) (p3 : Int32) (m : MM) : Option (Int32 × MM) := g_X10_bringBars_0 th p1 p2 p3 m
theorem M_X10_bringBars (l : Launch) (E : EX) (th : Nat) (p1 : Int32) (p2 : Int32) (p3 : Int32) (m : MM) (r : Int32) (m2 : MM) (h : f_X10_bringBars th p1 p2 p3 m = some (r, m2)) : Met l yX10_bringBars (.code yX10_bringBars cX10_bringBars 4 (some .boolean) :: TB) rmX10_bringBars (va_Pc [.ref th, .int p1, .int p2, .int p3] (St E m)) (QR E (emI r) m2) 0 0 (AA E) :=
  met_of (em := emI) (plainFor_of_name rfl) (Nat.le_of_ble_eq_true rfl) (L0 := [(0, va_rf (some th)), (1, .int p1), (2, .int p2), (3, .int p3)]) rfl (fun Γ _ hrm C hr hn => s_X10_bringBars_0 C hr hrm th p1 p2 p3 m) h

theorem dX10_bars_0 : decode cX10_bars 0 = .ok (.aload_n 0, 1) := by decide +kernel
theorem dX10_bars_1 : decode cX10_bars 1 = .ok (.iconst 0, 1) := by decide +kernel
theorem dX10_bars_2 : decode cX10_bars 2 = .ok (.putfield 180, 3) := by decide +kernel
theorem dX10_bars_5 : decode cX10_bars 5 = .ok (.aload_n 0, 1) := by decide +kernel
theorem dX10_bars_6 : decode cX10_bars 6 = .ok (.iload_n 1, 1) := by decide +kernel
theorem dX10_bars_7 : decode cX10_bars 7 = .ok (.iload_n 2, 1) := by decide +kernel
theorem dX10_bars_8 : decode cX10_bars 8 = .ok (.iload_n 3, 1) := by decide +kernel
theorem dX10_bars_9 : decode cX10_bars 9 = .ok (.invokevirtual 452, 3) := by decide +kernel
theorem dX10_bars_12 : decode cX10_bars 12 = .ok (.ifCond .eq 10, 3) := by decide +kernel
theorem dX10_bars_15 : decode cX10_bars 15 = .ok (.aload_n 0, 1) := by decide +kernel
theorem dX10_bars_16 : decode cX10_bars 16 = .ok (.getfield 443, 3) := by decide +kernel
theorem dX10_bars_19 : decode cX10_bars 19 = .ok (.goto 4, 3) := by decide +kernel
theorem dX10_bars_22 : decode cX10_bars 22 = .ok (.iconst (-1), 1) := by decide +kernel
theorem dX10_bars_23 : decode cX10_bars 23 = .ok (.ireturn, 1) := by decide +kernel
def rmX10_bars : Room := { frames := 7, cells := 0, slots := 0, locals := 180 }
set_option maxRecDepth 100000 in
def g_X10_bars_0 (th : Nat) (p1 : Int32) (p2 : Int32) (p3 : Int32) (m : MM) : Option (Int32 × MM) :=
  chk (m.K th = 11) (bnd (m.sI 1100 th 0 0) (fun m1 => cal (f_X10_bringBars th p1 p2 p3 m1) (fun r1 m2 => if r1 = 0 then (some ((-1), m2)) else (chk (m2.K th = 11) (some (m2.I 1174 th 0, m2))))))
set_option maxHeartbeats 4000000 in
set_option maxRecDepth 100000 in
theorem s_X10_bars_0 {Γ : GX} {E : EX} (C : Cx Γ E cX10_bars RX10 4) (hr : Γ.meth.sig.returnType = (some .int)) (hrm : Γ.rm = rmX10_bars) (th : Nat) (p1 : Int32) (p2 : Int32) (p3 : Int32) (m : MM) : Sm (QM Γ E emI 0 0) Γ E 4 0 0 0 [(0, va_rf (some th)), (1, .int p1), (2, .int p2), (3, .int p3)] [] m (g_X10_bars_0 th p1 p2 p3 m) := by
  unfold g_X10_bars_0
  refine z_aload_n C dX10_bars_0 rfl 0 rfl ?_
  refine z_iconst (v := 0) C dX10_bars_1 (by decide) ?_
  refine z_chk (fun hk1 => ?_)
  refine z_putI C fl_RX10_180 (fun h => by cases h) rfl hk1 rfl rfl dX10_bars_2 (fun m1 eK1 eN1 => ?_)
  refine z_aload_n C dX10_bars_5 rfl 0 rfl ?_
  refine z_iload_n C dX10_bars_6 rfl 1 rfl ?_
  refine z_iload_n C dX10_bars_7 rfl 2 rfl ?_
  refine z_iload_n C dX10_bars_8 rfl 3 rfl ?_
  refine z_cVI [.int p1, .int p2, .int p3] [] C mv_RX10_452 (fun r0 m0 h0 => M_X10_bringBars _ _ _ _ _ _ _ _ _ h0) rfl rfl ⟨by rw [hrm]; exact Nat.le_of_ble_eq_true rfl, by rw [hrm]; exact Nat.le_of_ble_eq_true rfl⟩ ⟨by rw [hrm]; exact Nat.le_of_ble_eq_true rfl, by rw [hrm]; exact Nat.le_of_ble_eq_true rfl⟩ rfl (kfw eK1 hk1) rfl rfl rfl (Nat.le_of_ble_eq_true rfl) dX10_bars_9 (fun r1 m2 => ?_)
  refine z_if_eq (tgt := 22) C dX10_bars_12 (by decide) (fun c1 => ?_) (fun c1 => ?_)
  · refine z_iconst (v := (-1)) C dX10_bars_22 (by decide) ?_
    exact z_iret C hr dX10_bars_23
  · refine z_aload_n C dX10_bars_15 rfl 0 rfl ?_
    refine z_chk (fun hk2 => ?_)
    refine z_getI C fl_RX10_443 rfl hk2 dX10_bars_16 ?_
    refine z_goto (tgt := 23) C dX10_bars_19 (by decide) ?_
    exact z_iret C hr dX10_bars_23
def f_X10_bars (th : Nat) (p1 : Int32) (p2 : Int32) (p3 : Int32) (m : MM) : Option (Int32 × MM) := g_X10_bars_0 th p1 p2 p3 m
theorem M_X10_bars (l : Launch) (E : EX) (th : Nat) (p1 : Int32) (p2 : Int32) (p3 : Int32) (m : MM) (r : Int32) (m2 : MM) (h : f_X10_bars th p1 p2 p3 m = some (r, m2)) : Met l yX10_bars (.code yX10_bars cX10_bars 4 (some .int) :: TB) rmX10_bars (va_Pc [.ref th, .int p1, .int p2, .int p3] (St E m)) (QR E (emI r) m2) 0 0 (AA E) :=
  met_of (em := emI) (plainFor_of_name rfl) (Nat.le_of_ble_eq_true rfl) (L0 := [(0, va_rf (some th)), (1, .int p1), (2, .int p2), (3, .int p3)]) rfl (fun Γ _ hrm C hr hn => s_X10_bars_0 C hr hrm th p1 p2 p3 m) h

theorem dX10_shortBy_0 : decode cX10_shortBy 0 = .ok (.aload_n 0, 1) := by decide +kernel
theorem dX10_shortBy_1 : decode cX10_shortBy 1 = .ok (.bipush 10, 2) := by decide +kernel
theorem dX10_shortBy_3 : decode cX10_shortBy 3 = .ok (.iload_n 1, 1) := by decide +kernel
theorem dX10_shortBy_4 : decode cX10_shortBy 4 = .ok (.imul, 1) := by decide +kernel
theorem dX10_shortBy_5 : decode cX10_shortBy 5 = .ok (.aload_n 0, 1) := by decide +kernel
theorem dX10_shortBy_6 : decode cX10_shortBy 6 = .ok (.getfield 164, 3) := by decide +kernel
theorem dX10_shortBy_9 : decode cX10_shortBy 9 = .ok (.iload_n 2, 1) := by decide +kernel
theorem dX10_shortBy_10 : decode cX10_shortBy 10 = .ok (.iaload, 1) := by decide +kernel
theorem dX10_shortBy_11 : decode cX10_shortBy 11 = .ok (.iadd, 1) := by decide +kernel
theorem dX10_shortBy_12 : decode cX10_shortBy 12 = .ok (.aload_n 0, 1) := by decide +kernel
theorem dX10_shortBy_13 : decode cX10_shortBy 13 = .ok (.getfield 158, 3) := by decide +kernel
theorem dX10_shortBy_16 : decode cX10_shortBy 16 = .ok (.iload_n 2, 1) := by decide +kernel
theorem dX10_shortBy_17 : decode cX10_shortBy 17 = .ok (.iaload, 1) := by decide +kernel
theorem dX10_shortBy_18 : decode cX10_shortBy 18 = .ok (.aload_n 0, 1) := by decide +kernel
theorem dX10_shortBy_19 : decode cX10_shortBy 19 = .ok (.getfield 161, 3) := by decide +kernel
theorem dX10_shortBy_22 : decode cX10_shortBy 22 = .ok (.iload_n 2, 1) := by decide +kernel
theorem dX10_shortBy_23 : decode cX10_shortBy 23 = .ok (.iaload, 1) := by decide +kernel
theorem dX10_shortBy_24 : decode cX10_shortBy 24 = .ok (.invokevirtual 426, 3) := by decide +kernel
theorem dX10_shortBy_27 : decode cX10_shortBy 27 = .ok (.istore_n 3, 1) := by decide +kernel
theorem dX10_shortBy_28 : decode cX10_shortBy 28 = .ok (.iconst 0, 1) := by decide +kernel
theorem dX10_shortBy_29 : decode cX10_shortBy 29 = .ok (.istore 4, 2) := by decide +kernel
theorem dX10_shortBy_31 : decode cX10_shortBy 31 = .ok (.iload_n 3, 1) := by decide +kernel
theorem dX10_shortBy_32 : decode cX10_shortBy 32 = .ok (.iload 4, 2) := by decide +kernel
theorem dX10_shortBy_34 : decode cX10_shortBy 34 = .ok (.isub, 1) := by decide +kernel
theorem dX10_shortBy_35 : decode cX10_shortBy 35 = .ok (.iload_n 3, 1) := by decide +kernel
theorem dX10_shortBy_36 : decode cX10_shortBy 36 = .ok (.iload 4, 2) := by decide +kernel
theorem dX10_shortBy_38 : decode cX10_shortBy 38 = .ok (.isub, 1) := by decide +kernel
theorem dX10_shortBy_39 : decode cX10_shortBy 39 = .ok (.imul, 1) := by decide +kernel
theorem dX10_shortBy_40 : decode cX10_shortBy 40 = .ok (.aload_n 0, 1) := by decide +kernel
theorem dX10_shortBy_41 : decode cX10_shortBy 41 = .ok (.aload_n 0, 1) := by decide +kernel
theorem dX10_shortBy_42 : decode cX10_shortBy 42 = .ok (.getfield 158, 3) := by decide +kernel
theorem dX10_shortBy_45 : decode cX10_shortBy 45 = .ok (.iload_n 2, 1) := by decide +kernel
theorem dX10_shortBy_46 : decode cX10_shortBy 46 = .ok (.iaload, 1) := by decide +kernel
theorem dX10_shortBy_47 : decode cX10_shortBy 47 = .ok (.aload_n 0, 1) := by decide +kernel
theorem dX10_shortBy_48 : decode cX10_shortBy 48 = .ok (.getfield 161, 3) := by decide +kernel
theorem dX10_shortBy_51 : decode cX10_shortBy 51 = .ok (.iload_n 2, 1) := by decide +kernel
theorem dX10_shortBy_52 : decode cX10_shortBy 52 = .ok (.iaload, 1) := by decide +kernel
theorem dX10_shortBy_53 : decode cX10_shortBy 53 = .ok (.invokevirtual 396, 3) := by decide +kernel
theorem dX10_shortBy_56 : decode cX10_shortBy 56 = .ok (.if_icmp .le 9, 3) := by decide +kernel
theorem dX10_shortBy_59 : decode cX10_shortBy 59 = .ok (.iinc 4 1, 3) := by decide +kernel
theorem dX10_shortBy_62 : decode cX10_shortBy 62 = .ok (.goto (-31), 3) := by decide +kernel
theorem dX10_shortBy_65 : decode cX10_shortBy 65 = .ok (.iload 4, 2) := by decide +kernel
theorem dX10_shortBy_67 : decode cX10_shortBy 67 = .ok (.ireturn, 1) := by decide +kernel
def rmX10_shortBy : Room := { frames := 3, cells := 0, slots := 0, locals := 68 }
set_option maxRecDepth 100000 in
def g_X10_shortBy_31 (th : Nat) (p1 : Int32) (p2 : Int32) (k31 : Int32 → Int32 → MM → Option (Int32 × MM)) (x3 : Int32) (x4 : Int32) (m : MM) : Option (Int32 × MM) :=
  chk (m.K th = 11) (ck m (m.R 1171 th 0) 22 (fun a1 => chk (inb p2 (m.N a1) = true) (ck m (m.R 1172 th 0) 22 (fun a2 => chk (inb p2 (m.N a2) = true) (cal (f_X10_apartBy th (m.I 22 a1 (Int32.toNatClampNeg p2)) (m.I 22 a2 (Int32.toNatClampNeg p2)) m) (fun r1 m1 => if ((x3 - x4) * (x3 - x4)) ≤ r1 then (some (x4, m1)) else (k31 x3 (x4 + 1) m1)))))))
set_option maxHeartbeats 4000000 in
set_option maxRecDepth 100000 in
theorem s_X10_shortBy_31 {Γ : GX} {E : EX} (C : Cx Γ E cX10_shortBy RX10 5) (hr : Γ.meth.sig.returnType = (some .int)) (hrm : Γ.rm = rmX10_shortBy) (th : Nat) (p1 : Int32) (p2 : Int32) (k31 : Int32 → Int32 → MM → Option (Int32 × MM)) (h31 : ∀ (x3 : Int32) (x4 : Int32) (m : MM), Sm (QM Γ E emI 0 0) Γ E 5 0 0 31 [(0, va_rf (some th)), (1, .int p1), (2, .int p2), (3, .int x3), (4, .int x4)] [] m (k31 x3 x4 m)) (x3 : Int32) (x4 : Int32) (m : MM) : Sm (QM Γ E emI 0 0) Γ E 5 0 0 31 [(0, va_rf (some th)), (1, .int p1), (2, .int p2), (3, .int x3), (4, .int x4)] [] m (g_X10_shortBy_31 th p1 p2 k31 x3 x4 m) := by
  unfold g_X10_shortBy_31
  refine z_iload_n C dX10_shortBy_31 rfl 3 rfl ?_
  refine z_iload C dX10_shortBy_32 4 rfl ?_
  refine z_isub C dX10_shortBy_34 ?_
  refine z_iload_n C dX10_shortBy_35 rfl 3 rfl ?_
  refine z_iload C dX10_shortBy_36 4 rfl ?_
  refine z_isub C dX10_shortBy_38 ?_
  refine z_imul C dX10_shortBy_39 ?_
  refine z_aload_n C dX10_shortBy_40 rfl 0 rfl ?_
  refine z_aload_n C dX10_shortBy_41 rfl 0 rfl ?_
  refine z_chk (fun hk1 => ?_)
  refine z_getR C fl_RX10_158 rfl hk1 dX10_shortBy_42 ?_
  refine z_iload_n C dX10_shortBy_45 rfl 2 rfl ?_
  refine z_ck (fun a1 hr1 hk2 => ?_)
  refine z_chk (fun hj1 => ?_)
  refine z_iald C hr1 hk2 hj1 dX10_shortBy_46 ?_
  refine z_aload_n C dX10_shortBy_47 rfl 0 rfl ?_
  refine z_getR C fl_RX10_161 rfl hk1 dX10_shortBy_48 ?_
  refine z_iload_n C dX10_shortBy_51 rfl 2 rfl ?_
  refine z_ck (fun a2 hr2 hk3 => ?_)
  refine z_chk (fun hj2 => ?_)
  refine z_iald C hr2 hk3 hj2 dX10_shortBy_52 ?_
  refine z_cVI [.int (m.I 22 a1 (Int32.toNatClampNeg p2)), .int (m.I 22 a2 (Int32.toNatClampNeg p2))] [.int ((x3 - x4) * (x3 - x4))] C mv_RX10_396 (fun r0 m0 h0 => M_X10_apartBy _ _ _ _ _ _ _ _ h0) rfl rfl ⟨by rw [hrm]; exact Nat.le_of_ble_eq_true rfl, by rw [hrm]; exact Nat.le_of_ble_eq_true rfl⟩ ⟨by rw [hrm]; exact Nat.le_of_ble_eq_true rfl, by rw [hrm]; exact Nat.le_of_ble_eq_true rfl⟩ rfl hk1 rfl rfl rfl (Nat.le_of_ble_eq_true rfl) dX10_shortBy_53 (fun r1 m1 => ?_)
  refine z_icmp_le (tgt := 65) C dX10_shortBy_56 (by decide) (fun c1 => ?_) (fun c1 => ?_)
  · refine z_iload C dX10_shortBy_65 4 rfl ?_
    exact z_iret C hr dX10_shortBy_67
  · refine z_iinc (v := 1) (L2 := [(4, .int (x4 + 1)), (0, va_rf (some th)), (1, .int p1), (2, .int p2), (3, .int x3)]) C dX10_shortBy_59 4 rfl (by decide) (by decide) rfl ?_
    refine z_goto (tgt := 31) C dX10_shortBy_62 (by decide) ?_
    exact z_sub [1, 2, 3, 4, 0] rfl (h31 x3 (x4 + 1) m1)
def l_X10_shortBy_31 (th : Nat) (p1 : Int32) (p2 : Int32) : Nat → Int32 → Int32 → MM → Option (Int32 × MM) := lp (fun _ _ _ => none) (fun k31 => g_X10_shortBy_31 th p1 p2 k31)
theorem t_X10_shortBy_31 {Γ : GX} {E : EX} (C : Cx Γ E cX10_shortBy RX10 5) (hr : Γ.meth.sig.returnType = (some .int)) (hrm : Γ.rm = rmX10_shortBy) (th : Nat) (p1 : Int32) (p2 : Int32) : ∀ (n : Nat) (x3 : Int32) (x4 : Int32) (m : MM), Sm (QM Γ E emI 0 0) Γ E 5 0 0 31 [(0, va_rf (some th)), (1, .int p1), (2, .int p2), (3, .int x3), (4, .int x4)] [] m (l_X10_shortBy_31 th p1 p2 n x3 x4 m) := by
  intro n
  induction n with
  | zero => intros; exact z_none
  | succ n ih => intro x3 x4 m; exact s_X10_shortBy_31 C hr hrm th p1 p2 (l_X10_shortBy_31 th p1 p2 n) ih x3 x4 m
set_option maxRecDepth 100000 in
def g_X10_shortBy_0 (th : Nat) (p1 : Int32) (p2 : Int32) (m : MM) : Option (Int32 × MM) :=
  chk (m.K th = 11) (ck m (m.R 1173 th 0) 22 (fun a3 => chk (inb p2 (m.N a3) = true) (ck m (m.R 1171 th 0) 22 (fun a4 => chk (inb p2 (m.N a4) = true) (ck m (m.R 1172 th 0) 22 (fun a5 => chk (inb p2 (m.N a5) = true) (cal (f_X10_farBy th ((10 * p1) + (m.I 22 a3 (Int32.toNatClampNeg p2))) (m.I 22 a4 (Int32.toNatClampNeg p2)) (m.I 22 a5 (Int32.toNatClampNeg p2)) m) (fun r2 m2 => l_X10_shortBy_31 th p1 p2 FU r2 0 m2))))))))
set_option maxHeartbeats 4000000 in
set_option maxRecDepth 100000 in
theorem s_X10_shortBy_0 {Γ : GX} {E : EX} (C : Cx Γ E cX10_shortBy RX10 5) (hr : Γ.meth.sig.returnType = (some .int)) (hrm : Γ.rm = rmX10_shortBy) (th : Nat) (p1 : Int32) (p2 : Int32) (m : MM) : Sm (QM Γ E emI 0 0) Γ E 5 0 0 0 [(0, va_rf (some th)), (1, .int p1), (2, .int p2)] [] m (g_X10_shortBy_0 th p1 p2 m) := by
  unfold g_X10_shortBy_0
  refine z_aload_n C dX10_shortBy_0 rfl 0 rfl ?_
  refine z_bipush (v := 10) C dX10_shortBy_1 (by decide) ?_
  refine z_iload_n C dX10_shortBy_3 rfl 1 rfl ?_
  refine z_imul C dX10_shortBy_4 ?_
  refine z_aload_n C dX10_shortBy_5 rfl 0 rfl ?_
  refine z_chk (fun hk4 => ?_)
  refine z_getR C fl_RX10_164 rfl hk4 dX10_shortBy_6 ?_
  refine z_iload_n C dX10_shortBy_9 rfl 2 rfl ?_
  refine z_ck (fun a3 hr3 hk5 => ?_)
  refine z_chk (fun hj3 => ?_)
  refine z_iald C hr3 hk5 hj3 dX10_shortBy_10 ?_
  refine z_iadd C dX10_shortBy_11 ?_
  refine z_aload_n C dX10_shortBy_12 rfl 0 rfl ?_
  refine z_getR C fl_RX10_158 rfl hk4 dX10_shortBy_13 ?_
  refine z_iload_n C dX10_shortBy_16 rfl 2 rfl ?_
  refine z_ck (fun a4 hr4 hk6 => ?_)
  refine z_chk (fun hj4 => ?_)
  refine z_iald C hr4 hk6 hj4 dX10_shortBy_17 ?_
  refine z_aload_n C dX10_shortBy_18 rfl 0 rfl ?_
  refine z_getR C fl_RX10_161 rfl hk4 dX10_shortBy_19 ?_
  refine z_iload_n C dX10_shortBy_22 rfl 2 rfl ?_
  refine z_ck (fun a5 hr5 hk7 => ?_)
  refine z_chk (fun hj5 => ?_)
  refine z_iald C hr5 hk7 hj5 dX10_shortBy_23 ?_
  refine z_cVI [.int ((10 * p1) + (m.I 22 a3 (Int32.toNatClampNeg p2))), .int (m.I 22 a4 (Int32.toNatClampNeg p2)), .int (m.I 22 a5 (Int32.toNatClampNeg p2))] [] C mv_RX10_426 (fun r0 m0 h0 => M_X10_farBy _ _ _ _ _ _ _ _ _ h0) rfl rfl ⟨by rw [hrm]; exact Nat.le_of_ble_eq_true rfl, by rw [hrm]; exact Nat.le_of_ble_eq_true rfl⟩ ⟨by rw [hrm]; exact Nat.le_of_ble_eq_true rfl, by rw [hrm]; exact Nat.le_of_ble_eq_true rfl⟩ rfl hk4 rfl rfl rfl (Nat.le_of_ble_eq_true rfl) dX10_shortBy_24 (fun r2 m2 => ?_)
  refine z_istore_n (i := 3) (L2 := [(3, .int r2), (0, va_rf (some th)), (1, .int p1), (2, .int p2)]) C dX10_shortBy_27 rfl (by decide) rfl ?_
  refine z_iconst (v := 0) C dX10_shortBy_28 (by decide) ?_
  refine z_istore (i := 4) (L2 := [(4, .int 0), (3, .int r2), (0, va_rf (some th)), (1, .int p1), (2, .int p2)]) C dX10_shortBy_29 (by decide) rfl ?_
  exact z_sub [2, 3, 4, 1, 0] rfl (t_X10_shortBy_31 C hr hrm th p1 p2 FU r2 0 m2)
def f_X10_shortBy (th : Nat) (p1 : Int32) (p2 : Int32) (m : MM) : Option (Int32 × MM) := g_X10_shortBy_0 th p1 p2 m
theorem M_X10_shortBy (l : Launch) (E : EX) (th : Nat) (p1 : Int32) (p2 : Int32) (m : MM) (r : Int32) (m2 : MM) (h : f_X10_shortBy th p1 p2 m = some (r, m2)) : Met l yX10_shortBy (.code yX10_shortBy cX10_shortBy 5 (some .int) :: TB) rmX10_shortBy (va_Pc [.ref th, .int p1, .int p2] (St E m)) (QR E (emI r) m2) 0 0 (AA E) :=
  met_of (em := emI) (plainFor_of_name rfl) (Nat.le_of_ble_eq_true rfl) (L0 := [(0, va_rf (some th)), (1, .int p1), (2, .int p2)]) rfl (fun Γ _ hrm C hr hn => s_X10_shortBy_0 C hr hrm th p1 p2 m) h

theorem dX10_isLater_0 : decode cX10_isLater 0 = .ok (.aload_n 0, 1) := by decide +kernel
theorem dX10_isLater_1 : decode cX10_isLater 1 = .ok (.getfield 155, 3) := by decide +kernel
theorem dX10_isLater_4 : decode cX10_isLater 4 = .ok (.iload_n 1, 1) := by decide +kernel
theorem dX10_isLater_5 : decode cX10_isLater 5 = .ok (.iaload, 1) := by decide +kernel
theorem dX10_isLater_6 : decode cX10_isLater 6 = .ok (.aload_n 0, 1) := by decide +kernel
theorem dX10_isLater_7 : decode cX10_isLater 7 = .ok (.getfield 155, 3) := by decide +kernel
theorem dX10_isLater_10 : decode cX10_isLater 10 = .ok (.iload_n 2, 1) := by decide +kernel
theorem dX10_isLater_11 : decode cX10_isLater 11 = .ok (.iaload, 1) := by decide +kernel
theorem dX10_isLater_12 : decode cX10_isLater 12 = .ok (.if_icmp .gt 23, 3) := by decide +kernel
theorem dX10_isLater_15 : decode cX10_isLater 15 = .ok (.aload_n 0, 1) := by decide +kernel
theorem dX10_isLater_16 : decode cX10_isLater 16 = .ok (.getfield 155, 3) := by decide +kernel
theorem dX10_isLater_19 : decode cX10_isLater 19 = .ok (.iload_n 1, 1) := by decide +kernel
theorem dX10_isLater_20 : decode cX10_isLater 20 = .ok (.iaload, 1) := by decide +kernel
theorem dX10_isLater_21 : decode cX10_isLater 21 = .ok (.aload_n 0, 1) := by decide +kernel
theorem dX10_isLater_22 : decode cX10_isLater 22 = .ok (.getfield 155, 3) := by decide +kernel
theorem dX10_isLater_25 : decode cX10_isLater 25 = .ok (.iload_n 2, 1) := by decide +kernel
theorem dX10_isLater_26 : decode cX10_isLater 26 = .ok (.iaload, 1) := by decide +kernel
theorem dX10_isLater_27 : decode cX10_isLater 27 = .ok (.if_icmp .ne 12, 3) := by decide +kernel
theorem dX10_isLater_30 : decode cX10_isLater 30 = .ok (.iload_n 1, 1) := by decide +kernel
theorem dX10_isLater_31 : decode cX10_isLater 31 = .ok (.iload_n 2, 1) := by decide +kernel
theorem dX10_isLater_32 : decode cX10_isLater 32 = .ok (.if_icmp .le 7, 3) := by decide +kernel
theorem dX10_isLater_35 : decode cX10_isLater 35 = .ok (.iconst 1, 1) := by decide +kernel
theorem dX10_isLater_36 : decode cX10_isLater 36 = .ok (.goto 4, 3) := by decide +kernel
theorem dX10_isLater_39 : decode cX10_isLater 39 = .ok (.iconst 0, 1) := by decide +kernel
theorem dX10_isLater_40 : decode cX10_isLater 40 = .ok (.ireturn, 1) := by decide +kernel
def rmX10_isLater : Room := { frames := 0, cells := 0, slots := 0, locals := 0 }
set_option maxRecDepth 100000 in
def g_X10_isLater_35 (th : Nat) (p1 : Int32) (p2 : Int32) (m : MM) : Option (Int32 × MM) :=
  some (1, m)
set_option maxHeartbeats 4000000 in
set_option maxRecDepth 100000 in
theorem s_X10_isLater_35 {Γ : GX} {E : EX} (C : Cx Γ E cX10_isLater RX10 3) (hr : Γ.meth.sig.returnType = (some .boolean)) (hrm : Γ.rm = rmX10_isLater) (th : Nat) (p1 : Int32) (p2 : Int32) (m : MM) : Sm (QM Γ E emI 0 0) Γ E 3 0 0 35 [(0, va_rf (some th)), (1, .int p1), (2, .int p2)] [] m (g_X10_isLater_35 th p1 p2 m) := by
  unfold g_X10_isLater_35
  refine z_iconst (v := 1) C dX10_isLater_35 (by decide) ?_
  refine z_goto (tgt := 40) C dX10_isLater_36 (by decide) ?_
  exact z_zret C hr rfl dX10_isLater_40
set_option maxRecDepth 100000 in
def g_X10_isLater_39 (th : Nat) (p1 : Int32) (p2 : Int32) (m : MM) : Option (Int32 × MM) :=
  some (0, m)
set_option maxHeartbeats 4000000 in
set_option maxRecDepth 100000 in
theorem s_X10_isLater_39 {Γ : GX} {E : EX} (C : Cx Γ E cX10_isLater RX10 3) (hr : Γ.meth.sig.returnType = (some .boolean)) (hrm : Γ.rm = rmX10_isLater) (th : Nat) (p1 : Int32) (p2 : Int32) (m : MM) : Sm (QM Γ E emI 0 0) Γ E 3 0 0 39 [(0, va_rf (some th)), (1, .int p1), (2, .int p2)] [] m (g_X10_isLater_39 th p1 p2 m) := by
  unfold g_X10_isLater_39
  refine z_iconst (v := 0) C dX10_isLater_39 (by decide) ?_
  exact z_zret C hr rfl dX10_isLater_40
set_option maxRecDepth 100000 in
def g_X10_isLater_0 (th : Nat) (p1 : Int32) (p2 : Int32) (m : MM) : Option (Int32 × MM) :=
  chk (m.K th = 11) (ck m (m.R 1164 th 0) 22 (fun a1 => chk (inb p1 (m.N a1) = true) (chk (inb p2 (m.N a1) = true) (if (m.I 22 a1 (Int32.toNatClampNeg p2)) < (m.I 22 a1 (Int32.toNatClampNeg p1)) then (g_X10_isLater_35 th p1 p2 m) else (chk (inb p1 (m.N a1) = true) (chk (inb p2 (m.N a1) = true) (if (m.I 22 a1 (Int32.toNatClampNeg p1)) = (m.I 22 a1 (Int32.toNatClampNeg p2)) then (if p1 ≤ p2 then (g_X10_isLater_39 th p1 p2 m) else (g_X10_isLater_35 th p1 p2 m)) else (g_X10_isLater_39 th p1 p2 m))))))))
set_option maxHeartbeats 4000000 in
set_option maxRecDepth 100000 in
theorem s_X10_isLater_0 {Γ : GX} {E : EX} (C : Cx Γ E cX10_isLater RX10 3) (hr : Γ.meth.sig.returnType = (some .boolean)) (hrm : Γ.rm = rmX10_isLater) (th : Nat) (p1 : Int32) (p2 : Int32) (m : MM) : Sm (QM Γ E emI 0 0) Γ E 3 0 0 0 [(0, va_rf (some th)), (1, .int p1), (2, .int p2)] [] m (g_X10_isLater_0 th p1 p2 m) := by
  unfold g_X10_isLater_0
  refine z_aload_n C dX10_isLater_0 rfl 0 rfl ?_
  refine z_chk (fun hk1 => ?_)
  refine z_getR C fl_RX10_155 rfl hk1 dX10_isLater_1 ?_
  refine z_iload_n C dX10_isLater_4 rfl 1 rfl ?_
  refine z_ck (fun a1 hr1 hk2 => ?_)
  refine z_chk (fun hj1 => ?_)
  refine z_iald C hr1 hk2 hj1 dX10_isLater_5 ?_
  refine z_aload_n C dX10_isLater_6 rfl 0 rfl ?_
  refine z_getR C fl_RX10_155 rfl hk1 dX10_isLater_7 ?_
  refine z_iload_n C dX10_isLater_10 rfl 2 rfl ?_
  refine z_chk (fun hj2 => ?_)
  refine z_iald C hr1 hk2 hj2 dX10_isLater_11 ?_
  refine z_icmp_gt (tgt := 35) C dX10_isLater_12 (by decide) (fun c1 => ?_) (fun c1 => ?_)
  · exact z_sub [0, 1, 2] rfl (s_X10_isLater_35 C hr hrm th p1 p2 m)
  · refine z_aload_n C dX10_isLater_15 rfl 0 rfl ?_
    refine z_getR C fl_RX10_155 rfl hk1 dX10_isLater_16 ?_
    refine z_iload_n C dX10_isLater_19 rfl 1 rfl ?_
    refine z_chk (fun hj3 => ?_)
    refine z_iald C hr1 hk2 hj3 dX10_isLater_20 ?_
    refine z_aload_n C dX10_isLater_21 rfl 0 rfl ?_
    refine z_getR C fl_RX10_155 rfl hk1 dX10_isLater_22 ?_
    refine z_iload_n C dX10_isLater_25 rfl 2 rfl ?_
    refine z_chk (fun hj4 => ?_)
    refine z_iald C hr1 hk2 hj4 dX10_isLater_26 ?_
    refine z_icmp_ne (tgt := 39) C dX10_isLater_27 (by decide) (fun c2 => ?_) (fun c2 => ?_)
    · exact z_sub [0, 1, 2] rfl (s_X10_isLater_39 C hr hrm th p1 p2 m)
    · refine z_iload_n C dX10_isLater_30 rfl 1 rfl ?_
      refine z_iload_n C dX10_isLater_31 rfl 2 rfl ?_
      refine z_icmp_le (tgt := 39) C dX10_isLater_32 (by decide) (fun c3 => ?_) (fun c3 => ?_)
      · exact z_sub [0, 1, 2] rfl (s_X10_isLater_39 C hr hrm th p1 p2 m)
      · exact z_sub [0, 1, 2] rfl (s_X10_isLater_35 C hr hrm th p1 p2 m)
def f_X10_isLater (th : Nat) (p1 : Int32) (p2 : Int32) (m : MM) : Option (Int32 × MM) := g_X10_isLater_0 th p1 p2 m
theorem M_X10_isLater (l : Launch) (E : EX) (th : Nat) (p1 : Int32) (p2 : Int32) (m : MM) (r : Int32) (m2 : MM) (h : f_X10_isLater th p1 p2 m = some (r, m2)) : Met l yX10_isLater (.code yX10_isLater cX10_isLater 3 (some .boolean) :: TB) rmX10_isLater (va_Pc [.ref th, .int p1, .int p2] (St E m)) (QR E (emI r) m2) 0 0 (AA E) :=
  met_of (em := emI) (plainFor_of_name rfl) (Nat.le_of_ble_eq_true rfl) (L0 := [(0, va_rf (some th)), (1, .int p1), (2, .int p2)]) rfl (fun Γ _ hrm C hr hn => s_X10_isLater_0 C hr hrm th p1 p2 m) h

theorem dX10_hasLeave_0 : decode cX10_hasLeave 0 = .ok (.bipush 12, 2) := by decide +kernel
theorem dX10_hasLeave_2 : decode cX10_hasLeave 2 = .ok (.aload_n 0, 1) := by decide +kernel
theorem dX10_hasLeave_3 : decode cX10_hasLeave 3 = .ok (.getfield 375, 3) := by decide +kernel
theorem dX10_hasLeave_6 : decode cX10_hasLeave 6 = .ok (.imul, 1) := by decide +kernel
theorem dX10_hasLeave_7 : decode cX10_hasLeave 7 = .ok (.istore_n 3, 1) := by decide +kernel
theorem dX10_hasLeave_8 : decode cX10_hasLeave 8 = .ok (.iload_n 3, 1) := by decide +kernel
theorem dX10_hasLeave_9 : decode cX10_hasLeave 9 = .ok (.bipush 12, 2) := by decide +kernel
theorem dX10_hasLeave_11 : decode cX10_hasLeave 11 = .ok (.aload_n 0, 1) := by decide +kernel
theorem dX10_hasLeave_12 : decode cX10_hasLeave 12 = .ok (.getfield 375, 3) := by decide +kernel
theorem dX10_hasLeave_15 : decode cX10_hasLeave 15 = .ok (.imul, 1) := by decide +kernel
theorem dX10_hasLeave_16 : decode cX10_hasLeave 16 = .ok (.aload_n 0, 1) := by decide +kernel
theorem dX10_hasLeave_17 : decode cX10_hasLeave 17 = .ok (.aload_n 0, 1) := by decide +kernel
theorem dX10_hasLeave_18 : decode cX10_hasLeave 18 = .ok (.getfield 375, 3) := by decide +kernel
theorem dX10_hasLeave_21 : decode cX10_hasLeave 21 = .ok (.bipush 7, 2) := by decide +kernel
theorem dX10_hasLeave_23 : decode cX10_hasLeave 23 = .ok (.invokevirtual 196, 3) := by decide +kernel
theorem dX10_hasLeave_26 : decode cX10_hasLeave 26 = .ok (.iadd, 1) := by decide +kernel
theorem dX10_hasLeave_27 : decode cX10_hasLeave 27 = .ok (.if_icmp .ge 72, 3) := by decide +kernel
theorem dX10_hasLeave_30 : decode cX10_hasLeave 30 = .ok (.aload_n 0, 1) := by decide +kernel
theorem dX10_hasLeave_31 : decode cX10_hasLeave 31 = .ok (.getfield 68, 3) := by decide +kernel
theorem dX10_hasLeave_34 : decode cX10_hasLeave 34 = .ok (.iload_n 3, 1) := by decide +kernel
theorem dX10_hasLeave_35 : decode cX10_hasLeave 35 = .ok (.iaload, 1) := by decide +kernel
theorem dX10_hasLeave_36 : decode cX10_hasLeave 36 = .ok (.aload_n 0, 1) := by decide +kernel
theorem dX10_hasLeave_37 : decode cX10_hasLeave 37 = .ok (.getfield 38, 3) := by decide +kernel
theorem dX10_hasLeave_40 : decode cX10_hasLeave 40 = .ok (.bipush 12, 2) := by decide +kernel
theorem dX10_hasLeave_42 : decode cX10_hasLeave 42 = .ok (.aload_n 0, 1) := by decide +kernel
theorem dX10_hasLeave_43 : decode cX10_hasLeave 43 = .ok (.getfield 375, 3) := by decide +kernel
theorem dX10_hasLeave_46 : decode cX10_hasLeave 46 = .ok (.imul, 1) := by decide +kernel
theorem dX10_hasLeave_47 : decode cX10_hasLeave 47 = .ok (.iload_n 2, 1) := by decide +kernel
theorem dX10_hasLeave_48 : decode cX10_hasLeave 48 = .ok (.iadd, 1) := by decide +kernel
theorem dX10_hasLeave_49 : decode cX10_hasLeave 49 = .ok (.iaload, 1) := by decide +kernel
theorem dX10_hasLeave_50 : decode cX10_hasLeave 50 = .ok (.if_icmp .ne 43, 3) := by decide +kernel
theorem dX10_hasLeave_53 : decode cX10_hasLeave 53 = .ok (.aload_n 0, 1) := by decide +kernel
theorem dX10_hasLeave_54 : decode cX10_hasLeave 54 = .ok (.getfield 71, 3) := by decide +kernel
theorem dX10_hasLeave_57 : decode cX10_hasLeave 57 = .ok (.iload_n 3, 1) := by decide +kernel
theorem dX10_hasLeave_58 : decode cX10_hasLeave 58 = .ok (.iaload, 1) := by decide +kernel
theorem dX10_hasLeave_59 : decode cX10_hasLeave 59 = .ok (.aload_n 0, 1) := by decide +kernel
theorem dX10_hasLeave_60 : decode cX10_hasLeave 60 = .ok (.getfield 38, 3) := by decide +kernel
theorem dX10_hasLeave_63 : decode cX10_hasLeave 63 = .ok (.bipush 12, 2) := by decide +kernel
theorem dX10_hasLeave_65 : decode cX10_hasLeave 65 = .ok (.aload_n 0, 1) := by decide +kernel
theorem dX10_hasLeave_66 : decode cX10_hasLeave 66 = .ok (.getfield 375, 3) := by decide +kernel
theorem dX10_hasLeave_69 : decode cX10_hasLeave 69 = .ok (.imul, 1) := by decide +kernel
theorem dX10_hasLeave_70 : decode cX10_hasLeave 70 = .ok (.iload_n 1, 1) := by decide +kernel
theorem dX10_hasLeave_71 : decode cX10_hasLeave 71 = .ok (.iadd, 1) := by decide +kernel
theorem dX10_hasLeave_72 : decode cX10_hasLeave 72 = .ok (.iaload, 1) := by decide +kernel
theorem dX10_hasLeave_73 : decode cX10_hasLeave 73 = .ok (.if_icmp .ne 20, 3) := by decide +kernel
theorem dX10_hasLeave_76 : decode cX10_hasLeave 76 = .ok (.aload_n 0, 1) := by decide +kernel
theorem dX10_hasLeave_77 : decode cX10_hasLeave 77 = .ok (.getfield 74, 3) := by decide +kernel
theorem dX10_hasLeave_80 : decode cX10_hasLeave 80 = .ok (.iload_n 3, 1) := by decide +kernel
theorem dX10_hasLeave_81 : decode cX10_hasLeave 81 = .ok (.iaload, 1) := by decide +kernel
theorem dX10_hasLeave_82 : decode cX10_hasLeave 82 = .ok (.aload_n 0, 1) := by decide +kernel
theorem dX10_hasLeave_83 : decode cX10_hasLeave 83 = .ok (.getfield 155, 3) := by decide +kernel
theorem dX10_hasLeave_86 : decode cX10_hasLeave 86 = .ok (.iload_n 1, 1) := by decide +kernel
theorem dX10_hasLeave_87 : decode cX10_hasLeave 87 = .ok (.iaload, 1) := by decide +kernel
theorem dX10_hasLeave_88 : decode cX10_hasLeave 88 = .ok (.if_icmp .gt 5, 3) := by decide +kernel
theorem dX10_hasLeave_91 : decode cX10_hasLeave 91 = .ok (.iconst 1, 1) := by decide +kernel
theorem dX10_hasLeave_92 : decode cX10_hasLeave 92 = .ok (.ireturn, 1) := by decide +kernel
theorem dX10_hasLeave_93 : decode cX10_hasLeave 93 = .ok (.iinc 3 1, 3) := by decide +kernel
theorem dX10_hasLeave_96 : decode cX10_hasLeave 96 = .ok (.goto (-88), 3) := by decide +kernel
theorem dX10_hasLeave_99 : decode cX10_hasLeave 99 = .ok (.iconst 0, 1) := by decide +kernel
theorem dX10_hasLeave_100 : decode cX10_hasLeave 100 = .ok (.ireturn, 1) := by decide +kernel
def rmX10_hasLeave : Room := { frames := 1, cells := 0, slots := 0, locals := 22 }
set_option maxRecDepth 100000 in
def g_X10_hasLeave_93 (th : Nat) (p1 : Int32) (p2 : Int32) (k8 : Int32 → MM → Option (Int32 × MM)) (x3 : Int32) (m : MM) : Option (Int32 × MM) :=
  k8 (x3 + 1) m
set_option maxHeartbeats 4000000 in
set_option maxRecDepth 100000 in
theorem s_X10_hasLeave_93 {Γ : GX} {E : EX} (C : Cx Γ E cX10_hasLeave RX10 4) (hr : Γ.meth.sig.returnType = (some .boolean)) (hrm : Γ.rm = rmX10_hasLeave) (th : Nat) (p1 : Int32) (p2 : Int32) (k8 : Int32 → MM → Option (Int32 × MM)) (h8 : ∀ (x3 : Int32) (m : MM), Sm (QM Γ E emI 0 0) Γ E 4 0 0 8 [(0, va_rf (some th)), (1, .int p1), (2, .int p2), (3, .int x3)] [] m (k8 x3 m)) (x3 : Int32) (m : MM) : Sm (QM Γ E emI 0 0) Γ E 4 0 0 93 [(0, va_rf (some th)), (1, .int p1), (2, .int p2), (3, .int x3)] [] m (g_X10_hasLeave_93 th p1 p2 k8 x3 m) := by
  unfold g_X10_hasLeave_93
  refine z_iinc (v := 1) (L2 := [(3, .int (x3 + 1)), (0, va_rf (some th)), (1, .int p1), (2, .int p2)]) C dX10_hasLeave_93 3 rfl (by decide) (by decide) rfl ?_
  refine z_goto (tgt := 8) C dX10_hasLeave_96 (by decide) ?_
  exact z_sub [1, 2, 3, 0] rfl (h8 (x3 + 1) m)
set_option maxRecDepth 100000 in
def g_X10_hasLeave_8 (th : Nat) (p1 : Int32) (p2 : Int32) (k8 : Int32 → MM → Option (Int32 × MM)) (x3 : Int32) (m : MM) : Option (Int32 × MM) :=
  chk (m.K th = 11) (cal (f_X10_of th (m.I 1166 th 0) 7 m) (fun r1 m1 => if ((12 * (m.I 1166 th 0)) + r1) ≤ x3 then (some (0, m1)) else (chk (m1.K th = 11) (ck m1 (m1.R 1120 th 0) 22 (fun a1 => chk (inb x3 (m1.N a1) = true) (ck m1 (m1.R 1110 th 0) 22 (fun a2 => chk (inb ((12 * (m1.I 1166 th 0)) + p2) (m1.N a2) = true) (if (m1.I 22 a1 (Int32.toNatClampNeg x3)) = (m1.I 22 a2 (Int32.toNatClampNeg ((12 * (m1.I 1166 th 0)) + p2))) then (ck m1 (m1.R 1121 th 0) 22 (fun a3 => chk (inb x3 (m1.N a3) = true) (chk (inb ((12 * (m1.I 1166 th 0)) + p1) (m1.N a2) = true) (if (m1.I 22 a3 (Int32.toNatClampNeg x3)) = (m1.I 22 a2 (Int32.toNatClampNeg ((12 * (m1.I 1166 th 0)) + p1))) then (ck m1 (m1.R 1122 th 0) 22 (fun a4 => chk (inb x3 (m1.N a4) = true) (ck m1 (m1.R 1164 th 0) 22 (fun a5 => chk (inb p1 (m1.N a5) = true) (if (m1.I 22 a5 (Int32.toNatClampNeg p1)) < (m1.I 22 a4 (Int32.toNatClampNeg x3)) then (g_X10_hasLeave_93 th p1 p2 k8 x3 m1) else (some (1, m1))))))) else (g_X10_hasLeave_93 th p1 p2 k8 x3 m1))))) else (g_X10_hasLeave_93 th p1 p2 k8 x3 m1)))))))))
set_option maxHeartbeats 4000000 in
set_option maxRecDepth 100000 in
theorem s_X10_hasLeave_8 {Γ : GX} {E : EX} (C : Cx Γ E cX10_hasLeave RX10 4) (hr : Γ.meth.sig.returnType = (some .boolean)) (hrm : Γ.rm = rmX10_hasLeave) (th : Nat) (p1 : Int32) (p2 : Int32) (k8 : Int32 → MM → Option (Int32 × MM)) (h8 : ∀ (x3 : Int32) (m : MM), Sm (QM Γ E emI 0 0) Γ E 4 0 0 8 [(0, va_rf (some th)), (1, .int p1), (2, .int p2), (3, .int x3)] [] m (k8 x3 m)) (x3 : Int32) (m : MM) : Sm (QM Γ E emI 0 0) Γ E 4 0 0 8 [(0, va_rf (some th)), (1, .int p1), (2, .int p2), (3, .int x3)] [] m (g_X10_hasLeave_8 th p1 p2 k8 x3 m) := by
  unfold g_X10_hasLeave_8
  refine z_iload_n C dX10_hasLeave_8 rfl 3 rfl ?_
  refine z_bipush (v := 12) C dX10_hasLeave_9 (by decide) ?_
  refine z_aload_n C dX10_hasLeave_11 rfl 0 rfl ?_
  refine z_chk (fun hk1 => ?_)
  refine z_getI C fl_RX10_375 rfl hk1 dX10_hasLeave_12 ?_
  refine z_imul C dX10_hasLeave_15 ?_
  refine z_aload_n C dX10_hasLeave_16 rfl 0 rfl ?_
  refine z_aload_n C dX10_hasLeave_17 rfl 0 rfl ?_
  refine z_getI C fl_RX10_375 rfl hk1 dX10_hasLeave_18 ?_
  refine z_bipush (v := 7) C dX10_hasLeave_21 (by decide) ?_
  refine z_cVI [.int (m.I 1166 th 0), .int 7] [.int (12 * (m.I 1166 th 0)), .int x3] C mv_RX10_196 (fun r0 m0 h0 => M_X10_of _ _ _ _ _ _ _ _ h0) rfl rfl ⟨by rw [hrm]; exact Nat.le_of_ble_eq_true rfl, by rw [hrm]; exact Nat.le_of_ble_eq_true rfl⟩ ⟨by rw [hrm]; exact Nat.le_of_ble_eq_true rfl, by rw [hrm]; exact Nat.le_of_ble_eq_true rfl⟩ rfl hk1 rfl rfl rfl (Nat.le_of_ble_eq_true rfl) dX10_hasLeave_23 (fun r1 m1 => ?_)
  refine z_iadd C dX10_hasLeave_26 ?_
  refine z_icmp_ge (tgt := 99) C dX10_hasLeave_27 (by decide) (fun c1 => ?_) (fun c1 => ?_)
  · refine z_iconst (v := 0) C dX10_hasLeave_99 (by decide) ?_
    exact z_zret C hr rfl dX10_hasLeave_100
  · refine z_aload_n C dX10_hasLeave_30 rfl 0 rfl ?_
    refine z_chk (fun hk2 => ?_)
    refine z_getR C fl_RX10_68 rfl hk2 dX10_hasLeave_31 ?_
    refine z_iload_n C dX10_hasLeave_34 rfl 3 rfl ?_
    refine z_ck (fun a1 hr1 hk3 => ?_)
    refine z_chk (fun hj1 => ?_)
    refine z_iald C hr1 hk3 hj1 dX10_hasLeave_35 ?_
    refine z_aload_n C dX10_hasLeave_36 rfl 0 rfl ?_
    refine z_getR C fl_RX10_38 rfl hk2 dX10_hasLeave_37 ?_
    refine z_bipush (v := 12) C dX10_hasLeave_40 (by decide) ?_
    refine z_aload_n C dX10_hasLeave_42 rfl 0 rfl ?_
    refine z_getI C fl_RX10_375 rfl hk2 dX10_hasLeave_43 ?_
    refine z_imul C dX10_hasLeave_46 ?_
    refine z_iload_n C dX10_hasLeave_47 rfl 2 rfl ?_
    refine z_iadd C dX10_hasLeave_48 ?_
    refine z_ck (fun a2 hr2 hk4 => ?_)
    refine z_chk (fun hj2 => ?_)
    refine z_iald C hr2 hk4 hj2 dX10_hasLeave_49 ?_
    refine z_icmp_ne (tgt := 93) C dX10_hasLeave_50 (by decide) (fun c2 => ?_) (fun c2 => ?_)
    · exact z_sub [0, 1, 2, 3] rfl (s_X10_hasLeave_93 C hr hrm th p1 p2 k8 h8 x3 m1)
    · refine z_aload_n C dX10_hasLeave_53 rfl 0 rfl ?_
      refine z_getR C fl_RX10_71 rfl hk2 dX10_hasLeave_54 ?_
      refine z_iload_n C dX10_hasLeave_57 rfl 3 rfl ?_
      refine z_ck (fun a3 hr3 hk5 => ?_)
      refine z_chk (fun hj3 => ?_)
      refine z_iald C hr3 hk5 hj3 dX10_hasLeave_58 ?_
      refine z_aload_n C dX10_hasLeave_59 rfl 0 rfl ?_
      refine z_getR C fl_RX10_38 rfl hk2 dX10_hasLeave_60 ?_
      refine z_bipush (v := 12) C dX10_hasLeave_63 (by decide) ?_
      refine z_aload_n C dX10_hasLeave_65 rfl 0 rfl ?_
      refine z_getI C fl_RX10_375 rfl hk2 dX10_hasLeave_66 ?_
      refine z_imul C dX10_hasLeave_69 ?_
      refine z_iload_n C dX10_hasLeave_70 rfl 1 rfl ?_
      refine z_iadd C dX10_hasLeave_71 ?_
      refine z_chk (fun hj4 => ?_)
      refine z_iald C hr2 hk4 hj4 dX10_hasLeave_72 ?_
      refine z_icmp_ne (tgt := 93) C dX10_hasLeave_73 (by decide) (fun c3 => ?_) (fun c3 => ?_)
      · exact z_sub [0, 1, 2, 3] rfl (s_X10_hasLeave_93 C hr hrm th p1 p2 k8 h8 x3 m1)
      · refine z_aload_n C dX10_hasLeave_76 rfl 0 rfl ?_
        refine z_getR C fl_RX10_74 rfl hk2 dX10_hasLeave_77 ?_
        refine z_iload_n C dX10_hasLeave_80 rfl 3 rfl ?_
        refine z_ck (fun a4 hr4 hk6 => ?_)
        refine z_chk (fun hj5 => ?_)
        refine z_iald C hr4 hk6 hj5 dX10_hasLeave_81 ?_
        refine z_aload_n C dX10_hasLeave_82 rfl 0 rfl ?_
        refine z_getR C fl_RX10_155 rfl hk2 dX10_hasLeave_83 ?_
        refine z_iload_n C dX10_hasLeave_86 rfl 1 rfl ?_
        refine z_ck (fun a5 hr5 hk7 => ?_)
        refine z_chk (fun hj6 => ?_)
        refine z_iald C hr5 hk7 hj6 dX10_hasLeave_87 ?_
        refine z_icmp_gt (tgt := 93) C dX10_hasLeave_88 (by decide) (fun c4 => ?_) (fun c4 => ?_)
        · exact z_sub [0, 1, 2, 3] rfl (s_X10_hasLeave_93 C hr hrm th p1 p2 k8 h8 x3 m1)
        · refine z_iconst (v := 1) C dX10_hasLeave_91 (by decide) ?_
          exact z_zret C hr rfl dX10_hasLeave_92
def l_X10_hasLeave_8 (th : Nat) (p1 : Int32) (p2 : Int32) : Nat → Int32 → MM → Option (Int32 × MM) := lp (fun _ _ => none) (fun k8 => g_X10_hasLeave_8 th p1 p2 k8)
theorem t_X10_hasLeave_8 {Γ : GX} {E : EX} (C : Cx Γ E cX10_hasLeave RX10 4) (hr : Γ.meth.sig.returnType = (some .boolean)) (hrm : Γ.rm = rmX10_hasLeave) (th : Nat) (p1 : Int32) (p2 : Int32) : ∀ (n : Nat) (x3 : Int32) (m : MM), Sm (QM Γ E emI 0 0) Γ E 4 0 0 8 [(0, va_rf (some th)), (1, .int p1), (2, .int p2), (3, .int x3)] [] m (l_X10_hasLeave_8 th p1 p2 n x3 m) := by
  intro n
  induction n with
  | zero => intros; exact z_none
  | succ n ih => intro x3 m; exact s_X10_hasLeave_8 C hr hrm th p1 p2 (l_X10_hasLeave_8 th p1 p2 n) ih x3 m
set_option maxRecDepth 100000 in
def g_X10_hasLeave_0 (th : Nat) (p1 : Int32) (p2 : Int32) (m : MM) : Option (Int32 × MM) :=
  chk (m.K th = 11) (bnd (12 * (m.I 1166 th 0)) (fun y1 => l_X10_hasLeave_8 th p1 p2 FU y1 m))
set_option maxHeartbeats 4000000 in
set_option maxRecDepth 100000 in
theorem s_X10_hasLeave_0 {Γ : GX} {E : EX} (C : Cx Γ E cX10_hasLeave RX10 4) (hr : Γ.meth.sig.returnType = (some .boolean)) (hrm : Γ.rm = rmX10_hasLeave) (th : Nat) (p1 : Int32) (p2 : Int32) (m : MM) : Sm (QM Γ E emI 0 0) Γ E 4 0 0 0 [(0, va_rf (some th)), (1, .int p1), (2, .int p2)] [] m (g_X10_hasLeave_0 th p1 p2 m) := by
  unfold g_X10_hasLeave_0
  refine z_bipush (v := 12) C dX10_hasLeave_0 (by decide) ?_
  refine z_aload_n C dX10_hasLeave_2 rfl 0 rfl ?_
  refine z_chk (fun hk8 => ?_)
  refine z_getI C fl_RX10_375 rfl hk8 dX10_hasLeave_3 ?_
  refine z_imul C dX10_hasLeave_6 ?_
  refine z_bndI (fun y1 => ?_)
  refine z_istore_n (i := 3) (L2 := [(3, .int y1), (0, va_rf (some th)), (1, .int p1), (2, .int p2)]) C dX10_hasLeave_7 rfl (by decide) rfl ?_
  exact z_sub [1, 2, 3, 0] rfl (t_X10_hasLeave_8 C hr hrm th p1 p2 FU y1 m)
def f_X10_hasLeave (th : Nat) (p1 : Int32) (p2 : Int32) (m : MM) : Option (Int32 × MM) := g_X10_hasLeave_0 th p1 p2 m
theorem M_X10_hasLeave (l : Launch) (E : EX) (th : Nat) (p1 : Int32) (p2 : Int32) (m : MM) (r : Int32) (m2 : MM) (h : f_X10_hasLeave th p1 p2 m = some (r, m2)) : Met l yX10_hasLeave (.code yX10_hasLeave cX10_hasLeave 4 (some .boolean) :: TB) rmX10_hasLeave (va_Pc [.ref th, .int p1, .int p2] (St E m)) (QR E (emI r) m2) 0 0 (AA E) :=
  met_of (em := emI) (plainFor_of_name rfl) (Nat.le_of_ble_eq_true rfl) (L0 := [(0, va_rf (some th)), (1, .int p1), (2, .int p2)]) rfl (fun Γ _ hrm C hr hn => s_X10_hasLeave_0 C hr hrm th p1 p2 m) h

theorem dX10_isSilent_0 : decode cX10_isSilent 0 = .ok (.aload_n 0, 1) := by decide +kernel
theorem dX10_isSilent_1 : decode cX10_isSilent 1 = .ok (.getfield 155, 3) := by decide +kernel
theorem dX10_isSilent_4 : decode cX10_isSilent 4 = .ok (.iload_n 2, 1) := by decide +kernel
theorem dX10_isSilent_5 : decode cX10_isSilent 5 = .ok (.iaload, 1) := by decide +kernel
theorem dX10_isSilent_6 : decode cX10_isSilent 6 = .ok (.aload_n 0, 1) := by decide +kernel
theorem dX10_isSilent_7 : decode cX10_isSilent 7 = .ok (.getfield 155, 3) := by decide +kernel
theorem dX10_isSilent_10 : decode cX10_isSilent 10 = .ok (.iload_n 3, 1) := by decide +kernel
theorem dX10_isSilent_11 : decode cX10_isSilent 11 = .ok (.iaload, 1) := by decide +kernel
theorem dX10_isSilent_12 : decode cX10_isSilent 12 = .ok (.if_icmp .le 12, 3) := by decide +kernel
theorem dX10_isSilent_15 : decode cX10_isSilent 15 = .ok (.aload_n 0, 1) := by decide +kernel
theorem dX10_isSilent_16 : decode cX10_isSilent 16 = .ok (.getfield 155, 3) := by decide +kernel
theorem dX10_isSilent_19 : decode cX10_isSilent 19 = .ok (.iload_n 2, 1) := by decide +kernel
theorem dX10_isSilent_20 : decode cX10_isSilent 20 = .ok (.iaload, 1) := by decide +kernel
theorem dX10_isSilent_21 : decode cX10_isSilent 21 = .ok (.goto 9, 3) := by decide +kernel
theorem dX10_isSilent_24 : decode cX10_isSilent 24 = .ok (.aload_n 0, 1) := by decide +kernel
theorem dX10_isSilent_25 : decode cX10_isSilent 25 = .ok (.getfield 155, 3) := by decide +kernel
theorem dX10_isSilent_28 : decode cX10_isSilent 28 = .ok (.iload_n 3, 1) := by decide +kernel
theorem dX10_isSilent_29 : decode cX10_isSilent 29 = .ok (.iaload, 1) := by decide +kernel
theorem dX10_isSilent_30 : decode cX10_isSilent 30 = .ok (.istore 4, 2) := by decide +kernel
theorem dX10_isSilent_32 : decode cX10_isSilent 32 = .ok (.aload_n 0, 1) := by decide +kernel
theorem dX10_isSilent_33 : decode cX10_isSilent 33 = .ok (.getfield 378, 3) := by decide +kernel
theorem dX10_isSilent_36 : decode cX10_isSilent 36 = .ok (.iload 4, 2) := by decide +kernel
theorem dX10_isSilent_38 : decode cX10_isSilent 38 = .ok (.iload_n 1, 1) := by decide +kernel
theorem dX10_isSilent_39 : decode cX10_isSilent 39 = .ok (.iadd, 1) := by decide +kernel
theorem dX10_isSilent_40 : decode cX10_isSilent 40 = .ok (.if_icmp .ge 5, 3) := by decide +kernel
theorem dX10_isSilent_43 : decode cX10_isSilent 43 = .ok (.iconst 0, 1) := by decide +kernel
theorem dX10_isSilent_44 : decode cX10_isSilent 44 = .ok (.ireturn, 1) := by decide +kernel
theorem dX10_isSilent_45 : decode cX10_isSilent 45 = .ok (.bipush 12, 2) := by decide +kernel
theorem dX10_isSilent_47 : decode cX10_isSilent 47 = .ok (.aload_n 0, 1) := by decide +kernel
theorem dX10_isSilent_48 : decode cX10_isSilent 48 = .ok (.getfield 375, 3) := by decide +kernel
theorem dX10_isSilent_51 : decode cX10_isSilent 51 = .ok (.imul, 1) := by decide +kernel
theorem dX10_isSilent_52 : decode cX10_isSilent 52 = .ok (.istore 5, 2) := by decide +kernel
theorem dX10_isSilent_54 : decode cX10_isSilent 54 = .ok (.iload 5, 2) := by decide +kernel
theorem dX10_isSilent_56 : decode cX10_isSilent 56 = .ok (.bipush 12, 2) := by decide +kernel
theorem dX10_isSilent_58 : decode cX10_isSilent 58 = .ok (.aload_n 0, 1) := by decide +kernel
theorem dX10_isSilent_59 : decode cX10_isSilent 59 = .ok (.getfield 375, 3) := by decide +kernel
theorem dX10_isSilent_62 : decode cX10_isSilent 62 = .ok (.imul, 1) := by decide +kernel
theorem dX10_isSilent_63 : decode cX10_isSilent 63 = .ok (.aload_n 0, 1) := by decide +kernel
theorem dX10_isSilent_64 : decode cX10_isSilent 64 = .ok (.aload_n 0, 1) := by decide +kernel
theorem dX10_isSilent_65 : decode cX10_isSilent 65 = .ok (.getfield 375, 3) := by decide +kernel
theorem dX10_isSilent_68 : decode cX10_isSilent 68 = .ok (.bipush 8, 2) := by decide +kernel
theorem dX10_isSilent_70 : decode cX10_isSilent 70 = .ok (.invokevirtual 196, 3) := by decide +kernel
theorem dX10_isSilent_73 : decode cX10_isSilent 73 = .ok (.iadd, 1) := by decide +kernel
theorem dX10_isSilent_74 : decode cX10_isSilent 74 = .ok (.if_icmp .ge 52, 3) := by decide +kernel
theorem dX10_isSilent_77 : decode cX10_isSilent 77 = .ok (.aload_n 0, 1) := by decide +kernel
theorem dX10_isSilent_78 : decode cX10_isSilent 78 = .ok (.getfield 77, 3) := by decide +kernel
theorem dX10_isSilent_81 : decode cX10_isSilent 81 = .ok (.iload 5, 2) := by decide +kernel
theorem dX10_isSilent_83 : decode cX10_isSilent 83 = .ok (.iaload, 1) := by decide +kernel
theorem dX10_isSilent_84 : decode cX10_isSilent 84 = .ok (.iload_n 3, 1) := by decide +kernel
theorem dX10_isSilent_85 : decode cX10_isSilent 85 = .ok (.if_icmp .ne 35, 3) := by decide +kernel
theorem dX10_isSilent_88 : decode cX10_isSilent 88 = .ok (.aload_n 0, 1) := by decide +kernel
theorem dX10_isSilent_89 : decode cX10_isSilent 89 = .ok (.getfield 80, 3) := by decide +kernel
theorem dX10_isSilent_92 : decode cX10_isSilent 92 = .ok (.iload 5, 2) := by decide +kernel
theorem dX10_isSilent_94 : decode cX10_isSilent 94 = .ok (.iaload, 1) := by decide +kernel
theorem dX10_isSilent_95 : decode cX10_isSilent 95 = .ok (.iload_n 2, 1) := by decide +kernel
theorem dX10_isSilent_96 : decode cX10_isSilent 96 = .ok (.if_icmp .ne 24, 3) := by decide +kernel
theorem dX10_isSilent_99 : decode cX10_isSilent 99 = .ok (.aload_n 0, 1) := by decide +kernel
theorem dX10_isSilent_100 : decode cX10_isSilent 100 = .ok (.getfield 83, 3) := by decide +kernel
theorem dX10_isSilent_103 : decode cX10_isSilent 103 = .ok (.iload 5, 2) := by decide +kernel
theorem dX10_isSilent_105 : decode cX10_isSilent 105 = .ok (.iaload, 1) := by decide +kernel
theorem dX10_isSilent_106 : decode cX10_isSilent 106 = .ok (.iload 4, 2) := by decide +kernel
theorem dX10_isSilent_108 : decode cX10_isSilent 108 = .ok (.iload 4, 2) := by decide +kernel
theorem dX10_isSilent_110 : decode cX10_isSilent 110 = .ok (.iload_n 1, 1) := by decide +kernel
theorem dX10_isSilent_111 : decode cX10_isSilent 111 = .ok (.iadd, 1) := by decide +kernel
theorem dX10_isSilent_112 : decode cX10_isSilent 112 = .ok (.invokestatic 188, 3) := by decide +kernel
theorem dX10_isSilent_115 : decode cX10_isSilent 115 = .ok (.ifCond .eq 5, 3) := by decide +kernel
theorem dX10_isSilent_118 : decode cX10_isSilent 118 = .ok (.iconst 0, 1) := by decide +kernel
theorem dX10_isSilent_119 : decode cX10_isSilent 119 = .ok (.ireturn, 1) := by decide +kernel
theorem dX10_isSilent_120 : decode cX10_isSilent 120 = .ok (.iinc 5 1, 3) := by decide +kernel
theorem dX10_isSilent_123 : decode cX10_isSilent 123 = .ok (.goto (-69), 3) := by decide +kernel
theorem dX10_isSilent_126 : decode cX10_isSilent 126 = .ok (.iconst 1, 1) := by decide +kernel
theorem dX10_isSilent_127 : decode cX10_isSilent 127 = .ok (.ireturn, 1) := by decide +kernel
def rmX10_isSilent : Room := { frames := 1, cells := 0, slots := 0, locals := 22 }
set_option maxRecDepth 100000 in
def g_X10_isSilent_120 (th : Nat) (p1 : Int32) (p2 : Int32) (p3 : Int32) (k54 : Int32 → Int32 → MM → Option (Int32 × MM)) (x4 : Int32) (x5 : Int32) (m : MM) : Option (Int32 × MM) :=
  k54 x4 (x5 + 1) m
set_option maxHeartbeats 4000000 in
set_option maxRecDepth 100000 in
theorem s_X10_isSilent_120 {Γ : GX} {E : EX} (C : Cx Γ E cX10_isSilent RX10 6) (hr : Γ.meth.sig.returnType = (some .boolean)) (hrm : Γ.rm = rmX10_isSilent) (th : Nat) (p1 : Int32) (p2 : Int32) (p3 : Int32) (k54 : Int32 → Int32 → MM → Option (Int32 × MM)) (h54 : ∀ (x4 : Int32) (x5 : Int32) (m : MM), Sm (QM Γ E emI 0 0) Γ E 6 0 0 54 [(0, va_rf (some th)), (1, .int p1), (2, .int p2), (3, .int p3), (4, .int x4), (5, .int x5)] [] m (k54 x4 x5 m)) (x4 : Int32) (x5 : Int32) (m : MM) : Sm (QM Γ E emI 0 0) Γ E 6 0 0 120 [(0, va_rf (some th)), (1, .int p1), (2, .int p2), (3, .int p3), (4, .int x4), (5, .int x5)] [] m (g_X10_isSilent_120 th p1 p2 p3 k54 x4 x5 m) := by
  unfold g_X10_isSilent_120
  refine z_iinc (v := 1) (L2 := [(5, .int (x5 + 1)), (0, va_rf (some th)), (1, .int p1), (2, .int p2), (3, .int p3), (4, .int x4)]) C dX10_isSilent_120 5 rfl (by decide) (by decide) rfl ?_
  refine z_goto (tgt := 54) C dX10_isSilent_123 (by decide) ?_
  exact z_sub [1, 2, 3, 4, 5, 0] rfl (h54 x4 (x5 + 1) m)
set_option maxRecDepth 100000 in
def g_X10_isSilent_54 (th : Nat) (p1 : Int32) (p2 : Int32) (p3 : Int32) (k54 : Int32 → Int32 → MM → Option (Int32 × MM)) (x4 : Int32) (x5 : Int32) (m : MM) : Option (Int32 × MM) :=
  chk (m.K th = 11) (cal (f_X10_of th (m.I 1166 th 0) 8 m) (fun r1 m1 => if ((12 * (m.I 1166 th 0)) + r1) ≤ x5 then (some (1, m1)) else (chk (m1.K th = 11) (ck m1 (m1.R 1123 th 0) 22 (fun a1 => chk (inb x5 (m1.N a1) = true) (if (m1.I 22 a1 (Int32.toNatClampNeg x5)) = p3 then (ck m1 (m1.R 1124 th 0) 22 (fun a2 => chk (inb x5 (m1.N a2) = true) (if (m1.I 22 a2 (Int32.toNatClampNeg x5)) = p2 then (ck m1 (m1.R 1125 th 0) 22 (fun a3 => chk (inb x5 (m1.N a3) = true) (cal (f_X10_in (m1.I 22 a3 (Int32.toNatClampNeg x5)) x4 (x4 + p1) m1) (fun r2 m2 => if r2 = 0 then (g_X10_isSilent_120 th p1 p2 p3 k54 x4 x5 m2) else (some (0, m2)))))) else (g_X10_isSilent_120 th p1 p2 p3 k54 x4 x5 m1)))) else (g_X10_isSilent_120 th p1 p2 p3 k54 x4 x5 m1)))))))
set_option maxHeartbeats 4000000 in
set_option maxRecDepth 100000 in
theorem s_X10_isSilent_54 {Γ : GX} {E : EX} (C : Cx Γ E cX10_isSilent RX10 6) (hr : Γ.meth.sig.returnType = (some .boolean)) (hrm : Γ.rm = rmX10_isSilent) (th : Nat) (p1 : Int32) (p2 : Int32) (p3 : Int32) (k54 : Int32 → Int32 → MM → Option (Int32 × MM)) (h54 : ∀ (x4 : Int32) (x5 : Int32) (m : MM), Sm (QM Γ E emI 0 0) Γ E 6 0 0 54 [(0, va_rf (some th)), (1, .int p1), (2, .int p2), (3, .int p3), (4, .int x4), (5, .int x5)] [] m (k54 x4 x5 m)) (x4 : Int32) (x5 : Int32) (m : MM) : Sm (QM Γ E emI 0 0) Γ E 6 0 0 54 [(0, va_rf (some th)), (1, .int p1), (2, .int p2), (3, .int p3), (4, .int x4), (5, .int x5)] [] m (g_X10_isSilent_54 th p1 p2 p3 k54 x4 x5 m) := by
  unfold g_X10_isSilent_54
  refine z_iload C dX10_isSilent_54 5 rfl ?_
  refine z_bipush (v := 12) C dX10_isSilent_56 (by decide) ?_
  refine z_aload_n C dX10_isSilent_58 rfl 0 rfl ?_
  refine z_chk (fun hk1 => ?_)
  refine z_getI C fl_RX10_375 rfl hk1 dX10_isSilent_59 ?_
  refine z_imul C dX10_isSilent_62 ?_
  refine z_aload_n C dX10_isSilent_63 rfl 0 rfl ?_
  refine z_aload_n C dX10_isSilent_64 rfl 0 rfl ?_
  refine z_getI C fl_RX10_375 rfl hk1 dX10_isSilent_65 ?_
  refine z_bipush (v := 8) C dX10_isSilent_68 (by decide) ?_
  refine z_cVI [.int (m.I 1166 th 0), .int 8] [.int (12 * (m.I 1166 th 0)), .int x5] C mv_RX10_196 (fun r0 m0 h0 => M_X10_of _ _ _ _ _ _ _ _ h0) rfl rfl ⟨by rw [hrm]; exact Nat.le_of_ble_eq_true rfl, by rw [hrm]; exact Nat.le_of_ble_eq_true rfl⟩ ⟨by rw [hrm]; exact Nat.le_of_ble_eq_true rfl, by rw [hrm]; exact Nat.le_of_ble_eq_true rfl⟩ rfl hk1 rfl rfl rfl (Nat.le_of_ble_eq_true rfl) dX10_isSilent_70 (fun r1 m1 => ?_)
  refine z_iadd C dX10_isSilent_73 ?_
  refine z_icmp_ge (tgt := 126) C dX10_isSilent_74 (by decide) (fun c1 => ?_) (fun c1 => ?_)
  · refine z_iconst (v := 1) C dX10_isSilent_126 (by decide) ?_
    exact z_zret C hr rfl dX10_isSilent_127
  · refine z_aload_n C dX10_isSilent_77 rfl 0 rfl ?_
    refine z_chk (fun hk2 => ?_)
    refine z_getR C fl_RX10_77 rfl hk2 dX10_isSilent_78 ?_
    refine z_iload C dX10_isSilent_81 5 rfl ?_
    refine z_ck (fun a1 hr1 hk3 => ?_)
    refine z_chk (fun hj1 => ?_)
    refine z_iald C hr1 hk3 hj1 dX10_isSilent_83 ?_
    refine z_iload_n C dX10_isSilent_84 rfl 3 rfl ?_
    refine z_icmp_ne (tgt := 120) C dX10_isSilent_85 (by decide) (fun c2 => ?_) (fun c2 => ?_)
    · exact z_sub [0, 1, 2, 3, 4, 5] rfl (s_X10_isSilent_120 C hr hrm th p1 p2 p3 k54 h54 x4 x5 m1)
    · refine z_aload_n C dX10_isSilent_88 rfl 0 rfl ?_
      refine z_getR C fl_RX10_80 rfl hk2 dX10_isSilent_89 ?_
      refine z_iload C dX10_isSilent_92 5 rfl ?_
      refine z_ck (fun a2 hr2 hk4 => ?_)
      refine z_chk (fun hj2 => ?_)
      refine z_iald C hr2 hk4 hj2 dX10_isSilent_94 ?_
      refine z_iload_n C dX10_isSilent_95 rfl 2 rfl ?_
      refine z_icmp_ne (tgt := 120) C dX10_isSilent_96 (by decide) (fun c3 => ?_) (fun c3 => ?_)
      · exact z_sub [0, 1, 2, 3, 4, 5] rfl (s_X10_isSilent_120 C hr hrm th p1 p2 p3 k54 h54 x4 x5 m1)
      · refine z_aload_n C dX10_isSilent_99 rfl 0 rfl ?_
        refine z_getR C fl_RX10_83 rfl hk2 dX10_isSilent_100 ?_
        refine z_iload C dX10_isSilent_103 5 rfl ?_
        refine z_ck (fun a3 hr3 hk5 => ?_)
        refine z_chk (fun hj3 => ?_)
        refine z_iald C hr3 hk5 hj3 dX10_isSilent_105 ?_
        refine z_iload C dX10_isSilent_106 4 rfl ?_
        refine z_iload C dX10_isSilent_108 4 rfl ?_
        refine z_iload_n C dX10_isSilent_110 rfl 1 rfl ?_
        refine z_iadd C dX10_isSilent_111 ?_
        refine z_cSI [.int (m1.I 22 a3 (Int32.toNatClampNeg x5)), .int x4, .int (x4 + p1)] [] C mv_RX10_188 (fun r0 m0 h0 => M_X10_in _ _ _ _ _ _ _ _ h0) rfl rfl ⟨by rw [hrm]; exact Nat.le_of_ble_eq_true rfl, by rw [hrm]; exact Nat.le_of_ble_eq_true rfl⟩ ⟨by rw [hrm]; exact Nat.le_of_ble_eq_true rfl, by rw [hrm]; exact Nat.le_of_ble_eq_true rfl⟩ rfl rfl (Nat.le_of_ble_eq_true rfl) dX10_isSilent_112 (fun r2 m2 => ?_)
        refine z_if_eq (tgt := 120) C dX10_isSilent_115 (by decide) (fun c4 => ?_) (fun c4 => ?_)
        · exact z_sub [0, 1, 2, 3, 4, 5] rfl (s_X10_isSilent_120 C hr hrm th p1 p2 p3 k54 h54 x4 x5 m2)
        · refine z_iconst (v := 0) C dX10_isSilent_118 (by decide) ?_
          exact z_zret C hr rfl dX10_isSilent_119
def l_X10_isSilent_54 (th : Nat) (p1 : Int32) (p2 : Int32) (p3 : Int32) : Nat → Int32 → Int32 → MM → Option (Int32 × MM) := lp (fun _ _ _ => none) (fun k54 => g_X10_isSilent_54 th p1 p2 p3 k54)
theorem t_X10_isSilent_54 {Γ : GX} {E : EX} (C : Cx Γ E cX10_isSilent RX10 6) (hr : Γ.meth.sig.returnType = (some .boolean)) (hrm : Γ.rm = rmX10_isSilent) (th : Nat) (p1 : Int32) (p2 : Int32) (p3 : Int32) : ∀ (n : Nat) (x4 : Int32) (x5 : Int32) (m : MM), Sm (QM Γ E emI 0 0) Γ E 6 0 0 54 [(0, va_rf (some th)), (1, .int p1), (2, .int p2), (3, .int p3), (4, .int x4), (5, .int x5)] [] m (l_X10_isSilent_54 th p1 p2 p3 n x4 x5 m) := by
  intro n
  induction n with
  | zero => intros; exact z_none
  | succ n ih => intro x4 x5 m; exact s_X10_isSilent_54 C hr hrm th p1 p2 p3 (l_X10_isSilent_54 th p1 p2 p3 n) ih x4 x5 m
set_option maxRecDepth 100000 in
def g_X10_isSilent_30 (th : Nat) (p1 : Int32) (p2 : Int32) (p3 : Int32) (s0 : Int32) (m : MM) : Option (Int32 × MM) :=
  chk (m.K th = 11) (if (s0 + p1) ≤ (m.I 1167 th 0) then (bnd (12 * (m.I 1166 th 0)) (fun y1 => l_X10_isSilent_54 th p1 p2 p3 FU s0 y1 m)) else (some (0, m)))
set_option maxHeartbeats 4000000 in
set_option maxRecDepth 100000 in
theorem s_X10_isSilent_30 {Γ : GX} {E : EX} (C : Cx Γ E cX10_isSilent RX10 6) (hr : Γ.meth.sig.returnType = (some .boolean)) (hrm : Γ.rm = rmX10_isSilent) (th : Nat) (p1 : Int32) (p2 : Int32) (p3 : Int32) (s0 : Int32) (m : MM) : Sm (QM Γ E emI 0 0) Γ E 6 0 0 30 [(0, va_rf (some th)), (1, .int p1), (2, .int p2), (3, .int p3)] [.int s0] m (g_X10_isSilent_30 th p1 p2 p3 s0 m) := by
  unfold g_X10_isSilent_30
  refine z_istore (i := 4) (L2 := [(4, .int s0), (0, va_rf (some th)), (1, .int p1), (2, .int p2), (3, .int p3)]) C dX10_isSilent_30 (by decide) rfl ?_
  refine z_aload_n C dX10_isSilent_32 rfl 1 rfl ?_
  refine z_chk (fun hk6 => ?_)
  refine z_getI C fl_RX10_378 rfl hk6 dX10_isSilent_33 ?_
  refine z_iload C dX10_isSilent_36 0 rfl ?_
  refine z_iload_n C dX10_isSilent_38 rfl 2 rfl ?_
  refine z_iadd C dX10_isSilent_39 ?_
  refine z_icmp_ge (tgt := 45) C dX10_isSilent_40 (by decide) (fun c5 => ?_) (fun c5 => ?_)
  · refine z_bipush (v := 12) C dX10_isSilent_45 (by decide) ?_
    refine z_aload_n C dX10_isSilent_47 rfl 1 rfl ?_
    refine z_getI C fl_RX10_375 rfl hk6 dX10_isSilent_48 ?_
    refine z_imul C dX10_isSilent_51 ?_
    refine z_bndI (fun y1 => ?_)
    refine z_istore (i := 5) (L2 := [(5, .int y1), (4, .int s0), (0, va_rf (some th)), (1, .int p1), (2, .int p2), (3, .int p3)]) C dX10_isSilent_52 (by decide) rfl ?_
    exact z_sub [2, 3, 4, 5, 1, 0] rfl (t_X10_isSilent_54 C hr hrm th p1 p2 p3 FU s0 y1 m)
  · refine z_iconst (v := 0) C dX10_isSilent_43 (by decide) ?_
    exact z_zret C hr rfl dX10_isSilent_44
set_option maxRecDepth 100000 in
def g_X10_isSilent_0 (th : Nat) (p1 : Int32) (p2 : Int32) (p3 : Int32) (m : MM) : Option (Int32 × MM) :=
  chk (m.K th = 11) (ck m (m.R 1164 th 0) 22 (fun a4 => chk (inb p2 (m.N a4) = true) (chk (inb p3 (m.N a4) = true) (if (m.I 22 a4 (Int32.toNatClampNeg p2)) ≤ (m.I 22 a4 (Int32.toNatClampNeg p3)) then (chk (inb p3 (m.N a4) = true) (g_X10_isSilent_30 th p1 p2 p3 (m.I 22 a4 (Int32.toNatClampNeg p3)) m)) else (chk (inb p2 (m.N a4) = true) (g_X10_isSilent_30 th p1 p2 p3 (m.I 22 a4 (Int32.toNatClampNeg p2)) m))))))
set_option maxHeartbeats 4000000 in
set_option maxRecDepth 100000 in
theorem s_X10_isSilent_0 {Γ : GX} {E : EX} (C : Cx Γ E cX10_isSilent RX10 6) (hr : Γ.meth.sig.returnType = (some .boolean)) (hrm : Γ.rm = rmX10_isSilent) (th : Nat) (p1 : Int32) (p2 : Int32) (p3 : Int32) (m : MM) : Sm (QM Γ E emI 0 0) Γ E 6 0 0 0 [(0, va_rf (some th)), (1, .int p1), (2, .int p2), (3, .int p3)] [] m (g_X10_isSilent_0 th p1 p2 p3 m) := by
  unfold g_X10_isSilent_0
  refine z_aload_n C dX10_isSilent_0 rfl 0 rfl ?_
  refine z_chk (fun hk7 => ?_)
  refine z_getR C fl_RX10_155 rfl hk7 dX10_isSilent_1 ?_
  refine z_iload_n C dX10_isSilent_4 rfl 2 rfl ?_
  refine z_ck (fun a4 hr4 hk8 => ?_)
  refine z_chk (fun hj4 => ?_)
  refine z_iald C hr4 hk8 hj4 dX10_isSilent_5 ?_
  refine z_aload_n C dX10_isSilent_6 rfl 0 rfl ?_
  refine z_getR C fl_RX10_155 rfl hk7 dX10_isSilent_7 ?_
  refine z_iload_n C dX10_isSilent_10 rfl 3 rfl ?_
  refine z_chk (fun hj5 => ?_)
  refine z_iald C hr4 hk8 hj5 dX10_isSilent_11 ?_
  refine z_icmp_le (tgt := 24) C dX10_isSilent_12 (by decide) (fun c6 => ?_) (fun c6 => ?_)
  · refine z_aload_n C dX10_isSilent_24 rfl 0 rfl ?_
    refine z_getR C fl_RX10_155 rfl hk7 dX10_isSilent_25 ?_
    refine z_iload_n C dX10_isSilent_28 rfl 3 rfl ?_
    refine z_chk (fun hj6 => ?_)
    refine z_iald C hr4 hk8 hj6 dX10_isSilent_29 ?_
    exact z_sub [0, 1, 2, 3] rfl (s_X10_isSilent_30 C hr hrm th p1 p2 p3 (m.I 22 a4 (Int32.toNatClampNeg p3)) m)
  · refine z_aload_n C dX10_isSilent_15 rfl 0 rfl ?_
    refine z_getR C fl_RX10_155 rfl hk7 dX10_isSilent_16 ?_
    refine z_iload_n C dX10_isSilent_19 rfl 2 rfl ?_
    refine z_chk (fun hj7 => ?_)
    refine z_iald C hr4 hk8 hj7 dX10_isSilent_20 ?_
    refine z_goto (tgt := 30) C dX10_isSilent_21 (by decide) ?_
    exact z_sub [0, 1, 2, 3] rfl (s_X10_isSilent_30 C hr hrm th p1 p2 p3 (m.I 22 a4 (Int32.toNatClampNeg p2)) m)
def f_X10_isSilent (th : Nat) (p1 : Int32) (p2 : Int32) (p3 : Int32) (m : MM) : Option (Int32 × MM) := g_X10_isSilent_0 th p1 p2 p3 m
theorem M_X10_isSilent (l : Launch) (E : EX) (th : Nat) (p1 : Int32) (p2 : Int32) (p3 : Int32) (m : MM) (r : Int32) (m2 : MM) (h : f_X10_isSilent th p1 p2 p3 m = some (r, m2)) : Met l yX10_isSilent (.code yX10_isSilent cX10_isSilent 6 (some .boolean) :: TB) rmX10_isSilent (va_Pc [.ref th, .int p1, .int p2, .int p3] (St E m)) (QR E (emI r) m2) 0 0 (AA E) :=
  met_of (em := emI) (plainFor_of_name rfl) (Nat.le_of_ble_eq_true rfl) (L0 := [(0, va_rf (some th)), (1, .int p1), (2, .int p2), (3, .int p3)]) rfl (fun Γ _ hrm C hr hn => s_X10_isSilent_0 C hr hrm th p1 p2 p3 m) h

theorem dX10_goer_0 : decode cX10_goer 0 = .ok (.aload_n 0, 1) := by decide +kernel
theorem dX10_goer_1 : decode cX10_goer 1 = .ok (.getfield 158, 3) := by decide +kernel
theorem dX10_goer_4 : decode cX10_goer 4 = .ok (.iload_n 2, 1) := by decide +kernel
theorem dX10_goer_5 : decode cX10_goer 5 = .ok (.iaload, 1) := by decide +kernel
theorem dX10_goer_6 : decode cX10_goer 6 = .ok (.istore_n 3, 1) := by decide +kernel
theorem dX10_goer_7 : decode cX10_goer 7 = .ok (.aload_n 0, 1) := by decide +kernel
theorem dX10_goer_8 : decode cX10_goer 8 = .ok (.getfield 161, 3) := by decide +kernel
theorem dX10_goer_11 : decode cX10_goer 11 = .ok (.iload_n 2, 1) := by decide +kernel
theorem dX10_goer_12 : decode cX10_goer 12 = .ok (.iaload, 1) := by decide +kernel
theorem dX10_goer_13 : decode cX10_goer 13 = .ok (.istore 4, 2) := by decide +kernel
theorem dX10_goer_15 : decode cX10_goer 15 = .ok (.aload_n 0, 1) := by decide +kernel
theorem dX10_goer_16 : decode cX10_goer 16 = .ok (.getfield 98, 3) := by decide +kernel
theorem dX10_goer_19 : decode cX10_goer 19 = .ok (.iload_n 1, 1) := by decide +kernel
theorem dX10_goer_20 : decode cX10_goer 20 = .ok (.iaload, 1) := by decide +kernel
theorem dX10_goer_21 : decode cX10_goer 21 = .ok (.iconst 1, 1) := by decide +kernel
theorem dX10_goer_22 : decode cX10_goer 22 = .ok (.if_icmp .eq 13, 3) := by decide +kernel
theorem dX10_goer_25 : decode cX10_goer 25 = .ok (.aload_n 0, 1) := by decide +kernel
theorem dX10_goer_26 : decode cX10_goer 26 = .ok (.iload_n 3, 1) := by decide +kernel
theorem dX10_goer_27 : decode cX10_goer 27 = .ok (.iload 4, 2) := by decide +kernel
theorem dX10_goer_29 : decode cX10_goer 29 = .ok (.invokevirtual 455, 3) := by decide +kernel
theorem dX10_goer_32 : decode cX10_goer 32 = .ok (.ifCond .eq 7, 3) := by decide +kernel
theorem dX10_goer_35 : decode cX10_goer 35 = .ok (.iload_n 3, 1) := by decide +kernel
theorem dX10_goer_36 : decode cX10_goer 36 = .ok (.goto 5, 3) := by decide +kernel
theorem dX10_goer_39 : decode cX10_goer 39 = .ok (.iload 4, 2) := by decide +kernel
theorem dX10_goer_41 : decode cX10_goer 41 = .ok (.istore 5, 2) := by decide +kernel
theorem dX10_goer_43 : decode cX10_goer 43 = .ok (.iload 5, 2) := by decide +kernel
theorem dX10_goer_45 : decode cX10_goer 45 = .ok (.iload_n 3, 1) := by decide +kernel
theorem dX10_goer_46 : decode cX10_goer 46 = .ok (.if_icmp .ne 8, 3) := by decide +kernel
theorem dX10_goer_49 : decode cX10_goer 49 = .ok (.iload 4, 2) := by decide +kernel
theorem dX10_goer_51 : decode cX10_goer 51 = .ok (.goto 4, 3) := by decide +kernel
theorem dX10_goer_54 : decode cX10_goer 54 = .ok (.iload_n 3, 1) := by decide +kernel
theorem dX10_goer_55 : decode cX10_goer 55 = .ok (.istore 6, 2) := by decide +kernel
theorem dX10_goer_57 : decode cX10_goer 57 = .ok (.aload_n 0, 1) := by decide +kernel
theorem dX10_goer_58 : decode cX10_goer 58 = .ok (.getfield 101, 3) := by decide +kernel
theorem dX10_goer_61 : decode cX10_goer 61 = .ok (.iload_n 1, 1) := by decide +kernel
theorem dX10_goer_62 : decode cX10_goer 62 = .ok (.iaload, 1) := by decide +kernel
theorem dX10_goer_63 : decode cX10_goer 63 = .ok (.iconst 1, 1) := by decide +kernel
theorem dX10_goer_64 : decode cX10_goer 64 = .ok (.if_icmp .ne 14, 3) := by decide +kernel
theorem dX10_goer_67 : decode cX10_goer 67 = .ok (.aload_n 0, 1) := by decide +kernel
theorem dX10_goer_68 : decode cX10_goer 68 = .ok (.iload 5, 2) := by decide +kernel
theorem dX10_goer_70 : decode cX10_goer 70 = .ok (.iload 6, 2) := by decide +kernel
theorem dX10_goer_72 : decode cX10_goer 72 = .ok (.invokevirtual 458, 3) := by decide +kernel
theorem dX10_goer_75 : decode cX10_goer 75 = .ok (.ifCond .ne 30, 3) := by decide +kernel
theorem dX10_goer_78 : decode cX10_goer 78 = .ok (.aload_n 0, 1) := by decide +kernel
theorem dX10_goer_79 : decode cX10_goer 79 = .ok (.getfield 104, 3) := by decide +kernel
theorem dX10_goer_82 : decode cX10_goer 82 = .ok (.iload_n 1, 1) := by decide +kernel
theorem dX10_goer_83 : decode cX10_goer 83 = .ok (.iaload, 1) := by decide +kernel
theorem dX10_goer_84 : decode cX10_goer 84 = .ok (.iconst (-1), 1) := by decide +kernel
theorem dX10_goer_85 : decode cX10_goer 85 = .ok (.if_icmp .eq 24, 3) := by decide +kernel
theorem dX10_goer_88 : decode cX10_goer 88 = .ok (.aload_n 0, 1) := by decide +kernel
theorem dX10_goer_89 : decode cX10_goer 89 = .ok (.aload_n 0, 1) := by decide +kernel
theorem dX10_goer_90 : decode cX10_goer 90 = .ok (.getfield 104, 3) := by decide +kernel
theorem dX10_goer_93 : decode cX10_goer 93 = .ok (.iload_n 1, 1) := by decide +kernel
theorem dX10_goer_94 : decode cX10_goer 94 = .ok (.iaload, 1) := by decide +kernel
theorem dX10_goer_95 : decode cX10_goer 95 = .ok (.iload 5, 2) := by decide +kernel
theorem dX10_goer_97 : decode cX10_goer 97 = .ok (.iload 6, 2) := by decide +kernel
theorem dX10_goer_99 : decode cX10_goer 99 = .ok (.invokevirtual 461, 3) := by decide +kernel
theorem dX10_goer_102 : decode cX10_goer 102 = .ok (.ifCond .eq 7, 3) := by decide +kernel
theorem dX10_goer_105 : decode cX10_goer 105 = .ok (.iconst 1, 1) := by decide +kernel
theorem dX10_goer_106 : decode cX10_goer 106 = .ok (.goto 4, 3) := by decide +kernel
theorem dX10_goer_109 : decode cX10_goer 109 = .ok (.iconst 0, 1) := by decide +kernel
theorem dX10_goer_110 : decode cX10_goer 110 = .ok (.istore 7, 2) := by decide +kernel
theorem dX10_goer_112 : decode cX10_goer 112 = .ok (.iload 7, 2) := by decide +kernel
theorem dX10_goer_114 : decode cX10_goer 114 = .ok (.ifCond .eq 7, 3) := by decide +kernel
theorem dX10_goer_117 : decode cX10_goer 117 = .ok (.iconst (-1), 1) := by decide +kernel
theorem dX10_goer_118 : decode cX10_goer 118 = .ok (.goto 5, 3) := by decide +kernel
theorem dX10_goer_121 : decode cX10_goer 121 = .ok (.iload 5, 2) := by decide +kernel
theorem dX10_goer_123 : decode cX10_goer 123 = .ok (.ireturn, 1) := by decide +kernel
def rmX10_goer : Room := { frames := 2, cells := 0, slots := 0, locals := 47 }
set_option maxRecDepth 100000 in
def g_X10_goer_110 (th : Nat) (p1 : Int32) (p2 : Int32) (x5 : Int32) (s0 : Int32) (m : MM) : Option (Int32 × MM) :=
  if s0 = 0 then (some (x5, m)) else (some ((-1), m))
set_option maxHeartbeats 4000000 in
set_option maxRecDepth 100000 in
theorem s_X10_goer_110 {Γ : GX} {E : EX} (C : Cx Γ E cX10_goer RX10 8) (hr : Γ.meth.sig.returnType = (some .int)) (hrm : Γ.rm = rmX10_goer) (th : Nat) (p1 : Int32) (p2 : Int32) (x5 : Int32) (s0 : Int32) (m : MM) : Sm (QM Γ E emI 0 0) Γ E 8 0 0 110 [(0, va_rf (some th)), (1, .int p1), (2, .int p2), (5, .int x5)] [.int s0] m (g_X10_goer_110 th p1 p2 x5 s0 m) := by
  unfold g_X10_goer_110
  refine z_istore (i := 7) (L2 := [(7, .int s0), (0, va_rf (some th)), (1, .int p1), (2, .int p2), (5, .int x5)]) C dX10_goer_110 (by decide) rfl ?_
  refine z_iload C dX10_goer_112 0 rfl ?_
  refine z_if_eq (tgt := 121) C dX10_goer_114 (by decide) (fun c1 => ?_) (fun c1 => ?_)
  · refine z_iload C dX10_goer_121 4 rfl ?_
    exact z_iret C hr dX10_goer_123
  · refine z_iconst (v := (-1)) C dX10_goer_117 (by decide) ?_
    refine z_goto (tgt := 123) C dX10_goer_118 (by decide) ?_
    exact z_iret C hr dX10_goer_123
set_option maxRecDepth 100000 in
def g_X10_goer_109 (th : Nat) (p1 : Int32) (p2 : Int32) (x5 : Int32) (m : MM) : Option (Int32 × MM) :=
  g_X10_goer_110 th p1 p2 x5 0 m
set_option maxHeartbeats 4000000 in
set_option maxRecDepth 100000 in
theorem s_X10_goer_109 {Γ : GX} {E : EX} (C : Cx Γ E cX10_goer RX10 8) (hr : Γ.meth.sig.returnType = (some .int)) (hrm : Γ.rm = rmX10_goer) (th : Nat) (p1 : Int32) (p2 : Int32) (x5 : Int32) (m : MM) : Sm (QM Γ E emI 0 0) Γ E 8 0 0 109 [(0, va_rf (some th)), (1, .int p1), (2, .int p2), (5, .int x5)] [] m (g_X10_goer_109 th p1 p2 x5 m) := by
  unfold g_X10_goer_109
  refine z_iconst (v := 0) C dX10_goer_109 (by decide) ?_
  exact z_sub [0, 1, 2, 3] rfl (s_X10_goer_110 C hr hrm th p1 p2 x5 0 m)
set_option maxRecDepth 100000 in
def g_X10_goer_105 (th : Nat) (p1 : Int32) (p2 : Int32) (x5 : Int32) (m : MM) : Option (Int32 × MM) :=
  g_X10_goer_110 th p1 p2 x5 1 m
set_option maxHeartbeats 4000000 in
set_option maxRecDepth 100000 in
theorem s_X10_goer_105 {Γ : GX} {E : EX} (C : Cx Γ E cX10_goer RX10 8) (hr : Γ.meth.sig.returnType = (some .int)) (hrm : Γ.rm = rmX10_goer) (th : Nat) (p1 : Int32) (p2 : Int32) (x5 : Int32) (m : MM) : Sm (QM Γ E emI 0 0) Γ E 8 0 0 105 [(0, va_rf (some th)), (1, .int p1), (2, .int p2), (5, .int x5)] [] m (g_X10_goer_105 th p1 p2 x5 m) := by
  unfold g_X10_goer_105
  refine z_iconst (v := 1) C dX10_goer_105 (by decide) ?_
  refine z_goto (tgt := 110) C dX10_goer_106 (by decide) ?_
  exact z_sub [0, 1, 2, 3] rfl (s_X10_goer_110 C hr hrm th p1 p2 x5 1 m)
set_option maxRecDepth 100000 in
def g_X10_goer_78 (th : Nat) (p1 : Int32) (p2 : Int32) (x5 : Int32) (x6 : Int32) (m : MM) : Option (Int32 × MM) :=
  chk (m.K th = 11) (ck m (m.R 1132 th 0) 22 (fun a1 => chk (inb p1 (m.N a1) = true) (if (m.I 22 a1 (Int32.toNatClampNeg p1)) = (-1) then (g_X10_goer_109 th p1 p2 x5 m) else (chk (inb p1 (m.N a1) = true) (cal (f_X10_isSilent th (m.I 22 a1 (Int32.toNatClampNeg p1)) x5 x6 m) (fun r1 m1 => if r1 = 0 then (g_X10_goer_109 th p1 p2 x5 m1) else (g_X10_goer_105 th p1 p2 x5 m1)))))))
set_option maxHeartbeats 4000000 in
set_option maxRecDepth 100000 in
theorem s_X10_goer_78 {Γ : GX} {E : EX} (C : Cx Γ E cX10_goer RX10 8) (hr : Γ.meth.sig.returnType = (some .int)) (hrm : Γ.rm = rmX10_goer) (th : Nat) (p1 : Int32) (p2 : Int32) (x5 : Int32) (x6 : Int32) (m : MM) : Sm (QM Γ E emI 0 0) Γ E 8 0 0 78 [(0, va_rf (some th)), (1, .int p1), (2, .int p2), (5, .int x5), (6, .int x6)] [] m (g_X10_goer_78 th p1 p2 x5 x6 m) := by
  unfold g_X10_goer_78
  refine z_aload_n C dX10_goer_78 rfl 0 rfl ?_
  refine z_chk (fun hk1 => ?_)
  refine z_getR C fl_RX10_104 rfl hk1 dX10_goer_79 ?_
  refine z_iload_n C dX10_goer_82 rfl 1 rfl ?_
  refine z_ck (fun a1 hr1 hk2 => ?_)
  refine z_chk (fun hj1 => ?_)
  refine z_iald C hr1 hk2 hj1 dX10_goer_83 ?_
  refine z_iconst (v := (-1)) C dX10_goer_84 (by decide) ?_
  refine z_icmp_eq (tgt := 109) C dX10_goer_85 (by decide) (fun c2 => ?_) (fun c2 => ?_)
  · exact z_sub [0, 1, 2, 3] rfl (s_X10_goer_109 C hr hrm th p1 p2 x5 m)
  · refine z_aload_n C dX10_goer_88 rfl 0 rfl ?_
    refine z_aload_n C dX10_goer_89 rfl 0 rfl ?_
    refine z_getR C fl_RX10_104 rfl hk1 dX10_goer_90 ?_
    refine z_iload_n C dX10_goer_93 rfl 1 rfl ?_
    refine z_chk (fun hj2 => ?_)
    refine z_iald C hr1 hk2 hj2 dX10_goer_94 ?_
    refine z_iload C dX10_goer_95 3 rfl ?_
    refine z_iload C dX10_goer_97 4 rfl ?_
    refine z_cVI [.int (m.I 22 a1 (Int32.toNatClampNeg p1)), .int x5, .int x6] [] C mv_RX10_461 (fun r0 m0 h0 => M_X10_isSilent _ _ _ _ _ _ _ _ _ h0) rfl rfl ⟨by rw [hrm]; exact Nat.le_of_ble_eq_true rfl, by rw [hrm]; exact Nat.le_of_ble_eq_true rfl⟩ ⟨by rw [hrm]; exact Nat.le_of_ble_eq_true rfl, by rw [hrm]; exact Nat.le_of_ble_eq_true rfl⟩ rfl hk1 rfl rfl rfl (Nat.le_of_ble_eq_true rfl) dX10_goer_99 (fun r1 m1 => ?_)
    refine z_if_eq (tgt := 109) C dX10_goer_102 (by decide) (fun c3 => ?_) (fun c3 => ?_)
    · exact z_sub [0, 1, 2, 3] rfl (s_X10_goer_109 C hr hrm th p1 p2 x5 m1)
    · exact z_sub [0, 1, 2, 3] rfl (s_X10_goer_105 C hr hrm th p1 p2 x5 m1)
set_option maxRecDepth 100000 in
def g_X10_goer_55 (th : Nat) (p1 : Int32) (p2 : Int32) (x5 : Int32) (s0 : Int32) (m : MM) : Option (Int32 × MM) :=
  chk (m.K th = 11) (ck m (m.R 1131 th 0) 22 (fun a2 => chk (inb p1 (m.N a2) = true) (if (m.I 22 a2 (Int32.toNatClampNeg p1)) = 1 then (cal (f_X10_hasLeave th x5 s0 m) (fun r2 m2 => if r2 = 0 then (g_X10_goer_78 th p1 p2 x5 s0 m2) else (g_X10_goer_105 th p1 p2 x5 m2))) else (g_X10_goer_78 th p1 p2 x5 s0 m))))
set_option maxHeartbeats 4000000 in
set_option maxRecDepth 100000 in
theorem s_X10_goer_55 {Γ : GX} {E : EX} (C : Cx Γ E cX10_goer RX10 8) (hr : Γ.meth.sig.returnType = (some .int)) (hrm : Γ.rm = rmX10_goer) (th : Nat) (p1 : Int32) (p2 : Int32) (x5 : Int32) (s0 : Int32) (m : MM) : Sm (QM Γ E emI 0 0) Γ E 8 0 0 55 [(0, va_rf (some th)), (1, .int p1), (2, .int p2), (5, .int x5)] [.int s0] m (g_X10_goer_55 th p1 p2 x5 s0 m) := by
  unfold g_X10_goer_55
  refine z_istore (i := 6) (L2 := [(6, .int s0), (0, va_rf (some th)), (1, .int p1), (2, .int p2), (5, .int x5)]) C dX10_goer_55 (by decide) rfl ?_
  refine z_aload_n C dX10_goer_57 rfl 1 rfl ?_
  refine z_chk (fun hk3 => ?_)
  refine z_getR C fl_RX10_101 rfl hk3 dX10_goer_58 ?_
  refine z_iload_n C dX10_goer_61 rfl 2 rfl ?_
  refine z_ck (fun a2 hr2 hk4 => ?_)
  refine z_chk (fun hj3 => ?_)
  refine z_iald C hr2 hk4 hj3 dX10_goer_62 ?_
  refine z_iconst (v := 1) C dX10_goer_63 (by decide) ?_
  refine z_icmp_ne (tgt := 78) C dX10_goer_64 (by decide) (fun c4 => ?_) (fun c4 => ?_)
  · exact z_sub [1, 2, 3, 4, 0] rfl (s_X10_goer_78 C hr hrm th p1 p2 x5 s0 m)
  · refine z_aload_n C dX10_goer_67 rfl 1 rfl ?_
    refine z_iload C dX10_goer_68 4 rfl ?_
    refine z_iload C dX10_goer_70 0 rfl ?_
    refine z_cVI [.int x5, .int s0] [] C mv_RX10_458 (fun r0 m0 h0 => M_X10_hasLeave _ _ _ _ _ _ _ _ h0) rfl rfl ⟨by rw [hrm]; exact Nat.le_of_ble_eq_true rfl, by rw [hrm]; exact Nat.le_of_ble_eq_true rfl⟩ ⟨by rw [hrm]; exact Nat.le_of_ble_eq_true rfl, by rw [hrm]; exact Nat.le_of_ble_eq_true rfl⟩ rfl hk3 rfl rfl rfl (Nat.le_of_ble_eq_true rfl) dX10_goer_72 (fun r2 m2 => ?_)
    refine z_if_ne (tgt := 105) C dX10_goer_75 (by decide) (fun c5 => ?_) (fun c5 => ?_)
    · exact z_sub [1, 2, 3, 4] rfl (s_X10_goer_105 C hr hrm th p1 p2 x5 m2)
    · exact z_sub [1, 2, 3, 4, 0] rfl (s_X10_goer_78 C hr hrm th p1 p2 x5 s0 m2)
set_option maxRecDepth 100000 in
def g_X10_goer_41 (th : Nat) (p1 : Int32) (p2 : Int32) (x3 : Int32) (x4 : Int32) (s0 : Int32) (m : MM) : Option (Int32 × MM) :=
  if s0 = x3 then (g_X10_goer_55 th p1 p2 s0 x4 m) else (g_X10_goer_55 th p1 p2 s0 x3 m)
set_option maxHeartbeats 4000000 in
set_option maxRecDepth 100000 in
theorem s_X10_goer_41 {Γ : GX} {E : EX} (C : Cx Γ E cX10_goer RX10 8) (hr : Γ.meth.sig.returnType = (some .int)) (hrm : Γ.rm = rmX10_goer) (th : Nat) (p1 : Int32) (p2 : Int32) (x3 : Int32) (x4 : Int32) (s0 : Int32) (m : MM) : Sm (QM Γ E emI 0 0) Γ E 8 0 0 41 [(0, va_rf (some th)), (1, .int p1), (2, .int p2), (3, .int x3), (4, .int x4)] [.int s0] m (g_X10_goer_41 th p1 p2 x3 x4 s0 m) := by
  unfold g_X10_goer_41
  refine z_istore (i := 5) (L2 := [(5, .int s0), (0, va_rf (some th)), (1, .int p1), (2, .int p2), (3, .int x3), (4, .int x4)]) C dX10_goer_41 (by decide) rfl ?_
  refine z_iload C dX10_goer_43 0 rfl ?_
  refine z_iload_n C dX10_goer_45 rfl 4 rfl ?_
  refine z_icmp_ne (tgt := 54) C dX10_goer_46 (by decide) (fun c6 => ?_) (fun c6 => ?_)
  · refine z_iload_n C dX10_goer_54 rfl 4 rfl ?_
    exact z_sub [1, 2, 3, 0] rfl (s_X10_goer_55 C hr hrm th p1 p2 s0 x3 m)
  · refine z_iload C dX10_goer_49 5 rfl ?_
    refine z_goto (tgt := 55) C dX10_goer_51 (by decide) ?_
    exact z_sub [1, 2, 3, 0] rfl (s_X10_goer_55 C hr hrm th p1 p2 s0 x4 m)
set_option maxRecDepth 100000 in
def g_X10_goer_35 (th : Nat) (p1 : Int32) (p2 : Int32) (x3 : Int32) (x4 : Int32) (m : MM) : Option (Int32 × MM) :=
  g_X10_goer_41 th p1 p2 x3 x4 x3 m
set_option maxHeartbeats 4000000 in
set_option maxRecDepth 100000 in
theorem s_X10_goer_35 {Γ : GX} {E : EX} (C : Cx Γ E cX10_goer RX10 8) (hr : Γ.meth.sig.returnType = (some .int)) (hrm : Γ.rm = rmX10_goer) (th : Nat) (p1 : Int32) (p2 : Int32) (x3 : Int32) (x4 : Int32) (m : MM) : Sm (QM Γ E emI 0 0) Γ E 8 0 0 35 [(0, va_rf (some th)), (1, .int p1), (2, .int p2), (3, .int x3), (4, .int x4)] [] m (g_X10_goer_35 th p1 p2 x3 x4 m) := by
  unfold g_X10_goer_35
  refine z_iload_n C dX10_goer_35 rfl 3 rfl ?_
  refine z_goto (tgt := 41) C dX10_goer_36 (by decide) ?_
  exact z_sub [0, 1, 2, 3, 4] rfl (s_X10_goer_41 C hr hrm th p1 p2 x3 x4 x3 m)
set_option maxRecDepth 100000 in
def g_X10_goer_0 (th : Nat) (p1 : Int32) (p2 : Int32) (m : MM) : Option (Int32 × MM) :=
  chk (m.K th = 11) (ck m (m.R 1171 th 0) 22 (fun a3 => chk (inb p2 (m.N a3) = true) (bnd (m.I 22 a3 (Int32.toNatClampNeg p2)) (fun y1 => ck m (m.R 1172 th 0) 22 (fun a4 => chk (inb p2 (m.N a4) = true) (bnd (m.I 22 a4 (Int32.toNatClampNeg p2)) (fun y2 => ck m (m.R 1130 th 0) 22 (fun a5 => chk (inb p1 (m.N a5) = true) (if (m.I 22 a5 (Int32.toNatClampNeg p1)) = 1 then (g_X10_goer_35 th p1 p2 y1 y2 m) else (cal (f_X10_isLater th y1 y2 m) (fun r3 m3 => if r3 = 0 then (g_X10_goer_41 th p1 p2 y1 y2 y2 m3) else (g_X10_goer_35 th p1 p2 y1 y2 m3))))))))))))
set_option maxHeartbeats 4000000 in
set_option maxRecDepth 100000 in
theorem s_X10_goer_0 {Γ : GX} {E : EX} (C : Cx Γ E cX10_goer RX10 8) (hr : Γ.meth.sig.returnType = (some .int)) (hrm : Γ.rm = rmX10_goer) (th : Nat) (p1 : Int32) (p2 : Int32) (m : MM) : Sm (QM Γ E emI 0 0) Γ E 8 0 0 0 [(0, va_rf (some th)), (1, .int p1), (2, .int p2)] [] m (g_X10_goer_0 th p1 p2 m) := by
  unfold g_X10_goer_0
  refine z_aload_n C dX10_goer_0 rfl 0 rfl ?_
  refine z_chk (fun hk5 => ?_)
  refine z_getR C fl_RX10_158 rfl hk5 dX10_goer_1 ?_
  refine z_iload_n C dX10_goer_4 rfl 2 rfl ?_
  refine z_ck (fun a3 hr3 hk6 => ?_)
  refine z_chk (fun hj4 => ?_)
  refine z_iald C hr3 hk6 hj4 dX10_goer_5 ?_
  refine z_bndI (fun y1 => ?_)
  refine z_istore_n (i := 3) (L2 := [(3, .int y1), (0, va_rf (some th)), (1, .int p1), (2, .int p2)]) C dX10_goer_6 rfl (by decide) rfl ?_
  refine z_aload_n C dX10_goer_7 rfl 1 rfl ?_
  refine z_getR C fl_RX10_161 rfl hk5 dX10_goer_8 ?_
  refine z_iload_n C dX10_goer_11 rfl 3 rfl ?_
  refine z_ck (fun a4 hr4 hk7 => ?_)
  refine z_chk (fun hj5 => ?_)
  refine z_iald C hr4 hk7 hj5 dX10_goer_12 ?_
  refine z_bndI (fun y2 => ?_)
  refine z_istore (i := 4) (L2 := [(4, .int y2), (3, .int y1), (0, va_rf (some th)), (1, .int p1), (2, .int p2)]) C dX10_goer_13 (by decide) rfl ?_
  refine z_aload_n C dX10_goer_15 rfl 2 rfl ?_
  refine z_getR C fl_RX10_98 rfl hk5 dX10_goer_16 ?_
  refine z_iload_n C dX10_goer_19 rfl 3 rfl ?_
  refine z_ck (fun a5 hr5 hk8 => ?_)
  refine z_chk (fun hj6 => ?_)
  refine z_iald C hr5 hk8 hj6 dX10_goer_20 ?_
  refine z_iconst (v := 1) C dX10_goer_21 (by decide) ?_
  refine z_icmp_eq (tgt := 35) C dX10_goer_22 (by decide) (fun c7 => ?_) (fun c7 => ?_)
  · exact z_sub [2, 3, 4, 1, 0] rfl (s_X10_goer_35 C hr hrm th p1 p2 y1 y2 m)
  · refine z_aload_n C dX10_goer_25 rfl 2 rfl ?_
    refine z_iload_n C dX10_goer_26 rfl 1 rfl ?_
    refine z_iload C dX10_goer_27 0 rfl ?_
    refine z_cVI [.int y1, .int y2] [] C mv_RX10_455 (fun r0 m0 h0 => M_X10_isLater _ _ _ _ _ _ _ _ h0) rfl rfl ⟨by rw [hrm]; exact Nat.le_of_ble_eq_true rfl, by rw [hrm]; exact Nat.le_of_ble_eq_true rfl⟩ ⟨by rw [hrm]; exact Nat.le_of_ble_eq_true rfl, by rw [hrm]; exact Nat.le_of_ble_eq_true rfl⟩ rfl hk5 rfl rfl rfl (Nat.le_of_ble_eq_true rfl) dX10_goer_29 (fun r3 m3 => ?_)
    refine z_if_eq (tgt := 39) C dX10_goer_32 (by decide) (fun c8 => ?_) (fun c8 => ?_)
    · refine z_iload C dX10_goer_39 0 rfl ?_
      exact z_sub [2, 3, 4, 1, 0] rfl (s_X10_goer_41 C hr hrm th p1 p2 y1 y2 y2 m3)
    · exact z_sub [2, 3, 4, 1, 0] rfl (s_X10_goer_35 C hr hrm th p1 p2 y1 y2 m3)
def f_X10_goer (th : Nat) (p1 : Int32) (p2 : Int32) (m : MM) : Option (Int32 × MM) := g_X10_goer_0 th p1 p2 m
theorem M_X10_goer (l : Launch) (E : EX) (th : Nat) (p1 : Int32) (p2 : Int32) (m : MM) (r : Int32) (m2 : MM) (h : f_X10_goer th p1 p2 m = some (r, m2)) : Met l yX10_goer (.code yX10_goer cX10_goer 8 (some .int) :: TB) rmX10_goer (va_Pc [.ref th, .int p1, .int p2] (St E m)) (QR E (emI r) m2) 0 0 (AA E) :=
  met_of (em := emI) (plainFor_of_name rfl) (Nat.le_of_ble_eq_true rfl) (L0 := [(0, va_rf (some th)), (1, .int p1), (2, .int p2)]) rfl (fun Γ _ hrm C hr hn => s_X10_goer_0 C hr hrm th p1 p2 m) h
