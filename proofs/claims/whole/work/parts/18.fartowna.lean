theorem dX9_init_0 : decode cX9_init 0 = .ok (.aload_n 0, 1) := by decide +kernel
theorem dX9_init_1 : decode cX9_init 1 = .ok (.invokespecial 1, 3) := by decide +kernel
theorem dX9_init_4 : decode cX9_init 4 = .ok (.aload_n 0, 1) := by decide +kernel
theorem dX9_init_5 : decode cX9_init 5 = .ok (.new 7, 3) := by decide +kernel
theorem dX9_init_8 : decode cX9_init 8 = .ok (.dup, 1) := by decide +kernel
theorem dX9_init_9 : decode cX9_init 9 = .ok (.invokespecial 9, 3) := by decide +kernel
theorem dX9_init_12 : decode cX9_init 12 = .ok (.putfield 10, 3) := by decide +kernel
theorem dX9_init_15 : decode cX9_init 15 = .ok (.aload_n 0, 1) := by decide +kernel
theorem dX9_init_16 : decode cX9_init 16 = .ok (.iconst 3, 1) := by decide +kernel
theorem dX9_init_17 : decode cX9_init 17 = .ok (.anewarray 7, 3) := by decide +kernel
theorem dX9_init_20 : decode cX9_init 20 = .ok (.putfield 16, 3) := by decide +kernel
theorem dX9_init_23 : decode cX9_init 23 = .ok (.aload_n 0, 1) := by decide +kernel
theorem dX9_init_24 : decode cX9_init 24 = .ok (.new 20, 3) := by decide +kernel
theorem dX9_init_27 : decode cX9_init 27 = .ok (.dup, 1) := by decide +kernel
theorem dX9_init_28 : decode cX9_init 28 = .ok (.invokespecial 22, 3) := by decide +kernel
theorem dX9_init_31 : decode cX9_init 31 = .ok (.putfield 23, 3) := by decide +kernel
theorem dX9_init_34 : decode cX9_init 34 = .ok (.aload_n 0, 1) := by decide +kernel
theorem dX9_init_35 : decode cX9_init 35 = .ok (.new 27, 3) := by decide +kernel
theorem dX9_init_38 : decode cX9_init 38 = .ok (.dup, 1) := by decide +kernel
theorem dX9_init_39 : decode cX9_init 39 = .ok (.invokespecial 29, 3) := by decide +kernel
theorem dX9_init_42 : decode cX9_init 42 = .ok (.putfield 30, 3) := by decide +kernel
theorem dX9_init_45 : decode cX9_init 45 = .ok (.aload_n 0, 1) := by decide +kernel
theorem dX9_init_46 : decode cX9_init 46 = .ok (.new 34, 3) := by decide +kernel
theorem dX9_init_49 : decode cX9_init 49 = .ok (.dup, 1) := by decide +kernel
theorem dX9_init_50 : decode cX9_init 50 = .ok (.aload_n 0, 1) := by decide +kernel
theorem dX9_init_51 : decode cX9_init 51 = .ok (.getfield 30, 3) := by decide +kernel
theorem dX9_init_54 : decode cX9_init 54 = .ok (.invokespecial 36, 3) := by decide +kernel
theorem dX9_init_57 : decode cX9_init 57 = .ok (.putfield 39, 3) := by decide +kernel
theorem dX9_init_60 : decode cX9_init 60 = .ok (.aload_n 0, 1) := by decide +kernel
theorem dX9_init_61 : decode cX9_init 61 = .ok (.new 43, 3) := by decide +kernel
theorem dX9_init_64 : decode cX9_init 64 = .ok (.dup, 1) := by decide +kernel
theorem dX9_init_65 : decode cX9_init 65 = .ok (.aload_n 0, 1) := by decide +kernel
theorem dX9_init_66 : decode cX9_init 66 = .ok (.getfield 30, 3) := by decide +kernel
theorem dX9_init_69 : decode cX9_init 69 = .ok (.invokespecial 45, 3) := by decide +kernel
theorem dX9_init_72 : decode cX9_init 72 = .ok (.putfield 46, 3) := by decide +kernel
theorem dX9_init_75 : decode cX9_init 75 = .ok (.return_, 1) := by decide +kernel
def rmX9_init : Room := { frames := 4, cells := 105, slots := 3520, locals := 83 }
set_option maxRecDepth 100000 in
def f_X9_init (th : Nat) (m : MM) : Option (Unit × MM) :=
  bnd m.S (fun a1 => bnd (m.nw 8 0) (fun m1 => cal (f_X7_init a1 m1) (fun r1 m2 => chk (m2.K th = 10) (bnd (m2.sR 1000 th 0 (some a1)) (fun m3 => bnd m3.S (fun a2 => bnd (m3.nw 27 3) (fun m4 => chk (m4.K th = 10) (bnd (m4.sR 1001 th 0 (some a2)) (fun m5 => bnd m5.S (fun a3 => bnd (m5.nw 5 0) (fun m6 => cal (f_X4_init a3 m6) (fun r2 m7 => chk (m7.K th = 10) (bnd (m7.sR 1002 th 0 (some a3)) (fun m8 => bnd m8.S (fun a4 => bnd (m8.nw 6 0) (fun m9 => cal (f_X5_init a4 m9) (fun r3 m10 => chk (m10.K th = 10) (bnd (m10.sR 1003 th 0 (some a4)) (fun m11 => bnd m11.S (fun a5 => bnd (m11.nw 2 0) (fun m12 => chk (m12.K th = 10) (cal (f_X1_init a5 (m12.R 1003 th 0) m12) (fun r4 m13 => chk (m13.K th = 10) (bnd (m13.sR 1004 th 0 (some a5)) (fun m14 => bnd m14.S (fun a6 => bnd (m14.nw 4 0) (fun m15 => chk (m15.K th = 10) (cal (f_X3_init a6 (m15.R 1003 th 0) m15) (fun r5 m16 => chk (m16.K th = 10) (bnd (m16.sR 1005 th 0 (some a6)) (fun m17 => some ((), m17))))))))))))))))))))))))))))))))
set_option maxHeartbeats 4000000 in
set_option maxRecDepth 100000 in
theorem s_X9_init_0 {Γ : GX} {E : EX} (C : Cx Γ E cX9_init RX9 1) (hr : Γ.meth.sig.returnType = none) (hrm : Γ.rm = rmX9_init) (hnm : Γ.meth.name = "<init>") (th : Nat) (m : MM) : Sm (QM Γ E emV 105 3520) Γ E 1 0 0 0 [(0, va_rf (some th))] [] m (f_X9_init th m) := by
  unfold f_X9_init
  refine z_aload_n C dX9_init_0 rfl 0 rfl ?_
  refine z_obj C rfl mo_RX9_1 (by rw [hrm]; exact Nat.le_of_ble_eq_true rfl) (by rw [hrm]; exact Nat.le_of_ble_eq_true rfl) (Nat.le_of_ble_eq_true rfl) dX9_init_1 ?_
  refine z_aload_n C dX9_init_4 rfl 0 rfl ?_
  refine z_new2 C co_X7 cl_RX9_7 in_RX7 ii_RX7 (by rw [hrm]; exact Nat.le_of_ble_eq_true rfl) (by rw [hrm]; exact Nat.le_of_ble_eq_true rfl) dX9_init_5 (fun a1 m1 hk1 => ?_)
  refine z_dup C rfl dX9_init_8 ?_
  refine z_callI [] [va_rf (some a1), va_rf (some th)] C mv_RX9_9 (fun r0 m0 h0 => M_X7_init _ _ _ _ _ _ h0) rfl rfl ⟨by rw [hrm]; exact Nat.le_of_ble_eq_true rfl, by rw [hrm]; exact Nat.le_of_ble_eq_true rfl⟩ rfl rfl rfl (Nat.le_of_ble_eq_true rfl) dX9_init_9 ⟨by rw [hrm]; exact Nat.le_of_ble_eq_true rfl, by rw [hrm]; exact Nat.le_of_ble_eq_true rfl⟩ (fun r1 m2 => ?_)
  refine z_chk (fun hk2 => ?_)
  refine z_putR C fl_RX9_10 (fun _ => ⟨hnm, rfl⟩) rfl hk2 nr_of fr_of dX9_init_12 (fun m3 eK1 eN1 => ?_)
  refine z_aload_n C dX9_init_15 rfl 0 rfl ?_
  refine z_iconst (v := 3) C dX9_init_16 (by decide) ?_
  refine z_anew2 (kd := 27) (N := 3) C cl_RX9_7 (by decide) (by decide) (by decide) rfl (by decide) (by decide) (by decide) (by rw [hrm]; exact Nat.le_of_ble_eq_true rfl) (by rw [hrm]; exact Nat.le_of_ble_eq_true rfl) dX9_init_17 (fun a2 m4 hk3 => ?_)
  refine z_chk (fun hk4 => ?_)
  refine z_putR C fl_RX9_16 (fun _ => ⟨hnm, rfl⟩) rfl hk4 na_of fa_of dX9_init_20 (fun m5 eK2 eN2 => ?_)
  refine z_aload_n C dX9_init_23 rfl 0 rfl ?_
  refine z_new2 C co_X4 cl_RX9_20 in_RX4 ii_RX4 (by rw [hrm]; exact Nat.le_of_ble_eq_true rfl) (by rw [hrm]; exact Nat.le_of_ble_eq_true rfl) dX9_init_24 (fun a3 m6 hk5 => ?_)
  refine z_dup C rfl dX9_init_27 ?_
  refine z_callI [] [va_rf (some a3), va_rf (some th)] C mv_RX9_22 (fun r0 m0 h0 => M_X4_init _ _ _ _ _ _ h0) rfl rfl ⟨by rw [hrm]; exact Nat.le_of_ble_eq_true rfl, by rw [hrm]; exact Nat.le_of_ble_eq_true rfl⟩ rfl rfl rfl (Nat.le_of_ble_eq_true rfl) dX9_init_28 ⟨by rw [hrm]; exact Nat.le_of_ble_eq_true rfl, by rw [hrm]; exact Nat.le_of_ble_eq_true rfl⟩ (fun r2 m7 => ?_)
  refine z_chk (fun hk6 => ?_)
  refine z_putR C fl_RX9_23 (fun _ => ⟨hnm, rfl⟩) rfl hk6 nr_of fr_of dX9_init_31 (fun m8 eK3 eN3 => ?_)
  refine z_aload_n C dX9_init_34 rfl 0 rfl ?_
  refine z_new2 C co_X5 cl_RX9_27 in_RX5 ii_RX5 (by rw [hrm]; exact Nat.le_of_ble_eq_true rfl) (by rw [hrm]; exact Nat.le_of_ble_eq_true rfl) dX9_init_35 (fun a4 m9 hk7 => ?_)
  refine z_dup C rfl dX9_init_38 ?_
  refine z_callI [] [va_rf (some a4), va_rf (some th)] C mv_RX9_29 (fun r0 m0 h0 => M_X5_init _ _ _ _ _ _ h0) rfl rfl ⟨by rw [hrm]; exact Nat.le_of_ble_eq_true rfl, by rw [hrm]; exact Nat.le_of_ble_eq_true rfl⟩ rfl rfl rfl (Nat.le_of_ble_eq_true rfl) dX9_init_39 ⟨by rw [hrm]; exact Nat.le_of_ble_eq_true rfl, by rw [hrm]; exact Nat.le_of_ble_eq_true rfl⟩ (fun r3 m10 => ?_)
  refine z_chk (fun hk8 => ?_)
  refine z_putR C fl_RX9_30 (fun _ => ⟨hnm, rfl⟩) rfl hk8 nr_of fr_of dX9_init_42 (fun m11 eK4 eN4 => ?_)
  refine z_aload_n C dX9_init_45 rfl 0 rfl ?_
  refine z_new2 C co_X1 cl_RX9_34 in_RX1 ii_RX1 (by rw [hrm]; exact Nat.le_of_ble_eq_true rfl) (by rw [hrm]; exact Nat.le_of_ble_eq_true rfl) dX9_init_46 (fun a5 m12 hk9 => ?_)
  refine z_dup C rfl dX9_init_49 ?_
  refine z_aload_n C dX9_init_50 rfl 0 rfl ?_
  refine z_chk (fun hk10 => ?_)
  refine z_getR C fl_RX9_30 rfl hk10 dX9_init_51 ?_
  refine z_callI [va_rf (m12.R 1003 th 0)] [va_rf (some a5), va_rf (some th)] C mv_RX9_36 (fun r0 m0 h0 => M_X1_init _ _ _ _ _ _ _ h0) rfl rfl ⟨by rw [hrm]; exact Nat.le_of_ble_eq_true rfl, by rw [hrm]; exact Nat.le_of_ble_eq_true rfl⟩ rfl rfl rfl (Nat.le_of_ble_eq_true rfl) dX9_init_54 ⟨by rw [hrm]; exact Nat.le_of_ble_eq_true rfl, by rw [hrm]; exact Nat.le_of_ble_eq_true rfl⟩ (fun r4 m13 => ?_)
  refine z_chk (fun hk11 => ?_)
  refine z_putR C fl_RX9_39 (fun _ => ⟨hnm, rfl⟩) rfl hk11 nr_of fr_of dX9_init_57 (fun m14 eK5 eN5 => ?_)
  refine z_aload_n C dX9_init_60 rfl 0 rfl ?_
  refine z_new2 C co_X3 cl_RX9_43 in_RX3 ii_RX3 (by rw [hrm]; exact Nat.le_of_ble_eq_true rfl) (by rw [hrm]; exact Nat.le_of_ble_eq_true rfl) dX9_init_61 (fun a6 m15 hk12 => ?_)
  refine z_dup C rfl dX9_init_64 ?_
  refine z_aload_n C dX9_init_65 rfl 0 rfl ?_
  refine z_chk (fun hk13 => ?_)
  refine z_getR C fl_RX9_30 rfl hk13 dX9_init_66 ?_
  refine z_callI [va_rf (m15.R 1003 th 0)] [va_rf (some a6), va_rf (some th)] C mv_RX9_45 (fun r0 m0 h0 => M_X3_init _ _ _ _ _ _ _ h0) rfl rfl ⟨by rw [hrm]; exact Nat.le_of_ble_eq_true rfl, by rw [hrm]; exact Nat.le_of_ble_eq_true rfl⟩ rfl rfl rfl (Nat.le_of_ble_eq_true rfl) dX9_init_69 ⟨by rw [hrm]; exact Nat.le_of_ble_eq_true rfl, by rw [hrm]; exact Nat.le_of_ble_eq_true rfl⟩ (fun r5 m16 => ?_)
  refine z_chk (fun hk14 => ?_)
  refine z_putR C fl_RX9_46 (fun _ => ⟨hnm, rfl⟩) rfl hk14 nr_of fr_of dX9_init_72 (fun m17 eK6 eN6 => ?_)
  refine z_wid (k := 105) (n := 3520) (Nat.le_of_ble_eq_true rfl) (Nat.le_of_ble_eq_true rfl) ?_
  exact z_vret C hr dX9_init_75
theorem M_X9_init (l : Launch) (E : EX) (th : Nat) (m : MM) (r : Unit) (m2 : MM) (h : f_X9_init th m = some (r, m2)) : Met l yX9_init (.code yX9_init cX9_init 1 none :: TB) rmX9_init (va_Pc [.ref th] (St E m)) (QR E (emV r) m2) 105 3520 (AA E) :=
  met_of (em := emV) (plainFor_of_name rfl) (Nat.le_of_ble_eq_true rfl) (L0 := [(0, va_rf (some th))]) rfl (fun Γ _ hrm C hr hn => s_X9_init_0 C hr hrm hn th m) h

theorem dX9_feed_0 : decode cX9_feed 0 = .ok (.aload_n 0, 1) := by decide +kernel
theorem dX9_feed_1 : decode cX9_feed 1 = .ok (.getfield 10, 3) := by decide +kernel
theorem dX9_feed_4 : decode cX9_feed 4 = .ok (.getfield 50, 3) := by decide +kernel
theorem dX9_feed_7 : decode cX9_feed 7 = .ok (.sipush 480, 3) := by decide +kernel
theorem dX9_feed_10 : decode cX9_feed 10 = .ok (.if_icmp .le 5, 3) := by decide +kernel
theorem dX9_feed_13 : decode cX9_feed 13 = .ok (.iconst (-1), 1) := by decide +kernel
theorem dX9_feed_14 : decode cX9_feed 14 = .ok (.ireturn, 1) := by decide +kernel
theorem dX9_feed_15 : decode cX9_feed 15 = .ok (.aload_n 0, 1) := by decide +kernel
theorem dX9_feed_16 : decode cX9_feed 16 = .ok (.getfield 10, 3) := by decide +kernel
theorem dX9_feed_19 : decode cX9_feed 19 = .ok (.iload_n 1, 1) := by decide +kernel
theorem dX9_feed_20 : decode cX9_feed 20 = .ok (.invokevirtual 54, 3) := by decide +kernel
theorem dX9_feed_23 : decode cX9_feed 23 = .ok (.aload_n 0, 1) := by decide +kernel
theorem dX9_feed_24 : decode cX9_feed 24 = .ok (.getfield 10, 3) := by decide +kernel
theorem dX9_feed_27 : decode cX9_feed 27 = .ok (.iload_n 2, 1) := by decide +kernel
theorem dX9_feed_28 : decode cX9_feed 28 = .ok (.invokevirtual 54, 3) := by decide +kernel
theorem dX9_feed_31 : decode cX9_feed 31 = .ok (.aload_n 0, 1) := by decide +kernel
theorem dX9_feed_32 : decode cX9_feed 32 = .ok (.getfield 10, 3) := by decide +kernel
theorem dX9_feed_35 : decode cX9_feed 35 = .ok (.iload_n 3, 1) := by decide +kernel
theorem dX9_feed_36 : decode cX9_feed 36 = .ok (.invokevirtual 54, 3) := by decide +kernel
theorem dX9_feed_39 : decode cX9_feed 39 = .ok (.aload_n 0, 1) := by decide +kernel
theorem dX9_feed_40 : decode cX9_feed 40 = .ok (.getfield 10, 3) := by decide +kernel
theorem dX9_feed_43 : decode cX9_feed 43 = .ok (.iload 4, 2) := by decide +kernel
theorem dX9_feed_45 : decode cX9_feed 45 = .ok (.invokevirtual 54, 3) := by decide +kernel
theorem dX9_feed_48 : decode cX9_feed 48 = .ok (.aload_n 0, 1) := by decide +kernel
theorem dX9_feed_49 : decode cX9_feed 49 = .ok (.getfield 10, 3) := by decide +kernel
theorem dX9_feed_52 : decode cX9_feed 52 = .ok (.iload 5, 2) := by decide +kernel
theorem dX9_feed_54 : decode cX9_feed 54 = .ok (.invokevirtual 54, 3) := by decide +kernel
theorem dX9_feed_57 : decode cX9_feed 57 = .ok (.aload_n 0, 1) := by decide +kernel
theorem dX9_feed_58 : decode cX9_feed 58 = .ok (.getfield 10, 3) := by decide +kernel
theorem dX9_feed_61 : decode cX9_feed 61 = .ok (.getfield 50, 3) := by decide +kernel
theorem dX9_feed_64 : decode cX9_feed 64 = .ok (.ireturn, 1) := by decide +kernel
def rmX9_feed : Room := { frames := 1, cells := 0, slots := 0, locals := 22 }
set_option maxRecDepth 100000 in
def g_X9_feed_0 (th : Nat) (p1 : Int32) (p2 : Int32) (p3 : Int32) (p4 : Int32) (p5 : Int32) (m : MM) : Option (Int32 × MM) :=
  chk (m.K th = 10) (ck m (m.R 1000 th 0) 8 (fun a1 => if (m.I 801 a1 0) ≤ 480 then (cal (f_X7_putBytes a1 p1 m) (fun r1 m1 => chk (m1.K th = 10) (ck m1 (m1.R 1000 th 0) 8 (fun a2 => cal (f_X7_putBytes a2 p2 m1) (fun r2 m2 => chk (m2.K th = 10) (ck m2 (m2.R 1000 th 0) 8 (fun a3 => cal (f_X7_putBytes a3 p3 m2) (fun r3 m3 => chk (m3.K th = 10) (ck m3 (m3.R 1000 th 0) 8 (fun a4 => cal (f_X7_putBytes a4 p4 m3) (fun r4 m4 => chk (m4.K th = 10) (ck m4 (m4.R 1000 th 0) 8 (fun a5 => cal (f_X7_putBytes a5 p5 m4) (fun r5 m5 => chk (m5.K th = 10) (ck m5 (m5.R 1000 th 0) 8 (fun a6 => some (m5.I 801 a6 0, m5))))))))))))))))) else (some ((-1), m))))
set_option maxHeartbeats 4000000 in
set_option maxRecDepth 100000 in
theorem s_X9_feed_0 {Γ : GX} {E : EX} (C : Cx Γ E cX9_feed RX9 6) (hr : Γ.meth.sig.returnType = (some .int)) (hrm : Γ.rm = rmX9_feed) (th : Nat) (p1 : Int32) (p2 : Int32) (p3 : Int32) (p4 : Int32) (p5 : Int32) (m : MM) : Sm (QM Γ E emI 0 0) Γ E 6 0 0 0 [(0, va_rf (some th)), (1, .int p1), (2, .int p2), (3, .int p3), (4, .int p4), (5, .int p5)] [] m (g_X9_feed_0 th p1 p2 p3 p4 p5 m) := by
  unfold g_X9_feed_0
  refine z_aload_n C dX9_feed_0 rfl 0 rfl ?_
  refine z_chk (fun hk1 => ?_)
  refine z_getR C fl_RX9_10 rfl hk1 dX9_feed_1 ?_
  refine z_ck (fun a1 hr1 hk2 => ?_)
  refine z_getI C fl_RX9_50 hr1 hk2 dX9_feed_4 ?_
  refine z_sipush (v := 480) C dX9_feed_7 (by decide) ?_
  refine z_icmp_le (tgt := 15) C dX9_feed_10 (by decide) (fun c1 => ?_) (fun c1 => ?_)
  · refine z_aload_n C dX9_feed_15 rfl 0 rfl ?_
    refine z_getR C fl_RX9_10 rfl hk1 dX9_feed_16 ?_
    refine z_iload_n C dX9_feed_19 rfl 1 rfl ?_
    refine z_cVV [.int p1] [] C mv_RX9_54 (fun r0 m0 h0 => M_X7_putBytes _ _ _ _ _ _ _ h0) rfl rfl ⟨by rw [hrm]; exact Nat.le_of_ble_eq_true rfl, by rw [hrm]; exact Nat.le_of_ble_eq_true rfl⟩ ⟨by rw [hrm]; exact Nat.le_of_ble_eq_true rfl, by rw [hrm]; exact Nat.le_of_ble_eq_true rfl⟩ hr1 hk2 rfl rfl rfl (Nat.le_of_ble_eq_true rfl) dX9_feed_20 (fun r1 m1 => ?_)
    refine z_aload_n C dX9_feed_23 rfl 0 rfl ?_
    refine z_chk (fun hk3 => ?_)
    refine z_getR C fl_RX9_10 rfl hk3 dX9_feed_24 ?_
    refine z_iload_n C dX9_feed_27 rfl 2 rfl ?_
    refine z_ck (fun a2 hr2 hk4 => ?_)
    refine z_cVV [.int p2] [] C mv_RX9_54 (fun r0 m0 h0 => M_X7_putBytes _ _ _ _ _ _ _ h0) rfl rfl ⟨by rw [hrm]; exact Nat.le_of_ble_eq_true rfl, by rw [hrm]; exact Nat.le_of_ble_eq_true rfl⟩ ⟨by rw [hrm]; exact Nat.le_of_ble_eq_true rfl, by rw [hrm]; exact Nat.le_of_ble_eq_true rfl⟩ hr2 hk4 rfl rfl rfl (Nat.le_of_ble_eq_true rfl) dX9_feed_28 (fun r2 m2 => ?_)
    refine z_aload_n C dX9_feed_31 rfl 0 rfl ?_
    refine z_chk (fun hk5 => ?_)
    refine z_getR C fl_RX9_10 rfl hk5 dX9_feed_32 ?_
    refine z_iload_n C dX9_feed_35 rfl 3 rfl ?_
    refine z_ck (fun a3 hr3 hk6 => ?_)
    refine z_cVV [.int p3] [] C mv_RX9_54 (fun r0 m0 h0 => M_X7_putBytes _ _ _ _ _ _ _ h0) rfl rfl ⟨by rw [hrm]; exact Nat.le_of_ble_eq_true rfl, by rw [hrm]; exact Nat.le_of_ble_eq_true rfl⟩ ⟨by rw [hrm]; exact Nat.le_of_ble_eq_true rfl, by rw [hrm]; exact Nat.le_of_ble_eq_true rfl⟩ hr3 hk6 rfl rfl rfl (Nat.le_of_ble_eq_true rfl) dX9_feed_36 (fun r3 m3 => ?_)
    refine z_aload_n C dX9_feed_39 rfl 0 rfl ?_
    refine z_chk (fun hk7 => ?_)
    refine z_getR C fl_RX9_10 rfl hk7 dX9_feed_40 ?_
    refine z_iload C dX9_feed_43 4 rfl ?_
    refine z_ck (fun a4 hr4 hk8 => ?_)
    refine z_cVV [.int p4] [] C mv_RX9_54 (fun r0 m0 h0 => M_X7_putBytes _ _ _ _ _ _ _ h0) rfl rfl ⟨by rw [hrm]; exact Nat.le_of_ble_eq_true rfl, by rw [hrm]; exact Nat.le_of_ble_eq_true rfl⟩ ⟨by rw [hrm]; exact Nat.le_of_ble_eq_true rfl, by rw [hrm]; exact Nat.le_of_ble_eq_true rfl⟩ hr4 hk8 rfl rfl rfl (Nat.le_of_ble_eq_true rfl) dX9_feed_45 (fun r4 m4 => ?_)
    refine z_aload_n C dX9_feed_48 rfl 0 rfl ?_
    refine z_chk (fun hk9 => ?_)
    refine z_getR C fl_RX9_10 rfl hk9 dX9_feed_49 ?_
    refine z_iload C dX9_feed_52 5 rfl ?_
    refine z_ck (fun a5 hr5 hk10 => ?_)
    refine z_cVV [.int p5] [] C mv_RX9_54 (fun r0 m0 h0 => M_X7_putBytes _ _ _ _ _ _ _ h0) rfl rfl ⟨by rw [hrm]; exact Nat.le_of_ble_eq_true rfl, by rw [hrm]; exact Nat.le_of_ble_eq_true rfl⟩ ⟨by rw [hrm]; exact Nat.le_of_ble_eq_true rfl, by rw [hrm]; exact Nat.le_of_ble_eq_true rfl⟩ hr5 hk10 rfl rfl rfl (Nat.le_of_ble_eq_true rfl) dX9_feed_54 (fun r5 m5 => ?_)
    refine z_aload_n C dX9_feed_57 rfl 0 rfl ?_
    refine z_chk (fun hk11 => ?_)
    refine z_getR C fl_RX9_10 rfl hk11 dX9_feed_58 ?_
    refine z_ck (fun a6 hr6 hk12 => ?_)
    refine z_getI C fl_RX9_50 hr6 hk12 dX9_feed_61 ?_
    exact z_iret C hr dX9_feed_64
  · refine z_iconst (v := (-1)) C dX9_feed_13 (by decide) ?_
    exact z_iret C hr dX9_feed_14
def f_X9_feed (th : Nat) (p1 : Int32) (p2 : Int32) (p3 : Int32) (p4 : Int32) (p5 : Int32) (m : MM) : Option (Int32 × MM) := g_X9_feed_0 th p1 p2 p3 p4 p5 m
theorem M_X9_feed (l : Launch) (E : EX) (th : Nat) (p1 : Int32) (p2 : Int32) (p3 : Int32) (p4 : Int32) (p5 : Int32) (m : MM) (r : Int32) (m2 : MM) (h : f_X9_feed th p1 p2 p3 p4 p5 m = some (r, m2)) : Met l yX9_feed (.code yX9_feed cX9_feed 6 (some .int) :: TB) rmX9_feed (va_Pc [.ref th, .int p1, .int p2, .int p3, .int p4, .int p5] (St E m)) (QR E (emI r) m2) 0 0 (AA E) :=
  met_of (em := emI) (plainFor_of_name rfl) (Nat.le_of_ble_eq_true rfl) (L0 := [(0, va_rf (some th)), (1, .int p1), (2, .int p2), (3, .int p3), (4, .int p4), (5, .int p5)]) rfl (fun Γ _ hrm C hr hn => s_X9_feed_0 C hr hrm th p1 p2 p3 p4 p5 m) h

theorem dX9_end_0 : decode cX9_end 0 = .ok (.iload_n 1, 1) := by decide +kernel
theorem dX9_end_1 : decode cX9_end 1 = .ok (.ifCond .lt 14, 3) := by decide +kernel
theorem dX9_end_4 : decode cX9_end 4 = .ok (.iload_n 1, 1) := by decide +kernel
theorem dX9_end_5 : decode cX9_end 5 = .ok (.aload_n 0, 1) := by decide +kernel
theorem dX9_end_6 : decode cX9_end 6 = .ok (.getfield 10, 3) := by decide +kernel
theorem dX9_end_9 : decode cX9_end 9 = .ok (.getfield 50, 3) := by decide +kernel
theorem dX9_end_12 : decode cX9_end 12 = .ok (.if_icmp .le 5, 3) := by decide +kernel
theorem dX9_end_15 : decode cX9_end 15 = .ok (.iconst (-1), 1) := by decide +kernel
theorem dX9_end_16 : decode cX9_end 16 = .ok (.ireturn, 1) := by decide +kernel
theorem dX9_end_17 : decode cX9_end 17 = .ok (.aload_n 0, 1) := by decide +kernel
theorem dX9_end_18 : decode cX9_end 18 = .ok (.getfield 10, 3) := by decide +kernel
theorem dX9_end_21 : decode cX9_end 21 = .ok (.iload_n 1, 1) := by decide +kernel
theorem dX9_end_22 : decode cX9_end 22 = .ok (.putfield 50, 3) := by decide +kernel
theorem dX9_end_25 : decode cX9_end 25 = .ok (.iload_n 1, 1) := by decide +kernel
theorem dX9_end_26 : decode cX9_end 26 = .ok (.ireturn, 1) := by decide +kernel
def rmX9_end : Room := { frames := 0, cells := 0, slots := 0, locals := 0 }
set_option maxRecDepth 100000 in
def g_X9_end_0 (th : Nat) (p1 : Int32) (m : MM) : Option (Int32 × MM) :=
  if p1 < 0 then (some ((-1), m)) else (chk (m.K th = 10) (ck m (m.R 1000 th 0) 8 (fun a1 => if p1 ≤ (m.I 801 a1 0) then (bnd (m.sI 801 a1 0 p1) (fun m1 => some (p1, m1))) else (some ((-1), m)))))
set_option maxHeartbeats 4000000 in
set_option maxRecDepth 100000 in
theorem s_X9_end_0 {Γ : GX} {E : EX} (C : Cx Γ E cX9_end RX9 2) (hr : Γ.meth.sig.returnType = (some .int)) (hrm : Γ.rm = rmX9_end) (th : Nat) (p1 : Int32) (m : MM) : Sm (QM Γ E emI 0 0) Γ E 2 0 0 0 [(0, va_rf (some th)), (1, .int p1)] [] m (g_X9_end_0 th p1 m) := by
  unfold g_X9_end_0
  refine z_iload_n C dX9_end_0 rfl 1 rfl ?_
  refine z_if_lt (tgt := 15) C dX9_end_1 (by decide) (fun c1 => ?_) (fun c1 => ?_)
  · refine z_iconst (v := (-1)) C dX9_end_15 (by decide) ?_
    exact z_iret C hr dX9_end_16
  · refine z_iload_n C dX9_end_4 rfl 1 rfl ?_
    refine z_aload_n C dX9_end_5 rfl 0 rfl ?_
    refine z_chk (fun hk1 => ?_)
    refine z_getR C fl_RX9_10 rfl hk1 dX9_end_6 ?_
    refine z_ck (fun a1 hr1 hk2 => ?_)
    refine z_getI C fl_RX9_50 hr1 hk2 dX9_end_9 ?_
    refine z_icmp_le (tgt := 17) C dX9_end_12 (by decide) (fun c2 => ?_) (fun c2 => ?_)
    · refine z_aload_n C dX9_end_17 rfl 0 rfl ?_
      refine z_getR C fl_RX9_10 rfl hk1 dX9_end_18 ?_
      refine z_iload_n C dX9_end_21 rfl 1 rfl ?_
      refine z_putI C fl_RX9_50 (fun h => by cases h) hr1 hk2 rfl rfl dX9_end_22 (fun m1 eK1 eN1 => ?_)
      refine z_iload_n C dX9_end_25 rfl 1 rfl ?_
      exact z_iret C hr dX9_end_26
    · refine z_iconst (v := (-1)) C dX9_end_15 (by decide) ?_
      exact z_iret C hr dX9_end_16
def f_X9_end (th : Nat) (p1 : Int32) (m : MM) : Option (Int32 × MM) := g_X9_end_0 th p1 m
theorem M_X9_end (l : Launch) (E : EX) (th : Nat) (p1 : Int32) (m : MM) (r : Int32) (m2 : MM) (h : f_X9_end th p1 m = some (r, m2)) : Met l yX9_end (.code yX9_end cX9_end 2 (some .int) :: TB) rmX9_end (va_Pc [.ref th, .int p1] (St E m)) (QR E (emI r) m2) 0 0 (AA E) :=
  met_of (em := emI) (plainFor_of_name rfl) (Nat.le_of_ble_eq_true rfl) (L0 := [(0, va_rf (some th)), (1, .int p1)]) rfl (fun Γ _ hrm C hr hn => s_X9_end_0 C hr hrm th p1 m) h

theorem dX9_seatFor_0 : decode cX9_seatFor 0 = .ok (.iload_n 0, 1) := by decide +kernel
theorem dX9_seatFor_1 : decode cX9_seatFor 1 = .ok (.iconst (-1), 1) := by decide +kernel
theorem dX9_seatFor_2 : decode cX9_seatFor 2 = .ok (.if_icmp .ne 5, 3) := by decide +kernel
theorem dX9_seatFor_5 : decode cX9_seatFor 5 = .ok (.iload_n 1, 1) := by decide +kernel
theorem dX9_seatFor_6 : decode cX9_seatFor 6 = .ok (.ireturn, 1) := by decide +kernel
theorem dX9_seatFor_7 : decode cX9_seatFor 7 = .ok (.iload_n 0, 1) := by decide +kernel
theorem dX9_seatFor_8 : decode cX9_seatFor 8 = .ok (.ifCond .lt 12, 3) := by decide +kernel
theorem dX9_seatFor_11 : decode cX9_seatFor 11 = .ok (.iload_n 0, 1) := by decide +kernel
theorem dX9_seatFor_12 : decode cX9_seatFor 12 = .ok (.iload_n 1, 1) := by decide +kernel
theorem dX9_seatFor_13 : decode cX9_seatFor 13 = .ok (.if_icmp .ge 7, 3) := by decide +kernel
theorem dX9_seatFor_16 : decode cX9_seatFor 16 = .ok (.iload_n 0, 1) := by decide +kernel
theorem dX9_seatFor_17 : decode cX9_seatFor 17 = .ok (.goto 4, 3) := by decide +kernel
theorem dX9_seatFor_20 : decode cX9_seatFor 20 = .ok (.iconst (-1), 1) := by decide +kernel
theorem dX9_seatFor_21 : decode cX9_seatFor 21 = .ok (.ireturn, 1) := by decide +kernel
def rmX9_seatFor : Room := { frames := 0, cells := 0, slots := 0, locals := 0 }
set_option maxRecDepth 100000 in
def g_X9_seatFor_20 (p0 : Int32) (p1 : Int32) (m : MM) : Option (Int32 × MM) :=
  some ((-1), m)
set_option maxHeartbeats 4000000 in
set_option maxRecDepth 100000 in
theorem s_X9_seatFor_20 {Γ : GX} {E : EX} (C : Cx Γ E cX9_seatFor RX9 2) (hr : Γ.meth.sig.returnType = (some .int)) (hrm : Γ.rm = rmX9_seatFor) (p0 : Int32) (p1 : Int32) (m : MM) : Sm (QM Γ E emI 0 0) Γ E 2 0 0 20 [(0, .int p0), (1, .int p1)] [] m (g_X9_seatFor_20 p0 p1 m) := by
  unfold g_X9_seatFor_20
  refine z_iconst (v := (-1)) C dX9_seatFor_20 (by decide) ?_
  exact z_iret C hr dX9_seatFor_21
set_option maxRecDepth 100000 in
def g_X9_seatFor_0 (p0 : Int32) (p1 : Int32) (m : MM) : Option (Int32 × MM) :=
  if p0 = (-1) then (some (p1, m)) else (if p0 < 0 then (g_X9_seatFor_20 p0 p1 m) else (if p1 ≤ p0 then (g_X9_seatFor_20 p0 p1 m) else (some (p0, m))))
set_option maxHeartbeats 4000000 in
set_option maxRecDepth 100000 in
theorem s_X9_seatFor_0 {Γ : GX} {E : EX} (C : Cx Γ E cX9_seatFor RX9 2) (hr : Γ.meth.sig.returnType = (some .int)) (hrm : Γ.rm = rmX9_seatFor) (p0 : Int32) (p1 : Int32) (m : MM) : Sm (QM Γ E emI 0 0) Γ E 2 0 0 0 [(0, .int p0), (1, .int p1)] [] m (g_X9_seatFor_0 p0 p1 m) := by
  unfold g_X9_seatFor_0
  refine z_iload_n C dX9_seatFor_0 rfl 0 rfl ?_
  refine z_iconst (v := (-1)) C dX9_seatFor_1 (by decide) ?_
  refine z_icmp_ne (tgt := 7) C dX9_seatFor_2 (by decide) (fun c1 => ?_) (fun c1 => ?_)
  · refine z_iload_n C dX9_seatFor_7 rfl 0 rfl ?_
    refine z_if_lt (tgt := 20) C dX9_seatFor_8 (by decide) (fun c2 => ?_) (fun c2 => ?_)
    · exact z_sub [0, 1] rfl (s_X9_seatFor_20 C hr hrm p0 p1 m)
    · refine z_iload_n C dX9_seatFor_11 rfl 0 rfl ?_
      refine z_iload_n C dX9_seatFor_12 rfl 1 rfl ?_
      refine z_icmp_ge (tgt := 20) C dX9_seatFor_13 (by decide) (fun c3 => ?_) (fun c3 => ?_)
      · exact z_sub [0, 1] rfl (s_X9_seatFor_20 C hr hrm p0 p1 m)
      · refine z_iload_n C dX9_seatFor_16 rfl 0 rfl ?_
        refine z_goto (tgt := 21) C dX9_seatFor_17 (by decide) ?_
        exact z_iret C hr dX9_seatFor_21
  · refine z_iload_n C dX9_seatFor_5 rfl 1 rfl ?_
    exact z_iret C hr dX9_seatFor_6
def f_X9_seatFor (p0 : Int32) (p1 : Int32) (m : MM) : Option (Int32 × MM) := g_X9_seatFor_0 p0 p1 m
theorem M_X9_seatFor (l : Launch) (E : EX) (p0 : Int32) (p1 : Int32) (m : MM) (r : Int32) (m2 : MM) (h : f_X9_seatFor p0 p1 m = some (r, m2)) : Met l yX9_seatFor (.code yX9_seatFor cX9_seatFor 2 (some .int) :: TB) rmX9_seatFor (va_Pc [.int p0, .int p1] (St E m)) (QR E (emI r) m2) 0 0 (AA E) :=
  met_of (em := emI) (plainFor_of_name rfl) (Nat.le_of_ble_eq_true rfl) (L0 := [(0, .int p0), (1, .int p1)]) rfl (fun Γ _ hrm C hr hn => s_X9_seatFor_0 C hr hrm p0 p1 m) h

theorem dX9_town_0 : decode cX9_town 0 = .ok (.aload_n 0, 1) := by decide +kernel
theorem dX9_town_1 : decode cX9_town 1 = .ok (.getfield 10, 3) := by decide +kernel
theorem dX9_town_4 : decode cX9_town 4 = .ok (.invokevirtual 58, 3) := by decide +kernel
theorem dX9_town_7 : decode cX9_town 7 = .ok (.istore_n 2, 1) := by decide +kernel
theorem dX9_town_8 : decode cX9_town 8 = .ok (.aload_n 0, 1) := by decide +kernel
theorem dX9_town_9 : decode cX9_town 9 = .ok (.getfield 10, 3) := by decide +kernel
theorem dX9_town_12 : decode cX9_town 12 = .ok (.iload_n 1, 1) := by decide +kernel
theorem dX9_town_13 : decode cX9_town 13 = .ok (.aload_n 0, 1) := by decide +kernel
theorem dX9_town_14 : decode cX9_town 14 = .ok (.getfield 10, 3) := by decide +kernel
theorem dX9_town_17 : decode cX9_town 17 = .ok (.getfield 62, 3) := by decide +kernel
theorem dX9_town_20 : decode cX9_town 20 = .ok (.invokestatic 65, 3) := by decide +kernel
theorem dX9_town_23 : decode cX9_town 23 = .ok (.invokevirtual 69, 3) := by decide +kernel
theorem dX9_town_26 : decode cX9_town 26 = .ok (.astore_n 3, 1) := by decide +kernel
theorem dX9_town_27 : decode cX9_town 27 = .ok (.aload_n 3, 1) := by decide +kernel
theorem dX9_town_28 : decode cX9_town 28 = .ok (.ifnonnull 6, 3) := by decide +kernel
theorem dX9_town_31 : decode cX9_town 31 = .ok (.bipush (-2), 2) := by decide +kernel
theorem dX9_town_33 : decode cX9_town 33 = .ok (.ireturn, 1) := by decide +kernel
theorem dX9_town_34 : decode cX9_town 34 = .ok (.aload_n 0, 1) := by decide +kernel
theorem dX9_town_35 : decode cX9_town 35 = .ok (.getfield 23, 3) := by decide +kernel
theorem dX9_town_38 : decode cX9_town 38 = .ok (.aload_n 0, 1) := by decide +kernel
theorem dX9_town_39 : decode cX9_town 39 = .ok (.getfield 10, 3) := by decide +kernel
theorem dX9_town_42 : decode cX9_town 42 = .ok (.getfield 73, 3) := by decide +kernel
theorem dX9_town_45 : decode cX9_town 45 = .ok (.iload_n 2, 1) := by decide +kernel
theorem dX9_town_46 : decode cX9_town 46 = .ok (.invokevirtual 77, 3) := by decide +kernel
theorem dX9_town_49 : decode cX9_town 49 = .ok (.istore 4, 2) := by decide +kernel
theorem dX9_town_51 : decode cX9_town 51 = .ok (.aload_n 0, 1) := by decide +kernel
theorem dX9_town_52 : decode cX9_town 52 = .ok (.getfield 10, 3) := by decide +kernel
theorem dX9_town_55 : decode cX9_town 55 = .ok (.aload_n 0, 1) := by decide +kernel
theorem dX9_town_56 : decode cX9_town 56 = .ok (.getfield 23, 3) := by decide +kernel
theorem dX9_town_59 : decode cX9_town 59 = .ok (.getfield 81, 3) := by decide +kernel
theorem dX9_town_62 : decode cX9_town 62 = .ok (.aload_n 0, 1) := by decide +kernel
theorem dX9_town_63 : decode cX9_town 63 = .ok (.getfield 23, 3) := by decide +kernel
theorem dX9_town_66 : decode cX9_town 66 = .ok (.getfield 84, 3) := by decide +kernel
theorem dX9_town_69 : decode cX9_town 69 = .ok (.invokevirtual 87, 3) := by decide +kernel
theorem dX9_town_72 : decode cX9_town 72 = .ok (.iload 4, 2) := by decide +kernel
theorem dX9_town_74 : decode cX9_town 74 = .ok (.ifCond .ne 5, 3) := by decide +kernel
theorem dX9_town_77 : decode cX9_town 77 = .ok (.iconst (-1), 1) := by decide +kernel
theorem dX9_town_78 : decode cX9_town 78 = .ok (.ireturn, 1) := by decide +kernel
theorem dX9_town_79 : decode cX9_town 79 = .ok (.aload_n 3, 1) := by decide +kernel
theorem dX9_town_80 : decode cX9_town 80 = .ok (.aload_n 0, 1) := by decide +kernel
theorem dX9_town_81 : decode cX9_town 81 = .ok (.getfield 23, 3) := by decide +kernel
theorem dX9_town_84 : decode cX9_town 84 = .ok (.getfield 91, 3) := by decide +kernel
theorem dX9_town_87 : decode cX9_town 87 = .ok (.invokevirtual 95, 3) := by decide +kernel
theorem dX9_town_90 : decode cX9_town 90 = .ok (.iload_n 1, 1) := by decide +kernel
theorem dX9_town_91 : decode cX9_town 91 = .ok (.iconst (-1), 1) := by decide +kernel
theorem dX9_town_92 : decode cX9_town 92 = .ok (.if_icmp .eq 5, 3) := by decide +kernel
theorem dX9_town_95 : decode cX9_town 95 = .ok (.iload_n 1, 1) := by decide +kernel
theorem dX9_town_96 : decode cX9_town 96 = .ok (.ireturn, 1) := by decide +kernel
theorem dX9_town_97 : decode cX9_town 97 = .ok (.aload_n 0, 1) := by decide +kernel
theorem dX9_town_98 : decode cX9_town 98 = .ok (.getfield 10, 3) := by decide +kernel
theorem dX9_town_101 : decode cX9_town 101 = .ok (.dup, 1) := by decide +kernel
theorem dX9_town_102 : decode cX9_town 102 = .ok (.getfield 62, 3) := by decide +kernel
theorem dX9_town_105 : decode cX9_town 105 = .ok (.iconst 1, 1) := by decide +kernel
theorem dX9_town_106 : decode cX9_town 106 = .ok (.iadd, 1) := by decide +kernel
theorem dX9_town_107 : decode cX9_town 107 = .ok (.putfield 62, 3) := by decide +kernel
theorem dX9_town_110 : decode cX9_town 110 = .ok (.aload_n 0, 1) := by decide +kernel
theorem dX9_town_111 : decode cX9_town 111 = .ok (.getfield 10, 3) := by decide +kernel
theorem dX9_town_114 : decode cX9_town 114 = .ok (.getfield 62, 3) := by decide +kernel
theorem dX9_town_117 : decode cX9_town 117 = .ok (.iconst 1, 1) := by decide +kernel
theorem dX9_town_118 : decode cX9_town 118 = .ok (.isub, 1) := by decide +kernel
theorem dX9_town_119 : decode cX9_town 119 = .ok (.ireturn, 1) := by decide +kernel
def rmX9_town : Room := { frames := 9, cells := 0, slots := 0, locals := 194 }
set_option maxRecDepth 100000 in
def g_X9_town_0 (th : Nat) (p1 : Int32) (m : MM) : Option (Int32 × MM) :=
  chk (m.K th = 10) (ck m (m.R 1000 th 0) 8 (fun a1 => cal (f_X7_takeTape a1 m) (fun r1 m1 => chk (m1.K th = 10) (ck m1 (m1.R 1000 th 0) 8 (fun a2 => cal (f_X9_seatFor p1 (m1.I 804 a2 0) m1) (fun r2 m2 => chk (m2.K a2 = 8) (cal (f_X7_townSeat a2 r2 m2) (fun r3 m3 => ifn r3 (some ((-2), m3)) (fun a3 => chk (m3.K th = 10) (ck m3 (m3.R 1000 th 0) 8 (fun a4 => ck m3 (m3.R 1002 th 0) 5 (fun a5 => cal (f_X4_readTown a5 (m3.R 800 a4 0) r1 m3) (fun r4 m4 => chk (m4.K th = 10) (ck m4 (m4.R 1002 th 0) 5 (fun a6 => ck m4 (m4.R 1000 th 0) 8 (fun a7 => cal (f_X7_setFault a7 (m4.I 510 a6 0) (m4.I 511 a6 0) m4) (fun r5 m5 => if r4 = 0 then (some ((-1), m5)) else (chk (m5.K th = 10) (ck m5 (m5.R 1002 th 0) 5 (fun a8 => chk (m5.K a3 = 9) (cal (f_X8_take a3 (m5.R 500 a8 0) m5) (fun r6 m6 => if p1 = (-1) then (chk (m6.K th = 10) (bnd (m6.R 1000 th 0) (fun y1 => ck m6 y1 8 (fun a9 => bnd (m6.sI 804 a9 0 ((m6.I 804 a9 0) + 1)) (fun m7 => ck m7 (m7.R 1000 th 0) 8 (fun a10 => some ((m7.I 804 a10 0) - 1, m7))))))) else (some (p1, m6))))))))))))))))))))))))
set_option maxHeartbeats 4000000 in
set_option maxRecDepth 100000 in
theorem s_X9_town_0 {Γ : GX} {E : EX} (C : Cx Γ E cX9_town RX9 5) (hr : Γ.meth.sig.returnType = (some .int)) (hrm : Γ.rm = rmX9_town) (th : Nat) (p1 : Int32) (m : MM) : Sm (QM Γ E emI 0 0) Γ E 5 0 0 0 [(0, va_rf (some th)), (1, .int p1)] [] m (g_X9_town_0 th p1 m) := by
  unfold g_X9_town_0
  refine z_aload_n C dX9_town_0 rfl 0 rfl ?_
  refine z_chk (fun hk1 => ?_)
  refine z_getR C fl_RX9_10 rfl hk1 dX9_town_1 ?_
  refine z_ck (fun a1 hr1 hk2 => ?_)
  refine z_cVI [] [] C mv_RX9_58 (fun r0 m0 h0 => M_X7_takeTape _ _ _ _ _ _ h0) rfl rfl ⟨by rw [hrm]; exact Nat.le_of_ble_eq_true rfl, by rw [hrm]; exact Nat.le_of_ble_eq_true rfl⟩ ⟨by rw [hrm]; exact Nat.le_of_ble_eq_true rfl, by rw [hrm]; exact Nat.le_of_ble_eq_true rfl⟩ hr1 hk2 rfl rfl rfl (Nat.le_of_ble_eq_true rfl) dX9_town_4 (fun r1 m1 => ?_)
  refine z_istore_n (i := 2) (L2 := [(2, .int r1), (0, va_rf (some th)), (1, .int p1)]) C dX9_town_7 rfl (by decide) rfl ?_
  refine z_aload_n C dX9_town_8 rfl 1 rfl ?_
  refine z_chk (fun hk3 => ?_)
  refine z_getR C fl_RX9_10 rfl hk3 dX9_town_9 ?_
  refine z_iload_n C dX9_town_12 rfl 2 rfl ?_
  refine z_aload_n C dX9_town_13 rfl 1 rfl ?_
  refine z_getR C fl_RX9_10 rfl hk3 dX9_town_14 ?_
  refine z_ck (fun a2 hr2 hk4 => ?_)
  refine z_getI C fl_RX9_62 hr2 hk4 dX9_town_17 ?_
  refine z_cSI [.int p1, .int (m1.I 804 a2 0)] [va_rf (m1.R 1000 th 0)] C mv_RX9_65 (fun r0 m0 h0 => M_X9_seatFor _ _ _ _ _ _ _ h0) rfl rfl ⟨by rw [hrm]; exact Nat.le_of_ble_eq_true rfl, by rw [hrm]; exact Nat.le_of_ble_eq_true rfl⟩ ⟨by rw [hrm]; exact Nat.le_of_ble_eq_true rfl, by rw [hrm]; exact Nat.le_of_ble_eq_true rfl⟩ rfl rfl (by simp [cat_rf, cat_i, cat_l, cat_a]) dX9_town_20 (fun r2 m2 => ?_)
  refine z_chk (fun hk5 => ?_)
  refine z_cVR [.int r2] [] C mv_RX9_69 (fun r0 m0 h0 => M_X7_townSeat _ _ _ _ _ _ _ h0) rfl rfl ⟨by rw [hrm]; exact Nat.le_of_ble_eq_true rfl, by rw [hrm]; exact Nat.le_of_ble_eq_true rfl⟩ ⟨by rw [hrm]; exact Nat.le_of_ble_eq_true rfl, by rw [hrm]; exact Nat.le_of_ble_eq_true rfl⟩ hr2 hk5 rfl rfl rfl (Nat.le_of_ble_eq_true rfl) dX9_town_23 (fun r3 m3 => ?_)
  refine z_astore_n (i := 3) (L2 := [(3, va_rf r3), (2, .int r1), (0, va_rf (some th)), (1, .int p1)]) C dX9_town_26 rfl (by decide) rfl ?_
  refine z_aload_n C dX9_town_27 rfl 0 rfl ?_
  refine z_ifnonnull (tgt := 34) C dX9_town_28 (by decide) (fun a3 ha1 => ?_) (fun hn1 => ?_)
  · refine z_aload_n C dX9_town_34 rfl 2 rfl ?_
    refine z_chk (fun hk6 => ?_)
    refine z_getR C fl_RX9_23 rfl hk6 dX9_town_35 ?_
    refine z_aload_n C dX9_town_38 rfl 2 rfl ?_
    refine z_getR C fl_RX9_10 rfl hk6 dX9_town_39 ?_
    refine z_ck (fun a4 hr3 hk7 => ?_)
    refine z_getR C fl_RX9_73 hr3 hk7 dX9_town_42 ?_
    refine z_iload_n C dX9_town_45 rfl 1 rfl ?_
    refine z_ck (fun a5 hr4 hk8 => ?_)
    refine z_cVI [va_rf (m3.R 800 a4 0), .int r1] [] C mv_RX9_77 (fun r0 m0 h0 => M_X4_readTown _ _ _ _ _ _ _ _ h0) rfl rfl ⟨by rw [hrm]; exact Nat.le_of_ble_eq_true rfl, by rw [hrm]; exact Nat.le_of_ble_eq_true rfl⟩ ⟨by rw [hrm]; exact Nat.le_of_ble_eq_true rfl, by rw [hrm]; exact Nat.le_of_ble_eq_true rfl⟩ hr4 hk8 rfl rfl rfl (Nat.le_of_ble_eq_true rfl) dX9_town_46 (fun r4 m4 => ?_)
    refine z_istore (i := 4) (L2 := [(4, .int r4), (3, va_rf r3), (2, .int r1), (0, va_rf (some th)), (1, .int p1)]) C dX9_town_49 (by decide) (by simp [cat_rf, cat_i, cat_l, cat_a]) ?_
    refine z_aload_n C dX9_town_51 rfl 3 rfl ?_
    refine z_chk (fun hk9 => ?_)
    refine z_getR C fl_RX9_10 rfl hk9 dX9_town_52 ?_
    refine z_aload_n C dX9_town_55 rfl 3 rfl ?_
    refine z_getR C fl_RX9_23 rfl hk9 dX9_town_56 ?_
    refine z_ck (fun a6 hr5 hk10 => ?_)
    refine z_getI C fl_RX9_81 hr5 hk10 dX9_town_59 ?_
    refine z_aload_n C dX9_town_62 rfl 3 rfl ?_
    refine z_getR C fl_RX9_23 rfl hk9 dX9_town_63 ?_
    refine z_getI C fl_RX9_84 hr5 hk10 dX9_town_66 ?_
    refine z_ck (fun a7 hr6 hk11 => ?_)
    refine z_cVV [.int (m4.I 510 a6 0), .int (m4.I 511 a6 0)] [] C mv_RX9_87 (fun r0 m0 h0 => M_X7_setFault _ _ _ _ _ _ _ _ h0) rfl rfl ⟨by rw [hrm]; exact Nat.le_of_ble_eq_true rfl, by rw [hrm]; exact Nat.le_of_ble_eq_true rfl⟩ ⟨by rw [hrm]; exact Nat.le_of_ble_eq_true rfl, by rw [hrm]; exact Nat.le_of_ble_eq_true rfl⟩ hr6 hk11 rfl rfl rfl (Nat.le_of_ble_eq_true rfl) dX9_town_69 (fun r5 m5 => ?_)
    refine z_iload C dX9_town_72 0 rfl ?_
    refine z_if_ne (tgt := 79) C dX9_town_74 (by decide) (fun c1 => ?_) (fun c1 => ?_)
    · refine z_aload_n C dX9_town_79 rfl 1 rfl ?_
      refine z_aload_n C dX9_town_80 rfl 3 rfl ?_
      refine z_chk (fun hk12 => ?_)
      refine z_getR C fl_RX9_23 rfl hk12 dX9_town_81 ?_
      refine z_ck (fun a8 hr7 hk13 => ?_)
      refine z_getR C fl_RX9_91 hr7 hk13 dX9_town_84 ?_
      refine z_chk (fun hk14 => ?_)
      refine z_cVV [va_rf (m5.R 500 a8 0)] [] C mv_RX9_95 (fun r0 m0 h0 => M_X8_take _ _ _ _ _ _ _ h0) rfl rfl ⟨by rw [hrm]; exact Nat.le_of_ble_eq_true rfl, by rw [hrm]; exact Nat.le_of_ble_eq_true rfl⟩ ⟨by rw [hrm]; exact Nat.le_of_ble_eq_true rfl, by rw [hrm]; exact Nat.le_of_ble_eq_true rfl⟩ ha1 hk14 rfl rfl rfl (Nat.le_of_ble_eq_true rfl) dX9_town_87 (fun r6 m6 => ?_)
      refine z_iload_n C dX9_town_90 rfl 4 rfl ?_
      refine z_iconst (v := (-1)) C dX9_town_91 (by decide) ?_
      refine z_icmp_eq (tgt := 97) C dX9_town_92 (by decide) (fun c2 => ?_) (fun c2 => ?_)
      · refine z_aload_n C dX9_town_97 rfl 3 rfl ?_
        refine z_chk (fun hk15 => ?_)
        refine z_getR C fl_RX9_10 rfl hk15 dX9_town_98 ?_
        refine z_bndR (fun y1 => ?_)
        refine z_dup C (cat_rf _) dX9_town_101 ?_
        refine z_ck (fun a9 hr8 hk16 => ?_)
        refine z_getI C fl_RX9_62 hr8 hk16 dX9_town_102 ?_
        refine z_iconst (v := 1) C dX9_town_105 (by decide) ?_
        refine z_iadd C dX9_town_106 ?_
        refine z_putI C fl_RX9_62 (fun h => by cases h) hr8 hk16 rfl rfl dX9_town_107 (fun m7 eK1 eN1 => ?_)
        refine z_aload_n C dX9_town_110 rfl 3 rfl ?_
        refine z_getR C fl_RX9_10 rfl (kfw eK1 hk15) dX9_town_111 ?_
        refine z_ck (fun a10 hr9 hk17 => ?_)
        refine z_getI C fl_RX9_62 hr9 hk17 dX9_town_114 ?_
        refine z_iconst (v := 1) C dX9_town_117 (by decide) ?_
        refine z_isub C dX9_town_118 ?_
        exact z_iret C hr dX9_town_119
      · refine z_iload_n C dX9_town_95 rfl 4 rfl ?_
        exact z_iret C hr dX9_town_96
    · refine z_iconst (v := (-1)) C dX9_town_77 (by decide) ?_
      exact z_iret C hr dX9_town_78
  · refine z_bipush (v := (-2)) C dX9_town_31 (by decide) ?_
    exact z_iret C hr dX9_town_33
def f_X9_town (th : Nat) (p1 : Int32) (m : MM) : Option (Int32 × MM) := g_X9_town_0 th p1 m
theorem M_X9_town (l : Launch) (E : EX) (th : Nat) (p1 : Int32) (m : MM) (r : Int32) (m2 : MM) (h : f_X9_town th p1 m = some (r, m2)) : Met l yX9_town (.code yX9_town cX9_town 5 (some .int) :: TB) rmX9_town (va_Pc [.ref th, .int p1] (St E m)) (QR E (emI r) m2) 0 0 (AA E) :=
  met_of (em := emI) (plainFor_of_name rfl) (Nat.le_of_ble_eq_true rfl) (L0 := [(0, va_rf (some th)), (1, .int p1)]) rfl (fun Γ _ hrm C hr hn => s_X9_town_0 C hr hrm th p1 m) h

theorem dX9_law_0 : decode cX9_law 0 = .ok (.aload_n 0, 1) := by decide +kernel
theorem dX9_law_1 : decode cX9_law 1 = .ok (.getfield 10, 3) := by decide +kernel
theorem dX9_law_4 : decode cX9_law 4 = .ok (.invokevirtual 58, 3) := by decide +kernel
theorem dX9_law_7 : decode cX9_law 7 = .ok (.istore_n 2, 1) := by decide +kernel
theorem dX9_law_8 : decode cX9_law 8 = .ok (.aload_n 0, 1) := by decide +kernel
theorem dX9_law_9 : decode cX9_law 9 = .ok (.getfield 10, 3) := by decide +kernel
theorem dX9_law_12 : decode cX9_law 12 = .ok (.iload_n 1, 1) := by decide +kernel
theorem dX9_law_13 : decode cX9_law 13 = .ok (.aload_n 0, 1) := by decide +kernel
theorem dX9_law_14 : decode cX9_law 14 = .ok (.getfield 10, 3) := by decide +kernel
theorem dX9_law_17 : decode cX9_law 17 = .ok (.getfield 101, 3) := by decide +kernel
theorem dX9_law_20 : decode cX9_law 20 = .ok (.invokestatic 65, 3) := by decide +kernel
theorem dX9_law_23 : decode cX9_law 23 = .ok (.invokevirtual 104, 3) := by decide +kernel
theorem dX9_law_26 : decode cX9_law 26 = .ok (.astore_n 3, 1) := by decide +kernel
theorem dX9_law_27 : decode cX9_law 27 = .ok (.aload_n 3, 1) := by decide +kernel
theorem dX9_law_28 : decode cX9_law 28 = .ok (.ifnonnull 6, 3) := by decide +kernel
theorem dX9_law_31 : decode cX9_law 31 = .ok (.bipush (-2), 2) := by decide +kernel
theorem dX9_law_33 : decode cX9_law 33 = .ok (.ireturn, 1) := by decide +kernel
theorem dX9_law_34 : decode cX9_law 34 = .ok (.aload_n 0, 1) := by decide +kernel
theorem dX9_law_35 : decode cX9_law 35 = .ok (.getfield 23, 3) := by decide +kernel
theorem dX9_law_38 : decode cX9_law 38 = .ok (.aload_n 0, 1) := by decide +kernel
theorem dX9_law_39 : decode cX9_law 39 = .ok (.getfield 10, 3) := by decide +kernel
theorem dX9_law_42 : decode cX9_law 42 = .ok (.getfield 73, 3) := by decide +kernel
theorem dX9_law_45 : decode cX9_law 45 = .ok (.iload_n 2, 1) := by decide +kernel
theorem dX9_law_46 : decode cX9_law 46 = .ok (.invokevirtual 108, 3) := by decide +kernel
theorem dX9_law_49 : decode cX9_law 49 = .ok (.istore 4, 2) := by decide +kernel
theorem dX9_law_51 : decode cX9_law 51 = .ok (.aload_n 0, 1) := by decide +kernel
theorem dX9_law_52 : decode cX9_law 52 = .ok (.getfield 10, 3) := by decide +kernel
theorem dX9_law_55 : decode cX9_law 55 = .ok (.aload_n 0, 1) := by decide +kernel
theorem dX9_law_56 : decode cX9_law 56 = .ok (.getfield 23, 3) := by decide +kernel
theorem dX9_law_59 : decode cX9_law 59 = .ok (.getfield 81, 3) := by decide +kernel
theorem dX9_law_62 : decode cX9_law 62 = .ok (.aload_n 0, 1) := by decide +kernel
theorem dX9_law_63 : decode cX9_law 63 = .ok (.getfield 23, 3) := by decide +kernel
theorem dX9_law_66 : decode cX9_law 66 = .ok (.getfield 84, 3) := by decide +kernel
theorem dX9_law_69 : decode cX9_law 69 = .ok (.invokevirtual 87, 3) := by decide +kernel
theorem dX9_law_72 : decode cX9_law 72 = .ok (.iload 4, 2) := by decide +kernel
theorem dX9_law_74 : decode cX9_law 74 = .ok (.ifCond .ne 5, 3) := by decide +kernel
theorem dX9_law_77 : decode cX9_law 77 = .ok (.iconst (-1), 1) := by decide +kernel
theorem dX9_law_78 : decode cX9_law 78 = .ok (.ireturn, 1) := by decide +kernel
theorem dX9_law_79 : decode cX9_law 79 = .ok (.aload_n 3, 1) := by decide +kernel
theorem dX9_law_80 : decode cX9_law 80 = .ok (.aload_n 0, 1) := by decide +kernel
theorem dX9_law_81 : decode cX9_law 81 = .ok (.getfield 23, 3) := by decide +kernel
theorem dX9_law_84 : decode cX9_law 84 = .ok (.getfield 111, 3) := by decide +kernel
theorem dX9_law_87 : decode cX9_law 87 = .ok (.invokevirtual 115, 3) := by decide +kernel
theorem dX9_law_90 : decode cX9_law 90 = .ok (.iload_n 1, 1) := by decide +kernel
theorem dX9_law_91 : decode cX9_law 91 = .ok (.iconst (-1), 1) := by decide +kernel
theorem dX9_law_92 : decode cX9_law 92 = .ok (.if_icmp .eq 5, 3) := by decide +kernel
theorem dX9_law_95 : decode cX9_law 95 = .ok (.iload_n 1, 1) := by decide +kernel
theorem dX9_law_96 : decode cX9_law 96 = .ok (.ireturn, 1) := by decide +kernel
theorem dX9_law_97 : decode cX9_law 97 = .ok (.aload_n 0, 1) := by decide +kernel
theorem dX9_law_98 : decode cX9_law 98 = .ok (.getfield 10, 3) := by decide +kernel
theorem dX9_law_101 : decode cX9_law 101 = .ok (.dup, 1) := by decide +kernel
theorem dX9_law_102 : decode cX9_law 102 = .ok (.getfield 101, 3) := by decide +kernel
theorem dX9_law_105 : decode cX9_law 105 = .ok (.iconst 1, 1) := by decide +kernel
theorem dX9_law_106 : decode cX9_law 106 = .ok (.iadd, 1) := by decide +kernel
theorem dX9_law_107 : decode cX9_law 107 = .ok (.putfield 101, 3) := by decide +kernel
theorem dX9_law_110 : decode cX9_law 110 = .ok (.aload_n 0, 1) := by decide +kernel
theorem dX9_law_111 : decode cX9_law 111 = .ok (.getfield 10, 3) := by decide +kernel
theorem dX9_law_114 : decode cX9_law 114 = .ok (.getfield 101, 3) := by decide +kernel
theorem dX9_law_117 : decode cX9_law 117 = .ok (.iconst 1, 1) := by decide +kernel
theorem dX9_law_118 : decode cX9_law 118 = .ok (.isub, 1) := by decide +kernel
theorem dX9_law_119 : decode cX9_law 119 = .ok (.ireturn, 1) := by decide +kernel
def rmX9_law : Room := { frames := 8, cells := 0, slots := 0, locals := 177 }
set_option maxRecDepth 100000 in
def g_X9_law_0 (th : Nat) (p1 : Int32) (m : MM) : Option (Int32 × MM) :=
  chk (m.K th = 10) (ck m (m.R 1000 th 0) 8 (fun a1 => cal (f_X7_takeTape a1 m) (fun r1 m1 => chk (m1.K th = 10) (ck m1 (m1.R 1000 th 0) 8 (fun a2 => cal (f_X9_seatFor p1 (m1.I 805 a2 0) m1) (fun r2 m2 => chk (m2.K a2 = 8) (cal (f_X7_lawSeat a2 r2 m2) (fun r3 m3 => ifn r3 (some ((-2), m3)) (fun a3 => chk (m3.K th = 10) (ck m3 (m3.R 1000 th 0) 8 (fun a4 => ck m3 (m3.R 1002 th 0) 5 (fun a5 => cal (f_X4_readLaw a5 (m3.R 800 a4 0) r1 m3) (fun r4 m4 => chk (m4.K th = 10) (ck m4 (m4.R 1002 th 0) 5 (fun a6 => ck m4 (m4.R 1000 th 0) 8 (fun a7 => cal (f_X7_setFault a7 (m4.I 510 a6 0) (m4.I 511 a6 0) m4) (fun r5 m5 => if r4 = 0 then (some ((-1), m5)) else (chk (m5.K th = 10) (ck m5 (m5.R 1002 th 0) 5 (fun a8 => chk (m5.K a3 = 3) (cal (f_X2_take a3 (m5.R 501 a8 0) m5) (fun r6 m6 => if p1 = (-1) then (chk (m6.K th = 10) (bnd (m6.R 1000 th 0) (fun y1 => ck m6 y1 8 (fun a9 => bnd (m6.sI 805 a9 0 ((m6.I 805 a9 0) + 1)) (fun m7 => ck m7 (m7.R 1000 th 0) 8 (fun a10 => some ((m7.I 805 a10 0) - 1, m7))))))) else (some (p1, m6))))))))))))))))))))))))
set_option maxHeartbeats 4000000 in
set_option maxRecDepth 100000 in
theorem s_X9_law_0 {Γ : GX} {E : EX} (C : Cx Γ E cX9_law RX9 5) (hr : Γ.meth.sig.returnType = (some .int)) (hrm : Γ.rm = rmX9_law) (th : Nat) (p1 : Int32) (m : MM) : Sm (QM Γ E emI 0 0) Γ E 5 0 0 0 [(0, va_rf (some th)), (1, .int p1)] [] m (g_X9_law_0 th p1 m) := by
  unfold g_X9_law_0
  refine z_aload_n C dX9_law_0 rfl 0 rfl ?_
  refine z_chk (fun hk1 => ?_)
  refine z_getR C fl_RX9_10 rfl hk1 dX9_law_1 ?_
  refine z_ck (fun a1 hr1 hk2 => ?_)
  refine z_cVI [] [] C mv_RX9_58 (fun r0 m0 h0 => M_X7_takeTape _ _ _ _ _ _ h0) rfl rfl ⟨by rw [hrm]; exact Nat.le_of_ble_eq_true rfl, by rw [hrm]; exact Nat.le_of_ble_eq_true rfl⟩ ⟨by rw [hrm]; exact Nat.le_of_ble_eq_true rfl, by rw [hrm]; exact Nat.le_of_ble_eq_true rfl⟩ hr1 hk2 rfl rfl rfl (Nat.le_of_ble_eq_true rfl) dX9_law_4 (fun r1 m1 => ?_)
  refine z_istore_n (i := 2) (L2 := [(2, .int r1), (0, va_rf (some th)), (1, .int p1)]) C dX9_law_7 rfl (by decide) rfl ?_
  refine z_aload_n C dX9_law_8 rfl 1 rfl ?_
  refine z_chk (fun hk3 => ?_)
  refine z_getR C fl_RX9_10 rfl hk3 dX9_law_9 ?_
  refine z_iload_n C dX9_law_12 rfl 2 rfl ?_
  refine z_aload_n C dX9_law_13 rfl 1 rfl ?_
  refine z_getR C fl_RX9_10 rfl hk3 dX9_law_14 ?_
  refine z_ck (fun a2 hr2 hk4 => ?_)
  refine z_getI C fl_RX9_101 hr2 hk4 dX9_law_17 ?_
  refine z_cSI [.int p1, .int (m1.I 805 a2 0)] [va_rf (m1.R 1000 th 0)] C mv_RX9_65 (fun r0 m0 h0 => M_X9_seatFor _ _ _ _ _ _ _ h0) rfl rfl ⟨by rw [hrm]; exact Nat.le_of_ble_eq_true rfl, by rw [hrm]; exact Nat.le_of_ble_eq_true rfl⟩ ⟨by rw [hrm]; exact Nat.le_of_ble_eq_true rfl, by rw [hrm]; exact Nat.le_of_ble_eq_true rfl⟩ rfl rfl (by simp [cat_rf, cat_i, cat_l, cat_a]) dX9_law_20 (fun r2 m2 => ?_)
  refine z_chk (fun hk5 => ?_)
  refine z_cVR [.int r2] [] C mv_RX9_104 (fun r0 m0 h0 => M_X7_lawSeat _ _ _ _ _ _ _ h0) rfl rfl ⟨by rw [hrm]; exact Nat.le_of_ble_eq_true rfl, by rw [hrm]; exact Nat.le_of_ble_eq_true rfl⟩ ⟨by rw [hrm]; exact Nat.le_of_ble_eq_true rfl, by rw [hrm]; exact Nat.le_of_ble_eq_true rfl⟩ hr2 hk5 rfl rfl rfl (Nat.le_of_ble_eq_true rfl) dX9_law_23 (fun r3 m3 => ?_)
  refine z_astore_n (i := 3) (L2 := [(3, va_rf r3), (2, .int r1), (0, va_rf (some th)), (1, .int p1)]) C dX9_law_26 rfl (by decide) rfl ?_
  refine z_aload_n C dX9_law_27 rfl 0 rfl ?_
  refine z_ifnonnull (tgt := 34) C dX9_law_28 (by decide) (fun a3 ha1 => ?_) (fun hn1 => ?_)
  · refine z_aload_n C dX9_law_34 rfl 2 rfl ?_
    refine z_chk (fun hk6 => ?_)
    refine z_getR C fl_RX9_23 rfl hk6 dX9_law_35 ?_
    refine z_aload_n C dX9_law_38 rfl 2 rfl ?_
    refine z_getR C fl_RX9_10 rfl hk6 dX9_law_39 ?_
    refine z_ck (fun a4 hr3 hk7 => ?_)
    refine z_getR C fl_RX9_73 hr3 hk7 dX9_law_42 ?_
    refine z_iload_n C dX9_law_45 rfl 1 rfl ?_
    refine z_ck (fun a5 hr4 hk8 => ?_)
    refine z_cVI [va_rf (m3.R 800 a4 0), .int r1] [] C mv_RX9_108 (fun r0 m0 h0 => M_X4_readLaw _ _ _ _ _ _ _ _ h0) rfl rfl ⟨by rw [hrm]; exact Nat.le_of_ble_eq_true rfl, by rw [hrm]; exact Nat.le_of_ble_eq_true rfl⟩ ⟨by rw [hrm]; exact Nat.le_of_ble_eq_true rfl, by rw [hrm]; exact Nat.le_of_ble_eq_true rfl⟩ hr4 hk8 rfl rfl rfl (Nat.le_of_ble_eq_true rfl) dX9_law_46 (fun r4 m4 => ?_)
    refine z_istore (i := 4) (L2 := [(4, .int r4), (3, va_rf r3), (2, .int r1), (0, va_rf (some th)), (1, .int p1)]) C dX9_law_49 (by decide) (by simp [cat_rf, cat_i, cat_l, cat_a]) ?_
    refine z_aload_n C dX9_law_51 rfl 3 rfl ?_
    refine z_chk (fun hk9 => ?_)
    refine z_getR C fl_RX9_10 rfl hk9 dX9_law_52 ?_
    refine z_aload_n C dX9_law_55 rfl 3 rfl ?_
    refine z_getR C fl_RX9_23 rfl hk9 dX9_law_56 ?_
    refine z_ck (fun a6 hr5 hk10 => ?_)
    refine z_getI C fl_RX9_81 hr5 hk10 dX9_law_59 ?_
    refine z_aload_n C dX9_law_62 rfl 3 rfl ?_
    refine z_getR C fl_RX9_23 rfl hk9 dX9_law_63 ?_
    refine z_getI C fl_RX9_84 hr5 hk10 dX9_law_66 ?_
    refine z_ck (fun a7 hr6 hk11 => ?_)
    refine z_cVV [.int (m4.I 510 a6 0), .int (m4.I 511 a6 0)] [] C mv_RX9_87 (fun r0 m0 h0 => M_X7_setFault _ _ _ _ _ _ _ _ h0) rfl rfl ⟨by rw [hrm]; exact Nat.le_of_ble_eq_true rfl, by rw [hrm]; exact Nat.le_of_ble_eq_true rfl⟩ ⟨by rw [hrm]; exact Nat.le_of_ble_eq_true rfl, by rw [hrm]; exact Nat.le_of_ble_eq_true rfl⟩ hr6 hk11 rfl rfl rfl (Nat.le_of_ble_eq_true rfl) dX9_law_69 (fun r5 m5 => ?_)
    refine z_iload C dX9_law_72 0 rfl ?_
    refine z_if_ne (tgt := 79) C dX9_law_74 (by decide) (fun c1 => ?_) (fun c1 => ?_)
    · refine z_aload_n C dX9_law_79 rfl 1 rfl ?_
      refine z_aload_n C dX9_law_80 rfl 3 rfl ?_
      refine z_chk (fun hk12 => ?_)
      refine z_getR C fl_RX9_23 rfl hk12 dX9_law_81 ?_
      refine z_ck (fun a8 hr7 hk13 => ?_)
      refine z_getR C fl_RX9_111 hr7 hk13 dX9_law_84 ?_
      refine z_chk (fun hk14 => ?_)
      refine z_cVV [va_rf (m5.R 501 a8 0)] [] C mv_RX9_115 (fun r0 m0 h0 => M_X2_take _ _ _ _ _ _ _ h0) rfl rfl ⟨by rw [hrm]; exact Nat.le_of_ble_eq_true rfl, by rw [hrm]; exact Nat.le_of_ble_eq_true rfl⟩ ⟨by rw [hrm]; exact Nat.le_of_ble_eq_true rfl, by rw [hrm]; exact Nat.le_of_ble_eq_true rfl⟩ ha1 hk14 rfl rfl rfl (Nat.le_of_ble_eq_true rfl) dX9_law_87 (fun r6 m6 => ?_)
      refine z_iload_n C dX9_law_90 rfl 4 rfl ?_
      refine z_iconst (v := (-1)) C dX9_law_91 (by decide) ?_
      refine z_icmp_eq (tgt := 97) C dX9_law_92 (by decide) (fun c2 => ?_) (fun c2 => ?_)
      · refine z_aload_n C dX9_law_97 rfl 3 rfl ?_
        refine z_chk (fun hk15 => ?_)
        refine z_getR C fl_RX9_10 rfl hk15 dX9_law_98 ?_
        refine z_bndR (fun y1 => ?_)
        refine z_dup C (cat_rf _) dX9_law_101 ?_
        refine z_ck (fun a9 hr8 hk16 => ?_)
        refine z_getI C fl_RX9_101 hr8 hk16 dX9_law_102 ?_
        refine z_iconst (v := 1) C dX9_law_105 (by decide) ?_
        refine z_iadd C dX9_law_106 ?_
        refine z_putI C fl_RX9_101 (fun h => by cases h) hr8 hk16 rfl rfl dX9_law_107 (fun m7 eK1 eN1 => ?_)
        refine z_aload_n C dX9_law_110 rfl 3 rfl ?_
        refine z_getR C fl_RX9_10 rfl (kfw eK1 hk15) dX9_law_111 ?_
        refine z_ck (fun a10 hr9 hk17 => ?_)
        refine z_getI C fl_RX9_101 hr9 hk17 dX9_law_114 ?_
        refine z_iconst (v := 1) C dX9_law_117 (by decide) ?_
        refine z_isub C dX9_law_118 ?_
        exact z_iret C hr dX9_law_119
      · refine z_iload_n C dX9_law_95 rfl 4 rfl ?_
        exact z_iret C hr dX9_law_96
    · refine z_iconst (v := (-1)) C dX9_law_77 (by decide) ?_
      exact z_iret C hr dX9_law_78
  · refine z_bipush (v := (-2)) C dX9_law_31 (by decide) ?_
    exact z_iret C hr dX9_law_33
def f_X9_law (th : Nat) (p1 : Int32) (m : MM) : Option (Int32 × MM) := g_X9_law_0 th p1 m
theorem M_X9_law (l : Launch) (E : EX) (th : Nat) (p1 : Int32) (m : MM) (r : Int32) (m2 : MM) (h : f_X9_law th p1 m = some (r, m2)) : Met l yX9_law (.code yX9_law cX9_law 5 (some .int) :: TB) rmX9_law (va_Pc [.ref th, .int p1] (St E m)) (QR E (emI r) m2) 0 0 (AA E) :=
  met_of (em := emI) (plainFor_of_name rfl) (Nat.le_of_ble_eq_true rfl) (L0 := [(0, va_rf (some th)), (1, .int p1)]) rfl (fun Γ _ hrm C hr hn => s_X9_law_0 C hr hrm th p1 m) h

theorem dX9_fault_0 : decode cX9_fault 0 = .ok (.iload_n 1, 1) := by decide +kernel
theorem dX9_fault_1 : decode cX9_fault 1 = .ok (.ifCond .ne 11, 3) := by decide +kernel
theorem dX9_fault_4 : decode cX9_fault 4 = .ok (.aload_n 0, 1) := by decide +kernel
theorem dX9_fault_5 : decode cX9_fault 5 = .ok (.getfield 10, 3) := by decide +kernel
theorem dX9_fault_8 : decode cX9_fault 8 = .ok (.getfield 120, 3) := by decide +kernel
theorem dX9_fault_11 : decode cX9_fault 11 = .ok (.ireturn, 1) := by decide +kernel
theorem dX9_fault_12 : decode cX9_fault 12 = .ok (.iload_n 1, 1) := by decide +kernel
theorem dX9_fault_13 : decode cX9_fault 13 = .ok (.iconst 1, 1) := by decide +kernel
theorem dX9_fault_14 : decode cX9_fault 14 = .ok (.if_icmp .ne 13, 3) := by decide +kernel
theorem dX9_fault_17 : decode cX9_fault 17 = .ok (.aload_n 0, 1) := by decide +kernel
theorem dX9_fault_18 : decode cX9_fault 18 = .ok (.getfield 10, 3) := by decide +kernel
theorem dX9_fault_21 : decode cX9_fault 21 = .ok (.getfield 121, 3) := by decide +kernel
theorem dX9_fault_24 : decode cX9_fault 24 = .ok (.goto 4, 3) := by decide +kernel
theorem dX9_fault_27 : decode cX9_fault 27 = .ok (.iconst (-1), 1) := by decide +kernel
theorem dX9_fault_28 : decode cX9_fault 28 = .ok (.ireturn, 1) := by decide +kernel
def rmX9_fault : Room := { frames := 0, cells := 0, slots := 0, locals := 0 }
set_option maxRecDepth 100000 in
def g_X9_fault_0 (th : Nat) (p1 : Int32) (m : MM) : Option (Int32 × MM) :=
  if p1 = 0 then (chk (m.K th = 10) (ck m (m.R 1000 th 0) 8 (fun a2 => some (m.I 802 a2 0, m)))) else (if p1 = 1 then (chk (m.K th = 10) (ck m (m.R 1000 th 0) 8 (fun a1 => some (m.I 803 a1 0, m)))) else (some ((-1), m)))
set_option maxHeartbeats 4000000 in
set_option maxRecDepth 100000 in
theorem s_X9_fault_0 {Γ : GX} {E : EX} (C : Cx Γ E cX9_fault RX9 2) (hr : Γ.meth.sig.returnType = (some .int)) (hrm : Γ.rm = rmX9_fault) (th : Nat) (p1 : Int32) (m : MM) : Sm (QM Γ E emI 0 0) Γ E 2 0 0 0 [(0, va_rf (some th)), (1, .int p1)] [] m (g_X9_fault_0 th p1 m) := by
  unfold g_X9_fault_0
  refine z_iload_n C dX9_fault_0 rfl 1 rfl ?_
  refine z_if_ne (tgt := 12) C dX9_fault_1 (by decide) (fun c1 => ?_) (fun c1 => ?_)
  · refine z_iload_n C dX9_fault_12 rfl 1 rfl ?_
    refine z_iconst (v := 1) C dX9_fault_13 (by decide) ?_
    refine z_icmp_ne (tgt := 27) C dX9_fault_14 (by decide) (fun c2 => ?_) (fun c2 => ?_)
    · refine z_iconst (v := (-1)) C dX9_fault_27 (by decide) ?_
      exact z_iret C hr dX9_fault_28
    · refine z_aload_n C dX9_fault_17 rfl 0 rfl ?_
      refine z_chk (fun hk1 => ?_)
      refine z_getR C fl_RX9_10 rfl hk1 dX9_fault_18 ?_
      refine z_ck (fun a1 hr1 hk2 => ?_)
      refine z_getI C fl_RX9_121 hr1 hk2 dX9_fault_21 ?_
      refine z_goto (tgt := 28) C dX9_fault_24 (by decide) ?_
      exact z_iret C hr dX9_fault_28
  · refine z_aload_n C dX9_fault_4 rfl 0 rfl ?_
    refine z_chk (fun hk3 => ?_)
    refine z_getR C fl_RX9_10 rfl hk3 dX9_fault_5 ?_
    refine z_ck (fun a2 hr2 hk4 => ?_)
    refine z_getI C fl_RX9_120 hr2 hk4 dX9_fault_8 ?_
    exact z_iret C hr dX9_fault_11
def f_X9_fault (th : Nat) (p1 : Int32) (m : MM) : Option (Int32 × MM) := g_X9_fault_0 th p1 m
theorem M_X9_fault (l : Launch) (E : EX) (th : Nat) (p1 : Int32) (m : MM) (r : Int32) (m2 : MM) (h : f_X9_fault th p1 m = some (r, m2)) : Met l yX9_fault (.code yX9_fault cX9_fault 2 (some .int) :: TB) rmX9_fault (va_Pc [.ref th, .int p1] (St E m)) (QR E (emI r) m2) 0 0 (AA E) :=
  met_of (em := emI) (plainFor_of_name rfl) (Nat.le_of_ble_eq_true rfl) (L0 := [(0, va_rf (some th)), (1, .int p1)]) rfl (fun Γ _ hrm C hr hn => s_X9_fault_0 C hr hrm th p1 m) h

theorem dX9_about_0 : decode cX9_about 0 = .ok (.aload_n 0, 1) := by decide +kernel
theorem dX9_about_1 : decode cX9_about 1 = .ok (.getfield 10, 3) := by decide +kernel
theorem dX9_about_4 : decode cX9_about 4 = .ok (.iload_n 1, 1) := by decide +kernel
theorem dX9_about_5 : decode cX9_about 5 = .ok (.invokevirtual 122, 3) := by decide +kernel
theorem dX9_about_8 : decode cX9_about 8 = .ok (.astore_n 3, 1) := by decide +kernel
theorem dX9_about_9 : decode cX9_about 9 = .ok (.aload_n 3, 1) := by decide +kernel
theorem dX9_about_10 : decode cX9_about 10 = .ok (.ifnonnull 7, 3) := by decide +kernel
theorem dX9_about_13 : decode cX9_about 13 = .ok (.sipush (-10000), 3) := by decide +kernel
theorem dX9_about_16 : decode cX9_about 16 = .ok (.ireturn, 1) := by decide +kernel
theorem dX9_about_17 : decode cX9_about 17 = .ok (.iload_n 2, 1) := by decide +kernel
theorem dX9_about_18 : decode cX9_about 18 = .ok (.bipush 20, 2) := by decide +kernel
theorem dX9_about_20 : decode cX9_about 20 = .ok (.if_icmp .lt 18, 3) := by decide +kernel
theorem dX9_about_23 : decode cX9_about 23 = .ok (.iload_n 2, 1) := by decide +kernel
theorem dX9_about_24 : decode cX9_about 24 = .ok (.bipush 28, 2) := by decide +kernel
theorem dX9_about_26 : decode cX9_about 26 = .ok (.if_icmp .ge 12, 3) := by decide +kernel
theorem dX9_about_29 : decode cX9_about 29 = .ok (.aload_n 3, 1) := by decide +kernel
theorem dX9_about_30 : decode cX9_about 30 = .ok (.iload_n 2, 1) := by decide +kernel
theorem dX9_about_31 : decode cX9_about 31 = .ok (.bipush 20, 2) := by decide +kernel
theorem dX9_about_33 : decode cX9_about 33 = .ok (.isub, 1) := by decide +kernel
theorem dX9_about_34 : decode cX9_about 34 = .ok (.invokevirtual 125, 3) := by decide +kernel
theorem dX9_about_37 : decode cX9_about 37 = .ok (.ireturn, 1) := by decide +kernel
theorem dX9_about_38 : decode cX9_about 38 = .ok (.iload_n 2, 1) := by decide +kernel
theorem dX9_about_39 : decode cX9_about 39 = .ok (.bipush 30, 2) := by decide +kernel
theorem dX9_about_41 : decode cX9_about 41 = .ok (.if_icmp .lt 18, 3) := by decide +kernel
theorem dX9_about_44 : decode cX9_about 44 = .ok (.iload_n 2, 1) := by decide +kernel
theorem dX9_about_45 : decode cX9_about 45 = .ok (.bipush 36, 2) := by decide +kernel
theorem dX9_about_47 : decode cX9_about 47 = .ok (.if_icmp .ge 12, 3) := by decide +kernel
theorem dX9_about_50 : decode cX9_about 50 = .ok (.aload_n 3, 1) := by decide +kernel
theorem dX9_about_51 : decode cX9_about 51 = .ok (.iload_n 2, 1) := by decide +kernel
theorem dX9_about_52 : decode cX9_about 52 = .ok (.bipush 30, 2) := by decide +kernel
theorem dX9_about_54 : decode cX9_about 54 = .ok (.isub, 1) := by decide +kernel
theorem dX9_about_55 : decode cX9_about 55 = .ok (.invokevirtual 129, 3) := by decide +kernel
theorem dX9_about_58 : decode cX9_about 58 = .ok (.ireturn, 1) := by decide +kernel
theorem dX9_about_59 : decode cX9_about 59 = .ok (.iload_n 2, 1) := by decide +kernel
theorem dX9_about_60 : decode cX9_about 60 = .ok (.tableswitch 124 0 9 #[56, 61, 66, 74, 82, 90, 95, 100, 108, 116], 56) := by decide +kernel
theorem dX9_about_116 : decode cX9_about 116 = .ok (.aload_n 3, 1) := by decide +kernel
theorem dX9_about_117 : decode cX9_about 117 = .ok (.getfield 132, 3) := by decide +kernel
theorem dX9_about_120 : decode cX9_about 120 = .ok (.ireturn, 1) := by decide +kernel
theorem dX9_about_121 : decode cX9_about 121 = .ok (.aload_n 3, 1) := by decide +kernel
theorem dX9_about_122 : decode cX9_about 122 = .ok (.getfield 135, 3) := by decide +kernel
theorem dX9_about_125 : decode cX9_about 125 = .ok (.ireturn, 1) := by decide +kernel
theorem dX9_about_126 : decode cX9_about 126 = .ok (.aload_n 3, 1) := by decide +kernel
theorem dX9_about_127 : decode cX9_about 127 = .ok (.getfield 138, 3) := by decide +kernel
theorem dX9_about_130 : decode cX9_about 130 = .ok (.getfield 142, 3) := by decide +kernel
theorem dX9_about_133 : decode cX9_about 133 = .ok (.ireturn, 1) := by decide +kernel
theorem dX9_about_134 : decode cX9_about 134 = .ok (.aload_n 3, 1) := by decide +kernel
theorem dX9_about_135 : decode cX9_about 135 = .ok (.getfield 147, 3) := by decide +kernel
theorem dX9_about_138 : decode cX9_about 138 = .ok (.getfield 142, 3) := by decide +kernel
theorem dX9_about_141 : decode cX9_about 141 = .ok (.ireturn, 1) := by decide +kernel
theorem dX9_about_142 : decode cX9_about 142 = .ok (.aload_n 3, 1) := by decide +kernel
theorem dX9_about_143 : decode cX9_about 143 = .ok (.getfield 150, 3) := by decide +kernel
theorem dX9_about_146 : decode cX9_about 146 = .ok (.getfield 142, 3) := by decide +kernel
theorem dX9_about_149 : decode cX9_about 149 = .ok (.ireturn, 1) := by decide +kernel
theorem dX9_about_150 : decode cX9_about 150 = .ok (.aload_n 3, 1) := by decide +kernel
theorem dX9_about_151 : decode cX9_about 151 = .ok (.getfield 153, 3) := by decide +kernel
theorem dX9_about_154 : decode cX9_about 154 = .ok (.ireturn, 1) := by decide +kernel
theorem dX9_about_155 : decode cX9_about 155 = .ok (.aload_n 3, 1) := by decide +kernel
theorem dX9_about_156 : decode cX9_about 156 = .ok (.getfield 156, 3) := by decide +kernel
theorem dX9_about_159 : decode cX9_about 159 = .ok (.ireturn, 1) := by decide +kernel
theorem dX9_about_160 : decode cX9_about 160 = .ok (.aload_n 3, 1) := by decide +kernel
theorem dX9_about_161 : decode cX9_about 161 = .ok (.getfield 159, 3) := by decide +kernel
theorem dX9_about_164 : decode cX9_about 164 = .ok (.getfield 142, 3) := by decide +kernel
theorem dX9_about_167 : decode cX9_about 167 = .ok (.ireturn, 1) := by decide +kernel
theorem dX9_about_168 : decode cX9_about 168 = .ok (.aload_n 3, 1) := by decide +kernel
theorem dX9_about_169 : decode cX9_about 169 = .ok (.getfield 162, 3) := by decide +kernel
theorem dX9_about_172 : decode cX9_about 172 = .ok (.getfield 142, 3) := by decide +kernel
theorem dX9_about_175 : decode cX9_about 175 = .ok (.ireturn, 1) := by decide +kernel
theorem dX9_about_176 : decode cX9_about 176 = .ok (.aload_n 3, 1) := by decide +kernel
theorem dX9_about_177 : decode cX9_about 177 = .ok (.getfield 165, 3) := by decide +kernel
theorem dX9_about_180 : decode cX9_about 180 = .ok (.getfield 142, 3) := by decide +kernel
theorem dX9_about_183 : decode cX9_about 183 = .ok (.ireturn, 1) := by decide +kernel
theorem dX9_about_184 : decode cX9_about 184 = .ok (.sipush (-10000), 3) := by decide +kernel
theorem dX9_about_187 : decode cX9_about 187 = .ok (.ireturn, 1) := by decide +kernel
def rmX9_about : Room := { frames := 2, cells := 0, slots := 0, locals := 42 }
set_option maxRecDepth 100000 in
def g_X9_about_59 (th : Nat) (p1 : Int32) (p2 : Int32) (x3 : Option Nat) (m : MM) : Option (Int32 × MM) :=
  if p2 = 0 then (ck m x3 9 (fun a1 => some (m.I 900 a1 0, m))) else (if p2 = 1 then (ck m x3 9 (fun a2 => some (m.I 901 a2 0, m))) else (if p2 = 2 then (ck m x3 9 (fun a3 => ck m (m.R 904 a3 0) 7 (fun a4 => some (m.I 703 a4 0, m)))) else (if p2 = 3 then (ck m x3 9 (fun a5 => ck m (m.R 905 a5 0) 7 (fun a6 => some (m.I 703 a6 0, m)))) else (if p2 = 4 then (ck m x3 9 (fun a7 => ck m (m.R 906 a7 0) 7 (fun a8 => some (m.I 703 a8 0, m)))) else (if p2 = 5 then (ck m x3 9 (fun a9 => some (m.I 902 a9 0, m))) else (if p2 = 6 then (ck m x3 9 (fun a10 => some (m.I 903 a10 0, m))) else (if p2 = 7 then (ck m x3 9 (fun a11 => ck m (m.R 907 a11 0) 7 (fun a12 => some (m.I 703 a12 0, m)))) else (if p2 = 8 then (ck m x3 9 (fun a13 => ck m (m.R 908 a13 0) 7 (fun a14 => some (m.I 703 a14 0, m)))) else (if p2 = 9 then (ck m x3 9 (fun a15 => ck m (m.R 909 a15 0) 7 (fun a16 => some (m.I 703 a16 0, m)))) else (some ((-10000), m)))))))))))
set_option maxHeartbeats 4000000 in
set_option maxRecDepth 100000 in
theorem s_X9_about_59 {Γ : GX} {E : EX} (C : Cx Γ E cX9_about RX9 4) (hr : Γ.meth.sig.returnType = (some .int)) (hrm : Γ.rm = rmX9_about) (th : Nat) (p1 : Int32) (p2 : Int32) (x3 : Option Nat) (m : MM) : Sm (QM Γ E emI 0 0) Γ E 4 0 0 59 [(0, va_rf (some th)), (1, .int p1), (2, .int p2), (3, va_rf x3)] [] m (g_X9_about_59 th p1 p2 x3 m) := by
  unfold g_X9_about_59
  refine z_iload_n C dX9_about_59 rfl 2 rfl ?_
  refine z_ite (fun c1 => ?_) (fun c1 => ?_)
  · refine z_tabI (v := 0) (tgt := 116) C dX9_about_60 c1 (by decide) (by decide) (off := 56) (by decide) (by decide) ?_
    refine z_aload_n C dX9_about_116 rfl 3 rfl ?_
    refine z_ck (fun a1 hr1 hk1 => ?_)
    refine z_getI C fl_RX9_132 hr1 hk1 dX9_about_117 ?_
    exact z_iret C hr dX9_about_120
  refine z_ite (fun c2 => ?_) (fun c2 => ?_)
  · refine z_tabI (v := 1) (tgt := 121) C dX9_about_60 c2 (by decide) (by decide) (off := 61) (by decide) (by decide) ?_
    refine z_aload_n C dX9_about_121 rfl 3 rfl ?_
    refine z_ck (fun a2 hr2 hk2 => ?_)
    refine z_getI C fl_RX9_135 hr2 hk2 dX9_about_122 ?_
    exact z_iret C hr dX9_about_125
  refine z_ite (fun c3 => ?_) (fun c3 => ?_)
  · refine z_tabI (v := 2) (tgt := 126) C dX9_about_60 c3 (by decide) (by decide) (off := 66) (by decide) (by decide) ?_
    refine z_aload_n C dX9_about_126 rfl 3 rfl ?_
    refine z_ck (fun a3 hr3 hk3 => ?_)
    refine z_getR C fl_RX9_138 hr3 hk3 dX9_about_127 ?_
    refine z_ck (fun a4 hr4 hk4 => ?_)
    refine z_getI C fl_RX9_142 hr4 hk4 dX9_about_130 ?_
    exact z_iret C hr dX9_about_133
  refine z_ite (fun c4 => ?_) (fun c4 => ?_)
  · refine z_tabI (v := 3) (tgt := 134) C dX9_about_60 c4 (by decide) (by decide) (off := 74) (by decide) (by decide) ?_
    refine z_aload_n C dX9_about_134 rfl 3 rfl ?_
    refine z_ck (fun a5 hr5 hk5 => ?_)
    refine z_getR C fl_RX9_147 hr5 hk5 dX9_about_135 ?_
    refine z_ck (fun a6 hr6 hk6 => ?_)
    refine z_getI C fl_RX9_142 hr6 hk6 dX9_about_138 ?_
    exact z_iret C hr dX9_about_141
  refine z_ite (fun c5 => ?_) (fun c5 => ?_)
  · refine z_tabI (v := 4) (tgt := 142) C dX9_about_60 c5 (by decide) (by decide) (off := 82) (by decide) (by decide) ?_
    refine z_aload_n C dX9_about_142 rfl 3 rfl ?_
    refine z_ck (fun a7 hr7 hk7 => ?_)
    refine z_getR C fl_RX9_150 hr7 hk7 dX9_about_143 ?_
    refine z_ck (fun a8 hr8 hk8 => ?_)
    refine z_getI C fl_RX9_142 hr8 hk8 dX9_about_146 ?_
    exact z_iret C hr dX9_about_149
  refine z_ite (fun c6 => ?_) (fun c6 => ?_)
  · refine z_tabI (v := 5) (tgt := 150) C dX9_about_60 c6 (by decide) (by decide) (off := 90) (by decide) (by decide) ?_
    refine z_aload_n C dX9_about_150 rfl 3 rfl ?_
    refine z_ck (fun a9 hr9 hk9 => ?_)
    refine z_getI C fl_RX9_153 hr9 hk9 dX9_about_151 ?_
    exact z_iret C hr dX9_about_154
  refine z_ite (fun c7 => ?_) (fun c7 => ?_)
  · refine z_tabI (v := 6) (tgt := 155) C dX9_about_60 c7 (by decide) (by decide) (off := 95) (by decide) (by decide) ?_
    refine z_aload_n C dX9_about_155 rfl 3 rfl ?_
    refine z_ck (fun a10 hr10 hk10 => ?_)
    refine z_getI C fl_RX9_156 hr10 hk10 dX9_about_156 ?_
    exact z_iret C hr dX9_about_159
  refine z_ite (fun c8 => ?_) (fun c8 => ?_)
  · refine z_tabI (v := 7) (tgt := 160) C dX9_about_60 c8 (by decide) (by decide) (off := 100) (by decide) (by decide) ?_
    refine z_aload_n C dX9_about_160 rfl 3 rfl ?_
    refine z_ck (fun a11 hr11 hk11 => ?_)
    refine z_getR C fl_RX9_159 hr11 hk11 dX9_about_161 ?_
    refine z_ck (fun a12 hr12 hk12 => ?_)
    refine z_getI C fl_RX9_142 hr12 hk12 dX9_about_164 ?_
    exact z_iret C hr dX9_about_167
  refine z_ite (fun c9 => ?_) (fun c9 => ?_)
  · refine z_tabI (v := 8) (tgt := 168) C dX9_about_60 c9 (by decide) (by decide) (off := 108) (by decide) (by decide) ?_
    refine z_aload_n C dX9_about_168 rfl 3 rfl ?_
    refine z_ck (fun a13 hr13 hk13 => ?_)
    refine z_getR C fl_RX9_162 hr13 hk13 dX9_about_169 ?_
    refine z_ck (fun a14 hr14 hk14 => ?_)
    refine z_getI C fl_RX9_142 hr14 hk14 dX9_about_172 ?_
    exact z_iret C hr dX9_about_175
  refine z_ite (fun c10 => ?_) (fun c10 => ?_)
  · refine z_tabI (v := 9) (tgt := 176) C dX9_about_60 c10 (by decide) (by decide) (off := 116) (by decide) (by decide) ?_
    refine z_aload_n C dX9_about_176 rfl 3 rfl ?_
    refine z_ck (fun a15 hr15 hk15 => ?_)
    refine z_getR C fl_RX9_165 hr15 hk15 dX9_about_177 ?_
    refine z_ck (fun a16 hr16 hk16 => ?_)
    refine z_getI C fl_RX9_142 hr16 hk16 dX9_about_180 ?_
    exact z_iret C hr dX9_about_183
  refine z_tabO (tgt := 184) C dX9_about_60 (by have qc1 := ne_int (n := 0) c1 (by decide); have qc2 := ne_int (n := 1) c2 (by decide); have qc3 := ne_int (n := 2) c3 (by decide); have qc4 := ne_int (n := 3) c4 (by decide); have qc5 := ne_int (n := 4) c5 (by decide); have qc6 := ne_int (n := 5) c6 (by decide); have qc7 := ne_int (n := 6) c7 (by decide); have qc8 := ne_int (n := 7) c8 (by decide); have qc9 := ne_int (n := 8) c9 (by decide); have qc10 := ne_int (n := 9) c10 (by decide); omega) (by decide) ?_
  refine z_sipush (v := (-10000)) C dX9_about_184 (by decide) ?_
  exact z_iret C hr dX9_about_187
set_option maxRecDepth 100000 in
def g_X9_about_38 (th : Nat) (p1 : Int32) (p2 : Int32) (x3 : Option Nat) (m : MM) : Option (Int32 × MM) :=
  if p2 < 30 then (g_X9_about_59 th p1 p2 x3 m) else (if 36 ≤ p2 then (g_X9_about_59 th p1 p2 x3 m) else (ck m x3 9 (fun a17 => cal (f_X8_growsBy a17 (p2 - 30) m) (fun r1 m1 => some (r1, m1)))))
set_option maxHeartbeats 4000000 in
set_option maxRecDepth 100000 in
theorem s_X9_about_38 {Γ : GX} {E : EX} (C : Cx Γ E cX9_about RX9 4) (hr : Γ.meth.sig.returnType = (some .int)) (hrm : Γ.rm = rmX9_about) (th : Nat) (p1 : Int32) (p2 : Int32) (x3 : Option Nat) (m : MM) : Sm (QM Γ E emI 0 0) Γ E 4 0 0 38 [(0, va_rf (some th)), (1, .int p1), (2, .int p2), (3, va_rf x3)] [] m (g_X9_about_38 th p1 p2 x3 m) := by
  unfold g_X9_about_38
  refine z_iload_n C dX9_about_38 rfl 2 rfl ?_
  refine z_bipush (v := 30) C dX9_about_39 (by decide) ?_
  refine z_icmp_lt (tgt := 59) C dX9_about_41 (by decide) (fun c11 => ?_) (fun c11 => ?_)
  · exact z_sub [0, 1, 2, 3] rfl (s_X9_about_59 C hr hrm th p1 p2 x3 m)
  · refine z_iload_n C dX9_about_44 rfl 2 rfl ?_
    refine z_bipush (v := 36) C dX9_about_45 (by decide) ?_
    refine z_icmp_ge (tgt := 59) C dX9_about_47 (by decide) (fun c12 => ?_) (fun c12 => ?_)
    · exact z_sub [0, 1, 2, 3] rfl (s_X9_about_59 C hr hrm th p1 p2 x3 m)
    · refine z_aload_n C dX9_about_50 rfl 3 rfl ?_
      refine z_iload_n C dX9_about_51 rfl 2 rfl ?_
      refine z_bipush (v := 30) C dX9_about_52 (by decide) ?_
      refine z_isub C dX9_about_54 ?_
      refine z_ck (fun a17 hr17 hk17 => ?_)
      refine z_cVI [.int (p2 - 30)] [] C mv_RX9_129 (fun r0 m0 h0 => M_X8_growsBy _ _ _ _ _ _ _ h0) rfl rfl ⟨by rw [hrm]; exact Nat.le_of_ble_eq_true rfl, by rw [hrm]; exact Nat.le_of_ble_eq_true rfl⟩ ⟨by rw [hrm]; exact Nat.le_of_ble_eq_true rfl, by rw [hrm]; exact Nat.le_of_ble_eq_true rfl⟩ hr17 hk17 rfl rfl rfl (Nat.le_of_ble_eq_true rfl) dX9_about_55 (fun r1 m1 => ?_)
      exact z_iret C hr dX9_about_58
set_option maxRecDepth 100000 in
def g_X9_about_0 (th : Nat) (p1 : Int32) (p2 : Int32) (m : MM) : Option (Int32 × MM) :=
  chk (m.K th = 10) (ck m (m.R 1000 th 0) 8 (fun a18 => cal (f_X7_townAt a18 p1 m) (fun r2 m2 => ifn r2 (some ((-10000), m2)) (fun a19 => if p2 < 20 then (g_X9_about_38 th p1 p2 r2 m2) else (if 28 ≤ p2 then (g_X9_about_38 th p1 p2 r2 m2) else (chk (m2.K a19 = 9) (cal (f_X8_windIn a19 (p2 - 20) m2) (fun r3 m3 => some (r3, m3)))))))))
set_option maxHeartbeats 4000000 in
set_option maxRecDepth 100000 in
theorem s_X9_about_0 {Γ : GX} {E : EX} (C : Cx Γ E cX9_about RX9 4) (hr : Γ.meth.sig.returnType = (some .int)) (hrm : Γ.rm = rmX9_about) (th : Nat) (p1 : Int32) (p2 : Int32) (m : MM) : Sm (QM Γ E emI 0 0) Γ E 4 0 0 0 [(0, va_rf (some th)), (1, .int p1), (2, .int p2)] [] m (g_X9_about_0 th p1 p2 m) := by
  unfold g_X9_about_0
  refine z_aload_n C dX9_about_0 rfl 0 rfl ?_
  refine z_chk (fun hk18 => ?_)
  refine z_getR C fl_RX9_10 rfl hk18 dX9_about_1 ?_
  refine z_iload_n C dX9_about_4 rfl 1 rfl ?_
  refine z_ck (fun a18 hr18 hk19 => ?_)
  refine z_cVR [.int p1] [] C mv_RX9_122 (fun r0 m0 h0 => M_X7_townAt _ _ _ _ _ _ _ h0) rfl rfl ⟨by rw [hrm]; exact Nat.le_of_ble_eq_true rfl, by rw [hrm]; exact Nat.le_of_ble_eq_true rfl⟩ ⟨by rw [hrm]; exact Nat.le_of_ble_eq_true rfl, by rw [hrm]; exact Nat.le_of_ble_eq_true rfl⟩ hr18 hk19 rfl rfl rfl (Nat.le_of_ble_eq_true rfl) dX9_about_5 (fun r2 m2 => ?_)
  refine z_astore_n (i := 3) (L2 := [(3, va_rf r2), (0, va_rf (some th)), (1, .int p1), (2, .int p2)]) C dX9_about_8 rfl (by decide) rfl ?_
  refine z_aload_n C dX9_about_9 rfl 0 rfl ?_
  refine z_ifnonnull (tgt := 17) C dX9_about_10 (by decide) (fun a19 ha1 => ?_) (fun hn1 => ?_)
  · refine z_iload_n C dX9_about_17 rfl 3 rfl ?_
    refine z_bipush (v := 20) C dX9_about_18 (by decide) ?_
    refine z_icmp_lt (tgt := 38) C dX9_about_20 (by decide) (fun c13 => ?_) (fun c13 => ?_)
    · exact z_sub [1, 2, 3, 0] rfl (s_X9_about_38 C hr hrm th p1 p2 r2 m2)
    · refine z_iload_n C dX9_about_23 rfl 3 rfl ?_
      refine z_bipush (v := 28) C dX9_about_24 (by decide) ?_
      refine z_icmp_ge (tgt := 38) C dX9_about_26 (by decide) (fun c14 => ?_) (fun c14 => ?_)
      · exact z_sub [1, 2, 3, 0] rfl (s_X9_about_38 C hr hrm th p1 p2 r2 m2)
      · refine z_aload_n C dX9_about_29 rfl 0 rfl ?_
        refine z_iload_n C dX9_about_30 rfl 3 rfl ?_
        refine z_bipush (v := 20) C dX9_about_31 (by decide) ?_
        refine z_isub C dX9_about_33 ?_
        refine z_chk (fun hk20 => ?_)
        refine z_cVI [.int (p2 - 20)] [] C mv_RX9_125 (fun r0 m0 h0 => M_X8_windIn _ _ _ _ _ _ _ h0) rfl rfl ⟨by rw [hrm]; exact Nat.le_of_ble_eq_true rfl, by rw [hrm]; exact Nat.le_of_ble_eq_true rfl⟩ ⟨by rw [hrm]; exact Nat.le_of_ble_eq_true rfl, by rw [hrm]; exact Nat.le_of_ble_eq_true rfl⟩ ha1 hk20 rfl rfl rfl (Nat.le_of_ble_eq_true rfl) dX9_about_34 (fun r3 m3 => ?_)
        exact z_iret C hr dX9_about_37
  · refine z_sipush (v := (-10000)) C dX9_about_13 (by decide) ?_
    exact z_iret C hr dX9_about_16
def f_X9_about (th : Nat) (p1 : Int32) (p2 : Int32) (m : MM) : Option (Int32 × MM) := g_X9_about_0 th p1 p2 m
theorem M_X9_about (l : Launch) (E : EX) (th : Nat) (p1 : Int32) (p2 : Int32) (m : MM) (r : Int32) (m2 : MM) (h : f_X9_about th p1 p2 m = some (r, m2)) : Met l yX9_about (.code yX9_about cX9_about 4 (some .int) :: TB) rmX9_about (va_Pc [.ref th, .int p1, .int p2] (St E m)) (QR E (emI r) m2) 0 0 (AA E) :=
  met_of (em := emI) (plainFor_of_name rfl) (Nat.le_of_ble_eq_true rfl) (L0 := [(0, va_rf (some th)), (1, .int p1), (2, .int p2)]) rfl (fun Γ _ hrm C hr hn => s_X9_about_0 C hr hrm th p1 p2 m) h

theorem dX9_thing_0 : decode cX9_thing 0 = .ok (.aload_n 0, 1) := by decide +kernel
theorem dX9_thing_1 : decode cX9_thing 1 = .ok (.getfield 10, 3) := by decide +kernel
theorem dX9_thing_4 : decode cX9_thing 4 = .ok (.iload_n 1, 1) := by decide +kernel
theorem dX9_thing_5 : decode cX9_thing 5 = .ok (.invokevirtual 122, 3) := by decide +kernel
theorem dX9_thing_8 : decode cX9_thing 8 = .ok (.astore 4, 2) := by decide +kernel
theorem dX9_thing_10 : decode cX9_thing 10 = .ok (.aload 4, 2) := by decide +kernel
theorem dX9_thing_12 : decode cX9_thing 12 = .ok (.ifnull 22, 3) := by decide +kernel
theorem dX9_thing_15 : decode cX9_thing 15 = .ok (.aload 4, 2) := by decide +kernel
theorem dX9_thing_17 : decode cX9_thing 17 = .ok (.iload_n 2, 1) := by decide +kernel
theorem dX9_thing_18 : decode cX9_thing 18 = .ok (.invokevirtual 168, 3) := by decide +kernel
theorem dX9_thing_21 : decode cX9_thing 21 = .ok (.ifCond .eq 13, 3) := by decide +kernel
theorem dX9_thing_24 : decode cX9_thing 24 = .ok (.iload_n 3, 1) := by decide +kernel
theorem dX9_thing_25 : decode cX9_thing 25 = .ok (.ifCond .lt 9, 3) := by decide +kernel
theorem dX9_thing_28 : decode cX9_thing 28 = .ok (.iload_n 3, 1) := by decide +kernel
theorem dX9_thing_29 : decode cX9_thing 29 = .ok (.bipush 8, 2) := by decide +kernel
theorem dX9_thing_31 : decode cX9_thing 31 = .ok (.if_icmp .lt 7, 3) := by decide +kernel
theorem dX9_thing_34 : decode cX9_thing 34 = .ok (.sipush (-10000), 3) := by decide +kernel
theorem dX9_thing_37 : decode cX9_thing 37 = .ok (.ireturn, 1) := by decide +kernel
theorem dX9_thing_38 : decode cX9_thing 38 = .ok (.aload 4, 2) := by decide +kernel
theorem dX9_thing_40 : decode cX9_thing 40 = .ok (.getfield 138, 3) := by decide +kernel
theorem dX9_thing_43 : decode cX9_thing 43 = .ok (.iload_n 2, 1) := by decide +kernel
theorem dX9_thing_44 : decode cX9_thing 44 = .ok (.iload_n 3, 1) := by decide +kernel
theorem dX9_thing_45 : decode cX9_thing 45 = .ok (.invokevirtual 172, 3) := by decide +kernel
theorem dX9_thing_48 : decode cX9_thing 48 = .ok (.ireturn, 1) := by decide +kernel
def rmX9_thing : Room := { frames := 2, cells := 0, slots := 0, locals := 42 }
set_option maxRecDepth 100000 in
def g_X9_thing_0 (th : Nat) (p1 : Int32) (p2 : Int32) (p3 : Int32) (m : MM) : Option (Int32 × MM) :=
  chk (m.K th = 10) (ck m (m.R 1000 th 0) 8 (fun a1 => cal (f_X7_townAt a1 p1 m) (fun r1 m1 => ifn r1 (some ((-10000), m1)) (fun a2 => chk (m1.K a2 = 9) (cal (f_X8_hasThing a2 p2 m1) (fun r2 m2 => if r2 = 0 then (some ((-10000), m2)) else (if p3 < 0 then (some ((-10000), m2)) else (if p3 < 8 then (chk (m2.K a2 = 9) (ck m2 (m2.R 904 a2 0) 7 (fun a3 => cal (f_X6_cell a3 p2 p3 m2) (fun r3 m3 => some (r3, m3))))) else (some ((-10000), m2))))))))))
set_option maxHeartbeats 4000000 in
set_option maxRecDepth 100000 in
theorem s_X9_thing_0 {Γ : GX} {E : EX} (C : Cx Γ E cX9_thing RX9 5) (hr : Γ.meth.sig.returnType = (some .int)) (hrm : Γ.rm = rmX9_thing) (th : Nat) (p1 : Int32) (p2 : Int32) (p3 : Int32) (m : MM) : Sm (QM Γ E emI 0 0) Γ E 5 0 0 0 [(0, va_rf (some th)), (1, .int p1), (2, .int p2), (3, .int p3)] [] m (g_X9_thing_0 th p1 p2 p3 m) := by
  unfold g_X9_thing_0
  refine z_aload_n C dX9_thing_0 rfl 0 rfl ?_
  refine z_chk (fun hk1 => ?_)
  refine z_getR C fl_RX9_10 rfl hk1 dX9_thing_1 ?_
  refine z_iload_n C dX9_thing_4 rfl 1 rfl ?_
  refine z_ck (fun a1 hr1 hk2 => ?_)
  refine z_cVR [.int p1] [] C mv_RX9_122 (fun r0 m0 h0 => M_X7_townAt _ _ _ _ _ _ _ h0) rfl rfl ⟨by rw [hrm]; exact Nat.le_of_ble_eq_true rfl, by rw [hrm]; exact Nat.le_of_ble_eq_true rfl⟩ ⟨by rw [hrm]; exact Nat.le_of_ble_eq_true rfl, by rw [hrm]; exact Nat.le_of_ble_eq_true rfl⟩ hr1 hk2 rfl rfl rfl (Nat.le_of_ble_eq_true rfl) dX9_thing_5 (fun r1 m1 => ?_)
  refine z_astore (i := 4) (L2 := [(4, va_rf r1), (0, va_rf (some th)), (1, .int p1), (2, .int p2), (3, .int p3)]) C dX9_thing_8 (by decide) rfl ?_
  refine z_aload C dX9_thing_10 0 rfl ?_
  refine z_ifnull (tgt := 34) C dX9_thing_12 (by decide) (fun hn1 => ?_) (fun a2 ha1 => ?_)
  · refine z_sipush (v := (-10000)) C dX9_thing_34 (by decide) ?_
    exact z_iret C hr dX9_thing_37
  · refine z_aload C dX9_thing_15 0 rfl ?_
    refine z_iload_n C dX9_thing_17 rfl 3 rfl ?_
    refine z_chk (fun hk3 => ?_)
    refine z_cVI [.int p2] [] C mv_RX9_168 (fun r0 m0 h0 => M_X8_hasThing _ _ _ _ _ _ _ h0) rfl rfl ⟨by rw [hrm]; exact Nat.le_of_ble_eq_true rfl, by rw [hrm]; exact Nat.le_of_ble_eq_true rfl⟩ ⟨by rw [hrm]; exact Nat.le_of_ble_eq_true rfl, by rw [hrm]; exact Nat.le_of_ble_eq_true rfl⟩ ha1 hk3 rfl rfl rfl (Nat.le_of_ble_eq_true rfl) dX9_thing_18 (fun r2 m2 => ?_)
    refine z_if_eq (tgt := 34) C dX9_thing_21 (by decide) (fun c1 => ?_) (fun c1 => ?_)
    · refine z_sipush (v := (-10000)) C dX9_thing_34 (by decide) ?_
      exact z_iret C hr dX9_thing_37
    · refine z_iload_n C dX9_thing_24 rfl 4 rfl ?_
      refine z_if_lt (tgt := 34) C dX9_thing_25 (by decide) (fun c2 => ?_) (fun c2 => ?_)
      · refine z_sipush (v := (-10000)) C dX9_thing_34 (by decide) ?_
        exact z_iret C hr dX9_thing_37
      · refine z_iload_n C dX9_thing_28 rfl 4 rfl ?_
        refine z_bipush (v := 8) C dX9_thing_29 (by decide) ?_
        refine z_icmp_lt (tgt := 38) C dX9_thing_31 (by decide) (fun c3 => ?_) (fun c3 => ?_)
        · refine z_aload C dX9_thing_38 0 rfl ?_
          refine z_chk (fun hk4 => ?_)
          refine z_getR C fl_RX9_138 ha1 hk4 dX9_thing_40 ?_
          refine z_iload_n C dX9_thing_43 rfl 3 rfl ?_
          refine z_iload_n C dX9_thing_44 rfl 4 rfl ?_
          refine z_ck (fun a3 hr2 hk5 => ?_)
          refine z_cVI [.int p2, .int p3] [] C mv_RX9_172 (fun r0 m0 h0 => M_X6_cell _ _ _ _ _ _ _ _ h0) rfl rfl ⟨by rw [hrm]; exact Nat.le_of_ble_eq_true rfl, by rw [hrm]; exact Nat.le_of_ble_eq_true rfl⟩ ⟨by rw [hrm]; exact Nat.le_of_ble_eq_true rfl, by rw [hrm]; exact Nat.le_of_ble_eq_true rfl⟩ hr2 hk5 rfl rfl rfl (Nat.le_of_ble_eq_true rfl) dX9_thing_45 (fun r3 m3 => ?_)
          exact z_iret C hr dX9_thing_48
        · refine z_sipush (v := (-10000)) C dX9_thing_34 (by decide) ?_
          exact z_iret C hr dX9_thing_37
def f_X9_thing (th : Nat) (p1 : Int32) (p2 : Int32) (p3 : Int32) (m : MM) : Option (Int32 × MM) := g_X9_thing_0 th p1 p2 p3 m
theorem M_X9_thing (l : Launch) (E : EX) (th : Nat) (p1 : Int32) (p2 : Int32) (p3 : Int32) (m : MM) (r : Int32) (m2 : MM) (h : f_X9_thing th p1 p2 p3 m = some (r, m2)) : Met l yX9_thing (.code yX9_thing cX9_thing 5 (some .int) :: TB) rmX9_thing (va_Pc [.ref th, .int p1, .int p2, .int p3] (St E m)) (QR E (emI r) m2) 0 0 (AA E) :=
  met_of (em := emI) (plainFor_of_name rfl) (Nat.le_of_ble_eq_true rfl) (L0 := [(0, va_rf (some th)), (1, .int p1), (2, .int p2), (3, .int p3)]) rfl (fun Γ _ hrm C hr hn => s_X9_thing_0 C hr hrm th p1 p2 p3 m) h

theorem dX9_ruled_0 : decode cX9_ruled 0 = .ok (.aload_n 0, 1) := by decide +kernel
theorem dX9_ruled_1 : decode cX9_ruled 1 = .ok (.getfield 10, 3) := by decide +kernel
theorem dX9_ruled_4 : decode cX9_ruled 4 = .ok (.iload_n 1, 1) := by decide +kernel
theorem dX9_ruled_5 : decode cX9_ruled 5 = .ok (.invokevirtual 175, 3) := by decide +kernel
theorem dX9_ruled_8 : decode cX9_ruled 8 = .ok (.astore_n 3, 1) := by decide +kernel
theorem dX9_ruled_9 : decode cX9_ruled 9 = .ok (.aload_n 3, 1) := by decide +kernel
theorem dX9_ruled_10 : decode cX9_ruled 10 = .ok (.ifnonnull 5, 3) := by decide +kernel
theorem dX9_ruled_13 : decode cX9_ruled 13 = .ok (.iconst (-1), 1) := by decide +kernel
theorem dX9_ruled_14 : decode cX9_ruled 14 = .ok (.ireturn, 1) := by decide +kernel
theorem dX9_ruled_15 : decode cX9_ruled 15 = .ok (.iload_n 2, 1) := by decide +kernel
theorem dX9_ruled_16 : decode cX9_ruled 16 = .ok (.bipush 10, 2) := by decide +kernel
theorem dX9_ruled_18 : decode cX9_ruled 18 = .ok (.if_icmp .lt 27, 3) := by decide +kernel
theorem dX9_ruled_21 : decode cX9_ruled 21 = .ok (.iload_n 2, 1) := by decide +kernel
theorem dX9_ruled_22 : decode cX9_ruled 22 = .ok (.bipush 60, 2) := by decide +kernel
theorem dX9_ruled_24 : decode cX9_ruled 24 = .ok (.if_icmp .ge 21, 3) := by decide +kernel
theorem dX9_ruled_27 : decode cX9_ruled 27 = .ok (.aload_n 3, 1) := by decide +kernel
theorem dX9_ruled_28 : decode cX9_ruled 28 = .ok (.getfield 178, 3) := by decide +kernel
theorem dX9_ruled_31 : decode cX9_ruled 31 = .ok (.iload_n 2, 1) := by decide +kernel
theorem dX9_ruled_32 : decode cX9_ruled 32 = .ok (.bipush 10, 2) := by decide +kernel
theorem dX9_ruled_34 : decode cX9_ruled 34 = .ok (.irem, 1) := by decide +kernel
theorem dX9_ruled_35 : decode cX9_ruled 35 = .ok (.iload_n 2, 1) := by decide +kernel
theorem dX9_ruled_36 : decode cX9_ruled 36 = .ok (.bipush 10, 2) := by decide +kernel
theorem dX9_ruled_38 : decode cX9_ruled 38 = .ok (.idiv, 1) := by decide +kernel
theorem dX9_ruled_39 : decode cX9_ruled 39 = .ok (.iconst 1, 1) := by decide +kernel
theorem dX9_ruled_40 : decode cX9_ruled 40 = .ok (.isub, 1) := by decide +kernel
theorem dX9_ruled_41 : decode cX9_ruled 41 = .ok (.invokevirtual 172, 3) := by decide +kernel
theorem dX9_ruled_44 : decode cX9_ruled 44 = .ok (.ireturn, 1) := by decide +kernel
theorem dX9_ruled_45 : decode cX9_ruled 45 = .ok (.iload_n 2, 1) := by decide +kernel
theorem dX9_ruled_46 : decode cX9_ruled 46 = .ok (.tableswitch 69 0 3 #[30, 38, 51, 64], 30) := by decide +kernel
theorem dX9_ruled_76 : decode cX9_ruled 76 = .ok (.aload_n 3, 1) := by decide +kernel
theorem dX9_ruled_77 : decode cX9_ruled 77 = .ok (.getfield 178, 3) := by decide +kernel
theorem dX9_ruled_80 : decode cX9_ruled 80 = .ok (.getfield 142, 3) := by decide +kernel
theorem dX9_ruled_83 : decode cX9_ruled 83 = .ok (.ireturn, 1) := by decide +kernel
theorem dX9_ruled_84 : decode cX9_ruled 84 = .ok (.aload_n 3, 1) := by decide +kernel
theorem dX9_ruled_85 : decode cX9_ruled 85 = .ok (.getfield 181, 3) := by decide +kernel
theorem dX9_ruled_88 : decode cX9_ruled 88 = .ok (.ifCond .eq 7, 3) := by decide +kernel
theorem dX9_ruled_91 : decode cX9_ruled 91 = .ok (.iconst 1, 1) := by decide +kernel
theorem dX9_ruled_92 : decode cX9_ruled 92 = .ok (.goto 4, 3) := by decide +kernel
theorem dX9_ruled_95 : decode cX9_ruled 95 = .ok (.iconst 0, 1) := by decide +kernel
theorem dX9_ruled_96 : decode cX9_ruled 96 = .ok (.ireturn, 1) := by decide +kernel
theorem dX9_ruled_97 : decode cX9_ruled 97 = .ok (.aload_n 3, 1) := by decide +kernel
theorem dX9_ruled_98 : decode cX9_ruled 98 = .ok (.getfield 185, 3) := by decide +kernel
theorem dX9_ruled_101 : decode cX9_ruled 101 = .ok (.ifCond .eq 7, 3) := by decide +kernel
theorem dX9_ruled_104 : decode cX9_ruled 104 = .ok (.iconst 1, 1) := by decide +kernel
theorem dX9_ruled_105 : decode cX9_ruled 105 = .ok (.goto 4, 3) := by decide +kernel
theorem dX9_ruled_108 : decode cX9_ruled 108 = .ok (.iconst 0, 1) := by decide +kernel
theorem dX9_ruled_109 : decode cX9_ruled 109 = .ok (.ireturn, 1) := by decide +kernel
theorem dX9_ruled_110 : decode cX9_ruled 110 = .ok (.aload_n 3, 1) := by decide +kernel
theorem dX9_ruled_111 : decode cX9_ruled 111 = .ok (.getfield 188, 3) := by decide +kernel
theorem dX9_ruled_114 : decode cX9_ruled 114 = .ok (.ireturn, 1) := by decide +kernel
theorem dX9_ruled_115 : decode cX9_ruled 115 = .ok (.iconst (-1), 1) := by decide +kernel
theorem dX9_ruled_116 : decode cX9_ruled 116 = .ok (.ireturn, 1) := by decide +kernel
def rmX9_ruled : Room := { frames := 2, cells := 0, slots := 0, locals := 42 }
set_option maxRecDepth 100000 in
def g_X9_ruled_45 (th : Nat) (p1 : Int32) (p2 : Int32) (x3 : Option Nat) (m : MM) : Option (Int32 × MM) :=
  if p2 = 0 then (ck m x3 3 (fun a1 => ck m (m.R 300 a1 0) 7 (fun a2 => some (m.I 703 a2 0, m)))) else (if p2 = 1 then (ck m x3 3 (fun a3 => if (m.I 301 a3 0) = 0 then (some (0, m)) else (some (1, m)))) else (if p2 = 2 then (ck m x3 3 (fun a4 => if (m.I 302 a4 0) = 0 then (some (0, m)) else (some (1, m)))) else (if p2 = 3 then (ck m x3 3 (fun a5 => some (m.I 303 a5 0, m))) else (some ((-1), m)))))
set_option maxHeartbeats 4000000 in
set_option maxRecDepth 100000 in
theorem s_X9_ruled_45 {Γ : GX} {E : EX} (C : Cx Γ E cX9_ruled RX9 4) (hr : Γ.meth.sig.returnType = (some .int)) (hrm : Γ.rm = rmX9_ruled) (th : Nat) (p1 : Int32) (p2 : Int32) (x3 : Option Nat) (m : MM) : Sm (QM Γ E emI 0 0) Γ E 4 0 0 45 [(0, va_rf (some th)), (1, .int p1), (2, .int p2), (3, va_rf x3)] [] m (g_X9_ruled_45 th p1 p2 x3 m) := by
  unfold g_X9_ruled_45
  refine z_iload_n C dX9_ruled_45 rfl 2 rfl ?_
  refine z_ite (fun c1 => ?_) (fun c1 => ?_)
  · refine z_tabI (v := 0) (tgt := 76) C dX9_ruled_46 c1 (by decide) (by decide) (off := 30) (by decide) (by decide) ?_
    refine z_aload_n C dX9_ruled_76 rfl 3 rfl ?_
    refine z_ck (fun a1 hr1 hk1 => ?_)
    refine z_getR C fl_RX9_178 hr1 hk1 dX9_ruled_77 ?_
    refine z_ck (fun a2 hr2 hk2 => ?_)
    refine z_getI C fl_RX9_142 hr2 hk2 dX9_ruled_80 ?_
    exact z_iret C hr dX9_ruled_83
  refine z_ite (fun c2 => ?_) (fun c2 => ?_)
  · refine z_tabI (v := 1) (tgt := 84) C dX9_ruled_46 c2 (by decide) (by decide) (off := 38) (by decide) (by decide) ?_
    refine z_aload_n C dX9_ruled_84 rfl 3 rfl ?_
    refine z_ck (fun a3 hr3 hk3 => ?_)
    refine z_getI C fl_RX9_181 hr3 hk3 dX9_ruled_85 ?_
    refine z_if_eq (tgt := 95) C dX9_ruled_88 (by decide) (fun c3 => ?_) (fun c3 => ?_)
    · refine z_iconst (v := 0) C dX9_ruled_95 (by decide) ?_
      exact z_iret C hr dX9_ruled_96
    · refine z_iconst (v := 1) C dX9_ruled_91 (by decide) ?_
      refine z_goto (tgt := 96) C dX9_ruled_92 (by decide) ?_
      exact z_iret C hr dX9_ruled_96
  refine z_ite (fun c4 => ?_) (fun c4 => ?_)
  · refine z_tabI (v := 2) (tgt := 97) C dX9_ruled_46 c4 (by decide) (by decide) (off := 51) (by decide) (by decide) ?_
    refine z_aload_n C dX9_ruled_97 rfl 3 rfl ?_
    refine z_ck (fun a4 hr4 hk4 => ?_)
    refine z_getI C fl_RX9_185 hr4 hk4 dX9_ruled_98 ?_
    refine z_if_eq (tgt := 108) C dX9_ruled_101 (by decide) (fun c5 => ?_) (fun c5 => ?_)
    · refine z_iconst (v := 0) C dX9_ruled_108 (by decide) ?_
      exact z_iret C hr dX9_ruled_109
    · refine z_iconst (v := 1) C dX9_ruled_104 (by decide) ?_
      refine z_goto (tgt := 109) C dX9_ruled_105 (by decide) ?_
      exact z_iret C hr dX9_ruled_109
  refine z_ite (fun c6 => ?_) (fun c6 => ?_)
  · refine z_tabI (v := 3) (tgt := 110) C dX9_ruled_46 c6 (by decide) (by decide) (off := 64) (by decide) (by decide) ?_
    refine z_aload_n C dX9_ruled_110 rfl 3 rfl ?_
    refine z_ck (fun a5 hr5 hk5 => ?_)
    refine z_getI C fl_RX9_188 hr5 hk5 dX9_ruled_111 ?_
    exact z_iret C hr dX9_ruled_114
  refine z_tabO (tgt := 115) C dX9_ruled_46 (by have qc1 := ne_int (n := 0) c1 (by decide); have qc2 := ne_int (n := 1) c2 (by decide); have qc4 := ne_int (n := 2) c4 (by decide); have qc6 := ne_int (n := 3) c6 (by decide); omega) (by decide) ?_
  refine z_iconst (v := (-1)) C dX9_ruled_115 (by decide) ?_
  exact z_iret C hr dX9_ruled_116
set_option maxRecDepth 100000 in
def g_X9_ruled_0 (th : Nat) (p1 : Int32) (p2 : Int32) (m : MM) : Option (Int32 × MM) :=
  chk (m.K th = 10) (ck m (m.R 1000 th 0) 8 (fun a6 => cal (f_X7_lawAt a6 p1 m) (fun r1 m1 => ifn r1 (some ((-1), m1)) (fun a7 => if p2 < 10 then (g_X9_ruled_45 th p1 p2 r1 m1) else (if 60 ≤ p2 then (g_X9_ruled_45 th p1 p2 r1 m1) else (chk (m1.K a7 = 3) (ck m1 (m1.R 300 a7 0) 7 (fun a8 => cal (f_X6_cell a8 (p2 - p2 / 10 * 10) ((p2 / 10) - 1) m1) (fun r2 m2 => some (r2, m2))))))))))
set_option maxHeartbeats 4000000 in
set_option maxRecDepth 100000 in
theorem s_X9_ruled_0 {Γ : GX} {E : EX} (C : Cx Γ E cX9_ruled RX9 4) (hr : Γ.meth.sig.returnType = (some .int)) (hrm : Γ.rm = rmX9_ruled) (th : Nat) (p1 : Int32) (p2 : Int32) (m : MM) : Sm (QM Γ E emI 0 0) Γ E 4 0 0 0 [(0, va_rf (some th)), (1, .int p1), (2, .int p2)] [] m (g_X9_ruled_0 th p1 p2 m) := by
  unfold g_X9_ruled_0
  refine z_aload_n C dX9_ruled_0 rfl 0 rfl ?_
  refine z_chk (fun hk6 => ?_)
  refine z_getR C fl_RX9_10 rfl hk6 dX9_ruled_1 ?_
  refine z_iload_n C dX9_ruled_4 rfl 1 rfl ?_
  refine z_ck (fun a6 hr6 hk7 => ?_)
  refine z_cVR [.int p1] [] C mv_RX9_175 (fun r0 m0 h0 => M_X7_lawAt _ _ _ _ _ _ _ h0) rfl rfl ⟨by rw [hrm]; exact Nat.le_of_ble_eq_true rfl, by rw [hrm]; exact Nat.le_of_ble_eq_true rfl⟩ ⟨by rw [hrm]; exact Nat.le_of_ble_eq_true rfl, by rw [hrm]; exact Nat.le_of_ble_eq_true rfl⟩ hr6 hk7 rfl rfl rfl (Nat.le_of_ble_eq_true rfl) dX9_ruled_5 (fun r1 m1 => ?_)
  refine z_astore_n (i := 3) (L2 := [(3, va_rf r1), (0, va_rf (some th)), (1, .int p1), (2, .int p2)]) C dX9_ruled_8 rfl (by decide) rfl ?_
  refine z_aload_n C dX9_ruled_9 rfl 0 rfl ?_
  refine z_ifnonnull (tgt := 15) C dX9_ruled_10 (by decide) (fun a7 ha1 => ?_) (fun hn1 => ?_)
  · refine z_iload_n C dX9_ruled_15 rfl 3 rfl ?_
    refine z_bipush (v := 10) C dX9_ruled_16 (by decide) ?_
    refine z_icmp_lt (tgt := 45) C dX9_ruled_18 (by decide) (fun c7 => ?_) (fun c7 => ?_)
    · exact z_sub [1, 2, 3, 0] rfl (s_X9_ruled_45 C hr hrm th p1 p2 r1 m1)
    · refine z_iload_n C dX9_ruled_21 rfl 3 rfl ?_
      refine z_bipush (v := 60) C dX9_ruled_22 (by decide) ?_
      refine z_icmp_ge (tgt := 45) C dX9_ruled_24 (by decide) (fun c8 => ?_) (fun c8 => ?_)
      · exact z_sub [1, 2, 3, 0] rfl (s_X9_ruled_45 C hr hrm th p1 p2 r1 m1)
      · refine z_aload_n C dX9_ruled_27 rfl 0 rfl ?_
        refine z_chk (fun hk8 => ?_)
        refine z_getR C fl_RX9_178 ha1 hk8 dX9_ruled_28 ?_
        refine z_iload_n C dX9_ruled_31 rfl 3 rfl ?_
        refine z_bipush (v := 10) C dX9_ruled_32 (by decide) ?_
        refine z_irem C (by decide) dX9_ruled_34 ?_
        refine z_iload_n C dX9_ruled_35 rfl 3 rfl ?_
        refine z_bipush (v := 10) C dX9_ruled_36 (by decide) ?_
        refine z_idiv C (by decide) dX9_ruled_38 ?_
        refine z_iconst (v := 1) C dX9_ruled_39 (by decide) ?_
        refine z_isub C dX9_ruled_40 ?_
        refine z_ck (fun a8 hr7 hk9 => ?_)
        refine z_cVI [.int (p2 - p2 / 10 * 10), .int ((p2 / 10) - 1)] [] C mv_RX9_172 (fun r0 m0 h0 => M_X6_cell _ _ _ _ _ _ _ _ h0) rfl rfl ⟨by rw [hrm]; exact Nat.le_of_ble_eq_true rfl, by rw [hrm]; exact Nat.le_of_ble_eq_true rfl⟩ ⟨by rw [hrm]; exact Nat.le_of_ble_eq_true rfl, by rw [hrm]; exact Nat.le_of_ble_eq_true rfl⟩ hr7 hk9 rfl rfl rfl (Nat.le_of_ble_eq_true rfl) dX9_ruled_41 (fun r2 m2 => ?_)
        exact z_iret C hr dX9_ruled_44
  · refine z_iconst (v := (-1)) C dX9_ruled_13 (by decide) ?_
    exact z_iret C hr dX9_ruled_14
def f_X9_ruled (th : Nat) (p1 : Int32) (p2 : Int32) (m : MM) : Option (Int32 × MM) := g_X9_ruled_0 th p1 p2 m
theorem M_X9_ruled (l : Launch) (E : EX) (th : Nat) (p1 : Int32) (p2 : Int32) (m : MM) (r : Int32) (m2 : MM) (h : f_X9_ruled th p1 p2 m = some (r, m2)) : Met l yX9_ruled (.code yX9_ruled cX9_ruled 4 (some .int) :: TB) rmX9_ruled (va_Pc [.ref th, .int p1, .int p2] (St E m)) (QR E (emI r) m2) 0 0 (AA E) :=
  met_of (em := emI) (plainFor_of_name rfl) (Nat.le_of_ble_eq_true rfl) (L0 := [(0, va_rf (some th)), (1, .int p1), (2, .int p2)]) rfl (fun Γ _ hrm C hr hn => s_X9_ruled_0 C hr hrm th p1 p2 m) h

theorem dX9_isKind_0 : decode cX9_isKind 0 = .ok (.iload_n 0, 1) := by decide +kernel
theorem dX9_isKind_1 : decode cX9_isKind 1 = .ok (.ifCond .lt 13, 3) := by decide +kernel
theorem dX9_isKind_4 : decode cX9_isKind 4 = .ok (.iload_n 0, 1) := by decide +kernel
theorem dX9_isKind_5 : decode cX9_isKind 5 = .ok (.bipush 6, 2) := by decide +kernel
theorem dX9_isKind_7 : decode cX9_isKind 7 = .ok (.if_icmp .ge 7, 3) := by decide +kernel
theorem dX9_isKind_10 : decode cX9_isKind 10 = .ok (.iconst 1, 1) := by decide +kernel
theorem dX9_isKind_11 : decode cX9_isKind 11 = .ok (.goto 4, 3) := by decide +kernel
theorem dX9_isKind_14 : decode cX9_isKind 14 = .ok (.iconst 0, 1) := by decide +kernel
theorem dX9_isKind_15 : decode cX9_isKind 15 = .ok (.ireturn, 1) := by decide +kernel
def rmX9_isKind : Room := { frames := 0, cells := 0, slots := 0, locals := 0 }
set_option maxRecDepth 100000 in
def g_X9_isKind_14 (p0 : Int32) (m : MM) : Option (Int32 × MM) :=
  some (0, m)
set_option maxHeartbeats 4000000 in
set_option maxRecDepth 100000 in
theorem s_X9_isKind_14 {Γ : GX} {E : EX} (C : Cx Γ E cX9_isKind RX9 1) (hr : Γ.meth.sig.returnType = (some .boolean)) (hrm : Γ.rm = rmX9_isKind) (p0 : Int32) (m : MM) : Sm (QM Γ E emI 0 0) Γ E 1 0 0 14 [(0, .int p0)] [] m (g_X9_isKind_14 p0 m) := by
  unfold g_X9_isKind_14
  refine z_iconst (v := 0) C dX9_isKind_14 (by decide) ?_
  exact z_zret C hr rfl dX9_isKind_15
set_option maxRecDepth 100000 in
def g_X9_isKind_0 (p0 : Int32) (m : MM) : Option (Int32 × MM) :=
  if p0 < 0 then (g_X9_isKind_14 p0 m) else (if 6 ≤ p0 then (g_X9_isKind_14 p0 m) else (some (1, m)))
set_option maxHeartbeats 4000000 in
set_option maxRecDepth 100000 in
theorem s_X9_isKind_0 {Γ : GX} {E : EX} (C : Cx Γ E cX9_isKind RX9 1) (hr : Γ.meth.sig.returnType = (some .boolean)) (hrm : Γ.rm = rmX9_isKind) (p0 : Int32) (m : MM) : Sm (QM Γ E emI 0 0) Γ E 1 0 0 0 [(0, .int p0)] [] m (g_X9_isKind_0 p0 m) := by
  unfold g_X9_isKind_0
  refine z_iload_n C dX9_isKind_0 rfl 0 rfl ?_
  refine z_if_lt (tgt := 14) C dX9_isKind_1 (by decide) (fun c1 => ?_) (fun c1 => ?_)
  · exact z_sub [0] rfl (s_X9_isKind_14 C hr hrm p0 m)
  · refine z_iload_n C dX9_isKind_4 rfl 0 rfl ?_
    refine z_bipush (v := 6) C dX9_isKind_5 (by decide) ?_
    refine z_icmp_ge (tgt := 14) C dX9_isKind_7 (by decide) (fun c2 => ?_) (fun c2 => ?_)
    · exact z_sub [0] rfl (s_X9_isKind_14 C hr hrm p0 m)
    · refine z_iconst (v := 1) C dX9_isKind_10 (by decide) ?_
      refine z_goto (tgt := 15) C dX9_isKind_11 (by decide) ?_
      exact z_zret C hr rfl dX9_isKind_15
def f_X9_isKind (p0 : Int32) (m : MM) : Option (Int32 × MM) := g_X9_isKind_0 p0 m
theorem M_X9_isKind (l : Launch) (E : EX) (p0 : Int32) (m : MM) (r : Int32) (m2 : MM) (h : f_X9_isKind p0 m = some (r, m2)) : Met l yX9_isKind (.code yX9_isKind cX9_isKind 1 (some .boolean) :: TB) rmX9_isKind (va_Pc [.int p0] (St E m)) (QR E (emI r) m2) 0 0 (AA E) :=
  met_of (em := emI) (plainFor_of_name rfl) (Nat.le_of_ble_eq_true rfl) (L0 := [(0, .int p0)]) rfl (fun Γ _ hrm C hr hn => s_X9_isKind_0 C hr hrm p0 m) h

theorem dX9_isHouse_0 : decode cX9_isHouse 0 = .ok (.iload_n 0, 1) := by decide +kernel
theorem dX9_isHouse_1 : decode cX9_isHouse 1 = .ok (.ifCond .lt 13, 3) := by decide +kernel
theorem dX9_isHouse_4 : decode cX9_isHouse 4 = .ok (.iload_n 0, 1) := by decide +kernel
theorem dX9_isHouse_5 : decode cX9_isHouse 5 = .ok (.bipush 8, 2) := by decide +kernel
theorem dX9_isHouse_7 : decode cX9_isHouse 7 = .ok (.if_icmp .ge 7, 3) := by decide +kernel
theorem dX9_isHouse_10 : decode cX9_isHouse 10 = .ok (.iconst 1, 1) := by decide +kernel
theorem dX9_isHouse_11 : decode cX9_isHouse 11 = .ok (.goto 4, 3) := by decide +kernel
theorem dX9_isHouse_14 : decode cX9_isHouse 14 = .ok (.iconst 0, 1) := by decide +kernel
theorem dX9_isHouse_15 : decode cX9_isHouse 15 = .ok (.ireturn, 1) := by decide +kernel
def rmX9_isHouse : Room := { frames := 0, cells := 0, slots := 0, locals := 0 }
set_option maxRecDepth 100000 in
def g_X9_isHouse_14 (p0 : Int32) (m : MM) : Option (Int32 × MM) :=
  some (0, m)
set_option maxHeartbeats 4000000 in
set_option maxRecDepth 100000 in
theorem s_X9_isHouse_14 {Γ : GX} {E : EX} (C : Cx Γ E cX9_isHouse RX9 1) (hr : Γ.meth.sig.returnType = (some .boolean)) (hrm : Γ.rm = rmX9_isHouse) (p0 : Int32) (m : MM) : Sm (QM Γ E emI 0 0) Γ E 1 0 0 14 [(0, .int p0)] [] m (g_X9_isHouse_14 p0 m) := by
  unfold g_X9_isHouse_14
  refine z_iconst (v := 0) C dX9_isHouse_14 (by decide) ?_
  exact z_zret C hr rfl dX9_isHouse_15
set_option maxRecDepth 100000 in
def g_X9_isHouse_0 (p0 : Int32) (m : MM) : Option (Int32 × MM) :=
  if p0 < 0 then (g_X9_isHouse_14 p0 m) else (if 8 ≤ p0 then (g_X9_isHouse_14 p0 m) else (some (1, m)))
set_option maxHeartbeats 4000000 in
set_option maxRecDepth 100000 in
theorem s_X9_isHouse_0 {Γ : GX} {E : EX} (C : Cx Γ E cX9_isHouse RX9 1) (hr : Γ.meth.sig.returnType = (some .boolean)) (hrm : Γ.rm = rmX9_isHouse) (p0 : Int32) (m : MM) : Sm (QM Γ E emI 0 0) Γ E 1 0 0 0 [(0, .int p0)] [] m (g_X9_isHouse_0 p0 m) := by
  unfold g_X9_isHouse_0
  refine z_iload_n C dX9_isHouse_0 rfl 0 rfl ?_
  refine z_if_lt (tgt := 14) C dX9_isHouse_1 (by decide) (fun c1 => ?_) (fun c1 => ?_)
  · exact z_sub [0] rfl (s_X9_isHouse_14 C hr hrm p0 m)
  · refine z_iload_n C dX9_isHouse_4 rfl 0 rfl ?_
    refine z_bipush (v := 8) C dX9_isHouse_5 (by decide) ?_
    refine z_icmp_ge (tgt := 14) C dX9_isHouse_7 (by decide) (fun c2 => ?_) (fun c2 => ?_)
    · exact z_sub [0] rfl (s_X9_isHouse_14 C hr hrm p0 m)
    · refine z_iconst (v := 1) C dX9_isHouse_10 (by decide) ?_
      refine z_goto (tgt := 15) C dX9_isHouse_11 (by decide) ?_
      exact z_zret C hr rfl dX9_isHouse_15
def f_X9_isHouse (p0 : Int32) (m : MM) : Option (Int32 × MM) := g_X9_isHouse_0 p0 m
theorem M_X9_isHouse (l : Launch) (E : EX) (p0 : Int32) (m : MM) (r : Int32) (m2 : MM) (h : f_X9_isHouse p0 m = some (r, m2)) : Met l yX9_isHouse (.code yX9_isHouse cX9_isHouse 1 (some .boolean) :: TB) rmX9_isHouse (va_Pc [.int p0] (St E m)) (QR E (emI r) m2) 0 0 (AA E) :=
  met_of (em := emI) (plainFor_of_name rfl) (Nat.le_of_ble_eq_true rfl) (L0 := [(0, .int p0)]) rfl (fun Γ _ hrm C hr hn => s_X9_isHouse_0 C hr hrm p0 m) h

theorem dX9_isDay_0 : decode cX9_isDay 0 = .ok (.iload_n 0, 1) := by decide +kernel
theorem dX9_isDay_1 : decode cX9_isDay 1 = .ok (.ifCond .lt 14, 3) := by decide +kernel
theorem dX9_isDay_4 : decode cX9_isDay 4 = .ok (.iload_n 0, 1) := by decide +kernel
theorem dX9_isDay_5 : decode cX9_isDay 5 = .ok (.sipush 999, 3) := by decide +kernel
theorem dX9_isDay_8 : decode cX9_isDay 8 = .ok (.if_icmp .gt 7, 3) := by decide +kernel
theorem dX9_isDay_11 : decode cX9_isDay 11 = .ok (.iconst 1, 1) := by decide +kernel
theorem dX9_isDay_12 : decode cX9_isDay 12 = .ok (.goto 4, 3) := by decide +kernel
theorem dX9_isDay_15 : decode cX9_isDay 15 = .ok (.iconst 0, 1) := by decide +kernel
theorem dX9_isDay_16 : decode cX9_isDay 16 = .ok (.ireturn, 1) := by decide +kernel
def rmX9_isDay : Room := { frames := 0, cells := 0, slots := 0, locals := 0 }
set_option maxRecDepth 100000 in
def g_X9_isDay_15 (p0 : Int32) (m : MM) : Option (Int32 × MM) :=
  some (0, m)
set_option maxHeartbeats 4000000 in
set_option maxRecDepth 100000 in
theorem s_X9_isDay_15 {Γ : GX} {E : EX} (C : Cx Γ E cX9_isDay RX9 1) (hr : Γ.meth.sig.returnType = (some .boolean)) (hrm : Γ.rm = rmX9_isDay) (p0 : Int32) (m : MM) : Sm (QM Γ E emI 0 0) Γ E 1 0 0 15 [(0, .int p0)] [] m (g_X9_isDay_15 p0 m) := by
  unfold g_X9_isDay_15
  refine z_iconst (v := 0) C dX9_isDay_15 (by decide) ?_
  exact z_zret C hr rfl dX9_isDay_16
set_option maxRecDepth 100000 in
def g_X9_isDay_0 (p0 : Int32) (m : MM) : Option (Int32 × MM) :=
  if p0 < 0 then (g_X9_isDay_15 p0 m) else (if 999 < p0 then (g_X9_isDay_15 p0 m) else (some (1, m)))
set_option maxHeartbeats 4000000 in
set_option maxRecDepth 100000 in
theorem s_X9_isDay_0 {Γ : GX} {E : EX} (C : Cx Γ E cX9_isDay RX9 1) (hr : Γ.meth.sig.returnType = (some .boolean)) (hrm : Γ.rm = rmX9_isDay) (p0 : Int32) (m : MM) : Sm (QM Γ E emI 0 0) Γ E 1 0 0 0 [(0, .int p0)] [] m (g_X9_isDay_0 p0 m) := by
  unfold g_X9_isDay_0
  refine z_iload_n C dX9_isDay_0 rfl 0 rfl ?_
  refine z_if_lt (tgt := 15) C dX9_isDay_1 (by decide) (fun c1 => ?_) (fun c1 => ?_)
  · exact z_sub [0] rfl (s_X9_isDay_15 C hr hrm p0 m)
  · refine z_iload_n C dX9_isDay_4 rfl 0 rfl ?_
    refine z_sipush (v := 999) C dX9_isDay_5 (by decide) ?_
    refine z_icmp_gt (tgt := 15) C dX9_isDay_8 (by decide) (fun c2 => ?_) (fun c2 => ?_)
    · exact z_sub [0] rfl (s_X9_isDay_15 C hr hrm p0 m)
    · refine z_iconst (v := 1) C dX9_isDay_11 (by decide) ?_
      refine z_goto (tgt := 16) C dX9_isDay_12 (by decide) ?_
      exact z_zret C hr rfl dX9_isDay_16
def f_X9_isDay (p0 : Int32) (m : MM) : Option (Int32 × MM) := g_X9_isDay_0 p0 m
theorem M_X9_isDay (l : Launch) (E : EX) (p0 : Int32) (m : MM) (r : Int32) (m2 : MM) (h : f_X9_isDay p0 m = some (r, m2)) : Met l yX9_isDay (.code yX9_isDay cX9_isDay 1 (some .boolean) :: TB) rmX9_isDay (va_Pc [.int p0] (St E m)) (QR E (emI r) m2) 0 0 (AA E) :=
  met_of (em := emI) (plainFor_of_name rfl) (Nat.le_of_ble_eq_true rfl) (L0 := [(0, .int p0)]) rfl (fun Γ _ hrm C hr hn => s_X9_isDay_0 C hr hrm p0 m) h

theorem dX9_isFacing_0 : decode cX9_isFacing 0 = .ok (.iload_n 0, 1) := by decide +kernel
theorem dX9_isFacing_1 : decode cX9_isFacing 1 = .ok (.iconst (-1), 1) := by decide +kernel
theorem dX9_isFacing_2 : decode cX9_isFacing 2 = .ok (.if_icmp .eq 12, 3) := by decide +kernel
theorem dX9_isFacing_5 : decode cX9_isFacing 5 = .ok (.iload_n 0, 1) := by decide +kernel
theorem dX9_isFacing_6 : decode cX9_isFacing 6 = .ok (.ifCond .lt 12, 3) := by decide +kernel
theorem dX9_isFacing_9 : decode cX9_isFacing 9 = .ok (.iload_n 0, 1) := by decide +kernel
theorem dX9_isFacing_10 : decode cX9_isFacing 10 = .ok (.iconst 4, 1) := by decide +kernel
theorem dX9_isFacing_11 : decode cX9_isFacing 11 = .ok (.if_icmp .ge 7, 3) := by decide +kernel
theorem dX9_isFacing_14 : decode cX9_isFacing 14 = .ok (.iconst 1, 1) := by decide +kernel
theorem dX9_isFacing_15 : decode cX9_isFacing 15 = .ok (.goto 4, 3) := by decide +kernel
theorem dX9_isFacing_18 : decode cX9_isFacing 18 = .ok (.iconst 0, 1) := by decide +kernel
theorem dX9_isFacing_19 : decode cX9_isFacing 19 = .ok (.ireturn, 1) := by decide +kernel
def rmX9_isFacing : Room := { frames := 0, cells := 0, slots := 0, locals := 0 }
set_option maxRecDepth 100000 in
def g_X9_isFacing_14 (p0 : Int32) (m : MM) : Option (Int32 × MM) :=
  some (1, m)
set_option maxHeartbeats 4000000 in
set_option maxRecDepth 100000 in
theorem s_X9_isFacing_14 {Γ : GX} {E : EX} (C : Cx Γ E cX9_isFacing RX9 1) (hr : Γ.meth.sig.returnType = (some .boolean)) (hrm : Γ.rm = rmX9_isFacing) (p0 : Int32) (m : MM) : Sm (QM Γ E emI 0 0) Γ E 1 0 0 14 [(0, .int p0)] [] m (g_X9_isFacing_14 p0 m) := by
  unfold g_X9_isFacing_14
  refine z_iconst (v := 1) C dX9_isFacing_14 (by decide) ?_
  refine z_goto (tgt := 19) C dX9_isFacing_15 (by decide) ?_
  exact z_zret C hr rfl dX9_isFacing_19
set_option maxRecDepth 100000 in
def g_X9_isFacing_18 (p0 : Int32) (m : MM) : Option (Int32 × MM) :=
  some (0, m)
set_option maxHeartbeats 4000000 in
set_option maxRecDepth 100000 in
theorem s_X9_isFacing_18 {Γ : GX} {E : EX} (C : Cx Γ E cX9_isFacing RX9 1) (hr : Γ.meth.sig.returnType = (some .boolean)) (hrm : Γ.rm = rmX9_isFacing) (p0 : Int32) (m : MM) : Sm (QM Γ E emI 0 0) Γ E 1 0 0 18 [(0, .int p0)] [] m (g_X9_isFacing_18 p0 m) := by
  unfold g_X9_isFacing_18
  refine z_iconst (v := 0) C dX9_isFacing_18 (by decide) ?_
  exact z_zret C hr rfl dX9_isFacing_19
set_option maxRecDepth 100000 in
def g_X9_isFacing_0 (p0 : Int32) (m : MM) : Option (Int32 × MM) :=
  if p0 = (-1) then (g_X9_isFacing_14 p0 m) else (if p0 < 0 then (g_X9_isFacing_18 p0 m) else (if 4 ≤ p0 then (g_X9_isFacing_18 p0 m) else (g_X9_isFacing_14 p0 m)))
set_option maxHeartbeats 4000000 in
set_option maxRecDepth 100000 in
theorem s_X9_isFacing_0 {Γ : GX} {E : EX} (C : Cx Γ E cX9_isFacing RX9 1) (hr : Γ.meth.sig.returnType = (some .boolean)) (hrm : Γ.rm = rmX9_isFacing) (p0 : Int32) (m : MM) : Sm (QM Γ E emI 0 0) Γ E 1 0 0 0 [(0, .int p0)] [] m (g_X9_isFacing_0 p0 m) := by
  unfold g_X9_isFacing_0
  refine z_iload_n C dX9_isFacing_0 rfl 0 rfl ?_
  refine z_iconst (v := (-1)) C dX9_isFacing_1 (by decide) ?_
  refine z_icmp_eq (tgt := 14) C dX9_isFacing_2 (by decide) (fun c1 => ?_) (fun c1 => ?_)
  · exact z_sub [0] rfl (s_X9_isFacing_14 C hr hrm p0 m)
  · refine z_iload_n C dX9_isFacing_5 rfl 0 rfl ?_
    refine z_if_lt (tgt := 18) C dX9_isFacing_6 (by decide) (fun c2 => ?_) (fun c2 => ?_)
    · exact z_sub [0] rfl (s_X9_isFacing_18 C hr hrm p0 m)
    · refine z_iload_n C dX9_isFacing_9 rfl 0 rfl ?_
      refine z_iconst (v := 4) C dX9_isFacing_10 (by decide) ?_
      refine z_icmp_ge (tgt := 18) C dX9_isFacing_11 (by decide) (fun c3 => ?_) (fun c3 => ?_)
      · exact z_sub [0] rfl (s_X9_isFacing_18 C hr hrm p0 m)
      · exact z_sub [0] rfl (s_X9_isFacing_14 C hr hrm p0 m)
def f_X9_isFacing (p0 : Int32) (m : MM) : Option (Int32 × MM) := g_X9_isFacing_0 p0 m
theorem M_X9_isFacing (l : Launch) (E : EX) (p0 : Int32) (m : MM) (r : Int32) (m2 : MM) (h : f_X9_isFacing p0 m = some (r, m2)) : Met l yX9_isFacing (.code yX9_isFacing cX9_isFacing 1 (some .boolean) :: TB) rmX9_isFacing (va_Pc [.int p0] (St E m)) (QR E (emI r) m2) 0 0 (AA E) :=
  met_of (em := emI) (plainFor_of_name rfl) (Nat.le_of_ble_eq_true rfl) (L0 := [(0, .int p0)]) rfl (fun Γ _ hrm C hr hn => s_X9_isFacing_0 C hr hrm p0 m) h

theorem dX9_add_0 : decode cX9_add 0 = .ok (.aload_n 0, 1) := by decide +kernel
theorem dX9_add_1 : decode cX9_add 1 = .ok (.getfield 10, 3) := by decide +kernel
theorem dX9_add_4 : decode cX9_add 4 = .ok (.iload_n 1, 1) := by decide +kernel
theorem dX9_add_5 : decode cX9_add 5 = .ok (.invokevirtual 122, 3) := by decide +kernel
theorem dX9_add_8 : decode cX9_add 8 = .ok (.astore 8, 2) := by decide +kernel
theorem dX9_add_10 : decode cX9_add 10 = .ok (.aload 8, 2) := by decide +kernel
theorem dX9_add_12 : decode cX9_add 12 = .ok (.ifnull 29, 3) := by decide +kernel
theorem dX9_add_15 : decode cX9_add 15 = .ok (.iload_n 2, 1) := by decide +kernel
theorem dX9_add_16 : decode cX9_add 16 = .ok (.invokestatic 191, 3) := by decide +kernel
theorem dX9_add_19 : decode cX9_add 19 = .ok (.ifCond .eq 22, 3) := by decide +kernel
theorem dX9_add_22 : decode cX9_add 22 = .ok (.aload 8, 2) := by decide +kernel
theorem dX9_add_24 : decode cX9_add 24 = .ok (.iload_n 3, 1) := by decide +kernel
theorem dX9_add_25 : decode cX9_add 25 = .ok (.iload 4, 2) := by decide +kernel
theorem dX9_add_27 : decode cX9_add 27 = .ok (.invokevirtual 194, 3) := by decide +kernel
theorem dX9_add_30 : decode cX9_add 30 = .ok (.ifCond .eq 11, 3) := by decide +kernel
theorem dX9_add_33 : decode cX9_add 33 = .ok (.iload 5, 2) := by decide +kernel
theorem dX9_add_35 : decode cX9_add 35 = .ok (.invokestatic 198, 3) := by decide +kernel
theorem dX9_add_38 : decode cX9_add 38 = .ok (.ifCond .ne 5, 3) := by decide +kernel
theorem dX9_add_41 : decode cX9_add 41 = .ok (.iconst (-1), 1) := by decide +kernel
theorem dX9_add_42 : decode cX9_add 42 = .ok (.ireturn, 1) := by decide +kernel
theorem dX9_add_43 : decode cX9_add 43 = .ok (.iload 6, 2) := by decide +kernel
theorem dX9_add_45 : decode cX9_add 45 = .ok (.invokestatic 201, 3) := by decide +kernel
theorem dX9_add_48 : decode cX9_add 48 = .ok (.ifCond .eq 23, 3) := by decide +kernel
theorem dX9_add_51 : decode cX9_add 51 = .ok (.iload 7, 2) := by decide +kernel
theorem dX9_add_53 : decode cX9_add 53 = .ok (.invokestatic 204, 3) := by decide +kernel
theorem dX9_add_56 : decode cX9_add 56 = .ok (.ifCond .eq 15, 3) := by decide +kernel
theorem dX9_add_59 : decode cX9_add 59 = .ok (.aload 8, 2) := by decide +kernel
theorem dX9_add_61 : decode cX9_add 61 = .ok (.iload_n 3, 1) := by decide +kernel
theorem dX9_add_62 : decode cX9_add 62 = .ok (.iload 4, 2) := by decide +kernel
theorem dX9_add_64 : decode cX9_add 64 = .ok (.invokevirtual 207, 3) := by decide +kernel
theorem dX9_add_67 : decode cX9_add 67 = .ok (.iconst (-1), 1) := by decide +kernel
theorem dX9_add_68 : decode cX9_add 68 = .ok (.if_icmp .eq 5, 3) := by decide +kernel
theorem dX9_add_71 : decode cX9_add 71 = .ok (.iconst (-1), 1) := by decide +kernel
theorem dX9_add_72 : decode cX9_add 72 = .ok (.ireturn, 1) := by decide +kernel
theorem dX9_add_73 : decode cX9_add 73 = .ok (.aload 8, 2) := by decide +kernel
theorem dX9_add_75 : decode cX9_add 75 = .ok (.getfield 138, 3) := by decide +kernel
theorem dX9_add_78 : decode cX9_add 78 = .ok (.invokevirtual 210, 3) := by decide +kernel
theorem dX9_add_81 : decode cX9_add 81 = .ok (.istore 9, 2) := by decide +kernel
theorem dX9_add_83 : decode cX9_add 83 = .ok (.aload 8, 2) := by decide +kernel
theorem dX9_add_85 : decode cX9_add 85 = .ok (.iload 9, 2) := by decide +kernel
theorem dX9_add_87 : decode cX9_add 87 = .ok (.iload_n 2, 1) := by decide +kernel
theorem dX9_add_88 : decode cX9_add 88 = .ok (.iload_n 3, 1) := by decide +kernel
theorem dX9_add_89 : decode cX9_add 89 = .ok (.iload 4, 2) := by decide +kernel
theorem dX9_add_91 : decode cX9_add 91 = .ok (.invokevirtual 213, 3) := by decide +kernel
theorem dX9_add_94 : decode cX9_add 94 = .ok (.aload 8, 2) := by decide +kernel
theorem dX9_add_96 : decode cX9_add 96 = .ok (.iload 9, 2) := by decide +kernel
theorem dX9_add_98 : decode cX9_add 98 = .ok (.iload 5, 2) := by decide +kernel
theorem dX9_add_100 : decode cX9_add 100 = .ok (.iload 6, 2) := by decide +kernel
theorem dX9_add_102 : decode cX9_add 102 = .ok (.iload 7, 2) := by decide +kernel
theorem dX9_add_104 : decode cX9_add 104 = .ok (.invokevirtual 217, 3) := by decide +kernel
theorem dX9_add_107 : decode cX9_add 107 = .ok (.iload 9, 2) := by decide +kernel
theorem dX9_add_109 : decode cX9_add 109 = .ok (.ireturn, 1) := by decide +kernel
def rmX9_add : Room := { frames := 2, cells := 0, slots := 0, locals := 48 }
set_option maxRecDepth 100000 in
def g_X9_add_0 (th : Nat) (p1 : Int32) (p2 : Int32) (p3 : Int32) (p4 : Int32) (p5 : Int32) (p6 : Int32) (p7 : Int32) (m : MM) : Option (Int32 × MM) :=
  chk (m.K th = 10) (ck m (m.R 1000 th 0) 8 (fun a1 => cal (f_X7_townAt a1 p1 m) (fun r1 m1 => ifn r1 (some ((-1), m1)) (fun a2 => cal (f_X9_isKind p2 m1) (fun r2 m2 => if r2 = 0 then (some ((-1), m2)) else (chk (m2.K a2 = 9) (cal (f_X8_hasPoint a2 p3 p4 m2) (fun r3 m3 => if r3 = 0 then (some ((-1), m3)) else (cal (f_X9_isHouse p5 m3) (fun r4 m4 => if r4 = 0 then (some ((-1), m4)) else (cal (f_X9_isDay p6 m4) (fun r5 m5 => if r5 = 0 then (some ((-1), m5)) else (cal (f_X9_isFacing p7 m5) (fun r6 m6 => if r6 = 0 then (some ((-1), m6)) else (chk (m6.K a2 = 9) (cal (f_X8_thingAt a2 p3 p4 m6) (fun r7 m7 => if r7 = (-1) then (chk (m7.K a2 = 9) (ck m7 (m7.R 904 a2 0) 7 (fun a3 => cal (f_X6_addRow a3 m7) (fun r8 m8 => chk (m8.K a2 = 9) (cal (f_X8_fillThing a2 r8 p2 p3 p4 m8) (fun r9 m9 => chk (m9.K a2 = 9) (cal (f_X8_fillRest a2 r8 p5 p6 p7 m9) (fun r10 m10 => some (r8, m10))))))))) else (some ((-1), m7)))))))))))))))))))
set_option maxHeartbeats 4000000 in
set_option maxRecDepth 100000 in
theorem s_X9_add_0 {Γ : GX} {E : EX} (C : Cx Γ E cX9_add RX9 10) (hr : Γ.meth.sig.returnType = (some .int)) (hrm : Γ.rm = rmX9_add) (th : Nat) (p1 : Int32) (p2 : Int32) (p3 : Int32) (p4 : Int32) (p5 : Int32) (p6 : Int32) (p7 : Int32) (m : MM) : Sm (QM Γ E emI 0 0) Γ E 10 0 0 0 [(0, va_rf (some th)), (1, .int p1), (2, .int p2), (3, .int p3), (4, .int p4), (5, .int p5), (6, .int p6), (7, .int p7)] [] m (g_X9_add_0 th p1 p2 p3 p4 p5 p6 p7 m) := by
  unfold g_X9_add_0
  refine z_aload_n C dX9_add_0 rfl 0 rfl ?_
  refine z_chk (fun hk1 => ?_)
  refine z_getR C fl_RX9_10 rfl hk1 dX9_add_1 ?_
  refine z_iload_n C dX9_add_4 rfl 1 rfl ?_
  refine z_ck (fun a1 hr1 hk2 => ?_)
  refine z_cVR [.int p1] [] C mv_RX9_122 (fun r0 m0 h0 => M_X7_townAt _ _ _ _ _ _ _ h0) rfl rfl ⟨by rw [hrm]; exact Nat.le_of_ble_eq_true rfl, by rw [hrm]; exact Nat.le_of_ble_eq_true rfl⟩ ⟨by rw [hrm]; exact Nat.le_of_ble_eq_true rfl, by rw [hrm]; exact Nat.le_of_ble_eq_true rfl⟩ hr1 hk2 rfl rfl rfl (Nat.le_of_ble_eq_true rfl) dX9_add_5 (fun r1 m1 => ?_)
  refine z_astore (i := 8) (L2 := [(8, va_rf r1), (0, va_rf (some th)), (1, .int p1), (2, .int p2), (3, .int p3), (4, .int p4), (5, .int p5), (6, .int p6), (7, .int p7)]) C dX9_add_8 (by decide) rfl ?_
  refine z_aload C dX9_add_10 0 rfl ?_
  refine z_ifnull (tgt := 41) C dX9_add_12 (by decide) (fun hn1 => ?_) (fun a2 ha1 => ?_)
  · refine z_iconst (v := (-1)) C dX9_add_41 (by decide) ?_
    exact z_iret C hr dX9_add_42
  · refine z_iload_n C dX9_add_15 rfl 3 rfl ?_
    refine z_cSI [.int p2] [] C mv_RX9_191 (fun r0 m0 h0 => M_X9_isKind _ _ _ _ _ _ h0) rfl rfl ⟨by rw [hrm]; exact Nat.le_of_ble_eq_true rfl, by rw [hrm]; exact Nat.le_of_ble_eq_true rfl⟩ ⟨by rw [hrm]; exact Nat.le_of_ble_eq_true rfl, by rw [hrm]; exact Nat.le_of_ble_eq_true rfl⟩ rfl rfl (Nat.le_of_ble_eq_true rfl) dX9_add_16 (fun r2 m2 => ?_)
    refine z_if_eq (tgt := 41) C dX9_add_19 (by decide) (fun c1 => ?_) (fun c1 => ?_)
    · refine z_iconst (v := (-1)) C dX9_add_41 (by decide) ?_
      exact z_iret C hr dX9_add_42
    · refine z_aload C dX9_add_22 0 rfl ?_
      refine z_iload_n C dX9_add_24 rfl 4 rfl ?_
      refine z_iload C dX9_add_25 5 rfl ?_
      refine z_chk (fun hk3 => ?_)
      refine z_cVI [.int p3, .int p4] [] C mv_RX9_194 (fun r0 m0 h0 => M_X8_hasPoint _ _ _ _ _ _ _ _ h0) rfl rfl ⟨by rw [hrm]; exact Nat.le_of_ble_eq_true rfl, by rw [hrm]; exact Nat.le_of_ble_eq_true rfl⟩ ⟨by rw [hrm]; exact Nat.le_of_ble_eq_true rfl, by rw [hrm]; exact Nat.le_of_ble_eq_true rfl⟩ ha1 hk3 rfl rfl rfl (Nat.le_of_ble_eq_true rfl) dX9_add_27 (fun r3 m3 => ?_)
      refine z_if_eq (tgt := 41) C dX9_add_30 (by decide) (fun c2 => ?_) (fun c2 => ?_)
      · refine z_iconst (v := (-1)) C dX9_add_41 (by decide) ?_
        exact z_iret C hr dX9_add_42
      · refine z_iload C dX9_add_33 6 rfl ?_
        refine z_cSI [.int p5] [] C mv_RX9_198 (fun r0 m0 h0 => M_X9_isHouse _ _ _ _ _ _ h0) rfl rfl ⟨by rw [hrm]; exact Nat.le_of_ble_eq_true rfl, by rw [hrm]; exact Nat.le_of_ble_eq_true rfl⟩ ⟨by rw [hrm]; exact Nat.le_of_ble_eq_true rfl, by rw [hrm]; exact Nat.le_of_ble_eq_true rfl⟩ rfl rfl (Nat.le_of_ble_eq_true rfl) dX9_add_35 (fun r4 m4 => ?_)
        refine z_if_ne (tgt := 43) C dX9_add_38 (by decide) (fun c3 => ?_) (fun c3 => ?_)
        · refine z_iload C dX9_add_43 7 rfl ?_
          refine z_cSI [.int p6] [] C mv_RX9_201 (fun r0 m0 h0 => M_X9_isDay _ _ _ _ _ _ h0) rfl rfl ⟨by rw [hrm]; exact Nat.le_of_ble_eq_true rfl, by rw [hrm]; exact Nat.le_of_ble_eq_true rfl⟩ ⟨by rw [hrm]; exact Nat.le_of_ble_eq_true rfl, by rw [hrm]; exact Nat.le_of_ble_eq_true rfl⟩ rfl rfl (Nat.le_of_ble_eq_true rfl) dX9_add_45 (fun r5 m5 => ?_)
          refine z_if_eq (tgt := 71) C dX9_add_48 (by decide) (fun c4 => ?_) (fun c4 => ?_)
          · refine z_iconst (v := (-1)) C dX9_add_71 (by decide) ?_
            exact z_iret C hr dX9_add_72
          · refine z_iload C dX9_add_51 8 rfl ?_
            refine z_cSI [.int p7] [] C mv_RX9_204 (fun r0 m0 h0 => M_X9_isFacing _ _ _ _ _ _ h0) rfl rfl ⟨by rw [hrm]; exact Nat.le_of_ble_eq_true rfl, by rw [hrm]; exact Nat.le_of_ble_eq_true rfl⟩ ⟨by rw [hrm]; exact Nat.le_of_ble_eq_true rfl, by rw [hrm]; exact Nat.le_of_ble_eq_true rfl⟩ rfl rfl (Nat.le_of_ble_eq_true rfl) dX9_add_53 (fun r6 m6 => ?_)
            refine z_if_eq (tgt := 71) C dX9_add_56 (by decide) (fun c5 => ?_) (fun c5 => ?_)
            · refine z_iconst (v := (-1)) C dX9_add_71 (by decide) ?_
              exact z_iret C hr dX9_add_72
            · refine z_aload C dX9_add_59 0 rfl ?_
              refine z_iload_n C dX9_add_61 rfl 4 rfl ?_
              refine z_iload C dX9_add_62 5 rfl ?_
              refine z_chk (fun hk4 => ?_)
              refine z_cVI [.int p3, .int p4] [] C mv_RX9_207 (fun r0 m0 h0 => M_X8_thingAt _ _ _ _ _ _ _ _ h0) rfl rfl ⟨by rw [hrm]; exact Nat.le_of_ble_eq_true rfl, by rw [hrm]; exact Nat.le_of_ble_eq_true rfl⟩ ⟨by rw [hrm]; exact Nat.le_of_ble_eq_true rfl, by rw [hrm]; exact Nat.le_of_ble_eq_true rfl⟩ ha1 hk4 rfl rfl rfl (Nat.le_of_ble_eq_true rfl) dX9_add_64 (fun r7 m7 => ?_)
              refine z_iconst (v := (-1)) C dX9_add_67 (by decide) ?_
              refine z_icmp_eq (tgt := 73) C dX9_add_68 (by decide) (fun c6 => ?_) (fun c6 => ?_)
              · refine z_aload C dX9_add_73 0 rfl ?_
                refine z_chk (fun hk5 => ?_)
                refine z_getR C fl_RX9_138 ha1 hk5 dX9_add_75 ?_
                refine z_ck (fun a3 hr2 hk6 => ?_)
                refine z_cVI [] [] C mv_RX9_210 (fun r0 m0 h0 => M_X6_addRow _ _ _ _ _ _ h0) rfl rfl ⟨by rw [hrm]; exact Nat.le_of_ble_eq_true rfl, by rw [hrm]; exact Nat.le_of_ble_eq_true rfl⟩ ⟨by rw [hrm]; exact Nat.le_of_ble_eq_true rfl, by rw [hrm]; exact Nat.le_of_ble_eq_true rfl⟩ hr2 hk6 rfl rfl rfl (Nat.le_of_ble_eq_true rfl) dX9_add_78 (fun r8 m8 => ?_)
                refine z_istore (i := 9) (L2 := [(9, .int r8), (8, va_rf r1), (0, va_rf (some th)), (1, .int p1), (2, .int p2), (3, .int p3), (4, .int p4), (5, .int p5), (6, .int p6), (7, .int p7)]) C dX9_add_81 (by decide) (by simp [cat_rf, cat_i, cat_l, cat_a]) ?_
                refine z_aload C dX9_add_83 1 rfl ?_
                refine z_iload C dX9_add_85 0 rfl ?_
                refine z_iload_n C dX9_add_87 rfl 4 rfl ?_
                refine z_iload_n C dX9_add_88 rfl 5 rfl ?_
                refine z_iload C dX9_add_89 6 rfl ?_
                refine z_chk (fun hk7 => ?_)
                refine z_cVV [.int r8, .int p2, .int p3, .int p4] [] C mv_RX9_213 (fun r0 m0 h0 => M_X8_fillThing _ _ _ _ _ _ _ _ _ _ h0) rfl rfl ⟨by rw [hrm]; exact Nat.le_of_ble_eq_true rfl, by rw [hrm]; exact Nat.le_of_ble_eq_true rfl⟩ ⟨by rw [hrm]; exact Nat.le_of_ble_eq_true rfl, by rw [hrm]; exact Nat.le_of_ble_eq_true rfl⟩ ha1 hk7 rfl rfl rfl (Nat.le_of_ble_eq_true rfl) dX9_add_91 (fun r9 m9 => ?_)
                refine z_aload C dX9_add_94 1 rfl ?_
                refine z_iload C dX9_add_96 0 rfl ?_
                refine z_iload C dX9_add_98 7 rfl ?_
                refine z_iload C dX9_add_100 8 rfl ?_
                refine z_iload C dX9_add_102 9 rfl ?_
                refine z_chk (fun hk8 => ?_)
                refine z_cVV [.int r8, .int p5, .int p6, .int p7] [] C mv_RX9_217 (fun r0 m0 h0 => M_X8_fillRest _ _ _ _ _ _ _ _ _ _ h0) rfl rfl ⟨by rw [hrm]; exact Nat.le_of_ble_eq_true rfl, by rw [hrm]; exact Nat.le_of_ble_eq_true rfl⟩ ⟨by rw [hrm]; exact Nat.le_of_ble_eq_true rfl, by rw [hrm]; exact Nat.le_of_ble_eq_true rfl⟩ ha1 hk8 rfl rfl rfl (Nat.le_of_ble_eq_true rfl) dX9_add_104 (fun r10 m10 => ?_)
                refine z_iload C dX9_add_107 0 rfl ?_
                exact z_iret C hr dX9_add_109
              · refine z_iconst (v := (-1)) C dX9_add_71 (by decide) ?_
                exact z_iret C hr dX9_add_72
        · refine z_iconst (v := (-1)) C dX9_add_41 (by decide) ?_
          exact z_iret C hr dX9_add_42
def f_X9_add (th : Nat) (p1 : Int32) (p2 : Int32) (p3 : Int32) (p4 : Int32) (p5 : Int32) (p6 : Int32) (p7 : Int32) (m : MM) : Option (Int32 × MM) := g_X9_add_0 th p1 p2 p3 p4 p5 p6 p7 m
theorem M_X9_add (l : Launch) (E : EX) (th : Nat) (p1 : Int32) (p2 : Int32) (p3 : Int32) (p4 : Int32) (p5 : Int32) (p6 : Int32) (p7 : Int32) (m : MM) (r : Int32) (m2 : MM) (h : f_X9_add th p1 p2 p3 p4 p5 p6 p7 m = some (r, m2)) : Met l yX9_add (.code yX9_add cX9_add 10 (some .int) :: TB) rmX9_add (va_Pc [.ref th, .int p1, .int p2, .int p3, .int p4, .int p5, .int p6, .int p7] (St E m)) (QR E (emI r) m2) 0 0 (AA E) :=
  met_of (em := emI) (plainFor_of_name rfl) (Nat.le_of_ble_eq_true rfl) (L0 := [(0, va_rf (some th)), (1, .int p1), (2, .int p2), (3, .int p3), (4, .int p4), (5, .int p5), (6, .int p6), (7, .int p7)]) rfl (fun Γ _ hrm C hr hn => s_X9_add_0 C hr hrm th p1 p2 p3 p4 p5 p6 p7 m) h

theorem dX9_gone_0 : decode cX9_gone 0 = .ok (.aload_n 0, 1) := by decide +kernel
theorem dX9_gone_1 : decode cX9_gone 1 = .ok (.getfield 10, 3) := by decide +kernel
theorem dX9_gone_4 : decode cX9_gone 4 = .ok (.iload_n 1, 1) := by decide +kernel
theorem dX9_gone_5 : decode cX9_gone 5 = .ok (.invokevirtual 122, 3) := by decide +kernel
theorem dX9_gone_8 : decode cX9_gone 8 = .ok (.astore 4, 2) := by decide +kernel
theorem dX9_gone_10 : decode cX9_gone 10 = .ok (.aload 4, 2) := by decide +kernel
theorem dX9_gone_12 : decode cX9_gone 12 = .ok (.ifnull 33, 3) := by decide +kernel
theorem dX9_gone_15 : decode cX9_gone 15 = .ok (.aload 4, 2) := by decide +kernel
theorem dX9_gone_17 : decode cX9_gone 17 = .ok (.iload_n 2, 1) := by decide +kernel
theorem dX9_gone_18 : decode cX9_gone 18 = .ok (.invokevirtual 168, 3) := by decide +kernel
theorem dX9_gone_21 : decode cX9_gone 21 = .ok (.ifCond .eq 24, 3) := by decide +kernel
theorem dX9_gone_24 : decode cX9_gone 24 = .ok (.iload_n 3, 1) := by decide +kernel
theorem dX9_gone_25 : decode cX9_gone 25 = .ok (.invokestatic 201, 3) := by decide +kernel
theorem dX9_gone_28 : decode cX9_gone 28 = .ok (.ifCond .eq 17, 3) := by decide +kernel
theorem dX9_gone_31 : decode cX9_gone 31 = .ok (.iload_n 3, 1) := by decide +kernel
theorem dX9_gone_32 : decode cX9_gone 32 = .ok (.aload 4, 2) := by decide +kernel
theorem dX9_gone_34 : decode cX9_gone 34 = .ok (.getfield 138, 3) := by decide +kernel
theorem dX9_gone_37 : decode cX9_gone 37 = .ok (.iload_n 2, 1) := by decide +kernel
theorem dX9_gone_38 : decode cX9_gone 38 = .ok (.iconst 4, 1) := by decide +kernel
theorem dX9_gone_39 : decode cX9_gone 39 = .ok (.invokevirtual 172, 3) := by decide +kernel
theorem dX9_gone_42 : decode cX9_gone 42 = .ok (.if_icmp .gt 5, 3) := by decide +kernel
theorem dX9_gone_45 : decode cX9_gone 45 = .ok (.iconst 0, 1) := by decide +kernel
theorem dX9_gone_46 : decode cX9_gone 46 = .ok (.ireturn, 1) := by decide +kernel
theorem dX9_gone_47 : decode cX9_gone 47 = .ok (.aload 4, 2) := by decide +kernel
theorem dX9_gone_49 : decode cX9_gone 49 = .ok (.getfield 138, 3) := by decide +kernel
theorem dX9_gone_52 : decode cX9_gone 52 = .ok (.iload_n 2, 1) := by decide +kernel
theorem dX9_gone_53 : decode cX9_gone 53 = .ok (.bipush 7, 2) := by decide +kernel
theorem dX9_gone_55 : decode cX9_gone 55 = .ok (.iload_n 3, 1) := by decide +kernel
theorem dX9_gone_56 : decode cX9_gone 56 = .ok (.invokevirtual 220, 3) := by decide +kernel
theorem dX9_gone_59 : decode cX9_gone 59 = .ok (.iconst 1, 1) := by decide +kernel
theorem dX9_gone_60 : decode cX9_gone 60 = .ok (.ireturn, 1) := by decide +kernel
def rmX9_gone : Room := { frames := 2, cells := 0, slots := 0, locals := 42 }
set_option maxRecDepth 100000 in
def g_X9_gone_0 (th : Nat) (p1 : Int32) (p2 : Int32) (p3 : Int32) (m : MM) : Option (Int32 × MM) :=
  chk (m.K th = 10) (ck m (m.R 1000 th 0) 8 (fun a1 => cal (f_X7_townAt a1 p1 m) (fun r1 m1 => ifn r1 (some (0, m1)) (fun a2 => chk (m1.K a2 = 9) (cal (f_X8_hasThing a2 p2 m1) (fun r2 m2 => if r2 = 0 then (some (0, m2)) else (cal (f_X9_isDay p3 m2) (fun r3 m3 => if r3 = 0 then (some (0, m3)) else (chk (m3.K a2 = 9) (ck m3 (m3.R 904 a2 0) 7 (fun a3 => cal (f_X6_cell a3 p2 4 m3) (fun r4 m4 => if r4 < p3 then (chk (m4.K a2 = 9) (ck m4 (m4.R 904 a2 0) 7 (fun a4 => cal (f_X6_put a4 p2 7 p3 m4) (fun r5 m5 => some (1, m5))))) else (some (0, m4))))))))))))))
set_option maxHeartbeats 4000000 in
set_option maxRecDepth 100000 in
theorem s_X9_gone_0 {Γ : GX} {E : EX} (C : Cx Γ E cX9_gone RX9 5) (hr : Γ.meth.sig.returnType = (some .boolean)) (hrm : Γ.rm = rmX9_gone) (th : Nat) (p1 : Int32) (p2 : Int32) (p3 : Int32) (m : MM) : Sm (QM Γ E emI 0 0) Γ E 5 0 0 0 [(0, va_rf (some th)), (1, .int p1), (2, .int p2), (3, .int p3)] [] m (g_X9_gone_0 th p1 p2 p3 m) := by
  unfold g_X9_gone_0
  refine z_aload_n C dX9_gone_0 rfl 0 rfl ?_
  refine z_chk (fun hk1 => ?_)
  refine z_getR C fl_RX9_10 rfl hk1 dX9_gone_1 ?_
  refine z_iload_n C dX9_gone_4 rfl 1 rfl ?_
  refine z_ck (fun a1 hr1 hk2 => ?_)
  refine z_cVR [.int p1] [] C mv_RX9_122 (fun r0 m0 h0 => M_X7_townAt _ _ _ _ _ _ _ h0) rfl rfl ⟨by rw [hrm]; exact Nat.le_of_ble_eq_true rfl, by rw [hrm]; exact Nat.le_of_ble_eq_true rfl⟩ ⟨by rw [hrm]; exact Nat.le_of_ble_eq_true rfl, by rw [hrm]; exact Nat.le_of_ble_eq_true rfl⟩ hr1 hk2 rfl rfl rfl (Nat.le_of_ble_eq_true rfl) dX9_gone_5 (fun r1 m1 => ?_)
  refine z_astore (i := 4) (L2 := [(4, va_rf r1), (0, va_rf (some th)), (1, .int p1), (2, .int p2), (3, .int p3)]) C dX9_gone_8 (by decide) rfl ?_
  refine z_aload C dX9_gone_10 0 rfl ?_
  refine z_ifnull (tgt := 45) C dX9_gone_12 (by decide) (fun hn1 => ?_) (fun a2 ha1 => ?_)
  · refine z_iconst (v := 0) C dX9_gone_45 (by decide) ?_
    exact z_zret C hr rfl dX9_gone_46
  · refine z_aload C dX9_gone_15 0 rfl ?_
    refine z_iload_n C dX9_gone_17 rfl 3 rfl ?_
    refine z_chk (fun hk3 => ?_)
    refine z_cVI [.int p2] [] C mv_RX9_168 (fun r0 m0 h0 => M_X8_hasThing _ _ _ _ _ _ _ h0) rfl rfl ⟨by rw [hrm]; exact Nat.le_of_ble_eq_true rfl, by rw [hrm]; exact Nat.le_of_ble_eq_true rfl⟩ ⟨by rw [hrm]; exact Nat.le_of_ble_eq_true rfl, by rw [hrm]; exact Nat.le_of_ble_eq_true rfl⟩ ha1 hk3 rfl rfl rfl (Nat.le_of_ble_eq_true rfl) dX9_gone_18 (fun r2 m2 => ?_)
    refine z_if_eq (tgt := 45) C dX9_gone_21 (by decide) (fun c1 => ?_) (fun c1 => ?_)
    · refine z_iconst (v := 0) C dX9_gone_45 (by decide) ?_
      exact z_zret C hr rfl dX9_gone_46
    · refine z_iload_n C dX9_gone_24 rfl 4 rfl ?_
      refine z_cSI [.int p3] [] C mv_RX9_201 (fun r0 m0 h0 => M_X9_isDay _ _ _ _ _ _ h0) rfl rfl ⟨by rw [hrm]; exact Nat.le_of_ble_eq_true rfl, by rw [hrm]; exact Nat.le_of_ble_eq_true rfl⟩ ⟨by rw [hrm]; exact Nat.le_of_ble_eq_true rfl, by rw [hrm]; exact Nat.le_of_ble_eq_true rfl⟩ rfl rfl (Nat.le_of_ble_eq_true rfl) dX9_gone_25 (fun r3 m3 => ?_)
      refine z_if_eq (tgt := 45) C dX9_gone_28 (by decide) (fun c2 => ?_) (fun c2 => ?_)
      · refine z_iconst (v := 0) C dX9_gone_45 (by decide) ?_
        exact z_zret C hr rfl dX9_gone_46
      · refine z_iload_n C dX9_gone_31 rfl 4 rfl ?_
        refine z_aload C dX9_gone_32 0 rfl ?_
        refine z_chk (fun hk4 => ?_)
        refine z_getR C fl_RX9_138 ha1 hk4 dX9_gone_34 ?_
        refine z_iload_n C dX9_gone_37 rfl 3 rfl ?_
        refine z_iconst (v := 4) C dX9_gone_38 (by decide) ?_
        refine z_ck (fun a3 hr2 hk5 => ?_)
        refine z_cVI [.int p2, .int 4] [.int p3] C mv_RX9_172 (fun r0 m0 h0 => M_X6_cell _ _ _ _ _ _ _ _ h0) rfl rfl ⟨by rw [hrm]; exact Nat.le_of_ble_eq_true rfl, by rw [hrm]; exact Nat.le_of_ble_eq_true rfl⟩ ⟨by rw [hrm]; exact Nat.le_of_ble_eq_true rfl, by rw [hrm]; exact Nat.le_of_ble_eq_true rfl⟩ hr2 hk5 rfl rfl rfl (Nat.le_of_ble_eq_true rfl) dX9_gone_39 (fun r4 m4 => ?_)
        refine z_icmp_gt (tgt := 47) C dX9_gone_42 (by decide) (fun c3 => ?_) (fun c3 => ?_)
        · refine z_aload C dX9_gone_47 0 rfl ?_
          refine z_chk (fun hk6 => ?_)
          refine z_getR C fl_RX9_138 ha1 hk6 dX9_gone_49 ?_
          refine z_iload_n C dX9_gone_52 rfl 3 rfl ?_
          refine z_bipush (v := 7) C dX9_gone_53 (by decide) ?_
          refine z_iload_n C dX9_gone_55 rfl 4 rfl ?_
          refine z_ck (fun a4 hr3 hk7 => ?_)
          refine z_cVV [.int p2, .int 7, .int p3] [] C mv_RX9_220 (fun r0 m0 h0 => M_X6_put _ _ _ _ _ _ _ _ _ h0) rfl rfl ⟨by rw [hrm]; exact Nat.le_of_ble_eq_true rfl, by rw [hrm]; exact Nat.le_of_ble_eq_true rfl⟩ ⟨by rw [hrm]; exact Nat.le_of_ble_eq_true rfl, by rw [hrm]; exact Nat.le_of_ble_eq_true rfl⟩ hr3 hk7 rfl rfl rfl (Nat.le_of_ble_eq_true rfl) dX9_gone_56 (fun r5 m5 => ?_)
          refine z_iconst (v := 1) C dX9_gone_59 (by decide) ?_
          exact z_zret C hr rfl dX9_gone_60
        · refine z_iconst (v := 0) C dX9_gone_45 (by decide) ?_
          exact z_zret C hr rfl dX9_gone_46
def f_X9_gone (th : Nat) (p1 : Int32) (p2 : Int32) (p3 : Int32) (m : MM) : Option (Int32 × MM) := g_X9_gone_0 th p1 p2 p3 m
theorem M_X9_gone (l : Launch) (E : EX) (th : Nat) (p1 : Int32) (p2 : Int32) (p3 : Int32) (m : MM) (r : Int32) (m2 : MM) (h : f_X9_gone th p1 p2 p3 m = some (r, m2)) : Met l yX9_gone (.code yX9_gone cX9_gone 5 (some .boolean) :: TB) rmX9_gone (va_Pc [.ref th, .int p1, .int p2, .int p3] (St E m)) (QR E (emI r) m2) 0 0 (AA E) :=
  met_of (em := emI) (plainFor_of_name rfl) (Nat.le_of_ble_eq_true rfl) (L0 := [(0, va_rf (some th)), (1, .int p1), (2, .int p2), (3, .int p3)]) rfl (fun Γ _ hrm C hr hn => s_X9_gone_0 C hr hrm th p1 p2 p3 m) h

theorem dX9_apart_0 : decode cX9_apart 0 = .ok (.aload_n 0, 1) := by decide +kernel
theorem dX9_apart_1 : decode cX9_apart 1 = .ok (.getfield 10, 3) := by decide +kernel
theorem dX9_apart_4 : decode cX9_apart 4 = .ok (.iload_n 1, 1) := by decide +kernel
theorem dX9_apart_5 : decode cX9_apart 5 = .ok (.invokevirtual 122, 3) := by decide +kernel
theorem dX9_apart_8 : decode cX9_apart 8 = .ok (.astore 4, 2) := by decide +kernel
theorem dX9_apart_10 : decode cX9_apart 10 = .ok (.aload 4, 2) := by decide +kernel
theorem dX9_apart_12 : decode cX9_apart 12 = .ok (.ifnull 21, 3) := by decide +kernel
theorem dX9_apart_15 : decode cX9_apart 15 = .ok (.aload 4, 2) := by decide +kernel
theorem dX9_apart_17 : decode cX9_apart 17 = .ok (.iload_n 2, 1) := by decide +kernel
theorem dX9_apart_18 : decode cX9_apart 18 = .ok (.invokevirtual 168, 3) := by decide +kernel
theorem dX9_apart_21 : decode cX9_apart 21 = .ok (.ifCond .eq 12, 3) := by decide +kernel
theorem dX9_apart_24 : decode cX9_apart 24 = .ok (.aload 4, 2) := by decide +kernel
theorem dX9_apart_26 : decode cX9_apart 26 = .ok (.iload_n 3, 1) := by decide +kernel
theorem dX9_apart_27 : decode cX9_apart 27 = .ok (.invokevirtual 168, 3) := by decide +kernel
theorem dX9_apart_30 : decode cX9_apart 30 = .ok (.ifCond .ne 5, 3) := by decide +kernel
theorem dX9_apart_33 : decode cX9_apart 33 = .ok (.iconst (-1), 1) := by decide +kernel
theorem dX9_apart_34 : decode cX9_apart 34 = .ok (.ireturn, 1) := by decide +kernel
theorem dX9_apart_35 : decode cX9_apart 35 = .ok (.aload 4, 2) := by decide +kernel
theorem dX9_apart_37 : decode cX9_apart 37 = .ok (.getfield 138, 3) := by decide +kernel
theorem dX9_apart_40 : decode cX9_apart 40 = .ok (.iload_n 3, 1) := by decide +kernel
theorem dX9_apart_41 : decode cX9_apart 41 = .ok (.iconst 1, 1) := by decide +kernel
theorem dX9_apart_42 : decode cX9_apart 42 = .ok (.invokevirtual 172, 3) := by decide +kernel
theorem dX9_apart_45 : decode cX9_apart 45 = .ok (.aload 4, 2) := by decide +kernel
theorem dX9_apart_47 : decode cX9_apart 47 = .ok (.getfield 138, 3) := by decide +kernel
theorem dX9_apart_50 : decode cX9_apart 50 = .ok (.iload_n 2, 1) := by decide +kernel
theorem dX9_apart_51 : decode cX9_apart 51 = .ok (.iconst 1, 1) := by decide +kernel
theorem dX9_apart_52 : decode cX9_apart 52 = .ok (.invokevirtual 172, 3) := by decide +kernel
theorem dX9_apart_55 : decode cX9_apart 55 = .ok (.isub, 1) := by decide +kernel
theorem dX9_apart_56 : decode cX9_apart 56 = .ok (.istore 5, 2) := by decide +kernel
theorem dX9_apart_58 : decode cX9_apart 58 = .ok (.aload 4, 2) := by decide +kernel
theorem dX9_apart_60 : decode cX9_apart 60 = .ok (.getfield 138, 3) := by decide +kernel
theorem dX9_apart_63 : decode cX9_apart 63 = .ok (.iload_n 3, 1) := by decide +kernel
theorem dX9_apart_64 : decode cX9_apart 64 = .ok (.iconst 2, 1) := by decide +kernel
theorem dX9_apart_65 : decode cX9_apart 65 = .ok (.invokevirtual 172, 3) := by decide +kernel
theorem dX9_apart_68 : decode cX9_apart 68 = .ok (.aload 4, 2) := by decide +kernel
theorem dX9_apart_70 : decode cX9_apart 70 = .ok (.getfield 138, 3) := by decide +kernel
theorem dX9_apart_73 : decode cX9_apart 73 = .ok (.iload_n 2, 1) := by decide +kernel
theorem dX9_apart_74 : decode cX9_apart 74 = .ok (.iconst 2, 1) := by decide +kernel
theorem dX9_apart_75 : decode cX9_apart 75 = .ok (.invokevirtual 172, 3) := by decide +kernel
theorem dX9_apart_78 : decode cX9_apart 78 = .ok (.isub, 1) := by decide +kernel
theorem dX9_apart_79 : decode cX9_apart 79 = .ok (.istore 6, 2) := by decide +kernel
theorem dX9_apart_81 : decode cX9_apart 81 = .ok (.iload 5, 2) := by decide +kernel
theorem dX9_apart_83 : decode cX9_apart 83 = .ok (.iload 5, 2) := by decide +kernel
theorem dX9_apart_85 : decode cX9_apart 85 = .ok (.imul, 1) := by decide +kernel
theorem dX9_apart_86 : decode cX9_apart 86 = .ok (.iload 6, 2) := by decide +kernel
theorem dX9_apart_88 : decode cX9_apart 88 = .ok (.iload 6, 2) := by decide +kernel
theorem dX9_apart_90 : decode cX9_apart 90 = .ok (.imul, 1) := by decide +kernel
theorem dX9_apart_91 : decode cX9_apart 91 = .ok (.iadd, 1) := by decide +kernel
theorem dX9_apart_92 : decode cX9_apart 92 = .ok (.ireturn, 1) := by decide +kernel
def rmX9_apart : Room := { frames := 2, cells := 0, slots := 0, locals := 42 }
set_option maxRecDepth 100000 in
def g_X9_apart_0 (th : Nat) (p1 : Int32) (p2 : Int32) (p3 : Int32) (m : MM) : Option (Int32 × MM) :=
  chk (m.K th = 10) (ck m (m.R 1000 th 0) 8 (fun a1 => cal (f_X7_townAt a1 p1 m) (fun r1 m1 => ifn r1 (some ((-1), m1)) (fun a2 => chk (m1.K a2 = 9) (cal (f_X8_hasThing a2 p2 m1) (fun r2 m2 => if r2 = 0 then (some ((-1), m2)) else (chk (m2.K a2 = 9) (cal (f_X8_hasThing a2 p3 m2) (fun r3 m3 => if r3 = 0 then (some ((-1), m3)) else (chk (m3.K a2 = 9) (ck m3 (m3.R 904 a2 0) 7 (fun a3 => cal (f_X6_cell a3 p3 1 m3) (fun r4 m4 => chk (m4.K a2 = 9) (ck m4 (m4.R 904 a2 0) 7 (fun a4 => cal (f_X6_cell a4 p2 1 m4) (fun r5 m5 => bnd (r4 - r5) (fun y1 => chk (m5.K a2 = 9) (ck m5 (m5.R 904 a2 0) 7 (fun a5 => cal (f_X6_cell a5 p3 2 m5) (fun r6 m6 => chk (m6.K a2 = 9) (ck m6 (m6.R 904 a2 0) 7 (fun a6 => cal (f_X6_cell a6 p2 2 m6) (fun r7 m7 => bnd (r6 - r7) (fun y2 => some ((y1 * y1) + (y2 * y2), m7)))))))))))))))))))))))))
set_option maxHeartbeats 4000000 in
set_option maxRecDepth 100000 in
theorem s_X9_apart_0 {Γ : GX} {E : EX} (C : Cx Γ E cX9_apart RX9 7) (hr : Γ.meth.sig.returnType = (some .int)) (hrm : Γ.rm = rmX9_apart) (th : Nat) (p1 : Int32) (p2 : Int32) (p3 : Int32) (m : MM) : Sm (QM Γ E emI 0 0) Γ E 7 0 0 0 [(0, va_rf (some th)), (1, .int p1), (2, .int p2), (3, .int p3)] [] m (g_X9_apart_0 th p1 p2 p3 m) := by
  unfold g_X9_apart_0
  refine z_aload_n C dX9_apart_0 rfl 0 rfl ?_
  refine z_chk (fun hk1 => ?_)
  refine z_getR C fl_RX9_10 rfl hk1 dX9_apart_1 ?_
  refine z_iload_n C dX9_apart_4 rfl 1 rfl ?_
  refine z_ck (fun a1 hr1 hk2 => ?_)
  refine z_cVR [.int p1] [] C mv_RX9_122 (fun r0 m0 h0 => M_X7_townAt _ _ _ _ _ _ _ h0) rfl rfl ⟨by rw [hrm]; exact Nat.le_of_ble_eq_true rfl, by rw [hrm]; exact Nat.le_of_ble_eq_true rfl⟩ ⟨by rw [hrm]; exact Nat.le_of_ble_eq_true rfl, by rw [hrm]; exact Nat.le_of_ble_eq_true rfl⟩ hr1 hk2 rfl rfl rfl (Nat.le_of_ble_eq_true rfl) dX9_apart_5 (fun r1 m1 => ?_)
  refine z_astore (i := 4) (L2 := [(4, va_rf r1), (0, va_rf (some th)), (1, .int p1), (2, .int p2), (3, .int p3)]) C dX9_apart_8 (by decide) rfl ?_
  refine z_aload C dX9_apart_10 0 rfl ?_
  refine z_ifnull (tgt := 33) C dX9_apart_12 (by decide) (fun hn1 => ?_) (fun a2 ha1 => ?_)
  · refine z_iconst (v := (-1)) C dX9_apart_33 (by decide) ?_
    exact z_iret C hr dX9_apart_34
  · refine z_aload C dX9_apart_15 0 rfl ?_
    refine z_iload_n C dX9_apart_17 rfl 3 rfl ?_
    refine z_chk (fun hk3 => ?_)
    refine z_cVI [.int p2] [] C mv_RX9_168 (fun r0 m0 h0 => M_X8_hasThing _ _ _ _ _ _ _ h0) rfl rfl ⟨by rw [hrm]; exact Nat.le_of_ble_eq_true rfl, by rw [hrm]; exact Nat.le_of_ble_eq_true rfl⟩ ⟨by rw [hrm]; exact Nat.le_of_ble_eq_true rfl, by rw [hrm]; exact Nat.le_of_ble_eq_true rfl⟩ ha1 hk3 rfl rfl rfl (Nat.le_of_ble_eq_true rfl) dX9_apart_18 (fun r2 m2 => ?_)
    refine z_if_eq (tgt := 33) C dX9_apart_21 (by decide) (fun c1 => ?_) (fun c1 => ?_)
    · refine z_iconst (v := (-1)) C dX9_apart_33 (by decide) ?_
      exact z_iret C hr dX9_apart_34
    · refine z_aload C dX9_apart_24 0 rfl ?_
      refine z_iload_n C dX9_apart_26 rfl 4 rfl ?_
      refine z_chk (fun hk4 => ?_)
      refine z_cVI [.int p3] [] C mv_RX9_168 (fun r0 m0 h0 => M_X8_hasThing _ _ _ _ _ _ _ h0) rfl rfl ⟨by rw [hrm]; exact Nat.le_of_ble_eq_true rfl, by rw [hrm]; exact Nat.le_of_ble_eq_true rfl⟩ ⟨by rw [hrm]; exact Nat.le_of_ble_eq_true rfl, by rw [hrm]; exact Nat.le_of_ble_eq_true rfl⟩ ha1 hk4 rfl rfl rfl (Nat.le_of_ble_eq_true rfl) dX9_apart_27 (fun r3 m3 => ?_)
      refine z_if_ne (tgt := 35) C dX9_apart_30 (by decide) (fun c2 => ?_) (fun c2 => ?_)
      · refine z_aload C dX9_apart_35 0 rfl ?_
        refine z_chk (fun hk5 => ?_)
        refine z_getR C fl_RX9_138 ha1 hk5 dX9_apart_37 ?_
        refine z_iload_n C dX9_apart_40 rfl 4 rfl ?_
        refine z_iconst (v := 1) C dX9_apart_41 (by decide) ?_
        refine z_ck (fun a3 hr2 hk6 => ?_)
        refine z_cVI [.int p3, .int 1] [] C mv_RX9_172 (fun r0 m0 h0 => M_X6_cell _ _ _ _ _ _ _ _ h0) rfl rfl ⟨by rw [hrm]; exact Nat.le_of_ble_eq_true rfl, by rw [hrm]; exact Nat.le_of_ble_eq_true rfl⟩ ⟨by rw [hrm]; exact Nat.le_of_ble_eq_true rfl, by rw [hrm]; exact Nat.le_of_ble_eq_true rfl⟩ hr2 hk6 rfl rfl rfl (Nat.le_of_ble_eq_true rfl) dX9_apart_42 (fun r4 m4 => ?_)
        refine z_aload C dX9_apart_45 0 rfl ?_
        refine z_chk (fun hk7 => ?_)
        refine z_getR C fl_RX9_138 ha1 hk7 dX9_apart_47 ?_
        refine z_iload_n C dX9_apart_50 rfl 3 rfl ?_
        refine z_iconst (v := 1) C dX9_apart_51 (by decide) ?_
        refine z_ck (fun a4 hr3 hk8 => ?_)
        refine z_cVI [.int p2, .int 1] [.int r4] C mv_RX9_172 (fun r0 m0 h0 => M_X6_cell _ _ _ _ _ _ _ _ h0) rfl rfl ⟨by rw [hrm]; exact Nat.le_of_ble_eq_true rfl, by rw [hrm]; exact Nat.le_of_ble_eq_true rfl⟩ ⟨by rw [hrm]; exact Nat.le_of_ble_eq_true rfl, by rw [hrm]; exact Nat.le_of_ble_eq_true rfl⟩ hr3 hk8 rfl rfl rfl (Nat.le_of_ble_eq_true rfl) dX9_apart_52 (fun r5 m5 => ?_)
        refine z_isub C dX9_apart_55 ?_
        refine z_bndI (fun y1 => ?_)
        refine z_istore (i := 5) (L2 := [(5, .int y1), (4, va_rf r1), (0, va_rf (some th)), (1, .int p1), (2, .int p2), (3, .int p3)]) C dX9_apart_56 (by decide) (by simp [cat_rf, cat_i, cat_l, cat_a]) ?_
        refine z_aload C dX9_apart_58 1 rfl ?_
        refine z_chk (fun hk9 => ?_)
        refine z_getR C fl_RX9_138 ha1 hk9 dX9_apart_60 ?_
        refine z_iload_n C dX9_apart_63 rfl 5 rfl ?_
        refine z_iconst (v := 2) C dX9_apart_64 (by decide) ?_
        refine z_ck (fun a5 hr4 hk10 => ?_)
        refine z_cVI [.int p3, .int 2] [] C mv_RX9_172 (fun r0 m0 h0 => M_X6_cell _ _ _ _ _ _ _ _ h0) rfl rfl ⟨by rw [hrm]; exact Nat.le_of_ble_eq_true rfl, by rw [hrm]; exact Nat.le_of_ble_eq_true rfl⟩ ⟨by rw [hrm]; exact Nat.le_of_ble_eq_true rfl, by rw [hrm]; exact Nat.le_of_ble_eq_true rfl⟩ hr4 hk10 rfl rfl rfl (Nat.le_of_ble_eq_true rfl) dX9_apart_65 (fun r6 m6 => ?_)
        refine z_aload C dX9_apart_68 1 rfl ?_
        refine z_chk (fun hk11 => ?_)
        refine z_getR C fl_RX9_138 ha1 hk11 dX9_apart_70 ?_
        refine z_iload_n C dX9_apart_73 rfl 4 rfl ?_
        refine z_iconst (v := 2) C dX9_apart_74 (by decide) ?_
        refine z_ck (fun a6 hr5 hk12 => ?_)
        refine z_cVI [.int p2, .int 2] [.int r6] C mv_RX9_172 (fun r0 m0 h0 => M_X6_cell _ _ _ _ _ _ _ _ h0) rfl rfl ⟨by rw [hrm]; exact Nat.le_of_ble_eq_true rfl, by rw [hrm]; exact Nat.le_of_ble_eq_true rfl⟩ ⟨by rw [hrm]; exact Nat.le_of_ble_eq_true rfl, by rw [hrm]; exact Nat.le_of_ble_eq_true rfl⟩ hr5 hk12 rfl rfl rfl (Nat.le_of_ble_eq_true rfl) dX9_apart_75 (fun r7 m7 => ?_)
        refine z_isub C dX9_apart_78 ?_
        refine z_bndI (fun y2 => ?_)
        refine z_istore (i := 6) (L2 := [(6, .int y2), (5, .int y1), (4, va_rf r1), (0, va_rf (some th)), (1, .int p1), (2, .int p2), (3, .int p3)]) C dX9_apart_79 (by decide) rfl ?_
        refine z_iload C dX9_apart_81 1 rfl ?_
        refine z_iload C dX9_apart_83 1 rfl ?_
        refine z_imul C dX9_apart_85 ?_
        refine z_iload C dX9_apart_86 0 rfl ?_
        refine z_iload C dX9_apart_88 0 rfl ?_
        refine z_imul C dX9_apart_90 ?_
        refine z_iadd C dX9_apart_91 ?_
        exact z_iret C hr dX9_apart_92
      · refine z_iconst (v := (-1)) C dX9_apart_33 (by decide) ?_
        exact z_iret C hr dX9_apart_34
def f_X9_apart (th : Nat) (p1 : Int32) (p2 : Int32) (p3 : Int32) (m : MM) : Option (Int32 × MM) := g_X9_apart_0 th p1 p2 p3 m
theorem M_X9_apart (l : Launch) (E : EX) (th : Nat) (p1 : Int32) (p2 : Int32) (p3 : Int32) (m : MM) (r : Int32) (m2 : MM) (h : f_X9_apart th p1 p2 p3 m = some (r, m2)) : Met l yX9_apart (.code yX9_apart cX9_apart 7 (some .int) :: TB) rmX9_apart (va_Pc [.ref th, .int p1, .int p2, .int p3] (St E m)) (QR E (emI r) m2) 0 0 (AA E) :=
  met_of (em := emI) (plainFor_of_name rfl) (Nat.le_of_ble_eq_true rfl) (L0 := [(0, va_rf (some th)), (1, .int p1), (2, .int p2), (3, .int p3)]) rfl (fun Γ _ hrm C hr hn => s_X9_apart_0 C hr hrm th p1 p2 p3 m) h

theorem dX9_between_0 : decode cX9_between 0 = .ok (.aload_n 0, 1) := by decide +kernel
theorem dX9_between_1 : decode cX9_between 1 = .ok (.getfield 10, 3) := by decide +kernel
theorem dX9_between_4 : decode cX9_between 4 = .ok (.iload_n 1, 1) := by decide +kernel
theorem dX9_between_5 : decode cX9_between 5 = .ok (.invokevirtual 122, 3) := by decide +kernel
theorem dX9_between_8 : decode cX9_between 8 = .ok (.astore 5, 2) := by decide +kernel
theorem dX9_between_10 : decode cX9_between 10 = .ok (.aload 5, 2) := by decide +kernel
theorem dX9_between_12 : decode cX9_between 12 = .ok (.ifnull 21, 3) := by decide +kernel
theorem dX9_between_15 : decode cX9_between 15 = .ok (.aload 5, 2) := by decide +kernel
theorem dX9_between_17 : decode cX9_between 17 = .ok (.iload_n 2, 1) := by decide +kernel
theorem dX9_between_18 : decode cX9_between 18 = .ok (.iload_n 3, 1) := by decide +kernel
theorem dX9_between_19 : decode cX9_between 19 = .ok (.invokevirtual 224, 3) := by decide +kernel
theorem dX9_between_22 : decode cX9_between 22 = .ok (.ifCond .eq 11, 3) := by decide +kernel
theorem dX9_between_25 : decode cX9_between 25 = .ok (.iload 4, 2) := by decide +kernel
theorem dX9_between_27 : decode cX9_between 27 = .ok (.invokestatic 201, 3) := by decide +kernel
theorem dX9_between_30 : decode cX9_between 30 = .ok (.ifCond .ne 5, 3) := by decide +kernel
theorem dX9_between_33 : decode cX9_between 33 = .ok (.iconst (-1), 1) := by decide +kernel
theorem dX9_between_34 : decode cX9_between 34 = .ok (.ireturn, 1) := by decide +kernel
theorem dX9_between_35 : decode cX9_between 35 = .ok (.aload_n 0, 1) := by decide +kernel
theorem dX9_between_36 : decode cX9_between 36 = .ok (.getfield 30, 3) := by decide +kernel
theorem dX9_between_39 : decode cX9_between 39 = .ok (.aload 5, 2) := by decide +kernel
theorem dX9_between_41 : decode cX9_between 41 = .ok (.aconst_null, 1) := by decide +kernel
theorem dX9_between_42 : decode cX9_between 42 = .ok (.iload 4, 2) := by decide +kernel
theorem dX9_between_44 : decode cX9_between 44 = .ok (.invokevirtual 227, 3) := by decide +kernel
theorem dX9_between_47 : decode cX9_between 47 = .ok (.aload_n 0, 1) := by decide +kernel
theorem dX9_between_48 : decode cX9_between 48 = .ok (.getfield 30, 3) := by decide +kernel
theorem dX9_between_51 : decode cX9_between 51 = .ok (.aload_n 0, 1) := by decide +kernel
theorem dX9_between_52 : decode cX9_between 52 = .ok (.getfield 30, 3) := by decide +kernel
theorem dX9_between_55 : decode cX9_between 55 = .ok (.iload_n 2, 1) := by decide +kernel
theorem dX9_between_56 : decode cX9_between 56 = .ok (.invokevirtual 231, 3) := by decide +kernel
theorem dX9_between_59 : decode cX9_between 59 = .ok (.aload_n 0, 1) := by decide +kernel
theorem dX9_between_60 : decode cX9_between 60 = .ok (.getfield 30, 3) := by decide +kernel
theorem dX9_between_63 : decode cX9_between 63 = .ok (.iload_n 3, 1) := by decide +kernel
theorem dX9_between_64 : decode cX9_between 64 = .ok (.invokevirtual 231, 3) := by decide +kernel
theorem dX9_between_67 : decode cX9_between 67 = .ok (.invokevirtual 235, 3) := by decide +kernel
theorem dX9_between_70 : decode cX9_between 70 = .ok (.invokestatic 239, 3) := by decide +kernel
theorem dX9_between_73 : decode cX9_between 73 = .ok (.ireturn, 1) := by decide +kernel
def rmX9_between : Room := { frames := 3, cells := 0, slots := 0, locals := 89 }
set_option maxRecDepth 100000 in
def g_X9_between_0 (th : Nat) (p1 : Int32) (p2 : Int32) (p3 : Int32) (p4 : Int32) (m : MM) : Option (Int32 × MM) :=
  chk (m.K th = 10) (ck m (m.R 1000 th 0) 8 (fun a1 => cal (f_X7_townAt a1 p1 m) (fun r1 m1 => ifn r1 (some ((-1), m1)) (fun a2 => chk (m1.K a2 = 9) (cal (f_X8_hasTwo a2 p2 p3 m1) (fun r2 m2 => if r2 = 0 then (some ((-1), m2)) else (cal (f_X9_isDay p4 m2) (fun r3 m3 => if r3 = 0 then (some ((-1), m3)) else (chk (m3.K th = 10) (ck m3 (m3.R 1003 th 0) 6 (fun a3 => cal (f_X5_open a3 r1 none p4 m3) (fun r4 m4 => chk (m4.K th = 10) (ck m4 (m4.R 1003 th 0) 6 (fun a4 => cal (f_X5_body a4 p2 m4) (fun r5 m5 => chk (m5.K th = 10) (ck m5 (m5.R 1003 th 0) 6 (fun a5 => cal (f_X5_body a5 p3 m5) (fun r6 m6 => chk (m6.K a4 = 6) (cal (f_X5_wallsBetween a4 r5 r6 m6) (fun r7 m7 => cal (f_J6_bitCount_0f7a4 r7 m7) (fun r8 m8 => some (r8, m8))))))))))))))))))))))
set_option maxHeartbeats 4000000 in
set_option maxRecDepth 100000 in
theorem s_X9_between_0 {Γ : GX} {E : EX} (C : Cx Γ E cX9_between RX9 6) (hr : Γ.meth.sig.returnType = (some .int)) (hrm : Γ.rm = rmX9_between) (th : Nat) (p1 : Int32) (p2 : Int32) (p3 : Int32) (p4 : Int32) (m : MM) : Sm (QM Γ E emI 0 0) Γ E 6 0 0 0 [(0, va_rf (some th)), (1, .int p1), (2, .int p2), (3, .int p3), (4, .int p4)] [] m (g_X9_between_0 th p1 p2 p3 p4 m) := by
  unfold g_X9_between_0
  refine z_aload_n C dX9_between_0 rfl 0 rfl ?_
  refine z_chk (fun hk1 => ?_)
  refine z_getR C fl_RX9_10 rfl hk1 dX9_between_1 ?_
  refine z_iload_n C dX9_between_4 rfl 1 rfl ?_
  refine z_ck (fun a1 hr1 hk2 => ?_)
  refine z_cVR [.int p1] [] C mv_RX9_122 (fun r0 m0 h0 => M_X7_townAt _ _ _ _ _ _ _ h0) rfl rfl ⟨by rw [hrm]; exact Nat.le_of_ble_eq_true rfl, by rw [hrm]; exact Nat.le_of_ble_eq_true rfl⟩ ⟨by rw [hrm]; exact Nat.le_of_ble_eq_true rfl, by rw [hrm]; exact Nat.le_of_ble_eq_true rfl⟩ hr1 hk2 rfl rfl rfl (Nat.le_of_ble_eq_true rfl) dX9_between_5 (fun r1 m1 => ?_)
  refine z_astore (i := 5) (L2 := [(5, va_rf r1), (0, va_rf (some th)), (1, .int p1), (2, .int p2), (3, .int p3), (4, .int p4)]) C dX9_between_8 (by decide) rfl ?_
  refine z_aload C dX9_between_10 0 rfl ?_
  refine z_ifnull (tgt := 33) C dX9_between_12 (by decide) (fun hn1 => ?_) (fun a2 ha1 => ?_)
  · refine z_iconst (v := (-1)) C dX9_between_33 (by decide) ?_
    exact z_iret C hr dX9_between_34
  · refine z_aload C dX9_between_15 0 rfl ?_
    refine z_iload_n C dX9_between_17 rfl 3 rfl ?_
    refine z_iload_n C dX9_between_18 rfl 4 rfl ?_
    refine z_chk (fun hk3 => ?_)
    refine z_cVI [.int p2, .int p3] [] C mv_RX9_224 (fun r0 m0 h0 => M_X8_hasTwo _ _ _ _ _ _ _ _ h0) rfl rfl ⟨by rw [hrm]; exact Nat.le_of_ble_eq_true rfl, by rw [hrm]; exact Nat.le_of_ble_eq_true rfl⟩ ⟨by rw [hrm]; exact Nat.le_of_ble_eq_true rfl, by rw [hrm]; exact Nat.le_of_ble_eq_true rfl⟩ ha1 hk3 rfl rfl rfl (Nat.le_of_ble_eq_true rfl) dX9_between_19 (fun r2 m2 => ?_)
    refine z_if_eq (tgt := 33) C dX9_between_22 (by decide) (fun c1 => ?_) (fun c1 => ?_)
    · refine z_iconst (v := (-1)) C dX9_between_33 (by decide) ?_
      exact z_iret C hr dX9_between_34
    · refine z_iload C dX9_between_25 5 rfl ?_
      refine z_cSI [.int p4] [] C mv_RX9_201 (fun r0 m0 h0 => M_X9_isDay _ _ _ _ _ _ h0) rfl rfl ⟨by rw [hrm]; exact Nat.le_of_ble_eq_true rfl, by rw [hrm]; exact Nat.le_of_ble_eq_true rfl⟩ ⟨by rw [hrm]; exact Nat.le_of_ble_eq_true rfl, by rw [hrm]; exact Nat.le_of_ble_eq_true rfl⟩ rfl rfl (Nat.le_of_ble_eq_true rfl) dX9_between_27 (fun r3 m3 => ?_)
      refine z_if_ne (tgt := 35) C dX9_between_30 (by decide) (fun c2 => ?_) (fun c2 => ?_)
      · refine z_aload_n C dX9_between_35 rfl 1 rfl ?_
        refine z_chk (fun hk4 => ?_)
        refine z_getR C fl_RX9_30 rfl hk4 dX9_between_36 ?_
        refine z_aload C dX9_between_39 0 rfl ?_
        refine z_null C dX9_between_41 ?_
        refine z_iload C dX9_between_42 5 rfl ?_
        refine z_ck (fun a3 hr2 hk5 => ?_)
        refine z_cVV [va_rf r1, va_rf none, .int p4] [] C mv_RX9_227 (fun r0 m0 h0 => M_X5_open _ _ _ _ _ _ _ _ _ h0) rfl rfl ⟨by rw [hrm]; exact Nat.le_of_ble_eq_true rfl, by rw [hrm]; exact Nat.le_of_ble_eq_true rfl⟩ ⟨by rw [hrm]; exact Nat.le_of_ble_eq_true rfl, by rw [hrm]; exact Nat.le_of_ble_eq_true rfl⟩ hr2 hk5 rfl rfl rfl (Nat.le_of_ble_eq_true rfl) dX9_between_44 (fun r4 m4 => ?_)
        refine z_aload_n C dX9_between_47 rfl 1 rfl ?_
        refine z_chk (fun hk6 => ?_)
        refine z_getR C fl_RX9_30 rfl hk6 dX9_between_48 ?_
        refine z_aload_n C dX9_between_51 rfl 1 rfl ?_
        refine z_getR C fl_RX9_30 rfl hk6 dX9_between_52 ?_
        refine z_iload_n C dX9_between_55 rfl 3 rfl ?_
        refine z_ck (fun a4 hr3 hk7 => ?_)
        refine z_cVR [.int p2] [va_rf (m4.R 1003 th 0)] C mv_RX9_231 (fun r0 m0 h0 => M_X5_body _ _ _ _ _ _ _ h0) rfl rfl ⟨by rw [hrm]; exact Nat.le_of_ble_eq_true rfl, by rw [hrm]; exact Nat.le_of_ble_eq_true rfl⟩ ⟨by rw [hrm]; exact Nat.le_of_ble_eq_true rfl, by rw [hrm]; exact Nat.le_of_ble_eq_true rfl⟩ hr3 hk7 rfl rfl rfl (by simp [cat_rf, cat_i, cat_l, cat_a]) dX9_between_56 (fun r5 m5 => ?_)
        refine z_aload_n C dX9_between_59 rfl 1 rfl ?_
        refine z_chk (fun hk8 => ?_)
        refine z_getR C fl_RX9_30 rfl hk8 dX9_between_60 ?_
        refine z_iload_n C dX9_between_63 rfl 4 rfl ?_
        refine z_ck (fun a5 hr4 hk9 => ?_)
        refine z_cVR [.int p3] [va_rf r5, va_rf (m4.R 1003 th 0)] C mv_RX9_231 (fun r0 m0 h0 => M_X5_body _ _ _ _ _ _ _ h0) rfl rfl ⟨by rw [hrm]; exact Nat.le_of_ble_eq_true rfl, by rw [hrm]; exact Nat.le_of_ble_eq_true rfl⟩ ⟨by rw [hrm]; exact Nat.le_of_ble_eq_true rfl, by rw [hrm]; exact Nat.le_of_ble_eq_true rfl⟩ hr4 hk9 rfl rfl rfl (by simp [cat_rf, cat_i, cat_l, cat_a]) dX9_between_64 (fun r6 m6 => ?_)
        refine z_chk (fun hk10 => ?_)
        refine z_cVI [va_rf r5, va_rf r6] [] C mv_RX9_235 (fun r0 m0 h0 => M_X5_wallsBetween _ _ _ _ _ _ _ _ h0) rfl rfl ⟨by rw [hrm]; exact Nat.le_of_ble_eq_true rfl, by rw [hrm]; exact Nat.le_of_ble_eq_true rfl⟩ ⟨by rw [hrm]; exact Nat.le_of_ble_eq_true rfl, by rw [hrm]; exact Nat.le_of_ble_eq_true rfl⟩ hr3 hk10 rfl rfl rfl (Nat.le_of_ble_eq_true rfl) dX9_between_67 (fun r7 m7 => ?_)
        refine z_cSI [.int r7] [] C mv_RX9_239 (fun r0 m0 h0 => M_J6_bitCount_0f7a4 _ _ _ _ _ _ h0) rfl rfl ⟨by rw [hrm]; exact Nat.le_of_ble_eq_true rfl, by rw [hrm]; exact Nat.le_of_ble_eq_true rfl⟩ ⟨by rw [hrm]; exact Nat.le_of_ble_eq_true rfl, by rw [hrm]; exact Nat.le_of_ble_eq_true rfl⟩ rfl rfl (Nat.le_of_ble_eq_true rfl) dX9_between_70 (fun r8 m8 => ?_)
        exact z_iret C hr dX9_between_73
      · refine z_iconst (v := (-1)) C dX9_between_33 (by decide) ?_
        exact z_iret C hr dX9_between_34
def f_X9_between (th : Nat) (p1 : Int32) (p2 : Int32) (p3 : Int32) (p4 : Int32) (m : MM) : Option (Int32 × MM) := g_X9_between_0 th p1 p2 p3 p4 m
theorem M_X9_between (l : Launch) (E : EX) (th : Nat) (p1 : Int32) (p2 : Int32) (p3 : Int32) (p4 : Int32) (m : MM) (r : Int32) (m2 : MM) (h : f_X9_between th p1 p2 p3 p4 m = some (r, m2)) : Met l yX9_between (.code yX9_between cX9_between 6 (some .int) :: TB) rmX9_between (va_Pc [.ref th, .int p1, .int p2, .int p3, .int p4] (St E m)) (QR E (emI r) m2) 0 0 (AA E) :=
  met_of (em := emI) (plainFor_of_name rfl) (Nat.le_of_ble_eq_true rfl) (L0 := [(0, va_rf (some th)), (1, .int p1), (2, .int p2), (3, .int p3), (4, .int p4)]) rfl (fun Γ _ hrm C hr hn => s_X9_between_0 C hr hrm th p1 p2 p3 p4 m) h

theorem dX9_grown_0 : decode cX9_grown 0 = .ok (.aload_n 0, 1) := by decide +kernel
theorem dX9_grown_1 : decode cX9_grown 1 = .ok (.getfield 10, 3) := by decide +kernel
theorem dX9_grown_4 : decode cX9_grown 4 = .ok (.iload_n 1, 1) := by decide +kernel
theorem dX9_grown_5 : decode cX9_grown 5 = .ok (.invokevirtual 122, 3) := by decide +kernel
theorem dX9_grown_8 : decode cX9_grown 8 = .ok (.astore 4, 2) := by decide +kernel
theorem dX9_grown_10 : decode cX9_grown 10 = .ok (.aload 4, 2) := by decide +kernel
theorem dX9_grown_12 : decode cX9_grown 12 = .ok (.ifnull 19, 3) := by decide +kernel
theorem dX9_grown_15 : decode cX9_grown 15 = .ok (.aload 4, 2) := by decide +kernel
theorem dX9_grown_17 : decode cX9_grown 17 = .ok (.iload_n 2, 1) := by decide +kernel
theorem dX9_grown_18 : decode cX9_grown 18 = .ok (.invokevirtual 168, 3) := by decide +kernel
theorem dX9_grown_21 : decode cX9_grown 21 = .ok (.ifCond .eq 10, 3) := by decide +kernel
theorem dX9_grown_24 : decode cX9_grown 24 = .ok (.iload_n 3, 1) := by decide +kernel
theorem dX9_grown_25 : decode cX9_grown 25 = .ok (.invokestatic 201, 3) := by decide +kernel
theorem dX9_grown_28 : decode cX9_grown 28 = .ok (.ifCond .ne 5, 3) := by decide +kernel
theorem dX9_grown_31 : decode cX9_grown 31 = .ok (.iconst (-1), 1) := by decide +kernel
theorem dX9_grown_32 : decode cX9_grown 32 = .ok (.ireturn, 1) := by decide +kernel
theorem dX9_grown_33 : decode cX9_grown 33 = .ok (.aload 4, 2) := by decide +kernel
theorem dX9_grown_35 : decode cX9_grown 35 = .ok (.iload_n 2, 1) := by decide +kernel
theorem dX9_grown_36 : decode cX9_grown 36 = .ok (.iload_n 3, 1) := by decide +kernel
theorem dX9_grown_37 : decode cX9_grown 37 = .ok (.invokevirtual 244, 3) := by decide +kernel
theorem dX9_grown_40 : decode cX9_grown 40 = .ok (.ireturn, 1) := by decide +kernel
def rmX9_grown : Room := { frames := 2, cells := 0, slots := 0, locals := 48 }
set_option maxRecDepth 100000 in
def g_X9_grown_0 (th : Nat) (p1 : Int32) (p2 : Int32) (p3 : Int32) (m : MM) : Option (Int32 × MM) :=
  chk (m.K th = 10) (ck m (m.R 1000 th 0) 8 (fun a1 => cal (f_X7_townAt a1 p1 m) (fun r1 m1 => ifn r1 (some ((-1), m1)) (fun a2 => chk (m1.K a2 = 9) (cal (f_X8_hasThing a2 p2 m1) (fun r2 m2 => if r2 = 0 then (some ((-1), m2)) else (cal (f_X9_isDay p3 m2) (fun r3 m3 => if r3 = 0 then (some ((-1), m3)) else (chk (m3.K a2 = 9) (cal (f_X8_growth a2 p2 p3 m3) (fun r4 m4 => some (r4, m4))))))))))))
set_option maxHeartbeats 4000000 in
set_option maxRecDepth 100000 in
theorem s_X9_grown_0 {Γ : GX} {E : EX} (C : Cx Γ E cX9_grown RX9 5) (hr : Γ.meth.sig.returnType = (some .int)) (hrm : Γ.rm = rmX9_grown) (th : Nat) (p1 : Int32) (p2 : Int32) (p3 : Int32) (m : MM) : Sm (QM Γ E emI 0 0) Γ E 5 0 0 0 [(0, va_rf (some th)), (1, .int p1), (2, .int p2), (3, .int p3)] [] m (g_X9_grown_0 th p1 p2 p3 m) := by
  unfold g_X9_grown_0
  refine z_aload_n C dX9_grown_0 rfl 0 rfl ?_
  refine z_chk (fun hk1 => ?_)
  refine z_getR C fl_RX9_10 rfl hk1 dX9_grown_1 ?_
  refine z_iload_n C dX9_grown_4 rfl 1 rfl ?_
  refine z_ck (fun a1 hr1 hk2 => ?_)
  refine z_cVR [.int p1] [] C mv_RX9_122 (fun r0 m0 h0 => M_X7_townAt _ _ _ _ _ _ _ h0) rfl rfl ⟨by rw [hrm]; exact Nat.le_of_ble_eq_true rfl, by rw [hrm]; exact Nat.le_of_ble_eq_true rfl⟩ ⟨by rw [hrm]; exact Nat.le_of_ble_eq_true rfl, by rw [hrm]; exact Nat.le_of_ble_eq_true rfl⟩ hr1 hk2 rfl rfl rfl (Nat.le_of_ble_eq_true rfl) dX9_grown_5 (fun r1 m1 => ?_)
  refine z_astore (i := 4) (L2 := [(4, va_rf r1), (0, va_rf (some th)), (1, .int p1), (2, .int p2), (3, .int p3)]) C dX9_grown_8 (by decide) rfl ?_
  refine z_aload C dX9_grown_10 0 rfl ?_
  refine z_ifnull (tgt := 31) C dX9_grown_12 (by decide) (fun hn1 => ?_) (fun a2 ha1 => ?_)
  · refine z_iconst (v := (-1)) C dX9_grown_31 (by decide) ?_
    exact z_iret C hr dX9_grown_32
  · refine z_aload C dX9_grown_15 0 rfl ?_
    refine z_iload_n C dX9_grown_17 rfl 3 rfl ?_
    refine z_chk (fun hk3 => ?_)
    refine z_cVI [.int p2] [] C mv_RX9_168 (fun r0 m0 h0 => M_X8_hasThing _ _ _ _ _ _ _ h0) rfl rfl ⟨by rw [hrm]; exact Nat.le_of_ble_eq_true rfl, by rw [hrm]; exact Nat.le_of_ble_eq_true rfl⟩ ⟨by rw [hrm]; exact Nat.le_of_ble_eq_true rfl, by rw [hrm]; exact Nat.le_of_ble_eq_true rfl⟩ ha1 hk3 rfl rfl rfl (Nat.le_of_ble_eq_true rfl) dX9_grown_18 (fun r2 m2 => ?_)
    refine z_if_eq (tgt := 31) C dX9_grown_21 (by decide) (fun c1 => ?_) (fun c1 => ?_)
    · refine z_iconst (v := (-1)) C dX9_grown_31 (by decide) ?_
      exact z_iret C hr dX9_grown_32
    · refine z_iload_n C dX9_grown_24 rfl 4 rfl ?_
      refine z_cSI [.int p3] [] C mv_RX9_201 (fun r0 m0 h0 => M_X9_isDay _ _ _ _ _ _ h0) rfl rfl ⟨by rw [hrm]; exact Nat.le_of_ble_eq_true rfl, by rw [hrm]; exact Nat.le_of_ble_eq_true rfl⟩ ⟨by rw [hrm]; exact Nat.le_of_ble_eq_true rfl, by rw [hrm]; exact Nat.le_of_ble_eq_true rfl⟩ rfl rfl (Nat.le_of_ble_eq_true rfl) dX9_grown_25 (fun r3 m3 => ?_)
      refine z_if_ne (tgt := 33) C dX9_grown_28 (by decide) (fun c2 => ?_) (fun c2 => ?_)
      · refine z_aload C dX9_grown_33 0 rfl ?_
        refine z_iload_n C dX9_grown_35 rfl 3 rfl ?_
        refine z_iload_n C dX9_grown_36 rfl 4 rfl ?_
        refine z_chk (fun hk4 => ?_)
        refine z_cVI [.int p2, .int p3] [] C mv_RX9_244 (fun r0 m0 h0 => M_X8_growth _ _ _ _ _ _ _ _ h0) rfl rfl ⟨by rw [hrm]; exact Nat.le_of_ble_eq_true rfl, by rw [hrm]; exact Nat.le_of_ble_eq_true rfl⟩ ⟨by rw [hrm]; exact Nat.le_of_ble_eq_true rfl, by rw [hrm]; exact Nat.le_of_ble_eq_true rfl⟩ ha1 hk4 rfl rfl rfl (Nat.le_of_ble_eq_true rfl) dX9_grown_37 (fun r4 m4 => ?_)
        exact z_iret C hr dX9_grown_40
      · refine z_iconst (v := (-1)) C dX9_grown_31 (by decide) ?_
        exact z_iret C hr dX9_grown_32
def f_X9_grown (th : Nat) (p1 : Int32) (p2 : Int32) (p3 : Int32) (m : MM) : Option (Int32 × MM) := g_X9_grown_0 th p1 p2 p3 m
theorem M_X9_grown (l : Launch) (E : EX) (th : Nat) (p1 : Int32) (p2 : Int32) (p3 : Int32) (m : MM) (r : Int32) (m2 : MM) (h : f_X9_grown th p1 p2 p3 m = some (r, m2)) : Met l yX9_grown (.code yX9_grown cX9_grown 5 (some .int) :: TB) rmX9_grown (va_Pc [.ref th, .int p1, .int p2, .int p3] (St E m)) (QR E (emI r) m2) 0 0 (AA E) :=
  met_of (em := emI) (plainFor_of_name rfl) (Nat.le_of_ble_eq_true rfl) (L0 := [(0, va_rf (some th)), (1, .int p1), (2, .int p2), (3, .int p3)]) rfl (fun Γ _ hrm C hr hn => s_X9_grown_0 C hr hrm th p1 p2 p3 m) h

theorem dX9_opened_0 : decode cX9_opened 0 = .ok (.aload_n 0, 1) := by decide +kernel
theorem dX9_opened_1 : decode cX9_opened 1 = .ok (.getfield 10, 3) := by decide +kernel
theorem dX9_opened_4 : decode cX9_opened 4 = .ok (.iload_n 1, 1) := by decide +kernel
theorem dX9_opened_5 : decode cX9_opened 5 = .ok (.invokevirtual 122, 3) := by decide +kernel
theorem dX9_opened_8 : decode cX9_opened 8 = .ok (.astore 4, 2) := by decide +kernel
theorem dX9_opened_10 : decode cX9_opened 10 = .ok (.aload_n 0, 1) := by decide +kernel
theorem dX9_opened_11 : decode cX9_opened 11 = .ok (.getfield 10, 3) := by decide +kernel
theorem dX9_opened_14 : decode cX9_opened 14 = .ok (.iload_n 2, 1) := by decide +kernel
theorem dX9_opened_15 : decode cX9_opened 15 = .ok (.invokevirtual 175, 3) := by decide +kernel
theorem dX9_opened_18 : decode cX9_opened 18 = .ok (.astore 5, 2) := by decide +kernel
theorem dX9_opened_20 : decode cX9_opened 20 = .ok (.aload 4, 2) := by decide +kernel
theorem dX9_opened_22 : decode cX9_opened 22 = .ok (.ifnull 15, 3) := by decide +kernel
theorem dX9_opened_25 : decode cX9_opened 25 = .ok (.aload 5, 2) := by decide +kernel
theorem dX9_opened_27 : decode cX9_opened 27 = .ok (.ifnull 10, 3) := by decide +kernel
theorem dX9_opened_30 : decode cX9_opened 30 = .ok (.iload_n 3, 1) := by decide +kernel
theorem dX9_opened_31 : decode cX9_opened 31 = .ok (.invokestatic 201, 3) := by decide +kernel
theorem dX9_opened_34 : decode cX9_opened 34 = .ok (.ifCond .ne 5, 3) := by decide +kernel
theorem dX9_opened_37 : decode cX9_opened 37 = .ok (.iconst 0, 1) := by decide +kernel
theorem dX9_opened_38 : decode cX9_opened 38 = .ok (.ireturn, 1) := by decide +kernel
theorem dX9_opened_39 : decode cX9_opened 39 = .ok (.aload_n 0, 1) := by decide +kernel
theorem dX9_opened_40 : decode cX9_opened 40 = .ok (.getfield 30, 3) := by decide +kernel
theorem dX9_opened_43 : decode cX9_opened 43 = .ok (.aload 4, 2) := by decide +kernel
theorem dX9_opened_45 : decode cX9_opened 45 = .ok (.aload 5, 2) := by decide +kernel
theorem dX9_opened_47 : decode cX9_opened 47 = .ok (.iload_n 3, 1) := by decide +kernel
theorem dX9_opened_48 : decode cX9_opened 48 = .ok (.invokevirtual 227, 3) := by decide +kernel
theorem dX9_opened_51 : decode cX9_opened 51 = .ok (.iconst 1, 1) := by decide +kernel
theorem dX9_opened_52 : decode cX9_opened 52 = .ok (.ireturn, 1) := by decide +kernel
def rmX9_opened : Room := { frames := 3, cells := 0, slots := 0, locals := 73 }
set_option maxRecDepth 100000 in
def g_X9_opened_0 (th : Nat) (p1 : Int32) (p2 : Int32) (p3 : Int32) (m : MM) : Option (Int32 × MM) :=
  chk (m.K th = 10) (ck m (m.R 1000 th 0) 8 (fun a1 => cal (f_X7_townAt a1 p1 m) (fun r1 m1 => chk (m1.K th = 10) (ck m1 (m1.R 1000 th 0) 8 (fun a2 => cal (f_X7_lawAt a2 p2 m1) (fun r2 m2 => ifn r1 (some (0, m2)) (fun a3 => ifn r2 (some (0, m2)) (fun a4 => cal (f_X9_isDay p3 m2) (fun r3 m3 => if r3 = 0 then (some (0, m3)) else (chk (m3.K th = 10) (ck m3 (m3.R 1003 th 0) 6 (fun a5 => cal (f_X5_open a5 r1 r2 p3 m3) (fun r4 m4 => some (1, m4))))))))))))))
set_option maxHeartbeats 4000000 in
set_option maxRecDepth 100000 in
theorem s_X9_opened_0 {Γ : GX} {E : EX} (C : Cx Γ E cX9_opened RX9 6) (hr : Γ.meth.sig.returnType = (some .boolean)) (hrm : Γ.rm = rmX9_opened) (th : Nat) (p1 : Int32) (p2 : Int32) (p3 : Int32) (m : MM) : Sm (QM Γ E emI 0 0) Γ E 6 0 0 0 [(0, va_rf (some th)), (1, .int p1), (2, .int p2), (3, .int p3)] [] m (g_X9_opened_0 th p1 p2 p3 m) := by
  unfold g_X9_opened_0
  refine z_aload_n C dX9_opened_0 rfl 0 rfl ?_
  refine z_chk (fun hk1 => ?_)
  refine z_getR C fl_RX9_10 rfl hk1 dX9_opened_1 ?_
  refine z_iload_n C dX9_opened_4 rfl 1 rfl ?_
  refine z_ck (fun a1 hr1 hk2 => ?_)
  refine z_cVR [.int p1] [] C mv_RX9_122 (fun r0 m0 h0 => M_X7_townAt _ _ _ _ _ _ _ h0) rfl rfl ⟨by rw [hrm]; exact Nat.le_of_ble_eq_true rfl, by rw [hrm]; exact Nat.le_of_ble_eq_true rfl⟩ ⟨by rw [hrm]; exact Nat.le_of_ble_eq_true rfl, by rw [hrm]; exact Nat.le_of_ble_eq_true rfl⟩ hr1 hk2 rfl rfl rfl (Nat.le_of_ble_eq_true rfl) dX9_opened_5 (fun r1 m1 => ?_)
  refine z_astore (i := 4) (L2 := [(4, va_rf r1), (0, va_rf (some th)), (1, .int p1), (2, .int p2), (3, .int p3)]) C dX9_opened_8 (by decide) rfl ?_
  refine z_aload_n C dX9_opened_10 rfl 1 rfl ?_
  refine z_chk (fun hk3 => ?_)
  refine z_getR C fl_RX9_10 rfl hk3 dX9_opened_11 ?_
  refine z_iload_n C dX9_opened_14 rfl 3 rfl ?_
  refine z_ck (fun a2 hr2 hk4 => ?_)
  refine z_cVR [.int p2] [] C mv_RX9_175 (fun r0 m0 h0 => M_X7_lawAt _ _ _ _ _ _ _ h0) rfl rfl ⟨by rw [hrm]; exact Nat.le_of_ble_eq_true rfl, by rw [hrm]; exact Nat.le_of_ble_eq_true rfl⟩ ⟨by rw [hrm]; exact Nat.le_of_ble_eq_true rfl, by rw [hrm]; exact Nat.le_of_ble_eq_true rfl⟩ hr2 hk4 rfl rfl rfl (Nat.le_of_ble_eq_true rfl) dX9_opened_15 (fun r2 m2 => ?_)
  refine z_astore (i := 5) (L2 := [(5, va_rf r2), (4, va_rf r1), (0, va_rf (some th)), (1, .int p1), (2, .int p2), (3, .int p3)]) C dX9_opened_18 (by decide) (by simp [cat_rf, cat_i, cat_l, cat_a]) ?_
  refine z_aload C dX9_opened_20 1 rfl ?_
  refine z_ifnull (tgt := 37) C dX9_opened_22 (by decide) (fun hn1 => ?_) (fun a3 ha1 => ?_)
  · refine z_iconst (v := 0) C dX9_opened_37 (by decide) ?_
    exact z_zret C hr rfl dX9_opened_38
  · refine z_aload C dX9_opened_25 0 rfl ?_
    refine z_ifnull (tgt := 37) C dX9_opened_27 (by decide) (fun hn2 => ?_) (fun a4 ha2 => ?_)
    · refine z_iconst (v := 0) C dX9_opened_37 (by decide) ?_
      exact z_zret C hr rfl dX9_opened_38
    · refine z_iload_n C dX9_opened_30 rfl 5 rfl ?_
      refine z_cSI [.int p3] [] C mv_RX9_201 (fun r0 m0 h0 => M_X9_isDay _ _ _ _ _ _ h0) rfl rfl ⟨by rw [hrm]; exact Nat.le_of_ble_eq_true rfl, by rw [hrm]; exact Nat.le_of_ble_eq_true rfl⟩ ⟨by rw [hrm]; exact Nat.le_of_ble_eq_true rfl, by rw [hrm]; exact Nat.le_of_ble_eq_true rfl⟩ rfl rfl (Nat.le_of_ble_eq_true rfl) dX9_opened_31 (fun r3 m3 => ?_)
      refine z_if_ne (tgt := 39) C dX9_opened_34 (by decide) (fun c1 => ?_) (fun c1 => ?_)
      · refine z_aload_n C dX9_opened_39 rfl 2 rfl ?_
        refine z_chk (fun hk5 => ?_)
        refine z_getR C fl_RX9_30 rfl hk5 dX9_opened_40 ?_
        refine z_aload C dX9_opened_43 1 rfl ?_
        refine z_aload C dX9_opened_45 0 rfl ?_
        refine z_iload_n C dX9_opened_47 rfl 5 rfl ?_
        refine z_ck (fun a5 hr3 hk6 => ?_)
        refine z_cVV [va_rf r1, va_rf r2, .int p3] [] C mv_RX9_227 (fun r0 m0 h0 => M_X5_open _ _ _ _ _ _ _ _ _ h0) rfl rfl ⟨by rw [hrm]; exact Nat.le_of_ble_eq_true rfl, by rw [hrm]; exact Nat.le_of_ble_eq_true rfl⟩ ⟨by rw [hrm]; exact Nat.le_of_ble_eq_true rfl, by rw [hrm]; exact Nat.le_of_ble_eq_true rfl⟩ hr3 hk6 rfl rfl rfl (Nat.le_of_ble_eq_true rfl) dX9_opened_48 (fun r4 m4 => ?_)
        refine z_iconst (v := 1) C dX9_opened_51 (by decide) ?_
        exact z_zret C hr rfl dX9_opened_52
      · refine z_iconst (v := 0) C dX9_opened_37 (by decide) ?_
        exact z_zret C hr rfl dX9_opened_38
def f_X9_opened (th : Nat) (p1 : Int32) (p2 : Int32) (p3 : Int32) (m : MM) : Option (Int32 × MM) := g_X9_opened_0 th p1 p2 p3 m
theorem M_X9_opened (l : Launch) (E : EX) (th : Nat) (p1 : Int32) (p2 : Int32) (p3 : Int32) (m : MM) (r : Int32) (m2 : MM) (h : f_X9_opened th p1 p2 p3 m = some (r, m2)) : Met l yX9_opened (.code yX9_opened cX9_opened 6 (some .boolean) :: TB) rmX9_opened (va_Pc [.ref th, .int p1, .int p2, .int p3] (St E m)) (QR E (emI r) m2) 0 0 (AA E) :=
  met_of (em := emI) (plainFor_of_name rfl) (Nat.le_of_ble_eq_true rfl) (L0 := [(0, va_rf (some th)), (1, .int p1), (2, .int p2), (3, .int p3)]) rfl (fun Γ _ hrm C hr hn => s_X9_opened_0 C hr hrm th p1 p2 p3 m) h

theorem dX9_bars_0 : decode cX9_bars 0 = .ok (.aload_n 0, 1) := by decide +kernel
theorem dX9_bars_1 : decode cX9_bars 1 = .ok (.iload_n 1, 1) := by decide +kernel
theorem dX9_bars_2 : decode cX9_bars 2 = .ok (.iload_n 2, 1) := by decide +kernel
theorem dX9_bars_3 : decode cX9_bars 3 = .ok (.iload_n 3, 1) := by decide +kernel
theorem dX9_bars_4 : decode cX9_bars 4 = .ok (.invokevirtual 247, 3) := by decide +kernel
theorem dX9_bars_7 : decode cX9_bars 7 = .ok (.ifCond .ne 5, 3) := by decide +kernel
theorem dX9_bars_10 : decode cX9_bars 10 = .ok (.iconst (-1), 1) := by decide +kernel
theorem dX9_bars_11 : decode cX9_bars 11 = .ok (.ireturn, 1) := by decide +kernel
theorem dX9_bars_12 : decode cX9_bars 12 = .ok (.aload_n 0, 1) := by decide +kernel
theorem dX9_bars_13 : decode cX9_bars 13 = .ok (.getfield 39, 3) := by decide +kernel
theorem dX9_bars_16 : decode cX9_bars 16 = .ok (.invokevirtual 251, 3) := by decide +kernel
theorem dX9_bars_19 : decode cX9_bars 19 = .ok (.aload_n 0, 1) := by decide +kernel
theorem dX9_bars_20 : decode cX9_bars 20 = .ok (.getfield 39, 3) := by decide +kernel
theorem dX9_bars_23 : decode cX9_bars 23 = .ok (.getfield 254, 3) := by decide +kernel
theorem dX9_bars_26 : decode cX9_bars 26 = .ok (.ireturn, 1) := by decide +kernel
def rmX9_bars : Room := { frames := 5, cells := 0, slots := 0, locals := 141 }
set_option maxRecDepth 100000 in
def g_X9_bars_0 (th : Nat) (p1 : Int32) (p2 : Int32) (p3 : Int32) (m : MM) : Option (Int32 × MM) :=
  chk (m.K th = 10) (cal (f_X9_opened th p1 p2 p3 m) (fun r1 m1 => if r1 = 0 then (some ((-1), m1)) else (chk (m1.K th = 10) (ck m1 (m1.R 1004 th 0) 2 (fun a1 => cal (f_X1_collect a1 m1) (fun r2 m2 => chk (m2.K th = 10) (ck m2 (m2.R 1004 th 0) 2 (fun a2 => some (m2.I 203 a2 0, m2)))))))))
set_option maxHeartbeats 4000000 in
set_option maxRecDepth 100000 in
theorem s_X9_bars_0 {Γ : GX} {E : EX} (C : Cx Γ E cX9_bars RX9 4) (hr : Γ.meth.sig.returnType = (some .int)) (hrm : Γ.rm = rmX9_bars) (th : Nat) (p1 : Int32) (p2 : Int32) (p3 : Int32) (m : MM) : Sm (QM Γ E emI 0 0) Γ E 4 0 0 0 [(0, va_rf (some th)), (1, .int p1), (2, .int p2), (3, .int p3)] [] m (g_X9_bars_0 th p1 p2 p3 m) := by
  unfold g_X9_bars_0
  refine z_aload_n C dX9_bars_0 rfl 0 rfl ?_
  refine z_iload_n C dX9_bars_1 rfl 1 rfl ?_
  refine z_iload_n C dX9_bars_2 rfl 2 rfl ?_
  refine z_iload_n C dX9_bars_3 rfl 3 rfl ?_
  refine z_chk (fun hk1 => ?_)
  refine z_cVI [.int p1, .int p2, .int p3] [] C mv_RX9_247 (fun r0 m0 h0 => M_X9_opened _ _ _ _ _ _ _ _ _ h0) rfl rfl ⟨by rw [hrm]; exact Nat.le_of_ble_eq_true rfl, by rw [hrm]; exact Nat.le_of_ble_eq_true rfl⟩ ⟨by rw [hrm]; exact Nat.le_of_ble_eq_true rfl, by rw [hrm]; exact Nat.le_of_ble_eq_true rfl⟩ rfl hk1 rfl rfl rfl (Nat.le_of_ble_eq_true rfl) dX9_bars_4 (fun r1 m1 => ?_)
  refine z_if_ne (tgt := 12) C dX9_bars_7 (by decide) (fun c1 => ?_) (fun c1 => ?_)
  · refine z_aload_n C dX9_bars_12 rfl 0 rfl ?_
    refine z_chk (fun hk2 => ?_)
    refine z_getR C fl_RX9_39 rfl hk2 dX9_bars_13 ?_
    refine z_ck (fun a1 hr1 hk3 => ?_)
    refine z_cVV [] [] C mv_RX9_251 (fun r0 m0 h0 => M_X1_collect _ _ _ _ _ _ h0) rfl rfl ⟨by rw [hrm]; exact Nat.le_of_ble_eq_true rfl, by rw [hrm]; exact Nat.le_of_ble_eq_true rfl⟩ ⟨by rw [hrm]; exact Nat.le_of_ble_eq_true rfl, by rw [hrm]; exact Nat.le_of_ble_eq_true rfl⟩ hr1 hk3 rfl rfl rfl (Nat.le_of_ble_eq_true rfl) dX9_bars_16 (fun r2 m2 => ?_)
    refine z_aload_n C dX9_bars_19 rfl 0 rfl ?_
    refine z_chk (fun hk4 => ?_)
    refine z_getR C fl_RX9_39 rfl hk4 dX9_bars_20 ?_
    refine z_ck (fun a2 hr2 hk5 => ?_)
    refine z_getI C fl_RX9_254 hr2 hk5 dX9_bars_23 ?_
    exact z_iret C hr dX9_bars_26
  · refine z_iconst (v := (-1)) C dX9_bars_10 (by decide) ?_
    exact z_iret C hr dX9_bars_11
def f_X9_bars (th : Nat) (p1 : Int32) (p2 : Int32) (p3 : Int32) (m : MM) : Option (Int32 × MM) := g_X9_bars_0 th p1 p2 p3 m
theorem M_X9_bars (l : Launch) (E : EX) (th : Nat) (p1 : Int32) (p2 : Int32) (p3 : Int32) (m : MM) (r : Int32) (m2 : MM) (h : f_X9_bars th p1 p2 p3 m = some (r, m2)) : Met l yX9_bars (.code yX9_bars cX9_bars 4 (some .int) :: TB) rmX9_bars (va_Pc [.ref th, .int p1, .int p2, .int p3] (St E m)) (QR E (emI r) m2) 0 0 (AA E) :=
  met_of (em := emI) (plainFor_of_name rfl) (Nat.le_of_ble_eq_true rfl) (L0 := [(0, va_rf (some th)), (1, .int p1), (2, .int p2), (3, .int p3)]) rfl (fun Γ _ hrm C hr hn => s_X9_bars_0 C hr hrm th p1 p2 p3 m) h

theorem dX9_bar_0 : decode cX9_bar 0 = .ok (.aload_n 0, 1) := by decide +kernel
theorem dX9_bar_1 : decode cX9_bar 1 = .ok (.iload_n 1, 1) := by decide +kernel
theorem dX9_bar_2 : decode cX9_bar 2 = .ok (.iload_n 2, 1) := by decide +kernel
theorem dX9_bar_3 : decode cX9_bar 3 = .ok (.iload_n 3, 1) := by decide +kernel
theorem dX9_bar_4 : decode cX9_bar 4 = .ok (.invokevirtual 247, 3) := by decide +kernel
theorem dX9_bar_7 : decode cX9_bar 7 = .ok (.ifCond .ne 7, 3) := by decide +kernel
theorem dX9_bar_10 : decode cX9_bar 10 = .ok (.sipush (-10000), 3) := by decide +kernel
theorem dX9_bar_13 : decode cX9_bar 13 = .ok (.ireturn, 1) := by decide +kernel
theorem dX9_bar_14 : decode cX9_bar 14 = .ok (.aload_n 0, 1) := by decide +kernel
theorem dX9_bar_15 : decode cX9_bar 15 = .ok (.getfield 39, 3) := by decide +kernel
theorem dX9_bar_18 : decode cX9_bar 18 = .ok (.invokevirtual 251, 3) := by decide +kernel
theorem dX9_bar_21 : decode cX9_bar 21 = .ok (.iload 4, 2) := by decide +kernel
theorem dX9_bar_23 : decode cX9_bar 23 = .ok (.ifCond .lt 15, 3) := by decide +kernel
theorem dX9_bar_26 : decode cX9_bar 26 = .ok (.iload 4, 2) := by decide +kernel
theorem dX9_bar_28 : decode cX9_bar 28 = .ok (.aload_n 0, 1) := by decide +kernel
theorem dX9_bar_29 : decode cX9_bar 29 = .ok (.getfield 39, 3) := by decide +kernel
theorem dX9_bar_32 : decode cX9_bar 32 = .ok (.getfield 254, 3) := by decide +kernel
theorem dX9_bar_35 : decode cX9_bar 35 = .ok (.if_icmp .lt 7, 3) := by decide +kernel
theorem dX9_bar_38 : decode cX9_bar 38 = .ok (.sipush (-10000), 3) := by decide +kernel
theorem dX9_bar_41 : decode cX9_bar 41 = .ok (.ireturn, 1) := by decide +kernel
theorem dX9_bar_42 : decode cX9_bar 42 = .ok (.iload 5, 2) := by decide +kernel
theorem dX9_bar_44 : decode cX9_bar 44 = .ok (.tableswitch 111 0 4 #[36, 46, 56, 66, 101], 36) := by decide +kernel
theorem dX9_bar_80 : decode cX9_bar 80 = .ok (.aload_n 0, 1) := by decide +kernel
theorem dX9_bar_81 : decode cX9_bar 81 = .ok (.getfield 39, 3) := by decide +kernel
theorem dX9_bar_84 : decode cX9_bar 84 = .ok (.iload 4, 2) := by decide +kernel
theorem dX9_bar_86 : decode cX9_bar 86 = .ok (.invokevirtual 255, 3) := by decide +kernel
theorem dX9_bar_89 : decode cX9_bar 89 = .ok (.ireturn, 1) := by decide +kernel
theorem dX9_bar_90 : decode cX9_bar 90 = .ok (.aload_n 0, 1) := by decide +kernel
theorem dX9_bar_91 : decode cX9_bar 91 = .ok (.getfield 39, 3) := by decide +kernel
theorem dX9_bar_94 : decode cX9_bar 94 = .ok (.iload 4, 2) := by decide +kernel
theorem dX9_bar_96 : decode cX9_bar 96 = .ok (.invokevirtual 258, 3) := by decide +kernel
theorem dX9_bar_99 : decode cX9_bar 99 = .ok (.ireturn, 1) := by decide +kernel
theorem dX9_bar_100 : decode cX9_bar 100 = .ok (.aload_n 0, 1) := by decide +kernel
theorem dX9_bar_101 : decode cX9_bar 101 = .ok (.getfield 39, 3) := by decide +kernel
theorem dX9_bar_104 : decode cX9_bar 104 = .ok (.iload 4, 2) := by decide +kernel
theorem dX9_bar_106 : decode cX9_bar 106 = .ok (.invokevirtual 261, 3) := by decide +kernel
theorem dX9_bar_109 : decode cX9_bar 109 = .ok (.ireturn, 1) := by decide +kernel
theorem dX9_bar_110 : decode cX9_bar 110 = .ok (.aload_n 0, 1) := by decide +kernel
theorem dX9_bar_111 : decode cX9_bar 111 = .ok (.getfield 30, 3) := by decide +kernel
theorem dX9_bar_114 : decode cX9_bar 114 = .ok (.aload_n 0, 1) := by decide +kernel
theorem dX9_bar_115 : decode cX9_bar 115 = .ok (.getfield 39, 3) := by decide +kernel
theorem dX9_bar_118 : decode cX9_bar 118 = .ok (.iload 4, 2) := by decide +kernel
theorem dX9_bar_120 : decode cX9_bar 120 = .ok (.invokevirtual 255, 3) := by decide +kernel
theorem dX9_bar_123 : decode cX9_bar 123 = .ok (.aload_n 0, 1) := by decide +kernel
theorem dX9_bar_124 : decode cX9_bar 124 = .ok (.getfield 39, 3) := by decide +kernel
theorem dX9_bar_127 : decode cX9_bar 127 = .ok (.iload 4, 2) := by decide +kernel
theorem dX9_bar_129 : decode cX9_bar 129 = .ok (.invokevirtual 258, 3) := by decide +kernel
theorem dX9_bar_132 : decode cX9_bar 132 = .ok (.aload_n 0, 1) := by decide +kernel
theorem dX9_bar_133 : decode cX9_bar 133 = .ok (.getfield 39, 3) := by decide +kernel
theorem dX9_bar_136 : decode cX9_bar 136 = .ok (.iload 4, 2) := by decide +kernel
theorem dX9_bar_138 : decode cX9_bar 138 = .ok (.invokevirtual 261, 3) := by decide +kernel
theorem dX9_bar_141 : decode cX9_bar 141 = .ok (.invokevirtual 264, 3) := by decide +kernel
theorem dX9_bar_144 : decode cX9_bar 144 = .ok (.ireturn, 1) := by decide +kernel
theorem dX9_bar_145 : decode cX9_bar 145 = .ok (.aload_n 0, 1) := by decide +kernel
theorem dX9_bar_146 : decode cX9_bar 146 = .ok (.getfield 39, 3) := by decide +kernel
theorem dX9_bar_149 : decode cX9_bar 149 = .ok (.iload 4, 2) := by decide +kernel
theorem dX9_bar_151 : decode cX9_bar 151 = .ok (.invokevirtual 268, 3) := by decide +kernel
theorem dX9_bar_154 : decode cX9_bar 154 = .ok (.ireturn, 1) := by decide +kernel
theorem dX9_bar_155 : decode cX9_bar 155 = .ok (.sipush (-10000), 3) := by decide +kernel
theorem dX9_bar_158 : decode cX9_bar 158 = .ok (.ireturn, 1) := by decide +kernel
def rmX9_bar : Room := { frames := 5, cells := 0, slots := 0, locals := 141 }
set_option maxRecDepth 100000 in
def g_X9_bar_0 (th : Nat) (p1 : Int32) (p2 : Int32) (p3 : Int32) (p4 : Int32) (p5 : Int32) (m : MM) : Option (Int32 × MM) :=
  chk (m.K th = 10) (cal (f_X9_opened th p1 p2 p3 m) (fun r1 m1 => if r1 = 0 then (some ((-10000), m1)) else (chk (m1.K th = 10) (ck m1 (m1.R 1004 th 0) 2 (fun a1 => cal (f_X1_collect a1 m1) (fun r2 m2 => if p4 < 0 then (some ((-10000), m2)) else (chk (m2.K th = 10) (ck m2 (m2.R 1004 th 0) 2 (fun a2 => if p4 < (m2.I 203 a2 0) then (if p5 = 0 then (cal (f_X1_firstOf a2 p4 m2) (fun r3 m3 => some (r3, m3))) else (if p5 = 1 then (cal (f_X1_secondOf a2 p4 m2) (fun r4 m4 => some (r4, m4))) else (if p5 = 2 then (cal (f_X1_ruleOf a2 p4 m2) (fun r5 m5 => some (r5, m5))) else (if p5 = 3 then (cal (f_X1_firstOf a2 p4 m2) (fun r6 m6 => chk (m6.K th = 10) (ck m6 (m6.R 1004 th 0) 2 (fun a3 => cal (f_X1_secondOf a3 p4 m6) (fun r7 m7 => chk (m7.K th = 10) (ck m7 (m7.R 1004 th 0) 2 (fun a4 => cal (f_X1_ruleOf a4 p4 m7) (fun r8 m8 => ck m8 (m2.R 1003 th 0) 6 (fun a5 => cal (f_X5_lacks a5 r6 r7 r8 m8) (fun r9 m9 => some (r9, m9))))))))))) else (if p5 = 4 then (cal (f_X1_whoGoes a2 p4 m2) (fun r10 m10 => some (r10, m10))) else (some ((-10000), m2))))))) else (some ((-10000), m2)))))))))))
set_option maxHeartbeats 4000000 in
set_option maxRecDepth 100000 in
theorem s_X9_bar_0 {Γ : GX} {E : EX} (C : Cx Γ E cX9_bar RX9 6) (hr : Γ.meth.sig.returnType = (some .int)) (hrm : Γ.rm = rmX9_bar) (th : Nat) (p1 : Int32) (p2 : Int32) (p3 : Int32) (p4 : Int32) (p5 : Int32) (m : MM) : Sm (QM Γ E emI 0 0) Γ E 6 0 0 0 [(0, va_rf (some th)), (1, .int p1), (2, .int p2), (3, .int p3), (4, .int p4), (5, .int p5)] [] m (g_X9_bar_0 th p1 p2 p3 p4 p5 m) := by
  unfold g_X9_bar_0
  refine z_aload_n C dX9_bar_0 rfl 0 rfl ?_
  refine z_iload_n C dX9_bar_1 rfl 1 rfl ?_
  refine z_iload_n C dX9_bar_2 rfl 2 rfl ?_
  refine z_iload_n C dX9_bar_3 rfl 3 rfl ?_
  refine z_chk (fun hk1 => ?_)
  refine z_cVI [.int p1, .int p2, .int p3] [] C mv_RX9_247 (fun r0 m0 h0 => M_X9_opened _ _ _ _ _ _ _ _ _ h0) rfl rfl ⟨by rw [hrm]; exact Nat.le_of_ble_eq_true rfl, by rw [hrm]; exact Nat.le_of_ble_eq_true rfl⟩ ⟨by rw [hrm]; exact Nat.le_of_ble_eq_true rfl, by rw [hrm]; exact Nat.le_of_ble_eq_true rfl⟩ rfl hk1 rfl rfl rfl (Nat.le_of_ble_eq_true rfl) dX9_bar_4 (fun r1 m1 => ?_)
  refine z_if_ne (tgt := 14) C dX9_bar_7 (by decide) (fun c1 => ?_) (fun c1 => ?_)
  · refine z_aload_n C dX9_bar_14 rfl 0 rfl ?_
    refine z_chk (fun hk2 => ?_)
    refine z_getR C fl_RX9_39 rfl hk2 dX9_bar_15 ?_
    refine z_ck (fun a1 hr1 hk3 => ?_)
    refine z_cVV [] [] C mv_RX9_251 (fun r0 m0 h0 => M_X1_collect _ _ _ _ _ _ h0) rfl rfl ⟨by rw [hrm]; exact Nat.le_of_ble_eq_true rfl, by rw [hrm]; exact Nat.le_of_ble_eq_true rfl⟩ ⟨by rw [hrm]; exact Nat.le_of_ble_eq_true rfl, by rw [hrm]; exact Nat.le_of_ble_eq_true rfl⟩ hr1 hk3 rfl rfl rfl (Nat.le_of_ble_eq_true rfl) dX9_bar_18 (fun r2 m2 => ?_)
    refine z_iload C dX9_bar_21 4 rfl ?_
    refine z_if_lt (tgt := 38) C dX9_bar_23 (by decide) (fun c2 => ?_) (fun c2 => ?_)
    · refine z_sipush (v := (-10000)) C dX9_bar_38 (by decide) ?_
      exact z_iret C hr dX9_bar_41
    · refine z_iload C dX9_bar_26 4 rfl ?_
      refine z_aload_n C dX9_bar_28 rfl 0 rfl ?_
      refine z_chk (fun hk4 => ?_)
      refine z_getR C fl_RX9_39 rfl hk4 dX9_bar_29 ?_
      refine z_ck (fun a2 hr2 hk5 => ?_)
      refine z_getI C fl_RX9_254 hr2 hk5 dX9_bar_32 ?_
      refine z_icmp_lt (tgt := 42) C dX9_bar_35 (by decide) (fun c3 => ?_) (fun c3 => ?_)
      · refine z_iload C dX9_bar_42 5 rfl ?_
        refine z_ite (fun c4 => ?_) (fun c4 => ?_)
        · refine z_tabI (v := 0) (tgt := 80) C dX9_bar_44 c4 (by decide) (by decide) (off := 36) (by decide) (by decide) ?_
          refine z_aload_n C dX9_bar_80 rfl 0 rfl ?_
          refine z_getR C fl_RX9_39 rfl hk4 dX9_bar_81 ?_
          refine z_iload C dX9_bar_84 4 rfl ?_
          refine z_cVI [.int p4] [] C mv_RX9_255 (fun r0 m0 h0 => M_X1_firstOf _ _ _ _ _ _ _ h0) rfl rfl ⟨by rw [hrm]; exact Nat.le_of_ble_eq_true rfl, by rw [hrm]; exact Nat.le_of_ble_eq_true rfl⟩ ⟨by rw [hrm]; exact Nat.le_of_ble_eq_true rfl, by rw [hrm]; exact Nat.le_of_ble_eq_true rfl⟩ hr2 hk5 rfl rfl rfl (Nat.le_of_ble_eq_true rfl) dX9_bar_86 (fun r3 m3 => ?_)
          exact z_iret C hr dX9_bar_89
        refine z_ite (fun c5 => ?_) (fun c5 => ?_)
        · refine z_tabI (v := 1) (tgt := 90) C dX9_bar_44 c5 (by decide) (by decide) (off := 46) (by decide) (by decide) ?_
          refine z_aload_n C dX9_bar_90 rfl 0 rfl ?_
          refine z_getR C fl_RX9_39 rfl hk4 dX9_bar_91 ?_
          refine z_iload C dX9_bar_94 4 rfl ?_
          refine z_cVI [.int p4] [] C mv_RX9_258 (fun r0 m0 h0 => M_X1_secondOf _ _ _ _ _ _ _ h0) rfl rfl ⟨by rw [hrm]; exact Nat.le_of_ble_eq_true rfl, by rw [hrm]; exact Nat.le_of_ble_eq_true rfl⟩ ⟨by rw [hrm]; exact Nat.le_of_ble_eq_true rfl, by rw [hrm]; exact Nat.le_of_ble_eq_true rfl⟩ hr2 hk5 rfl rfl rfl (Nat.le_of_ble_eq_true rfl) dX9_bar_96 (fun r4 m4 => ?_)
          exact z_iret C hr dX9_bar_99
        refine z_ite (fun c6 => ?_) (fun c6 => ?_)
        · refine z_tabI (v := 2) (tgt := 100) C dX9_bar_44 c6 (by decide) (by decide) (off := 56) (by decide) (by decide) ?_
          refine z_aload_n C dX9_bar_100 rfl 0 rfl ?_
          refine z_getR C fl_RX9_39 rfl hk4 dX9_bar_101 ?_
          refine z_iload C dX9_bar_104 4 rfl ?_
          refine z_cVI [.int p4] [] C mv_RX9_261 (fun r0 m0 h0 => M_X1_ruleOf _ _ _ _ _ _ _ h0) rfl rfl ⟨by rw [hrm]; exact Nat.le_of_ble_eq_true rfl, by rw [hrm]; exact Nat.le_of_ble_eq_true rfl⟩ ⟨by rw [hrm]; exact Nat.le_of_ble_eq_true rfl, by rw [hrm]; exact Nat.le_of_ble_eq_true rfl⟩ hr2 hk5 rfl rfl rfl (Nat.le_of_ble_eq_true rfl) dX9_bar_106 (fun r5 m5 => ?_)
          exact z_iret C hr dX9_bar_109
        refine z_ite (fun c7 => ?_) (fun c7 => ?_)
        · refine z_tabI (v := 3) (tgt := 110) C dX9_bar_44 c7 (by decide) (by decide) (off := 66) (by decide) (by decide) ?_
          refine z_aload_n C dX9_bar_110 rfl 0 rfl ?_
          refine z_getR C fl_RX9_30 rfl hk4 dX9_bar_111 ?_
          refine z_aload_n C dX9_bar_114 rfl 0 rfl ?_
          refine z_getR C fl_RX9_39 rfl hk4 dX9_bar_115 ?_
          refine z_iload C dX9_bar_118 4 rfl ?_
          refine z_cVI [.int p4] [va_rf (m2.R 1003 th 0)] C mv_RX9_255 (fun r0 m0 h0 => M_X1_firstOf _ _ _ _ _ _ _ h0) rfl rfl ⟨by rw [hrm]; exact Nat.le_of_ble_eq_true rfl, by rw [hrm]; exact Nat.le_of_ble_eq_true rfl⟩ ⟨by rw [hrm]; exact Nat.le_of_ble_eq_true rfl, by rw [hrm]; exact Nat.le_of_ble_eq_true rfl⟩ hr2 hk5 rfl rfl rfl (by simp [cat_rf, cat_i, cat_l, cat_a]) dX9_bar_120 (fun r6 m6 => ?_)
          refine z_aload_n C dX9_bar_123 rfl 0 rfl ?_
          refine z_chk (fun hk6 => ?_)
          refine z_getR C fl_RX9_39 rfl hk6 dX9_bar_124 ?_
          refine z_iload C dX9_bar_127 4 rfl ?_
          refine z_ck (fun a3 hr3 hk7 => ?_)
          refine z_cVI [.int p4] [.int r6, va_rf (m2.R 1003 th 0)] C mv_RX9_258 (fun r0 m0 h0 => M_X1_secondOf _ _ _ _ _ _ _ h0) rfl rfl ⟨by rw [hrm]; exact Nat.le_of_ble_eq_true rfl, by rw [hrm]; exact Nat.le_of_ble_eq_true rfl⟩ ⟨by rw [hrm]; exact Nat.le_of_ble_eq_true rfl, by rw [hrm]; exact Nat.le_of_ble_eq_true rfl⟩ hr3 hk7 rfl rfl rfl (by simp [cat_rf, cat_i, cat_l, cat_a]) dX9_bar_129 (fun r7 m7 => ?_)
          refine z_aload_n C dX9_bar_132 rfl 0 rfl ?_
          refine z_chk (fun hk8 => ?_)
          refine z_getR C fl_RX9_39 rfl hk8 dX9_bar_133 ?_
          refine z_iload C dX9_bar_136 4 rfl ?_
          refine z_ck (fun a4 hr4 hk9 => ?_)
          refine z_cVI [.int p4] [.int r7, .int r6, va_rf (m2.R 1003 th 0)] C mv_RX9_261 (fun r0 m0 h0 => M_X1_ruleOf _ _ _ _ _ _ _ h0) rfl rfl ⟨by rw [hrm]; exact Nat.le_of_ble_eq_true rfl, by rw [hrm]; exact Nat.le_of_ble_eq_true rfl⟩ ⟨by rw [hrm]; exact Nat.le_of_ble_eq_true rfl, by rw [hrm]; exact Nat.le_of_ble_eq_true rfl⟩ hr4 hk9 rfl rfl rfl (by simp [cat_rf, cat_i, cat_l, cat_a]) dX9_bar_138 (fun r8 m8 => ?_)
          refine z_ck (fun a5 hr5 hk10 => ?_)
          refine z_cVI [.int r6, .int r7, .int r8] [] C mv_RX9_264 (fun r0 m0 h0 => M_X5_lacks _ _ _ _ _ _ _ _ _ h0) rfl rfl ⟨by rw [hrm]; exact Nat.le_of_ble_eq_true rfl, by rw [hrm]; exact Nat.le_of_ble_eq_true rfl⟩ ⟨by rw [hrm]; exact Nat.le_of_ble_eq_true rfl, by rw [hrm]; exact Nat.le_of_ble_eq_true rfl⟩ hr5 hk10 rfl rfl rfl (Nat.le_of_ble_eq_true rfl) dX9_bar_141 (fun r9 m9 => ?_)
          exact z_iret C hr dX9_bar_144
        refine z_ite (fun c8 => ?_) (fun c8 => ?_)
        · refine z_tabI (v := 4) (tgt := 145) C dX9_bar_44 c8 (by decide) (by decide) (off := 101) (by decide) (by decide) ?_
          refine z_aload_n C dX9_bar_145 rfl 0 rfl ?_
          refine z_getR C fl_RX9_39 rfl hk4 dX9_bar_146 ?_
          refine z_iload C dX9_bar_149 4 rfl ?_
          refine z_cVI [.int p4] [] C mv_RX9_268 (fun r0 m0 h0 => M_X1_whoGoes _ _ _ _ _ _ _ h0) rfl rfl ⟨by rw [hrm]; exact Nat.le_of_ble_eq_true rfl, by rw [hrm]; exact Nat.le_of_ble_eq_true rfl⟩ ⟨by rw [hrm]; exact Nat.le_of_ble_eq_true rfl, by rw [hrm]; exact Nat.le_of_ble_eq_true rfl⟩ hr2 hk5 rfl rfl rfl (Nat.le_of_ble_eq_true rfl) dX9_bar_151 (fun r10 m10 => ?_)
          exact z_iret C hr dX9_bar_154
        refine z_tabO (tgt := 155) C dX9_bar_44 (by have qc4 := ne_int (n := 0) c4 (by decide); have qc5 := ne_int (n := 1) c5 (by decide); have qc6 := ne_int (n := 2) c6 (by decide); have qc7 := ne_int (n := 3) c7 (by decide); have qc8 := ne_int (n := 4) c8 (by decide); omega) (by decide) ?_
        refine z_sipush (v := (-10000)) C dX9_bar_155 (by decide) ?_
        exact z_iret C hr dX9_bar_158
      · refine z_sipush (v := (-10000)) C dX9_bar_38 (by decide) ?_
        exact z_iret C hr dX9_bar_41
  · refine z_sipush (v := (-10000)) C dX9_bar_10 (by decide) ?_
    exact z_iret C hr dX9_bar_13
def f_X9_bar (th : Nat) (p1 : Int32) (p2 : Int32) (p3 : Int32) (p4 : Int32) (p5 : Int32) (m : MM) : Option (Int32 × MM) := g_X9_bar_0 th p1 p2 p3 p4 p5 m
theorem M_X9_bar (l : Launch) (E : EX) (th : Nat) (p1 : Int32) (p2 : Int32) (p3 : Int32) (p4 : Int32) (p5 : Int32) (m : MM) (r : Int32) (m2 : MM) (h : f_X9_bar th p1 p2 p3 p4 p5 m = some (r, m2)) : Met l yX9_bar (.code yX9_bar cX9_bar 6 (some .int) :: TB) rmX9_bar (va_Pc [.ref th, .int p1, .int p2, .int p3, .int p4, .int p5] (St E m)) (QR E (emI r) m2) 0 0 (AA E) :=
  met_of (em := emI) (plainFor_of_name rfl) (Nat.le_of_ble_eq_true rfl) (L0 := [(0, va_rf (some th)), (1, .int p1), (2, .int p2), (3, .int p3), (4, .int p4), (5, .int p5)]) rfl (fun Γ _ hrm C hr hn => s_X9_bar_0 C hr hrm th p1 p2 p3 p4 p5 m) h

theorem dX9_goes_0 : decode cX9_goes 0 = .ok (.aload_n 0, 1) := by decide +kernel
theorem dX9_goes_1 : decode cX9_goes 1 = .ok (.iload_n 1, 1) := by decide +kernel
theorem dX9_goes_2 : decode cX9_goes 2 = .ok (.iload_n 2, 1) := by decide +kernel
theorem dX9_goes_3 : decode cX9_goes 3 = .ok (.iload_n 3, 1) := by decide +kernel
theorem dX9_goes_4 : decode cX9_goes 4 = .ok (.invokevirtual 247, 3) := by decide +kernel
theorem dX9_goes_7 : decode cX9_goes 7 = .ok (.ifCond .ne 5, 3) := by decide +kernel
theorem dX9_goes_10 : decode cX9_goes 10 = .ok (.iconst (-1), 1) := by decide +kernel
theorem dX9_goes_11 : decode cX9_goes 11 = .ok (.ireturn, 1) := by decide +kernel
theorem dX9_goes_12 : decode cX9_goes 12 = .ok (.aload_n 0, 1) := by decide +kernel
theorem dX9_goes_13 : decode cX9_goes 13 = .ok (.getfield 39, 3) := by decide +kernel
theorem dX9_goes_16 : decode cX9_goes 16 = .ok (.invokevirtual 251, 3) := by decide +kernel
theorem dX9_goes_19 : decode cX9_goes 19 = .ok (.iconst 0, 1) := by decide +kernel
theorem dX9_goes_20 : decode cX9_goes 20 = .ok (.istore 4, 2) := by decide +kernel
theorem dX9_goes_22 : decode cX9_goes 22 = .ok (.iconst 0, 1) := by decide +kernel
theorem dX9_goes_23 : decode cX9_goes 23 = .ok (.istore 5, 2) := by decide +kernel
theorem dX9_goes_25 : decode cX9_goes 25 = .ok (.iload 5, 2) := by decide +kernel
theorem dX9_goes_27 : decode cX9_goes 27 = .ok (.aload_n 0, 1) := by decide +kernel
theorem dX9_goes_28 : decode cX9_goes 28 = .ok (.getfield 39, 3) := by decide +kernel
theorem dX9_goes_31 : decode cX9_goes 31 = .ok (.getfield 254, 3) := by decide +kernel
theorem dX9_goes_34 : decode cX9_goes 34 = .ok (.if_icmp .ge 35, 3) := by decide +kernel
theorem dX9_goes_37 : decode cX9_goes 37 = .ok (.aload_n 0, 1) := by decide +kernel
theorem dX9_goes_38 : decode cX9_goes 38 = .ok (.getfield 39, 3) := by decide +kernel
theorem dX9_goes_41 : decode cX9_goes 41 = .ok (.iload 5, 2) := by decide +kernel
theorem dX9_goes_43 : decode cX9_goes 43 = .ok (.invokevirtual 268, 3) := by decide +kernel
theorem dX9_goes_46 : decode cX9_goes 46 = .ok (.istore 6, 2) := by decide +kernel
theorem dX9_goes_48 : decode cX9_goes 48 = .ok (.iload 6, 2) := by decide +kernel
theorem dX9_goes_50 : decode cX9_goes 50 = .ok (.iconst (-1), 1) := by decide +kernel
theorem dX9_goes_51 : decode cX9_goes 51 = .ok (.if_icmp .eq 12, 3) := by decide +kernel
theorem dX9_goes_54 : decode cX9_goes 54 = .ok (.iload 4, 2) := by decide +kernel
theorem dX9_goes_56 : decode cX9_goes 56 = .ok (.iconst 1, 1) := by decide +kernel
theorem dX9_goes_57 : decode cX9_goes 57 = .ok (.iload 6, 2) := by decide +kernel
theorem dX9_goes_59 : decode cX9_goes 59 = .ok (.ishl, 1) := by decide +kernel
theorem dX9_goes_60 : decode cX9_goes 60 = .ok (.ior, 1) := by decide +kernel
theorem dX9_goes_61 : decode cX9_goes 61 = .ok (.istore 4, 2) := by decide +kernel
theorem dX9_goes_63 : decode cX9_goes 63 = .ok (.iinc 5 1, 3) := by decide +kernel
theorem dX9_goes_66 : decode cX9_goes 66 = .ok (.goto (-41), 3) := by decide +kernel
theorem dX9_goes_69 : decode cX9_goes 69 = .ok (.iload 4, 2) := by decide +kernel
theorem dX9_goes_71 : decode cX9_goes 71 = .ok (.ireturn, 1) := by decide +kernel
def rmX9_goes : Room := { frames := 5, cells := 0, slots := 0, locals := 141 }
set_option maxRecDepth 100000 in
def g_X9_goes_63 (th : Nat) (p1 : Int32) (p2 : Int32) (p3 : Int32) (k25 : Int32 → Int32 → MM → Option (Int32 × MM)) (x4 : Int32) (x5 : Int32) (m : MM) : Option (Int32 × MM) :=
  k25 x4 (x5 + 1) m
set_option maxHeartbeats 4000000 in
set_option maxRecDepth 100000 in
theorem s_X9_goes_63 {Γ : GX} {E : EX} (C : Cx Γ E cX9_goes RX9 7) (hr : Γ.meth.sig.returnType = (some .int)) (hrm : Γ.rm = rmX9_goes) (th : Nat) (p1 : Int32) (p2 : Int32) (p3 : Int32) (k25 : Int32 → Int32 → MM → Option (Int32 × MM)) (h25 : ∀ (x4 : Int32) (x5 : Int32) (m : MM), Sm (QM Γ E emI 0 0) Γ E 7 0 0 25 [(0, va_rf (some th)), (1, .int p1), (2, .int p2), (3, .int p3), (4, .int x4), (5, .int x5)] [] m (k25 x4 x5 m)) (x4 : Int32) (x5 : Int32) (m : MM) : Sm (QM Γ E emI 0 0) Γ E 7 0 0 63 [(0, va_rf (some th)), (1, .int p1), (2, .int p2), (3, .int p3), (4, .int x4), (5, .int x5)] [] m (g_X9_goes_63 th p1 p2 p3 k25 x4 x5 m) := by
  unfold g_X9_goes_63
  refine z_iinc (v := 1) (L2 := [(5, .int (x5 + 1)), (0, va_rf (some th)), (1, .int p1), (2, .int p2), (3, .int p3), (4, .int x4)]) C dX9_goes_63 5 rfl (by decide) (by decide) rfl ?_
  refine z_goto (tgt := 25) C dX9_goes_66 (by decide) ?_
  exact z_sub [1, 2, 3, 4, 5, 0] rfl (h25 x4 (x5 + 1) m)
set_option maxRecDepth 100000 in
def g_X9_goes_25 (th : Nat) (p1 : Int32) (p2 : Int32) (p3 : Int32) (k25 : Int32 → Int32 → MM → Option (Int32 × MM)) (x4 : Int32) (x5 : Int32) (m : MM) : Option (Int32 × MM) :=
  chk (m.K th = 10) (ck m (m.R 1004 th 0) 2 (fun a1 => if (m.I 203 a1 0) ≤ x5 then (some (x4, m)) else (cal (f_X1_whoGoes a1 x5 m) (fun r1 m1 => if r1 = (-1) then (g_X9_goes_63 th p1 p2 p3 k25 x4 x5 m1) else (bnd (x4 ||| (1 <<< (r1 &&& 31))) (fun y1 => g_X9_goes_63 th p1 p2 p3 k25 y1 x5 m1))))))
set_option maxHeartbeats 4000000 in
set_option maxRecDepth 100000 in
theorem s_X9_goes_25 {Γ : GX} {E : EX} (C : Cx Γ E cX9_goes RX9 7) (hr : Γ.meth.sig.returnType = (some .int)) (hrm : Γ.rm = rmX9_goes) (th : Nat) (p1 : Int32) (p2 : Int32) (p3 : Int32) (k25 : Int32 → Int32 → MM → Option (Int32 × MM)) (h25 : ∀ (x4 : Int32) (x5 : Int32) (m : MM), Sm (QM Γ E emI 0 0) Γ E 7 0 0 25 [(0, va_rf (some th)), (1, .int p1), (2, .int p2), (3, .int p3), (4, .int x4), (5, .int x5)] [] m (k25 x4 x5 m)) (x4 : Int32) (x5 : Int32) (m : MM) : Sm (QM Γ E emI 0 0) Γ E 7 0 0 25 [(0, va_rf (some th)), (1, .int p1), (2, .int p2), (3, .int p3), (4, .int x4), (5, .int x5)] [] m (g_X9_goes_25 th p1 p2 p3 k25 x4 x5 m) := by
  unfold g_X9_goes_25
  refine z_iload C dX9_goes_25 5 rfl ?_
  refine z_aload_n C dX9_goes_27 rfl 0 rfl ?_
  refine z_chk (fun hk1 => ?_)
  refine z_getR C fl_RX9_39 rfl hk1 dX9_goes_28 ?_
  refine z_ck (fun a1 hr1 hk2 => ?_)
  refine z_getI C fl_RX9_254 hr1 hk2 dX9_goes_31 ?_
  refine z_icmp_ge (tgt := 69) C dX9_goes_34 (by decide) (fun c1 => ?_) (fun c1 => ?_)
  · refine z_iload C dX9_goes_69 4 rfl ?_
    exact z_iret C hr dX9_goes_71
  · refine z_aload_n C dX9_goes_37 rfl 0 rfl ?_
    refine z_getR C fl_RX9_39 rfl hk1 dX9_goes_38 ?_
    refine z_iload C dX9_goes_41 5 rfl ?_
    refine z_cVI [.int x5] [] C mv_RX9_268 (fun r0 m0 h0 => M_X1_whoGoes _ _ _ _ _ _ _ h0) rfl rfl ⟨by rw [hrm]; exact Nat.le_of_ble_eq_true rfl, by rw [hrm]; exact Nat.le_of_ble_eq_true rfl⟩ ⟨by rw [hrm]; exact Nat.le_of_ble_eq_true rfl, by rw [hrm]; exact Nat.le_of_ble_eq_true rfl⟩ hr1 hk2 rfl rfl rfl (Nat.le_of_ble_eq_true rfl) dX9_goes_43 (fun r1 m1 => ?_)
    refine z_istore (i := 6) (L2 := [(6, .int r1), (0, va_rf (some th)), (1, .int p1), (2, .int p2), (3, .int p3), (4, .int x4), (5, .int x5)]) C dX9_goes_46 (by decide) rfl ?_
    refine z_iload C dX9_goes_48 0 rfl ?_
    refine z_iconst (v := (-1)) C dX9_goes_50 (by decide) ?_
    refine z_icmp_eq (tgt := 63) C dX9_goes_51 (by decide) (fun c2 => ?_) (fun c2 => ?_)
    · exact z_sub [1, 2, 3, 4, 5, 6] rfl (s_X9_goes_63 C hr hrm th p1 p2 p3 k25 h25 x4 x5 m1)
    · refine z_iload C dX9_goes_54 5 rfl ?_
      refine z_iconst (v := 1) C dX9_goes_56 (by decide) ?_
      refine z_iload C dX9_goes_57 0 rfl ?_
      refine z_ishl C dX9_goes_59 ?_
      refine z_ior C dX9_goes_60 ?_
      refine z_bndI (fun y1 => ?_)
      refine z_istore (i := 4) (L2 := [(4, .int y1), (6, .int r1), (0, va_rf (some th)), (1, .int p1), (2, .int p2), (3, .int p3), (5, .int x5)]) C dX9_goes_61 (by decide) rfl ?_
      exact z_sub [2, 3, 4, 5, 0, 6] rfl (s_X9_goes_63 C hr hrm th p1 p2 p3 k25 h25 y1 x5 m1)
def l_X9_goes_25 (th : Nat) (p1 : Int32) (p2 : Int32) (p3 : Int32) : Nat → Int32 → Int32 → MM → Option (Int32 × MM) := lp (fun _ _ _ => none) (fun k25 => g_X9_goes_25 th p1 p2 p3 k25)
theorem t_X9_goes_25 {Γ : GX} {E : EX} (C : Cx Γ E cX9_goes RX9 7) (hr : Γ.meth.sig.returnType = (some .int)) (hrm : Γ.rm = rmX9_goes) (th : Nat) (p1 : Int32) (p2 : Int32) (p3 : Int32) : ∀ (n : Nat) (x4 : Int32) (x5 : Int32) (m : MM), Sm (QM Γ E emI 0 0) Γ E 7 0 0 25 [(0, va_rf (some th)), (1, .int p1), (2, .int p2), (3, .int p3), (4, .int x4), (5, .int x5)] [] m (l_X9_goes_25 th p1 p2 p3 n x4 x5 m) := by
  intro n
  induction n with
  | zero => intros; exact z_none
  | succ n ih => intro x4 x5 m; exact s_X9_goes_25 C hr hrm th p1 p2 p3 (l_X9_goes_25 th p1 p2 p3 n) ih x4 x5 m
set_option maxRecDepth 100000 in
def g_X9_goes_0 (th : Nat) (p1 : Int32) (p2 : Int32) (p3 : Int32) (m : MM) : Option (Int32 × MM) :=
  chk (m.K th = 10) (cal (f_X9_opened th p1 p2 p3 m) (fun r2 m2 => if r2 = 0 then (some ((-1), m2)) else (chk (m2.K th = 10) (ck m2 (m2.R 1004 th 0) 2 (fun a2 => cal (f_X1_collect a2 m2) (fun r3 m3 => l_X9_goes_25 th p1 p2 p3 FU 0 0 m3))))))
set_option maxHeartbeats 4000000 in
set_option maxRecDepth 100000 in
theorem s_X9_goes_0 {Γ : GX} {E : EX} (C : Cx Γ E cX9_goes RX9 7) (hr : Γ.meth.sig.returnType = (some .int)) (hrm : Γ.rm = rmX9_goes) (th : Nat) (p1 : Int32) (p2 : Int32) (p3 : Int32) (m : MM) : Sm (QM Γ E emI 0 0) Γ E 7 0 0 0 [(0, va_rf (some th)), (1, .int p1), (2, .int p2), (3, .int p3)] [] m (g_X9_goes_0 th p1 p2 p3 m) := by
  unfold g_X9_goes_0
  refine z_aload_n C dX9_goes_0 rfl 0 rfl ?_
  refine z_iload_n C dX9_goes_1 rfl 1 rfl ?_
  refine z_iload_n C dX9_goes_2 rfl 2 rfl ?_
  refine z_iload_n C dX9_goes_3 rfl 3 rfl ?_
  refine z_chk (fun hk3 => ?_)
  refine z_cVI [.int p1, .int p2, .int p3] [] C mv_RX9_247 (fun r0 m0 h0 => M_X9_opened _ _ _ _ _ _ _ _ _ h0) rfl rfl ⟨by rw [hrm]; exact Nat.le_of_ble_eq_true rfl, by rw [hrm]; exact Nat.le_of_ble_eq_true rfl⟩ ⟨by rw [hrm]; exact Nat.le_of_ble_eq_true rfl, by rw [hrm]; exact Nat.le_of_ble_eq_true rfl⟩ rfl hk3 rfl rfl rfl (Nat.le_of_ble_eq_true rfl) dX9_goes_4 (fun r2 m2 => ?_)
  refine z_if_ne (tgt := 12) C dX9_goes_7 (by decide) (fun c3 => ?_) (fun c3 => ?_)
  · refine z_aload_n C dX9_goes_12 rfl 0 rfl ?_
    refine z_chk (fun hk4 => ?_)
    refine z_getR C fl_RX9_39 rfl hk4 dX9_goes_13 ?_
    refine z_ck (fun a2 hr2 hk5 => ?_)
    refine z_cVV [] [] C mv_RX9_251 (fun r0 m0 h0 => M_X1_collect _ _ _ _ _ _ h0) rfl rfl ⟨by rw [hrm]; exact Nat.le_of_ble_eq_true rfl, by rw [hrm]; exact Nat.le_of_ble_eq_true rfl⟩ ⟨by rw [hrm]; exact Nat.le_of_ble_eq_true rfl, by rw [hrm]; exact Nat.le_of_ble_eq_true rfl⟩ hr2 hk5 rfl rfl rfl (Nat.le_of_ble_eq_true rfl) dX9_goes_16 (fun r3 m3 => ?_)
    refine z_iconst (v := 0) C dX9_goes_19 (by decide) ?_
    refine z_istore (i := 4) (L2 := [(4, .int 0), (0, va_rf (some th)), (1, .int p1), (2, .int p2), (3, .int p3)]) C dX9_goes_20 (by decide) rfl ?_
    refine z_iconst (v := 0) C dX9_goes_22 (by decide) ?_
    refine z_istore (i := 5) (L2 := [(5, .int 0), (4, .int 0), (0, va_rf (some th)), (1, .int p1), (2, .int p2), (3, .int p3)]) C dX9_goes_23 (by decide) rfl ?_
    exact z_sub [2, 3, 4, 5, 1, 0] rfl (t_X9_goes_25 C hr hrm th p1 p2 p3 FU 0 0 m3)
  · refine z_iconst (v := (-1)) C dX9_goes_10 (by decide) ?_
    exact z_iret C hr dX9_goes_11
def f_X9_goes (th : Nat) (p1 : Int32) (p2 : Int32) (p3 : Int32) (m : MM) : Option (Int32 × MM) := g_X9_goes_0 th p1 p2 p3 m
theorem M_X9_goes (l : Launch) (E : EX) (th : Nat) (p1 : Int32) (p2 : Int32) (p3 : Int32) (m : MM) (r : Int32) (m2 : MM) (h : f_X9_goes th p1 p2 p3 m = some (r, m2)) : Met l yX9_goes (.code yX9_goes cX9_goes 7 (some .int) :: TB) rmX9_goes (va_Pc [.ref th, .int p1, .int p2, .int p3] (St E m)) (QR E (emI r) m2) 0 0 (AA E) :=
  met_of (em := emI) (plainFor_of_name rfl) (Nat.le_of_ble_eq_true rfl) (L0 := [(0, va_rf (some th)), (1, .int p1), (2, .int p2), (3, .int p3)]) rfl (fun Γ _ hrm C hr hn => s_X9_goes_0 C hr hrm th p1 p2 p3 m) h

theorem dX9_pays_0 : decode cX9_pays 0 = .ok (.iload 4, 2) := by decide +kernel
theorem dX9_pays_2 : decode cX9_pays 2 = .ok (.invokestatic 198, 3) := by decide +kernel
theorem dX9_pays_5 : decode cX9_pays 5 = .ok (.ifCond .eq 13, 3) := by decide +kernel
theorem dX9_pays_8 : decode cX9_pays 8 = .ok (.aload_n 0, 1) := by decide +kernel
theorem dX9_pays_9 : decode cX9_pays 9 = .ok (.iload_n 1, 1) := by decide +kernel
theorem dX9_pays_10 : decode cX9_pays 10 = .ok (.iload_n 2, 1) := by decide +kernel
theorem dX9_pays_11 : decode cX9_pays 11 = .ok (.iload_n 3, 1) := by decide +kernel
theorem dX9_pays_12 : decode cX9_pays 12 = .ok (.invokevirtual 247, 3) := by decide +kernel
theorem dX9_pays_15 : decode cX9_pays 15 = .ok (.ifCond .ne 5, 3) := by decide +kernel
theorem dX9_pays_18 : decode cX9_pays 18 = .ok (.iconst (-1), 1) := by decide +kernel
theorem dX9_pays_19 : decode cX9_pays 19 = .ok (.ireturn, 1) := by decide +kernel
theorem dX9_pays_20 : decode cX9_pays 20 = .ok (.aload_n 0, 1) := by decide +kernel
theorem dX9_pays_21 : decode cX9_pays 21 = .ok (.getfield 39, 3) := by decide +kernel
theorem dX9_pays_24 : decode cX9_pays 24 = .ok (.invokevirtual 251, 3) := by decide +kernel
theorem dX9_pays_27 : decode cX9_pays 27 = .ok (.iconst 0, 1) := by decide +kernel
theorem dX9_pays_28 : decode cX9_pays 28 = .ok (.istore 5, 2) := by decide +kernel
theorem dX9_pays_30 : decode cX9_pays 30 = .ok (.iconst 0, 1) := by decide +kernel
theorem dX9_pays_31 : decode cX9_pays 31 = .ok (.istore 6, 2) := by decide +kernel
theorem dX9_pays_33 : decode cX9_pays 33 = .ok (.iconst 0, 1) := by decide +kernel
theorem dX9_pays_34 : decode cX9_pays 34 = .ok (.istore 7, 2) := by decide +kernel
theorem dX9_pays_36 : decode cX9_pays 36 = .ok (.iload 7, 2) := by decide +kernel
theorem dX9_pays_38 : decode cX9_pays 38 = .ok (.aload_n 0, 1) := by decide +kernel
theorem dX9_pays_39 : decode cX9_pays 39 = .ok (.getfield 39, 3) := by decide +kernel
theorem dX9_pays_42 : decode cX9_pays 42 = .ok (.getfield 254, 3) := by decide +kernel
theorem dX9_pays_45 : decode cX9_pays 45 = .ok (.if_icmp .ge 80, 3) := by decide +kernel
theorem dX9_pays_48 : decode cX9_pays 48 = .ok (.aload_n 0, 1) := by decide +kernel
theorem dX9_pays_49 : decode cX9_pays 49 = .ok (.getfield 39, 3) := by decide +kernel
theorem dX9_pays_52 : decode cX9_pays 52 = .ok (.iload 7, 2) := by decide +kernel
theorem dX9_pays_54 : decode cX9_pays 54 = .ok (.invokevirtual 268, 3) := by decide +kernel
theorem dX9_pays_57 : decode cX9_pays 57 = .ok (.istore 8, 2) := by decide +kernel
theorem dX9_pays_59 : decode cX9_pays 59 = .ok (.iload 8, 2) := by decide +kernel
theorem dX9_pays_61 : decode cX9_pays 61 = .ok (.iconst (-1), 1) := by decide +kernel
theorem dX9_pays_62 : decode cX9_pays 62 = .ok (.if_icmp .eq 57, 3) := by decide +kernel
theorem dX9_pays_65 : decode cX9_pays 65 = .ok (.iload 6, 2) := by decide +kernel
theorem dX9_pays_67 : decode cX9_pays 67 = .ok (.iload 8, 2) := by decide +kernel
theorem dX9_pays_69 : decode cX9_pays 69 = .ok (.ishr, 1) := by decide +kernel
theorem dX9_pays_70 : decode cX9_pays 70 = .ok (.iconst 1, 1) := by decide +kernel
theorem dX9_pays_71 : decode cX9_pays 71 = .ok (.iand, 1) := by decide +kernel
theorem dX9_pays_72 : decode cX9_pays 72 = .ok (.ifCond .eq 6, 3) := by decide +kernel
theorem dX9_pays_75 : decode cX9_pays 75 = .ok (.goto 44, 3) := by decide +kernel
theorem dX9_pays_78 : decode cX9_pays 78 = .ok (.iload 6, 2) := by decide +kernel
theorem dX9_pays_80 : decode cX9_pays 80 = .ok (.iconst 1, 1) := by decide +kernel
theorem dX9_pays_81 : decode cX9_pays 81 = .ok (.iload 8, 2) := by decide +kernel
theorem dX9_pays_83 : decode cX9_pays 83 = .ok (.ishl, 1) := by decide +kernel
theorem dX9_pays_84 : decode cX9_pays 84 = .ok (.ior, 1) := by decide +kernel
theorem dX9_pays_85 : decode cX9_pays 85 = .ok (.istore 6, 2) := by decide +kernel
theorem dX9_pays_87 : decode cX9_pays 87 = .ok (.aload_n 0, 1) := by decide +kernel
theorem dX9_pays_88 : decode cX9_pays 88 = .ok (.getfield 39, 3) := by decide +kernel
theorem dX9_pays_91 : decode cX9_pays 91 = .ok (.iload 7, 2) := by decide +kernel
theorem dX9_pays_93 : decode cX9_pays 93 = .ok (.iload 8, 2) := by decide +kernel
theorem dX9_pays_95 : decode cX9_pays 95 = .ok (.invokevirtual 271, 3) := by decide +kernel
theorem dX9_pays_98 : decode cX9_pays 98 = .ok (.iload 4, 2) := by decide +kernel
theorem dX9_pays_100 : decode cX9_pays 100 = .ok (.if_icmp .ne 19, 3) := by decide +kernel
theorem dX9_pays_103 : decode cX9_pays 103 = .ok (.iload 5, 2) := by decide +kernel
theorem dX9_pays_105 : decode cX9_pays 105 = .ok (.aload_n 0, 1) := by decide +kernel
theorem dX9_pays_106 : decode cX9_pays 106 = .ok (.getfield 30, 3) := by decide +kernel
theorem dX9_pays_109 : decode cX9_pays 109 = .ok (.iload 8, 2) := by decide +kernel
theorem dX9_pays_111 : decode cX9_pays 111 = .ok (.bipush 6, 2) := by decide +kernel
theorem dX9_pays_113 : decode cX9_pays 113 = .ok (.invokevirtual 274, 3) := by decide +kernel
theorem dX9_pays_116 : decode cX9_pays 116 = .ok (.iadd, 1) := by decide +kernel
theorem dX9_pays_117 : decode cX9_pays 117 = .ok (.istore 5, 2) := by decide +kernel
theorem dX9_pays_119 : decode cX9_pays 119 = .ok (.iinc 7 1, 3) := by decide +kernel
theorem dX9_pays_122 : decode cX9_pays 122 = .ok (.goto (-86), 3) := by decide +kernel
theorem dX9_pays_125 : decode cX9_pays 125 = .ok (.iload 5, 2) := by decide +kernel
theorem dX9_pays_127 : decode cX9_pays 127 = .ok (.ireturn, 1) := by decide +kernel
def rmX9_pays : Room := { frames := 5, cells := 0, slots := 0, locals := 141 }
set_option maxRecDepth 100000 in
def g_X9_pays_119 (th : Nat) (p1 : Int32) (p2 : Int32) (p3 : Int32) (p4 : Int32) (k36 : Int32 → Int32 → Int32 → MM → Option (Int32 × MM)) (x5 : Int32) (x6 : Int32) (x7 : Int32) (m : MM) : Option (Int32 × MM) :=
  k36 x5 x6 (x7 + 1) m
set_option maxHeartbeats 4000000 in
set_option maxRecDepth 100000 in
theorem s_X9_pays_119 {Γ : GX} {E : EX} (C : Cx Γ E cX9_pays RX9 9) (hr : Γ.meth.sig.returnType = (some .int)) (hrm : Γ.rm = rmX9_pays) (th : Nat) (p1 : Int32) (p2 : Int32) (p3 : Int32) (p4 : Int32) (k36 : Int32 → Int32 → Int32 → MM → Option (Int32 × MM)) (h36 : ∀ (x5 : Int32) (x6 : Int32) (x7 : Int32) (m : MM), Sm (QM Γ E emI 0 0) Γ E 9 0 0 36 [(0, va_rf (some th)), (1, .int p1), (2, .int p2), (3, .int p3), (4, .int p4), (5, .int x5), (6, .int x6), (7, .int x7)] [] m (k36 x5 x6 x7 m)) (x5 : Int32) (x6 : Int32) (x7 : Int32) (m : MM) : Sm (QM Γ E emI 0 0) Γ E 9 0 0 119 [(0, va_rf (some th)), (1, .int p1), (2, .int p2), (3, .int p3), (4, .int p4), (5, .int x5), (6, .int x6), (7, .int x7)] [] m (g_X9_pays_119 th p1 p2 p3 p4 k36 x5 x6 x7 m) := by
  unfold g_X9_pays_119
  refine z_iinc (v := 1) (L2 := [(7, .int (x7 + 1)), (0, va_rf (some th)), (1, .int p1), (2, .int p2), (3, .int p3), (4, .int p4), (5, .int x5), (6, .int x6)]) C dX9_pays_119 7 rfl (by decide) (by decide) rfl ?_
  refine z_goto (tgt := 36) C dX9_pays_122 (by decide) ?_
  exact z_sub [1, 2, 3, 4, 5, 6, 7, 0] rfl (h36 x5 x6 (x7 + 1) m)
set_option maxRecDepth 100000 in
def g_X9_pays_36 (th : Nat) (p1 : Int32) (p2 : Int32) (p3 : Int32) (p4 : Int32) (k36 : Int32 → Int32 → Int32 → MM → Option (Int32 × MM)) (x5 : Int32) (x6 : Int32) (x7 : Int32) (m : MM) : Option (Int32 × MM) :=
  chk (m.K th = 10) (ck m (m.R 1004 th 0) 2 (fun a1 => if (m.I 203 a1 0) ≤ x7 then (some (x5, m)) else (cal (f_X1_whoGoes a1 x7 m) (fun r1 m1 => if r1 = (-1) then (g_X9_pays_119 th p1 p2 p3 p4 k36 x5 x6 x7 m1) else (if ((x6 >>> (r1 &&& 31)) &&& 1) = 0 then (bnd (x6 ||| (1 <<< (r1 &&& 31))) (fun y1 => chk (m1.K th = 10) (ck m1 (m1.R 1004 th 0) 2 (fun a2 => cal (f_X1_payer a2 x7 r1 m1) (fun r2 m2 => if r2 = p4 then (chk (m2.K th = 10) (ck m2 (m2.R 1003 th 0) 6 (fun a3 => cal (f_X5_ofThing a3 r1 6 m2) (fun r3 m3 => bnd (x5 + r3) (fun y2 => g_X9_pays_119 th p1 p2 p3 p4 k36 y2 y1 x7 m3))))) else (g_X9_pays_119 th p1 p2 p3 p4 k36 x5 y1 x7 m2)))))) else (g_X9_pays_119 th p1 p2 p3 p4 k36 x5 x6 x7 m1))))))
set_option maxHeartbeats 4000000 in
set_option maxRecDepth 100000 in
theorem s_X9_pays_36 {Γ : GX} {E : EX} (C : Cx Γ E cX9_pays RX9 9) (hr : Γ.meth.sig.returnType = (some .int)) (hrm : Γ.rm = rmX9_pays) (th : Nat) (p1 : Int32) (p2 : Int32) (p3 : Int32) (p4 : Int32) (k36 : Int32 → Int32 → Int32 → MM → Option (Int32 × MM)) (h36 : ∀ (x5 : Int32) (x6 : Int32) (x7 : Int32) (m : MM), Sm (QM Γ E emI 0 0) Γ E 9 0 0 36 [(0, va_rf (some th)), (1, .int p1), (2, .int p2), (3, .int p3), (4, .int p4), (5, .int x5), (6, .int x6), (7, .int x7)] [] m (k36 x5 x6 x7 m)) (x5 : Int32) (x6 : Int32) (x7 : Int32) (m : MM) : Sm (QM Γ E emI 0 0) Γ E 9 0 0 36 [(0, va_rf (some th)), (1, .int p1), (2, .int p2), (3, .int p3), (4, .int p4), (5, .int x5), (6, .int x6), (7, .int x7)] [] m (g_X9_pays_36 th p1 p2 p3 p4 k36 x5 x6 x7 m) := by
  unfold g_X9_pays_36
  refine z_iload C dX9_pays_36 7 rfl ?_
  refine z_aload_n C dX9_pays_38 rfl 0 rfl ?_
  refine z_chk (fun hk1 => ?_)
  refine z_getR C fl_RX9_39 rfl hk1 dX9_pays_39 ?_
  refine z_ck (fun a1 hr1 hk2 => ?_)
  refine z_getI C fl_RX9_254 hr1 hk2 dX9_pays_42 ?_
  refine z_icmp_ge (tgt := 125) C dX9_pays_45 (by decide) (fun c1 => ?_) (fun c1 => ?_)
  · refine z_iload C dX9_pays_125 5 rfl ?_
    exact z_iret C hr dX9_pays_127
  · refine z_aload_n C dX9_pays_48 rfl 0 rfl ?_
    refine z_getR C fl_RX9_39 rfl hk1 dX9_pays_49 ?_
    refine z_iload C dX9_pays_52 7 rfl ?_
    refine z_cVI [.int x7] [] C mv_RX9_268 (fun r0 m0 h0 => M_X1_whoGoes _ _ _ _ _ _ _ h0) rfl rfl ⟨by rw [hrm]; exact Nat.le_of_ble_eq_true rfl, by rw [hrm]; exact Nat.le_of_ble_eq_true rfl⟩ ⟨by rw [hrm]; exact Nat.le_of_ble_eq_true rfl, by rw [hrm]; exact Nat.le_of_ble_eq_true rfl⟩ hr1 hk2 rfl rfl rfl (Nat.le_of_ble_eq_true rfl) dX9_pays_54 (fun r1 m1 => ?_)
    refine z_istore (i := 8) (L2 := [(8, .int r1), (0, va_rf (some th)), (1, .int p1), (2, .int p2), (3, .int p3), (4, .int p4), (5, .int x5), (6, .int x6), (7, .int x7)]) C dX9_pays_57 (by decide) rfl ?_
    refine z_iload C dX9_pays_59 0 rfl ?_
    refine z_iconst (v := (-1)) C dX9_pays_61 (by decide) ?_
    refine z_icmp_eq (tgt := 119) C dX9_pays_62 (by decide) (fun c2 => ?_) (fun c2 => ?_)
    · exact z_sub [1, 2, 3, 4, 5, 6, 7, 8] rfl (s_X9_pays_119 C hr hrm th p1 p2 p3 p4 k36 h36 x5 x6 x7 m1)
    · refine z_iload C dX9_pays_65 7 rfl ?_
      refine z_iload C dX9_pays_67 0 rfl ?_
      refine z_ishr C dX9_pays_69 ?_
      refine z_iconst (v := 1) C dX9_pays_70 (by decide) ?_
      refine z_iand C dX9_pays_71 ?_
      refine z_if_eq (tgt := 78) C dX9_pays_72 (by decide) (fun c3 => ?_) (fun c3 => ?_)
      · refine z_iload C dX9_pays_78 7 rfl ?_
        refine z_iconst (v := 1) C dX9_pays_80 (by decide) ?_
        refine z_iload C dX9_pays_81 0 rfl ?_
        refine z_ishl C dX9_pays_83 ?_
        refine z_ior C dX9_pays_84 ?_
        refine z_bndI (fun y1 => ?_)
        refine z_istore (i := 6) (L2 := [(6, .int y1), (8, .int r1), (0, va_rf (some th)), (1, .int p1), (2, .int p2), (3, .int p3), (4, .int p4), (5, .int x5), (7, .int x7)]) C dX9_pays_85 (by decide) rfl ?_
        refine z_aload_n C dX9_pays_87 rfl 2 rfl ?_
        refine z_chk (fun hk3 => ?_)
        refine z_getR C fl_RX9_39 rfl hk3 dX9_pays_88 ?_
        refine z_iload C dX9_pays_91 8 rfl ?_
        refine z_iload C dX9_pays_93 1 rfl ?_
        refine z_ck (fun a2 hr2 hk4 => ?_)
        refine z_cVI [.int x7, .int r1] [] C mv_RX9_271 (fun r0 m0 h0 => M_X1_payer _ _ _ _ _ _ _ _ h0) rfl rfl ⟨by rw [hrm]; exact Nat.le_of_ble_eq_true rfl, by rw [hrm]; exact Nat.le_of_ble_eq_true rfl⟩ ⟨by rw [hrm]; exact Nat.le_of_ble_eq_true rfl, by rw [hrm]; exact Nat.le_of_ble_eq_true rfl⟩ hr2 hk4 rfl rfl rfl (Nat.le_of_ble_eq_true rfl) dX9_pays_95 (fun r2 m2 => ?_)
        refine z_iload C dX9_pays_98 6 rfl ?_
        refine z_icmp_ne (tgt := 119) C dX9_pays_100 (by decide) (fun c4 => ?_) (fun c4 => ?_)
        · exact z_sub [2, 3, 4, 5, 6, 7, 0, 8] rfl (s_X9_pays_119 C hr hrm th p1 p2 p3 p4 k36 h36 x5 y1 x7 m2)
        · refine z_iload C dX9_pays_103 7 rfl ?_
          refine z_aload_n C dX9_pays_105 rfl 2 rfl ?_
          refine z_chk (fun hk5 => ?_)
          refine z_getR C fl_RX9_30 rfl hk5 dX9_pays_106 ?_
          refine z_iload C dX9_pays_109 1 rfl ?_
          refine z_bipush (v := 6) C dX9_pays_111 (by decide) ?_
          refine z_ck (fun a3 hr3 hk6 => ?_)
          refine z_cVI [.int r1, .int 6] [.int x5] C mv_RX9_274 (fun r0 m0 h0 => M_X5_ofThing _ _ _ _ _ _ _ _ h0) rfl rfl ⟨by rw [hrm]; exact Nat.le_of_ble_eq_true rfl, by rw [hrm]; exact Nat.le_of_ble_eq_true rfl⟩ ⟨by rw [hrm]; exact Nat.le_of_ble_eq_true rfl, by rw [hrm]; exact Nat.le_of_ble_eq_true rfl⟩ hr3 hk6 rfl rfl rfl (Nat.le_of_ble_eq_true rfl) dX9_pays_113 (fun r3 m3 => ?_)
          refine z_iadd C dX9_pays_116 ?_
          refine z_bndI (fun y2 => ?_)
          refine z_istore (i := 5) (L2 := [(5, .int y2), (6, .int y1), (8, .int r1), (0, va_rf (some th)), (1, .int p1), (2, .int p2), (3, .int p3), (4, .int p4), (7, .int x7)]) C dX9_pays_117 (by decide) rfl ?_
          exact z_sub [3, 4, 5, 6, 7, 0, 1, 8] rfl (s_X9_pays_119 C hr hrm th p1 p2 p3 p4 k36 h36 y2 y1 x7 m3)
      · refine z_goto (tgt := 119) C dX9_pays_75 (by decide) ?_
        exact z_sub [1, 2, 3, 4, 5, 6, 7, 8] rfl (s_X9_pays_119 C hr hrm th p1 p2 p3 p4 k36 h36 x5 x6 x7 m1)
def l_X9_pays_36 (th : Nat) (p1 : Int32) (p2 : Int32) (p3 : Int32) (p4 : Int32) : Nat → Int32 → Int32 → Int32 → MM → Option (Int32 × MM) := lp (fun _ _ _ _ => none) (fun k36 => g_X9_pays_36 th p1 p2 p3 p4 k36)
theorem t_X9_pays_36 {Γ : GX} {E : EX} (C : Cx Γ E cX9_pays RX9 9) (hr : Γ.meth.sig.returnType = (some .int)) (hrm : Γ.rm = rmX9_pays) (th : Nat) (p1 : Int32) (p2 : Int32) (p3 : Int32) (p4 : Int32) : ∀ (n : Nat) (x5 : Int32) (x6 : Int32) (x7 : Int32) (m : MM), Sm (QM Γ E emI 0 0) Γ E 9 0 0 36 [(0, va_rf (some th)), (1, .int p1), (2, .int p2), (3, .int p3), (4, .int p4), (5, .int x5), (6, .int x6), (7, .int x7)] [] m (l_X9_pays_36 th p1 p2 p3 p4 n x5 x6 x7 m) := by
  intro n
  induction n with
  | zero => intros; exact z_none
  | succ n ih => intro x5 x6 x7 m; exact s_X9_pays_36 C hr hrm th p1 p2 p3 p4 (l_X9_pays_36 th p1 p2 p3 p4 n) ih x5 x6 x7 m
set_option maxRecDepth 100000 in
def g_X9_pays_0 (th : Nat) (p1 : Int32) (p2 : Int32) (p3 : Int32) (p4 : Int32) (m : MM) : Option (Int32 × MM) :=
  cal (f_X9_isHouse p4 m) (fun r4 m4 => if r4 = 0 then (some ((-1), m4)) else (chk (m4.K th = 10) (cal (f_X9_opened th p1 p2 p3 m4) (fun r5 m5 => if r5 = 0 then (some ((-1), m5)) else (chk (m5.K th = 10) (ck m5 (m5.R 1004 th 0) 2 (fun a4 => cal (f_X1_collect a4 m5) (fun r6 m6 => l_X9_pays_36 th p1 p2 p3 p4 FU 0 0 0 m6))))))))
set_option maxHeartbeats 4000000 in
set_option maxRecDepth 100000 in
theorem s_X9_pays_0 {Γ : GX} {E : EX} (C : Cx Γ E cX9_pays RX9 9) (hr : Γ.meth.sig.returnType = (some .int)) (hrm : Γ.rm = rmX9_pays) (th : Nat) (p1 : Int32) (p2 : Int32) (p3 : Int32) (p4 : Int32) (m : MM) : Sm (QM Γ E emI 0 0) Γ E 9 0 0 0 [(0, va_rf (some th)), (1, .int p1), (2, .int p2), (3, .int p3), (4, .int p4)] [] m (g_X9_pays_0 th p1 p2 p3 p4 m) := by
  unfold g_X9_pays_0
  refine z_iload C dX9_pays_0 4 rfl ?_
  refine z_cSI [.int p4] [] C mv_RX9_198 (fun r0 m0 h0 => M_X9_isHouse _ _ _ _ _ _ h0) rfl rfl ⟨by rw [hrm]; exact Nat.le_of_ble_eq_true rfl, by rw [hrm]; exact Nat.le_of_ble_eq_true rfl⟩ ⟨by rw [hrm]; exact Nat.le_of_ble_eq_true rfl, by rw [hrm]; exact Nat.le_of_ble_eq_true rfl⟩ rfl rfl (Nat.le_of_ble_eq_true rfl) dX9_pays_2 (fun r4 m4 => ?_)
  refine z_if_eq (tgt := 18) C dX9_pays_5 (by decide) (fun c5 => ?_) (fun c5 => ?_)
  · refine z_iconst (v := (-1)) C dX9_pays_18 (by decide) ?_
    exact z_iret C hr dX9_pays_19
  · refine z_aload_n C dX9_pays_8 rfl 0 rfl ?_
    refine z_iload_n C dX9_pays_9 rfl 1 rfl ?_
    refine z_iload_n C dX9_pays_10 rfl 2 rfl ?_
    refine z_iload_n C dX9_pays_11 rfl 3 rfl ?_
    refine z_chk (fun hk7 => ?_)
    refine z_cVI [.int p1, .int p2, .int p3] [] C mv_RX9_247 (fun r0 m0 h0 => M_X9_opened _ _ _ _ _ _ _ _ _ h0) rfl rfl ⟨by rw [hrm]; exact Nat.le_of_ble_eq_true rfl, by rw [hrm]; exact Nat.le_of_ble_eq_true rfl⟩ ⟨by rw [hrm]; exact Nat.le_of_ble_eq_true rfl, by rw [hrm]; exact Nat.le_of_ble_eq_true rfl⟩ rfl hk7 rfl rfl rfl (Nat.le_of_ble_eq_true rfl) dX9_pays_12 (fun r5 m5 => ?_)
    refine z_if_ne (tgt := 20) C dX9_pays_15 (by decide) (fun c6 => ?_) (fun c6 => ?_)
    · refine z_aload_n C dX9_pays_20 rfl 0 rfl ?_
      refine z_chk (fun hk8 => ?_)
      refine z_getR C fl_RX9_39 rfl hk8 dX9_pays_21 ?_
      refine z_ck (fun a4 hr4 hk9 => ?_)
      refine z_cVV [] [] C mv_RX9_251 (fun r0 m0 h0 => M_X1_collect _ _ _ _ _ _ h0) rfl rfl ⟨by rw [hrm]; exact Nat.le_of_ble_eq_true rfl, by rw [hrm]; exact Nat.le_of_ble_eq_true rfl⟩ ⟨by rw [hrm]; exact Nat.le_of_ble_eq_true rfl, by rw [hrm]; exact Nat.le_of_ble_eq_true rfl⟩ hr4 hk9 rfl rfl rfl (Nat.le_of_ble_eq_true rfl) dX9_pays_24 (fun r6 m6 => ?_)
      refine z_iconst (v := 0) C dX9_pays_27 (by decide) ?_
      refine z_istore (i := 5) (L2 := [(5, .int 0), (0, va_rf (some th)), (1, .int p1), (2, .int p2), (3, .int p3), (4, .int p4)]) C dX9_pays_28 (by decide) rfl ?_
      refine z_iconst (v := 0) C dX9_pays_30 (by decide) ?_
      refine z_istore (i := 6) (L2 := [(6, .int 0), (5, .int 0), (0, va_rf (some th)), (1, .int p1), (2, .int p2), (3, .int p3), (4, .int p4)]) C dX9_pays_31 (by decide) rfl ?_
      refine z_iconst (v := 0) C dX9_pays_33 (by decide) ?_
      refine z_istore (i := 7) (L2 := [(7, .int 0), (6, .int 0), (5, .int 0), (0, va_rf (some th)), (1, .int p1), (2, .int p2), (3, .int p3), (4, .int p4)]) C dX9_pays_34 (by decide) rfl ?_
      exact z_sub [3, 4, 5, 6, 7, 2, 1, 0] rfl (t_X9_pays_36 C hr hrm th p1 p2 p3 p4 FU 0 0 0 m6)
    · refine z_iconst (v := (-1)) C dX9_pays_18 (by decide) ?_
      exact z_iret C hr dX9_pays_19
def f_X9_pays (th : Nat) (p1 : Int32) (p2 : Int32) (p3 : Int32) (p4 : Int32) (m : MM) : Option (Int32 × MM) := g_X9_pays_0 th p1 p2 p3 p4 m
theorem M_X9_pays (l : Launch) (E : EX) (th : Nat) (p1 : Int32) (p2 : Int32) (p3 : Int32) (p4 : Int32) (m : MM) (r : Int32) (m2 : MM) (h : f_X9_pays th p1 p2 p3 p4 m = some (r, m2)) : Met l yX9_pays (.code yX9_pays cX9_pays 9 (some .int) :: TB) rmX9_pays (va_Pc [.ref th, .int p1, .int p2, .int p3, .int p4] (St E m)) (QR E (emI r) m2) 0 0 (AA E) :=
  met_of (em := emI) (plainFor_of_name rfl) (Nat.le_of_ble_eq_true rfl) (L0 := [(0, va_rf (some th)), (1, .int p1), (2, .int p2), (3, .int p3), (4, .int p4)]) rfl (fun Γ _ hrm C hr hn => s_X9_pays_0 C hr hrm th p1 p2 p3 p4 m) h

theorem dX9_first_0 : decode cX9_first 0 = .ok (.aload_n 0, 1) := by decide +kernel
theorem dX9_first_1 : decode cX9_first 1 = .ok (.getfield 10, 3) := by decide +kernel
theorem dX9_first_4 : decode cX9_first 4 = .ok (.iload_n 1, 1) := by decide +kernel
theorem dX9_first_5 : decode cX9_first 5 = .ok (.invokevirtual 122, 3) := by decide +kernel
theorem dX9_first_8 : decode cX9_first 8 = .ok (.astore 5, 2) := by decide +kernel
theorem dX9_first_10 : decode cX9_first 10 = .ok (.aload_n 0, 1) := by decide +kernel
theorem dX9_first_11 : decode cX9_first 11 = .ok (.getfield 10, 3) := by decide +kernel
theorem dX9_first_14 : decode cX9_first 14 = .ok (.iload_n 2, 1) := by decide +kernel
theorem dX9_first_15 : decode cX9_first 15 = .ok (.invokevirtual 175, 3) := by decide +kernel
theorem dX9_first_18 : decode cX9_first 18 = .ok (.astore 6, 2) := by decide +kernel
theorem dX9_first_20 : decode cX9_first 20 = .ok (.aload 5, 2) := by decide +kernel
theorem dX9_first_22 : decode cX9_first 22 = .ok (.ifnull 19, 3) := by decide +kernel
theorem dX9_first_25 : decode cX9_first 25 = .ok (.aload 6, 2) := by decide +kernel
theorem dX9_first_27 : decode cX9_first 27 = .ok (.ifnull 14, 3) := by decide +kernel
theorem dX9_first_30 : decode cX9_first 30 = .ok (.aload 5, 2) := by decide +kernel
theorem dX9_first_32 : decode cX9_first 32 = .ok (.iload_n 3, 1) := by decide +kernel
theorem dX9_first_33 : decode cX9_first 33 = .ok (.iload 4, 2) := by decide +kernel
theorem dX9_first_35 : decode cX9_first 35 = .ok (.invokevirtual 224, 3) := by decide +kernel
theorem dX9_first_38 : decode cX9_first 38 = .ok (.ifCond .ne 5, 3) := by decide +kernel
theorem dX9_first_41 : decode cX9_first 41 = .ok (.iconst (-1), 1) := by decide +kernel
theorem dX9_first_42 : decode cX9_first 42 = .ok (.ireturn, 1) := by decide +kernel
theorem dX9_first_43 : decode cX9_first 43 = .ok (.iconst 0, 1) := by decide +kernel
theorem dX9_first_44 : decode cX9_first 44 = .ok (.istore 7, 2) := by decide +kernel
theorem dX9_first_46 : decode cX9_first 46 = .ok (.iload 7, 2) := by decide +kernel
theorem dX9_first_48 : decode cX9_first 48 = .ok (.sipush 999, 3) := by decide +kernel
theorem dX9_first_51 : decode cX9_first 51 = .ok (.if_icmp .gt 56, 3) := by decide +kernel
theorem dX9_first_54 : decode cX9_first 54 = .ok (.iload 7, 2) := by decide +kernel
theorem dX9_first_56 : decode cX9_first 56 = .ok (.ifCond .le 16, 3) := by decide +kernel
theorem dX9_first_59 : decode cX9_first 59 = .ok (.aload 5, 2) := by decide +kernel
theorem dX9_first_61 : decode cX9_first 61 = .ok (.iload 7, 2) := by decide +kernel
theorem dX9_first_63 : decode cX9_first 63 = .ok (.invokevirtual 277, 3) := by decide +kernel
theorem dX9_first_66 : decode cX9_first 66 = .ok (.ifCond .ne 6, 3) := by decide +kernel
theorem dX9_first_69 : decode cX9_first 69 = .ok (.goto 32, 3) := by decide +kernel
theorem dX9_first_72 : decode cX9_first 72 = .ok (.aload_n 0, 1) := by decide +kernel
theorem dX9_first_73 : decode cX9_first 73 = .ok (.getfield 30, 3) := by decide +kernel
theorem dX9_first_76 : decode cX9_first 76 = .ok (.aload 5, 2) := by decide +kernel
theorem dX9_first_78 : decode cX9_first 78 = .ok (.aload 6, 2) := by decide +kernel
theorem dX9_first_80 : decode cX9_first 80 = .ok (.iload 7, 2) := by decide +kernel
theorem dX9_first_82 : decode cX9_first 82 = .ok (.invokevirtual 227, 3) := by decide +kernel
theorem dX9_first_85 : decode cX9_first 85 = .ok (.aload_n 0, 1) := by decide +kernel
theorem dX9_first_86 : decode cX9_first 86 = .ok (.getfield 30, 3) := by decide +kernel
theorem dX9_first_89 : decode cX9_first 89 = .ok (.iload_n 3, 1) := by decide +kernel
theorem dX9_first_90 : decode cX9_first 90 = .ok (.iload 4, 2) := by decide +kernel
theorem dX9_first_92 : decode cX9_first 92 = .ok (.invokevirtual 280, 3) := by decide +kernel
theorem dX9_first_95 : decode cX9_first 95 = .ok (.ifCond .eq 6, 3) := by decide +kernel
theorem dX9_first_98 : decode cX9_first 98 = .ok (.iload 7, 2) := by decide +kernel
theorem dX9_first_100 : decode cX9_first 100 = .ok (.ireturn, 1) := by decide +kernel
theorem dX9_first_101 : decode cX9_first 101 = .ok (.iinc 7 1, 3) := by decide +kernel
theorem dX9_first_104 : decode cX9_first 104 = .ok (.goto (-58), 3) := by decide +kernel
theorem dX9_first_107 : decode cX9_first 107 = .ok (.iconst (-1), 1) := by decide +kernel
theorem dX9_first_108 : decode cX9_first 108 = .ok (.ireturn, 1) := by decide +kernel
def rmX9_first : Room := { frames := 5, cells := 0, slots := 0, locals := 140 }
set_option maxRecDepth 100000 in
def g_X9_first_101 (th : Nat) (p1 : Int32) (p2 : Int32) (p3 : Int32) (p4 : Int32) (k46 : Option Nat → Option Nat → Int32 → MM → Option (Int32 × MM)) (x5 : Option Nat) (x6 : Option Nat) (x7 : Int32) (m : MM) : Option (Int32 × MM) :=
  k46 x5 x6 (x7 + 1) m
set_option maxHeartbeats 4000000 in
set_option maxRecDepth 100000 in
theorem s_X9_first_101 {Γ : GX} {E : EX} (C : Cx Γ E cX9_first RX9 8) (hr : Γ.meth.sig.returnType = (some .int)) (hrm : Γ.rm = rmX9_first) (th : Nat) (p1 : Int32) (p2 : Int32) (p3 : Int32) (p4 : Int32) (k46 : Option Nat → Option Nat → Int32 → MM → Option (Int32 × MM)) (h46 : ∀ (x5 : Option Nat) (x6 : Option Nat) (x7 : Int32) (m : MM), Sm (QM Γ E emI 0 0) Γ E 8 0 0 46 [(0, va_rf (some th)), (1, .int p1), (2, .int p2), (3, .int p3), (4, .int p4), (5, va_rf x5), (6, va_rf x6), (7, .int x7)] [] m (k46 x5 x6 x7 m)) (x5 : Option Nat) (x6 : Option Nat) (x7 : Int32) (m : MM) : Sm (QM Γ E emI 0 0) Γ E 8 0 0 101 [(0, va_rf (some th)), (1, .int p1), (2, .int p2), (3, .int p3), (4, .int p4), (5, va_rf x5), (6, va_rf x6), (7, .int x7)] [] m (g_X9_first_101 th p1 p2 p3 p4 k46 x5 x6 x7 m) := by
  unfold g_X9_first_101
  refine z_iinc (v := 1) (L2 := [(7, .int (x7 + 1)), (0, va_rf (some th)), (1, .int p1), (2, .int p2), (3, .int p3), (4, .int p4), (5, va_rf x5), (6, va_rf x6)]) C dX9_first_101 7 rfl (by decide) (by decide) (by simp [cat_rf, cat_i, cat_l, cat_a]) ?_
  refine z_goto (tgt := 46) C dX9_first_104 (by decide) ?_
  exact z_sub [1, 2, 3, 4, 5, 6, 7, 0] rfl (h46 x5 x6 (x7 + 1) m)
set_option maxRecDepth 100000 in
def g_X9_first_72 (th : Nat) (p1 : Int32) (p2 : Int32) (p3 : Int32) (p4 : Int32) (k46 : Option Nat → Option Nat → Int32 → MM → Option (Int32 × MM)) (x5 : Option Nat) (x6 : Option Nat) (x7 : Int32) (m : MM) : Option (Int32 × MM) :=
  chk (m.K th = 10) (ck m (m.R 1003 th 0) 6 (fun a1 => cal (f_X5_open a1 x5 x6 x7 m) (fun r1 m1 => chk (m1.K th = 10) (ck m1 (m1.R 1003 th 0) 6 (fun a2 => cal (f_X5_foes a2 p3 p4 m1) (fun r2 m2 => if r2 = 0 then (g_X9_first_101 th p1 p2 p3 p4 k46 x5 x6 x7 m2) else (some (x7, m2))))))))
set_option maxHeartbeats 4000000 in
set_option maxRecDepth 100000 in
theorem s_X9_first_72 {Γ : GX} {E : EX} (C : Cx Γ E cX9_first RX9 8) (hr : Γ.meth.sig.returnType = (some .int)) (hrm : Γ.rm = rmX9_first) (th : Nat) (p1 : Int32) (p2 : Int32) (p3 : Int32) (p4 : Int32) (k46 : Option Nat → Option Nat → Int32 → MM → Option (Int32 × MM)) (h46 : ∀ (x5 : Option Nat) (x6 : Option Nat) (x7 : Int32) (m : MM), Sm (QM Γ E emI 0 0) Γ E 8 0 0 46 [(0, va_rf (some th)), (1, .int p1), (2, .int p2), (3, .int p3), (4, .int p4), (5, va_rf x5), (6, va_rf x6), (7, .int x7)] [] m (k46 x5 x6 x7 m)) (x5 : Option Nat) (x6 : Option Nat) (x7 : Int32) (m : MM) : Sm (QM Γ E emI 0 0) Γ E 8 0 0 72 [(0, va_rf (some th)), (1, .int p1), (2, .int p2), (3, .int p3), (4, .int p4), (5, va_rf x5), (6, va_rf x6), (7, .int x7)] [] m (g_X9_first_72 th p1 p2 p3 p4 k46 x5 x6 x7 m) := by
  unfold g_X9_first_72
  refine z_aload_n C dX9_first_72 rfl 0 rfl ?_
  refine z_chk (fun hk1 => ?_)
  refine z_getR C fl_RX9_30 rfl hk1 dX9_first_73 ?_
  refine z_aload C dX9_first_76 5 rfl ?_
  refine z_aload C dX9_first_78 6 rfl ?_
  refine z_iload C dX9_first_80 7 rfl ?_
  refine z_ck (fun a1 hr1 hk2 => ?_)
  refine z_cVV [va_rf x5, va_rf x6, .int x7] [] C mv_RX9_227 (fun r0 m0 h0 => M_X5_open _ _ _ _ _ _ _ _ _ h0) rfl rfl ⟨by rw [hrm]; exact Nat.le_of_ble_eq_true rfl, by rw [hrm]; exact Nat.le_of_ble_eq_true rfl⟩ ⟨by rw [hrm]; exact Nat.le_of_ble_eq_true rfl, by rw [hrm]; exact Nat.le_of_ble_eq_true rfl⟩ hr1 hk2 rfl rfl rfl (Nat.le_of_ble_eq_true rfl) dX9_first_82 (fun r1 m1 => ?_)
  refine z_aload_n C dX9_first_85 rfl 0 rfl ?_
  refine z_chk (fun hk3 => ?_)
  refine z_getR C fl_RX9_30 rfl hk3 dX9_first_86 ?_
  refine z_iload_n C dX9_first_89 rfl 3 rfl ?_
  refine z_iload C dX9_first_90 4 rfl ?_
  refine z_ck (fun a2 hr2 hk4 => ?_)
  refine z_cVI [.int p3, .int p4] [] C mv_RX9_280 (fun r0 m0 h0 => M_X5_foes _ _ _ _ _ _ _ _ h0) rfl rfl ⟨by rw [hrm]; exact Nat.le_of_ble_eq_true rfl, by rw [hrm]; exact Nat.le_of_ble_eq_true rfl⟩ ⟨by rw [hrm]; exact Nat.le_of_ble_eq_true rfl, by rw [hrm]; exact Nat.le_of_ble_eq_true rfl⟩ hr2 hk4 rfl rfl rfl (Nat.le_of_ble_eq_true rfl) dX9_first_92 (fun r2 m2 => ?_)
  refine z_if_eq (tgt := 101) C dX9_first_95 (by decide) (fun c1 => ?_) (fun c1 => ?_)
  · exact z_sub [0, 1, 2, 3, 4, 5, 6, 7] rfl (s_X9_first_101 C hr hrm th p1 p2 p3 p4 k46 h46 x5 x6 x7 m2)
  · refine z_iload C dX9_first_98 7 rfl ?_
    exact z_iret C hr dX9_first_100
set_option maxRecDepth 100000 in
def g_X9_first_46 (th : Nat) (p1 : Int32) (p2 : Int32) (p3 : Int32) (p4 : Int32) (k46 : Option Nat → Option Nat → Int32 → MM → Option (Int32 × MM)) (x5 : Option Nat) (x6 : Option Nat) (x7 : Int32) (m : MM) : Option (Int32 × MM) :=
  if 999 < x7 then (some ((-1), m)) else (if x7 ≤ 0 then (g_X9_first_72 th p1 p2 p3 p4 k46 x5 x6 x7 m) else (ck m x5 9 (fun a3 => cal (f_X8_changesOn a3 x7 m) (fun r3 m3 => if r3 = 0 then (g_X9_first_101 th p1 p2 p3 p4 k46 x5 x6 x7 m3) else (g_X9_first_72 th p1 p2 p3 p4 k46 x5 x6 x7 m3)))))
set_option maxHeartbeats 4000000 in
set_option maxRecDepth 100000 in
theorem s_X9_first_46 {Γ : GX} {E : EX} (C : Cx Γ E cX9_first RX9 8) (hr : Γ.meth.sig.returnType = (some .int)) (hrm : Γ.rm = rmX9_first) (th : Nat) (p1 : Int32) (p2 : Int32) (p3 : Int32) (p4 : Int32) (k46 : Option Nat → Option Nat → Int32 → MM → Option (Int32 × MM)) (h46 : ∀ (x5 : Option Nat) (x6 : Option Nat) (x7 : Int32) (m : MM), Sm (QM Γ E emI 0 0) Γ E 8 0 0 46 [(0, va_rf (some th)), (1, .int p1), (2, .int p2), (3, .int p3), (4, .int p4), (5, va_rf x5), (6, va_rf x6), (7, .int x7)] [] m (k46 x5 x6 x7 m)) (x5 : Option Nat) (x6 : Option Nat) (x7 : Int32) (m : MM) : Sm (QM Γ E emI 0 0) Γ E 8 0 0 46 [(0, va_rf (some th)), (1, .int p1), (2, .int p2), (3, .int p3), (4, .int p4), (5, va_rf x5), (6, va_rf x6), (7, .int x7)] [] m (g_X9_first_46 th p1 p2 p3 p4 k46 x5 x6 x7 m) := by
  unfold g_X9_first_46
  refine z_iload C dX9_first_46 7 rfl ?_
  refine z_sipush (v := 999) C dX9_first_48 (by decide) ?_
  refine z_icmp_gt (tgt := 107) C dX9_first_51 (by decide) (fun c2 => ?_) (fun c2 => ?_)
  · refine z_iconst (v := (-1)) C dX9_first_107 (by decide) ?_
    exact z_iret C hr dX9_first_108
  · refine z_iload C dX9_first_54 7 rfl ?_
    refine z_if_le (tgt := 72) C dX9_first_56 (by decide) (fun c3 => ?_) (fun c3 => ?_)
    · exact z_sub [0, 1, 2, 3, 4, 5, 6, 7] rfl (s_X9_first_72 C hr hrm th p1 p2 p3 p4 k46 h46 x5 x6 x7 m)
    · refine z_aload C dX9_first_59 5 rfl ?_
      refine z_iload C dX9_first_61 7 rfl ?_
      refine z_ck (fun a3 hr3 hk5 => ?_)
      refine z_cVI [.int x7] [] C mv_RX9_277 (fun r0 m0 h0 => M_X8_changesOn _ _ _ _ _ _ _ h0) rfl rfl ⟨by rw [hrm]; exact Nat.le_of_ble_eq_true rfl, by rw [hrm]; exact Nat.le_of_ble_eq_true rfl⟩ ⟨by rw [hrm]; exact Nat.le_of_ble_eq_true rfl, by rw [hrm]; exact Nat.le_of_ble_eq_true rfl⟩ hr3 hk5 rfl rfl rfl (Nat.le_of_ble_eq_true rfl) dX9_first_63 (fun r3 m3 => ?_)
      refine z_if_ne (tgt := 72) C dX9_first_66 (by decide) (fun c4 => ?_) (fun c4 => ?_)
      · exact z_sub [0, 1, 2, 3, 4, 5, 6, 7] rfl (s_X9_first_72 C hr hrm th p1 p2 p3 p4 k46 h46 x5 x6 x7 m3)
      · refine z_goto (tgt := 101) C dX9_first_69 (by decide) ?_
        exact z_sub [0, 1, 2, 3, 4, 5, 6, 7] rfl (s_X9_first_101 C hr hrm th p1 p2 p3 p4 k46 h46 x5 x6 x7 m3)
def l_X9_first_46 (th : Nat) (p1 : Int32) (p2 : Int32) (p3 : Int32) (p4 : Int32) : Nat → Option Nat → Option Nat → Int32 → MM → Option (Int32 × MM) := lp (fun _ _ _ _ => none) (fun k46 => g_X9_first_46 th p1 p2 p3 p4 k46)
theorem t_X9_first_46 {Γ : GX} {E : EX} (C : Cx Γ E cX9_first RX9 8) (hr : Γ.meth.sig.returnType = (some .int)) (hrm : Γ.rm = rmX9_first) (th : Nat) (p1 : Int32) (p2 : Int32) (p3 : Int32) (p4 : Int32) : ∀ (n : Nat) (x5 : Option Nat) (x6 : Option Nat) (x7 : Int32) (m : MM), Sm (QM Γ E emI 0 0) Γ E 8 0 0 46 [(0, va_rf (some th)), (1, .int p1), (2, .int p2), (3, .int p3), (4, .int p4), (5, va_rf x5), (6, va_rf x6), (7, .int x7)] [] m (l_X9_first_46 th p1 p2 p3 p4 n x5 x6 x7 m) := by
  intro n
  induction n with
  | zero => intros; exact z_none
  | succ n ih => intro x5 x6 x7 m; exact s_X9_first_46 C hr hrm th p1 p2 p3 p4 (l_X9_first_46 th p1 p2 p3 p4 n) ih x5 x6 x7 m
set_option maxRecDepth 100000 in
def g_X9_first_0 (th : Nat) (p1 : Int32) (p2 : Int32) (p3 : Int32) (p4 : Int32) (m : MM) : Option (Int32 × MM) :=
  chk (m.K th = 10) (ck m (m.R 1000 th 0) 8 (fun a4 => cal (f_X7_townAt a4 p1 m) (fun r4 m4 => chk (m4.K th = 10) (ck m4 (m4.R 1000 th 0) 8 (fun a5 => cal (f_X7_lawAt a5 p2 m4) (fun r5 m5 => ifn r4 (some ((-1), m5)) (fun a6 => ifn r5 (some ((-1), m5)) (fun a7 => chk (m5.K a6 = 9) (cal (f_X8_hasTwo a6 p3 p4 m5) (fun r6 m6 => if r6 = 0 then (some ((-1), m6)) else (l_X9_first_46 th p1 p2 p3 p4 FU r4 r5 0 m6)))))))))))
set_option maxHeartbeats 4000000 in
set_option maxRecDepth 100000 in
theorem s_X9_first_0 {Γ : GX} {E : EX} (C : Cx Γ E cX9_first RX9 8) (hr : Γ.meth.sig.returnType = (some .int)) (hrm : Γ.rm = rmX9_first) (th : Nat) (p1 : Int32) (p2 : Int32) (p3 : Int32) (p4 : Int32) (m : MM) : Sm (QM Γ E emI 0 0) Γ E 8 0 0 0 [(0, va_rf (some th)), (1, .int p1), (2, .int p2), (3, .int p3), (4, .int p4)] [] m (g_X9_first_0 th p1 p2 p3 p4 m) := by
  unfold g_X9_first_0
  refine z_aload_n C dX9_first_0 rfl 0 rfl ?_
  refine z_chk (fun hk6 => ?_)
  refine z_getR C fl_RX9_10 rfl hk6 dX9_first_1 ?_
  refine z_iload_n C dX9_first_4 rfl 1 rfl ?_
  refine z_ck (fun a4 hr4 hk7 => ?_)
  refine z_cVR [.int p1] [] C mv_RX9_122 (fun r0 m0 h0 => M_X7_townAt _ _ _ _ _ _ _ h0) rfl rfl ⟨by rw [hrm]; exact Nat.le_of_ble_eq_true rfl, by rw [hrm]; exact Nat.le_of_ble_eq_true rfl⟩ ⟨by rw [hrm]; exact Nat.le_of_ble_eq_true rfl, by rw [hrm]; exact Nat.le_of_ble_eq_true rfl⟩ hr4 hk7 rfl rfl rfl (Nat.le_of_ble_eq_true rfl) dX9_first_5 (fun r4 m4 => ?_)
  refine z_astore (i := 5) (L2 := [(5, va_rf r4), (0, va_rf (some th)), (1, .int p1), (2, .int p2), (3, .int p3), (4, .int p4)]) C dX9_first_8 (by decide) rfl ?_
  refine z_aload_n C dX9_first_10 rfl 1 rfl ?_
  refine z_chk (fun hk8 => ?_)
  refine z_getR C fl_RX9_10 rfl hk8 dX9_first_11 ?_
  refine z_iload_n C dX9_first_14 rfl 3 rfl ?_
  refine z_ck (fun a5 hr5 hk9 => ?_)
  refine z_cVR [.int p2] [] C mv_RX9_175 (fun r0 m0 h0 => M_X7_lawAt _ _ _ _ _ _ _ h0) rfl rfl ⟨by rw [hrm]; exact Nat.le_of_ble_eq_true rfl, by rw [hrm]; exact Nat.le_of_ble_eq_true rfl⟩ ⟨by rw [hrm]; exact Nat.le_of_ble_eq_true rfl, by rw [hrm]; exact Nat.le_of_ble_eq_true rfl⟩ hr5 hk9 rfl rfl rfl (Nat.le_of_ble_eq_true rfl) dX9_first_15 (fun r5 m5 => ?_)
  refine z_astore (i := 6) (L2 := [(6, va_rf r5), (5, va_rf r4), (0, va_rf (some th)), (1, .int p1), (2, .int p2), (3, .int p3), (4, .int p4)]) C dX9_first_18 (by decide) (by simp [cat_rf, cat_i, cat_l, cat_a]) ?_
  refine z_aload C dX9_first_20 1 rfl ?_
  refine z_ifnull (tgt := 41) C dX9_first_22 (by decide) (fun hn1 => ?_) (fun a6 ha1 => ?_)
  · refine z_iconst (v := (-1)) C dX9_first_41 (by decide) ?_
    exact z_iret C hr dX9_first_42
  · refine z_aload C dX9_first_25 0 rfl ?_
    refine z_ifnull (tgt := 41) C dX9_first_27 (by decide) (fun hn2 => ?_) (fun a7 ha2 => ?_)
    · refine z_iconst (v := (-1)) C dX9_first_41 (by decide) ?_
      exact z_iret C hr dX9_first_42
    · refine z_aload C dX9_first_30 1 rfl ?_
      refine z_iload_n C dX9_first_32 rfl 5 rfl ?_
      refine z_iload C dX9_first_33 6 rfl ?_
      refine z_chk (fun hk10 => ?_)
      refine z_cVI [.int p3, .int p4] [] C mv_RX9_224 (fun r0 m0 h0 => M_X8_hasTwo _ _ _ _ _ _ _ _ h0) rfl rfl ⟨by rw [hrm]; exact Nat.le_of_ble_eq_true rfl, by rw [hrm]; exact Nat.le_of_ble_eq_true rfl⟩ ⟨by rw [hrm]; exact Nat.le_of_ble_eq_true rfl, by rw [hrm]; exact Nat.le_of_ble_eq_true rfl⟩ ha1 hk10 rfl rfl rfl (Nat.le_of_ble_eq_true rfl) dX9_first_35 (fun r6 m6 => ?_)
      refine z_if_ne (tgt := 43) C dX9_first_38 (by decide) (fun c5 => ?_) (fun c5 => ?_)
      · refine z_iconst (v := 0) C dX9_first_43 (by decide) ?_
        refine z_istore (i := 7) (L2 := [(7, .int 0), (6, va_rf r5), (5, va_rf r4), (0, va_rf (some th)), (1, .int p1), (2, .int p2), (3, .int p3), (4, .int p4)]) C dX9_first_44 (by decide) (by simp [cat_rf, cat_i, cat_l, cat_a]) ?_
        exact z_sub [3, 4, 5, 6, 7, 2, 1, 0] rfl (t_X9_first_46 C hr hrm th p1 p2 p3 p4 FU r4 r5 0 m6)
      · refine z_iconst (v := (-1)) C dX9_first_41 (by decide) ?_
        exact z_iret C hr dX9_first_42
def f_X9_first (th : Nat) (p1 : Int32) (p2 : Int32) (p3 : Int32) (p4 : Int32) (m : MM) : Option (Int32 × MM) := g_X9_first_0 th p1 p2 p3 p4 m
theorem M_X9_first (l : Launch) (E : EX) (th : Nat) (p1 : Int32) (p2 : Int32) (p3 : Int32) (p4 : Int32) (m : MM) (r : Int32) (m2 : MM) (h : f_X9_first th p1 p2 p3 p4 m = some (r, m2)) : Met l yX9_first (.code yX9_first cX9_first 8 (some .int) :: TB) rmX9_first (va_Pc [.ref th, .int p1, .int p2, .int p3, .int p4] (St E m)) (QR E (emI r) m2) 0 0 (AA E) :=
  met_of (em := emI) (plainFor_of_name rfl) (Nat.le_of_ble_eq_true rfl) (L0 := [(0, va_rf (some th)), (1, .int p1), (2, .int p2), (3, .int p3), (4, .int p4)]) rfl (fun Γ _ hrm C hr hn => s_X9_first_0 C hr hrm th p1 p2 p3 p4 m) h

theorem dX9_may_0 : decode cX9_may 0 = .ok (.iload 4, 2) := by decide +kernel
theorem dX9_may_2 : decode cX9_may 2 = .ok (.invokestatic 191, 3) := by decide +kernel
theorem dX9_may_5 : decode cX9_may 5 = .ok (.ifCond .eq 21, 3) := by decide +kernel
theorem dX9_may_8 : decode cX9_may 8 = .ok (.iload 7, 2) := by decide +kernel
theorem dX9_may_10 : decode cX9_may 10 = .ok (.invokestatic 204, 3) := by decide +kernel
theorem dX9_may_13 : decode cX9_may 13 = .ok (.ifCond .eq 13, 3) := by decide +kernel
theorem dX9_may_16 : decode cX9_may 16 = .ok (.aload_n 0, 1) := by decide +kernel
theorem dX9_may_17 : decode cX9_may 17 = .ok (.iload_n 1, 1) := by decide +kernel
theorem dX9_may_18 : decode cX9_may 18 = .ok (.iload_n 2, 1) := by decide +kernel
theorem dX9_may_19 : decode cX9_may 19 = .ok (.iload_n 3, 1) := by decide +kernel
theorem dX9_may_20 : decode cX9_may 20 = .ok (.invokevirtual 247, 3) := by decide +kernel
theorem dX9_may_23 : decode cX9_may 23 = .ok (.ifCond .ne 5, 3) := by decide +kernel
theorem dX9_may_26 : decode cX9_may 26 = .ok (.iconst 0, 1) := by decide +kernel
theorem dX9_may_27 : decode cX9_may 27 = .ok (.ireturn, 1) := by decide +kernel
theorem dX9_may_28 : decode cX9_may 28 = .ok (.aload_n 0, 1) := by decide +kernel
theorem dX9_may_29 : decode cX9_may 29 = .ok (.getfield 46, 3) := by decide +kernel
theorem dX9_may_32 : decode cX9_may 32 = .ok (.iload 4, 2) := by decide +kernel
theorem dX9_may_34 : decode cX9_may 34 = .ok (.iload 7, 2) := by decide +kernel
theorem dX9_may_36 : decode cX9_may 36 = .ok (.iload 5, 2) := by decide +kernel
theorem dX9_may_38 : decode cX9_may 38 = .ok (.iload 6, 2) := by decide +kernel
theorem dX9_may_40 : decode cX9_may 40 = .ok (.invokevirtual 283, 3) := by decide +kernel
theorem dX9_may_43 : decode cX9_may 43 = .ok (.ireturn, 1) := by decide +kernel
def rmX9_may : Room := { frames := 6, cells := 0, slots := 0, locals := 167 }
set_option maxRecDepth 100000 in
def g_X9_may_0 (th : Nat) (p1 : Int32) (p2 : Int32) (p3 : Int32) (p4 : Int32) (p5 : Int32) (p6 : Int32) (p7 : Int32) (m : MM) : Option (Int32 × MM) :=
  cal (f_X9_isKind p4 m) (fun r1 m1 => if r1 = 0 then (some (0, m1)) else (cal (f_X9_isFacing p7 m1) (fun r2 m2 => if r2 = 0 then (some (0, m2)) else (chk (m2.K th = 10) (cal (f_X9_opened th p1 p2 p3 m2) (fun r3 m3 => if r3 = 0 then (some (0, m3)) else (chk (m3.K th = 10) (ck m3 (m3.R 1005 th 0) 4 (fun a1 => cal (f_X3_maySit a1 p4 p7 p5 p6 m3) (fun r4 m4 => chk (r4 = 0 ∨ r4 = 1) (some (r4, m4))))))))))))
set_option maxHeartbeats 4000000 in
set_option maxRecDepth 100000 in
theorem s_X9_may_0 {Γ : GX} {E : EX} (C : Cx Γ E cX9_may RX9 8) (hr : Γ.meth.sig.returnType = (some .boolean)) (hrm : Γ.rm = rmX9_may) (th : Nat) (p1 : Int32) (p2 : Int32) (p3 : Int32) (p4 : Int32) (p5 : Int32) (p6 : Int32) (p7 : Int32) (m : MM) : Sm (QM Γ E emI 0 0) Γ E 8 0 0 0 [(0, va_rf (some th)), (1, .int p1), (2, .int p2), (3, .int p3), (4, .int p4), (5, .int p5), (6, .int p6), (7, .int p7)] [] m (g_X9_may_0 th p1 p2 p3 p4 p5 p6 p7 m) := by
  unfold g_X9_may_0
  refine z_iload C dX9_may_0 4 rfl ?_
  refine z_cSI [.int p4] [] C mv_RX9_191 (fun r0 m0 h0 => M_X9_isKind _ _ _ _ _ _ h0) rfl rfl ⟨by rw [hrm]; exact Nat.le_of_ble_eq_true rfl, by rw [hrm]; exact Nat.le_of_ble_eq_true rfl⟩ ⟨by rw [hrm]; exact Nat.le_of_ble_eq_true rfl, by rw [hrm]; exact Nat.le_of_ble_eq_true rfl⟩ rfl rfl (Nat.le_of_ble_eq_true rfl) dX9_may_2 (fun r1 m1 => ?_)
  refine z_if_eq (tgt := 26) C dX9_may_5 (by decide) (fun c1 => ?_) (fun c1 => ?_)
  · refine z_iconst (v := 0) C dX9_may_26 (by decide) ?_
    exact z_zret C hr rfl dX9_may_27
  · refine z_iload C dX9_may_8 7 rfl ?_
    refine z_cSI [.int p7] [] C mv_RX9_204 (fun r0 m0 h0 => M_X9_isFacing _ _ _ _ _ _ h0) rfl rfl ⟨by rw [hrm]; exact Nat.le_of_ble_eq_true rfl, by rw [hrm]; exact Nat.le_of_ble_eq_true rfl⟩ ⟨by rw [hrm]; exact Nat.le_of_ble_eq_true rfl, by rw [hrm]; exact Nat.le_of_ble_eq_true rfl⟩ rfl rfl (Nat.le_of_ble_eq_true rfl) dX9_may_10 (fun r2 m2 => ?_)
    refine z_if_eq (tgt := 26) C dX9_may_13 (by decide) (fun c2 => ?_) (fun c2 => ?_)
    · refine z_iconst (v := 0) C dX9_may_26 (by decide) ?_
      exact z_zret C hr rfl dX9_may_27
    · refine z_aload_n C dX9_may_16 rfl 0 rfl ?_
      refine z_iload_n C dX9_may_17 rfl 1 rfl ?_
      refine z_iload_n C dX9_may_18 rfl 2 rfl ?_
      refine z_iload_n C dX9_may_19 rfl 3 rfl ?_
      refine z_chk (fun hk1 => ?_)
      refine z_cVI [.int p1, .int p2, .int p3] [] C mv_RX9_247 (fun r0 m0 h0 => M_X9_opened _ _ _ _ _ _ _ _ _ h0) rfl rfl ⟨by rw [hrm]; exact Nat.le_of_ble_eq_true rfl, by rw [hrm]; exact Nat.le_of_ble_eq_true rfl⟩ ⟨by rw [hrm]; exact Nat.le_of_ble_eq_true rfl, by rw [hrm]; exact Nat.le_of_ble_eq_true rfl⟩ rfl hk1 rfl rfl rfl (Nat.le_of_ble_eq_true rfl) dX9_may_20 (fun r3 m3 => ?_)
      refine z_if_ne (tgt := 28) C dX9_may_23 (by decide) (fun c3 => ?_) (fun c3 => ?_)
      · refine z_aload_n C dX9_may_28 rfl 0 rfl ?_
        refine z_chk (fun hk2 => ?_)
        refine z_getR C fl_RX9_46 rfl hk2 dX9_may_29 ?_
        refine z_iload C dX9_may_32 4 rfl ?_
        refine z_iload C dX9_may_34 7 rfl ?_
        refine z_iload C dX9_may_36 5 rfl ?_
        refine z_iload C dX9_may_38 6 rfl ?_
        refine z_ck (fun a1 hr1 hk3 => ?_)
        refine z_cVI [.int p4, .int p7, .int p5, .int p6] [] C mv_RX9_283 (fun r0 m0 h0 => M_X3_maySit _ _ _ _ _ _ _ _ _ _ h0) rfl rfl ⟨by rw [hrm]; exact Nat.le_of_ble_eq_true rfl, by rw [hrm]; exact Nat.le_of_ble_eq_true rfl⟩ ⟨by rw [hrm]; exact Nat.le_of_ble_eq_true rfl, by rw [hrm]; exact Nat.le_of_ble_eq_true rfl⟩ hr1 hk3 rfl rfl rfl (Nat.le_of_ble_eq_true rfl) dX9_may_40 (fun r4 m4 => ?_)
        refine z_chk (fun hb1 => ?_)
        exact z_zret C hr (nb_of hb1) dX9_may_43
      · refine z_iconst (v := 0) C dX9_may_26 (by decide) ?_
        exact z_zret C hr rfl dX9_may_27
def f_X9_may (th : Nat) (p1 : Int32) (p2 : Int32) (p3 : Int32) (p4 : Int32) (p5 : Int32) (p6 : Int32) (p7 : Int32) (m : MM) : Option (Int32 × MM) := g_X9_may_0 th p1 p2 p3 p4 p5 p6 p7 m
theorem M_X9_may (l : Launch) (E : EX) (th : Nat) (p1 : Int32) (p2 : Int32) (p3 : Int32) (p4 : Int32) (p5 : Int32) (p6 : Int32) (p7 : Int32) (m : MM) (r : Int32) (m2 : MM) (h : f_X9_may th p1 p2 p3 p4 p5 p6 p7 m = some (r, m2)) : Met l yX9_may (.code yX9_may cX9_may 8 (some .boolean) :: TB) rmX9_may (va_Pc [.ref th, .int p1, .int p2, .int p3, .int p4, .int p5, .int p6, .int p7] (St E m)) (QR E (emI r) m2) 0 0 (AA E) :=
  met_of (em := emI) (plainFor_of_name rfl) (Nat.le_of_ble_eq_true rfl) (L0 := [(0, va_rf (some th)), (1, .int p1), (2, .int p2), (3, .int p3), (4, .int p4), (5, .int p5), (6, .int p6), (7, .int p7)]) rfl (fun Γ _ hrm C hr hn => s_X9_may_0 C hr hrm th p1 p2 p3 p4 p5 p6 p7 m) h
