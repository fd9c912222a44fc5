theorem dX7_init_0 : decode cX7_init 0 = .ok (.aload_n 0, 1) := by decide +kernel
theorem dX7_init_1 : decode cX7_init 1 = .ok (.invokespecial 3, 3) := by decide +kernel
theorem dX7_init_4 : decode cX7_init 4 = .ok (.aload_n 0, 1) := by decide +kernel
theorem dX7_init_5 : decode cX7_init 5 = .ok (.sipush 500, 3) := by decide +kernel
theorem dX7_init_8 : decode cX7_init 8 = .ok (.newarray .byte, 2) := by decide +kernel
theorem dX7_init_10 : decode cX7_init 10 = .ok (.putfield 9, 3) := by decide +kernel
theorem dX7_init_13 : decode cX7_init 13 = .ok (.aload_n 0, 1) := by decide +kernel
theorem dX7_init_14 : decode cX7_init 14 = .ok (.iconst (-1), 1) := by decide +kernel
theorem dX7_init_15 : decode cX7_init 15 = .ok (.putfield 15, 3) := by decide +kernel
theorem dX7_init_18 : decode cX7_init 18 = .ok (.aload_n 0, 1) := by decide +kernel
theorem dX7_init_19 : decode cX7_init 19 = .ok (.iconst 3, 1) := by decide +kernel
theorem dX7_init_20 : decode cX7_init 20 = .ok (.anewarray 19, 3) := by decide +kernel
theorem dX7_init_23 : decode cX7_init 23 = .ok (.putfield 21, 3) := by decide +kernel
theorem dX7_init_26 : decode cX7_init 26 = .ok (.aload_n 0, 1) := by decide +kernel
theorem dX7_init_27 : decode cX7_init 27 = .ok (.iconst 3, 1) := by decide +kernel
theorem dX7_init_28 : decode cX7_init 28 = .ok (.anewarray 25, 3) := by decide +kernel
theorem dX7_init_31 : decode cX7_init 31 = .ok (.putfield 27, 3) := by decide +kernel
theorem dX7_init_34 : decode cX7_init 34 = .ok (.iconst 0, 1) := by decide +kernel
theorem dX7_init_35 : decode cX7_init 35 = .ok (.istore_n 1, 1) := by decide +kernel
theorem dX7_init_36 : decode cX7_init 36 = .ok (.iload_n 1, 1) := by decide +kernel
theorem dX7_init_37 : decode cX7_init 37 = .ok (.iconst 3, 1) := by decide +kernel
theorem dX7_init_38 : decode cX7_init 38 = .ok (.if_icmp .ge 35, 3) := by decide +kernel
theorem dX7_init_41 : decode cX7_init 41 = .ok (.aload_n 0, 1) := by decide +kernel
theorem dX7_init_42 : decode cX7_init 42 = .ok (.getfield 21, 3) := by decide +kernel
theorem dX7_init_45 : decode cX7_init 45 = .ok (.iload_n 1, 1) := by decide +kernel
theorem dX7_init_46 : decode cX7_init 46 = .ok (.new 19, 3) := by decide +kernel
theorem dX7_init_49 : decode cX7_init 49 = .ok (.dup, 1) := by decide +kernel
theorem dX7_init_50 : decode cX7_init 50 = .ok (.invokespecial 31, 3) := by decide +kernel
theorem dX7_init_53 : decode cX7_init 53 = .ok (.aastore, 1) := by decide +kernel
theorem dX7_init_54 : decode cX7_init 54 = .ok (.aload_n 0, 1) := by decide +kernel
theorem dX7_init_55 : decode cX7_init 55 = .ok (.getfield 27, 3) := by decide +kernel
theorem dX7_init_58 : decode cX7_init 58 = .ok (.iload_n 1, 1) := by decide +kernel
theorem dX7_init_59 : decode cX7_init 59 = .ok (.new 25, 3) := by decide +kernel
theorem dX7_init_62 : decode cX7_init 62 = .ok (.dup, 1) := by decide +kernel
theorem dX7_init_63 : decode cX7_init 63 = .ok (.invokespecial 32, 3) := by decide +kernel
theorem dX7_init_66 : decode cX7_init 66 = .ok (.aastore, 1) := by decide +kernel
theorem dX7_init_67 : decode cX7_init 67 = .ok (.iinc 1 1, 3) := by decide +kernel
theorem dX7_init_70 : decode cX7_init 70 = .ok (.goto (-34), 3) := by decide +kernel
theorem dX7_init_73 : decode cX7_init 73 = .ok (.return_, 1) := by decide +kernel
def rmX7_init : Room := { frames := 3, cells := 57, slots := 1562, locals := 62 }
set_option maxRecDepth 100000 in
def f_X7_init (th : Nat) (m : MM) : Option (Unit × MM) :=
  bnd m.S (fun a1 => bnd (m.nw 21 500) (fun m1 => chk (m1.K th = 8) (bnd (m1.sR 800 th 0 (some a1)) (fun m2 => bnd (m2.sI 803 th 0 (-1)) (fun m3 => bnd m3.S (fun a2 => bnd (m3.nw 28 3) (fun m4 => chk (m4.K th = 8) (bnd (m4.sR 806 th 0 (some a2)) (fun m5 => bnd m5.S (fun a3 => bnd (m5.nw 26 3) (fun m6 => chk (m6.K th = 8) (bnd (m6.sR 807 th 0 (some a3)) (fun m7 => bnd m7.S (fun a4 => bnd (m7.nw 9 0) (fun m8 => cal (f_X8_init a4 m8) (fun r1 m9 => ck m9 (m7.R 806 th 0) 28 (fun a5 => chk (m9.K a4 = 9) (chk (inb 0 (m9.N a5) = true) (bnd (m9.sR 28 a5 (Int32.toNatClampNeg 0) (some a4)) (fun m10 => chk (m10.K th = 8) (bnd m10.S (fun a6 => bnd (m10.nw 3 0) (fun m11 => cal (f_X2_init a6 m11) (fun r2 m12 => ck m12 (m10.R 807 th 0) 26 (fun a7 => chk (m12.K a6 = 3) (chk (inb 0 (m12.N a7) = true) (bnd (m12.sR 26 a7 (Int32.toNatClampNeg 0) (some a6)) (fun m13 => chk (m13.K th = 8) (bnd m13.S (fun a8 => bnd (m13.nw 9 0) (fun m14 => cal (f_X8_init a8 m14) (fun r3 m15 => ck m15 (m13.R 806 th 0) 28 (fun a9 => chk (m15.K a8 = 9) (chk (inb 1 (m15.N a9) = true) (bnd (m15.sR 28 a9 (Int32.toNatClampNeg 1) (some a8)) (fun m16 => chk (m16.K th = 8) (bnd m16.S (fun a10 => bnd (m16.nw 3 0) (fun m17 => cal (f_X2_init a10 m17) (fun r4 m18 => ck m18 (m16.R 807 th 0) 26 (fun a11 => chk (m18.K a10 = 3) (chk (inb 1 (m18.N a11) = true) (bnd (m18.sR 26 a11 (Int32.toNatClampNeg 1) (some a10)) (fun m19 => chk (m19.K th = 8) (bnd m19.S (fun a12 => bnd (m19.nw 9 0) (fun m20 => cal (f_X8_init a12 m20) (fun r5 m21 => ck m21 (m19.R 806 th 0) 28 (fun a13 => chk (m21.K a12 = 9) (chk (inb 2 (m21.N a13) = true) (bnd (m21.sR 28 a13 (Int32.toNatClampNeg 2) (some a12)) (fun m22 => chk (m22.K th = 8) (bnd m22.S (fun a14 => bnd (m22.nw 3 0) (fun m23 => cal (f_X2_init a14 m23) (fun r6 m24 => ck m24 (m22.R 807 th 0) 26 (fun a15 => chk (m24.K a14 = 3) (chk (inb 2 (m24.N a15) = true) (bnd (m24.sR 26 a15 (Int32.toNatClampNeg 2) (some a14)) (fun m25 => some ((), m25)))))))))))))))))))))))))))))))))))))))))))))))))))))))))))))
set_option maxHeartbeats 4000000 in
set_option maxRecDepth 100000 in
theorem s_X7_init_0 {Γ : GX} {E : EX} (C : Cx Γ E cX7_init RX7 2) (hr : Γ.meth.sig.returnType = none) (hrm : Γ.rm = rmX7_init) (hnm : Γ.meth.name = "<init>") (th : Nat) (m : MM) : Sm (QM Γ E emV 57 1562) Γ E 2 0 0 0 [(0, va_rf (some th))] [] m (f_X7_init th m) := by
  unfold f_X7_init
  refine z_aload_n C dX7_init_0 rfl 0 rfl ?_
  refine z_obj C rfl mo_RX7_3 (by rw [hrm]; exact Nat.le_of_ble_eq_true rfl) (by rw [hrm]; exact Nat.le_of_ble_eq_true rfl) (Nat.le_of_ble_eq_true rfl) dX7_init_1 ?_
  refine z_aload_n C dX7_init_4 rfl 0 rfl ?_
  refine z_sipush (v := 500) C dX7_init_5 (by decide) ?_
  refine z_newa2 (at0 := .byte) (kd := 21) (N := 500) C ac_byte (by decide) (by decide) rfl (by decide) (by decide) (by decide) (by rw [hrm]; exact Nat.le_of_ble_eq_true rfl) (by rw [hrm]; exact Nat.le_of_ble_eq_true rfl) dX7_init_8 (fun a1 m1 hk1 => ?_)
  refine z_chk (fun hk2 => ?_)
  refine z_putR C fl_RX7_9 (fun _ => ⟨hnm, rfl⟩) rfl hk2 na_of fa_of dX7_init_10 (fun m2 eK1 eN1 => ?_)
  refine z_aload_n C dX7_init_13 rfl 0 rfl ?_
  refine z_iconst (v := (-1)) C dX7_init_14 (by decide) ?_
  refine z_putI C fl_RX7_15 (fun h => by cases h) rfl (kfw eK1 hk2) rfl rfl dX7_init_15 (fun m3 eK2 eN2 => ?_)
  refine z_aload_n C dX7_init_18 rfl 0 rfl ?_
  refine z_iconst (v := 3) C dX7_init_19 (by decide) ?_
  refine z_anew2 (kd := 28) (N := 3) C cl_RX7_19 (by decide) (by decide) (by decide) rfl (by decide) (by decide) (by decide) (by rw [hrm]; exact Nat.le_of_ble_eq_true rfl) (by rw [hrm]; exact Nat.le_of_ble_eq_true rfl) dX7_init_20 (fun a2 m4 hk3 => ?_)
  refine z_chk (fun hk4 => ?_)
  refine z_putR C fl_RX7_21 (fun _ => ⟨hnm, rfl⟩) rfl hk4 na_of fa_of dX7_init_23 (fun m5 eK3 eN3 => ?_)
  refine z_aload_n C dX7_init_26 rfl 0 rfl ?_
  refine z_iconst (v := 3) C dX7_init_27 (by decide) ?_
  refine z_anew2 (kd := 26) (N := 3) C cl_RX7_25 (by decide) (by decide) (by decide) rfl (by decide) (by decide) (by decide) (by rw [hrm]; exact Nat.le_of_ble_eq_true rfl) (by rw [hrm]; exact Nat.le_of_ble_eq_true rfl) dX7_init_28 (fun a3 m6 hk5 => ?_)
  refine z_chk (fun hk6 => ?_)
  refine z_putR C fl_RX7_27 (fun _ => ⟨hnm, rfl⟩) rfl hk6 na_of fa_of dX7_init_31 (fun m7 eK4 eN4 => ?_)
  refine z_iconst (v := 0) C dX7_init_34 (by decide) ?_
  refine z_istore_n (i := 1) (L2 := [(1, .int 0), (0, va_rf (some th))]) C dX7_init_35 rfl (by decide) rfl ?_
  refine z_iload_n C dX7_init_36 rfl 0 rfl ?_
  refine z_iconst (v := 3) C dX7_init_37 (by decide) ?_
  refine z_icmp_ge_f (tgt := 73) C dX7_init_38 (by decide) (by decide) ?_
  refine z_aload_n C dX7_init_41 rfl 1 rfl ?_
  refine z_getR C fl_RX7_21 rfl (kfw eK4 hk6) dX7_init_42 ?_
  refine z_iload_n C dX7_init_45 rfl 0 rfl ?_
  refine z_new2 C co_X8 cl_RX7_19 in_RX8 ii_RX8 (by rw [hrm]; exact Nat.le_of_ble_eq_true rfl) (by rw [hrm]; exact Nat.le_of_ble_eq_true rfl) dX7_init_46 (fun a4 m8 hk7 => ?_)
  refine z_dup C rfl dX7_init_49 ?_
  refine z_callI [] [va_rf (some a4), .int 0, va_rf (m7.R 806 th 0)] C mv_RX7_31 (fun r0 m0 h0 => M_X8_init _ _ _ _ _ _ h0) rfl rfl ⟨by rw [hrm]; exact Nat.le_of_ble_eq_true rfl, by rw [hrm]; exact Nat.le_of_ble_eq_true rfl⟩ rfl rfl rfl (by simp [cat_rf, cat_i, cat_l, cat_a]) dX7_init_50 ⟨by rw [hrm]; exact Nat.le_of_ble_eq_true rfl, by rw [hrm]; exact Nat.le_of_ble_eq_true rfl⟩ (fun r1 m9 => ?_)
  refine z_ck (fun a5 hr1 hk8 => ?_)
  refine z_chk (fun hk9 => ?_)
  refine z_chk (fun hj1 => ?_)
  refine z_aast C hr1 hk8 (by decide) (by decide) rfl hk9 (hc := rfl) rfl hj1 dX7_init_53 (fun m10 eK5 eN5 => ?_)
  refine z_aload_n C dX7_init_54 rfl 1 rfl ?_
  refine z_chk (fun hk10 => ?_)
  refine z_getR C fl_RX7_27 rfl hk10 dX7_init_55 ?_
  refine z_iload_n C dX7_init_58 rfl 0 rfl ?_
  refine z_new2 C co_X2 cl_RX7_25 in_RX2 ii_RX2 (by rw [hrm]; exact Nat.le_of_ble_eq_true rfl) (by rw [hrm]; exact Nat.le_of_ble_eq_true rfl) dX7_init_59 (fun a6 m11 hk11 => ?_)
  refine z_dup C rfl dX7_init_62 ?_
  refine z_callI [] [va_rf (some a6), .int 0, va_rf (m10.R 807 th 0)] C mv_RX7_32 (fun r0 m0 h0 => M_X2_init _ _ _ _ _ _ h0) rfl rfl ⟨by rw [hrm]; exact Nat.le_of_ble_eq_true rfl, by rw [hrm]; exact Nat.le_of_ble_eq_true rfl⟩ rfl rfl rfl (by simp [cat_rf, cat_i, cat_l, cat_a]) dX7_init_63 ⟨by rw [hrm]; exact Nat.le_of_ble_eq_true rfl, by rw [hrm]; exact Nat.le_of_ble_eq_true rfl⟩ (fun r2 m12 => ?_)
  refine z_ck (fun a7 hr2 hk12 => ?_)
  refine z_chk (fun hk13 => ?_)
  refine z_chk (fun hj2 => ?_)
  refine z_aast C hr2 hk12 (by decide) (by decide) rfl hk13 (hc := rfl) rfl hj2 dX7_init_66 (fun m13 eK6 eN6 => ?_)
  refine z_iincK (v := 1) (L2 := [(1, .int 1), (0, va_rf (some th))]) C dX7_init_67 0 rfl (by decide) (by decide) rfl ?_
  refine z_goto (tgt := 36) C dX7_init_70 (by decide) ?_
  refine z_iload_n C dX7_init_36 rfl 0 rfl ?_
  refine z_iconst (v := 3) C dX7_init_37 (by decide) ?_
  refine z_icmp_ge_f (tgt := 73) C dX7_init_38 (by decide) (by decide) ?_
  refine z_aload_n C dX7_init_41 rfl 1 rfl ?_
  refine z_chk (fun hk14 => ?_)
  refine z_getR C fl_RX7_21 rfl hk14 dX7_init_42 ?_
  refine z_iload_n C dX7_init_45 rfl 0 rfl ?_
  refine z_new2 C co_X8 cl_RX7_19 in_RX8 ii_RX8 (by rw [hrm]; exact Nat.le_of_ble_eq_true rfl) (by rw [hrm]; exact Nat.le_of_ble_eq_true rfl) dX7_init_46 (fun a8 m14 hk15 => ?_)
  refine z_dup C rfl dX7_init_49 ?_
  refine z_callI [] [va_rf (some a8), .int 1, va_rf (m13.R 806 th 0)] C mv_RX7_31 (fun r0 m0 h0 => M_X8_init _ _ _ _ _ _ h0) rfl rfl ⟨by rw [hrm]; exact Nat.le_of_ble_eq_true rfl, by rw [hrm]; exact Nat.le_of_ble_eq_true rfl⟩ rfl rfl rfl (by simp [cat_rf, cat_i, cat_l, cat_a]) dX7_init_50 ⟨by rw [hrm]; exact Nat.le_of_ble_eq_true rfl, by rw [hrm]; exact Nat.le_of_ble_eq_true rfl⟩ (fun r3 m15 => ?_)
  refine z_ck (fun a9 hr3 hk16 => ?_)
  refine z_chk (fun hk17 => ?_)
  refine z_chk (fun hj3 => ?_)
  refine z_aast C hr3 hk16 (by decide) (by decide) rfl hk17 (hc := rfl) rfl hj3 dX7_init_53 (fun m16 eK7 eN7 => ?_)
  refine z_aload_n C dX7_init_54 rfl 1 rfl ?_
  refine z_chk (fun hk18 => ?_)
  refine z_getR C fl_RX7_27 rfl hk18 dX7_init_55 ?_
  refine z_iload_n C dX7_init_58 rfl 0 rfl ?_
  refine z_new2 C co_X2 cl_RX7_25 in_RX2 ii_RX2 (by rw [hrm]; exact Nat.le_of_ble_eq_true rfl) (by rw [hrm]; exact Nat.le_of_ble_eq_true rfl) dX7_init_59 (fun a10 m17 hk19 => ?_)
  refine z_dup C rfl dX7_init_62 ?_
  refine z_callI [] [va_rf (some a10), .int 1, va_rf (m16.R 807 th 0)] C mv_RX7_32 (fun r0 m0 h0 => M_X2_init _ _ _ _ _ _ h0) rfl rfl ⟨by rw [hrm]; exact Nat.le_of_ble_eq_true rfl, by rw [hrm]; exact Nat.le_of_ble_eq_true rfl⟩ rfl rfl rfl (by simp [cat_rf, cat_i, cat_l, cat_a]) dX7_init_63 ⟨by rw [hrm]; exact Nat.le_of_ble_eq_true rfl, by rw [hrm]; exact Nat.le_of_ble_eq_true rfl⟩ (fun r4 m18 => ?_)
  refine z_ck (fun a11 hr4 hk20 => ?_)
  refine z_chk (fun hk21 => ?_)
  refine z_chk (fun hj4 => ?_)
  refine z_aast C hr4 hk20 (by decide) (by decide) rfl hk21 (hc := rfl) rfl hj4 dX7_init_66 (fun m19 eK8 eN8 => ?_)
  refine z_iincK (v := 2) (L2 := [(1, .int 2), (0, va_rf (some th))]) C dX7_init_67 0 rfl (by decide) (by decide) rfl ?_
  refine z_goto (tgt := 36) C dX7_init_70 (by decide) ?_
  refine z_iload_n C dX7_init_36 rfl 0 rfl ?_
  refine z_iconst (v := 3) C dX7_init_37 (by decide) ?_
  refine z_icmp_ge_f (tgt := 73) C dX7_init_38 (by decide) (by decide) ?_
  refine z_aload_n C dX7_init_41 rfl 1 rfl ?_
  refine z_chk (fun hk22 => ?_)
  refine z_getR C fl_RX7_21 rfl hk22 dX7_init_42 ?_
  refine z_iload_n C dX7_init_45 rfl 0 rfl ?_
  refine z_new2 C co_X8 cl_RX7_19 in_RX8 ii_RX8 (by rw [hrm]; exact Nat.le_of_ble_eq_true rfl) (by rw [hrm]; exact Nat.le_of_ble_eq_true rfl) dX7_init_46 (fun a12 m20 hk23 => ?_)
  refine z_dup C rfl dX7_init_49 ?_
  refine z_callI [] [va_rf (some a12), .int 2, va_rf (m19.R 806 th 0)] C mv_RX7_31 (fun r0 m0 h0 => M_X8_init _ _ _ _ _ _ h0) rfl rfl ⟨by rw [hrm]; exact Nat.le_of_ble_eq_true rfl, by rw [hrm]; exact Nat.le_of_ble_eq_true rfl⟩ rfl rfl rfl (by simp [cat_rf, cat_i, cat_l, cat_a]) dX7_init_50 ⟨by rw [hrm]; exact Nat.le_of_ble_eq_true rfl, by rw [hrm]; exact Nat.le_of_ble_eq_true rfl⟩ (fun r5 m21 => ?_)
  refine z_ck (fun a13 hr5 hk24 => ?_)
  refine z_chk (fun hk25 => ?_)
  refine z_chk (fun hj5 => ?_)
  refine z_aast C hr5 hk24 (by decide) (by decide) rfl hk25 (hc := rfl) rfl hj5 dX7_init_53 (fun m22 eK9 eN9 => ?_)
  refine z_aload_n C dX7_init_54 rfl 1 rfl ?_
  refine z_chk (fun hk26 => ?_)
  refine z_getR C fl_RX7_27 rfl hk26 dX7_init_55 ?_
  refine z_iload_n C dX7_init_58 rfl 0 rfl ?_
  refine z_new2 C co_X2 cl_RX7_25 in_RX2 ii_RX2 (by rw [hrm]; exact Nat.le_of_ble_eq_true rfl) (by rw [hrm]; exact Nat.le_of_ble_eq_true rfl) dX7_init_59 (fun a14 m23 hk27 => ?_)
  refine z_dup C rfl dX7_init_62 ?_
  refine z_callI [] [va_rf (some a14), .int 2, va_rf (m22.R 807 th 0)] C mv_RX7_32 (fun r0 m0 h0 => M_X2_init _ _ _ _ _ _ h0) rfl rfl ⟨by rw [hrm]; exact Nat.le_of_ble_eq_true rfl, by rw [hrm]; exact Nat.le_of_ble_eq_true rfl⟩ rfl rfl rfl (by simp [cat_rf, cat_i, cat_l, cat_a]) dX7_init_63 ⟨by rw [hrm]; exact Nat.le_of_ble_eq_true rfl, by rw [hrm]; exact Nat.le_of_ble_eq_true rfl⟩ (fun r6 m24 => ?_)
  refine z_ck (fun a15 hr6 hk28 => ?_)
  refine z_chk (fun hk29 => ?_)
  refine z_chk (fun hj6 => ?_)
  refine z_aast C hr6 hk28 (by decide) (by decide) rfl hk29 (hc := rfl) rfl hj6 dX7_init_66 (fun m25 eK10 eN10 => ?_)
  refine z_iincK (v := 3) (L2 := [(1, .int 3), (0, va_rf (some th))]) C dX7_init_67 0 rfl (by decide) (by decide) rfl ?_
  refine z_goto (tgt := 36) C dX7_init_70 (by decide) ?_
  refine z_iload_n C dX7_init_36 rfl 0 rfl ?_
  refine z_iconst (v := 3) C dX7_init_37 (by decide) ?_
  refine z_icmp_ge_t (tgt := 73) C dX7_init_38 (by decide) (by decide) ?_
  refine z_wid (k := 57) (n := 1562) (Nat.le_of_ble_eq_true rfl) (Nat.le_of_ble_eq_true rfl) ?_
  exact z_vret C hr dX7_init_73
theorem M_X7_init (l : Launch) (E : EX) (th : Nat) (m : MM) (r : Unit) (m2 : MM) (h : f_X7_init th m = some (r, m2)) : Met l yX7_init (.code yX7_init cX7_init 2 none :: TB) rmX7_init (va_Pc [.ref th] (St E m)) (QR E (emV r) m2) 57 1562 (AA E) :=
  met_of (em := emV) (plainFor_of_name rfl) (Nat.le_of_ble_eq_true rfl) (L0 := [(0, va_rf (some th))]) rfl (fun Γ _ hrm C hr hn => s_X7_init_0 C hr hrm hn th m) h

theorem dX7_putBytes_0 : decode cX7_putBytes 0 = .ok (.bipush 24, 2) := by decide +kernel
theorem dX7_putBytes_2 : decode cX7_putBytes 2 = .ok (.istore_n 2, 1) := by decide +kernel
theorem dX7_putBytes_3 : decode cX7_putBytes 3 = .ok (.iload_n 2, 1) := by decide +kernel
theorem dX7_putBytes_4 : decode cX7_putBytes 4 = .ok (.ifCond .lt 51, 3) := by decide +kernel
theorem dX7_putBytes_7 : decode cX7_putBytes 7 = .ok (.aload_n 0, 1) := by decide +kernel
theorem dX7_putBytes_8 : decode cX7_putBytes 8 = .ok (.getfield 33, 3) := by decide +kernel
theorem dX7_putBytes_11 : decode cX7_putBytes 11 = .ok (.ifCond .lt 38, 3) := by decide +kernel
theorem dX7_putBytes_14 : decode cX7_putBytes 14 = .ok (.aload_n 0, 1) := by decide +kernel
theorem dX7_putBytes_15 : decode cX7_putBytes 15 = .ok (.getfield 33, 3) := by decide +kernel
theorem dX7_putBytes_18 : decode cX7_putBytes 18 = .ok (.aload_n 0, 1) := by decide +kernel
theorem dX7_putBytes_19 : decode cX7_putBytes 19 = .ok (.getfield 9, 3) := by decide +kernel
theorem dX7_putBytes_22 : decode cX7_putBytes 22 = .ok (.arraylength, 1) := by decide +kernel
theorem dX7_putBytes_23 : decode cX7_putBytes 23 = .ok (.if_icmp .ge 26, 3) := by decide +kernel
theorem dX7_putBytes_26 : decode cX7_putBytes 26 = .ok (.aload_n 0, 1) := by decide +kernel
theorem dX7_putBytes_27 : decode cX7_putBytes 27 = .ok (.getfield 9, 3) := by decide +kernel
theorem dX7_putBytes_30 : decode cX7_putBytes 30 = .ok (.aload_n 0, 1) := by decide +kernel
theorem dX7_putBytes_31 : decode cX7_putBytes 31 = .ok (.getfield 33, 3) := by decide +kernel
theorem dX7_putBytes_34 : decode cX7_putBytes 34 = .ok (.iload_n 1, 1) := by decide +kernel
theorem dX7_putBytes_35 : decode cX7_putBytes 35 = .ok (.iload_n 2, 1) := by decide +kernel
theorem dX7_putBytes_36 : decode cX7_putBytes 36 = .ok (.iushr, 1) := by decide +kernel
theorem dX7_putBytes_37 : decode cX7_putBytes 37 = .ok (.i2b, 1) := by decide +kernel
theorem dX7_putBytes_38 : decode cX7_putBytes 38 = .ok (.bastore, 1) := by decide +kernel
theorem dX7_putBytes_39 : decode cX7_putBytes 39 = .ok (.aload_n 0, 1) := by decide +kernel
theorem dX7_putBytes_40 : decode cX7_putBytes 40 = .ok (.dup, 1) := by decide +kernel
theorem dX7_putBytes_41 : decode cX7_putBytes 41 = .ok (.getfield 33, 3) := by decide +kernel
theorem dX7_putBytes_44 : decode cX7_putBytes 44 = .ok (.iconst 1, 1) := by decide +kernel
theorem dX7_putBytes_45 : decode cX7_putBytes 45 = .ok (.iadd, 1) := by decide +kernel
theorem dX7_putBytes_46 : decode cX7_putBytes 46 = .ok (.putfield 33, 3) := by decide +kernel
theorem dX7_putBytes_49 : decode cX7_putBytes 49 = .ok (.iinc 2 (-8), 3) := by decide +kernel
theorem dX7_putBytes_52 : decode cX7_putBytes 52 = .ok (.goto (-49), 3) := by decide +kernel
theorem dX7_putBytes_55 : decode cX7_putBytes 55 = .ok (.return_, 1) := by decide +kernel
def rmX7_putBytes : Room := { frames := 0, cells := 0, slots := 0, locals := 0 }
set_option maxRecDepth 100000 in
def g_X7_putBytes_49 (th : Nat) (p1 : Int32) (k3 : Int32 → MM → Option (Unit × MM)) (x2 : Int32) (m : MM) : Option (Unit × MM) :=
  k3 (x2 + (-8)) m
set_option maxHeartbeats 4000000 in
set_option maxRecDepth 100000 in
theorem s_X7_putBytes_49 {Γ : GX} {E : EX} (C : Cx Γ E cX7_putBytes RX7 3) (hr : Γ.meth.sig.returnType = none) (hrm : Γ.rm = rmX7_putBytes) (th : Nat) (p1 : Int32) (k3 : Int32 → MM → Option (Unit × MM)) (h3 : ∀ (x2 : Int32) (m : MM), Sm (QM Γ E emV 0 0) Γ E 3 0 0 3 [(0, va_rf (some th)), (1, .int p1), (2, .int x2)] [] m (k3 x2 m)) (x2 : Int32) (m : MM) : Sm (QM Γ E emV 0 0) Γ E 3 0 0 49 [(0, va_rf (some th)), (1, .int p1), (2, .int x2)] [] m (g_X7_putBytes_49 th p1 k3 x2 m) := by
  unfold g_X7_putBytes_49
  refine z_iinc (v := (-8)) (L2 := [(2, .int (x2 + (-8))), (0, va_rf (some th)), (1, .int p1)]) C dX7_putBytes_49 2 rfl (by decide) (by decide) rfl ?_
  refine z_goto (tgt := 3) C dX7_putBytes_52 (by decide) ?_
  exact z_sub [1, 2, 0] rfl (h3 (x2 + (-8)) m)
set_option maxRecDepth 100000 in
def g_X7_putBytes_3 (th : Nat) (p1 : Int32) (k3 : Int32 → MM → Option (Unit × MM)) (x2 : Int32) (m : MM) : Option (Unit × MM) :=
  if x2 < 0 then (some ((), m)) else (chk (m.K th = 8) (if (m.I 801 th 0) < 0 then (g_X7_putBytes_49 th p1 k3 x2 m) else (ck m (m.R 800 th 0) 21 (fun a1 => if (Int32.ofNat (m.N a1)) ≤ (m.I 801 th 0) then (g_X7_putBytes_49 th p1 k3 x2 m) else (chk (inb (m.I 801 th 0) (m.N a1) = true) (bnd (m.sI 21 a1 (Int32.toNatClampNeg (m.I 801 th 0)) (Int32.toInt8 ((Int32.toInt8 (iush p1 x2)).toInt32)).toInt32) (fun m1 => bnd (m1.sI 801 th 0 ((m1.I 801 th 0) + 1)) (fun m2 => g_X7_putBytes_49 th p1 k3 x2 m2))))))))
set_option maxHeartbeats 4000000 in
set_option maxRecDepth 100000 in
theorem s_X7_putBytes_3 {Γ : GX} {E : EX} (C : Cx Γ E cX7_putBytes RX7 3) (hr : Γ.meth.sig.returnType = none) (hrm : Γ.rm = rmX7_putBytes) (th : Nat) (p1 : Int32) (k3 : Int32 → MM → Option (Unit × MM)) (h3 : ∀ (x2 : Int32) (m : MM), Sm (QM Γ E emV 0 0) Γ E 3 0 0 3 [(0, va_rf (some th)), (1, .int p1), (2, .int x2)] [] m (k3 x2 m)) (x2 : Int32) (m : MM) : Sm (QM Γ E emV 0 0) Γ E 3 0 0 3 [(0, va_rf (some th)), (1, .int p1), (2, .int x2)] [] m (g_X7_putBytes_3 th p1 k3 x2 m) := by
  unfold g_X7_putBytes_3
  refine z_iload_n C dX7_putBytes_3 rfl 2 rfl ?_
  refine z_if_lt (tgt := 55) C dX7_putBytes_4 (by decide) (fun c1 => ?_) (fun c1 => ?_)
  · exact z_vret C hr dX7_putBytes_55
  · refine z_aload_n C dX7_putBytes_7 rfl 0 rfl ?_
    refine z_chk (fun hk1 => ?_)
    refine z_getI C fl_RX7_33 rfl hk1 dX7_putBytes_8 ?_
    refine z_if_lt (tgt := 49) C dX7_putBytes_11 (by decide) (fun c2 => ?_) (fun c2 => ?_)
    · exact z_sub [0, 1, 2] rfl (s_X7_putBytes_49 C hr hrm th p1 k3 h3 x2 m)
    · refine z_aload_n C dX7_putBytes_14 rfl 0 rfl ?_
      refine z_getI C fl_RX7_33 rfl hk1 dX7_putBytes_15 ?_
      refine z_aload_n C dX7_putBytes_18 rfl 0 rfl ?_
      refine z_getR C fl_RX7_9 rfl hk1 dX7_putBytes_19 ?_
      refine z_ck (fun a1 hr1 hk2 => ?_)
      refine z_alen C hr1 hk2 (by decide) (by decide) dX7_putBytes_22 ?_
      refine z_icmp_ge (tgt := 49) C dX7_putBytes_23 (by decide) (fun c3 => ?_) (fun c3 => ?_)
      · exact z_sub [0, 1, 2] rfl (s_X7_putBytes_49 C hr hrm th p1 k3 h3 x2 m)
      · refine z_aload_n C dX7_putBytes_26 rfl 0 rfl ?_
        refine z_getR C fl_RX7_9 rfl hk1 dX7_putBytes_27 ?_
        refine z_aload_n C dX7_putBytes_30 rfl 0 rfl ?_
        refine z_getI C fl_RX7_33 rfl hk1 dX7_putBytes_31 ?_
        refine z_iload_n C dX7_putBytes_34 rfl 1 rfl ?_
        refine z_iload_n C dX7_putBytes_35 rfl 2 rfl ?_
        refine z_iushr C dX7_putBytes_36 ?_
        refine z_i2b C dX7_putBytes_37 ?_
        refine z_chk (fun hj1 => ?_)
        refine z_bast C hr1 hk2 hj1 dX7_putBytes_38 (fun m1 eK1 eN1 => ?_)
        refine z_aload_n C dX7_putBytes_39 rfl 0 rfl ?_
        refine z_dup C rfl dX7_putBytes_40 ?_
        refine z_getI C fl_RX7_33 rfl (kfw eK1 hk1) dX7_putBytes_41 ?_
        refine z_iconst (v := 1) C dX7_putBytes_44 (by decide) ?_
        refine z_iadd C dX7_putBytes_45 ?_
        refine z_putI C fl_RX7_33 (fun h => by cases h) rfl (kfw eK1 hk1) rfl rfl dX7_putBytes_46 (fun m2 eK2 eN2 => ?_)
        exact z_sub [0, 1, 2] rfl (s_X7_putBytes_49 C hr hrm th p1 k3 h3 x2 m2)
def l_X7_putBytes_3 (th : Nat) (p1 : Int32) : Nat → Int32 → MM → Option (Unit × MM) := lp (fun _ _ => none) (fun k3 => g_X7_putBytes_3 th p1 k3)
theorem t_X7_putBytes_3 {Γ : GX} {E : EX} (C : Cx Γ E cX7_putBytes RX7 3) (hr : Γ.meth.sig.returnType = none) (hrm : Γ.rm = rmX7_putBytes) (th : Nat) (p1 : Int32) : ∀ (n : Nat) (x2 : Int32) (m : MM), Sm (QM Γ E emV 0 0) Γ E 3 0 0 3 [(0, va_rf (some th)), (1, .int p1), (2, .int x2)] [] m (l_X7_putBytes_3 th p1 n x2 m) := by
  intro n
  induction n with
  | zero => intros; exact z_none
  | succ n ih => intro x2 m; exact s_X7_putBytes_3 C hr hrm th p1 (l_X7_putBytes_3 th p1 n) ih x2 m
set_option maxRecDepth 100000 in
def g_X7_putBytes_0 (th : Nat) (p1 : Int32) (m : MM) : Option (Unit × MM) :=
  l_X7_putBytes_3 th p1 FU 24 m
set_option maxHeartbeats 4000000 in
set_option maxRecDepth 100000 in
theorem s_X7_putBytes_0 {Γ : GX} {E : EX} (C : Cx Γ E cX7_putBytes RX7 3) (hr : Γ.meth.sig.returnType = none) (hrm : Γ.rm = rmX7_putBytes) (th : Nat) (p1 : Int32) (m : MM) : Sm (QM Γ E emV 0 0) Γ E 3 0 0 0 [(0, va_rf (some th)), (1, .int p1)] [] m (g_X7_putBytes_0 th p1 m) := by
  unfold g_X7_putBytes_0
  refine z_bipush (v := 24) C dX7_putBytes_0 (by decide) ?_
  refine z_istore_n (i := 2) (L2 := [(2, .int 24), (0, va_rf (some th)), (1, .int p1)]) C dX7_putBytes_2 rfl (by decide) rfl ?_
  exact z_sub [1, 2, 0] rfl (t_X7_putBytes_3 C hr hrm th p1 FU 24 m)
def f_X7_putBytes (th : Nat) (p1 : Int32) (m : MM) : Option (Unit × MM) := g_X7_putBytes_0 th p1 m
theorem M_X7_putBytes (l : Launch) (E : EX) (th : Nat) (p1 : Int32) (m : MM) (r : Unit) (m2 : MM) (h : f_X7_putBytes th p1 m = some (r, m2)) : Met l yX7_putBytes (.code yX7_putBytes cX7_putBytes 3 none :: TB) rmX7_putBytes (va_Pc [.ref th, .int p1] (St E m)) (QR E (emV r) m2) 0 0 (AA E) :=
  met_of (em := emV) (plainFor_of_name rfl) (Nat.le_of_ble_eq_true rfl) (L0 := [(0, va_rf (some th)), (1, .int p1)]) rfl (fun Γ _ hrm C hr hn => s_X7_putBytes_0 C hr hrm th p1 m) h

theorem dX7_setFault_0 : decode cX7_setFault 0 = .ok (.aload_n 0, 1) := by decide +kernel
theorem dX7_setFault_1 : decode cX7_setFault 1 = .ok (.iload_n 1, 1) := by decide +kernel
theorem dX7_setFault_2 : decode cX7_setFault 2 = .ok (.putfield 40, 3) := by decide +kernel
theorem dX7_setFault_5 : decode cX7_setFault 5 = .ok (.aload_n 0, 1) := by decide +kernel
theorem dX7_setFault_6 : decode cX7_setFault 6 = .ok (.iload_n 2, 1) := by decide +kernel
theorem dX7_setFault_7 : decode cX7_setFault 7 = .ok (.putfield 15, 3) := by decide +kernel
theorem dX7_setFault_10 : decode cX7_setFault 10 = .ok (.return_, 1) := by decide +kernel
def rmX7_setFault : Room := { frames := 0, cells := 0, slots := 0, locals := 0 }
set_option maxRecDepth 100000 in
def g_X7_setFault_0 (th : Nat) (p1 : Int32) (p2 : Int32) (m : MM) : Option (Unit × MM) :=
  chk (m.K th = 8) (bnd (m.sI 802 th 0 p1) (fun m1 => bnd (m1.sI 803 th 0 p2) (fun m2 => some ((), m2))))
set_option maxHeartbeats 4000000 in
set_option maxRecDepth 100000 in
theorem s_X7_setFault_0 {Γ : GX} {E : EX} (C : Cx Γ E cX7_setFault RX7 3) (hr : Γ.meth.sig.returnType = none) (hrm : Γ.rm = rmX7_setFault) (th : Nat) (p1 : Int32) (p2 : Int32) (m : MM) : Sm (QM Γ E emV 0 0) Γ E 3 0 0 0 [(0, va_rf (some th)), (1, .int p1), (2, .int p2)] [] m (g_X7_setFault_0 th p1 p2 m) := by
  unfold g_X7_setFault_0
  refine z_aload_n C dX7_setFault_0 rfl 0 rfl ?_
  refine z_iload_n C dX7_setFault_1 rfl 1 rfl ?_
  refine z_chk (fun hk1 => ?_)
  refine z_putI C fl_RX7_40 (fun h => by cases h) rfl hk1 rfl rfl dX7_setFault_2 (fun m1 eK1 eN1 => ?_)
  refine z_aload_n C dX7_setFault_5 rfl 0 rfl ?_
  refine z_iload_n C dX7_setFault_6 rfl 2 rfl ?_
  refine z_putI C fl_RX7_15 (fun h => by cases h) rfl (kfw eK1 hk1) rfl rfl dX7_setFault_7 (fun m2 eK2 eN2 => ?_)
  exact z_vret C hr dX7_setFault_10
def f_X7_setFault (th : Nat) (p1 : Int32) (p2 : Int32) (m : MM) : Option (Unit × MM) := g_X7_setFault_0 th p1 p2 m
theorem M_X7_setFault (l : Launch) (E : EX) (th : Nat) (p1 : Int32) (p2 : Int32) (m : MM) (r : Unit) (m2 : MM) (h : f_X7_setFault th p1 p2 m = some (r, m2)) : Met l yX7_setFault (.code yX7_setFault cX7_setFault 3 none :: TB) rmX7_setFault (va_Pc [.ref th, .int p1, .int p2] (St E m)) (QR E (emV r) m2) 0 0 (AA E) :=
  met_of (em := emV) (plainFor_of_name rfl) (Nat.le_of_ble_eq_true rfl) (L0 := [(0, va_rf (some th)), (1, .int p1), (2, .int p2)]) rfl (fun Γ _ hrm C hr hn => s_X7_setFault_0 C hr hrm th p1 p2 m) h

theorem dX7_takeTape_0 : decode cX7_takeTape 0 = .ok (.aload_n 0, 1) := by decide +kernel
theorem dX7_takeTape_1 : decode cX7_takeTape 1 = .ok (.getfield 33, 3) := by decide +kernel
theorem dX7_takeTape_4 : decode cX7_takeTape 4 = .ok (.istore_n 1, 1) := by decide +kernel
theorem dX7_takeTape_5 : decode cX7_takeTape 5 = .ok (.aload_n 0, 1) := by decide +kernel
theorem dX7_takeTape_6 : decode cX7_takeTape 6 = .ok (.iconst 0, 1) := by decide +kernel
theorem dX7_takeTape_7 : decode cX7_takeTape 7 = .ok (.putfield 33, 3) := by decide +kernel
theorem dX7_takeTape_10 : decode cX7_takeTape 10 = .ok (.aload_n 0, 1) := by decide +kernel
theorem dX7_takeTape_11 : decode cX7_takeTape 11 = .ok (.iconst 0, 1) := by decide +kernel
theorem dX7_takeTape_12 : decode cX7_takeTape 12 = .ok (.iconst (-1), 1) := by decide +kernel
theorem dX7_takeTape_13 : decode cX7_takeTape 13 = .ok (.invokevirtual 36, 3) := by decide +kernel
theorem dX7_takeTape_16 : decode cX7_takeTape 16 = .ok (.iload_n 1, 1) := by decide +kernel
theorem dX7_takeTape_17 : decode cX7_takeTape 17 = .ok (.ireturn, 1) := by decide +kernel
def rmX7_takeTape : Room := { frames := 1, cells := 0, slots := 0, locals := 22 }
set_option maxRecDepth 100000 in
def g_X7_takeTape_0 (th : Nat) (m : MM) : Option (Int32 × MM) :=
  chk (m.K th = 8) (bnd (m.I 801 th 0) (fun y1 => bnd (m.sI 801 th 0 0) (fun m1 => cal (f_X7_setFault th 0 (-1) m1) (fun r1 m2 => some (y1, m2)))))
set_option maxHeartbeats 4000000 in
set_option maxRecDepth 100000 in
theorem s_X7_takeTape_0 {Γ : GX} {E : EX} (C : Cx Γ E cX7_takeTape RX7 2) (hr : Γ.meth.sig.returnType = (some .int)) (hrm : Γ.rm = rmX7_takeTape) (th : Nat) (m : MM) : Sm (QM Γ E emI 0 0) Γ E 2 0 0 0 [(0, va_rf (some th))] [] m (g_X7_takeTape_0 th m) := by
  unfold g_X7_takeTape_0
  refine z_aload_n C dX7_takeTape_0 rfl 0 rfl ?_
  refine z_chk (fun hk1 => ?_)
  refine z_getI C fl_RX7_33 rfl hk1 dX7_takeTape_1 ?_
  refine z_bndI (fun y1 => ?_)
  refine z_istore_n (i := 1) (L2 := [(1, .int y1), (0, va_rf (some th))]) C dX7_takeTape_4 rfl (by decide) rfl ?_
  refine z_aload_n C dX7_takeTape_5 rfl 1 rfl ?_
  refine z_iconst (v := 0) C dX7_takeTape_6 (by decide) ?_
  refine z_putI C fl_RX7_33 (fun h => by cases h) rfl hk1 rfl rfl dX7_takeTape_7 (fun m1 eK1 eN1 => ?_)
  refine z_aload_n C dX7_takeTape_10 rfl 1 rfl ?_
  refine z_iconst (v := 0) C dX7_takeTape_11 (by decide) ?_
  refine z_iconst (v := (-1)) C dX7_takeTape_12 (by decide) ?_
  refine z_cVV [.int 0, .int (-1)] [] C mv_RX7_36 (fun r0 m0 h0 => M_X7_setFault _ _ _ _ _ _ _ _ h0) rfl rfl ⟨by rw [hrm]; exact Nat.le_of_ble_eq_true rfl, by rw [hrm]; exact Nat.le_of_ble_eq_true rfl⟩ ⟨by rw [hrm]; exact Nat.le_of_ble_eq_true rfl, by rw [hrm]; exact Nat.le_of_ble_eq_true rfl⟩ rfl (kfw eK1 hk1) rfl rfl rfl (Nat.le_of_ble_eq_true rfl) dX7_takeTape_13 (fun r1 m2 => ?_)
  refine z_iload_n C dX7_takeTape_16 rfl 0 rfl ?_
  exact z_iret C hr dX7_takeTape_17
def f_X7_takeTape (th : Nat) (m : MM) : Option (Int32 × MM) := g_X7_takeTape_0 th m
theorem M_X7_takeTape (l : Launch) (E : EX) (th : Nat) (m : MM) (r : Int32) (m2 : MM) (h : f_X7_takeTape th m = some (r, m2)) : Met l yX7_takeTape (.code yX7_takeTape cX7_takeTape 2 (some .int) :: TB) rmX7_takeTape (va_Pc [.ref th] (St E m)) (QR E (emI r) m2) 0 0 (AA E) :=
  met_of (em := emI) (plainFor_of_name rfl) (Nat.le_of_ble_eq_true rfl) (L0 := [(0, va_rf (some th))]) rfl (fun Γ _ hrm C hr hn => s_X7_takeTape_0 C hr hrm th m) h

theorem dX7_townSeat_0 : decode cX7_townSeat 0 = .ok (.iload_n 1, 1) := by decide +kernel
theorem dX7_townSeat_1 : decode cX7_townSeat 1 = .ok (.ifCond .lt 21, 3) := by decide +kernel
theorem dX7_townSeat_4 : decode cX7_townSeat 4 = .ok (.iload_n 1, 1) := by decide +kernel
theorem dX7_townSeat_5 : decode cX7_townSeat 5 = .ok (.aload_n 0, 1) := by decide +kernel
theorem dX7_townSeat_6 : decode cX7_townSeat 6 = .ok (.getfield 21, 3) := by decide +kernel
theorem dX7_townSeat_9 : decode cX7_townSeat 9 = .ok (.arraylength, 1) := by decide +kernel
theorem dX7_townSeat_10 : decode cX7_townSeat 10 = .ok (.if_icmp .ge 12, 3) := by decide +kernel
theorem dX7_townSeat_13 : decode cX7_townSeat 13 = .ok (.aload_n 0, 1) := by decide +kernel
theorem dX7_townSeat_14 : decode cX7_townSeat 14 = .ok (.getfield 21, 3) := by decide +kernel
theorem dX7_townSeat_17 : decode cX7_townSeat 17 = .ok (.iload_n 1, 1) := by decide +kernel
theorem dX7_townSeat_18 : decode cX7_townSeat 18 = .ok (.aaload, 1) := by decide +kernel
theorem dX7_townSeat_19 : decode cX7_townSeat 19 = .ok (.goto 4, 3) := by decide +kernel
theorem dX7_townSeat_22 : decode cX7_townSeat 22 = .ok (.aconst_null, 1) := by decide +kernel
theorem dX7_townSeat_23 : decode cX7_townSeat 23 = .ok (.areturn, 1) := by decide +kernel
def rmX7_townSeat : Room := { frames := 0, cells := 0, slots := 0, locals := 0 }
set_option maxRecDepth 100000 in
def g_X7_townSeat_22 (th : Nat) (p1 : Int32) (m : MM) : Option (Option Nat × MM) :=
  some (none, m)
set_option maxHeartbeats 4000000 in
set_option maxRecDepth 100000 in
theorem s_X7_townSeat_22 {Γ : GX} {E : EX} (C : Cx Γ E cX7_townSeat RX7 2) (hr : Γ.meth.sig.returnType = (some (.object "FarTown$Town"))) (hrm : Γ.rm = rmX7_townSeat) (th : Nat) (p1 : Int32) (m : MM) : Sm (QM Γ E emR 0 0) Γ E 2 0 0 22 [(0, va_rf (some th)), (1, .int p1)] [] m (g_X7_townSeat_22 th p1 m) := by
  unfold g_X7_townSeat_22
  refine z_null C dX7_townSeat_22 ?_
  exact z_aret C hr dX7_townSeat_23
set_option maxRecDepth 100000 in
def g_X7_townSeat_0 (th : Nat) (p1 : Int32) (m : MM) : Option (Option Nat × MM) :=
  if p1 < 0 then (g_X7_townSeat_22 th p1 m) else (chk (m.K th = 8) (ck m (m.R 806 th 0) 28 (fun a1 => if (Int32.ofNat (m.N a1)) ≤ p1 then (g_X7_townSeat_22 th p1 m) else (chk (inb p1 (m.N a1) = true) (some (m.R 28 a1 (Int32.toNatClampNeg p1), m))))))
set_option maxHeartbeats 4000000 in
set_option maxRecDepth 100000 in
theorem s_X7_townSeat_0 {Γ : GX} {E : EX} (C : Cx Γ E cX7_townSeat RX7 2) (hr : Γ.meth.sig.returnType = (some (.object "FarTown$Town"))) (hrm : Γ.rm = rmX7_townSeat) (th : Nat) (p1 : Int32) (m : MM) : Sm (QM Γ E emR 0 0) Γ E 2 0 0 0 [(0, va_rf (some th)), (1, .int p1)] [] m (g_X7_townSeat_0 th p1 m) := by
  unfold g_X7_townSeat_0
  refine z_iload_n C dX7_townSeat_0 rfl 1 rfl ?_
  refine z_if_lt (tgt := 22) C dX7_townSeat_1 (by decide) (fun c1 => ?_) (fun c1 => ?_)
  · exact z_sub [0, 1] rfl (s_X7_townSeat_22 C hr hrm th p1 m)
  · refine z_iload_n C dX7_townSeat_4 rfl 1 rfl ?_
    refine z_aload_n C dX7_townSeat_5 rfl 0 rfl ?_
    refine z_chk (fun hk1 => ?_)
    refine z_getR C fl_RX7_21 rfl hk1 dX7_townSeat_6 ?_
    refine z_ck (fun a1 hr1 hk2 => ?_)
    refine z_alen C hr1 hk2 (by decide) (by decide) dX7_townSeat_9 ?_
    refine z_icmp_ge (tgt := 22) C dX7_townSeat_10 (by decide) (fun c2 => ?_) (fun c2 => ?_)
    · exact z_sub [0, 1] rfl (s_X7_townSeat_22 C hr hrm th p1 m)
    · refine z_aload_n C dX7_townSeat_13 rfl 0 rfl ?_
      refine z_getR C fl_RX7_21 rfl hk1 dX7_townSeat_14 ?_
      refine z_iload_n C dX7_townSeat_17 rfl 1 rfl ?_
      refine z_chk (fun hj1 => ?_)
      refine z_aald C hr1 hk2 (by decide) (by decide) hj1 dX7_townSeat_18 ?_
      refine z_goto (tgt := 23) C dX7_townSeat_19 (by decide) ?_
      exact z_aret C hr dX7_townSeat_23
def f_X7_townSeat (th : Nat) (p1 : Int32) (m : MM) : Option (Option Nat × MM) := g_X7_townSeat_0 th p1 m
theorem M_X7_townSeat (l : Launch) (E : EX) (th : Nat) (p1 : Int32) (m : MM) (r : Option Nat) (m2 : MM) (h : f_X7_townSeat th p1 m = some (r, m2)) : Met l yX7_townSeat (.code yX7_townSeat cX7_townSeat 2 (some (.object "FarTown$Town")) :: TB) rmX7_townSeat (va_Pc [.ref th, .int p1] (St E m)) (QR E (emR r) m2) 0 0 (AA E) :=
  met_of (em := emR) (plainFor_of_name rfl) (Nat.le_of_ble_eq_true rfl) (L0 := [(0, va_rf (some th)), (1, .int p1)]) rfl (fun Γ _ hrm C hr hn => s_X7_townSeat_0 C hr hrm th p1 m) h

theorem dX7_lawSeat_0 : decode cX7_lawSeat 0 = .ok (.iload_n 1, 1) := by decide +kernel
theorem dX7_lawSeat_1 : decode cX7_lawSeat 1 = .ok (.ifCond .lt 21, 3) := by decide +kernel
theorem dX7_lawSeat_4 : decode cX7_lawSeat 4 = .ok (.iload_n 1, 1) := by decide +kernel
theorem dX7_lawSeat_5 : decode cX7_lawSeat 5 = .ok (.aload_n 0, 1) := by decide +kernel
theorem dX7_lawSeat_6 : decode cX7_lawSeat 6 = .ok (.getfield 27, 3) := by decide +kernel
theorem dX7_lawSeat_9 : decode cX7_lawSeat 9 = .ok (.arraylength, 1) := by decide +kernel
theorem dX7_lawSeat_10 : decode cX7_lawSeat 10 = .ok (.if_icmp .ge 12, 3) := by decide +kernel
theorem dX7_lawSeat_13 : decode cX7_lawSeat 13 = .ok (.aload_n 0, 1) := by decide +kernel
theorem dX7_lawSeat_14 : decode cX7_lawSeat 14 = .ok (.getfield 27, 3) := by decide +kernel
theorem dX7_lawSeat_17 : decode cX7_lawSeat 17 = .ok (.iload_n 1, 1) := by decide +kernel
theorem dX7_lawSeat_18 : decode cX7_lawSeat 18 = .ok (.aaload, 1) := by decide +kernel
theorem dX7_lawSeat_19 : decode cX7_lawSeat 19 = .ok (.goto 4, 3) := by decide +kernel
theorem dX7_lawSeat_22 : decode cX7_lawSeat 22 = .ok (.aconst_null, 1) := by decide +kernel
theorem dX7_lawSeat_23 : decode cX7_lawSeat 23 = .ok (.areturn, 1) := by decide +kernel
def rmX7_lawSeat : Room := { frames := 0, cells := 0, slots := 0, locals := 0 }
set_option maxRecDepth 100000 in
def g_X7_lawSeat_22 (th : Nat) (p1 : Int32) (m : MM) : Option (Option Nat × MM) :=
  some (none, m)
set_option maxHeartbeats 4000000 in
set_option maxRecDepth 100000 in
theorem s_X7_lawSeat_22 {Γ : GX} {E : EX} (C : Cx Γ E cX7_lawSeat RX7 2) (hr : Γ.meth.sig.returnType = (some (.object "FarTown$Law"))) (hrm : Γ.rm = rmX7_lawSeat) (th : Nat) (p1 : Int32) (m : MM) : Sm (QM Γ E emR 0 0) Γ E 2 0 0 22 [(0, va_rf (some th)), (1, .int p1)] [] m (g_X7_lawSeat_22 th p1 m) := by
  unfold g_X7_lawSeat_22
  refine z_null C dX7_lawSeat_22 ?_
  exact z_aret C hr dX7_lawSeat_23
set_option maxRecDepth 100000 in
def g_X7_lawSeat_0 (th : Nat) (p1 : Int32) (m : MM) : Option (Option Nat × MM) :=
  if p1 < 0 then (g_X7_lawSeat_22 th p1 m) else (chk (m.K th = 8) (ck m (m.R 807 th 0) 26 (fun a1 => if (Int32.ofNat (m.N a1)) ≤ p1 then (g_X7_lawSeat_22 th p1 m) else (chk (inb p1 (m.N a1) = true) (some (m.R 26 a1 (Int32.toNatClampNeg p1), m))))))
set_option maxHeartbeats 4000000 in
set_option maxRecDepth 100000 in
theorem s_X7_lawSeat_0 {Γ : GX} {E : EX} (C : Cx Γ E cX7_lawSeat RX7 2) (hr : Γ.meth.sig.returnType = (some (.object "FarTown$Law"))) (hrm : Γ.rm = rmX7_lawSeat) (th : Nat) (p1 : Int32) (m : MM) : Sm (QM Γ E emR 0 0) Γ E 2 0 0 0 [(0, va_rf (some th)), (1, .int p1)] [] m (g_X7_lawSeat_0 th p1 m) := by
  unfold g_X7_lawSeat_0
  refine z_iload_n C dX7_lawSeat_0 rfl 1 rfl ?_
  refine z_if_lt (tgt := 22) C dX7_lawSeat_1 (by decide) (fun c1 => ?_) (fun c1 => ?_)
  · exact z_sub [0, 1] rfl (s_X7_lawSeat_22 C hr hrm th p1 m)
  · refine z_iload_n C dX7_lawSeat_4 rfl 1 rfl ?_
    refine z_aload_n C dX7_lawSeat_5 rfl 0 rfl ?_
    refine z_chk (fun hk1 => ?_)
    refine z_getR C fl_RX7_27 rfl hk1 dX7_lawSeat_6 ?_
    refine z_ck (fun a1 hr1 hk2 => ?_)
    refine z_alen C hr1 hk2 (by decide) (by decide) dX7_lawSeat_9 ?_
    refine z_icmp_ge (tgt := 22) C dX7_lawSeat_10 (by decide) (fun c2 => ?_) (fun c2 => ?_)
    · exact z_sub [0, 1] rfl (s_X7_lawSeat_22 C hr hrm th p1 m)
    · refine z_aload_n C dX7_lawSeat_13 rfl 0 rfl ?_
      refine z_getR C fl_RX7_27 rfl hk1 dX7_lawSeat_14 ?_
      refine z_iload_n C dX7_lawSeat_17 rfl 1 rfl ?_
      refine z_chk (fun hj1 => ?_)
      refine z_aald C hr1 hk2 (by decide) (by decide) hj1 dX7_lawSeat_18 ?_
      refine z_goto (tgt := 23) C dX7_lawSeat_19 (by decide) ?_
      exact z_aret C hr dX7_lawSeat_23
def f_X7_lawSeat (th : Nat) (p1 : Int32) (m : MM) : Option (Option Nat × MM) := g_X7_lawSeat_0 th p1 m
theorem M_X7_lawSeat (l : Launch) (E : EX) (th : Nat) (p1 : Int32) (m : MM) (r : Option Nat) (m2 : MM) (h : f_X7_lawSeat th p1 m = some (r, m2)) : Met l yX7_lawSeat (.code yX7_lawSeat cX7_lawSeat 2 (some (.object "FarTown$Law")) :: TB) rmX7_lawSeat (va_Pc [.ref th, .int p1] (St E m)) (QR E (emR r) m2) 0 0 (AA E) :=
  met_of (em := emR) (plainFor_of_name rfl) (Nat.le_of_ble_eq_true rfl) (L0 := [(0, va_rf (some th)), (1, .int p1)]) rfl (fun Γ _ hrm C hr hn => s_X7_lawSeat_0 C hr hrm th p1 m) h

theorem dX7_townAt_0 : decode cX7_townAt 0 = .ok (.iload_n 1, 1) := by decide +kernel
theorem dX7_townAt_1 : decode cX7_townAt 1 = .ok (.aload_n 0, 1) := by decide +kernel
theorem dX7_townAt_2 : decode cX7_townAt 2 = .ok (.getfield 43, 3) := by decide +kernel
theorem dX7_townAt_5 : decode cX7_townAt 5 = .ok (.if_icmp .ge 11, 3) := by decide +kernel
theorem dX7_townAt_8 : decode cX7_townAt 8 = .ok (.aload_n 0, 1) := by decide +kernel
theorem dX7_townAt_9 : decode cX7_townAt 9 = .ok (.iload_n 1, 1) := by decide +kernel
theorem dX7_townAt_10 : decode cX7_townAt 10 = .ok (.invokevirtual 46, 3) := by decide +kernel
theorem dX7_townAt_13 : decode cX7_townAt 13 = .ok (.goto 4, 3) := by decide +kernel
theorem dX7_townAt_16 : decode cX7_townAt 16 = .ok (.aconst_null, 1) := by decide +kernel
theorem dX7_townAt_17 : decode cX7_townAt 17 = .ok (.areturn, 1) := by decide +kernel
def rmX7_townAt : Room := { frames := 1, cells := 0, slots := 0, locals := 21 }
set_option maxRecDepth 100000 in
def g_X7_townAt_0 (th : Nat) (p1 : Int32) (m : MM) : Option (Option Nat × MM) :=
  chk (m.K th = 8) (if (m.I 804 th 0) ≤ p1 then (some (none, m)) else (cal (f_X7_townSeat th p1 m) (fun r1 m1 => some (r1, m1))))
set_option maxHeartbeats 4000000 in
set_option maxRecDepth 100000 in
theorem s_X7_townAt_0 {Γ : GX} {E : EX} (C : Cx Γ E cX7_townAt RX7 2) (hr : Γ.meth.sig.returnType = (some (.object "FarTown$Town"))) (hrm : Γ.rm = rmX7_townAt) (th : Nat) (p1 : Int32) (m : MM) : Sm (QM Γ E emR 0 0) Γ E 2 0 0 0 [(0, va_rf (some th)), (1, .int p1)] [] m (g_X7_townAt_0 th p1 m) := by
  unfold g_X7_townAt_0
  refine z_iload_n C dX7_townAt_0 rfl 1 rfl ?_
  refine z_aload_n C dX7_townAt_1 rfl 0 rfl ?_
  refine z_chk (fun hk1 => ?_)
  refine z_getI C fl_RX7_43 rfl hk1 dX7_townAt_2 ?_
  refine z_icmp_ge (tgt := 16) C dX7_townAt_5 (by decide) (fun c1 => ?_) (fun c1 => ?_)
  · refine z_null C dX7_townAt_16 ?_
    exact z_aret C hr dX7_townAt_17
  · refine z_aload_n C dX7_townAt_8 rfl 0 rfl ?_
    refine z_iload_n C dX7_townAt_9 rfl 1 rfl ?_
    refine z_cVR [.int p1] [] C mv_RX7_46 (fun r0 m0 h0 => M_X7_townSeat _ _ _ _ _ _ _ h0) rfl rfl ⟨by rw [hrm]; exact Nat.le_of_ble_eq_true rfl, by rw [hrm]; exact Nat.le_of_ble_eq_true rfl⟩ ⟨by rw [hrm]; exact Nat.le_of_ble_eq_true rfl, by rw [hrm]; exact Nat.le_of_ble_eq_true rfl⟩ rfl hk1 rfl rfl rfl (Nat.le_of_ble_eq_true rfl) dX7_townAt_10 (fun r1 m1 => ?_)
    refine z_goto (tgt := 17) C dX7_townAt_13 (by decide) ?_
    exact z_aret C hr dX7_townAt_17
def f_X7_townAt (th : Nat) (p1 : Int32) (m : MM) : Option (Option Nat × MM) := g_X7_townAt_0 th p1 m
theorem M_X7_townAt (l : Launch) (E : EX) (th : Nat) (p1 : Int32) (m : MM) (r : Option Nat) (m2 : MM) (h : f_X7_townAt th p1 m = some (r, m2)) : Met l yX7_townAt (.code yX7_townAt cX7_townAt 2 (some (.object "FarTown$Town")) :: TB) rmX7_townAt (va_Pc [.ref th, .int p1] (St E m)) (QR E (emR r) m2) 0 0 (AA E) :=
  met_of (em := emR) (plainFor_of_name rfl) (Nat.le_of_ble_eq_true rfl) (L0 := [(0, va_rf (some th)), (1, .int p1)]) rfl (fun Γ _ hrm C hr hn => s_X7_townAt_0 C hr hrm th p1 m) h

theorem dX7_lawAt_0 : decode cX7_lawAt 0 = .ok (.iload_n 1, 1) := by decide +kernel
theorem dX7_lawAt_1 : decode cX7_lawAt 1 = .ok (.aload_n 0, 1) := by decide +kernel
theorem dX7_lawAt_2 : decode cX7_lawAt 2 = .ok (.getfield 50, 3) := by decide +kernel
theorem dX7_lawAt_5 : decode cX7_lawAt 5 = .ok (.if_icmp .ge 11, 3) := by decide +kernel
theorem dX7_lawAt_8 : decode cX7_lawAt 8 = .ok (.aload_n 0, 1) := by decide +kernel
theorem dX7_lawAt_9 : decode cX7_lawAt 9 = .ok (.iload_n 1, 1) := by decide +kernel
theorem dX7_lawAt_10 : decode cX7_lawAt 10 = .ok (.invokevirtual 53, 3) := by decide +kernel
theorem dX7_lawAt_13 : decode cX7_lawAt 13 = .ok (.goto 4, 3) := by decide +kernel
theorem dX7_lawAt_16 : decode cX7_lawAt 16 = .ok (.aconst_null, 1) := by decide +kernel
theorem dX7_lawAt_17 : decode cX7_lawAt 17 = .ok (.areturn, 1) := by decide +kernel
def rmX7_lawAt : Room := { frames := 1, cells := 0, slots := 0, locals := 21 }
set_option maxRecDepth 100000 in
def g_X7_lawAt_0 (th : Nat) (p1 : Int32) (m : MM) : Option (Option Nat × MM) :=
  chk (m.K th = 8) (if (m.I 805 th 0) ≤ p1 then (some (none, m)) else (cal (f_X7_lawSeat th p1 m) (fun r1 m1 => some (r1, m1))))
set_option maxHeartbeats 4000000 in
set_option maxRecDepth 100000 in
theorem s_X7_lawAt_0 {Γ : GX} {E : EX} (C : Cx Γ E cX7_lawAt RX7 2) (hr : Γ.meth.sig.returnType = (some (.object "FarTown$Law"))) (hrm : Γ.rm = rmX7_lawAt) (th : Nat) (p1 : Int32) (m : MM) : Sm (QM Γ E emR 0 0) Γ E 2 0 0 0 [(0, va_rf (some th)), (1, .int p1)] [] m (g_X7_lawAt_0 th p1 m) := by
  unfold g_X7_lawAt_0
  refine z_iload_n C dX7_lawAt_0 rfl 1 rfl ?_
  refine z_aload_n C dX7_lawAt_1 rfl 0 rfl ?_
  refine z_chk (fun hk1 => ?_)
  refine z_getI C fl_RX7_50 rfl hk1 dX7_lawAt_2 ?_
  refine z_icmp_ge (tgt := 16) C dX7_lawAt_5 (by decide) (fun c1 => ?_) (fun c1 => ?_)
  · refine z_null C dX7_lawAt_16 ?_
    exact z_aret C hr dX7_lawAt_17
  · refine z_aload_n C dX7_lawAt_8 rfl 0 rfl ?_
    refine z_iload_n C dX7_lawAt_9 rfl 1 rfl ?_
    refine z_cVR [.int p1] [] C mv_RX7_53 (fun r0 m0 h0 => M_X7_lawSeat _ _ _ _ _ _ _ h0) rfl rfl ⟨by rw [hrm]; exact Nat.le_of_ble_eq_true rfl, by rw [hrm]; exact Nat.le_of_ble_eq_true rfl⟩ ⟨by rw [hrm]; exact Nat.le_of_ble_eq_true rfl, by rw [hrm]; exact Nat.le_of_ble_eq_true rfl⟩ rfl hk1 rfl rfl rfl (Nat.le_of_ble_eq_true rfl) dX7_lawAt_10 (fun r1 m1 => ?_)
    refine z_goto (tgt := 17) C dX7_lawAt_13 (by decide) ?_
    exact z_aret C hr dX7_lawAt_17
def f_X7_lawAt (th : Nat) (p1 : Int32) (m : MM) : Option (Option Nat × MM) := g_X7_lawAt_0 th p1 m
theorem M_X7_lawAt (l : Launch) (E : EX) (th : Nat) (p1 : Int32) (m : MM) (r : Option Nat) (m2 : MM) (h : f_X7_lawAt th p1 m = some (r, m2)) : Met l yX7_lawAt (.code yX7_lawAt cX7_lawAt 2 (some (.object "FarTown$Law")) :: TB) rmX7_lawAt (va_Pc [.ref th, .int p1] (St E m)) (QR E (emR r) m2) 0 0 (AA E) :=
  met_of (em := emR) (plainFor_of_name rfl) (Nat.le_of_ble_eq_true rfl) (L0 := [(0, va_rf (some th)), (1, .int p1)]) rfl (fun Γ _ hrm C hr hn => s_X7_lawAt_0 C hr hrm th p1 m) h

theorem dX7_take_0 : decode cX7_take 0 = .ok (.aload_n 1, 1) := by decide +kernel
theorem dX7_take_1 : decode cX7_take 1 = .ok (.ifnonnull 4, 3) := by decide +kernel
theorem dX7_take_4 : decode cX7_take 4 = .ok (.return_, 1) := by decide +kernel
theorem dX7_take_5 : decode cX7_take 5 = .ok (.iconst 0, 1) := by decide +kernel
theorem dX7_take_6 : decode cX7_take 6 = .ok (.istore_n 2, 1) := by decide +kernel
theorem dX7_take_7 : decode cX7_take 7 = .ok (.iload_n 2, 1) := by decide +kernel
theorem dX7_take_8 : decode cX7_take 8 = .ok (.aload_n 0, 1) := by decide +kernel
theorem dX7_take_9 : decode cX7_take 9 = .ok (.getfield 9, 3) := by decide +kernel
theorem dX7_take_12 : decode cX7_take 12 = .ok (.arraylength, 1) := by decide +kernel
theorem dX7_take_13 : decode cX7_take 13 = .ok (.if_icmp .ge 30, 3) := by decide +kernel
theorem dX7_take_16 : decode cX7_take 16 = .ok (.iload_n 2, 1) := by decide +kernel
theorem dX7_take_17 : decode cX7_take 17 = .ok (.aload_n 1, 1) := by decide +kernel
theorem dX7_take_18 : decode cX7_take 18 = .ok (.getfield 9, 3) := by decide +kernel
theorem dX7_take_21 : decode cX7_take 21 = .ok (.arraylength, 1) := by decide +kernel
theorem dX7_take_22 : decode cX7_take 22 = .ok (.if_icmp .ge 21, 3) := by decide +kernel
theorem dX7_take_25 : decode cX7_take 25 = .ok (.aload_n 0, 1) := by decide +kernel
theorem dX7_take_26 : decode cX7_take 26 = .ok (.getfield 9, 3) := by decide +kernel
theorem dX7_take_29 : decode cX7_take 29 = .ok (.iload_n 2, 1) := by decide +kernel
theorem dX7_take_30 : decode cX7_take 30 = .ok (.aload_n 1, 1) := by decide +kernel
theorem dX7_take_31 : decode cX7_take 31 = .ok (.getfield 9, 3) := by decide +kernel
theorem dX7_take_34 : decode cX7_take 34 = .ok (.iload_n 2, 1) := by decide +kernel
theorem dX7_take_35 : decode cX7_take 35 = .ok (.baload, 1) := by decide +kernel
theorem dX7_take_36 : decode cX7_take 36 = .ok (.bastore, 1) := by decide +kernel
theorem dX7_take_37 : decode cX7_take 37 = .ok (.iinc 2 1, 3) := by decide +kernel
theorem dX7_take_40 : decode cX7_take 40 = .ok (.goto (-33), 3) := by decide +kernel
theorem dX7_take_43 : decode cX7_take 43 = .ok (.aload_n 0, 1) := by decide +kernel
theorem dX7_take_44 : decode cX7_take 44 = .ok (.aload_n 1, 1) := by decide +kernel
theorem dX7_take_45 : decode cX7_take 45 = .ok (.getfield 33, 3) := by decide +kernel
theorem dX7_take_48 : decode cX7_take 48 = .ok (.putfield 33, 3) := by decide +kernel
theorem dX7_take_51 : decode cX7_take 51 = .ok (.aload_n 0, 1) := by decide +kernel
theorem dX7_take_52 : decode cX7_take 52 = .ok (.aload_n 1, 1) := by decide +kernel
theorem dX7_take_53 : decode cX7_take 53 = .ok (.getfield 40, 3) := by decide +kernel
theorem dX7_take_56 : decode cX7_take 56 = .ok (.putfield 40, 3) := by decide +kernel
theorem dX7_take_59 : decode cX7_take 59 = .ok (.aload_n 0, 1) := by decide +kernel
theorem dX7_take_60 : decode cX7_take 60 = .ok (.aload_n 1, 1) := by decide +kernel
theorem dX7_take_61 : decode cX7_take 61 = .ok (.getfield 15, 3) := by decide +kernel
theorem dX7_take_64 : decode cX7_take 64 = .ok (.putfield 15, 3) := by decide +kernel
theorem dX7_take_67 : decode cX7_take 67 = .ok (.aload_n 0, 1) := by decide +kernel
theorem dX7_take_68 : decode cX7_take 68 = .ok (.aload_n 1, 1) := by decide +kernel
theorem dX7_take_69 : decode cX7_take 69 = .ok (.getfield 43, 3) := by decide +kernel
theorem dX7_take_72 : decode cX7_take 72 = .ok (.putfield 43, 3) := by decide +kernel
theorem dX7_take_75 : decode cX7_take 75 = .ok (.aload_n 0, 1) := by decide +kernel
theorem dX7_take_76 : decode cX7_take 76 = .ok (.aload_n 1, 1) := by decide +kernel
theorem dX7_take_77 : decode cX7_take 77 = .ok (.getfield 50, 3) := by decide +kernel
theorem dX7_take_80 : decode cX7_take 80 = .ok (.putfield 50, 3) := by decide +kernel
theorem dX7_take_83 : decode cX7_take 83 = .ok (.iconst 0, 1) := by decide +kernel
theorem dX7_take_84 : decode cX7_take 84 = .ok (.istore_n 2, 1) := by decide +kernel
theorem dX7_take_85 : decode cX7_take 85 = .ok (.iload_n 2, 1) := by decide +kernel
theorem dX7_take_86 : decode cX7_take 86 = .ok (.iconst 3, 1) := by decide +kernel
theorem dX7_take_87 : decode cX7_take 87 = .ok (.if_icmp .ge 50, 3) := by decide +kernel
theorem dX7_take_90 : decode cX7_take 90 = .ok (.aload_n 0, 1) := by decide +kernel
theorem dX7_take_91 : decode cX7_take 91 = .ok (.iload_n 2, 1) := by decide +kernel
theorem dX7_take_92 : decode cX7_take 92 = .ok (.invokevirtual 46, 3) := by decide +kernel
theorem dX7_take_95 : decode cX7_take 95 = .ok (.astore_n 3, 1) := by decide +kernel
theorem dX7_take_96 : decode cX7_take 96 = .ok (.aload_n 0, 1) := by decide +kernel
theorem dX7_take_97 : decode cX7_take 97 = .ok (.iload_n 2, 1) := by decide +kernel
theorem dX7_take_98 : decode cX7_take 98 = .ok (.invokevirtual 53, 3) := by decide +kernel
theorem dX7_take_101 : decode cX7_take 101 = .ok (.astore 4, 2) := by decide +kernel
theorem dX7_take_103 : decode cX7_take 103 = .ok (.aload_n 3, 1) := by decide +kernel
theorem dX7_take_104 : decode cX7_take 104 = .ok (.ifnull 27, 3) := by decide +kernel
theorem dX7_take_107 : decode cX7_take 107 = .ok (.aload 4, 2) := by decide +kernel
theorem dX7_take_109 : decode cX7_take 109 = .ok (.ifnull 22, 3) := by decide +kernel
theorem dX7_take_112 : decode cX7_take 112 = .ok (.aload_n 3, 1) := by decide +kernel
theorem dX7_take_113 : decode cX7_take 113 = .ok (.aload_n 1, 1) := by decide +kernel
theorem dX7_take_114 : decode cX7_take 114 = .ok (.iload_n 2, 1) := by decide +kernel
theorem dX7_take_115 : decode cX7_take 115 = .ok (.invokevirtual 46, 3) := by decide +kernel
theorem dX7_take_118 : decode cX7_take 118 = .ok (.invokevirtual 57, 3) := by decide +kernel
theorem dX7_take_121 : decode cX7_take 121 = .ok (.aload 4, 2) := by decide +kernel
theorem dX7_take_123 : decode cX7_take 123 = .ok (.aload_n 1, 1) := by decide +kernel
theorem dX7_take_124 : decode cX7_take 124 = .ok (.iload_n 2, 1) := by decide +kernel
theorem dX7_take_125 : decode cX7_take 125 = .ok (.invokevirtual 53, 3) := by decide +kernel
theorem dX7_take_128 : decode cX7_take 128 = .ok (.invokevirtual 61, 3) := by decide +kernel
theorem dX7_take_131 : decode cX7_take 131 = .ok (.iinc 2 1, 3) := by decide +kernel
theorem dX7_take_134 : decode cX7_take 134 = .ok (.goto (-49), 3) := by decide +kernel
theorem dX7_take_137 : decode cX7_take 137 = .ok (.return_, 1) := by decide +kernel
def rmX7_take : Room := { frames := 3, cells := 0, slots := 0, locals := 83 }
set_option maxRecDepth 100000 in
def g_X7_take_7 (th : Nat) (p1 : Option Nat) (k7 : Int32 → MM → Option (Unit × MM)) (k43 : MM → Option (Unit × MM)) (x2 : Int32) (m : MM) : Option (Unit × MM) :=
  chk (m.K th = 8) (ck m (m.R 800 th 0) 21 (fun a1 => if (Int32.ofNat (m.N a1)) ≤ x2 then (k43 m) else (ck m p1 8 (fun a2 => ck m (m.R 800 a2 0) 21 (fun a3 => if (Int32.ofNat (m.N a3)) ≤ x2 then (k43 m) else (chk (inb x2 (m.N a3) = true) (chk (inb x2 (m.N a1) = true) (bnd (m.sI 21 a1 (Int32.toNatClampNeg x2) (Int32.toInt8 (m.I 21 a3 (Int32.toNatClampNeg x2))).toInt32) (fun m1 => k7 (x2 + 1) m1)))))))))
set_option maxHeartbeats 4000000 in
set_option maxRecDepth 100000 in
theorem s_X7_take_7 {Γ : GX} {E : EX} (C : Cx Γ E cX7_take RX7 5) (hr : Γ.meth.sig.returnType = none) (hrm : Γ.rm = rmX7_take) (th : Nat) (p1 : Option Nat) (k7 : Int32 → MM → Option (Unit × MM)) (k43 : MM → Option (Unit × MM)) (h7 : ∀ (x2 : Int32) (m : MM), Sm (QM Γ E emV 0 0) Γ E 5 0 0 7 [(0, va_rf (some th)), (1, va_rf p1), (2, .int x2)] [] m (k7 x2 m)) (h43 : ∀ (m : MM), Sm (QM Γ E emV 0 0) Γ E 5 0 0 43 [(0, va_rf (some th)), (1, va_rf p1)] [] m (k43 m)) (x2 : Int32) (m : MM) : Sm (QM Γ E emV 0 0) Γ E 5 0 0 7 [(0, va_rf (some th)), (1, va_rf p1), (2, .int x2)] [] m (g_X7_take_7 th p1 k7 k43 x2 m) := by
  unfold g_X7_take_7
  refine z_iload_n C dX7_take_7 rfl 2 rfl ?_
  refine z_aload_n C dX7_take_8 rfl 0 rfl ?_
  refine z_chk (fun hk1 => ?_)
  refine z_getR C fl_RX7_9 rfl hk1 dX7_take_9 ?_
  refine z_ck (fun a1 hr1 hk2 => ?_)
  refine z_alen C hr1 hk2 (by decide) (by decide) dX7_take_12 ?_
  refine z_icmp_ge (tgt := 43) C dX7_take_13 (by decide) (fun c1 => ?_) (fun c1 => ?_)
  · exact z_sub [0, 1] rfl (h43 m)
  · refine z_iload_n C dX7_take_16 rfl 2 rfl ?_
    refine z_aload_n C dX7_take_17 rfl 1 rfl ?_
    refine z_ck (fun a2 hr2 hk3 => ?_)
    refine z_getR C fl_RX7_9 hr2 hk3 dX7_take_18 ?_
    refine z_ck (fun a3 hr3 hk4 => ?_)
    refine z_alen C hr3 hk4 (by decide) (by decide) dX7_take_21 ?_
    refine z_icmp_ge (tgt := 43) C dX7_take_22 (by decide) (fun c2 => ?_) (fun c2 => ?_)
    · exact z_sub [0, 1] rfl (h43 m)
    · refine z_aload_n C dX7_take_25 rfl 0 rfl ?_
      refine z_getR C fl_RX7_9 rfl hk1 dX7_take_26 ?_
      refine z_iload_n C dX7_take_29 rfl 2 rfl ?_
      refine z_aload_n C dX7_take_30 rfl 1 rfl ?_
      refine z_getR C fl_RX7_9 hr2 hk3 dX7_take_31 ?_
      refine z_iload_n C dX7_take_34 rfl 2 rfl ?_
      refine z_chk (fun hj1 => ?_)
      refine z_bald C hr3 hk4 hj1 dX7_take_35 ?_
      refine z_chk (fun hj2 => ?_)
      refine z_bast C hr1 hk2 hj2 dX7_take_36 (fun m1 eK1 eN1 => ?_)
      refine z_iinc (v := 1) (L2 := [(2, .int (x2 + 1)), (0, va_rf (some th)), (1, va_rf p1)]) C dX7_take_37 2 rfl (by decide) (by decide) (by simp [cat_rf, cat_i, cat_l, cat_a]) ?_
      refine z_goto (tgt := 7) C dX7_take_40 (by decide) ?_
      exact z_sub [1, 2, 0] rfl (h7 (x2 + 1) m1)
def l_X7_take_7 (th : Nat) (p1 : Option Nat) (k43 : MM → Option (Unit × MM)) : Nat → Int32 → MM → Option (Unit × MM) := lp (fun _ _ => none) (fun k7 => g_X7_take_7 th p1 k7 k43)
theorem t_X7_take_7 {Γ : GX} {E : EX} (C : Cx Γ E cX7_take RX7 5) (hr : Γ.meth.sig.returnType = none) (hrm : Γ.rm = rmX7_take) (th : Nat) (p1 : Option Nat) (k43 : MM → Option (Unit × MM)) (h43 : ∀ (m : MM), Sm (QM Γ E emV 0 0) Γ E 5 0 0 43 [(0, va_rf (some th)), (1, va_rf p1)] [] m (k43 m)) : ∀ (n : Nat) (x2 : Int32) (m : MM), Sm (QM Γ E emV 0 0) Γ E 5 0 0 7 [(0, va_rf (some th)), (1, va_rf p1), (2, .int x2)] [] m (l_X7_take_7 th p1 k43 n x2 m) := by
  intro n
  induction n with
  | zero => intros; exact z_none
  | succ n ih => intro x2 m; exact s_X7_take_7 C hr hrm th p1 (l_X7_take_7 th p1 k43 n) k43 ih h43 x2 m
set_option maxRecDepth 100000 in
def g_X7_take_131 (th : Nat) (p1 : Option Nat) (k85 : Int32 → MM → Option (Unit × MM)) (x2 : Int32) (m : MM) : Option (Unit × MM) :=
  k85 (x2 + 1) m
set_option maxHeartbeats 4000000 in
set_option maxRecDepth 100000 in
theorem s_X7_take_131 {Γ : GX} {E : EX} (C : Cx Γ E cX7_take RX7 5) (hr : Γ.meth.sig.returnType = none) (hrm : Γ.rm = rmX7_take) (th : Nat) (p1 : Option Nat) (k85 : Int32 → MM → Option (Unit × MM)) (h85 : ∀ (x2 : Int32) (m : MM), Sm (QM Γ E emV 0 0) Γ E 5 0 0 85 [(0, va_rf (some th)), (1, va_rf p1), (2, .int x2)] [] m (k85 x2 m)) (x2 : Int32) (m : MM) : Sm (QM Γ E emV 0 0) Γ E 5 0 0 131 [(0, va_rf (some th)), (1, va_rf p1), (2, .int x2)] [] m (g_X7_take_131 th p1 k85 x2 m) := by
  unfold g_X7_take_131
  refine z_iinc (v := 1) (L2 := [(2, .int (x2 + 1)), (0, va_rf (some th)), (1, va_rf p1)]) C dX7_take_131 2 rfl (by decide) (by decide) (by simp [cat_rf, cat_i, cat_l, cat_a]) ?_
  refine z_goto (tgt := 85) C dX7_take_134 (by decide) ?_
  exact z_sub [1, 2, 0] rfl (h85 (x2 + 1) m)
set_option maxRecDepth 100000 in
def g_X7_take_85 (th : Nat) (p1 : Option Nat) (k85 : Int32 → MM → Option (Unit × MM)) (x2 : Int32) (m : MM) : Option (Unit × MM) :=
  if 3 ≤ x2 then (some ((), m)) else (chk (m.K th = 8) (cal (f_X7_townSeat th x2 m) (fun r1 m2 => chk (m2.K th = 8) (cal (f_X7_lawSeat th x2 m2) (fun r2 m3 => ifn r1 (g_X7_take_131 th p1 k85 x2 m3) (fun a4 => ifn r2 (g_X7_take_131 th p1 k85 x2 m3) (fun a5 => ck m3 p1 8 (fun a6 => cal (f_X7_townSeat a6 x2 m3) (fun r3 m4 => chk (m4.K a4 = 9) (cal (f_X8_take a4 r3 m4) (fun r4 m5 => chk (m5.K a6 = 8) (cal (f_X7_lawSeat a6 x2 m5) (fun r5 m6 => chk (m6.K a5 = 3) (cal (f_X2_take a5 r5 m6) (fun r6 m7 => g_X7_take_131 th p1 k85 x2 m7)))))))))))))))
set_option maxHeartbeats 4000000 in
set_option maxRecDepth 100000 in
theorem s_X7_take_85 {Γ : GX} {E : EX} (C : Cx Γ E cX7_take RX7 5) (hr : Γ.meth.sig.returnType = none) (hrm : Γ.rm = rmX7_take) (th : Nat) (p1 : Option Nat) (k85 : Int32 → MM → Option (Unit × MM)) (h85 : ∀ (x2 : Int32) (m : MM), Sm (QM Γ E emV 0 0) Γ E 5 0 0 85 [(0, va_rf (some th)), (1, va_rf p1), (2, .int x2)] [] m (k85 x2 m)) (x2 : Int32) (m : MM) : Sm (QM Γ E emV 0 0) Γ E 5 0 0 85 [(0, va_rf (some th)), (1, va_rf p1), (2, .int x2)] [] m (g_X7_take_85 th p1 k85 x2 m) := by
  unfold g_X7_take_85
  refine z_iload_n C dX7_take_85 rfl 2 rfl ?_
  refine z_iconst (v := 3) C dX7_take_86 (by decide) ?_
  refine z_icmp_ge (tgt := 137) C dX7_take_87 (by decide) (fun c3 => ?_) (fun c3 => ?_)
  · exact z_vret C hr dX7_take_137
  · refine z_aload_n C dX7_take_90 rfl 0 rfl ?_
    refine z_iload_n C dX7_take_91 rfl 2 rfl ?_
    refine z_chk (fun hk5 => ?_)
    refine z_cVR [.int x2] [] C mv_RX7_46 (fun r0 m0 h0 => M_X7_townSeat _ _ _ _ _ _ _ h0) rfl rfl ⟨by rw [hrm]; exact Nat.le_of_ble_eq_true rfl, by rw [hrm]; exact Nat.le_of_ble_eq_true rfl⟩ ⟨by rw [hrm]; exact Nat.le_of_ble_eq_true rfl, by rw [hrm]; exact Nat.le_of_ble_eq_true rfl⟩ rfl hk5 rfl rfl rfl (Nat.le_of_ble_eq_true rfl) dX7_take_92 (fun r1 m2 => ?_)
    refine z_astore_n (i := 3) (L2 := [(3, va_rf r1), (0, va_rf (some th)), (1, va_rf p1), (2, .int x2)]) C dX7_take_95 rfl (by decide) rfl ?_
    refine z_aload_n C dX7_take_96 rfl 1 rfl ?_
    refine z_iload_n C dX7_take_97 rfl 3 rfl ?_
    refine z_chk (fun hk6 => ?_)
    refine z_cVR [.int x2] [] C mv_RX7_53 (fun r0 m0 h0 => M_X7_lawSeat _ _ _ _ _ _ _ h0) rfl rfl ⟨by rw [hrm]; exact Nat.le_of_ble_eq_true rfl, by rw [hrm]; exact Nat.le_of_ble_eq_true rfl⟩ ⟨by rw [hrm]; exact Nat.le_of_ble_eq_true rfl, by rw [hrm]; exact Nat.le_of_ble_eq_true rfl⟩ rfl hk6 rfl rfl rfl (Nat.le_of_ble_eq_true rfl) dX7_take_98 (fun r2 m3 => ?_)
    refine z_astore (i := 4) (L2 := [(4, va_rf r2), (3, va_rf r1), (0, va_rf (some th)), (1, va_rf p1), (2, .int x2)]) C dX7_take_101 (by decide) (by simp [cat_rf, cat_i, cat_l, cat_a]) ?_
    refine z_aload_n C dX7_take_103 rfl 1 rfl ?_
    refine z_ifnull (tgt := 131) C dX7_take_104 (by decide) (fun hn1 => ?_) (fun a4 ha1 => ?_)
    · exact z_sub [2, 3, 4] rfl (s_X7_take_131 C hr hrm th p1 k85 h85 x2 m3)
    · refine z_aload C dX7_take_107 0 rfl ?_
      refine z_ifnull (tgt := 131) C dX7_take_109 (by decide) (fun hn2 => ?_) (fun a5 ha2 => ?_)
      · exact z_sub [2, 3, 4] rfl (s_X7_take_131 C hr hrm th p1 k85 h85 x2 m3)
      · refine z_aload_n C dX7_take_112 rfl 1 rfl ?_
        refine z_aload_n C dX7_take_113 rfl 3 rfl ?_
        refine z_iload_n C dX7_take_114 rfl 4 rfl ?_
        refine z_ck (fun a6 hr4 hk7 => ?_)
        refine z_cVR [.int x2] [va_rf r1] C mv_RX7_46 (fun r0 m0 h0 => M_X7_townSeat _ _ _ _ _ _ _ h0) rfl rfl ⟨by rw [hrm]; exact Nat.le_of_ble_eq_true rfl, by rw [hrm]; exact Nat.le_of_ble_eq_true rfl⟩ ⟨by rw [hrm]; exact Nat.le_of_ble_eq_true rfl, by rw [hrm]; exact Nat.le_of_ble_eq_true rfl⟩ hr4 hk7 rfl rfl rfl (by simp [cat_rf, cat_i, cat_l, cat_a]) dX7_take_115 (fun r3 m4 => ?_)
        refine z_chk (fun hk8 => ?_)
        refine z_cVV [va_rf r3] [] C mv_RX7_57 (fun r0 m0 h0 => M_X8_take _ _ _ _ _ _ _ h0) rfl rfl ⟨by rw [hrm]; exact Nat.le_of_ble_eq_true rfl, by rw [hrm]; exact Nat.le_of_ble_eq_true rfl⟩ ⟨by rw [hrm]; exact Nat.le_of_ble_eq_true rfl, by rw [hrm]; exact Nat.le_of_ble_eq_true rfl⟩ ha1 hk8 rfl rfl rfl (Nat.le_of_ble_eq_true rfl) dX7_take_118 (fun r4 m5 => ?_)
        refine z_aload C dX7_take_121 0 rfl ?_
        refine z_aload_n C dX7_take_123 rfl 3 rfl ?_
        refine z_iload_n C dX7_take_124 rfl 4 rfl ?_
        refine z_chk (fun hk9 => ?_)
        refine z_cVR [.int x2] [va_rf r2] C mv_RX7_53 (fun r0 m0 h0 => M_X7_lawSeat _ _ _ _ _ _ _ h0) rfl rfl ⟨by rw [hrm]; exact Nat.le_of_ble_eq_true rfl, by rw [hrm]; exact Nat.le_of_ble_eq_true rfl⟩ ⟨by rw [hrm]; exact Nat.le_of_ble_eq_true rfl, by rw [hrm]; exact Nat.le_of_ble_eq_true rfl⟩ hr4 hk9 rfl rfl rfl (by simp [cat_rf, cat_i, cat_l, cat_a]) dX7_take_125 (fun r5 m6 => ?_)
        refine z_chk (fun hk10 => ?_)
        refine z_cVV [va_rf r5] [] C mv_RX7_61 (fun r0 m0 h0 => M_X2_take _ _ _ _ _ _ _ h0) rfl rfl ⟨by rw [hrm]; exact Nat.le_of_ble_eq_true rfl, by rw [hrm]; exact Nat.le_of_ble_eq_true rfl⟩ ⟨by rw [hrm]; exact Nat.le_of_ble_eq_true rfl, by rw [hrm]; exact Nat.le_of_ble_eq_true rfl⟩ ha2 hk10 rfl rfl rfl (Nat.le_of_ble_eq_true rfl) dX7_take_128 (fun r6 m7 => ?_)
        exact z_sub [2, 3, 4] rfl (s_X7_take_131 C hr hrm th p1 k85 h85 x2 m7)
def l_X7_take_85 (th : Nat) (p1 : Option Nat) : Nat → Int32 → MM → Option (Unit × MM) := lp (fun _ _ => none) (fun k85 => g_X7_take_85 th p1 k85)
theorem t_X7_take_85 {Γ : GX} {E : EX} (C : Cx Γ E cX7_take RX7 5) (hr : Γ.meth.sig.returnType = none) (hrm : Γ.rm = rmX7_take) (th : Nat) (p1 : Option Nat) : ∀ (n : Nat) (x2 : Int32) (m : MM), Sm (QM Γ E emV 0 0) Γ E 5 0 0 85 [(0, va_rf (some th)), (1, va_rf p1), (2, .int x2)] [] m (l_X7_take_85 th p1 n x2 m) := by
  intro n
  induction n with
  | zero => intros; exact z_none
  | succ n ih => intro x2 m; exact s_X7_take_85 C hr hrm th p1 (l_X7_take_85 th p1 n) ih x2 m
set_option maxRecDepth 100000 in
def g_X7_take_43 (th : Nat) (p1 : Option Nat) (m : MM) : Option (Unit × MM) :=
  ck m p1 8 (fun a7 => chk (m.K th = 8) (bnd (m.sI 801 th 0 (m.I 801 a7 0)) (fun m8 => bnd (m8.sI 802 th 0 (m8.I 802 a7 0)) (fun m9 => bnd (m9.sI 803 th 0 (m9.I 803 a7 0)) (fun m10 => bnd (m10.sI 804 th 0 (m10.I 804 a7 0)) (fun m11 => bnd (m11.sI 805 th 0 (m11.I 805 a7 0)) (fun m12 => l_X7_take_85 th p1 FU 0 m12)))))))
set_option maxHeartbeats 4000000 in
set_option maxRecDepth 100000 in
theorem s_X7_take_43 {Γ : GX} {E : EX} (C : Cx Γ E cX7_take RX7 5) (hr : Γ.meth.sig.returnType = none) (hrm : Γ.rm = rmX7_take) (th : Nat) (p1 : Option Nat) (m : MM) : Sm (QM Γ E emV 0 0) Γ E 5 0 0 43 [(0, va_rf (some th)), (1, va_rf p1)] [] m (g_X7_take_43 th p1 m) := by
  unfold g_X7_take_43
  refine z_aload_n C dX7_take_43 rfl 0 rfl ?_
  refine z_aload_n C dX7_take_44 rfl 1 rfl ?_
  refine z_ck (fun a7 hr5 hk11 => ?_)
  refine z_getI C fl_RX7_33 hr5 hk11 dX7_take_45 ?_
  refine z_chk (fun hk12 => ?_)
  refine z_putI C fl_RX7_33 (fun h => by cases h) rfl hk12 rfl rfl dX7_take_48 (fun m8 eK2 eN2 => ?_)
  refine z_aload_n C dX7_take_51 rfl 0 rfl ?_
  refine z_aload_n C dX7_take_52 rfl 1 rfl ?_
  refine z_getI C fl_RX7_40 hr5 (kfw eK2 hk11) dX7_take_53 ?_
  refine z_putI C fl_RX7_40 (fun h => by cases h) rfl (kfw eK2 hk12) rfl rfl dX7_take_56 (fun m9 eK3 eN3 => ?_)
  refine z_aload_n C dX7_take_59 rfl 0 rfl ?_
  refine z_aload_n C dX7_take_60 rfl 1 rfl ?_
  refine z_getI C fl_RX7_15 hr5 (kfw eK3 (kfw eK2 hk11)) dX7_take_61 ?_
  refine z_putI C fl_RX7_15 (fun h => by cases h) rfl (kfw eK3 (kfw eK2 hk12)) rfl rfl dX7_take_64 (fun m10 eK4 eN4 => ?_)
  refine z_aload_n C dX7_take_67 rfl 0 rfl ?_
  refine z_aload_n C dX7_take_68 rfl 1 rfl ?_
  refine z_getI C fl_RX7_43 hr5 (kfw eK4 (kfw eK3 (kfw eK2 hk11))) dX7_take_69 ?_
  refine z_putI C fl_RX7_43 (fun h => by cases h) rfl (kfw eK4 (kfw eK3 (kfw eK2 hk12))) rfl rfl dX7_take_72 (fun m11 eK5 eN5 => ?_)
  refine z_aload_n C dX7_take_75 rfl 0 rfl ?_
  refine z_aload_n C dX7_take_76 rfl 1 rfl ?_
  refine z_getI C fl_RX7_50 hr5 (kfw eK5 (kfw eK4 (kfw eK3 (kfw eK2 hk11)))) dX7_take_77 ?_
  refine z_putI C fl_RX7_50 (fun h => by cases h) rfl (kfw eK5 (kfw eK4 (kfw eK3 (kfw eK2 hk12)))) rfl rfl dX7_take_80 (fun m12 eK6 eN6 => ?_)
  refine z_iconst (v := 0) C dX7_take_83 (by decide) ?_
  refine z_istore_n (i := 2) (L2 := [(2, .int 0), (0, va_rf (some th)), (1, va_rf p1)]) C dX7_take_84 rfl (by decide) (by simp [cat_rf, cat_i, cat_l, cat_a]) ?_
  exact z_sub [1, 2, 0] rfl (t_X7_take_85 C hr hrm th p1 FU 0 m12)
set_option maxRecDepth 100000 in
def g_X7_take_0 (th : Nat) (p1 : Option Nat) (m : MM) : Option (Unit × MM) :=
  ifn p1 (some ((), m)) (fun a8 => l_X7_take_7 th p1 (g_X7_take_43 th p1) FU 0 m)
set_option maxHeartbeats 4000000 in
set_option maxRecDepth 100000 in
theorem s_X7_take_0 {Γ : GX} {E : EX} (C : Cx Γ E cX7_take RX7 5) (hr : Γ.meth.sig.returnType = none) (hrm : Γ.rm = rmX7_take) (th : Nat) (p1 : Option Nat) (m : MM) : Sm (QM Γ E emV 0 0) Γ E 5 0 0 0 [(0, va_rf (some th)), (1, va_rf p1)] [] m (g_X7_take_0 th p1 m) := by
  unfold g_X7_take_0
  refine z_aload_n C dX7_take_0 rfl 1 rfl ?_
  refine z_ifnonnull (tgt := 5) C dX7_take_1 (by decide) (fun a8 ha3 => ?_) (fun hn3 => ?_)
  · refine z_iconst (v := 0) C dX7_take_5 (by decide) ?_
    refine z_istore_n (i := 2) (L2 := [(2, .int 0), (0, va_rf (some th)), (1, va_rf p1)]) C dX7_take_6 rfl (by decide) (by simp [cat_rf, cat_i, cat_l, cat_a]) ?_
    exact z_sub [1, 2, 0] rfl (t_X7_take_7 C hr hrm th p1 (g_X7_take_43 th p1) (s_X7_take_43 C hr hrm th p1) FU 0 m)
  · exact z_vret C hr dX7_take_4
def f_X7_take (th : Nat) (p1 : Option Nat) (m : MM) : Option (Unit × MM) := g_X7_take_0 th p1 m
theorem M_X7_take (l : Launch) (E : EX) (th : Nat) (p1 : Option Nat) (m : MM) (r : Unit) (m2 : MM) (h : f_X7_take th p1 m = some (r, m2)) : Met l yX7_take (.code yX7_take cX7_take 5 none :: TB) rmX7_take (va_Pc [.ref th, va_rf p1] (St E m)) (QR E (emV r) m2) 0 0 (AA E) :=
  met_of (em := emV) (plainFor_of_name rfl) (by simp [lg_sl, cat_rf, cat_i, cat_l, cat_a]) (L0 := [(0, va_rf (some th)), (1, va_rf p1)]) (by simp [lv_args, cat_rf, cat_i, cat_l, cat_a] <;> rfl) (fun Γ _ hrm C hr hn => s_X7_take_0 C hr hrm th p1 m) h
