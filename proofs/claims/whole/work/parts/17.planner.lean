theorem dX3_init_0 : decode cX3_init 0 = .ok (.aload_n 0, 1) := by decide +kernel
theorem dX3_init_1 : decode cX3_init 1 = .ok (.invokespecial 3, 3) := by decide +kernel
theorem dX3_init_4 : decode cX3_init 4 = .ok (.aload_n 0, 1) := by decide +kernel
theorem dX3_init_5 : decode cX3_init 5 = .ok (.aload_n 1, 1) := by decide +kernel
theorem dX3_init_6 : decode cX3_init 6 = .ok (.putfield 9, 3) := by decide +kernel
theorem dX3_init_9 : decode cX3_init 9 = .ok (.aload_n 0, 1) := by decide +kernel
theorem dX3_init_10 : decode cX3_init 10 = .ok (.iconst 3, 1) := by decide +kernel
theorem dX3_init_11 : decode cX3_init 11 = .ok (.anewarray 15, 3) := by decide +kernel
theorem dX3_init_14 : decode cX3_init 14 = .ok (.putfield 17, 3) := by decide +kernel
theorem dX3_init_17 : decode cX3_init 17 = .ok (.iconst 0, 1) := by decide +kernel
theorem dX3_init_18 : decode cX3_init 18 = .ok (.istore_n 2, 1) := by decide +kernel
theorem dX3_init_19 : decode cX3_init 19 = .ok (.iload_n 2, 1) := by decide +kernel
theorem dX3_init_20 : decode cX3_init 20 = .ok (.iconst 3, 1) := by decide +kernel
theorem dX3_init_21 : decode cX3_init 21 = .ok (.if_icmp .ge 22, 3) := by decide +kernel
theorem dX3_init_24 : decode cX3_init 24 = .ok (.aload_n 0, 1) := by decide +kernel
theorem dX3_init_25 : decode cX3_init 25 = .ok (.getfield 17, 3) := by decide +kernel
theorem dX3_init_28 : decode cX3_init 28 = .ok (.iload_n 2, 1) := by decide +kernel
theorem dX3_init_29 : decode cX3_init 29 = .ok (.new 15, 3) := by decide +kernel
theorem dX3_init_32 : decode cX3_init 32 = .ok (.dup, 1) := by decide +kernel
theorem dX3_init_33 : decode cX3_init 33 = .ok (.invokespecial 21, 3) := by decide +kernel
theorem dX3_init_36 : decode cX3_init 36 = .ok (.aastore, 1) := by decide +kernel
theorem dX3_init_37 : decode cX3_init 37 = .ok (.iinc 2 1, 3) := by decide +kernel
theorem dX3_init_40 : decode cX3_init 40 = .ok (.goto (-21), 3) := by decide +kernel
theorem dX3_init_43 : decode cX3_init 43 = .ok (.aload_n 0, 1) := by decide +kernel
theorem dX3_init_44 : decode cX3_init 44 = .ok (.iconst 3, 1) := by decide +kernel
theorem dX3_init_45 : decode cX3_init 45 = .ok (.newarray .long, 2) := by decide +kernel
theorem dX3_init_47 : decode cX3_init 47 = .ok (.putfield 22, 3) := by decide +kernel
theorem dX3_init_50 : decode cX3_init 50 = .ok (.aload_n 0, 1) := by decide +kernel
theorem dX3_init_51 : decode cX3_init 51 = .ok (.bipush 64, 2) := by decide +kernel
theorem dX3_init_53 : decode cX3_init 53 = .ok (.newarray .long, 2) := by decide +kernel
theorem dX3_init_55 : decode cX3_init 55 = .ok (.putfield 26, 3) := by decide +kernel
theorem dX3_init_58 : decode cX3_init 58 = .ok (.return_, 1) := by decide +kernel
def rmX3_init : Room := { frames := 2, cells := 6, slots := 85, locals := 40 }
set_option maxRecDepth 100000 in
def f_X3_init (th : Nat) (p1 : Option Nat) (m : MM) : Option (Unit × MM) :=
  chk (m.K th = 4) (bnd (m.sR 400 th 0 p1) (fun m1 => bnd m1.S (fun a1 => bnd (m1.nw 25 3) (fun m2 => chk (m2.K th = 4) (bnd (m2.sR 401 th 0 (some a1)) (fun m3 => bnd m3.S (fun a2 => bnd (m3.nw 1 0) (fun m4 => cal (f_X0_init a2 m4) (fun r1 m5 => ck m5 (m3.R 401 th 0) 25 (fun a3 => chk (m5.K a2 = 1) (chk (inb 0 (m5.N a3) = true) (bnd (m5.sR 25 a3 (Int32.toNatClampNeg 0) (some a2)) (fun m6 => chk (m6.K th = 4) (bnd m6.S (fun a4 => bnd (m6.nw 1 0) (fun m7 => cal (f_X0_init a4 m7) (fun r2 m8 => ck m8 (m6.R 401 th 0) 25 (fun a5 => chk (m8.K a4 = 1) (chk (inb 1 (m8.N a5) = true) (bnd (m8.sR 25 a5 (Int32.toNatClampNeg 1) (some a4)) (fun m9 => chk (m9.K th = 4) (bnd m9.S (fun a6 => bnd (m9.nw 1 0) (fun m10 => cal (f_X0_init a6 m10) (fun r3 m11 => ck m11 (m9.R 401 th 0) 25 (fun a7 => chk (m11.K a6 = 1) (chk (inb 2 (m11.N a7) = true) (bnd (m11.sR 25 a7 (Int32.toNatClampNeg 2) (some a6)) (fun m12 => bnd m12.S (fun a8 => bnd (m12.nw 23 3) (fun m13 => chk (m13.K th = 4) (bnd (m13.sR 402 th 0 (some a8)) (fun m14 => bnd m14.S (fun a9 => bnd (m14.nw 23 64) (fun m15 => chk (m15.K th = 4) (bnd (m15.sR 403 th 0 (some a9)) (fun m16 => some ((), m16))))))))))))))))))))))))))))))))))))))
set_option maxHeartbeats 4000000 in
set_option maxRecDepth 100000 in
theorem s_X3_init_0 {Γ : GX} {E : EX} (C : Cx Γ E cX3_init RX3 3) (hr : Γ.meth.sig.returnType = none) (hrm : Γ.rm = rmX3_init) (hnm : Γ.meth.name = "<init>") (th : Nat) (p1 : Option Nat) (m : MM) : Sm (QM Γ E emV 6 85) Γ E 3 0 0 0 [(0, va_rf (some th)), (1, va_rf p1)] [] m (f_X3_init th p1 m) := by
  unfold f_X3_init
  refine z_aload_n C dX3_init_0 rfl 0 rfl ?_
  refine z_obj C rfl mo_RX3_3 (by rw [hrm]; exact Nat.le_of_ble_eq_true rfl) (by rw [hrm]; exact Nat.le_of_ble_eq_true rfl) (Nat.le_of_ble_eq_true rfl) dX3_init_1 ?_
  refine z_aload_n C dX3_init_4 rfl 0 rfl ?_
  refine z_aload_n C dX3_init_5 rfl 1 rfl ?_
  refine z_chk (fun hk1 => ?_)
  refine z_putR C fl_RX3_9 (fun _ => ⟨hnm, rfl⟩) rfl hk1 nr_of fr_of dX3_init_6 (fun m1 eK1 eN1 => ?_)
  refine z_aload_n C dX3_init_9 rfl 0 rfl ?_
  refine z_iconst (v := 3) C dX3_init_10 (by decide) ?_
  refine z_anew2 (kd := 25) (N := 3) C cl_RX3_15 (by decide) (by decide) (by decide) rfl (by decide) (by decide) (by decide) (by rw [hrm]; exact Nat.le_of_ble_eq_true rfl) (by rw [hrm]; exact Nat.le_of_ble_eq_true rfl) dX3_init_11 (fun a1 m2 hk2 => ?_)
  refine z_chk (fun hk3 => ?_)
  refine z_putR C fl_RX3_17 (fun _ => ⟨hnm, rfl⟩) rfl hk3 na_of fa_of dX3_init_14 (fun m3 eK2 eN2 => ?_)
  refine z_iconst (v := 0) C dX3_init_17 (by decide) ?_
  refine z_istore_n (i := 2) (L2 := [(2, .int 0), (0, va_rf (some th)), (1, va_rf p1)]) C dX3_init_18 rfl (by decide) (by simp [cat_rf, cat_i, cat_l, cat_a]) ?_
  refine z_iload_n C dX3_init_19 rfl 0 rfl ?_
  refine z_iconst (v := 3) C dX3_init_20 (by decide) ?_
  refine z_icmp_ge_f (tgt := 43) C dX3_init_21 (by decide) (by decide) ?_
  refine z_aload_n C dX3_init_24 rfl 1 rfl ?_
  refine z_getR C fl_RX3_17 rfl (kfw eK2 hk3) dX3_init_25 ?_
  refine z_iload_n C dX3_init_28 rfl 0 rfl ?_
  refine z_new2 C co_X0 cl_RX3_15 in_RX0 ii_RX0 (by rw [hrm]; exact Nat.le_of_ble_eq_true rfl) (by rw [hrm]; exact Nat.le_of_ble_eq_true rfl) dX3_init_29 (fun a2 m4 hk4 => ?_)
  refine z_dup C rfl dX3_init_32 ?_
  refine z_callN [] [va_rf (some a2), .int 0, va_rf (m3.R 401 th 0)] C mv_RX3_21 (fun r0 m0 h0 => M_X0_init _ _ _ _ _ _ h0) rfl rfl ⟨by rw [hrm]; exact Nat.le_of_ble_eq_true rfl, by rw [hrm]; exact Nat.le_of_ble_eq_true rfl⟩ rfl rfl rfl (by simp [cat_rf, cat_i, cat_l, cat_a]) dX3_init_33 ⟨by rw [hrm]; exact Nat.le_of_ble_eq_true rfl, by rw [hrm]; exact Nat.le_of_ble_eq_true rfl⟩ (fun r1 m5 => ?_)
  refine z_ck (fun a3 hr1 hk5 => ?_)
  refine z_chk (fun hk6 => ?_)
  refine z_chk (fun hj1 => ?_)
  refine z_aast C hr1 hk5 (by decide) (by decide) rfl hk6 (hc := rfl) rfl hj1 dX3_init_36 (fun m6 eK3 eN3 => ?_)
  refine z_iincK (v := 1) (L2 := [(2, .int 1), (0, va_rf (some th)), (1, va_rf p1)]) C dX3_init_37 0 rfl (by decide) (by decide) (by simp [cat_rf, cat_i, cat_l, cat_a]) ?_
  refine z_goto (tgt := 19) C dX3_init_40 (by decide) ?_
  refine z_iload_n C dX3_init_19 rfl 0 rfl ?_
  refine z_iconst (v := 3) C dX3_init_20 (by decide) ?_
  refine z_icmp_ge_f (tgt := 43) C dX3_init_21 (by decide) (by decide) ?_
  refine z_aload_n C dX3_init_24 rfl 1 rfl ?_
  refine z_chk (fun hk7 => ?_)
  refine z_getR C fl_RX3_17 rfl hk7 dX3_init_25 ?_
  refine z_iload_n C dX3_init_28 rfl 0 rfl ?_
  refine z_new2 C co_X0 cl_RX3_15 in_RX0 ii_RX0 (by rw [hrm]; exact Nat.le_of_ble_eq_true rfl) (by rw [hrm]; exact Nat.le_of_ble_eq_true rfl) dX3_init_29 (fun a4 m7 hk8 => ?_)
  refine z_dup C rfl dX3_init_32 ?_
  refine z_callN [] [va_rf (some a4), .int 1, va_rf (m6.R 401 th 0)] C mv_RX3_21 (fun r0 m0 h0 => M_X0_init _ _ _ _ _ _ h0) rfl rfl ⟨by rw [hrm]; exact Nat.le_of_ble_eq_true rfl, by rw [hrm]; exact Nat.le_of_ble_eq_true rfl⟩ rfl rfl rfl (by simp [cat_rf, cat_i, cat_l, cat_a]) dX3_init_33 ⟨by rw [hrm]; exact Nat.le_of_ble_eq_true rfl, by rw [hrm]; exact Nat.le_of_ble_eq_true rfl⟩ (fun r2 m8 => ?_)
  refine z_ck (fun a5 hr2 hk9 => ?_)
  refine z_chk (fun hk10 => ?_)
  refine z_chk (fun hj2 => ?_)
  refine z_aast C hr2 hk9 (by decide) (by decide) rfl hk10 (hc := rfl) rfl hj2 dX3_init_36 (fun m9 eK4 eN4 => ?_)
  refine z_iincK (v := 2) (L2 := [(2, .int 2), (0, va_rf (some th)), (1, va_rf p1)]) C dX3_init_37 0 rfl (by decide) (by decide) (by simp [cat_rf, cat_i, cat_l, cat_a]) ?_
  refine z_goto (tgt := 19) C dX3_init_40 (by decide) ?_
  refine z_iload_n C dX3_init_19 rfl 0 rfl ?_
  refine z_iconst (v := 3) C dX3_init_20 (by decide) ?_
  refine z_icmp_ge_f (tgt := 43) C dX3_init_21 (by decide) (by decide) ?_
  refine z_aload_n C dX3_init_24 rfl 1 rfl ?_
  refine z_chk (fun hk11 => ?_)
  refine z_getR C fl_RX3_17 rfl hk11 dX3_init_25 ?_
  refine z_iload_n C dX3_init_28 rfl 0 rfl ?_
  refine z_new2 C co_X0 cl_RX3_15 in_RX0 ii_RX0 (by rw [hrm]; exact Nat.le_of_ble_eq_true rfl) (by rw [hrm]; exact Nat.le_of_ble_eq_true rfl) dX3_init_29 (fun a6 m10 hk12 => ?_)
  refine z_dup C rfl dX3_init_32 ?_
  refine z_callN [] [va_rf (some a6), .int 2, va_rf (m9.R 401 th 0)] C mv_RX3_21 (fun r0 m0 h0 => M_X0_init _ _ _ _ _ _ h0) rfl rfl ⟨by rw [hrm]; exact Nat.le_of_ble_eq_true rfl, by rw [hrm]; exact Nat.le_of_ble_eq_true rfl⟩ rfl rfl rfl (by simp [cat_rf, cat_i, cat_l, cat_a]) dX3_init_33 ⟨by rw [hrm]; exact Nat.le_of_ble_eq_true rfl, by rw [hrm]; exact Nat.le_of_ble_eq_true rfl⟩ (fun r3 m11 => ?_)
  refine z_ck (fun a7 hr3 hk13 => ?_)
  refine z_chk (fun hk14 => ?_)
  refine z_chk (fun hj3 => ?_)
  refine z_aast C hr3 hk13 (by decide) (by decide) rfl hk14 (hc := rfl) rfl hj3 dX3_init_36 (fun m12 eK5 eN5 => ?_)
  refine z_iincK (v := 3) (L2 := [(2, .int 3), (0, va_rf (some th)), (1, va_rf p1)]) C dX3_init_37 0 rfl (by decide) (by decide) (by simp [cat_rf, cat_i, cat_l, cat_a]) ?_
  refine z_goto (tgt := 19) C dX3_init_40 (by decide) ?_
  refine z_iload_n C dX3_init_19 rfl 0 rfl ?_
  refine z_iconst (v := 3) C dX3_init_20 (by decide) ?_
  refine z_icmp_ge_t (tgt := 43) C dX3_init_21 (by decide) (by decide) ?_
  refine z_aload_n C dX3_init_43 rfl 1 rfl ?_
  refine z_iconst (v := 3) C dX3_init_44 (by decide) ?_
  refine z_newa2 (at0 := .long) (kd := 23) (N := 3) C ac_long (by decide) (by decide) rfl (by decide) (by decide) (by decide) (by rw [hrm]; exact Nat.le_of_ble_eq_true rfl) (by rw [hrm]; exact Nat.le_of_ble_eq_true rfl) dX3_init_45 (fun a8 m13 hk15 => ?_)
  refine z_chk (fun hk16 => ?_)
  refine z_putR C fl_RX3_22 (fun _ => ⟨hnm, rfl⟩) rfl hk16 na_of fa_of dX3_init_47 (fun m14 eK6 eN6 => ?_)
  refine z_aload_n C dX3_init_50 rfl 1 rfl ?_
  refine z_bipush (v := 64) C dX3_init_51 (by decide) ?_
  refine z_newa2 (at0 := .long) (kd := 23) (N := 64) C ac_long (by decide) (by decide) rfl (by decide) (by decide) (by decide) (by rw [hrm]; exact Nat.le_of_ble_eq_true rfl) (by rw [hrm]; exact Nat.le_of_ble_eq_true rfl) dX3_init_53 (fun a9 m15 hk17 => ?_)
  refine z_chk (fun hk18 => ?_)
  refine z_putR C fl_RX3_26 (fun _ => ⟨hnm, rfl⟩) rfl hk18 na_of fa_of dX3_init_55 (fun m16 eK7 eN7 => ?_)
  refine z_wid (k := 6) (n := 85) (Nat.le_of_ble_eq_true rfl) (Nat.le_of_ble_eq_true rfl) ?_
  exact z_vret C hr dX3_init_58
theorem M_X3_init (l : Launch) (E : EX) (th : Nat) (p1 : Option Nat) (m : MM) (r : Unit) (m2 : MM) (h : f_X3_init th p1 m = some (r, m2)) : Met l yX3_init (.code yX3_init cX3_init 3 none :: TB) rmX3_init (va_Pc [.ref th, va_rf p1] (St E m)) (QR E (emV r) m2) 6 85 (AA E) :=
  met_of (em := emV) (plainFor_of_name rfl) (by simp [lg_sl, cat_rf, cat_i, cat_l, cat_a]) (L0 := [(0, va_rf (some th)), (1, va_rf p1)]) (by simp [lv_args, cat_rf, cat_i, cat_l, cat_a] <;> rfl) (fun Γ _ hrm C hr hn => s_X3_init_0 C hr hrm hn th p1 m) h

theorem dX3_guest_0 : decode cX3_guest 0 = .ok (.iload_n 1, 1) := by decide +kernel
theorem dX3_guest_1 : decode cX3_guest 1 = .ok (.ifCond .lt 21, 3) := by decide +kernel
theorem dX3_guest_4 : decode cX3_guest 4 = .ok (.iload_n 1, 1) := by decide +kernel
theorem dX3_guest_5 : decode cX3_guest 5 = .ok (.aload_n 0, 1) := by decide +kernel
theorem dX3_guest_6 : decode cX3_guest 6 = .ok (.getfield 17, 3) := by decide +kernel
theorem dX3_guest_9 : decode cX3_guest 9 = .ok (.arraylength, 1) := by decide +kernel
theorem dX3_guest_10 : decode cX3_guest 10 = .ok (.if_icmp .ge 12, 3) := by decide +kernel
theorem dX3_guest_13 : decode cX3_guest 13 = .ok (.aload_n 0, 1) := by decide +kernel
theorem dX3_guest_14 : decode cX3_guest 14 = .ok (.getfield 17, 3) := by decide +kernel
theorem dX3_guest_17 : decode cX3_guest 17 = .ok (.iload_n 1, 1) := by decide +kernel
theorem dX3_guest_18 : decode cX3_guest 18 = .ok (.aaload, 1) := by decide +kernel
theorem dX3_guest_19 : decode cX3_guest 19 = .ok (.goto 4, 3) := by decide +kernel
theorem dX3_guest_22 : decode cX3_guest 22 = .ok (.aconst_null, 1) := by decide +kernel
theorem dX3_guest_23 : decode cX3_guest 23 = .ok (.areturn, 1) := by decide +kernel
def rmX3_guest : Room := { frames := 0, cells := 0, slots := 0, locals := 0 }
set_option maxRecDepth 100000 in
def g_X3_guest_22 (th : Nat) (p1 : Int32) (m : MM) : Option (Option Nat × MM) :=
  some (none, m)
set_option maxHeartbeats 4000000 in
set_option maxRecDepth 100000 in
theorem s_X3_guest_22 {Γ : GX} {E : EX} (C : Cx Γ E cX3_guest RX3 2) (hr : Γ.meth.sig.returnType = (some (.object "FarTown$Body"))) (hrm : Γ.rm = rmX3_guest) (th : Nat) (p1 : Int32) (m : MM) : Sm (QM Γ E emR 0 0) Γ E 2 0 0 22 [(0, va_rf (some th)), (1, .int p1)] [] m (g_X3_guest_22 th p1 m) := by
  unfold g_X3_guest_22
  refine z_null C dX3_guest_22 ?_
  exact z_aret C hr dX3_guest_23
set_option maxRecDepth 100000 in
def g_X3_guest_0 (th : Nat) (p1 : Int32) (m : MM) : Option (Option Nat × MM) :=
  if p1 < 0 then (g_X3_guest_22 th p1 m) else (chk (m.K th = 4) (ck m (m.R 401 th 0) 25 (fun a1 => if (Int32.ofNat (m.N a1)) ≤ p1 then (g_X3_guest_22 th p1 m) else (chk (inb p1 (m.N a1) = true) (some (m.R 25 a1 (Int32.toNatClampNeg p1), m))))))
set_option maxHeartbeats 4000000 in
set_option maxRecDepth 100000 in
theorem s_X3_guest_0 {Γ : GX} {E : EX} (C : Cx Γ E cX3_guest RX3 2) (hr : Γ.meth.sig.returnType = (some (.object "FarTown$Body"))) (hrm : Γ.rm = rmX3_guest) (th : Nat) (p1 : Int32) (m : MM) : Sm (QM Γ E emR 0 0) Γ E 2 0 0 0 [(0, va_rf (some th)), (1, .int p1)] [] m (g_X3_guest_0 th p1 m) := by
  unfold g_X3_guest_0
  refine z_iload_n C dX3_guest_0 rfl 1 rfl ?_
  refine z_if_lt (tgt := 22) C dX3_guest_1 (by decide) (fun c1 => ?_) (fun c1 => ?_)
  · exact z_sub [0, 1] rfl (s_X3_guest_22 C hr hrm th p1 m)
  · refine z_iload_n C dX3_guest_4 rfl 1 rfl ?_
    refine z_aload_n C dX3_guest_5 rfl 0 rfl ?_
    refine z_chk (fun hk1 => ?_)
    refine z_getR C fl_RX3_17 rfl hk1 dX3_guest_6 ?_
    refine z_ck (fun a1 hr1 hk2 => ?_)
    refine z_alen C hr1 hk2 (by decide) (by decide) dX3_guest_9 ?_
    refine z_icmp_ge (tgt := 22) C dX3_guest_10 (by decide) (fun c2 => ?_) (fun c2 => ?_)
    · exact z_sub [0, 1] rfl (s_X3_guest_22 C hr hrm th p1 m)
    · refine z_aload_n C dX3_guest_13 rfl 0 rfl ?_
      refine z_getR C fl_RX3_17 rfl hk1 dX3_guest_14 ?_
      refine z_iload_n C dX3_guest_17 rfl 1 rfl ?_
      refine z_chk (fun hj1 => ?_)
      refine z_aald C hr1 hk2 (by decide) (by decide) hj1 dX3_guest_18 ?_
      refine z_goto (tgt := 23) C dX3_guest_19 (by decide) ?_
      exact z_aret C hr dX3_guest_23
def f_X3_guest (th : Nat) (p1 : Int32) (m : MM) : Option (Option Nat × MM) := g_X3_guest_0 th p1 m
theorem M_X3_guest (l : Launch) (E : EX) (th : Nat) (p1 : Int32) (m : MM) (r : Option Nat) (m2 : MM) (h : f_X3_guest th p1 m = some (r, m2)) : Met l yX3_guest (.code yX3_guest cX3_guest 2 (some (.object "FarTown$Body")) :: TB) rmX3_guest (va_Pc [.ref th, .int p1] (St E m)) (QR E (emR r) m2) 0 0 (AA E) :=
  met_of (em := emR) (plainFor_of_name rfl) (Nat.le_of_ble_eq_true rfl) (L0 := [(0, va_rf (some th)), (1, .int p1)]) rfl (fun Γ _ hrm C hr hn => s_X3_guest_0 C hr hrm th p1 m) h

theorem dX3_welcome_0 : decode cX3_welcome 0 = .ok (.aload_n 0, 1) := by decide +kernel
theorem dX3_welcome_1 : decode cX3_welcome 1 = .ok (.iload_n 1, 1) := by decide +kernel
theorem dX3_welcome_2 : decode cX3_welcome 2 = .ok (.invokevirtual 29, 3) := by decide +kernel
theorem dX3_welcome_5 : decode cX3_welcome 5 = .ok (.astore 4, 2) := by decide +kernel
theorem dX3_welcome_7 : decode cX3_welcome 7 = .ok (.aload 4, 2) := by decide +kernel
theorem dX3_welcome_9 : decode cX3_welcome 9 = .ok (.ifnull 21, 3) := by decide +kernel
theorem dX3_welcome_12 : decode cX3_welcome 12 = .ok (.aload 4, 2) := by decide +kernel
theorem dX3_welcome_14 : decode cX3_welcome 14 = .ok (.iload_n 2, 1) := by decide +kernel
theorem dX3_welcome_15 : decode cX3_welcome 15 = .ok (.putfield 33, 3) := by decide +kernel
theorem dX3_welcome_18 : decode cX3_welcome 18 = .ok (.aload 4, 2) := by decide +kernel
theorem dX3_welcome_20 : decode cX3_welcome 20 = .ok (.iload_n 3, 1) := by decide +kernel
theorem dX3_welcome_21 : decode cX3_welcome 21 = .ok (.putfield 37, 3) := by decide +kernel
theorem dX3_welcome_24 : decode cX3_welcome 24 = .ok (.aload 4, 2) := by decide +kernel
theorem dX3_welcome_26 : decode cX3_welcome 26 = .ok (.iconst 0, 1) := by decide +kernel
theorem dX3_welcome_27 : decode cX3_welcome 27 = .ok (.putfield 40, 3) := by decide +kernel
theorem dX3_welcome_30 : decode cX3_welcome 30 = .ok (.return_, 1) := by decide +kernel
def rmX3_welcome : Room := { frames := 1, cells := 0, slots := 0, locals := 21 }
set_option maxRecDepth 100000 in
def g_X3_welcome_0 (th : Nat) (p1 : Int32) (p2 : Int32) (p3 : Int32) (m : MM) : Option (Unit × MM) :=
  chk (m.K th = 4) (cal (f_X3_guest th p1 m) (fun r1 m1 => ifn r1 (some ((), m1)) (fun a1 => chk (m1.K a1 = 1) (bnd (m1.sI 100 a1 0 p2) (fun m2 => bnd (m2.sI 103 a1 0 p3) (fun m3 => bnd (m3.sI 104 a1 0 0) (fun m4 => some ((), m4))))))))
set_option maxHeartbeats 4000000 in
set_option maxRecDepth 100000 in
theorem s_X3_welcome_0 {Γ : GX} {E : EX} (C : Cx Γ E cX3_welcome RX3 5) (hr : Γ.meth.sig.returnType = none) (hrm : Γ.rm = rmX3_welcome) (th : Nat) (p1 : Int32) (p2 : Int32) (p3 : Int32) (m : MM) : Sm (QM Γ E emV 0 0) Γ E 5 0 0 0 [(0, va_rf (some th)), (1, .int p1), (2, .int p2), (3, .int p3)] [] m (g_X3_welcome_0 th p1 p2 p3 m) := by
  unfold g_X3_welcome_0
  refine z_aload_n C dX3_welcome_0 rfl 0 rfl ?_
  refine z_iload_n C dX3_welcome_1 rfl 1 rfl ?_
  refine z_chk (fun hk1 => ?_)
  refine z_cVR [.int p1] [] C mv_RX3_29 (fun r0 m0 h0 => M_X3_guest _ _ _ _ _ _ _ h0) rfl rfl ⟨by rw [hrm]; exact Nat.le_of_ble_eq_true rfl, by rw [hrm]; exact Nat.le_of_ble_eq_true rfl⟩ ⟨by rw [hrm]; exact Nat.le_of_ble_eq_true rfl, by rw [hrm]; exact Nat.le_of_ble_eq_true rfl⟩ rfl hk1 rfl rfl rfl (Nat.le_of_ble_eq_true rfl) dX3_welcome_2 (fun r1 m1 => ?_)
  refine z_astore (i := 4) (L2 := [(4, va_rf r1), (0, va_rf (some th)), (1, .int p1), (2, .int p2), (3, .int p3)]) C dX3_welcome_5 (by decide) rfl ?_
  refine z_aload C dX3_welcome_7 0 rfl ?_
  refine z_ifnull (tgt := 30) C dX3_welcome_9 (by decide) (fun hn1 => ?_) (fun a1 ha1 => ?_)
  · exact z_vret C hr dX3_welcome_30
  · refine z_aload C dX3_welcome_12 0 rfl ?_
    refine z_iload_n C dX3_welcome_14 rfl 3 rfl ?_
    refine z_chk (fun hk2 => ?_)
    refine z_putI C fl_RX3_33 (fun h => by cases h) ha1 hk2 rfl rfl dX3_welcome_15 (fun m2 eK1 eN1 => ?_)
    refine z_aload C dX3_welcome_18 0 rfl ?_
    refine z_iload_n C dX3_welcome_20 rfl 4 rfl ?_
    refine z_putI C fl_RX3_37 (fun h => by cases h) ha1 (kfw eK1 hk2) rfl rfl dX3_welcome_21 (fun m3 eK2 eN2 => ?_)
    refine z_aload C dX3_welcome_24 0 rfl ?_
    refine z_iconst (v := 0) C dX3_welcome_26 (by decide) ?_
    refine z_putI C fl_RX3_40 (fun h => by cases h) ha1 (kfw eK2 (kfw eK1 hk2)) rfl rfl dX3_welcome_27 (fun m4 eK3 eN3 => ?_)
    exact z_vret C hr dX3_welcome_30
def f_X3_welcome (th : Nat) (p1 : Int32) (p2 : Int32) (p3 : Int32) (m : MM) : Option (Unit × MM) := g_X3_welcome_0 th p1 p2 p3 m
theorem M_X3_welcome (l : Launch) (E : EX) (th : Nat) (p1 : Int32) (p2 : Int32) (p3 : Int32) (m : MM) (r : Unit) (m2 : MM) (h : f_X3_welcome th p1 p2 p3 m = some (r, m2)) : Met l yX3_welcome (.code yX3_welcome cX3_welcome 5 none :: TB) rmX3_welcome (va_Pc [.ref th, .int p1, .int p2, .int p3] (St E m)) (QR E (emV r) m2) 0 0 (AA E) :=
  met_of (em := emV) (plainFor_of_name rfl) (Nat.le_of_ble_eq_true rfl) (L0 := [(0, va_rf (some th)), (1, .int p1), (2, .int p2), (3, .int p3)]) rfl (fun Γ _ hrm C hr hn => s_X3_welcome_0 C hr hrm th p1 p2 p3 m) h

theorem dX3_seatAt_0 : decode cX3_seatAt 0 = .ok (.aload_n 0, 1) := by decide +kernel
theorem dX3_seatAt_1 : decode cX3_seatAt 1 = .ok (.iload_n 1, 1) := by decide +kernel
theorem dX3_seatAt_2 : decode cX3_seatAt 2 = .ok (.invokevirtual 29, 3) := by decide +kernel
theorem dX3_seatAt_5 : decode cX3_seatAt 5 = .ok (.astore_n 3, 1) := by decide +kernel
theorem dX3_seatAt_6 : decode cX3_seatAt 6 = .ok (.aload_n 3, 1) := by decide +kernel
theorem dX3_seatAt_7 : decode cX3_seatAt 7 = .ok (.ifnull 19, 3) := by decide +kernel
theorem dX3_seatAt_10 : decode cX3_seatAt 10 = .ok (.aload_n 3, 1) := by decide +kernel
theorem dX3_seatAt_11 : decode cX3_seatAt 11 = .ok (.iload_n 2, 1) := by decide +kernel
theorem dX3_seatAt_12 : decode cX3_seatAt 12 = .ok (.bipush 8, 2) := by decide +kernel
theorem dX3_seatAt_14 : decode cX3_seatAt 14 = .ok (.irem, 1) := by decide +kernel
theorem dX3_seatAt_15 : decode cX3_seatAt 15 = .ok (.putfield 43, 3) := by decide +kernel
theorem dX3_seatAt_18 : decode cX3_seatAt 18 = .ok (.aload_n 3, 1) := by decide +kernel
theorem dX3_seatAt_19 : decode cX3_seatAt 19 = .ok (.iload_n 2, 1) := by decide +kernel
theorem dX3_seatAt_20 : decode cX3_seatAt 20 = .ok (.bipush 8, 2) := by decide +kernel
theorem dX3_seatAt_22 : decode cX3_seatAt 22 = .ok (.idiv, 1) := by decide +kernel
theorem dX3_seatAt_23 : decode cX3_seatAt 23 = .ok (.putfield 46, 3) := by decide +kernel
theorem dX3_seatAt_26 : decode cX3_seatAt 26 = .ok (.return_, 1) := by decide +kernel
def rmX3_seatAt : Room := { frames := 1, cells := 0, slots := 0, locals := 21 }
set_option maxRecDepth 100000 in
def g_X3_seatAt_0 (th : Nat) (p1 : Int32) (p2 : Int32) (m : MM) : Option (Unit × MM) :=
  chk (m.K th = 4) (cal (f_X3_guest th p1 m) (fun r1 m1 => ifn r1 (some ((), m1)) (fun a1 => chk (m1.K a1 = 1) (bnd (m1.sI 101 a1 0 (p2 - p2 / 8 * 8)) (fun m2 => bnd (m2.sI 102 a1 0 (p2 / 8)) (fun m3 => some ((), m3)))))))
set_option maxHeartbeats 4000000 in
set_option maxRecDepth 100000 in
theorem s_X3_seatAt_0 {Γ : GX} {E : EX} (C : Cx Γ E cX3_seatAt RX3 4) (hr : Γ.meth.sig.returnType = none) (hrm : Γ.rm = rmX3_seatAt) (th : Nat) (p1 : Int32) (p2 : Int32) (m : MM) : Sm (QM Γ E emV 0 0) Γ E 4 0 0 0 [(0, va_rf (some th)), (1, .int p1), (2, .int p2)] [] m (g_X3_seatAt_0 th p1 p2 m) := by
  unfold g_X3_seatAt_0
  refine z_aload_n C dX3_seatAt_0 rfl 0 rfl ?_
  refine z_iload_n C dX3_seatAt_1 rfl 1 rfl ?_
  refine z_chk (fun hk1 => ?_)
  refine z_cVR [.int p1] [] C mv_RX3_29 (fun r0 m0 h0 => M_X3_guest _ _ _ _ _ _ _ h0) rfl rfl ⟨by rw [hrm]; exact Nat.le_of_ble_eq_true rfl, by rw [hrm]; exact Nat.le_of_ble_eq_true rfl⟩ ⟨by rw [hrm]; exact Nat.le_of_ble_eq_true rfl, by rw [hrm]; exact Nat.le_of_ble_eq_true rfl⟩ rfl hk1 rfl rfl rfl (Nat.le_of_ble_eq_true rfl) dX3_seatAt_2 (fun r1 m1 => ?_)
  refine z_astore_n (i := 3) (L2 := [(3, va_rf r1), (0, va_rf (some th)), (1, .int p1), (2, .int p2)]) C dX3_seatAt_5 rfl (by decide) rfl ?_
  refine z_aload_n C dX3_seatAt_6 rfl 0 rfl ?_
  refine z_ifnull (tgt := 26) C dX3_seatAt_7 (by decide) (fun hn1 => ?_) (fun a1 ha1 => ?_)
  · exact z_vret C hr dX3_seatAt_26
  · refine z_aload_n C dX3_seatAt_10 rfl 0 rfl ?_
    refine z_iload_n C dX3_seatAt_11 rfl 3 rfl ?_
    refine z_bipush (v := 8) C dX3_seatAt_12 (by decide) ?_
    refine z_irem C (by decide) dX3_seatAt_14 ?_
    refine z_chk (fun hk2 => ?_)
    refine z_putI C fl_RX3_43 (fun h => by cases h) ha1 hk2 rfl rfl dX3_seatAt_15 (fun m2 eK1 eN1 => ?_)
    refine z_aload_n C dX3_seatAt_18 rfl 0 rfl ?_
    refine z_iload_n C dX3_seatAt_19 rfl 3 rfl ?_
    refine z_bipush (v := 8) C dX3_seatAt_20 (by decide) ?_
    refine z_idiv C (by decide) dX3_seatAt_22 ?_
    refine z_putI C fl_RX3_46 (fun h => by cases h) ha1 (kfw eK1 hk2) rfl rfl dX3_seatAt_23 (fun m3 eK2 eN2 => ?_)
    exact z_vret C hr dX3_seatAt_26
def f_X3_seatAt (th : Nat) (p1 : Int32) (p2 : Int32) (m : MM) : Option (Unit × MM) := g_X3_seatAt_0 th p1 p2 m
theorem M_X3_seatAt (l : Launch) (E : EX) (th : Nat) (p1 : Int32) (p2 : Int32) (m : MM) (r : Unit) (m2 : MM) (h : f_X3_seatAt th p1 p2 m = some (r, m2)) : Met l yX3_seatAt (.code yX3_seatAt cX3_seatAt 4 none :: TB) rmX3_seatAt (va_Pc [.ref th, .int p1, .int p2] (St E m)) (QR E (emV r) m2) 0 0 (AA E) :=
  met_of (em := emV) (plainFor_of_name rfl) (Nat.le_of_ble_eq_true rfl) (L0 := [(0, va_rf (some th)), (1, .int p1), (2, .int p2)]) rfl (fun Γ _ hrm C hr hn => s_X3_seatAt_0 C hr hrm th p1 p2 m) h

theorem dX3_pointOf_0 : decode cX3_pointOf 0 = .ok (.aload_n 0, 1) := by decide +kernel
theorem dX3_pointOf_1 : decode cX3_pointOf 1 = .ok (.iload_n 1, 1) := by decide +kernel
theorem dX3_pointOf_2 : decode cX3_pointOf 2 = .ok (.invokevirtual 29, 3) := by decide +kernel
theorem dX3_pointOf_5 : decode cX3_pointOf 5 = .ok (.astore_n 2, 1) := by decide +kernel
theorem dX3_pointOf_6 : decode cX3_pointOf 6 = .ok (.aload_n 2, 1) := by decide +kernel
theorem dX3_pointOf_7 : decode cX3_pointOf 7 = .ok (.ifnonnull 7, 3) := by decide +kernel
theorem dX3_pointOf_10 : decode cX3_pointOf 10 = .ok (.iconst (-1), 1) := by decide +kernel
theorem dX3_pointOf_11 : decode cX3_pointOf 11 = .ok (.goto 15, 3) := by decide +kernel
theorem dX3_pointOf_14 : decode cX3_pointOf 14 = .ok (.aload_n 2, 1) := by decide +kernel
theorem dX3_pointOf_15 : decode cX3_pointOf 15 = .ok (.getfield 46, 3) := by decide +kernel
theorem dX3_pointOf_18 : decode cX3_pointOf 18 = .ok (.bipush 8, 2) := by decide +kernel
theorem dX3_pointOf_20 : decode cX3_pointOf 20 = .ok (.imul, 1) := by decide +kernel
theorem dX3_pointOf_21 : decode cX3_pointOf 21 = .ok (.aload_n 2, 1) := by decide +kernel
theorem dX3_pointOf_22 : decode cX3_pointOf 22 = .ok (.getfield 43, 3) := by decide +kernel
theorem dX3_pointOf_25 : decode cX3_pointOf 25 = .ok (.iadd, 1) := by decide +kernel
theorem dX3_pointOf_26 : decode cX3_pointOf 26 = .ok (.ireturn, 1) := by decide +kernel
def rmX3_pointOf : Room := { frames := 1, cells := 0, slots := 0, locals := 21 }
set_option maxRecDepth 100000 in
def g_X3_pointOf_0 (th : Nat) (p1 : Int32) (m : MM) : Option (Int32 × MM) :=
  chk (m.K th = 4) (cal (f_X3_guest th p1 m) (fun r1 m1 => ifn r1 (some ((-1), m1)) (fun a1 => chk (m1.K a1 = 1) (some (((m1.I 102 a1 0) * 8) + (m1.I 101 a1 0), m1)))))
set_option maxHeartbeats 4000000 in
set_option maxRecDepth 100000 in
theorem s_X3_pointOf_0 {Γ : GX} {E : EX} (C : Cx Γ E cX3_pointOf RX3 3) (hr : Γ.meth.sig.returnType = (some .int)) (hrm : Γ.rm = rmX3_pointOf) (th : Nat) (p1 : Int32) (m : MM) : Sm (QM Γ E emI 0 0) Γ E 3 0 0 0 [(0, va_rf (some th)), (1, .int p1)] [] m (g_X3_pointOf_0 th p1 m) := by
  unfold g_X3_pointOf_0
  refine z_aload_n C dX3_pointOf_0 rfl 0 rfl ?_
  refine z_iload_n C dX3_pointOf_1 rfl 1 rfl ?_
  refine z_chk (fun hk1 => ?_)
  refine z_cVR [.int p1] [] C mv_RX3_29 (fun r0 m0 h0 => M_X3_guest _ _ _ _ _ _ _ h0) rfl rfl ⟨by rw [hrm]; exact Nat.le_of_ble_eq_true rfl, by rw [hrm]; exact Nat.le_of_ble_eq_true rfl⟩ ⟨by rw [hrm]; exact Nat.le_of_ble_eq_true rfl, by rw [hrm]; exact Nat.le_of_ble_eq_true rfl⟩ rfl hk1 rfl rfl rfl (Nat.le_of_ble_eq_true rfl) dX3_pointOf_2 (fun r1 m1 => ?_)
  refine z_astore_n (i := 2) (L2 := [(2, va_rf r1), (0, va_rf (some th)), (1, .int p1)]) C dX3_pointOf_5 rfl (by decide) rfl ?_
  refine z_aload_n C dX3_pointOf_6 rfl 0 rfl ?_
  refine z_ifnonnull (tgt := 14) C dX3_pointOf_7 (by decide) (fun a1 ha1 => ?_) (fun hn1 => ?_)
  · refine z_aload_n C dX3_pointOf_14 rfl 0 rfl ?_
    refine z_chk (fun hk2 => ?_)
    refine z_getI C fl_RX3_46 ha1 hk2 dX3_pointOf_15 ?_
    refine z_bipush (v := 8) C dX3_pointOf_18 (by decide) ?_
    refine z_imul C dX3_pointOf_20 ?_
    refine z_aload_n C dX3_pointOf_21 rfl 0 rfl ?_
    refine z_getI C fl_RX3_43 ha1 hk2 dX3_pointOf_22 ?_
    refine z_iadd C dX3_pointOf_25 ?_
    exact z_iret C hr dX3_pointOf_26
  · refine z_iconst (v := (-1)) C dX3_pointOf_10 (by decide) ?_
    refine z_goto (tgt := 26) C dX3_pointOf_11 (by decide) ?_
    exact z_iret C hr dX3_pointOf_26
def f_X3_pointOf (th : Nat) (p1 : Int32) (m : MM) : Option (Int32 × MM) := g_X3_pointOf_0 th p1 m
theorem M_X3_pointOf (l : Launch) (E : EX) (th : Nat) (p1 : Int32) (m : MM) (r : Int32) (m2 : MM) (h : f_X3_pointOf th p1 m = some (r, m2)) : Met l yX3_pointOf (.code yX3_pointOf cX3_pointOf 3 (some .int) :: TB) rmX3_pointOf (va_Pc [.ref th, .int p1] (St E m)) (QR E (emI r) m2) 0 0 (AA E) :=
  met_of (em := emI) (plainFor_of_name rfl) (Nat.le_of_ble_eq_true rfl) (L0 := [(0, va_rf (some th)), (1, .int p1)]) rfl (fun Γ _ hrm C hr hn => s_X3_pointOf_0 C hr hrm th p1 m) h

theorem dX3_mayStay_0 : decode cX3_mayStay 0 = .ok (.iconst 0, 1) := by decide +kernel
theorem dX3_mayStay_1 : decode cX3_mayStay 1 = .ok (.istore_n 3, 1) := by decide +kernel
theorem dX3_mayStay_2 : decode cX3_mayStay 2 = .ok (.iload_n 3, 1) := by decide +kernel
theorem dX3_mayStay_3 : decode cX3_mayStay 3 = .ok (.bipush 12, 2) := by decide +kernel
theorem dX3_mayStay_5 : decode cX3_mayStay 5 = .ok (.if_icmp .ge 78, 3) := by decide +kernel
theorem dX3_mayStay_8 : decode cX3_mayStay 8 = .ok (.aload_n 0, 1) := by decide +kernel
theorem dX3_mayStay_9 : decode cX3_mayStay 9 = .ok (.getfield 9, 3) := by decide +kernel
theorem dX3_mayStay_12 : decode cX3_mayStay 12 = .ok (.iload_n 3, 1) := by decide +kernel
theorem dX3_mayStay_13 : decode cX3_mayStay 13 = .ok (.invokevirtual 80, 3) := by decide +kernel
theorem dX3_mayStay_16 : decode cX3_mayStay 16 = .ok (.astore 4, 2) := by decide +kernel
theorem dX3_mayStay_18 : decode cX3_mayStay 18 = .ok (.iload_n 2, 1) := by decide +kernel
theorem dX3_mayStay_19 : decode cX3_mayStay 19 = .ok (.iload_n 3, 1) := by decide +kernel
theorem dX3_mayStay_20 : decode cX3_mayStay 20 = .ok (.ishr, 1) := by decide +kernel
theorem dX3_mayStay_21 : decode cX3_mayStay 21 = .ok (.iconst 1, 1) := by decide +kernel
theorem dX3_mayStay_22 : decode cX3_mayStay 22 = .ok (.iand, 1) := by decide +kernel
theorem dX3_mayStay_23 : decode cX3_mayStay 23 = .ok (.ifCond .eq 54, 3) := by decide +kernel
theorem dX3_mayStay_26 : decode cX3_mayStay 26 = .ok (.aload 4, 2) := by decide +kernel
theorem dX3_mayStay_28 : decode cX3_mayStay 28 = .ok (.ifnull 49, 3) := by decide +kernel
theorem dX3_mayStay_31 : decode cX3_mayStay 31 = .ok (.aload_n 1, 1) := by decide +kernel
theorem dX3_mayStay_32 : decode cX3_mayStay 32 = .ok (.ifnonnull 6, 3) := by decide +kernel
theorem dX3_mayStay_35 : decode cX3_mayStay 35 = .ok (.goto 42, 3) := by decide +kernel
theorem dX3_mayStay_38 : decode cX3_mayStay 38 = .ok (.aload 4, 2) := by decide +kernel
theorem dX3_mayStay_40 : decode cX3_mayStay 40 = .ok (.getfield 43, 3) := by decide +kernel
theorem dX3_mayStay_43 : decode cX3_mayStay 43 = .ok (.aload_n 1, 1) := by decide +kernel
theorem dX3_mayStay_44 : decode cX3_mayStay 44 = .ok (.getfield 43, 3) := by decide +kernel
theorem dX3_mayStay_47 : decode cX3_mayStay 47 = .ok (.if_icmp .ne 15, 3) := by decide +kernel
theorem dX3_mayStay_50 : decode cX3_mayStay 50 = .ok (.aload 4, 2) := by decide +kernel
theorem dX3_mayStay_52 : decode cX3_mayStay 52 = .ok (.getfield 46, 3) := by decide +kernel
theorem dX3_mayStay_55 : decode cX3_mayStay 55 = .ok (.aload_n 1, 1) := by decide +kernel
theorem dX3_mayStay_56 : decode cX3_mayStay 56 = .ok (.getfield 46, 3) := by decide +kernel
theorem dX3_mayStay_59 : decode cX3_mayStay 59 = .ok (.if_icmp .eq 16, 3) := by decide +kernel
theorem dX3_mayStay_62 : decode cX3_mayStay 62 = .ok (.aload_n 0, 1) := by decide +kernel
theorem dX3_mayStay_63 : decode cX3_mayStay 63 = .ok (.getfield 9, 3) := by decide +kernel
theorem dX3_mayStay_66 : decode cX3_mayStay 66 = .ok (.aload_n 1, 1) := by decide +kernel
theorem dX3_mayStay_67 : decode cX3_mayStay 67 = .ok (.aload 4, 2) := by decide +kernel
theorem dX3_mayStay_69 : decode cX3_mayStay 69 = .ok (.invokevirtual 83, 3) := by decide +kernel
theorem dX3_mayStay_72 : decode cX3_mayStay 72 = .ok (.ifCond .eq 5, 3) := by decide +kernel
theorem dX3_mayStay_75 : decode cX3_mayStay 75 = .ok (.iconst 0, 1) := by decide +kernel
theorem dX3_mayStay_76 : decode cX3_mayStay 76 = .ok (.ireturn, 1) := by decide +kernel
theorem dX3_mayStay_77 : decode cX3_mayStay 77 = .ok (.iinc 3 1, 3) := by decide +kernel
theorem dX3_mayStay_80 : decode cX3_mayStay 80 = .ok (.goto (-78), 3) := by decide +kernel
theorem dX3_mayStay_83 : decode cX3_mayStay 83 = .ok (.iconst 1, 1) := by decide +kernel
theorem dX3_mayStay_84 : decode cX3_mayStay 84 = .ok (.ireturn, 1) := by decide +kernel
def rmX3_mayStay : Room := { frames := 4, cells := 0, slots := 0, locals := 118 }
set_option maxRecDepth 100000 in
def g_X3_mayStay_77 (th : Nat) (p1 : Option Nat) (p2 : Int32) (k2 : Int32 → MM → Option (Int32 × MM)) (x3 : Int32) (m : MM) : Option (Int32 × MM) :=
  k2 (x3 + 1) m
set_option maxHeartbeats 4000000 in
set_option maxRecDepth 100000 in
theorem s_X3_mayStay_77 {Γ : GX} {E : EX} (C : Cx Γ E cX3_mayStay RX3 5) (hr : Γ.meth.sig.returnType = (some .boolean)) (hrm : Γ.rm = rmX3_mayStay) (th : Nat) (p1 : Option Nat) (p2 : Int32) (k2 : Int32 → MM → Option (Int32 × MM)) (h2 : ∀ (x3 : Int32) (m : MM), Sm (QM Γ E emI 0 0) Γ E 5 0 0 2 [(0, va_rf (some th)), (1, va_rf p1), (2, .int p2), (3, .int x3)] [] m (k2 x3 m)) (x3 : Int32) (m : MM) : Sm (QM Γ E emI 0 0) Γ E 5 0 0 77 [(0, va_rf (some th)), (1, va_rf p1), (2, .int p2), (3, .int x3)] [] m (g_X3_mayStay_77 th p1 p2 k2 x3 m) := by
  unfold g_X3_mayStay_77
  refine z_iinc (v := 1) (L2 := [(3, .int (x3 + 1)), (0, va_rf (some th)), (1, va_rf p1), (2, .int p2)]) C dX3_mayStay_77 3 rfl (by decide) (by decide) rfl ?_
  refine z_goto (tgt := 2) C dX3_mayStay_80 (by decide) ?_
  exact z_sub [1, 2, 3, 0] rfl (h2 (x3 + 1) m)
set_option maxRecDepth 100000 in
def g_X3_mayStay_62 (th : Nat) (p1 : Option Nat) (p2 : Int32) (k2 : Int32 → MM → Option (Int32 × MM)) (x3 : Int32) (x4 : Option Nat) (m : MM) : Option (Int32 × MM) :=
  chk (m.K th = 4) (ck m (m.R 400 th 0) 6 (fun a1 => cal (f_X5_clash a1 p1 x4 m) (fun r1 m1 => if r1 = 0 then (g_X3_mayStay_77 th p1 p2 k2 x3 m1) else (some (0, m1)))))
set_option maxHeartbeats 4000000 in
set_option maxRecDepth 100000 in
theorem s_X3_mayStay_62 {Γ : GX} {E : EX} (C : Cx Γ E cX3_mayStay RX3 5) (hr : Γ.meth.sig.returnType = (some .boolean)) (hrm : Γ.rm = rmX3_mayStay) (th : Nat) (p1 : Option Nat) (p2 : Int32) (k2 : Int32 → MM → Option (Int32 × MM)) (h2 : ∀ (x3 : Int32) (m : MM), Sm (QM Γ E emI 0 0) Γ E 5 0 0 2 [(0, va_rf (some th)), (1, va_rf p1), (2, .int p2), (3, .int x3)] [] m (k2 x3 m)) (x3 : Int32) (x4 : Option Nat) (m : MM) : Sm (QM Γ E emI 0 0) Γ E 5 0 0 62 [(0, va_rf (some th)), (1, va_rf p1), (2, .int p2), (3, .int x3), (4, va_rf x4)] [] m (g_X3_mayStay_62 th p1 p2 k2 x3 x4 m) := by
  unfold g_X3_mayStay_62
  refine z_aload_n C dX3_mayStay_62 rfl 0 rfl ?_
  refine z_chk (fun hk1 => ?_)
  refine z_getR C fl_RX3_9 rfl hk1 dX3_mayStay_63 ?_
  refine z_aload_n C dX3_mayStay_66 rfl 1 rfl ?_
  refine z_aload C dX3_mayStay_67 4 rfl ?_
  refine z_ck (fun a1 hr1 hk2 => ?_)
  refine z_cVI [va_rf p1, va_rf x4] [] C mv_RX3_83 (fun r0 m0 h0 => M_X5_clash _ _ _ _ _ _ _ _ h0) rfl rfl ⟨by rw [hrm]; exact Nat.le_of_ble_eq_true rfl, by rw [hrm]; exact Nat.le_of_ble_eq_true rfl⟩ ⟨by rw [hrm]; exact Nat.le_of_ble_eq_true rfl, by rw [hrm]; exact Nat.le_of_ble_eq_true rfl⟩ hr1 hk2 rfl rfl rfl (Nat.le_of_ble_eq_true rfl) dX3_mayStay_69 (fun r1 m1 => ?_)
  refine z_if_eq (tgt := 77) C dX3_mayStay_72 (by decide) (fun c1 => ?_) (fun c1 => ?_)
  · exact z_sub [0, 1, 2, 3] rfl (s_X3_mayStay_77 C hr hrm th p1 p2 k2 h2 x3 m1)
  · refine z_iconst (v := 0) C dX3_mayStay_75 (by decide) ?_
    exact z_zret C hr rfl dX3_mayStay_76
set_option maxRecDepth 100000 in
def g_X3_mayStay_2 (th : Nat) (p1 : Option Nat) (p2 : Int32) (k2 : Int32 → MM → Option (Int32 × MM)) (x3 : Int32) (m : MM) : Option (Int32 × MM) :=
  if 12 ≤ x3 then (some (1, m)) else (chk (m.K th = 4) (ck m (m.R 400 th 0) 6 (fun a2 => cal (f_X5_body a2 x3 m) (fun r2 m2 => if ((p2 >>> (x3 &&& 31)) &&& 1) = 0 then (g_X3_mayStay_77 th p1 p2 k2 x3 m2) else (ifn r2 (g_X3_mayStay_77 th p1 p2 k2 x3 m2) (fun a3 => ifn p1 (g_X3_mayStay_77 th p1 p2 k2 x3 m2) (fun a4 => chk (m2.K a3 = 1) (chk (m2.K a4 = 1) (if (m2.I 101 a3 0) = (m2.I 101 a4 0) then (if (m2.I 102 a3 0) = (m2.I 102 a4 0) then (some (0, m2)) else (g_X3_mayStay_62 th p1 p2 k2 x3 r2 m2)) else (g_X3_mayStay_62 th p1 p2 k2 x3 r2 m2))))))))))
set_option maxHeartbeats 4000000 in
set_option maxRecDepth 100000 in
theorem s_X3_mayStay_2 {Γ : GX} {E : EX} (C : Cx Γ E cX3_mayStay RX3 5) (hr : Γ.meth.sig.returnType = (some .boolean)) (hrm : Γ.rm = rmX3_mayStay) (th : Nat) (p1 : Option Nat) (p2 : Int32) (k2 : Int32 → MM → Option (Int32 × MM)) (h2 : ∀ (x3 : Int32) (m : MM), Sm (QM Γ E emI 0 0) Γ E 5 0 0 2 [(0, va_rf (some th)), (1, va_rf p1), (2, .int p2), (3, .int x3)] [] m (k2 x3 m)) (x3 : Int32) (m : MM) : Sm (QM Γ E emI 0 0) Γ E 5 0 0 2 [(0, va_rf (some th)), (1, va_rf p1), (2, .int p2), (3, .int x3)] [] m (g_X3_mayStay_2 th p1 p2 k2 x3 m) := by
  unfold g_X3_mayStay_2
  refine z_iload_n C dX3_mayStay_2 rfl 3 rfl ?_
  refine z_bipush (v := 12) C dX3_mayStay_3 (by decide) ?_
  refine z_icmp_ge (tgt := 83) C dX3_mayStay_5 (by decide) (fun c2 => ?_) (fun c2 => ?_)
  · refine z_iconst (v := 1) C dX3_mayStay_83 (by decide) ?_
    exact z_zret C hr rfl dX3_mayStay_84
  · refine z_aload_n C dX3_mayStay_8 rfl 0 rfl ?_
    refine z_chk (fun hk3 => ?_)
    refine z_getR C fl_RX3_9 rfl hk3 dX3_mayStay_9 ?_
    refine z_iload_n C dX3_mayStay_12 rfl 3 rfl ?_
    refine z_ck (fun a2 hr2 hk4 => ?_)
    refine z_cVR [.int x3] [] C mv_RX3_80 (fun r0 m0 h0 => M_X5_body _ _ _ _ _ _ _ h0) rfl rfl ⟨by rw [hrm]; exact Nat.le_of_ble_eq_true rfl, by rw [hrm]; exact Nat.le_of_ble_eq_true rfl⟩ ⟨by rw [hrm]; exact Nat.le_of_ble_eq_true rfl, by rw [hrm]; exact Nat.le_of_ble_eq_true rfl⟩ hr2 hk4 rfl rfl rfl (Nat.le_of_ble_eq_true rfl) dX3_mayStay_13 (fun r2 m2 => ?_)
    refine z_astore (i := 4) (L2 := [(4, va_rf r2), (0, va_rf (some th)), (1, va_rf p1), (2, .int p2), (3, .int x3)]) C dX3_mayStay_16 (by decide) rfl ?_
    refine z_iload_n C dX3_mayStay_18 rfl 3 rfl ?_
    refine z_iload_n C dX3_mayStay_19 rfl 4 rfl ?_
    refine z_ishr C dX3_mayStay_20 ?_
    refine z_iconst (v := 1) C dX3_mayStay_21 (by decide) ?_
    refine z_iand C dX3_mayStay_22 ?_
    refine z_if_eq (tgt := 77) C dX3_mayStay_23 (by decide) (fun c3 => ?_) (fun c3 => ?_)
    · exact z_sub [1, 2, 3, 4] rfl (s_X3_mayStay_77 C hr hrm th p1 p2 k2 h2 x3 m2)
    · refine z_aload C dX3_mayStay_26 0 rfl ?_
      refine z_ifnull (tgt := 77) C dX3_mayStay_28 (by decide) (fun hn1 => ?_) (fun a3 ha1 => ?_)
      · exact z_sub [1, 2, 3, 4] rfl (s_X3_mayStay_77 C hr hrm th p1 p2 k2 h2 x3 m2)
      · refine z_aload_n C dX3_mayStay_31 rfl 2 rfl ?_
        refine z_ifnonnull (tgt := 38) C dX3_mayStay_32 (by decide) (fun a4 ha2 => ?_) (fun hn2 => ?_)
        · refine z_aload C dX3_mayStay_38 0 rfl ?_
          refine z_chk (fun hk5 => ?_)
          refine z_getI C fl_RX3_43 ha1 hk5 dX3_mayStay_40 ?_
          refine z_aload_n C dX3_mayStay_43 rfl 2 rfl ?_
          refine z_chk (fun hk6 => ?_)
          refine z_getI C fl_RX3_43 ha2 hk6 dX3_mayStay_44 ?_
          refine z_icmp_ne (tgt := 62) C dX3_mayStay_47 (by decide) (fun c4 => ?_) (fun c4 => ?_)
          · exact z_sub [1, 2, 3, 4, 0] rfl (s_X3_mayStay_62 C hr hrm th p1 p2 k2 h2 x3 r2 m2)
          · refine z_aload C dX3_mayStay_50 0 rfl ?_
            refine z_getI C fl_RX3_46 ha1 hk5 dX3_mayStay_52 ?_
            refine z_aload_n C dX3_mayStay_55 rfl 2 rfl ?_
            refine z_getI C fl_RX3_46 ha2 hk6 dX3_mayStay_56 ?_
            refine z_icmp_eq (tgt := 75) C dX3_mayStay_59 (by decide) (fun c5 => ?_) (fun c5 => ?_)
            · refine z_iconst (v := 0) C dX3_mayStay_75 (by decide) ?_
              exact z_zret C hr rfl dX3_mayStay_76
            · exact z_sub [1, 2, 3, 4, 0] rfl (s_X3_mayStay_62 C hr hrm th p1 p2 k2 h2 x3 r2 m2)
        · refine z_goto (tgt := 77) C dX3_mayStay_35 (by decide) ?_
          exact z_sub [1, 2, 3, 4] rfl (s_X3_mayStay_77 C hr hrm th p1 p2 k2 h2 x3 m2)
def l_X3_mayStay_2 (th : Nat) (p1 : Option Nat) (p2 : Int32) : Nat → Int32 → MM → Option (Int32 × MM) := lp (fun _ _ => none) (fun k2 => g_X3_mayStay_2 th p1 p2 k2)
theorem t_X3_mayStay_2 {Γ : GX} {E : EX} (C : Cx Γ E cX3_mayStay RX3 5) (hr : Γ.meth.sig.returnType = (some .boolean)) (hrm : Γ.rm = rmX3_mayStay) (th : Nat) (p1 : Option Nat) (p2 : Int32) : ∀ (n : Nat) (x3 : Int32) (m : MM), Sm (QM Γ E emI 0 0) Γ E 5 0 0 2 [(0, va_rf (some th)), (1, va_rf p1), (2, .int p2), (3, .int x3)] [] m (l_X3_mayStay_2 th p1 p2 n x3 m) := by
  intro n
  induction n with
  | zero => intros; exact z_none
  | succ n ih => intro x3 m; exact s_X3_mayStay_2 C hr hrm th p1 p2 (l_X3_mayStay_2 th p1 p2 n) ih x3 m
set_option maxRecDepth 100000 in
def g_X3_mayStay_0 (th : Nat) (p1 : Option Nat) (p2 : Int32) (m : MM) : Option (Int32 × MM) :=
  l_X3_mayStay_2 th p1 p2 FU 0 m
set_option maxHeartbeats 4000000 in
set_option maxRecDepth 100000 in
theorem s_X3_mayStay_0 {Γ : GX} {E : EX} (C : Cx Γ E cX3_mayStay RX3 5) (hr : Γ.meth.sig.returnType = (some .boolean)) (hrm : Γ.rm = rmX3_mayStay) (th : Nat) (p1 : Option Nat) (p2 : Int32) (m : MM) : Sm (QM Γ E emI 0 0) Γ E 5 0 0 0 [(0, va_rf (some th)), (1, va_rf p1), (2, .int p2)] [] m (g_X3_mayStay_0 th p1 p2 m) := by
  unfold g_X3_mayStay_0
  refine z_iconst (v := 0) C dX3_mayStay_0 (by decide) ?_
  refine z_istore_n (i := 3) (L2 := [(3, .int 0), (0, va_rf (some th)), (1, va_rf p1), (2, .int p2)]) C dX3_mayStay_1 rfl (by decide) rfl ?_
  exact z_sub [1, 2, 3, 0] rfl (t_X3_mayStay_2 C hr hrm th p1 p2 FU 0 m)
def f_X3_mayStay (th : Nat) (p1 : Option Nat) (p2 : Int32) (m : MM) : Option (Int32 × MM) := g_X3_mayStay_0 th p1 p2 m
theorem M_X3_mayStay (l : Launch) (E : EX) (th : Nat) (p1 : Option Nat) (p2 : Int32) (m : MM) (r : Int32) (m2 : MM) (h : f_X3_mayStay th p1 p2 m = some (r, m2)) : Met l yX3_mayStay (.code yX3_mayStay cX3_mayStay 5 (some .boolean) :: TB) rmX3_mayStay (va_Pc [.ref th, va_rf p1, .int p2] (St E m)) (QR E (emI r) m2) 0 0 (AA E) :=
  met_of (em := emI) (plainFor_of_name rfl) (by simp [lg_sl, cat_rf, cat_i, cat_l, cat_a]) (L0 := [(0, va_rf (some th)), (1, va_rf p1), (2, .int p2)]) (by simp [lv_args, cat_rf, cat_i, cat_l, cat_a] <;> rfl) (fun Γ _ hrm C hr hn => s_X3_mayStay_0 C hr hrm th p1 p2 m) h

theorem dX3_maySit_0 : decode cX3_maySit 0 = .ok (.aload_n 0, 1) := by decide +kernel
theorem dX3_maySit_1 : decode cX3_maySit 1 = .ok (.getfield 9, 3) := by decide +kernel
theorem dX3_maySit_4 : decode cX3_maySit 4 = .ok (.getfield 49, 3) := by decide +kernel
theorem dX3_maySit_7 : decode cX3_maySit 7 = .ok (.astore 5, 2) := by decide +kernel
theorem dX3_maySit_9 : decode cX3_maySit 9 = .ok (.aload 5, 2) := by decide +kernel
theorem dX3_maySit_11 : decode cX3_maySit 11 = .ok (.ifnull 14, 3) := by decide +kernel
theorem dX3_maySit_14 : decode cX3_maySit 14 = .ok (.aload 5, 2) := by decide +kernel
theorem dX3_maySit_16 : decode cX3_maySit 16 = .ok (.iload_n 3, 1) := by decide +kernel
theorem dX3_maySit_17 : decode cX3_maySit 17 = .ok (.iload 4, 2) := by decide +kernel
theorem dX3_maySit_19 : decode cX3_maySit 19 = .ok (.invokevirtual 55, 3) := by decide +kernel
theorem dX3_maySit_22 : decode cX3_maySit 22 = .ok (.ifCond .ne 5, 3) := by decide +kernel
theorem dX3_maySit_25 : decode cX3_maySit 25 = .ok (.iconst 0, 1) := by decide +kernel
theorem dX3_maySit_26 : decode cX3_maySit 26 = .ok (.ireturn, 1) := by decide +kernel
theorem dX3_maySit_27 : decode cX3_maySit 27 = .ok (.aload_n 0, 1) := by decide +kernel
theorem dX3_maySit_28 : decode cX3_maySit 28 = .ok (.iconst 0, 1) := by decide +kernel
theorem dX3_maySit_29 : decode cX3_maySit 29 = .ok (.iload_n 1, 1) := by decide +kernel
theorem dX3_maySit_30 : decode cX3_maySit 30 = .ok (.iload_n 2, 1) := by decide +kernel
theorem dX3_maySit_31 : decode cX3_maySit 31 = .ok (.invokevirtual 61, 3) := by decide +kernel
theorem dX3_maySit_34 : decode cX3_maySit 34 = .ok (.aload_n 0, 1) := by decide +kernel
theorem dX3_maySit_35 : decode cX3_maySit 35 = .ok (.iconst 0, 1) := by decide +kernel
theorem dX3_maySit_36 : decode cX3_maySit 36 = .ok (.iload 4, 2) := by decide +kernel
theorem dX3_maySit_38 : decode cX3_maySit 38 = .ok (.bipush 8, 2) := by decide +kernel
theorem dX3_maySit_40 : decode cX3_maySit 40 = .ok (.imul, 1) := by decide +kernel
theorem dX3_maySit_41 : decode cX3_maySit 41 = .ok (.iload_n 3, 1) := by decide +kernel
theorem dX3_maySit_42 : decode cX3_maySit 42 = .ok (.iadd, 1) := by decide +kernel
theorem dX3_maySit_43 : decode cX3_maySit 43 = .ok (.invokevirtual 65, 3) := by decide +kernel
theorem dX3_maySit_46 : decode cX3_maySit 46 = .ok (.aload_n 0, 1) := by decide +kernel
theorem dX3_maySit_47 : decode cX3_maySit 47 = .ok (.aload_n 0, 1) := by decide +kernel
theorem dX3_maySit_48 : decode cX3_maySit 48 = .ok (.iconst 0, 1) := by decide +kernel
theorem dX3_maySit_49 : decode cX3_maySit 49 = .ok (.invokevirtual 29, 3) := by decide +kernel
theorem dX3_maySit_52 : decode cX3_maySit 52 = .ok (.aload_n 0, 1) := by decide +kernel
theorem dX3_maySit_53 : decode cX3_maySit 53 = .ok (.getfield 9, 3) := by decide +kernel
theorem dX3_maySit_56 : decode cX3_maySit 56 = .ok (.getfield 69, 3) := by decide +kernel
theorem dX3_maySit_59 : decode cX3_maySit 59 = .ok (.invokevirtual 72, 3) := by decide +kernel
theorem dX3_maySit_62 : decode cX3_maySit 62 = .ok (.ireturn, 1) := by decide +kernel
def rmX3_maySit : Room := { frames := 5, cells := 0, slots := 0, locals := 142 }
set_option maxRecDepth 100000 in
def g_X3_maySit_0 (th : Nat) (p1 : Int32) (p2 : Int32) (p3 : Int32) (p4 : Int32) (m : MM) : Option (Int32 × MM) :=
  chk (m.K th = 4) (ck m (m.R 400 th 0) 6 (fun a1 => bnd (m.R 602 a1 0) (fun y1 => ifn y1 (some (0, m)) (fun a2 => chk (m.K a2 = 9) (cal (f_X8_hasPoint a2 p3 p4 m) (fun r1 m1 => if r1 = 0 then (some (0, m1)) else (chk (m1.K th = 4) (cal (f_X3_welcome th 0 p1 p2 m1) (fun r2 m2 => chk (m2.K th = 4) (cal (f_X3_seatAt th 0 ((p4 * 8) + p3) m2) (fun r3 m3 => chk (m3.K th = 4) (cal (f_X3_guest th 0 m3) (fun r4 m4 => chk (m4.K th = 4) (ck m4 (m4.R 400 th 0) 6 (fun a3 => cal (f_X3_mayStay th r4 (m4.I 605 a3 0) m4) (fun r5 m5 => chk (r5 = 0 ∨ r5 = 1) (some (r5, m5))))))))))))))))))
set_option maxHeartbeats 4000000 in
set_option maxRecDepth 100000 in
theorem s_X3_maySit_0 {Γ : GX} {E : EX} (C : Cx Γ E cX3_maySit RX3 6) (hr : Γ.meth.sig.returnType = (some .boolean)) (hrm : Γ.rm = rmX3_maySit) (th : Nat) (p1 : Int32) (p2 : Int32) (p3 : Int32) (p4 : Int32) (m : MM) : Sm (QM Γ E emI 0 0) Γ E 6 0 0 0 [(0, va_rf (some th)), (1, .int p1), (2, .int p2), (3, .int p3), (4, .int p4)] [] m (g_X3_maySit_0 th p1 p2 p3 p4 m) := by
  unfold g_X3_maySit_0
  refine z_aload_n C dX3_maySit_0 rfl 0 rfl ?_
  refine z_chk (fun hk1 => ?_)
  refine z_getR C fl_RX3_9 rfl hk1 dX3_maySit_1 ?_
  refine z_ck (fun a1 hr1 hk2 => ?_)
  refine z_getR C fl_RX3_49 hr1 hk2 dX3_maySit_4 ?_
  refine z_bndR (fun y1 => ?_)
  refine z_astore (i := 5) (L2 := [(5, va_rf y1), (0, va_rf (some th)), (1, .int p1), (2, .int p2), (3, .int p3), (4, .int p4)]) C dX3_maySit_7 (by decide) rfl ?_
  refine z_aload C dX3_maySit_9 0 rfl ?_
  refine z_ifnull (tgt := 25) C dX3_maySit_11 (by decide) (fun hn1 => ?_) (fun a2 ha1 => ?_)
  · refine z_iconst (v := 0) C dX3_maySit_25 (by decide) ?_
    exact z_zret C hr rfl dX3_maySit_26
  · refine z_aload C dX3_maySit_14 0 rfl ?_
    refine z_iload_n C dX3_maySit_16 rfl 4 rfl ?_
    refine z_iload C dX3_maySit_17 5 rfl ?_
    refine z_chk (fun hk3 => ?_)
    refine z_cVI [.int p3, .int p4] [] C mv_RX3_55 (fun r0 m0 h0 => M_X8_hasPoint _ _ _ _ _ _ _ _ h0) rfl rfl ⟨by rw [hrm]; exact Nat.le_of_ble_eq_true rfl, by rw [hrm]; exact Nat.le_of_ble_eq_true rfl⟩ ⟨by rw [hrm]; exact Nat.le_of_ble_eq_true rfl, by rw [hrm]; exact Nat.le_of_ble_eq_true rfl⟩ ha1 hk3 rfl rfl rfl (Nat.le_of_ble_eq_true rfl) dX3_maySit_19 (fun r1 m1 => ?_)
    refine z_if_ne (tgt := 27) C dX3_maySit_22 (by decide) (fun c1 => ?_) (fun c1 => ?_)
    · refine z_aload_n C dX3_maySit_27 rfl 1 rfl ?_
      refine z_iconst (v := 0) C dX3_maySit_28 (by decide) ?_
      refine z_iload_n C dX3_maySit_29 rfl 2 rfl ?_
      refine z_iload_n C dX3_maySit_30 rfl 3 rfl ?_
      refine z_chk (fun hk4 => ?_)
      refine z_cVV [.int 0, .int p1, .int p2] [] C mv_RX3_61 (fun r0 m0 h0 => M_X3_welcome _ _ _ _ _ _ _ _ _ h0) rfl rfl ⟨by rw [hrm]; exact Nat.le_of_ble_eq_true rfl, by rw [hrm]; exact Nat.le_of_ble_eq_true rfl⟩ ⟨by rw [hrm]; exact Nat.le_of_ble_eq_true rfl, by rw [hrm]; exact Nat.le_of_ble_eq_true rfl⟩ rfl hk4 rfl rfl rfl (Nat.le_of_ble_eq_true rfl) dX3_maySit_31 (fun r2 m2 => ?_)
      refine z_aload_n C dX3_maySit_34 rfl 1 rfl ?_
      refine z_iconst (v := 0) C dX3_maySit_35 (by decide) ?_
      refine z_iload C dX3_maySit_36 5 rfl ?_
      refine z_bipush (v := 8) C dX3_maySit_38 (by decide) ?_
      refine z_imul C dX3_maySit_40 ?_
      refine z_iload_n C dX3_maySit_41 rfl 4 rfl ?_
      refine z_iadd C dX3_maySit_42 ?_
      refine z_chk (fun hk5 => ?_)
      refine z_cVV [.int 0, .int ((p4 * 8) + p3)] [] C mv_RX3_65 (fun r0 m0 h0 => M_X3_seatAt _ _ _ _ _ _ _ _ h0) rfl rfl ⟨by rw [hrm]; exact Nat.le_of_ble_eq_true rfl, by rw [hrm]; exact Nat.le_of_ble_eq_true rfl⟩ ⟨by rw [hrm]; exact Nat.le_of_ble_eq_true rfl, by rw [hrm]; exact Nat.le_of_ble_eq_true rfl⟩ rfl hk5 rfl rfl rfl (Nat.le_of_ble_eq_true rfl) dX3_maySit_43 (fun r3 m3 => ?_)
      refine z_aload_n C dX3_maySit_46 rfl 1 rfl ?_
      refine z_aload_n C dX3_maySit_47 rfl 1 rfl ?_
      refine z_iconst (v := 0) C dX3_maySit_48 (by decide) ?_
      refine z_chk (fun hk6 => ?_)
      refine z_cVR [.int 0] [va_rf (some th)] C mv_RX3_29 (fun r0 m0 h0 => M_X3_guest _ _ _ _ _ _ _ h0) rfl rfl ⟨by rw [hrm]; exact Nat.le_of_ble_eq_true rfl, by rw [hrm]; exact Nat.le_of_ble_eq_true rfl⟩ ⟨by rw [hrm]; exact Nat.le_of_ble_eq_true rfl, by rw [hrm]; exact Nat.le_of_ble_eq_true rfl⟩ rfl hk6 rfl rfl rfl (Nat.le_of_ble_eq_true rfl) dX3_maySit_49 (fun r4 m4 => ?_)
      refine z_aload_n C dX3_maySit_52 rfl 1 rfl ?_
      refine z_chk (fun hk7 => ?_)
      refine z_getR C fl_RX3_9 rfl hk7 dX3_maySit_53 ?_
      refine z_ck (fun a3 hr2 hk8 => ?_)
      refine z_getI C fl_RX3_69 hr2 hk8 dX3_maySit_56 ?_
      refine z_cVI [va_rf r4, .int (m4.I 605 a3 0)] [] C mv_RX3_72 (fun r0 m0 h0 => M_X3_mayStay _ _ _ _ _ _ _ _ h0) rfl rfl ⟨by rw [hrm]; exact Nat.le_of_ble_eq_true rfl, by rw [hrm]; exact Nat.le_of_ble_eq_true rfl⟩ ⟨by rw [hrm]; exact Nat.le_of_ble_eq_true rfl, by rw [hrm]; exact Nat.le_of_ble_eq_true rfl⟩ rfl hk7 rfl rfl rfl (Nat.le_of_ble_eq_true rfl) dX3_maySit_59 (fun r5 m5 => ?_)
      refine z_chk (fun hb1 => ?_)
      exact z_zret C hr (nb_of hb1) dX3_maySit_62
    · refine z_iconst (v := 0) C dX3_maySit_25 (by decide) ?_
      exact z_zret C hr rfl dX3_maySit_26
def f_X3_maySit (th : Nat) (p1 : Int32) (p2 : Int32) (p3 : Int32) (p4 : Int32) (m : MM) : Option (Int32 × MM) := g_X3_maySit_0 th p1 p2 p3 p4 m
theorem M_X3_maySit (l : Launch) (E : EX) (th : Nat) (p1 : Int32) (p2 : Int32) (p3 : Int32) (p4 : Int32) (m : MM) (r : Int32) (m2 : MM) (h : f_X3_maySit th p1 p2 p3 p4 m = some (r, m2)) : Met l yX3_maySit (.code yX3_maySit cX3_maySit 6 (some .boolean) :: TB) rmX3_maySit (va_Pc [.ref th, .int p1, .int p2, .int p3, .int p4] (St E m)) (QR E (emI r) m2) 0 0 (AA E) :=
  met_of (em := emI) (plainFor_of_name rfl) (Nat.le_of_ble_eq_true rfl) (L0 := [(0, va_rf (some th)), (1, .int p1), (2, .int p2), (3, .int p3), (4, .int p4)]) rfl (fun Γ _ hrm C hr hn => s_X3_maySit_0 C hr hrm th p1 p2 p3 p4 m) h

theorem dX3_openPoints_0 : decode cX3_openPoints 0 = .ok (.aload_n 0, 1) := by decide +kernel
theorem dX3_openPoints_1 : decode cX3_openPoints 1 = .ok (.getfield 9, 3) := by decide +kernel
theorem dX3_openPoints_4 : decode cX3_openPoints 4 = .ok (.getfield 49, 3) := by decide +kernel
theorem dX3_openPoints_7 : decode cX3_openPoints 7 = .ok (.astore_n 3, 1) := by decide +kernel
theorem dX3_openPoints_8 : decode cX3_openPoints 8 = .ok (.lconst 0, 1) := by decide +kernel
theorem dX3_openPoints_9 : decode cX3_openPoints 9 = .ok (.lstore 4, 2) := by decide +kernel
theorem dX3_openPoints_11 : decode cX3_openPoints 11 = .ok (.iconst 0, 1) := by decide +kernel
theorem dX3_openPoints_12 : decode cX3_openPoints 12 = .ok (.istore 6, 2) := by decide +kernel
theorem dX3_openPoints_14 : decode cX3_openPoints 14 = .ok (.aload_n 3, 1) := by decide +kernel
theorem dX3_openPoints_15 : decode cX3_openPoints 15 = .ok (.ifnull 65, 3) := by decide +kernel
theorem dX3_openPoints_18 : decode cX3_openPoints 18 = .ok (.iload 6, 2) := by decide +kernel
theorem dX3_openPoints_20 : decode cX3_openPoints 20 = .ok (.bipush 64, 2) := by decide +kernel
theorem dX3_openPoints_22 : decode cX3_openPoints 22 = .ok (.if_icmp .ge 58, 3) := by decide +kernel
theorem dX3_openPoints_25 : decode cX3_openPoints 25 = .ok (.aload_n 3, 1) := by decide +kernel
theorem dX3_openPoints_26 : decode cX3_openPoints 26 = .ok (.iload 6, 2) := by decide +kernel
theorem dX3_openPoints_28 : decode cX3_openPoints 28 = .ok (.bipush 8, 2) := by decide +kernel
theorem dX3_openPoints_30 : decode cX3_openPoints 30 = .ok (.irem, 1) := by decide +kernel
theorem dX3_openPoints_31 : decode cX3_openPoints 31 = .ok (.iload 6, 2) := by decide +kernel
theorem dX3_openPoints_33 : decode cX3_openPoints 33 = .ok (.bipush 8, 2) := by decide +kernel
theorem dX3_openPoints_35 : decode cX3_openPoints 35 = .ok (.idiv, 1) := by decide +kernel
theorem dX3_openPoints_36 : decode cX3_openPoints 36 = .ok (.invokevirtual 55, 3) := by decide +kernel
theorem dX3_openPoints_39 : decode cX3_openPoints 39 = .ok (.ifCond .ne 6, 3) := by decide +kernel
theorem dX3_openPoints_42 : decode cX3_openPoints 42 = .ok (.goto 32, 3) := by decide +kernel
theorem dX3_openPoints_45 : decode cX3_openPoints 45 = .ok (.aload_n 0, 1) := by decide +kernel
theorem dX3_openPoints_46 : decode cX3_openPoints 46 = .ok (.iload_n 1, 1) := by decide +kernel
theorem dX3_openPoints_47 : decode cX3_openPoints 47 = .ok (.iload 6, 2) := by decide +kernel
theorem dX3_openPoints_49 : decode cX3_openPoints 49 = .ok (.invokevirtual 65, 3) := by decide +kernel
theorem dX3_openPoints_52 : decode cX3_openPoints 52 = .ok (.aload_n 0, 1) := by decide +kernel
theorem dX3_openPoints_53 : decode cX3_openPoints 53 = .ok (.aload_n 0, 1) := by decide +kernel
theorem dX3_openPoints_54 : decode cX3_openPoints 54 = .ok (.iload_n 1, 1) := by decide +kernel
theorem dX3_openPoints_55 : decode cX3_openPoints 55 = .ok (.invokevirtual 29, 3) := by decide +kernel
theorem dX3_openPoints_58 : decode cX3_openPoints 58 = .ok (.iload_n 2, 1) := by decide +kernel
theorem dX3_openPoints_59 : decode cX3_openPoints 59 = .ok (.invokevirtual 72, 3) := by decide +kernel
theorem dX3_openPoints_62 : decode cX3_openPoints 62 = .ok (.ifCond .eq 12, 3) := by decide +kernel
theorem dX3_openPoints_65 : decode cX3_openPoints 65 = .ok (.lload 4, 2) := by decide +kernel
theorem dX3_openPoints_67 : decode cX3_openPoints 67 = .ok (.lconst 1, 1) := by decide +kernel
theorem dX3_openPoints_68 : decode cX3_openPoints 68 = .ok (.iload 6, 2) := by decide +kernel
theorem dX3_openPoints_70 : decode cX3_openPoints 70 = .ok (.lshl, 1) := by decide +kernel
theorem dX3_openPoints_71 : decode cX3_openPoints 71 = .ok (.lor, 1) := by decide +kernel
theorem dX3_openPoints_72 : decode cX3_openPoints 72 = .ok (.lstore 4, 2) := by decide +kernel
theorem dX3_openPoints_74 : decode cX3_openPoints 74 = .ok (.iinc 6 1, 3) := by decide +kernel
theorem dX3_openPoints_77 : decode cX3_openPoints 77 = .ok (.goto (-63), 3) := by decide +kernel
theorem dX3_openPoints_80 : decode cX3_openPoints 80 = .ok (.lload 4, 2) := by decide +kernel
theorem dX3_openPoints_82 : decode cX3_openPoints 82 = .ok (.lreturn, 1) := by decide +kernel
def rmX3_openPoints : Room := { frames := 5, cells := 0, slots := 0, locals := 142 }
set_option maxRecDepth 100000 in
def g_X3_openPoints_74 (th : Nat) (p1 : Int32) (p2 : Int32) (k14 : Option Nat → Int64 → Int32 → MM → Option (Int64 × MM)) (x3 : Option Nat) (x4 : Int64) (x6 : Int32) (m : MM) : Option (Int64 × MM) :=
  k14 x3 x4 (x6 + 1) m
set_option maxHeartbeats 4000000 in
set_option maxRecDepth 100000 in
theorem s_X3_openPoints_74 {Γ : GX} {E : EX} (C : Cx Γ E cX3_openPoints RX3 7) (hr : Γ.meth.sig.returnType = (some .long)) (hrm : Γ.rm = rmX3_openPoints) (th : Nat) (p1 : Int32) (p2 : Int32) (k14 : Option Nat → Int64 → Int32 → MM → Option (Int64 × MM)) (h14 : ∀ (x3 : Option Nat) (x4 : Int64) (x6 : Int32) (m : MM), Sm (QM Γ E emJ 0 0) Γ E 7 0 0 14 [(0, va_rf (some th)), (1, .int p1), (2, .int p2), (3, va_rf x3), (4, .long x4), (6, .int x6)] [] m (k14 x3 x4 x6 m)) (x3 : Option Nat) (x4 : Int64) (x6 : Int32) (m : MM) : Sm (QM Γ E emJ 0 0) Γ E 7 0 0 74 [(0, va_rf (some th)), (1, .int p1), (2, .int p2), (3, va_rf x3), (4, .long x4), (6, .int x6)] [] m (g_X3_openPoints_74 th p1 p2 k14 x3 x4 x6 m) := by
  unfold g_X3_openPoints_74
  refine z_iinc (v := 1) (L2 := [(6, .int (x6 + 1)), (0, va_rf (some th)), (1, .int p1), (2, .int p2), (3, va_rf x3), (4, .long x4)]) C dX3_openPoints_74 5 rfl (by decide) (by decide) rfl ?_
  refine z_goto (tgt := 14) C dX3_openPoints_77 (by decide) ?_
  exact z_sub [1, 2, 3, 4, 5, 0] rfl (h14 x3 x4 (x6 + 1) m)
set_option maxRecDepth 100000 in
def g_X3_openPoints_14 (th : Nat) (p1 : Int32) (p2 : Int32) (k14 : Option Nat → Int64 → Int32 → MM → Option (Int64 × MM)) (x3 : Option Nat) (x4 : Int64) (x6 : Int32) (m : MM) : Option (Int64 × MM) :=
  ifn x3 (some (x4, m)) (fun a1 => if 64 ≤ x6 then (some (x4, m)) else (chk (m.K a1 = 9) (cal (f_X8_hasPoint a1 (x6 - x6 / 8 * 8) (x6 / 8) m) (fun r1 m1 => if r1 = 0 then (g_X3_openPoints_74 th p1 p2 k14 x3 x4 x6 m1) else (chk (m1.K th = 4) (cal (f_X3_seatAt th p1 x6 m1) (fun r2 m2 => chk (m2.K th = 4) (cal (f_X3_guest th p1 m2) (fun r3 m3 => chk (m3.K th = 4) (cal (f_X3_mayStay th r3 p2 m3) (fun r4 m4 => if r4 = 0 then (g_X3_openPoints_74 th p1 p2 k14 x3 x4 x6 m4) else (bnd (x4 ||| (1 <<< (Int32.toInt64 x6 &&& 63))) (fun y1 => g_X3_openPoints_74 th p1 p2 k14 x3 y1 x6 m4)))))))))))))
set_option maxHeartbeats 4000000 in
set_option maxRecDepth 100000 in
theorem s_X3_openPoints_14 {Γ : GX} {E : EX} (C : Cx Γ E cX3_openPoints RX3 7) (hr : Γ.meth.sig.returnType = (some .long)) (hrm : Γ.rm = rmX3_openPoints) (th : Nat) (p1 : Int32) (p2 : Int32) (k14 : Option Nat → Int64 → Int32 → MM → Option (Int64 × MM)) (h14 : ∀ (x3 : Option Nat) (x4 : Int64) (x6 : Int32) (m : MM), Sm (QM Γ E emJ 0 0) Γ E 7 0 0 14 [(0, va_rf (some th)), (1, .int p1), (2, .int p2), (3, va_rf x3), (4, .long x4), (6, .int x6)] [] m (k14 x3 x4 x6 m)) (x3 : Option Nat) (x4 : Int64) (x6 : Int32) (m : MM) : Sm (QM Γ E emJ 0 0) Γ E 7 0 0 14 [(0, va_rf (some th)), (1, .int p1), (2, .int p2), (3, va_rf x3), (4, .long x4), (6, .int x6)] [] m (g_X3_openPoints_14 th p1 p2 k14 x3 x4 x6 m) := by
  unfold g_X3_openPoints_14
  refine z_aload_n C dX3_openPoints_14 rfl 3 rfl ?_
  refine z_ifnull (tgt := 80) C dX3_openPoints_15 (by decide) (fun hn1 => ?_) (fun a1 ha1 => ?_)
  · refine z_lload C dX3_openPoints_80 4 rfl ?_
    exact z_lret C hr dX3_openPoints_82
  · refine z_iload C dX3_openPoints_18 5 rfl ?_
    refine z_bipush (v := 64) C dX3_openPoints_20 (by decide) ?_
    refine z_icmp_ge (tgt := 80) C dX3_openPoints_22 (by decide) (fun c1 => ?_) (fun c1 => ?_)
    · refine z_lload C dX3_openPoints_80 4 rfl ?_
      exact z_lret C hr dX3_openPoints_82
    · refine z_aload_n C dX3_openPoints_25 rfl 3 rfl ?_
      refine z_iload C dX3_openPoints_26 5 rfl ?_
      refine z_bipush (v := 8) C dX3_openPoints_28 (by decide) ?_
      refine z_irem C (by decide) dX3_openPoints_30 ?_
      refine z_iload C dX3_openPoints_31 5 rfl ?_
      refine z_bipush (v := 8) C dX3_openPoints_33 (by decide) ?_
      refine z_idiv C (by decide) dX3_openPoints_35 ?_
      refine z_chk (fun hk1 => ?_)
      refine z_cVI [.int (x6 - x6 / 8 * 8), .int (x6 / 8)] [] C mv_RX3_55 (fun r0 m0 h0 => M_X8_hasPoint _ _ _ _ _ _ _ _ h0) rfl rfl ⟨by rw [hrm]; exact Nat.le_of_ble_eq_true rfl, by rw [hrm]; exact Nat.le_of_ble_eq_true rfl⟩ ⟨by rw [hrm]; exact Nat.le_of_ble_eq_true rfl, by rw [hrm]; exact Nat.le_of_ble_eq_true rfl⟩ ha1 hk1 rfl rfl rfl (Nat.le_of_ble_eq_true rfl) dX3_openPoints_36 (fun r1 m1 => ?_)
      refine z_if_ne (tgt := 45) C dX3_openPoints_39 (by decide) (fun c2 => ?_) (fun c2 => ?_)
      · refine z_aload_n C dX3_openPoints_45 rfl 0 rfl ?_
        refine z_iload_n C dX3_openPoints_46 rfl 1 rfl ?_
        refine z_iload C dX3_openPoints_47 5 rfl ?_
        refine z_chk (fun hk2 => ?_)
        refine z_cVV [.int p1, .int x6] [] C mv_RX3_65 (fun r0 m0 h0 => M_X3_seatAt _ _ _ _ _ _ _ _ h0) rfl rfl ⟨by rw [hrm]; exact Nat.le_of_ble_eq_true rfl, by rw [hrm]; exact Nat.le_of_ble_eq_true rfl⟩ ⟨by rw [hrm]; exact Nat.le_of_ble_eq_true rfl, by rw [hrm]; exact Nat.le_of_ble_eq_true rfl⟩ rfl hk2 rfl rfl rfl (Nat.le_of_ble_eq_true rfl) dX3_openPoints_49 (fun r2 m2 => ?_)
        refine z_aload_n C dX3_openPoints_52 rfl 0 rfl ?_
        refine z_aload_n C dX3_openPoints_53 rfl 0 rfl ?_
        refine z_iload_n C dX3_openPoints_54 rfl 1 rfl ?_
        refine z_chk (fun hk3 => ?_)
        refine z_cVR [.int p1] [va_rf (some th)] C mv_RX3_29 (fun r0 m0 h0 => M_X3_guest _ _ _ _ _ _ _ h0) rfl rfl ⟨by rw [hrm]; exact Nat.le_of_ble_eq_true rfl, by rw [hrm]; exact Nat.le_of_ble_eq_true rfl⟩ ⟨by rw [hrm]; exact Nat.le_of_ble_eq_true rfl, by rw [hrm]; exact Nat.le_of_ble_eq_true rfl⟩ rfl hk3 rfl rfl rfl (Nat.le_of_ble_eq_true rfl) dX3_openPoints_55 (fun r3 m3 => ?_)
        refine z_iload_n C dX3_openPoints_58 rfl 2 rfl ?_
        refine z_chk (fun hk4 => ?_)
        refine z_cVI [va_rf r3, .int p2] [] C mv_RX3_72 (fun r0 m0 h0 => M_X3_mayStay _ _ _ _ _ _ _ _ h0) rfl rfl ⟨by rw [hrm]; exact Nat.le_of_ble_eq_true rfl, by rw [hrm]; exact Nat.le_of_ble_eq_true rfl⟩ ⟨by rw [hrm]; exact Nat.le_of_ble_eq_true rfl, by rw [hrm]; exact Nat.le_of_ble_eq_true rfl⟩ rfl hk4 rfl rfl rfl (Nat.le_of_ble_eq_true rfl) dX3_openPoints_59 (fun r4 m4 => ?_)
        refine z_if_eq (tgt := 74) C dX3_openPoints_62 (by decide) (fun c3 => ?_) (fun c3 => ?_)
        · exact z_sub [0, 1, 2, 3, 4, 5] rfl (s_X3_openPoints_74 C hr hrm th p1 p2 k14 h14 x3 x4 x6 m4)
        · refine z_lload C dX3_openPoints_65 4 rfl ?_
          refine z_lconst (v := 1) C dX3_openPoints_67 rfl ?_
          refine z_iload C dX3_openPoints_68 5 rfl ?_
          refine z_lshl C dX3_openPoints_70 ?_
          refine z_lor C dX3_openPoints_71 ?_
          refine z_bndJ (fun y1 => ?_)
          refine z_lstore (i := 4) (L2 := [(4, .long y1), (0, va_rf (some th)), (1, .int p1), (2, .int p2), (3, va_rf x3), (6, .int x6)]) C dX3_openPoints_72 (by decide) (by simp [cat_rf, cat_i, cat_l, cat_a]) ?_
          exact z_sub [1, 2, 3, 4, 0, 5] rfl (s_X3_openPoints_74 C hr hrm th p1 p2 k14 h14 x3 y1 x6 m4)
      · refine z_goto (tgt := 74) C dX3_openPoints_42 (by decide) ?_
        exact z_sub [0, 1, 2, 3, 4, 5] rfl (s_X3_openPoints_74 C hr hrm th p1 p2 k14 h14 x3 x4 x6 m1)
def l_X3_openPoints_14 (th : Nat) (p1 : Int32) (p2 : Int32) : Nat → Option Nat → Int64 → Int32 → MM → Option (Int64 × MM) := lp (fun _ _ _ _ => none) (fun k14 => g_X3_openPoints_14 th p1 p2 k14)
theorem t_X3_openPoints_14 {Γ : GX} {E : EX} (C : Cx Γ E cX3_openPoints RX3 7) (hr : Γ.meth.sig.returnType = (some .long)) (hrm : Γ.rm = rmX3_openPoints) (th : Nat) (p1 : Int32) (p2 : Int32) : ∀ (n : Nat) (x3 : Option Nat) (x4 : Int64) (x6 : Int32) (m : MM), Sm (QM Γ E emJ 0 0) Γ E 7 0 0 14 [(0, va_rf (some th)), (1, .int p1), (2, .int p2), (3, va_rf x3), (4, .long x4), (6, .int x6)] [] m (l_X3_openPoints_14 th p1 p2 n x3 x4 x6 m) := by
  intro n
  induction n with
  | zero => intros; exact z_none
  | succ n ih => intro x3 x4 x6 m; exact s_X3_openPoints_14 C hr hrm th p1 p2 (l_X3_openPoints_14 th p1 p2 n) ih x3 x4 x6 m
set_option maxRecDepth 100000 in
def g_X3_openPoints_0 (th : Nat) (p1 : Int32) (p2 : Int32) (m : MM) : Option (Int64 × MM) :=
  chk (m.K th = 4) (ck m (m.R 400 th 0) 6 (fun a2 => bnd (m.R 602 a2 0) (fun y2 => l_X3_openPoints_14 th p1 p2 FU y2 0 0 m)))
set_option maxHeartbeats 4000000 in
set_option maxRecDepth 100000 in
theorem s_X3_openPoints_0 {Γ : GX} {E : EX} (C : Cx Γ E cX3_openPoints RX3 7) (hr : Γ.meth.sig.returnType = (some .long)) (hrm : Γ.rm = rmX3_openPoints) (th : Nat) (p1 : Int32) (p2 : Int32) (m : MM) : Sm (QM Γ E emJ 0 0) Γ E 7 0 0 0 [(0, va_rf (some th)), (1, .int p1), (2, .int p2)] [] m (g_X3_openPoints_0 th p1 p2 m) := by
  unfold g_X3_openPoints_0
  refine z_aload_n C dX3_openPoints_0 rfl 0 rfl ?_
  refine z_chk (fun hk5 => ?_)
  refine z_getR C fl_RX3_9 rfl hk5 dX3_openPoints_1 ?_
  refine z_ck (fun a2 hr1 hk6 => ?_)
  refine z_getR C fl_RX3_49 hr1 hk6 dX3_openPoints_4 ?_
  refine z_bndR (fun y2 => ?_)
  refine z_astore_n (i := 3) (L2 := [(3, va_rf y2), (0, va_rf (some th)), (1, .int p1), (2, .int p2)]) C dX3_openPoints_7 rfl (by decide) rfl ?_
  refine z_lconst (v := 0) C dX3_openPoints_8 rfl ?_
  refine z_lstore (i := 4) (L2 := [(4, .long 0), (3, va_rf y2), (0, va_rf (some th)), (1, .int p1), (2, .int p2)]) C dX3_openPoints_9 (by decide) (by simp [cat_rf, cat_i, cat_l, cat_a]) ?_
  refine z_iconst (v := 0) C dX3_openPoints_11 (by decide) ?_
  refine z_istore (i := 6) (L2 := [(6, .int 0), (4, .long 0), (3, va_rf y2), (0, va_rf (some th)), (1, .int p1), (2, .int p2)]) C dX3_openPoints_12 (by decide) rfl ?_
  exact z_sub [3, 4, 5, 2, 1, 0] rfl (t_X3_openPoints_14 C hr hrm th p1 p2 FU y2 0 0 m)
def f_X3_openPoints (th : Nat) (p1 : Int32) (p2 : Int32) (m : MM) : Option (Int64 × MM) := g_X3_openPoints_0 th p1 p2 m
theorem M_X3_openPoints (l : Launch) (E : EX) (th : Nat) (p1 : Int32) (p2 : Int32) (m : MM) (r : Int64) (m2 : MM) (h : f_X3_openPoints th p1 p2 m = some (r, m2)) : Met l yX3_openPoints (.code yX3_openPoints cX3_openPoints 7 (some .long) :: TB) rmX3_openPoints (va_Pc [.ref th, .int p1, .int p2] (St E m)) (QR E (emJ r) m2) 0 0 (AA E) :=
  met_of (em := emJ) (plainFor_of_name rfl) (Nat.le_of_ble_eq_true rfl) (L0 := [(0, va_rf (some th)), (1, .int p1), (2, .int p2)]) rfl (fun Γ _ hrm C hr hn => s_X3_openPoints_0 C hr hrm th p1 p2 m) h

theorem dX3_spotsFor_0 : decode cX3_spotsFor 0 = .ok (.aload_n 0, 1) := by decide +kernel
theorem dX3_spotsFor_1 : decode cX3_spotsFor 1 = .ok (.iconst 0, 1) := by decide +kernel
theorem dX3_spotsFor_2 : decode cX3_spotsFor 2 = .ok (.iload_n 1, 1) := by decide +kernel
theorem dX3_spotsFor_3 : decode cX3_spotsFor 3 = .ok (.iload_n 2, 1) := by decide +kernel
theorem dX3_spotsFor_4 : decode cX3_spotsFor 4 = .ok (.invokevirtual 61, 3) := by decide +kernel
theorem dX3_spotsFor_7 : decode cX3_spotsFor 7 = .ok (.aload_n 0, 1) := by decide +kernel
theorem dX3_spotsFor_8 : decode cX3_spotsFor 8 = .ok (.iconst 0, 1) := by decide +kernel
theorem dX3_spotsFor_9 : decode cX3_spotsFor 9 = .ok (.aload_n 0, 1) := by decide +kernel
theorem dX3_spotsFor_10 : decode cX3_spotsFor 10 = .ok (.getfield 9, 3) := by decide +kernel
theorem dX3_spotsFor_13 : decode cX3_spotsFor 13 = .ok (.getfield 69, 3) := by decide +kernel
theorem dX3_spotsFor_16 : decode cX3_spotsFor 16 = .ok (.invokevirtual 76, 3) := by decide +kernel
theorem dX3_spotsFor_19 : decode cX3_spotsFor 19 = .ok (.lreturn, 1) := by decide +kernel
def rmX3_spotsFor : Room := { frames := 6, cells := 0, slots := 0, locals := 168 }
set_option maxRecDepth 100000 in
def g_X3_spotsFor_0 (th : Nat) (p1 : Int32) (p2 : Int32) (m : MM) : Option (Int64 × MM) :=
  chk (m.K th = 4) (cal (f_X3_welcome th 0 p1 p2 m) (fun r1 m1 => chk (m1.K th = 4) (ck m1 (m1.R 400 th 0) 6 (fun a1 => cal (f_X3_openPoints th 0 (m1.I 605 a1 0) m1) (fun r2 m2 => some (r2, m2))))))
set_option maxHeartbeats 4000000 in
set_option maxRecDepth 100000 in
theorem s_X3_spotsFor_0 {Γ : GX} {E : EX} (C : Cx Γ E cX3_spotsFor RX3 3) (hr : Γ.meth.sig.returnType = (some .long)) (hrm : Γ.rm = rmX3_spotsFor) (th : Nat) (p1 : Int32) (p2 : Int32) (m : MM) : Sm (QM Γ E emJ 0 0) Γ E 3 0 0 0 [(0, va_rf (some th)), (1, .int p1), (2, .int p2)] [] m (g_X3_spotsFor_0 th p1 p2 m) := by
  unfold g_X3_spotsFor_0
  refine z_aload_n C dX3_spotsFor_0 rfl 0 rfl ?_
  refine z_iconst (v := 0) C dX3_spotsFor_1 (by decide) ?_
  refine z_iload_n C dX3_spotsFor_2 rfl 1 rfl ?_
  refine z_iload_n C dX3_spotsFor_3 rfl 2 rfl ?_
  refine z_chk (fun hk1 => ?_)
  refine z_cVV [.int 0, .int p1, .int p2] [] C mv_RX3_61 (fun r0 m0 h0 => M_X3_welcome _ _ _ _ _ _ _ _ _ h0) rfl rfl ⟨by rw [hrm]; exact Nat.le_of_ble_eq_true rfl, by rw [hrm]; exact Nat.le_of_ble_eq_true rfl⟩ ⟨by rw [hrm]; exact Nat.le_of_ble_eq_true rfl, by rw [hrm]; exact Nat.le_of_ble_eq_true rfl⟩ rfl hk1 rfl rfl rfl (Nat.le_of_ble_eq_true rfl) dX3_spotsFor_4 (fun r1 m1 => ?_)
  refine z_aload_n C dX3_spotsFor_7 rfl 0 rfl ?_
  refine z_iconst (v := 0) C dX3_spotsFor_8 (by decide) ?_
  refine z_aload_n C dX3_spotsFor_9 rfl 0 rfl ?_
  refine z_chk (fun hk2 => ?_)
  refine z_getR C fl_RX3_9 rfl hk2 dX3_spotsFor_10 ?_
  refine z_ck (fun a1 hr1 hk3 => ?_)
  refine z_getI C fl_RX3_69 hr1 hk3 dX3_spotsFor_13 ?_
  refine z_cVJ [.int 0, .int (m1.I 605 a1 0)] [] C mv_RX3_76 (fun r0 m0 h0 => M_X3_openPoints _ _ _ _ _ _ _ _ h0) rfl rfl ⟨by rw [hrm]; exact Nat.le_of_ble_eq_true rfl, by rw [hrm]; exact Nat.le_of_ble_eq_true rfl⟩ ⟨by rw [hrm]; exact Nat.le_of_ble_eq_true rfl, by rw [hrm]; exact Nat.le_of_ble_eq_true rfl⟩ rfl hk2 rfl rfl rfl (Nat.le_of_ble_eq_true rfl) dX3_spotsFor_16 (fun r2 m2 => ?_)
  exact z_lret C hr dX3_spotsFor_19
def f_X3_spotsFor (th : Nat) (p1 : Int32) (p2 : Int32) (m : MM) : Option (Int64 × MM) := g_X3_spotsFor_0 th p1 p2 m
theorem M_X3_spotsFor (l : Launch) (E : EX) (th : Nat) (p1 : Int32) (p2 : Int32) (m : MM) (r : Int64) (m2 : MM) (h : f_X3_spotsFor th p1 p2 m = some (r, m2)) : Met l yX3_spotsFor (.code yX3_spotsFor cX3_spotsFor 3 (some .long) :: TB) rmX3_spotsFor (va_Pc [.ref th, .int p1, .int p2] (St E m)) (QR E (emJ r) m2) 0 0 (AA E) :=
  met_of (em := emJ) (plainFor_of_name rfl) (Nat.le_of_ble_eq_true rfl) (L0 := [(0, va_rf (some th)), (1, .int p1), (2, .int p2)]) rfl (fun Γ _ hrm C hr hn => s_X3_spotsFor_0 C hr hrm th p1 p2 m) h

theorem dX3_peaceWith_0 : decode cX3_peaceWith 0 = .ok (.aload_n 0, 1) := by decide +kernel
theorem dX3_peaceWith_1 : decode cX3_peaceWith 1 = .ok (.iload_n 1, 1) := by decide +kernel
theorem dX3_peaceWith_2 : decode cX3_peaceWith 2 = .ok (.invokevirtual 29, 3) := by decide +kernel
theorem dX3_peaceWith_5 : decode cX3_peaceWith 5 = .ok (.astore_n 3, 1) := by decide +kernel
theorem dX3_peaceWith_6 : decode cX3_peaceWith 6 = .ok (.aload_n 0, 1) := by decide +kernel
theorem dX3_peaceWith_7 : decode cX3_peaceWith 7 = .ok (.iload_n 2, 1) := by decide +kernel
theorem dX3_peaceWith_8 : decode cX3_peaceWith 8 = .ok (.invokevirtual 29, 3) := by decide +kernel
theorem dX3_peaceWith_11 : decode cX3_peaceWith 11 = .ok (.astore 4, 2) := by decide +kernel
theorem dX3_peaceWith_13 : decode cX3_peaceWith 13 = .ok (.aload_n 3, 1) := by decide +kernel
theorem dX3_peaceWith_14 : decode cX3_peaceWith 14 = .ok (.ifnull 21, 3) := by decide +kernel
theorem dX3_peaceWith_17 : decode cX3_peaceWith 17 = .ok (.aload 4, 2) := by decide +kernel
theorem dX3_peaceWith_19 : decode cX3_peaceWith 19 = .ok (.ifnull 16, 3) := by decide +kernel
theorem dX3_peaceWith_22 : decode cX3_peaceWith 22 = .ok (.iload_n 2, 1) := by decide +kernel
theorem dX3_peaceWith_23 : decode cX3_peaceWith 23 = .ok (.ifCond .lt 12, 3) := by decide +kernel
theorem dX3_peaceWith_26 : decode cX3_peaceWith 26 = .ok (.iload_n 2, 1) := by decide +kernel
theorem dX3_peaceWith_27 : decode cX3_peaceWith 27 = .ok (.aload_n 0, 1) := by decide +kernel
theorem dX3_peaceWith_28 : decode cX3_peaceWith 28 = .ok (.getfield 22, 3) := by decide +kernel
theorem dX3_peaceWith_31 : decode cX3_peaceWith 31 = .ok (.arraylength, 1) := by decide +kernel
theorem dX3_peaceWith_32 : decode cX3_peaceWith 32 = .ok (.if_icmp .lt 5, 3) := by decide +kernel
theorem dX3_peaceWith_35 : decode cX3_peaceWith 35 = .ok (.lconst 0, 1) := by decide +kernel
theorem dX3_peaceWith_36 : decode cX3_peaceWith 36 = .ok (.lreturn, 1) := by decide +kernel
theorem dX3_peaceWith_37 : decode cX3_peaceWith 37 = .ok (.lconst 0, 1) := by decide +kernel
theorem dX3_peaceWith_38 : decode cX3_peaceWith 38 = .ok (.lstore 5, 2) := by decide +kernel
theorem dX3_peaceWith_40 : decode cX3_peaceWith 40 = .ok (.aload_n 3, 1) := by decide +kernel
theorem dX3_peaceWith_41 : decode cX3_peaceWith 41 = .ok (.getfield 46, 3) := by decide +kernel
theorem dX3_peaceWith_44 : decode cX3_peaceWith 44 = .ok (.bipush 8, 2) := by decide +kernel
theorem dX3_peaceWith_46 : decode cX3_peaceWith 46 = .ok (.imul, 1) := by decide +kernel
theorem dX3_peaceWith_47 : decode cX3_peaceWith 47 = .ok (.aload_n 3, 1) := by decide +kernel
theorem dX3_peaceWith_48 : decode cX3_peaceWith 48 = .ok (.getfield 43, 3) := by decide +kernel
theorem dX3_peaceWith_51 : decode cX3_peaceWith 51 = .ok (.iadd, 1) := by decide +kernel
theorem dX3_peaceWith_52 : decode cX3_peaceWith 52 = .ok (.istore 7, 2) := by decide +kernel
theorem dX3_peaceWith_54 : decode cX3_peaceWith 54 = .ok (.iconst 0, 1) := by decide +kernel
theorem dX3_peaceWith_55 : decode cX3_peaceWith 55 = .ok (.istore 8, 2) := by decide +kernel
theorem dX3_peaceWith_57 : decode cX3_peaceWith 57 = .ok (.iload 8, 2) := by decide +kernel
theorem dX3_peaceWith_59 : decode cX3_peaceWith 59 = .ok (.bipush 64, 2) := by decide +kernel
theorem dX3_peaceWith_61 : decode cX3_peaceWith 61 = .ok (.if_icmp .ge 64, 3) := by decide +kernel
theorem dX3_peaceWith_64 : decode cX3_peaceWith 64 = .ok (.aload_n 0, 1) := by decide +kernel
theorem dX3_peaceWith_65 : decode cX3_peaceWith 65 = .ok (.getfield 22, 3) := by decide +kernel
theorem dX3_peaceWith_68 : decode cX3_peaceWith 68 = .ok (.iload_n 2, 1) := by decide +kernel
theorem dX3_peaceWith_69 : decode cX3_peaceWith 69 = .ok (.laload, 1) := by decide +kernel
theorem dX3_peaceWith_70 : decode cX3_peaceWith 70 = .ok (.iload 8, 2) := by decide +kernel
theorem dX3_peaceWith_72 : decode cX3_peaceWith 72 = .ok (.lshr, 1) := by decide +kernel
theorem dX3_peaceWith_73 : decode cX3_peaceWith 73 = .ok (.lconst 1, 1) := by decide +kernel
theorem dX3_peaceWith_74 : decode cX3_peaceWith 74 = .ok (.land, 1) := by decide +kernel
theorem dX3_peaceWith_75 : decode cX3_peaceWith 75 = .ok (.lconst 0, 1) := by decide +kernel
theorem dX3_peaceWith_76 : decode cX3_peaceWith 76 = .ok (.lcmp, 1) := by decide +kernel
theorem dX3_peaceWith_77 : decode cX3_peaceWith 77 = .ok (.ifCond .eq 42, 3) := by decide +kernel
theorem dX3_peaceWith_80 : decode cX3_peaceWith 80 = .ok (.iload 8, 2) := by decide +kernel
theorem dX3_peaceWith_82 : decode cX3_peaceWith 82 = .ok (.iload 7, 2) := by decide +kernel
theorem dX3_peaceWith_84 : decode cX3_peaceWith 84 = .ok (.if_icmp .ne 6, 3) := by decide +kernel
theorem dX3_peaceWith_87 : decode cX3_peaceWith 87 = .ok (.goto 32, 3) := by decide +kernel
theorem dX3_peaceWith_90 : decode cX3_peaceWith 90 = .ok (.aload_n 0, 1) := by decide +kernel
theorem dX3_peaceWith_91 : decode cX3_peaceWith 91 = .ok (.iload_n 2, 1) := by decide +kernel
theorem dX3_peaceWith_92 : decode cX3_peaceWith 92 = .ok (.iload 8, 2) := by decide +kernel
theorem dX3_peaceWith_94 : decode cX3_peaceWith 94 = .ok (.invokevirtual 65, 3) := by decide +kernel
theorem dX3_peaceWith_97 : decode cX3_peaceWith 97 = .ok (.aload_n 0, 1) := by decide +kernel
theorem dX3_peaceWith_98 : decode cX3_peaceWith 98 = .ok (.getfield 9, 3) := by decide +kernel
theorem dX3_peaceWith_101 : decode cX3_peaceWith 101 = .ok (.aload_n 3, 1) := by decide +kernel
theorem dX3_peaceWith_102 : decode cX3_peaceWith 102 = .ok (.aload 4, 2) := by decide +kernel
theorem dX3_peaceWith_104 : decode cX3_peaceWith 104 = .ok (.invokevirtual 83, 3) := by decide +kernel
theorem dX3_peaceWith_107 : decode cX3_peaceWith 107 = .ok (.ifCond .ne 12, 3) := by decide +kernel
theorem dX3_peaceWith_110 : decode cX3_peaceWith 110 = .ok (.lload 5, 2) := by decide +kernel
theorem dX3_peaceWith_112 : decode cX3_peaceWith 112 = .ok (.lconst 1, 1) := by decide +kernel
theorem dX3_peaceWith_113 : decode cX3_peaceWith 113 = .ok (.iload 8, 2) := by decide +kernel
theorem dX3_peaceWith_115 : decode cX3_peaceWith 115 = .ok (.lshl, 1) := by decide +kernel
theorem dX3_peaceWith_116 : decode cX3_peaceWith 116 = .ok (.lor, 1) := by decide +kernel
theorem dX3_peaceWith_117 : decode cX3_peaceWith 117 = .ok (.lstore 5, 2) := by decide +kernel
theorem dX3_peaceWith_119 : decode cX3_peaceWith 119 = .ok (.iinc 8 1, 3) := by decide +kernel
theorem dX3_peaceWith_122 : decode cX3_peaceWith 122 = .ok (.goto (-65), 3) := by decide +kernel
theorem dX3_peaceWith_125 : decode cX3_peaceWith 125 = .ok (.lload 5, 2) := by decide +kernel
theorem dX3_peaceWith_127 : decode cX3_peaceWith 127 = .ok (.lreturn, 1) := by decide +kernel
def rmX3_peaceWith : Room := { frames := 4, cells := 0, slots := 0, locals := 118 }
set_option maxRecDepth 100000 in
def g_X3_peaceWith_119 (th : Nat) (p1 : Int32) (p2 : Int32) (k57 : Option Nat → Option Nat → Int64 → Int32 → Int32 → MM → Option (Int64 × MM)) (x3 : Option Nat) (x4 : Option Nat) (x5 : Int64) (x7 : Int32) (x8 : Int32) (m : MM) : Option (Int64 × MM) :=
  k57 x3 x4 x5 x7 (x8 + 1) m
set_option maxHeartbeats 4000000 in
set_option maxRecDepth 100000 in
theorem s_X3_peaceWith_119 {Γ : GX} {E : EX} (C : Cx Γ E cX3_peaceWith RX3 9) (hr : Γ.meth.sig.returnType = (some .long)) (hrm : Γ.rm = rmX3_peaceWith) (th : Nat) (p1 : Int32) (p2 : Int32) (k57 : Option Nat → Option Nat → Int64 → Int32 → Int32 → MM → Option (Int64 × MM)) (h57 : ∀ (x3 : Option Nat) (x4 : Option Nat) (x5 : Int64) (x7 : Int32) (x8 : Int32) (m : MM), Sm (QM Γ E emJ 0 0) Γ E 9 0 0 57 [(0, va_rf (some th)), (1, .int p1), (2, .int p2), (3, va_rf x3), (4, va_rf x4), (5, .long x5), (7, .int x7), (8, .int x8)] [] m (k57 x3 x4 x5 x7 x8 m)) (x3 : Option Nat) (x4 : Option Nat) (x5 : Int64) (x7 : Int32) (x8 : Int32) (m : MM) : Sm (QM Γ E emJ 0 0) Γ E 9 0 0 119 [(0, va_rf (some th)), (1, .int p1), (2, .int p2), (3, va_rf x3), (4, va_rf x4), (5, .long x5), (7, .int x7), (8, .int x8)] [] m (g_X3_peaceWith_119 th p1 p2 k57 x3 x4 x5 x7 x8 m) := by
  unfold g_X3_peaceWith_119
  refine z_iinc (v := 1) (L2 := [(8, .int (x8 + 1)), (0, va_rf (some th)), (1, .int p1), (2, .int p2), (3, va_rf x3), (4, va_rf x4), (5, .long x5), (7, .int x7)]) C dX3_peaceWith_119 7 rfl (by decide) (by decide) rfl ?_
  refine z_goto (tgt := 57) C dX3_peaceWith_122 (by decide) ?_
  exact z_sub [1, 2, 3, 4, 5, 6, 7, 0] rfl (h57 x3 x4 x5 x7 (x8 + 1) m)
set_option maxRecDepth 100000 in
def g_X3_peaceWith_57 (th : Nat) (p1 : Int32) (p2 : Int32) (k57 : Option Nat → Option Nat → Int64 → Int32 → Int32 → MM → Option (Int64 × MM)) (x3 : Option Nat) (x4 : Option Nat) (x5 : Int64) (x7 : Int32) (x8 : Int32) (m : MM) : Option (Int64 × MM) :=
  if 64 ≤ x8 then (some (x5, m)) else (chk (m.K th = 4) (ck m (m.R 402 th 0) 23 (fun a1 => chk (inb p2 (m.N a1) = true) (if (lg_cmp (((m.J 23 a1 (Int32.toNatClampNeg p2)) >>> (Int32.toInt64 x8 &&& 63)) &&& 1) 0) = 0 then (g_X3_peaceWith_119 th p1 p2 k57 x3 x4 x5 x7 x8 m) else (if x8 = x7 then (g_X3_peaceWith_119 th p1 p2 k57 x3 x4 x5 x7 x8 m) else (cal (f_X3_seatAt th p2 x8 m) (fun r1 m1 => chk (m1.K th = 4) (ck m1 (m1.R 400 th 0) 6 (fun a2 => cal (f_X5_clash a2 x3 x4 m1) (fun r2 m2 => if r2 = 0 then (bnd (x5 ||| (1 <<< (Int32.toInt64 x8 &&& 63))) (fun y1 => g_X3_peaceWith_119 th p1 p2 k57 x3 x4 y1 x7 x8 m2)) else (g_X3_peaceWith_119 th p1 p2 k57 x3 x4 x5 x7 x8 m2)))))))))))
set_option maxHeartbeats 4000000 in
set_option maxRecDepth 100000 in
theorem s_X3_peaceWith_57 {Γ : GX} {E : EX} (C : Cx Γ E cX3_peaceWith RX3 9) (hr : Γ.meth.sig.returnType = (some .long)) (hrm : Γ.rm = rmX3_peaceWith) (th : Nat) (p1 : Int32) (p2 : Int32) (k57 : Option Nat → Option Nat → Int64 → Int32 → Int32 → MM → Option (Int64 × MM)) (h57 : ∀ (x3 : Option Nat) (x4 : Option Nat) (x5 : Int64) (x7 : Int32) (x8 : Int32) (m : MM), Sm (QM Γ E emJ 0 0) Γ E 9 0 0 57 [(0, va_rf (some th)), (1, .int p1), (2, .int p2), (3, va_rf x3), (4, va_rf x4), (5, .long x5), (7, .int x7), (8, .int x8)] [] m (k57 x3 x4 x5 x7 x8 m)) (x3 : Option Nat) (x4 : Option Nat) (x5 : Int64) (x7 : Int32) (x8 : Int32) (m : MM) : Sm (QM Γ E emJ 0 0) Γ E 9 0 0 57 [(0, va_rf (some th)), (1, .int p1), (2, .int p2), (3, va_rf x3), (4, va_rf x4), (5, .long x5), (7, .int x7), (8, .int x8)] [] m (g_X3_peaceWith_57 th p1 p2 k57 x3 x4 x5 x7 x8 m) := by
  unfold g_X3_peaceWith_57
  refine z_iload C dX3_peaceWith_57 7 rfl ?_
  refine z_bipush (v := 64) C dX3_peaceWith_59 (by decide) ?_
  refine z_icmp_ge (tgt := 125) C dX3_peaceWith_61 (by decide) (fun c1 => ?_) (fun c1 => ?_)
  · refine z_lload C dX3_peaceWith_125 5 rfl ?_
    exact z_lret C hr dX3_peaceWith_127
  · refine z_aload_n C dX3_peaceWith_64 rfl 0 rfl ?_
    refine z_chk (fun hk1 => ?_)
    refine z_getR C fl_RX3_22 rfl hk1 dX3_peaceWith_65 ?_
    refine z_iload_n C dX3_peaceWith_68 rfl 2 rfl ?_
    refine z_ck (fun a1 hr1 hk2 => ?_)
    refine z_chk (fun hj1 => ?_)
    refine z_lald C hr1 hk2 hj1 dX3_peaceWith_69 ?_
    refine z_iload C dX3_peaceWith_70 7 rfl ?_
    refine z_lshr C dX3_peaceWith_72 ?_
    refine z_lconst (v := 1) C dX3_peaceWith_73 rfl ?_
    refine z_land C dX3_peaceWith_74 ?_
    refine z_lconst (v := 0) C dX3_peaceWith_75 rfl ?_
    refine z_lcmp C dX3_peaceWith_76 ?_
    refine z_if_eq (tgt := 119) C dX3_peaceWith_77 (by decide) (fun c2 => ?_) (fun c2 => ?_)
    · exact z_sub [0, 1, 2, 3, 4, 5, 6, 7] rfl (s_X3_peaceWith_119 C hr hrm th p1 p2 k57 h57 x3 x4 x5 x7 x8 m)
    · refine z_iload C dX3_peaceWith_80 7 rfl ?_
      refine z_iload C dX3_peaceWith_82 6 rfl ?_
      refine z_icmp_ne (tgt := 90) C dX3_peaceWith_84 (by decide) (fun c3 => ?_) (fun c3 => ?_)
      · refine z_aload_n C dX3_peaceWith_90 rfl 0 rfl ?_
        refine z_iload_n C dX3_peaceWith_91 rfl 2 rfl ?_
        refine z_iload C dX3_peaceWith_92 7 rfl ?_
        refine z_cVV [.int p2, .int x8] [] C mv_RX3_65 (fun r0 m0 h0 => M_X3_seatAt _ _ _ _ _ _ _ _ h0) rfl rfl ⟨by rw [hrm]; exact Nat.le_of_ble_eq_true rfl, by rw [hrm]; exact Nat.le_of_ble_eq_true rfl⟩ ⟨by rw [hrm]; exact Nat.le_of_ble_eq_true rfl, by rw [hrm]; exact Nat.le_of_ble_eq_true rfl⟩ rfl hk1 rfl rfl rfl (Nat.le_of_ble_eq_true rfl) dX3_peaceWith_94 (fun r1 m1 => ?_)
        refine z_aload_n C dX3_peaceWith_97 rfl 0 rfl ?_
        refine z_chk (fun hk3 => ?_)
        refine z_getR C fl_RX3_9 rfl hk3 dX3_peaceWith_98 ?_
        refine z_aload_n C dX3_peaceWith_101 rfl 3 rfl ?_
        refine z_aload C dX3_peaceWith_102 4 rfl ?_
        refine z_ck (fun a2 hr2 hk4 => ?_)
        refine z_cVI [va_rf x3, va_rf x4] [] C mv_RX3_83 (fun r0 m0 h0 => M_X5_clash _ _ _ _ _ _ _ _ h0) rfl rfl ⟨by rw [hrm]; exact Nat.le_of_ble_eq_true rfl, by rw [hrm]; exact Nat.le_of_ble_eq_true rfl⟩ ⟨by rw [hrm]; exact Nat.le_of_ble_eq_true rfl, by rw [hrm]; exact Nat.le_of_ble_eq_true rfl⟩ hr2 hk4 rfl rfl rfl (Nat.le_of_ble_eq_true rfl) dX3_peaceWith_104 (fun r2 m2 => ?_)
        refine z_if_ne (tgt := 119) C dX3_peaceWith_107 (by decide) (fun c4 => ?_) (fun c4 => ?_)
        · exact z_sub [0, 1, 2, 3, 4, 5, 6, 7] rfl (s_X3_peaceWith_119 C hr hrm th p1 p2 k57 h57 x3 x4 x5 x7 x8 m2)
        · refine z_lload C dX3_peaceWith_110 5 rfl ?_
          refine z_lconst (v := 1) C dX3_peaceWith_112 rfl ?_
          refine z_iload C dX3_peaceWith_113 7 rfl ?_
          refine z_lshl C dX3_peaceWith_115 ?_
          refine z_lor C dX3_peaceWith_116 ?_
          refine z_bndJ (fun y1 => ?_)
          refine z_lstore (i := 5) (L2 := [(5, .long y1), (0, va_rf (some th)), (1, .int p1), (2, .int p2), (3, va_rf x3), (4, va_rf x4), (7, .int x7), (8, .int x8)]) C dX3_peaceWith_117 (by decide) (by simp [cat_rf, cat_i, cat_l, cat_a]) ?_
          exact z_sub [1, 2, 3, 4, 5, 0, 6, 7] rfl (s_X3_peaceWith_119 C hr hrm th p1 p2 k57 h57 x3 x4 y1 x7 x8 m2)
      · refine z_goto (tgt := 119) C dX3_peaceWith_87 (by decide) ?_
        exact z_sub [0, 1, 2, 3, 4, 5, 6, 7] rfl (s_X3_peaceWith_119 C hr hrm th p1 p2 k57 h57 x3 x4 x5 x7 x8 m)
def l_X3_peaceWith_57 (th : Nat) (p1 : Int32) (p2 : Int32) : Nat → Option Nat → Option Nat → Int64 → Int32 → Int32 → MM → Option (Int64 × MM) := lp (fun _ _ _ _ _ _ => none) (fun k57 => g_X3_peaceWith_57 th p1 p2 k57)
theorem t_X3_peaceWith_57 {Γ : GX} {E : EX} (C : Cx Γ E cX3_peaceWith RX3 9) (hr : Γ.meth.sig.returnType = (some .long)) (hrm : Γ.rm = rmX3_peaceWith) (th : Nat) (p1 : Int32) (p2 : Int32) : ∀ (n : Nat) (x3 : Option Nat) (x4 : Option Nat) (x5 : Int64) (x7 : Int32) (x8 : Int32) (m : MM), Sm (QM Γ E emJ 0 0) Γ E 9 0 0 57 [(0, va_rf (some th)), (1, .int p1), (2, .int p2), (3, va_rf x3), (4, va_rf x4), (5, .long x5), (7, .int x7), (8, .int x8)] [] m (l_X3_peaceWith_57 th p1 p2 n x3 x4 x5 x7 x8 m) := by
  intro n
  induction n with
  | zero => intros; exact z_none
  | succ n ih => intro x3 x4 x5 x7 x8 m; exact s_X3_peaceWith_57 C hr hrm th p1 p2 (l_X3_peaceWith_57 th p1 p2 n) ih x3 x4 x5 x7 x8 m
set_option maxRecDepth 100000 in
def g_X3_peaceWith_0 (th : Nat) (p1 : Int32) (p2 : Int32) (m : MM) : Option (Int64 × MM) :=
  chk (m.K th = 4) (cal (f_X3_guest th p1 m) (fun r3 m3 => chk (m3.K th = 4) (cal (f_X3_guest th p2 m3) (fun r4 m4 => ifn r3 (some (0, m4)) (fun a3 => ifn r4 (some (0, m4)) (fun a4 => if p2 < 0 then (some (0, m4)) else (chk (m4.K th = 4) (ck m4 (m4.R 402 th 0) 23 (fun a5 => if p2 < (Int32.ofNat (m4.N a5)) then (chk (m4.K a3 = 1) (bnd (((m4.I 102 a3 0) * 8) + (m4.I 101 a3 0)) (fun y2 => l_X3_peaceWith_57 th p1 p2 FU r3 r4 0 y2 0 m4))) else (some (0, m4)))))))))))
set_option maxHeartbeats 4000000 in
set_option maxRecDepth 100000 in
theorem s_X3_peaceWith_0 {Γ : GX} {E : EX} (C : Cx Γ E cX3_peaceWith RX3 9) (hr : Γ.meth.sig.returnType = (some .long)) (hrm : Γ.rm = rmX3_peaceWith) (th : Nat) (p1 : Int32) (p2 : Int32) (m : MM) : Sm (QM Γ E emJ 0 0) Γ E 9 0 0 0 [(0, va_rf (some th)), (1, .int p1), (2, .int p2)] [] m (g_X3_peaceWith_0 th p1 p2 m) := by
  unfold g_X3_peaceWith_0
  refine z_aload_n C dX3_peaceWith_0 rfl 0 rfl ?_
  refine z_iload_n C dX3_peaceWith_1 rfl 1 rfl ?_
  refine z_chk (fun hk5 => ?_)
  refine z_cVR [.int p1] [] C mv_RX3_29 (fun r0 m0 h0 => M_X3_guest _ _ _ _ _ _ _ h0) rfl rfl ⟨by rw [hrm]; exact Nat.le_of_ble_eq_true rfl, by rw [hrm]; exact Nat.le_of_ble_eq_true rfl⟩ ⟨by rw [hrm]; exact Nat.le_of_ble_eq_true rfl, by rw [hrm]; exact Nat.le_of_ble_eq_true rfl⟩ rfl hk5 rfl rfl rfl (Nat.le_of_ble_eq_true rfl) dX3_peaceWith_2 (fun r3 m3 => ?_)
  refine z_astore_n (i := 3) (L2 := [(3, va_rf r3), (0, va_rf (some th)), (1, .int p1), (2, .int p2)]) C dX3_peaceWith_5 rfl (by decide) rfl ?_
  refine z_aload_n C dX3_peaceWith_6 rfl 1 rfl ?_
  refine z_iload_n C dX3_peaceWith_7 rfl 3 rfl ?_
  refine z_chk (fun hk6 => ?_)
  refine z_cVR [.int p2] [] C mv_RX3_29 (fun r0 m0 h0 => M_X3_guest _ _ _ _ _ _ _ h0) rfl rfl ⟨by rw [hrm]; exact Nat.le_of_ble_eq_true rfl, by rw [hrm]; exact Nat.le_of_ble_eq_true rfl⟩ ⟨by rw [hrm]; exact Nat.le_of_ble_eq_true rfl, by rw [hrm]; exact Nat.le_of_ble_eq_true rfl⟩ rfl hk6 rfl rfl rfl (Nat.le_of_ble_eq_true rfl) dX3_peaceWith_8 (fun r4 m4 => ?_)
  refine z_astore (i := 4) (L2 := [(4, va_rf r4), (3, va_rf r3), (0, va_rf (some th)), (1, .int p1), (2, .int p2)]) C dX3_peaceWith_11 (by decide) (by simp [cat_rf, cat_i, cat_l, cat_a]) ?_
  refine z_aload_n C dX3_peaceWith_13 rfl 1 rfl ?_
  refine z_ifnull (tgt := 35) C dX3_peaceWith_14 (by decide) (fun hn1 => ?_) (fun a3 ha1 => ?_)
  · refine z_lconst (v := 0) C dX3_peaceWith_35 rfl ?_
    exact z_lret C hr dX3_peaceWith_36
  · refine z_aload C dX3_peaceWith_17 0 rfl ?_
    refine z_ifnull (tgt := 35) C dX3_peaceWith_19 (by decide) (fun hn2 => ?_) (fun a4 ha2 => ?_)
    · refine z_lconst (v := 0) C dX3_peaceWith_35 rfl ?_
      exact z_lret C hr dX3_peaceWith_36
    · refine z_iload_n C dX3_peaceWith_22 rfl 4 rfl ?_
      refine z_if_lt (tgt := 35) C dX3_peaceWith_23 (by decide) (fun c5 => ?_) (fun c5 => ?_)
      · refine z_lconst (v := 0) C dX3_peaceWith_35 rfl ?_
        exact z_lret C hr dX3_peaceWith_36
      · refine z_iload_n C dX3_peaceWith_26 rfl 4 rfl ?_
        refine z_aload_n C dX3_peaceWith_27 rfl 2 rfl ?_
        refine z_chk (fun hk7 => ?_)
        refine z_getR C fl_RX3_22 rfl hk7 dX3_peaceWith_28 ?_
        refine z_ck (fun a5 hr3 hk8 => ?_)
        refine z_alen C hr3 hk8 (by decide) (by decide) dX3_peaceWith_31 ?_
        refine z_icmp_lt (tgt := 37) C dX3_peaceWith_32 (by decide) (fun c6 => ?_) (fun c6 => ?_)
        · refine z_lconst (v := 0) C dX3_peaceWith_37 rfl ?_
          refine z_lstore (i := 5) (L2 := [(5, .long 0), (4, va_rf r4), (3, va_rf r3), (0, va_rf (some th)), (1, .int p1), (2, .int p2)]) C dX3_peaceWith_38 (by decide) (by simp [cat_rf, cat_i, cat_l, cat_a]) ?_
          refine z_aload_n C dX3_peaceWith_40 rfl 2 rfl ?_
          refine z_chk (fun hk9 => ?_)
          refine z_getI C fl_RX3_46 ha1 hk9 dX3_peaceWith_41 ?_
          refine z_bipush (v := 8) C dX3_peaceWith_44 (by decide) ?_
          refine z_imul C dX3_peaceWith_46 ?_
          refine z_aload_n C dX3_peaceWith_47 rfl 2 rfl ?_
          refine z_getI C fl_RX3_43 ha1 hk9 dX3_peaceWith_48 ?_
          refine z_iadd C dX3_peaceWith_51 ?_
          refine z_bndI (fun y2 => ?_)
          refine z_istore (i := 7) (L2 := [(7, .int y2), (5, .long 0), (4, va_rf r4), (3, va_rf r3), (0, va_rf (some th)), (1, .int p1), (2, .int p2)]) C dX3_peaceWith_52 (by decide) rfl ?_
          refine z_iconst (v := 0) C dX3_peaceWith_54 (by decide) ?_
          refine z_istore (i := 8) (L2 := [(8, .int 0), (7, .int y2), (5, .long 0), (4, va_rf r4), (3, va_rf r3), (0, va_rf (some th)), (1, .int p1), (2, .int p2)]) C dX3_peaceWith_55 (by decide) rfl ?_
          exact z_sub [5, 6, 7, 4, 3, 2, 1, 0] rfl (t_X3_peaceWith_57 C hr hrm th p1 p2 FU r3 r4 0 y2 0 m4)
        · refine z_lconst (v := 0) C dX3_peaceWith_35 rfl ?_
          exact z_lret C hr dX3_peaceWith_36
def f_X3_peaceWith (th : Nat) (p1 : Int32) (p2 : Int32) (m : MM) : Option (Int64 × MM) := g_X3_peaceWith_0 th p1 p2 m
theorem M_X3_peaceWith (l : Launch) (E : EX) (th : Nat) (p1 : Int32) (p2 : Int32) (m : MM) (r : Int64) (m2 : MM) (h : f_X3_peaceWith th p1 p2 m = some (r, m2)) : Met l yX3_peaceWith (.code yX3_peaceWith cX3_peaceWith 9 (some .long) :: TB) rmX3_peaceWith (va_Pc [.ref th, .int p1, .int p2] (St E m)) (QR E (emJ r) m2) 0 0 (AA E) :=
  met_of (em := emJ) (plainFor_of_name rfl) (Nat.le_of_ble_eq_true rfl) (L0 := [(0, va_rf (some th)), (1, .int p1), (2, .int p2)]) rfl (fun Γ _ hrm C hr hn => s_X3_peaceWith_0 C hr hrm th p1 p2 m) h

theorem dX3_seatAll_0 : decode cX3_seatAll 0 = .ok (.iload_n 1, 1) := by decide +kernel
theorem dX3_seatAll_1 : decode cX3_seatAll 1 = .ok (.ifCond .gt 5, 3) := by decide +kernel
theorem dX3_seatAll_4 : decode cX3_seatAll 4 = .ok (.iconst 1, 1) := by decide +kernel
theorem dX3_seatAll_5 : decode cX3_seatAll 5 = .ok (.ireturn, 1) := by decide +kernel
theorem dX3_seatAll_6 : decode cX3_seatAll 6 = .ok (.lconst 0, 1) := by decide +kernel
theorem dX3_seatAll_7 : decode cX3_seatAll 7 = .ok (.lstore_n 2, 1) := by decide +kernel
theorem dX3_seatAll_8 : decode cX3_seatAll 8 = .ok (.iconst 0, 1) := by decide +kernel
theorem dX3_seatAll_9 : decode cX3_seatAll 9 = .ok (.istore 4, 2) := by decide +kernel
theorem dX3_seatAll_11 : decode cX3_seatAll 11 = .ok (.iload 4, 2) := by decide +kernel
theorem dX3_seatAll_13 : decode cX3_seatAll 13 = .ok (.bipush 64, 2) := by decide +kernel
theorem dX3_seatAll_15 : decode cX3_seatAll 15 = .ok (.if_icmp .ge 202, 3) := by decide +kernel
theorem dX3_seatAll_18 : decode cX3_seatAll 18 = .ok (.aload_n 0, 1) := by decide +kernel
theorem dX3_seatAll_19 : decode cX3_seatAll 19 = .ok (.getfield 22, 3) := by decide +kernel
theorem dX3_seatAll_22 : decode cX3_seatAll 22 = .ok (.iconst 0, 1) := by decide +kernel
theorem dX3_seatAll_23 : decode cX3_seatAll 23 = .ok (.laload, 1) := by decide +kernel
theorem dX3_seatAll_24 : decode cX3_seatAll 24 = .ok (.iload 4, 2) := by decide +kernel
theorem dX3_seatAll_26 : decode cX3_seatAll 26 = .ok (.lshr, 1) := by decide +kernel
theorem dX3_seatAll_27 : decode cX3_seatAll 27 = .ok (.lconst 1, 1) := by decide +kernel
theorem dX3_seatAll_28 : decode cX3_seatAll 28 = .ok (.land, 1) := by decide +kernel
theorem dX3_seatAll_29 : decode cX3_seatAll 29 = .ok (.lconst 0, 1) := by decide +kernel
theorem dX3_seatAll_30 : decode cX3_seatAll 30 = .ok (.lcmp, 1) := by decide +kernel
theorem dX3_seatAll_31 : decode cX3_seatAll 31 = .ok (.ifCond .ne 6, 3) := by decide +kernel
theorem dX3_seatAll_34 : decode cX3_seatAll 34 = .ok (.goto 177, 3) := by decide +kernel
theorem dX3_seatAll_37 : decode cX3_seatAll 37 = .ok (.aload_n 0, 1) := by decide +kernel
theorem dX3_seatAll_38 : decode cX3_seatAll 38 = .ok (.iconst 0, 1) := by decide +kernel
theorem dX3_seatAll_39 : decode cX3_seatAll 39 = .ok (.iload 4, 2) := by decide +kernel
theorem dX3_seatAll_41 : decode cX3_seatAll 41 = .ok (.invokevirtual 65, 3) := by decide +kernel
theorem dX3_seatAll_44 : decode cX3_seatAll 44 = .ok (.iload_n 1, 1) := by decide +kernel
theorem dX3_seatAll_45 : decode cX3_seatAll 45 = .ok (.iconst 1, 1) := by decide +kernel
theorem dX3_seatAll_46 : decode cX3_seatAll 46 = .ok (.if_icmp .ne 5, 3) := by decide +kernel
theorem dX3_seatAll_49 : decode cX3_seatAll 49 = .ok (.iconst 1, 1) := by decide +kernel
theorem dX3_seatAll_50 : decode cX3_seatAll 50 = .ok (.ireturn, 1) := by decide +kernel
theorem dX3_seatAll_51 : decode cX3_seatAll 51 = .ok (.aload_n 0, 1) := by decide +kernel
theorem dX3_seatAll_52 : decode cX3_seatAll 52 = .ok (.iconst 0, 1) := by decide +kernel
theorem dX3_seatAll_53 : decode cX3_seatAll 53 = .ok (.iconst 1, 1) := by decide +kernel
theorem dX3_seatAll_54 : decode cX3_seatAll 54 = .ok (.invokevirtual 125, 3) := by decide +kernel
theorem dX3_seatAll_57 : decode cX3_seatAll 57 = .ok (.lstore 5, 2) := by decide +kernel
theorem dX3_seatAll_59 : decode cX3_seatAll 59 = .ok (.iload_n 1, 1) := by decide +kernel
theorem dX3_seatAll_60 : decode cX3_seatAll 60 = .ok (.iconst 2, 1) := by decide +kernel
theorem dX3_seatAll_61 : decode cX3_seatAll 61 = .ok (.if_icmp .le 19, 3) := by decide +kernel
theorem dX3_seatAll_64 : decode cX3_seatAll 64 = .ok (.lload 5, 2) := by decide +kernel
theorem dX3_seatAll_66 : decode cX3_seatAll 66 = .ok (.lconst 0, 1) := by decide +kernel
theorem dX3_seatAll_67 : decode cX3_seatAll 67 = .ok (.lcmp, 1) := by decide +kernel
theorem dX3_seatAll_68 : decode cX3_seatAll 68 = .ok (.ifCond .eq 12, 3) := by decide +kernel
theorem dX3_seatAll_71 : decode cX3_seatAll 71 = .ok (.aload_n 0, 1) := by decide +kernel
theorem dX3_seatAll_72 : decode cX3_seatAll 72 = .ok (.iconst 0, 1) := by decide +kernel
theorem dX3_seatAll_73 : decode cX3_seatAll 73 = .ok (.iconst 2, 1) := by decide +kernel
theorem dX3_seatAll_74 : decode cX3_seatAll 74 = .ok (.invokevirtual 125, 3) := by decide +kernel
theorem dX3_seatAll_77 : decode cX3_seatAll 77 = .ok (.goto 4, 3) := by decide +kernel
theorem dX3_seatAll_80 : decode cX3_seatAll 80 = .ok (.lconst 0, 1) := by decide +kernel
theorem dX3_seatAll_81 : decode cX3_seatAll 81 = .ok (.lstore 7, 2) := by decide +kernel
theorem dX3_seatAll_83 : decode cX3_seatAll 83 = .ok (.iload_n 1, 1) := by decide +kernel
theorem dX3_seatAll_84 : decode cX3_seatAll 84 = .ok (.iconst 2, 1) := by decide +kernel
theorem dX3_seatAll_85 : decode cX3_seatAll 85 = .ok (.if_icmp .le 13, 3) := by decide +kernel
theorem dX3_seatAll_88 : decode cX3_seatAll 88 = .ok (.lload 7, 2) := by decide +kernel
theorem dX3_seatAll_90 : decode cX3_seatAll 90 = .ok (.lconst 0, 1) := by decide +kernel
theorem dX3_seatAll_91 : decode cX3_seatAll 91 = .ok (.lcmp, 1) := by decide +kernel
theorem dX3_seatAll_92 : decode cX3_seatAll 92 = .ok (.ifCond .ne 6, 3) := by decide +kernel
theorem dX3_seatAll_95 : decode cX3_seatAll 95 = .ok (.goto 116, 3) := by decide +kernel
theorem dX3_seatAll_98 : decode cX3_seatAll 98 = .ok (.iconst 0, 1) := by decide +kernel
theorem dX3_seatAll_99 : decode cX3_seatAll 99 = .ok (.istore 9, 2) := by decide +kernel
theorem dX3_seatAll_101 : decode cX3_seatAll 101 = .ok (.iload 9, 2) := by decide +kernel
theorem dX3_seatAll_103 : decode cX3_seatAll 103 = .ok (.bipush 64, 2) := by decide +kernel
theorem dX3_seatAll_105 : decode cX3_seatAll 105 = .ok (.if_icmp .ge 106, 3) := by decide +kernel
theorem dX3_seatAll_108 : decode cX3_seatAll 108 = .ok (.lload 5, 2) := by decide +kernel
theorem dX3_seatAll_110 : decode cX3_seatAll 110 = .ok (.iload 9, 2) := by decide +kernel
theorem dX3_seatAll_112 : decode cX3_seatAll 112 = .ok (.lshr, 1) := by decide +kernel
theorem dX3_seatAll_113 : decode cX3_seatAll 113 = .ok (.lconst 1, 1) := by decide +kernel
theorem dX3_seatAll_114 : decode cX3_seatAll 114 = .ok (.land, 1) := by decide +kernel
theorem dX3_seatAll_115 : decode cX3_seatAll 115 = .ok (.lconst 0, 1) := by decide +kernel
theorem dX3_seatAll_116 : decode cX3_seatAll 116 = .ok (.lcmp, 1) := by decide +kernel
theorem dX3_seatAll_117 : decode cX3_seatAll 117 = .ok (.ifCond .ne 6, 3) := by decide +kernel
theorem dX3_seatAll_120 : decode cX3_seatAll 120 = .ok (.goto 85, 3) := by decide +kernel
theorem dX3_seatAll_123 : decode cX3_seatAll 123 = .ok (.aload_n 0, 1) := by decide +kernel
theorem dX3_seatAll_124 : decode cX3_seatAll 124 = .ok (.iconst 1, 1) := by decide +kernel
theorem dX3_seatAll_125 : decode cX3_seatAll 125 = .ok (.iload 9, 2) := by decide +kernel
theorem dX3_seatAll_127 : decode cX3_seatAll 127 = .ok (.invokevirtual 65, 3) := by decide +kernel
theorem dX3_seatAll_130 : decode cX3_seatAll 130 = .ok (.iload_n 1, 1) := by decide +kernel
theorem dX3_seatAll_131 : decode cX3_seatAll 131 = .ok (.iconst 2, 1) := by decide +kernel
theorem dX3_seatAll_132 : decode cX3_seatAll 132 = .ok (.if_icmp .ne 5, 3) := by decide +kernel
theorem dX3_seatAll_135 : decode cX3_seatAll 135 = .ok (.iconst 1, 1) := by decide +kernel
theorem dX3_seatAll_136 : decode cX3_seatAll 136 = .ok (.ireturn, 1) := by decide +kernel
theorem dX3_seatAll_137 : decode cX3_seatAll 137 = .ok (.lload_n 2, 1) := by decide +kernel
theorem dX3_seatAll_138 : decode cX3_seatAll 138 = .ok (.iload 9, 2) := by decide +kernel
theorem dX3_seatAll_140 : decode cX3_seatAll 140 = .ok (.lshr, 1) := by decide +kernel
theorem dX3_seatAll_141 : decode cX3_seatAll 141 = .ok (.lconst 1, 1) := by decide +kernel
theorem dX3_seatAll_142 : decode cX3_seatAll 142 = .ok (.land, 1) := by decide +kernel
theorem dX3_seatAll_143 : decode cX3_seatAll 143 = .ok (.lconst 0, 1) := by decide +kernel
theorem dX3_seatAll_144 : decode cX3_seatAll 144 = .ok (.lcmp, 1) := by decide +kernel
theorem dX3_seatAll_145 : decode cX3_seatAll 145 = .ok (.ifCond .ne 23, 3) := by decide +kernel
theorem dX3_seatAll_148 : decode cX3_seatAll 148 = .ok (.aload_n 0, 1) := by decide +kernel
theorem dX3_seatAll_149 : decode cX3_seatAll 149 = .ok (.getfield 26, 3) := by decide +kernel
theorem dX3_seatAll_152 : decode cX3_seatAll 152 = .ok (.iload 9, 2) := by decide +kernel
theorem dX3_seatAll_154 : decode cX3_seatAll 154 = .ok (.aload_n 0, 1) := by decide +kernel
theorem dX3_seatAll_155 : decode cX3_seatAll 155 = .ok (.iconst 1, 1) := by decide +kernel
theorem dX3_seatAll_156 : decode cX3_seatAll 156 = .ok (.iconst 2, 1) := by decide +kernel
theorem dX3_seatAll_157 : decode cX3_seatAll 157 = .ok (.invokevirtual 125, 3) := by decide +kernel
theorem dX3_seatAll_160 : decode cX3_seatAll 160 = .ok (.lastore, 1) := by decide +kernel
theorem dX3_seatAll_161 : decode cX3_seatAll 161 = .ok (.lload_n 2, 1) := by decide +kernel
theorem dX3_seatAll_162 : decode cX3_seatAll 162 = .ok (.lconst 1, 1) := by decide +kernel
theorem dX3_seatAll_163 : decode cX3_seatAll 163 = .ok (.iload 9, 2) := by decide +kernel
theorem dX3_seatAll_165 : decode cX3_seatAll 165 = .ok (.lshl, 1) := by decide +kernel
theorem dX3_seatAll_166 : decode cX3_seatAll 166 = .ok (.lor, 1) := by decide +kernel
theorem dX3_seatAll_167 : decode cX3_seatAll 167 = .ok (.lstore_n 2, 1) := by decide +kernel
theorem dX3_seatAll_168 : decode cX3_seatAll 168 = .ok (.lload 7, 2) := by decide +kernel
theorem dX3_seatAll_170 : decode cX3_seatAll 170 = .ok (.aload_n 0, 1) := by decide +kernel
theorem dX3_seatAll_171 : decode cX3_seatAll 171 = .ok (.getfield 26, 3) := by decide +kernel
theorem dX3_seatAll_174 : decode cX3_seatAll 174 = .ok (.iload 9, 2) := by decide +kernel
theorem dX3_seatAll_176 : decode cX3_seatAll 176 = .ok (.laload, 1) := by decide +kernel
theorem dX3_seatAll_177 : decode cX3_seatAll 177 = .ok (.land, 1) := by decide +kernel
theorem dX3_seatAll_178 : decode cX3_seatAll 178 = .ok (.lstore 10, 2) := by decide +kernel
theorem dX3_seatAll_180 : decode cX3_seatAll 180 = .ok (.lload 10, 2) := by decide +kernel
theorem dX3_seatAll_182 : decode cX3_seatAll 182 = .ok (.lconst 0, 1) := by decide +kernel
theorem dX3_seatAll_183 : decode cX3_seatAll 183 = .ok (.lcmp, 1) := by decide +kernel
theorem dX3_seatAll_184 : decode cX3_seatAll 184 = .ok (.ifCond .eq 21, 3) := by decide +kernel
theorem dX3_seatAll_187 : decode cX3_seatAll 187 = .ok (.aload_n 0, 1) := by decide +kernel
theorem dX3_seatAll_188 : decode cX3_seatAll 188 = .ok (.iconst 2, 1) := by decide +kernel
theorem dX3_seatAll_189 : decode cX3_seatAll 189 = .ok (.lload 10, 2) := by decide +kernel
theorem dX3_seatAll_191 : decode cX3_seatAll 191 = .ok (.lload 10, 2) := by decide +kernel
theorem dX3_seatAll_193 : decode cX3_seatAll 193 = .ok (.lneg, 1) := by decide +kernel
theorem dX3_seatAll_194 : decode cX3_seatAll 194 = .ok (.land, 1) := by decide +kernel
theorem dX3_seatAll_195 : decode cX3_seatAll 195 = .ok (.lconst 1, 1) := by decide +kernel
theorem dX3_seatAll_196 : decode cX3_seatAll 196 = .ok (.lsub, 1) := by decide +kernel
theorem dX3_seatAll_197 : decode cX3_seatAll 197 = .ok (.invokestatic 128, 3) := by decide +kernel
theorem dX3_seatAll_200 : decode cX3_seatAll 200 = .ok (.invokevirtual 65, 3) := by decide +kernel
theorem dX3_seatAll_203 : decode cX3_seatAll 203 = .ok (.iconst 1, 1) := by decide +kernel
theorem dX3_seatAll_204 : decode cX3_seatAll 204 = .ok (.ireturn, 1) := by decide +kernel
theorem dX3_seatAll_205 : decode cX3_seatAll 205 = .ok (.iinc 9 1, 3) := by decide +kernel
theorem dX3_seatAll_208 : decode cX3_seatAll 208 = .ok (.goto (-107), 3) := by decide +kernel
theorem dX3_seatAll_211 : decode cX3_seatAll 211 = .ok (.iinc 4 1, 3) := by decide +kernel
theorem dX3_seatAll_214 : decode cX3_seatAll 214 = .ok (.goto (-203), 3) := by decide +kernel
theorem dX3_seatAll_217 : decode cX3_seatAll 217 = .ok (.iconst 0, 1) := by decide +kernel
theorem dX3_seatAll_218 : decode cX3_seatAll 218 = .ok (.ireturn, 1) := by decide +kernel
def rmX3_seatAll : Room := { frames := 5, cells := 0, slots := 0, locals := 146 }
set_option maxRecDepth 100000 in
def g_X3_seatAll_211 (th : Nat) (p1 : Int32) (k11 : Int64 → Int32 → MM → Option (Int32 × MM)) (k187 : Int64 → MM → Option (Int32 × MM)) (x2 : Int64) (x4 : Int32) (m : MM) : Option (Int32 × MM) :=
  k11 x2 (x4 + 1) m
set_option maxHeartbeats 4000000 in
set_option maxRecDepth 100000 in
theorem s_X3_seatAll_211 {Γ : GX} {E : EX} (C : Cx Γ E cX3_seatAll RX3 12) (hr : Γ.meth.sig.returnType = (some .boolean)) (hrm : Γ.rm = rmX3_seatAll) (th : Nat) (p1 : Int32) (k11 : Int64 → Int32 → MM → Option (Int32 × MM)) (k187 : Int64 → MM → Option (Int32 × MM)) (h11 : ∀ (x2 : Int64) (x4 : Int32) (m : MM), Sm (QM Γ E emI 0 0) Γ E 12 0 0 11 [(0, va_rf (some th)), (1, .int p1), (2, .long x2), (4, .int x4)] [] m (k11 x2 x4 m)) (h187 : ∀ (x10 : Int64) (m : MM), Sm (QM Γ E emI 0 0) Γ E 12 0 0 187 [(0, va_rf (some th)), (1, .int p1), (10, .long x10)] [] m (k187 x10 m)) (x2 : Int64) (x4 : Int32) (m : MM) : Sm (QM Γ E emI 0 0) Γ E 12 0 0 211 [(0, va_rf (some th)), (1, .int p1), (2, .long x2), (4, .int x4)] [] m (g_X3_seatAll_211 th p1 k11 k187 x2 x4 m) := by
  unfold g_X3_seatAll_211
  refine z_iinc (v := 1) (L2 := [(4, .int (x4 + 1)), (0, va_rf (some th)), (1, .int p1), (2, .long x2)]) C dX3_seatAll_211 3 rfl (by decide) (by decide) rfl ?_
  refine z_goto (tgt := 11) C dX3_seatAll_214 (by decide) ?_
  exact z_sub [1, 2, 3, 0] rfl (h11 x2 (x4 + 1) m)
set_option maxRecDepth 100000 in
def g_X3_seatAll_205 (th : Nat) (p1 : Int32) (k101 : Int64 → Int32 → Int64 → Int64 → Int32 → MM → Option (Int32 × MM)) (k187 : Int64 → MM → Option (Int32 × MM)) (k211 : Int64 → Int32 → MM → Option (Int32 × MM)) (x2 : Int64) (x4 : Int32) (x5 : Int64) (x7 : Int64) (x9 : Int32) (m : MM) : Option (Int32 × MM) :=
  k101 x2 x4 x5 x7 (x9 + 1) m
set_option maxHeartbeats 4000000 in
set_option maxRecDepth 100000 in
theorem s_X3_seatAll_205 {Γ : GX} {E : EX} (C : Cx Γ E cX3_seatAll RX3 12) (hr : Γ.meth.sig.returnType = (some .boolean)) (hrm : Γ.rm = rmX3_seatAll) (th : Nat) (p1 : Int32) (k101 : Int64 → Int32 → Int64 → Int64 → Int32 → MM → Option (Int32 × MM)) (k187 : Int64 → MM → Option (Int32 × MM)) (k211 : Int64 → Int32 → MM → Option (Int32 × MM)) (h101 : ∀ (x2 : Int64) (x4 : Int32) (x5 : Int64) (x7 : Int64) (x9 : Int32) (m : MM), Sm (QM Γ E emI 0 0) Γ E 12 0 0 101 [(0, va_rf (some th)), (1, .int p1), (2, .long x2), (4, .int x4), (5, .long x5), (7, .long x7), (9, .int x9)] [] m (k101 x2 x4 x5 x7 x9 m)) (h187 : ∀ (x10 : Int64) (m : MM), Sm (QM Γ E emI 0 0) Γ E 12 0 0 187 [(0, va_rf (some th)), (1, .int p1), (10, .long x10)] [] m (k187 x10 m)) (h211 : ∀ (x2 : Int64) (x4 : Int32) (m : MM), Sm (QM Γ E emI 0 0) Γ E 12 0 0 211 [(0, va_rf (some th)), (1, .int p1), (2, .long x2), (4, .int x4)] [] m (k211 x2 x4 m)) (x2 : Int64) (x4 : Int32) (x5 : Int64) (x7 : Int64) (x9 : Int32) (m : MM) : Sm (QM Γ E emI 0 0) Γ E 12 0 0 205 [(0, va_rf (some th)), (1, .int p1), (2, .long x2), (4, .int x4), (5, .long x5), (7, .long x7), (9, .int x9)] [] m (g_X3_seatAll_205 th p1 k101 k187 k211 x2 x4 x5 x7 x9 m) := by
  unfold g_X3_seatAll_205
  refine z_iinc (v := 1) (L2 := [(9, .int (x9 + 1)), (0, va_rf (some th)), (1, .int p1), (2, .long x2), (4, .int x4), (5, .long x5), (7, .long x7)]) C dX3_seatAll_205 6 rfl (by decide) (by decide) rfl ?_
  refine z_goto (tgt := 101) C dX3_seatAll_208 (by decide) ?_
  exact z_sub [1, 2, 3, 4, 5, 6, 0] rfl (h101 x2 x4 x5 x7 (x9 + 1) m)
set_option maxRecDepth 100000 in
def g_X3_seatAll_168 (th : Nat) (p1 : Int32) (k101 : Int64 → Int32 → Int64 → Int64 → Int32 → MM → Option (Int32 × MM)) (k187 : Int64 → MM → Option (Int32 × MM)) (k211 : Int64 → Int32 → MM → Option (Int32 × MM)) (x2 : Int64) (x4 : Int32) (x5 : Int64) (x7 : Int64) (x9 : Int32) (m : MM) : Option (Int32 × MM) :=
  chk (m.K th = 4) (ck m (m.R 403 th 0) 23 (fun a1 => chk (inb x9 (m.N a1) = true) (bnd (x7 &&& (m.J 23 a1 (Int32.toNatClampNeg x9))) (fun y1 => if (lg_cmp y1 0) = 0 then (g_X3_seatAll_205 th p1 k101 k187 k211 x2 x4 x5 x7 x9 m) else (k187 y1 m)))))
set_option maxHeartbeats 4000000 in
set_option maxRecDepth 100000 in
theorem s_X3_seatAll_168 {Γ : GX} {E : EX} (C : Cx Γ E cX3_seatAll RX3 12) (hr : Γ.meth.sig.returnType = (some .boolean)) (hrm : Γ.rm = rmX3_seatAll) (th : Nat) (p1 : Int32) (k101 : Int64 → Int32 → Int64 → Int64 → Int32 → MM → Option (Int32 × MM)) (k187 : Int64 → MM → Option (Int32 × MM)) (k211 : Int64 → Int32 → MM → Option (Int32 × MM)) (h101 : ∀ (x2 : Int64) (x4 : Int32) (x5 : Int64) (x7 : Int64) (x9 : Int32) (m : MM), Sm (QM Γ E emI 0 0) Γ E 12 0 0 101 [(0, va_rf (some th)), (1, .int p1), (2, .long x2), (4, .int x4), (5, .long x5), (7, .long x7), (9, .int x9)] [] m (k101 x2 x4 x5 x7 x9 m)) (h187 : ∀ (x10 : Int64) (m : MM), Sm (QM Γ E emI 0 0) Γ E 12 0 0 187 [(0, va_rf (some th)), (1, .int p1), (10, .long x10)] [] m (k187 x10 m)) (h211 : ∀ (x2 : Int64) (x4 : Int32) (m : MM), Sm (QM Γ E emI 0 0) Γ E 12 0 0 211 [(0, va_rf (some th)), (1, .int p1), (2, .long x2), (4, .int x4)] [] m (k211 x2 x4 m)) (x2 : Int64) (x4 : Int32) (x5 : Int64) (x7 : Int64) (x9 : Int32) (m : MM) : Sm (QM Γ E emI 0 0) Γ E 12 0 0 168 [(0, va_rf (some th)), (1, .int p1), (2, .long x2), (4, .int x4), (5, .long x5), (7, .long x7), (9, .int x9)] [] m (g_X3_seatAll_168 th p1 k101 k187 k211 x2 x4 x5 x7 x9 m) := by
  unfold g_X3_seatAll_168
  refine z_lload C dX3_seatAll_168 5 rfl ?_
  refine z_aload_n C dX3_seatAll_170 rfl 0 rfl ?_
  refine z_chk (fun hk1 => ?_)
  refine z_getR C fl_RX3_26 rfl hk1 dX3_seatAll_171 ?_
  refine z_iload C dX3_seatAll_174 6 rfl ?_
  refine z_ck (fun a1 hr1 hk2 => ?_)
  refine z_chk (fun hj1 => ?_)
  refine z_lald C hr1 hk2 hj1 dX3_seatAll_176 ?_
  refine z_land C dX3_seatAll_177 ?_
  refine z_bndJ (fun y1 => ?_)
  refine z_lstore (i := 10) (L2 := [(10, .long y1), (0, va_rf (some th)), (1, .int p1), (2, .long x2), (4, .int x4), (5, .long x5), (7, .long x7), (9, .int x9)]) C dX3_seatAll_178 (by decide) rfl ?_
  refine z_lload C dX3_seatAll_180 0 rfl ?_
  refine z_lconst (v := 0) C dX3_seatAll_182 rfl ?_
  refine z_lcmp C dX3_seatAll_183 ?_
  refine z_if_eq (tgt := 205) C dX3_seatAll_184 (by decide) (fun c1 => ?_) (fun c1 => ?_)
  · exact z_sub [1, 2, 3, 4, 5, 6, 7] rfl (s_X3_seatAll_205 C hr hrm th p1 k101 k187 k211 h101 h187 h211 x2 x4 x5 x7 x9 m)
  · exact z_sub [1, 2, 0] rfl (h187 y1 m)
set_option maxRecDepth 100000 in
def g_X3_seatAll_101 (th : Nat) (p1 : Int32) (k101 : Int64 → Int32 → Int64 → Int64 → Int32 → MM → Option (Int32 × MM)) (k187 : Int64 → MM → Option (Int32 × MM)) (k211 : Int64 → Int32 → MM → Option (Int32 × MM)) (x2 : Int64) (x4 : Int32) (x5 : Int64) (x7 : Int64) (x9 : Int32) (m : MM) : Option (Int32 × MM) :=
  if 64 ≤ x9 then (k211 x2 x4 m) else (if (lg_cmp ((x5 >>> (Int32.toInt64 x9 &&& 63)) &&& 1) 0) = 0 then (g_X3_seatAll_205 th p1 k101 k187 k211 x2 x4 x5 x7 x9 m) else (chk (m.K th = 4) (cal (f_X3_seatAt th 1 x9 m) (fun r1 m1 => if p1 = 2 then (some (1, m1)) else (if (lg_cmp ((x2 >>> (Int32.toInt64 x9 &&& 63)) &&& 1) 0) = 0 then (chk (m1.K th = 4) (cal (f_X3_peaceWith th 1 2 m1) (fun r2 m2 => ck m2 (m1.R 403 th 0) 23 (fun a2 => chk (inb x9 (m2.N a2) = true) (bnd (m2.sJ 23 a2 (Int32.toNatClampNeg x9) r2) (fun m3 => bnd (x2 ||| (1 <<< (Int32.toInt64 x9 &&& 63))) (fun y2 => g_X3_seatAll_168 th p1 k101 k187 k211 y2 x4 x5 x7 x9 m3))))))) else (g_X3_seatAll_168 th p1 k101 k187 k211 x2 x4 x5 x7 x9 m1))))))
set_option maxHeartbeats 4000000 in
set_option maxRecDepth 100000 in
theorem s_X3_seatAll_101 {Γ : GX} {E : EX} (C : Cx Γ E cX3_seatAll RX3 12) (hr : Γ.meth.sig.returnType = (some .boolean)) (hrm : Γ.rm = rmX3_seatAll) (th : Nat) (p1 : Int32) (k101 : Int64 → Int32 → Int64 → Int64 → Int32 → MM → Option (Int32 × MM)) (k187 : Int64 → MM → Option (Int32 × MM)) (k211 : Int64 → Int32 → MM → Option (Int32 × MM)) (h101 : ∀ (x2 : Int64) (x4 : Int32) (x5 : Int64) (x7 : Int64) (x9 : Int32) (m : MM), Sm (QM Γ E emI 0 0) Γ E 12 0 0 101 [(0, va_rf (some th)), (1, .int p1), (2, .long x2), (4, .int x4), (5, .long x5), (7, .long x7), (9, .int x9)] [] m (k101 x2 x4 x5 x7 x9 m)) (h187 : ∀ (x10 : Int64) (m : MM), Sm (QM Γ E emI 0 0) Γ E 12 0 0 187 [(0, va_rf (some th)), (1, .int p1), (10, .long x10)] [] m (k187 x10 m)) (h211 : ∀ (x2 : Int64) (x4 : Int32) (m : MM), Sm (QM Γ E emI 0 0) Γ E 12 0 0 211 [(0, va_rf (some th)), (1, .int p1), (2, .long x2), (4, .int x4)] [] m (k211 x2 x4 m)) (x2 : Int64) (x4 : Int32) (x5 : Int64) (x7 : Int64) (x9 : Int32) (m : MM) : Sm (QM Γ E emI 0 0) Γ E 12 0 0 101 [(0, va_rf (some th)), (1, .int p1), (2, .long x2), (4, .int x4), (5, .long x5), (7, .long x7), (9, .int x9)] [] m (g_X3_seatAll_101 th p1 k101 k187 k211 x2 x4 x5 x7 x9 m) := by
  unfold g_X3_seatAll_101
  refine z_iload C dX3_seatAll_101 6 rfl ?_
  refine z_bipush (v := 64) C dX3_seatAll_103 (by decide) ?_
  refine z_icmp_ge (tgt := 211) C dX3_seatAll_105 (by decide) (fun c2 => ?_) (fun c2 => ?_)
  · exact z_sub [0, 1, 2, 3] rfl (h211 x2 x4 m)
  · refine z_lload C dX3_seatAll_108 4 rfl ?_
    refine z_iload C dX3_seatAll_110 6 rfl ?_
    refine z_lshr C dX3_seatAll_112 ?_
    refine z_lconst (v := 1) C dX3_seatAll_113 rfl ?_
    refine z_land C dX3_seatAll_114 ?_
    refine z_lconst (v := 0) C dX3_seatAll_115 rfl ?_
    refine z_lcmp C dX3_seatAll_116 ?_
    refine z_if_ne (tgt := 123) C dX3_seatAll_117 (by decide) (fun c3 => ?_) (fun c3 => ?_)
    · refine z_aload_n C dX3_seatAll_123 rfl 0 rfl ?_
      refine z_iconst (v := 1) C dX3_seatAll_124 (by decide) ?_
      refine z_iload C dX3_seatAll_125 6 rfl ?_
      refine z_chk (fun hk3 => ?_)
      refine z_cVV [.int 1, .int x9] [] C mv_RX3_65 (fun r0 m0 h0 => M_X3_seatAt _ _ _ _ _ _ _ _ h0) rfl rfl ⟨by rw [hrm]; exact Nat.le_of_ble_eq_true rfl, by rw [hrm]; exact Nat.le_of_ble_eq_true rfl⟩ ⟨by rw [hrm]; exact Nat.le_of_ble_eq_true rfl, by rw [hrm]; exact Nat.le_of_ble_eq_true rfl⟩ rfl hk3 rfl rfl rfl (Nat.le_of_ble_eq_true rfl) dX3_seatAll_127 (fun r1 m1 => ?_)
      refine z_iload_n C dX3_seatAll_130 rfl 1 rfl ?_
      refine z_iconst (v := 2) C dX3_seatAll_131 (by decide) ?_
      refine z_icmp_ne (tgt := 137) C dX3_seatAll_132 (by decide) (fun c4 => ?_) (fun c4 => ?_)
      · refine z_lload_n C dX3_seatAll_137 rfl 2 rfl ?_
        refine z_iload C dX3_seatAll_138 6 rfl ?_
        refine z_lshr C dX3_seatAll_140 ?_
        refine z_lconst (v := 1) C dX3_seatAll_141 rfl ?_
        refine z_land C dX3_seatAll_142 ?_
        refine z_lconst (v := 0) C dX3_seatAll_143 rfl ?_
        refine z_lcmp C dX3_seatAll_144 ?_
        refine z_if_ne (tgt := 168) C dX3_seatAll_145 (by decide) (fun c5 => ?_) (fun c5 => ?_)
        · exact z_sub [0, 1, 2, 3, 4, 5, 6] rfl (s_X3_seatAll_168 C hr hrm th p1 k101 k187 k211 h101 h187 h211 x2 x4 x5 x7 x9 m1)
        · refine z_aload_n C dX3_seatAll_148 rfl 0 rfl ?_
          refine z_chk (fun hk4 => ?_)
          refine z_getR C fl_RX3_26 rfl hk4 dX3_seatAll_149 ?_
          refine z_iload C dX3_seatAll_152 6 rfl ?_
          refine z_aload_n C dX3_seatAll_154 rfl 0 rfl ?_
          refine z_iconst (v := 1) C dX3_seatAll_155 (by decide) ?_
          refine z_iconst (v := 2) C dX3_seatAll_156 (by decide) ?_
          refine z_cVJ [.int 1, .int 2] [.int x9, va_rf (m1.R 403 th 0)] C mv_RX3_125 (fun r0 m0 h0 => M_X3_peaceWith _ _ _ _ _ _ _ _ h0) rfl rfl ⟨by rw [hrm]; exact Nat.le_of_ble_eq_true rfl, by rw [hrm]; exact Nat.le_of_ble_eq_true rfl⟩ ⟨by rw [hrm]; exact Nat.le_of_ble_eq_true rfl, by rw [hrm]; exact Nat.le_of_ble_eq_true rfl⟩ rfl hk4 rfl rfl rfl (by simp [cat_rf, cat_i, cat_l, cat_a]) dX3_seatAll_157 (fun r2 m2 => ?_)
          refine z_ck (fun a2 hr2 hk5 => ?_)
          refine z_chk (fun hj2 => ?_)
          refine z_last C hr2 hk5 hj2 dX3_seatAll_160 (fun m3 eK1 eN1 => ?_)
          refine z_lload_n C dX3_seatAll_161 rfl 2 rfl ?_
          refine z_lconst (v := 1) C dX3_seatAll_162 rfl ?_
          refine z_iload C dX3_seatAll_163 6 rfl ?_
          refine z_lshl C dX3_seatAll_165 ?_
          refine z_lor C dX3_seatAll_166 ?_
          refine z_bndJ (fun y2 => ?_)
          refine z_lstore_n (i := 2) (L2 := [(2, .long y2), (0, va_rf (some th)), (1, .int p1), (4, .int x4), (5, .long x5), (7, .long x7), (9, .int x9)]) C dX3_seatAll_167 rfl (by decide) rfl ?_
          exact z_sub [1, 2, 0, 3, 4, 5, 6] rfl (s_X3_seatAll_168 C hr hrm th p1 k101 k187 k211 h101 h187 h211 y2 x4 x5 x7 x9 m3)
      · refine z_iconst (v := 1) C dX3_seatAll_135 (by decide) ?_
        exact z_zret C hr rfl dX3_seatAll_136
    · refine z_goto (tgt := 205) C dX3_seatAll_120 (by decide) ?_
      exact z_sub [0, 1, 2, 3, 4, 5, 6] rfl (s_X3_seatAll_205 C hr hrm th p1 k101 k187 k211 h101 h187 h211 x2 x4 x5 x7 x9 m)
def l_X3_seatAll_101 (th : Nat) (p1 : Int32) (k187 : Int64 → MM → Option (Int32 × MM)) (k211 : Int64 → Int32 → MM → Option (Int32 × MM)) : Nat → Int64 → Int32 → Int64 → Int64 → Int32 → MM → Option (Int32 × MM) := lp (fun _ _ _ _ _ _ => none) (fun k101 => g_X3_seatAll_101 th p1 k101 k187 k211)
theorem t_X3_seatAll_101 {Γ : GX} {E : EX} (C : Cx Γ E cX3_seatAll RX3 12) (hr : Γ.meth.sig.returnType = (some .boolean)) (hrm : Γ.rm = rmX3_seatAll) (th : Nat) (p1 : Int32) (k187 : Int64 → MM → Option (Int32 × MM)) (k211 : Int64 → Int32 → MM → Option (Int32 × MM)) (h187 : ∀ (x10 : Int64) (m : MM), Sm (QM Γ E emI 0 0) Γ E 12 0 0 187 [(0, va_rf (some th)), (1, .int p1), (10, .long x10)] [] m (k187 x10 m)) (h211 : ∀ (x2 : Int64) (x4 : Int32) (m : MM), Sm (QM Γ E emI 0 0) Γ E 12 0 0 211 [(0, va_rf (some th)), (1, .int p1), (2, .long x2), (4, .int x4)] [] m (k211 x2 x4 m)) : ∀ (n : Nat) (x2 : Int64) (x4 : Int32) (x5 : Int64) (x7 : Int64) (x9 : Int32) (m : MM), Sm (QM Γ E emI 0 0) Γ E 12 0 0 101 [(0, va_rf (some th)), (1, .int p1), (2, .long x2), (4, .int x4), (5, .long x5), (7, .long x7), (9, .int x9)] [] m (l_X3_seatAll_101 th p1 k187 k211 n x2 x4 x5 x7 x9 m) := by
  intro n
  induction n with
  | zero => intros; exact z_none
  | succ n ih => intro x2 x4 x5 x7 x9 m; exact s_X3_seatAll_101 C hr hrm th p1 (l_X3_seatAll_101 th p1 k187 k211 n) k187 k211 ih h187 h211 x2 x4 x5 x7 x9 m
set_option maxRecDepth 100000 in
def g_X3_seatAll_98 (th : Nat) (p1 : Int32) (k11 : Int64 → Int32 → MM → Option (Int32 × MM)) (k187 : Int64 → MM → Option (Int32 × MM)) (x2 : Int64) (x4 : Int32) (x5 : Int64) (x7 : Int64) (m : MM) : Option (Int32 × MM) :=
  l_X3_seatAll_101 th p1 (k187) (g_X3_seatAll_211 th p1 k11 k187) FU x2 x4 x5 x7 0 m
set_option maxHeartbeats 4000000 in
set_option maxRecDepth 100000 in
theorem s_X3_seatAll_98 {Γ : GX} {E : EX} (C : Cx Γ E cX3_seatAll RX3 12) (hr : Γ.meth.sig.returnType = (some .boolean)) (hrm : Γ.rm = rmX3_seatAll) (th : Nat) (p1 : Int32) (k11 : Int64 → Int32 → MM → Option (Int32 × MM)) (k187 : Int64 → MM → Option (Int32 × MM)) (h11 : ∀ (x2 : Int64) (x4 : Int32) (m : MM), Sm (QM Γ E emI 0 0) Γ E 12 0 0 11 [(0, va_rf (some th)), (1, .int p1), (2, .long x2), (4, .int x4)] [] m (k11 x2 x4 m)) (h187 : ∀ (x10 : Int64) (m : MM), Sm (QM Γ E emI 0 0) Γ E 12 0 0 187 [(0, va_rf (some th)), (1, .int p1), (10, .long x10)] [] m (k187 x10 m)) (x2 : Int64) (x4 : Int32) (x5 : Int64) (x7 : Int64) (m : MM) : Sm (QM Γ E emI 0 0) Γ E 12 0 0 98 [(0, va_rf (some th)), (1, .int p1), (2, .long x2), (4, .int x4), (5, .long x5), (7, .long x7)] [] m (g_X3_seatAll_98 th p1 k11 k187 x2 x4 x5 x7 m) := by
  unfold g_X3_seatAll_98
  refine z_iconst (v := 0) C dX3_seatAll_98 (by decide) ?_
  refine z_istore (i := 9) (L2 := [(9, .int 0), (0, va_rf (some th)), (1, .int p1), (2, .long x2), (4, .int x4), (5, .long x5), (7, .long x7)]) C dX3_seatAll_99 (by decide) rfl ?_
  exact z_sub [1, 2, 3, 4, 5, 6, 0] rfl (t_X3_seatAll_101 C hr hrm th p1 (k187) (g_X3_seatAll_211 th p1 k11 k187) (h187) (s_X3_seatAll_211 C hr hrm th p1 k11 k187 h11 h187) FU x2 x4 x5 x7 0 m)
set_option maxRecDepth 100000 in
def g_X3_seatAll_81 (th : Nat) (p1 : Int32) (k11 : Int64 → Int32 → MM → Option (Int32 × MM)) (k187 : Int64 → MM → Option (Int32 × MM)) (x2 : Int64) (x4 : Int32) (x5 : Int64) (s0 : Int64) (m : MM) : Option (Int32 × MM) :=
  if p1 ≤ 2 then (g_X3_seatAll_98 th p1 k11 k187 x2 x4 x5 s0 m) else (if (lg_cmp s0 0) = 0 then (g_X3_seatAll_211 th p1 k11 k187 x2 x4 m) else (g_X3_seatAll_98 th p1 k11 k187 x2 x4 x5 s0 m))
set_option maxHeartbeats 4000000 in
set_option maxRecDepth 100000 in
theorem s_X3_seatAll_81 {Γ : GX} {E : EX} (C : Cx Γ E cX3_seatAll RX3 12) (hr : Γ.meth.sig.returnType = (some .boolean)) (hrm : Γ.rm = rmX3_seatAll) (th : Nat) (p1 : Int32) (k11 : Int64 → Int32 → MM → Option (Int32 × MM)) (k187 : Int64 → MM → Option (Int32 × MM)) (h11 : ∀ (x2 : Int64) (x4 : Int32) (m : MM), Sm (QM Γ E emI 0 0) Γ E 12 0 0 11 [(0, va_rf (some th)), (1, .int p1), (2, .long x2), (4, .int x4)] [] m (k11 x2 x4 m)) (h187 : ∀ (x10 : Int64) (m : MM), Sm (QM Γ E emI 0 0) Γ E 12 0 0 187 [(0, va_rf (some th)), (1, .int p1), (10, .long x10)] [] m (k187 x10 m)) (x2 : Int64) (x4 : Int32) (x5 : Int64) (s0 : Int64) (m : MM) : Sm (QM Γ E emI 0 0) Γ E 12 0 0 81 [(0, va_rf (some th)), (1, .int p1), (2, .long x2), (4, .int x4), (5, .long x5)] [.long s0] m (g_X3_seatAll_81 th p1 k11 k187 x2 x4 x5 s0 m) := by
  unfold g_X3_seatAll_81
  refine z_lstore (i := 7) (L2 := [(7, .long s0), (0, va_rf (some th)), (1, .int p1), (2, .long x2), (4, .int x4), (5, .long x5)]) C dX3_seatAll_81 (by decide) rfl ?_
  refine z_iload_n C dX3_seatAll_83 rfl 2 rfl ?_
  refine z_iconst (v := 2) C dX3_seatAll_84 (by decide) ?_
  refine z_icmp_le (tgt := 98) C dX3_seatAll_85 (by decide) (fun c6 => ?_) (fun c6 => ?_)
  · exact z_sub [1, 2, 3, 4, 5, 0] rfl (s_X3_seatAll_98 C hr hrm th p1 k11 k187 h11 h187 x2 x4 x5 s0 m)
  · refine z_lload C dX3_seatAll_88 0 rfl ?_
    refine z_lconst (v := 0) C dX3_seatAll_90 rfl ?_
    refine z_lcmp C dX3_seatAll_91 ?_
    refine z_if_ne (tgt := 98) C dX3_seatAll_92 (by decide) (fun c7 => ?_) (fun c7 => ?_)
    · exact z_sub [1, 2, 3, 4, 5, 0] rfl (s_X3_seatAll_98 C hr hrm th p1 k11 k187 h11 h187 x2 x4 x5 s0 m)
    · refine z_goto (tgt := 211) C dX3_seatAll_95 (by decide) ?_
      exact z_sub [1, 2, 3, 4] rfl (s_X3_seatAll_211 C hr hrm th p1 k11 k187 h11 h187 x2 x4 m)
set_option maxRecDepth 100000 in
def g_X3_seatAll_80 (th : Nat) (p1 : Int32) (k11 : Int64 → Int32 → MM → Option (Int32 × MM)) (k187 : Int64 → MM → Option (Int32 × MM)) (x2 : Int64) (x4 : Int32) (x5 : Int64) (m : MM) : Option (Int32 × MM) :=
  g_X3_seatAll_81 th p1 k11 k187 x2 x4 x5 0 m
set_option maxHeartbeats 4000000 in
set_option maxRecDepth 100000 in
theorem s_X3_seatAll_80 {Γ : GX} {E : EX} (C : Cx Γ E cX3_seatAll RX3 12) (hr : Γ.meth.sig.returnType = (some .boolean)) (hrm : Γ.rm = rmX3_seatAll) (th : Nat) (p1 : Int32) (k11 : Int64 → Int32 → MM → Option (Int32 × MM)) (k187 : Int64 → MM → Option (Int32 × MM)) (h11 : ∀ (x2 : Int64) (x4 : Int32) (m : MM), Sm (QM Γ E emI 0 0) Γ E 12 0 0 11 [(0, va_rf (some th)), (1, .int p1), (2, .long x2), (4, .int x4)] [] m (k11 x2 x4 m)) (h187 : ∀ (x10 : Int64) (m : MM), Sm (QM Γ E emI 0 0) Γ E 12 0 0 187 [(0, va_rf (some th)), (1, .int p1), (10, .long x10)] [] m (k187 x10 m)) (x2 : Int64) (x4 : Int32) (x5 : Int64) (m : MM) : Sm (QM Γ E emI 0 0) Γ E 12 0 0 80 [(0, va_rf (some th)), (1, .int p1), (2, .long x2), (4, .int x4), (5, .long x5)] [] m (g_X3_seatAll_80 th p1 k11 k187 x2 x4 x5 m) := by
  unfold g_X3_seatAll_80
  refine z_lconst (v := 0) C dX3_seatAll_80 rfl ?_
  exact z_sub [0, 1, 2, 3, 4] rfl (s_X3_seatAll_81 C hr hrm th p1 k11 k187 h11 h187 x2 x4 x5 0 m)
set_option maxRecDepth 100000 in
def g_X3_seatAll_11 (th : Nat) (p1 : Int32) (k11 : Int64 → Int32 → MM → Option (Int32 × MM)) (k187 : Int64 → MM → Option (Int32 × MM)) (x2 : Int64) (x4 : Int32) (m : MM) : Option (Int32 × MM) :=
  if 64 ≤ x4 then (some (0, m)) else (chk (m.K th = 4) (ck m (m.R 402 th 0) 23 (fun a3 => chk (inb 0 (m.N a3) = true) (if (lg_cmp (((m.J 23 a3 (Int32.toNatClampNeg 0)) >>> (Int32.toInt64 x4 &&& 63)) &&& 1) 0) = 0 then (g_X3_seatAll_211 th p1 k11 k187 x2 x4 m) else (cal (f_X3_seatAt th 0 x4 m) (fun r3 m4 => if p1 = 1 then (some (1, m4)) else (chk (m4.K th = 4) (cal (f_X3_peaceWith th 0 1 m4) (fun r4 m5 => if p1 ≤ 2 then (g_X3_seatAll_80 th p1 k11 k187 x2 x4 r4 m5) else (if (lg_cmp r4 0) = 0 then (g_X3_seatAll_80 th p1 k11 k187 x2 x4 r4 m5) else (chk (m5.K th = 4) (cal (f_X3_peaceWith th 0 2 m5) (fun r5 m6 => g_X3_seatAll_81 th p1 k11 k187 x2 x4 r4 r5 m6)))))))))))))
set_option maxHeartbeats 4000000 in
set_option maxRecDepth 100000 in
theorem s_X3_seatAll_11 {Γ : GX} {E : EX} (C : Cx Γ E cX3_seatAll RX3 12) (hr : Γ.meth.sig.returnType = (some .boolean)) (hrm : Γ.rm = rmX3_seatAll) (th : Nat) (p1 : Int32) (k11 : Int64 → Int32 → MM → Option (Int32 × MM)) (k187 : Int64 → MM → Option (Int32 × MM)) (h11 : ∀ (x2 : Int64) (x4 : Int32) (m : MM), Sm (QM Γ E emI 0 0) Γ E 12 0 0 11 [(0, va_rf (some th)), (1, .int p1), (2, .long x2), (4, .int x4)] [] m (k11 x2 x4 m)) (h187 : ∀ (x10 : Int64) (m : MM), Sm (QM Γ E emI 0 0) Γ E 12 0 0 187 [(0, va_rf (some th)), (1, .int p1), (10, .long x10)] [] m (k187 x10 m)) (x2 : Int64) (x4 : Int32) (m : MM) : Sm (QM Γ E emI 0 0) Γ E 12 0 0 11 [(0, va_rf (some th)), (1, .int p1), (2, .long x2), (4, .int x4)] [] m (g_X3_seatAll_11 th p1 k11 k187 x2 x4 m) := by
  unfold g_X3_seatAll_11
  refine z_iload C dX3_seatAll_11 3 rfl ?_
  refine z_bipush (v := 64) C dX3_seatAll_13 (by decide) ?_
  refine z_icmp_ge (tgt := 217) C dX3_seatAll_15 (by decide) (fun c8 => ?_) (fun c8 => ?_)
  · refine z_iconst (v := 0) C dX3_seatAll_217 (by decide) ?_
    exact z_zret C hr rfl dX3_seatAll_218
  · refine z_aload_n C dX3_seatAll_18 rfl 0 rfl ?_
    refine z_chk (fun hk6 => ?_)
    refine z_getR C fl_RX3_22 rfl hk6 dX3_seatAll_19 ?_
    refine z_iconst (v := 0) C dX3_seatAll_22 (by decide) ?_
    refine z_ck (fun a3 hr3 hk7 => ?_)
    refine z_chk (fun hj3 => ?_)
    refine z_lald C hr3 hk7 hj3 dX3_seatAll_23 ?_
    refine z_iload C dX3_seatAll_24 3 rfl ?_
    refine z_lshr C dX3_seatAll_26 ?_
    refine z_lconst (v := 1) C dX3_seatAll_27 rfl ?_
    refine z_land C dX3_seatAll_28 ?_
    refine z_lconst (v := 0) C dX3_seatAll_29 rfl ?_
    refine z_lcmp C dX3_seatAll_30 ?_
    refine z_if_ne (tgt := 37) C dX3_seatAll_31 (by decide) (fun c9 => ?_) (fun c9 => ?_)
    · refine z_aload_n C dX3_seatAll_37 rfl 0 rfl ?_
      refine z_iconst (v := 0) C dX3_seatAll_38 (by decide) ?_
      refine z_iload C dX3_seatAll_39 3 rfl ?_
      refine z_cVV [.int 0, .int x4] [] C mv_RX3_65 (fun r0 m0 h0 => M_X3_seatAt _ _ _ _ _ _ _ _ h0) rfl rfl ⟨by rw [hrm]; exact Nat.le_of_ble_eq_true rfl, by rw [hrm]; exact Nat.le_of_ble_eq_true rfl⟩ ⟨by rw [hrm]; exact Nat.le_of_ble_eq_true rfl, by rw [hrm]; exact Nat.le_of_ble_eq_true rfl⟩ rfl hk6 rfl rfl rfl (Nat.le_of_ble_eq_true rfl) dX3_seatAll_41 (fun r3 m4 => ?_)
      refine z_iload_n C dX3_seatAll_44 rfl 1 rfl ?_
      refine z_iconst (v := 1) C dX3_seatAll_45 (by decide) ?_
      refine z_icmp_ne (tgt := 51) C dX3_seatAll_46 (by decide) (fun c10 => ?_) (fun c10 => ?_)
      · refine z_aload_n C dX3_seatAll_51 rfl 0 rfl ?_
        refine z_iconst (v := 0) C dX3_seatAll_52 (by decide) ?_
        refine z_iconst (v := 1) C dX3_seatAll_53 (by decide) ?_
        refine z_chk (fun hk8 => ?_)
        refine z_cVJ [.int 0, .int 1] [] C mv_RX3_125 (fun r0 m0 h0 => M_X3_peaceWith _ _ _ _ _ _ _ _ h0) rfl rfl ⟨by rw [hrm]; exact Nat.le_of_ble_eq_true rfl, by rw [hrm]; exact Nat.le_of_ble_eq_true rfl⟩ ⟨by rw [hrm]; exact Nat.le_of_ble_eq_true rfl, by rw [hrm]; exact Nat.le_of_ble_eq_true rfl⟩ rfl hk8 rfl rfl rfl (Nat.le_of_ble_eq_true rfl) dX3_seatAll_54 (fun r4 m5 => ?_)
        refine z_lstore (i := 5) (L2 := [(5, .long r4), (0, va_rf (some th)), (1, .int p1), (2, .long x2), (4, .int x4)]) C dX3_seatAll_57 (by decide) rfl ?_
        refine z_iload_n C dX3_seatAll_59 rfl 2 rfl ?_
        refine z_iconst (v := 2) C dX3_seatAll_60 (by decide) ?_
        refine z_icmp_le (tgt := 80) C dX3_seatAll_61 (by decide) (fun c11 => ?_) (fun c11 => ?_)
        · exact z_sub [1, 2, 3, 4, 0] rfl (s_X3_seatAll_80 C hr hrm th p1 k11 k187 h11 h187 x2 x4 r4 m5)
        · refine z_lload C dX3_seatAll_64 0 rfl ?_
          refine z_lconst (v := 0) C dX3_seatAll_66 rfl ?_
          refine z_lcmp C dX3_seatAll_67 ?_
          refine z_if_eq (tgt := 80) C dX3_seatAll_68 (by decide) (fun c12 => ?_) (fun c12 => ?_)
          · exact z_sub [1, 2, 3, 4, 0] rfl (s_X3_seatAll_80 C hr hrm th p1 k11 k187 h11 h187 x2 x4 r4 m5)
          · refine z_aload_n C dX3_seatAll_71 rfl 1 rfl ?_
            refine z_iconst (v := 0) C dX3_seatAll_72 (by decide) ?_
            refine z_iconst (v := 2) C dX3_seatAll_73 (by decide) ?_
            refine z_chk (fun hk9 => ?_)
            refine z_cVJ [.int 0, .int 2] [] C mv_RX3_125 (fun r0 m0 h0 => M_X3_peaceWith _ _ _ _ _ _ _ _ h0) rfl rfl ⟨by rw [hrm]; exact Nat.le_of_ble_eq_true rfl, by rw [hrm]; exact Nat.le_of_ble_eq_true rfl⟩ ⟨by rw [hrm]; exact Nat.le_of_ble_eq_true rfl, by rw [hrm]; exact Nat.le_of_ble_eq_true rfl⟩ rfl hk9 rfl rfl rfl (Nat.le_of_ble_eq_true rfl) dX3_seatAll_74 (fun r5 m6 => ?_)
            refine z_goto (tgt := 81) C dX3_seatAll_77 (by decide) ?_
            exact z_sub [1, 2, 3, 4, 0] rfl (s_X3_seatAll_81 C hr hrm th p1 k11 k187 h11 h187 x2 x4 r4 r5 m6)
      · refine z_iconst (v := 1) C dX3_seatAll_49 (by decide) ?_
        exact z_zret C hr rfl dX3_seatAll_50
    · refine z_goto (tgt := 211) C dX3_seatAll_34 (by decide) ?_
      exact z_sub [0, 1, 2, 3] rfl (s_X3_seatAll_211 C hr hrm th p1 k11 k187 h11 h187 x2 x4 m)
def l_X3_seatAll_11 (th : Nat) (p1 : Int32) (k187 : Int64 → MM → Option (Int32 × MM)) : Nat → Int64 → Int32 → MM → Option (Int32 × MM) := lp (fun _ _ _ => none) (fun k11 => g_X3_seatAll_11 th p1 k11 k187)
theorem t_X3_seatAll_11 {Γ : GX} {E : EX} (C : Cx Γ E cX3_seatAll RX3 12) (hr : Γ.meth.sig.returnType = (some .boolean)) (hrm : Γ.rm = rmX3_seatAll) (th : Nat) (p1 : Int32) (k187 : Int64 → MM → Option (Int32 × MM)) (h187 : ∀ (x10 : Int64) (m : MM), Sm (QM Γ E emI 0 0) Γ E 12 0 0 187 [(0, va_rf (some th)), (1, .int p1), (10, .long x10)] [] m (k187 x10 m)) : ∀ (n : Nat) (x2 : Int64) (x4 : Int32) (m : MM), Sm (QM Γ E emI 0 0) Γ E 12 0 0 11 [(0, va_rf (some th)), (1, .int p1), (2, .long x2), (4, .int x4)] [] m (l_X3_seatAll_11 th p1 k187 n x2 x4 m) := by
  intro n
  induction n with
  | zero => intros; exact z_none
  | succ n ih => intro x2 x4 m; exact s_X3_seatAll_11 C hr hrm th p1 (l_X3_seatAll_11 th p1 k187 n) k187 ih h187 x2 x4 m
set_option maxRecDepth 100000 in
def g_X3_seatAll_187 (th : Nat) (p1 : Int32) (x10 : Int64) (m : MM) : Option (Int32 × MM) :=
  cal (f_J13_bitCount_95d88 ((x10 &&& (-x10)) - 1) m) (fun r6 m7 => chk (m7.K th = 4) (cal (f_X3_seatAt th 2 r6 m7) (fun r7 m8 => some (1, m8))))
set_option maxHeartbeats 4000000 in
set_option maxRecDepth 100000 in
theorem s_X3_seatAll_187 {Γ : GX} {E : EX} (C : Cx Γ E cX3_seatAll RX3 12) (hr : Γ.meth.sig.returnType = (some .boolean)) (hrm : Γ.rm = rmX3_seatAll) (th : Nat) (p1 : Int32) (x10 : Int64) (m : MM) : Sm (QM Γ E emI 0 0) Γ E 12 0 0 187 [(0, va_rf (some th)), (1, .int p1), (10, .long x10)] [] m (g_X3_seatAll_187 th p1 x10 m) := by
  unfold g_X3_seatAll_187
  refine z_aload_n C dX3_seatAll_187 rfl 0 rfl ?_
  refine z_iconst (v := 2) C dX3_seatAll_188 (by decide) ?_
  refine z_lload C dX3_seatAll_189 2 rfl ?_
  refine z_lload C dX3_seatAll_191 2 rfl ?_
  refine z_lneg C dX3_seatAll_193 ?_
  refine z_land C dX3_seatAll_194 ?_
  refine z_lconst (v := 1) C dX3_seatAll_195 rfl ?_
  refine z_lsub C dX3_seatAll_196 ?_
  refine z_cSI [.long ((x10 &&& (-x10)) - 1)] [.int 2, va_rf (some th)] C mv_RX3_128 (fun r0 m0 h0 => M_J13_bitCount_95d88 _ _ _ _ _ _ h0) rfl rfl ⟨by rw [hrm]; exact Nat.le_of_ble_eq_true rfl, by rw [hrm]; exact Nat.le_of_ble_eq_true rfl⟩ ⟨by rw [hrm]; exact Nat.le_of_ble_eq_true rfl, by rw [hrm]; exact Nat.le_of_ble_eq_true rfl⟩ rfl rfl (Nat.le_of_ble_eq_true rfl) dX3_seatAll_197 (fun r6 m7 => ?_)
  refine z_chk (fun hk10 => ?_)
  refine z_cVV [.int 2, .int r6] [] C mv_RX3_65 (fun r0 m0 h0 => M_X3_seatAt _ _ _ _ _ _ _ _ h0) rfl rfl ⟨by rw [hrm]; exact Nat.le_of_ble_eq_true rfl, by rw [hrm]; exact Nat.le_of_ble_eq_true rfl⟩ ⟨by rw [hrm]; exact Nat.le_of_ble_eq_true rfl, by rw [hrm]; exact Nat.le_of_ble_eq_true rfl⟩ rfl hk10 rfl rfl rfl (Nat.le_of_ble_eq_true rfl) dX3_seatAll_200 (fun r7 m8 => ?_)
  refine z_iconst (v := 1) C dX3_seatAll_203 (by decide) ?_
  exact z_zret C hr rfl dX3_seatAll_204
set_option maxRecDepth 100000 in
def g_X3_seatAll_0 (th : Nat) (p1 : Int32) (m : MM) : Option (Int32 × MM) :=
  if 0 < p1 then (l_X3_seatAll_11 th p1 (g_X3_seatAll_187 th p1) FU 0 0 m) else (some (1, m))
set_option maxHeartbeats 4000000 in
set_option maxRecDepth 100000 in
theorem s_X3_seatAll_0 {Γ : GX} {E : EX} (C : Cx Γ E cX3_seatAll RX3 12) (hr : Γ.meth.sig.returnType = (some .boolean)) (hrm : Γ.rm = rmX3_seatAll) (th : Nat) (p1 : Int32) (m : MM) : Sm (QM Γ E emI 0 0) Γ E 12 0 0 0 [(0, va_rf (some th)), (1, .int p1)] [] m (g_X3_seatAll_0 th p1 m) := by
  unfold g_X3_seatAll_0
  refine z_iload_n C dX3_seatAll_0 rfl 1 rfl ?_
  refine z_if_gt (tgt := 6) C dX3_seatAll_1 (by decide) (fun c13 => ?_) (fun c13 => ?_)
  · refine z_lconst (v := 0) C dX3_seatAll_6 rfl ?_
    refine z_lstore_n (i := 2) (L2 := [(2, .long 0), (0, va_rf (some th)), (1, .int p1)]) C dX3_seatAll_7 rfl (by decide) rfl ?_
    refine z_iconst (v := 0) C dX3_seatAll_8 (by decide) ?_
    refine z_istore (i := 4) (L2 := [(4, .int 0), (2, .long 0), (0, va_rf (some th)), (1, .int p1)]) C dX3_seatAll_9 (by decide) rfl ?_
    exact z_sub [2, 3, 1, 0] rfl (t_X3_seatAll_11 C hr hrm th p1 (g_X3_seatAll_187 th p1) (s_X3_seatAll_187 C hr hrm th p1) FU 0 0 m)
  · refine z_iconst (v := 1) C dX3_seatAll_4 (by decide) ?_
    exact z_zret C hr rfl dX3_seatAll_5
def f_X3_seatAll (th : Nat) (p1 : Int32) (m : MM) : Option (Int32 × MM) := g_X3_seatAll_0 th p1 m
theorem M_X3_seatAll (l : Launch) (E : EX) (th : Nat) (p1 : Int32) (m : MM) (r : Int32) (m2 : MM) (h : f_X3_seatAll th p1 m = some (r, m2)) : Met l yX3_seatAll (.code yX3_seatAll cX3_seatAll 12 (some .boolean) :: TB) rmX3_seatAll (va_Pc [.ref th, .int p1] (St E m)) (QR E (emI r) m2) 0 0 (AA E) :=
  met_of (em := emI) (plainFor_of_name rfl) (Nat.le_of_ble_eq_true rfl) (L0 := [(0, va_rf (some th)), (1, .int p1)]) rfl (fun Γ _ hrm C hr hn => s_X3_seatAll_0 C hr hrm th p1 m) h

theorem dX3_findPlan_0 : decode cX3_findPlan 0 = .ok (.aload_n 0, 1) := by decide +kernel
theorem dX3_findPlan_1 : decode cX3_findPlan 1 = .ok (.getfield 9, 3) := by decide +kernel
theorem dX3_findPlan_4 : decode cX3_findPlan 4 = .ok (.getfield 49, 3) := by decide +kernel
theorem dX3_findPlan_7 : decode cX3_findPlan 7 = .ok (.astore_n 2, 1) := by decide +kernel
theorem dX3_findPlan_8 : decode cX3_findPlan 8 = .ok (.aload_n 2, 1) := by decide +kernel
theorem dX3_findPlan_9 : decode cX3_findPlan 9 = .ok (.ifnonnull 5, 3) := by decide +kernel
theorem dX3_findPlan_12 : decode cX3_findPlan 12 = .ok (.iconst 0, 1) := by decide +kernel
theorem dX3_findPlan_13 : decode cX3_findPlan 13 = .ok (.ireturn, 1) := by decide +kernel
theorem dX3_findPlan_14 : decode cX3_findPlan 14 = .ok (.aload_n 2, 1) := by decide +kernel
theorem dX3_findPlan_15 : decode cX3_findPlan 15 = .ok (.getfield 87, 3) := by decide +kernel
theorem dX3_findPlan_18 : decode cX3_findPlan 18 = .ok (.astore_n 3, 1) := by decide +kernel
theorem dX3_findPlan_19 : decode cX3_findPlan 19 = .ok (.iconst 0, 1) := by decide +kernel
theorem dX3_findPlan_20 : decode cX3_findPlan 20 = .ok (.istore 4, 2) := by decide +kernel
theorem dX3_findPlan_22 : decode cX3_findPlan 22 = .ok (.iload 4, 2) := by decide +kernel
theorem dX3_findPlan_24 : decode cX3_findPlan 24 = .ok (.aload_n 3, 1) := by decide +kernel
theorem dX3_findPlan_25 : decode cX3_findPlan 25 = .ok (.getfield 91, 3) := by decide +kernel
theorem dX3_findPlan_28 : decode cX3_findPlan 28 = .ok (.if_icmp .ge 67, 3) := by decide +kernel
theorem dX3_findPlan_31 : decode cX3_findPlan 31 = .ok (.iload 4, 2) := by decide +kernel
theorem dX3_findPlan_33 : decode cX3_findPlan 33 = .ok (.aload_n 0, 1) := by decide +kernel
theorem dX3_findPlan_34 : decode cX3_findPlan 34 = .ok (.getfield 22, 3) := by decide +kernel
theorem dX3_findPlan_37 : decode cX3_findPlan 37 = .ok (.arraylength, 1) := by decide +kernel
theorem dX3_findPlan_38 : decode cX3_findPlan 38 = .ok (.if_icmp .ge 57, 3) := by decide +kernel
theorem dX3_findPlan_41 : decode cX3_findPlan 41 = .ok (.aload_n 0, 1) := by decide +kernel
theorem dX3_findPlan_42 : decode cX3_findPlan 42 = .ok (.iload 4, 2) := by decide +kernel
theorem dX3_findPlan_44 : decode cX3_findPlan 44 = .ok (.aload_n 3, 1) := by decide +kernel
theorem dX3_findPlan_45 : decode cX3_findPlan 45 = .ok (.iload 4, 2) := by decide +kernel
theorem dX3_findPlan_47 : decode cX3_findPlan 47 = .ok (.iconst 0, 1) := by decide +kernel
theorem dX3_findPlan_48 : decode cX3_findPlan 48 = .ok (.invokevirtual 96, 3) := by decide +kernel
theorem dX3_findPlan_51 : decode cX3_findPlan 51 = .ok (.aload_n 3, 1) := by decide +kernel
theorem dX3_findPlan_52 : decode cX3_findPlan 52 = .ok (.iload 4, 2) := by decide +kernel
theorem dX3_findPlan_54 : decode cX3_findPlan 54 = .ok (.iconst 1, 1) := by decide +kernel
theorem dX3_findPlan_55 : decode cX3_findPlan 55 = .ok (.invokevirtual 96, 3) := by decide +kernel
theorem dX3_findPlan_58 : decode cX3_findPlan 58 = .ok (.invokevirtual 61, 3) := by decide +kernel
theorem dX3_findPlan_61 : decode cX3_findPlan 61 = .ok (.aload_n 0, 1) := by decide +kernel
theorem dX3_findPlan_62 : decode cX3_findPlan 62 = .ok (.getfield 22, 3) := by decide +kernel
theorem dX3_findPlan_65 : decode cX3_findPlan 65 = .ok (.iload 4, 2) := by decide +kernel
theorem dX3_findPlan_67 : decode cX3_findPlan 67 = .ok (.aload_n 0, 1) := by decide +kernel
theorem dX3_findPlan_68 : decode cX3_findPlan 68 = .ok (.iload 4, 2) := by decide +kernel
theorem dX3_findPlan_70 : decode cX3_findPlan 70 = .ok (.iload_n 1, 1) := by decide +kernel
theorem dX3_findPlan_71 : decode cX3_findPlan 71 = .ok (.ifCond .eq 7, 3) := by decide +kernel
theorem dX3_findPlan_74 : decode cX3_findPlan 74 = .ok (.iconst 0, 1) := by decide +kernel
theorem dX3_findPlan_75 : decode cX3_findPlan 75 = .ok (.goto 10, 3) := by decide +kernel
theorem dX3_findPlan_78 : decode cX3_findPlan 78 = .ok (.aload_n 0, 1) := by decide +kernel
theorem dX3_findPlan_79 : decode cX3_findPlan 79 = .ok (.getfield 9, 3) := by decide +kernel
theorem dX3_findPlan_82 : decode cX3_findPlan 82 = .ok (.getfield 69, 3) := by decide +kernel
theorem dX3_findPlan_85 : decode cX3_findPlan 85 = .ok (.invokevirtual 76, 3) := by decide +kernel
theorem dX3_findPlan_88 : decode cX3_findPlan 88 = .ok (.lastore, 1) := by decide +kernel
theorem dX3_findPlan_89 : decode cX3_findPlan 89 = .ok (.iinc 4 1, 3) := by decide +kernel
theorem dX3_findPlan_92 : decode cX3_findPlan 92 = .ok (.goto (-70), 3) := by decide +kernel
theorem dX3_findPlan_95 : decode cX3_findPlan 95 = .ok (.aload_n 0, 1) := by decide +kernel
theorem dX3_findPlan_96 : decode cX3_findPlan 96 = .ok (.aload_n 3, 1) := by decide +kernel
theorem dX3_findPlan_97 : decode cX3_findPlan 97 = .ok (.getfield 91, 3) := by decide +kernel
theorem dX3_findPlan_100 : decode cX3_findPlan 100 = .ok (.invokevirtual 100, 3) := by decide +kernel
theorem dX3_findPlan_103 : decode cX3_findPlan 103 = .ok (.ireturn, 1) := by decide +kernel
def rmX3_findPlan : Room := { frames := 6, cells := 0, slots := 0, locals := 177 }
set_option maxRecDepth 100000 in
def g_X3_findPlan_85 (th : Nat) (p1 : Int32) (k22 : Option Nat → Int32 → MM → Option (Int32 × MM)) (x3 : Option Nat) (x4 : Int32) (s0 : Option Nat) (s1 : Int32) (s2 : Option Nat) (s3 : Int32) (s4 : Int32) (m : MM) : Option (Int32 × MM) :=
  ck m s2 4 (fun a1 => cal (f_X3_openPoints a1 s3 s4 m) (fun r1 m1 => ck m1 s0 23 (fun a2 => chk (inb s1 (m1.N a2) = true) (bnd (m1.sJ 23 a2 (Int32.toNatClampNeg s1) r1) (fun m2 => k22 x3 (x4 + 1) m2)))))
set_option maxHeartbeats 4000000 in
set_option maxRecDepth 100000 in
theorem s_X3_findPlan_85 {Γ : GX} {E : EX} (C : Cx Γ E cX3_findPlan RX3 5) (hr : Γ.meth.sig.returnType = (some .boolean)) (hrm : Γ.rm = rmX3_findPlan) (th : Nat) (p1 : Int32) (k22 : Option Nat → Int32 → MM → Option (Int32 × MM)) (h22 : ∀ (x3 : Option Nat) (x4 : Int32) (m : MM), Sm (QM Γ E emI 0 0) Γ E 5 0 0 22 [(0, va_rf (some th)), (1, .int p1), (3, va_rf x3), (4, .int x4)] [] m (k22 x3 x4 m)) (x3 : Option Nat) (x4 : Int32) (s0 : Option Nat) (s1 : Int32) (s2 : Option Nat) (s3 : Int32) (s4 : Int32) (m : MM) : Sm (QM Γ E emI 0 0) Γ E 5 0 0 85 [(0, va_rf (some th)), (1, .int p1), (3, va_rf x3), (4, .int x4)] [.int s4, .int s3, va_rf s2, .int s1, va_rf s0] m (g_X3_findPlan_85 th p1 k22 x3 x4 s0 s1 s2 s3 s4 m) := by
  unfold g_X3_findPlan_85
  refine z_ck (fun a1 hr1 hk1 => ?_)
  refine z_cVJ [.int s3, .int s4] [.int s1, va_rf s0] C mv_RX3_76 (fun r0 m0 h0 => M_X3_openPoints _ _ _ _ _ _ _ _ h0) rfl rfl ⟨by rw [hrm]; exact Nat.le_of_ble_eq_true rfl, by rw [hrm]; exact Nat.le_of_ble_eq_true rfl⟩ ⟨by rw [hrm]; exact Nat.le_of_ble_eq_true rfl, by rw [hrm]; exact Nat.le_of_ble_eq_true rfl⟩ hr1 hk1 rfl rfl rfl (by simp [cat_rf, cat_i, cat_l, cat_a]) dX3_findPlan_85 (fun r1 m1 => ?_)
  refine z_ck (fun a2 hr2 hk2 => ?_)
  refine z_chk (fun hj1 => ?_)
  refine z_last C hr2 hk2 hj1 dX3_findPlan_88 (fun m2 eK1 eN1 => ?_)
  refine z_iinc (v := 1) (L2 := [(4, .int (x4 + 1)), (0, va_rf (some th)), (1, .int p1), (3, va_rf x3)]) C dX3_findPlan_89 3 rfl (by decide) (by decide) (by simp [cat_rf, cat_i, cat_l, cat_a]) ?_
  refine z_goto (tgt := 22) C dX3_findPlan_92 (by decide) ?_
  exact z_sub [1, 2, 3, 0] rfl (h22 x3 (x4 + 1) m2)
set_option maxRecDepth 100000 in
def g_X3_findPlan_22 (th : Nat) (p1 : Int32) (k22 : Option Nat → Int32 → MM → Option (Int32 × MM)) (x3 : Option Nat) (x4 : Int32) (m : MM) : Option (Int32 × MM) :=
  ck m x3 7 (fun a3 => if (m.I 703 a3 0) ≤ x4 then (chk (m.K th = 4) (cal (f_X3_seatAll th (m.I 703 a3 0) m) (fun r2 m3 => chk (r2 = 0 ∨ r2 = 1) (some (r2, m3))))) else (chk (m.K th = 4) (ck m (m.R 402 th 0) 23 (fun a4 => if (Int32.ofNat (m.N a4)) ≤ x4 then (cal (f_X3_seatAll th (m.I 703 a3 0) m) (fun r3 m4 => chk (r3 = 0 ∨ r3 = 1) (some (r3, m4)))) else (cal (f_X6_cell a3 x4 0 m) (fun r4 m5 => chk (m5.K a3 = 7) (cal (f_X6_cell a3 x4 1 m5) (fun r5 m6 => chk (m6.K th = 4) (cal (f_X3_welcome th x4 r4 r5 m6) (fun r6 m7 => chk (m7.K th = 4) (if p1 = 0 then (ck m7 (m7.R 400 th 0) 6 (fun a5 => g_X3_findPlan_85 th p1 k22 x3 x4 (m7.R 402 th 0) x4 (some th) x4 (m7.I 605 a5 0) m7)) else (g_X3_findPlan_85 th p1 k22 x3 x4 (m7.R 402 th 0) x4 (some th) x4 0 m7))))))))))))
set_option maxHeartbeats 4000000 in
set_option maxRecDepth 100000 in
theorem s_X3_findPlan_22 {Γ : GX} {E : EX} (C : Cx Γ E cX3_findPlan RX3 5) (hr : Γ.meth.sig.returnType = (some .boolean)) (hrm : Γ.rm = rmX3_findPlan) (th : Nat) (p1 : Int32) (k22 : Option Nat → Int32 → MM → Option (Int32 × MM)) (h22 : ∀ (x3 : Option Nat) (x4 : Int32) (m : MM), Sm (QM Γ E emI 0 0) Γ E 5 0 0 22 [(0, va_rf (some th)), (1, .int p1), (3, va_rf x3), (4, .int x4)] [] m (k22 x3 x4 m)) (x3 : Option Nat) (x4 : Int32) (m : MM) : Sm (QM Γ E emI 0 0) Γ E 5 0 0 22 [(0, va_rf (some th)), (1, .int p1), (3, va_rf x3), (4, .int x4)] [] m (g_X3_findPlan_22 th p1 k22 x3 x4 m) := by
  unfold g_X3_findPlan_22
  refine z_iload C dX3_findPlan_22 3 rfl ?_
  refine z_aload_n C dX3_findPlan_24 rfl 2 rfl ?_
  refine z_ck (fun a3 hr3 hk3 => ?_)
  refine z_getI C fl_RX3_91 hr3 hk3 dX3_findPlan_25 ?_
  refine z_icmp_ge (tgt := 95) C dX3_findPlan_28 (by decide) (fun c1 => ?_) (fun c1 => ?_)
  · refine z_aload_n C dX3_findPlan_95 rfl 0 rfl ?_
    refine z_aload_n C dX3_findPlan_96 rfl 2 rfl ?_
    refine z_getI C fl_RX3_91 hr3 hk3 dX3_findPlan_97 ?_
    refine z_chk (fun hk4 => ?_)
    refine z_cVI [.int (m.I 703 a3 0)] [] C mv_RX3_100 (fun r0 m0 h0 => M_X3_seatAll _ _ _ _ _ _ _ h0) rfl rfl ⟨by rw [hrm]; exact Nat.le_of_ble_eq_true rfl, by rw [hrm]; exact Nat.le_of_ble_eq_true rfl⟩ ⟨by rw [hrm]; exact Nat.le_of_ble_eq_true rfl, by rw [hrm]; exact Nat.le_of_ble_eq_true rfl⟩ rfl hk4 rfl rfl rfl (Nat.le_of_ble_eq_true rfl) dX3_findPlan_100 (fun r2 m3 => ?_)
    refine z_chk (fun hb1 => ?_)
    exact z_zret C hr (nb_of hb1) dX3_findPlan_103
  · refine z_iload C dX3_findPlan_31 3 rfl ?_
    refine z_aload_n C dX3_findPlan_33 rfl 0 rfl ?_
    refine z_chk (fun hk5 => ?_)
    refine z_getR C fl_RX3_22 rfl hk5 dX3_findPlan_34 ?_
    refine z_ck (fun a4 hr4 hk6 => ?_)
    refine z_alen C hr4 hk6 (by decide) (by decide) dX3_findPlan_37 ?_
    refine z_icmp_ge (tgt := 95) C dX3_findPlan_38 (by decide) (fun c2 => ?_) (fun c2 => ?_)
    · refine z_aload_n C dX3_findPlan_95 rfl 0 rfl ?_
      refine z_aload_n C dX3_findPlan_96 rfl 2 rfl ?_
      refine z_getI C fl_RX3_91 hr3 hk3 dX3_findPlan_97 ?_
      refine z_cVI [.int (m.I 703 a3 0)] [] C mv_RX3_100 (fun r0 m0 h0 => M_X3_seatAll _ _ _ _ _ _ _ h0) rfl rfl ⟨by rw [hrm]; exact Nat.le_of_ble_eq_true rfl, by rw [hrm]; exact Nat.le_of_ble_eq_true rfl⟩ ⟨by rw [hrm]; exact Nat.le_of_ble_eq_true rfl, by rw [hrm]; exact Nat.le_of_ble_eq_true rfl⟩ rfl hk5 rfl rfl rfl (Nat.le_of_ble_eq_true rfl) dX3_findPlan_100 (fun r3 m4 => ?_)
      refine z_chk (fun hb2 => ?_)
      exact z_zret C hr (nb_of hb2) dX3_findPlan_103
    · refine z_aload_n C dX3_findPlan_41 rfl 0 rfl ?_
      refine z_iload C dX3_findPlan_42 3 rfl ?_
      refine z_aload_n C dX3_findPlan_44 rfl 2 rfl ?_
      refine z_iload C dX3_findPlan_45 3 rfl ?_
      refine z_iconst (v := 0) C dX3_findPlan_47 (by decide) ?_
      refine z_cVI [.int x4, .int 0] [.int x4, va_rf (some th)] C mv_RX3_96 (fun r0 m0 h0 => M_X6_cell _ _ _ _ _ _ _ _ h0) rfl rfl ⟨by rw [hrm]; exact Nat.le_of_ble_eq_true rfl, by rw [hrm]; exact Nat.le_of_ble_eq_true rfl⟩ ⟨by rw [hrm]; exact Nat.le_of_ble_eq_true rfl, by rw [hrm]; exact Nat.le_of_ble_eq_true rfl⟩ hr3 hk3 rfl rfl rfl (Nat.le_of_ble_eq_true rfl) dX3_findPlan_48 (fun r4 m5 => ?_)
      refine z_aload_n C dX3_findPlan_51 rfl 2 rfl ?_
      refine z_iload C dX3_findPlan_52 3 rfl ?_
      refine z_iconst (v := 1) C dX3_findPlan_54 (by decide) ?_
      refine z_chk (fun hk7 => ?_)
      refine z_cVI [.int x4, .int 1] [.int r4, .int x4, va_rf (some th)] C mv_RX3_96 (fun r0 m0 h0 => M_X6_cell _ _ _ _ _ _ _ _ h0) rfl rfl ⟨by rw [hrm]; exact Nat.le_of_ble_eq_true rfl, by rw [hrm]; exact Nat.le_of_ble_eq_true rfl⟩ ⟨by rw [hrm]; exact Nat.le_of_ble_eq_true rfl, by rw [hrm]; exact Nat.le_of_ble_eq_true rfl⟩ hr3 hk7 rfl rfl rfl (Nat.le_of_ble_eq_true rfl) dX3_findPlan_55 (fun r5 m6 => ?_)
      refine z_chk (fun hk8 => ?_)
      refine z_cVV [.int x4, .int r4, .int r5] [] C mv_RX3_61 (fun r0 m0 h0 => M_X3_welcome _ _ _ _ _ _ _ _ _ h0) rfl rfl ⟨by rw [hrm]; exact Nat.le_of_ble_eq_true rfl, by rw [hrm]; exact Nat.le_of_ble_eq_true rfl⟩ ⟨by rw [hrm]; exact Nat.le_of_ble_eq_true rfl, by rw [hrm]; exact Nat.le_of_ble_eq_true rfl⟩ rfl hk8 rfl rfl rfl (Nat.le_of_ble_eq_true rfl) dX3_findPlan_58 (fun r6 m7 => ?_)
      refine z_aload_n C dX3_findPlan_61 rfl 0 rfl ?_
      refine z_chk (fun hk9 => ?_)
      refine z_getR C fl_RX3_22 rfl hk9 dX3_findPlan_62 ?_
      refine z_iload C dX3_findPlan_65 3 rfl ?_
      refine z_aload_n C dX3_findPlan_67 rfl 0 rfl ?_
      refine z_iload C dX3_findPlan_68 3 rfl ?_
      refine z_iload_n C dX3_findPlan_70 rfl 1 rfl ?_
      refine z_if_eq (tgt := 78) C dX3_findPlan_71 (by decide) (fun c3 => ?_) (fun c3 => ?_)
      · refine z_aload_n C dX3_findPlan_78 rfl 0 rfl ?_
        refine z_getR C fl_RX3_9 rfl hk9 dX3_findPlan_79 ?_
        refine z_ck (fun a5 hr5 hk10 => ?_)
        refine z_getI C fl_RX3_69 hr5 hk10 dX3_findPlan_82 ?_
        exact z_sub [0, 1, 2, 3] rfl (s_X3_findPlan_85 C hr hrm th p1 k22 h22 x3 x4 (m7.R 402 th 0) x4 (some th) x4 (m7.I 605 a5 0) m7)
      · refine z_iconst (v := 0) C dX3_findPlan_74 (by decide) ?_
        refine z_goto (tgt := 85) C dX3_findPlan_75 (by decide) ?_
        exact z_sub [0, 1, 2, 3] rfl (s_X3_findPlan_85 C hr hrm th p1 k22 h22 x3 x4 (m7.R 402 th 0) x4 (some th) x4 0 m7)
def l_X3_findPlan_22 (th : Nat) (p1 : Int32) : Nat → Option Nat → Int32 → MM → Option (Int32 × MM) := lp (fun _ _ _ => none) (fun k22 => g_X3_findPlan_22 th p1 k22)
theorem t_X3_findPlan_22 {Γ : GX} {E : EX} (C : Cx Γ E cX3_findPlan RX3 5) (hr : Γ.meth.sig.returnType = (some .boolean)) (hrm : Γ.rm = rmX3_findPlan) (th : Nat) (p1 : Int32) : ∀ (n : Nat) (x3 : Option Nat) (x4 : Int32) (m : MM), Sm (QM Γ E emI 0 0) Γ E 5 0 0 22 [(0, va_rf (some th)), (1, .int p1), (3, va_rf x3), (4, .int x4)] [] m (l_X3_findPlan_22 th p1 n x3 x4 m) := by
  intro n
  induction n with
  | zero => intros; exact z_none
  | succ n ih => intro x3 x4 m; exact s_X3_findPlan_22 C hr hrm th p1 (l_X3_findPlan_22 th p1 n) ih x3 x4 m
set_option maxRecDepth 100000 in
def g_X3_findPlan_0 (th : Nat) (p1 : Int32) (m : MM) : Option (Int32 × MM) :=
  chk (m.K th = 4) (ck m (m.R 400 th 0) 6 (fun a6 => bnd (m.R 602 a6 0) (fun y1 => ifn y1 (some (0, m)) (fun a7 => chk (m.K a7 = 9) (bnd (m.R 909 a7 0) (fun y2 => l_X3_findPlan_22 th p1 FU y2 0 m))))))
set_option maxHeartbeats 4000000 in
set_option maxRecDepth 100000 in
theorem s_X3_findPlan_0 {Γ : GX} {E : EX} (C : Cx Γ E cX3_findPlan RX3 5) (hr : Γ.meth.sig.returnType = (some .boolean)) (hrm : Γ.rm = rmX3_findPlan) (th : Nat) (p1 : Int32) (m : MM) : Sm (QM Γ E emI 0 0) Γ E 5 0 0 0 [(0, va_rf (some th)), (1, .int p1)] [] m (g_X3_findPlan_0 th p1 m) := by
  unfold g_X3_findPlan_0
  refine z_aload_n C dX3_findPlan_0 rfl 0 rfl ?_
  refine z_chk (fun hk11 => ?_)
  refine z_getR C fl_RX3_9 rfl hk11 dX3_findPlan_1 ?_
  refine z_ck (fun a6 hr6 hk12 => ?_)
  refine z_getR C fl_RX3_49 hr6 hk12 dX3_findPlan_4 ?_
  refine z_bndR (fun y1 => ?_)
  refine z_astore_n (i := 2) (L2 := [(2, va_rf y1), (0, va_rf (some th)), (1, .int p1)]) C dX3_findPlan_7 rfl (by decide) rfl ?_
  refine z_aload_n C dX3_findPlan_8 rfl 0 rfl ?_
  refine z_ifnonnull (tgt := 14) C dX3_findPlan_9 (by decide) (fun a7 ha1 => ?_) (fun hn1 => ?_)
  · refine z_aload_n C dX3_findPlan_14 rfl 0 rfl ?_
    refine z_chk (fun hk13 => ?_)
    refine z_getR C fl_RX3_87 ha1 hk13 dX3_findPlan_15 ?_
    refine z_bndR (fun y2 => ?_)
    refine z_astore_n (i := 3) (L2 := [(3, va_rf y2), (2, va_rf y1), (0, va_rf (some th)), (1, .int p1)]) C dX3_findPlan_18 rfl (by decide) (by simp [cat_rf, cat_i, cat_l, cat_a]) ?_
    refine z_iconst (v := 0) C dX3_findPlan_19 (by decide) ?_
    refine z_istore (i := 4) (L2 := [(4, .int 0), (3, va_rf y2), (2, va_rf y1), (0, va_rf (some th)), (1, .int p1)]) C dX3_findPlan_20 (by decide) (by simp [cat_rf, cat_i, cat_l, cat_a]) ?_
    exact z_sub [3, 4, 1, 0] rfl (t_X3_findPlan_22 C hr hrm th p1 FU y2 0 m)
  · refine z_iconst (v := 0) C dX3_findPlan_12 (by decide) ?_
    exact z_zret C hr rfl dX3_findPlan_13
def f_X3_findPlan (th : Nat) (p1 : Int32) (m : MM) : Option (Int32 × MM) := g_X3_findPlan_0 th p1 m
theorem M_X3_findPlan (l : Launch) (E : EX) (th : Nat) (p1 : Int32) (m : MM) (r : Int32) (m2 : MM) (h : f_X3_findPlan th p1 m = some (r, m2)) : Met l yX3_findPlan (.code yX3_findPlan cX3_findPlan 5 (some .boolean) :: TB) rmX3_findPlan (va_Pc [.ref th, .int p1] (St E m)) (QR E (emI r) m2) 0 0 (AA E) :=
  met_of (em := emI) (plainFor_of_name rfl) (Nat.le_of_ble_eq_true rfl) (L0 := [(0, va_rf (some th)), (1, .int p1)]) rfl (fun Γ _ hrm C hr hn => s_X3_findPlan_0 C hr hrm th p1 m) h

theorem dX3_uproot_0 : decode cX3_uproot 0 = .ok (.aload_n 0, 1) := by decide +kernel
theorem dX3_uproot_1 : decode cX3_uproot 1 = .ok (.getfield 9, 3) := by decide +kernel
theorem dX3_uproot_4 : decode cX3_uproot 4 = .ok (.iload_n 2, 1) := by decide +kernel
theorem dX3_uproot_5 : decode cX3_uproot 5 = .ok (.invokevirtual 80, 3) := by decide +kernel
theorem dX3_uproot_8 : decode cX3_uproot 8 = .ok (.astore_n 3, 1) := by decide +kernel
theorem dX3_uproot_9 : decode cX3_uproot 9 = .ok (.aload_n 3, 1) := by decide +kernel
theorem dX3_uproot_10 : decode cX3_uproot 10 = .ok (.ifnonnull 5, 3) := by decide +kernel
theorem dX3_uproot_13 : decode cX3_uproot 13 = .ok (.lconst 0, 1) := by decide +kernel
theorem dX3_uproot_14 : decode cX3_uproot 14 = .ok (.lreturn, 1) := by decide +kernel
theorem dX3_uproot_15 : decode cX3_uproot 15 = .ok (.aload_n 0, 1) := by decide +kernel
theorem dX3_uproot_16 : decode cX3_uproot 16 = .ok (.iload_n 1, 1) := by decide +kernel
theorem dX3_uproot_17 : decode cX3_uproot 17 = .ok (.aload_n 3, 1) := by decide +kernel
theorem dX3_uproot_18 : decode cX3_uproot 18 = .ok (.getfield 33, 3) := by decide +kernel
theorem dX3_uproot_21 : decode cX3_uproot 21 = .ok (.aload_n 3, 1) := by decide +kernel
theorem dX3_uproot_22 : decode cX3_uproot 22 = .ok (.getfield 37, 3) := by decide +kernel
theorem dX3_uproot_25 : decode cX3_uproot 25 = .ok (.invokevirtual 61, 3) := by decide +kernel
theorem dX3_uproot_28 : decode cX3_uproot 28 = .ok (.lconst 1, 1) := by decide +kernel
theorem dX3_uproot_29 : decode cX3_uproot 29 = .ok (.aload_n 3, 1) := by decide +kernel
theorem dX3_uproot_30 : decode cX3_uproot 30 = .ok (.getfield 46, 3) := by decide +kernel
theorem dX3_uproot_33 : decode cX3_uproot 33 = .ok (.bipush 8, 2) := by decide +kernel
theorem dX3_uproot_35 : decode cX3_uproot 35 = .ok (.imul, 1) := by decide +kernel
theorem dX3_uproot_36 : decode cX3_uproot 36 = .ok (.aload_n 3, 1) := by decide +kernel
theorem dX3_uproot_37 : decode cX3_uproot 37 = .ok (.getfield 43, 3) := by decide +kernel
theorem dX3_uproot_40 : decode cX3_uproot 40 = .ok (.iadd, 1) := by decide +kernel
theorem dX3_uproot_41 : decode cX3_uproot 41 = .ok (.lshl, 1) := by decide +kernel
theorem dX3_uproot_42 : decode cX3_uproot 42 = .ok (.lreturn, 1) := by decide +kernel
def rmX3_uproot : Room := { frames := 2, cells := 0, slots := 0, locals := 45 }
set_option maxRecDepth 100000 in
def g_X3_uproot_0 (th : Nat) (p1 : Int32) (p2 : Int32) (m : MM) : Option (Int64 × MM) :=
  chk (m.K th = 4) (ck m (m.R 400 th 0) 6 (fun a1 => cal (f_X5_body a1 p2 m) (fun r1 m1 => ifn r1 (some (0, m1)) (fun a2 => chk (m1.K a2 = 1) (chk (m1.K th = 4) (cal (f_X3_welcome th p1 (m1.I 100 a2 0) (m1.I 103 a2 0) m1) (fun r2 m2 => chk (m2.K a2 = 1) (some (1 <<< (Int32.toInt64 (((m2.I 102 a2 0) * 8) + (m2.I 101 a2 0)) &&& 63), m2)))))))))
set_option maxHeartbeats 4000000 in
set_option maxRecDepth 100000 in
theorem s_X3_uproot_0 {Γ : GX} {E : EX} (C : Cx Γ E cX3_uproot RX3 4) (hr : Γ.meth.sig.returnType = (some .long)) (hrm : Γ.rm = rmX3_uproot) (th : Nat) (p1 : Int32) (p2 : Int32) (m : MM) : Sm (QM Γ E emJ 0 0) Γ E 4 0 0 0 [(0, va_rf (some th)), (1, .int p1), (2, .int p2)] [] m (g_X3_uproot_0 th p1 p2 m) := by
  unfold g_X3_uproot_0
  refine z_aload_n C dX3_uproot_0 rfl 0 rfl ?_
  refine z_chk (fun hk1 => ?_)
  refine z_getR C fl_RX3_9 rfl hk1 dX3_uproot_1 ?_
  refine z_iload_n C dX3_uproot_4 rfl 2 rfl ?_
  refine z_ck (fun a1 hr1 hk2 => ?_)
  refine z_cVR [.int p2] [] C mv_RX3_80 (fun r0 m0 h0 => M_X5_body _ _ _ _ _ _ _ h0) rfl rfl ⟨by rw [hrm]; exact Nat.le_of_ble_eq_true rfl, by rw [hrm]; exact Nat.le_of_ble_eq_true rfl⟩ ⟨by rw [hrm]; exact Nat.le_of_ble_eq_true rfl, by rw [hrm]; exact Nat.le_of_ble_eq_true rfl⟩ hr1 hk2 rfl rfl rfl (Nat.le_of_ble_eq_true rfl) dX3_uproot_5 (fun r1 m1 => ?_)
  refine z_astore_n (i := 3) (L2 := [(3, va_rf r1), (0, va_rf (some th)), (1, .int p1), (2, .int p2)]) C dX3_uproot_8 rfl (by decide) rfl ?_
  refine z_aload_n C dX3_uproot_9 rfl 0 rfl ?_
  refine z_ifnonnull (tgt := 15) C dX3_uproot_10 (by decide) (fun a2 ha1 => ?_) (fun hn1 => ?_)
  · refine z_aload_n C dX3_uproot_15 rfl 1 rfl ?_
    refine z_iload_n C dX3_uproot_16 rfl 2 rfl ?_
    refine z_aload_n C dX3_uproot_17 rfl 0 rfl ?_
    refine z_chk (fun hk3 => ?_)
    refine z_getI C fl_RX3_33 ha1 hk3 dX3_uproot_18 ?_
    refine z_aload_n C dX3_uproot_21 rfl 0 rfl ?_
    refine z_getI C fl_RX3_37 ha1 hk3 dX3_uproot_22 ?_
    refine z_chk (fun hk4 => ?_)
    refine z_cVV [.int p1, .int (m1.I 100 a2 0), .int (m1.I 103 a2 0)] [] C mv_RX3_61 (fun r0 m0 h0 => M_X3_welcome _ _ _ _ _ _ _ _ _ h0) rfl rfl ⟨by rw [hrm]; exact Nat.le_of_ble_eq_true rfl, by rw [hrm]; exact Nat.le_of_ble_eq_true rfl⟩ ⟨by rw [hrm]; exact Nat.le_of_ble_eq_true rfl, by rw [hrm]; exact Nat.le_of_ble_eq_true rfl⟩ rfl hk4 rfl rfl rfl (Nat.le_of_ble_eq_true rfl) dX3_uproot_25 (fun r2 m2 => ?_)
    refine z_lconst (v := 1) C dX3_uproot_28 rfl ?_
    refine z_aload_n C dX3_uproot_29 rfl 0 rfl ?_
    refine z_chk (fun hk5 => ?_)
    refine z_getI C fl_RX3_46 ha1 hk5 dX3_uproot_30 ?_
    refine z_bipush (v := 8) C dX3_uproot_33 (by decide) ?_
    refine z_imul C dX3_uproot_35 ?_
    refine z_aload_n C dX3_uproot_36 rfl 0 rfl ?_
    refine z_getI C fl_RX3_43 ha1 hk5 dX3_uproot_37 ?_
    refine z_iadd C dX3_uproot_40 ?_
    refine z_lshl C dX3_uproot_41 ?_
    exact z_lret C hr dX3_uproot_42
  · refine z_lconst (v := 0) C dX3_uproot_13 rfl ?_
    exact z_lret C hr dX3_uproot_14
def f_X3_uproot (th : Nat) (p1 : Int32) (p2 : Int32) (m : MM) : Option (Int64 × MM) := g_X3_uproot_0 th p1 p2 m
theorem M_X3_uproot (l : Launch) (E : EX) (th : Nat) (p1 : Int32) (p2 : Int32) (m : MM) (r : Int64) (m2 : MM) (h : f_X3_uproot th p1 p2 m = some (r, m2)) : Met l yX3_uproot (.code yX3_uproot cX3_uproot 4 (some .long) :: TB) rmX3_uproot (va_Pc [.ref th, .int p1, .int p2] (St E m)) (QR E (emJ r) m2) 0 0 (AA E) :=
  met_of (em := emJ) (plainFor_of_name rfl) (Nat.le_of_ble_eq_true rfl) (L0 := [(0, va_rf (some th)), (1, .int p1), (2, .int p2)]) rfl (fun Γ _ hrm C hr hn => s_X3_uproot_0 C hr hrm th p1 p2 m) h

theorem dX3_findMoves_0 : decode cX3_findMoves 0 = .ok (.aload_n 0, 1) := by decide +kernel
theorem dX3_findMoves_1 : decode cX3_findMoves 1 = .ok (.iconst 0, 1) := by decide +kernel
theorem dX3_findMoves_2 : decode cX3_findMoves 2 = .ok (.putfield 104, 3) := by decide +kernel
theorem dX3_findMoves_5 : decode cX3_findMoves 5 = .ok (.aload_n 0, 1) := by decide +kernel
theorem dX3_findMoves_6 : decode cX3_findMoves 6 = .ok (.getfield 9, 3) := by decide +kernel
theorem dX3_findMoves_9 : decode cX3_findMoves 9 = .ok (.invokevirtual 107, 3) := by decide +kernel
theorem dX3_findMoves_12 : decode cX3_findMoves 12 = .ok (.ifCond .ne 5, 3) := by decide +kernel
theorem dX3_findMoves_15 : decode cX3_findMoves 15 = .ok (.iconst 1, 1) := by decide +kernel
theorem dX3_findMoves_16 : decode cX3_findMoves 16 = .ok (.ireturn, 1) := by decide +kernel
theorem dX3_findMoves_17 : decode cX3_findMoves 17 = .ok (.iconst 1, 1) := by decide +kernel
theorem dX3_findMoves_18 : decode cX3_findMoves 18 = .ok (.istore_n 1, 1) := by decide +kernel
theorem dX3_findMoves_19 : decode cX3_findMoves 19 = .ok (.iload_n 1, 1) := by decide +kernel
theorem dX3_findMoves_20 : decode cX3_findMoves 20 = .ok (.iconst 2, 1) := by decide +kernel
theorem dX3_findMoves_21 : decode cX3_findMoves 21 = .ok (.if_icmp .gt 183, 3) := by decide +kernel
theorem dX3_findMoves_24 : decode cX3_findMoves 24 = .ok (.iconst 0, 1) := by decide +kernel
theorem dX3_findMoves_25 : decode cX3_findMoves 25 = .ok (.istore_n 2, 1) := by decide +kernel
theorem dX3_findMoves_26 : decode cX3_findMoves 26 = .ok (.iload_n 2, 1) := by decide +kernel
theorem dX3_findMoves_27 : decode cX3_findMoves 27 = .ok (.bipush 12, 2) := by decide +kernel
theorem dX3_findMoves_29 : decode cX3_findMoves 29 = .ok (.if_icmp .ge 169, 3) := by decide +kernel
theorem dX3_findMoves_32 : decode cX3_findMoves 32 = .ok (.iload_n 2, 1) := by decide +kernel
theorem dX3_findMoves_33 : decode cX3_findMoves 33 = .ok (.istore_n 3, 1) := by decide +kernel
theorem dX3_findMoves_34 : decode cX3_findMoves 34 = .ok (.iload_n 3, 1) := by decide +kernel
theorem dX3_findMoves_35 : decode cX3_findMoves 35 = .ok (.bipush 12, 2) := by decide +kernel
theorem dX3_findMoves_37 : decode cX3_findMoves 37 = .ok (.if_icmp .ge 155, 3) := by decide +kernel
theorem dX3_findMoves_40 : decode cX3_findMoves 40 = .ok (.iconst 1, 1) := by decide +kernel
theorem dX3_findMoves_41 : decode cX3_findMoves 41 = .ok (.iload_n 2, 1) := by decide +kernel
theorem dX3_findMoves_42 : decode cX3_findMoves 42 = .ok (.ishl, 1) := by decide +kernel
theorem dX3_findMoves_43 : decode cX3_findMoves 43 = .ok (.iconst 1, 1) := by decide +kernel
theorem dX3_findMoves_44 : decode cX3_findMoves 44 = .ok (.iload_n 3, 1) := by decide +kernel
theorem dX3_findMoves_45 : decode cX3_findMoves 45 = .ok (.ishl, 1) := by decide +kernel
theorem dX3_findMoves_46 : decode cX3_findMoves 46 = .ok (.ior, 1) := by decide +kernel
theorem dX3_findMoves_47 : decode cX3_findMoves 47 = .ok (.istore 4, 2) := by decide +kernel
theorem dX3_findMoves_49 : decode cX3_findMoves 49 = .ok (.iload 4, 2) := by decide +kernel
theorem dX3_findMoves_51 : decode cX3_findMoves 51 = .ok (.invokestatic 111, 3) := by decide +kernel
theorem dX3_findMoves_54 : decode cX3_findMoves 54 = .ok (.iload_n 1, 1) := by decide +kernel
theorem dX3_findMoves_55 : decode cX3_findMoves 55 = .ok (.if_icmp .ne 22, 3) := by decide +kernel
theorem dX3_findMoves_58 : decode cX3_findMoves 58 = .ok (.iload 4, 2) := by decide +kernel
theorem dX3_findMoves_60 : decode cX3_findMoves 60 = .ok (.aload_n 0, 1) := by decide +kernel
theorem dX3_findMoves_61 : decode cX3_findMoves 61 = .ok (.getfield 9, 3) := by decide +kernel
theorem dX3_findMoves_64 : decode cX3_findMoves 64 = .ok (.getfield 69, 3) := by decide +kernel
theorem dX3_findMoves_67 : decode cX3_findMoves 67 = .ok (.iconst (-1), 1) := by decide +kernel
theorem dX3_findMoves_68 : decode cX3_findMoves 68 = .ok (.ixor, 1) := by decide +kernel
theorem dX3_findMoves_69 : decode cX3_findMoves 69 = .ok (.iand, 1) := by decide +kernel
theorem dX3_findMoves_70 : decode cX3_findMoves 70 = .ok (.ifCond .ne 7, 3) := by decide +kernel
theorem dX3_findMoves_73 : decode cX3_findMoves 73 = .ok (.iconst 1, 1) := by decide +kernel
theorem dX3_findMoves_74 : decode cX3_findMoves 74 = .ok (.goto 4, 3) := by decide +kernel
theorem dX3_findMoves_77 : decode cX3_findMoves 77 = .ok (.iconst 0, 1) := by decide +kernel
theorem dX3_findMoves_78 : decode cX3_findMoves 78 = .ok (.istore 5, 2) := by decide +kernel
theorem dX3_findMoves_80 : decode cX3_findMoves 80 = .ok (.iload 5, 2) := by decide +kernel
theorem dX3_findMoves_82 : decode cX3_findMoves 82 = .ok (.ifCond .eq 104, 3) := by decide +kernel
theorem dX3_findMoves_85 : decode cX3_findMoves 85 = .ok (.aload_n 0, 1) := by decide +kernel
theorem dX3_findMoves_86 : decode cX3_findMoves 86 = .ok (.getfield 9, 3) := by decide +kernel
theorem dX3_findMoves_89 : decode cX3_findMoves 89 = .ok (.iload 4, 2) := by decide +kernel
theorem dX3_findMoves_91 : decode cX3_findMoves 91 = .ok (.invokevirtual 117, 3) := by decide +kernel
theorem dX3_findMoves_94 : decode cX3_findMoves 94 = .ok (.ifCond .ne 6, 3) := by decide +kernel
theorem dX3_findMoves_97 : decode cX3_findMoves 97 = .ok (.goto 89, 3) := by decide +kernel
theorem dX3_findMoves_100 : decode cX3_findMoves 100 = .ok (.aload_n 0, 1) := by decide +kernel
theorem dX3_findMoves_101 : decode cX3_findMoves 101 = .ok (.getfield 9, 3) := by decide +kernel
theorem dX3_findMoves_104 : decode cX3_findMoves 104 = .ok (.getfield 69, 3) := by decide +kernel
theorem dX3_findMoves_107 : decode cX3_findMoves 107 = .ok (.iload 4, 2) := by decide +kernel
theorem dX3_findMoves_109 : decode cX3_findMoves 109 = .ok (.iconst (-1), 1) := by decide +kernel
theorem dX3_findMoves_110 : decode cX3_findMoves 110 = .ok (.ixor, 1) := by decide +kernel
theorem dX3_findMoves_111 : decode cX3_findMoves 111 = .ok (.iand, 1) := by decide +kernel
theorem dX3_findMoves_112 : decode cX3_findMoves 112 = .ok (.istore 6, 2) := by decide +kernel
theorem dX3_findMoves_114 : decode cX3_findMoves 114 = .ok (.aload_n 0, 1) := by decide +kernel
theorem dX3_findMoves_115 : decode cX3_findMoves 115 = .ok (.iconst 0, 1) := by decide +kernel
theorem dX3_findMoves_116 : decode cX3_findMoves 116 = .ok (.iload_n 2, 1) := by decide +kernel
theorem dX3_findMoves_117 : decode cX3_findMoves 117 = .ok (.invokevirtual 120, 3) := by decide +kernel
theorem dX3_findMoves_120 : decode cX3_findMoves 120 = .ok (.lstore 7, 2) := by decide +kernel
theorem dX3_findMoves_122 : decode cX3_findMoves 122 = .ok (.aload_n 0, 1) := by decide +kernel
theorem dX3_findMoves_123 : decode cX3_findMoves 123 = .ok (.getfield 22, 3) := by decide +kernel
theorem dX3_findMoves_126 : decode cX3_findMoves 126 = .ok (.iconst 0, 1) := by decide +kernel
theorem dX3_findMoves_127 : decode cX3_findMoves 127 = .ok (.aload_n 0, 1) := by decide +kernel
theorem dX3_findMoves_128 : decode cX3_findMoves 128 = .ok (.iconst 0, 1) := by decide +kernel
theorem dX3_findMoves_129 : decode cX3_findMoves 129 = .ok (.iload 6, 2) := by decide +kernel
theorem dX3_findMoves_131 : decode cX3_findMoves 131 = .ok (.invokevirtual 76, 3) := by decide +kernel
theorem dX3_findMoves_134 : decode cX3_findMoves 134 = .ok (.lload 7, 2) := by decide +kernel
theorem dX3_findMoves_136 : decode cX3_findMoves 136 = .ok (.ldc2_w 123, 3) := by decide +kernel
theorem dX3_findMoves_139 : decode cX3_findMoves 139 = .ok (.lxor, 1) := by decide +kernel
theorem dX3_findMoves_140 : decode cX3_findMoves 140 = .ok (.land, 1) := by decide +kernel
theorem dX3_findMoves_141 : decode cX3_findMoves 141 = .ok (.lastore, 1) := by decide +kernel
theorem dX3_findMoves_142 : decode cX3_findMoves 142 = .ok (.aload_n 0, 1) := by decide +kernel
theorem dX3_findMoves_143 : decode cX3_findMoves 143 = .ok (.iconst 1, 1) := by decide +kernel
theorem dX3_findMoves_144 : decode cX3_findMoves 144 = .ok (.iload_n 3, 1) := by decide +kernel
theorem dX3_findMoves_145 : decode cX3_findMoves 145 = .ok (.invokevirtual 120, 3) := by decide +kernel
theorem dX3_findMoves_148 : decode cX3_findMoves 148 = .ok (.lstore 7, 2) := by decide +kernel
theorem dX3_findMoves_150 : decode cX3_findMoves 150 = .ok (.aload_n 0, 1) := by decide +kernel
theorem dX3_findMoves_151 : decode cX3_findMoves 151 = .ok (.getfield 22, 3) := by decide +kernel
theorem dX3_findMoves_154 : decode cX3_findMoves 154 = .ok (.iconst 1, 1) := by decide +kernel
theorem dX3_findMoves_155 : decode cX3_findMoves 155 = .ok (.aload_n 0, 1) := by decide +kernel
theorem dX3_findMoves_156 : decode cX3_findMoves 156 = .ok (.iconst 1, 1) := by decide +kernel
theorem dX3_findMoves_157 : decode cX3_findMoves 157 = .ok (.iload 6, 2) := by decide +kernel
theorem dX3_findMoves_159 : decode cX3_findMoves 159 = .ok (.invokevirtual 76, 3) := by decide +kernel
theorem dX3_findMoves_162 : decode cX3_findMoves 162 = .ok (.lload 7, 2) := by decide +kernel
theorem dX3_findMoves_164 : decode cX3_findMoves 164 = .ok (.ldc2_w 123, 3) := by decide +kernel
theorem dX3_findMoves_167 : decode cX3_findMoves 167 = .ok (.lxor, 1) := by decide +kernel
theorem dX3_findMoves_168 : decode cX3_findMoves 168 = .ok (.land, 1) := by decide +kernel
theorem dX3_findMoves_169 : decode cX3_findMoves 169 = .ok (.lastore, 1) := by decide +kernel
theorem dX3_findMoves_170 : decode cX3_findMoves 170 = .ok (.aload_n 0, 1) := by decide +kernel
theorem dX3_findMoves_171 : decode cX3_findMoves 171 = .ok (.iload_n 1, 1) := by decide +kernel
theorem dX3_findMoves_172 : decode cX3_findMoves 172 = .ok (.invokevirtual 100, 3) := by decide +kernel
theorem dX3_findMoves_175 : decode cX3_findMoves 175 = .ok (.ifCond .eq 11, 3) := by decide +kernel
theorem dX3_findMoves_178 : decode cX3_findMoves 178 = .ok (.aload_n 0, 1) := by decide +kernel
theorem dX3_findMoves_179 : decode cX3_findMoves 179 = .ok (.iload 4, 2) := by decide +kernel
theorem dX3_findMoves_181 : decode cX3_findMoves 181 = .ok (.putfield 104, 3) := by decide +kernel
theorem dX3_findMoves_184 : decode cX3_findMoves 184 = .ok (.iconst 1, 1) := by decide +kernel
theorem dX3_findMoves_185 : decode cX3_findMoves 185 = .ok (.ireturn, 1) := by decide +kernel
theorem dX3_findMoves_186 : decode cX3_findMoves 186 = .ok (.iinc 3 1, 3) := by decide +kernel
theorem dX3_findMoves_189 : decode cX3_findMoves 189 = .ok (.goto (-155), 3) := by decide +kernel
theorem dX3_findMoves_192 : decode cX3_findMoves 192 = .ok (.iinc 2 1, 3) := by decide +kernel
theorem dX3_findMoves_195 : decode cX3_findMoves 195 = .ok (.goto (-169), 3) := by decide +kernel
theorem dX3_findMoves_198 : decode cX3_findMoves 198 = .ok (.iinc 1 1, 3) := by decide +kernel
theorem dX3_findMoves_201 : decode cX3_findMoves 201 = .ok (.goto (-182), 3) := by decide +kernel
theorem dX3_findMoves_204 : decode cX3_findMoves 204 = .ok (.iconst 0, 1) := by decide +kernel
theorem dX3_findMoves_205 : decode cX3_findMoves 205 = .ok (.ireturn, 1) := by decide +kernel
def rmX3_findMoves : Room := { frames := 6, cells := 0, slots := 0, locals := 177 }
set_option maxRecDepth 100000 in
def g_X3_findMoves_186 (th : Nat) (k34 : Int32 → Int32 → Int32 → MM → Option (Int32 × MM)) (k192 : Int32 → Int32 → MM → Option (Int32 × MM)) (x1 : Int32) (x2 : Int32) (x3 : Int32) (m : MM) : Option (Int32 × MM) :=
  k34 x1 x2 (x3 + 1) m
set_option maxHeartbeats 4000000 in
set_option maxRecDepth 100000 in
theorem s_X3_findMoves_186 {Γ : GX} {E : EX} (C : Cx Γ E cX3_findMoves RX3 9) (hr : Γ.meth.sig.returnType = (some .boolean)) (hrm : Γ.rm = rmX3_findMoves) (th : Nat) (k34 : Int32 → Int32 → Int32 → MM → Option (Int32 × MM)) (k192 : Int32 → Int32 → MM → Option (Int32 × MM)) (h34 : ∀ (x1 : Int32) (x2 : Int32) (x3 : Int32) (m : MM), Sm (QM Γ E emI 0 0) Γ E 9 0 0 34 [(0, va_rf (some th)), (1, .int x1), (2, .int x2), (3, .int x3)] [] m (k34 x1 x2 x3 m)) (h192 : ∀ (x1 : Int32) (x2 : Int32) (m : MM), Sm (QM Γ E emI 0 0) Γ E 9 0 0 192 [(0, va_rf (some th)), (1, .int x1), (2, .int x2)] [] m (k192 x1 x2 m)) (x1 : Int32) (x2 : Int32) (x3 : Int32) (m : MM) : Sm (QM Γ E emI 0 0) Γ E 9 0 0 186 [(0, va_rf (some th)), (1, .int x1), (2, .int x2), (3, .int x3)] [] m (g_X3_findMoves_186 th k34 k192 x1 x2 x3 m) := by
  unfold g_X3_findMoves_186
  refine z_iinc (v := 1) (L2 := [(3, .int (x3 + 1)), (0, va_rf (some th)), (1, .int x1), (2, .int x2)]) C dX3_findMoves_186 3 rfl (by decide) (by decide) rfl ?_
  refine z_goto (tgt := 34) C dX3_findMoves_189 (by decide) ?_
  exact z_sub [1, 2, 3, 0] rfl (h34 x1 x2 (x3 + 1) m)
set_option maxRecDepth 100000 in
def g_X3_findMoves_78 (th : Nat) (k34 : Int32 → Int32 → Int32 → MM → Option (Int32 × MM)) (k192 : Int32 → Int32 → MM → Option (Int32 × MM)) (x1 : Int32) (x2 : Int32) (x3 : Int32) (x4 : Int32) (s0 : Int32) (m : MM) : Option (Int32 × MM) :=
  if s0 = 0 then (g_X3_findMoves_186 th k34 k192 x1 x2 x3 m) else (chk (m.K th = 4) (ck m (m.R 400 th 0) 6 (fun a1 => cal (f_X5_rids a1 x4 m) (fun r1 m1 => if r1 = 0 then (g_X3_findMoves_186 th k34 k192 x1 x2 x3 m1) else (chk (m1.K th = 4) (ck m1 (m1.R 400 th 0) 6 (fun a2 => bnd ((m1.I 605 a2 0) &&& (x4 ^^^ (-1))) (fun y1 => cal (f_X3_uproot th 0 x2 m1) (fun r2 m2 => chk (m2.K th = 4) (cal (f_X3_openPoints th 0 y1 m2) (fun r3 m3 => ck m3 (m2.R 402 th 0) 23 (fun a3 => chk (inb 0 (m3.N a3) = true) (bnd (m3.sJ 23 a3 (Int32.toNatClampNeg 0) (r3 &&& (r2 ^^^ (-1)))) (fun m4 => chk (m4.K th = 4) (cal (f_X3_uproot th 1 x3 m4) (fun r4 m5 => chk (m5.K th = 4) (cal (f_X3_openPoints th 1 y1 m5) (fun r5 m6 => ck m6 (m5.R 402 th 0) 23 (fun a4 => chk (inb 1 (m6.N a4) = true) (bnd (m6.sJ 23 a4 (Int32.toNatClampNeg 1) (r5 &&& (r4 ^^^ (-1)))) (fun m7 => chk (m7.K th = 4) (cal (f_X3_seatAll th x1 m7) (fun r6 m8 => if r6 = 0 then (g_X3_findMoves_186 th k34 k192 x1 x2 x3 m8) else (chk (m8.K th = 4) (bnd (m8.sI 404 th 0 x4) (fun m9 => some (1, m9)))))))))))))))))))))))))))
set_option maxHeartbeats 4000000 in
set_option maxRecDepth 100000 in
theorem s_X3_findMoves_78 {Γ : GX} {E : EX} (C : Cx Γ E cX3_findMoves RX3 9) (hr : Γ.meth.sig.returnType = (some .boolean)) (hrm : Γ.rm = rmX3_findMoves) (th : Nat) (k34 : Int32 → Int32 → Int32 → MM → Option (Int32 × MM)) (k192 : Int32 → Int32 → MM → Option (Int32 × MM)) (h34 : ∀ (x1 : Int32) (x2 : Int32) (x3 : Int32) (m : MM), Sm (QM Γ E emI 0 0) Γ E 9 0 0 34 [(0, va_rf (some th)), (1, .int x1), (2, .int x2), (3, .int x3)] [] m (k34 x1 x2 x3 m)) (h192 : ∀ (x1 : Int32) (x2 : Int32) (m : MM), Sm (QM Γ E emI 0 0) Γ E 9 0 0 192 [(0, va_rf (some th)), (1, .int x1), (2, .int x2)] [] m (k192 x1 x2 m)) (x1 : Int32) (x2 : Int32) (x3 : Int32) (x4 : Int32) (s0 : Int32) (m : MM) : Sm (QM Γ E emI 0 0) Γ E 9 0 0 78 [(0, va_rf (some th)), (1, .int x1), (2, .int x2), (3, .int x3), (4, .int x4)] [.int s0] m (g_X3_findMoves_78 th k34 k192 x1 x2 x3 x4 s0 m) := by
  unfold g_X3_findMoves_78
  refine z_istore (i := 5) (L2 := [(5, .int s0), (0, va_rf (some th)), (1, .int x1), (2, .int x2), (3, .int x3), (4, .int x4)]) C dX3_findMoves_78 (by decide) rfl ?_
  refine z_iload C dX3_findMoves_80 0 rfl ?_
  refine z_if_eq (tgt := 186) C dX3_findMoves_82 (by decide) (fun c1 => ?_) (fun c1 => ?_)
  · exact z_sub [1, 2, 3, 4] rfl (s_X3_findMoves_186 C hr hrm th k34 k192 h34 h192 x1 x2 x3 m)
  · refine z_aload_n C dX3_findMoves_85 rfl 1 rfl ?_
    refine z_chk (fun hk1 => ?_)
    refine z_getR C fl_RX3_9 rfl hk1 dX3_findMoves_86 ?_
    refine z_iload C dX3_findMoves_89 5 rfl ?_
    refine z_ck (fun a1 hr1 hk2 => ?_)
    refine z_cVI [.int x4] [] C mv_RX3_117 (fun r0 m0 h0 => M_X5_rids _ _ _ _ _ _ _ h0) rfl rfl ⟨by rw [hrm]; exact Nat.le_of_ble_eq_true rfl, by rw [hrm]; exact Nat.le_of_ble_eq_true rfl⟩ ⟨by rw [hrm]; exact Nat.le_of_ble_eq_true rfl, by rw [hrm]; exact Nat.le_of_ble_eq_true rfl⟩ hr1 hk2 rfl rfl rfl (Nat.le_of_ble_eq_true rfl) dX3_findMoves_91 (fun r1 m1 => ?_)
    refine z_if_ne (tgt := 100) C dX3_findMoves_94 (by decide) (fun c2 => ?_) (fun c2 => ?_)
    · refine z_aload_n C dX3_findMoves_100 rfl 1 rfl ?_
      refine z_chk (fun hk3 => ?_)
      refine z_getR C fl_RX3_9 rfl hk3 dX3_findMoves_101 ?_
      refine z_ck (fun a2 hr2 hk4 => ?_)
      refine z_getI C fl_RX3_69 hr2 hk4 dX3_findMoves_104 ?_
      refine z_iload C dX3_findMoves_107 5 rfl ?_
      refine z_iconst (v := (-1)) C dX3_findMoves_109 (by decide) ?_
      refine z_ixor C dX3_findMoves_110 ?_
      refine z_iand C dX3_findMoves_111 ?_
      refine z_bndI (fun y1 => ?_)
      refine z_istore (i := 6) (L2 := [(6, .int y1), (5, .int s0), (0, va_rf (some th)), (1, .int x1), (2, .int x2), (3, .int x3), (4, .int x4)]) C dX3_findMoves_112 (by decide) rfl ?_
      refine z_aload_n C dX3_findMoves_114 rfl 2 rfl ?_
      refine z_iconst (v := 0) C dX3_findMoves_115 (by decide) ?_
      refine z_iload_n C dX3_findMoves_116 rfl 4 rfl ?_
      refine z_cVJ [.int 0, .int x2] [] C mv_RX3_120 (fun r0 m0 h0 => M_X3_uproot _ _ _ _ _ _ _ _ h0) rfl rfl ⟨by rw [hrm]; exact Nat.le_of_ble_eq_true rfl, by rw [hrm]; exact Nat.le_of_ble_eq_true rfl⟩ ⟨by rw [hrm]; exact Nat.le_of_ble_eq_true rfl, by rw [hrm]; exact Nat.le_of_ble_eq_true rfl⟩ rfl hk3 rfl rfl rfl (Nat.le_of_ble_eq_true rfl) dX3_findMoves_117 (fun r2 m2 => ?_)
      refine z_lstore (i := 7) (L2 := [(7, .long r2), (6, .int y1), (5, .int s0), (0, va_rf (some th)), (1, .int x1), (2, .int x2), (3, .int x3), (4, .int x4)]) C dX3_findMoves_120 (by decide) rfl ?_
      refine z_aload_n C dX3_findMoves_122 rfl 3 rfl ?_
      refine z_chk (fun hk5 => ?_)
      refine z_getR C fl_RX3_22 rfl hk5 dX3_findMoves_123 ?_
      refine z_iconst (v := 0) C dX3_findMoves_126 (by decide) ?_
      refine z_aload_n C dX3_findMoves_127 rfl 3 rfl ?_
      refine z_iconst (v := 0) C dX3_findMoves_128 (by decide) ?_
      refine z_iload C dX3_findMoves_129 1 rfl ?_
      refine z_cVJ [.int 0, .int y1] [.int 0, va_rf (m2.R 402 th 0)] C mv_RX3_76 (fun r0 m0 h0 => M_X3_openPoints _ _ _ _ _ _ _ _ h0) rfl rfl ⟨by rw [hrm]; exact Nat.le_of_ble_eq_true rfl, by rw [hrm]; exact Nat.le_of_ble_eq_true rfl⟩ ⟨by rw [hrm]; exact Nat.le_of_ble_eq_true rfl, by rw [hrm]; exact Nat.le_of_ble_eq_true rfl⟩ rfl hk5 rfl rfl rfl (by simp [cat_rf, cat_i, cat_l, cat_a]) dX3_findMoves_131 (fun r3 m3 => ?_)
      refine z_lload C dX3_findMoves_134 0 rfl ?_
      refine z_ldc2 C dX3_findMoves_136 kl_RX3_123 ?_
      refine z_lxor C dX3_findMoves_139 ?_
      refine z_land C dX3_findMoves_140 ?_
      refine z_ck (fun a3 hr3 hk6 => ?_)
      refine z_chk (fun hj1 => ?_)
      refine z_last C hr3 hk6 hj1 dX3_findMoves_141 (fun m4 eK1 eN1 => ?_)
      refine z_aload_n C dX3_findMoves_142 rfl 3 rfl ?_
      refine z_iconst (v := 1) C dX3_findMoves_143 (by decide) ?_
      refine z_iload_n C dX3_findMoves_144 rfl 6 rfl ?_
      refine z_chk (fun hk7 => ?_)
      refine z_cVJ [.int 1, .int x3] [] C mv_RX3_120 (fun r0 m0 h0 => M_X3_uproot _ _ _ _ _ _ _ _ h0) rfl rfl ⟨by rw [hrm]; exact Nat.le_of_ble_eq_true rfl, by rw [hrm]; exact Nat.le_of_ble_eq_true rfl⟩ ⟨by rw [hrm]; exact Nat.le_of_ble_eq_true rfl, by rw [hrm]; exact Nat.le_of_ble_eq_true rfl⟩ rfl hk7 rfl rfl rfl (Nat.le_of_ble_eq_true rfl) dX3_findMoves_145 (fun r4 m5 => ?_)
      refine z_lstore (i := 7) (L2 := [(7, .long r4), (6, .int y1), (5, .int s0), (0, va_rf (some th)), (1, .int x1), (2, .int x2), (3, .int x3), (4, .int x4)]) C dX3_findMoves_148 (by decide) rfl ?_
      refine z_aload_n C dX3_findMoves_150 rfl 3 rfl ?_
      refine z_chk (fun hk8 => ?_)
      refine z_getR C fl_RX3_22 rfl hk8 dX3_findMoves_151 ?_
      refine z_iconst (v := 1) C dX3_findMoves_154 (by decide) ?_
      refine z_aload_n C dX3_findMoves_155 rfl 3 rfl ?_
      refine z_iconst (v := 1) C dX3_findMoves_156 (by decide) ?_
      refine z_iload C dX3_findMoves_157 1 rfl ?_
      refine z_cVJ [.int 1, .int y1] [.int 1, va_rf (m5.R 402 th 0)] C mv_RX3_76 (fun r0 m0 h0 => M_X3_openPoints _ _ _ _ _ _ _ _ h0) rfl rfl ⟨by rw [hrm]; exact Nat.le_of_ble_eq_true rfl, by rw [hrm]; exact Nat.le_of_ble_eq_true rfl⟩ ⟨by rw [hrm]; exact Nat.le_of_ble_eq_true rfl, by rw [hrm]; exact Nat.le_of_ble_eq_true rfl⟩ rfl hk8 rfl rfl rfl (by simp [cat_rf, cat_i, cat_l, cat_a]) dX3_findMoves_159 (fun r5 m6 => ?_)
      refine z_lload C dX3_findMoves_162 0 rfl ?_
      refine z_ldc2 C dX3_findMoves_164 kl_RX3_123 ?_
      refine z_lxor C dX3_findMoves_167 ?_
      refine z_land C dX3_findMoves_168 ?_
      refine z_ck (fun a4 hr4 hk9 => ?_)
      refine z_chk (fun hj2 => ?_)
      refine z_last C hr4 hk9 hj2 dX3_findMoves_169 (fun m7 eK2 eN2 => ?_)
      refine z_aload_n C dX3_findMoves_170 rfl 3 rfl ?_
      refine z_iload_n C dX3_findMoves_171 rfl 4 rfl ?_
      refine z_chk (fun hk10 => ?_)
      refine z_cVI [.int x1] [] C mv_RX3_100 (fun r0 m0 h0 => M_X3_seatAll _ _ _ _ _ _ _ h0) rfl rfl ⟨by rw [hrm]; exact Nat.le_of_ble_eq_true rfl, by rw [hrm]; exact Nat.le_of_ble_eq_true rfl⟩ ⟨by rw [hrm]; exact Nat.le_of_ble_eq_true rfl, by rw [hrm]; exact Nat.le_of_ble_eq_true rfl⟩ rfl hk10 rfl rfl rfl (Nat.le_of_ble_eq_true rfl) dX3_findMoves_172 (fun r6 m8 => ?_)
      refine z_if_eq (tgt := 186) C dX3_findMoves_175 (by decide) (fun c3 => ?_) (fun c3 => ?_)
      · exact z_sub [3, 4, 5, 6] rfl (s_X3_findMoves_186 C hr hrm th k34 k192 h34 h192 x1 x2 x3 m8)
      · refine z_aload_n C dX3_findMoves_178 rfl 3 rfl ?_
        refine z_iload C dX3_findMoves_179 7 rfl ?_
        refine z_chk (fun hk11 => ?_)
        refine z_putI C fl_RX3_104 (fun h => by cases h) rfl hk11 rfl rfl dX3_findMoves_181 (fun m9 eK3 eN3 => ?_)
        refine z_iconst (v := 1) C dX3_findMoves_184 (by decide) ?_
        exact z_zret C hr rfl dX3_findMoves_185
    · refine z_goto (tgt := 186) C dX3_findMoves_97 (by decide) ?_
      exact z_sub [1, 2, 3, 4] rfl (s_X3_findMoves_186 C hr hrm th k34 k192 h34 h192 x1 x2 x3 m1)
set_option maxRecDepth 100000 in
def g_X3_findMoves_77 (th : Nat) (k34 : Int32 → Int32 → Int32 → MM → Option (Int32 × MM)) (k192 : Int32 → Int32 → MM → Option (Int32 × MM)) (x1 : Int32) (x2 : Int32) (x3 : Int32) (x4 : Int32) (m : MM) : Option (Int32 × MM) :=
  g_X3_findMoves_78 th k34 k192 x1 x2 x3 x4 0 m
set_option maxHeartbeats 4000000 in
set_option maxRecDepth 100000 in
theorem s_X3_findMoves_77 {Γ : GX} {E : EX} (C : Cx Γ E cX3_findMoves RX3 9) (hr : Γ.meth.sig.returnType = (some .boolean)) (hrm : Γ.rm = rmX3_findMoves) (th : Nat) (k34 : Int32 → Int32 → Int32 → MM → Option (Int32 × MM)) (k192 : Int32 → Int32 → MM → Option (Int32 × MM)) (h34 : ∀ (x1 : Int32) (x2 : Int32) (x3 : Int32) (m : MM), Sm (QM Γ E emI 0 0) Γ E 9 0 0 34 [(0, va_rf (some th)), (1, .int x1), (2, .int x2), (3, .int x3)] [] m (k34 x1 x2 x3 m)) (h192 : ∀ (x1 : Int32) (x2 : Int32) (m : MM), Sm (QM Γ E emI 0 0) Γ E 9 0 0 192 [(0, va_rf (some th)), (1, .int x1), (2, .int x2)] [] m (k192 x1 x2 m)) (x1 : Int32) (x2 : Int32) (x3 : Int32) (x4 : Int32) (m : MM) : Sm (QM Γ E emI 0 0) Γ E 9 0 0 77 [(0, va_rf (some th)), (1, .int x1), (2, .int x2), (3, .int x3), (4, .int x4)] [] m (g_X3_findMoves_77 th k34 k192 x1 x2 x3 x4 m) := by
  unfold g_X3_findMoves_77
  refine z_iconst (v := 0) C dX3_findMoves_77 (by decide) ?_
  exact z_sub [0, 1, 2, 3, 4] rfl (s_X3_findMoves_78 C hr hrm th k34 k192 h34 h192 x1 x2 x3 x4 0 m)
set_option maxRecDepth 100000 in
def g_X3_findMoves_34 (th : Nat) (k34 : Int32 → Int32 → Int32 → MM → Option (Int32 × MM)) (k192 : Int32 → Int32 → MM → Option (Int32 × MM)) (x1 : Int32) (x2 : Int32) (x3 : Int32) (m : MM) : Option (Int32 × MM) :=
  if 12 ≤ x3 then (k192 x1 x2 m) else (bnd ((1 <<< (x2 &&& 31)) ||| (1 <<< (x3 &&& 31))) (fun y2 => cal (f_J6_bitCount_0f7a4 y2 m) (fun r7 m10 => if r7 = x1 then (chk (m10.K th = 4) (ck m10 (m10.R 400 th 0) 6 (fun a5 => if (y2 &&& ((m10.I 605 a5 0) ^^^ (-1))) = 0 then (g_X3_findMoves_78 th k34 k192 x1 x2 x3 y2 1 m10) else (g_X3_findMoves_77 th k34 k192 x1 x2 x3 y2 m10)))) else (g_X3_findMoves_77 th k34 k192 x1 x2 x3 y2 m10))))
set_option maxHeartbeats 4000000 in
set_option maxRecDepth 100000 in
theorem s_X3_findMoves_34 {Γ : GX} {E : EX} (C : Cx Γ E cX3_findMoves RX3 9) (hr : Γ.meth.sig.returnType = (some .boolean)) (hrm : Γ.rm = rmX3_findMoves) (th : Nat) (k34 : Int32 → Int32 → Int32 → MM → Option (Int32 × MM)) (k192 : Int32 → Int32 → MM → Option (Int32 × MM)) (h34 : ∀ (x1 : Int32) (x2 : Int32) (x3 : Int32) (m : MM), Sm (QM Γ E emI 0 0) Γ E 9 0 0 34 [(0, va_rf (some th)), (1, .int x1), (2, .int x2), (3, .int x3)] [] m (k34 x1 x2 x3 m)) (h192 : ∀ (x1 : Int32) (x2 : Int32) (m : MM), Sm (QM Γ E emI 0 0) Γ E 9 0 0 192 [(0, va_rf (some th)), (1, .int x1), (2, .int x2)] [] m (k192 x1 x2 m)) (x1 : Int32) (x2 : Int32) (x3 : Int32) (m : MM) : Sm (QM Γ E emI 0 0) Γ E 9 0 0 34 [(0, va_rf (some th)), (1, .int x1), (2, .int x2), (3, .int x3)] [] m (g_X3_findMoves_34 th k34 k192 x1 x2 x3 m) := by
  unfold g_X3_findMoves_34
  refine z_iload_n C dX3_findMoves_34 rfl 3 rfl ?_
  refine z_bipush (v := 12) C dX3_findMoves_35 (by decide) ?_
  refine z_icmp_ge (tgt := 192) C dX3_findMoves_37 (by decide) (fun c4 => ?_) (fun c4 => ?_)
  · exact z_sub [0, 1, 2] rfl (h192 x1 x2 m)
  · refine z_iconst (v := 1) C dX3_findMoves_40 (by decide) ?_
    refine z_iload_n C dX3_findMoves_41 rfl 2 rfl ?_
    refine z_ishl C dX3_findMoves_42 ?_
    refine z_iconst (v := 1) C dX3_findMoves_43 (by decide) ?_
    refine z_iload_n C dX3_findMoves_44 rfl 3 rfl ?_
    refine z_ishl C dX3_findMoves_45 ?_
    refine z_ior C dX3_findMoves_46 ?_
    refine z_bndI (fun y2 => ?_)
    refine z_istore (i := 4) (L2 := [(4, .int y2), (0, va_rf (some th)), (1, .int x1), (2, .int x2), (3, .int x3)]) C dX3_findMoves_47 (by decide) rfl ?_
    refine z_iload C dX3_findMoves_49 0 rfl ?_
    refine z_cSI [.int y2] [] C mv_RX3_111 (fun r0 m0 h0 => M_J6_bitCount_0f7a4 _ _ _ _ _ _ h0) rfl rfl ⟨by rw [hrm]; exact Nat.le_of_ble_eq_true rfl, by rw [hrm]; exact Nat.le_of_ble_eq_true rfl⟩ ⟨by rw [hrm]; exact Nat.le_of_ble_eq_true rfl, by rw [hrm]; exact Nat.le_of_ble_eq_true rfl⟩ rfl rfl (Nat.le_of_ble_eq_true rfl) dX3_findMoves_51 (fun r7 m10 => ?_)
    refine z_iload_n C dX3_findMoves_54 rfl 2 rfl ?_
    refine z_icmp_ne (tgt := 77) C dX3_findMoves_55 (by decide) (fun c5 => ?_) (fun c5 => ?_)
    · exact z_sub [1, 2, 3, 4, 0] rfl (s_X3_findMoves_77 C hr hrm th k34 k192 h34 h192 x1 x2 x3 y2 m10)
    · refine z_iload C dX3_findMoves_58 0 rfl ?_
      refine z_aload_n C dX3_findMoves_60 rfl 1 rfl ?_
      refine z_chk (fun hk12 => ?_)
      refine z_getR C fl_RX3_9 rfl hk12 dX3_findMoves_61 ?_
      refine z_ck (fun a5 hr5 hk13 => ?_)
      refine z_getI C fl_RX3_69 hr5 hk13 dX3_findMoves_64 ?_
      refine z_iconst (v := (-1)) C dX3_findMoves_67 (by decide) ?_
      refine z_ixor C dX3_findMoves_68 ?_
      refine z_iand C dX3_findMoves_69 ?_
      refine z_if_ne (tgt := 77) C dX3_findMoves_70 (by decide) (fun c6 => ?_) (fun c6 => ?_)
      · exact z_sub [1, 2, 3, 4, 0] rfl (s_X3_findMoves_77 C hr hrm th k34 k192 h34 h192 x1 x2 x3 y2 m10)
      · refine z_iconst (v := 1) C dX3_findMoves_73 (by decide) ?_
        refine z_goto (tgt := 78) C dX3_findMoves_74 (by decide) ?_
        exact z_sub [1, 2, 3, 4, 0] rfl (s_X3_findMoves_78 C hr hrm th k34 k192 h34 h192 x1 x2 x3 y2 1 m10)
def l_X3_findMoves_34 (th : Nat) (k192 : Int32 → Int32 → MM → Option (Int32 × MM)) : Nat → Int32 → Int32 → Int32 → MM → Option (Int32 × MM) := lp (fun _ _ _ _ => none) (fun k34 => g_X3_findMoves_34 th k34 k192)
theorem t_X3_findMoves_34 {Γ : GX} {E : EX} (C : Cx Γ E cX3_findMoves RX3 9) (hr : Γ.meth.sig.returnType = (some .boolean)) (hrm : Γ.rm = rmX3_findMoves) (th : Nat) (k192 : Int32 → Int32 → MM → Option (Int32 × MM)) (h192 : ∀ (x1 : Int32) (x2 : Int32) (m : MM), Sm (QM Γ E emI 0 0) Γ E 9 0 0 192 [(0, va_rf (some th)), (1, .int x1), (2, .int x2)] [] m (k192 x1 x2 m)) : ∀ (n : Nat) (x1 : Int32) (x2 : Int32) (x3 : Int32) (m : MM), Sm (QM Γ E emI 0 0) Γ E 9 0 0 34 [(0, va_rf (some th)), (1, .int x1), (2, .int x2), (3, .int x3)] [] m (l_X3_findMoves_34 th k192 n x1 x2 x3 m) := by
  intro n
  induction n with
  | zero => intros; exact z_none
  | succ n ih => intro x1 x2 x3 m; exact s_X3_findMoves_34 C hr hrm th (l_X3_findMoves_34 th k192 n) k192 ih h192 x1 x2 x3 m
set_option maxRecDepth 100000 in
def g_X3_findMoves_192 (th : Nat) (k26 : Int32 → Int32 → MM → Option (Int32 × MM)) (k198 : Int32 → MM → Option (Int32 × MM)) (x1 : Int32) (x2 : Int32) (m : MM) : Option (Int32 × MM) :=
  k26 x1 (x2 + 1) m
set_option maxHeartbeats 4000000 in
set_option maxRecDepth 100000 in
theorem s_X3_findMoves_192 {Γ : GX} {E : EX} (C : Cx Γ E cX3_findMoves RX3 9) (hr : Γ.meth.sig.returnType = (some .boolean)) (hrm : Γ.rm = rmX3_findMoves) (th : Nat) (k26 : Int32 → Int32 → MM → Option (Int32 × MM)) (k198 : Int32 → MM → Option (Int32 × MM)) (h26 : ∀ (x1 : Int32) (x2 : Int32) (m : MM), Sm (QM Γ E emI 0 0) Γ E 9 0 0 26 [(0, va_rf (some th)), (1, .int x1), (2, .int x2)] [] m (k26 x1 x2 m)) (h198 : ∀ (x1 : Int32) (m : MM), Sm (QM Γ E emI 0 0) Γ E 9 0 0 198 [(0, va_rf (some th)), (1, .int x1)] [] m (k198 x1 m)) (x1 : Int32) (x2 : Int32) (m : MM) : Sm (QM Γ E emI 0 0) Γ E 9 0 0 192 [(0, va_rf (some th)), (1, .int x1), (2, .int x2)] [] m (g_X3_findMoves_192 th k26 k198 x1 x2 m) := by
  unfold g_X3_findMoves_192
  refine z_iinc (v := 1) (L2 := [(2, .int (x2 + 1)), (0, va_rf (some th)), (1, .int x1)]) C dX3_findMoves_192 2 rfl (by decide) (by decide) rfl ?_
  refine z_goto (tgt := 26) C dX3_findMoves_195 (by decide) ?_
  exact z_sub [1, 2, 0] rfl (h26 x1 (x2 + 1) m)
set_option maxRecDepth 100000 in
def g_X3_findMoves_26 (th : Nat) (k26 : Int32 → Int32 → MM → Option (Int32 × MM)) (k198 : Int32 → MM → Option (Int32 × MM)) (x1 : Int32) (x2 : Int32) (m : MM) : Option (Int32 × MM) :=
  if 12 ≤ x2 then (k198 x1 m) else (l_X3_findMoves_34 th (g_X3_findMoves_192 th k26 k198) FU x1 x2 x2 m)
set_option maxHeartbeats 4000000 in
set_option maxRecDepth 100000 in
theorem s_X3_findMoves_26 {Γ : GX} {E : EX} (C : Cx Γ E cX3_findMoves RX3 9) (hr : Γ.meth.sig.returnType = (some .boolean)) (hrm : Γ.rm = rmX3_findMoves) (th : Nat) (k26 : Int32 → Int32 → MM → Option (Int32 × MM)) (k198 : Int32 → MM → Option (Int32 × MM)) (h26 : ∀ (x1 : Int32) (x2 : Int32) (m : MM), Sm (QM Γ E emI 0 0) Γ E 9 0 0 26 [(0, va_rf (some th)), (1, .int x1), (2, .int x2)] [] m (k26 x1 x2 m)) (h198 : ∀ (x1 : Int32) (m : MM), Sm (QM Γ E emI 0 0) Γ E 9 0 0 198 [(0, va_rf (some th)), (1, .int x1)] [] m (k198 x1 m)) (x1 : Int32) (x2 : Int32) (m : MM) : Sm (QM Γ E emI 0 0) Γ E 9 0 0 26 [(0, va_rf (some th)), (1, .int x1), (2, .int x2)] [] m (g_X3_findMoves_26 th k26 k198 x1 x2 m) := by
  unfold g_X3_findMoves_26
  refine z_iload_n C dX3_findMoves_26 rfl 2 rfl ?_
  refine z_bipush (v := 12) C dX3_findMoves_27 (by decide) ?_
  refine z_icmp_ge (tgt := 198) C dX3_findMoves_29 (by decide) (fun c7 => ?_) (fun c7 => ?_)
  · exact z_sub [0, 1] rfl (h198 x1 m)
  · refine z_iload_n C dX3_findMoves_32 rfl 2 rfl ?_
    refine z_istore_n (i := 3) (L2 := [(3, .int x2), (0, va_rf (some th)), (1, .int x1), (2, .int x2)]) C dX3_findMoves_33 rfl (by decide) rfl ?_
    exact z_sub [1, 2, 3, 0] rfl (t_X3_findMoves_34 C hr hrm th (g_X3_findMoves_192 th k26 k198) (s_X3_findMoves_192 C hr hrm th k26 k198 h26 h198) FU x1 x2 x2 m)
def l_X3_findMoves_26 (th : Nat) (k198 : Int32 → MM → Option (Int32 × MM)) : Nat → Int32 → Int32 → MM → Option (Int32 × MM) := lp (fun _ _ _ => none) (fun k26 => g_X3_findMoves_26 th k26 k198)
theorem t_X3_findMoves_26 {Γ : GX} {E : EX} (C : Cx Γ E cX3_findMoves RX3 9) (hr : Γ.meth.sig.returnType = (some .boolean)) (hrm : Γ.rm = rmX3_findMoves) (th : Nat) (k198 : Int32 → MM → Option (Int32 × MM)) (h198 : ∀ (x1 : Int32) (m : MM), Sm (QM Γ E emI 0 0) Γ E 9 0 0 198 [(0, va_rf (some th)), (1, .int x1)] [] m (k198 x1 m)) : ∀ (n : Nat) (x1 : Int32) (x2 : Int32) (m : MM), Sm (QM Γ E emI 0 0) Γ E 9 0 0 26 [(0, va_rf (some th)), (1, .int x1), (2, .int x2)] [] m (l_X3_findMoves_26 th k198 n x1 x2 m) := by
  intro n
  induction n with
  | zero => intros; exact z_none
  | succ n ih => intro x1 x2 m; exact s_X3_findMoves_26 C hr hrm th (l_X3_findMoves_26 th k198 n) k198 ih h198 x1 x2 m
set_option maxRecDepth 100000 in
def g_X3_findMoves_198 (th : Nat) (k19 : Int32 → MM → Option (Int32 × MM)) (x1 : Int32) (m : MM) : Option (Int32 × MM) :=
  k19 (x1 + 1) m
set_option maxHeartbeats 4000000 in
set_option maxRecDepth 100000 in
theorem s_X3_findMoves_198 {Γ : GX} {E : EX} (C : Cx Γ E cX3_findMoves RX3 9) (hr : Γ.meth.sig.returnType = (some .boolean)) (hrm : Γ.rm = rmX3_findMoves) (th : Nat) (k19 : Int32 → MM → Option (Int32 × MM)) (h19 : ∀ (x1 : Int32) (m : MM), Sm (QM Γ E emI 0 0) Γ E 9 0 0 19 [(0, va_rf (some th)), (1, .int x1)] [] m (k19 x1 m)) (x1 : Int32) (m : MM) : Sm (QM Γ E emI 0 0) Γ E 9 0 0 198 [(0, va_rf (some th)), (1, .int x1)] [] m (g_X3_findMoves_198 th k19 x1 m) := by
  unfold g_X3_findMoves_198
  refine z_iinc (v := 1) (L2 := [(1, .int (x1 + 1)), (0, va_rf (some th))]) C dX3_findMoves_198 1 rfl (by decide) (by decide) rfl ?_
  refine z_goto (tgt := 19) C dX3_findMoves_201 (by decide) ?_
  exact z_sub [1, 0] rfl (h19 (x1 + 1) m)
set_option maxRecDepth 100000 in
def g_X3_findMoves_19 (th : Nat) (k19 : Int32 → MM → Option (Int32 × MM)) (x1 : Int32) (m : MM) : Option (Int32 × MM) :=
  if 2 < x1 then (some (0, m)) else (l_X3_findMoves_26 th (g_X3_findMoves_198 th k19) FU x1 0 m)
set_option maxHeartbeats 4000000 in
set_option maxRecDepth 100000 in
theorem s_X3_findMoves_19 {Γ : GX} {E : EX} (C : Cx Γ E cX3_findMoves RX3 9) (hr : Γ.meth.sig.returnType = (some .boolean)) (hrm : Γ.rm = rmX3_findMoves) (th : Nat) (k19 : Int32 → MM → Option (Int32 × MM)) (h19 : ∀ (x1 : Int32) (m : MM), Sm (QM Γ E emI 0 0) Γ E 9 0 0 19 [(0, va_rf (some th)), (1, .int x1)] [] m (k19 x1 m)) (x1 : Int32) (m : MM) : Sm (QM Γ E emI 0 0) Γ E 9 0 0 19 [(0, va_rf (some th)), (1, .int x1)] [] m (g_X3_findMoves_19 th k19 x1 m) := by
  unfold g_X3_findMoves_19
  refine z_iload_n C dX3_findMoves_19 rfl 1 rfl ?_
  refine z_iconst (v := 2) C dX3_findMoves_20 (by decide) ?_
  refine z_icmp_gt (tgt := 204) C dX3_findMoves_21 (by decide) (fun c8 => ?_) (fun c8 => ?_)
  · refine z_iconst (v := 0) C dX3_findMoves_204 (by decide) ?_
    exact z_zret C hr rfl dX3_findMoves_205
  · refine z_iconst (v := 0) C dX3_findMoves_24 (by decide) ?_
    refine z_istore_n (i := 2) (L2 := [(2, .int 0), (0, va_rf (some th)), (1, .int x1)]) C dX3_findMoves_25 rfl (by decide) rfl ?_
    exact z_sub [1, 2, 0] rfl (t_X3_findMoves_26 C hr hrm th (g_X3_findMoves_198 th k19) (s_X3_findMoves_198 C hr hrm th k19 h19) FU x1 0 m)
def l_X3_findMoves_19 (th : Nat) : Nat → Int32 → MM → Option (Int32 × MM) := lp (fun _ _ => none) (fun k19 => g_X3_findMoves_19 th k19)
theorem t_X3_findMoves_19 {Γ : GX} {E : EX} (C : Cx Γ E cX3_findMoves RX3 9) (hr : Γ.meth.sig.returnType = (some .boolean)) (hrm : Γ.rm = rmX3_findMoves) (th : Nat) : ∀ (n : Nat) (x1 : Int32) (m : MM), Sm (QM Γ E emI 0 0) Γ E 9 0 0 19 [(0, va_rf (some th)), (1, .int x1)] [] m (l_X3_findMoves_19 th n x1 m) := by
  intro n
  induction n with
  | zero => intros; exact z_none
  | succ n ih => intro x1 m; exact s_X3_findMoves_19 C hr hrm th (l_X3_findMoves_19 th n) ih x1 m
set_option maxRecDepth 100000 in
def g_X3_findMoves_0 (th : Nat) (m : MM) : Option (Int32 × MM) :=
  chk (m.K th = 4) (bnd (m.sI 404 th 0 0) (fun m11 => ck m11 (m11.R 400 th 0) 6 (fun a6 => cal (f_X5_findFoes a6 m11) (fun r8 m12 => if r8 = 0 then (some (1, m12)) else (l_X3_findMoves_19 th FU 1 m12)))))
set_option maxHeartbeats 4000000 in
set_option maxRecDepth 100000 in
theorem s_X3_findMoves_0 {Γ : GX} {E : EX} (C : Cx Γ E cX3_findMoves RX3 9) (hr : Γ.meth.sig.returnType = (some .boolean)) (hrm : Γ.rm = rmX3_findMoves) (th : Nat) (m : MM) : Sm (QM Γ E emI 0 0) Γ E 9 0 0 0 [(0, va_rf (some th))] [] m (g_X3_findMoves_0 th m) := by
  unfold g_X3_findMoves_0
  refine z_aload_n C dX3_findMoves_0 rfl 0 rfl ?_
  refine z_iconst (v := 0) C dX3_findMoves_1 (by decide) ?_
  refine z_chk (fun hk14 => ?_)
  refine z_putI C fl_RX3_104 (fun h => by cases h) rfl hk14 rfl rfl dX3_findMoves_2 (fun m11 eK4 eN4 => ?_)
  refine z_aload_n C dX3_findMoves_5 rfl 0 rfl ?_
  refine z_getR C fl_RX3_9 rfl (kfw eK4 hk14) dX3_findMoves_6 ?_
  refine z_ck (fun a6 hr6 hk15 => ?_)
  refine z_cVI [] [] C mv_RX3_107 (fun r0 m0 h0 => M_X5_findFoes _ _ _ _ _ _ h0) rfl rfl ⟨by rw [hrm]; exact Nat.le_of_ble_eq_true rfl, by rw [hrm]; exact Nat.le_of_ble_eq_true rfl⟩ ⟨by rw [hrm]; exact Nat.le_of_ble_eq_true rfl, by rw [hrm]; exact Nat.le_of_ble_eq_true rfl⟩ hr6 hk15 rfl rfl rfl (Nat.le_of_ble_eq_true rfl) dX3_findMoves_9 (fun r8 m12 => ?_)
  refine z_if_ne (tgt := 17) C dX3_findMoves_12 (by decide) (fun c9 => ?_) (fun c9 => ?_)
  · refine z_iconst (v := 1) C dX3_findMoves_17 (by decide) ?_
    refine z_istore_n (i := 1) (L2 := [(1, .int 1), (0, va_rf (some th))]) C dX3_findMoves_18 rfl (by decide) rfl ?_
    exact z_sub [1, 0] rfl (t_X3_findMoves_19 C hr hrm th FU 1 m12)
  · refine z_iconst (v := 1) C dX3_findMoves_15 (by decide) ?_
    exact z_zret C hr rfl dX3_findMoves_16
def f_X3_findMoves (th : Nat) (m : MM) : Option (Int32 × MM) := g_X3_findMoves_0 th m
theorem M_X3_findMoves (l : Launch) (E : EX) (th : Nat) (m : MM) (r : Int32) (m2 : MM) (h : f_X3_findMoves th m = some (r, m2)) : Met l yX3_findMoves (.code yX3_findMoves cX3_findMoves 9 (some .boolean) :: TB) rmX3_findMoves (va_Pc [.ref th] (St E m)) (QR E (emI r) m2) 0 0 (AA E) :=
  met_of (em := emI) (plainFor_of_name rfl) (Nat.le_of_ble_eq_true rfl) (L0 := [(0, va_rf (some th))]) rfl (fun Γ _ hrm C hr hn => s_X3_findMoves_0 C hr hrm th m) h
