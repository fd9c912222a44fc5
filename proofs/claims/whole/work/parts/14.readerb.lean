theorem dX4_readCost_0 : decode cX4_readCost 0 = .ok (.aload_n 0, 1) := by decide +kernel
theorem dX4_readCost_1 : decode cX4_readCost 1 = .ok (.invokevirtual 76, 3) := by decide +kernel
theorem dX4_readCost_4 : decode cX4_readCost 4 = .ok (.aload_n 0, 1) := by decide +kernel
theorem dX4_readCost_5 : decode cX4_readCost 5 = .ok (.iconst 0, 1) := by decide +kernel
theorem dX4_readCost_6 : decode cX4_readCost 6 = .ok (.iconst 2, 1) := by decide +kernel
theorem dX4_readCost_7 : decode cX4_readCost 7 = .ok (.invokevirtual 85, 3) := by decide +kernel
theorem dX4_readCost_10 : decode cX4_readCost 10 = .ok (.ifCond .eq 10, 3) := by decide +kernel
theorem dX4_readCost_13 : decode cX4_readCost 13 = .ok (.aload_n 0, 1) := by decide +kernel
theorem dX4_readCost_14 : decode cX4_readCost 14 = .ok (.invokevirtual 89, 3) := by decide +kernel
theorem dX4_readCost_17 : decode cX4_readCost 17 = .ok (.ifCond .ne 4, 3) := by decide +kernel
theorem dX4_readCost_20 : decode cX4_readCost 20 = .ok (.return_, 1) := by decide +kernel
theorem dX4_readCost_21 : decode cX4_readCost 21 = .ok (.aload_n 0, 1) := by decide +kernel
theorem dX4_readCost_22 : decode cX4_readCost 22 = .ok (.iconst 0, 1) := by decide +kernel
theorem dX4_readCost_23 : decode cX4_readCost 23 = .ok (.iconst 0, 1) := by decide +kernel
theorem dX4_readCost_24 : decode cX4_readCost 24 = .ok (.aload_n 0, 1) := by decide +kernel
theorem dX4_readCost_25 : decode cX4_readCost 25 = .ok (.getfield 12, 3) := by decide +kernel
theorem dX4_readCost_28 : decode cX4_readCost 28 = .ok (.getfield 166, 3) := by decide +kernel
theorem dX4_readCost_31 : decode cX4_readCost 31 = .ok (.getfield 221, 3) := by decide +kernel
theorem dX4_readCost_34 : decode cX4_readCost 34 = .ok (.iconst 1, 1) := by decide +kernel
theorem dX4_readCost_35 : decode cX4_readCost 35 = .ok (.isub, 1) := by decide +kernel
theorem dX4_readCost_36 : decode cX4_readCost 36 = .ok (.invokevirtual 93, 3) := by decide +kernel
theorem dX4_readCost_39 : decode cX4_readCost 39 = .ok (.aload_n 0, 1) := by decide +kernel
theorem dX4_readCost_40 : decode cX4_readCost 40 = .ok (.iconst 1, 1) := by decide +kernel
theorem dX4_readCost_41 : decode cX4_readCost 41 = .ok (.iconst 0, 1) := by decide +kernel
theorem dX4_readCost_42 : decode cX4_readCost 42 = .ok (.bipush 99, 2) := by decide +kernel
theorem dX4_readCost_44 : decode cX4_readCost 44 = .ok (.invokevirtual 93, 3) := by decide +kernel
theorem dX4_readCost_47 : decode cX4_readCost 47 = .ok (.aload_n 0, 1) := by decide +kernel
theorem dX4_readCost_48 : decode cX4_readCost 48 = .ok (.getfield 42, 3) := by decide +kernel
theorem dX4_readCost_51 : decode cX4_readCost 51 = .ok (.ifCond .ne 25, 3) := by decide +kernel
theorem dX4_readCost_54 : decode cX4_readCost 54 = .ok (.aload_n 0, 1) := by decide +kernel
theorem dX4_readCost_55 : decode cX4_readCost 55 = .ok (.getfield 12, 3) := by decide +kernel
theorem dX4_readCost_58 : decode cX4_readCost 58 = .ok (.getfield 166, 3) := by decide +kernel
theorem dX4_readCost_61 : decode cX4_readCost 61 = .ok (.aload_n 0, 1) := by decide +kernel
theorem dX4_readCost_62 : decode cX4_readCost 62 = .ok (.iconst 0, 1) := by decide +kernel
theorem dX4_readCost_63 : decode cX4_readCost 63 = .ok (.invokevirtual 97, 3) := by decide +kernel
theorem dX4_readCost_66 : decode cX4_readCost 66 = .ok (.bipush 6, 2) := by decide +kernel
theorem dX4_readCost_68 : decode cX4_readCost 68 = .ok (.aload_n 0, 1) := by decide +kernel
theorem dX4_readCost_69 : decode cX4_readCost 69 = .ok (.iconst 1, 1) := by decide +kernel
theorem dX4_readCost_70 : decode cX4_readCost 70 = .ok (.invokevirtual 97, 3) := by decide +kernel
theorem dX4_readCost_73 : decode cX4_readCost 73 = .ok (.invokevirtual 223, 3) := by decide +kernel
theorem dX4_readCost_76 : decode cX4_readCost 76 = .ok (.return_, 1) := by decide +kernel
def rmX4_readCost : Room := { frames := 3, cells := 0, slots := 0, locals := 65 }
set_option maxRecDepth 100000 in
def g_X4_readCost_0 (th : Nat) (m : MM) : Option (Unit × MM) :=
  chk (m.K th = 5) (cal (f_X4_step th m) (fun r1 m1 => chk (m1.K th = 5) (cal (f_X4_readNumbers th 0 2 m1) (fun r2 m2 => if r2 = 0 then (some ((), m2)) else (chk (m2.K th = 5) (cal (f_X4_readStop th m2) (fun r3 m3 => if r3 = 0 then (some ((), m3)) else (chk (m3.K th = 5) (ck m3 (m3.R 500 th 0) 9 (fun a1 => ck m3 (m3.R 904 a1 0) 7 (fun a2 => cal (f_X4_check th 0 0 ((m3.I 703 a2 0) - 1) m3) (fun r4 m4 => chk (m4.K th = 5) (cal (f_X4_check th 1 0 99 m4) (fun r5 m5 => chk (m5.K th = 5) (if (m5.I 510 th 0) = 0 then (ck m5 (m5.R 500 th 0) 9 (fun a3 => cal (f_X4_number th 0 m5) (fun r6 m6 => chk (m6.K th = 5) (cal (f_X4_number th 1 m6) (fun r7 m7 => ck m7 (m5.R 904 a3 0) 7 (fun a4 => cal (f_X6_put a4 r6 6 r7 m7) (fun r8 m8 => some ((), m8)))))))) else (some ((), m5)))))))))))))))))
set_option maxHeartbeats 4000000 in
set_option maxRecDepth 100000 in
theorem s_X4_readCost_0 {Γ : GX} {E : EX} (C : Cx Γ E cX4_readCost RX4 1) (hr : Γ.meth.sig.returnType = none) (hrm : Γ.rm = rmX4_readCost) (th : Nat) (m : MM) : Sm (QM Γ E emV 0 0) Γ E 1 0 0 0 [(0, va_rf (some th))] [] m (g_X4_readCost_0 th m) := by
  unfold g_X4_readCost_0
  refine z_aload_n C dX4_readCost_0 rfl 0 rfl ?_
  refine z_chk (fun hk1 => ?_)
  refine z_cVV [] [] C mv_RX4_76 (fun r0 m0 h0 => M_X4_step _ _ _ _ _ _ h0) rfl rfl ⟨by rw [hrm]; exact Nat.le_of_ble_eq_true rfl, by rw [hrm]; exact Nat.le_of_ble_eq_true rfl⟩ ⟨by rw [hrm]; exact Nat.le_of_ble_eq_true rfl, by rw [hrm]; exact Nat.le_of_ble_eq_true rfl⟩ rfl hk1 rfl rfl rfl (Nat.le_of_ble_eq_true rfl) dX4_readCost_1 (fun r1 m1 => ?_)
  refine z_aload_n C dX4_readCost_4 rfl 0 rfl ?_
  refine z_iconst (v := 0) C dX4_readCost_5 (by decide) ?_
  refine z_iconst (v := 2) C dX4_readCost_6 (by decide) ?_
  refine z_chk (fun hk2 => ?_)
  refine z_cVI [.int 0, .int 2] [] C mv_RX4_85 (fun r0 m0 h0 => M_X4_readNumbers _ _ _ _ _ _ _ _ h0) rfl rfl ⟨by rw [hrm]; exact Nat.le_of_ble_eq_true rfl, by rw [hrm]; exact Nat.le_of_ble_eq_true rfl⟩ ⟨by rw [hrm]; exact Nat.le_of_ble_eq_true rfl, by rw [hrm]; exact Nat.le_of_ble_eq_true rfl⟩ rfl hk2 rfl rfl rfl (Nat.le_of_ble_eq_true rfl) dX4_readCost_7 (fun r2 m2 => ?_)
  refine z_if_eq (tgt := 20) C dX4_readCost_10 (by decide) (fun c1 => ?_) (fun c1 => ?_)
  · exact z_vret C hr dX4_readCost_20
  · refine z_aload_n C dX4_readCost_13 rfl 0 rfl ?_
    refine z_chk (fun hk3 => ?_)
    refine z_cVI [] [] C mv_RX4_89 (fun r0 m0 h0 => M_X4_readStop _ _ _ _ _ _ h0) rfl rfl ⟨by rw [hrm]; exact Nat.le_of_ble_eq_true rfl, by rw [hrm]; exact Nat.le_of_ble_eq_true rfl⟩ ⟨by rw [hrm]; exact Nat.le_of_ble_eq_true rfl, by rw [hrm]; exact Nat.le_of_ble_eq_true rfl⟩ rfl hk3 rfl rfl rfl (Nat.le_of_ble_eq_true rfl) dX4_readCost_14 (fun r3 m3 => ?_)
    refine z_if_ne (tgt := 21) C dX4_readCost_17 (by decide) (fun c2 => ?_) (fun c2 => ?_)
    · refine z_aload_n C dX4_readCost_21 rfl 0 rfl ?_
      refine z_iconst (v := 0) C dX4_readCost_22 (by decide) ?_
      refine z_iconst (v := 0) C dX4_readCost_23 (by decide) ?_
      refine z_aload_n C dX4_readCost_24 rfl 0 rfl ?_
      refine z_chk (fun hk4 => ?_)
      refine z_getR C fl_RX4_12 rfl hk4 dX4_readCost_25 ?_
      refine z_ck (fun a1 hr1 hk5 => ?_)
      refine z_getR C fl_RX4_166 hr1 hk5 dX4_readCost_28 ?_
      refine z_ck (fun a2 hr2 hk6 => ?_)
      refine z_getI C fl_RX4_221 hr2 hk6 dX4_readCost_31 ?_
      refine z_iconst (v := 1) C dX4_readCost_34 (by decide) ?_
      refine z_isub C dX4_readCost_35 ?_
      refine z_cVV [.int 0, .int 0, .int ((m3.I 703 a2 0) - 1)] [] C mv_RX4_93 (fun r0 m0 h0 => M_X4_check _ _ _ _ _ _ _ _ _ h0) rfl rfl ⟨by rw [hrm]; exact Nat.le_of_ble_eq_true rfl, by rw [hrm]; exact Nat.le_of_ble_eq_true rfl⟩ ⟨by rw [hrm]; exact Nat.le_of_ble_eq_true rfl, by rw [hrm]; exact Nat.le_of_ble_eq_true rfl⟩ rfl hk4 rfl rfl rfl (Nat.le_of_ble_eq_true rfl) dX4_readCost_36 (fun r4 m4 => ?_)
      refine z_aload_n C dX4_readCost_39 rfl 0 rfl ?_
      refine z_iconst (v := 1) C dX4_readCost_40 (by decide) ?_
      refine z_iconst (v := 0) C dX4_readCost_41 (by decide) ?_
      refine z_bipush (v := 99) C dX4_readCost_42 (by decide) ?_
      refine z_chk (fun hk7 => ?_)
      refine z_cVV [.int 1, .int 0, .int 99] [] C mv_RX4_93 (fun r0 m0 h0 => M_X4_check _ _ _ _ _ _ _ _ _ h0) rfl rfl ⟨by rw [hrm]; exact Nat.le_of_ble_eq_true rfl, by rw [hrm]; exact Nat.le_of_ble_eq_true rfl⟩ ⟨by rw [hrm]; exact Nat.le_of_ble_eq_true rfl, by rw [hrm]; exact Nat.le_of_ble_eq_true rfl⟩ rfl hk7 rfl rfl rfl (Nat.le_of_ble_eq_true rfl) dX4_readCost_44 (fun r5 m5 => ?_)
      refine z_aload_n C dX4_readCost_47 rfl 0 rfl ?_
      refine z_chk (fun hk8 => ?_)
      refine z_getI C fl_RX4_42 rfl hk8 dX4_readCost_48 ?_
      refine z_if_ne (tgt := 76) C dX4_readCost_51 (by decide) (fun c3 => ?_) (fun c3 => ?_)
      · exact z_vret C hr dX4_readCost_76
      · refine z_aload_n C dX4_readCost_54 rfl 0 rfl ?_
        refine z_getR C fl_RX4_12 rfl hk8 dX4_readCost_55 ?_
        refine z_ck (fun a3 hr3 hk9 => ?_)
        refine z_getR C fl_RX4_166 hr3 hk9 dX4_readCost_58 ?_
        refine z_aload_n C dX4_readCost_61 rfl 0 rfl ?_
        refine z_iconst (v := 0) C dX4_readCost_62 (by decide) ?_
        refine z_cVI [.int 0] [va_rf (m5.R 904 a3 0)] C mv_RX4_97 (fun r0 m0 h0 => M_X4_number _ _ _ _ _ _ _ h0) rfl rfl ⟨by rw [hrm]; exact Nat.le_of_ble_eq_true rfl, by rw [hrm]; exact Nat.le_of_ble_eq_true rfl⟩ ⟨by rw [hrm]; exact Nat.le_of_ble_eq_true rfl, by rw [hrm]; exact Nat.le_of_ble_eq_true rfl⟩ rfl hk8 rfl rfl rfl (by simp [cat_rf, cat_i, cat_l, cat_a]) dX4_readCost_63 (fun r6 m6 => ?_)
        refine z_bipush (v := 6) C dX4_readCost_66 (by decide) ?_
        refine z_aload_n C dX4_readCost_68 rfl 0 rfl ?_
        refine z_iconst (v := 1) C dX4_readCost_69 (by decide) ?_
        refine z_chk (fun hk10 => ?_)
        refine z_cVI [.int 1] [.int 6, .int r6, va_rf (m5.R 904 a3 0)] C mv_RX4_97 (fun r0 m0 h0 => M_X4_number _ _ _ _ _ _ _ h0) rfl rfl ⟨by rw [hrm]; exact Nat.le_of_ble_eq_true rfl, by rw [hrm]; exact Nat.le_of_ble_eq_true rfl⟩ ⟨by rw [hrm]; exact Nat.le_of_ble_eq_true rfl, by rw [hrm]; exact Nat.le_of_ble_eq_true rfl⟩ rfl hk10 rfl rfl rfl (by simp [cat_rf, cat_i, cat_l, cat_a]) dX4_readCost_70 (fun r7 m7 => ?_)
        refine z_ck (fun a4 hr4 hk11 => ?_)
        refine z_cVV [.int r6, .int 6, .int r7] [] C mv_RX4_223 (fun r0 m0 h0 => M_X6_put _ _ _ _ _ _ _ _ _ h0) rfl rfl ⟨by rw [hrm]; exact Nat.le_of_ble_eq_true rfl, by rw [hrm]; exact Nat.le_of_ble_eq_true rfl⟩ ⟨by rw [hrm]; exact Nat.le_of_ble_eq_true rfl, by rw [hrm]; exact Nat.le_of_ble_eq_true rfl⟩ hr4 hk11 rfl rfl rfl (Nat.le_of_ble_eq_true rfl) dX4_readCost_73 (fun r8 m8 => ?_)
        exact z_vret C hr dX4_readCost_76
    · exact z_vret C hr dX4_readCost_20
def f_X4_readCost (th : Nat) (m : MM) : Option (Unit × MM) := g_X4_readCost_0 th m
theorem M_X4_readCost (l : Launch) (E : EX) (th : Nat) (m : MM) (r : Unit) (m2 : MM) (h : f_X4_readCost th m = some (r, m2)) : Met l yX4_readCost (.code yX4_readCost cX4_readCost 1 none :: TB) rmX4_readCost (va_Pc [.ref th] (St E m)) (QR E (emV r) m2) 0 0 (AA E) :=
  met_of (em := emV) (plainFor_of_name rfl) (Nat.le_of_ble_eq_true rfl) (L0 := [(0, va_rf (some th))]) rfl (fun Γ _ hrm C hr hn => s_X4_readCost_0 C hr hrm th m) h

theorem dX4_readGrow_0 : decode cX4_readGrow 0 = .ok (.aload_n 0, 1) := by decide +kernel
theorem dX4_readGrow_1 : decode cX4_readGrow 1 = .ok (.invokevirtual 76, 3) := by decide +kernel
theorem dX4_readGrow_4 : decode cX4_readGrow 4 = .ok (.aload_n 0, 1) := by decide +kernel
theorem dX4_readGrow_5 : decode cX4_readGrow 5 = .ok (.iconst 0, 1) := by decide +kernel
theorem dX4_readGrow_6 : decode cX4_readGrow 6 = .ok (.iconst 2, 1) := by decide +kernel
theorem dX4_readGrow_7 : decode cX4_readGrow 7 = .ok (.invokevirtual 85, 3) := by decide +kernel
theorem dX4_readGrow_10 : decode cX4_readGrow 10 = .ok (.ifCond .eq 10, 3) := by decide +kernel
theorem dX4_readGrow_13 : decode cX4_readGrow 13 = .ok (.aload_n 0, 1) := by decide +kernel
theorem dX4_readGrow_14 : decode cX4_readGrow 14 = .ok (.invokevirtual 89, 3) := by decide +kernel
theorem dX4_readGrow_17 : decode cX4_readGrow 17 = .ok (.ifCond .ne 4, 3) := by decide +kernel
theorem dX4_readGrow_20 : decode cX4_readGrow 20 = .ok (.return_, 1) := by decide +kernel
theorem dX4_readGrow_21 : decode cX4_readGrow 21 = .ok (.aload_n 0, 1) := by decide +kernel
theorem dX4_readGrow_22 : decode cX4_readGrow 22 = .ok (.iconst 0, 1) := by decide +kernel
theorem dX4_readGrow_23 : decode cX4_readGrow 23 = .ok (.iconst 0, 1) := by decide +kernel
theorem dX4_readGrow_24 : decode cX4_readGrow 24 = .ok (.iconst 5, 1) := by decide +kernel
theorem dX4_readGrow_25 : decode cX4_readGrow 25 = .ok (.invokevirtual 93, 3) := by decide +kernel
theorem dX4_readGrow_28 : decode cX4_readGrow 28 = .ok (.aload_n 0, 1) := by decide +kernel
theorem dX4_readGrow_29 : decode cX4_readGrow 29 = .ok (.iconst 1, 1) := by decide +kernel
theorem dX4_readGrow_30 : decode cX4_readGrow 30 = .ok (.iconst 1, 1) := by decide +kernel
theorem dX4_readGrow_31 : decode cX4_readGrow 31 = .ok (.bipush 99, 2) := by decide +kernel
theorem dX4_readGrow_33 : decode cX4_readGrow 33 = .ok (.invokevirtual 93, 3) := by decide +kernel
theorem dX4_readGrow_36 : decode cX4_readGrow 36 = .ok (.aload_n 0, 1) := by decide +kernel
theorem dX4_readGrow_37 : decode cX4_readGrow 37 = .ok (.iconst 0, 1) := by decide +kernel
theorem dX4_readGrow_38 : decode cX4_readGrow 38 = .ok (.invokevirtual 97, 3) := by decide +kernel
theorem dX4_readGrow_41 : decode cX4_readGrow 41 = .ok (.istore_n 1, 1) := by decide +kernel
theorem dX4_readGrow_42 : decode cX4_readGrow 42 = .ok (.aload_n 0, 1) := by decide +kernel
theorem dX4_readGrow_43 : decode cX4_readGrow 43 = .ok (.getfield 42, 3) := by decide +kernel
theorem dX4_readGrow_46 : decode cX4_readGrow 46 = .ok (.ifCond .ne 33, 3) := by decide +kernel
theorem dX4_readGrow_49 : decode cX4_readGrow 49 = .ok (.iload_n 1, 1) := by decide +kernel
theorem dX4_readGrow_50 : decode cX4_readGrow 50 = .ok (.ifCond .lt 29, 3) := by decide +kernel
theorem dX4_readGrow_53 : decode cX4_readGrow 53 = .ok (.iload_n 1, 1) := by decide +kernel
theorem dX4_readGrow_54 : decode cX4_readGrow 54 = .ok (.aload_n 0, 1) := by decide +kernel
theorem dX4_readGrow_55 : decode cX4_readGrow 55 = .ok (.getfield 12, 3) := by decide +kernel
theorem dX4_readGrow_58 : decode cX4_readGrow 58 = .ok (.getfield 226, 3) := by decide +kernel
theorem dX4_readGrow_61 : decode cX4_readGrow 61 = .ok (.arraylength, 1) := by decide +kernel
theorem dX4_readGrow_62 : decode cX4_readGrow 62 = .ok (.if_icmp .ge 17, 3) := by decide +kernel
theorem dX4_readGrow_65 : decode cX4_readGrow 65 = .ok (.aload_n 0, 1) := by decide +kernel
theorem dX4_readGrow_66 : decode cX4_readGrow 66 = .ok (.getfield 12, 3) := by decide +kernel
theorem dX4_readGrow_69 : decode cX4_readGrow 69 = .ok (.getfield 226, 3) := by decide +kernel
theorem dX4_readGrow_72 : decode cX4_readGrow 72 = .ok (.iload_n 1, 1) := by decide +kernel
theorem dX4_readGrow_73 : decode cX4_readGrow 73 = .ok (.aload_n 0, 1) := by decide +kernel
theorem dX4_readGrow_74 : decode cX4_readGrow 74 = .ok (.iconst 1, 1) := by decide +kernel
theorem dX4_readGrow_75 : decode cX4_readGrow 75 = .ok (.invokevirtual 97, 3) := by decide +kernel
theorem dX4_readGrow_78 : decode cX4_readGrow 78 = .ok (.iastore, 1) := by decide +kernel
theorem dX4_readGrow_79 : decode cX4_readGrow 79 = .ok (.return_, 1) := by decide +kernel
def rmX4_readGrow : Room := { frames := 3, cells := 0, slots := 0, locals := 65 }
set_option maxRecDepth 100000 in
def g_X4_readGrow_0 (th : Nat) (m : MM) : Option (Unit × MM) :=
  chk (m.K th = 5) (cal (f_X4_step th m) (fun r1 m1 => chk (m1.K th = 5) (cal (f_X4_readNumbers th 0 2 m1) (fun r2 m2 => if r2 = 0 then (some ((), m2)) else (chk (m2.K th = 5) (cal (f_X4_readStop th m2) (fun r3 m3 => if r3 = 0 then (some ((), m3)) else (chk (m3.K th = 5) (cal (f_X4_check th 0 0 5 m3) (fun r4 m4 => chk (m4.K th = 5) (cal (f_X4_check th 1 1 99 m4) (fun r5 m5 => chk (m5.K th = 5) (cal (f_X4_number th 0 m5) (fun r6 m6 => chk (m6.K th = 5) (if (m6.I 510 th 0) = 0 then (if r6 < 0 then (some ((), m6)) else (ck m6 (m6.R 500 th 0) 9 (fun a1 => ck m6 (m6.R 911 a1 0) 22 (fun a2 => if (Int32.ofNat (m6.N a2)) ≤ r6 then (some ((), m6)) else (cal (f_X4_number th 1 m6) (fun r7 m7 => chk (m7.K a2 = 22) (chk (inb r6 (m7.N a2) = true) (bnd (m7.sI 22 a2 (Int32.toNatClampNeg r6) r7) (fun m8 => some ((), m8)))))))))) else (some ((), m6)))))))))))))))))
set_option maxHeartbeats 4000000 in
set_option maxRecDepth 100000 in
theorem s_X4_readGrow_0 {Γ : GX} {E : EX} (C : Cx Γ E cX4_readGrow RX4 2) (hr : Γ.meth.sig.returnType = none) (hrm : Γ.rm = rmX4_readGrow) (th : Nat) (m : MM) : Sm (QM Γ E emV 0 0) Γ E 2 0 0 0 [(0, va_rf (some th))] [] m (g_X4_readGrow_0 th m) := by
  unfold g_X4_readGrow_0
  refine z_aload_n C dX4_readGrow_0 rfl 0 rfl ?_
  refine z_chk (fun hk1 => ?_)
  refine z_cVV [] [] C mv_RX4_76 (fun r0 m0 h0 => M_X4_step _ _ _ _ _ _ h0) rfl rfl ⟨by rw [hrm]; exact Nat.le_of_ble_eq_true rfl, by rw [hrm]; exact Nat.le_of_ble_eq_true rfl⟩ ⟨by rw [hrm]; exact Nat.le_of_ble_eq_true rfl, by rw [hrm]; exact Nat.le_of_ble_eq_true rfl⟩ rfl hk1 rfl rfl rfl (Nat.le_of_ble_eq_true rfl) dX4_readGrow_1 (fun r1 m1 => ?_)
  refine z_aload_n C dX4_readGrow_4 rfl 0 rfl ?_
  refine z_iconst (v := 0) C dX4_readGrow_5 (by decide) ?_
  refine z_iconst (v := 2) C dX4_readGrow_6 (by decide) ?_
  refine z_chk (fun hk2 => ?_)
  refine z_cVI [.int 0, .int 2] [] C mv_RX4_85 (fun r0 m0 h0 => M_X4_readNumbers _ _ _ _ _ _ _ _ h0) rfl rfl ⟨by rw [hrm]; exact Nat.le_of_ble_eq_true rfl, by rw [hrm]; exact Nat.le_of_ble_eq_true rfl⟩ ⟨by rw [hrm]; exact Nat.le_of_ble_eq_true rfl, by rw [hrm]; exact Nat.le_of_ble_eq_true rfl⟩ rfl hk2 rfl rfl rfl (Nat.le_of_ble_eq_true rfl) dX4_readGrow_7 (fun r2 m2 => ?_)
  refine z_if_eq (tgt := 20) C dX4_readGrow_10 (by decide) (fun c1 => ?_) (fun c1 => ?_)
  · exact z_vret C hr dX4_readGrow_20
  · refine z_aload_n C dX4_readGrow_13 rfl 0 rfl ?_
    refine z_chk (fun hk3 => ?_)
    refine z_cVI [] [] C mv_RX4_89 (fun r0 m0 h0 => M_X4_readStop _ _ _ _ _ _ h0) rfl rfl ⟨by rw [hrm]; exact Nat.le_of_ble_eq_true rfl, by rw [hrm]; exact Nat.le_of_ble_eq_true rfl⟩ ⟨by rw [hrm]; exact Nat.le_of_ble_eq_true rfl, by rw [hrm]; exact Nat.le_of_ble_eq_true rfl⟩ rfl hk3 rfl rfl rfl (Nat.le_of_ble_eq_true rfl) dX4_readGrow_14 (fun r3 m3 => ?_)
    refine z_if_ne (tgt := 21) C dX4_readGrow_17 (by decide) (fun c2 => ?_) (fun c2 => ?_)
    · refine z_aload_n C dX4_readGrow_21 rfl 0 rfl ?_
      refine z_iconst (v := 0) C dX4_readGrow_22 (by decide) ?_
      refine z_iconst (v := 0) C dX4_readGrow_23 (by decide) ?_
      refine z_iconst (v := 5) C dX4_readGrow_24 (by decide) ?_
      refine z_chk (fun hk4 => ?_)
      refine z_cVV [.int 0, .int 0, .int 5] [] C mv_RX4_93 (fun r0 m0 h0 => M_X4_check _ _ _ _ _ _ _ _ _ h0) rfl rfl ⟨by rw [hrm]; exact Nat.le_of_ble_eq_true rfl, by rw [hrm]; exact Nat.le_of_ble_eq_true rfl⟩ ⟨by rw [hrm]; exact Nat.le_of_ble_eq_true rfl, by rw [hrm]; exact Nat.le_of_ble_eq_true rfl⟩ rfl hk4 rfl rfl rfl (Nat.le_of_ble_eq_true rfl) dX4_readGrow_25 (fun r4 m4 => ?_)
      refine z_aload_n C dX4_readGrow_28 rfl 0 rfl ?_
      refine z_iconst (v := 1) C dX4_readGrow_29 (by decide) ?_
      refine z_iconst (v := 1) C dX4_readGrow_30 (by decide) ?_
      refine z_bipush (v := 99) C dX4_readGrow_31 (by decide) ?_
      refine z_chk (fun hk5 => ?_)
      refine z_cVV [.int 1, .int 1, .int 99] [] C mv_RX4_93 (fun r0 m0 h0 => M_X4_check _ _ _ _ _ _ _ _ _ h0) rfl rfl ⟨by rw [hrm]; exact Nat.le_of_ble_eq_true rfl, by rw [hrm]; exact Nat.le_of_ble_eq_true rfl⟩ ⟨by rw [hrm]; exact Nat.le_of_ble_eq_true rfl, by rw [hrm]; exact Nat.le_of_ble_eq_true rfl⟩ rfl hk5 rfl rfl rfl (Nat.le_of_ble_eq_true rfl) dX4_readGrow_33 (fun r5 m5 => ?_)
      refine z_aload_n C dX4_readGrow_36 rfl 0 rfl ?_
      refine z_iconst (v := 0) C dX4_readGrow_37 (by decide) ?_
      refine z_chk (fun hk6 => ?_)
      refine z_cVI [.int 0] [] C mv_RX4_97 (fun r0 m0 h0 => M_X4_number _ _ _ _ _ _ _ h0) rfl rfl ⟨by rw [hrm]; exact Nat.le_of_ble_eq_true rfl, by rw [hrm]; exact Nat.le_of_ble_eq_true rfl⟩ ⟨by rw [hrm]; exact Nat.le_of_ble_eq_true rfl, by rw [hrm]; exact Nat.le_of_ble_eq_true rfl⟩ rfl hk6 rfl rfl rfl (Nat.le_of_ble_eq_true rfl) dX4_readGrow_38 (fun r6 m6 => ?_)
      refine z_istore_n (i := 1) (L2 := [(1, .int r6), (0, va_rf (some th))]) C dX4_readGrow_41 rfl (by decide) rfl ?_
      refine z_aload_n C dX4_readGrow_42 rfl 1 rfl ?_
      refine z_chk (fun hk7 => ?_)
      refine z_getI C fl_RX4_42 rfl hk7 dX4_readGrow_43 ?_
      refine z_if_ne (tgt := 79) C dX4_readGrow_46 (by decide) (fun c3 => ?_) (fun c3 => ?_)
      · exact z_vret C hr dX4_readGrow_79
      · refine z_iload_n C dX4_readGrow_49 rfl 0 rfl ?_
        refine z_if_lt (tgt := 79) C dX4_readGrow_50 (by decide) (fun c4 => ?_) (fun c4 => ?_)
        · exact z_vret C hr dX4_readGrow_79
        · refine z_iload_n C dX4_readGrow_53 rfl 0 rfl ?_
          refine z_aload_n C dX4_readGrow_54 rfl 1 rfl ?_
          refine z_getR C fl_RX4_12 rfl hk7 dX4_readGrow_55 ?_
          refine z_ck (fun a1 hr1 hk8 => ?_)
          refine z_getR C fl_RX4_226 hr1 hk8 dX4_readGrow_58 ?_
          refine z_ck (fun a2 hr2 hk9 => ?_)
          refine z_alen C hr2 hk9 (by decide) (by decide) dX4_readGrow_61 ?_
          refine z_icmp_ge (tgt := 79) C dX4_readGrow_62 (by decide) (fun c5 => ?_) (fun c5 => ?_)
          · exact z_vret C hr dX4_readGrow_79
          · refine z_aload_n C dX4_readGrow_65 rfl 1 rfl ?_
            refine z_getR C fl_RX4_12 rfl hk7 dX4_readGrow_66 ?_
            refine z_getR C fl_RX4_226 hr1 hk8 dX4_readGrow_69 ?_
            refine z_iload_n C dX4_readGrow_72 rfl 0 rfl ?_
            refine z_aload_n C dX4_readGrow_73 rfl 1 rfl ?_
            refine z_iconst (v := 1) C dX4_readGrow_74 (by decide) ?_
            refine z_cVI [.int 1] [.int r6, va_rf (m6.R 911 a1 0)] C mv_RX4_97 (fun r0 m0 h0 => M_X4_number _ _ _ _ _ _ _ h0) rfl rfl ⟨by rw [hrm]; exact Nat.le_of_ble_eq_true rfl, by rw [hrm]; exact Nat.le_of_ble_eq_true rfl⟩ ⟨by rw [hrm]; exact Nat.le_of_ble_eq_true rfl, by rw [hrm]; exact Nat.le_of_ble_eq_true rfl⟩ rfl hk7 rfl rfl rfl (by simp [cat_rf, cat_i, cat_l, cat_a]) dX4_readGrow_75 (fun r7 m7 => ?_)
            refine z_chk (fun hk10 => ?_)
            refine z_chk (fun hj1 => ?_)
            refine z_iast C hr2 hk10 hj1 dX4_readGrow_78 (fun m8 eK1 eN1 => ?_)
            exact z_vret C hr dX4_readGrow_79
    · exact z_vret C hr dX4_readGrow_20
def f_X4_readGrow (th : Nat) (m : MM) : Option (Unit × MM) := g_X4_readGrow_0 th m
theorem M_X4_readGrow (l : Launch) (E : EX) (th : Nat) (m : MM) (r : Unit) (m2 : MM) (h : f_X4_readGrow th m = some (r, m2)) : Met l yX4_readGrow (.code yX4_readGrow cX4_readGrow 2 none :: TB) rmX4_readGrow (va_Pc [.ref th] (St E m)) (QR E (emV r) m2) 0 0 (AA E) :=
  met_of (em := emV) (plainFor_of_name rfl) (Nat.le_of_ble_eq_true rfl) (L0 := [(0, va_rf (some th))]) rfl (fun Γ _ hrm C hr hn => s_X4_readGrow_0 C hr hrm th m) h

theorem dX4_readLine_0 : decode cX4_readLine 0 = .ok (.aload_n 0, 1) := by decide +kernel
theorem dX4_readLine_1 : decode cX4_readLine 1 = .ok (.getfield 49, 3) := by decide +kernel
theorem dX4_readLine_4 : decode cX4_readLine 4 = .ok (.istore_n 1, 1) := by decide +kernel
theorem dX4_readLine_5 : decode cX4_readLine 5 = .ok (.aload_n 0, 1) := by decide +kernel
theorem dX4_readLine_6 : decode cX4_readLine 6 = .ok (.ldc 107, 2) := by decide +kernel
theorem dX4_readLine_8 : decode cX4_readLine 8 = .ok (.invokevirtual 109, 3) := by decide +kernel
theorem dX4_readLine_11 : decode cX4_readLine 11 = .ok (.ifCond .eq 11, 3) := by decide +kernel
theorem dX4_readLine_14 : decode cX4_readLine 14 = .ok (.aload_n 0, 1) := by decide +kernel
theorem dX4_readLine_15 : decode cX4_readLine 15 = .ok (.iload_n 1, 1) := by decide +kernel
theorem dX4_readLine_16 : decode cX4_readLine 16 = .ok (.invokevirtual 112, 3) := by decide +kernel
theorem dX4_readLine_19 : decode cX4_readLine 19 = .ok (.goto 155, 3) := by decide +kernel
theorem dX4_readLine_22 : decode cX4_readLine 22 = .ok (.aload_n 0, 1) := by decide +kernel
theorem dX4_readLine_23 : decode cX4_readLine 23 = .ok (.ldc 116, 2) := by decide +kernel
theorem dX4_readLine_25 : decode cX4_readLine 25 = .ok (.invokevirtual 109, 3) := by decide +kernel
theorem dX4_readLine_28 : decode cX4_readLine 28 = .ok (.ifCond .eq 19, 3) := by decide +kernel
theorem dX4_readLine_31 : decode cX4_readLine 31 = .ok (.aload_n 0, 1) := by decide +kernel
theorem dX4_readLine_32 : decode cX4_readLine 32 = .ok (.aload_n 0, 1) := by decide +kernel
theorem dX4_readLine_33 : decode cX4_readLine 33 = .ok (.getfield 12, 3) := by decide +kernel
theorem dX4_readLine_36 : decode cX4_readLine 36 = .ok (.getfield 118, 3) := by decide +kernel
theorem dX4_readLine_39 : decode cX4_readLine 39 = .ok (.iload_n 1, 1) := by decide +kernel
theorem dX4_readLine_40 : decode cX4_readLine 40 = .ok (.iconst 5, 1) := by decide +kernel
theorem dX4_readLine_41 : decode cX4_readLine 41 = .ok (.invokevirtual 122, 3) := by decide +kernel
theorem dX4_readLine_44 : decode cX4_readLine 44 = .ok (.goto 130, 3) := by decide +kernel
theorem dX4_readLine_47 : decode cX4_readLine 47 = .ok (.aload_n 0, 1) := by decide +kernel
theorem dX4_readLine_48 : decode cX4_readLine 48 = .ok (.ldc 126, 2) := by decide +kernel
theorem dX4_readLine_50 : decode cX4_readLine 50 = .ok (.invokevirtual 109, 3) := by decide +kernel
theorem dX4_readLine_53 : decode cX4_readLine 53 = .ok (.ifCond .eq 19, 3) := by decide +kernel
theorem dX4_readLine_56 : decode cX4_readLine 56 = .ok (.aload_n 0, 1) := by decide +kernel
theorem dX4_readLine_57 : decode cX4_readLine 57 = .ok (.aload_n 0, 1) := by decide +kernel
theorem dX4_readLine_58 : decode cX4_readLine 58 = .ok (.getfield 12, 3) := by decide +kernel
theorem dX4_readLine_61 : decode cX4_readLine 61 = .ok (.getfield 128, 3) := by decide +kernel
theorem dX4_readLine_64 : decode cX4_readLine 64 = .ok (.iload_n 1, 1) := by decide +kernel
theorem dX4_readLine_65 : decode cX4_readLine 65 = .ok (.iconst 4, 1) := by decide +kernel
theorem dX4_readLine_66 : decode cX4_readLine 66 = .ok (.invokevirtual 122, 3) := by decide +kernel
theorem dX4_readLine_69 : decode cX4_readLine 69 = .ok (.goto 105, 3) := by decide +kernel
theorem dX4_readLine_72 : decode cX4_readLine 72 = .ok (.aload_n 0, 1) := by decide +kernel
theorem dX4_readLine_73 : decode cX4_readLine 73 = .ok (.ldc 131, 2) := by decide +kernel
theorem dX4_readLine_75 : decode cX4_readLine 75 = .ok (.invokevirtual 109, 3) := by decide +kernel
theorem dX4_readLine_78 : decode cX4_readLine 78 = .ok (.ifCond .eq 10, 3) := by decide +kernel
theorem dX4_readLine_81 : decode cX4_readLine 81 = .ok (.aload_n 0, 1) := by decide +kernel
theorem dX4_readLine_82 : decode cX4_readLine 82 = .ok (.invokevirtual 133, 3) := by decide +kernel
theorem dX4_readLine_85 : decode cX4_readLine 85 = .ok (.goto 89, 3) := by decide +kernel
theorem dX4_readLine_88 : decode cX4_readLine 88 = .ok (.aload_n 0, 1) := by decide +kernel
theorem dX4_readLine_89 : decode cX4_readLine 89 = .ok (.ldc 136, 2) := by decide +kernel
theorem dX4_readLine_91 : decode cX4_readLine 91 = .ok (.invokevirtual 109, 3) := by decide +kernel
theorem dX4_readLine_94 : decode cX4_readLine 94 = .ok (.ifCond .eq 10, 3) := by decide +kernel
theorem dX4_readLine_97 : decode cX4_readLine 97 = .ok (.aload_n 0, 1) := by decide +kernel
theorem dX4_readLine_98 : decode cX4_readLine 98 = .ok (.invokevirtual 138, 3) := by decide +kernel
theorem dX4_readLine_101 : decode cX4_readLine 101 = .ok (.goto 73, 3) := by decide +kernel
theorem dX4_readLine_104 : decode cX4_readLine 104 = .ok (.aload_n 0, 1) := by decide +kernel
theorem dX4_readLine_105 : decode cX4_readLine 105 = .ok (.ldc 141, 2) := by decide +kernel
theorem dX4_readLine_107 : decode cX4_readLine 107 = .ok (.invokevirtual 109, 3) := by decide +kernel
theorem dX4_readLine_110 : decode cX4_readLine 110 = .ok (.ifCond .eq 11, 3) := by decide +kernel
theorem dX4_readLine_113 : decode cX4_readLine 113 = .ok (.aload_n 0, 1) := by decide +kernel
theorem dX4_readLine_114 : decode cX4_readLine 114 = .ok (.iload_n 1, 1) := by decide +kernel
theorem dX4_readLine_115 : decode cX4_readLine 115 = .ok (.invokevirtual 143, 3) := by decide +kernel
theorem dX4_readLine_118 : decode cX4_readLine 118 = .ok (.goto 56, 3) := by decide +kernel
theorem dX4_readLine_121 : decode cX4_readLine 121 = .ok (.aload_n 0, 1) := by decide +kernel
theorem dX4_readLine_122 : decode cX4_readLine 122 = .ok (.ldc 146, 2) := by decide +kernel
theorem dX4_readLine_124 : decode cX4_readLine 124 = .ok (.invokevirtual 109, 3) := by decide +kernel
theorem dX4_readLine_127 : decode cX4_readLine 127 = .ok (.ifCond .eq 11, 3) := by decide +kernel
theorem dX4_readLine_130 : decode cX4_readLine 130 = .ok (.aload_n 0, 1) := by decide +kernel
theorem dX4_readLine_131 : decode cX4_readLine 131 = .ok (.iload_n 1, 1) := by decide +kernel
theorem dX4_readLine_132 : decode cX4_readLine 132 = .ok (.invokevirtual 148, 3) := by decide +kernel
theorem dX4_readLine_135 : decode cX4_readLine 135 = .ok (.goto 39, 3) := by decide +kernel
theorem dX4_readLine_138 : decode cX4_readLine 138 = .ok (.aload_n 0, 1) := by decide +kernel
theorem dX4_readLine_139 : decode cX4_readLine 139 = .ok (.ldc 151, 2) := by decide +kernel
theorem dX4_readLine_141 : decode cX4_readLine 141 = .ok (.invokevirtual 109, 3) := by decide +kernel
theorem dX4_readLine_144 : decode cX4_readLine 144 = .ok (.ifCond .eq 10, 3) := by decide +kernel
theorem dX4_readLine_147 : decode cX4_readLine 147 = .ok (.aload_n 0, 1) := by decide +kernel
theorem dX4_readLine_148 : decode cX4_readLine 148 = .ok (.invokevirtual 153, 3) := by decide +kernel
theorem dX4_readLine_151 : decode cX4_readLine 151 = .ok (.goto 23, 3) := by decide +kernel
theorem dX4_readLine_154 : decode cX4_readLine 154 = .ok (.aload_n 0, 1) := by decide +kernel
theorem dX4_readLine_155 : decode cX4_readLine 155 = .ok (.ldc 156, 2) := by decide +kernel
theorem dX4_readLine_157 : decode cX4_readLine 157 = .ok (.invokevirtual 109, 3) := by decide +kernel
theorem dX4_readLine_160 : decode cX4_readLine 160 = .ok (.ifCond .eq 10, 3) := by decide +kernel
theorem dX4_readLine_163 : decode cX4_readLine 163 = .ok (.aload_n 0, 1) := by decide +kernel
theorem dX4_readLine_164 : decode cX4_readLine 164 = .ok (.invokevirtual 158, 3) := by decide +kernel
theorem dX4_readLine_167 : decode cX4_readLine 167 = .ok (.goto 7, 3) := by decide +kernel
theorem dX4_readLine_170 : decode cX4_readLine 170 = .ok (.aload_n 0, 1) := by decide +kernel
theorem dX4_readLine_171 : decode cX4_readLine 171 = .ok (.invokevirtual 161, 3) := by decide +kernel
theorem dX4_readLine_174 : decode cX4_readLine 174 = .ok (.return_, 1) := by decide +kernel
def rmX4_readLine : Room := { frames := 7, cells := 0, slots := 0, locals := 150 }
set_option maxRecDepth 100000 in
def g_X4_readLine_0 (th : Nat) (m : MM) : Option (Unit × MM) :=
  chk (m.K th = 5) (bnd (m.I 508 th 0) (fun y1 => cal (f_X4_isWord th 1 m) (fun r1 m1 => if r1 = 0 then (chk (m1.K th = 5) (cal (f_X4_isWord th 3 m1) (fun r2 m2 => if r2 = 0 then (chk (m2.K th = 5) (cal (f_X4_isWord th 4 m2) (fun r3 m3 => if r3 = 0 then (chk (m3.K th = 5) (cal (f_X4_isWord th 5 m3) (fun r4 m4 => if r4 = 0 then (chk (m4.K th = 5) (cal (f_X4_isWord th 6 m4) (fun r5 m5 => if r5 = 0 then (chk (m5.K th = 5) (cal (f_X4_isWord th 9 m5) (fun r6 m6 => if r6 = 0 then (chk (m6.K th = 5) (cal (f_X4_isWord th 10 m6) (fun r7 m7 => if r7 = 0 then (chk (m7.K th = 5) (cal (f_X4_isWord th 11 m7) (fun r8 m8 => if r8 = 0 then (chk (m8.K th = 5) (cal (f_X4_isWord th 12 m8) (fun r9 m9 => if r9 = 0 then (chk (m9.K th = 5) (cal (f_X4_breakOff th m9) (fun r10 m10 => some ((), m10)))) else (chk (m9.K th = 5) (cal (f_X4_readGrow th m9) (fun r11 m11 => some ((), m11))))))) else (chk (m8.K th = 5) (cal (f_X4_readCost th m8) (fun r12 m12 => some ((), m12))))))) else (chk (m7.K th = 5) (cal (f_X4_readObjection th y1 m7) (fun r13 m13 => some ((), m13))))))) else (chk (m6.K th = 5) (cal (f_X4_readLeave th y1 m6) (fun r14 m14 => some ((), m14))))))) else (chk (m5.K th = 5) (cal (f_X4_readSlope th m5) (fun r15 m15 => some ((), m15))))))) else (chk (m4.K th = 5) (cal (f_X4_readWind th m4) (fun r16 m16 => some ((), m16))))))) else (chk (m3.K th = 5) (ck m3 (m3.R 500 th 0) 9 (fun a1 => cal (f_X4_readSpan th (m3.R 906 a1 0) y1 4 m3) (fun r17 m17 => some ((), m17)))))))) else (chk (m2.K th = 5) (ck m2 (m2.R 500 th 0) 9 (fun a2 => cal (f_X4_readSpan th (m2.R 905 a2 0) y1 5 m2) (fun r18 m18 => some ((), m18)))))))) else (chk (m1.K th = 5) (cal (f_X4_readThing th y1 m1) (fun r19 m19 => some ((), m19)))))))
set_option maxHeartbeats 4000000 in
set_option maxRecDepth 100000 in
theorem s_X4_readLine_0 {Γ : GX} {E : EX} (C : Cx Γ E cX4_readLine RX4 2) (hr : Γ.meth.sig.returnType = none) (hrm : Γ.rm = rmX4_readLine) (th : Nat) (m : MM) : Sm (QM Γ E emV 0 0) Γ E 2 0 0 0 [(0, va_rf (some th))] [] m (g_X4_readLine_0 th m) := by
  unfold g_X4_readLine_0
  refine z_aload_n C dX4_readLine_0 rfl 0 rfl ?_
  refine z_chk (fun hk1 => ?_)
  refine z_getI C fl_RX4_49 rfl hk1 dX4_readLine_1 ?_
  refine z_bndI (fun y1 => ?_)
  refine z_istore_n (i := 1) (L2 := [(1, .int y1), (0, va_rf (some th))]) C dX4_readLine_4 rfl (by decide) rfl ?_
  refine z_aload_n C dX4_readLine_5 rfl 1 rfl ?_
  refine z_ldcS C (i := 1) (by decide) rfl dX4_readLine_6 ?_
  refine z_cVI [va_rf (some (E.adK 1))] [] C mv_RX4_109 (fun r0 m0 h0 => M_X4_isWord _ _ _ _ _ _ _ h0) rfl rfl ⟨by rw [hrm]; exact Nat.le_of_ble_eq_true rfl, by rw [hrm]; exact Nat.le_of_ble_eq_true rfl⟩ ⟨by rw [hrm]; exact Nat.le_of_ble_eq_true rfl, by rw [hrm]; exact Nat.le_of_ble_eq_true rfl⟩ rfl hk1 rfl rfl rfl (Nat.le_of_ble_eq_true rfl) dX4_readLine_8 (fun r1 m1 => ?_)
  refine z_if_eq (tgt := 22) C dX4_readLine_11 (by decide) (fun c1 => ?_) (fun c1 => ?_)
  · refine z_aload_n C dX4_readLine_22 rfl 1 rfl ?_
    refine z_ldcS C (i := 3) (by decide) rfl dX4_readLine_23 ?_
    refine z_chk (fun hk2 => ?_)
    refine z_cVI [va_rf (some (E.adK 3))] [] C mv_RX4_109 (fun r0 m0 h0 => M_X4_isWord _ _ _ _ _ _ _ h0) rfl rfl ⟨by rw [hrm]; exact Nat.le_of_ble_eq_true rfl, by rw [hrm]; exact Nat.le_of_ble_eq_true rfl⟩ ⟨by rw [hrm]; exact Nat.le_of_ble_eq_true rfl, by rw [hrm]; exact Nat.le_of_ble_eq_true rfl⟩ rfl hk2 rfl rfl rfl (Nat.le_of_ble_eq_true rfl) dX4_readLine_25 (fun r2 m2 => ?_)
    refine z_if_eq (tgt := 47) C dX4_readLine_28 (by decide) (fun c2 => ?_) (fun c2 => ?_)
    · refine z_aload_n C dX4_readLine_47 rfl 1 rfl ?_
      refine z_ldcS C (i := 4) (by decide) rfl dX4_readLine_48 ?_
      refine z_chk (fun hk3 => ?_)
      refine z_cVI [va_rf (some (E.adK 4))] [] C mv_RX4_109 (fun r0 m0 h0 => M_X4_isWord _ _ _ _ _ _ _ h0) rfl rfl ⟨by rw [hrm]; exact Nat.le_of_ble_eq_true rfl, by rw [hrm]; exact Nat.le_of_ble_eq_true rfl⟩ ⟨by rw [hrm]; exact Nat.le_of_ble_eq_true rfl, by rw [hrm]; exact Nat.le_of_ble_eq_true rfl⟩ rfl hk3 rfl rfl rfl (Nat.le_of_ble_eq_true rfl) dX4_readLine_50 (fun r3 m3 => ?_)
      refine z_if_eq (tgt := 72) C dX4_readLine_53 (by decide) (fun c3 => ?_) (fun c3 => ?_)
      · refine z_aload_n C dX4_readLine_72 rfl 1 rfl ?_
        refine z_ldcS C (i := 5) (by decide) rfl dX4_readLine_73 ?_
        refine z_chk (fun hk4 => ?_)
        refine z_cVI [va_rf (some (E.adK 5))] [] C mv_RX4_109 (fun r0 m0 h0 => M_X4_isWord _ _ _ _ _ _ _ h0) rfl rfl ⟨by rw [hrm]; exact Nat.le_of_ble_eq_true rfl, by rw [hrm]; exact Nat.le_of_ble_eq_true rfl⟩ ⟨by rw [hrm]; exact Nat.le_of_ble_eq_true rfl, by rw [hrm]; exact Nat.le_of_ble_eq_true rfl⟩ rfl hk4 rfl rfl rfl (Nat.le_of_ble_eq_true rfl) dX4_readLine_75 (fun r4 m4 => ?_)
        refine z_if_eq (tgt := 88) C dX4_readLine_78 (by decide) (fun c4 => ?_) (fun c4 => ?_)
        · refine z_aload_n C dX4_readLine_88 rfl 1 rfl ?_
          refine z_ldcS C (i := 6) (by decide) rfl dX4_readLine_89 ?_
          refine z_chk (fun hk5 => ?_)
          refine z_cVI [va_rf (some (E.adK 6))] [] C mv_RX4_109 (fun r0 m0 h0 => M_X4_isWord _ _ _ _ _ _ _ h0) rfl rfl ⟨by rw [hrm]; exact Nat.le_of_ble_eq_true rfl, by rw [hrm]; exact Nat.le_of_ble_eq_true rfl⟩ ⟨by rw [hrm]; exact Nat.le_of_ble_eq_true rfl, by rw [hrm]; exact Nat.le_of_ble_eq_true rfl⟩ rfl hk5 rfl rfl rfl (Nat.le_of_ble_eq_true rfl) dX4_readLine_91 (fun r5 m5 => ?_)
          refine z_if_eq (tgt := 104) C dX4_readLine_94 (by decide) (fun c5 => ?_) (fun c5 => ?_)
          · refine z_aload_n C dX4_readLine_104 rfl 1 rfl ?_
            refine z_ldcS C (i := 9) (by decide) rfl dX4_readLine_105 ?_
            refine z_chk (fun hk6 => ?_)
            refine z_cVI [va_rf (some (E.adK 9))] [] C mv_RX4_109 (fun r0 m0 h0 => M_X4_isWord _ _ _ _ _ _ _ h0) rfl rfl ⟨by rw [hrm]; exact Nat.le_of_ble_eq_true rfl, by rw [hrm]; exact Nat.le_of_ble_eq_true rfl⟩ ⟨by rw [hrm]; exact Nat.le_of_ble_eq_true rfl, by rw [hrm]; exact Nat.le_of_ble_eq_true rfl⟩ rfl hk6 rfl rfl rfl (Nat.le_of_ble_eq_true rfl) dX4_readLine_107 (fun r6 m6 => ?_)
            refine z_if_eq (tgt := 121) C dX4_readLine_110 (by decide) (fun c6 => ?_) (fun c6 => ?_)
            · refine z_aload_n C dX4_readLine_121 rfl 1 rfl ?_
              refine z_ldcS C (i := 10) (by decide) rfl dX4_readLine_122 ?_
              refine z_chk (fun hk7 => ?_)
              refine z_cVI [va_rf (some (E.adK 10))] [] C mv_RX4_109 (fun r0 m0 h0 => M_X4_isWord _ _ _ _ _ _ _ h0) rfl rfl ⟨by rw [hrm]; exact Nat.le_of_ble_eq_true rfl, by rw [hrm]; exact Nat.le_of_ble_eq_true rfl⟩ ⟨by rw [hrm]; exact Nat.le_of_ble_eq_true rfl, by rw [hrm]; exact Nat.le_of_ble_eq_true rfl⟩ rfl hk7 rfl rfl rfl (Nat.le_of_ble_eq_true rfl) dX4_readLine_124 (fun r7 m7 => ?_)
              refine z_if_eq (tgt := 138) C dX4_readLine_127 (by decide) (fun c7 => ?_) (fun c7 => ?_)
              · refine z_aload_n C dX4_readLine_138 rfl 1 rfl ?_
                refine z_ldcS C (i := 11) (by decide) rfl dX4_readLine_139 ?_
                refine z_chk (fun hk8 => ?_)
                refine z_cVI [va_rf (some (E.adK 11))] [] C mv_RX4_109 (fun r0 m0 h0 => M_X4_isWord _ _ _ _ _ _ _ h0) rfl rfl ⟨by rw [hrm]; exact Nat.le_of_ble_eq_true rfl, by rw [hrm]; exact Nat.le_of_ble_eq_true rfl⟩ ⟨by rw [hrm]; exact Nat.le_of_ble_eq_true rfl, by rw [hrm]; exact Nat.le_of_ble_eq_true rfl⟩ rfl hk8 rfl rfl rfl (Nat.le_of_ble_eq_true rfl) dX4_readLine_141 (fun r8 m8 => ?_)
                refine z_if_eq (tgt := 154) C dX4_readLine_144 (by decide) (fun c8 => ?_) (fun c8 => ?_)
                · refine z_aload_n C dX4_readLine_154 rfl 1 rfl ?_
                  refine z_ldcS C (i := 12) (by decide) rfl dX4_readLine_155 ?_
                  refine z_chk (fun hk9 => ?_)
                  refine z_cVI [va_rf (some (E.adK 12))] [] C mv_RX4_109 (fun r0 m0 h0 => M_X4_isWord _ _ _ _ _ _ _ h0) rfl rfl ⟨by rw [hrm]; exact Nat.le_of_ble_eq_true rfl, by rw [hrm]; exact Nat.le_of_ble_eq_true rfl⟩ ⟨by rw [hrm]; exact Nat.le_of_ble_eq_true rfl, by rw [hrm]; exact Nat.le_of_ble_eq_true rfl⟩ rfl hk9 rfl rfl rfl (Nat.le_of_ble_eq_true rfl) dX4_readLine_157 (fun r9 m9 => ?_)
                  refine z_if_eq (tgt := 170) C dX4_readLine_160 (by decide) (fun c9 => ?_) (fun c9 => ?_)
                  · refine z_aload_n C dX4_readLine_170 rfl 1 rfl ?_
                    refine z_chk (fun hk10 => ?_)
                    refine z_cVV [] [] C mv_RX4_161 (fun r0 m0 h0 => M_X4_breakOff _ _ _ _ _ _ h0) rfl rfl ⟨by rw [hrm]; exact Nat.le_of_ble_eq_true rfl, by rw [hrm]; exact Nat.le_of_ble_eq_true rfl⟩ ⟨by rw [hrm]; exact Nat.le_of_ble_eq_true rfl, by rw [hrm]; exact Nat.le_of_ble_eq_true rfl⟩ rfl hk10 rfl rfl rfl (Nat.le_of_ble_eq_true rfl) dX4_readLine_171 (fun r10 m10 => ?_)
                    exact z_vret C hr dX4_readLine_174
                  · refine z_aload_n C dX4_readLine_163 rfl 1 rfl ?_
                    refine z_chk (fun hk11 => ?_)
                    refine z_cVV [] [] C mv_RX4_158 (fun r0 m0 h0 => M_X4_readGrow _ _ _ _ _ _ h0) rfl rfl ⟨by rw [hrm]; exact Nat.le_of_ble_eq_true rfl, by rw [hrm]; exact Nat.le_of_ble_eq_true rfl⟩ ⟨by rw [hrm]; exact Nat.le_of_ble_eq_true rfl, by rw [hrm]; exact Nat.le_of_ble_eq_true rfl⟩ rfl hk11 rfl rfl rfl (Nat.le_of_ble_eq_true rfl) dX4_readLine_164 (fun r11 m11 => ?_)
                    refine z_goto (tgt := 174) C dX4_readLine_167 (by decide) ?_
                    exact z_vret C hr dX4_readLine_174
                · refine z_aload_n C dX4_readLine_147 rfl 1 rfl ?_
                  refine z_chk (fun hk12 => ?_)
                  refine z_cVV [] [] C mv_RX4_153 (fun r0 m0 h0 => M_X4_readCost _ _ _ _ _ _ h0) rfl rfl ⟨by rw [hrm]; exact Nat.le_of_ble_eq_true rfl, by rw [hrm]; exact Nat.le_of_ble_eq_true rfl⟩ ⟨by rw [hrm]; exact Nat.le_of_ble_eq_true rfl, by rw [hrm]; exact Nat.le_of_ble_eq_true rfl⟩ rfl hk12 rfl rfl rfl (Nat.le_of_ble_eq_true rfl) dX4_readLine_148 (fun r12 m12 => ?_)
                  refine z_goto (tgt := 174) C dX4_readLine_151 (by decide) ?_
                  exact z_vret C hr dX4_readLine_174
              · refine z_aload_n C dX4_readLine_130 rfl 1 rfl ?_
                refine z_iload_n C dX4_readLine_131 rfl 0 rfl ?_
                refine z_chk (fun hk13 => ?_)
                refine z_cVV [.int y1] [] C mv_RX4_148 (fun r0 m0 h0 => M_X4_readObjection _ _ _ _ _ _ _ h0) rfl rfl ⟨by rw [hrm]; exact Nat.le_of_ble_eq_true rfl, by rw [hrm]; exact Nat.le_of_ble_eq_true rfl⟩ ⟨by rw [hrm]; exact Nat.le_of_ble_eq_true rfl, by rw [hrm]; exact Nat.le_of_ble_eq_true rfl⟩ rfl hk13 rfl rfl rfl (Nat.le_of_ble_eq_true rfl) dX4_readLine_132 (fun r13 m13 => ?_)
                refine z_goto (tgt := 174) C dX4_readLine_135 (by decide) ?_
                exact z_vret C hr dX4_readLine_174
            · refine z_aload_n C dX4_readLine_113 rfl 1 rfl ?_
              refine z_iload_n C dX4_readLine_114 rfl 0 rfl ?_
              refine z_chk (fun hk14 => ?_)
              refine z_cVV [.int y1] [] C mv_RX4_143 (fun r0 m0 h0 => M_X4_readLeave _ _ _ _ _ _ _ h0) rfl rfl ⟨by rw [hrm]; exact Nat.le_of_ble_eq_true rfl, by rw [hrm]; exact Nat.le_of_ble_eq_true rfl⟩ ⟨by rw [hrm]; exact Nat.le_of_ble_eq_true rfl, by rw [hrm]; exact Nat.le_of_ble_eq_true rfl⟩ rfl hk14 rfl rfl rfl (Nat.le_of_ble_eq_true rfl) dX4_readLine_115 (fun r14 m14 => ?_)
              refine z_goto (tgt := 174) C dX4_readLine_118 (by decide) ?_
              exact z_vret C hr dX4_readLine_174
          · refine z_aload_n C dX4_readLine_97 rfl 1 rfl ?_
            refine z_chk (fun hk15 => ?_)
            refine z_cVV [] [] C mv_RX4_138 (fun r0 m0 h0 => M_X4_readSlope _ _ _ _ _ _ h0) rfl rfl ⟨by rw [hrm]; exact Nat.le_of_ble_eq_true rfl, by rw [hrm]; exact Nat.le_of_ble_eq_true rfl⟩ ⟨by rw [hrm]; exact Nat.le_of_ble_eq_true rfl, by rw [hrm]; exact Nat.le_of_ble_eq_true rfl⟩ rfl hk15 rfl rfl rfl (Nat.le_of_ble_eq_true rfl) dX4_readLine_98 (fun r15 m15 => ?_)
            refine z_goto (tgt := 174) C dX4_readLine_101 (by decide) ?_
            exact z_vret C hr dX4_readLine_174
        · refine z_aload_n C dX4_readLine_81 rfl 1 rfl ?_
          refine z_chk (fun hk16 => ?_)
          refine z_cVV [] [] C mv_RX4_133 (fun r0 m0 h0 => M_X4_readWind _ _ _ _ _ _ h0) rfl rfl ⟨by rw [hrm]; exact Nat.le_of_ble_eq_true rfl, by rw [hrm]; exact Nat.le_of_ble_eq_true rfl⟩ ⟨by rw [hrm]; exact Nat.le_of_ble_eq_true rfl, by rw [hrm]; exact Nat.le_of_ble_eq_true rfl⟩ rfl hk16 rfl rfl rfl (Nat.le_of_ble_eq_true rfl) dX4_readLine_82 (fun r16 m16 => ?_)
          refine z_goto (tgt := 174) C dX4_readLine_85 (by decide) ?_
          exact z_vret C hr dX4_readLine_174
      · refine z_aload_n C dX4_readLine_56 rfl 1 rfl ?_
        refine z_aload_n C dX4_readLine_57 rfl 1 rfl ?_
        refine z_chk (fun hk17 => ?_)
        refine z_getR C fl_RX4_12 rfl hk17 dX4_readLine_58 ?_
        refine z_ck (fun a1 hr1 hk18 => ?_)
        refine z_getR C fl_RX4_128 hr1 hk18 dX4_readLine_61 ?_
        refine z_iload_n C dX4_readLine_64 rfl 0 rfl ?_
        refine z_iconst (v := 4) C dX4_readLine_65 (by decide) ?_
        refine z_cVV [va_rf (m3.R 906 a1 0), .int y1, .int 4] [] C mv_RX4_122 (fun r0 m0 h0 => M_X4_readSpan _ _ _ _ _ _ _ _ _ h0) rfl rfl ⟨by rw [hrm]; exact Nat.le_of_ble_eq_true rfl, by rw [hrm]; exact Nat.le_of_ble_eq_true rfl⟩ ⟨by rw [hrm]; exact Nat.le_of_ble_eq_true rfl, by rw [hrm]; exact Nat.le_of_ble_eq_true rfl⟩ rfl hk17 rfl rfl rfl (Nat.le_of_ble_eq_true rfl) dX4_readLine_66 (fun r17 m17 => ?_)
        refine z_goto (tgt := 174) C dX4_readLine_69 (by decide) ?_
        exact z_vret C hr dX4_readLine_174
    · refine z_aload_n C dX4_readLine_31 rfl 1 rfl ?_
      refine z_aload_n C dX4_readLine_32 rfl 1 rfl ?_
      refine z_chk (fun hk19 => ?_)
      refine z_getR C fl_RX4_12 rfl hk19 dX4_readLine_33 ?_
      refine z_ck (fun a2 hr2 hk20 => ?_)
      refine z_getR C fl_RX4_118 hr2 hk20 dX4_readLine_36 ?_
      refine z_iload_n C dX4_readLine_39 rfl 0 rfl ?_
      refine z_iconst (v := 5) C dX4_readLine_40 (by decide) ?_
      refine z_cVV [va_rf (m2.R 905 a2 0), .int y1, .int 5] [] C mv_RX4_122 (fun r0 m0 h0 => M_X4_readSpan _ _ _ _ _ _ _ _ _ h0) rfl rfl ⟨by rw [hrm]; exact Nat.le_of_ble_eq_true rfl, by rw [hrm]; exact Nat.le_of_ble_eq_true rfl⟩ ⟨by rw [hrm]; exact Nat.le_of_ble_eq_true rfl, by rw [hrm]; exact Nat.le_of_ble_eq_true rfl⟩ rfl hk19 rfl rfl rfl (Nat.le_of_ble_eq_true rfl) dX4_readLine_41 (fun r18 m18 => ?_)
      refine z_goto (tgt := 174) C dX4_readLine_44 (by decide) ?_
      exact z_vret C hr dX4_readLine_174
  · refine z_aload_n C dX4_readLine_14 rfl 1 rfl ?_
    refine z_iload_n C dX4_readLine_15 rfl 0 rfl ?_
    refine z_chk (fun hk21 => ?_)
    refine z_cVV [.int y1] [] C mv_RX4_112 (fun r0 m0 h0 => M_X4_readThing _ _ _ _ _ _ _ h0) rfl rfl ⟨by rw [hrm]; exact Nat.le_of_ble_eq_true rfl, by rw [hrm]; exact Nat.le_of_ble_eq_true rfl⟩ ⟨by rw [hrm]; exact Nat.le_of_ble_eq_true rfl, by rw [hrm]; exact Nat.le_of_ble_eq_true rfl⟩ rfl hk21 rfl rfl rfl (Nat.le_of_ble_eq_true rfl) dX4_readLine_16 (fun r19 m19 => ?_)
    refine z_goto (tgt := 174) C dX4_readLine_19 (by decide) ?_
    exact z_vret C hr dX4_readLine_174
def f_X4_readLine (th : Nat) (m : MM) : Option (Unit × MM) := g_X4_readLine_0 th m
theorem M_X4_readLine (l : Launch) (E : EX) (th : Nat) (m : MM) (r : Unit) (m2 : MM) (h : f_X4_readLine th m = some (r, m2)) : Met l yX4_readLine (.code yX4_readLine cX4_readLine 2 none :: TB) rmX4_readLine (va_Pc [.ref th] (St E m)) (QR E (emV r) m2) 0 0 (AA E) :=
  met_of (em := emV) (plainFor_of_name rfl) (Nat.le_of_ble_eq_true rfl) (L0 := [(0, va_rf (some th))]) rfl (fun Γ _ hrm C hr hn => s_X4_readLine_0 C hr hrm th m) h

theorem dX4_readTown_0 : decode cX4_readTown 0 = .ok (.aload_n 0, 1) := by decide +kernel
theorem dX4_readTown_1 : decode cX4_readTown 1 = .ok (.aload_n 1, 1) := by decide +kernel
theorem dX4_readTown_2 : decode cX4_readTown 2 = .ok (.iload_n 2, 1) := by decide +kernel
theorem dX4_readTown_3 : decode cX4_readTown 3 = .ok (.invokevirtual 32, 3) := by decide +kernel
theorem dX4_readTown_6 : decode cX4_readTown 6 = .ok (.aload_n 0, 1) := by decide +kernel
theorem dX4_readTown_7 : decode cX4_readTown 7 = .ok (.getfield 12, 3) := by decide +kernel
theorem dX4_readTown_10 : decode cX4_readTown 10 = .ok (.invokevirtual 36, 3) := by decide +kernel
theorem dX4_readTown_13 : decode cX4_readTown 13 = .ok (.aload_n 0, 1) := by decide +kernel
theorem dX4_readTown_14 : decode cX4_readTown 14 = .ok (.invokevirtual 39, 3) := by decide +kernel
theorem dX4_readTown_17 : decode cX4_readTown 17 = .ok (.iconst 1, 1) := by decide +kernel
theorem dX4_readTown_18 : decode cX4_readTown 18 = .ok (.istore_n 3, 1) := by decide +kernel
theorem dX4_readTown_19 : decode cX4_readTown 19 = .ok (.iload_n 3, 1) := by decide +kernel
theorem dX4_readTown_20 : decode cX4_readTown 20 = .ok (.sipush 500, 3) := by decide +kernel
theorem dX4_readTown_23 : decode cX4_readTown 23 = .ok (.if_icmp .gt 43, 3) := by decide +kernel
theorem dX4_readTown_26 : decode cX4_readTown 26 = .ok (.aload_n 0, 1) := by decide +kernel
theorem dX4_readTown_27 : decode cX4_readTown 27 = .ok (.getfield 42, 3) := by decide +kernel
theorem dX4_readTown_30 : decode cX4_readTown 30 = .ok (.iconst 1, 1) := by decide +kernel
theorem dX4_readTown_31 : decode cX4_readTown 31 = .ok (.if_icmp .eq 35, 3) := by decide +kernel
theorem dX4_readTown_34 : decode cX4_readTown 34 = .ok (.aload_n 0, 1) := by decide +kernel
theorem dX4_readTown_35 : decode cX4_readTown 35 = .ok (.getfield 46, 3) := by decide +kernel
theorem dX4_readTown_38 : decode cX4_readTown 38 = .ok (.ifCond .eq 28, 3) := by decide +kernel
theorem dX4_readTown_41 : decode cX4_readTown 41 = .ok (.iload_n 3, 1) := by decide +kernel
theorem dX4_readTown_42 : decode cX4_readTown 42 = .ok (.bipush 40, 2) := by decide +kernel
theorem dX4_readTown_44 : decode cX4_readTown 44 = .ok (.if_icmp .le 12, 3) := by decide +kernel
theorem dX4_readTown_47 : decode cX4_readTown 47 = .ok (.aload_n 0, 1) := by decide +kernel
theorem dX4_readTown_48 : decode cX4_readTown 48 = .ok (.iconst 3, 1) := by decide +kernel
theorem dX4_readTown_49 : decode cX4_readTown 49 = .ok (.aload_n 0, 1) := by decide +kernel
theorem dX4_readTown_50 : decode cX4_readTown 50 = .ok (.getfield 49, 3) := by decide +kernel
theorem dX4_readTown_53 : decode cX4_readTown 53 = .ok (.invokevirtual 52, 3) := by decide +kernel
theorem dX4_readTown_56 : decode cX4_readTown 56 = .ok (.aload_n 0, 1) := by decide +kernel
theorem dX4_readTown_57 : decode cX4_readTown 57 = .ok (.invokevirtual 56, 3) := by decide +kernel
theorem dX4_readTown_60 : decode cX4_readTown 60 = .ok (.iinc 3 1, 3) := by decide +kernel
theorem dX4_readTown_63 : decode cX4_readTown 63 = .ok (.goto (-44), 3) := by decide +kernel
theorem dX4_readTown_66 : decode cX4_readTown 66 = .ok (.aload_n 0, 1) := by decide +kernel
theorem dX4_readTown_67 : decode cX4_readTown 67 = .ok (.getfield 42, 3) := by decide +kernel
theorem dX4_readTown_70 : decode cX4_readTown 70 = .ok (.ifCond .ne 7, 3) := by decide +kernel
theorem dX4_readTown_73 : decode cX4_readTown 73 = .ok (.iconst 1, 1) := by decide +kernel
theorem dX4_readTown_74 : decode cX4_readTown 74 = .ok (.goto 4, 3) := by decide +kernel
theorem dX4_readTown_77 : decode cX4_readTown 77 = .ok (.iconst 0, 1) := by decide +kernel
theorem dX4_readTown_78 : decode cX4_readTown 78 = .ok (.ireturn, 1) := by decide +kernel
def rmX4_readTown : Room := { frames := 8, cells := 0, slots := 0, locals := 171 }
set_option maxRecDepth 100000 in
def g_X4_readTown_56 (th : Nat) (p1 : Option Nat) (p2 : Int32) (k19 : Int32 → MM → Option (Int32 × MM)) (k66 : MM → Option (Int32 × MM)) (x3 : Int32) (m : MM) : Option (Int32 × MM) :=
  chk (m.K th = 5) (cal (f_X4_readLine th m) (fun r1 m1 => k19 (x3 + 1) m1))
set_option maxHeartbeats 4000000 in
set_option maxRecDepth 100000 in
theorem s_X4_readTown_56 {Γ : GX} {E : EX} (C : Cx Γ E cX4_readTown RX4 4) (hr : Γ.meth.sig.returnType = (some .boolean)) (hrm : Γ.rm = rmX4_readTown) (th : Nat) (p1 : Option Nat) (p2 : Int32) (k19 : Int32 → MM → Option (Int32 × MM)) (k66 : MM → Option (Int32 × MM)) (h19 : ∀ (x3 : Int32) (m : MM), Sm (QM Γ E emI 0 0) Γ E 4 0 0 19 [(0, va_rf (some th)), (1, va_rf p1), (2, .int p2), (3, .int x3)] [] m (k19 x3 m)) (h66 : ∀ (m : MM), Sm (QM Γ E emI 0 0) Γ E 4 0 0 66 [(0, va_rf (some th)), (1, va_rf p1), (2, .int p2)] [] m (k66 m)) (x3 : Int32) (m : MM) : Sm (QM Γ E emI 0 0) Γ E 4 0 0 56 [(0, va_rf (some th)), (1, va_rf p1), (2, .int p2), (3, .int x3)] [] m (g_X4_readTown_56 th p1 p2 k19 k66 x3 m) := by
  unfold g_X4_readTown_56
  refine z_aload_n C dX4_readTown_56 rfl 0 rfl ?_
  refine z_chk (fun hk1 => ?_)
  refine z_cVV [] [] C mv_RX4_56 (fun r0 m0 h0 => M_X4_readLine _ _ _ _ _ _ h0) rfl rfl ⟨by rw [hrm]; exact Nat.le_of_ble_eq_true rfl, by rw [hrm]; exact Nat.le_of_ble_eq_true rfl⟩ ⟨by rw [hrm]; exact Nat.le_of_ble_eq_true rfl, by rw [hrm]; exact Nat.le_of_ble_eq_true rfl⟩ rfl hk1 rfl rfl rfl (Nat.le_of_ble_eq_true rfl) dX4_readTown_57 (fun r1 m1 => ?_)
  refine z_iinc (v := 1) (L2 := [(3, .int (x3 + 1)), (0, va_rf (some th)), (1, va_rf p1), (2, .int p2)]) C dX4_readTown_60 3 rfl (by decide) (by decide) rfl ?_
  refine z_goto (tgt := 19) C dX4_readTown_63 (by decide) ?_
  exact z_sub [1, 2, 3, 0] rfl (h19 (x3 + 1) m1)
set_option maxRecDepth 100000 in
def g_X4_readTown_19 (th : Nat) (p1 : Option Nat) (p2 : Int32) (k19 : Int32 → MM → Option (Int32 × MM)) (k66 : MM → Option (Int32 × MM)) (x3 : Int32) (m : MM) : Option (Int32 × MM) :=
  if 500 < x3 then (k66 m) else (chk (m.K th = 5) (if (m.I 510 th 0) = 1 then (k66 m) else (if (m.I 507 th 0) = 0 then (k66 m) else (if x3 ≤ 40 then (g_X4_readTown_56 th p1 p2 k19 k66 x3 m) else (cal (f_X4_note th 3 (m.I 508 th 0) m) (fun r2 m2 => g_X4_readTown_56 th p1 p2 k19 k66 x3 m2))))))
set_option maxHeartbeats 4000000 in
set_option maxRecDepth 100000 in
theorem s_X4_readTown_19 {Γ : GX} {E : EX} (C : Cx Γ E cX4_readTown RX4 4) (hr : Γ.meth.sig.returnType = (some .boolean)) (hrm : Γ.rm = rmX4_readTown) (th : Nat) (p1 : Option Nat) (p2 : Int32) (k19 : Int32 → MM → Option (Int32 × MM)) (k66 : MM → Option (Int32 × MM)) (h19 : ∀ (x3 : Int32) (m : MM), Sm (QM Γ E emI 0 0) Γ E 4 0 0 19 [(0, va_rf (some th)), (1, va_rf p1), (2, .int p2), (3, .int x3)] [] m (k19 x3 m)) (h66 : ∀ (m : MM), Sm (QM Γ E emI 0 0) Γ E 4 0 0 66 [(0, va_rf (some th)), (1, va_rf p1), (2, .int p2)] [] m (k66 m)) (x3 : Int32) (m : MM) : Sm (QM Γ E emI 0 0) Γ E 4 0 0 19 [(0, va_rf (some th)), (1, va_rf p1), (2, .int p2), (3, .int x3)] [] m (g_X4_readTown_19 th p1 p2 k19 k66 x3 m) := by
  unfold g_X4_readTown_19
  refine z_iload_n C dX4_readTown_19 rfl 3 rfl ?_
  refine z_sipush (v := 500) C dX4_readTown_20 (by decide) ?_
  refine z_icmp_gt (tgt := 66) C dX4_readTown_23 (by decide) (fun c1 => ?_) (fun c1 => ?_)
  · exact z_sub [0, 1, 2] rfl (h66 m)
  · refine z_aload_n C dX4_readTown_26 rfl 0 rfl ?_
    refine z_chk (fun hk2 => ?_)
    refine z_getI C fl_RX4_42 rfl hk2 dX4_readTown_27 ?_
    refine z_iconst (v := 1) C dX4_readTown_30 (by decide) ?_
    refine z_icmp_eq (tgt := 66) C dX4_readTown_31 (by decide) (fun c2 => ?_) (fun c2 => ?_)
    · exact z_sub [0, 1, 2] rfl (h66 m)
    · refine z_aload_n C dX4_readTown_34 rfl 0 rfl ?_
      refine z_getI C fl_RX4_46 rfl hk2 dX4_readTown_35 ?_
      refine z_if_eq (tgt := 66) C dX4_readTown_38 (by decide) (fun c3 => ?_) (fun c3 => ?_)
      · exact z_sub [0, 1, 2] rfl (h66 m)
      · refine z_iload_n C dX4_readTown_41 rfl 3 rfl ?_
        refine z_bipush (v := 40) C dX4_readTown_42 (by decide) ?_
        refine z_icmp_le (tgt := 56) C dX4_readTown_44 (by decide) (fun c4 => ?_) (fun c4 => ?_)
        · exact z_sub [0, 1, 2, 3] rfl (s_X4_readTown_56 C hr hrm th p1 p2 k19 k66 h19 h66 x3 m)
        · refine z_aload_n C dX4_readTown_47 rfl 0 rfl ?_
          refine z_iconst (v := 3) C dX4_readTown_48 (by decide) ?_
          refine z_aload_n C dX4_readTown_49 rfl 0 rfl ?_
          refine z_getI C fl_RX4_49 rfl hk2 dX4_readTown_50 ?_
          refine z_cVV [.int 3, .int (m.I 508 th 0)] [] C mv_RX4_52 (fun r0 m0 h0 => M_X4_note _ _ _ _ _ _ _ _ h0) rfl rfl ⟨by rw [hrm]; exact Nat.le_of_ble_eq_true rfl, by rw [hrm]; exact Nat.le_of_ble_eq_true rfl⟩ ⟨by rw [hrm]; exact Nat.le_of_ble_eq_true rfl, by rw [hrm]; exact Nat.le_of_ble_eq_true rfl⟩ rfl hk2 rfl rfl rfl (Nat.le_of_ble_eq_true rfl) dX4_readTown_53 (fun r2 m2 => ?_)
          exact z_sub [0, 1, 2, 3] rfl (s_X4_readTown_56 C hr hrm th p1 p2 k19 k66 h19 h66 x3 m2)
def l_X4_readTown_19 (th : Nat) (p1 : Option Nat) (p2 : Int32) (k66 : MM → Option (Int32 × MM)) : Nat → Int32 → MM → Option (Int32 × MM) := lp (fun _ _ => none) (fun k19 => g_X4_readTown_19 th p1 p2 k19 k66)
theorem t_X4_readTown_19 {Γ : GX} {E : EX} (C : Cx Γ E cX4_readTown RX4 4) (hr : Γ.meth.sig.returnType = (some .boolean)) (hrm : Γ.rm = rmX4_readTown) (th : Nat) (p1 : Option Nat) (p2 : Int32) (k66 : MM → Option (Int32 × MM)) (h66 : ∀ (m : MM), Sm (QM Γ E emI 0 0) Γ E 4 0 0 66 [(0, va_rf (some th)), (1, va_rf p1), (2, .int p2)] [] m (k66 m)) : ∀ (n : Nat) (x3 : Int32) (m : MM), Sm (QM Γ E emI 0 0) Γ E 4 0 0 19 [(0, va_rf (some th)), (1, va_rf p1), (2, .int p2), (3, .int x3)] [] m (l_X4_readTown_19 th p1 p2 k66 n x3 m) := by
  intro n
  induction n with
  | zero => intros; exact z_none
  | succ n ih => intro x3 m; exact s_X4_readTown_19 C hr hrm th p1 p2 (l_X4_readTown_19 th p1 p2 k66 n) k66 ih h66 x3 m
set_option maxRecDepth 100000 in
def g_X4_readTown_66 (th : Nat) (p1 : Option Nat) (p2 : Int32) (m : MM) : Option (Int32 × MM) :=
  chk (m.K th = 5) (if (m.I 510 th 0) = 0 then (some (1, m)) else (some (0, m)))
set_option maxHeartbeats 4000000 in
set_option maxRecDepth 100000 in
theorem s_X4_readTown_66 {Γ : GX} {E : EX} (C : Cx Γ E cX4_readTown RX4 4) (hr : Γ.meth.sig.returnType = (some .boolean)) (hrm : Γ.rm = rmX4_readTown) (th : Nat) (p1 : Option Nat) (p2 : Int32) (m : MM) : Sm (QM Γ E emI 0 0) Γ E 4 0 0 66 [(0, va_rf (some th)), (1, va_rf p1), (2, .int p2)] [] m (g_X4_readTown_66 th p1 p2 m) := by
  unfold g_X4_readTown_66
  refine z_aload_n C dX4_readTown_66 rfl 0 rfl ?_
  refine z_chk (fun hk3 => ?_)
  refine z_getI C fl_RX4_42 rfl hk3 dX4_readTown_67 ?_
  refine z_if_ne (tgt := 77) C dX4_readTown_70 (by decide) (fun c5 => ?_) (fun c5 => ?_)
  · refine z_iconst (v := 0) C dX4_readTown_77 (by decide) ?_
    exact z_zret C hr rfl dX4_readTown_78
  · refine z_iconst (v := 1) C dX4_readTown_73 (by decide) ?_
    refine z_goto (tgt := 78) C dX4_readTown_74 (by decide) ?_
    exact z_zret C hr rfl dX4_readTown_78
set_option maxRecDepth 100000 in
def g_X4_readTown_0 (th : Nat) (p1 : Option Nat) (p2 : Int32) (m : MM) : Option (Int32 × MM) :=
  chk (m.K th = 5) (cal (f_X4_begin th p1 p2 m) (fun r3 m3 => chk (m3.K th = 5) (ck m3 (m3.R 500 th 0) 9 (fun a1 => cal (f_X8_clear a1 m3) (fun r4 m4 => chk (m4.K th = 5) (cal (f_X4_readSize th m4) (fun r5 m5 => l_X4_readTown_19 th p1 p2 (g_X4_readTown_66 th p1 p2) FU 1 m5)))))))
set_option maxHeartbeats 4000000 in
set_option maxRecDepth 100000 in
theorem s_X4_readTown_0 {Γ : GX} {E : EX} (C : Cx Γ E cX4_readTown RX4 4) (hr : Γ.meth.sig.returnType = (some .boolean)) (hrm : Γ.rm = rmX4_readTown) (th : Nat) (p1 : Option Nat) (p2 : Int32) (m : MM) : Sm (QM Γ E emI 0 0) Γ E 4 0 0 0 [(0, va_rf (some th)), (1, va_rf p1), (2, .int p2)] [] m (g_X4_readTown_0 th p1 p2 m) := by
  unfold g_X4_readTown_0
  refine z_aload_n C dX4_readTown_0 rfl 0 rfl ?_
  refine z_aload_n C dX4_readTown_1 rfl 1 rfl ?_
  refine z_iload_n C dX4_readTown_2 rfl 2 rfl ?_
  refine z_chk (fun hk4 => ?_)
  refine z_cVV [va_rf p1, .int p2] [] C mv_RX4_32 (fun r0 m0 h0 => M_X4_begin _ _ _ _ _ _ _ _ h0) rfl rfl ⟨by rw [hrm]; exact Nat.le_of_ble_eq_true rfl, by rw [hrm]; exact Nat.le_of_ble_eq_true rfl⟩ ⟨by rw [hrm]; exact Nat.le_of_ble_eq_true rfl, by rw [hrm]; exact Nat.le_of_ble_eq_true rfl⟩ rfl hk4 rfl rfl rfl (Nat.le_of_ble_eq_true rfl) dX4_readTown_3 (fun r3 m3 => ?_)
  refine z_aload_n C dX4_readTown_6 rfl 0 rfl ?_
  refine z_chk (fun hk5 => ?_)
  refine z_getR C fl_RX4_12 rfl hk5 dX4_readTown_7 ?_
  refine z_ck (fun a1 hr1 hk6 => ?_)
  refine z_cVV [] [] C mv_RX4_36 (fun r0 m0 h0 => M_X8_clear _ _ _ _ _ _ h0) rfl rfl ⟨by rw [hrm]; exact Nat.le_of_ble_eq_true rfl, by rw [hrm]; exact Nat.le_of_ble_eq_true rfl⟩ ⟨by rw [hrm]; exact Nat.le_of_ble_eq_true rfl, by rw [hrm]; exact Nat.le_of_ble_eq_true rfl⟩ hr1 hk6 rfl rfl rfl (Nat.le_of_ble_eq_true rfl) dX4_readTown_10 (fun r4 m4 => ?_)
  refine z_aload_n C dX4_readTown_13 rfl 0 rfl ?_
  refine z_chk (fun hk7 => ?_)
  refine z_cVV [] [] C mv_RX4_39 (fun r0 m0 h0 => M_X4_readSize _ _ _ _ _ _ h0) rfl rfl ⟨by rw [hrm]; exact Nat.le_of_ble_eq_true rfl, by rw [hrm]; exact Nat.le_of_ble_eq_true rfl⟩ ⟨by rw [hrm]; exact Nat.le_of_ble_eq_true rfl, by rw [hrm]; exact Nat.le_of_ble_eq_true rfl⟩ rfl hk7 rfl rfl rfl (Nat.le_of_ble_eq_true rfl) dX4_readTown_14 (fun r5 m5 => ?_)
  refine z_iconst (v := 1) C dX4_readTown_17 (by decide) ?_
  refine z_istore_n (i := 3) (L2 := [(3, .int 1), (0, va_rf (some th)), (1, va_rf p1), (2, .int p2)]) C dX4_readTown_18 rfl (by decide) rfl ?_
  exact z_sub [1, 2, 3, 0] rfl (t_X4_readTown_19 C hr hrm th p1 p2 (g_X4_readTown_66 th p1 p2) (s_X4_readTown_66 C hr hrm th p1 p2) FU 1 m5)
def f_X4_readTown (th : Nat) (p1 : Option Nat) (p2 : Int32) (m : MM) : Option (Int32 × MM) := g_X4_readTown_0 th p1 p2 m
theorem M_X4_readTown (l : Launch) (E : EX) (th : Nat) (p1 : Option Nat) (p2 : Int32) (m : MM) (r : Int32) (m2 : MM) (h : f_X4_readTown th p1 p2 m = some (r, m2)) : Met l yX4_readTown (.code yX4_readTown cX4_readTown 4 (some .boolean) :: TB) rmX4_readTown (va_Pc [.ref th, va_rf p1, .int p2] (St E m)) (QR E (emI r) m2) 0 0 (AA E) :=
  met_of (em := emI) (plainFor_of_name rfl) (by simp [lg_sl, cat_rf, cat_i, cat_l, cat_a]) (L0 := [(0, va_rf (some th)), (1, va_rf p1), (2, .int p2)]) (by simp [lv_args, cat_rf, cat_i, cat_l, cat_a] <;> rfl) (fun Γ _ hrm C hr hn => s_X4_readTown_0 C hr hrm th p1 p2 m) h

theorem dX4_wordSort_0 : decode cX4_wordSort 0 = .ok (.aload_n 0, 1) := by decide +kernel
theorem dX4_wordSort_1 : decode cX4_wordSort 1 = .ok (.ldc 250, 2) := by decide +kernel
theorem dX4_wordSort_3 : decode cX4_wordSort 3 = .ok (.invokevirtual 109, 3) := by decide +kernel
theorem dX4_wordSort_6 : decode cX4_wordSort 6 = .ok (.ifCond .eq 5, 3) := by decide +kernel
theorem dX4_wordSort_9 : decode cX4_wordSort 9 = .ok (.iconst 0, 1) := by decide +kernel
theorem dX4_wordSort_10 : decode cX4_wordSort 10 = .ok (.ireturn, 1) := by decide +kernel
theorem dX4_wordSort_11 : decode cX4_wordSort 11 = .ok (.aload_n 0, 1) := by decide +kernel
theorem dX4_wordSort_12 : decode cX4_wordSort 12 = .ok (.ldc 131, 2) := by decide +kernel
theorem dX4_wordSort_14 : decode cX4_wordSort 14 = .ok (.invokevirtual 109, 3) := by decide +kernel
theorem dX4_wordSort_17 : decode cX4_wordSort 17 = .ok (.ifCond .eq 5, 3) := by decide +kernel
theorem dX4_wordSort_20 : decode cX4_wordSort 20 = .ok (.iconst 1, 1) := by decide +kernel
theorem dX4_wordSort_21 : decode cX4_wordSort 21 = .ok (.ireturn, 1) := by decide +kernel
theorem dX4_wordSort_22 : decode cX4_wordSort 22 = .ok (.aload_n 0, 1) := by decide +kernel
theorem dX4_wordSort_23 : decode cX4_wordSort 23 = .ok (.ldc 252, 2) := by decide +kernel
theorem dX4_wordSort_25 : decode cX4_wordSort 25 = .ok (.invokevirtual 109, 3) := by decide +kernel
theorem dX4_wordSort_28 : decode cX4_wordSort 28 = .ok (.ifCond .eq 5, 3) := by decide +kernel
theorem dX4_wordSort_31 : decode cX4_wordSort 31 = .ok (.iconst 2, 1) := by decide +kernel
theorem dX4_wordSort_32 : decode cX4_wordSort 32 = .ok (.ireturn, 1) := by decide +kernel
theorem dX4_wordSort_33 : decode cX4_wordSort 33 = .ok (.aload_n 0, 1) := by decide +kernel
theorem dX4_wordSort_34 : decode cX4_wordSort 34 = .ok (.ldc 254, 2) := by decide +kernel
theorem dX4_wordSort_36 : decode cX4_wordSort 36 = .ok (.invokevirtual 109, 3) := by decide +kernel
theorem dX4_wordSort_39 : decode cX4_wordSort 39 = .ok (.ifCond .eq 7, 3) := by decide +kernel
theorem dX4_wordSort_42 : decode cX4_wordSort 42 = .ok (.iconst 3, 1) := by decide +kernel
theorem dX4_wordSort_43 : decode cX4_wordSort 43 = .ok (.goto 4, 3) := by decide +kernel
theorem dX4_wordSort_46 : decode cX4_wordSort 46 = .ok (.iconst (-1), 1) := by decide +kernel
theorem dX4_wordSort_47 : decode cX4_wordSort 47 = .ok (.ireturn, 1) := by decide +kernel
def rmX4_wordSort : Room := { frames := 5, cells := 0, slots := 0, locals := 107 }
set_option maxRecDepth 100000 in
def g_X4_wordSort_0 (th : Nat) (m : MM) : Option (Int32 × MM) :=
  chk (m.K th = 5) (cal (f_X4_isWord th 13 m) (fun r1 m1 => if r1 = 0 then (chk (m1.K th = 5) (cal (f_X4_isWord th 5 m1) (fun r2 m2 => if r2 = 0 then (chk (m2.K th = 5) (cal (f_X4_isWord th 14 m2) (fun r3 m3 => if r3 = 0 then (chk (m3.K th = 5) (cal (f_X4_isWord th 15 m3) (fun r4 m4 => if r4 = 0 then (some ((-1), m4)) else (some (3, m4))))) else (some (2, m3))))) else (some (1, m2))))) else (some (0, m1))))
set_option maxHeartbeats 4000000 in
set_option maxRecDepth 100000 in
theorem s_X4_wordSort_0 {Γ : GX} {E : EX} (C : Cx Γ E cX4_wordSort RX4 1) (hr : Γ.meth.sig.returnType = (some .int)) (hrm : Γ.rm = rmX4_wordSort) (th : Nat) (m : MM) : Sm (QM Γ E emI 0 0) Γ E 1 0 0 0 [(0, va_rf (some th))] [] m (g_X4_wordSort_0 th m) := by
  unfold g_X4_wordSort_0
  refine z_aload_n C dX4_wordSort_0 rfl 0 rfl ?_
  refine z_ldcS C (i := 13) (by decide) rfl dX4_wordSort_1 ?_
  refine z_chk (fun hk1 => ?_)
  refine z_cVI [va_rf (some (E.adK 13))] [] C mv_RX4_109 (fun r0 m0 h0 => M_X4_isWord _ _ _ _ _ _ _ h0) rfl rfl ⟨by rw [hrm]; exact Nat.le_of_ble_eq_true rfl, by rw [hrm]; exact Nat.le_of_ble_eq_true rfl⟩ ⟨by rw [hrm]; exact Nat.le_of_ble_eq_true rfl, by rw [hrm]; exact Nat.le_of_ble_eq_true rfl⟩ rfl hk1 rfl rfl rfl (Nat.le_of_ble_eq_true rfl) dX4_wordSort_3 (fun r1 m1 => ?_)
  refine z_if_eq (tgt := 11) C dX4_wordSort_6 (by decide) (fun c1 => ?_) (fun c1 => ?_)
  · refine z_aload_n C dX4_wordSort_11 rfl 0 rfl ?_
    refine z_ldcS C (i := 5) (by decide) rfl dX4_wordSort_12 ?_
    refine z_chk (fun hk2 => ?_)
    refine z_cVI [va_rf (some (E.adK 5))] [] C mv_RX4_109 (fun r0 m0 h0 => M_X4_isWord _ _ _ _ _ _ _ h0) rfl rfl ⟨by rw [hrm]; exact Nat.le_of_ble_eq_true rfl, by rw [hrm]; exact Nat.le_of_ble_eq_true rfl⟩ ⟨by rw [hrm]; exact Nat.le_of_ble_eq_true rfl, by rw [hrm]; exact Nat.le_of_ble_eq_true rfl⟩ rfl hk2 rfl rfl rfl (Nat.le_of_ble_eq_true rfl) dX4_wordSort_14 (fun r2 m2 => ?_)
    refine z_if_eq (tgt := 22) C dX4_wordSort_17 (by decide) (fun c2 => ?_) (fun c2 => ?_)
    · refine z_aload_n C dX4_wordSort_22 rfl 0 rfl ?_
      refine z_ldcS C (i := 14) (by decide) rfl dX4_wordSort_23 ?_
      refine z_chk (fun hk3 => ?_)
      refine z_cVI [va_rf (some (E.adK 14))] [] C mv_RX4_109 (fun r0 m0 h0 => M_X4_isWord _ _ _ _ _ _ _ h0) rfl rfl ⟨by rw [hrm]; exact Nat.le_of_ble_eq_true rfl, by rw [hrm]; exact Nat.le_of_ble_eq_true rfl⟩ ⟨by rw [hrm]; exact Nat.le_of_ble_eq_true rfl, by rw [hrm]; exact Nat.le_of_ble_eq_true rfl⟩ rfl hk3 rfl rfl rfl (Nat.le_of_ble_eq_true rfl) dX4_wordSort_25 (fun r3 m3 => ?_)
      refine z_if_eq (tgt := 33) C dX4_wordSort_28 (by decide) (fun c3 => ?_) (fun c3 => ?_)
      · refine z_aload_n C dX4_wordSort_33 rfl 0 rfl ?_
        refine z_ldcS C (i := 15) (by decide) rfl dX4_wordSort_34 ?_
        refine z_chk (fun hk4 => ?_)
        refine z_cVI [va_rf (some (E.adK 15))] [] C mv_RX4_109 (fun r0 m0 h0 => M_X4_isWord _ _ _ _ _ _ _ h0) rfl rfl ⟨by rw [hrm]; exact Nat.le_of_ble_eq_true rfl, by rw [hrm]; exact Nat.le_of_ble_eq_true rfl⟩ ⟨by rw [hrm]; exact Nat.le_of_ble_eq_true rfl, by rw [hrm]; exact Nat.le_of_ble_eq_true rfl⟩ rfl hk4 rfl rfl rfl (Nat.le_of_ble_eq_true rfl) dX4_wordSort_36 (fun r4 m4 => ?_)
        refine z_if_eq (tgt := 46) C dX4_wordSort_39 (by decide) (fun c4 => ?_) (fun c4 => ?_)
        · refine z_iconst (v := (-1)) C dX4_wordSort_46 (by decide) ?_
          exact z_iret C hr dX4_wordSort_47
        · refine z_iconst (v := 3) C dX4_wordSort_42 (by decide) ?_
          refine z_goto (tgt := 47) C dX4_wordSort_43 (by decide) ?_
          exact z_iret C hr dX4_wordSort_47
      · refine z_iconst (v := 2) C dX4_wordSort_31 (by decide) ?_
        exact z_iret C hr dX4_wordSort_32
    · refine z_iconst (v := 1) C dX4_wordSort_20 (by decide) ?_
      exact z_iret C hr dX4_wordSort_21
  · refine z_iconst (v := 0) C dX4_wordSort_9 (by decide) ?_
    exact z_iret C hr dX4_wordSort_10
def f_X4_wordSort (th : Nat) (m : MM) : Option (Int32 × MM) := g_X4_wordSort_0 th m
theorem M_X4_wordSort (l : Launch) (E : EX) (th : Nat) (m : MM) (r : Int32) (m2 : MM) (h : f_X4_wordSort th m = some (r, m2)) : Met l yX4_wordSort (.code yX4_wordSort cX4_wordSort 1 (some .int) :: TB) rmX4_wordSort (va_Pc [.ref th] (St E m)) (QR E (emI r) m2) 0 0 (AA E) :=
  met_of (em := emI) (plainFor_of_name rfl) (Nat.le_of_ble_eq_true rfl) (L0 := [(0, va_rf (some th))]) rfl (fun Γ _ hrm C hr hn => s_X4_wordSort_0 C hr hrm th m) h

theorem dX4_readDistance_0 : decode cX4_readDistance 0 = .ok (.aload_n 0, 1) := by decide +kernel
theorem dX4_readDistance_1 : decode cX4_readDistance 1 = .ok (.invokevirtual 76, 3) := by decide +kernel
theorem dX4_readDistance_4 : decode cX4_readDistance 4 = .ok (.aload_n 0, 1) := by decide +kernel
theorem dX4_readDistance_5 : decode cX4_readDistance 5 = .ok (.iconst 0, 1) := by decide +kernel
theorem dX4_readDistance_6 : decode cX4_readDistance 6 = .ok (.iconst 3, 1) := by decide +kernel
theorem dX4_readDistance_7 : decode cX4_readDistance 7 = .ok (.invokevirtual 85, 3) := by decide +kernel
theorem dX4_readDistance_10 : decode cX4_readDistance 10 = .ok (.ifCond .ne 4, 3) := by decide +kernel
theorem dX4_readDistance_13 : decode cX4_readDistance 13 = .ok (.return_, 1) := by decide +kernel
theorem dX4_readDistance_14 : decode cX4_readDistance 14 = .ok (.aload_n 0, 1) := by decide +kernel
theorem dX4_readDistance_15 : decode cX4_readDistance 15 = .ok (.ldc 116, 2) := by decide +kernel
theorem dX4_readDistance_17 : decode cX4_readDistance 17 = .ok (.invokevirtual 109, 3) := by decide +kernel
theorem dX4_readDistance_20 : decode cX4_readDistance 20 = .ok (.istore_n 3, 1) := by decide +kernel
theorem dX4_readDistance_21 : decode cX4_readDistance 21 = .ok (.iload_n 3, 1) := by decide +kernel
theorem dX4_readDistance_22 : decode cX4_readDistance 22 = .ok (.ifCond .eq 7, 3) := by decide +kernel
theorem dX4_readDistance_25 : decode cX4_readDistance 25 = .ok (.aload_n 0, 1) := by decide +kernel
theorem dX4_readDistance_26 : decode cX4_readDistance 26 = .ok (.invokevirtual 76, 3) := by decide +kernel
theorem dX4_readDistance_29 : decode cX4_readDistance 29 = .ok (.aload_n 0, 1) := by decide +kernel
theorem dX4_readDistance_30 : decode cX4_readDistance 30 = .ok (.invokevirtual 89, 3) := by decide +kernel
theorem dX4_readDistance_33 : decode cX4_readDistance 33 = .ok (.ifCond .ne 4, 3) := by decide +kernel
theorem dX4_readDistance_36 : decode cX4_readDistance 36 = .ok (.return_, 1) := by decide +kernel
theorem dX4_readDistance_37 : decode cX4_readDistance 37 = .ok (.aload_n 0, 1) := by decide +kernel
theorem dX4_readDistance_38 : decode cX4_readDistance 38 = .ok (.aload_n 0, 1) := by decide +kernel
theorem dX4_readDistance_39 : decode cX4_readDistance 39 = .ok (.getfield 21, 3) := by decide +kernel
theorem dX4_readDistance_42 : decode cX4_readDistance 42 = .ok (.getfield 256, 3) := by decide +kernel
theorem dX4_readDistance_45 : decode cX4_readDistance 45 = .ok (.iload_n 2, 1) := by decide +kernel
theorem dX4_readDistance_46 : decode cX4_readDistance 46 = .ok (.invokevirtual 169, 3) := by decide +kernel
theorem dX4_readDistance_49 : decode cX4_readDistance 49 = .ok (.aload_n 0, 1) := by decide +kernel
theorem dX4_readDistance_50 : decode cX4_readDistance 50 = .ok (.iconst 0, 1) := by decide +kernel
theorem dX4_readDistance_51 : decode cX4_readDistance 51 = .ok (.iconst 0, 1) := by decide +kernel
theorem dX4_readDistance_52 : decode cX4_readDistance 52 = .ok (.iconst 5, 1) := by decide +kernel
theorem dX4_readDistance_53 : decode cX4_readDistance 53 = .ok (.invokevirtual 93, 3) := by decide +kernel
theorem dX4_readDistance_56 : decode cX4_readDistance 56 = .ok (.aload_n 0, 1) := by decide +kernel
theorem dX4_readDistance_57 : decode cX4_readDistance 57 = .ok (.iconst 1, 1) := by decide +kernel
theorem dX4_readDistance_58 : decode cX4_readDistance 58 = .ok (.iconst 0, 1) := by decide +kernel
theorem dX4_readDistance_59 : decode cX4_readDistance 59 = .ok (.iconst 5, 1) := by decide +kernel
theorem dX4_readDistance_60 : decode cX4_readDistance 60 = .ok (.invokevirtual 93, 3) := by decide +kernel
theorem dX4_readDistance_63 : decode cX4_readDistance 63 = .ok (.aload_n 0, 1) := by decide +kernel
theorem dX4_readDistance_64 : decode cX4_readDistance 64 = .ok (.iconst 2, 1) := by decide +kernel
theorem dX4_readDistance_65 : decode cX4_readDistance 65 = .ok (.iconst 1, 1) := by decide +kernel
theorem dX4_readDistance_66 : decode cX4_readDistance 66 = .ok (.bipush 12, 2) := by decide +kernel
theorem dX4_readDistance_68 : decode cX4_readDistance 68 = .ok (.invokevirtual 93, 3) := by decide +kernel
theorem dX4_readDistance_71 : decode cX4_readDistance 71 = .ok (.aload_n 0, 1) := by decide +kernel
theorem dX4_readDistance_72 : decode cX4_readDistance 72 = .ok (.getfield 42, 3) := by decide +kernel
theorem dX4_readDistance_75 : decode cX4_readDistance 75 = .ok (.ifCond .ne 105, 3) := by decide +kernel
theorem dX4_readDistance_78 : decode cX4_readDistance 78 = .ok (.aload_n 0, 1) := by decide +kernel
theorem dX4_readDistance_79 : decode cX4_readDistance 79 = .ok (.getfield 21, 3) := by decide +kernel
theorem dX4_readDistance_82 : decode cX4_readDistance 82 = .ok (.getfield 256, 3) := by decide +kernel
theorem dX4_readDistance_85 : decode cX4_readDistance 85 = .ok (.invokevirtual 183, 3) := by decide +kernel
theorem dX4_readDistance_88 : decode cX4_readDistance 88 = .ok (.istore 4, 2) := by decide +kernel
theorem dX4_readDistance_90 : decode cX4_readDistance 90 = .ok (.aload_n 0, 1) := by decide +kernel
theorem dX4_readDistance_91 : decode cX4_readDistance 91 = .ok (.getfield 21, 3) := by decide +kernel
theorem dX4_readDistance_94 : decode cX4_readDistance 94 = .ok (.getfield 256, 3) := by decide +kernel
theorem dX4_readDistance_97 : decode cX4_readDistance 97 = .ok (.iload 4, 2) := by decide +kernel
theorem dX4_readDistance_99 : decode cX4_readDistance 99 = .ok (.iconst 0, 1) := by decide +kernel
theorem dX4_readDistance_100 : decode cX4_readDistance 100 = .ok (.iload_n 1, 1) := by decide +kernel
theorem dX4_readDistance_101 : decode cX4_readDistance 101 = .ok (.invokevirtual 223, 3) := by decide +kernel
theorem dX4_readDistance_104 : decode cX4_readDistance 104 = .ok (.aload_n 0, 1) := by decide +kernel
theorem dX4_readDistance_105 : decode cX4_readDistance 105 = .ok (.getfield 21, 3) := by decide +kernel
theorem dX4_readDistance_108 : decode cX4_readDistance 108 = .ok (.getfield 256, 3) := by decide +kernel
theorem dX4_readDistance_111 : decode cX4_readDistance 111 = .ok (.iload 4, 2) := by decide +kernel
theorem dX4_readDistance_113 : decode cX4_readDistance 113 = .ok (.iconst 1, 1) := by decide +kernel
theorem dX4_readDistance_114 : decode cX4_readDistance 114 = .ok (.aload_n 0, 1) := by decide +kernel
theorem dX4_readDistance_115 : decode cX4_readDistance 115 = .ok (.iconst 0, 1) := by decide +kernel
theorem dX4_readDistance_116 : decode cX4_readDistance 116 = .ok (.invokevirtual 97, 3) := by decide +kernel
theorem dX4_readDistance_119 : decode cX4_readDistance 119 = .ok (.invokevirtual 223, 3) := by decide +kernel
theorem dX4_readDistance_122 : decode cX4_readDistance 122 = .ok (.aload_n 0, 1) := by decide +kernel
theorem dX4_readDistance_123 : decode cX4_readDistance 123 = .ok (.getfield 21, 3) := by decide +kernel
theorem dX4_readDistance_126 : decode cX4_readDistance 126 = .ok (.getfield 256, 3) := by decide +kernel
theorem dX4_readDistance_129 : decode cX4_readDistance 129 = .ok (.iload 4, 2) := by decide +kernel
theorem dX4_readDistance_131 : decode cX4_readDistance 131 = .ok (.iconst 2, 1) := by decide +kernel
theorem dX4_readDistance_132 : decode cX4_readDistance 132 = .ok (.aload_n 0, 1) := by decide +kernel
theorem dX4_readDistance_133 : decode cX4_readDistance 133 = .ok (.iconst 1, 1) := by decide +kernel
theorem dX4_readDistance_134 : decode cX4_readDistance 134 = .ok (.invokevirtual 97, 3) := by decide +kernel
theorem dX4_readDistance_137 : decode cX4_readDistance 137 = .ok (.invokevirtual 223, 3) := by decide +kernel
theorem dX4_readDistance_140 : decode cX4_readDistance 140 = .ok (.aload_n 0, 1) := by decide +kernel
theorem dX4_readDistance_141 : decode cX4_readDistance 141 = .ok (.getfield 21, 3) := by decide +kernel
theorem dX4_readDistance_144 : decode cX4_readDistance 144 = .ok (.getfield 256, 3) := by decide +kernel
theorem dX4_readDistance_147 : decode cX4_readDistance 147 = .ok (.iload 4, 2) := by decide +kernel
theorem dX4_readDistance_149 : decode cX4_readDistance 149 = .ok (.iconst 3, 1) := by decide +kernel
theorem dX4_readDistance_150 : decode cX4_readDistance 150 = .ok (.aload_n 0, 1) := by decide +kernel
theorem dX4_readDistance_151 : decode cX4_readDistance 151 = .ok (.iconst 2, 1) := by decide +kernel
theorem dX4_readDistance_152 : decode cX4_readDistance 152 = .ok (.invokevirtual 97, 3) := by decide +kernel
theorem dX4_readDistance_155 : decode cX4_readDistance 155 = .ok (.invokevirtual 223, 3) := by decide +kernel
theorem dX4_readDistance_158 : decode cX4_readDistance 158 = .ok (.aload_n 0, 1) := by decide +kernel
theorem dX4_readDistance_159 : decode cX4_readDistance 159 = .ok (.getfield 21, 3) := by decide +kernel
theorem dX4_readDistance_162 : decode cX4_readDistance 162 = .ok (.getfield 256, 3) := by decide +kernel
theorem dX4_readDistance_165 : decode cX4_readDistance 165 = .ok (.iload 4, 2) := by decide +kernel
theorem dX4_readDistance_167 : decode cX4_readDistance 167 = .ok (.iconst 4, 1) := by decide +kernel
theorem dX4_readDistance_168 : decode cX4_readDistance 168 = .ok (.iload_n 3, 1) := by decide +kernel
theorem dX4_readDistance_169 : decode cX4_readDistance 169 = .ok (.ifCond .eq 7, 3) := by decide +kernel
theorem dX4_readDistance_172 : decode cX4_readDistance 172 = .ok (.iconst 1, 1) := by decide +kernel
theorem dX4_readDistance_173 : decode cX4_readDistance 173 = .ok (.goto 4, 3) := by decide +kernel
theorem dX4_readDistance_176 : decode cX4_readDistance 176 = .ok (.iconst 0, 1) := by decide +kernel
theorem dX4_readDistance_177 : decode cX4_readDistance 177 = .ok (.invokevirtual 223, 3) := by decide +kernel
theorem dX4_readDistance_180 : decode cX4_readDistance 180 = .ok (.return_, 1) := by decide +kernel
def rmX4_readDistance : Room := { frames := 5, cells := 0, slots := 0, locals := 107 }
set_option maxRecDepth 100000 in
def g_X4_readDistance_177 (th : Nat) (p1 : Int32) (p2 : Int32) (s0 : Option Nat) (s1 : Int32) (s2 : Int32) (s3 : Int32) (m : MM) : Option (Unit × MM) :=
  ck m s0 7 (fun a1 => cal (f_X6_put a1 s1 s2 s3 m) (fun r1 m1 => some ((), m1)))
set_option maxHeartbeats 4000000 in
set_option maxRecDepth 100000 in
theorem s_X4_readDistance_177 {Γ : GX} {E : EX} (C : Cx Γ E cX4_readDistance RX4 5) (hr : Γ.meth.sig.returnType = none) (hrm : Γ.rm = rmX4_readDistance) (th : Nat) (p1 : Int32) (p2 : Int32) (s0 : Option Nat) (s1 : Int32) (s2 : Int32) (s3 : Int32) (m : MM) : Sm (QM Γ E emV 0 0) Γ E 5 0 0 177 [(0, va_rf (some th)), (1, .int p1), (2, .int p2)] [.int s3, .int s2, .int s1, va_rf s0] m (g_X4_readDistance_177 th p1 p2 s0 s1 s2 s3 m) := by
  unfold g_X4_readDistance_177
  refine z_ck (fun a1 hr1 hk1 => ?_)
  refine z_cVV [.int s1, .int s2, .int s3] [] C mv_RX4_223 (fun r0 m0 h0 => M_X6_put _ _ _ _ _ _ _ _ _ h0) rfl rfl ⟨by rw [hrm]; exact Nat.le_of_ble_eq_true rfl, by rw [hrm]; exact Nat.le_of_ble_eq_true rfl⟩ ⟨by rw [hrm]; exact Nat.le_of_ble_eq_true rfl, by rw [hrm]; exact Nat.le_of_ble_eq_true rfl⟩ hr1 hk1 rfl rfl rfl (Nat.le_of_ble_eq_true rfl) dX4_readDistance_177 (fun r1 m1 => ?_)
  exact z_vret C hr dX4_readDistance_180
set_option maxRecDepth 100000 in
def g_X4_readDistance_29 (th : Nat) (p1 : Int32) (p2 : Int32) (x3 : Int32) (m : MM) : Option (Unit × MM) :=
  chk (m.K th = 5) (cal (f_X4_readStop th m) (fun r2 m2 => if r2 = 0 then (some ((), m2)) else (chk (m2.K th = 5) (ck m2 (m2.R 501 th 0) 3 (fun a2 => cal (f_X4_checkPlaceFor th (m2.R 300 a2 0) p2 m2) (fun r3 m3 => chk (m3.K th = 5) (cal (f_X4_check th 0 0 5 m3) (fun r4 m4 => chk (m4.K th = 5) (cal (f_X4_check th 1 0 5 m4) (fun r5 m5 => chk (m5.K th = 5) (cal (f_X4_check th 2 1 12 m5) (fun r6 m6 => chk (m6.K th = 5) (if (m6.I 510 th 0) = 0 then (ck m6 (m6.R 501 th 0) 3 (fun a3 => ck m6 (m6.R 300 a3 0) 7 (fun a4 => cal (f_X6_addRow a4 m6) (fun r7 m7 => chk (m7.K th = 5) (ck m7 (m7.R 501 th 0) 3 (fun a5 => ck m7 (m7.R 300 a5 0) 7 (fun a6 => cal (f_X6_put a6 r7 0 p1 m7) (fun r8 m8 => chk (m8.K th = 5) (ck m8 (m8.R 501 th 0) 3 (fun a7 => cal (f_X4_number th 0 m8) (fun r9 m9 => ck m9 (m8.R 300 a7 0) 7 (fun a8 => cal (f_X6_put a8 r7 1 r9 m9) (fun r10 m10 => chk (m10.K th = 5) (ck m10 (m10.R 501 th 0) 3 (fun a9 => cal (f_X4_number th 1 m10) (fun r11 m11 => ck m11 (m10.R 300 a9 0) 7 (fun a10 => cal (f_X6_put a10 r7 2 r11 m11) (fun r12 m12 => chk (m12.K th = 5) (ck m12 (m12.R 501 th 0) 3 (fun a11 => cal (f_X4_number th 2 m12) (fun r13 m13 => ck m13 (m12.R 300 a11 0) 7 (fun a12 => cal (f_X6_put a12 r7 3 r13 m13) (fun r14 m14 => chk (m14.K th = 5) (ck m14 (m14.R 501 th 0) 3 (fun a13 => if x3 = 0 then (g_X4_readDistance_177 th p1 p2 (m14.R 300 a13 0) r7 4 0 m14) else (g_X4_readDistance_177 th p1 p2 (m14.R 300 a13 0) r7 4 1 m14)))))))))))))))))))))))))) else (some ((), m6)))))))))))))))
set_option maxHeartbeats 4000000 in
set_option maxRecDepth 100000 in
theorem s_X4_readDistance_29 {Γ : GX} {E : EX} (C : Cx Γ E cX4_readDistance RX4 5) (hr : Γ.meth.sig.returnType = none) (hrm : Γ.rm = rmX4_readDistance) (th : Nat) (p1 : Int32) (p2 : Int32) (x3 : Int32) (m : MM) : Sm (QM Γ E emV 0 0) Γ E 5 0 0 29 [(0, va_rf (some th)), (1, .int p1), (2, .int p2), (3, .int x3)] [] m (g_X4_readDistance_29 th p1 p2 x3 m) := by
  unfold g_X4_readDistance_29
  refine z_aload_n C dX4_readDistance_29 rfl 0 rfl ?_
  refine z_chk (fun hk2 => ?_)
  refine z_cVI [] [] C mv_RX4_89 (fun r0 m0 h0 => M_X4_readStop _ _ _ _ _ _ h0) rfl rfl ⟨by rw [hrm]; exact Nat.le_of_ble_eq_true rfl, by rw [hrm]; exact Nat.le_of_ble_eq_true rfl⟩ ⟨by rw [hrm]; exact Nat.le_of_ble_eq_true rfl, by rw [hrm]; exact Nat.le_of_ble_eq_true rfl⟩ rfl hk2 rfl rfl rfl (Nat.le_of_ble_eq_true rfl) dX4_readDistance_30 (fun r2 m2 => ?_)
  refine z_if_ne (tgt := 37) C dX4_readDistance_33 (by decide) (fun c1 => ?_) (fun c1 => ?_)
  · refine z_aload_n C dX4_readDistance_37 rfl 0 rfl ?_
    refine z_aload_n C dX4_readDistance_38 rfl 0 rfl ?_
    refine z_chk (fun hk3 => ?_)
    refine z_getR C fl_RX4_21 rfl hk3 dX4_readDistance_39 ?_
    refine z_ck (fun a2 hr2 hk4 => ?_)
    refine z_getR C fl_RX4_256 hr2 hk4 dX4_readDistance_42 ?_
    refine z_iload_n C dX4_readDistance_45 rfl 2 rfl ?_
    refine z_cVV [va_rf (m2.R 300 a2 0), .int p2] [] C mv_RX4_169 (fun r0 m0 h0 => M_X4_checkPlaceFor _ _ _ _ _ _ _ _ h0) rfl rfl ⟨by rw [hrm]; exact Nat.le_of_ble_eq_true rfl, by rw [hrm]; exact Nat.le_of_ble_eq_true rfl⟩ ⟨by rw [hrm]; exact Nat.le_of_ble_eq_true rfl, by rw [hrm]; exact Nat.le_of_ble_eq_true rfl⟩ rfl hk3 rfl rfl rfl (Nat.le_of_ble_eq_true rfl) dX4_readDistance_46 (fun r3 m3 => ?_)
    refine z_aload_n C dX4_readDistance_49 rfl 0 rfl ?_
    refine z_iconst (v := 0) C dX4_readDistance_50 (by decide) ?_
    refine z_iconst (v := 0) C dX4_readDistance_51 (by decide) ?_
    refine z_iconst (v := 5) C dX4_readDistance_52 (by decide) ?_
    refine z_chk (fun hk5 => ?_)
    refine z_cVV [.int 0, .int 0, .int 5] [] C mv_RX4_93 (fun r0 m0 h0 => M_X4_check _ _ _ _ _ _ _ _ _ h0) rfl rfl ⟨by rw [hrm]; exact Nat.le_of_ble_eq_true rfl, by rw [hrm]; exact Nat.le_of_ble_eq_true rfl⟩ ⟨by rw [hrm]; exact Nat.le_of_ble_eq_true rfl, by rw [hrm]; exact Nat.le_of_ble_eq_true rfl⟩ rfl hk5 rfl rfl rfl (Nat.le_of_ble_eq_true rfl) dX4_readDistance_53 (fun r4 m4 => ?_)
    refine z_aload_n C dX4_readDistance_56 rfl 0 rfl ?_
    refine z_iconst (v := 1) C dX4_readDistance_57 (by decide) ?_
    refine z_iconst (v := 0) C dX4_readDistance_58 (by decide) ?_
    refine z_iconst (v := 5) C dX4_readDistance_59 (by decide) ?_
    refine z_chk (fun hk6 => ?_)
    refine z_cVV [.int 1, .int 0, .int 5] [] C mv_RX4_93 (fun r0 m0 h0 => M_X4_check _ _ _ _ _ _ _ _ _ h0) rfl rfl ⟨by rw [hrm]; exact Nat.le_of_ble_eq_true rfl, by rw [hrm]; exact Nat.le_of_ble_eq_true rfl⟩ ⟨by rw [hrm]; exact Nat.le_of_ble_eq_true rfl, by rw [hrm]; exact Nat.le_of_ble_eq_true rfl⟩ rfl hk6 rfl rfl rfl (Nat.le_of_ble_eq_true rfl) dX4_readDistance_60 (fun r5 m5 => ?_)
    refine z_aload_n C dX4_readDistance_63 rfl 0 rfl ?_
    refine z_iconst (v := 2) C dX4_readDistance_64 (by decide) ?_
    refine z_iconst (v := 1) C dX4_readDistance_65 (by decide) ?_
    refine z_bipush (v := 12) C dX4_readDistance_66 (by decide) ?_
    refine z_chk (fun hk7 => ?_)
    refine z_cVV [.int 2, .int 1, .int 12] [] C mv_RX4_93 (fun r0 m0 h0 => M_X4_check _ _ _ _ _ _ _ _ _ h0) rfl rfl ⟨by rw [hrm]; exact Nat.le_of_ble_eq_true rfl, by rw [hrm]; exact Nat.le_of_ble_eq_true rfl⟩ ⟨by rw [hrm]; exact Nat.le_of_ble_eq_true rfl, by rw [hrm]; exact Nat.le_of_ble_eq_true rfl⟩ rfl hk7 rfl rfl rfl (Nat.le_of_ble_eq_true rfl) dX4_readDistance_68 (fun r6 m6 => ?_)
    refine z_aload_n C dX4_readDistance_71 rfl 0 rfl ?_
    refine z_chk (fun hk8 => ?_)
    refine z_getI C fl_RX4_42 rfl hk8 dX4_readDistance_72 ?_
    refine z_if_ne (tgt := 180) C dX4_readDistance_75 (by decide) (fun c2 => ?_) (fun c2 => ?_)
    · exact z_vret C hr dX4_readDistance_180
    · refine z_aload_n C dX4_readDistance_78 rfl 0 rfl ?_
      refine z_getR C fl_RX4_21 rfl hk8 dX4_readDistance_79 ?_
      refine z_ck (fun a3 hr3 hk9 => ?_)
      refine z_getR C fl_RX4_256 hr3 hk9 dX4_readDistance_82 ?_
      refine z_ck (fun a4 hr4 hk10 => ?_)
      refine z_cVI [] [] C mv_RX4_183 (fun r0 m0 h0 => M_X6_addRow _ _ _ _ _ _ h0) rfl rfl ⟨by rw [hrm]; exact Nat.le_of_ble_eq_true rfl, by rw [hrm]; exact Nat.le_of_ble_eq_true rfl⟩ ⟨by rw [hrm]; exact Nat.le_of_ble_eq_true rfl, by rw [hrm]; exact Nat.le_of_ble_eq_true rfl⟩ hr4 hk10 rfl rfl rfl (Nat.le_of_ble_eq_true rfl) dX4_readDistance_85 (fun r7 m7 => ?_)
      refine z_istore (i := 4) (L2 := [(4, .int r7), (0, va_rf (some th)), (1, .int p1), (2, .int p2), (3, .int x3)]) C dX4_readDistance_88 (by decide) rfl ?_
      refine z_aload_n C dX4_readDistance_90 rfl 1 rfl ?_
      refine z_chk (fun hk11 => ?_)
      refine z_getR C fl_RX4_21 rfl hk11 dX4_readDistance_91 ?_
      refine z_ck (fun a5 hr5 hk12 => ?_)
      refine z_getR C fl_RX4_256 hr5 hk12 dX4_readDistance_94 ?_
      refine z_iload C dX4_readDistance_97 0 rfl ?_
      refine z_iconst (v := 0) C dX4_readDistance_99 (by decide) ?_
      refine z_iload_n C dX4_readDistance_100 rfl 2 rfl ?_
      refine z_ck (fun a6 hr6 hk13 => ?_)
      refine z_cVV [.int r7, .int 0, .int p1] [] C mv_RX4_223 (fun r0 m0 h0 => M_X6_put _ _ _ _ _ _ _ _ _ h0) rfl rfl ⟨by rw [hrm]; exact Nat.le_of_ble_eq_true rfl, by rw [hrm]; exact Nat.le_of_ble_eq_true rfl⟩ ⟨by rw [hrm]; exact Nat.le_of_ble_eq_true rfl, by rw [hrm]; exact Nat.le_of_ble_eq_true rfl⟩ hr6 hk13 rfl rfl rfl (Nat.le_of_ble_eq_true rfl) dX4_readDistance_101 (fun r8 m8 => ?_)
      refine z_aload_n C dX4_readDistance_104 rfl 1 rfl ?_
      refine z_chk (fun hk14 => ?_)
      refine z_getR C fl_RX4_21 rfl hk14 dX4_readDistance_105 ?_
      refine z_ck (fun a7 hr7 hk15 => ?_)
      refine z_getR C fl_RX4_256 hr7 hk15 dX4_readDistance_108 ?_
      refine z_iload C dX4_readDistance_111 0 rfl ?_
      refine z_iconst (v := 1) C dX4_readDistance_113 (by decide) ?_
      refine z_aload_n C dX4_readDistance_114 rfl 1 rfl ?_
      refine z_iconst (v := 0) C dX4_readDistance_115 (by decide) ?_
      refine z_cVI [.int 0] [.int 1, .int r7, va_rf (m8.R 300 a7 0)] C mv_RX4_97 (fun r0 m0 h0 => M_X4_number _ _ _ _ _ _ _ h0) rfl rfl ⟨by rw [hrm]; exact Nat.le_of_ble_eq_true rfl, by rw [hrm]; exact Nat.le_of_ble_eq_true rfl⟩ ⟨by rw [hrm]; exact Nat.le_of_ble_eq_true rfl, by rw [hrm]; exact Nat.le_of_ble_eq_true rfl⟩ rfl hk14 rfl rfl rfl (by simp [cat_rf, cat_i, cat_l, cat_a]) dX4_readDistance_116 (fun r9 m9 => ?_)
      refine z_ck (fun a8 hr8 hk16 => ?_)
      refine z_cVV [.int r7, .int 1, .int r9] [] C mv_RX4_223 (fun r0 m0 h0 => M_X6_put _ _ _ _ _ _ _ _ _ h0) rfl rfl ⟨by rw [hrm]; exact Nat.le_of_ble_eq_true rfl, by rw [hrm]; exact Nat.le_of_ble_eq_true rfl⟩ ⟨by rw [hrm]; exact Nat.le_of_ble_eq_true rfl, by rw [hrm]; exact Nat.le_of_ble_eq_true rfl⟩ hr8 hk16 rfl rfl rfl (Nat.le_of_ble_eq_true rfl) dX4_readDistance_119 (fun r10 m10 => ?_)
      refine z_aload_n C dX4_readDistance_122 rfl 1 rfl ?_
      refine z_chk (fun hk17 => ?_)
      refine z_getR C fl_RX4_21 rfl hk17 dX4_readDistance_123 ?_
      refine z_ck (fun a9 hr9 hk18 => ?_)
      refine z_getR C fl_RX4_256 hr9 hk18 dX4_readDistance_126 ?_
      refine z_iload C dX4_readDistance_129 0 rfl ?_
      refine z_iconst (v := 2) C dX4_readDistance_131 (by decide) ?_
      refine z_aload_n C dX4_readDistance_132 rfl 1 rfl ?_
      refine z_iconst (v := 1) C dX4_readDistance_133 (by decide) ?_
      refine z_cVI [.int 1] [.int 2, .int r7, va_rf (m10.R 300 a9 0)] C mv_RX4_97 (fun r0 m0 h0 => M_X4_number _ _ _ _ _ _ _ h0) rfl rfl ⟨by rw [hrm]; exact Nat.le_of_ble_eq_true rfl, by rw [hrm]; exact Nat.le_of_ble_eq_true rfl⟩ ⟨by rw [hrm]; exact Nat.le_of_ble_eq_true rfl, by rw [hrm]; exact Nat.le_of_ble_eq_true rfl⟩ rfl hk17 rfl rfl rfl (by simp [cat_rf, cat_i, cat_l, cat_a]) dX4_readDistance_134 (fun r11 m11 => ?_)
      refine z_ck (fun a10 hr10 hk19 => ?_)
      refine z_cVV [.int r7, .int 2, .int r11] [] C mv_RX4_223 (fun r0 m0 h0 => M_X6_put _ _ _ _ _ _ _ _ _ h0) rfl rfl ⟨by rw [hrm]; exact Nat.le_of_ble_eq_true rfl, by rw [hrm]; exact Nat.le_of_ble_eq_true rfl⟩ ⟨by rw [hrm]; exact Nat.le_of_ble_eq_true rfl, by rw [hrm]; exact Nat.le_of_ble_eq_true rfl⟩ hr10 hk19 rfl rfl rfl (Nat.le_of_ble_eq_true rfl) dX4_readDistance_137 (fun r12 m12 => ?_)
      refine z_aload_n C dX4_readDistance_140 rfl 1 rfl ?_
      refine z_chk (fun hk20 => ?_)
      refine z_getR C fl_RX4_21 rfl hk20 dX4_readDistance_141 ?_
      refine z_ck (fun a11 hr11 hk21 => ?_)
      refine z_getR C fl_RX4_256 hr11 hk21 dX4_readDistance_144 ?_
      refine z_iload C dX4_readDistance_147 0 rfl ?_
      refine z_iconst (v := 3) C dX4_readDistance_149 (by decide) ?_
      refine z_aload_n C dX4_readDistance_150 rfl 1 rfl ?_
      refine z_iconst (v := 2) C dX4_readDistance_151 (by decide) ?_
      refine z_cVI [.int 2] [.int 3, .int r7, va_rf (m12.R 300 a11 0)] C mv_RX4_97 (fun r0 m0 h0 => M_X4_number _ _ _ _ _ _ _ h0) rfl rfl ⟨by rw [hrm]; exact Nat.le_of_ble_eq_true rfl, by rw [hrm]; exact Nat.le_of_ble_eq_true rfl⟩ ⟨by rw [hrm]; exact Nat.le_of_ble_eq_true rfl, by rw [hrm]; exact Nat.le_of_ble_eq_true rfl⟩ rfl hk20 rfl rfl rfl (by simp [cat_rf, cat_i, cat_l, cat_a]) dX4_readDistance_152 (fun r13 m13 => ?_)
      refine z_ck (fun a12 hr12 hk22 => ?_)
      refine z_cVV [.int r7, .int 3, .int r13] [] C mv_RX4_223 (fun r0 m0 h0 => M_X6_put _ _ _ _ _ _ _ _ _ h0) rfl rfl ⟨by rw [hrm]; exact Nat.le_of_ble_eq_true rfl, by rw [hrm]; exact Nat.le_of_ble_eq_true rfl⟩ ⟨by rw [hrm]; exact Nat.le_of_ble_eq_true rfl, by rw [hrm]; exact Nat.le_of_ble_eq_true rfl⟩ hr12 hk22 rfl rfl rfl (Nat.le_of_ble_eq_true rfl) dX4_readDistance_155 (fun r14 m14 => ?_)
      refine z_aload_n C dX4_readDistance_158 rfl 1 rfl ?_
      refine z_chk (fun hk23 => ?_)
      refine z_getR C fl_RX4_21 rfl hk23 dX4_readDistance_159 ?_
      refine z_ck (fun a13 hr13 hk24 => ?_)
      refine z_getR C fl_RX4_256 hr13 hk24 dX4_readDistance_162 ?_
      refine z_iload C dX4_readDistance_165 0 rfl ?_
      refine z_iconst (v := 4) C dX4_readDistance_167 (by decide) ?_
      refine z_iload_n C dX4_readDistance_168 rfl 4 rfl ?_
      refine z_if_eq (tgt := 176) C dX4_readDistance_169 (by decide) (fun c3 => ?_) (fun c3 => ?_)
      · refine z_iconst (v := 0) C dX4_readDistance_176 (by decide) ?_
        exact z_sub [1, 2, 3] rfl (s_X4_readDistance_177 C hr hrm th p1 p2 (m14.R 300 a13 0) r7 4 0 m14)
      · refine z_iconst (v := 1) C dX4_readDistance_172 (by decide) ?_
        refine z_goto (tgt := 177) C dX4_readDistance_173 (by decide) ?_
        exact z_sub [1, 2, 3] rfl (s_X4_readDistance_177 C hr hrm th p1 p2 (m14.R 300 a13 0) r7 4 1 m14)
  · exact z_vret C hr dX4_readDistance_36
set_option maxRecDepth 100000 in
def g_X4_readDistance_0 (th : Nat) (p1 : Int32) (p2 : Int32) (m : MM) : Option (Unit × MM) :=
  chk (m.K th = 5) (cal (f_X4_step th m) (fun r15 m15 => chk (m15.K th = 5) (cal (f_X4_readNumbers th 0 3 m15) (fun r16 m16 => if r16 = 0 then (some ((), m16)) else (chk (m16.K th = 5) (cal (f_X4_isWord th 3 m16) (fun r17 m17 => if r17 = 0 then (g_X4_readDistance_29 th p1 p2 r17 m17) else (chk (m17.K th = 5) (cal (f_X4_step th m17) (fun r18 m18 => g_X4_readDistance_29 th p1 p2 r17 m18))))))))))
set_option maxHeartbeats 4000000 in
set_option maxRecDepth 100000 in
theorem s_X4_readDistance_0 {Γ : GX} {E : EX} (C : Cx Γ E cX4_readDistance RX4 5) (hr : Γ.meth.sig.returnType = none) (hrm : Γ.rm = rmX4_readDistance) (th : Nat) (p1 : Int32) (p2 : Int32) (m : MM) : Sm (QM Γ E emV 0 0) Γ E 5 0 0 0 [(0, va_rf (some th)), (1, .int p1), (2, .int p2)] [] m (g_X4_readDistance_0 th p1 p2 m) := by
  unfold g_X4_readDistance_0
  refine z_aload_n C dX4_readDistance_0 rfl 0 rfl ?_
  refine z_chk (fun hk25 => ?_)
  refine z_cVV [] [] C mv_RX4_76 (fun r0 m0 h0 => M_X4_step _ _ _ _ _ _ h0) rfl rfl ⟨by rw [hrm]; exact Nat.le_of_ble_eq_true rfl, by rw [hrm]; exact Nat.le_of_ble_eq_true rfl⟩ ⟨by rw [hrm]; exact Nat.le_of_ble_eq_true rfl, by rw [hrm]; exact Nat.le_of_ble_eq_true rfl⟩ rfl hk25 rfl rfl rfl (Nat.le_of_ble_eq_true rfl) dX4_readDistance_1 (fun r15 m15 => ?_)
  refine z_aload_n C dX4_readDistance_4 rfl 0 rfl ?_
  refine z_iconst (v := 0) C dX4_readDistance_5 (by decide) ?_
  refine z_iconst (v := 3) C dX4_readDistance_6 (by decide) ?_
  refine z_chk (fun hk26 => ?_)
  refine z_cVI [.int 0, .int 3] [] C mv_RX4_85 (fun r0 m0 h0 => M_X4_readNumbers _ _ _ _ _ _ _ _ h0) rfl rfl ⟨by rw [hrm]; exact Nat.le_of_ble_eq_true rfl, by rw [hrm]; exact Nat.le_of_ble_eq_true rfl⟩ ⟨by rw [hrm]; exact Nat.le_of_ble_eq_true rfl, by rw [hrm]; exact Nat.le_of_ble_eq_true rfl⟩ rfl hk26 rfl rfl rfl (Nat.le_of_ble_eq_true rfl) dX4_readDistance_7 (fun r16 m16 => ?_)
  refine z_if_ne (tgt := 14) C dX4_readDistance_10 (by decide) (fun c4 => ?_) (fun c4 => ?_)
  · refine z_aload_n C dX4_readDistance_14 rfl 0 rfl ?_
    refine z_ldcS C (i := 3) (by decide) rfl dX4_readDistance_15 ?_
    refine z_chk (fun hk27 => ?_)
    refine z_cVI [va_rf (some (E.adK 3))] [] C mv_RX4_109 (fun r0 m0 h0 => M_X4_isWord _ _ _ _ _ _ _ h0) rfl rfl ⟨by rw [hrm]; exact Nat.le_of_ble_eq_true rfl, by rw [hrm]; exact Nat.le_of_ble_eq_true rfl⟩ ⟨by rw [hrm]; exact Nat.le_of_ble_eq_true rfl, by rw [hrm]; exact Nat.le_of_ble_eq_true rfl⟩ rfl hk27 rfl rfl rfl (Nat.le_of_ble_eq_true rfl) dX4_readDistance_17 (fun r17 m17 => ?_)
    refine z_istore_n (i := 3) (L2 := [(3, .int r17), (0, va_rf (some th)), (1, .int p1), (2, .int p2)]) C dX4_readDistance_20 rfl (by decide) rfl ?_
    refine z_iload_n C dX4_readDistance_21 rfl 0 rfl ?_
    refine z_if_eq (tgt := 29) C dX4_readDistance_22 (by decide) (fun c5 => ?_) (fun c5 => ?_)
    · exact z_sub [1, 2, 3, 0] rfl (s_X4_readDistance_29 C hr hrm th p1 p2 r17 m17)
    · refine z_aload_n C dX4_readDistance_25 rfl 1 rfl ?_
      refine z_chk (fun hk28 => ?_)
      refine z_cVV [] [] C mv_RX4_76 (fun r0 m0 h0 => M_X4_step _ _ _ _ _ _ h0) rfl rfl ⟨by rw [hrm]; exact Nat.le_of_ble_eq_true rfl, by rw [hrm]; exact Nat.le_of_ble_eq_true rfl⟩ ⟨by rw [hrm]; exact Nat.le_of_ble_eq_true rfl, by rw [hrm]; exact Nat.le_of_ble_eq_true rfl⟩ rfl hk28 rfl rfl rfl (Nat.le_of_ble_eq_true rfl) dX4_readDistance_26 (fun r18 m18 => ?_)
      exact z_sub [1, 2, 3, 0] rfl (s_X4_readDistance_29 C hr hrm th p1 p2 r17 m18)
  · exact z_vret C hr dX4_readDistance_13
def f_X4_readDistance (th : Nat) (p1 : Int32) (p2 : Int32) (m : MM) : Option (Unit × MM) := g_X4_readDistance_0 th p1 p2 m
theorem M_X4_readDistance (l : Launch) (E : EX) (th : Nat) (p1 : Int32) (p2 : Int32) (m : MM) (r : Unit) (m2 : MM) (h : f_X4_readDistance th p1 p2 m = some (r, m2)) : Met l yX4_readDistance (.code yX4_readDistance cX4_readDistance 5 none :: TB) rmX4_readDistance (va_Pc [.ref th, .int p1, .int p2] (St E m)) (QR E (emV r) m2) 0 0 (AA E) :=
  met_of (em := emV) (plainFor_of_name rfl) (Nat.le_of_ble_eq_true rfl) (L0 := [(0, va_rf (some th)), (1, .int p1), (2, .int p2)]) rfl (fun Γ _ hrm C hr hn => s_X4_readDistance_0 C hr hrm th p1 p2 m) h

theorem dX4_readSilence_0 : decode cX4_readSilence 0 = .ok (.aload_n 0, 1) := by decide +kernel
theorem dX4_readSilence_1 : decode cX4_readSilence 1 = .ok (.invokevirtual 76, 3) := by decide +kernel
theorem dX4_readSilence_4 : decode cX4_readSilence 4 = .ok (.aload_n 0, 1) := by decide +kernel
theorem dX4_readSilence_5 : decode cX4_readSilence 5 = .ok (.iconst 0, 1) := by decide +kernel
theorem dX4_readSilence_6 : decode cX4_readSilence 6 = .ok (.iconst 1, 1) := by decide +kernel
theorem dX4_readSilence_7 : decode cX4_readSilence 7 = .ok (.invokevirtual 85, 3) := by decide +kernel
theorem dX4_readSilence_10 : decode cX4_readSilence 10 = .ok (.ifCond .eq 10, 3) := by decide +kernel
theorem dX4_readSilence_13 : decode cX4_readSilence 13 = .ok (.aload_n 0, 1) := by decide +kernel
theorem dX4_readSilence_14 : decode cX4_readSilence 14 = .ok (.invokevirtual 89, 3) := by decide +kernel
theorem dX4_readSilence_17 : decode cX4_readSilence 17 = .ok (.ifCond .ne 4, 3) := by decide +kernel
theorem dX4_readSilence_20 : decode cX4_readSilence 20 = .ok (.return_, 1) := by decide +kernel
theorem dX4_readSilence_21 : decode cX4_readSilence 21 = .ok (.aload_n 0, 1) := by decide +kernel
theorem dX4_readSilence_22 : decode cX4_readSilence 22 = .ok (.iconst 0, 1) := by decide +kernel
theorem dX4_readSilence_23 : decode cX4_readSilence 23 = .ok (.iconst 1, 1) := by decide +kernel
theorem dX4_readSilence_24 : decode cX4_readSilence 24 = .ok (.bipush 99, 2) := by decide +kernel
theorem dX4_readSilence_26 : decode cX4_readSilence 26 = .ok (.invokevirtual 93, 3) := by decide +kernel
theorem dX4_readSilence_29 : decode cX4_readSilence 29 = .ok (.aload_n 0, 1) := by decide +kernel
theorem dX4_readSilence_30 : decode cX4_readSilence 30 = .ok (.getfield 42, 3) := by decide +kernel
theorem dX4_readSilence_33 : decode cX4_readSilence 33 = .ok (.ifCond .ne 15, 3) := by decide +kernel
theorem dX4_readSilence_36 : decode cX4_readSilence 36 = .ok (.aload_n 0, 1) := by decide +kernel
theorem dX4_readSilence_37 : decode cX4_readSilence 37 = .ok (.getfield 21, 3) := by decide +kernel
theorem dX4_readSilence_40 : decode cX4_readSilence 40 = .ok (.aload_n 0, 1) := by decide +kernel
theorem dX4_readSilence_41 : decode cX4_readSilence 41 = .ok (.iconst 0, 1) := by decide +kernel
theorem dX4_readSilence_42 : decode cX4_readSilence 42 = .ok (.invokevirtual 97, 3) := by decide +kernel
theorem dX4_readSilence_45 : decode cX4_readSilence 45 = .ok (.putfield 259, 3) := by decide +kernel
theorem dX4_readSilence_48 : decode cX4_readSilence 48 = .ok (.return_, 1) := by decide +kernel
def rmX4_readSilence : Room := { frames := 3, cells := 0, slots := 0, locals := 65 }
set_option maxRecDepth 100000 in
def g_X4_readSilence_0 (th : Nat) (m : MM) : Option (Unit × MM) :=
  chk (m.K th = 5) (cal (f_X4_step th m) (fun r1 m1 => chk (m1.K th = 5) (cal (f_X4_readNumbers th 0 1 m1) (fun r2 m2 => if r2 = 0 then (some ((), m2)) else (chk (m2.K th = 5) (cal (f_X4_readStop th m2) (fun r3 m3 => if r3 = 0 then (some ((), m3)) else (chk (m3.K th = 5) (cal (f_X4_check th 0 1 99 m3) (fun r4 m4 => chk (m4.K th = 5) (if (m4.I 510 th 0) = 0 then (cal (f_X4_number th 0 m4) (fun r5 m5 => ck m5 (m4.R 501 th 0) 3 (fun a1 => bnd (m5.sI 303 a1 0 r5) (fun m6 => some ((), m6))))) else (some ((), m4)))))))))))))
set_option maxHeartbeats 4000000 in
set_option maxRecDepth 100000 in
theorem s_X4_readSilence_0 {Γ : GX} {E : EX} (C : Cx Γ E cX4_readSilence RX4 1) (hr : Γ.meth.sig.returnType = none) (hrm : Γ.rm = rmX4_readSilence) (th : Nat) (m : MM) : Sm (QM Γ E emV 0 0) Γ E 1 0 0 0 [(0, va_rf (some th))] [] m (g_X4_readSilence_0 th m) := by
  unfold g_X4_readSilence_0
  refine z_aload_n C dX4_readSilence_0 rfl 0 rfl ?_
  refine z_chk (fun hk1 => ?_)
  refine z_cVV [] [] C mv_RX4_76 (fun r0 m0 h0 => M_X4_step _ _ _ _ _ _ h0) rfl rfl ⟨by rw [hrm]; exact Nat.le_of_ble_eq_true rfl, by rw [hrm]; exact Nat.le_of_ble_eq_true rfl⟩ ⟨by rw [hrm]; exact Nat.le_of_ble_eq_true rfl, by rw [hrm]; exact Nat.le_of_ble_eq_true rfl⟩ rfl hk1 rfl rfl rfl (Nat.le_of_ble_eq_true rfl) dX4_readSilence_1 (fun r1 m1 => ?_)
  refine z_aload_n C dX4_readSilence_4 rfl 0 rfl ?_
  refine z_iconst (v := 0) C dX4_readSilence_5 (by decide) ?_
  refine z_iconst (v := 1) C dX4_readSilence_6 (by decide) ?_
  refine z_chk (fun hk2 => ?_)
  refine z_cVI [.int 0, .int 1] [] C mv_RX4_85 (fun r0 m0 h0 => M_X4_readNumbers _ _ _ _ _ _ _ _ h0) rfl rfl ⟨by rw [hrm]; exact Nat.le_of_ble_eq_true rfl, by rw [hrm]; exact Nat.le_of_ble_eq_true rfl⟩ ⟨by rw [hrm]; exact Nat.le_of_ble_eq_true rfl, by rw [hrm]; exact Nat.le_of_ble_eq_true rfl⟩ rfl hk2 rfl rfl rfl (Nat.le_of_ble_eq_true rfl) dX4_readSilence_7 (fun r2 m2 => ?_)
  refine z_if_eq (tgt := 20) C dX4_readSilence_10 (by decide) (fun c1 => ?_) (fun c1 => ?_)
  · exact z_vret C hr dX4_readSilence_20
  · refine z_aload_n C dX4_readSilence_13 rfl 0 rfl ?_
    refine z_chk (fun hk3 => ?_)
    refine z_cVI [] [] C mv_RX4_89 (fun r0 m0 h0 => M_X4_readStop _ _ _ _ _ _ h0) rfl rfl ⟨by rw [hrm]; exact Nat.le_of_ble_eq_true rfl, by rw [hrm]; exact Nat.le_of_ble_eq_true rfl⟩ ⟨by rw [hrm]; exact Nat.le_of_ble_eq_true rfl, by rw [hrm]; exact Nat.le_of_ble_eq_true rfl⟩ rfl hk3 rfl rfl rfl (Nat.le_of_ble_eq_true rfl) dX4_readSilence_14 (fun r3 m3 => ?_)
    refine z_if_ne (tgt := 21) C dX4_readSilence_17 (by decide) (fun c2 => ?_) (fun c2 => ?_)
    · refine z_aload_n C dX4_readSilence_21 rfl 0 rfl ?_
      refine z_iconst (v := 0) C dX4_readSilence_22 (by decide) ?_
      refine z_iconst (v := 1) C dX4_readSilence_23 (by decide) ?_
      refine z_bipush (v := 99) C dX4_readSilence_24 (by decide) ?_
      refine z_chk (fun hk4 => ?_)
      refine z_cVV [.int 0, .int 1, .int 99] [] C mv_RX4_93 (fun r0 m0 h0 => M_X4_check _ _ _ _ _ _ _ _ _ h0) rfl rfl ⟨by rw [hrm]; exact Nat.le_of_ble_eq_true rfl, by rw [hrm]; exact Nat.le_of_ble_eq_true rfl⟩ ⟨by rw [hrm]; exact Nat.le_of_ble_eq_true rfl, by rw [hrm]; exact Nat.le_of_ble_eq_true rfl⟩ rfl hk4 rfl rfl rfl (Nat.le_of_ble_eq_true rfl) dX4_readSilence_26 (fun r4 m4 => ?_)
      refine z_aload_n C dX4_readSilence_29 rfl 0 rfl ?_
      refine z_chk (fun hk5 => ?_)
      refine z_getI C fl_RX4_42 rfl hk5 dX4_readSilence_30 ?_
      refine z_if_ne (tgt := 48) C dX4_readSilence_33 (by decide) (fun c3 => ?_) (fun c3 => ?_)
      · exact z_vret C hr dX4_readSilence_48
      · refine z_aload_n C dX4_readSilence_36 rfl 0 rfl ?_
        refine z_getR C fl_RX4_21 rfl hk5 dX4_readSilence_37 ?_
        refine z_aload_n C dX4_readSilence_40 rfl 0 rfl ?_
        refine z_iconst (v := 0) C dX4_readSilence_41 (by decide) ?_
        refine z_cVI [.int 0] [va_rf (m4.R 501 th 0)] C mv_RX4_97 (fun r0 m0 h0 => M_X4_number _ _ _ _ _ _ _ h0) rfl rfl ⟨by rw [hrm]; exact Nat.le_of_ble_eq_true rfl, by rw [hrm]; exact Nat.le_of_ble_eq_true rfl⟩ ⟨by rw [hrm]; exact Nat.le_of_ble_eq_true rfl, by rw [hrm]; exact Nat.le_of_ble_eq_true rfl⟩ rfl hk5 rfl rfl rfl (by simp [cat_rf, cat_i, cat_l, cat_a]) dX4_readSilence_42 (fun r5 m5 => ?_)
        refine z_ck (fun a1 hr1 hk6 => ?_)
        refine z_putI C fl_RX4_259 (fun h => by cases h) hr1 hk6 rfl rfl dX4_readSilence_45 (fun m6 eK1 eN1 => ?_)
        exact z_vret C hr dX4_readSilence_48
    · exact z_vret C hr dX4_readSilence_20
def f_X4_readSilence (th : Nat) (m : MM) : Option (Unit × MM) := g_X4_readSilence_0 th m
theorem M_X4_readSilence (l : Launch) (E : EX) (th : Nat) (m : MM) (r : Unit) (m2 : MM) (h : f_X4_readSilence th m = some (r, m2)) : Met l yX4_readSilence (.code yX4_readSilence cX4_readSilence 1 none :: TB) rmX4_readSilence (va_Pc [.ref th] (St E m)) (QR E (emV r) m2) 0 0 (AA E) :=
  met_of (em := emV) (plainFor_of_name rfl) (Nat.le_of_ble_eq_true rfl) (L0 := [(0, va_rf (some th))]) rfl (fun Γ _ hrm C hr hn => s_X4_readSilence_0 C hr hrm th m) h

theorem dX4_readRule_0 : decode cX4_readRule 0 = .ok (.aload_n 0, 1) := by decide +kernel
theorem dX4_readRule_1 : decode cX4_readRule 1 = .ok (.getfield 49, 3) := by decide +kernel
theorem dX4_readRule_4 : decode cX4_readRule 4 = .ok (.istore_n 1, 1) := by decide +kernel
theorem dX4_readRule_5 : decode cX4_readRule 5 = .ok (.aload_n 0, 1) := by decide +kernel
theorem dX4_readRule_6 : decode cX4_readRule 6 = .ok (.invokevirtual 229, 3) := by decide +kernel
theorem dX4_readRule_9 : decode cX4_readRule 9 = .ok (.istore_n 2, 1) := by decide +kernel
theorem dX4_readRule_10 : decode cX4_readRule 10 = .ok (.iload_n 2, 1) := by decide +kernel
theorem dX4_readRule_11 : decode cX4_readRule 11 = .ok (.iconst (-1), 1) := by decide +kernel
theorem dX4_readRule_12 : decode cX4_readRule 12 = .ok (.if_icmp .eq 12, 3) := by decide +kernel
theorem dX4_readRule_15 : decode cX4_readRule 15 = .ok (.aload_n 0, 1) := by decide +kernel
theorem dX4_readRule_16 : decode cX4_readRule 16 = .ok (.iload_n 2, 1) := by decide +kernel
theorem dX4_readRule_17 : decode cX4_readRule 17 = .ok (.iload_n 1, 1) := by decide +kernel
theorem dX4_readRule_18 : decode cX4_readRule 18 = .ok (.invokevirtual 232, 3) := by decide +kernel
theorem dX4_readRule_21 : decode cX4_readRule 21 = .ok (.goto 101, 3) := by decide +kernel
theorem dX4_readRule_24 : decode cX4_readRule 24 = .ok (.aload_n 0, 1) := by decide +kernel
theorem dX4_readRule_25 : decode cX4_readRule 25 = .ok (.ldc 235, 2) := by decide +kernel
theorem dX4_readRule_27 : decode cX4_readRule 27 = .ok (.invokevirtual 109, 3) := by decide +kernel
theorem dX4_readRule_30 : decode cX4_readRule 30 = .ok (.ifCond .ne 12, 3) := by decide +kernel
theorem dX4_readRule_33 : decode cX4_readRule 33 = .ok (.aload_n 0, 1) := by decide +kernel
theorem dX4_readRule_34 : decode cX4_readRule 34 = .ok (.ldc 237, 2) := by decide +kernel
theorem dX4_readRule_36 : decode cX4_readRule 36 = .ok (.invokevirtual 109, 3) := by decide +kernel
theorem dX4_readRule_39 : decode cX4_readRule 39 = .ok (.ifCond .eq 32, 3) := by decide +kernel
theorem dX4_readRule_42 : decode cX4_readRule 42 = .ok (.aload_n 0, 1) := by decide +kernel
theorem dX4_readRule_43 : decode cX4_readRule 43 = .ok (.ldc 237, 2) := by decide +kernel
theorem dX4_readRule_45 : decode cX4_readRule 45 = .ok (.invokevirtual 109, 3) := by decide +kernel
theorem dX4_readRule_48 : decode cX4_readRule 48 = .ok (.istore_n 3, 1) := by decide +kernel
theorem dX4_readRule_49 : decode cX4_readRule 49 = .ok (.aload_n 0, 1) := by decide +kernel
theorem dX4_readRule_50 : decode cX4_readRule 50 = .ok (.invokevirtual 76, 3) := by decide +kernel
theorem dX4_readRule_53 : decode cX4_readRule 53 = .ok (.aload_n 0, 1) := by decide +kernel
theorem dX4_readRule_54 : decode cX4_readRule 54 = .ok (.invokevirtual 89, 3) := by decide +kernel
theorem dX4_readRule_57 : decode cX4_readRule 57 = .ok (.ifCond .eq 11, 3) := by decide +kernel
theorem dX4_readRule_60 : decode cX4_readRule 60 = .ok (.aload_n 0, 1) := by decide +kernel
theorem dX4_readRule_61 : decode cX4_readRule 61 = .ok (.getfield 21, 3) := by decide +kernel
theorem dX4_readRule_64 : decode cX4_readRule 64 = .ok (.iload_n 3, 1) := by decide +kernel
theorem dX4_readRule_65 : decode cX4_readRule 65 = .ok (.putfield 239, 3) := by decide +kernel
theorem dX4_readRule_68 : decode cX4_readRule 68 = .ok (.goto 54, 3) := by decide +kernel
theorem dX4_readRule_71 : decode cX4_readRule 71 = .ok (.aload_n 0, 1) := by decide +kernel
theorem dX4_readRule_72 : decode cX4_readRule 72 = .ok (.ldc 141, 2) := by decide +kernel
theorem dX4_readRule_74 : decode cX4_readRule 74 = .ok (.invokevirtual 109, 3) := by decide +kernel
theorem dX4_readRule_77 : decode cX4_readRule 77 = .ok (.ifCond .eq 25, 3) := by decide +kernel
theorem dX4_readRule_80 : decode cX4_readRule 80 = .ok (.aload_n 0, 1) := by decide +kernel
theorem dX4_readRule_81 : decode cX4_readRule 81 = .ok (.invokevirtual 76, 3) := by decide +kernel
theorem dX4_readRule_84 : decode cX4_readRule 84 = .ok (.aload_n 0, 1) := by decide +kernel
theorem dX4_readRule_85 : decode cX4_readRule 85 = .ok (.invokevirtual 89, 3) := by decide +kernel
theorem dX4_readRule_88 : decode cX4_readRule 88 = .ok (.ifCond .eq 34, 3) := by decide +kernel
theorem dX4_readRule_91 : decode cX4_readRule 91 = .ok (.aload_n 0, 1) := by decide +kernel
theorem dX4_readRule_92 : decode cX4_readRule 92 = .ok (.getfield 21, 3) := by decide +kernel
theorem dX4_readRule_95 : decode cX4_readRule 95 = .ok (.iconst 1, 1) := by decide +kernel
theorem dX4_readRule_96 : decode cX4_readRule 96 = .ok (.putfield 242, 3) := by decide +kernel
theorem dX4_readRule_99 : decode cX4_readRule 99 = .ok (.goto 23, 3) := by decide +kernel
theorem dX4_readRule_102 : decode cX4_readRule 102 = .ok (.aload_n 0, 1) := by decide +kernel
theorem dX4_readRule_103 : decode cX4_readRule 103 = .ok (.ldc 245, 2) := by decide +kernel
theorem dX4_readRule_105 : decode cX4_readRule 105 = .ok (.invokevirtual 109, 3) := by decide +kernel
theorem dX4_readRule_108 : decode cX4_readRule 108 = .ok (.ifCond .eq 10, 3) := by decide +kernel
theorem dX4_readRule_111 : decode cX4_readRule 111 = .ok (.aload_n 0, 1) := by decide +kernel
theorem dX4_readRule_112 : decode cX4_readRule 112 = .ok (.invokevirtual 247, 3) := by decide +kernel
theorem dX4_readRule_115 : decode cX4_readRule 115 = .ok (.goto 7, 3) := by decide +kernel
theorem dX4_readRule_118 : decode cX4_readRule 118 = .ok (.aload_n 0, 1) := by decide +kernel
theorem dX4_readRule_119 : decode cX4_readRule 119 = .ok (.invokevirtual 161, 3) := by decide +kernel
theorem dX4_readRule_122 : decode cX4_readRule 122 = .ok (.return_, 1) := by decide +kernel
def rmX4_readRule : Room := { frames := 6, cells := 0, slots := 0, locals := 131 }
set_option maxRecDepth 100000 in
def g_X4_readRule_68 (th : Nat) (m : MM) : Option (Unit × MM) :=
  some ((), m)
set_option maxHeartbeats 4000000 in
set_option maxRecDepth 100000 in
theorem s_X4_readRule_68 {Γ : GX} {E : EX} (C : Cx Γ E cX4_readRule RX4 4) (hr : Γ.meth.sig.returnType = none) (hrm : Γ.rm = rmX4_readRule) (th : Nat) (m : MM) : Sm (QM Γ E emV 0 0) Γ E 4 0 0 68 [(0, va_rf (some th))] [] m (g_X4_readRule_68 th m) := by
  unfold g_X4_readRule_68
  refine z_goto (tgt := 122) C dX4_readRule_68 (by decide) ?_
  exact z_vret C hr dX4_readRule_122
set_option maxRecDepth 100000 in
def g_X4_readRule_42 (th : Nat) (m : MM) : Option (Unit × MM) :=
  chk (m.K th = 5) (cal (f_X4_isWord th 17 m) (fun r1 m1 => chk (m1.K th = 5) (cal (f_X4_step th m1) (fun r2 m2 => chk (m2.K th = 5) (cal (f_X4_readStop th m2) (fun r3 m3 => if r3 = 0 then (g_X4_readRule_68 th m3) else (chk (m3.K th = 5) (ck m3 (m3.R 501 th 0) 3 (fun a1 => chk (r1 = 0 ∨ r1 = 1) (bnd (m3.sI 301 a1 0 r1) (fun m4 => g_X4_readRule_68 th m4)))))))))))
set_option maxHeartbeats 4000000 in
set_option maxRecDepth 100000 in
theorem s_X4_readRule_42 {Γ : GX} {E : EX} (C : Cx Γ E cX4_readRule RX4 4) (hr : Γ.meth.sig.returnType = none) (hrm : Γ.rm = rmX4_readRule) (th : Nat) (m : MM) : Sm (QM Γ E emV 0 0) Γ E 4 0 0 42 [(0, va_rf (some th))] [] m (g_X4_readRule_42 th m) := by
  unfold g_X4_readRule_42
  refine z_aload_n C dX4_readRule_42 rfl 0 rfl ?_
  refine z_ldcS C (i := 17) (by decide) rfl dX4_readRule_43 ?_
  refine z_chk (fun hk1 => ?_)
  refine z_cVI [va_rf (some (E.adK 17))] [] C mv_RX4_109 (fun r0 m0 h0 => M_X4_isWord _ _ _ _ _ _ _ h0) rfl rfl ⟨by rw [hrm]; exact Nat.le_of_ble_eq_true rfl, by rw [hrm]; exact Nat.le_of_ble_eq_true rfl⟩ ⟨by rw [hrm]; exact Nat.le_of_ble_eq_true rfl, by rw [hrm]; exact Nat.le_of_ble_eq_true rfl⟩ rfl hk1 rfl rfl rfl (Nat.le_of_ble_eq_true rfl) dX4_readRule_45 (fun r1 m1 => ?_)
  refine z_istore_n (i := 3) (L2 := [(3, .int r1), (0, va_rf (some th))]) C dX4_readRule_48 rfl (by decide) rfl ?_
  refine z_aload_n C dX4_readRule_49 rfl 1 rfl ?_
  refine z_chk (fun hk2 => ?_)
  refine z_cVV [] [] C mv_RX4_76 (fun r0 m0 h0 => M_X4_step _ _ _ _ _ _ h0) rfl rfl ⟨by rw [hrm]; exact Nat.le_of_ble_eq_true rfl, by rw [hrm]; exact Nat.le_of_ble_eq_true rfl⟩ ⟨by rw [hrm]; exact Nat.le_of_ble_eq_true rfl, by rw [hrm]; exact Nat.le_of_ble_eq_true rfl⟩ rfl hk2 rfl rfl rfl (Nat.le_of_ble_eq_true rfl) dX4_readRule_50 (fun r2 m2 => ?_)
  refine z_aload_n C dX4_readRule_53 rfl 1 rfl ?_
  refine z_chk (fun hk3 => ?_)
  refine z_cVI [] [] C mv_RX4_89 (fun r0 m0 h0 => M_X4_readStop _ _ _ _ _ _ h0) rfl rfl ⟨by rw [hrm]; exact Nat.le_of_ble_eq_true rfl, by rw [hrm]; exact Nat.le_of_ble_eq_true rfl⟩ ⟨by rw [hrm]; exact Nat.le_of_ble_eq_true rfl, by rw [hrm]; exact Nat.le_of_ble_eq_true rfl⟩ rfl hk3 rfl rfl rfl (Nat.le_of_ble_eq_true rfl) dX4_readRule_54 (fun r3 m3 => ?_)
  refine z_if_eq (tgt := 68) C dX4_readRule_57 (by decide) (fun c1 => ?_) (fun c1 => ?_)
  · exact z_sub [1] rfl (s_X4_readRule_68 C hr hrm th m3)
  · refine z_aload_n C dX4_readRule_60 rfl 1 rfl ?_
    refine z_chk (fun hk4 => ?_)
    refine z_getR C fl_RX4_21 rfl hk4 dX4_readRule_61 ?_
    refine z_iload_n C dX4_readRule_64 rfl 0 rfl ?_
    refine z_ck (fun a1 hr1 hk5 => ?_)
    refine z_chk (fun hb1 => ?_)
    refine z_putI C fl_RX4_239 (fun h => by cases h) hr1 hk5 (nb_of hb1) (fb_of hb1) dX4_readRule_65 (fun m4 eK1 eN1 => ?_)
    exact z_sub [1] rfl (s_X4_readRule_68 C hr hrm th m4)
set_option maxRecDepth 100000 in
def g_X4_readRule_0 (th : Nat) (m : MM) : Option (Unit × MM) :=
  chk (m.K th = 5) (bnd (m.I 508 th 0) (fun y1 => cal (f_X4_wordSort th m) (fun r4 m5 => if r4 = (-1) then (chk (m5.K th = 5) (cal (f_X4_isWord th 16 m5) (fun r5 m6 => if r5 = 0 then (chk (m6.K th = 5) (cal (f_X4_isWord th 17 m6) (fun r6 m7 => if r6 = 0 then (chk (m7.K th = 5) (cal (f_X4_isWord th 9 m7) (fun r7 m8 => if r7 = 0 then (chk (m8.K th = 5) (cal (f_X4_isWord th 18 m8) (fun r8 m9 => if r8 = 0 then (chk (m9.K th = 5) (cal (f_X4_breakOff th m9) (fun r9 m10 => some ((), m10)))) else (chk (m9.K th = 5) (cal (f_X4_readSilence th m9) (fun r10 m11 => some ((), m11))))))) else (chk (m8.K th = 5) (cal (f_X4_step th m8) (fun r11 m12 => chk (m12.K th = 5) (cal (f_X4_readStop th m12) (fun r12 m13 => if r12 = 0 then (some ((), m13)) else (chk (m13.K th = 5) (ck m13 (m13.R 501 th 0) 3 (fun a2 => bnd (m13.sI 302 a2 0 1) (fun m14 => some ((), m14))))))))))))) else (g_X4_readRule_42 th m7)))) else (g_X4_readRule_42 th m6)))) else (chk (m5.K th = 5) (cal (f_X4_readDistance th r4 y1 m5) (fun r13 m15 => some ((), m15)))))))
set_option maxHeartbeats 4000000 in
set_option maxRecDepth 100000 in
theorem s_X4_readRule_0 {Γ : GX} {E : EX} (C : Cx Γ E cX4_readRule RX4 4) (hr : Γ.meth.sig.returnType = none) (hrm : Γ.rm = rmX4_readRule) (th : Nat) (m : MM) : Sm (QM Γ E emV 0 0) Γ E 4 0 0 0 [(0, va_rf (some th))] [] m (g_X4_readRule_0 th m) := by
  unfold g_X4_readRule_0
  refine z_aload_n C dX4_readRule_0 rfl 0 rfl ?_
  refine z_chk (fun hk6 => ?_)
  refine z_getI C fl_RX4_49 rfl hk6 dX4_readRule_1 ?_
  refine z_bndI (fun y1 => ?_)
  refine z_istore_n (i := 1) (L2 := [(1, .int y1), (0, va_rf (some th))]) C dX4_readRule_4 rfl (by decide) rfl ?_
  refine z_aload_n C dX4_readRule_5 rfl 1 rfl ?_
  refine z_cVI [] [] C mv_RX4_229 (fun r0 m0 h0 => M_X4_wordSort _ _ _ _ _ _ h0) rfl rfl ⟨by rw [hrm]; exact Nat.le_of_ble_eq_true rfl, by rw [hrm]; exact Nat.le_of_ble_eq_true rfl⟩ ⟨by rw [hrm]; exact Nat.le_of_ble_eq_true rfl, by rw [hrm]; exact Nat.le_of_ble_eq_true rfl⟩ rfl hk6 rfl rfl rfl (Nat.le_of_ble_eq_true rfl) dX4_readRule_6 (fun r4 m5 => ?_)
  refine z_istore_n (i := 2) (L2 := [(2, .int r4), (1, .int y1), (0, va_rf (some th))]) C dX4_readRule_9 rfl (by decide) rfl ?_
  refine z_iload_n C dX4_readRule_10 rfl 0 rfl ?_
  refine z_iconst (v := (-1)) C dX4_readRule_11 (by decide) ?_
  refine z_icmp_eq (tgt := 24) C dX4_readRule_12 (by decide) (fun c2 => ?_) (fun c2 => ?_)
  · refine z_aload_n C dX4_readRule_24 rfl 2 rfl ?_
    refine z_ldcS C (i := 16) (by decide) rfl dX4_readRule_25 ?_
    refine z_chk (fun hk7 => ?_)
    refine z_cVI [va_rf (some (E.adK 16))] [] C mv_RX4_109 (fun r0 m0 h0 => M_X4_isWord _ _ _ _ _ _ _ h0) rfl rfl ⟨by rw [hrm]; exact Nat.le_of_ble_eq_true rfl, by rw [hrm]; exact Nat.le_of_ble_eq_true rfl⟩ ⟨by rw [hrm]; exact Nat.le_of_ble_eq_true rfl, by rw [hrm]; exact Nat.le_of_ble_eq_true rfl⟩ rfl hk7 rfl rfl rfl (Nat.le_of_ble_eq_true rfl) dX4_readRule_27 (fun r5 m6 => ?_)
    refine z_if_ne (tgt := 42) C dX4_readRule_30 (by decide) (fun c3 => ?_) (fun c3 => ?_)
    · exact z_sub [2] rfl (s_X4_readRule_42 C hr hrm th m6)
    · refine z_aload_n C dX4_readRule_33 rfl 2 rfl ?_
      refine z_ldcS C (i := 17) (by decide) rfl dX4_readRule_34 ?_
      refine z_chk (fun hk8 => ?_)
      refine z_cVI [va_rf (some (E.adK 17))] [] C mv_RX4_109 (fun r0 m0 h0 => M_X4_isWord _ _ _ _ _ _ _ h0) rfl rfl ⟨by rw [hrm]; exact Nat.le_of_ble_eq_true rfl, by rw [hrm]; exact Nat.le_of_ble_eq_true rfl⟩ ⟨by rw [hrm]; exact Nat.le_of_ble_eq_true rfl, by rw [hrm]; exact Nat.le_of_ble_eq_true rfl⟩ rfl hk8 rfl rfl rfl (Nat.le_of_ble_eq_true rfl) dX4_readRule_36 (fun r6 m7 => ?_)
      refine z_if_eq (tgt := 71) C dX4_readRule_39 (by decide) (fun c4 => ?_) (fun c4 => ?_)
      · refine z_aload_n C dX4_readRule_71 rfl 2 rfl ?_
        refine z_ldcS C (i := 9) (by decide) rfl dX4_readRule_72 ?_
        refine z_chk (fun hk9 => ?_)
        refine z_cVI [va_rf (some (E.adK 9))] [] C mv_RX4_109 (fun r0 m0 h0 => M_X4_isWord _ _ _ _ _ _ _ h0) rfl rfl ⟨by rw [hrm]; exact Nat.le_of_ble_eq_true rfl, by rw [hrm]; exact Nat.le_of_ble_eq_true rfl⟩ ⟨by rw [hrm]; exact Nat.le_of_ble_eq_true rfl, by rw [hrm]; exact Nat.le_of_ble_eq_true rfl⟩ rfl hk9 rfl rfl rfl (Nat.le_of_ble_eq_true rfl) dX4_readRule_74 (fun r7 m8 => ?_)
        refine z_if_eq (tgt := 102) C dX4_readRule_77 (by decide) (fun c5 => ?_) (fun c5 => ?_)
        · refine z_aload_n C dX4_readRule_102 rfl 2 rfl ?_
          refine z_ldcS C (i := 18) (by decide) rfl dX4_readRule_103 ?_
          refine z_chk (fun hk10 => ?_)
          refine z_cVI [va_rf (some (E.adK 18))] [] C mv_RX4_109 (fun r0 m0 h0 => M_X4_isWord _ _ _ _ _ _ _ h0) rfl rfl ⟨by rw [hrm]; exact Nat.le_of_ble_eq_true rfl, by rw [hrm]; exact Nat.le_of_ble_eq_true rfl⟩ ⟨by rw [hrm]; exact Nat.le_of_ble_eq_true rfl, by rw [hrm]; exact Nat.le_of_ble_eq_true rfl⟩ rfl hk10 rfl rfl rfl (Nat.le_of_ble_eq_true rfl) dX4_readRule_105 (fun r8 m9 => ?_)
          refine z_if_eq (tgt := 118) C dX4_readRule_108 (by decide) (fun c6 => ?_) (fun c6 => ?_)
          · refine z_aload_n C dX4_readRule_118 rfl 2 rfl ?_
            refine z_chk (fun hk11 => ?_)
            refine z_cVV [] [] C mv_RX4_161 (fun r0 m0 h0 => M_X4_breakOff _ _ _ _ _ _ h0) rfl rfl ⟨by rw [hrm]; exact Nat.le_of_ble_eq_true rfl, by rw [hrm]; exact Nat.le_of_ble_eq_true rfl⟩ ⟨by rw [hrm]; exact Nat.le_of_ble_eq_true rfl, by rw [hrm]; exact Nat.le_of_ble_eq_true rfl⟩ rfl hk11 rfl rfl rfl (Nat.le_of_ble_eq_true rfl) dX4_readRule_119 (fun r9 m10 => ?_)
            exact z_vret C hr dX4_readRule_122
          · refine z_aload_n C dX4_readRule_111 rfl 2 rfl ?_
            refine z_chk (fun hk12 => ?_)
            refine z_cVV [] [] C mv_RX4_247 (fun r0 m0 h0 => M_X4_readSilence _ _ _ _ _ _ h0) rfl rfl ⟨by rw [hrm]; exact Nat.le_of_ble_eq_true rfl, by rw [hrm]; exact Nat.le_of_ble_eq_true rfl⟩ ⟨by rw [hrm]; exact Nat.le_of_ble_eq_true rfl, by rw [hrm]; exact Nat.le_of_ble_eq_true rfl⟩ rfl hk12 rfl rfl rfl (Nat.le_of_ble_eq_true rfl) dX4_readRule_112 (fun r10 m11 => ?_)
            refine z_goto (tgt := 122) C dX4_readRule_115 (by decide) ?_
            exact z_vret C hr dX4_readRule_122
        · refine z_aload_n C dX4_readRule_80 rfl 2 rfl ?_
          refine z_chk (fun hk13 => ?_)
          refine z_cVV [] [] C mv_RX4_76 (fun r0 m0 h0 => M_X4_step _ _ _ _ _ _ h0) rfl rfl ⟨by rw [hrm]; exact Nat.le_of_ble_eq_true rfl, by rw [hrm]; exact Nat.le_of_ble_eq_true rfl⟩ ⟨by rw [hrm]; exact Nat.le_of_ble_eq_true rfl, by rw [hrm]; exact Nat.le_of_ble_eq_true rfl⟩ rfl hk13 rfl rfl rfl (Nat.le_of_ble_eq_true rfl) dX4_readRule_81 (fun r11 m12 => ?_)
          refine z_aload_n C dX4_readRule_84 rfl 2 rfl ?_
          refine z_chk (fun hk14 => ?_)
          refine z_cVI [] [] C mv_RX4_89 (fun r0 m0 h0 => M_X4_readStop _ _ _ _ _ _ h0) rfl rfl ⟨by rw [hrm]; exact Nat.le_of_ble_eq_true rfl, by rw [hrm]; exact Nat.le_of_ble_eq_true rfl⟩ ⟨by rw [hrm]; exact Nat.le_of_ble_eq_true rfl, by rw [hrm]; exact Nat.le_of_ble_eq_true rfl⟩ rfl hk14 rfl rfl rfl (Nat.le_of_ble_eq_true rfl) dX4_readRule_85 (fun r12 m13 => ?_)
          refine z_if_eq (tgt := 122) C dX4_readRule_88 (by decide) (fun c7 => ?_) (fun c7 => ?_)
          · exact z_vret C hr dX4_readRule_122
          · refine z_aload_n C dX4_readRule_91 rfl 2 rfl ?_
            refine z_chk (fun hk15 => ?_)
            refine z_getR C fl_RX4_21 rfl hk15 dX4_readRule_92 ?_
            refine z_iconst (v := 1) C dX4_readRule_95 (by decide) ?_
            refine z_ck (fun a2 hr2 hk16 => ?_)
            refine z_putI C fl_RX4_242 (fun h => by cases h) hr2 hk16 rfl rfl dX4_readRule_96 (fun m14 eK2 eN2 => ?_)
            refine z_goto (tgt := 122) C dX4_readRule_99 (by decide) ?_
            exact z_vret C hr dX4_readRule_122
      · exact z_sub [2] rfl (s_X4_readRule_42 C hr hrm th m7)
  · refine z_aload_n C dX4_readRule_15 rfl 2 rfl ?_
    refine z_iload_n C dX4_readRule_16 rfl 0 rfl ?_
    refine z_iload_n C dX4_readRule_17 rfl 1 rfl ?_
    refine z_chk (fun hk17 => ?_)
    refine z_cVV [.int r4, .int y1] [] C mv_RX4_232 (fun r0 m0 h0 => M_X4_readDistance _ _ _ _ _ _ _ _ h0) rfl rfl ⟨by rw [hrm]; exact Nat.le_of_ble_eq_true rfl, by rw [hrm]; exact Nat.le_of_ble_eq_true rfl⟩ ⟨by rw [hrm]; exact Nat.le_of_ble_eq_true rfl, by rw [hrm]; exact Nat.le_of_ble_eq_true rfl⟩ rfl hk17 rfl rfl rfl (Nat.le_of_ble_eq_true rfl) dX4_readRule_18 (fun r13 m15 => ?_)
    refine z_goto (tgt := 122) C dX4_readRule_21 (by decide) ?_
    exact z_vret C hr dX4_readRule_122
def f_X4_readRule (th : Nat) (m : MM) : Option (Unit × MM) := g_X4_readRule_0 th m
theorem M_X4_readRule (l : Launch) (E : EX) (th : Nat) (m : MM) (r : Unit) (m2 : MM) (h : f_X4_readRule th m = some (r, m2)) : Met l yX4_readRule (.code yX4_readRule cX4_readRule 4 none :: TB) rmX4_readRule (va_Pc [.ref th] (St E m)) (QR E (emV r) m2) 0 0 (AA E) :=
  met_of (em := emV) (plainFor_of_name rfl) (Nat.le_of_ble_eq_true rfl) (L0 := [(0, va_rf (some th))]) rfl (fun Γ _ hrm C hr hn => s_X4_readRule_0 C hr hrm th m) h

theorem dX4_readLaw_0 : decode cX4_readLaw 0 = .ok (.aload_n 0, 1) := by decide +kernel
theorem dX4_readLaw_1 : decode cX4_readLaw 1 = .ok (.aload_n 1, 1) := by decide +kernel
theorem dX4_readLaw_2 : decode cX4_readLaw 2 = .ok (.iload_n 2, 1) := by decide +kernel
theorem dX4_readLaw_3 : decode cX4_readLaw 3 = .ok (.invokevirtual 32, 3) := by decide +kernel
theorem dX4_readLaw_6 : decode cX4_readLaw 6 = .ok (.aload_n 0, 1) := by decide +kernel
theorem dX4_readLaw_7 : decode cX4_readLaw 7 = .ok (.getfield 21, 3) := by decide +kernel
theorem dX4_readLaw_10 : decode cX4_readLaw 10 = .ok (.invokevirtual 59, 3) := by decide +kernel
theorem dX4_readLaw_13 : decode cX4_readLaw 13 = .ok (.iconst 1, 1) := by decide +kernel
theorem dX4_readLaw_14 : decode cX4_readLaw 14 = .ok (.istore_n 3, 1) := by decide +kernel
theorem dX4_readLaw_15 : decode cX4_readLaw 15 = .ok (.iload_n 3, 1) := by decide +kernel
theorem dX4_readLaw_16 : decode cX4_readLaw 16 = .ok (.sipush 500, 3) := by decide +kernel
theorem dX4_readLaw_19 : decode cX4_readLaw 19 = .ok (.if_icmp .gt 28, 3) := by decide +kernel
theorem dX4_readLaw_22 : decode cX4_readLaw 22 = .ok (.aload_n 0, 1) := by decide +kernel
theorem dX4_readLaw_23 : decode cX4_readLaw 23 = .ok (.getfield 42, 3) := by decide +kernel
theorem dX4_readLaw_26 : decode cX4_readLaw 26 = .ok (.iconst 1, 1) := by decide +kernel
theorem dX4_readLaw_27 : decode cX4_readLaw 27 = .ok (.if_icmp .eq 20, 3) := by decide +kernel
theorem dX4_readLaw_30 : decode cX4_readLaw 30 = .ok (.aload_n 0, 1) := by decide +kernel
theorem dX4_readLaw_31 : decode cX4_readLaw 31 = .ok (.getfield 46, 3) := by decide +kernel
theorem dX4_readLaw_34 : decode cX4_readLaw 34 = .ok (.ifCond .eq 13, 3) := by decide +kernel
theorem dX4_readLaw_37 : decode cX4_readLaw 37 = .ok (.aload_n 0, 1) := by decide +kernel
theorem dX4_readLaw_38 : decode cX4_readLaw 38 = .ok (.invokevirtual 60, 3) := by decide +kernel
theorem dX4_readLaw_41 : decode cX4_readLaw 41 = .ok (.iinc 3 1, 3) := by decide +kernel
theorem dX4_readLaw_44 : decode cX4_readLaw 44 = .ok (.goto (-29), 3) := by decide +kernel
theorem dX4_readLaw_47 : decode cX4_readLaw 47 = .ok (.aload_n 0, 1) := by decide +kernel
theorem dX4_readLaw_48 : decode cX4_readLaw 48 = .ok (.getfield 42, 3) := by decide +kernel
theorem dX4_readLaw_51 : decode cX4_readLaw 51 = .ok (.ifCond .ne 7, 3) := by decide +kernel
theorem dX4_readLaw_54 : decode cX4_readLaw 54 = .ok (.iconst 1, 1) := by decide +kernel
theorem dX4_readLaw_55 : decode cX4_readLaw 55 = .ok (.goto 4, 3) := by decide +kernel
theorem dX4_readLaw_58 : decode cX4_readLaw 58 = .ok (.iconst 0, 1) := by decide +kernel
theorem dX4_readLaw_59 : decode cX4_readLaw 59 = .ok (.ireturn, 1) := by decide +kernel
def rmX4_readLaw : Room := { frames := 7, cells := 0, slots := 0, locals := 154 }
set_option maxRecDepth 100000 in
def g_X4_readLaw_15 (th : Nat) (p1 : Option Nat) (p2 : Int32) (k15 : Int32 → MM → Option (Int32 × MM)) (k47 : MM → Option (Int32 × MM)) (x3 : Int32) (m : MM) : Option (Int32 × MM) :=
  if 500 < x3 then (k47 m) else (chk (m.K th = 5) (if (m.I 510 th 0) = 1 then (k47 m) else (if (m.I 507 th 0) = 0 then (k47 m) else (cal (f_X4_readRule th m) (fun r1 m1 => k15 (x3 + 1) m1)))))
set_option maxHeartbeats 4000000 in
set_option maxRecDepth 100000 in
theorem s_X4_readLaw_15 {Γ : GX} {E : EX} (C : Cx Γ E cX4_readLaw RX4 4) (hr : Γ.meth.sig.returnType = (some .boolean)) (hrm : Γ.rm = rmX4_readLaw) (th : Nat) (p1 : Option Nat) (p2 : Int32) (k15 : Int32 → MM → Option (Int32 × MM)) (k47 : MM → Option (Int32 × MM)) (h15 : ∀ (x3 : Int32) (m : MM), Sm (QM Γ E emI 0 0) Γ E 4 0 0 15 [(0, va_rf (some th)), (1, va_rf p1), (2, .int p2), (3, .int x3)] [] m (k15 x3 m)) (h47 : ∀ (m : MM), Sm (QM Γ E emI 0 0) Γ E 4 0 0 47 [(0, va_rf (some th)), (1, va_rf p1), (2, .int p2)] [] m (k47 m)) (x3 : Int32) (m : MM) : Sm (QM Γ E emI 0 0) Γ E 4 0 0 15 [(0, va_rf (some th)), (1, va_rf p1), (2, .int p2), (3, .int x3)] [] m (g_X4_readLaw_15 th p1 p2 k15 k47 x3 m) := by
  unfold g_X4_readLaw_15
  refine z_iload_n C dX4_readLaw_15 rfl 3 rfl ?_
  refine z_sipush (v := 500) C dX4_readLaw_16 (by decide) ?_
  refine z_icmp_gt (tgt := 47) C dX4_readLaw_19 (by decide) (fun c1 => ?_) (fun c1 => ?_)
  · exact z_sub [0, 1, 2] rfl (h47 m)
  · refine z_aload_n C dX4_readLaw_22 rfl 0 rfl ?_
    refine z_chk (fun hk1 => ?_)
    refine z_getI C fl_RX4_42 rfl hk1 dX4_readLaw_23 ?_
    refine z_iconst (v := 1) C dX4_readLaw_26 (by decide) ?_
    refine z_icmp_eq (tgt := 47) C dX4_readLaw_27 (by decide) (fun c2 => ?_) (fun c2 => ?_)
    · exact z_sub [0, 1, 2] rfl (h47 m)
    · refine z_aload_n C dX4_readLaw_30 rfl 0 rfl ?_
      refine z_getI C fl_RX4_46 rfl hk1 dX4_readLaw_31 ?_
      refine z_if_eq (tgt := 47) C dX4_readLaw_34 (by decide) (fun c3 => ?_) (fun c3 => ?_)
      · exact z_sub [0, 1, 2] rfl (h47 m)
      · refine z_aload_n C dX4_readLaw_37 rfl 0 rfl ?_
        refine z_cVV [] [] C mv_RX4_60 (fun r0 m0 h0 => M_X4_readRule _ _ _ _ _ _ h0) rfl rfl ⟨by rw [hrm]; exact Nat.le_of_ble_eq_true rfl, by rw [hrm]; exact Nat.le_of_ble_eq_true rfl⟩ ⟨by rw [hrm]; exact Nat.le_of_ble_eq_true rfl, by rw [hrm]; exact Nat.le_of_ble_eq_true rfl⟩ rfl hk1 rfl rfl rfl (Nat.le_of_ble_eq_true rfl) dX4_readLaw_38 (fun r1 m1 => ?_)
        refine z_iinc (v := 1) (L2 := [(3, .int (x3 + 1)), (0, va_rf (some th)), (1, va_rf p1), (2, .int p2)]) C dX4_readLaw_41 3 rfl (by decide) (by decide) rfl ?_
        refine z_goto (tgt := 15) C dX4_readLaw_44 (by decide) ?_
        exact z_sub [1, 2, 3, 0] rfl (h15 (x3 + 1) m1)
def l_X4_readLaw_15 (th : Nat) (p1 : Option Nat) (p2 : Int32) (k47 : MM → Option (Int32 × MM)) : Nat → Int32 → MM → Option (Int32 × MM) := lp (fun _ _ => none) (fun k15 => g_X4_readLaw_15 th p1 p2 k15 k47)
theorem t_X4_readLaw_15 {Γ : GX} {E : EX} (C : Cx Γ E cX4_readLaw RX4 4) (hr : Γ.meth.sig.returnType = (some .boolean)) (hrm : Γ.rm = rmX4_readLaw) (th : Nat) (p1 : Option Nat) (p2 : Int32) (k47 : MM → Option (Int32 × MM)) (h47 : ∀ (m : MM), Sm (QM Γ E emI 0 0) Γ E 4 0 0 47 [(0, va_rf (some th)), (1, va_rf p1), (2, .int p2)] [] m (k47 m)) : ∀ (n : Nat) (x3 : Int32) (m : MM), Sm (QM Γ E emI 0 0) Γ E 4 0 0 15 [(0, va_rf (some th)), (1, va_rf p1), (2, .int p2), (3, .int x3)] [] m (l_X4_readLaw_15 th p1 p2 k47 n x3 m) := by
  intro n
  induction n with
  | zero => intros; exact z_none
  | succ n ih => intro x3 m; exact s_X4_readLaw_15 C hr hrm th p1 p2 (l_X4_readLaw_15 th p1 p2 k47 n) k47 ih h47 x3 m
set_option maxRecDepth 100000 in
def g_X4_readLaw_47 (th : Nat) (p1 : Option Nat) (p2 : Int32) (m : MM) : Option (Int32 × MM) :=
  chk (m.K th = 5) (if (m.I 510 th 0) = 0 then (some (1, m)) else (some (0, m)))
set_option maxHeartbeats 4000000 in
set_option maxRecDepth 100000 in
theorem s_X4_readLaw_47 {Γ : GX} {E : EX} (C : Cx Γ E cX4_readLaw RX4 4) (hr : Γ.meth.sig.returnType = (some .boolean)) (hrm : Γ.rm = rmX4_readLaw) (th : Nat) (p1 : Option Nat) (p2 : Int32) (m : MM) : Sm (QM Γ E emI 0 0) Γ E 4 0 0 47 [(0, va_rf (some th)), (1, va_rf p1), (2, .int p2)] [] m (g_X4_readLaw_47 th p1 p2 m) := by
  unfold g_X4_readLaw_47
  refine z_aload_n C dX4_readLaw_47 rfl 0 rfl ?_
  refine z_chk (fun hk2 => ?_)
  refine z_getI C fl_RX4_42 rfl hk2 dX4_readLaw_48 ?_
  refine z_if_ne (tgt := 58) C dX4_readLaw_51 (by decide) (fun c4 => ?_) (fun c4 => ?_)
  · refine z_iconst (v := 0) C dX4_readLaw_58 (by decide) ?_
    exact z_zret C hr rfl dX4_readLaw_59
  · refine z_iconst (v := 1) C dX4_readLaw_54 (by decide) ?_
    refine z_goto (tgt := 59) C dX4_readLaw_55 (by decide) ?_
    exact z_zret C hr rfl dX4_readLaw_59
set_option maxRecDepth 100000 in
def g_X4_readLaw_0 (th : Nat) (p1 : Option Nat) (p2 : Int32) (m : MM) : Option (Int32 × MM) :=
  chk (m.K th = 5) (cal (f_X4_begin th p1 p2 m) (fun r2 m2 => chk (m2.K th = 5) (ck m2 (m2.R 501 th 0) 3 (fun a1 => cal (f_X2_clear a1 m2) (fun r3 m3 => l_X4_readLaw_15 th p1 p2 (g_X4_readLaw_47 th p1 p2) FU 1 m3)))))
set_option maxHeartbeats 4000000 in
set_option maxRecDepth 100000 in
theorem s_X4_readLaw_0 {Γ : GX} {E : EX} (C : Cx Γ E cX4_readLaw RX4 4) (hr : Γ.meth.sig.returnType = (some .boolean)) (hrm : Γ.rm = rmX4_readLaw) (th : Nat) (p1 : Option Nat) (p2 : Int32) (m : MM) : Sm (QM Γ E emI 0 0) Γ E 4 0 0 0 [(0, va_rf (some th)), (1, va_rf p1), (2, .int p2)] [] m (g_X4_readLaw_0 th p1 p2 m) := by
  unfold g_X4_readLaw_0
  refine z_aload_n C dX4_readLaw_0 rfl 0 rfl ?_
  refine z_aload_n C dX4_readLaw_1 rfl 1 rfl ?_
  refine z_iload_n C dX4_readLaw_2 rfl 2 rfl ?_
  refine z_chk (fun hk3 => ?_)
  refine z_cVV [va_rf p1, .int p2] [] C mv_RX4_32 (fun r0 m0 h0 => M_X4_begin _ _ _ _ _ _ _ _ h0) rfl rfl ⟨by rw [hrm]; exact Nat.le_of_ble_eq_true rfl, by rw [hrm]; exact Nat.le_of_ble_eq_true rfl⟩ ⟨by rw [hrm]; exact Nat.le_of_ble_eq_true rfl, by rw [hrm]; exact Nat.le_of_ble_eq_true rfl⟩ rfl hk3 rfl rfl rfl (Nat.le_of_ble_eq_true rfl) dX4_readLaw_3 (fun r2 m2 => ?_)
  refine z_aload_n C dX4_readLaw_6 rfl 0 rfl ?_
  refine z_chk (fun hk4 => ?_)
  refine z_getR C fl_RX4_21 rfl hk4 dX4_readLaw_7 ?_
  refine z_ck (fun a1 hr1 hk5 => ?_)
  refine z_cVV [] [] C mv_RX4_59 (fun r0 m0 h0 => M_X2_clear _ _ _ _ _ _ h0) rfl rfl ⟨by rw [hrm]; exact Nat.le_of_ble_eq_true rfl, by rw [hrm]; exact Nat.le_of_ble_eq_true rfl⟩ ⟨by rw [hrm]; exact Nat.le_of_ble_eq_true rfl, by rw [hrm]; exact Nat.le_of_ble_eq_true rfl⟩ hr1 hk5 rfl rfl rfl (Nat.le_of_ble_eq_true rfl) dX4_readLaw_10 (fun r3 m3 => ?_)
  refine z_iconst (v := 1) C dX4_readLaw_13 (by decide) ?_
  refine z_istore_n (i := 3) (L2 := [(3, .int 1), (0, va_rf (some th)), (1, va_rf p1), (2, .int p2)]) C dX4_readLaw_14 rfl (by decide) rfl ?_
  exact z_sub [1, 2, 3, 0] rfl (t_X4_readLaw_15 C hr hrm th p1 p2 (g_X4_readLaw_47 th p1 p2) (s_X4_readLaw_47 C hr hrm th p1 p2) FU 1 m3)
def f_X4_readLaw (th : Nat) (p1 : Option Nat) (p2 : Int32) (m : MM) : Option (Int32 × MM) := g_X4_readLaw_0 th p1 p2 m
theorem M_X4_readLaw (l : Launch) (E : EX) (th : Nat) (p1 : Option Nat) (p2 : Int32) (m : MM) (r : Int32) (m2 : MM) (h : f_X4_readLaw th p1 p2 m = some (r, m2)) : Met l yX4_readLaw (.code yX4_readLaw cX4_readLaw 4 (some .boolean) :: TB) rmX4_readLaw (va_Pc [.ref th, va_rf p1, .int p2] (St E m)) (QR E (emI r) m2) 0 0 (AA E) :=
  met_of (em := emI) (plainFor_of_name rfl) (by simp [lg_sl, cat_rf, cat_i, cat_l, cat_a]) (L0 := [(0, va_rf (some th)), (1, va_rf p1), (2, .int p2)]) (by simp [lv_args, cat_rf, cat_i, cat_l, cat_a] <;> rfl) (fun Γ _ hrm C hr hn => s_X4_readLaw_0 C hr hrm th p1 p2 m) h
