theorem dX10_sizeLine_0 : decode cX10_sizeLine 0 = .ok (.aload_n 0, 1) := by decide +kernel
theorem dX10_sizeLine_1 : decode cX10_sizeLine 1 = .ok (.ldc2_w 312, 3) := by decide +kernel
theorem dX10_sizeLine_4 : decode cX10_sizeLine 4 = .ok (.invokevirtual 263, 3) := by decide +kernel
theorem dX10_sizeLine_7 : decode cX10_sizeLine 7 = .ok (.ifCond .ne 8, 3) := by decide +kernel
theorem dX10_sizeLine_10 : decode cX10_sizeLine 10 = .ok (.aload_n 0, 1) := by decide +kernel
theorem dX10_sizeLine_11 : decode cX10_sizeLine 11 = .ok (.invokevirtual 236, 3) := by decide +kernel
theorem dX10_sizeLine_14 : decode cX10_sizeLine 14 = .ok (.ireturn, 1) := by decide +kernel
theorem dX10_sizeLine_15 : decode cX10_sizeLine 15 = .ok (.aload_n 0, 1) := by decide +kernel
theorem dX10_sizeLine_16 : decode cX10_sizeLine 16 = .ok (.invokevirtual 251, 3) := by decide +kernel
theorem dX10_sizeLine_19 : decode cX10_sizeLine 19 = .ok (.aload_n 0, 1) := by decide +kernel
theorem dX10_sizeLine_20 : decode cX10_sizeLine 20 = .ok (.iconst 0, 1) := by decide +kernel
theorem dX10_sizeLine_21 : decode cX10_sizeLine 21 = .ok (.putfield 240, 3) := by decide +kernel
theorem dX10_sizeLine_24 : decode cX10_sizeLine 24 = .ok (.aload_n 0, 1) := by decide +kernel
theorem dX10_sizeLine_25 : decode cX10_sizeLine 25 = .ok (.iconst 1, 1) := by decide +kernel
theorem dX10_sizeLine_26 : decode cX10_sizeLine 26 = .ok (.bipush 8, 2) := by decide +kernel
theorem dX10_sizeLine_28 : decode cX10_sizeLine 28 = .ok (.invokevirtual 254, 3) := by decide +kernel
theorem dX10_sizeLine_31 : decode cX10_sizeLine 31 = .ok (.ifCond .eq 13, 3) := by decide +kernel
theorem dX10_sizeLine_34 : decode cX10_sizeLine 34 = .ok (.aload_n 0, 1) := by decide +kernel
theorem dX10_sizeLine_35 : decode cX10_sizeLine 35 = .ok (.iconst 1, 1) := by decide +kernel
theorem dX10_sizeLine_36 : decode cX10_sizeLine 36 = .ok (.bipush 8, 2) := by decide +kernel
theorem dX10_sizeLine_38 : decode cX10_sizeLine 38 = .ok (.invokevirtual 254, 3) := by decide +kernel
theorem dX10_sizeLine_41 : decode cX10_sizeLine 41 = .ok (.ifCond .ne 5, 3) := by decide +kernel
theorem dX10_sizeLine_44 : decode cX10_sizeLine 44 = .ok (.iconst 0, 1) := by decide +kernel
theorem dX10_sizeLine_45 : decode cX10_sizeLine 45 = .ok (.ireturn, 1) := by decide +kernel
theorem dX10_sizeLine_46 : decode cX10_sizeLine 46 = .ok (.aload_n 0, 1) := by decide +kernel
theorem dX10_sizeLine_47 : decode cX10_sizeLine 47 = .ok (.getfield 125, 3) := by decide +kernel
theorem dX10_sizeLine_50 : decode cX10_sizeLine 50 = .ok (.iconst 0, 1) := by decide +kernel
theorem dX10_sizeLine_51 : decode cX10_sizeLine 51 = .ok (.aload_n 0, 1) := by decide +kernel
theorem dX10_sizeLine_52 : decode cX10_sizeLine 52 = .ok (.aload_n 0, 1) := by decide +kernel
theorem dX10_sizeLine_53 : decode cX10_sizeLine 53 = .ok (.getfield 122, 3) := by decide +kernel
theorem dX10_sizeLine_56 : decode cX10_sizeLine 56 = .ok (.iconst 0, 1) := by decide +kernel
theorem dX10_sizeLine_57 : decode cX10_sizeLine 57 = .ok (.iaload, 1) := by decide +kernel
theorem dX10_sizeLine_58 : decode cX10_sizeLine 58 = .ok (.bipush 8, 2) := by decide +kernel
theorem dX10_sizeLine_60 : decode cX10_sizeLine 60 = .ok (.invokevirtual 314, 3) := by decide +kernel
theorem dX10_sizeLine_63 : decode cX10_sizeLine 63 = .ok (.iastore, 1) := by decide +kernel
theorem dX10_sizeLine_64 : decode cX10_sizeLine 64 = .ok (.aload_n 0, 1) := by decide +kernel
theorem dX10_sizeLine_65 : decode cX10_sizeLine 65 = .ok (.getfield 125, 3) := by decide +kernel
theorem dX10_sizeLine_68 : decode cX10_sizeLine 68 = .ok (.iconst 1, 1) := by decide +kernel
theorem dX10_sizeLine_69 : decode cX10_sizeLine 69 = .ok (.aload_n 0, 1) := by decide +kernel
theorem dX10_sizeLine_70 : decode cX10_sizeLine 70 = .ok (.aload_n 0, 1) := by decide +kernel
theorem dX10_sizeLine_71 : decode cX10_sizeLine 71 = .ok (.getfield 122, 3) := by decide +kernel
theorem dX10_sizeLine_74 : decode cX10_sizeLine 74 = .ok (.iconst 1, 1) := by decide +kernel
theorem dX10_sizeLine_75 : decode cX10_sizeLine 75 = .ok (.iaload, 1) := by decide +kernel
theorem dX10_sizeLine_76 : decode cX10_sizeLine 76 = .ok (.bipush 8, 2) := by decide +kernel
theorem dX10_sizeLine_78 : decode cX10_sizeLine 78 = .ok (.invokevirtual 314, 3) := by decide +kernel
theorem dX10_sizeLine_81 : decode cX10_sizeLine 81 = .ok (.iastore, 1) := by decide +kernel
theorem dX10_sizeLine_82 : decode cX10_sizeLine 82 = .ok (.aload_n 0, 1) := by decide +kernel
theorem dX10_sizeLine_83 : decode cX10_sizeLine 83 = .ok (.invokevirtual 309, 3) := by decide +kernel
theorem dX10_sizeLine_86 : decode cX10_sizeLine 86 = .ok (.ireturn, 1) := by decide +kernel
def rmX10_sizeLine : Room := { frames := 3, cells := 0, slots := 0, locals := 66 }
set_option maxRecDepth 100000 in
def g_X10_sizeLine_0 (th : Nat) (m : MM) : Option (Int32 × MM) :=
  chk (m.K th = 11) (cal (f_X10_isWord th 1936292453 m) (fun r1 m1 => if r1 = 0 then (chk (m1.K th = 11) (cal (f_X10_stops th m1) (fun r8 m11 => chk (r8 = 0 ∨ r8 = 1) (some (r8, m11))))) else (chk (m1.K th = 11) (cal (f_X10_token th m1) (fun r2 m2 => chk (m2.K th = 11) (bnd (m2.sI 1148 th 0 0) (fun m3 => cal (f_X10_number th 1 8 m3) (fun r3 m4 => if r3 = 0 then (some (0, m4)) else (chk (m4.K th = 11) (cal (f_X10_number th 1 8 m4) (fun r4 m5 => if r4 = 0 then (some (0, m5)) else (chk (m5.K th = 11) (ck m5 (m5.R 1147 th 0) 22 (fun a1 => chk (inb 0 (m5.N a1) = true) (cal (f_X10_sane th (m5.I 22 a1 (Int32.toNatClampNeg 0)) 8 m5) (fun r5 m6 => ck m6 (m5.R 1150 th 0) 22 (fun a2 => chk (inb 0 (m6.N a2) = true) (bnd (m6.sI 22 a2 (Int32.toNatClampNeg 0) r5) (fun m7 => chk (m7.K th = 11) (ck m7 (m7.R 1147 th 0) 22 (fun a3 => chk (inb 1 (m7.N a3) = true) (cal (f_X10_sane th (m7.I 22 a3 (Int32.toNatClampNeg 1)) 8 m7) (fun r6 m8 => ck m8 (m7.R 1150 th 0) 22 (fun a4 => chk (inb 1 (m8.N a4) = true) (bnd (m8.sI 22 a4 (Int32.toNatClampNeg 1) r6) (fun m9 => chk (m9.K th = 11) (cal (f_X10_passes th m9) (fun r7 m10 => chk (r7 = 0 ∨ r7 = 1) (some (r7, m10))))))))))))))))))))))))))))))
set_option maxHeartbeats 4000000 in
set_option maxRecDepth 100000 in
theorem s_X10_sizeLine_0 {Γ : GX} {E : EX} (C : Cx Γ E cX10_sizeLine RX10 1) (hr : Γ.meth.sig.returnType = (some .boolean)) (hrm : Γ.rm = rmX10_sizeLine) (th : Nat) (m : MM) : Sm (QM Γ E emI 0 0) Γ E 1 0 0 0 [(0, va_rf (some th))] [] m (g_X10_sizeLine_0 th m) := by
  unfold g_X10_sizeLine_0
  refine z_aload_n C dX10_sizeLine_0 rfl 0 rfl ?_
  refine z_ldc2 C dX10_sizeLine_1 kl_RX10_312 ?_
  refine z_chk (fun hk1 => ?_)
  refine z_cVI [.long 1936292453] [] C mv_RX10_263 (fun r0 m0 h0 => M_X10_isWord _ _ _ _ _ _ _ h0) rfl rfl ⟨by rw [hrm]; exact Nat.le_of_ble_eq_true rfl, by rw [hrm]; exact Nat.le_of_ble_eq_true rfl⟩ ⟨by rw [hrm]; exact Nat.le_of_ble_eq_true rfl, by rw [hrm]; exact Nat.le_of_ble_eq_true rfl⟩ rfl hk1 rfl rfl rfl (Nat.le_of_ble_eq_true rfl) dX10_sizeLine_4 (fun r1 m1 => ?_)
  refine z_if_ne (tgt := 15) C dX10_sizeLine_7 (by decide) (fun c1 => ?_) (fun c1 => ?_)
  · refine z_aload_n C dX10_sizeLine_15 rfl 0 rfl ?_
    refine z_chk (fun hk2 => ?_)
    refine z_cVV [] [] C mv_RX10_251 (fun r0 m0 h0 => M_X10_token _ _ _ _ _ _ h0) rfl rfl ⟨by rw [hrm]; exact Nat.le_of_ble_eq_true rfl, by rw [hrm]; exact Nat.le_of_ble_eq_true rfl⟩ ⟨by rw [hrm]; exact Nat.le_of_ble_eq_true rfl, by rw [hrm]; exact Nat.le_of_ble_eq_true rfl⟩ rfl hk2 rfl rfl rfl (Nat.le_of_ble_eq_true rfl) dX10_sizeLine_16 (fun r2 m2 => ?_)
    refine z_aload_n C dX10_sizeLine_19 rfl 0 rfl ?_
    refine z_iconst (v := 0) C dX10_sizeLine_20 (by decide) ?_
    refine z_chk (fun hk3 => ?_)
    refine z_putI C fl_RX10_240 (fun h => by cases h) rfl hk3 rfl rfl dX10_sizeLine_21 (fun m3 eK1 eN1 => ?_)
    refine z_aload_n C dX10_sizeLine_24 rfl 0 rfl ?_
    refine z_iconst (v := 1) C dX10_sizeLine_25 (by decide) ?_
    refine z_bipush (v := 8) C dX10_sizeLine_26 (by decide) ?_
    refine z_cVI [.int 1, .int 8] [] C mv_RX10_254 (fun r0 m0 h0 => M_X10_number _ _ _ _ _ _ _ _ h0) rfl rfl ⟨by rw [hrm]; exact Nat.le_of_ble_eq_true rfl, by rw [hrm]; exact Nat.le_of_ble_eq_true rfl⟩ ⟨by rw [hrm]; exact Nat.le_of_ble_eq_true rfl, by rw [hrm]; exact Nat.le_of_ble_eq_true rfl⟩ rfl (kfw eK1 hk3) rfl rfl rfl (Nat.le_of_ble_eq_true rfl) dX10_sizeLine_28 (fun r3 m4 => ?_)
    refine z_if_eq (tgt := 44) C dX10_sizeLine_31 (by decide) (fun c2 => ?_) (fun c2 => ?_)
    · refine z_iconst (v := 0) C dX10_sizeLine_44 (by decide) ?_
      exact z_zret C hr rfl dX10_sizeLine_45
    · refine z_aload_n C dX10_sizeLine_34 rfl 0 rfl ?_
      refine z_iconst (v := 1) C dX10_sizeLine_35 (by decide) ?_
      refine z_bipush (v := 8) C dX10_sizeLine_36 (by decide) ?_
      refine z_chk (fun hk4 => ?_)
      refine z_cVI [.int 1, .int 8] [] C mv_RX10_254 (fun r0 m0 h0 => M_X10_number _ _ _ _ _ _ _ _ h0) rfl rfl ⟨by rw [hrm]; exact Nat.le_of_ble_eq_true rfl, by rw [hrm]; exact Nat.le_of_ble_eq_true rfl⟩ ⟨by rw [hrm]; exact Nat.le_of_ble_eq_true rfl, by rw [hrm]; exact Nat.le_of_ble_eq_true rfl⟩ rfl hk4 rfl rfl rfl (Nat.le_of_ble_eq_true rfl) dX10_sizeLine_38 (fun r4 m5 => ?_)
      refine z_if_ne (tgt := 46) C dX10_sizeLine_41 (by decide) (fun c3 => ?_) (fun c3 => ?_)
      · refine z_aload_n C dX10_sizeLine_46 rfl 0 rfl ?_
        refine z_chk (fun hk5 => ?_)
        refine z_getR C fl_RX10_125 rfl hk5 dX10_sizeLine_47 ?_
        refine z_iconst (v := 0) C dX10_sizeLine_50 (by decide) ?_
        refine z_aload_n C dX10_sizeLine_51 rfl 0 rfl ?_
        refine z_aload_n C dX10_sizeLine_52 rfl 0 rfl ?_
        refine z_getR C fl_RX10_122 rfl hk5 dX10_sizeLine_53 ?_
        refine z_iconst (v := 0) C dX10_sizeLine_56 (by decide) ?_
        refine z_ck (fun a1 hr1 hk6 => ?_)
        refine z_chk (fun hj1 => ?_)
        refine z_iald C hr1 hk6 hj1 dX10_sizeLine_57 ?_
        refine z_bipush (v := 8) C dX10_sizeLine_58 (by decide) ?_
        refine z_cVI [.int (m5.I 22 a1 (Int32.toNatClampNeg 0)), .int 8] [.int 0, va_rf (m5.R 1150 th 0)] C mv_RX10_314 (fun r0 m0 h0 => M_X10_sane _ _ _ _ _ _ _ _ h0) rfl rfl ⟨by rw [hrm]; exact Nat.le_of_ble_eq_true rfl, by rw [hrm]; exact Nat.le_of_ble_eq_true rfl⟩ ⟨by rw [hrm]; exact Nat.le_of_ble_eq_true rfl, by rw [hrm]; exact Nat.le_of_ble_eq_true rfl⟩ rfl hk5 rfl rfl rfl (by simp [cat_rf, cat_i, cat_l, cat_a]) dX10_sizeLine_60 (fun r5 m6 => ?_)
        refine z_ck (fun a2 hr2 hk7 => ?_)
        refine z_chk (fun hj2 => ?_)
        refine z_iast C hr2 hk7 hj2 dX10_sizeLine_63 (fun m7 eK2 eN2 => ?_)
        refine z_aload_n C dX10_sizeLine_64 rfl 0 rfl ?_
        refine z_chk (fun hk8 => ?_)
        refine z_getR C fl_RX10_125 rfl hk8 dX10_sizeLine_65 ?_
        refine z_iconst (v := 1) C dX10_sizeLine_68 (by decide) ?_
        refine z_aload_n C dX10_sizeLine_69 rfl 0 rfl ?_
        refine z_aload_n C dX10_sizeLine_70 rfl 0 rfl ?_
        refine z_getR C fl_RX10_122 rfl hk8 dX10_sizeLine_71 ?_
        refine z_iconst (v := 1) C dX10_sizeLine_74 (by decide) ?_
        refine z_ck (fun a3 hr3 hk9 => ?_)
        refine z_chk (fun hj3 => ?_)
        refine z_iald C hr3 hk9 hj3 dX10_sizeLine_75 ?_
        refine z_bipush (v := 8) C dX10_sizeLine_76 (by decide) ?_
        refine z_cVI [.int (m7.I 22 a3 (Int32.toNatClampNeg 1)), .int 8] [.int 1, va_rf (m7.R 1150 th 0)] C mv_RX10_314 (fun r0 m0 h0 => M_X10_sane _ _ _ _ _ _ _ _ h0) rfl rfl ⟨by rw [hrm]; exact Nat.le_of_ble_eq_true rfl, by rw [hrm]; exact Nat.le_of_ble_eq_true rfl⟩ ⟨by rw [hrm]; exact Nat.le_of_ble_eq_true rfl, by rw [hrm]; exact Nat.le_of_ble_eq_true rfl⟩ rfl hk8 rfl rfl rfl (by simp [cat_rf, cat_i, cat_l, cat_a]) dX10_sizeLine_78 (fun r6 m8 => ?_)
        refine z_ck (fun a4 hr4 hk10 => ?_)
        refine z_chk (fun hj4 => ?_)
        refine z_iast C hr4 hk10 hj4 dX10_sizeLine_81 (fun m9 eK3 eN3 => ?_)
        refine z_aload_n C dX10_sizeLine_82 rfl 0 rfl ?_
        refine z_chk (fun hk11 => ?_)
        refine z_cVI [] [] C mv_RX10_309 (fun r0 m0 h0 => M_X10_passes _ _ _ _ _ _ h0) rfl rfl ⟨by rw [hrm]; exact Nat.le_of_ble_eq_true rfl, by rw [hrm]; exact Nat.le_of_ble_eq_true rfl⟩ ⟨by rw [hrm]; exact Nat.le_of_ble_eq_true rfl, by rw [hrm]; exact Nat.le_of_ble_eq_true rfl⟩ rfl hk11 rfl rfl rfl (Nat.le_of_ble_eq_true rfl) dX10_sizeLine_83 (fun r7 m10 => ?_)
        refine z_chk (fun hb1 => ?_)
        exact z_zret C hr (nb_of hb1) dX10_sizeLine_86
      · refine z_iconst (v := 0) C dX10_sizeLine_44 (by decide) ?_
        exact z_zret C hr rfl dX10_sizeLine_45
  · refine z_aload_n C dX10_sizeLine_10 rfl 0 rfl ?_
    refine z_chk (fun hk12 => ?_)
    refine z_cVI [] [] C mv_RX10_236 (fun r0 m0 h0 => M_X10_stops _ _ _ _ _ _ h0) rfl rfl ⟨by rw [hrm]; exact Nat.le_of_ble_eq_true rfl, by rw [hrm]; exact Nat.le_of_ble_eq_true rfl⟩ ⟨by rw [hrm]; exact Nat.le_of_ble_eq_true rfl, by rw [hrm]; exact Nat.le_of_ble_eq_true rfl⟩ rfl hk12 rfl rfl rfl (Nat.le_of_ble_eq_true rfl) dX10_sizeLine_11 (fun r8 m11 => ?_)
    refine z_chk (fun hb2 => ?_)
    exact z_zret C hr (nb_of hb2) dX10_sizeLine_14
def f_X10_sizeLine (th : Nat) (m : MM) : Option (Int32 × MM) := g_X10_sizeLine_0 th m
theorem M_X10_sizeLine (l : Launch) (E : EX) (th : Nat) (m : MM) (r : Int32) (m2 : MM) (h : f_X10_sizeLine th m = some (r, m2)) : Met l yX10_sizeLine (.code yX10_sizeLine cX10_sizeLine 1 (some .boolean) :: TB) rmX10_sizeLine (va_Pc [.ref th] (St E m)) (QR E (emI r) m2) 0 0 (AA E) :=
  met_of (em := emI) (plainFor_of_name rfl) (Nat.le_of_ble_eq_true rfl) (L0 := [(0, va_rf (some th))]) rfl (fun Γ _ hrm C hr hn => s_X10_sizeLine_0 C hr hrm th m) h

theorem dX10_readTown_0 : decode cX10_readTown 0 = .ok (.iconst 0, 1) := by decide +kernel
theorem dX10_readTown_1 : decode cX10_readTown 1 = .ok (.istore_n 1, 1) := by decide +kernel
theorem dX10_readTown_2 : decode cX10_readTown 2 = .ok (.iload_n 1, 1) := by decide +kernel
theorem dX10_readTown_3 : decode cX10_readTown 3 = .ok (.bipush 32, 2) := by decide +kernel
theorem dX10_readTown_5 : decode cX10_readTown 5 = .ok (.if_icmp .ge 26, 3) := by decide +kernel
theorem dX10_readTown_8 : decode cX10_readTown 8 = .ok (.aload_n 0, 1) := by decide +kernel
theorem dX10_readTown_9 : decode cX10_readTown 9 = .ok (.getfield 125, 3) := by decide +kernel
theorem dX10_readTown_12 : decode cX10_readTown 12 = .ok (.iload_n 1, 1) := by decide +kernel
theorem dX10_readTown_13 : decode cX10_readTown 13 = .ok (.iload_n 1, 1) := by decide +kernel
theorem dX10_readTown_14 : decode cX10_readTown 14 = .ok (.bipush 10, 2) := by decide +kernel
theorem dX10_readTown_16 : decode cX10_readTown 16 = .ok (.if_icmp .ge 7, 3) := by decide +kernel
theorem dX10_readTown_19 : decode cX10_readTown 19 = .ok (.iconst 0, 1) := by decide +kernel
theorem dX10_readTown_20 : decode cX10_readTown 20 = .ok (.goto 4, 3) := by decide +kernel
theorem dX10_readTown_23 : decode cX10_readTown 23 = .ok (.iconst (-1), 1) := by decide +kernel
theorem dX10_readTown_24 : decode cX10_readTown 24 = .ok (.iastore, 1) := by decide +kernel
theorem dX10_readTown_25 : decode cX10_readTown 25 = .ok (.iinc 1 1, 3) := by decide +kernel
theorem dX10_readTown_28 : decode cX10_readTown 28 = .ok (.goto (-26), 3) := by decide +kernel
theorem dX10_readTown_31 : decode cX10_readTown 31 = .ok (.aload_n 0, 1) := by decide +kernel
theorem dX10_readTown_32 : decode cX10_readTown 32 = .ok (.invokevirtual 251, 3) := by decide +kernel
theorem dX10_readTown_35 : decode cX10_readTown 35 = .ok (.aload_n 0, 1) := by decide +kernel
theorem dX10_readTown_36 : decode cX10_readTown 36 = .ok (.invokevirtual 317, 3) := by decide +kernel
theorem dX10_readTown_39 : decode cX10_readTown 39 = .ok (.istore_n 1, 1) := by decide +kernel
theorem dX10_readTown_40 : decode cX10_readTown 40 = .ok (.iconst 0, 1) := by decide +kernel
theorem dX10_readTown_41 : decode cX10_readTown 41 = .ok (.istore_n 2, 1) := by decide +kernel
theorem dX10_readTown_42 : decode cX10_readTown 42 = .ok (.iload_n 1, 1) := by decide +kernel
theorem dX10_readTown_43 : decode cX10_readTown 43 = .ok (.ifCond .eq 36, 3) := by decide +kernel
theorem dX10_readTown_46 : decode cX10_readTown 46 = .ok (.aload_n 0, 1) := by decide +kernel
theorem dX10_readTown_47 : decode cX10_readTown 47 = .ok (.getfield 221, 3) := by decide +kernel
theorem dX10_readTown_50 : decode cX10_readTown 50 = .ok (.ifCond .eq 29, 3) := by decide +kernel
theorem dX10_readTown_53 : decode cX10_readTown 53 = .ok (.iload_n 2, 1) := by decide +kernel
theorem dX10_readTown_54 : decode cX10_readTown 54 = .ok (.bipush 40, 2) := by decide +kernel
theorem dX10_readTown_56 : decode cX10_readTown 56 = .ok (.if_icmp .ne 12, 3) := by decide +kernel
theorem dX10_readTown_59 : decode cX10_readTown 59 = .ok (.aload_n 0, 1) := by decide +kernel
theorem dX10_readTown_60 : decode cX10_readTown 60 = .ok (.iconst 3, 1) := by decide +kernel
theorem dX10_readTown_61 : decode cX10_readTown 61 = .ok (.aload_n 0, 1) := by decide +kernel
theorem dX10_readTown_62 : decode cX10_readTown 62 = .ok (.getfield 214, 3) := by decide +kernel
theorem dX10_readTown_65 : decode cX10_readTown 65 = .ok (.invokevirtual 243, 3) := by decide +kernel
theorem dX10_readTown_68 : decode cX10_readTown 68 = .ok (.iinc 2 1, 3) := by decide +kernel
theorem dX10_readTown_71 : decode cX10_readTown 71 = .ok (.aload_n 0, 1) := by decide +kernel
theorem dX10_readTown_72 : decode cX10_readTown 72 = .ok (.invokevirtual 320, 3) := by decide +kernel
theorem dX10_readTown_75 : decode cX10_readTown 75 = .ok (.istore_n 1, 1) := by decide +kernel
theorem dX10_readTown_76 : decode cX10_readTown 76 = .ok (.goto (-34), 3) := by decide +kernel
theorem dX10_readTown_79 : decode cX10_readTown 79 = .ok (.aload_n 0, 1) := by decide +kernel
theorem dX10_readTown_80 : decode cX10_readTown 80 = .ok (.iload_n 1, 1) := by decide +kernel
theorem dX10_readTown_81 : decode cX10_readTown 81 = .ok (.invokevirtual 323, 3) := by decide +kernel
theorem dX10_readTown_84 : decode cX10_readTown 84 = .ok (.ireturn, 1) := by decide +kernel
def rmX10_readTown : Room := { frames := 6, cells := 0, slots := 0, locals := 138 }
set_option maxRecDepth 100000 in
def g_X10_readTown_24 (th : Nat) (k2 : Int32 → MM → Option (Int32 × MM)) (k31 : MM → Option (Int32 × MM)) (x1 : Int32) (s0 : Option Nat) (s1 : Int32) (s2 : Int32) (m : MM) : Option (Int32 × MM) :=
  ck m s0 22 (fun a1 => chk (inb s1 (m.N a1) = true) (bnd (m.sI 22 a1 (Int32.toNatClampNeg s1) s2) (fun m1 => k2 (x1 + 1) m1)))
set_option maxHeartbeats 4000000 in
set_option maxRecDepth 100000 in
theorem s_X10_readTown_24 {Γ : GX} {E : EX} (C : Cx Γ E cX10_readTown RX10 3) (hr : Γ.meth.sig.returnType = (some .boolean)) (hrm : Γ.rm = rmX10_readTown) (th : Nat) (k2 : Int32 → MM → Option (Int32 × MM)) (k31 : MM → Option (Int32 × MM)) (h2 : ∀ (x1 : Int32) (m : MM), Sm (QM Γ E emI 0 0) Γ E 3 0 0 2 [(0, va_rf (some th)), (1, .int x1)] [] m (k2 x1 m)) (h31 : ∀ (m : MM), Sm (QM Γ E emI 0 0) Γ E 3 0 0 31 [(0, va_rf (some th))] [] m (k31 m)) (x1 : Int32) (s0 : Option Nat) (s1 : Int32) (s2 : Int32) (m : MM) : Sm (QM Γ E emI 0 0) Γ E 3 0 0 24 [(0, va_rf (some th)), (1, .int x1)] [.int s2, .int s1, va_rf s0] m (g_X10_readTown_24 th k2 k31 x1 s0 s1 s2 m) := by
  unfold g_X10_readTown_24
  refine z_ck (fun a1 hr1 hk1 => ?_)
  refine z_chk (fun hj1 => ?_)
  refine z_iast C hr1 hk1 hj1 dX10_readTown_24 (fun m1 eK1 eN1 => ?_)
  refine z_iinc (v := 1) (L2 := [(1, .int (x1 + 1)), (0, va_rf (some th))]) C dX10_readTown_25 1 rfl (by decide) (by decide) rfl ?_
  refine z_goto (tgt := 2) C dX10_readTown_28 (by decide) ?_
  exact z_sub [1, 0] rfl (h2 (x1 + 1) m1)
set_option maxRecDepth 100000 in
def g_X10_readTown_2 (th : Nat) (k2 : Int32 → MM → Option (Int32 × MM)) (k31 : MM → Option (Int32 × MM)) (x1 : Int32) (m : MM) : Option (Int32 × MM) :=
  if 32 ≤ x1 then (k31 m) else (chk (m.K th = 11) (if 10 ≤ x1 then (g_X10_readTown_24 th k2 k31 x1 (m.R 1150 th 0) x1 (-1) m) else (g_X10_readTown_24 th k2 k31 x1 (m.R 1150 th 0) x1 0 m)))
set_option maxHeartbeats 4000000 in
set_option maxRecDepth 100000 in
theorem s_X10_readTown_2 {Γ : GX} {E : EX} (C : Cx Γ E cX10_readTown RX10 3) (hr : Γ.meth.sig.returnType = (some .boolean)) (hrm : Γ.rm = rmX10_readTown) (th : Nat) (k2 : Int32 → MM → Option (Int32 × MM)) (k31 : MM → Option (Int32 × MM)) (h2 : ∀ (x1 : Int32) (m : MM), Sm (QM Γ E emI 0 0) Γ E 3 0 0 2 [(0, va_rf (some th)), (1, .int x1)] [] m (k2 x1 m)) (h31 : ∀ (m : MM), Sm (QM Γ E emI 0 0) Γ E 3 0 0 31 [(0, va_rf (some th))] [] m (k31 m)) (x1 : Int32) (m : MM) : Sm (QM Γ E emI 0 0) Γ E 3 0 0 2 [(0, va_rf (some th)), (1, .int x1)] [] m (g_X10_readTown_2 th k2 k31 x1 m) := by
  unfold g_X10_readTown_2
  refine z_iload_n C dX10_readTown_2 rfl 1 rfl ?_
  refine z_bipush (v := 32) C dX10_readTown_3 (by decide) ?_
  refine z_icmp_ge (tgt := 31) C dX10_readTown_5 (by decide) (fun c1 => ?_) (fun c1 => ?_)
  · exact z_sub [0] rfl (h31 m)
  · refine z_aload_n C dX10_readTown_8 rfl 0 rfl ?_
    refine z_chk (fun hk2 => ?_)
    refine z_getR C fl_RX10_125 rfl hk2 dX10_readTown_9 ?_
    refine z_iload_n C dX10_readTown_12 rfl 1 rfl ?_
    refine z_iload_n C dX10_readTown_13 rfl 1 rfl ?_
    refine z_bipush (v := 10) C dX10_readTown_14 (by decide) ?_
    refine z_icmp_ge (tgt := 23) C dX10_readTown_16 (by decide) (fun c2 => ?_) (fun c2 => ?_)
    · refine z_iconst (v := (-1)) C dX10_readTown_23 (by decide) ?_
      exact z_sub [0, 1] rfl (s_X10_readTown_24 C hr hrm th k2 k31 h2 h31 x1 (m.R 1150 th 0) x1 (-1) m)
    · refine z_iconst (v := 0) C dX10_readTown_19 (by decide) ?_
      refine z_goto (tgt := 24) C dX10_readTown_20 (by decide) ?_
      exact z_sub [0, 1] rfl (s_X10_readTown_24 C hr hrm th k2 k31 h2 h31 x1 (m.R 1150 th 0) x1 0 m)
def l_X10_readTown_2 (th : Nat) (k31 : MM → Option (Int32 × MM)) : Nat → Int32 → MM → Option (Int32 × MM) := lp (fun _ _ => none) (fun k2 => g_X10_readTown_2 th k2 k31)
theorem t_X10_readTown_2 {Γ : GX} {E : EX} (C : Cx Γ E cX10_readTown RX10 3) (hr : Γ.meth.sig.returnType = (some .boolean)) (hrm : Γ.rm = rmX10_readTown) (th : Nat) (k31 : MM → Option (Int32 × MM)) (h31 : ∀ (m : MM), Sm (QM Γ E emI 0 0) Γ E 3 0 0 31 [(0, va_rf (some th))] [] m (k31 m)) : ∀ (n : Nat) (x1 : Int32) (m : MM), Sm (QM Γ E emI 0 0) Γ E 3 0 0 2 [(0, va_rf (some th)), (1, .int x1)] [] m (l_X10_readTown_2 th k31 n x1 m) := by
  intro n
  induction n with
  | zero => intros; exact z_none
  | succ n ih => intro x1 m; exact s_X10_readTown_2 C hr hrm th (l_X10_readTown_2 th k31 n) k31 ih h31 x1 m
set_option maxRecDepth 100000 in
def g_X10_readTown_68 (th : Nat) (k42 : Int32 → Int32 → MM → Option (Int32 × MM)) (x2 : Int32) (m : MM) : Option (Int32 × MM) :=
  chk (m.K th = 11) (cal (f_X10_townLine th m) (fun r1 m2 => k42 r1 (x2 + 1) m2))
set_option maxHeartbeats 4000000 in
set_option maxRecDepth 100000 in
theorem s_X10_readTown_68 {Γ : GX} {E : EX} (C : Cx Γ E cX10_readTown RX10 3) (hr : Γ.meth.sig.returnType = (some .boolean)) (hrm : Γ.rm = rmX10_readTown) (th : Nat) (k42 : Int32 → Int32 → MM → Option (Int32 × MM)) (h42 : ∀ (x1 : Int32) (x2 : Int32) (m : MM), Sm (QM Γ E emI 0 0) Γ E 3 0 0 42 [(0, va_rf (some th)), (1, .int x1), (2, .int x2)] [] m (k42 x1 x2 m)) (x2 : Int32) (m : MM) : Sm (QM Γ E emI 0 0) Γ E 3 0 0 68 [(0, va_rf (some th)), (2, .int x2)] [] m (g_X10_readTown_68 th k42 x2 m) := by
  unfold g_X10_readTown_68
  refine z_iinc (v := 1) (L2 := [(2, .int (x2 + 1)), (0, va_rf (some th))]) C dX10_readTown_68 1 rfl (by decide) (by decide) rfl ?_
  refine z_aload_n C dX10_readTown_71 rfl 1 rfl ?_
  refine z_chk (fun hk3 => ?_)
  refine z_cVI [] [] C mv_RX10_320 (fun r0 m0 h0 => M_X10_townLine _ _ _ _ _ _ h0) rfl rfl ⟨by rw [hrm]; exact Nat.le_of_ble_eq_true rfl, by rw [hrm]; exact Nat.le_of_ble_eq_true rfl⟩ ⟨by rw [hrm]; exact Nat.le_of_ble_eq_true rfl, by rw [hrm]; exact Nat.le_of_ble_eq_true rfl⟩ rfl hk3 rfl rfl rfl (Nat.le_of_ble_eq_true rfl) dX10_readTown_72 (fun r1 m2 => ?_)
  refine z_istore_n (i := 1) (L2 := [(1, .int r1), (2, .int (x2 + 1)), (0, va_rf (some th))]) C dX10_readTown_75 rfl (by decide) rfl ?_
  refine z_goto (tgt := 42) C dX10_readTown_76 (by decide) ?_
  exact z_sub [2, 0, 1] rfl (h42 r1 (x2 + 1) m2)
set_option maxRecDepth 100000 in
def g_X10_readTown_42 (th : Nat) (k42 : Int32 → Int32 → MM → Option (Int32 × MM)) (x1 : Int32) (x2 : Int32) (m : MM) : Option (Int32 × MM) :=
  if x1 = 0 then (chk (m.K th = 11) (cal (f_X10_isGood th x1 m) (fun r2 m3 => chk (r2 = 0 ∨ r2 = 1) (some (r2, m3))))) else (chk (m.K th = 11) (if (m.I 1141 th 0) = 0 then (cal (f_X10_isGood th x1 m) (fun r3 m4 => chk (r3 = 0 ∨ r3 = 1) (some (r3, m4)))) else (if x2 = 40 then (cal (f_X10_later th 3 (m.I 1140 th 0) m) (fun r4 m5 => g_X10_readTown_68 th k42 x2 m5)) else (g_X10_readTown_68 th k42 x2 m))))
set_option maxHeartbeats 4000000 in
set_option maxRecDepth 100000 in
theorem s_X10_readTown_42 {Γ : GX} {E : EX} (C : Cx Γ E cX10_readTown RX10 3) (hr : Γ.meth.sig.returnType = (some .boolean)) (hrm : Γ.rm = rmX10_readTown) (th : Nat) (k42 : Int32 → Int32 → MM → Option (Int32 × MM)) (h42 : ∀ (x1 : Int32) (x2 : Int32) (m : MM), Sm (QM Γ E emI 0 0) Γ E 3 0 0 42 [(0, va_rf (some th)), (1, .int x1), (2, .int x2)] [] m (k42 x1 x2 m)) (x1 : Int32) (x2 : Int32) (m : MM) : Sm (QM Γ E emI 0 0) Γ E 3 0 0 42 [(0, va_rf (some th)), (1, .int x1), (2, .int x2)] [] m (g_X10_readTown_42 th k42 x1 x2 m) := by
  unfold g_X10_readTown_42
  refine z_iload_n C dX10_readTown_42 rfl 1 rfl ?_
  refine z_if_eq (tgt := 79) C dX10_readTown_43 (by decide) (fun c3 => ?_) (fun c3 => ?_)
  · refine z_aload_n C dX10_readTown_79 rfl 0 rfl ?_
    refine z_iload_n C dX10_readTown_80 rfl 1 rfl ?_
    refine z_chk (fun hk4 => ?_)
    refine z_cVI [.int x1] [] C mv_RX10_323 (fun r0 m0 h0 => M_X10_isGood _ _ _ _ _ _ _ h0) rfl rfl ⟨by rw [hrm]; exact Nat.le_of_ble_eq_true rfl, by rw [hrm]; exact Nat.le_of_ble_eq_true rfl⟩ ⟨by rw [hrm]; exact Nat.le_of_ble_eq_true rfl, by rw [hrm]; exact Nat.le_of_ble_eq_true rfl⟩ rfl hk4 rfl rfl rfl (Nat.le_of_ble_eq_true rfl) dX10_readTown_81 (fun r2 m3 => ?_)
    refine z_chk (fun hb1 => ?_)
    exact z_zret C hr (nb_of hb1) dX10_readTown_84
  · refine z_aload_n C dX10_readTown_46 rfl 0 rfl ?_
    refine z_chk (fun hk5 => ?_)
    refine z_getI C fl_RX10_221 rfl hk5 dX10_readTown_47 ?_
    refine z_if_eq (tgt := 79) C dX10_readTown_50 (by decide) (fun c4 => ?_) (fun c4 => ?_)
    · refine z_aload_n C dX10_readTown_79 rfl 0 rfl ?_
      refine z_iload_n C dX10_readTown_80 rfl 1 rfl ?_
      refine z_cVI [.int x1] [] C mv_RX10_323 (fun r0 m0 h0 => M_X10_isGood _ _ _ _ _ _ _ h0) rfl rfl ⟨by rw [hrm]; exact Nat.le_of_ble_eq_true rfl, by rw [hrm]; exact Nat.le_of_ble_eq_true rfl⟩ ⟨by rw [hrm]; exact Nat.le_of_ble_eq_true rfl, by rw [hrm]; exact Nat.le_of_ble_eq_true rfl⟩ rfl hk5 rfl rfl rfl (Nat.le_of_ble_eq_true rfl) dX10_readTown_81 (fun r3 m4 => ?_)
      refine z_chk (fun hb2 => ?_)
      exact z_zret C hr (nb_of hb2) dX10_readTown_84
    · refine z_iload_n C dX10_readTown_53 rfl 2 rfl ?_
      refine z_bipush (v := 40) C dX10_readTown_54 (by decide) ?_
      refine z_icmp_ne (tgt := 68) C dX10_readTown_56 (by decide) (fun c5 => ?_) (fun c5 => ?_)
      · exact z_sub [0, 2] rfl (s_X10_readTown_68 C hr hrm th k42 h42 x2 m)
      · refine z_aload_n C dX10_readTown_59 rfl 0 rfl ?_
        refine z_iconst (v := 3) C dX10_readTown_60 (by decide) ?_
        refine z_aload_n C dX10_readTown_61 rfl 0 rfl ?_
        refine z_getI C fl_RX10_214 rfl hk5 dX10_readTown_62 ?_
        refine z_cVV [.int 3, .int (m.I 1140 th 0)] [] C mv_RX10_243 (fun r0 m0 h0 => M_X10_later _ _ _ _ _ _ _ _ h0) rfl rfl ⟨by rw [hrm]; exact Nat.le_of_ble_eq_true rfl, by rw [hrm]; exact Nat.le_of_ble_eq_true rfl⟩ ⟨by rw [hrm]; exact Nat.le_of_ble_eq_true rfl, by rw [hrm]; exact Nat.le_of_ble_eq_true rfl⟩ rfl hk5 rfl rfl rfl (Nat.le_of_ble_eq_true rfl) dX10_readTown_65 (fun r4 m5 => ?_)
        exact z_sub [0, 2] rfl (s_X10_readTown_68 C hr hrm th k42 h42 x2 m5)
def l_X10_readTown_42 (th : Nat) : Nat → Int32 → Int32 → MM → Option (Int32 × MM) := lp (fun _ _ _ => none) (fun k42 => g_X10_readTown_42 th k42)
theorem t_X10_readTown_42 {Γ : GX} {E : EX} (C : Cx Γ E cX10_readTown RX10 3) (hr : Γ.meth.sig.returnType = (some .boolean)) (hrm : Γ.rm = rmX10_readTown) (th : Nat) : ∀ (n : Nat) (x1 : Int32) (x2 : Int32) (m : MM), Sm (QM Γ E emI 0 0) Γ E 3 0 0 42 [(0, va_rf (some th)), (1, .int x1), (2, .int x2)] [] m (l_X10_readTown_42 th n x1 x2 m) := by
  intro n
  induction n with
  | zero => intros; exact z_none
  | succ n ih => intro x1 x2 m; exact s_X10_readTown_42 C hr hrm th (l_X10_readTown_42 th n) ih x1 x2 m
set_option maxRecDepth 100000 in
def g_X10_readTown_31 (th : Nat) (m : MM) : Option (Int32 × MM) :=
  chk (m.K th = 11) (cal (f_X10_token th m) (fun r5 m6 => chk (m6.K th = 11) (cal (f_X10_sizeLine th m6) (fun r6 m7 => l_X10_readTown_42 th FU r6 0 m7))))
set_option maxHeartbeats 4000000 in
set_option maxRecDepth 100000 in
theorem s_X10_readTown_31 {Γ : GX} {E : EX} (C : Cx Γ E cX10_readTown RX10 3) (hr : Γ.meth.sig.returnType = (some .boolean)) (hrm : Γ.rm = rmX10_readTown) (th : Nat) (m : MM) : Sm (QM Γ E emI 0 0) Γ E 3 0 0 31 [(0, va_rf (some th))] [] m (g_X10_readTown_31 th m) := by
  unfold g_X10_readTown_31
  refine z_aload_n C dX10_readTown_31 rfl 0 rfl ?_
  refine z_chk (fun hk6 => ?_)
  refine z_cVV [] [] C mv_RX10_251 (fun r0 m0 h0 => M_X10_token _ _ _ _ _ _ h0) rfl rfl ⟨by rw [hrm]; exact Nat.le_of_ble_eq_true rfl, by rw [hrm]; exact Nat.le_of_ble_eq_true rfl⟩ ⟨by rw [hrm]; exact Nat.le_of_ble_eq_true rfl, by rw [hrm]; exact Nat.le_of_ble_eq_true rfl⟩ rfl hk6 rfl rfl rfl (Nat.le_of_ble_eq_true rfl) dX10_readTown_32 (fun r5 m6 => ?_)
  refine z_aload_n C dX10_readTown_35 rfl 0 rfl ?_
  refine z_chk (fun hk7 => ?_)
  refine z_cVI [] [] C mv_RX10_317 (fun r0 m0 h0 => M_X10_sizeLine _ _ _ _ _ _ h0) rfl rfl ⟨by rw [hrm]; exact Nat.le_of_ble_eq_true rfl, by rw [hrm]; exact Nat.le_of_ble_eq_true rfl⟩ ⟨by rw [hrm]; exact Nat.le_of_ble_eq_true rfl, by rw [hrm]; exact Nat.le_of_ble_eq_true rfl⟩ rfl hk7 rfl rfl rfl (Nat.le_of_ble_eq_true rfl) dX10_readTown_36 (fun r6 m7 => ?_)
  refine z_istore_n (i := 1) (L2 := [(1, .int r6), (0, va_rf (some th))]) C dX10_readTown_39 rfl (by decide) rfl ?_
  refine z_iconst (v := 0) C dX10_readTown_40 (by decide) ?_
  refine z_istore_n (i := 2) (L2 := [(2, .int 0), (1, .int r6), (0, va_rf (some th))]) C dX10_readTown_41 rfl (by decide) rfl ?_
  exact z_sub [2, 1, 0] rfl (t_X10_readTown_42 C hr hrm th FU r6 0 m7)
set_option maxRecDepth 100000 in
def g_X10_readTown_0 (th : Nat) (m : MM) : Option (Int32 × MM) :=
  l_X10_readTown_2 th (g_X10_readTown_31 th) FU 0 m
set_option maxHeartbeats 4000000 in
set_option maxRecDepth 100000 in
theorem s_X10_readTown_0 {Γ : GX} {E : EX} (C : Cx Γ E cX10_readTown RX10 3) (hr : Γ.meth.sig.returnType = (some .boolean)) (hrm : Γ.rm = rmX10_readTown) (th : Nat) (m : MM) : Sm (QM Γ E emI 0 0) Γ E 3 0 0 0 [(0, va_rf (some th))] [] m (g_X10_readTown_0 th m) := by
  unfold g_X10_readTown_0
  refine z_iconst (v := 0) C dX10_readTown_0 (by decide) ?_
  refine z_istore_n (i := 1) (L2 := [(1, .int 0), (0, va_rf (some th))]) C dX10_readTown_1 rfl (by decide) rfl ?_
  exact z_sub [1, 0] rfl (t_X10_readTown_2 C hr hrm th (g_X10_readTown_31 th) (s_X10_readTown_31 C hr hrm th) FU 0 m)
def f_X10_readTown (th : Nat) (m : MM) : Option (Int32 × MM) := g_X10_readTown_0 th m
theorem M_X10_readTown (l : Launch) (E : EX) (th : Nat) (m : MM) (r : Int32) (m2 : MM) (h : f_X10_readTown th m = some (r, m2)) : Met l yX10_readTown (.code yX10_readTown cX10_readTown 3 (some .boolean) :: TB) rmX10_readTown (va_Pc [.ref th] (St E m)) (QR E (emI r) m2) 0 0 (AA E) :=
  met_of (em := emI) (plainFor_of_name rfl) (Nat.le_of_ble_eq_true rfl) (L0 := [(0, va_rf (some th))]) rfl (fun Γ _ hrm C hr hn => s_X10_readTown_0 C hr hrm th m) h

theorem dX10_town_0 : decode cX10_town 0 = .ok (.aload_n 0, 1) := by decide +kernel
theorem dX10_town_1 : decode cX10_town 1 = .ok (.iconst 0, 1) := by decide +kernel
theorem dX10_town_2 : decode cX10_town 2 = .ok (.putfield 180, 3) := by decide +kernel
theorem dX10_town_5 : decode cX10_town 5 = .ok (.aload_n 0, 1) := by decide +kernel
theorem dX10_town_6 : decode cX10_town 6 = .ok (.invokevirtual 327, 3) := by decide +kernel
theorem dX10_town_9 : decode cX10_town 9 = .ok (.iload_n 1, 1) := by decide +kernel
theorem dX10_town_10 : decode cX10_town 10 = .ok (.iconst (-1), 1) := by decide +kernel
theorem dX10_town_11 : decode cX10_town 11 = .ok (.if_icmp .ne 16, 3) := by decide +kernel
theorem dX10_town_14 : decode cX10_town 14 = .ok (.aload_n 0, 1) := by decide +kernel
theorem dX10_town_15 : decode cX10_town 15 = .ok (.getfield 23, 3) := by decide +kernel
theorem dX10_town_18 : decode cX10_town 18 = .ok (.iconst 0, 1) := by decide +kernel
theorem dX10_town_19 : decode cX10_town 19 = .ok (.iaload, 1) := by decide +kernel
theorem dX10_town_20 : decode cX10_town 20 = .ok (.iconst 3, 1) := by decide +kernel
theorem dX10_town_21 : decode cX10_town 21 = .ok (.if_icmp .ne 17, 3) := by decide +kernel
theorem dX10_town_24 : decode cX10_town 24 = .ok (.goto 11, 3) := by decide +kernel
theorem dX10_town_27 : decode cX10_town 27 = .ok (.aload_n 0, 1) := by decide +kernel
theorem dX10_town_28 : decode cX10_town 28 = .ok (.iload_n 1, 1) := by decide +kernel
theorem dX10_town_29 : decode cX10_town 29 = .ok (.invokevirtual 192, 3) := by decide +kernel
theorem dX10_town_32 : decode cX10_town 32 = .ok (.ifCond .ne 6, 3) := by decide +kernel
theorem dX10_town_35 : decode cX10_town 35 = .ok (.bipush (-2), 2) := by decide +kernel
theorem dX10_town_37 : decode cX10_town 37 = .ok (.ireturn, 1) := by decide +kernel
theorem dX10_town_38 : decode cX10_town 38 = .ok (.aload_n 0, 1) := by decide +kernel
theorem dX10_town_39 : decode cX10_town 39 = .ok (.invokevirtual 330, 3) := by decide +kernel
theorem dX10_town_42 : decode cX10_town 42 = .ok (.ifCond .ne 5, 3) := by decide +kernel
theorem dX10_town_45 : decode cX10_town 45 = .ok (.iconst (-1), 1) := by decide +kernel
theorem dX10_town_46 : decode cX10_town 46 = .ok (.ireturn, 1) := by decide +kernel
theorem dX10_town_47 : decode cX10_town 47 = .ok (.iload_n 1, 1) := by decide +kernel
theorem dX10_town_48 : decode cX10_town 48 = .ok (.iconst (-1), 1) := by decide +kernel
theorem dX10_town_49 : decode cX10_town 49 = .ok (.if_icmp .ne 12, 3) := by decide +kernel
theorem dX10_town_52 : decode cX10_town 52 = .ok (.aload_n 0, 1) := by decide +kernel
theorem dX10_town_53 : decode cX10_town 53 = .ok (.getfield 23, 3) := by decide +kernel
theorem dX10_town_56 : decode cX10_town 56 = .ok (.iconst 0, 1) := by decide +kernel
theorem dX10_town_57 : decode cX10_town 57 = .ok (.iaload, 1) := by decide +kernel
theorem dX10_town_58 : decode cX10_town 58 = .ok (.goto 4, 3) := by decide +kernel
theorem dX10_town_61 : decode cX10_town 61 = .ok (.iload_n 1, 1) := by decide +kernel
theorem dX10_town_62 : decode cX10_town 62 = .ok (.istore_n 2, 1) := by decide +kernel
theorem dX10_town_63 : decode cX10_town 63 = .ok (.aload_n 0, 1) := by decide +kernel
theorem dX10_town_64 : decode cX10_town 64 = .ok (.getfield 23, 3) := by decide +kernel
theorem dX10_town_67 : decode cX10_town 67 = .ok (.iconst 0, 1) := by decide +kernel
theorem dX10_town_68 : decode cX10_town 68 = .ok (.dup2, 1) := by decide +kernel
theorem dX10_town_69 : decode cX10_town 69 = .ok (.iaload, 1) := by decide +kernel
theorem dX10_town_70 : decode cX10_town 70 = .ok (.iload_n 1, 1) := by decide +kernel
theorem dX10_town_71 : decode cX10_town 71 = .ok (.iconst (-1), 1) := by decide +kernel
theorem dX10_town_72 : decode cX10_town 72 = .ok (.if_icmp .ne 7, 3) := by decide +kernel
theorem dX10_town_75 : decode cX10_town 75 = .ok (.iconst 1, 1) := by decide +kernel
theorem dX10_town_76 : decode cX10_town 76 = .ok (.goto 4, 3) := by decide +kernel
theorem dX10_town_79 : decode cX10_town 79 = .ok (.iconst 0, 1) := by decide +kernel
theorem dX10_town_80 : decode cX10_town 80 = .ok (.iadd, 1) := by decide +kernel
theorem dX10_town_81 : decode cX10_town 81 = .ok (.iastore, 1) := by decide +kernel
theorem dX10_town_82 : decode cX10_town 82 = .ok (.iconst 0, 1) := by decide +kernel
theorem dX10_town_83 : decode cX10_town 83 = .ok (.istore_n 3, 1) := by decide +kernel
theorem dX10_town_84 : decode cX10_town 84 = .ok (.iload_n 3, 1) := by decide +kernel
theorem dX10_town_85 : decode cX10_town 85 = .ok (.bipush 32, 2) := by decide +kernel
theorem dX10_town_87 : decode cX10_town 87 = .ok (.if_icmp .ge 26, 3) := by decide +kernel
theorem dX10_town_90 : decode cX10_town 90 = .ok (.aload_n 0, 1) := by decide +kernel
theorem dX10_town_91 : decode cX10_town 91 = .ok (.getfield 26, 3) := by decide +kernel
theorem dX10_town_94 : decode cX10_town 94 = .ok (.bipush 32, 2) := by decide +kernel
theorem dX10_town_96 : decode cX10_town 96 = .ok (.iload_n 2, 1) := by decide +kernel
theorem dX10_town_97 : decode cX10_town 97 = .ok (.imul, 1) := by decide +kernel
theorem dX10_town_98 : decode cX10_town 98 = .ok (.iload_n 3, 1) := by decide +kernel
theorem dX10_town_99 : decode cX10_town 99 = .ok (.iadd, 1) := by decide +kernel
theorem dX10_town_100 : decode cX10_town 100 = .ok (.aload_n 0, 1) := by decide +kernel
theorem dX10_town_101 : decode cX10_town 101 = .ok (.getfield 125, 3) := by decide +kernel
theorem dX10_town_104 : decode cX10_town 104 = .ok (.iload_n 3, 1) := by decide +kernel
theorem dX10_town_105 : decode cX10_town 105 = .ok (.iaload, 1) := by decide +kernel
theorem dX10_town_106 : decode cX10_town 106 = .ok (.iastore, 1) := by decide +kernel
theorem dX10_town_107 : decode cX10_town 107 = .ok (.iinc 3 1, 3) := by decide +kernel
theorem dX10_town_110 : decode cX10_town 110 = .ok (.goto (-26), 3) := by decide +kernel
theorem dX10_town_113 : decode cX10_town 113 = .ok (.iconst 0, 1) := by decide +kernel
theorem dX10_town_114 : decode cX10_town 114 = .ok (.istore_n 3, 1) := by decide +kernel
theorem dX10_town_115 : decode cX10_town 115 = .ok (.iload_n 3, 1) := by decide +kernel
theorem dX10_town_116 : decode cX10_town 116 = .ok (.bipush 12, 2) := by decide +kernel
theorem dX10_town_118 : decode cX10_town 118 = .ok (.if_icmp .ge 248, 3) := by decide +kernel
theorem dX10_town_121 : decode cX10_town 121 = .ok (.bipush 12, 2) := by decide +kernel
theorem dX10_town_123 : decode cX10_town 123 = .ok (.iload_n 2, 1) := by decide +kernel
theorem dX10_town_124 : decode cX10_town 124 = .ok (.imul, 1) := by decide +kernel
theorem dX10_town_125 : decode cX10_town 125 = .ok (.iload_n 3, 1) := by decide +kernel
theorem dX10_town_126 : decode cX10_town 126 = .ok (.iadd, 1) := by decide +kernel
theorem dX10_town_127 : decode cX10_town 127 = .ok (.istore 4, 2) := by decide +kernel
theorem dX10_town_129 : decode cX10_town 129 = .ok (.aload_n 0, 1) := by decide +kernel
theorem dX10_town_130 : decode cX10_town 130 = .ok (.getfield 29, 3) := by decide +kernel
theorem dX10_town_133 : decode cX10_town 133 = .ok (.iload 4, 2) := by decide +kernel
theorem dX10_town_135 : decode cX10_town 135 = .ok (.aload_n 0, 1) := by decide +kernel
theorem dX10_town_136 : decode cX10_town 136 = .ok (.getfield 128, 3) := by decide +kernel
theorem dX10_town_139 : decode cX10_town 139 = .ok (.bipush 7, 2) := by decide +kernel
theorem dX10_town_141 : decode cX10_town 141 = .ok (.iload_n 3, 1) := by decide +kernel
theorem dX10_town_142 : decode cX10_town 142 = .ok (.imul, 1) := by decide +kernel
theorem dX10_town_143 : decode cX10_town 143 = .ok (.iaload, 1) := by decide +kernel
theorem dX10_town_144 : decode cX10_town 144 = .ok (.iastore, 1) := by decide +kernel
theorem dX10_town_145 : decode cX10_town 145 = .ok (.aload_n 0, 1) := by decide +kernel
theorem dX10_town_146 : decode cX10_town 146 = .ok (.getfield 32, 3) := by decide +kernel
theorem dX10_town_149 : decode cX10_town 149 = .ok (.iload 4, 2) := by decide +kernel
theorem dX10_town_151 : decode cX10_town 151 = .ok (.aload_n 0, 1) := by decide +kernel
theorem dX10_town_152 : decode cX10_town 152 = .ok (.getfield 128, 3) := by decide +kernel
theorem dX10_town_155 : decode cX10_town 155 = .ok (.bipush 7, 2) := by decide +kernel
theorem dX10_town_157 : decode cX10_town 157 = .ok (.iload_n 3, 1) := by decide +kernel
theorem dX10_town_158 : decode cX10_town 158 = .ok (.imul, 1) := by decide +kernel
theorem dX10_town_159 : decode cX10_town 159 = .ok (.iconst 1, 1) := by decide +kernel
theorem dX10_town_160 : decode cX10_town 160 = .ok (.iadd, 1) := by decide +kernel
theorem dX10_town_161 : decode cX10_town 161 = .ok (.iaload, 1) := by decide +kernel
theorem dX10_town_162 : decode cX10_town 162 = .ok (.iastore, 1) := by decide +kernel
theorem dX10_town_163 : decode cX10_town 163 = .ok (.aload_n 0, 1) := by decide +kernel
theorem dX10_town_164 : decode cX10_town 164 = .ok (.getfield 35, 3) := by decide +kernel
theorem dX10_town_167 : decode cX10_town 167 = .ok (.iload 4, 2) := by decide +kernel
theorem dX10_town_169 : decode cX10_town 169 = .ok (.aload_n 0, 1) := by decide +kernel
theorem dX10_town_170 : decode cX10_town 170 = .ok (.getfield 128, 3) := by decide +kernel
theorem dX10_town_173 : decode cX10_town 173 = .ok (.bipush 7, 2) := by decide +kernel
theorem dX10_town_175 : decode cX10_town 175 = .ok (.iload_n 3, 1) := by decide +kernel
theorem dX10_town_176 : decode cX10_town 176 = .ok (.imul, 1) := by decide +kernel
theorem dX10_town_177 : decode cX10_town 177 = .ok (.iconst 2, 1) := by decide +kernel
theorem dX10_town_178 : decode cX10_town 178 = .ok (.iadd, 1) := by decide +kernel
theorem dX10_town_179 : decode cX10_town 179 = .ok (.iaload, 1) := by decide +kernel
theorem dX10_town_180 : decode cX10_town 180 = .ok (.iastore, 1) := by decide +kernel
theorem dX10_town_181 : decode cX10_town 181 = .ok (.aload_n 0, 1) := by decide +kernel
theorem dX10_town_182 : decode cX10_town 182 = .ok (.getfield 38, 3) := by decide +kernel
theorem dX10_town_185 : decode cX10_town 185 = .ok (.iload 4, 2) := by decide +kernel
theorem dX10_town_187 : decode cX10_town 187 = .ok (.aload_n 0, 1) := by decide +kernel
theorem dX10_town_188 : decode cX10_town 188 = .ok (.getfield 128, 3) := by decide +kernel
theorem dX10_town_191 : decode cX10_town 191 = .ok (.bipush 7, 2) := by decide +kernel
theorem dX10_town_193 : decode cX10_town 193 = .ok (.iload_n 3, 1) := by decide +kernel
theorem dX10_town_194 : decode cX10_town 194 = .ok (.imul, 1) := by decide +kernel
theorem dX10_town_195 : decode cX10_town 195 = .ok (.iconst 3, 1) := by decide +kernel
theorem dX10_town_196 : decode cX10_town 196 = .ok (.iadd, 1) := by decide +kernel
theorem dX10_town_197 : decode cX10_town 197 = .ok (.iaload, 1) := by decide +kernel
theorem dX10_town_198 : decode cX10_town 198 = .ok (.iastore, 1) := by decide +kernel
theorem dX10_town_199 : decode cX10_town 199 = .ok (.aload_n 0, 1) := by decide +kernel
theorem dX10_town_200 : decode cX10_town 200 = .ok (.getfield 41, 3) := by decide +kernel
theorem dX10_town_203 : decode cX10_town 203 = .ok (.iload 4, 2) := by decide +kernel
theorem dX10_town_205 : decode cX10_town 205 = .ok (.aload_n 0, 1) := by decide +kernel
theorem dX10_town_206 : decode cX10_town 206 = .ok (.getfield 128, 3) := by decide +kernel
theorem dX10_town_209 : decode cX10_town 209 = .ok (.bipush 7, 2) := by decide +kernel
theorem dX10_town_211 : decode cX10_town 211 = .ok (.iload_n 3, 1) := by decide +kernel
theorem dX10_town_212 : decode cX10_town 212 = .ok (.imul, 1) := by decide +kernel
theorem dX10_town_213 : decode cX10_town 213 = .ok (.iconst 4, 1) := by decide +kernel
theorem dX10_town_214 : decode cX10_town 214 = .ok (.iadd, 1) := by decide +kernel
theorem dX10_town_215 : decode cX10_town 215 = .ok (.iaload, 1) := by decide +kernel
theorem dX10_town_216 : decode cX10_town 216 = .ok (.iastore, 1) := by decide +kernel
theorem dX10_town_217 : decode cX10_town 217 = .ok (.aload_n 0, 1) := by decide +kernel
theorem dX10_town_218 : decode cX10_town 218 = .ok (.getfield 44, 3) := by decide +kernel
theorem dX10_town_221 : decode cX10_town 221 = .ok (.iload 4, 2) := by decide +kernel
theorem dX10_town_223 : decode cX10_town 223 = .ok (.aload_n 0, 1) := by decide +kernel
theorem dX10_town_224 : decode cX10_town 224 = .ok (.getfield 128, 3) := by decide +kernel
theorem dX10_town_227 : decode cX10_town 227 = .ok (.bipush 7, 2) := by decide +kernel
theorem dX10_town_229 : decode cX10_town 229 = .ok (.iload_n 3, 1) := by decide +kernel
theorem dX10_town_230 : decode cX10_town 230 = .ok (.imul, 1) := by decide +kernel
theorem dX10_town_231 : decode cX10_town 231 = .ok (.iconst 5, 1) := by decide +kernel
theorem dX10_town_232 : decode cX10_town 232 = .ok (.iadd, 1) := by decide +kernel
theorem dX10_town_233 : decode cX10_town 233 = .ok (.iaload, 1) := by decide +kernel
theorem dX10_town_234 : decode cX10_town 234 = .ok (.iastore, 1) := by decide +kernel
theorem dX10_town_235 : decode cX10_town 235 = .ok (.aload_n 0, 1) := by decide +kernel
theorem dX10_town_236 : decode cX10_town 236 = .ok (.getfield 47, 3) := by decide +kernel
theorem dX10_town_239 : decode cX10_town 239 = .ok (.iload 4, 2) := by decide +kernel
theorem dX10_town_241 : decode cX10_town 241 = .ok (.aload_n 0, 1) := by decide +kernel
theorem dX10_town_242 : decode cX10_town 242 = .ok (.getfield 128, 3) := by decide +kernel
theorem dX10_town_245 : decode cX10_town 245 = .ok (.bipush 7, 2) := by decide +kernel
theorem dX10_town_247 : decode cX10_town 247 = .ok (.iload_n 3, 1) := by decide +kernel
theorem dX10_town_248 : decode cX10_town 248 = .ok (.imul, 1) := by decide +kernel
theorem dX10_town_249 : decode cX10_town 249 = .ok (.bipush 6, 2) := by decide +kernel
theorem dX10_town_251 : decode cX10_town 251 = .ok (.iadd, 1) := by decide +kernel
theorem dX10_town_252 : decode cX10_town 252 = .ok (.iaload, 1) := by decide +kernel
theorem dX10_town_253 : decode cX10_town 253 = .ok (.iastore, 1) := by decide +kernel
theorem dX10_town_254 : decode cX10_town 254 = .ok (.aload_n 0, 1) := by decide +kernel
theorem dX10_town_255 : decode cX10_town 255 = .ok (.getfield 50, 3) := by decide +kernel
theorem dX10_town_258 : decode cX10_town 258 = .ok (.iload 4, 2) := by decide +kernel
theorem dX10_town_260 : decode cX10_town 260 = .ok (.iconst (-1), 1) := by decide +kernel
theorem dX10_town_261 : decode cX10_town 261 = .ok (.iastore, 1) := by decide +kernel
theorem dX10_town_262 : decode cX10_town 262 = .ok (.aload_n 0, 1) := by decide +kernel
theorem dX10_town_263 : decode cX10_town 263 = .ok (.getfield 68, 3) := by decide +kernel
theorem dX10_town_266 : decode cX10_town 266 = .ok (.iload 4, 2) := by decide +kernel
theorem dX10_town_268 : decode cX10_town 268 = .ok (.aload_n 0, 1) := by decide +kernel
theorem dX10_town_269 : decode cX10_town 269 = .ok (.getfield 134, 3) := by decide +kernel
theorem dX10_town_272 : decode cX10_town 272 = .ok (.iconst 3, 1) := by decide +kernel
theorem dX10_town_273 : decode cX10_town 273 = .ok (.iload_n 3, 1) := by decide +kernel
theorem dX10_town_274 : decode cX10_town 274 = .ok (.imul, 1) := by decide +kernel
theorem dX10_town_275 : decode cX10_town 275 = .ok (.iaload, 1) := by decide +kernel
theorem dX10_town_276 : decode cX10_town 276 = .ok (.iastore, 1) := by decide +kernel
theorem dX10_town_277 : decode cX10_town 277 = .ok (.aload_n 0, 1) := by decide +kernel
theorem dX10_town_278 : decode cX10_town 278 = .ok (.getfield 71, 3) := by decide +kernel
theorem dX10_town_281 : decode cX10_town 281 = .ok (.iload 4, 2) := by decide +kernel
theorem dX10_town_283 : decode cX10_town 283 = .ok (.aload_n 0, 1) := by decide +kernel
theorem dX10_town_284 : decode cX10_town 284 = .ok (.getfield 134, 3) := by decide +kernel
theorem dX10_town_287 : decode cX10_town 287 = .ok (.iconst 3, 1) := by decide +kernel
theorem dX10_town_288 : decode cX10_town 288 = .ok (.iload_n 3, 1) := by decide +kernel
theorem dX10_town_289 : decode cX10_town 289 = .ok (.imul, 1) := by decide +kernel
theorem dX10_town_290 : decode cX10_town 290 = .ok (.iconst 1, 1) := by decide +kernel
theorem dX10_town_291 : decode cX10_town 291 = .ok (.iadd, 1) := by decide +kernel
theorem dX10_town_292 : decode cX10_town 292 = .ok (.iaload, 1) := by decide +kernel
theorem dX10_town_293 : decode cX10_town 293 = .ok (.iastore, 1) := by decide +kernel
theorem dX10_town_294 : decode cX10_town 294 = .ok (.aload_n 0, 1) := by decide +kernel
theorem dX10_town_295 : decode cX10_town 295 = .ok (.getfield 74, 3) := by decide +kernel
theorem dX10_town_298 : decode cX10_town 298 = .ok (.iload 4, 2) := by decide +kernel
theorem dX10_town_300 : decode cX10_town 300 = .ok (.aload_n 0, 1) := by decide +kernel
theorem dX10_town_301 : decode cX10_town 301 = .ok (.getfield 134, 3) := by decide +kernel
theorem dX10_town_304 : decode cX10_town 304 = .ok (.iconst 3, 1) := by decide +kernel
theorem dX10_town_305 : decode cX10_town 305 = .ok (.iload_n 3, 1) := by decide +kernel
theorem dX10_town_306 : decode cX10_town 306 = .ok (.imul, 1) := by decide +kernel
theorem dX10_town_307 : decode cX10_town 307 = .ok (.iconst 2, 1) := by decide +kernel
theorem dX10_town_308 : decode cX10_town 308 = .ok (.iadd, 1) := by decide +kernel
theorem dX10_town_309 : decode cX10_town 309 = .ok (.iaload, 1) := by decide +kernel
theorem dX10_town_310 : decode cX10_town 310 = .ok (.iastore, 1) := by decide +kernel
theorem dX10_town_311 : decode cX10_town 311 = .ok (.aload_n 0, 1) := by decide +kernel
theorem dX10_town_312 : decode cX10_town 312 = .ok (.getfield 77, 3) := by decide +kernel
theorem dX10_town_315 : decode cX10_town 315 = .ok (.iload 4, 2) := by decide +kernel
theorem dX10_town_317 : decode cX10_town 317 = .ok (.aload_n 0, 1) := by decide +kernel
theorem dX10_town_318 : decode cX10_town 318 = .ok (.getfield 137, 3) := by decide +kernel
theorem dX10_town_321 : decode cX10_town 321 = .ok (.iconst 3, 1) := by decide +kernel
theorem dX10_town_322 : decode cX10_town 322 = .ok (.iload_n 3, 1) := by decide +kernel
theorem dX10_town_323 : decode cX10_town 323 = .ok (.imul, 1) := by decide +kernel
theorem dX10_town_324 : decode cX10_town 324 = .ok (.iaload, 1) := by decide +kernel
theorem dX10_town_325 : decode cX10_town 325 = .ok (.iastore, 1) := by decide +kernel
theorem dX10_town_326 : decode cX10_town 326 = .ok (.aload_n 0, 1) := by decide +kernel
theorem dX10_town_327 : decode cX10_town 327 = .ok (.getfield 80, 3) := by decide +kernel
theorem dX10_town_330 : decode cX10_town 330 = .ok (.iload 4, 2) := by decide +kernel
theorem dX10_town_332 : decode cX10_town 332 = .ok (.aload_n 0, 1) := by decide +kernel
theorem dX10_town_333 : decode cX10_town 333 = .ok (.getfield 137, 3) := by decide +kernel
theorem dX10_town_336 : decode cX10_town 336 = .ok (.iconst 3, 1) := by decide +kernel
theorem dX10_town_337 : decode cX10_town 337 = .ok (.iload_n 3, 1) := by decide +kernel
theorem dX10_town_338 : decode cX10_town 338 = .ok (.imul, 1) := by decide +kernel
theorem dX10_town_339 : decode cX10_town 339 = .ok (.iconst 1, 1) := by decide +kernel
theorem dX10_town_340 : decode cX10_town 340 = .ok (.iadd, 1) := by decide +kernel
theorem dX10_town_341 : decode cX10_town 341 = .ok (.iaload, 1) := by decide +kernel
theorem dX10_town_342 : decode cX10_town 342 = .ok (.iastore, 1) := by decide +kernel
theorem dX10_town_343 : decode cX10_town 343 = .ok (.aload_n 0, 1) := by decide +kernel
theorem dX10_town_344 : decode cX10_town 344 = .ok (.getfield 83, 3) := by decide +kernel
theorem dX10_town_347 : decode cX10_town 347 = .ok (.iload 4, 2) := by decide +kernel
theorem dX10_town_349 : decode cX10_town 349 = .ok (.aload_n 0, 1) := by decide +kernel
theorem dX10_town_350 : decode cX10_town 350 = .ok (.getfield 137, 3) := by decide +kernel
theorem dX10_town_353 : decode cX10_town 353 = .ok (.iconst 3, 1) := by decide +kernel
theorem dX10_town_354 : decode cX10_town 354 = .ok (.iload_n 3, 1) := by decide +kernel
theorem dX10_town_355 : decode cX10_town 355 = .ok (.imul, 1) := by decide +kernel
theorem dX10_town_356 : decode cX10_town 356 = .ok (.iconst 2, 1) := by decide +kernel
theorem dX10_town_357 : decode cX10_town 357 = .ok (.iadd, 1) := by decide +kernel
theorem dX10_town_358 : decode cX10_town 358 = .ok (.iaload, 1) := by decide +kernel
theorem dX10_town_359 : decode cX10_town 359 = .ok (.iastore, 1) := by decide +kernel
theorem dX10_town_360 : decode cX10_town 360 = .ok (.iinc 3 1, 3) := by decide +kernel
theorem dX10_town_363 : decode cX10_town 363 = .ok (.goto (-248), 3) := by decide +kernel
theorem dX10_town_366 : decode cX10_town 366 = .ok (.iconst 0, 1) := by decide +kernel
theorem dX10_town_367 : decode cX10_town 367 = .ok (.istore_n 3, 1) := by decide +kernel
theorem dX10_town_368 : decode cX10_town 368 = .ok (.iload_n 3, 1) := by decide +kernel
theorem dX10_town_369 : decode cX10_town 369 = .ok (.bipush 14, 2) := by decide +kernel
theorem dX10_town_371 : decode cX10_town 371 = .ok (.if_icmp .ge 100, 3) := by decide +kernel
theorem dX10_town_374 : decode cX10_town 374 = .ok (.bipush 14, 2) := by decide +kernel
theorem dX10_town_376 : decode cX10_town 376 = .ok (.iload_n 2, 1) := by decide +kernel
theorem dX10_town_377 : decode cX10_town 377 = .ok (.imul, 1) := by decide +kernel
theorem dX10_town_378 : decode cX10_town 378 = .ok (.iload_n 3, 1) := by decide +kernel
theorem dX10_town_379 : decode cX10_town 379 = .ok (.iadd, 1) := by decide +kernel
theorem dX10_town_380 : decode cX10_town 380 = .ok (.istore 4, 2) := by decide +kernel
theorem dX10_town_382 : decode cX10_town 382 = .ok (.aload_n 0, 1) := by decide +kernel
theorem dX10_town_383 : decode cX10_town 383 = .ok (.getfield 53, 3) := by decide +kernel
theorem dX10_town_386 : decode cX10_town 386 = .ok (.iload 4, 2) := by decide +kernel
theorem dX10_town_388 : decode cX10_town 388 = .ok (.aload_n 0, 1) := by decide +kernel
theorem dX10_town_389 : decode cX10_town 389 = .ok (.getfield 131, 3) := by decide +kernel
theorem dX10_town_392 : decode cX10_town 392 = .ok (.iconst 5, 1) := by decide +kernel
theorem dX10_town_393 : decode cX10_town 393 = .ok (.iload_n 3, 1) := by decide +kernel
theorem dX10_town_394 : decode cX10_town 394 = .ok (.imul, 1) := by decide +kernel
theorem dX10_town_395 : decode cX10_town 395 = .ok (.iaload, 1) := by decide +kernel
theorem dX10_town_396 : decode cX10_town 396 = .ok (.iastore, 1) := by decide +kernel
theorem dX10_town_397 : decode cX10_town 397 = .ok (.aload_n 0, 1) := by decide +kernel
theorem dX10_town_398 : decode cX10_town 398 = .ok (.getfield 56, 3) := by decide +kernel
theorem dX10_town_401 : decode cX10_town 401 = .ok (.iload 4, 2) := by decide +kernel
theorem dX10_town_403 : decode cX10_town 403 = .ok (.aload_n 0, 1) := by decide +kernel
theorem dX10_town_404 : decode cX10_town 404 = .ok (.getfield 131, 3) := by decide +kernel
theorem dX10_town_407 : decode cX10_town 407 = .ok (.iconst 5, 1) := by decide +kernel
theorem dX10_town_408 : decode cX10_town 408 = .ok (.iload_n 3, 1) := by decide +kernel
theorem dX10_town_409 : decode cX10_town 409 = .ok (.imul, 1) := by decide +kernel
theorem dX10_town_410 : decode cX10_town 410 = .ok (.iconst 1, 1) := by decide +kernel
theorem dX10_town_411 : decode cX10_town 411 = .ok (.iadd, 1) := by decide +kernel
theorem dX10_town_412 : decode cX10_town 412 = .ok (.iaload, 1) := by decide +kernel
theorem dX10_town_413 : decode cX10_town 413 = .ok (.iastore, 1) := by decide +kernel
theorem dX10_town_414 : decode cX10_town 414 = .ok (.aload_n 0, 1) := by decide +kernel
theorem dX10_town_415 : decode cX10_town 415 = .ok (.getfield 59, 3) := by decide +kernel
theorem dX10_town_418 : decode cX10_town 418 = .ok (.iload 4, 2) := by decide +kernel
theorem dX10_town_420 : decode cX10_town 420 = .ok (.aload_n 0, 1) := by decide +kernel
theorem dX10_town_421 : decode cX10_town 421 = .ok (.getfield 131, 3) := by decide +kernel
theorem dX10_town_424 : decode cX10_town 424 = .ok (.iconst 5, 1) := by decide +kernel
theorem dX10_town_425 : decode cX10_town 425 = .ok (.iload_n 3, 1) := by decide +kernel
theorem dX10_town_426 : decode cX10_town 426 = .ok (.imul, 1) := by decide +kernel
theorem dX10_town_427 : decode cX10_town 427 = .ok (.iconst 2, 1) := by decide +kernel
theorem dX10_town_428 : decode cX10_town 428 = .ok (.iadd, 1) := by decide +kernel
theorem dX10_town_429 : decode cX10_town 429 = .ok (.iaload, 1) := by decide +kernel
theorem dX10_town_430 : decode cX10_town 430 = .ok (.iastore, 1) := by decide +kernel
theorem dX10_town_431 : decode cX10_town 431 = .ok (.aload_n 0, 1) := by decide +kernel
theorem dX10_town_432 : decode cX10_town 432 = .ok (.getfield 62, 3) := by decide +kernel
theorem dX10_town_435 : decode cX10_town 435 = .ok (.iload 4, 2) := by decide +kernel
theorem dX10_town_437 : decode cX10_town 437 = .ok (.aload_n 0, 1) := by decide +kernel
theorem dX10_town_438 : decode cX10_town 438 = .ok (.getfield 131, 3) := by decide +kernel
theorem dX10_town_441 : decode cX10_town 441 = .ok (.iconst 5, 1) := by decide +kernel
theorem dX10_town_442 : decode cX10_town 442 = .ok (.iload_n 3, 1) := by decide +kernel
theorem dX10_town_443 : decode cX10_town 443 = .ok (.imul, 1) := by decide +kernel
theorem dX10_town_444 : decode cX10_town 444 = .ok (.iconst 3, 1) := by decide +kernel
theorem dX10_town_445 : decode cX10_town 445 = .ok (.iadd, 1) := by decide +kernel
theorem dX10_town_446 : decode cX10_town 446 = .ok (.iaload, 1) := by decide +kernel
theorem dX10_town_447 : decode cX10_town 447 = .ok (.iastore, 1) := by decide +kernel
theorem dX10_town_448 : decode cX10_town 448 = .ok (.aload_n 0, 1) := by decide +kernel
theorem dX10_town_449 : decode cX10_town 449 = .ok (.getfield 65, 3) := by decide +kernel
theorem dX10_town_452 : decode cX10_town 452 = .ok (.iload 4, 2) := by decide +kernel
theorem dX10_town_454 : decode cX10_town 454 = .ok (.aload_n 0, 1) := by decide +kernel
theorem dX10_town_455 : decode cX10_town 455 = .ok (.getfield 131, 3) := by decide +kernel
theorem dX10_town_458 : decode cX10_town 458 = .ok (.iconst 5, 1) := by decide +kernel
theorem dX10_town_459 : decode cX10_town 459 = .ok (.iload_n 3, 1) := by decide +kernel
theorem dX10_town_460 : decode cX10_town 460 = .ok (.imul, 1) := by decide +kernel
theorem dX10_town_461 : decode cX10_town 461 = .ok (.iconst 4, 1) := by decide +kernel
theorem dX10_town_462 : decode cX10_town 462 = .ok (.iadd, 1) := by decide +kernel
theorem dX10_town_463 : decode cX10_town 463 = .ok (.iaload, 1) := by decide +kernel
theorem dX10_town_464 : decode cX10_town 464 = .ok (.iastore, 1) := by decide +kernel
theorem dX10_town_465 : decode cX10_town 465 = .ok (.iinc 3 1, 3) := by decide +kernel
theorem dX10_town_468 : decode cX10_town 468 = .ok (.goto (-100), 3) := by decide +kernel
theorem dX10_town_471 : decode cX10_town 471 = .ok (.iload_n 2, 1) := by decide +kernel
theorem dX10_town_472 : decode cX10_town 472 = .ok (.ireturn, 1) := by decide +kernel
def rmX10_town : Room := { frames := 7, cells := 0, slots := 0, locals := 160 }
set_option maxRecDepth 100000 in
def g_X10_town_84 (th : Nat) (p1 : Int32) (k84 : Int32 → Int32 → MM → Option (Int32 × MM)) (k113 : Int32 → MM → Option (Int32 × MM)) (x2 : Int32) (x3 : Int32) (m : MM) : Option (Int32 × MM) :=
  if 32 ≤ x3 then (k113 x2 m) else (chk (m.K th = 11) (ck m (m.R 1150 th 0) 22 (fun a1 => chk (inb x3 (m.N a1) = true) (ck m (m.R 1106 th 0) 22 (fun a2 => chk (inb ((32 * x2) + x3) (m.N a2) = true) (bnd (m.sI 22 a2 (Int32.toNatClampNeg ((32 * x2) + x3)) (m.I 22 a1 (Int32.toNatClampNeg x3))) (fun m1 => k84 x2 (x3 + 1) m1)))))))
set_option maxHeartbeats 4000000 in
set_option maxRecDepth 100000 in
theorem s_X10_town_84 {Γ : GX} {E : EX} (C : Cx Γ E cX10_town RX10 5) (hr : Γ.meth.sig.returnType = (some .int)) (hrm : Γ.rm = rmX10_town) (th : Nat) (p1 : Int32) (k84 : Int32 → Int32 → MM → Option (Int32 × MM)) (k113 : Int32 → MM → Option (Int32 × MM)) (h84 : ∀ (x2 : Int32) (x3 : Int32) (m : MM), Sm (QM Γ E emI 0 0) Γ E 5 0 0 84 [(0, va_rf (some th)), (1, .int p1), (2, .int x2), (3, .int x3)] [] m (k84 x2 x3 m)) (h113 : ∀ (x2 : Int32) (m : MM), Sm (QM Γ E emI 0 0) Γ E 5 0 0 113 [(0, va_rf (some th)), (1, .int p1), (2, .int x2)] [] m (k113 x2 m)) (x2 : Int32) (x3 : Int32) (m : MM) : Sm (QM Γ E emI 0 0) Γ E 5 0 0 84 [(0, va_rf (some th)), (1, .int p1), (2, .int x2), (3, .int x3)] [] m (g_X10_town_84 th p1 k84 k113 x2 x3 m) := by
  unfold g_X10_town_84
  refine z_iload_n C dX10_town_84 rfl 3 rfl ?_
  refine z_bipush (v := 32) C dX10_town_85 (by decide) ?_
  refine z_icmp_ge (tgt := 113) C dX10_town_87 (by decide) (fun c1 => ?_) (fun c1 => ?_)
  · exact z_sub [0, 1, 2] rfl (h113 x2 m)
  · refine z_aload_n C dX10_town_90 rfl 0 rfl ?_
    refine z_chk (fun hk1 => ?_)
    refine z_getR C fl_RX10_26 rfl hk1 dX10_town_91 ?_
    refine z_bipush (v := 32) C dX10_town_94 (by decide) ?_
    refine z_iload_n C dX10_town_96 rfl 2 rfl ?_
    refine z_imul C dX10_town_97 ?_
    refine z_iload_n C dX10_town_98 rfl 3 rfl ?_
    refine z_iadd C dX10_town_99 ?_
    refine z_aload_n C dX10_town_100 rfl 0 rfl ?_
    refine z_getR C fl_RX10_125 rfl hk1 dX10_town_101 ?_
    refine z_iload_n C dX10_town_104 rfl 3 rfl ?_
    refine z_ck (fun a1 hr1 hk2 => ?_)
    refine z_chk (fun hj1 => ?_)
    refine z_iald C hr1 hk2 hj1 dX10_town_105 ?_
    refine z_ck (fun a2 hr2 hk3 => ?_)
    refine z_chk (fun hj2 => ?_)
    refine z_iast C hr2 hk3 hj2 dX10_town_106 (fun m1 eK1 eN1 => ?_)
    refine z_iinc (v := 1) (L2 := [(3, .int (x3 + 1)), (0, va_rf (some th)), (1, .int p1), (2, .int x2)]) C dX10_town_107 3 rfl (by decide) (by decide) rfl ?_
    refine z_goto (tgt := 84) C dX10_town_110 (by decide) ?_
    exact z_sub [1, 2, 3, 0] rfl (h84 x2 (x3 + 1) m1)
def l_X10_town_84 (th : Nat) (p1 : Int32) (k113 : Int32 → MM → Option (Int32 × MM)) : Nat → Int32 → Int32 → MM → Option (Int32 × MM) := lp (fun _ _ _ => none) (fun k84 => g_X10_town_84 th p1 k84 k113)
theorem t_X10_town_84 {Γ : GX} {E : EX} (C : Cx Γ E cX10_town RX10 5) (hr : Γ.meth.sig.returnType = (some .int)) (hrm : Γ.rm = rmX10_town) (th : Nat) (p1 : Int32) (k113 : Int32 → MM → Option (Int32 × MM)) (h113 : ∀ (x2 : Int32) (m : MM), Sm (QM Γ E emI 0 0) Γ E 5 0 0 113 [(0, va_rf (some th)), (1, .int p1), (2, .int x2)] [] m (k113 x2 m)) : ∀ (n : Nat) (x2 : Int32) (x3 : Int32) (m : MM), Sm (QM Γ E emI 0 0) Γ E 5 0 0 84 [(0, va_rf (some th)), (1, .int p1), (2, .int x2), (3, .int x3)] [] m (l_X10_town_84 th p1 k113 n x2 x3 m) := by
  intro n
  induction n with
  | zero => intros; exact z_none
  | succ n ih => intro x2 x3 m; exact s_X10_town_84 C hr hrm th p1 (l_X10_town_84 th p1 k113 n) k113 ih h113 x2 x3 m
set_option maxRecDepth 100000 in
def g_X10_town_115 (th : Nat) (p1 : Int32) (k115 : Int32 → Int32 → MM → Option (Int32 × MM)) (k366 : Int32 → MM → Option (Int32 × MM)) (x2 : Int32) (x3 : Int32) (m : MM) : Option (Int32 × MM) :=
  if 12 ≤ x3 then (k366 x2 m) else (bnd ((12 * x2) + x3) (fun y1 => chk (m.K th = 11) (ck m (m.R 1151 th 0) 22 (fun a3 => chk (inb (7 * x3) (m.N a3) = true) (ck m (m.R 1107 th 0) 22 (fun a4 => chk (inb y1 (m.N a4) = true) (bnd (m.sI 22 a4 (Int32.toNatClampNeg y1) (m.I 22 a3 (Int32.toNatClampNeg (7 * x3)))) (fun m2 => ck m2 (m2.R 1151 th 0) 22 (fun a5 => chk (inb ((7 * x3) + 1) (m2.N a5) = true) (ck m2 (m2.R 1108 th 0) 22 (fun a6 => chk (inb y1 (m2.N a6) = true) (bnd (m2.sI 22 a6 (Int32.toNatClampNeg y1) (m2.I 22 a5 (Int32.toNatClampNeg ((7 * x3) + 1)))) (fun m3 => ck m3 (m3.R 1151 th 0) 22 (fun a7 => chk (inb ((7 * x3) + 2) (m3.N a7) = true) (ck m3 (m3.R 1109 th 0) 22 (fun a8 => chk (inb y1 (m3.N a8) = true) (bnd (m3.sI 22 a8 (Int32.toNatClampNeg y1) (m3.I 22 a7 (Int32.toNatClampNeg ((7 * x3) + 2)))) (fun m4 => ck m4 (m4.R 1151 th 0) 22 (fun a9 => chk (inb ((7 * x3) + 3) (m4.N a9) = true) (ck m4 (m4.R 1110 th 0) 22 (fun a10 => chk (inb y1 (m4.N a10) = true) (bnd (m4.sI 22 a10 (Int32.toNatClampNeg y1) (m4.I 22 a9 (Int32.toNatClampNeg ((7 * x3) + 3)))) (fun m5 => ck m5 (m5.R 1151 th 0) 22 (fun a11 => chk (inb ((7 * x3) + 4) (m5.N a11) = true) (ck m5 (m5.R 1111 th 0) 22 (fun a12 => chk (inb y1 (m5.N a12) = true) (bnd (m5.sI 22 a12 (Int32.toNatClampNeg y1) (m5.I 22 a11 (Int32.toNatClampNeg ((7 * x3) + 4)))) (fun m6 => ck m6 (m6.R 1151 th 0) 22 (fun a13 => chk (inb ((7 * x3) + 5) (m6.N a13) = true) (ck m6 (m6.R 1112 th 0) 22 (fun a14 => chk (inb y1 (m6.N a14) = true) (bnd (m6.sI 22 a14 (Int32.toNatClampNeg y1) (m6.I 22 a13 (Int32.toNatClampNeg ((7 * x3) + 5)))) (fun m7 => ck m7 (m7.R 1151 th 0) 22 (fun a15 => chk (inb ((7 * x3) + 6) (m7.N a15) = true) (ck m7 (m7.R 1113 th 0) 22 (fun a16 => chk (inb y1 (m7.N a16) = true) (bnd (m7.sI 22 a16 (Int32.toNatClampNeg y1) (m7.I 22 a15 (Int32.toNatClampNeg ((7 * x3) + 6)))) (fun m8 => ck m8 (m8.R 1114 th 0) 22 (fun a17 => chk (inb y1 (m8.N a17) = true) (bnd (m8.sI 22 a17 (Int32.toNatClampNeg y1) (-1)) (fun m9 => ck m9 (m9.R 1153 th 0) 22 (fun a18 => chk (inb (3 * x3) (m9.N a18) = true) (ck m9 (m9.R 1120 th 0) 22 (fun a19 => chk (inb y1 (m9.N a19) = true) (bnd (m9.sI 22 a19 (Int32.toNatClampNeg y1) (m9.I 22 a18 (Int32.toNatClampNeg (3 * x3)))) (fun m10 => ck m10 (m10.R 1153 th 0) 22 (fun a20 => chk (inb ((3 * x3) + 1) (m10.N a20) = true) (ck m10 (m10.R 1121 th 0) 22 (fun a21 => chk (inb y1 (m10.N a21) = true) (bnd (m10.sI 22 a21 (Int32.toNatClampNeg y1) (m10.I 22 a20 (Int32.toNatClampNeg ((3 * x3) + 1)))) (fun m11 => ck m11 (m11.R 1153 th 0) 22 (fun a22 => chk (inb ((3 * x3) + 2) (m11.N a22) = true) (ck m11 (m11.R 1122 th 0) 22 (fun a23 => chk (inb y1 (m11.N a23) = true) (bnd (m11.sI 22 a23 (Int32.toNatClampNeg y1) (m11.I 22 a22 (Int32.toNatClampNeg ((3 * x3) + 2)))) (fun m12 => ck m12 (m12.R 1154 th 0) 22 (fun a24 => chk (inb (3 * x3) (m12.N a24) = true) (ck m12 (m12.R 1123 th 0) 22 (fun a25 => chk (inb y1 (m12.N a25) = true) (bnd (m12.sI 22 a25 (Int32.toNatClampNeg y1) (m12.I 22 a24 (Int32.toNatClampNeg (3 * x3)))) (fun m13 => ck m13 (m13.R 1154 th 0) 22 (fun a26 => chk (inb ((3 * x3) + 1) (m13.N a26) = true) (ck m13 (m13.R 1124 th 0) 22 (fun a27 => chk (inb y1 (m13.N a27) = true) (bnd (m13.sI 22 a27 (Int32.toNatClampNeg y1) (m13.I 22 a26 (Int32.toNatClampNeg ((3 * x3) + 1)))) (fun m14 => ck m14 (m14.R 1154 th 0) 22 (fun a28 => chk (inb ((3 * x3) + 2) (m14.N a28) = true) (ck m14 (m14.R 1125 th 0) 22 (fun a29 => chk (inb y1 (m14.N a29) = true) (bnd (m14.sI 22 a29 (Int32.toNatClampNeg y1) (m14.I 22 a28 (Int32.toNatClampNeg ((3 * x3) + 2)))) (fun m15 => k115 x2 (x3 + 1) m15)))))))))))))))))))))))))))))))))))))))))))))))))))))))))))))))))))))))
set_option maxHeartbeats 4000000 in
set_option maxRecDepth 100000 in
theorem s_X10_town_115 {Γ : GX} {E : EX} (C : Cx Γ E cX10_town RX10 5) (hr : Γ.meth.sig.returnType = (some .int)) (hrm : Γ.rm = rmX10_town) (th : Nat) (p1 : Int32) (k115 : Int32 → Int32 → MM → Option (Int32 × MM)) (k366 : Int32 → MM → Option (Int32 × MM)) (h115 : ∀ (x2 : Int32) (x3 : Int32) (m : MM), Sm (QM Γ E emI 0 0) Γ E 5 0 0 115 [(0, va_rf (some th)), (1, .int p1), (2, .int x2), (3, .int x3)] [] m (k115 x2 x3 m)) (h366 : ∀ (x2 : Int32) (m : MM), Sm (QM Γ E emI 0 0) Γ E 5 0 0 366 [(0, va_rf (some th)), (1, .int p1), (2, .int x2)] [] m (k366 x2 m)) (x2 : Int32) (x3 : Int32) (m : MM) : Sm (QM Γ E emI 0 0) Γ E 5 0 0 115 [(0, va_rf (some th)), (1, .int p1), (2, .int x2), (3, .int x3)] [] m (g_X10_town_115 th p1 k115 k366 x2 x3 m) := by
  unfold g_X10_town_115
  refine z_iload_n C dX10_town_115 rfl 3 rfl ?_
  refine z_bipush (v := 12) C dX10_town_116 (by decide) ?_
  refine z_icmp_ge (tgt := 366) C dX10_town_118 (by decide) (fun c2 => ?_) (fun c2 => ?_)
  · exact z_sub [0, 1, 2] rfl (h366 x2 m)
  · refine z_bipush (v := 12) C dX10_town_121 (by decide) ?_
    refine z_iload_n C dX10_town_123 rfl 2 rfl ?_
    refine z_imul C dX10_town_124 ?_
    refine z_iload_n C dX10_town_125 rfl 3 rfl ?_
    refine z_iadd C dX10_town_126 ?_
    refine z_bndI (fun y1 => ?_)
    refine z_istore (i := 4) (L2 := [(4, .int y1), (0, va_rf (some th)), (1, .int p1), (2, .int x2), (3, .int x3)]) C dX10_town_127 (by decide) rfl ?_
    refine z_aload_n C dX10_town_129 rfl 1 rfl ?_
    refine z_chk (fun hk4 => ?_)
    refine z_getR C fl_RX10_29 rfl hk4 dX10_town_130 ?_
    refine z_iload C dX10_town_133 0 rfl ?_
    refine z_aload_n C dX10_town_135 rfl 1 rfl ?_
    refine z_getR C fl_RX10_128 rfl hk4 dX10_town_136 ?_
    refine z_bipush (v := 7) C dX10_town_139 (by decide) ?_
    refine z_iload_n C dX10_town_141 rfl 4 rfl ?_
    refine z_imul C dX10_town_142 ?_
    refine z_ck (fun a3 hr3 hk5 => ?_)
    refine z_chk (fun hj3 => ?_)
    refine z_iald C hr3 hk5 hj3 dX10_town_143 ?_
    refine z_ck (fun a4 hr4 hk6 => ?_)
    refine z_chk (fun hj4 => ?_)
    refine z_iast C hr4 hk6 hj4 dX10_town_144 (fun m2 eK2 eN2 => ?_)
    refine z_aload_n C dX10_town_145 rfl 1 rfl ?_
    refine z_getR C fl_RX10_32 rfl (kfw eK2 hk4) dX10_town_146 ?_
    refine z_iload C dX10_town_149 0 rfl ?_
    refine z_aload_n C dX10_town_151 rfl 1 rfl ?_
    refine z_getR C fl_RX10_128 rfl (kfw eK2 hk4) dX10_town_152 ?_
    refine z_bipush (v := 7) C dX10_town_155 (by decide) ?_
    refine z_iload_n C dX10_town_157 rfl 4 rfl ?_
    refine z_imul C dX10_town_158 ?_
    refine z_iconst (v := 1) C dX10_town_159 (by decide) ?_
    refine z_iadd C dX10_town_160 ?_
    refine z_ck (fun a5 hr5 hk7 => ?_)
    refine z_chk (fun hj5 => ?_)
    refine z_iald C hr5 hk7 hj5 dX10_town_161 ?_
    refine z_ck (fun a6 hr6 hk8 => ?_)
    refine z_chk (fun hj6 => ?_)
    refine z_iast C hr6 hk8 hj6 dX10_town_162 (fun m3 eK3 eN3 => ?_)
    refine z_aload_n C dX10_town_163 rfl 1 rfl ?_
    refine z_getR C fl_RX10_35 rfl (kfw eK3 (kfw eK2 hk4)) dX10_town_164 ?_
    refine z_iload C dX10_town_167 0 rfl ?_
    refine z_aload_n C dX10_town_169 rfl 1 rfl ?_
    refine z_getR C fl_RX10_128 rfl (kfw eK3 (kfw eK2 hk4)) dX10_town_170 ?_
    refine z_bipush (v := 7) C dX10_town_173 (by decide) ?_
    refine z_iload_n C dX10_town_175 rfl 4 rfl ?_
    refine z_imul C dX10_town_176 ?_
    refine z_iconst (v := 2) C dX10_town_177 (by decide) ?_
    refine z_iadd C dX10_town_178 ?_
    refine z_ck (fun a7 hr7 hk9 => ?_)
    refine z_chk (fun hj7 => ?_)
    refine z_iald C hr7 hk9 hj7 dX10_town_179 ?_
    refine z_ck (fun a8 hr8 hk10 => ?_)
    refine z_chk (fun hj8 => ?_)
    refine z_iast C hr8 hk10 hj8 dX10_town_180 (fun m4 eK4 eN4 => ?_)
    refine z_aload_n C dX10_town_181 rfl 1 rfl ?_
    refine z_getR C fl_RX10_38 rfl (kfw eK4 (kfw eK3 (kfw eK2 hk4))) dX10_town_182 ?_
    refine z_iload C dX10_town_185 0 rfl ?_
    refine z_aload_n C dX10_town_187 rfl 1 rfl ?_
    refine z_getR C fl_RX10_128 rfl (kfw eK4 (kfw eK3 (kfw eK2 hk4))) dX10_town_188 ?_
    refine z_bipush (v := 7) C dX10_town_191 (by decide) ?_
    refine z_iload_n C dX10_town_193 rfl 4 rfl ?_
    refine z_imul C dX10_town_194 ?_
    refine z_iconst (v := 3) C dX10_town_195 (by decide) ?_
    refine z_iadd C dX10_town_196 ?_
    refine z_ck (fun a9 hr9 hk11 => ?_)
    refine z_chk (fun hj9 => ?_)
    refine z_iald C hr9 hk11 hj9 dX10_town_197 ?_
    refine z_ck (fun a10 hr10 hk12 => ?_)
    refine z_chk (fun hj10 => ?_)
    refine z_iast C hr10 hk12 hj10 dX10_town_198 (fun m5 eK5 eN5 => ?_)
    refine z_aload_n C dX10_town_199 rfl 1 rfl ?_
    refine z_getR C fl_RX10_41 rfl (kfw eK5 (kfw eK4 (kfw eK3 (kfw eK2 hk4)))) dX10_town_200 ?_
    refine z_iload C dX10_town_203 0 rfl ?_
    refine z_aload_n C dX10_town_205 rfl 1 rfl ?_
    refine z_getR C fl_RX10_128 rfl (kfw eK5 (kfw eK4 (kfw eK3 (kfw eK2 hk4)))) dX10_town_206 ?_
    refine z_bipush (v := 7) C dX10_town_209 (by decide) ?_
    refine z_iload_n C dX10_town_211 rfl 4 rfl ?_
    refine z_imul C dX10_town_212 ?_
    refine z_iconst (v := 4) C dX10_town_213 (by decide) ?_
    refine z_iadd C dX10_town_214 ?_
    refine z_ck (fun a11 hr11 hk13 => ?_)
    refine z_chk (fun hj11 => ?_)
    refine z_iald C hr11 hk13 hj11 dX10_town_215 ?_
    refine z_ck (fun a12 hr12 hk14 => ?_)
    refine z_chk (fun hj12 => ?_)
    refine z_iast C hr12 hk14 hj12 dX10_town_216 (fun m6 eK6 eN6 => ?_)
    refine z_aload_n C dX10_town_217 rfl 1 rfl ?_
    refine z_getR C fl_RX10_44 rfl (kfw eK6 (kfw eK5 (kfw eK4 (kfw eK3 (kfw eK2 hk4))))) dX10_town_218 ?_
    refine z_iload C dX10_town_221 0 rfl ?_
    refine z_aload_n C dX10_town_223 rfl 1 rfl ?_
    refine z_getR C fl_RX10_128 rfl (kfw eK6 (kfw eK5 (kfw eK4 (kfw eK3 (kfw eK2 hk4))))) dX10_town_224 ?_
    refine z_bipush (v := 7) C dX10_town_227 (by decide) ?_
    refine z_iload_n C dX10_town_229 rfl 4 rfl ?_
    refine z_imul C dX10_town_230 ?_
    refine z_iconst (v := 5) C dX10_town_231 (by decide) ?_
    refine z_iadd C dX10_town_232 ?_
    refine z_ck (fun a13 hr13 hk15 => ?_)
    refine z_chk (fun hj13 => ?_)
    refine z_iald C hr13 hk15 hj13 dX10_town_233 ?_
    refine z_ck (fun a14 hr14 hk16 => ?_)
    refine z_chk (fun hj14 => ?_)
    refine z_iast C hr14 hk16 hj14 dX10_town_234 (fun m7 eK7 eN7 => ?_)
    refine z_aload_n C dX10_town_235 rfl 1 rfl ?_
    refine z_getR C fl_RX10_47 rfl (kfw eK7 (kfw eK6 (kfw eK5 (kfw eK4 (kfw eK3 (kfw eK2 hk4)))))) dX10_town_236 ?_
    refine z_iload C dX10_town_239 0 rfl ?_
    refine z_aload_n C dX10_town_241 rfl 1 rfl ?_
    refine z_getR C fl_RX10_128 rfl (kfw eK7 (kfw eK6 (kfw eK5 (kfw eK4 (kfw eK3 (kfw eK2 hk4)))))) dX10_town_242 ?_
    refine z_bipush (v := 7) C dX10_town_245 (by decide) ?_
    refine z_iload_n C dX10_town_247 rfl 4 rfl ?_
    refine z_imul C dX10_town_248 ?_
    refine z_bipush (v := 6) C dX10_town_249 (by decide) ?_
    refine z_iadd C dX10_town_251 ?_
    refine z_ck (fun a15 hr15 hk17 => ?_)
    refine z_chk (fun hj15 => ?_)
    refine z_iald C hr15 hk17 hj15 dX10_town_252 ?_
    refine z_ck (fun a16 hr16 hk18 => ?_)
    refine z_chk (fun hj16 => ?_)
    refine z_iast C hr16 hk18 hj16 dX10_town_253 (fun m8 eK8 eN8 => ?_)
    refine z_aload_n C dX10_town_254 rfl 1 rfl ?_
    refine z_getR C fl_RX10_50 rfl (kfw eK8 (kfw eK7 (kfw eK6 (kfw eK5 (kfw eK4 (kfw eK3 (kfw eK2 hk4))))))) dX10_town_255 ?_
    refine z_iload C dX10_town_258 0 rfl ?_
    refine z_iconst (v := (-1)) C dX10_town_260 (by decide) ?_
    refine z_ck (fun a17 hr17 hk19 => ?_)
    refine z_chk (fun hj17 => ?_)
    refine z_iast C hr17 hk19 hj17 dX10_town_261 (fun m9 eK9 eN9 => ?_)
    refine z_aload_n C dX10_town_262 rfl 1 rfl ?_
    refine z_getR C fl_RX10_68 rfl (kfw eK9 (kfw eK8 (kfw eK7 (kfw eK6 (kfw eK5 (kfw eK4 (kfw eK3 (kfw eK2 hk4)))))))) dX10_town_263 ?_
    refine z_iload C dX10_town_266 0 rfl ?_
    refine z_aload_n C dX10_town_268 rfl 1 rfl ?_
    refine z_getR C fl_RX10_134 rfl (kfw eK9 (kfw eK8 (kfw eK7 (kfw eK6 (kfw eK5 (kfw eK4 (kfw eK3 (kfw eK2 hk4)))))))) dX10_town_269 ?_
    refine z_iconst (v := 3) C dX10_town_272 (by decide) ?_
    refine z_iload_n C dX10_town_273 rfl 4 rfl ?_
    refine z_imul C dX10_town_274 ?_
    refine z_ck (fun a18 hr18 hk20 => ?_)
    refine z_chk (fun hj18 => ?_)
    refine z_iald C hr18 hk20 hj18 dX10_town_275 ?_
    refine z_ck (fun a19 hr19 hk21 => ?_)
    refine z_chk (fun hj19 => ?_)
    refine z_iast C hr19 hk21 hj19 dX10_town_276 (fun m10 eK10 eN10 => ?_)
    refine z_aload_n C dX10_town_277 rfl 1 rfl ?_
    refine z_getR C fl_RX10_71 rfl (kfw eK10 (kfw eK9 (kfw eK8 (kfw eK7 (kfw eK6 (kfw eK5 (kfw eK4 (kfw eK3 (kfw eK2 hk4))))))))) dX10_town_278 ?_
    refine z_iload C dX10_town_281 0 rfl ?_
    refine z_aload_n C dX10_town_283 rfl 1 rfl ?_
    refine z_getR C fl_RX10_134 rfl (kfw eK10 (kfw eK9 (kfw eK8 (kfw eK7 (kfw eK6 (kfw eK5 (kfw eK4 (kfw eK3 (kfw eK2 hk4))))))))) dX10_town_284 ?_
    refine z_iconst (v := 3) C dX10_town_287 (by decide) ?_
    refine z_iload_n C dX10_town_288 rfl 4 rfl ?_
    refine z_imul C dX10_town_289 ?_
    refine z_iconst (v := 1) C dX10_town_290 (by decide) ?_
    refine z_iadd C dX10_town_291 ?_
    refine z_ck (fun a20 hr20 hk22 => ?_)
    refine z_chk (fun hj20 => ?_)
    refine z_iald C hr20 hk22 hj20 dX10_town_292 ?_
    refine z_ck (fun a21 hr21 hk23 => ?_)
    refine z_chk (fun hj21 => ?_)
    refine z_iast C hr21 hk23 hj21 dX10_town_293 (fun m11 eK11 eN11 => ?_)
    refine z_aload_n C dX10_town_294 rfl 1 rfl ?_
    refine z_getR C fl_RX10_74 rfl (kfw eK11 (kfw eK10 (kfw eK9 (kfw eK8 (kfw eK7 (kfw eK6 (kfw eK5 (kfw eK4 (kfw eK3 (kfw eK2 hk4)))))))))) dX10_town_295 ?_
    refine z_iload C dX10_town_298 0 rfl ?_
    refine z_aload_n C dX10_town_300 rfl 1 rfl ?_
    refine z_getR C fl_RX10_134 rfl (kfw eK11 (kfw eK10 (kfw eK9 (kfw eK8 (kfw eK7 (kfw eK6 (kfw eK5 (kfw eK4 (kfw eK3 (kfw eK2 hk4)))))))))) dX10_town_301 ?_
    refine z_iconst (v := 3) C dX10_town_304 (by decide) ?_
    refine z_iload_n C dX10_town_305 rfl 4 rfl ?_
    refine z_imul C dX10_town_306 ?_
    refine z_iconst (v := 2) C dX10_town_307 (by decide) ?_
    refine z_iadd C dX10_town_308 ?_
    refine z_ck (fun a22 hr22 hk24 => ?_)
    refine z_chk (fun hj22 => ?_)
    refine z_iald C hr22 hk24 hj22 dX10_town_309 ?_
    refine z_ck (fun a23 hr23 hk25 => ?_)
    refine z_chk (fun hj23 => ?_)
    refine z_iast C hr23 hk25 hj23 dX10_town_310 (fun m12 eK12 eN12 => ?_)
    refine z_aload_n C dX10_town_311 rfl 1 rfl ?_
    refine z_getR C fl_RX10_77 rfl (kfw eK12 (kfw eK11 (kfw eK10 (kfw eK9 (kfw eK8 (kfw eK7 (kfw eK6 (kfw eK5 (kfw eK4 (kfw eK3 (kfw eK2 hk4))))))))))) dX10_town_312 ?_
    refine z_iload C dX10_town_315 0 rfl ?_
    refine z_aload_n C dX10_town_317 rfl 1 rfl ?_
    refine z_getR C fl_RX10_137 rfl (kfw eK12 (kfw eK11 (kfw eK10 (kfw eK9 (kfw eK8 (kfw eK7 (kfw eK6 (kfw eK5 (kfw eK4 (kfw eK3 (kfw eK2 hk4))))))))))) dX10_town_318 ?_
    refine z_iconst (v := 3) C dX10_town_321 (by decide) ?_
    refine z_iload_n C dX10_town_322 rfl 4 rfl ?_
    refine z_imul C dX10_town_323 ?_
    refine z_ck (fun a24 hr24 hk26 => ?_)
    refine z_chk (fun hj24 => ?_)
    refine z_iald C hr24 hk26 hj24 dX10_town_324 ?_
    refine z_ck (fun a25 hr25 hk27 => ?_)
    refine z_chk (fun hj25 => ?_)
    refine z_iast C hr25 hk27 hj25 dX10_town_325 (fun m13 eK13 eN13 => ?_)
    refine z_aload_n C dX10_town_326 rfl 1 rfl ?_
    refine z_getR C fl_RX10_80 rfl (kfw eK13 (kfw eK12 (kfw eK11 (kfw eK10 (kfw eK9 (kfw eK8 (kfw eK7 (kfw eK6 (kfw eK5 (kfw eK4 (kfw eK3 (kfw eK2 hk4)))))))))))) dX10_town_327 ?_
    refine z_iload C dX10_town_330 0 rfl ?_
    refine z_aload_n C dX10_town_332 rfl 1 rfl ?_
    refine z_getR C fl_RX10_137 rfl (kfw eK13 (kfw eK12 (kfw eK11 (kfw eK10 (kfw eK9 (kfw eK8 (kfw eK7 (kfw eK6 (kfw eK5 (kfw eK4 (kfw eK3 (kfw eK2 hk4)))))))))))) dX10_town_333 ?_
    refine z_iconst (v := 3) C dX10_town_336 (by decide) ?_
    refine z_iload_n C dX10_town_337 rfl 4 rfl ?_
    refine z_imul C dX10_town_338 ?_
    refine z_iconst (v := 1) C dX10_town_339 (by decide) ?_
    refine z_iadd C dX10_town_340 ?_
    refine z_ck (fun a26 hr26 hk28 => ?_)
    refine z_chk (fun hj26 => ?_)
    refine z_iald C hr26 hk28 hj26 dX10_town_341 ?_
    refine z_ck (fun a27 hr27 hk29 => ?_)
    refine z_chk (fun hj27 => ?_)
    refine z_iast C hr27 hk29 hj27 dX10_town_342 (fun m14 eK14 eN14 => ?_)
    refine z_aload_n C dX10_town_343 rfl 1 rfl ?_
    refine z_getR C fl_RX10_83 rfl (kfw eK14 (kfw eK13 (kfw eK12 (kfw eK11 (kfw eK10 (kfw eK9 (kfw eK8 (kfw eK7 (kfw eK6 (kfw eK5 (kfw eK4 (kfw eK3 (kfw eK2 hk4))))))))))))) dX10_town_344 ?_
    refine z_iload C dX10_town_347 0 rfl ?_
    refine z_aload_n C dX10_town_349 rfl 1 rfl ?_
    refine z_getR C fl_RX10_137 rfl (kfw eK14 (kfw eK13 (kfw eK12 (kfw eK11 (kfw eK10 (kfw eK9 (kfw eK8 (kfw eK7 (kfw eK6 (kfw eK5 (kfw eK4 (kfw eK3 (kfw eK2 hk4))))))))))))) dX10_town_350 ?_
    refine z_iconst (v := 3) C dX10_town_353 (by decide) ?_
    refine z_iload_n C dX10_town_354 rfl 4 rfl ?_
    refine z_imul C dX10_town_355 ?_
    refine z_iconst (v := 2) C dX10_town_356 (by decide) ?_
    refine z_iadd C dX10_town_357 ?_
    refine z_ck (fun a28 hr28 hk30 => ?_)
    refine z_chk (fun hj28 => ?_)
    refine z_iald C hr28 hk30 hj28 dX10_town_358 ?_
    refine z_ck (fun a29 hr29 hk31 => ?_)
    refine z_chk (fun hj29 => ?_)
    refine z_iast C hr29 hk31 hj29 dX10_town_359 (fun m15 eK15 eN15 => ?_)
    refine z_iinc (v := 1) (L2 := [(3, .int (x3 + 1)), (4, .int y1), (0, va_rf (some th)), (1, .int p1), (2, .int x2)]) C dX10_town_360 4 rfl (by decide) (by decide) rfl ?_
    refine z_goto (tgt := 115) C dX10_town_363 (by decide) ?_
    exact z_sub [2, 3, 4, 0] rfl (h115 x2 (x3 + 1) m15)
def l_X10_town_115 (th : Nat) (p1 : Int32) (k366 : Int32 → MM → Option (Int32 × MM)) : Nat → Int32 → Int32 → MM → Option (Int32 × MM) := lp (fun _ _ _ => none) (fun k115 => g_X10_town_115 th p1 k115 k366)
theorem t_X10_town_115 {Γ : GX} {E : EX} (C : Cx Γ E cX10_town RX10 5) (hr : Γ.meth.sig.returnType = (some .int)) (hrm : Γ.rm = rmX10_town) (th : Nat) (p1 : Int32) (k366 : Int32 → MM → Option (Int32 × MM)) (h366 : ∀ (x2 : Int32) (m : MM), Sm (QM Γ E emI 0 0) Γ E 5 0 0 366 [(0, va_rf (some th)), (1, .int p1), (2, .int x2)] [] m (k366 x2 m)) : ∀ (n : Nat) (x2 : Int32) (x3 : Int32) (m : MM), Sm (QM Γ E emI 0 0) Γ E 5 0 0 115 [(0, va_rf (some th)), (1, .int p1), (2, .int x2), (3, .int x3)] [] m (l_X10_town_115 th p1 k366 n x2 x3 m) := by
  intro n
  induction n with
  | zero => intros; exact z_none
  | succ n ih => intro x2 x3 m; exact s_X10_town_115 C hr hrm th p1 (l_X10_town_115 th p1 k366 n) k366 ih h366 x2 x3 m
set_option maxRecDepth 100000 in
def g_X10_town_368 (th : Nat) (p1 : Int32) (k368 : Int32 → Int32 → MM → Option (Int32 × MM)) (x2 : Int32) (x3 : Int32) (m : MM) : Option (Int32 × MM) :=
  if 14 ≤ x3 then (some (x2, m)) else (bnd ((14 * x2) + x3) (fun y2 => chk (m.K th = 11) (ck m (m.R 1152 th 0) 22 (fun a30 => chk (inb (5 * x3) (m.N a30) = true) (ck m (m.R 1115 th 0) 22 (fun a31 => chk (inb y2 (m.N a31) = true) (bnd (m.sI 22 a31 (Int32.toNatClampNeg y2) (m.I 22 a30 (Int32.toNatClampNeg (5 * x3)))) (fun m16 => ck m16 (m16.R 1152 th 0) 22 (fun a32 => chk (inb ((5 * x3) + 1) (m16.N a32) = true) (ck m16 (m16.R 1116 th 0) 22 (fun a33 => chk (inb y2 (m16.N a33) = true) (bnd (m16.sI 22 a33 (Int32.toNatClampNeg y2) (m16.I 22 a32 (Int32.toNatClampNeg ((5 * x3) + 1)))) (fun m17 => ck m17 (m17.R 1152 th 0) 22 (fun a34 => chk (inb ((5 * x3) + 2) (m17.N a34) = true) (ck m17 (m17.R 1117 th 0) 22 (fun a35 => chk (inb y2 (m17.N a35) = true) (bnd (m17.sI 22 a35 (Int32.toNatClampNeg y2) (m17.I 22 a34 (Int32.toNatClampNeg ((5 * x3) + 2)))) (fun m18 => ck m18 (m18.R 1152 th 0) 22 (fun a36 => chk (inb ((5 * x3) + 3) (m18.N a36) = true) (ck m18 (m18.R 1118 th 0) 22 (fun a37 => chk (inb y2 (m18.N a37) = true) (bnd (m18.sI 22 a37 (Int32.toNatClampNeg y2) (m18.I 22 a36 (Int32.toNatClampNeg ((5 * x3) + 3)))) (fun m19 => ck m19 (m19.R 1152 th 0) 22 (fun a38 => chk (inb ((5 * x3) + 4) (m19.N a38) = true) (ck m19 (m19.R 1119 th 0) 22 (fun a39 => chk (inb y2 (m19.N a39) = true) (bnd (m19.sI 22 a39 (Int32.toNatClampNeg y2) (m19.I 22 a38 (Int32.toNatClampNeg ((5 * x3) + 4)))) (fun m20 => k368 x2 (x3 + 1) m20))))))))))))))))))))))))))))
set_option maxHeartbeats 4000000 in
set_option maxRecDepth 100000 in
theorem s_X10_town_368 {Γ : GX} {E : EX} (C : Cx Γ E cX10_town RX10 5) (hr : Γ.meth.sig.returnType = (some .int)) (hrm : Γ.rm = rmX10_town) (th : Nat) (p1 : Int32) (k368 : Int32 → Int32 → MM → Option (Int32 × MM)) (h368 : ∀ (x2 : Int32) (x3 : Int32) (m : MM), Sm (QM Γ E emI 0 0) Γ E 5 0 0 368 [(0, va_rf (some th)), (1, .int p1), (2, .int x2), (3, .int x3)] [] m (k368 x2 x3 m)) (x2 : Int32) (x3 : Int32) (m : MM) : Sm (QM Γ E emI 0 0) Γ E 5 0 0 368 [(0, va_rf (some th)), (1, .int p1), (2, .int x2), (3, .int x3)] [] m (g_X10_town_368 th p1 k368 x2 x3 m) := by
  unfold g_X10_town_368
  refine z_iload_n C dX10_town_368 rfl 3 rfl ?_
  refine z_bipush (v := 14) C dX10_town_369 (by decide) ?_
  refine z_icmp_ge (tgt := 471) C dX10_town_371 (by decide) (fun c3 => ?_) (fun c3 => ?_)
  · refine z_iload_n C dX10_town_471 rfl 2 rfl ?_
    exact z_iret C hr dX10_town_472
  · refine z_bipush (v := 14) C dX10_town_374 (by decide) ?_
    refine z_iload_n C dX10_town_376 rfl 2 rfl ?_
    refine z_imul C dX10_town_377 ?_
    refine z_iload_n C dX10_town_378 rfl 3 rfl ?_
    refine z_iadd C dX10_town_379 ?_
    refine z_bndI (fun y2 => ?_)
    refine z_istore (i := 4) (L2 := [(4, .int y2), (0, va_rf (some th)), (1, .int p1), (2, .int x2), (3, .int x3)]) C dX10_town_380 (by decide) rfl ?_
    refine z_aload_n C dX10_town_382 rfl 1 rfl ?_
    refine z_chk (fun hk32 => ?_)
    refine z_getR C fl_RX10_53 rfl hk32 dX10_town_383 ?_
    refine z_iload C dX10_town_386 0 rfl ?_
    refine z_aload_n C dX10_town_388 rfl 1 rfl ?_
    refine z_getR C fl_RX10_131 rfl hk32 dX10_town_389 ?_
    refine z_iconst (v := 5) C dX10_town_392 (by decide) ?_
    refine z_iload_n C dX10_town_393 rfl 4 rfl ?_
    refine z_imul C dX10_town_394 ?_
    refine z_ck (fun a30 hr30 hk33 => ?_)
    refine z_chk (fun hj30 => ?_)
    refine z_iald C hr30 hk33 hj30 dX10_town_395 ?_
    refine z_ck (fun a31 hr31 hk34 => ?_)
    refine z_chk (fun hj31 => ?_)
    refine z_iast C hr31 hk34 hj31 dX10_town_396 (fun m16 eK16 eN16 => ?_)
    refine z_aload_n C dX10_town_397 rfl 1 rfl ?_
    refine z_getR C fl_RX10_56 rfl (kfw eK16 hk32) dX10_town_398 ?_
    refine z_iload C dX10_town_401 0 rfl ?_
    refine z_aload_n C dX10_town_403 rfl 1 rfl ?_
    refine z_getR C fl_RX10_131 rfl (kfw eK16 hk32) dX10_town_404 ?_
    refine z_iconst (v := 5) C dX10_town_407 (by decide) ?_
    refine z_iload_n C dX10_town_408 rfl 4 rfl ?_
    refine z_imul C dX10_town_409 ?_
    refine z_iconst (v := 1) C dX10_town_410 (by decide) ?_
    refine z_iadd C dX10_town_411 ?_
    refine z_ck (fun a32 hr32 hk35 => ?_)
    refine z_chk (fun hj32 => ?_)
    refine z_iald C hr32 hk35 hj32 dX10_town_412 ?_
    refine z_ck (fun a33 hr33 hk36 => ?_)
    refine z_chk (fun hj33 => ?_)
    refine z_iast C hr33 hk36 hj33 dX10_town_413 (fun m17 eK17 eN17 => ?_)
    refine z_aload_n C dX10_town_414 rfl 1 rfl ?_
    refine z_getR C fl_RX10_59 rfl (kfw eK17 (kfw eK16 hk32)) dX10_town_415 ?_
    refine z_iload C dX10_town_418 0 rfl ?_
    refine z_aload_n C dX10_town_420 rfl 1 rfl ?_
    refine z_getR C fl_RX10_131 rfl (kfw eK17 (kfw eK16 hk32)) dX10_town_421 ?_
    refine z_iconst (v := 5) C dX10_town_424 (by decide) ?_
    refine z_iload_n C dX10_town_425 rfl 4 rfl ?_
    refine z_imul C dX10_town_426 ?_
    refine z_iconst (v := 2) C dX10_town_427 (by decide) ?_
    refine z_iadd C dX10_town_428 ?_
    refine z_ck (fun a34 hr34 hk37 => ?_)
    refine z_chk (fun hj34 => ?_)
    refine z_iald C hr34 hk37 hj34 dX10_town_429 ?_
    refine z_ck (fun a35 hr35 hk38 => ?_)
    refine z_chk (fun hj35 => ?_)
    refine z_iast C hr35 hk38 hj35 dX10_town_430 (fun m18 eK18 eN18 => ?_)
    refine z_aload_n C dX10_town_431 rfl 1 rfl ?_
    refine z_getR C fl_RX10_62 rfl (kfw eK18 (kfw eK17 (kfw eK16 hk32))) dX10_town_432 ?_
    refine z_iload C dX10_town_435 0 rfl ?_
    refine z_aload_n C dX10_town_437 rfl 1 rfl ?_
    refine z_getR C fl_RX10_131 rfl (kfw eK18 (kfw eK17 (kfw eK16 hk32))) dX10_town_438 ?_
    refine z_iconst (v := 5) C dX10_town_441 (by decide) ?_
    refine z_iload_n C dX10_town_442 rfl 4 rfl ?_
    refine z_imul C dX10_town_443 ?_
    refine z_iconst (v := 3) C dX10_town_444 (by decide) ?_
    refine z_iadd C dX10_town_445 ?_
    refine z_ck (fun a36 hr36 hk39 => ?_)
    refine z_chk (fun hj36 => ?_)
    refine z_iald C hr36 hk39 hj36 dX10_town_446 ?_
    refine z_ck (fun a37 hr37 hk40 => ?_)
    refine z_chk (fun hj37 => ?_)
    refine z_iast C hr37 hk40 hj37 dX10_town_447 (fun m19 eK19 eN19 => ?_)
    refine z_aload_n C dX10_town_448 rfl 1 rfl ?_
    refine z_getR C fl_RX10_65 rfl (kfw eK19 (kfw eK18 (kfw eK17 (kfw eK16 hk32)))) dX10_town_449 ?_
    refine z_iload C dX10_town_452 0 rfl ?_
    refine z_aload_n C dX10_town_454 rfl 1 rfl ?_
    refine z_getR C fl_RX10_131 rfl (kfw eK19 (kfw eK18 (kfw eK17 (kfw eK16 hk32)))) dX10_town_455 ?_
    refine z_iconst (v := 5) C dX10_town_458 (by decide) ?_
    refine z_iload_n C dX10_town_459 rfl 4 rfl ?_
    refine z_imul C dX10_town_460 ?_
    refine z_iconst (v := 4) C dX10_town_461 (by decide) ?_
    refine z_iadd C dX10_town_462 ?_
    refine z_ck (fun a38 hr38 hk41 => ?_)
    refine z_chk (fun hj38 => ?_)
    refine z_iald C hr38 hk41 hj38 dX10_town_463 ?_
    refine z_ck (fun a39 hr39 hk42 => ?_)
    refine z_chk (fun hj39 => ?_)
    refine z_iast C hr39 hk42 hj39 dX10_town_464 (fun m20 eK20 eN20 => ?_)
    refine z_iinc (v := 1) (L2 := [(3, .int (x3 + 1)), (4, .int y2), (0, va_rf (some th)), (1, .int p1), (2, .int x2)]) C dX10_town_465 4 rfl (by decide) (by decide) rfl ?_
    refine z_goto (tgt := 368) C dX10_town_468 (by decide) ?_
    exact z_sub [2, 3, 4, 0] rfl (h368 x2 (x3 + 1) m20)
def l_X10_town_368 (th : Nat) (p1 : Int32) : Nat → Int32 → Int32 → MM → Option (Int32 × MM) := lp (fun _ _ _ => none) (fun k368 => g_X10_town_368 th p1 k368)
theorem t_X10_town_368 {Γ : GX} {E : EX} (C : Cx Γ E cX10_town RX10 5) (hr : Γ.meth.sig.returnType = (some .int)) (hrm : Γ.rm = rmX10_town) (th : Nat) (p1 : Int32) : ∀ (n : Nat) (x2 : Int32) (x3 : Int32) (m : MM), Sm (QM Γ E emI 0 0) Γ E 5 0 0 368 [(0, va_rf (some th)), (1, .int p1), (2, .int x2), (3, .int x3)] [] m (l_X10_town_368 th p1 n x2 x3 m) := by
  intro n
  induction n with
  | zero => intros; exact z_none
  | succ n ih => intro x2 x3 m; exact s_X10_town_368 C hr hrm th p1 (l_X10_town_368 th p1 n) ih x2 x3 m
set_option maxRecDepth 100000 in
def g_X10_town_366 (th : Nat) (p1 : Int32) (x2 : Int32) (m : MM) : Option (Int32 × MM) :=
  l_X10_town_368 th p1 FU x2 0 m
set_option maxHeartbeats 4000000 in
set_option maxRecDepth 100000 in
theorem s_X10_town_366 {Γ : GX} {E : EX} (C : Cx Γ E cX10_town RX10 5) (hr : Γ.meth.sig.returnType = (some .int)) (hrm : Γ.rm = rmX10_town) (th : Nat) (p1 : Int32) (x2 : Int32) (m : MM) : Sm (QM Γ E emI 0 0) Γ E 5 0 0 366 [(0, va_rf (some th)), (1, .int p1), (2, .int x2)] [] m (g_X10_town_366 th p1 x2 m) := by
  unfold g_X10_town_366
  refine z_iconst (v := 0) C dX10_town_366 (by decide) ?_
  refine z_istore_n (i := 3) (L2 := [(3, .int 0), (0, va_rf (some th)), (1, .int p1), (2, .int x2)]) C dX10_town_367 rfl (by decide) rfl ?_
  exact z_sub [1, 2, 3, 0] rfl (t_X10_town_368 C hr hrm th p1 FU x2 0 m)
set_option maxRecDepth 100000 in
def g_X10_town_113 (th : Nat) (p1 : Int32) (x2 : Int32) (m : MM) : Option (Int32 × MM) :=
  l_X10_town_115 th p1 (g_X10_town_366 th p1) FU x2 0 m
set_option maxHeartbeats 4000000 in
set_option maxRecDepth 100000 in
theorem s_X10_town_113 {Γ : GX} {E : EX} (C : Cx Γ E cX10_town RX10 5) (hr : Γ.meth.sig.returnType = (some .int)) (hrm : Γ.rm = rmX10_town) (th : Nat) (p1 : Int32) (x2 : Int32) (m : MM) : Sm (QM Γ E emI 0 0) Γ E 5 0 0 113 [(0, va_rf (some th)), (1, .int p1), (2, .int x2)] [] m (g_X10_town_113 th p1 x2 m) := by
  unfold g_X10_town_113
  refine z_iconst (v := 0) C dX10_town_113 (by decide) ?_
  refine z_istore_n (i := 3) (L2 := [(3, .int 0), (0, va_rf (some th)), (1, .int p1), (2, .int x2)]) C dX10_town_114 rfl (by decide) rfl ?_
  exact z_sub [1, 2, 3, 0] rfl (t_X10_town_115 C hr hrm th p1 (g_X10_town_366 th p1) (s_X10_town_366 C hr hrm th p1) FU x2 0 m)
set_option maxRecDepth 100000 in
def g_X10_town_80 (th : Nat) (p1 : Int32) (x2 : Int32) (s0 : Option Nat) (s1 : Int32) (s2 : Int32) (s3 : Int32) (m : MM) : Option (Int32 × MM) :=
  ck m s0 22 (fun a40 => chk (inb s1 (m.N a40) = true) (bnd (m.sI 22 a40 (Int32.toNatClampNeg s1) (s2 + s3)) (fun m21 => l_X10_town_84 th p1 (g_X10_town_113 th p1) FU x2 0 m21)))
set_option maxHeartbeats 4000000 in
set_option maxRecDepth 100000 in
theorem s_X10_town_80 {Γ : GX} {E : EX} (C : Cx Γ E cX10_town RX10 5) (hr : Γ.meth.sig.returnType = (some .int)) (hrm : Γ.rm = rmX10_town) (th : Nat) (p1 : Int32) (x2 : Int32) (s0 : Option Nat) (s1 : Int32) (s2 : Int32) (s3 : Int32) (m : MM) : Sm (QM Γ E emI 0 0) Γ E 5 0 0 80 [(0, va_rf (some th)), (1, .int p1), (2, .int x2)] [.int s3, .int s2, .int s1, va_rf s0] m (g_X10_town_80 th p1 x2 s0 s1 s2 s3 m) := by
  unfold g_X10_town_80
  refine z_iadd C dX10_town_80 ?_
  refine z_ck (fun a40 hr40 hk43 => ?_)
  refine z_chk (fun hj40 => ?_)
  refine z_iast C hr40 hk43 hj40 dX10_town_81 (fun m21 eK21 eN21 => ?_)
  refine z_iconst (v := 0) C dX10_town_82 (by decide) ?_
  refine z_istore_n (i := 3) (L2 := [(3, .int 0), (0, va_rf (some th)), (1, .int p1), (2, .int x2)]) C dX10_town_83 rfl (by decide) rfl ?_
  exact z_sub [1, 2, 3, 0] rfl (t_X10_town_84 C hr hrm th p1 (g_X10_town_113 th p1) (s_X10_town_113 C hr hrm th p1) FU x2 0 m21)
set_option maxRecDepth 100000 in
def g_X10_town_62 (th : Nat) (p1 : Int32) (s0 : Int32) (m : MM) : Option (Int32 × MM) :=
  chk (m.K th = 11) (ck m (m.R 1105 th 0) 22 (fun a41 => chk (inb 0 (m.N a41) = true) (if p1 = (-1) then (g_X10_town_80 th p1 s0 (m.R 1105 th 0) 0 (m.I 22 a41 (Int32.toNatClampNeg 0)) 1 m) else (g_X10_town_80 th p1 s0 (m.R 1105 th 0) 0 (m.I 22 a41 (Int32.toNatClampNeg 0)) 0 m))))
set_option maxHeartbeats 4000000 in
set_option maxRecDepth 100000 in
theorem s_X10_town_62 {Γ : GX} {E : EX} (C : Cx Γ E cX10_town RX10 5) (hr : Γ.meth.sig.returnType = (some .int)) (hrm : Γ.rm = rmX10_town) (th : Nat) (p1 : Int32) (s0 : Int32) (m : MM) : Sm (QM Γ E emI 0 0) Γ E 5 0 0 62 [(0, va_rf (some th)), (1, .int p1)] [.int s0] m (g_X10_town_62 th p1 s0 m) := by
  unfold g_X10_town_62
  refine z_istore_n (i := 2) (L2 := [(2, .int s0), (0, va_rf (some th)), (1, .int p1)]) C dX10_town_62 rfl (by decide) rfl ?_
  refine z_aload_n C dX10_town_63 rfl 1 rfl ?_
  refine z_chk (fun hk44 => ?_)
  refine z_getR C fl_RX10_23 rfl hk44 dX10_town_64 ?_
  refine z_iconst (v := 0) C dX10_town_67 (by decide) ?_
  refine z_dup2 C rfl (cat_rf _) dX10_town_68 ?_
  refine z_ck (fun a41 hr41 hk45 => ?_)
  refine z_chk (fun hj41 => ?_)
  refine z_iald C hr41 hk45 hj41 dX10_town_69 ?_
  refine z_iload_n C dX10_town_70 rfl 2 rfl ?_
  refine z_iconst (v := (-1)) C dX10_town_71 (by decide) ?_
  refine z_icmp_ne (tgt := 79) C dX10_town_72 (by decide) (fun c4 => ?_) (fun c4 => ?_)
  · refine z_iconst (v := 0) C dX10_town_79 (by decide) ?_
    exact z_sub [1, 2, 0] rfl (s_X10_town_80 C hr hrm th p1 s0 (m.R 1105 th 0) 0 (m.I 22 a41 (Int32.toNatClampNeg 0)) 0 m)
  · refine z_iconst (v := 1) C dX10_town_75 (by decide) ?_
    refine z_goto (tgt := 80) C dX10_town_76 (by decide) ?_
    exact z_sub [1, 2, 0] rfl (s_X10_town_80 C hr hrm th p1 s0 (m.R 1105 th 0) 0 (m.I 22 a41 (Int32.toNatClampNeg 0)) 1 m)
set_option maxRecDepth 100000 in
def g_X10_town_38 (th : Nat) (p1 : Int32) (m : MM) : Option (Int32 × MM) :=
  chk (m.K th = 11) (cal (f_X10_readTown th m) (fun r1 m22 => if r1 = 0 then (some ((-1), m22)) else (if p1 = (-1) then (chk (m22.K th = 11) (ck m22 (m22.R 1105 th 0) 22 (fun a42 => chk (inb 0 (m22.N a42) = true) (g_X10_town_62 th p1 (m22.I 22 a42 (Int32.toNatClampNeg 0)) m22)))) else (g_X10_town_62 th p1 p1 m22))))
set_option maxHeartbeats 4000000 in
set_option maxRecDepth 100000 in
theorem s_X10_town_38 {Γ : GX} {E : EX} (C : Cx Γ E cX10_town RX10 5) (hr : Γ.meth.sig.returnType = (some .int)) (hrm : Γ.rm = rmX10_town) (th : Nat) (p1 : Int32) (m : MM) : Sm (QM Γ E emI 0 0) Γ E 5 0 0 38 [(0, va_rf (some th)), (1, .int p1)] [] m (g_X10_town_38 th p1 m) := by
  unfold g_X10_town_38
  refine z_aload_n C dX10_town_38 rfl 0 rfl ?_
  refine z_chk (fun hk46 => ?_)
  refine z_cVI [] [] C mv_RX10_330 (fun r0 m0 h0 => M_X10_readTown _ _ _ _ _ _ h0) rfl rfl ⟨by rw [hrm]; exact Nat.le_of_ble_eq_true rfl, by rw [hrm]; exact Nat.le_of_ble_eq_true rfl⟩ ⟨by rw [hrm]; exact Nat.le_of_ble_eq_true rfl, by rw [hrm]; exact Nat.le_of_ble_eq_true rfl⟩ rfl hk46 rfl rfl rfl (Nat.le_of_ble_eq_true rfl) dX10_town_39 (fun r1 m22 => ?_)
  refine z_if_ne (tgt := 47) C dX10_town_42 (by decide) (fun c5 => ?_) (fun c5 => ?_)
  · refine z_iload_n C dX10_town_47 rfl 1 rfl ?_
    refine z_iconst (v := (-1)) C dX10_town_48 (by decide) ?_
    refine z_icmp_ne (tgt := 61) C dX10_town_49 (by decide) (fun c6 => ?_) (fun c6 => ?_)
    · refine z_iload_n C dX10_town_61 rfl 1 rfl ?_
      exact z_sub [0, 1] rfl (s_X10_town_62 C hr hrm th p1 p1 m22)
    · refine z_aload_n C dX10_town_52 rfl 0 rfl ?_
      refine z_chk (fun hk47 => ?_)
      refine z_getR C fl_RX10_23 rfl hk47 dX10_town_53 ?_
      refine z_iconst (v := 0) C dX10_town_56 (by decide) ?_
      refine z_ck (fun a42 hr42 hk48 => ?_)
      refine z_chk (fun hj42 => ?_)
      refine z_iald C hr42 hk48 hj42 dX10_town_57 ?_
      refine z_goto (tgt := 62) C dX10_town_58 (by decide) ?_
      exact z_sub [0, 1] rfl (s_X10_town_62 C hr hrm th p1 (m22.I 22 a42 (Int32.toNatClampNeg 0)) m22)
  · refine z_iconst (v := (-1)) C dX10_town_45 (by decide) ?_
    exact z_iret C hr dX10_town_46
set_option maxRecDepth 100000 in
def g_X10_town_0 (th : Nat) (p1 : Int32) (m : MM) : Option (Int32 × MM) :=
  chk (m.K th = 11) (bnd (m.sI 1100 th 0 0) (fun m23 => cal (f_X10_takeTape th m23) (fun r2 m24 => if p1 = (-1) then (chk (m24.K th = 11) (ck m24 (m24.R 1105 th 0) 22 (fun a43 => chk (inb 0 (m24.N a43) = true) (if (m24.I 22 a43 (Int32.toNatClampNeg 0)) = 3 then (some ((-2), m24)) else (g_X10_town_38 th p1 m24))))) else (chk (m24.K th = 11) (cal (f_X10_isTown th p1 m24) (fun r3 m25 => if r3 = 0 then (some ((-2), m25)) else (g_X10_town_38 th p1 m25)))))))
set_option maxHeartbeats 4000000 in
set_option maxRecDepth 100000 in
theorem s_X10_town_0 {Γ : GX} {E : EX} (C : Cx Γ E cX10_town RX10 5) (hr : Γ.meth.sig.returnType = (some .int)) (hrm : Γ.rm = rmX10_town) (th : Nat) (p1 : Int32) (m : MM) : Sm (QM Γ E emI 0 0) Γ E 5 0 0 0 [(0, va_rf (some th)), (1, .int p1)] [] m (g_X10_town_0 th p1 m) := by
  unfold g_X10_town_0
  refine z_aload_n C dX10_town_0 rfl 0 rfl ?_
  refine z_iconst (v := 0) C dX10_town_1 (by decide) ?_
  refine z_chk (fun hk49 => ?_)
  refine z_putI C fl_RX10_180 (fun h => by cases h) rfl hk49 rfl rfl dX10_town_2 (fun m23 eK22 eN22 => ?_)
  refine z_aload_n C dX10_town_5 rfl 0 rfl ?_
  refine z_cVV [] [] C mv_RX10_327 (fun r0 m0 h0 => M_X10_takeTape _ _ _ _ _ _ h0) rfl rfl ⟨by rw [hrm]; exact Nat.le_of_ble_eq_true rfl, by rw [hrm]; exact Nat.le_of_ble_eq_true rfl⟩ ⟨by rw [hrm]; exact Nat.le_of_ble_eq_true rfl, by rw [hrm]; exact Nat.le_of_ble_eq_true rfl⟩ rfl (kfw eK22 hk49) rfl rfl rfl (Nat.le_of_ble_eq_true rfl) dX10_town_6 (fun r2 m24 => ?_)
  refine z_iload_n C dX10_town_9 rfl 1 rfl ?_
  refine z_iconst (v := (-1)) C dX10_town_10 (by decide) ?_
  refine z_icmp_ne (tgt := 27) C dX10_town_11 (by decide) (fun c7 => ?_) (fun c7 => ?_)
  · refine z_aload_n C dX10_town_27 rfl 0 rfl ?_
    refine z_iload_n C dX10_town_28 rfl 1 rfl ?_
    refine z_chk (fun hk50 => ?_)
    refine z_cVI [.int p1] [] C mv_RX10_192 (fun r0 m0 h0 => M_X10_isTown _ _ _ _ _ _ _ h0) rfl rfl ⟨by rw [hrm]; exact Nat.le_of_ble_eq_true rfl, by rw [hrm]; exact Nat.le_of_ble_eq_true rfl⟩ ⟨by rw [hrm]; exact Nat.le_of_ble_eq_true rfl, by rw [hrm]; exact Nat.le_of_ble_eq_true rfl⟩ rfl hk50 rfl rfl rfl (Nat.le_of_ble_eq_true rfl) dX10_town_29 (fun r3 m25 => ?_)
    refine z_if_ne (tgt := 38) C dX10_town_32 (by decide) (fun c8 => ?_) (fun c8 => ?_)
    · exact z_sub [0, 1] rfl (s_X10_town_38 C hr hrm th p1 m25)
    · refine z_bipush (v := (-2)) C dX10_town_35 (by decide) ?_
      exact z_iret C hr dX10_town_37
  · refine z_aload_n C dX10_town_14 rfl 0 rfl ?_
    refine z_chk (fun hk51 => ?_)
    refine z_getR C fl_RX10_23 rfl hk51 dX10_town_15 ?_
    refine z_iconst (v := 0) C dX10_town_18 (by decide) ?_
    refine z_ck (fun a43 hr43 hk52 => ?_)
    refine z_chk (fun hj43 => ?_)
    refine z_iald C hr43 hk52 hj43 dX10_town_19 ?_
    refine z_iconst (v := 3) C dX10_town_20 (by decide) ?_
    refine z_icmp_ne (tgt := 38) C dX10_town_21 (by decide) (fun c9 => ?_) (fun c9 => ?_)
    · exact z_sub [0, 1] rfl (s_X10_town_38 C hr hrm th p1 m24)
    · refine z_goto (tgt := 35) C dX10_town_24 (by decide) ?_
      refine z_bipush (v := (-2)) C dX10_town_35 (by decide) ?_
      exact z_iret C hr dX10_town_37
def f_X10_town (th : Nat) (p1 : Int32) (m : MM) : Option (Int32 × MM) := g_X10_town_0 th p1 m
theorem M_X10_town (l : Launch) (E : EX) (th : Nat) (p1 : Int32) (m : MM) (r : Int32) (m2 : MM) (h : f_X10_town th p1 m = some (r, m2)) : Met l yX10_town (.code yX10_town cX10_town 5 (some .int) :: TB) rmX10_town (va_Pc [.ref th, .int p1] (St E m)) (QR E (emI r) m2) 0 0 (AA E) :=
  met_of (em := emI) (plainFor_of_name rfl) (Nat.le_of_ble_eq_true rfl) (L0 := [(0, va_rf (some th)), (1, .int p1)]) rfl (fun Γ _ hrm C hr hn => s_X10_town_0 C hr hrm th p1 m) h

theorem dX10_ruleLine_0 : decode cX10_ruleLine 0 = .ok (.aload_n 0, 1) := by decide +kernel
theorem dX10_ruleLine_1 : decode cX10_ruleLine 1 = .ok (.getfield 333, 3) := by decide +kernel
theorem dX10_ruleLine_4 : decode cX10_ruleLine 4 = .ok (.bipush 10, 2) := by decide +kernel
theorem dX10_ruleLine_6 : decode cX10_ruleLine 6 = .ok (.if_icmp .ne 9, 3) := by decide +kernel
theorem dX10_ruleLine_9 : decode cX10_ruleLine 9 = .ok (.aload_n 0, 1) := by decide +kernel
theorem dX10_ruleLine_10 : decode cX10_ruleLine 10 = .ok (.iconst 3, 1) := by decide +kernel
theorem dX10_ruleLine_11 : decode cX10_ruleLine 11 = .ok (.iload_n 2, 1) := by decide +kernel
theorem dX10_ruleLine_12 : decode cX10_ruleLine 12 = .ok (.invokevirtual 243, 3) := by decide +kernel
theorem dX10_ruleLine_15 : decode cX10_ruleLine 15 = .ok (.aload_n 0, 1) := by decide +kernel
theorem dX10_ruleLine_16 : decode cX10_ruleLine 16 = .ok (.invokevirtual 251, 3) := by decide +kernel
theorem dX10_ruleLine_19 : decode cX10_ruleLine 19 = .ok (.aload_n 0, 1) := by decide +kernel
theorem dX10_ruleLine_20 : decode cX10_ruleLine 20 = .ok (.iconst 0, 1) := by decide +kernel
theorem dX10_ruleLine_21 : decode cX10_ruleLine 21 = .ok (.iconst 5, 1) := by decide +kernel
theorem dX10_ruleLine_22 : decode cX10_ruleLine 22 = .ok (.invokevirtual 254, 3) := by decide +kernel
theorem dX10_ruleLine_25 : decode cX10_ruleLine 25 = .ok (.ifCond .eq 22, 3) := by decide +kernel
theorem dX10_ruleLine_28 : decode cX10_ruleLine 28 = .ok (.aload_n 0, 1) := by decide +kernel
theorem dX10_ruleLine_29 : decode cX10_ruleLine 29 = .ok (.iconst 0, 1) := by decide +kernel
theorem dX10_ruleLine_30 : decode cX10_ruleLine 30 = .ok (.iconst 5, 1) := by decide +kernel
theorem dX10_ruleLine_31 : decode cX10_ruleLine 31 = .ok (.invokevirtual 254, 3) := by decide +kernel
theorem dX10_ruleLine_34 : decode cX10_ruleLine 34 = .ok (.ifCond .eq 13, 3) := by decide +kernel
theorem dX10_ruleLine_37 : decode cX10_ruleLine 37 = .ok (.aload_n 0, 1) := by decide +kernel
theorem dX10_ruleLine_38 : decode cX10_ruleLine 38 = .ok (.iconst 1, 1) := by decide +kernel
theorem dX10_ruleLine_39 : decode cX10_ruleLine 39 = .ok (.bipush 12, 2) := by decide +kernel
theorem dX10_ruleLine_41 : decode cX10_ruleLine 41 = .ok (.invokevirtual 254, 3) := by decide +kernel
theorem dX10_ruleLine_44 : decode cX10_ruleLine 44 = .ok (.ifCond .ne 5, 3) := by decide +kernel
theorem dX10_ruleLine_47 : decode cX10_ruleLine 47 = .ok (.iconst 0, 1) := by decide +kernel
theorem dX10_ruleLine_48 : decode cX10_ruleLine 48 = .ok (.ireturn, 1) := by decide +kernel
theorem dX10_ruleLine_49 : decode cX10_ruleLine 49 = .ok (.iconst 5, 1) := by decide +kernel
theorem dX10_ruleLine_50 : decode cX10_ruleLine 50 = .ok (.aload_n 0, 1) := by decide +kernel
theorem dX10_ruleLine_51 : decode cX10_ruleLine 51 = .ok (.getfield 333, 3) := by decide +kernel
theorem dX10_ruleLine_54 : decode cX10_ruleLine 54 = .ok (.imul, 1) := by decide +kernel
theorem dX10_ruleLine_55 : decode cX10_ruleLine 55 = .ok (.istore_n 3, 1) := by decide +kernel
theorem dX10_ruleLine_56 : decode cX10_ruleLine 56 = .ok (.aload_n 0, 1) := by decide +kernel
theorem dX10_ruleLine_57 : decode cX10_ruleLine 57 = .ok (.getfield 140, 3) := by decide +kernel
theorem dX10_ruleLine_60 : decode cX10_ruleLine 60 = .ok (.iload_n 3, 1) := by decide +kernel
theorem dX10_ruleLine_61 : decode cX10_ruleLine 61 = .ok (.iload_n 1, 1) := by decide +kernel
theorem dX10_ruleLine_62 : decode cX10_ruleLine 62 = .ok (.iastore, 1) := by decide +kernel
theorem dX10_ruleLine_63 : decode cX10_ruleLine 63 = .ok (.aload_n 0, 1) := by decide +kernel
theorem dX10_ruleLine_64 : decode cX10_ruleLine 64 = .ok (.getfield 140, 3) := by decide +kernel
theorem dX10_ruleLine_67 : decode cX10_ruleLine 67 = .ok (.iload_n 3, 1) := by decide +kernel
theorem dX10_ruleLine_68 : decode cX10_ruleLine 68 = .ok (.iconst 1, 1) := by decide +kernel
theorem dX10_ruleLine_69 : decode cX10_ruleLine 69 = .ok (.iadd, 1) := by decide +kernel
theorem dX10_ruleLine_70 : decode cX10_ruleLine 70 = .ok (.aload_n 0, 1) := by decide +kernel
theorem dX10_ruleLine_71 : decode cX10_ruleLine 71 = .ok (.getfield 122, 3) := by decide +kernel
theorem dX10_ruleLine_74 : decode cX10_ruleLine 74 = .ok (.iconst 0, 1) := by decide +kernel
theorem dX10_ruleLine_75 : decode cX10_ruleLine 75 = .ok (.iaload, 1) := by decide +kernel
theorem dX10_ruleLine_76 : decode cX10_ruleLine 76 = .ok (.iastore, 1) := by decide +kernel
theorem dX10_ruleLine_77 : decode cX10_ruleLine 77 = .ok (.aload_n 0, 1) := by decide +kernel
theorem dX10_ruleLine_78 : decode cX10_ruleLine 78 = .ok (.getfield 140, 3) := by decide +kernel
theorem dX10_ruleLine_81 : decode cX10_ruleLine 81 = .ok (.iload_n 3, 1) := by decide +kernel
theorem dX10_ruleLine_82 : decode cX10_ruleLine 82 = .ok (.iconst 2, 1) := by decide +kernel
theorem dX10_ruleLine_83 : decode cX10_ruleLine 83 = .ok (.iadd, 1) := by decide +kernel
theorem dX10_ruleLine_84 : decode cX10_ruleLine 84 = .ok (.aload_n 0, 1) := by decide +kernel
theorem dX10_ruleLine_85 : decode cX10_ruleLine 85 = .ok (.getfield 122, 3) := by decide +kernel
theorem dX10_ruleLine_88 : decode cX10_ruleLine 88 = .ok (.iconst 1, 1) := by decide +kernel
theorem dX10_ruleLine_89 : decode cX10_ruleLine 89 = .ok (.iaload, 1) := by decide +kernel
theorem dX10_ruleLine_90 : decode cX10_ruleLine 90 = .ok (.iastore, 1) := by decide +kernel
theorem dX10_ruleLine_91 : decode cX10_ruleLine 91 = .ok (.aload_n 0, 1) := by decide +kernel
theorem dX10_ruleLine_92 : decode cX10_ruleLine 92 = .ok (.getfield 140, 3) := by decide +kernel
theorem dX10_ruleLine_95 : decode cX10_ruleLine 95 = .ok (.iload_n 3, 1) := by decide +kernel
theorem dX10_ruleLine_96 : decode cX10_ruleLine 96 = .ok (.iconst 3, 1) := by decide +kernel
theorem dX10_ruleLine_97 : decode cX10_ruleLine 97 = .ok (.iadd, 1) := by decide +kernel
theorem dX10_ruleLine_98 : decode cX10_ruleLine 98 = .ok (.aload_n 0, 1) := by decide +kernel
theorem dX10_ruleLine_99 : decode cX10_ruleLine 99 = .ok (.getfield 122, 3) := by decide +kernel
theorem dX10_ruleLine_102 : decode cX10_ruleLine 102 = .ok (.iconst 2, 1) := by decide +kernel
theorem dX10_ruleLine_103 : decode cX10_ruleLine 103 = .ok (.iaload, 1) := by decide +kernel
theorem dX10_ruleLine_104 : decode cX10_ruleLine 104 = .ok (.iastore, 1) := by decide +kernel
theorem dX10_ruleLine_105 : decode cX10_ruleLine 105 = .ok (.aload_n 0, 1) := by decide +kernel
theorem dX10_ruleLine_106 : decode cX10_ruleLine 106 = .ok (.getfield 140, 3) := by decide +kernel
theorem dX10_ruleLine_109 : decode cX10_ruleLine 109 = .ok (.iload_n 3, 1) := by decide +kernel
theorem dX10_ruleLine_110 : decode cX10_ruleLine 110 = .ok (.iconst 4, 1) := by decide +kernel
theorem dX10_ruleLine_111 : decode cX10_ruleLine 111 = .ok (.iadd, 1) := by decide +kernel
theorem dX10_ruleLine_112 : decode cX10_ruleLine 112 = .ok (.aload_n 0, 1) := by decide +kernel
theorem dX10_ruleLine_113 : decode cX10_ruleLine 113 = .ok (.ldc2_w 273, 3) := by decide +kernel
theorem dX10_ruleLine_116 : decode cX10_ruleLine 116 = .ok (.invokevirtual 263, 3) := by decide +kernel
theorem dX10_ruleLine_119 : decode cX10_ruleLine 119 = .ok (.ifCond .eq 7, 3) := by decide +kernel
theorem dX10_ruleLine_122 : decode cX10_ruleLine 122 = .ok (.iconst 1, 1) := by decide +kernel
theorem dX10_ruleLine_123 : decode cX10_ruleLine 123 = .ok (.goto 4, 3) := by decide +kernel
theorem dX10_ruleLine_126 : decode cX10_ruleLine 126 = .ok (.iconst 0, 1) := by decide +kernel
theorem dX10_ruleLine_127 : decode cX10_ruleLine 127 = .ok (.iastore, 1) := by decide +kernel
theorem dX10_ruleLine_128 : decode cX10_ruleLine 128 = .ok (.aload_n 0, 1) := by decide +kernel
theorem dX10_ruleLine_129 : decode cX10_ruleLine 129 = .ok (.ldc2_w 273, 3) := by decide +kernel
theorem dX10_ruleLine_132 : decode cX10_ruleLine 132 = .ok (.invokevirtual 263, 3) := by decide +kernel
theorem dX10_ruleLine_135 : decode cX10_ruleLine 135 = .ok (.ifCond .eq 7, 3) := by decide +kernel
theorem dX10_ruleLine_138 : decode cX10_ruleLine 138 = .ok (.aload_n 0, 1) := by decide +kernel
theorem dX10_ruleLine_139 : decode cX10_ruleLine 139 = .ok (.invokevirtual 251, 3) := by decide +kernel
theorem dX10_ruleLine_142 : decode cX10_ruleLine 142 = .ok (.aload_n 0, 1) := by decide +kernel
theorem dX10_ruleLine_143 : decode cX10_ruleLine 143 = .ok (.dup, 1) := by decide +kernel
theorem dX10_ruleLine_144 : decode cX10_ruleLine 144 = .ok (.getfield 333, 3) := by decide +kernel
theorem dX10_ruleLine_147 : decode cX10_ruleLine 147 = .ok (.aload_n 0, 1) := by decide +kernel
theorem dX10_ruleLine_148 : decode cX10_ruleLine 148 = .ok (.getfield 333, 3) := by decide +kernel
theorem dX10_ruleLine_151 : decode cX10_ruleLine 151 = .ok (.bipush 10, 2) := by decide +kernel
theorem dX10_ruleLine_153 : decode cX10_ruleLine 153 = .ok (.if_icmp .ge 7, 3) := by decide +kernel
theorem dX10_ruleLine_156 : decode cX10_ruleLine 156 = .ok (.iconst 1, 1) := by decide +kernel
theorem dX10_ruleLine_157 : decode cX10_ruleLine 157 = .ok (.goto 4, 3) := by decide +kernel
theorem dX10_ruleLine_160 : decode cX10_ruleLine 160 = .ok (.iconst 0, 1) := by decide +kernel
theorem dX10_ruleLine_161 : decode cX10_ruleLine 161 = .ok (.iadd, 1) := by decide +kernel
theorem dX10_ruleLine_162 : decode cX10_ruleLine 162 = .ok (.putfield 333, 3) := by decide +kernel
theorem dX10_ruleLine_165 : decode cX10_ruleLine 165 = .ok (.iconst 1, 1) := by decide +kernel
theorem dX10_ruleLine_166 : decode cX10_ruleLine 166 = .ok (.ireturn, 1) := by decide +kernel
def rmX10_ruleLine : Room := { frames := 3, cells := 0, slots := 0, locals := 66 }
set_option maxRecDepth 100000 in
def g_X10_ruleLine_142 (th : Nat) (p1 : Int32) (p2 : Int32) (m : MM) : Option (Int32 × MM) :=
  chk (m.K th = 11) (if 10 ≤ (m.I 1155 th 0) then (bnd (m.sI 1155 th 0 ((m.I 1155 th 0) + 0)) (fun m1 => some (1, m1))) else (bnd (m.sI 1155 th 0 ((m.I 1155 th 0) + 1)) (fun m2 => some (1, m2))))
set_option maxHeartbeats 4000000 in
set_option maxRecDepth 100000 in
theorem s_X10_ruleLine_142 {Γ : GX} {E : EX} (C : Cx Γ E cX10_ruleLine RX10 4) (hr : Γ.meth.sig.returnType = (some .boolean)) (hrm : Γ.rm = rmX10_ruleLine) (th : Nat) (p1 : Int32) (p2 : Int32) (m : MM) : Sm (QM Γ E emI 0 0) Γ E 4 0 0 142 [(0, va_rf (some th)), (1, .int p1), (2, .int p2)] [] m (g_X10_ruleLine_142 th p1 p2 m) := by
  unfold g_X10_ruleLine_142
  refine z_aload_n C dX10_ruleLine_142 rfl 0 rfl ?_
  refine z_dup C rfl dX10_ruleLine_143 ?_
  refine z_chk (fun hk1 => ?_)
  refine z_getI C fl_RX10_333 rfl hk1 dX10_ruleLine_144 ?_
  refine z_aload_n C dX10_ruleLine_147 rfl 0 rfl ?_
  refine z_getI C fl_RX10_333 rfl hk1 dX10_ruleLine_148 ?_
  refine z_bipush (v := 10) C dX10_ruleLine_151 (by decide) ?_
  refine z_icmp_ge (tgt := 160) C dX10_ruleLine_153 (by decide) (fun c1 => ?_) (fun c1 => ?_)
  · refine z_iconst (v := 0) C dX10_ruleLine_160 (by decide) ?_
    refine z_iadd C dX10_ruleLine_161 ?_
    refine z_putI C fl_RX10_333 (fun h => by cases h) rfl hk1 rfl rfl dX10_ruleLine_162 (fun m1 eK1 eN1 => ?_)
    refine z_iconst (v := 1) C dX10_ruleLine_165 (by decide) ?_
    exact z_zret C hr rfl dX10_ruleLine_166
  · refine z_iconst (v := 1) C dX10_ruleLine_156 (by decide) ?_
    refine z_goto (tgt := 161) C dX10_ruleLine_157 (by decide) ?_
    refine z_iadd C dX10_ruleLine_161 ?_
    refine z_putI C fl_RX10_333 (fun h => by cases h) rfl hk1 rfl rfl dX10_ruleLine_162 (fun m2 eK2 eN2 => ?_)
    refine z_iconst (v := 1) C dX10_ruleLine_165 (by decide) ?_
    exact z_zret C hr rfl dX10_ruleLine_166
set_option maxRecDepth 100000 in
def g_X10_ruleLine_127 (th : Nat) (p1 : Int32) (p2 : Int32) (s0 : Option Nat) (s1 : Int32) (s2 : Int32) (m : MM) : Option (Int32 × MM) :=
  ck m s0 22 (fun a1 => chk (inb s1 (m.N a1) = true) (bnd (m.sI 22 a1 (Int32.toNatClampNeg s1) s2) (fun m3 => chk (m3.K th = 11) (cal (f_X10_isWord th 2002873452 m3) (fun r1 m4 => if r1 = 0 then (g_X10_ruleLine_142 th p1 p2 m4) else (chk (m4.K th = 11) (cal (f_X10_token th m4) (fun r2 m5 => g_X10_ruleLine_142 th p1 p2 m5))))))))
set_option maxHeartbeats 4000000 in
set_option maxRecDepth 100000 in
theorem s_X10_ruleLine_127 {Γ : GX} {E : EX} (C : Cx Γ E cX10_ruleLine RX10 4) (hr : Γ.meth.sig.returnType = (some .boolean)) (hrm : Γ.rm = rmX10_ruleLine) (th : Nat) (p1 : Int32) (p2 : Int32) (s0 : Option Nat) (s1 : Int32) (s2 : Int32) (m : MM) : Sm (QM Γ E emI 0 0) Γ E 4 0 0 127 [(0, va_rf (some th)), (1, .int p1), (2, .int p2)] [.int s2, .int s1, va_rf s0] m (g_X10_ruleLine_127 th p1 p2 s0 s1 s2 m) := by
  unfold g_X10_ruleLine_127
  refine z_ck (fun a1 hr1 hk2 => ?_)
  refine z_chk (fun hj1 => ?_)
  refine z_iast C hr1 hk2 hj1 dX10_ruleLine_127 (fun m3 eK3 eN3 => ?_)
  refine z_aload_n C dX10_ruleLine_128 rfl 0 rfl ?_
  refine z_ldc2 C dX10_ruleLine_129 kl_RX10_273 ?_
  refine z_chk (fun hk3 => ?_)
  refine z_cVI [.long 2002873452] [] C mv_RX10_263 (fun r0 m0 h0 => M_X10_isWord _ _ _ _ _ _ _ h0) rfl rfl ⟨by rw [hrm]; exact Nat.le_of_ble_eq_true rfl, by rw [hrm]; exact Nat.le_of_ble_eq_true rfl⟩ ⟨by rw [hrm]; exact Nat.le_of_ble_eq_true rfl, by rw [hrm]; exact Nat.le_of_ble_eq_true rfl⟩ rfl hk3 rfl rfl rfl (Nat.le_of_ble_eq_true rfl) dX10_ruleLine_132 (fun r1 m4 => ?_)
  refine z_if_eq (tgt := 142) C dX10_ruleLine_135 (by decide) (fun c2 => ?_) (fun c2 => ?_)
  · exact z_sub [0, 1, 2] rfl (s_X10_ruleLine_142 C hr hrm th p1 p2 m4)
  · refine z_aload_n C dX10_ruleLine_138 rfl 0 rfl ?_
    refine z_chk (fun hk4 => ?_)
    refine z_cVV [] [] C mv_RX10_251 (fun r0 m0 h0 => M_X10_token _ _ _ _ _ _ h0) rfl rfl ⟨by rw [hrm]; exact Nat.le_of_ble_eq_true rfl, by rw [hrm]; exact Nat.le_of_ble_eq_true rfl⟩ ⟨by rw [hrm]; exact Nat.le_of_ble_eq_true rfl, by rw [hrm]; exact Nat.le_of_ble_eq_true rfl⟩ rfl hk4 rfl rfl rfl (Nat.le_of_ble_eq_true rfl) dX10_ruleLine_139 (fun r2 m5 => ?_)
    exact z_sub [0, 1, 2] rfl (s_X10_ruleLine_142 C hr hrm th p1 p2 m5)
set_option maxRecDepth 100000 in
def g_X10_ruleLine_15 (th : Nat) (p1 : Int32) (p2 : Int32) (m : MM) : Option (Int32 × MM) :=
  chk (m.K th = 11) (cal (f_X10_token th m) (fun r3 m6 => chk (m6.K th = 11) (cal (f_X10_number th 0 5 m6) (fun r4 m7 => if r4 = 0 then (some (0, m7)) else (chk (m7.K th = 11) (cal (f_X10_number th 0 5 m7) (fun r5 m8 => if r5 = 0 then (some (0, m8)) else (chk (m8.K th = 11) (cal (f_X10_number th 1 12 m8) (fun r6 m9 => if r6 = 0 then (some (0, m9)) else (chk (m9.K th = 11) (bnd (5 * (m9.I 1155 th 0)) (fun y1 => ck m9 (m9.R 1159 th 0) 22 (fun a2 => chk (inb y1 (m9.N a2) = true) (bnd (m9.sI 22 a2 (Int32.toNatClampNeg y1) p1) (fun m10 => ck m10 (m10.R 1147 th 0) 22 (fun a3 => chk (inb 0 (m10.N a3) = true) (ck m10 (m10.R 1159 th 0) 22 (fun a4 => chk (inb (y1 + 1) (m10.N a4) = true) (bnd (m10.sI 22 a4 (Int32.toNatClampNeg (y1 + 1)) (m10.I 22 a3 (Int32.toNatClampNeg 0))) (fun m11 => ck m11 (m11.R 1147 th 0) 22 (fun a5 => chk (inb 1 (m11.N a5) = true) (ck m11 (m11.R 1159 th 0) 22 (fun a6 => chk (inb (y1 + 2) (m11.N a6) = true) (bnd (m11.sI 22 a6 (Int32.toNatClampNeg (y1 + 2)) (m11.I 22 a5 (Int32.toNatClampNeg 1))) (fun m12 => ck m12 (m12.R 1147 th 0) 22 (fun a7 => chk (inb 2 (m12.N a7) = true) (ck m12 (m12.R 1159 th 0) 22 (fun a8 => chk (inb (y1 + 3) (m12.N a8) = true) (bnd (m12.sI 22 a8 (Int32.toNatClampNeg (y1 + 3)) (m12.I 22 a7 (Int32.toNatClampNeg 2))) (fun m13 => cal (f_X10_isWord th 2002873452 m13) (fun r7 m14 => if r7 = 0 then (g_X10_ruleLine_127 th p1 p2 (m13.R 1159 th 0) (y1 + 4) 0 m14) else (g_X10_ruleLine_127 th p1 p2 (m13.R 1159 th 0) (y1 + 4) 1 m14)))))))))))))))))))))))))))))))))
set_option maxHeartbeats 4000000 in
set_option maxRecDepth 100000 in
theorem s_X10_ruleLine_15 {Γ : GX} {E : EX} (C : Cx Γ E cX10_ruleLine RX10 4) (hr : Γ.meth.sig.returnType = (some .boolean)) (hrm : Γ.rm = rmX10_ruleLine) (th : Nat) (p1 : Int32) (p2 : Int32) (m : MM) : Sm (QM Γ E emI 0 0) Γ E 4 0 0 15 [(0, va_rf (some th)), (1, .int p1), (2, .int p2)] [] m (g_X10_ruleLine_15 th p1 p2 m) := by
  unfold g_X10_ruleLine_15
  refine z_aload_n C dX10_ruleLine_15 rfl 0 rfl ?_
  refine z_chk (fun hk5 => ?_)
  refine z_cVV [] [] C mv_RX10_251 (fun r0 m0 h0 => M_X10_token _ _ _ _ _ _ h0) rfl rfl ⟨by rw [hrm]; exact Nat.le_of_ble_eq_true rfl, by rw [hrm]; exact Nat.le_of_ble_eq_true rfl⟩ ⟨by rw [hrm]; exact Nat.le_of_ble_eq_true rfl, by rw [hrm]; exact Nat.le_of_ble_eq_true rfl⟩ rfl hk5 rfl rfl rfl (Nat.le_of_ble_eq_true rfl) dX10_ruleLine_16 (fun r3 m6 => ?_)
  refine z_aload_n C dX10_ruleLine_19 rfl 0 rfl ?_
  refine z_iconst (v := 0) C dX10_ruleLine_20 (by decide) ?_
  refine z_iconst (v := 5) C dX10_ruleLine_21 (by decide) ?_
  refine z_chk (fun hk6 => ?_)
  refine z_cVI [.int 0, .int 5] [] C mv_RX10_254 (fun r0 m0 h0 => M_X10_number _ _ _ _ _ _ _ _ h0) rfl rfl ⟨by rw [hrm]; exact Nat.le_of_ble_eq_true rfl, by rw [hrm]; exact Nat.le_of_ble_eq_true rfl⟩ ⟨by rw [hrm]; exact Nat.le_of_ble_eq_true rfl, by rw [hrm]; exact Nat.le_of_ble_eq_true rfl⟩ rfl hk6 rfl rfl rfl (Nat.le_of_ble_eq_true rfl) dX10_ruleLine_22 (fun r4 m7 => ?_)
  refine z_if_eq (tgt := 47) C dX10_ruleLine_25 (by decide) (fun c3 => ?_) (fun c3 => ?_)
  · refine z_iconst (v := 0) C dX10_ruleLine_47 (by decide) ?_
    exact z_zret C hr rfl dX10_ruleLine_48
  · refine z_aload_n C dX10_ruleLine_28 rfl 0 rfl ?_
    refine z_iconst (v := 0) C dX10_ruleLine_29 (by decide) ?_
    refine z_iconst (v := 5) C dX10_ruleLine_30 (by decide) ?_
    refine z_chk (fun hk7 => ?_)
    refine z_cVI [.int 0, .int 5] [] C mv_RX10_254 (fun r0 m0 h0 => M_X10_number _ _ _ _ _ _ _ _ h0) rfl rfl ⟨by rw [hrm]; exact Nat.le_of_ble_eq_true rfl, by rw [hrm]; exact Nat.le_of_ble_eq_true rfl⟩ ⟨by rw [hrm]; exact Nat.le_of_ble_eq_true rfl, by rw [hrm]; exact Nat.le_of_ble_eq_true rfl⟩ rfl hk7 rfl rfl rfl (Nat.le_of_ble_eq_true rfl) dX10_ruleLine_31 (fun r5 m8 => ?_)
    refine z_if_eq (tgt := 47) C dX10_ruleLine_34 (by decide) (fun c4 => ?_) (fun c4 => ?_)
    · refine z_iconst (v := 0) C dX10_ruleLine_47 (by decide) ?_
      exact z_zret C hr rfl dX10_ruleLine_48
    · refine z_aload_n C dX10_ruleLine_37 rfl 0 rfl ?_
      refine z_iconst (v := 1) C dX10_ruleLine_38 (by decide) ?_
      refine z_bipush (v := 12) C dX10_ruleLine_39 (by decide) ?_
      refine z_chk (fun hk8 => ?_)
      refine z_cVI [.int 1, .int 12] [] C mv_RX10_254 (fun r0 m0 h0 => M_X10_number _ _ _ _ _ _ _ _ h0) rfl rfl ⟨by rw [hrm]; exact Nat.le_of_ble_eq_true rfl, by rw [hrm]; exact Nat.le_of_ble_eq_true rfl⟩ ⟨by rw [hrm]; exact Nat.le_of_ble_eq_true rfl, by rw [hrm]; exact Nat.le_of_ble_eq_true rfl⟩ rfl hk8 rfl rfl rfl (Nat.le_of_ble_eq_true rfl) dX10_ruleLine_41 (fun r6 m9 => ?_)
      refine z_if_ne (tgt := 49) C dX10_ruleLine_44 (by decide) (fun c5 => ?_) (fun c5 => ?_)
      · refine z_iconst (v := 5) C dX10_ruleLine_49 (by decide) ?_
        refine z_aload_n C dX10_ruleLine_50 rfl 0 rfl ?_
        refine z_chk (fun hk9 => ?_)
        refine z_getI C fl_RX10_333 rfl hk9 dX10_ruleLine_51 ?_
        refine z_imul C dX10_ruleLine_54 ?_
        refine z_bndI (fun y1 => ?_)
        refine z_istore_n (i := 3) (L2 := [(3, .int y1), (0, va_rf (some th)), (1, .int p1), (2, .int p2)]) C dX10_ruleLine_55 rfl (by decide) rfl ?_
        refine z_aload_n C dX10_ruleLine_56 rfl 1 rfl ?_
        refine z_getR C fl_RX10_140 rfl hk9 dX10_ruleLine_57 ?_
        refine z_iload_n C dX10_ruleLine_60 rfl 0 rfl ?_
        refine z_iload_n C dX10_ruleLine_61 rfl 2 rfl ?_
        refine z_ck (fun a2 hr2 hk10 => ?_)
        refine z_chk (fun hj2 => ?_)
        refine z_iast C hr2 hk10 hj2 dX10_ruleLine_62 (fun m10 eK4 eN4 => ?_)
        refine z_aload_n C dX10_ruleLine_63 rfl 1 rfl ?_
        refine z_getR C fl_RX10_140 rfl (kfw eK4 hk9) dX10_ruleLine_64 ?_
        refine z_iload_n C dX10_ruleLine_67 rfl 0 rfl ?_
        refine z_iconst (v := 1) C dX10_ruleLine_68 (by decide) ?_
        refine z_iadd C dX10_ruleLine_69 ?_
        refine z_aload_n C dX10_ruleLine_70 rfl 1 rfl ?_
        refine z_getR C fl_RX10_122 rfl (kfw eK4 hk9) dX10_ruleLine_71 ?_
        refine z_iconst (v := 0) C dX10_ruleLine_74 (by decide) ?_
        refine z_ck (fun a3 hr3 hk11 => ?_)
        refine z_chk (fun hj3 => ?_)
        refine z_iald C hr3 hk11 hj3 dX10_ruleLine_75 ?_
        refine z_ck (fun a4 hr4 hk12 => ?_)
        refine z_chk (fun hj4 => ?_)
        refine z_iast C hr4 hk12 hj4 dX10_ruleLine_76 (fun m11 eK5 eN5 => ?_)
        refine z_aload_n C dX10_ruleLine_77 rfl 1 rfl ?_
        refine z_getR C fl_RX10_140 rfl (kfw eK5 (kfw eK4 hk9)) dX10_ruleLine_78 ?_
        refine z_iload_n C dX10_ruleLine_81 rfl 0 rfl ?_
        refine z_iconst (v := 2) C dX10_ruleLine_82 (by decide) ?_
        refine z_iadd C dX10_ruleLine_83 ?_
        refine z_aload_n C dX10_ruleLine_84 rfl 1 rfl ?_
        refine z_getR C fl_RX10_122 rfl (kfw eK5 (kfw eK4 hk9)) dX10_ruleLine_85 ?_
        refine z_iconst (v := 1) C dX10_ruleLine_88 (by decide) ?_
        refine z_ck (fun a5 hr5 hk13 => ?_)
        refine z_chk (fun hj5 => ?_)
        refine z_iald C hr5 hk13 hj5 dX10_ruleLine_89 ?_
        refine z_ck (fun a6 hr6 hk14 => ?_)
        refine z_chk (fun hj6 => ?_)
        refine z_iast C hr6 hk14 hj6 dX10_ruleLine_90 (fun m12 eK6 eN6 => ?_)
        refine z_aload_n C dX10_ruleLine_91 rfl 1 rfl ?_
        refine z_getR C fl_RX10_140 rfl (kfw eK6 (kfw eK5 (kfw eK4 hk9))) dX10_ruleLine_92 ?_
        refine z_iload_n C dX10_ruleLine_95 rfl 0 rfl ?_
        refine z_iconst (v := 3) C dX10_ruleLine_96 (by decide) ?_
        refine z_iadd C dX10_ruleLine_97 ?_
        refine z_aload_n C dX10_ruleLine_98 rfl 1 rfl ?_
        refine z_getR C fl_RX10_122 rfl (kfw eK6 (kfw eK5 (kfw eK4 hk9))) dX10_ruleLine_99 ?_
        refine z_iconst (v := 2) C dX10_ruleLine_102 (by decide) ?_
        refine z_ck (fun a7 hr7 hk15 => ?_)
        refine z_chk (fun hj7 => ?_)
        refine z_iald C hr7 hk15 hj7 dX10_ruleLine_103 ?_
        refine z_ck (fun a8 hr8 hk16 => ?_)
        refine z_chk (fun hj8 => ?_)
        refine z_iast C hr8 hk16 hj8 dX10_ruleLine_104 (fun m13 eK7 eN7 => ?_)
        refine z_aload_n C dX10_ruleLine_105 rfl 1 rfl ?_
        refine z_getR C fl_RX10_140 rfl (kfw eK7 (kfw eK6 (kfw eK5 (kfw eK4 hk9)))) dX10_ruleLine_106 ?_
        refine z_iload_n C dX10_ruleLine_109 rfl 0 rfl ?_
        refine z_iconst (v := 4) C dX10_ruleLine_110 (by decide) ?_
        refine z_iadd C dX10_ruleLine_111 ?_
        refine z_aload_n C dX10_ruleLine_112 rfl 1 rfl ?_
        refine z_ldc2 C dX10_ruleLine_113 kl_RX10_273 ?_
        refine z_cVI [.long 2002873452] [.int (y1 + 4), va_rf (m13.R 1159 th 0)] C mv_RX10_263 (fun r0 m0 h0 => M_X10_isWord _ _ _ _ _ _ _ h0) rfl rfl ⟨by rw [hrm]; exact Nat.le_of_ble_eq_true rfl, by rw [hrm]; exact Nat.le_of_ble_eq_true rfl⟩ ⟨by rw [hrm]; exact Nat.le_of_ble_eq_true rfl, by rw [hrm]; exact Nat.le_of_ble_eq_true rfl⟩ rfl (kfw eK7 (kfw eK6 (kfw eK5 (kfw eK4 hk9)))) rfl rfl rfl (by simp [cat_rf, cat_i, cat_l, cat_a]) dX10_ruleLine_116 (fun r7 m14 => ?_)
        refine z_if_eq (tgt := 126) C dX10_ruleLine_119 (by decide) (fun c6 => ?_) (fun c6 => ?_)
        · refine z_iconst (v := 0) C dX10_ruleLine_126 (by decide) ?_
          exact z_sub [1, 2, 3] rfl (s_X10_ruleLine_127 C hr hrm th p1 p2 (m13.R 1159 th 0) (y1 + 4) 0 m14)
        · refine z_iconst (v := 1) C dX10_ruleLine_122 (by decide) ?_
          refine z_goto (tgt := 127) C dX10_ruleLine_123 (by decide) ?_
          exact z_sub [1, 2, 3] rfl (s_X10_ruleLine_127 C hr hrm th p1 p2 (m13.R 1159 th 0) (y1 + 4) 1 m14)
      · refine z_iconst (v := 0) C dX10_ruleLine_47 (by decide) ?_
        exact z_zret C hr rfl dX10_ruleLine_48
set_option maxRecDepth 100000 in
def g_X10_ruleLine_0 (th : Nat) (p1 : Int32) (p2 : Int32) (m : MM) : Option (Int32 × MM) :=
  chk (m.K th = 11) (if (m.I 1155 th 0) = 10 then (cal (f_X10_later th 3 p2 m) (fun r8 m15 => g_X10_ruleLine_15 th p1 p2 m15)) else (g_X10_ruleLine_15 th p1 p2 m))
set_option maxHeartbeats 4000000 in
set_option maxRecDepth 100000 in
theorem s_X10_ruleLine_0 {Γ : GX} {E : EX} (C : Cx Γ E cX10_ruleLine RX10 4) (hr : Γ.meth.sig.returnType = (some .boolean)) (hrm : Γ.rm = rmX10_ruleLine) (th : Nat) (p1 : Int32) (p2 : Int32) (m : MM) : Sm (QM Γ E emI 0 0) Γ E 4 0 0 0 [(0, va_rf (some th)), (1, .int p1), (2, .int p2)] [] m (g_X10_ruleLine_0 th p1 p2 m) := by
  unfold g_X10_ruleLine_0
  refine z_aload_n C dX10_ruleLine_0 rfl 0 rfl ?_
  refine z_chk (fun hk17 => ?_)
  refine z_getI C fl_RX10_333 rfl hk17 dX10_ruleLine_1 ?_
  refine z_bipush (v := 10) C dX10_ruleLine_4 (by decide) ?_
  refine z_icmp_ne (tgt := 15) C dX10_ruleLine_6 (by decide) (fun c7 => ?_) (fun c7 => ?_)
  · exact z_sub [0, 1, 2] rfl (s_X10_ruleLine_15 C hr hrm th p1 p2 m)
  · refine z_aload_n C dX10_ruleLine_9 rfl 0 rfl ?_
    refine z_iconst (v := 3) C dX10_ruleLine_10 (by decide) ?_
    refine z_iload_n C dX10_ruleLine_11 rfl 2 rfl ?_
    refine z_cVV [.int 3, .int p2] [] C mv_RX10_243 (fun r0 m0 h0 => M_X10_later _ _ _ _ _ _ _ _ h0) rfl rfl ⟨by rw [hrm]; exact Nat.le_of_ble_eq_true rfl, by rw [hrm]; exact Nat.le_of_ble_eq_true rfl⟩ ⟨by rw [hrm]; exact Nat.le_of_ble_eq_true rfl, by rw [hrm]; exact Nat.le_of_ble_eq_true rfl⟩ rfl hk17 rfl rfl rfl (Nat.le_of_ble_eq_true rfl) dX10_ruleLine_12 (fun r8 m15 => ?_)
    exact z_sub [0, 1, 2] rfl (s_X10_ruleLine_15 C hr hrm th p1 p2 m15)
def f_X10_ruleLine (th : Nat) (p1 : Int32) (p2 : Int32) (m : MM) : Option (Int32 × MM) := g_X10_ruleLine_0 th p1 p2 m
theorem M_X10_ruleLine (l : Launch) (E : EX) (th : Nat) (p1 : Int32) (p2 : Int32) (m : MM) (r : Int32) (m2 : MM) (h : f_X10_ruleLine th p1 p2 m = some (r, m2)) : Met l yX10_ruleLine (.code yX10_ruleLine cX10_ruleLine 4 (some .boolean) :: TB) rmX10_ruleLine (va_Pc [.ref th, .int p1, .int p2] (St E m)) (QR E (emI r) m2) 0 0 (AA E) :=
  met_of (em := emI) (plainFor_of_name rfl) (Nat.le_of_ble_eq_true rfl) (L0 := [(0, va_rf (some th)), (1, .int p1), (2, .int p2)]) rfl (fun Γ _ hrm C hr hn => s_X10_ruleLine_0 C hr hrm th p1 p2 m) h

theorem dX10_lawLine_0 : decode cX10_lawLine 0 = .ok (.aload_n 0, 1) := by decide +kernel
theorem dX10_lawLine_1 : decode cX10_lawLine 1 = .ok (.getfield 214, 3) := by decide +kernel
theorem dX10_lawLine_4 : decode cX10_lawLine 4 = .ok (.istore_n 1, 1) := by decide +kernel
theorem dX10_lawLine_5 : decode cX10_lawLine 5 = .ok (.aload_n 0, 1) := by decide +kernel
theorem dX10_lawLine_6 : decode cX10_lawLine 6 = .ok (.iconst 0, 1) := by decide +kernel
theorem dX10_lawLine_7 : decode cX10_lawLine 7 = .ok (.putfield 240, 3) := by decide +kernel
theorem dX10_lawLine_10 : decode cX10_lawLine 10 = .ok (.aload_n 0, 1) := by decide +kernel
theorem dX10_lawLine_11 : decode cX10_lawLine 11 = .ok (.ldc2_w 336, 3) := by decide +kernel
theorem dX10_lawLine_14 : decode cX10_lawLine 14 = .ok (.invokevirtual 263, 3) := by decide +kernel
theorem dX10_lawLine_17 : decode cX10_lawLine 17 = .ok (.ifCond .eq 7, 3) := by decide +kernel
theorem dX10_lawLine_20 : decode cX10_lawLine 20 = .ok (.iconst 0, 1) := by decide +kernel
theorem dX10_lawLine_21 : decode cX10_lawLine 21 = .ok (.goto 46, 3) := by decide +kernel
theorem dX10_lawLine_24 : decode cX10_lawLine 24 = .ok (.aload_n 0, 1) := by decide +kernel
theorem dX10_lawLine_25 : decode cX10_lawLine 25 = .ok (.ldc2_w 277, 3) := by decide +kernel
theorem dX10_lawLine_28 : decode cX10_lawLine 28 = .ok (.invokevirtual 263, 3) := by decide +kernel
theorem dX10_lawLine_31 : decode cX10_lawLine 31 = .ok (.ifCond .eq 7, 3) := by decide +kernel
theorem dX10_lawLine_34 : decode cX10_lawLine 34 = .ok (.iconst 1, 1) := by decide +kernel
theorem dX10_lawLine_35 : decode cX10_lawLine 35 = .ok (.goto 32, 3) := by decide +kernel
theorem dX10_lawLine_38 : decode cX10_lawLine 38 = .ok (.aload_n 0, 1) := by decide +kernel
theorem dX10_lawLine_39 : decode cX10_lawLine 39 = .ok (.ldc2_w 338, 3) := by decide +kernel
theorem dX10_lawLine_42 : decode cX10_lawLine 42 = .ok (.invokevirtual 263, 3) := by decide +kernel
theorem dX10_lawLine_45 : decode cX10_lawLine 45 = .ok (.ifCond .eq 7, 3) := by decide +kernel
theorem dX10_lawLine_48 : decode cX10_lawLine 48 = .ok (.iconst 2, 1) := by decide +kernel
theorem dX10_lawLine_49 : decode cX10_lawLine 49 = .ok (.goto 18, 3) := by decide +kernel
theorem dX10_lawLine_52 : decode cX10_lawLine 52 = .ok (.aload_n 0, 1) := by decide +kernel
theorem dX10_lawLine_53 : decode cX10_lawLine 53 = .ok (.ldc2_w 340, 3) := by decide +kernel
theorem dX10_lawLine_56 : decode cX10_lawLine 56 = .ok (.invokevirtual 263, 3) := by decide +kernel
theorem dX10_lawLine_59 : decode cX10_lawLine 59 = .ok (.ifCond .eq 7, 3) := by decide +kernel
theorem dX10_lawLine_62 : decode cX10_lawLine 62 = .ok (.iconst 3, 1) := by decide +kernel
theorem dX10_lawLine_63 : decode cX10_lawLine 63 = .ok (.goto 4, 3) := by decide +kernel
theorem dX10_lawLine_66 : decode cX10_lawLine 66 = .ok (.iconst (-1), 1) := by decide +kernel
theorem dX10_lawLine_67 : decode cX10_lawLine 67 = .ok (.istore_n 2, 1) := by decide +kernel
theorem dX10_lawLine_68 : decode cX10_lawLine 68 = .ok (.iload_n 2, 1) := by decide +kernel
theorem dX10_lawLine_69 : decode cX10_lawLine 69 = .ok (.iconst (-1), 1) := by decide +kernel
theorem dX10_lawLine_70 : decode cX10_lawLine 70 = .ok (.if_icmp .eq 25, 3) := by decide +kernel
theorem dX10_lawLine_73 : decode cX10_lawLine 73 = .ok (.aload_n 0, 1) := by decide +kernel
theorem dX10_lawLine_74 : decode cX10_lawLine 74 = .ok (.iload_n 2, 1) := by decide +kernel
theorem dX10_lawLine_75 : decode cX10_lawLine 75 = .ok (.iload_n 1, 1) := by decide +kernel
theorem dX10_lawLine_76 : decode cX10_lawLine 76 = .ok (.invokevirtual 342, 3) := by decide +kernel
theorem dX10_lawLine_79 : decode cX10_lawLine 79 = .ok (.ifCond .eq 14, 3) := by decide +kernel
theorem dX10_lawLine_82 : decode cX10_lawLine 82 = .ok (.aload_n 0, 1) := by decide +kernel
theorem dX10_lawLine_83 : decode cX10_lawLine 83 = .ok (.invokevirtual 309, 3) := by decide +kernel
theorem dX10_lawLine_86 : decode cX10_lawLine 86 = .ok (.ifCond .eq 7, 3) := by decide +kernel
theorem dX10_lawLine_89 : decode cX10_lawLine 89 = .ok (.iconst 1, 1) := by decide +kernel
theorem dX10_lawLine_90 : decode cX10_lawLine 90 = .ok (.goto 4, 3) := by decide +kernel
theorem dX10_lawLine_93 : decode cX10_lawLine 93 = .ok (.iconst 0, 1) := by decide +kernel
theorem dX10_lawLine_94 : decode cX10_lawLine 94 = .ok (.ireturn, 1) := by decide +kernel
theorem dX10_lawLine_95 : decode cX10_lawLine 95 = .ok (.aload_n 0, 1) := by decide +kernel
theorem dX10_lawLine_96 : decode cX10_lawLine 96 = .ok (.ldc2_w 345, 3) := by decide +kernel
theorem dX10_lawLine_99 : decode cX10_lawLine 99 = .ok (.invokevirtual 263, 3) := by decide +kernel
theorem dX10_lawLine_102 : decode cX10_lawLine 102 = .ok (.ifCond .eq 34, 3) := by decide +kernel
theorem dX10_lawLine_105 : decode cX10_lawLine 105 = .ok (.aload_n 0, 1) := by decide +kernel
theorem dX10_lawLine_106 : decode cX10_lawLine 106 = .ok (.invokevirtual 251, 3) := by decide +kernel
theorem dX10_lawLine_109 : decode cX10_lawLine 109 = .ok (.aload_n 0, 1) := by decide +kernel
theorem dX10_lawLine_110 : decode cX10_lawLine 110 = .ok (.iconst 1, 1) := by decide +kernel
theorem dX10_lawLine_111 : decode cX10_lawLine 111 = .ok (.bipush 99, 2) := by decide +kernel
theorem dX10_lawLine_113 : decode cX10_lawLine 113 = .ok (.invokevirtual 254, 3) := by decide +kernel
theorem dX10_lawLine_116 : decode cX10_lawLine 116 = .ok (.ifCond .ne 5, 3) := by decide +kernel
theorem dX10_lawLine_119 : decode cX10_lawLine 119 = .ok (.iconst 0, 1) := by decide +kernel
theorem dX10_lawLine_120 : decode cX10_lawLine 120 = .ok (.ireturn, 1) := by decide +kernel
theorem dX10_lawLine_121 : decode cX10_lawLine 121 = .ok (.aload_n 0, 1) := by decide +kernel
theorem dX10_lawLine_122 : decode cX10_lawLine 122 = .ok (.aload_n 0, 1) := by decide +kernel
theorem dX10_lawLine_123 : decode cX10_lawLine 123 = .ok (.getfield 122, 3) := by decide +kernel
theorem dX10_lawLine_126 : decode cX10_lawLine 126 = .ok (.iconst 0, 1) := by decide +kernel
theorem dX10_lawLine_127 : decode cX10_lawLine 127 = .ok (.iaload, 1) := by decide +kernel
theorem dX10_lawLine_128 : decode cX10_lawLine 128 = .ok (.putfield 347, 3) := by decide +kernel
theorem dX10_lawLine_131 : decode cX10_lawLine 131 = .ok (.aload_n 0, 1) := by decide +kernel
theorem dX10_lawLine_132 : decode cX10_lawLine 132 = .ok (.invokevirtual 309, 3) := by decide +kernel
theorem dX10_lawLine_135 : decode cX10_lawLine 135 = .ok (.ireturn, 1) := by decide +kernel
theorem dX10_lawLine_136 : decode cX10_lawLine 136 = .ok (.aload_n 0, 1) := by decide +kernel
theorem dX10_lawLine_137 : decode cX10_lawLine 137 = .ok (.ldc2_w 350, 3) := by decide +kernel
theorem dX10_lawLine_140 : decode cX10_lawLine 140 = .ok (.invokevirtual 263, 3) := by decide +kernel
theorem dX10_lawLine_143 : decode cX10_lawLine 143 = .ok (.ifCond .ne 28, 3) := by decide +kernel
theorem dX10_lawLine_146 : decode cX10_lawLine 146 = .ok (.aload_n 0, 1) := by decide +kernel
theorem dX10_lawLine_147 : decode cX10_lawLine 147 = .ok (.ldc2_w 352, 3) := by decide +kernel
theorem dX10_lawLine_150 : decode cX10_lawLine 150 = .ok (.invokevirtual 263, 3) := by decide +kernel
theorem dX10_lawLine_153 : decode cX10_lawLine 153 = .ok (.ifCond .ne 18, 3) := by decide +kernel
theorem dX10_lawLine_156 : decode cX10_lawLine 156 = .ok (.aload_n 0, 1) := by decide +kernel
theorem dX10_lawLine_157 : decode cX10_lawLine 157 = .ok (.ldc2_w 281, 3) := by decide +kernel
theorem dX10_lawLine_160 : decode cX10_lawLine 160 = .ok (.invokevirtual 263, 3) := by decide +kernel
theorem dX10_lawLine_163 : decode cX10_lawLine 163 = .ok (.ifCond .ne 8, 3) := by decide +kernel
theorem dX10_lawLine_166 : decode cX10_lawLine 166 = .ok (.aload_n 0, 1) := by decide +kernel
theorem dX10_lawLine_167 : decode cX10_lawLine 167 = .ok (.invokevirtual 236, 3) := by decide +kernel
theorem dX10_lawLine_170 : decode cX10_lawLine 170 = .ok (.ireturn, 1) := by decide +kernel
theorem dX10_lawLine_171 : decode cX10_lawLine 171 = .ok (.aload_n 0, 1) := by decide +kernel
theorem dX10_lawLine_172 : decode cX10_lawLine 172 = .ok (.aload_n 0, 1) := by decide +kernel
theorem dX10_lawLine_173 : decode cX10_lawLine 173 = .ok (.ldc2_w 350, 3) := by decide +kernel
theorem dX10_lawLine_176 : decode cX10_lawLine 176 = .ok (.invokevirtual 263, 3) := by decide +kernel
theorem dX10_lawLine_179 : decode cX10_lawLine 179 = .ok (.ifCond .eq 7, 3) := by decide +kernel
theorem dX10_lawLine_182 : decode cX10_lawLine 182 = .ok (.iconst 0, 1) := by decide +kernel
theorem dX10_lawLine_183 : decode cX10_lawLine 183 = .ok (.goto 21, 3) := by decide +kernel
theorem dX10_lawLine_186 : decode cX10_lawLine 186 = .ok (.aload_n 0, 1) := by decide +kernel
theorem dX10_lawLine_187 : decode cX10_lawLine 187 = .ok (.ldc2_w 352, 3) := by decide +kernel
theorem dX10_lawLine_190 : decode cX10_lawLine 190 = .ok (.invokevirtual 263, 3) := by decide +kernel
theorem dX10_lawLine_193 : decode cX10_lawLine 193 = .ok (.ifCond .eq 7, 3) := by decide +kernel
theorem dX10_lawLine_196 : decode cX10_lawLine 196 = .ok (.iconst 1, 1) := by decide +kernel
theorem dX10_lawLine_197 : decode cX10_lawLine 197 = .ok (.goto 7, 3) := by decide +kernel
theorem dX10_lawLine_200 : decode cX10_lawLine 200 = .ok (.aload_n 0, 1) := by decide +kernel
theorem dX10_lawLine_201 : decode cX10_lawLine 201 = .ok (.getfield 354, 3) := by decide +kernel
theorem dX10_lawLine_204 : decode cX10_lawLine 204 = .ok (.putfield 354, 3) := by decide +kernel
theorem dX10_lawLine_207 : decode cX10_lawLine 207 = .ok (.aload_n 0, 1) := by decide +kernel
theorem dX10_lawLine_208 : decode cX10_lawLine 208 = .ok (.aload_n 0, 1) := by decide +kernel
theorem dX10_lawLine_209 : decode cX10_lawLine 209 = .ok (.ldc2_w 281, 3) := by decide +kernel
theorem dX10_lawLine_212 : decode cX10_lawLine 212 = .ok (.invokevirtual 263, 3) := by decide +kernel
theorem dX10_lawLine_215 : decode cX10_lawLine 215 = .ok (.ifCond .eq 7, 3) := by decide +kernel
theorem dX10_lawLine_218 : decode cX10_lawLine 218 = .ok (.iconst 1, 1) := by decide +kernel
theorem dX10_lawLine_219 : decode cX10_lawLine 219 = .ok (.goto 7, 3) := by decide +kernel
theorem dX10_lawLine_222 : decode cX10_lawLine 222 = .ok (.aload_n 0, 1) := by decide +kernel
theorem dX10_lawLine_223 : decode cX10_lawLine 223 = .ok (.getfield 357, 3) := by decide +kernel
theorem dX10_lawLine_226 : decode cX10_lawLine 226 = .ok (.putfield 357, 3) := by decide +kernel
theorem dX10_lawLine_229 : decode cX10_lawLine 229 = .ok (.aload_n 0, 1) := by decide +kernel
theorem dX10_lawLine_230 : decode cX10_lawLine 230 = .ok (.invokevirtual 251, 3) := by decide +kernel
theorem dX10_lawLine_233 : decode cX10_lawLine 233 = .ok (.aload_n 0, 1) := by decide +kernel
theorem dX10_lawLine_234 : decode cX10_lawLine 234 = .ok (.invokevirtual 309, 3) := by decide +kernel
theorem dX10_lawLine_237 : decode cX10_lawLine 237 = .ok (.ireturn, 1) := by decide +kernel
def rmX10_lawLine : Room := { frames := 4, cells := 0, slots := 0, locals := 89 }
set_option maxRecDepth 100000 in
def g_X10_lawLine_93 (th : Nat) (m : MM) : Option (Int32 × MM) :=
  some (0, m)
set_option maxHeartbeats 4000000 in
set_option maxRecDepth 100000 in
theorem s_X10_lawLine_93 {Γ : GX} {E : EX} (C : Cx Γ E cX10_lawLine RX10 3) (hr : Γ.meth.sig.returnType = (some .boolean)) (hrm : Γ.rm = rmX10_lawLine) (th : Nat) (m : MM) : Sm (QM Γ E emI 0 0) Γ E 3 0 0 93 [(0, va_rf (some th))] [] m (g_X10_lawLine_93 th m) := by
  unfold g_X10_lawLine_93
  refine z_iconst (v := 0) C dX10_lawLine_93 (by decide) ?_
  exact z_zret C hr rfl dX10_lawLine_94
set_option maxRecDepth 100000 in
def g_X10_lawLine_204 (th : Nat) (s0 : Option Nat) (s1 : Int32) (m : MM) : Option (Int32 × MM) :=
  ck m s0 11 (fun a1 => bnd (m.sI 1156 a1 0 s1) (fun m1 => chk (m1.K th = 11) (cal (f_X10_isWord th 465557354085 m1) (fun r1 m2 => if r1 = 0 then (chk (m2.K th = 11) (bnd (m2.sI 1157 th 0 (m2.I 1157 th 0)) (fun m3 => cal (f_X10_token th m3) (fun r2 m4 => chk (m4.K th = 11) (cal (f_X10_passes th m4) (fun r3 m5 => chk (r3 = 0 ∨ r3 = 1) (some (r3, m5)))))))) else (chk (m2.K th = 11) (bnd (m2.sI 1157 th 0 1) (fun m6 => cal (f_X10_token th m6) (fun r4 m7 => chk (m7.K th = 11) (cal (f_X10_passes th m7) (fun r5 m8 => chk (r5 = 0 ∨ r5 = 1) (some (r5, m8))))))))))))
set_option maxHeartbeats 4000000 in
set_option maxRecDepth 100000 in
theorem s_X10_lawLine_204 {Γ : GX} {E : EX} (C : Cx Γ E cX10_lawLine RX10 3) (hr : Γ.meth.sig.returnType = (some .boolean)) (hrm : Γ.rm = rmX10_lawLine) (th : Nat) (s0 : Option Nat) (s1 : Int32) (m : MM) : Sm (QM Γ E emI 0 0) Γ E 3 0 0 204 [(0, va_rf (some th))] [.int s1, va_rf s0] m (g_X10_lawLine_204 th s0 s1 m) := by
  unfold g_X10_lawLine_204
  refine z_ck (fun a1 hr1 hk1 => ?_)
  refine z_putI C fl_RX10_354 (fun h => by cases h) hr1 hk1 rfl rfl dX10_lawLine_204 (fun m1 eK1 eN1 => ?_)
  refine z_aload_n C dX10_lawLine_207 rfl 0 rfl ?_
  refine z_aload_n C dX10_lawLine_208 rfl 0 rfl ?_
  refine z_ldc2 C dX10_lawLine_209 kl_RX10_281 ?_
  refine z_chk (fun hk2 => ?_)
  refine z_cVI [.long 465557354085] [va_rf (some th)] C mv_RX10_263 (fun r0 m0 h0 => M_X10_isWord _ _ _ _ _ _ _ h0) rfl rfl ⟨by rw [hrm]; exact Nat.le_of_ble_eq_true rfl, by rw [hrm]; exact Nat.le_of_ble_eq_true rfl⟩ ⟨by rw [hrm]; exact Nat.le_of_ble_eq_true rfl, by rw [hrm]; exact Nat.le_of_ble_eq_true rfl⟩ rfl hk2 rfl rfl rfl (Nat.le_of_ble_eq_true rfl) dX10_lawLine_212 (fun r1 m2 => ?_)
  refine z_if_eq (tgt := 222) C dX10_lawLine_215 (by decide) (fun c1 => ?_) (fun c1 => ?_)
  · refine z_aload_n C dX10_lawLine_222 rfl 0 rfl ?_
    refine z_chk (fun hk3 => ?_)
    refine z_getI C fl_RX10_357 rfl hk3 dX10_lawLine_223 ?_
    refine z_putI C fl_RX10_357 (fun h => by cases h) rfl hk3 rfl rfl dX10_lawLine_226 (fun m3 eK2 eN2 => ?_)
    refine z_aload_n C dX10_lawLine_229 rfl 0 rfl ?_
    refine z_cVV [] [] C mv_RX10_251 (fun r0 m0 h0 => M_X10_token _ _ _ _ _ _ h0) rfl rfl ⟨by rw [hrm]; exact Nat.le_of_ble_eq_true rfl, by rw [hrm]; exact Nat.le_of_ble_eq_true rfl⟩ ⟨by rw [hrm]; exact Nat.le_of_ble_eq_true rfl, by rw [hrm]; exact Nat.le_of_ble_eq_true rfl⟩ rfl (kfw eK2 hk3) rfl rfl rfl (Nat.le_of_ble_eq_true rfl) dX10_lawLine_230 (fun r2 m4 => ?_)
    refine z_aload_n C dX10_lawLine_233 rfl 0 rfl ?_
    refine z_chk (fun hk4 => ?_)
    refine z_cVI [] [] C mv_RX10_309 (fun r0 m0 h0 => M_X10_passes _ _ _ _ _ _ h0) rfl rfl ⟨by rw [hrm]; exact Nat.le_of_ble_eq_true rfl, by rw [hrm]; exact Nat.le_of_ble_eq_true rfl⟩ ⟨by rw [hrm]; exact Nat.le_of_ble_eq_true rfl, by rw [hrm]; exact Nat.le_of_ble_eq_true rfl⟩ rfl hk4 rfl rfl rfl (Nat.le_of_ble_eq_true rfl) dX10_lawLine_234 (fun r3 m5 => ?_)
    refine z_chk (fun hb1 => ?_)
    exact z_zret C hr (nb_of hb1) dX10_lawLine_237
  · refine z_iconst (v := 1) C dX10_lawLine_218 (by decide) ?_
    refine z_goto (tgt := 226) C dX10_lawLine_219 (by decide) ?_
    refine z_chk (fun hk5 => ?_)
    refine z_putI C fl_RX10_357 (fun h => by cases h) rfl hk5 rfl rfl dX10_lawLine_226 (fun m6 eK3 eN3 => ?_)
    refine z_aload_n C dX10_lawLine_229 rfl 0 rfl ?_
    refine z_cVV [] [] C mv_RX10_251 (fun r0 m0 h0 => M_X10_token _ _ _ _ _ _ h0) rfl rfl ⟨by rw [hrm]; exact Nat.le_of_ble_eq_true rfl, by rw [hrm]; exact Nat.le_of_ble_eq_true rfl⟩ ⟨by rw [hrm]; exact Nat.le_of_ble_eq_true rfl, by rw [hrm]; exact Nat.le_of_ble_eq_true rfl⟩ rfl (kfw eK3 hk5) rfl rfl rfl (Nat.le_of_ble_eq_true rfl) dX10_lawLine_230 (fun r4 m7 => ?_)
    refine z_aload_n C dX10_lawLine_233 rfl 0 rfl ?_
    refine z_chk (fun hk6 => ?_)
    refine z_cVI [] [] C mv_RX10_309 (fun r0 m0 h0 => M_X10_passes _ _ _ _ _ _ h0) rfl rfl ⟨by rw [hrm]; exact Nat.le_of_ble_eq_true rfl, by rw [hrm]; exact Nat.le_of_ble_eq_true rfl⟩ ⟨by rw [hrm]; exact Nat.le_of_ble_eq_true rfl, by rw [hrm]; exact Nat.le_of_ble_eq_true rfl⟩ rfl hk6 rfl rfl rfl (Nat.le_of_ble_eq_true rfl) dX10_lawLine_234 (fun r5 m8 => ?_)
    refine z_chk (fun hb2 => ?_)
    exact z_zret C hr (nb_of hb2) dX10_lawLine_237
set_option maxRecDepth 100000 in
def g_X10_lawLine_171 (th : Nat) (m : MM) : Option (Int32 × MM) :=
  chk (m.K th = 11) (cal (f_X10_isWord th 465491486066 m) (fun r6 m9 => if r6 = 0 then (chk (m9.K th = 11) (cal (f_X10_isWord th 1751216749 m9) (fun r7 m10 => if r7 = 0 then (chk (m10.K th = 11) (g_X10_lawLine_204 th (some th) (m10.I 1156 th 0) m10)) else (g_X10_lawLine_204 th (some th) 1 m10)))) else (g_X10_lawLine_204 th (some th) 0 m9)))
set_option maxHeartbeats 4000000 in
set_option maxRecDepth 100000 in
theorem s_X10_lawLine_171 {Γ : GX} {E : EX} (C : Cx Γ E cX10_lawLine RX10 3) (hr : Γ.meth.sig.returnType = (some .boolean)) (hrm : Γ.rm = rmX10_lawLine) (th : Nat) (m : MM) : Sm (QM Γ E emI 0 0) Γ E 3 0 0 171 [(0, va_rf (some th))] [] m (g_X10_lawLine_171 th m) := by
  unfold g_X10_lawLine_171
  refine z_aload_n C dX10_lawLine_171 rfl 0 rfl ?_
  refine z_aload_n C dX10_lawLine_172 rfl 0 rfl ?_
  refine z_ldc2 C dX10_lawLine_173 kl_RX10_350 ?_
  refine z_chk (fun hk7 => ?_)
  refine z_cVI [.long 465491486066] [va_rf (some th)] C mv_RX10_263 (fun r0 m0 h0 => M_X10_isWord _ _ _ _ _ _ _ h0) rfl rfl ⟨by rw [hrm]; exact Nat.le_of_ble_eq_true rfl, by rw [hrm]; exact Nat.le_of_ble_eq_true rfl⟩ ⟨by rw [hrm]; exact Nat.le_of_ble_eq_true rfl, by rw [hrm]; exact Nat.le_of_ble_eq_true rfl⟩ rfl hk7 rfl rfl rfl (Nat.le_of_ble_eq_true rfl) dX10_lawLine_176 (fun r6 m9 => ?_)
  refine z_if_eq (tgt := 186) C dX10_lawLine_179 (by decide) (fun c2 => ?_) (fun c2 => ?_)
  · refine z_aload_n C dX10_lawLine_186 rfl 0 rfl ?_
    refine z_ldc2 C dX10_lawLine_187 kl_RX10_352 ?_
    refine z_chk (fun hk8 => ?_)
    refine z_cVI [.long 1751216749] [va_rf (some th)] C mv_RX10_263 (fun r0 m0 h0 => M_X10_isWord _ _ _ _ _ _ _ h0) rfl rfl ⟨by rw [hrm]; exact Nat.le_of_ble_eq_true rfl, by rw [hrm]; exact Nat.le_of_ble_eq_true rfl⟩ ⟨by rw [hrm]; exact Nat.le_of_ble_eq_true rfl, by rw [hrm]; exact Nat.le_of_ble_eq_true rfl⟩ rfl hk8 rfl rfl rfl (Nat.le_of_ble_eq_true rfl) dX10_lawLine_190 (fun r7 m10 => ?_)
    refine z_if_eq (tgt := 200) C dX10_lawLine_193 (by decide) (fun c3 => ?_) (fun c3 => ?_)
    · refine z_aload_n C dX10_lawLine_200 rfl 0 rfl ?_
      refine z_chk (fun hk9 => ?_)
      refine z_getI C fl_RX10_354 rfl hk9 dX10_lawLine_201 ?_
      exact z_sub [0] rfl (s_X10_lawLine_204 C hr hrm th (some th) (m10.I 1156 th 0) m10)
    · refine z_iconst (v := 1) C dX10_lawLine_196 (by decide) ?_
      refine z_goto (tgt := 204) C dX10_lawLine_197 (by decide) ?_
      exact z_sub [0] rfl (s_X10_lawLine_204 C hr hrm th (some th) 1 m10)
  · refine z_iconst (v := 0) C dX10_lawLine_182 (by decide) ?_
    refine z_goto (tgt := 204) C dX10_lawLine_183 (by decide) ?_
    exact z_sub [0] rfl (s_X10_lawLine_204 C hr hrm th (some th) 0 m9)
set_option maxRecDepth 100000 in
def g_X10_lawLine_67 (th : Nat) (x1 : Int32) (s0 : Int32) (m : MM) : Option (Int32 × MM) :=
  if s0 = (-1) then (chk (m.K th = 11) (cal (f_X10_isWord th 126896627347060 m) (fun r8 m11 => if r8 = 0 then (chk (m11.K th = 11) (cal (f_X10_isWord th 465491486066 m11) (fun r9 m12 => if r9 = 0 then (chk (m12.K th = 11) (cal (f_X10_isWord th 1751216749 m12) (fun r10 m13 => if r10 = 0 then (chk (m13.K th = 11) (cal (f_X10_isWord th 465557354085 m13) (fun r11 m14 => if r11 = 0 then (chk (m14.K th = 11) (cal (f_X10_stops th m14) (fun r12 m15 => chk (r12 = 0 ∨ r12 = 1) (some (r12, m15))))) else (g_X10_lawLine_171 th m14)))) else (g_X10_lawLine_171 th m13)))) else (g_X10_lawLine_171 th m12)))) else (chk (m11.K th = 11) (cal (f_X10_token th m11) (fun r13 m16 => chk (m16.K th = 11) (cal (f_X10_number th 1 99 m16) (fun r14 m17 => if r14 = 0 then (some (0, m17)) else (chk (m17.K th = 11) (ck m17 (m17.R 1147 th 0) 22 (fun a2 => chk (inb 0 (m17.N a2) = true) (bnd (m17.sI 1158 th 0 (m17.I 22 a2 (Int32.toNatClampNeg 0))) (fun m18 => cal (f_X10_passes th m18) (fun r15 m19 => chk (r15 = 0 ∨ r15 = 1) (some (r15, m19)))))))))))))))) else (chk (m.K th = 11) (cal (f_X10_ruleLine th s0 x1 m) (fun r16 m20 => if r16 = 0 then (g_X10_lawLine_93 th m20) else (chk (m20.K th = 11) (cal (f_X10_passes th m20) (fun r17 m21 => if r17 = 0 then (g_X10_lawLine_93 th m21) else (some (1, m21))))))))
set_option maxHeartbeats 4000000 in
set_option maxRecDepth 100000 in
theorem s_X10_lawLine_67 {Γ : GX} {E : EX} (C : Cx Γ E cX10_lawLine RX10 3) (hr : Γ.meth.sig.returnType = (some .boolean)) (hrm : Γ.rm = rmX10_lawLine) (th : Nat) (x1 : Int32) (s0 : Int32) (m : MM) : Sm (QM Γ E emI 0 0) Γ E 3 0 0 67 [(0, va_rf (some th)), (1, .int x1)] [.int s0] m (g_X10_lawLine_67 th x1 s0 m) := by
  unfold g_X10_lawLine_67
  refine z_istore_n (i := 2) (L2 := [(2, .int s0), (0, va_rf (some th)), (1, .int x1)]) C dX10_lawLine_67 rfl (by decide) rfl ?_
  refine z_iload_n C dX10_lawLine_68 rfl 0 rfl ?_
  refine z_iconst (v := (-1)) C dX10_lawLine_69 (by decide) ?_
  refine z_icmp_eq (tgt := 95) C dX10_lawLine_70 (by decide) (fun c4 => ?_) (fun c4 => ?_)
  · refine z_aload_n C dX10_lawLine_95 rfl 1 rfl ?_
    refine z_ldc2 C dX10_lawLine_96 kl_RX10_345 ?_
    refine z_chk (fun hk10 => ?_)
    refine z_cVI [.long 126896627347060] [] C mv_RX10_263 (fun r0 m0 h0 => M_X10_isWord _ _ _ _ _ _ _ h0) rfl rfl ⟨by rw [hrm]; exact Nat.le_of_ble_eq_true rfl, by rw [hrm]; exact Nat.le_of_ble_eq_true rfl⟩ ⟨by rw [hrm]; exact Nat.le_of_ble_eq_true rfl, by rw [hrm]; exact Nat.le_of_ble_eq_true rfl⟩ rfl hk10 rfl rfl rfl (Nat.le_of_ble_eq_true rfl) dX10_lawLine_99 (fun r8 m11 => ?_)
    refine z_if_eq (tgt := 136) C dX10_lawLine_102 (by decide) (fun c5 => ?_) (fun c5 => ?_)
    · refine z_aload_n C dX10_lawLine_136 rfl 1 rfl ?_
      refine z_ldc2 C dX10_lawLine_137 kl_RX10_350 ?_
      refine z_chk (fun hk11 => ?_)
      refine z_cVI [.long 465491486066] [] C mv_RX10_263 (fun r0 m0 h0 => M_X10_isWord _ _ _ _ _ _ _ h0) rfl rfl ⟨by rw [hrm]; exact Nat.le_of_ble_eq_true rfl, by rw [hrm]; exact Nat.le_of_ble_eq_true rfl⟩ ⟨by rw [hrm]; exact Nat.le_of_ble_eq_true rfl, by rw [hrm]; exact Nat.le_of_ble_eq_true rfl⟩ rfl hk11 rfl rfl rfl (Nat.le_of_ble_eq_true rfl) dX10_lawLine_140 (fun r9 m12 => ?_)
      refine z_if_ne (tgt := 171) C dX10_lawLine_143 (by decide) (fun c6 => ?_) (fun c6 => ?_)
      · exact z_sub [1] rfl (s_X10_lawLine_171 C hr hrm th m12)
      · refine z_aload_n C dX10_lawLine_146 rfl 1 rfl ?_
        refine z_ldc2 C dX10_lawLine_147 kl_RX10_352 ?_
        refine z_chk (fun hk12 => ?_)
        refine z_cVI [.long 1751216749] [] C mv_RX10_263 (fun r0 m0 h0 => M_X10_isWord _ _ _ _ _ _ _ h0) rfl rfl ⟨by rw [hrm]; exact Nat.le_of_ble_eq_true rfl, by rw [hrm]; exact Nat.le_of_ble_eq_true rfl⟩ ⟨by rw [hrm]; exact Nat.le_of_ble_eq_true rfl, by rw [hrm]; exact Nat.le_of_ble_eq_true rfl⟩ rfl hk12 rfl rfl rfl (Nat.le_of_ble_eq_true rfl) dX10_lawLine_150 (fun r10 m13 => ?_)
        refine z_if_ne (tgt := 171) C dX10_lawLine_153 (by decide) (fun c7 => ?_) (fun c7 => ?_)
        · exact z_sub [1] rfl (s_X10_lawLine_171 C hr hrm th m13)
        · refine z_aload_n C dX10_lawLine_156 rfl 1 rfl ?_
          refine z_ldc2 C dX10_lawLine_157 kl_RX10_281 ?_
          refine z_chk (fun hk13 => ?_)
          refine z_cVI [.long 465557354085] [] C mv_RX10_263 (fun r0 m0 h0 => M_X10_isWord _ _ _ _ _ _ _ h0) rfl rfl ⟨by rw [hrm]; exact Nat.le_of_ble_eq_true rfl, by rw [hrm]; exact Nat.le_of_ble_eq_true rfl⟩ ⟨by rw [hrm]; exact Nat.le_of_ble_eq_true rfl, by rw [hrm]; exact Nat.le_of_ble_eq_true rfl⟩ rfl hk13 rfl rfl rfl (Nat.le_of_ble_eq_true rfl) dX10_lawLine_160 (fun r11 m14 => ?_)
          refine z_if_ne (tgt := 171) C dX10_lawLine_163 (by decide) (fun c8 => ?_) (fun c8 => ?_)
          · exact z_sub [1] rfl (s_X10_lawLine_171 C hr hrm th m14)
          · refine z_aload_n C dX10_lawLine_166 rfl 1 rfl ?_
            refine z_chk (fun hk14 => ?_)
            refine z_cVI [] [] C mv_RX10_236 (fun r0 m0 h0 => M_X10_stops _ _ _ _ _ _ h0) rfl rfl ⟨by rw [hrm]; exact Nat.le_of_ble_eq_true rfl, by rw [hrm]; exact Nat.le_of_ble_eq_true rfl⟩ ⟨by rw [hrm]; exact Nat.le_of_ble_eq_true rfl, by rw [hrm]; exact Nat.le_of_ble_eq_true rfl⟩ rfl hk14 rfl rfl rfl (Nat.le_of_ble_eq_true rfl) dX10_lawLine_167 (fun r12 m15 => ?_)
            refine z_chk (fun hb3 => ?_)
            exact z_zret C hr (nb_of hb3) dX10_lawLine_170
    · refine z_aload_n C dX10_lawLine_105 rfl 1 rfl ?_
      refine z_chk (fun hk15 => ?_)
      refine z_cVV [] [] C mv_RX10_251 (fun r0 m0 h0 => M_X10_token _ _ _ _ _ _ h0) rfl rfl ⟨by rw [hrm]; exact Nat.le_of_ble_eq_true rfl, by rw [hrm]; exact Nat.le_of_ble_eq_true rfl⟩ ⟨by rw [hrm]; exact Nat.le_of_ble_eq_true rfl, by rw [hrm]; exact Nat.le_of_ble_eq_true rfl⟩ rfl hk15 rfl rfl rfl (Nat.le_of_ble_eq_true rfl) dX10_lawLine_106 (fun r13 m16 => ?_)
      refine z_aload_n C dX10_lawLine_109 rfl 1 rfl ?_
      refine z_iconst (v := 1) C dX10_lawLine_110 (by decide) ?_
      refine z_bipush (v := 99) C dX10_lawLine_111 (by decide) ?_
      refine z_chk (fun hk16 => ?_)
      refine z_cVI [.int 1, .int 99] [] C mv_RX10_254 (fun r0 m0 h0 => M_X10_number _ _ _ _ _ _ _ _ h0) rfl rfl ⟨by rw [hrm]; exact Nat.le_of_ble_eq_true rfl, by rw [hrm]; exact Nat.le_of_ble_eq_true rfl⟩ ⟨by rw [hrm]; exact Nat.le_of_ble_eq_true rfl, by rw [hrm]; exact Nat.le_of_ble_eq_true rfl⟩ rfl hk16 rfl rfl rfl (Nat.le_of_ble_eq_true rfl) dX10_lawLine_113 (fun r14 m17 => ?_)
      refine z_if_ne (tgt := 121) C dX10_lawLine_116 (by decide) (fun c9 => ?_) (fun c9 => ?_)
      · refine z_aload_n C dX10_lawLine_121 rfl 1 rfl ?_
        refine z_aload_n C dX10_lawLine_122 rfl 1 rfl ?_
        refine z_chk (fun hk17 => ?_)
        refine z_getR C fl_RX10_122 rfl hk17 dX10_lawLine_123 ?_
        refine z_iconst (v := 0) C dX10_lawLine_126 (by decide) ?_
        refine z_ck (fun a2 hr2 hk18 => ?_)
        refine z_chk (fun hj1 => ?_)
        refine z_iald C hr2 hk18 hj1 dX10_lawLine_127 ?_
        refine z_putI C fl_RX10_347 (fun h => by cases h) rfl hk17 rfl rfl dX10_lawLine_128 (fun m18 eK4 eN4 => ?_)
        refine z_aload_n C dX10_lawLine_131 rfl 1 rfl ?_
        refine z_cVI [] [] C mv_RX10_309 (fun r0 m0 h0 => M_X10_passes _ _ _ _ _ _ h0) rfl rfl ⟨by rw [hrm]; exact Nat.le_of_ble_eq_true rfl, by rw [hrm]; exact Nat.le_of_ble_eq_true rfl⟩ ⟨by rw [hrm]; exact Nat.le_of_ble_eq_true rfl, by rw [hrm]; exact Nat.le_of_ble_eq_true rfl⟩ rfl (kfw eK4 hk17) rfl rfl rfl (Nat.le_of_ble_eq_true rfl) dX10_lawLine_132 (fun r15 m19 => ?_)
        refine z_chk (fun hb4 => ?_)
        exact z_zret C hr (nb_of hb4) dX10_lawLine_135
      · refine z_iconst (v := 0) C dX10_lawLine_119 (by decide) ?_
        exact z_zret C hr rfl dX10_lawLine_120
  · refine z_aload_n C dX10_lawLine_73 rfl 1 rfl ?_
    refine z_iload_n C dX10_lawLine_74 rfl 0 rfl ?_
    refine z_iload_n C dX10_lawLine_75 rfl 2 rfl ?_
    refine z_chk (fun hk19 => ?_)
    refine z_cVI [.int s0, .int x1] [] C mv_RX10_342 (fun r0 m0 h0 => M_X10_ruleLine _ _ _ _ _ _ _ _ h0) rfl rfl ⟨by rw [hrm]; exact Nat.le_of_ble_eq_true rfl, by rw [hrm]; exact Nat.le_of_ble_eq_true rfl⟩ ⟨by rw [hrm]; exact Nat.le_of_ble_eq_true rfl, by rw [hrm]; exact Nat.le_of_ble_eq_true rfl⟩ rfl hk19 rfl rfl rfl (Nat.le_of_ble_eq_true rfl) dX10_lawLine_76 (fun r16 m20 => ?_)
    refine z_if_eq (tgt := 93) C dX10_lawLine_79 (by decide) (fun c10 => ?_) (fun c10 => ?_)
    · exact z_sub [1] rfl (s_X10_lawLine_93 C hr hrm th m20)
    · refine z_aload_n C dX10_lawLine_82 rfl 1 rfl ?_
      refine z_chk (fun hk20 => ?_)
      refine z_cVI [] [] C mv_RX10_309 (fun r0 m0 h0 => M_X10_passes _ _ _ _ _ _ h0) rfl rfl ⟨by rw [hrm]; exact Nat.le_of_ble_eq_true rfl, by rw [hrm]; exact Nat.le_of_ble_eq_true rfl⟩ ⟨by rw [hrm]; exact Nat.le_of_ble_eq_true rfl, by rw [hrm]; exact Nat.le_of_ble_eq_true rfl⟩ rfl hk20 rfl rfl rfl (Nat.le_of_ble_eq_true rfl) dX10_lawLine_83 (fun r17 m21 => ?_)
      refine z_if_eq (tgt := 93) C dX10_lawLine_86 (by decide) (fun c11 => ?_) (fun c11 => ?_)
      · exact z_sub [1] rfl (s_X10_lawLine_93 C hr hrm th m21)
      · refine z_iconst (v := 1) C dX10_lawLine_89 (by decide) ?_
        refine z_goto (tgt := 94) C dX10_lawLine_90 (by decide) ?_
        exact z_zret C hr rfl dX10_lawLine_94
set_option maxRecDepth 100000 in
def g_X10_lawLine_0 (th : Nat) (m : MM) : Option (Int32 × MM) :=
  chk (m.K th = 11) (bnd (m.I 1140 th 0) (fun y1 => bnd (m.sI 1148 th 0 0) (fun m22 => cal (f_X10_isWord th 6709618 m22) (fun r18 m23 => if r18 = 0 then (chk (m23.K th = 11) (cal (f_X10_isWord th 2003398244 m23) (fun r19 m24 => if r19 = 0 then (chk (m24.K th = 11) (cal (f_X10_isWord th 1718382455 m24) (fun r20 m25 => if r20 = 0 then (chk (m25.K th = 11) (cal (f_X10_isWord th 1717658469 m25) (fun r21 m26 => if r21 = 0 then (g_X10_lawLine_67 th y1 (-1) m26) else (g_X10_lawLine_67 th y1 3 m26)))) else (g_X10_lawLine_67 th y1 2 m25)))) else (g_X10_lawLine_67 th y1 1 m24)))) else (g_X10_lawLine_67 th y1 0 m23)))))
set_option maxHeartbeats 4000000 in
set_option maxRecDepth 100000 in
theorem s_X10_lawLine_0 {Γ : GX} {E : EX} (C : Cx Γ E cX10_lawLine RX10 3) (hr : Γ.meth.sig.returnType = (some .boolean)) (hrm : Γ.rm = rmX10_lawLine) (th : Nat) (m : MM) : Sm (QM Γ E emI 0 0) Γ E 3 0 0 0 [(0, va_rf (some th))] [] m (g_X10_lawLine_0 th m) := by
  unfold g_X10_lawLine_0
  refine z_aload_n C dX10_lawLine_0 rfl 0 rfl ?_
  refine z_chk (fun hk21 => ?_)
  refine z_getI C fl_RX10_214 rfl hk21 dX10_lawLine_1 ?_
  refine z_bndI (fun y1 => ?_)
  refine z_istore_n (i := 1) (L2 := [(1, .int y1), (0, va_rf (some th))]) C dX10_lawLine_4 rfl (by decide) rfl ?_
  refine z_aload_n C dX10_lawLine_5 rfl 1 rfl ?_
  refine z_iconst (v := 0) C dX10_lawLine_6 (by decide) ?_
  refine z_putI C fl_RX10_240 (fun h => by cases h) rfl hk21 rfl rfl dX10_lawLine_7 (fun m22 eK5 eN5 => ?_)
  refine z_aload_n C dX10_lawLine_10 rfl 1 rfl ?_
  refine z_ldc2 C dX10_lawLine_11 kl_RX10_336 ?_
  refine z_cVI [.long 6709618] [] C mv_RX10_263 (fun r0 m0 h0 => M_X10_isWord _ _ _ _ _ _ _ h0) rfl rfl ⟨by rw [hrm]; exact Nat.le_of_ble_eq_true rfl, by rw [hrm]; exact Nat.le_of_ble_eq_true rfl⟩ ⟨by rw [hrm]; exact Nat.le_of_ble_eq_true rfl, by rw [hrm]; exact Nat.le_of_ble_eq_true rfl⟩ rfl (kfw eK5 hk21) rfl rfl rfl (Nat.le_of_ble_eq_true rfl) dX10_lawLine_14 (fun r18 m23 => ?_)
  refine z_if_eq (tgt := 24) C dX10_lawLine_17 (by decide) (fun c12 => ?_) (fun c12 => ?_)
  · refine z_aload_n C dX10_lawLine_24 rfl 1 rfl ?_
    refine z_ldc2 C dX10_lawLine_25 kl_RX10_277 ?_
    refine z_chk (fun hk22 => ?_)
    refine z_cVI [.long 2003398244] [] C mv_RX10_263 (fun r0 m0 h0 => M_X10_isWord _ _ _ _ _ _ _ h0) rfl rfl ⟨by rw [hrm]; exact Nat.le_of_ble_eq_true rfl, by rw [hrm]; exact Nat.le_of_ble_eq_true rfl⟩ ⟨by rw [hrm]; exact Nat.le_of_ble_eq_true rfl, by rw [hrm]; exact Nat.le_of_ble_eq_true rfl⟩ rfl hk22 rfl rfl rfl (Nat.le_of_ble_eq_true rfl) dX10_lawLine_28 (fun r19 m24 => ?_)
    refine z_if_eq (tgt := 38) C dX10_lawLine_31 (by decide) (fun c13 => ?_) (fun c13 => ?_)
    · refine z_aload_n C dX10_lawLine_38 rfl 1 rfl ?_
      refine z_ldc2 C dX10_lawLine_39 kl_RX10_338 ?_
      refine z_chk (fun hk23 => ?_)
      refine z_cVI [.long 1718382455] [] C mv_RX10_263 (fun r0 m0 h0 => M_X10_isWord _ _ _ _ _ _ _ h0) rfl rfl ⟨by rw [hrm]; exact Nat.le_of_ble_eq_true rfl, by rw [hrm]; exact Nat.le_of_ble_eq_true rfl⟩ ⟨by rw [hrm]; exact Nat.le_of_ble_eq_true rfl, by rw [hrm]; exact Nat.le_of_ble_eq_true rfl⟩ rfl hk23 rfl rfl rfl (Nat.le_of_ble_eq_true rfl) dX10_lawLine_42 (fun r20 m25 => ?_)
      refine z_if_eq (tgt := 52) C dX10_lawLine_45 (by decide) (fun c14 => ?_) (fun c14 => ?_)
      · refine z_aload_n C dX10_lawLine_52 rfl 1 rfl ?_
        refine z_ldc2 C dX10_lawLine_53 kl_RX10_340 ?_
        refine z_chk (fun hk24 => ?_)
        refine z_cVI [.long 1717658469] [] C mv_RX10_263 (fun r0 m0 h0 => M_X10_isWord _ _ _ _ _ _ _ h0) rfl rfl ⟨by rw [hrm]; exact Nat.le_of_ble_eq_true rfl, by rw [hrm]; exact Nat.le_of_ble_eq_true rfl⟩ ⟨by rw [hrm]; exact Nat.le_of_ble_eq_true rfl, by rw [hrm]; exact Nat.le_of_ble_eq_true rfl⟩ rfl hk24 rfl rfl rfl (Nat.le_of_ble_eq_true rfl) dX10_lawLine_56 (fun r21 m26 => ?_)
        refine z_if_eq (tgt := 66) C dX10_lawLine_59 (by decide) (fun c15 => ?_) (fun c15 => ?_)
        · refine z_iconst (v := (-1)) C dX10_lawLine_66 (by decide) ?_
          exact z_sub [1, 0] rfl (s_X10_lawLine_67 C hr hrm th y1 (-1) m26)
        · refine z_iconst (v := 3) C dX10_lawLine_62 (by decide) ?_
          refine z_goto (tgt := 67) C dX10_lawLine_63 (by decide) ?_
          exact z_sub [1, 0] rfl (s_X10_lawLine_67 C hr hrm th y1 3 m26)
      · refine z_iconst (v := 2) C dX10_lawLine_48 (by decide) ?_
        refine z_goto (tgt := 67) C dX10_lawLine_49 (by decide) ?_
        exact z_sub [1, 0] rfl (s_X10_lawLine_67 C hr hrm th y1 2 m25)
    · refine z_iconst (v := 1) C dX10_lawLine_34 (by decide) ?_
      refine z_goto (tgt := 67) C dX10_lawLine_35 (by decide) ?_
      exact z_sub [1, 0] rfl (s_X10_lawLine_67 C hr hrm th y1 1 m24)
  · refine z_iconst (v := 0) C dX10_lawLine_20 (by decide) ?_
    refine z_goto (tgt := 67) C dX10_lawLine_21 (by decide) ?_
    exact z_sub [1, 0] rfl (s_X10_lawLine_67 C hr hrm th y1 0 m23)
def f_X10_lawLine (th : Nat) (m : MM) : Option (Int32 × MM) := g_X10_lawLine_0 th m
theorem M_X10_lawLine (l : Launch) (E : EX) (th : Nat) (m : MM) (r : Int32) (m2 : MM) (h : f_X10_lawLine th m = some (r, m2)) : Met l yX10_lawLine (.code yX10_lawLine cX10_lawLine 3 (some .boolean) :: TB) rmX10_lawLine (va_Pc [.ref th] (St E m)) (QR E (emI r) m2) 0 0 (AA E) :=
  met_of (em := emI) (plainFor_of_name rfl) (Nat.le_of_ble_eq_true rfl) (L0 := [(0, va_rf (some th))]) rfl (fun Γ _ hrm C hr hn => s_X10_lawLine_0 C hr hrm th m) h

theorem dX10_law_0 : decode cX10_law 0 = .ok (.aload_n 0, 1) := by decide +kernel
theorem dX10_law_1 : decode cX10_law 1 = .ok (.iconst 0, 1) := by decide +kernel
theorem dX10_law_2 : decode cX10_law 2 = .ok (.putfield 180, 3) := by decide +kernel
theorem dX10_law_5 : decode cX10_law 5 = .ok (.aload_n 0, 1) := by decide +kernel
theorem dX10_law_6 : decode cX10_law 6 = .ok (.invokevirtual 327, 3) := by decide +kernel
theorem dX10_law_9 : decode cX10_law 9 = .ok (.iload_n 1, 1) := by decide +kernel
theorem dX10_law_10 : decode cX10_law 10 = .ok (.iconst (-1), 1) := by decide +kernel
theorem dX10_law_11 : decode cX10_law 11 = .ok (.if_icmp .ne 16, 3) := by decide +kernel
theorem dX10_law_14 : decode cX10_law 14 = .ok (.aload_n 0, 1) := by decide +kernel
theorem dX10_law_15 : decode cX10_law 15 = .ok (.getfield 92, 3) := by decide +kernel
theorem dX10_law_18 : decode cX10_law 18 = .ok (.iconst 0, 1) := by decide +kernel
theorem dX10_law_19 : decode cX10_law 19 = .ok (.iaload, 1) := by decide +kernel
theorem dX10_law_20 : decode cX10_law 20 = .ok (.iconst 3, 1) := by decide +kernel
theorem dX10_law_21 : decode cX10_law 21 = .ok (.if_icmp .ne 17, 3) := by decide +kernel
theorem dX10_law_24 : decode cX10_law 24 = .ok (.goto 11, 3) := by decide +kernel
theorem dX10_law_27 : decode cX10_law 27 = .ok (.aload_n 0, 1) := by decide +kernel
theorem dX10_law_28 : decode cX10_law 28 = .ok (.iload_n 1, 1) := by decide +kernel
theorem dX10_law_29 : decode cX10_law 29 = .ok (.invokevirtual 360, 3) := by decide +kernel
theorem dX10_law_32 : decode cX10_law 32 = .ok (.ifCond .ne 6, 3) := by decide +kernel
theorem dX10_law_35 : decode cX10_law 35 = .ok (.bipush (-2), 2) := by decide +kernel
theorem dX10_law_37 : decode cX10_law 37 = .ok (.ireturn, 1) := by decide +kernel
theorem dX10_law_38 : decode cX10_law 38 = .ok (.aload_n 0, 1) := by decide +kernel
theorem dX10_law_39 : decode cX10_law 39 = .ok (.iconst 0, 1) := by decide +kernel
theorem dX10_law_40 : decode cX10_law 40 = .ok (.putfield 333, 3) := by decide +kernel
theorem dX10_law_43 : decode cX10_law 43 = .ok (.aload_n 0, 1) := by decide +kernel
theorem dX10_law_44 : decode cX10_law 44 = .ok (.iconst 0, 1) := by decide +kernel
theorem dX10_law_45 : decode cX10_law 45 = .ok (.putfield 354, 3) := by decide +kernel
theorem dX10_law_48 : decode cX10_law 48 = .ok (.aload_n 0, 1) := by decide +kernel
theorem dX10_law_49 : decode cX10_law 49 = .ok (.iconst 0, 1) := by decide +kernel
theorem dX10_law_50 : decode cX10_law 50 = .ok (.putfield 357, 3) := by decide +kernel
theorem dX10_law_53 : decode cX10_law 53 = .ok (.aload_n 0, 1) := by decide +kernel
theorem dX10_law_54 : decode cX10_law 54 = .ok (.iconst (-1), 1) := by decide +kernel
theorem dX10_law_55 : decode cX10_law 55 = .ok (.putfield 347, 3) := by decide +kernel
theorem dX10_law_58 : decode cX10_law 58 = .ok (.iconst 1, 1) := by decide +kernel
theorem dX10_law_59 : decode cX10_law 59 = .ok (.istore_n 2, 1) := by decide +kernel
theorem dX10_law_60 : decode cX10_law 60 = .ok (.aload_n 0, 1) := by decide +kernel
theorem dX10_law_61 : decode cX10_law 61 = .ok (.invokevirtual 251, 3) := by decide +kernel
theorem dX10_law_64 : decode cX10_law 64 = .ok (.iload_n 2, 1) := by decide +kernel
theorem dX10_law_65 : decode cX10_law 65 = .ok (.ifCond .eq 18, 3) := by decide +kernel
theorem dX10_law_68 : decode cX10_law 68 = .ok (.aload_n 0, 1) := by decide +kernel
theorem dX10_law_69 : decode cX10_law 69 = .ok (.getfield 221, 3) := by decide +kernel
theorem dX10_law_72 : decode cX10_law 72 = .ok (.ifCond .eq 11, 3) := by decide +kernel
theorem dX10_law_75 : decode cX10_law 75 = .ok (.aload_n 0, 1) := by decide +kernel
theorem dX10_law_76 : decode cX10_law 76 = .ok (.invokevirtual 363, 3) := by decide +kernel
theorem dX10_law_79 : decode cX10_law 79 = .ok (.istore_n 2, 1) := by decide +kernel
theorem dX10_law_80 : decode cX10_law 80 = .ok (.goto (-16), 3) := by decide +kernel
theorem dX10_law_83 : decode cX10_law 83 = .ok (.aload_n 0, 1) := by decide +kernel
theorem dX10_law_84 : decode cX10_law 84 = .ok (.iload_n 2, 1) := by decide +kernel
theorem dX10_law_85 : decode cX10_law 85 = .ok (.invokevirtual 323, 3) := by decide +kernel
theorem dX10_law_88 : decode cX10_law 88 = .ok (.ifCond .ne 5, 3) := by decide +kernel
theorem dX10_law_91 : decode cX10_law 91 = .ok (.iconst (-1), 1) := by decide +kernel
theorem dX10_law_92 : decode cX10_law 92 = .ok (.ireturn, 1) := by decide +kernel
theorem dX10_law_93 : decode cX10_law 93 = .ok (.iload_n 1, 1) := by decide +kernel
theorem dX10_law_94 : decode cX10_law 94 = .ok (.iconst (-1), 1) := by decide +kernel
theorem dX10_law_95 : decode cX10_law 95 = .ok (.if_icmp .ne 12, 3) := by decide +kernel
theorem dX10_law_98 : decode cX10_law 98 = .ok (.aload_n 0, 1) := by decide +kernel
theorem dX10_law_99 : decode cX10_law 99 = .ok (.getfield 92, 3) := by decide +kernel
theorem dX10_law_102 : decode cX10_law 102 = .ok (.iconst 0, 1) := by decide +kernel
theorem dX10_law_103 : decode cX10_law 103 = .ok (.iaload, 1) := by decide +kernel
theorem dX10_law_104 : decode cX10_law 104 = .ok (.goto 4, 3) := by decide +kernel
theorem dX10_law_107 : decode cX10_law 107 = .ok (.iload_n 1, 1) := by decide +kernel
theorem dX10_law_108 : decode cX10_law 108 = .ok (.istore_n 3, 1) := by decide +kernel
theorem dX10_law_109 : decode cX10_law 109 = .ok (.aload_n 0, 1) := by decide +kernel
theorem dX10_law_110 : decode cX10_law 110 = .ok (.getfield 92, 3) := by decide +kernel
theorem dX10_law_113 : decode cX10_law 113 = .ok (.iconst 0, 1) := by decide +kernel
theorem dX10_law_114 : decode cX10_law 114 = .ok (.dup2, 1) := by decide +kernel
theorem dX10_law_115 : decode cX10_law 115 = .ok (.iaload, 1) := by decide +kernel
theorem dX10_law_116 : decode cX10_law 116 = .ok (.iload_n 1, 1) := by decide +kernel
theorem dX10_law_117 : decode cX10_law 117 = .ok (.iconst (-1), 1) := by decide +kernel
theorem dX10_law_118 : decode cX10_law 118 = .ok (.if_icmp .ne 7, 3) := by decide +kernel
theorem dX10_law_121 : decode cX10_law 121 = .ok (.iconst 1, 1) := by decide +kernel
theorem dX10_law_122 : decode cX10_law 122 = .ok (.goto 4, 3) := by decide +kernel
theorem dX10_law_125 : decode cX10_law 125 = .ok (.iconst 0, 1) := by decide +kernel
theorem dX10_law_126 : decode cX10_law 126 = .ok (.iadd, 1) := by decide +kernel
theorem dX10_law_127 : decode cX10_law 127 = .ok (.iastore, 1) := by decide +kernel
theorem dX10_law_128 : decode cX10_law 128 = .ok (.aload_n 0, 1) := by decide +kernel
theorem dX10_law_129 : decode cX10_law 129 = .ok (.getfield 95, 3) := by decide +kernel
theorem dX10_law_132 : decode cX10_law 132 = .ok (.iload_n 3, 1) := by decide +kernel
theorem dX10_law_133 : decode cX10_law 133 = .ok (.aload_n 0, 1) := by decide +kernel
theorem dX10_law_134 : decode cX10_law 134 = .ok (.getfield 333, 3) := by decide +kernel
theorem dX10_law_137 : decode cX10_law 137 = .ok (.iastore, 1) := by decide +kernel
theorem dX10_law_138 : decode cX10_law 138 = .ok (.aload_n 0, 1) := by decide +kernel
theorem dX10_law_139 : decode cX10_law 139 = .ok (.getfield 98, 3) := by decide +kernel
theorem dX10_law_142 : decode cX10_law 142 = .ok (.iload_n 3, 1) := by decide +kernel
theorem dX10_law_143 : decode cX10_law 143 = .ok (.aload_n 0, 1) := by decide +kernel
theorem dX10_law_144 : decode cX10_law 144 = .ok (.getfield 354, 3) := by decide +kernel
theorem dX10_law_147 : decode cX10_law 147 = .ok (.iastore, 1) := by decide +kernel
theorem dX10_law_148 : decode cX10_law 148 = .ok (.aload_n 0, 1) := by decide +kernel
theorem dX10_law_149 : decode cX10_law 149 = .ok (.getfield 101, 3) := by decide +kernel
theorem dX10_law_152 : decode cX10_law 152 = .ok (.iload_n 3, 1) := by decide +kernel
theorem dX10_law_153 : decode cX10_law 153 = .ok (.aload_n 0, 1) := by decide +kernel
theorem dX10_law_154 : decode cX10_law 154 = .ok (.getfield 357, 3) := by decide +kernel
theorem dX10_law_157 : decode cX10_law 157 = .ok (.iastore, 1) := by decide +kernel
theorem dX10_law_158 : decode cX10_law 158 = .ok (.aload_n 0, 1) := by decide +kernel
theorem dX10_law_159 : decode cX10_law 159 = .ok (.getfield 104, 3) := by decide +kernel
theorem dX10_law_162 : decode cX10_law 162 = .ok (.iload_n 3, 1) := by decide +kernel
theorem dX10_law_163 : decode cX10_law 163 = .ok (.aload_n 0, 1) := by decide +kernel
theorem dX10_law_164 : decode cX10_law 164 = .ok (.getfield 347, 3) := by decide +kernel
theorem dX10_law_167 : decode cX10_law 167 = .ok (.iastore, 1) := by decide +kernel
theorem dX10_law_168 : decode cX10_law 168 = .ok (.iconst 0, 1) := by decide +kernel
theorem dX10_law_169 : decode cX10_law 169 = .ok (.istore 4, 2) := by decide +kernel
theorem dX10_law_171 : decode cX10_law 171 = .ok (.iload 4, 2) := by decide +kernel
theorem dX10_law_173 : decode cX10_law 173 = .ok (.aload_n 0, 1) := by decide +kernel
theorem dX10_law_174 : decode cX10_law 174 = .ok (.getfield 333, 3) := by decide +kernel
theorem dX10_law_177 : decode cX10_law 177 = .ok (.if_icmp .ge 122, 3) := by decide +kernel
theorem dX10_law_180 : decode cX10_law 180 = .ok (.aload_n 0, 1) := by decide +kernel
theorem dX10_law_181 : decode cX10_law 181 = .ok (.getfield 107, 3) := by decide +kernel
theorem dX10_law_184 : decode cX10_law 184 = .ok (.bipush 10, 2) := by decide +kernel
theorem dX10_law_186 : decode cX10_law 186 = .ok (.iload_n 3, 1) := by decide +kernel
theorem dX10_law_187 : decode cX10_law 187 = .ok (.imul, 1) := by decide +kernel
theorem dX10_law_188 : decode cX10_law 188 = .ok (.iload 4, 2) := by decide +kernel
theorem dX10_law_190 : decode cX10_law 190 = .ok (.iadd, 1) := by decide +kernel
theorem dX10_law_191 : decode cX10_law 191 = .ok (.aload_n 0, 1) := by decide +kernel
theorem dX10_law_192 : decode cX10_law 192 = .ok (.getfield 140, 3) := by decide +kernel
theorem dX10_law_195 : decode cX10_law 195 = .ok (.iconst 5, 1) := by decide +kernel
theorem dX10_law_196 : decode cX10_law 196 = .ok (.iload 4, 2) := by decide +kernel
theorem dX10_law_198 : decode cX10_law 198 = .ok (.imul, 1) := by decide +kernel
theorem dX10_law_199 : decode cX10_law 199 = .ok (.iaload, 1) := by decide +kernel
theorem dX10_law_200 : decode cX10_law 200 = .ok (.iastore, 1) := by decide +kernel
theorem dX10_law_201 : decode cX10_law 201 = .ok (.aload_n 0, 1) := by decide +kernel
theorem dX10_law_202 : decode cX10_law 202 = .ok (.getfield 110, 3) := by decide +kernel
theorem dX10_law_205 : decode cX10_law 205 = .ok (.bipush 10, 2) := by decide +kernel
theorem dX10_law_207 : decode cX10_law 207 = .ok (.iload_n 3, 1) := by decide +kernel
theorem dX10_law_208 : decode cX10_law 208 = .ok (.imul, 1) := by decide +kernel
theorem dX10_law_209 : decode cX10_law 209 = .ok (.iload 4, 2) := by decide +kernel
theorem dX10_law_211 : decode cX10_law 211 = .ok (.iadd, 1) := by decide +kernel
theorem dX10_law_212 : decode cX10_law 212 = .ok (.aload_n 0, 1) := by decide +kernel
theorem dX10_law_213 : decode cX10_law 213 = .ok (.getfield 140, 3) := by decide +kernel
theorem dX10_law_216 : decode cX10_law 216 = .ok (.iconst 5, 1) := by decide +kernel
theorem dX10_law_217 : decode cX10_law 217 = .ok (.iload 4, 2) := by decide +kernel
theorem dX10_law_219 : decode cX10_law 219 = .ok (.imul, 1) := by decide +kernel
theorem dX10_law_220 : decode cX10_law 220 = .ok (.iconst 1, 1) := by decide +kernel
theorem dX10_law_221 : decode cX10_law 221 = .ok (.iadd, 1) := by decide +kernel
theorem dX10_law_222 : decode cX10_law 222 = .ok (.iaload, 1) := by decide +kernel
theorem dX10_law_223 : decode cX10_law 223 = .ok (.iastore, 1) := by decide +kernel
theorem dX10_law_224 : decode cX10_law 224 = .ok (.aload_n 0, 1) := by decide +kernel
theorem dX10_law_225 : decode cX10_law 225 = .ok (.getfield 113, 3) := by decide +kernel
theorem dX10_law_228 : decode cX10_law 228 = .ok (.bipush 10, 2) := by decide +kernel
theorem dX10_law_230 : decode cX10_law 230 = .ok (.iload_n 3, 1) := by decide +kernel
theorem dX10_law_231 : decode cX10_law 231 = .ok (.imul, 1) := by decide +kernel
theorem dX10_law_232 : decode cX10_law 232 = .ok (.iload 4, 2) := by decide +kernel
theorem dX10_law_234 : decode cX10_law 234 = .ok (.iadd, 1) := by decide +kernel
theorem dX10_law_235 : decode cX10_law 235 = .ok (.aload_n 0, 1) := by decide +kernel
theorem dX10_law_236 : decode cX10_law 236 = .ok (.getfield 140, 3) := by decide +kernel
theorem dX10_law_239 : decode cX10_law 239 = .ok (.iconst 5, 1) := by decide +kernel
theorem dX10_law_240 : decode cX10_law 240 = .ok (.iload 4, 2) := by decide +kernel
theorem dX10_law_242 : decode cX10_law 242 = .ok (.imul, 1) := by decide +kernel
theorem dX10_law_243 : decode cX10_law 243 = .ok (.iconst 2, 1) := by decide +kernel
theorem dX10_law_244 : decode cX10_law 244 = .ok (.iadd, 1) := by decide +kernel
theorem dX10_law_245 : decode cX10_law 245 = .ok (.iaload, 1) := by decide +kernel
theorem dX10_law_246 : decode cX10_law 246 = .ok (.iastore, 1) := by decide +kernel
theorem dX10_law_247 : decode cX10_law 247 = .ok (.aload_n 0, 1) := by decide +kernel
theorem dX10_law_248 : decode cX10_law 248 = .ok (.getfield 116, 3) := by decide +kernel
theorem dX10_law_251 : decode cX10_law 251 = .ok (.bipush 10, 2) := by decide +kernel
theorem dX10_law_253 : decode cX10_law 253 = .ok (.iload_n 3, 1) := by decide +kernel
theorem dX10_law_254 : decode cX10_law 254 = .ok (.imul, 1) := by decide +kernel
theorem dX10_law_255 : decode cX10_law 255 = .ok (.iload 4, 2) := by decide +kernel
theorem dX10_law_257 : decode cX10_law 257 = .ok (.iadd, 1) := by decide +kernel
theorem dX10_law_258 : decode cX10_law 258 = .ok (.aload_n 0, 1) := by decide +kernel
theorem dX10_law_259 : decode cX10_law 259 = .ok (.getfield 140, 3) := by decide +kernel
theorem dX10_law_262 : decode cX10_law 262 = .ok (.iconst 5, 1) := by decide +kernel
theorem dX10_law_263 : decode cX10_law 263 = .ok (.iload 4, 2) := by decide +kernel
theorem dX10_law_265 : decode cX10_law 265 = .ok (.imul, 1) := by decide +kernel
theorem dX10_law_266 : decode cX10_law 266 = .ok (.iconst 3, 1) := by decide +kernel
theorem dX10_law_267 : decode cX10_law 267 = .ok (.iadd, 1) := by decide +kernel
theorem dX10_law_268 : decode cX10_law 268 = .ok (.iaload, 1) := by decide +kernel
theorem dX10_law_269 : decode cX10_law 269 = .ok (.iastore, 1) := by decide +kernel
theorem dX10_law_270 : decode cX10_law 270 = .ok (.aload_n 0, 1) := by decide +kernel
theorem dX10_law_271 : decode cX10_law 271 = .ok (.getfield 119, 3) := by decide +kernel
theorem dX10_law_274 : decode cX10_law 274 = .ok (.bipush 10, 2) := by decide +kernel
theorem dX10_law_276 : decode cX10_law 276 = .ok (.iload_n 3, 1) := by decide +kernel
theorem dX10_law_277 : decode cX10_law 277 = .ok (.imul, 1) := by decide +kernel
theorem dX10_law_278 : decode cX10_law 278 = .ok (.iload 4, 2) := by decide +kernel
theorem dX10_law_280 : decode cX10_law 280 = .ok (.iadd, 1) := by decide +kernel
theorem dX10_law_281 : decode cX10_law 281 = .ok (.aload_n 0, 1) := by decide +kernel
theorem dX10_law_282 : decode cX10_law 282 = .ok (.getfield 140, 3) := by decide +kernel
theorem dX10_law_285 : decode cX10_law 285 = .ok (.iconst 5, 1) := by decide +kernel
theorem dX10_law_286 : decode cX10_law 286 = .ok (.iload 4, 2) := by decide +kernel
theorem dX10_law_288 : decode cX10_law 288 = .ok (.imul, 1) := by decide +kernel
theorem dX10_law_289 : decode cX10_law 289 = .ok (.iconst 4, 1) := by decide +kernel
theorem dX10_law_290 : decode cX10_law 290 = .ok (.iadd, 1) := by decide +kernel
theorem dX10_law_291 : decode cX10_law 291 = .ok (.iaload, 1) := by decide +kernel
theorem dX10_law_292 : decode cX10_law 292 = .ok (.iastore, 1) := by decide +kernel
theorem dX10_law_293 : decode cX10_law 293 = .ok (.iinc 4 1, 3) := by decide +kernel
theorem dX10_law_296 : decode cX10_law 296 = .ok (.goto (-125), 3) := by decide +kernel
theorem dX10_law_299 : decode cX10_law 299 = .ok (.iload_n 3, 1) := by decide +kernel
theorem dX10_law_300 : decode cX10_law 300 = .ok (.ireturn, 1) := by decide +kernel
def rmX10_law : Room := { frames := 5, cells := 0, slots := 0, locals := 111 }
set_option maxRecDepth 100000 in
def g_X10_law_64 (th : Nat) (p1 : Int32) (k64 : Int32 → MM → Option (Int32 × MM)) (k83 : Int32 → MM → Option (Int32 × MM)) (x2 : Int32) (m : MM) : Option (Int32 × MM) :=
  if x2 = 0 then (k83 x2 m) else (chk (m.K th = 11) (if (m.I 1141 th 0) = 0 then (k83 x2 m) else (cal (f_X10_lawLine th m) (fun r1 m1 => k64 r1 m1))))
set_option maxHeartbeats 4000000 in
set_option maxRecDepth 100000 in
theorem s_X10_law_64 {Γ : GX} {E : EX} (C : Cx Γ E cX10_law RX10 5) (hr : Γ.meth.sig.returnType = (some .int)) (hrm : Γ.rm = rmX10_law) (th : Nat) (p1 : Int32) (k64 : Int32 → MM → Option (Int32 × MM)) (k83 : Int32 → MM → Option (Int32 × MM)) (h64 : ∀ (x2 : Int32) (m : MM), Sm (QM Γ E emI 0 0) Γ E 5 0 0 64 [(0, va_rf (some th)), (1, .int p1), (2, .int x2)] [] m (k64 x2 m)) (h83 : ∀ (x2 : Int32) (m : MM), Sm (QM Γ E emI 0 0) Γ E 5 0 0 83 [(0, va_rf (some th)), (1, .int p1), (2, .int x2)] [] m (k83 x2 m)) (x2 : Int32) (m : MM) : Sm (QM Γ E emI 0 0) Γ E 5 0 0 64 [(0, va_rf (some th)), (1, .int p1), (2, .int x2)] [] m (g_X10_law_64 th p1 k64 k83 x2 m) := by
  unfold g_X10_law_64
  refine z_iload_n C dX10_law_64 rfl 2 rfl ?_
  refine z_if_eq (tgt := 83) C dX10_law_65 (by decide) (fun c1 => ?_) (fun c1 => ?_)
  · exact z_sub [0, 1, 2] rfl (h83 x2 m)
  · refine z_aload_n C dX10_law_68 rfl 0 rfl ?_
    refine z_chk (fun hk1 => ?_)
    refine z_getI C fl_RX10_221 rfl hk1 dX10_law_69 ?_
    refine z_if_eq (tgt := 83) C dX10_law_72 (by decide) (fun c2 => ?_) (fun c2 => ?_)
    · exact z_sub [0, 1, 2] rfl (h83 x2 m)
    · refine z_aload_n C dX10_law_75 rfl 0 rfl ?_
      refine z_cVI [] [] C mv_RX10_363 (fun r0 m0 h0 => M_X10_lawLine _ _ _ _ _ _ h0) rfl rfl ⟨by rw [hrm]; exact Nat.le_of_ble_eq_true rfl, by rw [hrm]; exact Nat.le_of_ble_eq_true rfl⟩ ⟨by rw [hrm]; exact Nat.le_of_ble_eq_true rfl, by rw [hrm]; exact Nat.le_of_ble_eq_true rfl⟩ rfl hk1 rfl rfl rfl (Nat.le_of_ble_eq_true rfl) dX10_law_76 (fun r1 m1 => ?_)
      refine z_istore_n (i := 2) (L2 := [(2, .int r1), (0, va_rf (some th)), (1, .int p1)]) C dX10_law_79 rfl (by decide) rfl ?_
      refine z_goto (tgt := 64) C dX10_law_80 (by decide) ?_
      exact z_sub [1, 2, 0] rfl (h64 r1 m1)
def l_X10_law_64 (th : Nat) (p1 : Int32) (k83 : Int32 → MM → Option (Int32 × MM)) : Nat → Int32 → MM → Option (Int32 × MM) := lp (fun _ _ => none) (fun k64 => g_X10_law_64 th p1 k64 k83)
theorem t_X10_law_64 {Γ : GX} {E : EX} (C : Cx Γ E cX10_law RX10 5) (hr : Γ.meth.sig.returnType = (some .int)) (hrm : Γ.rm = rmX10_law) (th : Nat) (p1 : Int32) (k83 : Int32 → MM → Option (Int32 × MM)) (h83 : ∀ (x2 : Int32) (m : MM), Sm (QM Γ E emI 0 0) Γ E 5 0 0 83 [(0, va_rf (some th)), (1, .int p1), (2, .int x2)] [] m (k83 x2 m)) : ∀ (n : Nat) (x2 : Int32) (m : MM), Sm (QM Γ E emI 0 0) Γ E 5 0 0 64 [(0, va_rf (some th)), (1, .int p1), (2, .int x2)] [] m (l_X10_law_64 th p1 k83 n x2 m) := by
  intro n
  induction n with
  | zero => intros; exact z_none
  | succ n ih => intro x2 m; exact s_X10_law_64 C hr hrm th p1 (l_X10_law_64 th p1 k83 n) k83 ih h83 x2 m
set_option maxRecDepth 100000 in
def g_X10_law_171 (th : Nat) (p1 : Int32) (k171 : Int32 → Int32 → MM → Option (Int32 × MM)) (x3 : Int32) (x4 : Int32) (m : MM) : Option (Int32 × MM) :=
  chk (m.K th = 11) (if (m.I 1155 th 0) ≤ x4 then (some (x3, m)) else (ck m (m.R 1159 th 0) 22 (fun a1 => chk (inb (5 * x4) (m.N a1) = true) (ck m (m.R 1133 th 0) 22 (fun a2 => chk (inb ((10 * x3) + x4) (m.N a2) = true) (bnd (m.sI 22 a2 (Int32.toNatClampNeg ((10 * x3) + x4)) (m.I 22 a1 (Int32.toNatClampNeg (5 * x4)))) (fun m2 => ck m2 (m2.R 1159 th 0) 22 (fun a3 => chk (inb ((5 * x4) + 1) (m2.N a3) = true) (ck m2 (m2.R 1134 th 0) 22 (fun a4 => chk (inb ((10 * x3) + x4) (m2.N a4) = true) (bnd (m2.sI 22 a4 (Int32.toNatClampNeg ((10 * x3) + x4)) (m2.I 22 a3 (Int32.toNatClampNeg ((5 * x4) + 1)))) (fun m3 => ck m3 (m3.R 1159 th 0) 22 (fun a5 => chk (inb ((5 * x4) + 2) (m3.N a5) = true) (ck m3 (m3.R 1135 th 0) 22 (fun a6 => chk (inb ((10 * x3) + x4) (m3.N a6) = true) (bnd (m3.sI 22 a6 (Int32.toNatClampNeg ((10 * x3) + x4)) (m3.I 22 a5 (Int32.toNatClampNeg ((5 * x4) + 2)))) (fun m4 => ck m4 (m4.R 1159 th 0) 22 (fun a7 => chk (inb ((5 * x4) + 3) (m4.N a7) = true) (ck m4 (m4.R 1136 th 0) 22 (fun a8 => chk (inb ((10 * x3) + x4) (m4.N a8) = true) (bnd (m4.sI 22 a8 (Int32.toNatClampNeg ((10 * x3) + x4)) (m4.I 22 a7 (Int32.toNatClampNeg ((5 * x4) + 3)))) (fun m5 => ck m5 (m5.R 1159 th 0) 22 (fun a9 => chk (inb ((5 * x4) + 4) (m5.N a9) = true) (ck m5 (m5.R 1137 th 0) 22 (fun a10 => chk (inb ((10 * x3) + x4) (m5.N a10) = true) (bnd (m5.sI 22 a10 (Int32.toNatClampNeg ((10 * x3) + x4)) (m5.I 22 a9 (Int32.toNatClampNeg ((5 * x4) + 4)))) (fun m6 => k171 x3 (x4 + 1) m6)))))))))))))))))))))))))))
set_option maxHeartbeats 4000000 in
set_option maxRecDepth 100000 in
theorem s_X10_law_171 {Γ : GX} {E : EX} (C : Cx Γ E cX10_law RX10 5) (hr : Γ.meth.sig.returnType = (some .int)) (hrm : Γ.rm = rmX10_law) (th : Nat) (p1 : Int32) (k171 : Int32 → Int32 → MM → Option (Int32 × MM)) (h171 : ∀ (x3 : Int32) (x4 : Int32) (m : MM), Sm (QM Γ E emI 0 0) Γ E 5 0 0 171 [(0, va_rf (some th)), (1, .int p1), (3, .int x3), (4, .int x4)] [] m (k171 x3 x4 m)) (x3 : Int32) (x4 : Int32) (m : MM) : Sm (QM Γ E emI 0 0) Γ E 5 0 0 171 [(0, va_rf (some th)), (1, .int p1), (3, .int x3), (4, .int x4)] [] m (g_X10_law_171 th p1 k171 x3 x4 m) := by
  unfold g_X10_law_171
  refine z_iload C dX10_law_171 3 rfl ?_
  refine z_aload_n C dX10_law_173 rfl 0 rfl ?_
  refine z_chk (fun hk2 => ?_)
  refine z_getI C fl_RX10_333 rfl hk2 dX10_law_174 ?_
  refine z_icmp_ge (tgt := 299) C dX10_law_177 (by decide) (fun c3 => ?_) (fun c3 => ?_)
  · refine z_iload_n C dX10_law_299 rfl 2 rfl ?_
    exact z_iret C hr dX10_law_300
  · refine z_aload_n C dX10_law_180 rfl 0 rfl ?_
    refine z_getR C fl_RX10_107 rfl hk2 dX10_law_181 ?_
    refine z_bipush (v := 10) C dX10_law_184 (by decide) ?_
    refine z_iload_n C dX10_law_186 rfl 2 rfl ?_
    refine z_imul C dX10_law_187 ?_
    refine z_iload C dX10_law_188 3 rfl ?_
    refine z_iadd C dX10_law_190 ?_
    refine z_aload_n C dX10_law_191 rfl 0 rfl ?_
    refine z_getR C fl_RX10_140 rfl hk2 dX10_law_192 ?_
    refine z_iconst (v := 5) C dX10_law_195 (by decide) ?_
    refine z_iload C dX10_law_196 3 rfl ?_
    refine z_imul C dX10_law_198 ?_
    refine z_ck (fun a1 hr1 hk3 => ?_)
    refine z_chk (fun hj1 => ?_)
    refine z_iald C hr1 hk3 hj1 dX10_law_199 ?_
    refine z_ck (fun a2 hr2 hk4 => ?_)
    refine z_chk (fun hj2 => ?_)
    refine z_iast C hr2 hk4 hj2 dX10_law_200 (fun m2 eK1 eN1 => ?_)
    refine z_aload_n C dX10_law_201 rfl 0 rfl ?_
    refine z_getR C fl_RX10_110 rfl (kfw eK1 hk2) dX10_law_202 ?_
    refine z_bipush (v := 10) C dX10_law_205 (by decide) ?_
    refine z_iload_n C dX10_law_207 rfl 2 rfl ?_
    refine z_imul C dX10_law_208 ?_
    refine z_iload C dX10_law_209 3 rfl ?_
    refine z_iadd C dX10_law_211 ?_
    refine z_aload_n C dX10_law_212 rfl 0 rfl ?_
    refine z_getR C fl_RX10_140 rfl (kfw eK1 hk2) dX10_law_213 ?_
    refine z_iconst (v := 5) C dX10_law_216 (by decide) ?_
    refine z_iload C dX10_law_217 3 rfl ?_
    refine z_imul C dX10_law_219 ?_
    refine z_iconst (v := 1) C dX10_law_220 (by decide) ?_
    refine z_iadd C dX10_law_221 ?_
    refine z_ck (fun a3 hr3 hk5 => ?_)
    refine z_chk (fun hj3 => ?_)
    refine z_iald C hr3 hk5 hj3 dX10_law_222 ?_
    refine z_ck (fun a4 hr4 hk6 => ?_)
    refine z_chk (fun hj4 => ?_)
    refine z_iast C hr4 hk6 hj4 dX10_law_223 (fun m3 eK2 eN2 => ?_)
    refine z_aload_n C dX10_law_224 rfl 0 rfl ?_
    refine z_getR C fl_RX10_113 rfl (kfw eK2 (kfw eK1 hk2)) dX10_law_225 ?_
    refine z_bipush (v := 10) C dX10_law_228 (by decide) ?_
    refine z_iload_n C dX10_law_230 rfl 2 rfl ?_
    refine z_imul C dX10_law_231 ?_
    refine z_iload C dX10_law_232 3 rfl ?_
    refine z_iadd C dX10_law_234 ?_
    refine z_aload_n C dX10_law_235 rfl 0 rfl ?_
    refine z_getR C fl_RX10_140 rfl (kfw eK2 (kfw eK1 hk2)) dX10_law_236 ?_
    refine z_iconst (v := 5) C dX10_law_239 (by decide) ?_
    refine z_iload C dX10_law_240 3 rfl ?_
    refine z_imul C dX10_law_242 ?_
    refine z_iconst (v := 2) C dX10_law_243 (by decide) ?_
    refine z_iadd C dX10_law_244 ?_
    refine z_ck (fun a5 hr5 hk7 => ?_)
    refine z_chk (fun hj5 => ?_)
    refine z_iald C hr5 hk7 hj5 dX10_law_245 ?_
    refine z_ck (fun a6 hr6 hk8 => ?_)
    refine z_chk (fun hj6 => ?_)
    refine z_iast C hr6 hk8 hj6 dX10_law_246 (fun m4 eK3 eN3 => ?_)
    refine z_aload_n C dX10_law_247 rfl 0 rfl ?_
    refine z_getR C fl_RX10_116 rfl (kfw eK3 (kfw eK2 (kfw eK1 hk2))) dX10_law_248 ?_
    refine z_bipush (v := 10) C dX10_law_251 (by decide) ?_
    refine z_iload_n C dX10_law_253 rfl 2 rfl ?_
    refine z_imul C dX10_law_254 ?_
    refine z_iload C dX10_law_255 3 rfl ?_
    refine z_iadd C dX10_law_257 ?_
    refine z_aload_n C dX10_law_258 rfl 0 rfl ?_
    refine z_getR C fl_RX10_140 rfl (kfw eK3 (kfw eK2 (kfw eK1 hk2))) dX10_law_259 ?_
    refine z_iconst (v := 5) C dX10_law_262 (by decide) ?_
    refine z_iload C dX10_law_263 3 rfl ?_
    refine z_imul C dX10_law_265 ?_
    refine z_iconst (v := 3) C dX10_law_266 (by decide) ?_
    refine z_iadd C dX10_law_267 ?_
    refine z_ck (fun a7 hr7 hk9 => ?_)
    refine z_chk (fun hj7 => ?_)
    refine z_iald C hr7 hk9 hj7 dX10_law_268 ?_
    refine z_ck (fun a8 hr8 hk10 => ?_)
    refine z_chk (fun hj8 => ?_)
    refine z_iast C hr8 hk10 hj8 dX10_law_269 (fun m5 eK4 eN4 => ?_)
    refine z_aload_n C dX10_law_270 rfl 0 rfl ?_
    refine z_getR C fl_RX10_119 rfl (kfw eK4 (kfw eK3 (kfw eK2 (kfw eK1 hk2)))) dX10_law_271 ?_
    refine z_bipush (v := 10) C dX10_law_274 (by decide) ?_
    refine z_iload_n C dX10_law_276 rfl 2 rfl ?_
    refine z_imul C dX10_law_277 ?_
    refine z_iload C dX10_law_278 3 rfl ?_
    refine z_iadd C dX10_law_280 ?_
    refine z_aload_n C dX10_law_281 rfl 0 rfl ?_
    refine z_getR C fl_RX10_140 rfl (kfw eK4 (kfw eK3 (kfw eK2 (kfw eK1 hk2)))) dX10_law_282 ?_
    refine z_iconst (v := 5) C dX10_law_285 (by decide) ?_
    refine z_iload C dX10_law_286 3 rfl ?_
    refine z_imul C dX10_law_288 ?_
    refine z_iconst (v := 4) C dX10_law_289 (by decide) ?_
    refine z_iadd C dX10_law_290 ?_
    refine z_ck (fun a9 hr9 hk11 => ?_)
    refine z_chk (fun hj9 => ?_)
    refine z_iald C hr9 hk11 hj9 dX10_law_291 ?_
    refine z_ck (fun a10 hr10 hk12 => ?_)
    refine z_chk (fun hj10 => ?_)
    refine z_iast C hr10 hk12 hj10 dX10_law_292 (fun m6 eK5 eN5 => ?_)
    refine z_iinc (v := 1) (L2 := [(4, .int (x4 + 1)), (0, va_rf (some th)), (1, .int p1), (3, .int x3)]) C dX10_law_293 3 rfl (by decide) (by decide) rfl ?_
    refine z_goto (tgt := 171) C dX10_law_296 (by decide) ?_
    exact z_sub [1, 2, 3, 0] rfl (h171 x3 (x4 + 1) m6)
def l_X10_law_171 (th : Nat) (p1 : Int32) : Nat → Int32 → Int32 → MM → Option (Int32 × MM) := lp (fun _ _ _ => none) (fun k171 => g_X10_law_171 th p1 k171)
theorem t_X10_law_171 {Γ : GX} {E : EX} (C : Cx Γ E cX10_law RX10 5) (hr : Γ.meth.sig.returnType = (some .int)) (hrm : Γ.rm = rmX10_law) (th : Nat) (p1 : Int32) : ∀ (n : Nat) (x3 : Int32) (x4 : Int32) (m : MM), Sm (QM Γ E emI 0 0) Γ E 5 0 0 171 [(0, va_rf (some th)), (1, .int p1), (3, .int x3), (4, .int x4)] [] m (l_X10_law_171 th p1 n x3 x4 m) := by
  intro n
  induction n with
  | zero => intros; exact z_none
  | succ n ih => intro x3 x4 m; exact s_X10_law_171 C hr hrm th p1 (l_X10_law_171 th p1 n) ih x3 x4 m
set_option maxRecDepth 100000 in
def g_X10_law_126 (th : Nat) (p1 : Int32) (x3 : Int32) (s0 : Option Nat) (s1 : Int32) (s2 : Int32) (s3 : Int32) (m : MM) : Option (Int32 × MM) :=
  ck m s0 22 (fun a11 => chk (inb s1 (m.N a11) = true) (bnd (m.sI 22 a11 (Int32.toNatClampNeg s1) (s2 + s3)) (fun m7 => chk (m7.K th = 11) (ck m7 (m7.R 1129 th 0) 22 (fun a12 => chk (inb x3 (m7.N a12) = true) (bnd (m7.sI 22 a12 (Int32.toNatClampNeg x3) (m7.I 1155 th 0)) (fun m8 => ck m8 (m8.R 1130 th 0) 22 (fun a13 => chk (inb x3 (m8.N a13) = true) (bnd (m8.sI 22 a13 (Int32.toNatClampNeg x3) (m8.I 1156 th 0)) (fun m9 => ck m9 (m9.R 1131 th 0) 22 (fun a14 => chk (inb x3 (m9.N a14) = true) (bnd (m9.sI 22 a14 (Int32.toNatClampNeg x3) (m9.I 1157 th 0)) (fun m10 => ck m10 (m10.R 1132 th 0) 22 (fun a15 => chk (inb x3 (m10.N a15) = true) (bnd (m10.sI 22 a15 (Int32.toNatClampNeg x3) (m10.I 1158 th 0)) (fun m11 => l_X10_law_171 th p1 FU x3 0 m11))))))))))))))))
set_option maxHeartbeats 4000000 in
set_option maxRecDepth 100000 in
theorem s_X10_law_126 {Γ : GX} {E : EX} (C : Cx Γ E cX10_law RX10 5) (hr : Γ.meth.sig.returnType = (some .int)) (hrm : Γ.rm = rmX10_law) (th : Nat) (p1 : Int32) (x3 : Int32) (s0 : Option Nat) (s1 : Int32) (s2 : Int32) (s3 : Int32) (m : MM) : Sm (QM Γ E emI 0 0) Γ E 5 0 0 126 [(0, va_rf (some th)), (1, .int p1), (3, .int x3)] [.int s3, .int s2, .int s1, va_rf s0] m (g_X10_law_126 th p1 x3 s0 s1 s2 s3 m) := by
  unfold g_X10_law_126
  refine z_iadd C dX10_law_126 ?_
  refine z_ck (fun a11 hr11 hk13 => ?_)
  refine z_chk (fun hj11 => ?_)
  refine z_iast C hr11 hk13 hj11 dX10_law_127 (fun m7 eK6 eN6 => ?_)
  refine z_aload_n C dX10_law_128 rfl 0 rfl ?_
  refine z_chk (fun hk14 => ?_)
  refine z_getR C fl_RX10_95 rfl hk14 dX10_law_129 ?_
  refine z_iload_n C dX10_law_132 rfl 2 rfl ?_
  refine z_aload_n C dX10_law_133 rfl 0 rfl ?_
  refine z_getI C fl_RX10_333 rfl hk14 dX10_law_134 ?_
  refine z_ck (fun a12 hr12 hk15 => ?_)
  refine z_chk (fun hj12 => ?_)
  refine z_iast C hr12 hk15 hj12 dX10_law_137 (fun m8 eK7 eN7 => ?_)
  refine z_aload_n C dX10_law_138 rfl 0 rfl ?_
  refine z_getR C fl_RX10_98 rfl (kfw eK7 hk14) dX10_law_139 ?_
  refine z_iload_n C dX10_law_142 rfl 2 rfl ?_
  refine z_aload_n C dX10_law_143 rfl 0 rfl ?_
  refine z_getI C fl_RX10_354 rfl (kfw eK7 hk14) dX10_law_144 ?_
  refine z_ck (fun a13 hr13 hk16 => ?_)
  refine z_chk (fun hj13 => ?_)
  refine z_iast C hr13 hk16 hj13 dX10_law_147 (fun m9 eK8 eN8 => ?_)
  refine z_aload_n C dX10_law_148 rfl 0 rfl ?_
  refine z_getR C fl_RX10_101 rfl (kfw eK8 (kfw eK7 hk14)) dX10_law_149 ?_
  refine z_iload_n C dX10_law_152 rfl 2 rfl ?_
  refine z_aload_n C dX10_law_153 rfl 0 rfl ?_
  refine z_getI C fl_RX10_357 rfl (kfw eK8 (kfw eK7 hk14)) dX10_law_154 ?_
  refine z_ck (fun a14 hr14 hk17 => ?_)
  refine z_chk (fun hj14 => ?_)
  refine z_iast C hr14 hk17 hj14 dX10_law_157 (fun m10 eK9 eN9 => ?_)
  refine z_aload_n C dX10_law_158 rfl 0 rfl ?_
  refine z_getR C fl_RX10_104 rfl (kfw eK9 (kfw eK8 (kfw eK7 hk14))) dX10_law_159 ?_
  refine z_iload_n C dX10_law_162 rfl 2 rfl ?_
  refine z_aload_n C dX10_law_163 rfl 0 rfl ?_
  refine z_getI C fl_RX10_347 rfl (kfw eK9 (kfw eK8 (kfw eK7 hk14))) dX10_law_164 ?_
  refine z_ck (fun a15 hr15 hk18 => ?_)
  refine z_chk (fun hj15 => ?_)
  refine z_iast C hr15 hk18 hj15 dX10_law_167 (fun m11 eK10 eN10 => ?_)
  refine z_iconst (v := 0) C dX10_law_168 (by decide) ?_
  refine z_istore (i := 4) (L2 := [(4, .int 0), (0, va_rf (some th)), (1, .int p1), (3, .int x3)]) C dX10_law_169 (by decide) rfl ?_
  exact z_sub [1, 2, 3, 0] rfl (t_X10_law_171 C hr hrm th p1 FU x3 0 m11)
set_option maxRecDepth 100000 in
def g_X10_law_108 (th : Nat) (p1 : Int32) (s0 : Int32) (m : MM) : Option (Int32 × MM) :=
  chk (m.K th = 11) (ck m (m.R 1128 th 0) 22 (fun a16 => chk (inb 0 (m.N a16) = true) (if p1 = (-1) then (g_X10_law_126 th p1 s0 (m.R 1128 th 0) 0 (m.I 22 a16 (Int32.toNatClampNeg 0)) 1 m) else (g_X10_law_126 th p1 s0 (m.R 1128 th 0) 0 (m.I 22 a16 (Int32.toNatClampNeg 0)) 0 m))))
set_option maxHeartbeats 4000000 in
set_option maxRecDepth 100000 in
theorem s_X10_law_108 {Γ : GX} {E : EX} (C : Cx Γ E cX10_law RX10 5) (hr : Γ.meth.sig.returnType = (some .int)) (hrm : Γ.rm = rmX10_law) (th : Nat) (p1 : Int32) (s0 : Int32) (m : MM) : Sm (QM Γ E emI 0 0) Γ E 5 0 0 108 [(0, va_rf (some th)), (1, .int p1)] [.int s0] m (g_X10_law_108 th p1 s0 m) := by
  unfold g_X10_law_108
  refine z_istore_n (i := 3) (L2 := [(3, .int s0), (0, va_rf (some th)), (1, .int p1)]) C dX10_law_108 rfl (by decide) rfl ?_
  refine z_aload_n C dX10_law_109 rfl 1 rfl ?_
  refine z_chk (fun hk19 => ?_)
  refine z_getR C fl_RX10_92 rfl hk19 dX10_law_110 ?_
  refine z_iconst (v := 0) C dX10_law_113 (by decide) ?_
  refine z_dup2 C rfl (cat_rf _) dX10_law_114 ?_
  refine z_ck (fun a16 hr16 hk20 => ?_)
  refine z_chk (fun hj16 => ?_)
  refine z_iald C hr16 hk20 hj16 dX10_law_115 ?_
  refine z_iload_n C dX10_law_116 rfl 2 rfl ?_
  refine z_iconst (v := (-1)) C dX10_law_117 (by decide) ?_
  refine z_icmp_ne (tgt := 125) C dX10_law_118 (by decide) (fun c4 => ?_) (fun c4 => ?_)
  · refine z_iconst (v := 0) C dX10_law_125 (by decide) ?_
    exact z_sub [1, 2, 0] rfl (s_X10_law_126 C hr hrm th p1 s0 (m.R 1128 th 0) 0 (m.I 22 a16 (Int32.toNatClampNeg 0)) 0 m)
  · refine z_iconst (v := 1) C dX10_law_121 (by decide) ?_
    refine z_goto (tgt := 126) C dX10_law_122 (by decide) ?_
    exact z_sub [1, 2, 0] rfl (s_X10_law_126 C hr hrm th p1 s0 (m.R 1128 th 0) 0 (m.I 22 a16 (Int32.toNatClampNeg 0)) 1 m)
set_option maxRecDepth 100000 in
def g_X10_law_83 (th : Nat) (p1 : Int32) (x2 : Int32) (m : MM) : Option (Int32 × MM) :=
  chk (m.K th = 11) (cal (f_X10_isGood th x2 m) (fun r2 m12 => if r2 = 0 then (some ((-1), m12)) else (if p1 = (-1) then (chk (m12.K th = 11) (ck m12 (m12.R 1128 th 0) 22 (fun a17 => chk (inb 0 (m12.N a17) = true) (g_X10_law_108 th p1 (m12.I 22 a17 (Int32.toNatClampNeg 0)) m12)))) else (g_X10_law_108 th p1 p1 m12))))
set_option maxHeartbeats 4000000 in
set_option maxRecDepth 100000 in
theorem s_X10_law_83 {Γ : GX} {E : EX} (C : Cx Γ E cX10_law RX10 5) (hr : Γ.meth.sig.returnType = (some .int)) (hrm : Γ.rm = rmX10_law) (th : Nat) (p1 : Int32) (x2 : Int32) (m : MM) : Sm (QM Γ E emI 0 0) Γ E 5 0 0 83 [(0, va_rf (some th)), (1, .int p1), (2, .int x2)] [] m (g_X10_law_83 th p1 x2 m) := by
  unfold g_X10_law_83
  refine z_aload_n C dX10_law_83 rfl 0 rfl ?_
  refine z_iload_n C dX10_law_84 rfl 2 rfl ?_
  refine z_chk (fun hk21 => ?_)
  refine z_cVI [.int x2] [] C mv_RX10_323 (fun r0 m0 h0 => M_X10_isGood _ _ _ _ _ _ _ h0) rfl rfl ⟨by rw [hrm]; exact Nat.le_of_ble_eq_true rfl, by rw [hrm]; exact Nat.le_of_ble_eq_true rfl⟩ ⟨by rw [hrm]; exact Nat.le_of_ble_eq_true rfl, by rw [hrm]; exact Nat.le_of_ble_eq_true rfl⟩ rfl hk21 rfl rfl rfl (Nat.le_of_ble_eq_true rfl) dX10_law_85 (fun r2 m12 => ?_)
  refine z_if_ne (tgt := 93) C dX10_law_88 (by decide) (fun c5 => ?_) (fun c5 => ?_)
  · refine z_iload_n C dX10_law_93 rfl 1 rfl ?_
    refine z_iconst (v := (-1)) C dX10_law_94 (by decide) ?_
    refine z_icmp_ne (tgt := 107) C dX10_law_95 (by decide) (fun c6 => ?_) (fun c6 => ?_)
    · refine z_iload_n C dX10_law_107 rfl 1 rfl ?_
      exact z_sub [0, 1] rfl (s_X10_law_108 C hr hrm th p1 p1 m12)
    · refine z_aload_n C dX10_law_98 rfl 0 rfl ?_
      refine z_chk (fun hk22 => ?_)
      refine z_getR C fl_RX10_92 rfl hk22 dX10_law_99 ?_
      refine z_iconst (v := 0) C dX10_law_102 (by decide) ?_
      refine z_ck (fun a17 hr17 hk23 => ?_)
      refine z_chk (fun hj17 => ?_)
      refine z_iald C hr17 hk23 hj17 dX10_law_103 ?_
      refine z_goto (tgt := 108) C dX10_law_104 (by decide) ?_
      exact z_sub [0, 1] rfl (s_X10_law_108 C hr hrm th p1 (m12.I 22 a17 (Int32.toNatClampNeg 0)) m12)
  · refine z_iconst (v := (-1)) C dX10_law_91 (by decide) ?_
    exact z_iret C hr dX10_law_92
set_option maxRecDepth 100000 in
def g_X10_law_38 (th : Nat) (p1 : Int32) (m : MM) : Option (Int32 × MM) :=
  chk (m.K th = 11) (bnd (m.sI 1155 th 0 0) (fun m13 => bnd (m13.sI 1156 th 0 0) (fun m14 => bnd (m14.sI 1157 th 0 0) (fun m15 => bnd (m15.sI 1158 th 0 (-1)) (fun m16 => cal (f_X10_token th m16) (fun r3 m17 => l_X10_law_64 th p1 (g_X10_law_83 th p1) FU 1 m17))))))
set_option maxHeartbeats 4000000 in
set_option maxRecDepth 100000 in
theorem s_X10_law_38 {Γ : GX} {E : EX} (C : Cx Γ E cX10_law RX10 5) (hr : Γ.meth.sig.returnType = (some .int)) (hrm : Γ.rm = rmX10_law) (th : Nat) (p1 : Int32) (m : MM) : Sm (QM Γ E emI 0 0) Γ E 5 0 0 38 [(0, va_rf (some th)), (1, .int p1)] [] m (g_X10_law_38 th p1 m) := by
  unfold g_X10_law_38
  refine z_aload_n C dX10_law_38 rfl 0 rfl ?_
  refine z_iconst (v := 0) C dX10_law_39 (by decide) ?_
  refine z_chk (fun hk24 => ?_)
  refine z_putI C fl_RX10_333 (fun h => by cases h) rfl hk24 rfl rfl dX10_law_40 (fun m13 eK11 eN11 => ?_)
  refine z_aload_n C dX10_law_43 rfl 0 rfl ?_
  refine z_iconst (v := 0) C dX10_law_44 (by decide) ?_
  refine z_putI C fl_RX10_354 (fun h => by cases h) rfl (kfw eK11 hk24) rfl rfl dX10_law_45 (fun m14 eK12 eN12 => ?_)
  refine z_aload_n C dX10_law_48 rfl 0 rfl ?_
  refine z_iconst (v := 0) C dX10_law_49 (by decide) ?_
  refine z_putI C fl_RX10_357 (fun h => by cases h) rfl (kfw eK12 (kfw eK11 hk24)) rfl rfl dX10_law_50 (fun m15 eK13 eN13 => ?_)
  refine z_aload_n C dX10_law_53 rfl 0 rfl ?_
  refine z_iconst (v := (-1)) C dX10_law_54 (by decide) ?_
  refine z_putI C fl_RX10_347 (fun h => by cases h) rfl (kfw eK13 (kfw eK12 (kfw eK11 hk24))) rfl rfl dX10_law_55 (fun m16 eK14 eN14 => ?_)
  refine z_iconst (v := 1) C dX10_law_58 (by decide) ?_
  refine z_istore_n (i := 2) (L2 := [(2, .int 1), (0, va_rf (some th)), (1, .int p1)]) C dX10_law_59 rfl (by decide) rfl ?_
  refine z_aload_n C dX10_law_60 rfl 1 rfl ?_
  refine z_cVV [] [] C mv_RX10_251 (fun r0 m0 h0 => M_X10_token _ _ _ _ _ _ h0) rfl rfl ⟨by rw [hrm]; exact Nat.le_of_ble_eq_true rfl, by rw [hrm]; exact Nat.le_of_ble_eq_true rfl⟩ ⟨by rw [hrm]; exact Nat.le_of_ble_eq_true rfl, by rw [hrm]; exact Nat.le_of_ble_eq_true rfl⟩ rfl (kfw eK14 (kfw eK13 (kfw eK12 (kfw eK11 hk24)))) rfl rfl rfl (Nat.le_of_ble_eq_true rfl) dX10_law_61 (fun r3 m17 => ?_)
  exact z_sub [1, 2, 0] rfl (t_X10_law_64 C hr hrm th p1 (g_X10_law_83 th p1) (s_X10_law_83 C hr hrm th p1) FU 1 m17)
set_option maxRecDepth 100000 in
def g_X10_law_0 (th : Nat) (p1 : Int32) (m : MM) : Option (Int32 × MM) :=
  chk (m.K th = 11) (bnd (m.sI 1100 th 0 0) (fun m18 => cal (f_X10_takeTape th m18) (fun r4 m19 => if p1 = (-1) then (chk (m19.K th = 11) (ck m19 (m19.R 1128 th 0) 22 (fun a18 => chk (inb 0 (m19.N a18) = true) (if (m19.I 22 a18 (Int32.toNatClampNeg 0)) = 3 then (some ((-2), m19)) else (g_X10_law_38 th p1 m19))))) else (chk (m19.K th = 11) (cal (f_X10_isLaw th p1 m19) (fun r5 m20 => if r5 = 0 then (some ((-2), m20)) else (g_X10_law_38 th p1 m20)))))))
set_option maxHeartbeats 4000000 in
set_option maxRecDepth 100000 in
theorem s_X10_law_0 {Γ : GX} {E : EX} (C : Cx Γ E cX10_law RX10 5) (hr : Γ.meth.sig.returnType = (some .int)) (hrm : Γ.rm = rmX10_law) (th : Nat) (p1 : Int32) (m : MM) : Sm (QM Γ E emI 0 0) Γ E 5 0 0 0 [(0, va_rf (some th)), (1, .int p1)] [] m (g_X10_law_0 th p1 m) := by
  unfold g_X10_law_0
  refine z_aload_n C dX10_law_0 rfl 0 rfl ?_
  refine z_iconst (v := 0) C dX10_law_1 (by decide) ?_
  refine z_chk (fun hk25 => ?_)
  refine z_putI C fl_RX10_180 (fun h => by cases h) rfl hk25 rfl rfl dX10_law_2 (fun m18 eK15 eN15 => ?_)
  refine z_aload_n C dX10_law_5 rfl 0 rfl ?_
  refine z_cVV [] [] C mv_RX10_327 (fun r0 m0 h0 => M_X10_takeTape _ _ _ _ _ _ h0) rfl rfl ⟨by rw [hrm]; exact Nat.le_of_ble_eq_true rfl, by rw [hrm]; exact Nat.le_of_ble_eq_true rfl⟩ ⟨by rw [hrm]; exact Nat.le_of_ble_eq_true rfl, by rw [hrm]; exact Nat.le_of_ble_eq_true rfl⟩ rfl (kfw eK15 hk25) rfl rfl rfl (Nat.le_of_ble_eq_true rfl) dX10_law_6 (fun r4 m19 => ?_)
  refine z_iload_n C dX10_law_9 rfl 1 rfl ?_
  refine z_iconst (v := (-1)) C dX10_law_10 (by decide) ?_
  refine z_icmp_ne (tgt := 27) C dX10_law_11 (by decide) (fun c7 => ?_) (fun c7 => ?_)
  · refine z_aload_n C dX10_law_27 rfl 0 rfl ?_
    refine z_iload_n C dX10_law_28 rfl 1 rfl ?_
    refine z_chk (fun hk26 => ?_)
    refine z_cVI [.int p1] [] C mv_RX10_360 (fun r0 m0 h0 => M_X10_isLaw _ _ _ _ _ _ _ h0) rfl rfl ⟨by rw [hrm]; exact Nat.le_of_ble_eq_true rfl, by rw [hrm]; exact Nat.le_of_ble_eq_true rfl⟩ ⟨by rw [hrm]; exact Nat.le_of_ble_eq_true rfl, by rw [hrm]; exact Nat.le_of_ble_eq_true rfl⟩ rfl hk26 rfl rfl rfl (Nat.le_of_ble_eq_true rfl) dX10_law_29 (fun r5 m20 => ?_)
    refine z_if_ne (tgt := 38) C dX10_law_32 (by decide) (fun c8 => ?_) (fun c8 => ?_)
    · exact z_sub [0, 1] rfl (s_X10_law_38 C hr hrm th p1 m20)
    · refine z_bipush (v := (-2)) C dX10_law_35 (by decide) ?_
      exact z_iret C hr dX10_law_37
  · refine z_aload_n C dX10_law_14 rfl 0 rfl ?_
    refine z_chk (fun hk27 => ?_)
    refine z_getR C fl_RX10_92 rfl hk27 dX10_law_15 ?_
    refine z_iconst (v := 0) C dX10_law_18 (by decide) ?_
    refine z_ck (fun a18 hr18 hk28 => ?_)
    refine z_chk (fun hj18 => ?_)
    refine z_iald C hr18 hk28 hj18 dX10_law_19 ?_
    refine z_iconst (v := 3) C dX10_law_20 (by decide) ?_
    refine z_icmp_ne (tgt := 38) C dX10_law_21 (by decide) (fun c9 => ?_) (fun c9 => ?_)
    · exact z_sub [0, 1] rfl (s_X10_law_38 C hr hrm th p1 m19)
    · refine z_goto (tgt := 35) C dX10_law_24 (by decide) ?_
      refine z_bipush (v := (-2)) C dX10_law_35 (by decide) ?_
      exact z_iret C hr dX10_law_37
def f_X10_law (th : Nat) (p1 : Int32) (m : MM) : Option (Int32 × MM) := g_X10_law_0 th p1 m
theorem M_X10_law (l : Launch) (E : EX) (th : Nat) (p1 : Int32) (m : MM) (r : Int32) (m2 : MM) (h : f_X10_law th p1 m = some (r, m2)) : Met l yX10_law (.code yX10_law cX10_law 5 (some .int) :: TB) rmX10_law (va_Pc [.ref th, .int p1] (St E m)) (QR E (emI r) m2) 0 0 (AA E) :=
  met_of (em := emI) (plainFor_of_name rfl) (Nat.le_of_ble_eq_true rfl) (L0 := [(0, va_rf (some th)), (1, .int p1)]) rfl (fun Γ _ hrm C hr hn => s_X10_law_0 C hr hrm th p1 m) h

theorem dX10_fault_0 : decode cX10_fault 0 = .ok (.aload_n 0, 1) := by decide +kernel
theorem dX10_fault_1 : decode cX10_fault 1 = .ok (.iconst 0, 1) := by decide +kernel
theorem dX10_fault_2 : decode cX10_fault 2 = .ok (.putfield 180, 3) := by decide +kernel
theorem dX10_fault_5 : decode cX10_fault 5 = .ok (.iload_n 1, 1) := by decide +kernel
theorem dX10_fault_6 : decode cX10_fault 6 = .ok (.ifCond .ne 12, 3) := by decide +kernel
theorem dX10_fault_9 : decode cX10_fault 9 = .ok (.aload_n 0, 1) := by decide +kernel
theorem dX10_fault_10 : decode cX10_fault 10 = .ok (.getfield 17, 3) := by decide +kernel
theorem dX10_fault_13 : decode cX10_fault 13 = .ok (.iconst 0, 1) := by decide +kernel
theorem dX10_fault_14 : decode cX10_fault 14 = .ok (.iaload, 1) := by decide +kernel
theorem dX10_fault_15 : decode cX10_fault 15 = .ok (.goto 18, 3) := by decide +kernel
theorem dX10_fault_18 : decode cX10_fault 18 = .ok (.iload_n 1, 1) := by decide +kernel
theorem dX10_fault_19 : decode cX10_fault 19 = .ok (.iconst 1, 1) := by decide +kernel
theorem dX10_fault_20 : decode cX10_fault 20 = .ok (.if_icmp .ne 12, 3) := by decide +kernel
theorem dX10_fault_23 : decode cX10_fault 23 = .ok (.aload_n 0, 1) := by decide +kernel
theorem dX10_fault_24 : decode cX10_fault 24 = .ok (.getfield 20, 3) := by decide +kernel
theorem dX10_fault_27 : decode cX10_fault 27 = .ok (.iconst 0, 1) := by decide +kernel
theorem dX10_fault_28 : decode cX10_fault 28 = .ok (.iaload, 1) := by decide +kernel
theorem dX10_fault_29 : decode cX10_fault 29 = .ok (.goto 4, 3) := by decide +kernel
theorem dX10_fault_32 : decode cX10_fault 32 = .ok (.iconst (-1), 1) := by decide +kernel
theorem dX10_fault_33 : decode cX10_fault 33 = .ok (.ireturn, 1) := by decide +kernel
def rmX10_fault : Room := { frames := 0, cells := 0, slots := 0, locals := 0 }
set_option maxRecDepth 100000 in
def g_X10_fault_0 (th : Nat) (p1 : Int32) (m : MM) : Option (Int32 × MM) :=
  chk (m.K th = 11) (bnd (m.sI 1100 th 0 0) (fun m1 => if p1 = 0 then (ck m1 (m1.R 1103 th 0) 22 (fun a2 => chk (inb 0 (m1.N a2) = true) (some (m1.I 22 a2 (Int32.toNatClampNeg 0), m1)))) else (if p1 = 1 then (ck m1 (m1.R 1104 th 0) 22 (fun a1 => chk (inb 0 (m1.N a1) = true) (some (m1.I 22 a1 (Int32.toNatClampNeg 0), m1)))) else (some ((-1), m1)))))
set_option maxHeartbeats 4000000 in
set_option maxRecDepth 100000 in
theorem s_X10_fault_0 {Γ : GX} {E : EX} (C : Cx Γ E cX10_fault RX10 2) (hr : Γ.meth.sig.returnType = (some .int)) (hrm : Γ.rm = rmX10_fault) (th : Nat) (p1 : Int32) (m : MM) : Sm (QM Γ E emI 0 0) Γ E 2 0 0 0 [(0, va_rf (some th)), (1, .int p1)] [] m (g_X10_fault_0 th p1 m) := by
  unfold g_X10_fault_0
  refine z_aload_n C dX10_fault_0 rfl 0 rfl ?_
  refine z_iconst (v := 0) C dX10_fault_1 (by decide) ?_
  refine z_chk (fun hk1 => ?_)
  refine z_putI C fl_RX10_180 (fun h => by cases h) rfl hk1 rfl rfl dX10_fault_2 (fun m1 eK1 eN1 => ?_)
  refine z_iload_n C dX10_fault_5 rfl 1 rfl ?_
  refine z_if_ne (tgt := 18) C dX10_fault_6 (by decide) (fun c1 => ?_) (fun c1 => ?_)
  · refine z_iload_n C dX10_fault_18 rfl 1 rfl ?_
    refine z_iconst (v := 1) C dX10_fault_19 (by decide) ?_
    refine z_icmp_ne (tgt := 32) C dX10_fault_20 (by decide) (fun c2 => ?_) (fun c2 => ?_)
    · refine z_iconst (v := (-1)) C dX10_fault_32 (by decide) ?_
      exact z_iret C hr dX10_fault_33
    · refine z_aload_n C dX10_fault_23 rfl 0 rfl ?_
      refine z_getR C fl_RX10_20 rfl (kfw eK1 hk1) dX10_fault_24 ?_
      refine z_iconst (v := 0) C dX10_fault_27 (by decide) ?_
      refine z_ck (fun a1 hr1 hk2 => ?_)
      refine z_chk (fun hj1 => ?_)
      refine z_iald C hr1 hk2 hj1 dX10_fault_28 ?_
      refine z_goto (tgt := 33) C dX10_fault_29 (by decide) ?_
      exact z_iret C hr dX10_fault_33
  · refine z_aload_n C dX10_fault_9 rfl 0 rfl ?_
    refine z_getR C fl_RX10_17 rfl (kfw eK1 hk1) dX10_fault_10 ?_
    refine z_iconst (v := 0) C dX10_fault_13 (by decide) ?_
    refine z_ck (fun a2 hr2 hk3 => ?_)
    refine z_chk (fun hj2 => ?_)
    refine z_iald C hr2 hk3 hj2 dX10_fault_14 ?_
    refine z_goto (tgt := 33) C dX10_fault_15 (by decide) ?_
    exact z_iret C hr dX10_fault_33
def f_X10_fault (th : Nat) (p1 : Int32) (m : MM) : Option (Int32 × MM) := g_X10_fault_0 th p1 m
theorem M_X10_fault (l : Launch) (E : EX) (th : Nat) (p1 : Int32) (m : MM) (r : Int32) (m2 : MM) (h : f_X10_fault th p1 m = some (r, m2)) : Met l yX10_fault (.code yX10_fault cX10_fault 2 (some .int) :: TB) rmX10_fault (va_Pc [.ref th, .int p1] (St E m)) (QR E (emI r) m2) 0 0 (AA E) :=
  met_of (em := emI) (plainFor_of_name rfl) (Nat.le_of_ble_eq_true rfl) (L0 := [(0, va_rf (some th)), (1, .int p1)]) rfl (fun Γ _ hrm C hr hn => s_X10_fault_0 C hr hrm th p1 m) h

theorem dX10_about_0 : decode cX10_about 0 = .ok (.aload_n 0, 1) := by decide +kernel
theorem dX10_about_1 : decode cX10_about 1 = .ok (.iconst 0, 1) := by decide +kernel
theorem dX10_about_2 : decode cX10_about 2 = .ok (.putfield 180, 3) := by decide +kernel
theorem dX10_about_5 : decode cX10_about 5 = .ok (.aload_n 0, 1) := by decide +kernel
theorem dX10_about_6 : decode cX10_about 6 = .ok (.iload_n 1, 1) := by decide +kernel
theorem dX10_about_7 : decode cX10_about 7 = .ok (.invokevirtual 192, 3) := by decide +kernel
theorem dX10_about_10 : decode cX10_about 10 = .ok (.ifCond .ne 7, 3) := by decide +kernel
theorem dX10_about_13 : decode cX10_about 13 = .ok (.sipush (-10000), 3) := by decide +kernel
theorem dX10_about_16 : decode cX10_about 16 = .ok (.ireturn, 1) := by decide +kernel
theorem dX10_about_17 : decode cX10_about 17 = .ok (.iload_n 2, 1) := by decide +kernel
theorem dX10_about_18 : decode cX10_about 18 = .ok (.iconst 0, 1) := by decide +kernel
theorem dX10_about_19 : decode cX10_about 19 = .ok (.bipush 9, 2) := by decide +kernel
theorem dX10_about_21 : decode cX10_about 21 = .ok (.invokestatic 188, 3) := by decide +kernel
theorem dX10_about_24 : decode cX10_about 24 = .ok (.ifCond .eq 10, 3) := by decide +kernel
theorem dX10_about_27 : decode cX10_about 27 = .ok (.aload_n 0, 1) := by decide +kernel
theorem dX10_about_28 : decode cX10_about 28 = .ok (.iload_n 1, 1) := by decide +kernel
theorem dX10_about_29 : decode cX10_about 29 = .ok (.iload_n 2, 1) := by decide +kernel
theorem dX10_about_30 : decode cX10_about 30 = .ok (.invokevirtual 196, 3) := by decide +kernel
theorem dX10_about_33 : decode cX10_about 33 = .ok (.ireturn, 1) := by decide +kernel
theorem dX10_about_34 : decode cX10_about 34 = .ok (.iload_n 2, 1) := by decide +kernel
theorem dX10_about_35 : decode cX10_about 35 = .ok (.bipush 20, 2) := by decide +kernel
theorem dX10_about_37 : decode cX10_about 37 = .ok (.bipush 27, 2) := by decide +kernel
theorem dX10_about_39 : decode cX10_about 39 = .ok (.invokestatic 188, 3) := by decide +kernel
theorem dX10_about_42 : decode cX10_about 42 = .ok (.ifCond .eq 16, 3) := by decide +kernel
theorem dX10_about_45 : decode cX10_about 45 = .ok (.aload_n 0, 1) := by decide +kernel
theorem dX10_about_46 : decode cX10_about 46 = .ok (.iload_n 1, 1) := by decide +kernel
theorem dX10_about_47 : decode cX10_about 47 = .ok (.bipush 10, 2) := by decide +kernel
theorem dX10_about_49 : decode cX10_about 49 = .ok (.iload_n 2, 1) := by decide +kernel
theorem dX10_about_50 : decode cX10_about 50 = .ok (.iadd, 1) := by decide +kernel
theorem dX10_about_51 : decode cX10_about 51 = .ok (.bipush 20, 2) := by decide +kernel
theorem dX10_about_53 : decode cX10_about 53 = .ok (.isub, 1) := by decide +kernel
theorem dX10_about_54 : decode cX10_about 54 = .ok (.invokevirtual 196, 3) := by decide +kernel
theorem dX10_about_57 : decode cX10_about 57 = .ok (.ireturn, 1) := by decide +kernel
theorem dX10_about_58 : decode cX10_about 58 = .ok (.iload_n 2, 1) := by decide +kernel
theorem dX10_about_59 : decode cX10_about 59 = .ok (.bipush 30, 2) := by decide +kernel
theorem dX10_about_61 : decode cX10_about 61 = .ok (.bipush 35, 2) := by decide +kernel
theorem dX10_about_63 : decode cX10_about 63 = .ok (.invokestatic 188, 3) := by decide +kernel
theorem dX10_about_66 : decode cX10_about 66 = .ok (.ifCond .eq 18, 3) := by decide +kernel
theorem dX10_about_69 : decode cX10_about 69 = .ok (.aload_n 0, 1) := by decide +kernel
theorem dX10_about_70 : decode cX10_about 70 = .ok (.iload_n 1, 1) := by decide +kernel
theorem dX10_about_71 : decode cX10_about 71 = .ok (.bipush 18, 2) := by decide +kernel
theorem dX10_about_73 : decode cX10_about 73 = .ok (.iload_n 2, 1) := by decide +kernel
theorem dX10_about_74 : decode cX10_about 74 = .ok (.iadd, 1) := by decide +kernel
theorem dX10_about_75 : decode cX10_about 75 = .ok (.bipush 30, 2) := by decide +kernel
theorem dX10_about_77 : decode cX10_about 77 = .ok (.isub, 1) := by decide +kernel
theorem dX10_about_78 : decode cX10_about 78 = .ok (.invokevirtual 196, 3) := by decide +kernel
theorem dX10_about_81 : decode cX10_about 81 = .ok (.goto 6, 3) := by decide +kernel
theorem dX10_about_84 : decode cX10_about 84 = .ok (.sipush (-10000), 3) := by decide +kernel
theorem dX10_about_87 : decode cX10_about 87 = .ok (.ireturn, 1) := by decide +kernel
def rmX10_about : Room := { frames := 2, cells := 0, slots := 0, locals := 43 }
set_option maxRecDepth 100000 in
def g_X10_about_0 (th : Nat) (p1 : Int32) (p2 : Int32) (m : MM) : Option (Int32 × MM) :=
  chk (m.K th = 11) (bnd (m.sI 1100 th 0 0) (fun m1 => cal (f_X10_isTown th p1 m1) (fun r1 m2 => if r1 = 0 then (some ((-10000), m2)) else (cal (f_X10_in p2 0 9 m2) (fun r2 m3 => if r2 = 0 then (cal (f_X10_in p2 20 27 m3) (fun r3 m4 => if r3 = 0 then (cal (f_X10_in p2 30 35 m4) (fun r4 m5 => if r4 = 0 then (some ((-10000), m5)) else (chk (m5.K th = 11) (cal (f_X10_of th p1 ((18 + p2) - 30) m5) (fun r5 m6 => some (r5, m6)))))) else (chk (m4.K th = 11) (cal (f_X10_of th p1 ((10 + p2) - 20) m4) (fun r6 m7 => some (r6, m7)))))) else (chk (m3.K th = 11) (cal (f_X10_of th p1 p2 m3) (fun r7 m8 => some (r7, m8)))))))))
set_option maxHeartbeats 4000000 in
set_option maxRecDepth 100000 in
theorem s_X10_about_0 {Γ : GX} {E : EX} (C : Cx Γ E cX10_about RX10 3) (hr : Γ.meth.sig.returnType = (some .int)) (hrm : Γ.rm = rmX10_about) (th : Nat) (p1 : Int32) (p2 : Int32) (m : MM) : Sm (QM Γ E emI 0 0) Γ E 3 0 0 0 [(0, va_rf (some th)), (1, .int p1), (2, .int p2)] [] m (g_X10_about_0 th p1 p2 m) := by
  unfold g_X10_about_0
  refine z_aload_n C dX10_about_0 rfl 0 rfl ?_
  refine z_iconst (v := 0) C dX10_about_1 (by decide) ?_
  refine z_chk (fun hk1 => ?_)
  refine z_putI C fl_RX10_180 (fun h => by cases h) rfl hk1 rfl rfl dX10_about_2 (fun m1 eK1 eN1 => ?_)
  refine z_aload_n C dX10_about_5 rfl 0 rfl ?_
  refine z_iload_n C dX10_about_6 rfl 1 rfl ?_
  refine z_cVI [.int p1] [] C mv_RX10_192 (fun r0 m0 h0 => M_X10_isTown _ _ _ _ _ _ _ h0) rfl rfl ⟨by rw [hrm]; exact Nat.le_of_ble_eq_true rfl, by rw [hrm]; exact Nat.le_of_ble_eq_true rfl⟩ ⟨by rw [hrm]; exact Nat.le_of_ble_eq_true rfl, by rw [hrm]; exact Nat.le_of_ble_eq_true rfl⟩ rfl (kfw eK1 hk1) rfl rfl rfl (Nat.le_of_ble_eq_true rfl) dX10_about_7 (fun r1 m2 => ?_)
  refine z_if_ne (tgt := 17) C dX10_about_10 (by decide) (fun c1 => ?_) (fun c1 => ?_)
  · refine z_iload_n C dX10_about_17 rfl 2 rfl ?_
    refine z_iconst (v := 0) C dX10_about_18 (by decide) ?_
    refine z_bipush (v := 9) C dX10_about_19 (by decide) ?_
    refine z_cSI [.int p2, .int 0, .int 9] [] C mv_RX10_188 (fun r0 m0 h0 => M_X10_in _ _ _ _ _ _ _ _ h0) rfl rfl ⟨by rw [hrm]; exact Nat.le_of_ble_eq_true rfl, by rw [hrm]; exact Nat.le_of_ble_eq_true rfl⟩ ⟨by rw [hrm]; exact Nat.le_of_ble_eq_true rfl, by rw [hrm]; exact Nat.le_of_ble_eq_true rfl⟩ rfl rfl (Nat.le_of_ble_eq_true rfl) dX10_about_21 (fun r2 m3 => ?_)
    refine z_if_eq (tgt := 34) C dX10_about_24 (by decide) (fun c2 => ?_) (fun c2 => ?_)
    · refine z_iload_n C dX10_about_34 rfl 2 rfl ?_
      refine z_bipush (v := 20) C dX10_about_35 (by decide) ?_
      refine z_bipush (v := 27) C dX10_about_37 (by decide) ?_
      refine z_cSI [.int p2, .int 20, .int 27] [] C mv_RX10_188 (fun r0 m0 h0 => M_X10_in _ _ _ _ _ _ _ _ h0) rfl rfl ⟨by rw [hrm]; exact Nat.le_of_ble_eq_true rfl, by rw [hrm]; exact Nat.le_of_ble_eq_true rfl⟩ ⟨by rw [hrm]; exact Nat.le_of_ble_eq_true rfl, by rw [hrm]; exact Nat.le_of_ble_eq_true rfl⟩ rfl rfl (Nat.le_of_ble_eq_true rfl) dX10_about_39 (fun r3 m4 => ?_)
      refine z_if_eq (tgt := 58) C dX10_about_42 (by decide) (fun c3 => ?_) (fun c3 => ?_)
      · refine z_iload_n C dX10_about_58 rfl 2 rfl ?_
        refine z_bipush (v := 30) C dX10_about_59 (by decide) ?_
        refine z_bipush (v := 35) C dX10_about_61 (by decide) ?_
        refine z_cSI [.int p2, .int 30, .int 35] [] C mv_RX10_188 (fun r0 m0 h0 => M_X10_in _ _ _ _ _ _ _ _ h0) rfl rfl ⟨by rw [hrm]; exact Nat.le_of_ble_eq_true rfl, by rw [hrm]; exact Nat.le_of_ble_eq_true rfl⟩ ⟨by rw [hrm]; exact Nat.le_of_ble_eq_true rfl, by rw [hrm]; exact Nat.le_of_ble_eq_true rfl⟩ rfl rfl (Nat.le_of_ble_eq_true rfl) dX10_about_63 (fun r4 m5 => ?_)
        refine z_if_eq (tgt := 84) C dX10_about_66 (by decide) (fun c4 => ?_) (fun c4 => ?_)
        · refine z_sipush (v := (-10000)) C dX10_about_84 (by decide) ?_
          exact z_iret C hr dX10_about_87
        · refine z_aload_n C dX10_about_69 rfl 0 rfl ?_
          refine z_iload_n C dX10_about_70 rfl 1 rfl ?_
          refine z_bipush (v := 18) C dX10_about_71 (by decide) ?_
          refine z_iload_n C dX10_about_73 rfl 2 rfl ?_
          refine z_iadd C dX10_about_74 ?_
          refine z_bipush (v := 30) C dX10_about_75 (by decide) ?_
          refine z_isub C dX10_about_77 ?_
          refine z_chk (fun hk2 => ?_)
          refine z_cVI [.int p1, .int ((18 + p2) - 30)] [] C mv_RX10_196 (fun r0 m0 h0 => M_X10_of _ _ _ _ _ _ _ _ h0) rfl rfl ⟨by rw [hrm]; exact Nat.le_of_ble_eq_true rfl, by rw [hrm]; exact Nat.le_of_ble_eq_true rfl⟩ ⟨by rw [hrm]; exact Nat.le_of_ble_eq_true rfl, by rw [hrm]; exact Nat.le_of_ble_eq_true rfl⟩ rfl hk2 rfl rfl rfl (Nat.le_of_ble_eq_true rfl) dX10_about_78 (fun r5 m6 => ?_)
          refine z_goto (tgt := 87) C dX10_about_81 (by decide) ?_
          exact z_iret C hr dX10_about_87
      · refine z_aload_n C dX10_about_45 rfl 0 rfl ?_
        refine z_iload_n C dX10_about_46 rfl 1 rfl ?_
        refine z_bipush (v := 10) C dX10_about_47 (by decide) ?_
        refine z_iload_n C dX10_about_49 rfl 2 rfl ?_
        refine z_iadd C dX10_about_50 ?_
        refine z_bipush (v := 20) C dX10_about_51 (by decide) ?_
        refine z_isub C dX10_about_53 ?_
        refine z_chk (fun hk3 => ?_)
        refine z_cVI [.int p1, .int ((10 + p2) - 20)] [] C mv_RX10_196 (fun r0 m0 h0 => M_X10_of _ _ _ _ _ _ _ _ h0) rfl rfl ⟨by rw [hrm]; exact Nat.le_of_ble_eq_true rfl, by rw [hrm]; exact Nat.le_of_ble_eq_true rfl⟩ ⟨by rw [hrm]; exact Nat.le_of_ble_eq_true rfl, by rw [hrm]; exact Nat.le_of_ble_eq_true rfl⟩ rfl hk3 rfl rfl rfl (Nat.le_of_ble_eq_true rfl) dX10_about_54 (fun r6 m7 => ?_)
        exact z_iret C hr dX10_about_57
    · refine z_aload_n C dX10_about_27 rfl 0 rfl ?_
      refine z_iload_n C dX10_about_28 rfl 1 rfl ?_
      refine z_iload_n C dX10_about_29 rfl 2 rfl ?_
      refine z_chk (fun hk4 => ?_)
      refine z_cVI [.int p1, .int p2] [] C mv_RX10_196 (fun r0 m0 h0 => M_X10_of _ _ _ _ _ _ _ _ h0) rfl rfl ⟨by rw [hrm]; exact Nat.le_of_ble_eq_true rfl, by rw [hrm]; exact Nat.le_of_ble_eq_true rfl⟩ ⟨by rw [hrm]; exact Nat.le_of_ble_eq_true rfl, by rw [hrm]; exact Nat.le_of_ble_eq_true rfl⟩ rfl hk4 rfl rfl rfl (Nat.le_of_ble_eq_true rfl) dX10_about_30 (fun r7 m8 => ?_)
      exact z_iret C hr dX10_about_33
  · refine z_sipush (v := (-10000)) C dX10_about_13 (by decide) ?_
    exact z_iret C hr dX10_about_16
def f_X10_about (th : Nat) (p1 : Int32) (p2 : Int32) (m : MM) : Option (Int32 × MM) := g_X10_about_0 th p1 p2 m
theorem M_X10_about (l : Launch) (E : EX) (th : Nat) (p1 : Int32) (p2 : Int32) (m : MM) (r : Int32) (m2 : MM) (h : f_X10_about th p1 p2 m = some (r, m2)) : Met l yX10_about (.code yX10_about cX10_about 3 (some .int) :: TB) rmX10_about (va_Pc [.ref th, .int p1, .int p2] (St E m)) (QR E (emI r) m2) 0 0 (AA E) :=
  met_of (em := emI) (plainFor_of_name rfl) (Nat.le_of_ble_eq_true rfl) (L0 := [(0, va_rf (some th)), (1, .int p1), (2, .int p2)]) rfl (fun Γ _ hrm C hr hn => s_X10_about_0 C hr hrm th p1 p2 m) h
