theorem dX9_spots_0 : decode cX9_spots 0 = .ok (.iload 4, 2) := by decide +kernel
theorem dX9_spots_2 : decode cX9_spots 2 = .ok (.invokestatic 191, 3) := by decide +kernel
theorem dX9_spots_5 : decode cX9_spots 5 = .ok (.ifCond .eq 21, 3) := by decide +kernel
theorem dX9_spots_8 : decode cX9_spots 8 = .ok (.iload 5, 2) := by decide +kernel
theorem dX9_spots_10 : decode cX9_spots 10 = .ok (.invokestatic 204, 3) := by decide +kernel
theorem dX9_spots_13 : decode cX9_spots 13 = .ok (.ifCond .eq 13, 3) := by decide +kernel
theorem dX9_spots_16 : decode cX9_spots 16 = .ok (.aload_n 0, 1) := by decide +kernel
theorem dX9_spots_17 : decode cX9_spots 17 = .ok (.iload_n 1, 1) := by decide +kernel
theorem dX9_spots_18 : decode cX9_spots 18 = .ok (.iload_n 2, 1) := by decide +kernel
theorem dX9_spots_19 : decode cX9_spots 19 = .ok (.iload_n 3, 1) := by decide +kernel
theorem dX9_spots_20 : decode cX9_spots 20 = .ok (.invokevirtual 247, 3) := by decide +kernel
theorem dX9_spots_23 : decode cX9_spots 23 = .ok (.ifCond .ne 5, 3) := by decide +kernel
theorem dX9_spots_26 : decode cX9_spots 26 = .ok (.iconst (-1), 1) := by decide +kernel
theorem dX9_spots_27 : decode cX9_spots 27 = .ok (.ireturn, 1) := by decide +kernel
theorem dX9_spots_28 : decode cX9_spots 28 = .ok (.aload_n 0, 1) := by decide +kernel
theorem dX9_spots_29 : decode cX9_spots 29 = .ok (.getfield 46, 3) := by decide +kernel
theorem dX9_spots_32 : decode cX9_spots 32 = .ok (.iload 4, 2) := by decide +kernel
theorem dX9_spots_34 : decode cX9_spots 34 = .ok (.iload 5, 2) := by decide +kernel
theorem dX9_spots_36 : decode cX9_spots 36 = .ok (.invokevirtual 287, 3) := by decide +kernel
theorem dX9_spots_39 : decode cX9_spots 39 = .ok (.invokestatic 291, 3) := by decide +kernel
theorem dX9_spots_42 : decode cX9_spots 42 = .ok (.ireturn, 1) := by decide +kernel
def rmX9_spots : Room := { frames := 7, cells := 0, slots := 0, locals := 190 }
set_option maxRecDepth 100000 in
def g_X9_spots_0 (th : Nat) (p1 : Int32) (p2 : Int32) (p3 : Int32) (p4 : Int32) (p5 : Int32) (m : MM) : Option (Int32 × MM) :=
  cal (f_X9_isKind p4 m) (fun r1 m1 => if r1 = 0 then (some ((-1), m1)) else (cal (f_X9_isFacing p5 m1) (fun r2 m2 => if r2 = 0 then (some ((-1), m2)) else (chk (m2.K th = 10) (cal (f_X9_opened th p1 p2 p3 m2) (fun r3 m3 => if r3 = 0 then (some ((-1), m3)) else (chk (m3.K th = 10) (ck m3 (m3.R 1005 th 0) 4 (fun a1 => cal (f_X3_spotsFor a1 p4 p5 m3) (fun r4 m4 => cal (f_J13_bitCount_95d88 r4 m4) (fun r5 m5 => some (r5, m5))))))))))))
set_option maxHeartbeats 4000000 in
set_option maxRecDepth 100000 in
theorem s_X9_spots_0 {Γ : GX} {E : EX} (C : Cx Γ E cX9_spots RX9 6) (hr : Γ.meth.sig.returnType = (some .int)) (hrm : Γ.rm = rmX9_spots) (th : Nat) (p1 : Int32) (p2 : Int32) (p3 : Int32) (p4 : Int32) (p5 : Int32) (m : MM) : Sm (QM Γ E emI 0 0) Γ E 6 0 0 0 [(0, va_rf (some th)), (1, .int p1), (2, .int p2), (3, .int p3), (4, .int p4), (5, .int p5)] [] m (g_X9_spots_0 th p1 p2 p3 p4 p5 m) := by
  unfold g_X9_spots_0
  refine z_iload C dX9_spots_0 4 rfl ?_
  refine z_cSI [.int p4] [] C mv_RX9_191 (fun r0 m0 h0 => M_X9_isKind _ _ _ _ _ _ h0) rfl rfl ⟨by rw [hrm]; exact Nat.le_of_ble_eq_true rfl, by rw [hrm]; exact Nat.le_of_ble_eq_true rfl⟩ ⟨by rw [hrm]; exact Nat.le_of_ble_eq_true rfl, by rw [hrm]; exact Nat.le_of_ble_eq_true rfl⟩ rfl rfl (Nat.le_of_ble_eq_true rfl) dX9_spots_2 (fun r1 m1 => ?_)
  refine z_if_eq (tgt := 26) C dX9_spots_5 (by decide) (fun c1 => ?_) (fun c1 => ?_)
  · refine z_iconst (v := (-1)) C dX9_spots_26 (by decide) ?_
    exact z_iret C hr dX9_spots_27
  · refine z_iload C dX9_spots_8 5 rfl ?_
    refine z_cSI [.int p5] [] C mv_RX9_204 (fun r0 m0 h0 => M_X9_isFacing _ _ _ _ _ _ h0) rfl rfl ⟨by rw [hrm]; exact Nat.le_of_ble_eq_true rfl, by rw [hrm]; exact Nat.le_of_ble_eq_true rfl⟩ ⟨by rw [hrm]; exact Nat.le_of_ble_eq_true rfl, by rw [hrm]; exact Nat.le_of_ble_eq_true rfl⟩ rfl rfl (Nat.le_of_ble_eq_true rfl) dX9_spots_10 (fun r2 m2 => ?_)
    refine z_if_eq (tgt := 26) C dX9_spots_13 (by decide) (fun c2 => ?_) (fun c2 => ?_)
    · refine z_iconst (v := (-1)) C dX9_spots_26 (by decide) ?_
      exact z_iret C hr dX9_spots_27
    · refine z_aload_n C dX9_spots_16 rfl 0 rfl ?_
      refine z_iload_n C dX9_spots_17 rfl 1 rfl ?_
      refine z_iload_n C dX9_spots_18 rfl 2 rfl ?_
      refine z_iload_n C dX9_spots_19 rfl 3 rfl ?_
      refine z_chk (fun hk1 => ?_)
      refine z_cVI [.int p1, .int p2, .int p3] [] C mv_RX9_247 (fun r0 m0 h0 => M_X9_opened _ _ _ _ _ _ _ _ _ h0) rfl rfl ⟨by rw [hrm]; exact Nat.le_of_ble_eq_true rfl, by rw [hrm]; exact Nat.le_of_ble_eq_true rfl⟩ ⟨by rw [hrm]; exact Nat.le_of_ble_eq_true rfl, by rw [hrm]; exact Nat.le_of_ble_eq_true rfl⟩ rfl hk1 rfl rfl rfl (Nat.le_of_ble_eq_true rfl) dX9_spots_20 (fun r3 m3 => ?_)
      refine z_if_ne (tgt := 28) C dX9_spots_23 (by decide) (fun c3 => ?_) (fun c3 => ?_)
      · refine z_aload_n C dX9_spots_28 rfl 0 rfl ?_
        refine z_chk (fun hk2 => ?_)
        refine z_getR C fl_RX9_46 rfl hk2 dX9_spots_29 ?_
        refine z_iload C dX9_spots_32 4 rfl ?_
        refine z_iload C dX9_spots_34 5 rfl ?_
        refine z_ck (fun a1 hr1 hk3 => ?_)
        refine z_cVJ [.int p4, .int p5] [] C mv_RX9_287 (fun r0 m0 h0 => M_X3_spotsFor _ _ _ _ _ _ _ _ h0) rfl rfl ⟨by rw [hrm]; exact Nat.le_of_ble_eq_true rfl, by rw [hrm]; exact Nat.le_of_ble_eq_true rfl⟩ ⟨by rw [hrm]; exact Nat.le_of_ble_eq_true rfl, by rw [hrm]; exact Nat.le_of_ble_eq_true rfl⟩ hr1 hk3 rfl rfl rfl (Nat.le_of_ble_eq_true rfl) dX9_spots_36 (fun r4 m4 => ?_)
        refine z_cSI [.long r4] [] C mv_RX9_291 (fun r0 m0 h0 => M_J13_bitCount_95d88 _ _ _ _ _ _ h0) rfl rfl ⟨by rw [hrm]; exact Nat.le_of_ble_eq_true rfl, by rw [hrm]; exact Nat.le_of_ble_eq_true rfl⟩ ⟨by rw [hrm]; exact Nat.le_of_ble_eq_true rfl, by rw [hrm]; exact Nat.le_of_ble_eq_true rfl⟩ rfl rfl (Nat.le_of_ble_eq_true rfl) dX9_spots_39 (fun r5 m5 => ?_)
        exact z_iret C hr dX9_spots_42
      · refine z_iconst (v := (-1)) C dX9_spots_26 (by decide) ?_
        exact z_iret C hr dX9_spots_27
def f_X9_spots (th : Nat) (p1 : Int32) (p2 : Int32) (p3 : Int32) (p4 : Int32) (p5 : Int32) (m : MM) : Option (Int32 × MM) := g_X9_spots_0 th p1 p2 p3 p4 p5 m
theorem M_X9_spots (l : Launch) (E : EX) (th : Nat) (p1 : Int32) (p2 : Int32) (p3 : Int32) (p4 : Int32) (p5 : Int32) (m : MM) (r : Int32) (m2 : MM) (h : f_X9_spots th p1 p2 p3 p4 p5 m = some (r, m2)) : Met l yX9_spots (.code yX9_spots cX9_spots 6 (some .int) :: TB) rmX9_spots (va_Pc [.ref th, .int p1, .int p2, .int p3, .int p4, .int p5] (St E m)) (QR E (emI r) m2) 0 0 (AA E) :=
  met_of (em := emI) (plainFor_of_name rfl) (Nat.le_of_ble_eq_true rfl) (L0 := [(0, va_rf (some th)), (1, .int p1), (2, .int p2), (3, .int p3), (4, .int p4), (5, .int p5)]) rfl (fun Γ _ hrm C hr hn => s_X9_spots_0 C hr hrm th p1 p2 p3 p4 p5 m) h

theorem dX9_spot_0 : decode cX9_spot 0 = .ok (.iload 6, 2) := by decide +kernel
theorem dX9_spot_2 : decode cX9_spot 2 = .ok (.ifCond .lt 29, 3) := by decide +kernel
theorem dX9_spot_5 : decode cX9_spot 5 = .ok (.iload 4, 2) := by decide +kernel
theorem dX9_spot_7 : decode cX9_spot 7 = .ok (.invokestatic 191, 3) := by decide +kernel
theorem dX9_spot_10 : decode cX9_spot 10 = .ok (.ifCond .eq 21, 3) := by decide +kernel
theorem dX9_spot_13 : decode cX9_spot 13 = .ok (.iload 5, 2) := by decide +kernel
theorem dX9_spot_15 : decode cX9_spot 15 = .ok (.invokestatic 204, 3) := by decide +kernel
theorem dX9_spot_18 : decode cX9_spot 18 = .ok (.ifCond .eq 13, 3) := by decide +kernel
theorem dX9_spot_21 : decode cX9_spot 21 = .ok (.aload_n 0, 1) := by decide +kernel
theorem dX9_spot_22 : decode cX9_spot 22 = .ok (.iload_n 1, 1) := by decide +kernel
theorem dX9_spot_23 : decode cX9_spot 23 = .ok (.iload_n 2, 1) := by decide +kernel
theorem dX9_spot_24 : decode cX9_spot 24 = .ok (.iload_n 3, 1) := by decide +kernel
theorem dX9_spot_25 : decode cX9_spot 25 = .ok (.invokevirtual 247, 3) := by decide +kernel
theorem dX9_spot_28 : decode cX9_spot 28 = .ok (.ifCond .ne 5, 3) := by decide +kernel
theorem dX9_spot_31 : decode cX9_spot 31 = .ok (.iconst (-1), 1) := by decide +kernel
theorem dX9_spot_32 : decode cX9_spot 32 = .ok (.ireturn, 1) := by decide +kernel
theorem dX9_spot_33 : decode cX9_spot 33 = .ok (.aload_n 0, 1) := by decide +kernel
theorem dX9_spot_34 : decode cX9_spot 34 = .ok (.getfield 46, 3) := by decide +kernel
theorem dX9_spot_37 : decode cX9_spot 37 = .ok (.iload 4, 2) := by decide +kernel
theorem dX9_spot_39 : decode cX9_spot 39 = .ok (.iload 5, 2) := by decide +kernel
theorem dX9_spot_41 : decode cX9_spot 41 = .ok (.invokevirtual 287, 3) := by decide +kernel
theorem dX9_spot_44 : decode cX9_spot 44 = .ok (.lstore 7, 2) := by decide +kernel
theorem dX9_spot_46 : decode cX9_spot 46 = .ok (.iconst 0, 1) := by decide +kernel
theorem dX9_spot_47 : decode cX9_spot 47 = .ok (.istore 9, 2) := by decide +kernel
theorem dX9_spot_49 : decode cX9_spot 49 = .ok (.iconst 0, 1) := by decide +kernel
theorem dX9_spot_50 : decode cX9_spot 50 = .ok (.istore 10, 2) := by decide +kernel
theorem dX9_spot_52 : decode cX9_spot 52 = .ok (.iload 10, 2) := by decide +kernel
theorem dX9_spot_54 : decode cX9_spot 54 = .ok (.bipush 64, 2) := by decide +kernel
theorem dX9_spot_56 : decode cX9_spot 56 = .ok (.if_icmp .ge 37, 3) := by decide +kernel
theorem dX9_spot_59 : decode cX9_spot 59 = .ok (.lload 7, 2) := by decide +kernel
theorem dX9_spot_61 : decode cX9_spot 61 = .ok (.iload 10, 2) := by decide +kernel
theorem dX9_spot_63 : decode cX9_spot 63 = .ok (.lshr, 1) := by decide +kernel
theorem dX9_spot_64 : decode cX9_spot 64 = .ok (.lconst 1, 1) := by decide +kernel
theorem dX9_spot_65 : decode cX9_spot 65 = .ok (.land, 1) := by decide +kernel
theorem dX9_spot_66 : decode cX9_spot 66 = .ok (.lconst 0, 1) := by decide +kernel
theorem dX9_spot_67 : decode cX9_spot 67 = .ok (.lcmp, 1) := by decide +kernel
theorem dX9_spot_68 : decode cX9_spot 68 = .ok (.ifCond .ne 6, 3) := by decide +kernel
theorem dX9_spot_71 : decode cX9_spot 71 = .ok (.goto 16, 3) := by decide +kernel
theorem dX9_spot_74 : decode cX9_spot 74 = .ok (.iload 9, 2) := by decide +kernel
theorem dX9_spot_76 : decode cX9_spot 76 = .ok (.iload 6, 2) := by decide +kernel
theorem dX9_spot_78 : decode cX9_spot 78 = .ok (.if_icmp .ne 6, 3) := by decide +kernel
theorem dX9_spot_81 : decode cX9_spot 81 = .ok (.iload 10, 2) := by decide +kernel
theorem dX9_spot_83 : decode cX9_spot 83 = .ok (.ireturn, 1) := by decide +kernel
theorem dX9_spot_84 : decode cX9_spot 84 = .ok (.iinc 9 1, 3) := by decide +kernel
theorem dX9_spot_87 : decode cX9_spot 87 = .ok (.iinc 10 1, 3) := by decide +kernel
theorem dX9_spot_90 : decode cX9_spot 90 = .ok (.goto (-38), 3) := by decide +kernel
theorem dX9_spot_93 : decode cX9_spot 93 = .ok (.iconst (-1), 1) := by decide +kernel
theorem dX9_spot_94 : decode cX9_spot 94 = .ok (.ireturn, 1) := by decide +kernel
def rmX9_spot : Room := { frames := 7, cells := 0, slots := 0, locals := 190 }
set_option maxRecDepth 100000 in
def g_X9_spot_87 (th : Nat) (p1 : Int32) (p2 : Int32) (p3 : Int32) (p4 : Int32) (p5 : Int32) (p6 : Int32) (k52 : Int64 → Int32 → Int32 → MM → Option (Int32 × MM)) (x7 : Int64) (x9 : Int32) (x10 : Int32) (m : MM) : Option (Int32 × MM) :=
  k52 x7 x9 (x10 + 1) m
set_option maxHeartbeats 4000000 in
set_option maxRecDepth 100000 in
theorem s_X9_spot_87 {Γ : GX} {E : EX} (C : Cx Γ E cX9_spot RX9 11) (hr : Γ.meth.sig.returnType = (some .int)) (hrm : Γ.rm = rmX9_spot) (th : Nat) (p1 : Int32) (p2 : Int32) (p3 : Int32) (p4 : Int32) (p5 : Int32) (p6 : Int32) (k52 : Int64 → Int32 → Int32 → MM → Option (Int32 × MM)) (h52 : ∀ (x7 : Int64) (x9 : Int32) (x10 : Int32) (m : MM), Sm (QM Γ E emI 0 0) Γ E 11 0 0 52 [(0, va_rf (some th)), (1, .int p1), (2, .int p2), (3, .int p3), (4, .int p4), (5, .int p5), (6, .int p6), (7, .long x7), (9, .int x9), (10, .int x10)] [] m (k52 x7 x9 x10 m)) (x7 : Int64) (x9 : Int32) (x10 : Int32) (m : MM) : Sm (QM Γ E emI 0 0) Γ E 11 0 0 87 [(0, va_rf (some th)), (1, .int p1), (2, .int p2), (3, .int p3), (4, .int p4), (5, .int p5), (6, .int p6), (7, .long x7), (9, .int x9), (10, .int x10)] [] m (g_X9_spot_87 th p1 p2 p3 p4 p5 p6 k52 x7 x9 x10 m) := by
  unfold g_X9_spot_87
  refine z_iinc (v := 1) (L2 := [(10, .int (x10 + 1)), (0, va_rf (some th)), (1, .int p1), (2, .int p2), (3, .int p3), (4, .int p4), (5, .int p5), (6, .int p6), (7, .long x7), (9, .int x9)]) C dX9_spot_87 9 rfl (by decide) (by decide) rfl ?_
  refine z_goto (tgt := 52) C dX9_spot_90 (by decide) ?_
  exact z_sub [1, 2, 3, 4, 5, 6, 7, 8, 9, 0] rfl (h52 x7 x9 (x10 + 1) m)
set_option maxRecDepth 100000 in
def g_X9_spot_52 (th : Nat) (p1 : Int32) (p2 : Int32) (p3 : Int32) (p4 : Int32) (p5 : Int32) (p6 : Int32) (k52 : Int64 → Int32 → Int32 → MM → Option (Int32 × MM)) (x7 : Int64) (x9 : Int32) (x10 : Int32) (m : MM) : Option (Int32 × MM) :=
  if 64 ≤ x10 then (some ((-1), m)) else (if (lg_cmp ((x7 >>> (Int32.toInt64 x10 &&& 63)) &&& 1) 0) = 0 then (g_X9_spot_87 th p1 p2 p3 p4 p5 p6 k52 x7 x9 x10 m) else (if x9 = p6 then (some (x10, m)) else (g_X9_spot_87 th p1 p2 p3 p4 p5 p6 k52 x7 (x9 + 1) x10 m)))
set_option maxHeartbeats 4000000 in
set_option maxRecDepth 100000 in
theorem s_X9_spot_52 {Γ : GX} {E : EX} (C : Cx Γ E cX9_spot RX9 11) (hr : Γ.meth.sig.returnType = (some .int)) (hrm : Γ.rm = rmX9_spot) (th : Nat) (p1 : Int32) (p2 : Int32) (p3 : Int32) (p4 : Int32) (p5 : Int32) (p6 : Int32) (k52 : Int64 → Int32 → Int32 → MM → Option (Int32 × MM)) (h52 : ∀ (x7 : Int64) (x9 : Int32) (x10 : Int32) (m : MM), Sm (QM Γ E emI 0 0) Γ E 11 0 0 52 [(0, va_rf (some th)), (1, .int p1), (2, .int p2), (3, .int p3), (4, .int p4), (5, .int p5), (6, .int p6), (7, .long x7), (9, .int x9), (10, .int x10)] [] m (k52 x7 x9 x10 m)) (x7 : Int64) (x9 : Int32) (x10 : Int32) (m : MM) : Sm (QM Γ E emI 0 0) Γ E 11 0 0 52 [(0, va_rf (some th)), (1, .int p1), (2, .int p2), (3, .int p3), (4, .int p4), (5, .int p5), (6, .int p6), (7, .long x7), (9, .int x9), (10, .int x10)] [] m (g_X9_spot_52 th p1 p2 p3 p4 p5 p6 k52 x7 x9 x10 m) := by
  unfold g_X9_spot_52
  refine z_iload C dX9_spot_52 9 rfl ?_
  refine z_bipush (v := 64) C dX9_spot_54 (by decide) ?_
  refine z_icmp_ge (tgt := 93) C dX9_spot_56 (by decide) (fun c1 => ?_) (fun c1 => ?_)
  · refine z_iconst (v := (-1)) C dX9_spot_93 (by decide) ?_
    exact z_iret C hr dX9_spot_94
  · refine z_lload C dX9_spot_59 7 rfl ?_
    refine z_iload C dX9_spot_61 9 rfl ?_
    refine z_lshr C dX9_spot_63 ?_
    refine z_lconst (v := 1) C dX9_spot_64 rfl ?_
    refine z_land C dX9_spot_65 ?_
    refine z_lconst (v := 0) C dX9_spot_66 rfl ?_
    refine z_lcmp C dX9_spot_67 ?_
    refine z_if_ne (tgt := 74) C dX9_spot_68 (by decide) (fun c2 => ?_) (fun c2 => ?_)
    · refine z_iload C dX9_spot_74 8 rfl ?_
      refine z_iload C dX9_spot_76 6 rfl ?_
      refine z_icmp_ne (tgt := 84) C dX9_spot_78 (by decide) (fun c3 => ?_) (fun c3 => ?_)
      · refine z_iinc (v := 1) (L2 := [(9, .int (x9 + 1)), (0, va_rf (some th)), (1, .int p1), (2, .int p2), (3, .int p3), (4, .int p4), (5, .int p5), (6, .int p6), (7, .long x7), (10, .int x10)]) C dX9_spot_84 8 rfl (by decide) (by decide) rfl ?_
        exact z_sub [1, 2, 3, 4, 5, 6, 7, 8, 0, 9] rfl (s_X9_spot_87 C hr hrm th p1 p2 p3 p4 p5 p6 k52 h52 x7 (x9 + 1) x10 m)
      · refine z_iload C dX9_spot_81 9 rfl ?_
        exact z_iret C hr dX9_spot_83
    · refine z_goto (tgt := 87) C dX9_spot_71 (by decide) ?_
      exact z_sub [0, 1, 2, 3, 4, 5, 6, 7, 8, 9] rfl (s_X9_spot_87 C hr hrm th p1 p2 p3 p4 p5 p6 k52 h52 x7 x9 x10 m)
def l_X9_spot_52 (th : Nat) (p1 : Int32) (p2 : Int32) (p3 : Int32) (p4 : Int32) (p5 : Int32) (p6 : Int32) : Nat → Int64 → Int32 → Int32 → MM → Option (Int32 × MM) := lp (fun _ _ _ _ => none) (fun k52 => g_X9_spot_52 th p1 p2 p3 p4 p5 p6 k52)
theorem t_X9_spot_52 {Γ : GX} {E : EX} (C : Cx Γ E cX9_spot RX9 11) (hr : Γ.meth.sig.returnType = (some .int)) (hrm : Γ.rm = rmX9_spot) (th : Nat) (p1 : Int32) (p2 : Int32) (p3 : Int32) (p4 : Int32) (p5 : Int32) (p6 : Int32) : ∀ (n : Nat) (x7 : Int64) (x9 : Int32) (x10 : Int32) (m : MM), Sm (QM Γ E emI 0 0) Γ E 11 0 0 52 [(0, va_rf (some th)), (1, .int p1), (2, .int p2), (3, .int p3), (4, .int p4), (5, .int p5), (6, .int p6), (7, .long x7), (9, .int x9), (10, .int x10)] [] m (l_X9_spot_52 th p1 p2 p3 p4 p5 p6 n x7 x9 x10 m) := by
  intro n
  induction n with
  | zero => intros; exact z_none
  | succ n ih => intro x7 x9 x10 m; exact s_X9_spot_52 C hr hrm th p1 p2 p3 p4 p5 p6 (l_X9_spot_52 th p1 p2 p3 p4 p5 p6 n) ih x7 x9 x10 m
set_option maxRecDepth 100000 in
def g_X9_spot_0 (th : Nat) (p1 : Int32) (p2 : Int32) (p3 : Int32) (p4 : Int32) (p5 : Int32) (p6 : Int32) (m : MM) : Option (Int32 × MM) :=
  if p6 < 0 then (some ((-1), m)) else (cal (f_X9_isKind p4 m) (fun r1 m1 => if r1 = 0 then (some ((-1), m1)) else (cal (f_X9_isFacing p5 m1) (fun r2 m2 => if r2 = 0 then (some ((-1), m2)) else (chk (m2.K th = 10) (cal (f_X9_opened th p1 p2 p3 m2) (fun r3 m3 => if r3 = 0 then (some ((-1), m3)) else (chk (m3.K th = 10) (ck m3 (m3.R 1005 th 0) 4 (fun a1 => cal (f_X3_spotsFor a1 p4 p5 m3) (fun r4 m4 => l_X9_spot_52 th p1 p2 p3 p4 p5 p6 FU r4 0 0 m4)))))))))))
set_option maxHeartbeats 4000000 in
set_option maxRecDepth 100000 in
theorem s_X9_spot_0 {Γ : GX} {E : EX} (C : Cx Γ E cX9_spot RX9 11) (hr : Γ.meth.sig.returnType = (some .int)) (hrm : Γ.rm = rmX9_spot) (th : Nat) (p1 : Int32) (p2 : Int32) (p3 : Int32) (p4 : Int32) (p5 : Int32) (p6 : Int32) (m : MM) : Sm (QM Γ E emI 0 0) Γ E 11 0 0 0 [(0, va_rf (some th)), (1, .int p1), (2, .int p2), (3, .int p3), (4, .int p4), (5, .int p5), (6, .int p6)] [] m (g_X9_spot_0 th p1 p2 p3 p4 p5 p6 m) := by
  unfold g_X9_spot_0
  refine z_iload C dX9_spot_0 6 rfl ?_
  refine z_if_lt (tgt := 31) C dX9_spot_2 (by decide) (fun c4 => ?_) (fun c4 => ?_)
  · refine z_iconst (v := (-1)) C dX9_spot_31 (by decide) ?_
    exact z_iret C hr dX9_spot_32
  · refine z_iload C dX9_spot_5 4 rfl ?_
    refine z_cSI [.int p4] [] C mv_RX9_191 (fun r0 m0 h0 => M_X9_isKind _ _ _ _ _ _ h0) rfl rfl ⟨by rw [hrm]; exact Nat.le_of_ble_eq_true rfl, by rw [hrm]; exact Nat.le_of_ble_eq_true rfl⟩ ⟨by rw [hrm]; exact Nat.le_of_ble_eq_true rfl, by rw [hrm]; exact Nat.le_of_ble_eq_true rfl⟩ rfl rfl (Nat.le_of_ble_eq_true rfl) dX9_spot_7 (fun r1 m1 => ?_)
    refine z_if_eq (tgt := 31) C dX9_spot_10 (by decide) (fun c5 => ?_) (fun c5 => ?_)
    · refine z_iconst (v := (-1)) C dX9_spot_31 (by decide) ?_
      exact z_iret C hr dX9_spot_32
    · refine z_iload C dX9_spot_13 5 rfl ?_
      refine z_cSI [.int p5] [] C mv_RX9_204 (fun r0 m0 h0 => M_X9_isFacing _ _ _ _ _ _ h0) rfl rfl ⟨by rw [hrm]; exact Nat.le_of_ble_eq_true rfl, by rw [hrm]; exact Nat.le_of_ble_eq_true rfl⟩ ⟨by rw [hrm]; exact Nat.le_of_ble_eq_true rfl, by rw [hrm]; exact Nat.le_of_ble_eq_true rfl⟩ rfl rfl (Nat.le_of_ble_eq_true rfl) dX9_spot_15 (fun r2 m2 => ?_)
      refine z_if_eq (tgt := 31) C dX9_spot_18 (by decide) (fun c6 => ?_) (fun c6 => ?_)
      · refine z_iconst (v := (-1)) C dX9_spot_31 (by decide) ?_
        exact z_iret C hr dX9_spot_32
      · refine z_aload_n C dX9_spot_21 rfl 0 rfl ?_
        refine z_iload_n C dX9_spot_22 rfl 1 rfl ?_
        refine z_iload_n C dX9_spot_23 rfl 2 rfl ?_
        refine z_iload_n C dX9_spot_24 rfl 3 rfl ?_
        refine z_chk (fun hk1 => ?_)
        refine z_cVI [.int p1, .int p2, .int p3] [] C mv_RX9_247 (fun r0 m0 h0 => M_X9_opened _ _ _ _ _ _ _ _ _ h0) rfl rfl ⟨by rw [hrm]; exact Nat.le_of_ble_eq_true rfl, by rw [hrm]; exact Nat.le_of_ble_eq_true rfl⟩ ⟨by rw [hrm]; exact Nat.le_of_ble_eq_true rfl, by rw [hrm]; exact Nat.le_of_ble_eq_true rfl⟩ rfl hk1 rfl rfl rfl (Nat.le_of_ble_eq_true rfl) dX9_spot_25 (fun r3 m3 => ?_)
        refine z_if_ne (tgt := 33) C dX9_spot_28 (by decide) (fun c7 => ?_) (fun c7 => ?_)
        · refine z_aload_n C dX9_spot_33 rfl 0 rfl ?_
          refine z_chk (fun hk2 => ?_)
          refine z_getR C fl_RX9_46 rfl hk2 dX9_spot_34 ?_
          refine z_iload C dX9_spot_37 4 rfl ?_
          refine z_iload C dX9_spot_39 5 rfl ?_
          refine z_ck (fun a1 hr1 hk3 => ?_)
          refine z_cVJ [.int p4, .int p5] [] C mv_RX9_287 (fun r0 m0 h0 => M_X3_spotsFor _ _ _ _ _ _ _ _ h0) rfl rfl ⟨by rw [hrm]; exact Nat.le_of_ble_eq_true rfl, by rw [hrm]; exact Nat.le_of_ble_eq_true rfl⟩ ⟨by rw [hrm]; exact Nat.le_of_ble_eq_true rfl, by rw [hrm]; exact Nat.le_of_ble_eq_true rfl⟩ hr1 hk3 rfl rfl rfl (Nat.le_of_ble_eq_true rfl) dX9_spot_41 (fun r4 m4 => ?_)
          refine z_lstore (i := 7) (L2 := [(7, .long r4), (0, va_rf (some th)), (1, .int p1), (2, .int p2), (3, .int p3), (4, .int p4), (5, .int p5), (6, .int p6)]) C dX9_spot_44 (by decide) rfl ?_
          refine z_iconst (v := 0) C dX9_spot_46 (by decide) ?_
          refine z_istore (i := 9) (L2 := [(9, .int 0), (7, .long r4), (0, va_rf (some th)), (1, .int p1), (2, .int p2), (3, .int p3), (4, .int p4), (5, .int p5), (6, .int p6)]) C dX9_spot_47 (by decide) rfl ?_
          refine z_iconst (v := 0) C dX9_spot_49 (by decide) ?_
          refine z_istore (i := 10) (L2 := [(10, .int 0), (9, .int 0), (7, .long r4), (0, va_rf (some th)), (1, .int p1), (2, .int p2), (3, .int p3), (4, .int p4), (5, .int p5), (6, .int p6)]) C dX9_spot_50 (by decide) rfl ?_
          exact z_sub [3, 4, 5, 6, 7, 8, 9, 2, 1, 0] rfl (t_X9_spot_52 C hr hrm th p1 p2 p3 p4 p5 p6 FU r4 0 0 m4)
        · refine z_iconst (v := (-1)) C dX9_spot_31 (by decide) ?_
          exact z_iret C hr dX9_spot_32
def f_X9_spot (th : Nat) (p1 : Int32) (p2 : Int32) (p3 : Int32) (p4 : Int32) (p5 : Int32) (p6 : Int32) (m : MM) : Option (Int32 × MM) := g_X9_spot_0 th p1 p2 p3 p4 p5 p6 m
theorem M_X9_spot (l : Launch) (E : EX) (th : Nat) (p1 : Int32) (p2 : Int32) (p3 : Int32) (p4 : Int32) (p5 : Int32) (p6 : Int32) (m : MM) (r : Int32) (m2 : MM) (h : f_X9_spot th p1 p2 p3 p4 p5 p6 m = some (r, m2)) : Met l yX9_spot (.code yX9_spot cX9_spot 11 (some .int) :: TB) rmX9_spot (va_Pc [.ref th, .int p1, .int p2, .int p3, .int p4, .int p5, .int p6] (St E m)) (QR E (emI r) m2) 0 0 (AA E) :=
  met_of (em := emI) (plainFor_of_name rfl) (Nat.le_of_ble_eq_true rfl) (L0 := [(0, va_rf (some th)), (1, .int p1), (2, .int p2), (3, .int p3), (4, .int p4), (5, .int p5), (6, .int p6)]) rfl (fun Γ _ hrm C hr hn => s_X9_spot_0 C hr hrm th p1 p2 p3 p4 p5 p6 m) h

theorem dX9_wish_0 : decode cX9_wish 0 = .ok (.aload_n 0, 1) := by decide +kernel
theorem dX9_wish_1 : decode cX9_wish 1 = .ok (.getfield 10, 3) := by decide +kernel
theorem dX9_wish_4 : decode cX9_wish 4 = .ok (.iload_n 1, 1) := by decide +kernel
theorem dX9_wish_5 : decode cX9_wish 5 = .ok (.invokevirtual 122, 3) := by decide +kernel
theorem dX9_wish_8 : decode cX9_wish 8 = .ok (.astore 4, 2) := by decide +kernel
theorem dX9_wish_10 : decode cX9_wish 10 = .ok (.aload 4, 2) := by decide +kernel
theorem dX9_wish_12 : decode cX9_wish 12 = .ok (.ifnull 17, 3) := by decide +kernel
theorem dX9_wish_15 : decode cX9_wish 15 = .ok (.iload_n 2, 1) := by decide +kernel
theorem dX9_wish_16 : decode cX9_wish 16 = .ok (.invokestatic 191, 3) := by decide +kernel
theorem dX9_wish_19 : decode cX9_wish 19 = .ok (.ifCond .eq 10, 3) := by decide +kernel
theorem dX9_wish_22 : decode cX9_wish 22 = .ok (.iload_n 3, 1) := by decide +kernel
theorem dX9_wish_23 : decode cX9_wish 23 = .ok (.invokestatic 204, 3) := by decide +kernel
theorem dX9_wish_26 : decode cX9_wish 26 = .ok (.ifCond .ne 5, 3) := by decide +kernel
theorem dX9_wish_29 : decode cX9_wish 29 = .ok (.iconst (-1), 1) := by decide +kernel
theorem dX9_wish_30 : decode cX9_wish 30 = .ok (.ireturn, 1) := by decide +kernel
theorem dX9_wish_31 : decode cX9_wish 31 = .ok (.aload 4, 2) := by decide +kernel
theorem dX9_wish_33 : decode cX9_wish 33 = .ok (.getfield 165, 3) := by decide +kernel
theorem dX9_wish_36 : decode cX9_wish 36 = .ok (.invokevirtual 210, 3) := by decide +kernel
theorem dX9_wish_39 : decode cX9_wish 39 = .ok (.istore 5, 2) := by decide +kernel
theorem dX9_wish_41 : decode cX9_wish 41 = .ok (.iload 5, 2) := by decide +kernel
theorem dX9_wish_43 : decode cX9_wish 43 = .ok (.iconst (-1), 1) := by decide +kernel
theorem dX9_wish_44 : decode cX9_wish 44 = .ok (.if_icmp .ne 5, 3) := by decide +kernel
theorem dX9_wish_47 : decode cX9_wish 47 = .ok (.iconst (-1), 1) := by decide +kernel
theorem dX9_wish_48 : decode cX9_wish 48 = .ok (.ireturn, 1) := by decide +kernel
theorem dX9_wish_49 : decode cX9_wish 49 = .ok (.aload 4, 2) := by decide +kernel
theorem dX9_wish_51 : decode cX9_wish 51 = .ok (.getfield 165, 3) := by decide +kernel
theorem dX9_wish_54 : decode cX9_wish 54 = .ok (.iload 5, 2) := by decide +kernel
theorem dX9_wish_56 : decode cX9_wish 56 = .ok (.iconst 0, 1) := by decide +kernel
theorem dX9_wish_57 : decode cX9_wish 57 = .ok (.iload_n 2, 1) := by decide +kernel
theorem dX9_wish_58 : decode cX9_wish 58 = .ok (.invokevirtual 220, 3) := by decide +kernel
theorem dX9_wish_61 : decode cX9_wish 61 = .ok (.aload 4, 2) := by decide +kernel
theorem dX9_wish_63 : decode cX9_wish 63 = .ok (.getfield 165, 3) := by decide +kernel
theorem dX9_wish_66 : decode cX9_wish 66 = .ok (.iload 5, 2) := by decide +kernel
theorem dX9_wish_68 : decode cX9_wish 68 = .ok (.iconst 1, 1) := by decide +kernel
theorem dX9_wish_69 : decode cX9_wish 69 = .ok (.iload_n 3, 1) := by decide +kernel
theorem dX9_wish_70 : decode cX9_wish 70 = .ok (.invokevirtual 220, 3) := by decide +kernel
theorem dX9_wish_73 : decode cX9_wish 73 = .ok (.aload 4, 2) := by decide +kernel
theorem dX9_wish_75 : decode cX9_wish 75 = .ok (.getfield 165, 3) := by decide +kernel
theorem dX9_wish_78 : decode cX9_wish 78 = .ok (.getfield 142, 3) := by decide +kernel
theorem dX9_wish_81 : decode cX9_wish 81 = .ok (.ireturn, 1) := by decide +kernel
def rmX9_wish : Room := { frames := 2, cells := 0, slots := 0, locals := 42 }
set_option maxRecDepth 100000 in
def g_X9_wish_0 (th : Nat) (p1 : Int32) (p2 : Int32) (p3 : Int32) (m : MM) : Option (Int32 × MM) :=
  chk (m.K th = 10) (ck m (m.R 1000 th 0) 8 (fun a1 => cal (f_X7_townAt a1 p1 m) (fun r1 m1 => ifn r1 (some ((-1), m1)) (fun a2 => cal (f_X9_isKind p2 m1) (fun r2 m2 => if r2 = 0 then (some ((-1), m2)) else (cal (f_X9_isFacing p3 m2) (fun r3 m3 => if r3 = 0 then (some ((-1), m3)) else (chk (m3.K a2 = 9) (ck m3 (m3.R 909 a2 0) 7 (fun a3 => cal (f_X6_addRow a3 m3) (fun r4 m4 => if r4 = (-1) then (some ((-1), m4)) else (chk (m4.K a2 = 9) (ck m4 (m4.R 909 a2 0) 7 (fun a4 => cal (f_X6_put a4 r4 0 p2 m4) (fun r5 m5 => chk (m5.K a2 = 9) (ck m5 (m5.R 909 a2 0) 7 (fun a5 => cal (f_X6_put a5 r4 1 p3 m5) (fun r6 m6 => chk (m6.K a2 = 9) (ck m6 (m6.R 909 a2 0) 7 (fun a6 => some (m6.I 703 a6 0, m6)))))))))))))))))))))
set_option maxHeartbeats 4000000 in
set_option maxRecDepth 100000 in
theorem s_X9_wish_0 {Γ : GX} {E : EX} (C : Cx Γ E cX9_wish RX9 6) (hr : Γ.meth.sig.returnType = (some .int)) (hrm : Γ.rm = rmX9_wish) (th : Nat) (p1 : Int32) (p2 : Int32) (p3 : Int32) (m : MM) : Sm (QM Γ E emI 0 0) Γ E 6 0 0 0 [(0, va_rf (some th)), (1, .int p1), (2, .int p2), (3, .int p3)] [] m (g_X9_wish_0 th p1 p2 p3 m) := by
  unfold g_X9_wish_0
  refine z_aload_n C dX9_wish_0 rfl 0 rfl ?_
  refine z_chk (fun hk1 => ?_)
  refine z_getR C fl_RX9_10 rfl hk1 dX9_wish_1 ?_
  refine z_iload_n C dX9_wish_4 rfl 1 rfl ?_
  refine z_ck (fun a1 hr1 hk2 => ?_)
  refine z_cVR [.int p1] [] C mv_RX9_122 (fun r0 m0 h0 => M_X7_townAt _ _ _ _ _ _ _ h0) rfl rfl ⟨by rw [hrm]; exact Nat.le_of_ble_eq_true rfl, by rw [hrm]; exact Nat.le_of_ble_eq_true rfl⟩ ⟨by rw [hrm]; exact Nat.le_of_ble_eq_true rfl, by rw [hrm]; exact Nat.le_of_ble_eq_true rfl⟩ hr1 hk2 rfl rfl rfl (Nat.le_of_ble_eq_true rfl) dX9_wish_5 (fun r1 m1 => ?_)
  refine z_astore (i := 4) (L2 := [(4, va_rf r1), (0, va_rf (some th)), (1, .int p1), (2, .int p2), (3, .int p3)]) C dX9_wish_8 (by decide) rfl ?_
  refine z_aload C dX9_wish_10 0 rfl ?_
  refine z_ifnull (tgt := 29) C dX9_wish_12 (by decide) (fun hn1 => ?_) (fun a2 ha1 => ?_)
  · refine z_iconst (v := (-1)) C dX9_wish_29 (by decide) ?_
    exact z_iret C hr dX9_wish_30
  · refine z_iload_n C dX9_wish_15 rfl 3 rfl ?_
    refine z_cSI [.int p2] [] C mv_RX9_191 (fun r0 m0 h0 => M_X9_isKind _ _ _ _ _ _ h0) rfl rfl ⟨by rw [hrm]; exact Nat.le_of_ble_eq_true rfl, by rw [hrm]; exact Nat.le_of_ble_eq_true rfl⟩ ⟨by rw [hrm]; exact Nat.le_of_ble_eq_true rfl, by rw [hrm]; exact Nat.le_of_ble_eq_true rfl⟩ rfl rfl (Nat.le_of_ble_eq_true rfl) dX9_wish_16 (fun r2 m2 => ?_)
    refine z_if_eq (tgt := 29) C dX9_wish_19 (by decide) (fun c1 => ?_) (fun c1 => ?_)
    · refine z_iconst (v := (-1)) C dX9_wish_29 (by decide) ?_
      exact z_iret C hr dX9_wish_30
    · refine z_iload_n C dX9_wish_22 rfl 4 rfl ?_
      refine z_cSI [.int p3] [] C mv_RX9_204 (fun r0 m0 h0 => M_X9_isFacing _ _ _ _ _ _ h0) rfl rfl ⟨by rw [hrm]; exact Nat.le_of_ble_eq_true rfl, by rw [hrm]; exact Nat.le_of_ble_eq_true rfl⟩ ⟨by rw [hrm]; exact Nat.le_of_ble_eq_true rfl, by rw [hrm]; exact Nat.le_of_ble_eq_true rfl⟩ rfl rfl (Nat.le_of_ble_eq_true rfl) dX9_wish_23 (fun r3 m3 => ?_)
      refine z_if_ne (tgt := 31) C dX9_wish_26 (by decide) (fun c2 => ?_) (fun c2 => ?_)
      · refine z_aload C dX9_wish_31 0 rfl ?_
        refine z_chk (fun hk3 => ?_)
        refine z_getR C fl_RX9_165 ha1 hk3 dX9_wish_33 ?_
        refine z_ck (fun a3 hr2 hk4 => ?_)
        refine z_cVI [] [] C mv_RX9_210 (fun r0 m0 h0 => M_X6_addRow _ _ _ _ _ _ h0) rfl rfl ⟨by rw [hrm]; exact Nat.le_of_ble_eq_true rfl, by rw [hrm]; exact Nat.le_of_ble_eq_true rfl⟩ ⟨by rw [hrm]; exact Nat.le_of_ble_eq_true rfl, by rw [hrm]; exact Nat.le_of_ble_eq_true rfl⟩ hr2 hk4 rfl rfl rfl (Nat.le_of_ble_eq_true rfl) dX9_wish_36 (fun r4 m4 => ?_)
        refine z_istore (i := 5) (L2 := [(5, .int r4), (4, va_rf r1), (0, va_rf (some th)), (1, .int p1), (2, .int p2), (3, .int p3)]) C dX9_wish_39 (by decide) (by simp [cat_rf, cat_i, cat_l, cat_a]) ?_
        refine z_iload C dX9_wish_41 0 rfl ?_
        refine z_iconst (v := (-1)) C dX9_wish_43 (by decide) ?_
        refine z_icmp_ne (tgt := 49) C dX9_wish_44 (by decide) (fun c3 => ?_) (fun c3 => ?_)
        · refine z_aload C dX9_wish_49 1 rfl ?_
          refine z_chk (fun hk5 => ?_)
          refine z_getR C fl_RX9_165 ha1 hk5 dX9_wish_51 ?_
          refine z_iload C dX9_wish_54 0 rfl ?_
          refine z_iconst (v := 0) C dX9_wish_56 (by decide) ?_
          refine z_iload_n C dX9_wish_57 rfl 4 rfl ?_
          refine z_ck (fun a4 hr3 hk6 => ?_)
          refine z_cVV [.int r4, .int 0, .int p2] [] C mv_RX9_220 (fun r0 m0 h0 => M_X6_put _ _ _ _ _ _ _ _ _ h0) rfl rfl ⟨by rw [hrm]; exact Nat.le_of_ble_eq_true rfl, by rw [hrm]; exact Nat.le_of_ble_eq_true rfl⟩ ⟨by rw [hrm]; exact Nat.le_of_ble_eq_true rfl, by rw [hrm]; exact Nat.le_of_ble_eq_true rfl⟩ hr3 hk6 rfl rfl rfl (Nat.le_of_ble_eq_true rfl) dX9_wish_58 (fun r5 m5 => ?_)
          refine z_aload C dX9_wish_61 1 rfl ?_
          refine z_chk (fun hk7 => ?_)
          refine z_getR C fl_RX9_165 ha1 hk7 dX9_wish_63 ?_
          refine z_iload C dX9_wish_66 0 rfl ?_
          refine z_iconst (v := 1) C dX9_wish_68 (by decide) ?_
          refine z_iload_n C dX9_wish_69 rfl 5 rfl ?_
          refine z_ck (fun a5 hr4 hk8 => ?_)
          refine z_cVV [.int r4, .int 1, .int p3] [] C mv_RX9_220 (fun r0 m0 h0 => M_X6_put _ _ _ _ _ _ _ _ _ h0) rfl rfl ⟨by rw [hrm]; exact Nat.le_of_ble_eq_true rfl, by rw [hrm]; exact Nat.le_of_ble_eq_true rfl⟩ ⟨by rw [hrm]; exact Nat.le_of_ble_eq_true rfl, by rw [hrm]; exact Nat.le_of_ble_eq_true rfl⟩ hr4 hk8 rfl rfl rfl (Nat.le_of_ble_eq_true rfl) dX9_wish_70 (fun r6 m6 => ?_)
          refine z_aload C dX9_wish_73 1 rfl ?_
          refine z_chk (fun hk9 => ?_)
          refine z_getR C fl_RX9_165 ha1 hk9 dX9_wish_75 ?_
          refine z_ck (fun a6 hr5 hk10 => ?_)
          refine z_getI C fl_RX9_142 hr5 hk10 dX9_wish_78 ?_
          exact z_iret C hr dX9_wish_81
        · refine z_iconst (v := (-1)) C dX9_wish_47 (by decide) ?_
          exact z_iret C hr dX9_wish_48
      · refine z_iconst (v := (-1)) C dX9_wish_29 (by decide) ?_
        exact z_iret C hr dX9_wish_30
def f_X9_wish (th : Nat) (p1 : Int32) (p2 : Int32) (p3 : Int32) (m : MM) : Option (Int32 × MM) := g_X9_wish_0 th p1 p2 p3 m
theorem M_X9_wish (l : Launch) (E : EX) (th : Nat) (p1 : Int32) (p2 : Int32) (p3 : Int32) (m : MM) (r : Int32) (m2 : MM) (h : f_X9_wish th p1 p2 p3 m = some (r, m2)) : Met l yX9_wish (.code yX9_wish cX9_wish 6 (some .int) :: TB) rmX9_wish (va_Pc [.ref th, .int p1, .int p2, .int p3] (St E m)) (QR E (emI r) m2) 0 0 (AA E) :=
  met_of (em := emI) (plainFor_of_name rfl) (Nat.le_of_ble_eq_true rfl) (L0 := [(0, va_rf (some th)), (1, .int p1), (2, .int p2), (3, .int p3)]) rfl (fun Γ _ hrm C hr hn => s_X9_wish_0 C hr hrm th p1 p2 p3 m) h

theorem dX9_forget_0 : decode cX9_forget 0 = .ok (.aload_n 0, 1) := by decide +kernel
theorem dX9_forget_1 : decode cX9_forget 1 = .ok (.getfield 10, 3) := by decide +kernel
theorem dX9_forget_4 : decode cX9_forget 4 = .ok (.iload_n 1, 1) := by decide +kernel
theorem dX9_forget_5 : decode cX9_forget 5 = .ok (.invokevirtual 122, 3) := by decide +kernel
theorem dX9_forget_8 : decode cX9_forget 8 = .ok (.astore_n 2, 1) := by decide +kernel
theorem dX9_forget_9 : decode cX9_forget 9 = .ok (.aload_n 2, 1) := by decide +kernel
theorem dX9_forget_10 : decode cX9_forget 10 = .ok (.ifnull 13, 3) := by decide +kernel
theorem dX9_forget_13 : decode cX9_forget 13 = .ok (.aload_n 2, 1) := by decide +kernel
theorem dX9_forget_14 : decode cX9_forget 14 = .ok (.getfield 165, 3) := by decide +kernel
theorem dX9_forget_17 : decode cX9_forget 17 = .ok (.getfield 142, 3) := by decide +kernel
theorem dX9_forget_20 : decode cX9_forget 20 = .ok (.ifCond .ne 5, 3) := by decide +kernel
theorem dX9_forget_23 : decode cX9_forget 23 = .ok (.iconst 0, 1) := by decide +kernel
theorem dX9_forget_24 : decode cX9_forget 24 = .ok (.ireturn, 1) := by decide +kernel
theorem dX9_forget_25 : decode cX9_forget 25 = .ok (.aload_n 2, 1) := by decide +kernel
theorem dX9_forget_26 : decode cX9_forget 26 = .ok (.getfield 165, 3) := by decide +kernel
theorem dX9_forget_29 : decode cX9_forget 29 = .ok (.iconst 0, 1) := by decide +kernel
theorem dX9_forget_30 : decode cX9_forget 30 = .ok (.putfield 142, 3) := by decide +kernel
theorem dX9_forget_33 : decode cX9_forget 33 = .ok (.iconst 1, 1) := by decide +kernel
theorem dX9_forget_34 : decode cX9_forget 34 = .ok (.ireturn, 1) := by decide +kernel
def rmX9_forget : Room := { frames := 2, cells := 0, slots := 0, locals := 42 }
set_option maxRecDepth 100000 in
def g_X9_forget_0 (th : Nat) (p1 : Int32) (m : MM) : Option (Int32 × MM) :=
  chk (m.K th = 10) (ck m (m.R 1000 th 0) 8 (fun a1 => cal (f_X7_townAt a1 p1 m) (fun r1 m1 => ifn r1 (some (0, m1)) (fun a2 => chk (m1.K a2 = 9) (ck m1 (m1.R 909 a2 0) 7 (fun a3 => if (m1.I 703 a3 0) = 0 then (some (0, m1)) else (bnd (m1.sI 703 a3 0 0) (fun m2 => some (1, m2)))))))))
set_option maxHeartbeats 4000000 in
set_option maxRecDepth 100000 in
theorem s_X9_forget_0 {Γ : GX} {E : EX} (C : Cx Γ E cX9_forget RX9 3) (hr : Γ.meth.sig.returnType = (some .boolean)) (hrm : Γ.rm = rmX9_forget) (th : Nat) (p1 : Int32) (m : MM) : Sm (QM Γ E emI 0 0) Γ E 3 0 0 0 [(0, va_rf (some th)), (1, .int p1)] [] m (g_X9_forget_0 th p1 m) := by
  unfold g_X9_forget_0
  refine z_aload_n C dX9_forget_0 rfl 0 rfl ?_
  refine z_chk (fun hk1 => ?_)
  refine z_getR C fl_RX9_10 rfl hk1 dX9_forget_1 ?_
  refine z_iload_n C dX9_forget_4 rfl 1 rfl ?_
  refine z_ck (fun a1 hr1 hk2 => ?_)
  refine z_cVR [.int p1] [] C mv_RX9_122 (fun r0 m0 h0 => M_X7_townAt _ _ _ _ _ _ _ h0) rfl rfl ⟨by rw [hrm]; exact Nat.le_of_ble_eq_true rfl, by rw [hrm]; exact Nat.le_of_ble_eq_true rfl⟩ ⟨by rw [hrm]; exact Nat.le_of_ble_eq_true rfl, by rw [hrm]; exact Nat.le_of_ble_eq_true rfl⟩ hr1 hk2 rfl rfl rfl (Nat.le_of_ble_eq_true rfl) dX9_forget_5 (fun r1 m1 => ?_)
  refine z_astore_n (i := 2) (L2 := [(2, va_rf r1), (0, va_rf (some th)), (1, .int p1)]) C dX9_forget_8 rfl (by decide) rfl ?_
  refine z_aload_n C dX9_forget_9 rfl 0 rfl ?_
  refine z_ifnull (tgt := 23) C dX9_forget_10 (by decide) (fun hn1 => ?_) (fun a2 ha1 => ?_)
  · refine z_iconst (v := 0) C dX9_forget_23 (by decide) ?_
    exact z_zret C hr rfl dX9_forget_24
  · refine z_aload_n C dX9_forget_13 rfl 0 rfl ?_
    refine z_chk (fun hk3 => ?_)
    refine z_getR C fl_RX9_165 ha1 hk3 dX9_forget_14 ?_
    refine z_ck (fun a3 hr2 hk4 => ?_)
    refine z_getI C fl_RX9_142 hr2 hk4 dX9_forget_17 ?_
    refine z_if_ne (tgt := 25) C dX9_forget_20 (by decide) (fun c1 => ?_) (fun c1 => ?_)
    · refine z_aload_n C dX9_forget_25 rfl 0 rfl ?_
      refine z_getR C fl_RX9_165 ha1 hk3 dX9_forget_26 ?_
      refine z_iconst (v := 0) C dX9_forget_29 (by decide) ?_
      refine z_putI C fl_RX9_142 (fun h => by cases h) hr2 hk4 rfl rfl dX9_forget_30 (fun m2 eK1 eN1 => ?_)
      refine z_iconst (v := 1) C dX9_forget_33 (by decide) ?_
      exact z_zret C hr rfl dX9_forget_34
    · refine z_iconst (v := 0) C dX9_forget_23 (by decide) ?_
      exact z_zret C hr rfl dX9_forget_24
def f_X9_forget (th : Nat) (p1 : Int32) (m : MM) : Option (Int32 × MM) := g_X9_forget_0 th p1 m
theorem M_X9_forget (l : Launch) (E : EX) (th : Nat) (p1 : Int32) (m : MM) (r : Int32) (m2 : MM) (h : f_X9_forget th p1 m = some (r, m2)) : Met l yX9_forget (.code yX9_forget cX9_forget 3 (some .boolean) :: TB) rmX9_forget (va_Pc [.ref th, .int p1] (St E m)) (QR E (emI r) m2) 0 0 (AA E) :=
  met_of (em := emI) (plainFor_of_name rfl) (Nat.le_of_ble_eq_true rfl) (L0 := [(0, va_rf (some th)), (1, .int p1)]) rfl (fun Γ _ hrm C hr hn => s_X9_forget_0 C hr hrm th p1 m) h

theorem dX9_plan_0 : decode cX9_plan 0 = .ok (.aload_n 0, 1) := by decide +kernel
theorem dX9_plan_1 : decode cX9_plan 1 = .ok (.getfield 10, 3) := by decide +kernel
theorem dX9_plan_4 : decode cX9_plan 4 = .ok (.iload_n 1, 1) := by decide +kernel
theorem dX9_plan_5 : decode cX9_plan 5 = .ok (.invokevirtual 122, 3) := by decide +kernel
theorem dX9_plan_8 : decode cX9_plan 8 = .ok (.astore 6, 2) := by decide +kernel
theorem dX9_plan_10 : decode cX9_plan 10 = .ok (.aload 6, 2) := by decide +kernel
theorem dX9_plan_12 : decode cX9_plan 12 = .ok (.ifnull 31, 3) := by decide +kernel
theorem dX9_plan_15 : decode cX9_plan 15 = .ok (.iload 5, 2) := by decide +kernel
theorem dX9_plan_17 : decode cX9_plan 17 = .ok (.ifCond .lt 26, 3) := by decide +kernel
theorem dX9_plan_20 : decode cX9_plan 20 = .ok (.iload 5, 2) := by decide +kernel
theorem dX9_plan_22 : decode cX9_plan 22 = .ok (.aload 6, 2) := by decide +kernel
theorem dX9_plan_24 : decode cX9_plan 24 = .ok (.getfield 165, 3) := by decide +kernel
theorem dX9_plan_27 : decode cX9_plan 27 = .ok (.getfield 142, 3) := by decide +kernel
theorem dX9_plan_30 : decode cX9_plan 30 = .ok (.if_icmp .ge 13, 3) := by decide +kernel
theorem dX9_plan_33 : decode cX9_plan 33 = .ok (.aload_n 0, 1) := by decide +kernel
theorem dX9_plan_34 : decode cX9_plan 34 = .ok (.iload_n 1, 1) := by decide +kernel
theorem dX9_plan_35 : decode cX9_plan 35 = .ok (.iload_n 2, 1) := by decide +kernel
theorem dX9_plan_36 : decode cX9_plan 36 = .ok (.iload_n 3, 1) := by decide +kernel
theorem dX9_plan_37 : decode cX9_plan 37 = .ok (.invokevirtual 247, 3) := by decide +kernel
theorem dX9_plan_40 : decode cX9_plan 40 = .ok (.ifCond .ne 5, 3) := by decide +kernel
theorem dX9_plan_43 : decode cX9_plan 43 = .ok (.iconst (-1), 1) := by decide +kernel
theorem dX9_plan_44 : decode cX9_plan 44 = .ok (.ireturn, 1) := by decide +kernel
theorem dX9_plan_45 : decode cX9_plan 45 = .ok (.aload_n 0, 1) := by decide +kernel
theorem dX9_plan_46 : decode cX9_plan 46 = .ok (.getfield 46, 3) := by decide +kernel
theorem dX9_plan_49 : decode cX9_plan 49 = .ok (.iload 4, 2) := by decide +kernel
theorem dX9_plan_51 : decode cX9_plan 51 = .ok (.invokevirtual 296, 3) := by decide +kernel
theorem dX9_plan_54 : decode cX9_plan 54 = .ok (.ifCond .eq 15, 3) := by decide +kernel
theorem dX9_plan_57 : decode cX9_plan 57 = .ok (.aload_n 0, 1) := by decide +kernel
theorem dX9_plan_58 : decode cX9_plan 58 = .ok (.getfield 46, 3) := by decide +kernel
theorem dX9_plan_61 : decode cX9_plan 61 = .ok (.iload 5, 2) := by decide +kernel
theorem dX9_plan_63 : decode cX9_plan 63 = .ok (.invokevirtual 300, 3) := by decide +kernel
theorem dX9_plan_66 : decode cX9_plan 66 = .ok (.goto 4, 3) := by decide +kernel
theorem dX9_plan_69 : decode cX9_plan 69 = .ok (.iconst (-1), 1) := by decide +kernel
theorem dX9_plan_70 : decode cX9_plan 70 = .ok (.ireturn, 1) := by decide +kernel
def rmX9_plan : Room := { frames := 7, cells := 0, slots := 0, locals := 201 }
set_option maxRecDepth 100000 in
def g_X9_plan_0 (th : Nat) (p1 : Int32) (p2 : Int32) (p3 : Int32) (p4 : Int32) (p5 : Int32) (m : MM) : Option (Int32 × MM) :=
  chk (m.K th = 10) (ck m (m.R 1000 th 0) 8 (fun a1 => cal (f_X7_townAt a1 p1 m) (fun r1 m1 => ifn r1 (some ((-1), m1)) (fun a2 => if p5 < 0 then (some ((-1), m1)) else (chk (m1.K a2 = 9) (ck m1 (m1.R 909 a2 0) 7 (fun a3 => if (m1.I 703 a3 0) ≤ p5 then (some ((-1), m1)) else (chk (m1.K th = 10) (cal (f_X9_opened th p1 p2 p3 m1) (fun r2 m2 => if r2 = 0 then (some ((-1), m2)) else (chk (m2.K th = 10) (ck m2 (m2.R 1005 th 0) 4 (fun a4 => cal (f_X3_findPlan a4 p4 m2) (fun r3 m3 => if r3 = 0 then (some ((-1), m3)) else (chk (m3.K th = 10) (ck m3 (m3.R 1005 th 0) 4 (fun a5 => cal (f_X3_pointOf a5 p5 m3) (fun r4 m4 => some (r4, m4)))))))))))))))))))
set_option maxHeartbeats 4000000 in
set_option maxRecDepth 100000 in
theorem s_X9_plan_0 {Γ : GX} {E : EX} (C : Cx Γ E cX9_plan RX9 7) (hr : Γ.meth.sig.returnType = (some .int)) (hrm : Γ.rm = rmX9_plan) (th : Nat) (p1 : Int32) (p2 : Int32) (p3 : Int32) (p4 : Int32) (p5 : Int32) (m : MM) : Sm (QM Γ E emI 0 0) Γ E 7 0 0 0 [(0, va_rf (some th)), (1, .int p1), (2, .int p2), (3, .int p3), (4, .int p4), (5, .int p5)] [] m (g_X9_plan_0 th p1 p2 p3 p4 p5 m) := by
  unfold g_X9_plan_0
  refine z_aload_n C dX9_plan_0 rfl 0 rfl ?_
  refine z_chk (fun hk1 => ?_)
  refine z_getR C fl_RX9_10 rfl hk1 dX9_plan_1 ?_
  refine z_iload_n C dX9_plan_4 rfl 1 rfl ?_
  refine z_ck (fun a1 hr1 hk2 => ?_)
  refine z_cVR [.int p1] [] C mv_RX9_122 (fun r0 m0 h0 => M_X7_townAt _ _ _ _ _ _ _ h0) rfl rfl ⟨by rw [hrm]; exact Nat.le_of_ble_eq_true rfl, by rw [hrm]; exact Nat.le_of_ble_eq_true rfl⟩ ⟨by rw [hrm]; exact Nat.le_of_ble_eq_true rfl, by rw [hrm]; exact Nat.le_of_ble_eq_true rfl⟩ hr1 hk2 rfl rfl rfl (Nat.le_of_ble_eq_true rfl) dX9_plan_5 (fun r1 m1 => ?_)
  refine z_astore (i := 6) (L2 := [(6, va_rf r1), (0, va_rf (some th)), (1, .int p1), (2, .int p2), (3, .int p3), (4, .int p4), (5, .int p5)]) C dX9_plan_8 (by decide) rfl ?_
  refine z_aload C dX9_plan_10 0 rfl ?_
  refine z_ifnull (tgt := 43) C dX9_plan_12 (by decide) (fun hn1 => ?_) (fun a2 ha1 => ?_)
  · refine z_iconst (v := (-1)) C dX9_plan_43 (by decide) ?_
    exact z_iret C hr dX9_plan_44
  · refine z_iload C dX9_plan_15 6 rfl ?_
    refine z_if_lt (tgt := 43) C dX9_plan_17 (by decide) (fun c1 => ?_) (fun c1 => ?_)
    · refine z_iconst (v := (-1)) C dX9_plan_43 (by decide) ?_
      exact z_iret C hr dX9_plan_44
    · refine z_iload C dX9_plan_20 6 rfl ?_
      refine z_aload C dX9_plan_22 0 rfl ?_
      refine z_chk (fun hk3 => ?_)
      refine z_getR C fl_RX9_165 ha1 hk3 dX9_plan_24 ?_
      refine z_ck (fun a3 hr2 hk4 => ?_)
      refine z_getI C fl_RX9_142 hr2 hk4 dX9_plan_27 ?_
      refine z_icmp_ge (tgt := 43) C dX9_plan_30 (by decide) (fun c2 => ?_) (fun c2 => ?_)
      · refine z_iconst (v := (-1)) C dX9_plan_43 (by decide) ?_
        exact z_iret C hr dX9_plan_44
      · refine z_aload_n C dX9_plan_33 rfl 1 rfl ?_
        refine z_iload_n C dX9_plan_34 rfl 2 rfl ?_
        refine z_iload_n C dX9_plan_35 rfl 3 rfl ?_
        refine z_iload_n C dX9_plan_36 rfl 4 rfl ?_
        refine z_chk (fun hk5 => ?_)
        refine z_cVI [.int p1, .int p2, .int p3] [] C mv_RX9_247 (fun r0 m0 h0 => M_X9_opened _ _ _ _ _ _ _ _ _ h0) rfl rfl ⟨by rw [hrm]; exact Nat.le_of_ble_eq_true rfl, by rw [hrm]; exact Nat.le_of_ble_eq_true rfl⟩ ⟨by rw [hrm]; exact Nat.le_of_ble_eq_true rfl, by rw [hrm]; exact Nat.le_of_ble_eq_true rfl⟩ rfl hk5 rfl rfl rfl (Nat.le_of_ble_eq_true rfl) dX9_plan_37 (fun r2 m2 => ?_)
        refine z_if_ne (tgt := 45) C dX9_plan_40 (by decide) (fun c3 => ?_) (fun c3 => ?_)
        · refine z_aload_n C dX9_plan_45 rfl 1 rfl ?_
          refine z_chk (fun hk6 => ?_)
          refine z_getR C fl_RX9_46 rfl hk6 dX9_plan_46 ?_
          refine z_iload C dX9_plan_49 5 rfl ?_
          refine z_ck (fun a4 hr3 hk7 => ?_)
          refine z_cVI [.int p4] [] C mv_RX9_296 (fun r0 m0 h0 => M_X3_findPlan _ _ _ _ _ _ _ h0) rfl rfl ⟨by rw [hrm]; exact Nat.le_of_ble_eq_true rfl, by rw [hrm]; exact Nat.le_of_ble_eq_true rfl⟩ ⟨by rw [hrm]; exact Nat.le_of_ble_eq_true rfl, by rw [hrm]; exact Nat.le_of_ble_eq_true rfl⟩ hr3 hk7 rfl rfl rfl (Nat.le_of_ble_eq_true rfl) dX9_plan_51 (fun r3 m3 => ?_)
          refine z_if_eq (tgt := 69) C dX9_plan_54 (by decide) (fun c4 => ?_) (fun c4 => ?_)
          · refine z_iconst (v := (-1)) C dX9_plan_69 (by decide) ?_
            exact z_iret C hr dX9_plan_70
          · refine z_aload_n C dX9_plan_57 rfl 1 rfl ?_
            refine z_chk (fun hk8 => ?_)
            refine z_getR C fl_RX9_46 rfl hk8 dX9_plan_58 ?_
            refine z_iload C dX9_plan_61 6 rfl ?_
            refine z_ck (fun a5 hr4 hk9 => ?_)
            refine z_cVI [.int p5] [] C mv_RX9_300 (fun r0 m0 h0 => M_X3_pointOf _ _ _ _ _ _ _ h0) rfl rfl ⟨by rw [hrm]; exact Nat.le_of_ble_eq_true rfl, by rw [hrm]; exact Nat.le_of_ble_eq_true rfl⟩ ⟨by rw [hrm]; exact Nat.le_of_ble_eq_true rfl, by rw [hrm]; exact Nat.le_of_ble_eq_true rfl⟩ hr4 hk9 rfl rfl rfl (Nat.le_of_ble_eq_true rfl) dX9_plan_63 (fun r4 m4 => ?_)
            refine z_goto (tgt := 70) C dX9_plan_66 (by decide) ?_
            exact z_iret C hr dX9_plan_70
        · refine z_iconst (v := (-1)) C dX9_plan_43 (by decide) ?_
          exact z_iret C hr dX9_plan_44
def f_X9_plan (th : Nat) (p1 : Int32) (p2 : Int32) (p3 : Int32) (p4 : Int32) (p5 : Int32) (m : MM) : Option (Int32 × MM) := g_X9_plan_0 th p1 p2 p3 p4 p5 m
theorem M_X9_plan (l : Launch) (E : EX) (th : Nat) (p1 : Int32) (p2 : Int32) (p3 : Int32) (p4 : Int32) (p5 : Int32) (m : MM) (r : Int32) (m2 : MM) (h : f_X9_plan th p1 p2 p3 p4 p5 m = some (r, m2)) : Met l yX9_plan (.code yX9_plan cX9_plan 7 (some .int) :: TB) rmX9_plan (va_Pc [.ref th, .int p1, .int p2, .int p3, .int p4, .int p5] (St E m)) (QR E (emI r) m2) 0 0 (AA E) :=
  met_of (em := emI) (plainFor_of_name rfl) (Nat.le_of_ble_eq_true rfl) (L0 := [(0, va_rf (some th)), (1, .int p1), (2, .int p2), (3, .int p3), (4, .int p4), (5, .int p5)]) rfl (fun Γ _ hrm C hr hn => s_X9_plan_0 C hr hrm th p1 p2 p3 p4 p5 m) h

theorem dX9_blame_0 : decode cX9_blame 0 = .ok (.aload_n 0, 1) := by decide +kernel
theorem dX9_blame_1 : decode cX9_blame 1 = .ok (.getfield 10, 3) := by decide +kernel
theorem dX9_blame_4 : decode cX9_blame 4 = .ok (.iload_n 2, 1) := by decide +kernel
theorem dX9_blame_5 : decode cX9_blame 5 = .ok (.invokevirtual 175, 3) := by decide +kernel
theorem dX9_blame_8 : decode cX9_blame 8 = .ok (.astore 4, 2) := by decide +kernel
theorem dX9_blame_10 : decode cX9_blame 10 = .ok (.aload 4, 2) := by decide +kernel
theorem dX9_blame_12 : decode cX9_blame 12 = .ok (.ifnull 24, 3) := by decide +kernel
theorem dX9_blame_15 : decode cX9_blame 15 = .ok (.aload_n 0, 1) := by decide +kernel
theorem dX9_blame_16 : decode cX9_blame 16 = .ok (.iload_n 1, 1) := by decide +kernel
theorem dX9_blame_17 : decode cX9_blame 17 = .ok (.iload_n 2, 1) := by decide +kernel
theorem dX9_blame_18 : decode cX9_blame 18 = .ok (.iload_n 3, 1) := by decide +kernel
theorem dX9_blame_19 : decode cX9_blame 19 = .ok (.invokevirtual 247, 3) := by decide +kernel
theorem dX9_blame_22 : decode cX9_blame 22 = .ok (.ifCond .eq 14, 3) := by decide +kernel
theorem dX9_blame_25 : decode cX9_blame 25 = .ok (.aload_n 0, 1) := by decide +kernel
theorem dX9_blame_26 : decode cX9_blame 26 = .ok (.getfield 46, 3) := by decide +kernel
theorem dX9_blame_29 : decode cX9_blame 29 = .ok (.iconst 1, 1) := by decide +kernel
theorem dX9_blame_30 : decode cX9_blame 30 = .ok (.invokevirtual 296, 3) := by decide +kernel
theorem dX9_blame_33 : decode cX9_blame 33 = .ok (.ifCond .eq 5, 3) := by decide +kernel
theorem dX9_blame_36 : decode cX9_blame 36 = .ok (.iconst (-1), 1) := by decide +kernel
theorem dX9_blame_37 : decode cX9_blame 37 = .ok (.ireturn, 1) := by decide +kernel
theorem dX9_blame_38 : decode cX9_blame 38 = .ok (.iconst 0, 1) := by decide +kernel
theorem dX9_blame_39 : decode cX9_blame 39 = .ok (.istore 5, 2) := by decide +kernel
theorem dX9_blame_41 : decode cX9_blame 41 = .ok (.iload 5, 2) := by decide +kernel
theorem dX9_blame_43 : decode cX9_blame 43 = .ok (.aload 4, 2) := by decide +kernel
theorem dX9_blame_45 : decode cX9_blame 45 = .ok (.getfield 178, 3) := by decide +kernel
theorem dX9_blame_48 : decode cX9_blame 48 = .ok (.getfield 142, 3) := by decide +kernel
theorem dX9_blame_51 : decode cX9_blame 51 = .ok (.if_icmp .ge 32, 3) := by decide +kernel
theorem dX9_blame_54 : decode cX9_blame 54 = .ok (.aload_n 0, 1) := by decide +kernel
theorem dX9_blame_55 : decode cX9_blame 55 = .ok (.getfield 30, 3) := by decide +kernel
theorem dX9_blame_58 : decode cX9_blame 58 = .ok (.iload 5, 2) := by decide +kernel
theorem dX9_blame_60 : decode cX9_blame 60 = .ok (.putfield 303, 3) := by decide +kernel
theorem dX9_blame_63 : decode cX9_blame 63 = .ok (.aload_n 0, 1) := by decide +kernel
theorem dX9_blame_64 : decode cX9_blame 64 = .ok (.getfield 46, 3) := by decide +kernel
theorem dX9_blame_67 : decode cX9_blame 67 = .ok (.iconst 1, 1) := by decide +kernel
theorem dX9_blame_68 : decode cX9_blame 68 = .ok (.invokevirtual 296, 3) := by decide +kernel
theorem dX9_blame_71 : decode cX9_blame 71 = .ok (.ifCond .eq 6, 3) := by decide +kernel
theorem dX9_blame_74 : decode cX9_blame 74 = .ok (.iload 5, 2) := by decide +kernel
theorem dX9_blame_76 : decode cX9_blame 76 = .ok (.ireturn, 1) := by decide +kernel
theorem dX9_blame_77 : decode cX9_blame 77 = .ok (.iinc 5 1, 3) := by decide +kernel
theorem dX9_blame_80 : decode cX9_blame 80 = .ok (.goto (-39), 3) := by decide +kernel
theorem dX9_blame_83 : decode cX9_blame 83 = .ok (.iconst (-1), 1) := by decide +kernel
theorem dX9_blame_84 : decode cX9_blame 84 = .ok (.ireturn, 1) := by decide +kernel
def rmX9_blame : Room := { frames := 7, cells := 0, slots := 0, locals := 201 }
set_option maxRecDepth 100000 in
def g_X9_blame_41 (th : Nat) (p1 : Int32) (p2 : Int32) (p3 : Int32) (k41 : Option Nat → Int32 → MM → Option (Int32 × MM)) (x4 : Option Nat) (x5 : Int32) (m : MM) : Option (Int32 × MM) :=
  ck m x4 3 (fun a1 => ck m (m.R 300 a1 0) 7 (fun a2 => if (m.I 703 a2 0) ≤ x5 then (some ((-1), m)) else (chk (m.K th = 10) (ck m (m.R 1003 th 0) 6 (fun a3 => bnd (m.sI 608 a3 0 x5) (fun m1 => ck m1 (m1.R 1005 th 0) 4 (fun a4 => cal (f_X3_findPlan a4 1 m1) (fun r1 m2 => if r1 = 0 then (k41 x4 (x5 + 1) m2) else (some (x5, m2))))))))))
set_option maxHeartbeats 4000000 in
set_option maxRecDepth 100000 in
theorem s_X9_blame_41 {Γ : GX} {E : EX} (C : Cx Γ E cX9_blame RX9 6) (hr : Γ.meth.sig.returnType = (some .int)) (hrm : Γ.rm = rmX9_blame) (th : Nat) (p1 : Int32) (p2 : Int32) (p3 : Int32) (k41 : Option Nat → Int32 → MM → Option (Int32 × MM)) (h41 : ∀ (x4 : Option Nat) (x5 : Int32) (m : MM), Sm (QM Γ E emI 0 0) Γ E 6 0 0 41 [(0, va_rf (some th)), (1, .int p1), (2, .int p2), (3, .int p3), (4, va_rf x4), (5, .int x5)] [] m (k41 x4 x5 m)) (x4 : Option Nat) (x5 : Int32) (m : MM) : Sm (QM Γ E emI 0 0) Γ E 6 0 0 41 [(0, va_rf (some th)), (1, .int p1), (2, .int p2), (3, .int p3), (4, va_rf x4), (5, .int x5)] [] m (g_X9_blame_41 th p1 p2 p3 k41 x4 x5 m) := by
  unfold g_X9_blame_41
  refine z_iload C dX9_blame_41 5 rfl ?_
  refine z_aload C dX9_blame_43 4 rfl ?_
  refine z_ck (fun a1 hr1 hk1 => ?_)
  refine z_getR C fl_RX9_178 hr1 hk1 dX9_blame_45 ?_
  refine z_ck (fun a2 hr2 hk2 => ?_)
  refine z_getI C fl_RX9_142 hr2 hk2 dX9_blame_48 ?_
  refine z_icmp_ge (tgt := 83) C dX9_blame_51 (by decide) (fun c1 => ?_) (fun c1 => ?_)
  · refine z_iconst (v := (-1)) C dX9_blame_83 (by decide) ?_
    exact z_iret C hr dX9_blame_84
  · refine z_aload_n C dX9_blame_54 rfl 0 rfl ?_
    refine z_chk (fun hk3 => ?_)
    refine z_getR C fl_RX9_30 rfl hk3 dX9_blame_55 ?_
    refine z_iload C dX9_blame_58 5 rfl ?_
    refine z_ck (fun a3 hr3 hk4 => ?_)
    refine z_putI C fl_RX9_303 (fun h => by cases h) hr3 hk4 rfl rfl dX9_blame_60 (fun m1 eK1 eN1 => ?_)
    refine z_aload_n C dX9_blame_63 rfl 0 rfl ?_
    refine z_getR C fl_RX9_46 rfl (kfw eK1 hk3) dX9_blame_64 ?_
    refine z_iconst (v := 1) C dX9_blame_67 (by decide) ?_
    refine z_ck (fun a4 hr4 hk5 => ?_)
    refine z_cVI [.int 1] [] C mv_RX9_296 (fun r0 m0 h0 => M_X3_findPlan _ _ _ _ _ _ _ h0) rfl rfl ⟨by rw [hrm]; exact Nat.le_of_ble_eq_true rfl, by rw [hrm]; exact Nat.le_of_ble_eq_true rfl⟩ ⟨by rw [hrm]; exact Nat.le_of_ble_eq_true rfl, by rw [hrm]; exact Nat.le_of_ble_eq_true rfl⟩ hr4 hk5 rfl rfl rfl (Nat.le_of_ble_eq_true rfl) dX9_blame_68 (fun r1 m2 => ?_)
    refine z_if_eq (tgt := 77) C dX9_blame_71 (by decide) (fun c2 => ?_) (fun c2 => ?_)
    · refine z_iinc (v := 1) (L2 := [(5, .int (x5 + 1)), (0, va_rf (some th)), (1, .int p1), (2, .int p2), (3, .int p3), (4, va_rf x4)]) C dX9_blame_77 5 rfl (by decide) (by decide) (by simp [cat_rf, cat_i, cat_l, cat_a]) ?_
      refine z_goto (tgt := 41) C dX9_blame_80 (by decide) ?_
      exact z_sub [1, 2, 3, 4, 5, 0] rfl (h41 x4 (x5 + 1) m2)
    · refine z_iload C dX9_blame_74 5 rfl ?_
      exact z_iret C hr dX9_blame_76
def l_X9_blame_41 (th : Nat) (p1 : Int32) (p2 : Int32) (p3 : Int32) : Nat → Option Nat → Int32 → MM → Option (Int32 × MM) := lp (fun _ _ _ => none) (fun k41 => g_X9_blame_41 th p1 p2 p3 k41)
theorem t_X9_blame_41 {Γ : GX} {E : EX} (C : Cx Γ E cX9_blame RX9 6) (hr : Γ.meth.sig.returnType = (some .int)) (hrm : Γ.rm = rmX9_blame) (th : Nat) (p1 : Int32) (p2 : Int32) (p3 : Int32) : ∀ (n : Nat) (x4 : Option Nat) (x5 : Int32) (m : MM), Sm (QM Γ E emI 0 0) Γ E 6 0 0 41 [(0, va_rf (some th)), (1, .int p1), (2, .int p2), (3, .int p3), (4, va_rf x4), (5, .int x5)] [] m (l_X9_blame_41 th p1 p2 p3 n x4 x5 m) := by
  intro n
  induction n with
  | zero => intros; exact z_none
  | succ n ih => intro x4 x5 m; exact s_X9_blame_41 C hr hrm th p1 p2 p3 (l_X9_blame_41 th p1 p2 p3 n) ih x4 x5 m
set_option maxRecDepth 100000 in
def g_X9_blame_0 (th : Nat) (p1 : Int32) (p2 : Int32) (p3 : Int32) (m : MM) : Option (Int32 × MM) :=
  chk (m.K th = 10) (ck m (m.R 1000 th 0) 8 (fun a5 => cal (f_X7_lawAt a5 p2 m) (fun r2 m3 => ifn r2 (some ((-1), m3)) (fun a6 => chk (m3.K th = 10) (cal (f_X9_opened th p1 p2 p3 m3) (fun r3 m4 => if r3 = 0 then (some ((-1), m4)) else (chk (m4.K th = 10) (ck m4 (m4.R 1005 th 0) 4 (fun a7 => cal (f_X3_findPlan a7 1 m4) (fun r4 m5 => if r4 = 0 then (l_X9_blame_41 th p1 p2 p3 FU r2 0 m5) else (some ((-1), m5))))))))))))
set_option maxHeartbeats 4000000 in
set_option maxRecDepth 100000 in
theorem s_X9_blame_0 {Γ : GX} {E : EX} (C : Cx Γ E cX9_blame RX9 6) (hr : Γ.meth.sig.returnType = (some .int)) (hrm : Γ.rm = rmX9_blame) (th : Nat) (p1 : Int32) (p2 : Int32) (p3 : Int32) (m : MM) : Sm (QM Γ E emI 0 0) Γ E 6 0 0 0 [(0, va_rf (some th)), (1, .int p1), (2, .int p2), (3, .int p3)] [] m (g_X9_blame_0 th p1 p2 p3 m) := by
  unfold g_X9_blame_0
  refine z_aload_n C dX9_blame_0 rfl 0 rfl ?_
  refine z_chk (fun hk6 => ?_)
  refine z_getR C fl_RX9_10 rfl hk6 dX9_blame_1 ?_
  refine z_iload_n C dX9_blame_4 rfl 2 rfl ?_
  refine z_ck (fun a5 hr5 hk7 => ?_)
  refine z_cVR [.int p2] [] C mv_RX9_175 (fun r0 m0 h0 => M_X7_lawAt _ _ _ _ _ _ _ h0) rfl rfl ⟨by rw [hrm]; exact Nat.le_of_ble_eq_true rfl, by rw [hrm]; exact Nat.le_of_ble_eq_true rfl⟩ ⟨by rw [hrm]; exact Nat.le_of_ble_eq_true rfl, by rw [hrm]; exact Nat.le_of_ble_eq_true rfl⟩ hr5 hk7 rfl rfl rfl (Nat.le_of_ble_eq_true rfl) dX9_blame_5 (fun r2 m3 => ?_)
  refine z_astore (i := 4) (L2 := [(4, va_rf r2), (0, va_rf (some th)), (1, .int p1), (2, .int p2), (3, .int p3)]) C dX9_blame_8 (by decide) rfl ?_
  refine z_aload C dX9_blame_10 0 rfl ?_
  refine z_ifnull (tgt := 36) C dX9_blame_12 (by decide) (fun hn1 => ?_) (fun a6 ha1 => ?_)
  · refine z_iconst (v := (-1)) C dX9_blame_36 (by decide) ?_
    exact z_iret C hr dX9_blame_37
  · refine z_aload_n C dX9_blame_15 rfl 1 rfl ?_
    refine z_iload_n C dX9_blame_16 rfl 2 rfl ?_
    refine z_iload_n C dX9_blame_17 rfl 3 rfl ?_
    refine z_iload_n C dX9_blame_18 rfl 4 rfl ?_
    refine z_chk (fun hk8 => ?_)
    refine z_cVI [.int p1, .int p2, .int p3] [] C mv_RX9_247 (fun r0 m0 h0 => M_X9_opened _ _ _ _ _ _ _ _ _ h0) rfl rfl ⟨by rw [hrm]; exact Nat.le_of_ble_eq_true rfl, by rw [hrm]; exact Nat.le_of_ble_eq_true rfl⟩ ⟨by rw [hrm]; exact Nat.le_of_ble_eq_true rfl, by rw [hrm]; exact Nat.le_of_ble_eq_true rfl⟩ rfl hk8 rfl rfl rfl (Nat.le_of_ble_eq_true rfl) dX9_blame_19 (fun r3 m4 => ?_)
    refine z_if_eq (tgt := 36) C dX9_blame_22 (by decide) (fun c3 => ?_) (fun c3 => ?_)
    · refine z_iconst (v := (-1)) C dX9_blame_36 (by decide) ?_
      exact z_iret C hr dX9_blame_37
    · refine z_aload_n C dX9_blame_25 rfl 1 rfl ?_
      refine z_chk (fun hk9 => ?_)
      refine z_getR C fl_RX9_46 rfl hk9 dX9_blame_26 ?_
      refine z_iconst (v := 1) C dX9_blame_29 (by decide) ?_
      refine z_ck (fun a7 hr6 hk10 => ?_)
      refine z_cVI [.int 1] [] C mv_RX9_296 (fun r0 m0 h0 => M_X3_findPlan _ _ _ _ _ _ _ h0) rfl rfl ⟨by rw [hrm]; exact Nat.le_of_ble_eq_true rfl, by rw [hrm]; exact Nat.le_of_ble_eq_true rfl⟩ ⟨by rw [hrm]; exact Nat.le_of_ble_eq_true rfl, by rw [hrm]; exact Nat.le_of_ble_eq_true rfl⟩ hr6 hk10 rfl rfl rfl (Nat.le_of_ble_eq_true rfl) dX9_blame_30 (fun r4 m5 => ?_)
      refine z_if_eq (tgt := 38) C dX9_blame_33 (by decide) (fun c4 => ?_) (fun c4 => ?_)
      · refine z_iconst (v := 0) C dX9_blame_38 (by decide) ?_
        refine z_istore (i := 5) (L2 := [(5, .int 0), (4, va_rf r2), (0, va_rf (some th)), (1, .int p1), (2, .int p2), (3, .int p3)]) C dX9_blame_39 (by decide) (by simp [cat_rf, cat_i, cat_l, cat_a]) ?_
        exact z_sub [2, 3, 4, 5, 1, 0] rfl (t_X9_blame_41 C hr hrm th p1 p2 p3 FU r2 0 m5)
      · refine z_iconst (v := (-1)) C dX9_blame_36 (by decide) ?_
        exact z_iret C hr dX9_blame_37
def f_X9_blame (th : Nat) (p1 : Int32) (p2 : Int32) (p3 : Int32) (m : MM) : Option (Int32 × MM) := g_X9_blame_0 th p1 p2 p3 m
theorem M_X9_blame (l : Launch) (E : EX) (th : Nat) (p1 : Int32) (p2 : Int32) (p3 : Int32) (m : MM) (r : Int32) (m2 : MM) (h : f_X9_blame th p1 p2 p3 m = some (r, m2)) : Met l yX9_blame (.code yX9_blame cX9_blame 6 (some .int) :: TB) rmX9_blame (va_Pc [.ref th, .int p1, .int p2, .int p3] (St E m)) (QR E (emI r) m2) 0 0 (AA E) :=
  met_of (em := emI) (plainFor_of_name rfl) (Nat.le_of_ble_eq_true rfl) (L0 := [(0, va_rf (some th)), (1, .int p1), (2, .int p2), (3, .int p3)]) rfl (fun Γ _ hrm C hr hn => s_X9_blame_0 C hr hrm th p1 p2 p3 m) h

theorem dX9_fewest_0 : decode cX9_fewest 0 = .ok (.aload_n 0, 1) := by decide +kernel
theorem dX9_fewest_1 : decode cX9_fewest 1 = .ok (.iload_n 1, 1) := by decide +kernel
theorem dX9_fewest_2 : decode cX9_fewest 2 = .ok (.iload_n 2, 1) := by decide +kernel
theorem dX9_fewest_3 : decode cX9_fewest 3 = .ok (.iload_n 3, 1) := by decide +kernel
theorem dX9_fewest_4 : decode cX9_fewest 4 = .ok (.invokevirtual 247, 3) := by decide +kernel
theorem dX9_fewest_7 : decode cX9_fewest 7 = .ok (.ifCond .ne 5, 3) := by decide +kernel
theorem dX9_fewest_10 : decode cX9_fewest 10 = .ok (.iconst (-1), 1) := by decide +kernel
theorem dX9_fewest_11 : decode cX9_fewest 11 = .ok (.ireturn, 1) := by decide +kernel
theorem dX9_fewest_12 : decode cX9_fewest 12 = .ok (.aload_n 0, 1) := by decide +kernel
theorem dX9_fewest_13 : decode cX9_fewest 13 = .ok (.getfield 30, 3) := by decide +kernel
theorem dX9_fewest_16 : decode cX9_fewest 16 = .ok (.invokevirtual 306, 3) := by decide +kernel
theorem dX9_fewest_19 : decode cX9_fewest 19 = .ok (.pop, 1) := by decide +kernel
theorem dX9_fewest_20 : decode cX9_fewest 20 = .ok (.aload_n 0, 1) := by decide +kernel
theorem dX9_fewest_21 : decode cX9_fewest 21 = .ok (.getfield 39, 3) := by decide +kernel
theorem dX9_fewest_24 : decode cX9_fewest 24 = .ok (.iload 4, 2) := by decide +kernel
theorem dX9_fewest_26 : decode cX9_fewest 26 = .ok (.invokevirtual 310, 3) := by decide +kernel
theorem dX9_fewest_29 : decode cX9_fewest 29 = .ok (.ireturn, 1) := by decide +kernel
def rmX9_fewest : Room := { frames := 6, cells := 0, slots := 0, locals := 163 }
set_option maxRecDepth 100000 in
def g_X9_fewest_0 (th : Nat) (p1 : Int32) (p2 : Int32) (p3 : Int32) (p4 : Int32) (m : MM) : Option (Int32 × MM) :=
  chk (m.K th = 10) (cal (f_X9_opened th p1 p2 p3 m) (fun r1 m1 => if r1 = 0 then (some ((-1), m1)) else (chk (m1.K th = 10) (ck m1 (m1.R 1003 th 0) 6 (fun a1 => cal (f_X5_findFoes a1 m1) (fun r2 m2 => chk (m2.K th = 10) (ck m2 (m2.R 1004 th 0) 2 (fun a2 => cal (f_X1_fewestWithout a2 p4 m2) (fun r3 m3 => some (r3, m3))))))))))
set_option maxHeartbeats 4000000 in
set_option maxRecDepth 100000 in
theorem s_X9_fewest_0 {Γ : GX} {E : EX} (C : Cx Γ E cX9_fewest RX9 5) (hr : Γ.meth.sig.returnType = (some .int)) (hrm : Γ.rm = rmX9_fewest) (th : Nat) (p1 : Int32) (p2 : Int32) (p3 : Int32) (p4 : Int32) (m : MM) : Sm (QM Γ E emI 0 0) Γ E 5 0 0 0 [(0, va_rf (some th)), (1, .int p1), (2, .int p2), (3, .int p3), (4, .int p4)] [] m (g_X9_fewest_0 th p1 p2 p3 p4 m) := by
  unfold g_X9_fewest_0
  refine z_aload_n C dX9_fewest_0 rfl 0 rfl ?_
  refine z_iload_n C dX9_fewest_1 rfl 1 rfl ?_
  refine z_iload_n C dX9_fewest_2 rfl 2 rfl ?_
  refine z_iload_n C dX9_fewest_3 rfl 3 rfl ?_
  refine z_chk (fun hk1 => ?_)
  refine z_cVI [.int p1, .int p2, .int p3] [] C mv_RX9_247 (fun r0 m0 h0 => M_X9_opened _ _ _ _ _ _ _ _ _ h0) rfl rfl ⟨by rw [hrm]; exact Nat.le_of_ble_eq_true rfl, by rw [hrm]; exact Nat.le_of_ble_eq_true rfl⟩ ⟨by rw [hrm]; exact Nat.le_of_ble_eq_true rfl, by rw [hrm]; exact Nat.le_of_ble_eq_true rfl⟩ rfl hk1 rfl rfl rfl (Nat.le_of_ble_eq_true rfl) dX9_fewest_4 (fun r1 m1 => ?_)
  refine z_if_ne (tgt := 12) C dX9_fewest_7 (by decide) (fun c1 => ?_) (fun c1 => ?_)
  · refine z_aload_n C dX9_fewest_12 rfl 0 rfl ?_
    refine z_chk (fun hk2 => ?_)
    refine z_getR C fl_RX9_30 rfl hk2 dX9_fewest_13 ?_
    refine z_ck (fun a1 hr1 hk3 => ?_)
    refine z_cVI [] [] C mv_RX9_306 (fun r0 m0 h0 => M_X5_findFoes _ _ _ _ _ _ h0) rfl rfl ⟨by rw [hrm]; exact Nat.le_of_ble_eq_true rfl, by rw [hrm]; exact Nat.le_of_ble_eq_true rfl⟩ ⟨by rw [hrm]; exact Nat.le_of_ble_eq_true rfl, by rw [hrm]; exact Nat.le_of_ble_eq_true rfl⟩ hr1 hk3 rfl rfl rfl (Nat.le_of_ble_eq_true rfl) dX9_fewest_16 (fun r2 m2 => ?_)
    refine z_pop C rfl dX9_fewest_19 ?_
    refine z_aload_n C dX9_fewest_20 rfl 0 rfl ?_
    refine z_chk (fun hk4 => ?_)
    refine z_getR C fl_RX9_39 rfl hk4 dX9_fewest_21 ?_
    refine z_iload C dX9_fewest_24 4 rfl ?_
    refine z_ck (fun a2 hr2 hk5 => ?_)
    refine z_cVI [.int p4] [] C mv_RX9_310 (fun r0 m0 h0 => M_X1_fewestWithout _ _ _ _ _ _ _ h0) rfl rfl ⟨by rw [hrm]; exact Nat.le_of_ble_eq_true rfl, by rw [hrm]; exact Nat.le_of_ble_eq_true rfl⟩ ⟨by rw [hrm]; exact Nat.le_of_ble_eq_true rfl, by rw [hrm]; exact Nat.le_of_ble_eq_true rfl⟩ hr2 hk5 rfl rfl rfl (Nat.le_of_ble_eq_true rfl) dX9_fewest_26 (fun r3 m3 => ?_)
    exact z_iret C hr dX9_fewest_29
  · refine z_iconst (v := (-1)) C dX9_fewest_10 (by decide) ?_
    exact z_iret C hr dX9_fewest_11
def f_X9_fewest (th : Nat) (p1 : Int32) (p2 : Int32) (p3 : Int32) (p4 : Int32) (m : MM) : Option (Int32 × MM) := g_X9_fewest_0 th p1 p2 p3 p4 m
theorem M_X9_fewest (l : Launch) (E : EX) (th : Nat) (p1 : Int32) (p2 : Int32) (p3 : Int32) (p4 : Int32) (m : MM) (r : Int32) (m2 : MM) (h : f_X9_fewest th p1 p2 p3 p4 m = some (r, m2)) : Met l yX9_fewest (.code yX9_fewest cX9_fewest 5 (some .int) :: TB) rmX9_fewest (va_Pc [.ref th, .int p1, .int p2, .int p3, .int p4] (St E m)) (QR E (emI r) m2) 0 0 (AA E) :=
  met_of (em := emI) (plainFor_of_name rfl) (Nat.le_of_ble_eq_true rfl) (L0 := [(0, va_rf (some th)), (1, .int p1), (2, .int p2), (3, .int p3), (4, .int p4)]) rfl (fun Γ _ hrm C hr hn => s_X9_fewest_0 C hr hrm th p1 p2 p3 p4 m) h

theorem dX9_fenced_0 : decode cX9_fenced 0 = .ok (.aload_n 0, 1) := by decide +kernel
theorem dX9_fenced_1 : decode cX9_fenced 1 = .ok (.iload_n 1, 1) := by decide +kernel
theorem dX9_fenced_2 : decode cX9_fenced 2 = .ok (.iload_n 2, 1) := by decide +kernel
theorem dX9_fenced_3 : decode cX9_fenced 3 = .ok (.iload_n 3, 1) := by decide +kernel
theorem dX9_fenced_4 : decode cX9_fenced 4 = .ok (.invokevirtual 247, 3) := by decide +kernel
theorem dX9_fenced_7 : decode cX9_fenced 7 = .ok (.ifCond .ne 5, 3) := by decide +kernel
theorem dX9_fenced_10 : decode cX9_fenced 10 = .ok (.iconst (-1), 1) := by decide +kernel
theorem dX9_fenced_11 : decode cX9_fenced 11 = .ok (.ireturn, 1) := by decide +kernel
theorem dX9_fenced_12 : decode cX9_fenced 12 = .ok (.aload_n 0, 1) := by decide +kernel
theorem dX9_fenced_13 : decode cX9_fenced 13 = .ok (.getfield 39, 3) := by decide +kernel
theorem dX9_fenced_16 : decode cX9_fenced 16 = .ok (.invokevirtual 251, 3) := by decide +kernel
theorem dX9_fenced_19 : decode cX9_fenced 19 = .ok (.aload_n 0, 1) := by decide +kernel
theorem dX9_fenced_20 : decode cX9_fenced 20 = .ok (.getfield 39, 3) := by decide +kernel
theorem dX9_fenced_23 : decode cX9_fenced 23 = .ok (.invokevirtual 314, 3) := by decide +kernel
theorem dX9_fenced_26 : decode cX9_fenced 26 = .ok (.ireturn, 1) := by decide +kernel
def rmX9_fenced : Room := { frames := 5, cells := 0, slots := 0, locals := 141 }
set_option maxRecDepth 100000 in
def g_X9_fenced_0 (th : Nat) (p1 : Int32) (p2 : Int32) (p3 : Int32) (m : MM) : Option (Int32 × MM) :=
  chk (m.K th = 10) (cal (f_X9_opened th p1 p2 p3 m) (fun r1 m1 => if r1 = 0 then (some ((-1), m1)) else (chk (m1.K th = 10) (ck m1 (m1.R 1004 th 0) 2 (fun a1 => cal (f_X1_collect a1 m1) (fun r2 m2 => chk (m2.K th = 10) (ck m2 (m2.R 1004 th 0) 2 (fun a2 => cal (f_X1_fewestFences a2 m2) (fun r3 m3 => some (r3, m3))))))))))
set_option maxHeartbeats 4000000 in
set_option maxRecDepth 100000 in
theorem s_X9_fenced_0 {Γ : GX} {E : EX} (C : Cx Γ E cX9_fenced RX9 4) (hr : Γ.meth.sig.returnType = (some .int)) (hrm : Γ.rm = rmX9_fenced) (th : Nat) (p1 : Int32) (p2 : Int32) (p3 : Int32) (m : MM) : Sm (QM Γ E emI 0 0) Γ E 4 0 0 0 [(0, va_rf (some th)), (1, .int p1), (2, .int p2), (3, .int p3)] [] m (g_X9_fenced_0 th p1 p2 p3 m) := by
  unfold g_X9_fenced_0
  refine z_aload_n C dX9_fenced_0 rfl 0 rfl ?_
  refine z_iload_n C dX9_fenced_1 rfl 1 rfl ?_
  refine z_iload_n C dX9_fenced_2 rfl 2 rfl ?_
  refine z_iload_n C dX9_fenced_3 rfl 3 rfl ?_
  refine z_chk (fun hk1 => ?_)
  refine z_cVI [.int p1, .int p2, .int p3] [] C mv_RX9_247 (fun r0 m0 h0 => M_X9_opened _ _ _ _ _ _ _ _ _ h0) rfl rfl ⟨by rw [hrm]; exact Nat.le_of_ble_eq_true rfl, by rw [hrm]; exact Nat.le_of_ble_eq_true rfl⟩ ⟨by rw [hrm]; exact Nat.le_of_ble_eq_true rfl, by rw [hrm]; exact Nat.le_of_ble_eq_true rfl⟩ rfl hk1 rfl rfl rfl (Nat.le_of_ble_eq_true rfl) dX9_fenced_4 (fun r1 m1 => ?_)
  refine z_if_ne (tgt := 12) C dX9_fenced_7 (by decide) (fun c1 => ?_) (fun c1 => ?_)
  · refine z_aload_n C dX9_fenced_12 rfl 0 rfl ?_
    refine z_chk (fun hk2 => ?_)
    refine z_getR C fl_RX9_39 rfl hk2 dX9_fenced_13 ?_
    refine z_ck (fun a1 hr1 hk3 => ?_)
    refine z_cVV [] [] C mv_RX9_251 (fun r0 m0 h0 => M_X1_collect _ _ _ _ _ _ h0) rfl rfl ⟨by rw [hrm]; exact Nat.le_of_ble_eq_true rfl, by rw [hrm]; exact Nat.le_of_ble_eq_true rfl⟩ ⟨by rw [hrm]; exact Nat.le_of_ble_eq_true rfl, by rw [hrm]; exact Nat.le_of_ble_eq_true rfl⟩ hr1 hk3 rfl rfl rfl (Nat.le_of_ble_eq_true rfl) dX9_fenced_16 (fun r2 m2 => ?_)
    refine z_aload_n C dX9_fenced_19 rfl 0 rfl ?_
    refine z_chk (fun hk4 => ?_)
    refine z_getR C fl_RX9_39 rfl hk4 dX9_fenced_20 ?_
    refine z_ck (fun a2 hr2 hk5 => ?_)
    refine z_cVI [] [] C mv_RX9_314 (fun r0 m0 h0 => M_X1_fewestFences _ _ _ _ _ _ h0) rfl rfl ⟨by rw [hrm]; exact Nat.le_of_ble_eq_true rfl, by rw [hrm]; exact Nat.le_of_ble_eq_true rfl⟩ ⟨by rw [hrm]; exact Nat.le_of_ble_eq_true rfl, by rw [hrm]; exact Nat.le_of_ble_eq_true rfl⟩ hr2 hk5 rfl rfl rfl (Nat.le_of_ble_eq_true rfl) dX9_fenced_23 (fun r3 m3 => ?_)
    exact z_iret C hr dX9_fenced_26
  · refine z_iconst (v := (-1)) C dX9_fenced_10 (by decide) ?_
    exact z_iret C hr dX9_fenced_11
def f_X9_fenced (th : Nat) (p1 : Int32) (p2 : Int32) (p3 : Int32) (m : MM) : Option (Int32 × MM) := g_X9_fenced_0 th p1 p2 p3 m
theorem M_X9_fenced (l : Launch) (E : EX) (th : Nat) (p1 : Int32) (p2 : Int32) (p3 : Int32) (m : MM) (r : Int32) (m2 : MM) (h : f_X9_fenced th p1 p2 p3 m = some (r, m2)) : Met l yX9_fenced (.code yX9_fenced cX9_fenced 4 (some .int) :: TB) rmX9_fenced (va_Pc [.ref th, .int p1, .int p2, .int p3] (St E m)) (QR E (emI r) m2) 0 0 (AA E) :=
  met_of (em := emI) (plainFor_of_name rfl) (Nat.le_of_ble_eq_true rfl) (L0 := [(0, va_rf (some th)), (1, .int p1), (2, .int p2), (3, .int p3)]) rfl (fun Γ _ hrm C hr hn => s_X9_fenced_0 C hr hrm th p1 p2 p3 m) h

theorem dX9_smells_0 : decode cX9_smells 0 = .ok (.aload_n 0, 1) := by decide +kernel
theorem dX9_smells_1 : decode cX9_smells 1 = .ok (.getfield 10, 3) := by decide +kernel
theorem dX9_smells_4 : decode cX9_smells 4 = .ok (.iload_n 1, 1) := by decide +kernel
theorem dX9_smells_5 : decode cX9_smells 5 = .ok (.invokevirtual 122, 3) := by decide +kernel
theorem dX9_smells_8 : decode cX9_smells 8 = .ok (.astore 4, 2) := by decide +kernel
theorem dX9_smells_10 : decode cX9_smells 10 = .ok (.aload 4, 2) := by decide +kernel
theorem dX9_smells_12 : decode cX9_smells 12 = .ok (.ifnull 13, 3) := by decide +kernel
theorem dX9_smells_15 : decode cX9_smells 15 = .ok (.aload 4, 2) := by decide +kernel
theorem dX9_smells_17 : decode cX9_smells 17 = .ok (.iload_n 2, 1) := by decide +kernel
theorem dX9_smells_18 : decode cX9_smells 18 = .ok (.iload_n 3, 1) := by decide +kernel
theorem dX9_smells_19 : decode cX9_smells 19 = .ok (.invokevirtual 224, 3) := by decide +kernel
theorem dX9_smells_22 : decode cX9_smells 22 = .ok (.ifCond .ne 5, 3) := by decide +kernel
theorem dX9_smells_25 : decode cX9_smells 25 = .ok (.iconst (-1), 1) := by decide +kernel
theorem dX9_smells_26 : decode cX9_smells 26 = .ok (.ireturn, 1) := by decide +kernel
theorem dX9_smells_27 : decode cX9_smells 27 = .ok (.aload 4, 2) := by decide +kernel
theorem dX9_smells_29 : decode cX9_smells 29 = .ok (.getfield 138, 3) := by decide +kernel
theorem dX9_smells_32 : decode cX9_smells 32 = .ok (.iload_n 3, 1) := by decide +kernel
theorem dX9_smells_33 : decode cX9_smells 33 = .ok (.iconst 1, 1) := by decide +kernel
theorem dX9_smells_34 : decode cX9_smells 34 = .ok (.invokevirtual 172, 3) := by decide +kernel
theorem dX9_smells_37 : decode cX9_smells 37 = .ok (.aload 4, 2) := by decide +kernel
theorem dX9_smells_39 : decode cX9_smells 39 = .ok (.getfield 138, 3) := by decide +kernel
theorem dX9_smells_42 : decode cX9_smells 42 = .ok (.iload_n 2, 1) := by decide +kernel
theorem dX9_smells_43 : decode cX9_smells 43 = .ok (.iconst 1, 1) := by decide +kernel
theorem dX9_smells_44 : decode cX9_smells 44 = .ok (.invokevirtual 172, 3) := by decide +kernel
theorem dX9_smells_47 : decode cX9_smells 47 = .ok (.isub, 1) := by decide +kernel
theorem dX9_smells_48 : decode cX9_smells 48 = .ok (.istore 5, 2) := by decide +kernel
theorem dX9_smells_50 : decode cX9_smells 50 = .ok (.aload 4, 2) := by decide +kernel
theorem dX9_smells_52 : decode cX9_smells 52 = .ok (.getfield 138, 3) := by decide +kernel
theorem dX9_smells_55 : decode cX9_smells 55 = .ok (.iload_n 3, 1) := by decide +kernel
theorem dX9_smells_56 : decode cX9_smells 56 = .ok (.iconst 2, 1) := by decide +kernel
theorem dX9_smells_57 : decode cX9_smells 57 = .ok (.invokevirtual 172, 3) := by decide +kernel
theorem dX9_smells_60 : decode cX9_smells 60 = .ok (.aload 4, 2) := by decide +kernel
theorem dX9_smells_62 : decode cX9_smells 62 = .ok (.getfield 138, 3) := by decide +kernel
theorem dX9_smells_65 : decode cX9_smells 65 = .ok (.iload_n 2, 1) := by decide +kernel
theorem dX9_smells_66 : decode cX9_smells 66 = .ok (.iconst 2, 1) := by decide +kernel
theorem dX9_smells_67 : decode cX9_smells 67 = .ok (.invokevirtual 172, 3) := by decide +kernel
theorem dX9_smells_70 : decode cX9_smells 70 = .ok (.isub, 1) := by decide +kernel
theorem dX9_smells_71 : decode cX9_smells 71 = .ok (.istore 6, 2) := by decide +kernel
theorem dX9_smells_73 : decode cX9_smells 73 = .ok (.aload 4, 2) := by decide +kernel
theorem dX9_smells_75 : decode cX9_smells 75 = .ok (.sipush 255, 3) := by decide +kernel
theorem dX9_smells_78 : decode cX9_smells 78 = .ok (.iload 5, 2) := by decide +kernel
theorem dX9_smells_80 : decode cX9_smells 80 = .ok (.iload 6, 2) := by decide +kernel
theorem dX9_smells_82 : decode cX9_smells 82 = .ok (.invokevirtual 317, 3) := by decide +kernel
theorem dX9_smells_85 : decode cX9_smells 85 = .ok (.ireturn, 1) := by decide +kernel
def rmX9_smells : Room := { frames := 2, cells := 0, slots := 0, locals := 43 }
set_option maxRecDepth 100000 in
def g_X9_smells_0 (th : Nat) (p1 : Int32) (p2 : Int32) (p3 : Int32) (m : MM) : Option (Int32 × MM) :=
  chk (m.K th = 10) (ck m (m.R 1000 th 0) 8 (fun a1 => cal (f_X7_townAt a1 p1 m) (fun r1 m1 => ifn r1 (some ((-1), m1)) (fun a2 => chk (m1.K a2 = 9) (cal (f_X8_hasTwo a2 p2 p3 m1) (fun r2 m2 => if r2 = 0 then (some ((-1), m2)) else (chk (m2.K a2 = 9) (ck m2 (m2.R 904 a2 0) 7 (fun a3 => cal (f_X6_cell a3 p3 1 m2) (fun r3 m3 => chk (m3.K a2 = 9) (ck m3 (m3.R 904 a2 0) 7 (fun a4 => cal (f_X6_cell a4 p2 1 m3) (fun r4 m4 => bnd (r3 - r4) (fun y1 => chk (m4.K a2 = 9) (ck m4 (m4.R 904 a2 0) 7 (fun a5 => cal (f_X6_cell a5 p3 2 m4) (fun r5 m5 => chk (m5.K a2 = 9) (ck m5 (m5.R 904 a2 0) 7 (fun a6 => cal (f_X6_cell a6 p2 2 m5) (fun r6 m6 => bnd (r5 - r6) (fun y2 => chk (m6.K a2 = 9) (cal (f_X8_hoursDownwind a2 255 y1 y2 m6) (fun r7 m7 => some (r7, m7))))))))))))))))))))))))
set_option maxHeartbeats 4000000 in
set_option maxRecDepth 100000 in
theorem s_X9_smells_0 {Γ : GX} {E : EX} (C : Cx Γ E cX9_smells RX9 7) (hr : Γ.meth.sig.returnType = (some .int)) (hrm : Γ.rm = rmX9_smells) (th : Nat) (p1 : Int32) (p2 : Int32) (p3 : Int32) (m : MM) : Sm (QM Γ E emI 0 0) Γ E 7 0 0 0 [(0, va_rf (some th)), (1, .int p1), (2, .int p2), (3, .int p3)] [] m (g_X9_smells_0 th p1 p2 p3 m) := by
  unfold g_X9_smells_0
  refine z_aload_n C dX9_smells_0 rfl 0 rfl ?_
  refine z_chk (fun hk1 => ?_)
  refine z_getR C fl_RX9_10 rfl hk1 dX9_smells_1 ?_
  refine z_iload_n C dX9_smells_4 rfl 1 rfl ?_
  refine z_ck (fun a1 hr1 hk2 => ?_)
  refine z_cVR [.int p1] [] C mv_RX9_122 (fun r0 m0 h0 => M_X7_townAt _ _ _ _ _ _ _ h0) rfl rfl ⟨by rw [hrm]; exact Nat.le_of_ble_eq_true rfl, by rw [hrm]; exact Nat.le_of_ble_eq_true rfl⟩ ⟨by rw [hrm]; exact Nat.le_of_ble_eq_true rfl, by rw [hrm]; exact Nat.le_of_ble_eq_true rfl⟩ hr1 hk2 rfl rfl rfl (Nat.le_of_ble_eq_true rfl) dX9_smells_5 (fun r1 m1 => ?_)
  refine z_astore (i := 4) (L2 := [(4, va_rf r1), (0, va_rf (some th)), (1, .int p1), (2, .int p2), (3, .int p3)]) C dX9_smells_8 (by decide) rfl ?_
  refine z_aload C dX9_smells_10 0 rfl ?_
  refine z_ifnull (tgt := 25) C dX9_smells_12 (by decide) (fun hn1 => ?_) (fun a2 ha1 => ?_)
  · refine z_iconst (v := (-1)) C dX9_smells_25 (by decide) ?_
    exact z_iret C hr dX9_smells_26
  · refine z_aload C dX9_smells_15 0 rfl ?_
    refine z_iload_n C dX9_smells_17 rfl 3 rfl ?_
    refine z_iload_n C dX9_smells_18 rfl 4 rfl ?_
    refine z_chk (fun hk3 => ?_)
    refine z_cVI [.int p2, .int p3] [] C mv_RX9_224 (fun r0 m0 h0 => M_X8_hasTwo _ _ _ _ _ _ _ _ h0) rfl rfl ⟨by rw [hrm]; exact Nat.le_of_ble_eq_true rfl, by rw [hrm]; exact Nat.le_of_ble_eq_true rfl⟩ ⟨by rw [hrm]; exact Nat.le_of_ble_eq_true rfl, by rw [hrm]; exact Nat.le_of_ble_eq_true rfl⟩ ha1 hk3 rfl rfl rfl (Nat.le_of_ble_eq_true rfl) dX9_smells_19 (fun r2 m2 => ?_)
    refine z_if_ne (tgt := 27) C dX9_smells_22 (by decide) (fun c1 => ?_) (fun c1 => ?_)
    · refine z_aload C dX9_smells_27 0 rfl ?_
      refine z_chk (fun hk4 => ?_)
      refine z_getR C fl_RX9_138 ha1 hk4 dX9_smells_29 ?_
      refine z_iload_n C dX9_smells_32 rfl 4 rfl ?_
      refine z_iconst (v := 1) C dX9_smells_33 (by decide) ?_
      refine z_ck (fun a3 hr2 hk5 => ?_)
      refine z_cVI [.int p3, .int 1] [] C mv_RX9_172 (fun r0 m0 h0 => M_X6_cell _ _ _ _ _ _ _ _ h0) rfl rfl ⟨by rw [hrm]; exact Nat.le_of_ble_eq_true rfl, by rw [hrm]; exact Nat.le_of_ble_eq_true rfl⟩ ⟨by rw [hrm]; exact Nat.le_of_ble_eq_true rfl, by rw [hrm]; exact Nat.le_of_ble_eq_true rfl⟩ hr2 hk5 rfl rfl rfl (Nat.le_of_ble_eq_true rfl) dX9_smells_34 (fun r3 m3 => ?_)
      refine z_aload C dX9_smells_37 0 rfl ?_
      refine z_chk (fun hk6 => ?_)
      refine z_getR C fl_RX9_138 ha1 hk6 dX9_smells_39 ?_
      refine z_iload_n C dX9_smells_42 rfl 3 rfl ?_
      refine z_iconst (v := 1) C dX9_smells_43 (by decide) ?_
      refine z_ck (fun a4 hr3 hk7 => ?_)
      refine z_cVI [.int p2, .int 1] [.int r3] C mv_RX9_172 (fun r0 m0 h0 => M_X6_cell _ _ _ _ _ _ _ _ h0) rfl rfl ⟨by rw [hrm]; exact Nat.le_of_ble_eq_true rfl, by rw [hrm]; exact Nat.le_of_ble_eq_true rfl⟩ ⟨by rw [hrm]; exact Nat.le_of_ble_eq_true rfl, by rw [hrm]; exact Nat.le_of_ble_eq_true rfl⟩ hr3 hk7 rfl rfl rfl (Nat.le_of_ble_eq_true rfl) dX9_smells_44 (fun r4 m4 => ?_)
      refine z_isub C dX9_smells_47 ?_
      refine z_bndI (fun y1 => ?_)
      refine z_istore (i := 5) (L2 := [(5, .int y1), (4, va_rf r1), (0, va_rf (some th)), (1, .int p1), (2, .int p2), (3, .int p3)]) C dX9_smells_48 (by decide) (by simp [cat_rf, cat_i, cat_l, cat_a]) ?_
      refine z_aload C dX9_smells_50 1 rfl ?_
      refine z_chk (fun hk8 => ?_)
      refine z_getR C fl_RX9_138 ha1 hk8 dX9_smells_52 ?_
      refine z_iload_n C dX9_smells_55 rfl 5 rfl ?_
      refine z_iconst (v := 2) C dX9_smells_56 (by decide) ?_
      refine z_ck (fun a5 hr4 hk9 => ?_)
      refine z_cVI [.int p3, .int 2] [] C mv_RX9_172 (fun r0 m0 h0 => M_X6_cell _ _ _ _ _ _ _ _ h0) rfl rfl ⟨by rw [hrm]; exact Nat.le_of_ble_eq_true rfl, by rw [hrm]; exact Nat.le_of_ble_eq_true rfl⟩ ⟨by rw [hrm]; exact Nat.le_of_ble_eq_true rfl, by rw [hrm]; exact Nat.le_of_ble_eq_true rfl⟩ hr4 hk9 rfl rfl rfl (Nat.le_of_ble_eq_true rfl) dX9_smells_57 (fun r5 m5 => ?_)
      refine z_aload C dX9_smells_60 1 rfl ?_
      refine z_chk (fun hk10 => ?_)
      refine z_getR C fl_RX9_138 ha1 hk10 dX9_smells_62 ?_
      refine z_iload_n C dX9_smells_65 rfl 4 rfl ?_
      refine z_iconst (v := 2) C dX9_smells_66 (by decide) ?_
      refine z_ck (fun a6 hr5 hk11 => ?_)
      refine z_cVI [.int p2, .int 2] [.int r5] C mv_RX9_172 (fun r0 m0 h0 => M_X6_cell _ _ _ _ _ _ _ _ h0) rfl rfl ⟨by rw [hrm]; exact Nat.le_of_ble_eq_true rfl, by rw [hrm]; exact Nat.le_of_ble_eq_true rfl⟩ ⟨by rw [hrm]; exact Nat.le_of_ble_eq_true rfl, by rw [hrm]; exact Nat.le_of_ble_eq_true rfl⟩ hr5 hk11 rfl rfl rfl (Nat.le_of_ble_eq_true rfl) dX9_smells_67 (fun r6 m6 => ?_)
      refine z_isub C dX9_smells_70 ?_
      refine z_bndI (fun y2 => ?_)
      refine z_istore (i := 6) (L2 := [(6, .int y2), (5, .int y1), (4, va_rf r1), (0, va_rf (some th)), (1, .int p1), (2, .int p2), (3, .int p3)]) C dX9_smells_71 (by decide) rfl ?_
      refine z_aload C dX9_smells_73 2 rfl ?_
      refine z_sipush (v := 255) C dX9_smells_75 (by decide) ?_
      refine z_iload C dX9_smells_78 1 rfl ?_
      refine z_iload C dX9_smells_80 0 rfl ?_
      refine z_chk (fun hk12 => ?_)
      refine z_cVI [.int 255, .int y1, .int y2] [] C mv_RX9_317 (fun r0 m0 h0 => M_X8_hoursDownwind _ _ _ _ _ _ _ _ _ h0) rfl rfl ⟨by rw [hrm]; exact Nat.le_of_ble_eq_true rfl, by rw [hrm]; exact Nat.le_of_ble_eq_true rfl⟩ ⟨by rw [hrm]; exact Nat.le_of_ble_eq_true rfl, by rw [hrm]; exact Nat.le_of_ble_eq_true rfl⟩ ha1 hk12 rfl rfl rfl (Nat.le_of_ble_eq_true rfl) dX9_smells_82 (fun r7 m7 => ?_)
      exact z_iret C hr dX9_smells_85
    · refine z_iconst (v := (-1)) C dX9_smells_25 (by decide) ?_
      exact z_iret C hr dX9_smells_26
def f_X9_smells (th : Nat) (p1 : Int32) (p2 : Int32) (p3 : Int32) (m : MM) : Option (Int32 × MM) := g_X9_smells_0 th p1 p2 p3 m
theorem M_X9_smells (l : Launch) (E : EX) (th : Nat) (p1 : Int32) (p2 : Int32) (p3 : Int32) (m : MM) (r : Int32) (m2 : MM) (h : f_X9_smells th p1 p2 p3 m = some (r, m2)) : Met l yX9_smells (.code yX9_smells cX9_smells 7 (some .int) :: TB) rmX9_smells (va_Pc [.ref th, .int p1, .int p2, .int p3] (St E m)) (QR E (emI r) m2) 0 0 (AA E) :=
  met_of (em := emI) (plainFor_of_name rfl) (Nat.le_of_ble_eq_true rfl) (L0 := [(0, va_rf (some th)), (1, .int p1), (2, .int p2), (3, .int p3)]) rfl (fun Γ _ hrm C hr hn => s_X9_smells_0 C hr hrm th p1 p2 p3 m) h

theorem dX9_beside_0 : decode cX9_beside 0 = .ok (.aload_n 0, 1) := by decide +kernel
theorem dX9_beside_1 : decode cX9_beside 1 = .ok (.getfield 10, 3) := by decide +kernel
theorem dX9_beside_4 : decode cX9_beside 4 = .ok (.iload_n 2, 1) := by decide +kernel
theorem dX9_beside_5 : decode cX9_beside 5 = .ok (.invokevirtual 175, 3) := by decide +kernel
theorem dX9_beside_8 : decode cX9_beside 8 = .ok (.astore 5, 2) := by decide +kernel
theorem dX9_beside_10 : decode cX9_beside 10 = .ok (.aload_n 0, 1) := by decide +kernel
theorem dX9_beside_11 : decode cX9_beside 11 = .ok (.getfield 10, 3) := by decide +kernel
theorem dX9_beside_14 : decode cX9_beside 14 = .ok (.iload_n 3, 1) := by decide +kernel
theorem dX9_beside_15 : decode cX9_beside 15 = .ok (.invokevirtual 175, 3) := by decide +kernel
theorem dX9_beside_18 : decode cX9_beside 18 = .ok (.astore 6, 2) := by decide +kernel
theorem dX9_beside_20 : decode cX9_beside 20 = .ok (.aload 5, 2) := by decide +kernel
theorem dX9_beside_22 : decode cX9_beside 22 = .ok (.ifnull 19, 3) := by decide +kernel
theorem dX9_beside_25 : decode cX9_beside 25 = .ok (.aload 6, 2) := by decide +kernel
theorem dX9_beside_27 : decode cX9_beside 27 = .ok (.ifnull 14, 3) := by decide +kernel
theorem dX9_beside_30 : decode cX9_beside 30 = .ok (.aload_n 0, 1) := by decide +kernel
theorem dX9_beside_31 : decode cX9_beside 31 = .ok (.iload_n 1, 1) := by decide +kernel
theorem dX9_beside_32 : decode cX9_beside 32 = .ok (.iload_n 2, 1) := by decide +kernel
theorem dX9_beside_33 : decode cX9_beside 33 = .ok (.iload 4, 2) := by decide +kernel
theorem dX9_beside_35 : decode cX9_beside 35 = .ok (.invokevirtual 247, 3) := by decide +kernel
theorem dX9_beside_38 : decode cX9_beside 38 = .ok (.ifCond .ne 5, 3) := by decide +kernel
theorem dX9_beside_41 : decode cX9_beside 41 = .ok (.iconst (-1), 1) := by decide +kernel
theorem dX9_beside_42 : decode cX9_beside 42 = .ok (.ireturn, 1) := by decide +kernel
theorem dX9_beside_43 : decode cX9_beside 43 = .ok (.iconst 0, 1) := by decide +kernel
theorem dX9_beside_44 : decode cX9_beside 44 = .ok (.istore 7, 2) := by decide +kernel
theorem dX9_beside_46 : decode cX9_beside 46 = .ok (.iconst 0, 1) := by decide +kernel
theorem dX9_beside_47 : decode cX9_beside 47 = .ok (.istore 8, 2) := by decide +kernel
theorem dX9_beside_49 : decode cX9_beside 49 = .ok (.iload 8, 2) := by decide +kernel
theorem dX9_beside_51 : decode cX9_beside 51 = .ok (.bipush 12, 2) := by decide +kernel
theorem dX9_beside_53 : decode cX9_beside 53 = .ok (.if_icmp .ge 78, 3) := by decide +kernel
theorem dX9_beside_56 : decode cX9_beside 56 = .ok (.iload 8, 2) := by decide +kernel
theorem dX9_beside_58 : decode cX9_beside 58 = .ok (.iconst 1, 1) := by decide +kernel
theorem dX9_beside_59 : decode cX9_beside 59 = .ok (.iadd, 1) := by decide +kernel
theorem dX9_beside_60 : decode cX9_beside 60 = .ok (.istore 9, 2) := by decide +kernel
theorem dX9_beside_62 : decode cX9_beside 62 = .ok (.iload 9, 2) := by decide +kernel
theorem dX9_beside_64 : decode cX9_beside 64 = .ok (.bipush 12, 2) := by decide +kernel
theorem dX9_beside_66 : decode cX9_beside 66 = .ok (.if_icmp .ge 59, 3) := by decide +kernel
theorem dX9_beside_69 : decode cX9_beside 69 = .ok (.aload_n 0, 1) := by decide +kernel
theorem dX9_beside_70 : decode cX9_beside 70 = .ok (.getfield 30, 3) := by decide +kernel
theorem dX9_beside_73 : decode cX9_beside 73 = .ok (.aload 5, 2) := by decide +kernel
theorem dX9_beside_75 : decode cX9_beside 75 = .ok (.putfield 320, 3) := by decide +kernel
theorem dX9_beside_78 : decode cX9_beside 78 = .ok (.aload_n 0, 1) := by decide +kernel
theorem dX9_beside_79 : decode cX9_beside 79 = .ok (.getfield 30, 3) := by decide +kernel
theorem dX9_beside_82 : decode cX9_beside 82 = .ok (.iload 8, 2) := by decide +kernel
theorem dX9_beside_84 : decode cX9_beside 84 = .ok (.iload 9, 2) := by decide +kernel
theorem dX9_beside_86 : decode cX9_beside 86 = .ok (.invokevirtual 280, 3) := by decide +kernel
theorem dX9_beside_89 : decode cX9_beside 89 = .ok (.istore 10, 2) := by decide +kernel
theorem dX9_beside_91 : decode cX9_beside 91 = .ok (.aload_n 0, 1) := by decide +kernel
theorem dX9_beside_92 : decode cX9_beside 92 = .ok (.getfield 30, 3) := by decide +kernel
theorem dX9_beside_95 : decode cX9_beside 95 = .ok (.aload 6, 2) := by decide +kernel
theorem dX9_beside_97 : decode cX9_beside 97 = .ok (.putfield 320, 3) := by decide +kernel
theorem dX9_beside_100 : decode cX9_beside 100 = .ok (.iload 10, 2) := by decide +kernel
theorem dX9_beside_102 : decode cX9_beside 102 = .ok (.aload_n 0, 1) := by decide +kernel
theorem dX9_beside_103 : decode cX9_beside 103 = .ok (.getfield 30, 3) := by decide +kernel
theorem dX9_beside_106 : decode cX9_beside 106 = .ok (.iload 8, 2) := by decide +kernel
theorem dX9_beside_108 : decode cX9_beside 108 = .ok (.iload 9, 2) := by decide +kernel
theorem dX9_beside_110 : decode cX9_beside 110 = .ok (.invokevirtual 280, 3) := by decide +kernel
theorem dX9_beside_113 : decode cX9_beside 113 = .ok (.if_icmp .eq 6, 3) := by decide +kernel
theorem dX9_beside_116 : decode cX9_beside 116 = .ok (.iinc 7 1, 3) := by decide +kernel
theorem dX9_beside_119 : decode cX9_beside 119 = .ok (.iinc 9 1, 3) := by decide +kernel
theorem dX9_beside_122 : decode cX9_beside 122 = .ok (.goto (-60), 3) := by decide +kernel
theorem dX9_beside_125 : decode cX9_beside 125 = .ok (.iinc 8 1, 3) := by decide +kernel
theorem dX9_beside_128 : decode cX9_beside 128 = .ok (.goto (-79), 3) := by decide +kernel
theorem dX9_beside_131 : decode cX9_beside 131 = .ok (.iload 7, 2) := by decide +kernel
theorem dX9_beside_133 : decode cX9_beside 133 = .ok (.ireturn, 1) := by decide +kernel
def rmX9_beside : Room := { frames := 5, cells := 0, slots := 0, locals := 140 }
set_option maxRecDepth 100000 in
def g_X9_beside_119 (th : Nat) (p1 : Int32) (p2 : Int32) (p3 : Int32) (p4 : Int32) (k62 : Option Nat → Option Nat → Int32 → Int32 → Int32 → MM → Option (Int32 × MM)) (k125 : Option Nat → Option Nat → Int32 → Int32 → MM → Option (Int32 × MM)) (x5 : Option Nat) (x6 : Option Nat) (x7 : Int32) (x8 : Int32) (x9 : Int32) (m : MM) : Option (Int32 × MM) :=
  k62 x5 x6 x7 x8 (x9 + 1) m
set_option maxHeartbeats 4000000 in
set_option maxRecDepth 100000 in
theorem s_X9_beside_119 {Γ : GX} {E : EX} (C : Cx Γ E cX9_beside RX9 11) (hr : Γ.meth.sig.returnType = (some .int)) (hrm : Γ.rm = rmX9_beside) (th : Nat) (p1 : Int32) (p2 : Int32) (p3 : Int32) (p4 : Int32) (k62 : Option Nat → Option Nat → Int32 → Int32 → Int32 → MM → Option (Int32 × MM)) (k125 : Option Nat → Option Nat → Int32 → Int32 → MM → Option (Int32 × MM)) (h62 : ∀ (x5 : Option Nat) (x6 : Option Nat) (x7 : Int32) (x8 : Int32) (x9 : Int32) (m : MM), Sm (QM Γ E emI 0 0) Γ E 11 0 0 62 [(0, va_rf (some th)), (1, .int p1), (2, .int p2), (3, .int p3), (4, .int p4), (5, va_rf x5), (6, va_rf x6), (7, .int x7), (8, .int x8), (9, .int x9)] [] m (k62 x5 x6 x7 x8 x9 m)) (h125 : ∀ (x5 : Option Nat) (x6 : Option Nat) (x7 : Int32) (x8 : Int32) (m : MM), Sm (QM Γ E emI 0 0) Γ E 11 0 0 125 [(0, va_rf (some th)), (1, .int p1), (2, .int p2), (3, .int p3), (4, .int p4), (5, va_rf x5), (6, va_rf x6), (7, .int x7), (8, .int x8)] [] m (k125 x5 x6 x7 x8 m)) (x5 : Option Nat) (x6 : Option Nat) (x7 : Int32) (x8 : Int32) (x9 : Int32) (m : MM) : Sm (QM Γ E emI 0 0) Γ E 11 0 0 119 [(0, va_rf (some th)), (1, .int p1), (2, .int p2), (3, .int p3), (4, .int p4), (5, va_rf x5), (6, va_rf x6), (7, .int x7), (8, .int x8), (9, .int x9)] [] m (g_X9_beside_119 th p1 p2 p3 p4 k62 k125 x5 x6 x7 x8 x9 m) := by
  unfold g_X9_beside_119
  refine z_iinc (v := 1) (L2 := [(9, .int (x9 + 1)), (0, va_rf (some th)), (1, .int p1), (2, .int p2), (3, .int p3), (4, .int p4), (5, va_rf x5), (6, va_rf x6), (7, .int x7), (8, .int x8)]) C dX9_beside_119 9 rfl (by decide) (by decide) rfl ?_
  refine z_goto (tgt := 62) C dX9_beside_122 (by decide) ?_
  exact z_sub [1, 2, 3, 4, 5, 6, 7, 8, 9, 0] rfl (h62 x5 x6 x7 x8 (x9 + 1) m)
set_option maxRecDepth 100000 in
def g_X9_beside_62 (th : Nat) (p1 : Int32) (p2 : Int32) (p3 : Int32) (p4 : Int32) (k62 : Option Nat → Option Nat → Int32 → Int32 → Int32 → MM → Option (Int32 × MM)) (k125 : Option Nat → Option Nat → Int32 → Int32 → MM → Option (Int32 × MM)) (x5 : Option Nat) (x6 : Option Nat) (x7 : Int32) (x8 : Int32) (x9 : Int32) (m : MM) : Option (Int32 × MM) :=
  if 12 ≤ x9 then (k125 x5 x6 x7 x8 m) else (chk (m.K th = 10) (ck m (m.R 1003 th 0) 6 (fun a1 => bnd (m.sR 603 a1 0 x5) (fun m1 => ck m1 (m1.R 1003 th 0) 6 (fun a2 => cal (f_X5_foes a2 x8 x9 m1) (fun r1 m2 => chk (m2.K th = 10) (ck m2 (m2.R 1003 th 0) 6 (fun a3 => bnd (m2.sR 603 a3 0 x6) (fun m3 => ck m3 (m3.R 1003 th 0) 6 (fun a4 => cal (f_X5_foes a4 x8 x9 m3) (fun r2 m4 => if r1 = r2 then (g_X9_beside_119 th p1 p2 p3 p4 k62 k125 x5 x6 x7 x8 x9 m4) else (g_X9_beside_119 th p1 p2 p3 p4 k62 k125 x5 x6 (x7 + 1) x8 x9 m4))))))))))))
set_option maxHeartbeats 4000000 in
set_option maxRecDepth 100000 in
theorem s_X9_beside_62 {Γ : GX} {E : EX} (C : Cx Γ E cX9_beside RX9 11) (hr : Γ.meth.sig.returnType = (some .int)) (hrm : Γ.rm = rmX9_beside) (th : Nat) (p1 : Int32) (p2 : Int32) (p3 : Int32) (p4 : Int32) (k62 : Option Nat → Option Nat → Int32 → Int32 → Int32 → MM → Option (Int32 × MM)) (k125 : Option Nat → Option Nat → Int32 → Int32 → MM → Option (Int32 × MM)) (h62 : ∀ (x5 : Option Nat) (x6 : Option Nat) (x7 : Int32) (x8 : Int32) (x9 : Int32) (m : MM), Sm (QM Γ E emI 0 0) Γ E 11 0 0 62 [(0, va_rf (some th)), (1, .int p1), (2, .int p2), (3, .int p3), (4, .int p4), (5, va_rf x5), (6, va_rf x6), (7, .int x7), (8, .int x8), (9, .int x9)] [] m (k62 x5 x6 x7 x8 x9 m)) (h125 : ∀ (x5 : Option Nat) (x6 : Option Nat) (x7 : Int32) (x8 : Int32) (m : MM), Sm (QM Γ E emI 0 0) Γ E 11 0 0 125 [(0, va_rf (some th)), (1, .int p1), (2, .int p2), (3, .int p3), (4, .int p4), (5, va_rf x5), (6, va_rf x6), (7, .int x7), (8, .int x8)] [] m (k125 x5 x6 x7 x8 m)) (x5 : Option Nat) (x6 : Option Nat) (x7 : Int32) (x8 : Int32) (x9 : Int32) (m : MM) : Sm (QM Γ E emI 0 0) Γ E 11 0 0 62 [(0, va_rf (some th)), (1, .int p1), (2, .int p2), (3, .int p3), (4, .int p4), (5, va_rf x5), (6, va_rf x6), (7, .int x7), (8, .int x8), (9, .int x9)] [] m (g_X9_beside_62 th p1 p2 p3 p4 k62 k125 x5 x6 x7 x8 x9 m) := by
  unfold g_X9_beside_62
  refine z_iload C dX9_beside_62 9 rfl ?_
  refine z_bipush (v := 12) C dX9_beside_64 (by decide) ?_
  refine z_icmp_ge (tgt := 125) C dX9_beside_66 (by decide) (fun c1 => ?_) (fun c1 => ?_)
  · exact z_sub [0, 1, 2, 3, 4, 5, 6, 7, 8] rfl (h125 x5 x6 x7 x8 m)
  · refine z_aload_n C dX9_beside_69 rfl 0 rfl ?_
    refine z_chk (fun hk1 => ?_)
    refine z_getR C fl_RX9_30 rfl hk1 dX9_beside_70 ?_
    refine z_aload C dX9_beside_73 5 rfl ?_
    refine z_ck (fun a1 hr1 hk2 => ?_)
    refine z_putR C fl_RX9_320 (fun h => by cases h) hr1 hk2 nr_of fr_of dX9_beside_75 (fun m1 eK1 eN1 => ?_)
    refine z_aload_n C dX9_beside_78 rfl 0 rfl ?_
    refine z_getR C fl_RX9_30 rfl (kfw eK1 hk1) dX9_beside_79 ?_
    refine z_iload C dX9_beside_82 8 rfl ?_
    refine z_iload C dX9_beside_84 9 rfl ?_
    refine z_ck (fun a2 hr2 hk3 => ?_)
    refine z_cVI [.int x8, .int x9] [] C mv_RX9_280 (fun r0 m0 h0 => M_X5_foes _ _ _ _ _ _ _ _ h0) rfl rfl ⟨by rw [hrm]; exact Nat.le_of_ble_eq_true rfl, by rw [hrm]; exact Nat.le_of_ble_eq_true rfl⟩ ⟨by rw [hrm]; exact Nat.le_of_ble_eq_true rfl, by rw [hrm]; exact Nat.le_of_ble_eq_true rfl⟩ hr2 hk3 rfl rfl rfl (Nat.le_of_ble_eq_true rfl) dX9_beside_86 (fun r1 m2 => ?_)
    refine z_istore (i := 10) (L2 := [(10, .int r1), (0, va_rf (some th)), (1, .int p1), (2, .int p2), (3, .int p3), (4, .int p4), (5, va_rf x5), (6, va_rf x6), (7, .int x7), (8, .int x8), (9, .int x9)]) C dX9_beside_89 (by decide) rfl ?_
    refine z_aload_n C dX9_beside_91 rfl 1 rfl ?_
    refine z_chk (fun hk4 => ?_)
    refine z_getR C fl_RX9_30 rfl hk4 dX9_beside_92 ?_
    refine z_aload C dX9_beside_95 7 rfl ?_
    refine z_ck (fun a3 hr3 hk5 => ?_)
    refine z_putR C fl_RX9_320 (fun h => by cases h) hr3 hk5 nr_of fr_of dX9_beside_97 (fun m3 eK2 eN2 => ?_)
    refine z_iload C dX9_beside_100 0 rfl ?_
    refine z_aload_n C dX9_beside_102 rfl 1 rfl ?_
    refine z_getR C fl_RX9_30 rfl (kfw eK2 hk4) dX9_beside_103 ?_
    refine z_iload C dX9_beside_106 9 rfl ?_
    refine z_iload C dX9_beside_108 10 rfl ?_
    refine z_ck (fun a4 hr4 hk6 => ?_)
    refine z_cVI [.int x8, .int x9] [.int r1] C mv_RX9_280 (fun r0 m0 h0 => M_X5_foes _ _ _ _ _ _ _ _ h0) rfl rfl ⟨by rw [hrm]; exact Nat.le_of_ble_eq_true rfl, by rw [hrm]; exact Nat.le_of_ble_eq_true rfl⟩ ⟨by rw [hrm]; exact Nat.le_of_ble_eq_true rfl, by rw [hrm]; exact Nat.le_of_ble_eq_true rfl⟩ hr4 hk6 rfl rfl rfl (Nat.le_of_ble_eq_true rfl) dX9_beside_110 (fun r2 m4 => ?_)
    refine z_icmp_eq (tgt := 119) C dX9_beside_113 (by decide) (fun c2 => ?_) (fun c2 => ?_)
    · exact z_sub [1, 2, 3, 4, 5, 6, 7, 8, 9, 10] rfl (s_X9_beside_119 C hr hrm th p1 p2 p3 p4 k62 k125 h62 h125 x5 x6 x7 x8 x9 m4)
    · refine z_iinc (v := 1) (L2 := [(7, .int (x7 + 1)), (10, .int r1), (0, va_rf (some th)), (1, .int p1), (2, .int p2), (3, .int p3), (4, .int p4), (5, va_rf x5), (6, va_rf x6), (8, .int x8), (9, .int x9)]) C dX9_beside_116 8 rfl (by decide) (by decide) (by simp [cat_rf, cat_i, cat_l, cat_a]) ?_
      exact z_sub [2, 3, 4, 5, 6, 7, 8, 0, 9, 10] rfl (s_X9_beside_119 C hr hrm th p1 p2 p3 p4 k62 k125 h62 h125 x5 x6 (x7 + 1) x8 x9 m4)
def l_X9_beside_62 (th : Nat) (p1 : Int32) (p2 : Int32) (p3 : Int32) (p4 : Int32) (k125 : Option Nat → Option Nat → Int32 → Int32 → MM → Option (Int32 × MM)) : Nat → Option Nat → Option Nat → Int32 → Int32 → Int32 → MM → Option (Int32 × MM) := lp (fun _ _ _ _ _ _ => none) (fun k62 => g_X9_beside_62 th p1 p2 p3 p4 k62 k125)
theorem t_X9_beside_62 {Γ : GX} {E : EX} (C : Cx Γ E cX9_beside RX9 11) (hr : Γ.meth.sig.returnType = (some .int)) (hrm : Γ.rm = rmX9_beside) (th : Nat) (p1 : Int32) (p2 : Int32) (p3 : Int32) (p4 : Int32) (k125 : Option Nat → Option Nat → Int32 → Int32 → MM → Option (Int32 × MM)) (h125 : ∀ (x5 : Option Nat) (x6 : Option Nat) (x7 : Int32) (x8 : Int32) (m : MM), Sm (QM Γ E emI 0 0) Γ E 11 0 0 125 [(0, va_rf (some th)), (1, .int p1), (2, .int p2), (3, .int p3), (4, .int p4), (5, va_rf x5), (6, va_rf x6), (7, .int x7), (8, .int x8)] [] m (k125 x5 x6 x7 x8 m)) : ∀ (n : Nat) (x5 : Option Nat) (x6 : Option Nat) (x7 : Int32) (x8 : Int32) (x9 : Int32) (m : MM), Sm (QM Γ E emI 0 0) Γ E 11 0 0 62 [(0, va_rf (some th)), (1, .int p1), (2, .int p2), (3, .int p3), (4, .int p4), (5, va_rf x5), (6, va_rf x6), (7, .int x7), (8, .int x8), (9, .int x9)] [] m (l_X9_beside_62 th p1 p2 p3 p4 k125 n x5 x6 x7 x8 x9 m) := by
  intro n
  induction n with
  | zero => intros; exact z_none
  | succ n ih => intro x5 x6 x7 x8 x9 m; exact s_X9_beside_62 C hr hrm th p1 p2 p3 p4 (l_X9_beside_62 th p1 p2 p3 p4 k125 n) k125 ih h125 x5 x6 x7 x8 x9 m
set_option maxRecDepth 100000 in
def g_X9_beside_125 (th : Nat) (p1 : Int32) (p2 : Int32) (p3 : Int32) (p4 : Int32) (k49 : Option Nat → Option Nat → Int32 → Int32 → MM → Option (Int32 × MM)) (x5 : Option Nat) (x6 : Option Nat) (x7 : Int32) (x8 : Int32) (m : MM) : Option (Int32 × MM) :=
  k49 x5 x6 x7 (x8 + 1) m
set_option maxHeartbeats 4000000 in
set_option maxRecDepth 100000 in
theorem s_X9_beside_125 {Γ : GX} {E : EX} (C : Cx Γ E cX9_beside RX9 11) (hr : Γ.meth.sig.returnType = (some .int)) (hrm : Γ.rm = rmX9_beside) (th : Nat) (p1 : Int32) (p2 : Int32) (p3 : Int32) (p4 : Int32) (k49 : Option Nat → Option Nat → Int32 → Int32 → MM → Option (Int32 × MM)) (h49 : ∀ (x5 : Option Nat) (x6 : Option Nat) (x7 : Int32) (x8 : Int32) (m : MM), Sm (QM Γ E emI 0 0) Γ E 11 0 0 49 [(0, va_rf (some th)), (1, .int p1), (2, .int p2), (3, .int p3), (4, .int p4), (5, va_rf x5), (6, va_rf x6), (7, .int x7), (8, .int x8)] [] m (k49 x5 x6 x7 x8 m)) (x5 : Option Nat) (x6 : Option Nat) (x7 : Int32) (x8 : Int32) (m : MM) : Sm (QM Γ E emI 0 0) Γ E 11 0 0 125 [(0, va_rf (some th)), (1, .int p1), (2, .int p2), (3, .int p3), (4, .int p4), (5, va_rf x5), (6, va_rf x6), (7, .int x7), (8, .int x8)] [] m (g_X9_beside_125 th p1 p2 p3 p4 k49 x5 x6 x7 x8 m) := by
  unfold g_X9_beside_125
  refine z_iinc (v := 1) (L2 := [(8, .int (x8 + 1)), (0, va_rf (some th)), (1, .int p1), (2, .int p2), (3, .int p3), (4, .int p4), (5, va_rf x5), (6, va_rf x6), (7, .int x7)]) C dX9_beside_125 8 rfl (by decide) (by decide) rfl ?_
  refine z_goto (tgt := 49) C dX9_beside_128 (by decide) ?_
  exact z_sub [1, 2, 3, 4, 5, 6, 7, 8, 0] rfl (h49 x5 x6 x7 (x8 + 1) m)
set_option maxRecDepth 100000 in
def g_X9_beside_49 (th : Nat) (p1 : Int32) (p2 : Int32) (p3 : Int32) (p4 : Int32) (k49 : Option Nat → Option Nat → Int32 → Int32 → MM → Option (Int32 × MM)) (x5 : Option Nat) (x6 : Option Nat) (x7 : Int32) (x8 : Int32) (m : MM) : Option (Int32 × MM) :=
  if 12 ≤ x8 then (some (x7, m)) else (bnd (x8 + 1) (fun y1 => l_X9_beside_62 th p1 p2 p3 p4 (g_X9_beside_125 th p1 p2 p3 p4 k49) FU x5 x6 x7 x8 y1 m))
set_option maxHeartbeats 4000000 in
set_option maxRecDepth 100000 in
theorem s_X9_beside_49 {Γ : GX} {E : EX} (C : Cx Γ E cX9_beside RX9 11) (hr : Γ.meth.sig.returnType = (some .int)) (hrm : Γ.rm = rmX9_beside) (th : Nat) (p1 : Int32) (p2 : Int32) (p3 : Int32) (p4 : Int32) (k49 : Option Nat → Option Nat → Int32 → Int32 → MM → Option (Int32 × MM)) (h49 : ∀ (x5 : Option Nat) (x6 : Option Nat) (x7 : Int32) (x8 : Int32) (m : MM), Sm (QM Γ E emI 0 0) Γ E 11 0 0 49 [(0, va_rf (some th)), (1, .int p1), (2, .int p2), (3, .int p3), (4, .int p4), (5, va_rf x5), (6, va_rf x6), (7, .int x7), (8, .int x8)] [] m (k49 x5 x6 x7 x8 m)) (x5 : Option Nat) (x6 : Option Nat) (x7 : Int32) (x8 : Int32) (m : MM) : Sm (QM Γ E emI 0 0) Γ E 11 0 0 49 [(0, va_rf (some th)), (1, .int p1), (2, .int p2), (3, .int p3), (4, .int p4), (5, va_rf x5), (6, va_rf x6), (7, .int x7), (8, .int x8)] [] m (g_X9_beside_49 th p1 p2 p3 p4 k49 x5 x6 x7 x8 m) := by
  unfold g_X9_beside_49
  refine z_iload C dX9_beside_49 8 rfl ?_
  refine z_bipush (v := 12) C dX9_beside_51 (by decide) ?_
  refine z_icmp_ge (tgt := 131) C dX9_beside_53 (by decide) (fun c3 => ?_) (fun c3 => ?_)
  · refine z_iload C dX9_beside_131 7 rfl ?_
    exact z_iret C hr dX9_beside_133
  · refine z_iload C dX9_beside_56 8 rfl ?_
    refine z_iconst (v := 1) C dX9_beside_58 (by decide) ?_
    refine z_iadd C dX9_beside_59 ?_
    refine z_bndI (fun y1 => ?_)
    refine z_istore (i := 9) (L2 := [(9, .int y1), (0, va_rf (some th)), (1, .int p1), (2, .int p2), (3, .int p3), (4, .int p4), (5, va_rf x5), (6, va_rf x6), (7, .int x7), (8, .int x8)]) C dX9_beside_60 (by decide) rfl ?_
    exact z_sub [1, 2, 3, 4, 5, 6, 7, 8, 9, 0] rfl (t_X9_beside_62 C hr hrm th p1 p2 p3 p4 (g_X9_beside_125 th p1 p2 p3 p4 k49) (s_X9_beside_125 C hr hrm th p1 p2 p3 p4 k49 h49) FU x5 x6 x7 x8 y1 m)
def l_X9_beside_49 (th : Nat) (p1 : Int32) (p2 : Int32) (p3 : Int32) (p4 : Int32) : Nat → Option Nat → Option Nat → Int32 → Int32 → MM → Option (Int32 × MM) := lp (fun _ _ _ _ _ => none) (fun k49 => g_X9_beside_49 th p1 p2 p3 p4 k49)
theorem t_X9_beside_49 {Γ : GX} {E : EX} (C : Cx Γ E cX9_beside RX9 11) (hr : Γ.meth.sig.returnType = (some .int)) (hrm : Γ.rm = rmX9_beside) (th : Nat) (p1 : Int32) (p2 : Int32) (p3 : Int32) (p4 : Int32) : ∀ (n : Nat) (x5 : Option Nat) (x6 : Option Nat) (x7 : Int32) (x8 : Int32) (m : MM), Sm (QM Γ E emI 0 0) Γ E 11 0 0 49 [(0, va_rf (some th)), (1, .int p1), (2, .int p2), (3, .int p3), (4, .int p4), (5, va_rf x5), (6, va_rf x6), (7, .int x7), (8, .int x8)] [] m (l_X9_beside_49 th p1 p2 p3 p4 n x5 x6 x7 x8 m) := by
  intro n
  induction n with
  | zero => intros; exact z_none
  | succ n ih => intro x5 x6 x7 x8 m; exact s_X9_beside_49 C hr hrm th p1 p2 p3 p4 (l_X9_beside_49 th p1 p2 p3 p4 n) ih x5 x6 x7 x8 m
set_option maxRecDepth 100000 in
def g_X9_beside_0 (th : Nat) (p1 : Int32) (p2 : Int32) (p3 : Int32) (p4 : Int32) (m : MM) : Option (Int32 × MM) :=
  chk (m.K th = 10) (ck m (m.R 1000 th 0) 8 (fun a5 => cal (f_X7_lawAt a5 p2 m) (fun r3 m5 => chk (m5.K th = 10) (ck m5 (m5.R 1000 th 0) 8 (fun a6 => cal (f_X7_lawAt a6 p3 m5) (fun r4 m6 => ifn r3 (some ((-1), m6)) (fun a7 => ifn r4 (some ((-1), m6)) (fun a8 => chk (m6.K th = 10) (cal (f_X9_opened th p1 p2 p4 m6) (fun r5 m7 => if r5 = 0 then (some ((-1), m7)) else (l_X9_beside_49 th p1 p2 p3 p4 FU r3 r4 0 0 m7)))))))))))
set_option maxHeartbeats 4000000 in
set_option maxRecDepth 100000 in
theorem s_X9_beside_0 {Γ : GX} {E : EX} (C : Cx Γ E cX9_beside RX9 11) (hr : Γ.meth.sig.returnType = (some .int)) (hrm : Γ.rm = rmX9_beside) (th : Nat) (p1 : Int32) (p2 : Int32) (p3 : Int32) (p4 : Int32) (m : MM) : Sm (QM Γ E emI 0 0) Γ E 11 0 0 0 [(0, va_rf (some th)), (1, .int p1), (2, .int p2), (3, .int p3), (4, .int p4)] [] m (g_X9_beside_0 th p1 p2 p3 p4 m) := by
  unfold g_X9_beside_0
  refine z_aload_n C dX9_beside_0 rfl 0 rfl ?_
  refine z_chk (fun hk7 => ?_)
  refine z_getR C fl_RX9_10 rfl hk7 dX9_beside_1 ?_
  refine z_iload_n C dX9_beside_4 rfl 2 rfl ?_
  refine z_ck (fun a5 hr5 hk8 => ?_)
  refine z_cVR [.int p2] [] C mv_RX9_175 (fun r0 m0 h0 => M_X7_lawAt _ _ _ _ _ _ _ h0) rfl rfl ⟨by rw [hrm]; exact Nat.le_of_ble_eq_true rfl, by rw [hrm]; exact Nat.le_of_ble_eq_true rfl⟩ ⟨by rw [hrm]; exact Nat.le_of_ble_eq_true rfl, by rw [hrm]; exact Nat.le_of_ble_eq_true rfl⟩ hr5 hk8 rfl rfl rfl (Nat.le_of_ble_eq_true rfl) dX9_beside_5 (fun r3 m5 => ?_)
  refine z_astore (i := 5) (L2 := [(5, va_rf r3), (0, va_rf (some th)), (1, .int p1), (2, .int p2), (3, .int p3), (4, .int p4)]) C dX9_beside_8 (by decide) rfl ?_
  refine z_aload_n C dX9_beside_10 rfl 1 rfl ?_
  refine z_chk (fun hk9 => ?_)
  refine z_getR C fl_RX9_10 rfl hk9 dX9_beside_11 ?_
  refine z_iload_n C dX9_beside_14 rfl 4 rfl ?_
  refine z_ck (fun a6 hr6 hk10 => ?_)
  refine z_cVR [.int p3] [] C mv_RX9_175 (fun r0 m0 h0 => M_X7_lawAt _ _ _ _ _ _ _ h0) rfl rfl ⟨by rw [hrm]; exact Nat.le_of_ble_eq_true rfl, by rw [hrm]; exact Nat.le_of_ble_eq_true rfl⟩ ⟨by rw [hrm]; exact Nat.le_of_ble_eq_true rfl, by rw [hrm]; exact Nat.le_of_ble_eq_true rfl⟩ hr6 hk10 rfl rfl rfl (Nat.le_of_ble_eq_true rfl) dX9_beside_15 (fun r4 m6 => ?_)
  refine z_astore (i := 6) (L2 := [(6, va_rf r4), (5, va_rf r3), (0, va_rf (some th)), (1, .int p1), (2, .int p2), (3, .int p3), (4, .int p4)]) C dX9_beside_18 (by decide) (by simp [cat_rf, cat_i, cat_l, cat_a]) ?_
  refine z_aload C dX9_beside_20 1 rfl ?_
  refine z_ifnull (tgt := 41) C dX9_beside_22 (by decide) (fun hn1 => ?_) (fun a7 ha1 => ?_)
  · refine z_iconst (v := (-1)) C dX9_beside_41 (by decide) ?_
    exact z_iret C hr dX9_beside_42
  · refine z_aload C dX9_beside_25 0 rfl ?_
    refine z_ifnull (tgt := 41) C dX9_beside_27 (by decide) (fun hn2 => ?_) (fun a8 ha2 => ?_)
    · refine z_iconst (v := (-1)) C dX9_beside_41 (by decide) ?_
      exact z_iret C hr dX9_beside_42
    · refine z_aload_n C dX9_beside_30 rfl 2 rfl ?_
      refine z_iload_n C dX9_beside_31 rfl 3 rfl ?_
      refine z_iload_n C dX9_beside_32 rfl 4 rfl ?_
      refine z_iload C dX9_beside_33 6 rfl ?_
      refine z_chk (fun hk11 => ?_)
      refine z_cVI [.int p1, .int p2, .int p4] [] C mv_RX9_247 (fun r0 m0 h0 => M_X9_opened _ _ _ _ _ _ _ _ _ h0) rfl rfl ⟨by rw [hrm]; exact Nat.le_of_ble_eq_true rfl, by rw [hrm]; exact Nat.le_of_ble_eq_true rfl⟩ ⟨by rw [hrm]; exact Nat.le_of_ble_eq_true rfl, by rw [hrm]; exact Nat.le_of_ble_eq_true rfl⟩ rfl hk11 rfl rfl rfl (Nat.le_of_ble_eq_true rfl) dX9_beside_35 (fun r5 m7 => ?_)
      refine z_if_ne (tgt := 43) C dX9_beside_38 (by decide) (fun c4 => ?_) (fun c4 => ?_)
      · refine z_iconst (v := 0) C dX9_beside_43 (by decide) ?_
        refine z_istore (i := 7) (L2 := [(7, .int 0), (6, va_rf r4), (5, va_rf r3), (0, va_rf (some th)), (1, .int p1), (2, .int p2), (3, .int p3), (4, .int p4)]) C dX9_beside_44 (by decide) (by simp [cat_rf, cat_i, cat_l, cat_a]) ?_
        refine z_iconst (v := 0) C dX9_beside_46 (by decide) ?_
        refine z_istore (i := 8) (L2 := [(8, .int 0), (7, .int 0), (6, va_rf r4), (5, va_rf r3), (0, va_rf (some th)), (1, .int p1), (2, .int p2), (3, .int p3), (4, .int p4)]) C dX9_beside_47 (by decide) rfl ?_
        exact z_sub [4, 5, 6, 7, 8, 3, 2, 1, 0] rfl (t_X9_beside_49 C hr hrm th p1 p2 p3 p4 FU r3 r4 0 0 m7)
      · refine z_iconst (v := (-1)) C dX9_beside_41 (by decide) ?_
        exact z_iret C hr dX9_beside_42
def f_X9_beside (th : Nat) (p1 : Int32) (p2 : Int32) (p3 : Int32) (p4 : Int32) (m : MM) : Option (Int32 × MM) := g_X9_beside_0 th p1 p2 p3 p4 m
theorem M_X9_beside (l : Launch) (E : EX) (th : Nat) (p1 : Int32) (p2 : Int32) (p3 : Int32) (p4 : Int32) (m : MM) (r : Int32) (m2 : MM) (h : f_X9_beside th p1 p2 p3 p4 m = some (r, m2)) : Met l yX9_beside (.code yX9_beside cX9_beside 11 (some .int) :: TB) rmX9_beside (va_Pc [.ref th, .int p1, .int p2, .int p3, .int p4] (St E m)) (QR E (emI r) m2) 0 0 (AA E) :=
  met_of (em := emI) (plainFor_of_name rfl) (Nat.le_of_ble_eq_true rfl) (L0 := [(0, va_rf (some th)), (1, .int p1), (2, .int p2), (3, .int p3), (4, .int p4)]) rfl (fun Γ _ hrm C hr hn => s_X9_beside_0 C hr hrm th p1 p2 p3 p4 m) h

theorem dX9_moved_0 : decode cX9_moved 0 = .ok (.aload_n 0, 1) := by decide +kernel
theorem dX9_moved_1 : decode cX9_moved 1 = .ok (.iload_n 1, 1) := by decide +kernel
theorem dX9_moved_2 : decode cX9_moved 2 = .ok (.iload_n 2, 1) := by decide +kernel
theorem dX9_moved_3 : decode cX9_moved 3 = .ok (.iload_n 3, 1) := by decide +kernel
theorem dX9_moved_4 : decode cX9_moved 4 = .ok (.invokevirtual 247, 3) := by decide +kernel
theorem dX9_moved_7 : decode cX9_moved 7 = .ok (.ifCond .eq 23, 3) := by decide +kernel
theorem dX9_moved_10 : decode cX9_moved 10 = .ok (.aload_n 0, 1) := by decide +kernel
theorem dX9_moved_11 : decode cX9_moved 11 = .ok (.getfield 46, 3) := by decide +kernel
theorem dX9_moved_14 : decode cX9_moved 14 = .ok (.invokevirtual 321, 3) := by decide +kernel
theorem dX9_moved_17 : decode cX9_moved 17 = .ok (.ifCond .eq 13, 3) := by decide +kernel
theorem dX9_moved_20 : decode cX9_moved 20 = .ok (.aload_n 0, 1) := by decide +kernel
theorem dX9_moved_21 : decode cX9_moved 21 = .ok (.getfield 46, 3) := by decide +kernel
theorem dX9_moved_24 : decode cX9_moved 24 = .ok (.getfield 324, 3) := by decide +kernel
theorem dX9_moved_27 : decode cX9_moved 27 = .ok (.goto 4, 3) := by decide +kernel
theorem dX9_moved_30 : decode cX9_moved 30 = .ok (.iconst (-1), 1) := by decide +kernel
theorem dX9_moved_31 : decode cX9_moved 31 = .ok (.ireturn, 1) := by decide +kernel
def rmX9_moved : Room := { frames := 7, cells := 0, slots := 0, locals := 205 }
set_option maxRecDepth 100000 in
def g_X9_moved_30 (th : Nat) (p1 : Int32) (p2 : Int32) (p3 : Int32) (m : MM) : Option (Int32 × MM) :=
  some ((-1), m)
set_option maxHeartbeats 4000000 in
set_option maxRecDepth 100000 in
theorem s_X9_moved_30 {Γ : GX} {E : EX} (C : Cx Γ E cX9_moved RX9 4) (hr : Γ.meth.sig.returnType = (some .int)) (hrm : Γ.rm = rmX9_moved) (th : Nat) (p1 : Int32) (p2 : Int32) (p3 : Int32) (m : MM) : Sm (QM Γ E emI 0 0) Γ E 4 0 0 30 [(0, va_rf (some th)), (1, .int p1), (2, .int p2), (3, .int p3)] [] m (g_X9_moved_30 th p1 p2 p3 m) := by
  unfold g_X9_moved_30
  refine z_iconst (v := (-1)) C dX9_moved_30 (by decide) ?_
  exact z_iret C hr dX9_moved_31
set_option maxRecDepth 100000 in
def g_X9_moved_0 (th : Nat) (p1 : Int32) (p2 : Int32) (p3 : Int32) (m : MM) : Option (Int32 × MM) :=
  chk (m.K th = 10) (cal (f_X9_opened th p1 p2 p3 m) (fun r1 m1 => if r1 = 0 then (g_X9_moved_30 th p1 p2 p3 m1) else (chk (m1.K th = 10) (ck m1 (m1.R 1005 th 0) 4 (fun a1 => cal (f_X3_findMoves a1 m1) (fun r2 m2 => if r2 = 0 then (g_X9_moved_30 th p1 p2 p3 m2) else (chk (m2.K th = 10) (ck m2 (m2.R 1005 th 0) 4 (fun a2 => some (m2.I 404 a2 0, m2))))))))))
set_option maxHeartbeats 4000000 in
set_option maxRecDepth 100000 in
theorem s_X9_moved_0 {Γ : GX} {E : EX} (C : Cx Γ E cX9_moved RX9 4) (hr : Γ.meth.sig.returnType = (some .int)) (hrm : Γ.rm = rmX9_moved) (th : Nat) (p1 : Int32) (p2 : Int32) (p3 : Int32) (m : MM) : Sm (QM Γ E emI 0 0) Γ E 4 0 0 0 [(0, va_rf (some th)), (1, .int p1), (2, .int p2), (3, .int p3)] [] m (g_X9_moved_0 th p1 p2 p3 m) := by
  unfold g_X9_moved_0
  refine z_aload_n C dX9_moved_0 rfl 0 rfl ?_
  refine z_iload_n C dX9_moved_1 rfl 1 rfl ?_
  refine z_iload_n C dX9_moved_2 rfl 2 rfl ?_
  refine z_iload_n C dX9_moved_3 rfl 3 rfl ?_
  refine z_chk (fun hk1 => ?_)
  refine z_cVI [.int p1, .int p2, .int p3] [] C mv_RX9_247 (fun r0 m0 h0 => M_X9_opened _ _ _ _ _ _ _ _ _ h0) rfl rfl ⟨by rw [hrm]; exact Nat.le_of_ble_eq_true rfl, by rw [hrm]; exact Nat.le_of_ble_eq_true rfl⟩ ⟨by rw [hrm]; exact Nat.le_of_ble_eq_true rfl, by rw [hrm]; exact Nat.le_of_ble_eq_true rfl⟩ rfl hk1 rfl rfl rfl (Nat.le_of_ble_eq_true rfl) dX9_moved_4 (fun r1 m1 => ?_)
  refine z_if_eq (tgt := 30) C dX9_moved_7 (by decide) (fun c1 => ?_) (fun c1 => ?_)
  · exact z_sub [0, 1, 2, 3] rfl (s_X9_moved_30 C hr hrm th p1 p2 p3 m1)
  · refine z_aload_n C dX9_moved_10 rfl 0 rfl ?_
    refine z_chk (fun hk2 => ?_)
    refine z_getR C fl_RX9_46 rfl hk2 dX9_moved_11 ?_
    refine z_ck (fun a1 hr1 hk3 => ?_)
    refine z_cVI [] [] C mv_RX9_321 (fun r0 m0 h0 => M_X3_findMoves _ _ _ _ _ _ h0) rfl rfl ⟨by rw [hrm]; exact Nat.le_of_ble_eq_true rfl, by rw [hrm]; exact Nat.le_of_ble_eq_true rfl⟩ ⟨by rw [hrm]; exact Nat.le_of_ble_eq_true rfl, by rw [hrm]; exact Nat.le_of_ble_eq_true rfl⟩ hr1 hk3 rfl rfl rfl (Nat.le_of_ble_eq_true rfl) dX9_moved_14 (fun r2 m2 => ?_)
    refine z_if_eq (tgt := 30) C dX9_moved_17 (by decide) (fun c2 => ?_) (fun c2 => ?_)
    · exact z_sub [0, 1, 2, 3] rfl (s_X9_moved_30 C hr hrm th p1 p2 p3 m2)
    · refine z_aload_n C dX9_moved_20 rfl 0 rfl ?_
      refine z_chk (fun hk4 => ?_)
      refine z_getR C fl_RX9_46 rfl hk4 dX9_moved_21 ?_
      refine z_ck (fun a2 hr2 hk5 => ?_)
      refine z_getI C fl_RX9_324 hr2 hk5 dX9_moved_24 ?_
      refine z_goto (tgt := 31) C dX9_moved_27 (by decide) ?_
      exact z_iret C hr dX9_moved_31
def f_X9_moved (th : Nat) (p1 : Int32) (p2 : Int32) (p3 : Int32) (m : MM) : Option (Int32 × MM) := g_X9_moved_0 th p1 p2 p3 m
theorem M_X9_moved (l : Launch) (E : EX) (th : Nat) (p1 : Int32) (p2 : Int32) (p3 : Int32) (m : MM) (r : Int32) (m2 : MM) (h : f_X9_moved th p1 p2 p3 m = some (r, m2)) : Met l yX9_moved (.code yX9_moved cX9_moved 4 (some .int) :: TB) rmX9_moved (va_Pc [.ref th, .int p1, .int p2, .int p3] (St E m)) (QR E (emI r) m2) 0 0 (AA E) :=
  met_of (em := emI) (plainFor_of_name rfl) (Nat.le_of_ble_eq_true rfl) (L0 := [(0, va_rf (some th)), (1, .int p1), (2, .int p2), (3, .int p3)]) rfl (fun Γ _ hrm C hr hn => s_X9_moved_0 C hr hrm th p1 p2 p3 m) h

theorem dX9_movedTo_0 : decode cX9_movedTo 0 = .ok (.aload_n 0, 1) := by decide +kernel
theorem dX9_movedTo_1 : decode cX9_movedTo 1 = .ok (.iload_n 1, 1) := by decide +kernel
theorem dX9_movedTo_2 : decode cX9_movedTo 2 = .ok (.iload_n 2, 1) := by decide +kernel
theorem dX9_movedTo_3 : decode cX9_movedTo 3 = .ok (.iload_n 3, 1) := by decide +kernel
theorem dX9_movedTo_4 : decode cX9_movedTo 4 = .ok (.invokevirtual 247, 3) := by decide +kernel
theorem dX9_movedTo_7 : decode cX9_movedTo 7 = .ok (.ifCond .eq 13, 3) := by decide +kernel
theorem dX9_movedTo_10 : decode cX9_movedTo 10 = .ok (.aload_n 0, 1) := by decide +kernel
theorem dX9_movedTo_11 : decode cX9_movedTo 11 = .ok (.getfield 46, 3) := by decide +kernel
theorem dX9_movedTo_14 : decode cX9_movedTo 14 = .ok (.invokevirtual 321, 3) := by decide +kernel
theorem dX9_movedTo_17 : decode cX9_movedTo 17 = .ok (.ifCond .ne 5, 3) := by decide +kernel
theorem dX9_movedTo_20 : decode cX9_movedTo 20 = .ok (.iconst (-1), 1) := by decide +kernel
theorem dX9_movedTo_21 : decode cX9_movedTo 21 = .ok (.ireturn, 1) := by decide +kernel
theorem dX9_movedTo_22 : decode cX9_movedTo 22 = .ok (.iload 4, 2) := by decide +kernel
theorem dX9_movedTo_24 : decode cX9_movedTo 24 = .ok (.ifCond .lt 18, 3) := by decide +kernel
theorem dX9_movedTo_27 : decode cX9_movedTo 27 = .ok (.iload 4, 2) := by decide +kernel
theorem dX9_movedTo_29 : decode cX9_movedTo 29 = .ok (.aload_n 0, 1) := by decide +kernel
theorem dX9_movedTo_30 : decode cX9_movedTo 30 = .ok (.getfield 46, 3) := by decide +kernel
theorem dX9_movedTo_33 : decode cX9_movedTo 33 = .ok (.getfield 324, 3) := by decide +kernel
theorem dX9_movedTo_36 : decode cX9_movedTo 36 = .ok (.invokestatic 239, 3) := by decide +kernel
theorem dX9_movedTo_39 : decode cX9_movedTo 39 = .ok (.if_icmp .lt 7, 3) := by decide +kernel
theorem dX9_movedTo_42 : decode cX9_movedTo 42 = .ok (.iconst (-1), 1) := by decide +kernel
theorem dX9_movedTo_43 : decode cX9_movedTo 43 = .ok (.goto 12, 3) := by decide +kernel
theorem dX9_movedTo_46 : decode cX9_movedTo 46 = .ok (.aload_n 0, 1) := by decide +kernel
theorem dX9_movedTo_47 : decode cX9_movedTo 47 = .ok (.getfield 46, 3) := by decide +kernel
theorem dX9_movedTo_50 : decode cX9_movedTo 50 = .ok (.iload 4, 2) := by decide +kernel
theorem dX9_movedTo_52 : decode cX9_movedTo 52 = .ok (.invokevirtual 300, 3) := by decide +kernel
theorem dX9_movedTo_55 : decode cX9_movedTo 55 = .ok (.ireturn, 1) := by decide +kernel
def rmX9_movedTo : Room := { frames := 7, cells := 0, slots := 0, locals := 205 }
set_option maxRecDepth 100000 in
def g_X9_movedTo_42 (th : Nat) (p1 : Int32) (p2 : Int32) (p3 : Int32) (p4 : Int32) (m : MM) : Option (Int32 × MM) :=
  some ((-1), m)
set_option maxHeartbeats 4000000 in
set_option maxRecDepth 100000 in
theorem s_X9_movedTo_42 {Γ : GX} {E : EX} (C : Cx Γ E cX9_movedTo RX9 5) (hr : Γ.meth.sig.returnType = (some .int)) (hrm : Γ.rm = rmX9_movedTo) (th : Nat) (p1 : Int32) (p2 : Int32) (p3 : Int32) (p4 : Int32) (m : MM) : Sm (QM Γ E emI 0 0) Γ E 5 0 0 42 [(0, va_rf (some th)), (1, .int p1), (2, .int p2), (3, .int p3), (4, .int p4)] [] m (g_X9_movedTo_42 th p1 p2 p3 p4 m) := by
  unfold g_X9_movedTo_42
  refine z_iconst (v := (-1)) C dX9_movedTo_42 (by decide) ?_
  refine z_goto (tgt := 55) C dX9_movedTo_43 (by decide) ?_
  exact z_iret C hr dX9_movedTo_55
set_option maxRecDepth 100000 in
def g_X9_movedTo_0 (th : Nat) (p1 : Int32) (p2 : Int32) (p3 : Int32) (p4 : Int32) (m : MM) : Option (Int32 × MM) :=
  chk (m.K th = 10) (cal (f_X9_opened th p1 p2 p3 m) (fun r1 m1 => if r1 = 0 then (some ((-1), m1)) else (chk (m1.K th = 10) (ck m1 (m1.R 1005 th 0) 4 (fun a1 => cal (f_X3_findMoves a1 m1) (fun r2 m2 => if r2 = 0 then (some ((-1), m2)) else (if p4 < 0 then (g_X9_movedTo_42 th p1 p2 p3 p4 m2) else (chk (m2.K th = 10) (ck m2 (m2.R 1005 th 0) 4 (fun a2 => cal (f_J6_bitCount_0f7a4 (m2.I 404 a2 0) m2) (fun r3 m3 => if p4 < r3 then (chk (m3.K th = 10) (ck m3 (m3.R 1005 th 0) 4 (fun a3 => cal (f_X3_pointOf a3 p4 m3) (fun r4 m4 => some (r4, m4))))) else (g_X9_movedTo_42 th p1 p2 p3 p4 m3))))))))))))
set_option maxHeartbeats 4000000 in
set_option maxRecDepth 100000 in
theorem s_X9_movedTo_0 {Γ : GX} {E : EX} (C : Cx Γ E cX9_movedTo RX9 5) (hr : Γ.meth.sig.returnType = (some .int)) (hrm : Γ.rm = rmX9_movedTo) (th : Nat) (p1 : Int32) (p2 : Int32) (p3 : Int32) (p4 : Int32) (m : MM) : Sm (QM Γ E emI 0 0) Γ E 5 0 0 0 [(0, va_rf (some th)), (1, .int p1), (2, .int p2), (3, .int p3), (4, .int p4)] [] m (g_X9_movedTo_0 th p1 p2 p3 p4 m) := by
  unfold g_X9_movedTo_0
  refine z_aload_n C dX9_movedTo_0 rfl 0 rfl ?_
  refine z_iload_n C dX9_movedTo_1 rfl 1 rfl ?_
  refine z_iload_n C dX9_movedTo_2 rfl 2 rfl ?_
  refine z_iload_n C dX9_movedTo_3 rfl 3 rfl ?_
  refine z_chk (fun hk1 => ?_)
  refine z_cVI [.int p1, .int p2, .int p3] [] C mv_RX9_247 (fun r0 m0 h0 => M_X9_opened _ _ _ _ _ _ _ _ _ h0) rfl rfl ⟨by rw [hrm]; exact Nat.le_of_ble_eq_true rfl, by rw [hrm]; exact Nat.le_of_ble_eq_true rfl⟩ ⟨by rw [hrm]; exact Nat.le_of_ble_eq_true rfl, by rw [hrm]; exact Nat.le_of_ble_eq_true rfl⟩ rfl hk1 rfl rfl rfl (Nat.le_of_ble_eq_true rfl) dX9_movedTo_4 (fun r1 m1 => ?_)
  refine z_if_eq (tgt := 20) C dX9_movedTo_7 (by decide) (fun c1 => ?_) (fun c1 => ?_)
  · refine z_iconst (v := (-1)) C dX9_movedTo_20 (by decide) ?_
    exact z_iret C hr dX9_movedTo_21
  · refine z_aload_n C dX9_movedTo_10 rfl 0 rfl ?_
    refine z_chk (fun hk2 => ?_)
    refine z_getR C fl_RX9_46 rfl hk2 dX9_movedTo_11 ?_
    refine z_ck (fun a1 hr1 hk3 => ?_)
    refine z_cVI [] [] C mv_RX9_321 (fun r0 m0 h0 => M_X3_findMoves _ _ _ _ _ _ h0) rfl rfl ⟨by rw [hrm]; exact Nat.le_of_ble_eq_true rfl, by rw [hrm]; exact Nat.le_of_ble_eq_true rfl⟩ ⟨by rw [hrm]; exact Nat.le_of_ble_eq_true rfl, by rw [hrm]; exact Nat.le_of_ble_eq_true rfl⟩ hr1 hk3 rfl rfl rfl (Nat.le_of_ble_eq_true rfl) dX9_movedTo_14 (fun r2 m2 => ?_)
    refine z_if_ne (tgt := 22) C dX9_movedTo_17 (by decide) (fun c2 => ?_) (fun c2 => ?_)
    · refine z_iload C dX9_movedTo_22 4 rfl ?_
      refine z_if_lt (tgt := 42) C dX9_movedTo_24 (by decide) (fun c3 => ?_) (fun c3 => ?_)
      · exact z_sub [0, 1, 2, 3, 4] rfl (s_X9_movedTo_42 C hr hrm th p1 p2 p3 p4 m2)
      · refine z_iload C dX9_movedTo_27 4 rfl ?_
        refine z_aload_n C dX9_movedTo_29 rfl 0 rfl ?_
        refine z_chk (fun hk4 => ?_)
        refine z_getR C fl_RX9_46 rfl hk4 dX9_movedTo_30 ?_
        refine z_ck (fun a2 hr2 hk5 => ?_)
        refine z_getI C fl_RX9_324 hr2 hk5 dX9_movedTo_33 ?_
        refine z_cSI [.int (m2.I 404 a2 0)] [.int p4] C mv_RX9_239 (fun r0 m0 h0 => M_J6_bitCount_0f7a4 _ _ _ _ _ _ h0) rfl rfl ⟨by rw [hrm]; exact Nat.le_of_ble_eq_true rfl, by rw [hrm]; exact Nat.le_of_ble_eq_true rfl⟩ ⟨by rw [hrm]; exact Nat.le_of_ble_eq_true rfl, by rw [hrm]; exact Nat.le_of_ble_eq_true rfl⟩ rfl rfl (Nat.le_of_ble_eq_true rfl) dX9_movedTo_36 (fun r3 m3 => ?_)
        refine z_icmp_lt (tgt := 46) C dX9_movedTo_39 (by decide) (fun c4 => ?_) (fun c4 => ?_)
        · refine z_aload_n C dX9_movedTo_46 rfl 0 rfl ?_
          refine z_chk (fun hk6 => ?_)
          refine z_getR C fl_RX9_46 rfl hk6 dX9_movedTo_47 ?_
          refine z_iload C dX9_movedTo_50 4 rfl ?_
          refine z_ck (fun a3 hr3 hk7 => ?_)
          refine z_cVI [.int p4] [] C mv_RX9_300 (fun r0 m0 h0 => M_X3_pointOf _ _ _ _ _ _ _ h0) rfl rfl ⟨by rw [hrm]; exact Nat.le_of_ble_eq_true rfl, by rw [hrm]; exact Nat.le_of_ble_eq_true rfl⟩ ⟨by rw [hrm]; exact Nat.le_of_ble_eq_true rfl, by rw [hrm]; exact Nat.le_of_ble_eq_true rfl⟩ hr3 hk7 rfl rfl rfl (Nat.le_of_ble_eq_true rfl) dX9_movedTo_52 (fun r4 m4 => ?_)
          exact z_iret C hr dX9_movedTo_55
        · exact z_sub [0, 1, 2, 3, 4] rfl (s_X9_movedTo_42 C hr hrm th p1 p2 p3 p4 m3)
    · refine z_iconst (v := (-1)) C dX9_movedTo_20 (by decide) ?_
      exact z_iret C hr dX9_movedTo_21
def f_X9_movedTo (th : Nat) (p1 : Int32) (p2 : Int32) (p3 : Int32) (p4 : Int32) (m : MM) : Option (Int32 × MM) := g_X9_movedTo_0 th p1 p2 p3 p4 m
theorem M_X9_movedTo (l : Launch) (E : EX) (th : Nat) (p1 : Int32) (p2 : Int32) (p3 : Int32) (p4 : Int32) (m : MM) (r : Int32) (m2 : MM) (h : f_X9_movedTo th p1 p2 p3 p4 m = some (r, m2)) : Met l yX9_movedTo (.code yX9_movedTo cX9_movedTo 5 (some .int) :: TB) rmX9_movedTo (va_Pc [.ref th, .int p1, .int p2, .int p3, .int p4] (St E m)) (QR E (emI r) m2) 0 0 (AA E) :=
  met_of (em := emI) (plainFor_of_name rfl) (Nat.le_of_ble_eq_true rfl) (L0 := [(0, va_rf (some th)), (1, .int p1), (2, .int p2), (3, .int p3), (4, .int p4)]) rfl (fun Γ _ hrm C hr hn => s_X9_movedTo_0 C hr hrm th p1 p2 p3 p4 m) h

theorem dX9_quiet_0 : decode cX9_quiet 0 = .ok (.aload_n 0, 1) := by decide +kernel
theorem dX9_quiet_1 : decode cX9_quiet 1 = .ok (.getfield 10, 3) := by decide +kernel
theorem dX9_quiet_4 : decode cX9_quiet 4 = .ok (.iload_n 2, 1) := by decide +kernel
theorem dX9_quiet_5 : decode cX9_quiet 5 = .ok (.invokevirtual 175, 3) := by decide +kernel
theorem dX9_quiet_8 : decode cX9_quiet 8 = .ok (.astore 4, 2) := by decide +kernel
theorem dX9_quiet_10 : decode cX9_quiet 10 = .ok (.aload 4, 2) := by decide +kernel
theorem dX9_quiet_12 : decode cX9_quiet 12 = .ok (.ifnull 13, 3) := by decide +kernel
theorem dX9_quiet_15 : decode cX9_quiet 15 = .ok (.aload_n 0, 1) := by decide +kernel
theorem dX9_quiet_16 : decode cX9_quiet 16 = .ok (.iload_n 1, 1) := by decide +kernel
theorem dX9_quiet_17 : decode cX9_quiet 17 = .ok (.iload_n 2, 1) := by decide +kernel
theorem dX9_quiet_18 : decode cX9_quiet 18 = .ok (.iload_n 3, 1) := by decide +kernel
theorem dX9_quiet_19 : decode cX9_quiet 19 = .ok (.invokevirtual 247, 3) := by decide +kernel
theorem dX9_quiet_22 : decode cX9_quiet 22 = .ok (.ifCond .ne 5, 3) := by decide +kernel
theorem dX9_quiet_25 : decode cX9_quiet 25 = .ok (.iconst (-1), 1) := by decide +kernel
theorem dX9_quiet_26 : decode cX9_quiet 26 = .ok (.ireturn, 1) := by decide +kernel
theorem dX9_quiet_27 : decode cX9_quiet 27 = .ok (.iconst 0, 1) := by decide +kernel
theorem dX9_quiet_28 : decode cX9_quiet 28 = .ok (.istore 5, 2) := by decide +kernel
theorem dX9_quiet_30 : decode cX9_quiet 30 = .ok (.iconst 0, 1) := by decide +kernel
theorem dX9_quiet_31 : decode cX9_quiet 31 = .ok (.istore 6, 2) := by decide +kernel
theorem dX9_quiet_33 : decode cX9_quiet 33 = .ok (.iload 6, 2) := by decide +kernel
theorem dX9_quiet_35 : decode cX9_quiet 35 = .ok (.bipush 8, 2) := by decide +kernel
theorem dX9_quiet_37 : decode cX9_quiet 37 = .ok (.if_icmp .ge 47, 3) := by decide +kernel
theorem dX9_quiet_40 : decode cX9_quiet 40 = .ok (.aload_n 0, 1) := by decide +kernel
theorem dX9_quiet_41 : decode cX9_quiet 41 = .ok (.getfield 30, 3) := by decide +kernel
theorem dX9_quiet_44 : decode cX9_quiet 44 = .ok (.iconst 1, 1) := by decide +kernel
theorem dX9_quiet_45 : decode cX9_quiet 45 = .ok (.iload 6, 2) := by decide +kernel
theorem dX9_quiet_47 : decode cX9_quiet 47 = .ok (.ishl, 1) := by decide +kernel
theorem dX9_quiet_48 : decode cX9_quiet 48 = .ok (.putfield 327, 3) := by decide +kernel
theorem dX9_quiet_51 : decode cX9_quiet 51 = .ok (.aload_n 0, 1) := by decide +kernel
theorem dX9_quiet_52 : decode cX9_quiet 52 = .ok (.getfield 39, 3) := by decide +kernel
theorem dX9_quiet_55 : decode cX9_quiet 55 = .ok (.invokevirtual 251, 3) := by decide +kernel
theorem dX9_quiet_58 : decode cX9_quiet 58 = .ok (.aload_n 0, 1) := by decide +kernel
theorem dX9_quiet_59 : decode cX9_quiet 59 = .ok (.getfield 39, 3) := by decide +kernel
theorem dX9_quiet_62 : decode cX9_quiet 62 = .ok (.iconst 1, 1) := by decide +kernel
theorem dX9_quiet_63 : decode cX9_quiet 63 = .ok (.invokevirtual 330, 3) := by decide +kernel
theorem dX9_quiet_66 : decode cX9_quiet 66 = .ok (.ifCond .ne 12, 3) := by decide +kernel
theorem dX9_quiet_69 : decode cX9_quiet 69 = .ok (.iload 5, 2) := by decide +kernel
theorem dX9_quiet_71 : decode cX9_quiet 71 = .ok (.iconst 1, 1) := by decide +kernel
theorem dX9_quiet_72 : decode cX9_quiet 72 = .ok (.iload 6, 2) := by decide +kernel
theorem dX9_quiet_74 : decode cX9_quiet 74 = .ok (.ishl, 1) := by decide +kernel
theorem dX9_quiet_75 : decode cX9_quiet 75 = .ok (.ior, 1) := by decide +kernel
theorem dX9_quiet_76 : decode cX9_quiet 76 = .ok (.istore 5, 2) := by decide +kernel
theorem dX9_quiet_78 : decode cX9_quiet 78 = .ok (.iinc 6 1, 3) := by decide +kernel
theorem dX9_quiet_81 : decode cX9_quiet 81 = .ok (.goto (-48), 3) := by decide +kernel
theorem dX9_quiet_84 : decode cX9_quiet 84 = .ok (.iload 5, 2) := by decide +kernel
theorem dX9_quiet_86 : decode cX9_quiet 86 = .ok (.ireturn, 1) := by decide +kernel
def rmX9_quiet : Room := { frames := 5, cells := 0, slots := 0, locals := 141 }
set_option maxRecDepth 100000 in
def g_X9_quiet_78 (th : Nat) (p1 : Int32) (p2 : Int32) (p3 : Int32) (k33 : Int32 → Int32 → MM → Option (Int32 × MM)) (x5 : Int32) (x6 : Int32) (m : MM) : Option (Int32 × MM) :=
  k33 x5 (x6 + 1) m
set_option maxHeartbeats 4000000 in
set_option maxRecDepth 100000 in
theorem s_X9_quiet_78 {Γ : GX} {E : EX} (C : Cx Γ E cX9_quiet RX9 7) (hr : Γ.meth.sig.returnType = (some .int)) (hrm : Γ.rm = rmX9_quiet) (th : Nat) (p1 : Int32) (p2 : Int32) (p3 : Int32) (k33 : Int32 → Int32 → MM → Option (Int32 × MM)) (h33 : ∀ (x5 : Int32) (x6 : Int32) (m : MM), Sm (QM Γ E emI 0 0) Γ E 7 0 0 33 [(0, va_rf (some th)), (1, .int p1), (2, .int p2), (3, .int p3), (5, .int x5), (6, .int x6)] [] m (k33 x5 x6 m)) (x5 : Int32) (x6 : Int32) (m : MM) : Sm (QM Γ E emI 0 0) Γ E 7 0 0 78 [(0, va_rf (some th)), (1, .int p1), (2, .int p2), (3, .int p3), (5, .int x5), (6, .int x6)] [] m (g_X9_quiet_78 th p1 p2 p3 k33 x5 x6 m) := by
  unfold g_X9_quiet_78
  refine z_iinc (v := 1) (L2 := [(6, .int (x6 + 1)), (0, va_rf (some th)), (1, .int p1), (2, .int p2), (3, .int p3), (5, .int x5)]) C dX9_quiet_78 5 rfl (by decide) (by decide) rfl ?_
  refine z_goto (tgt := 33) C dX9_quiet_81 (by decide) ?_
  exact z_sub [1, 2, 3, 4, 5, 0] rfl (h33 x5 (x6 + 1) m)
set_option maxRecDepth 100000 in
def g_X9_quiet_33 (th : Nat) (p1 : Int32) (p2 : Int32) (p3 : Int32) (k33 : Int32 → Int32 → MM → Option (Int32 × MM)) (x5 : Int32) (x6 : Int32) (m : MM) : Option (Int32 × MM) :=
  if 8 ≤ x6 then (some (x5, m)) else (chk (m.K th = 10) (ck m (m.R 1003 th 0) 6 (fun a1 => bnd (m.sI 607 a1 0 (1 <<< (x6 &&& 31))) (fun m1 => ck m1 (m1.R 1004 th 0) 2 (fun a2 => cal (f_X1_collect a2 m1) (fun r1 m2 => chk (m2.K th = 10) (ck m2 (m2.R 1004 th 0) 2 (fun a3 => cal (f_X1_hasSort a3 1 m2) (fun r2 m3 => if r2 = 0 then (bnd (x5 ||| (1 <<< (x6 &&& 31))) (fun y1 => g_X9_quiet_78 th p1 p2 p3 k33 y1 x6 m3)) else (g_X9_quiet_78 th p1 p2 p3 k33 x5 x6 m3))))))))))
set_option maxHeartbeats 4000000 in
set_option maxRecDepth 100000 in
theorem s_X9_quiet_33 {Γ : GX} {E : EX} (C : Cx Γ E cX9_quiet RX9 7) (hr : Γ.meth.sig.returnType = (some .int)) (hrm : Γ.rm = rmX9_quiet) (th : Nat) (p1 : Int32) (p2 : Int32) (p3 : Int32) (k33 : Int32 → Int32 → MM → Option (Int32 × MM)) (h33 : ∀ (x5 : Int32) (x6 : Int32) (m : MM), Sm (QM Γ E emI 0 0) Γ E 7 0 0 33 [(0, va_rf (some th)), (1, .int p1), (2, .int p2), (3, .int p3), (5, .int x5), (6, .int x6)] [] m (k33 x5 x6 m)) (x5 : Int32) (x6 : Int32) (m : MM) : Sm (QM Γ E emI 0 0) Γ E 7 0 0 33 [(0, va_rf (some th)), (1, .int p1), (2, .int p2), (3, .int p3), (5, .int x5), (6, .int x6)] [] m (g_X9_quiet_33 th p1 p2 p3 k33 x5 x6 m) := by
  unfold g_X9_quiet_33
  refine z_iload C dX9_quiet_33 5 rfl ?_
  refine z_bipush (v := 8) C dX9_quiet_35 (by decide) ?_
  refine z_icmp_ge (tgt := 84) C dX9_quiet_37 (by decide) (fun c1 => ?_) (fun c1 => ?_)
  · refine z_iload C dX9_quiet_84 4 rfl ?_
    exact z_iret C hr dX9_quiet_86
  · refine z_aload_n C dX9_quiet_40 rfl 0 rfl ?_
    refine z_chk (fun hk1 => ?_)
    refine z_getR C fl_RX9_30 rfl hk1 dX9_quiet_41 ?_
    refine z_iconst (v := 1) C dX9_quiet_44 (by decide) ?_
    refine z_iload C dX9_quiet_45 5 rfl ?_
    refine z_ishl C dX9_quiet_47 ?_
    refine z_ck (fun a1 hr1 hk2 => ?_)
    refine z_putI C fl_RX9_327 (fun h => by cases h) hr1 hk2 rfl rfl dX9_quiet_48 (fun m1 eK1 eN1 => ?_)
    refine z_aload_n C dX9_quiet_51 rfl 0 rfl ?_
    refine z_getR C fl_RX9_39 rfl (kfw eK1 hk1) dX9_quiet_52 ?_
    refine z_ck (fun a2 hr2 hk3 => ?_)
    refine z_cVV [] [] C mv_RX9_251 (fun r0 m0 h0 => M_X1_collect _ _ _ _ _ _ h0) rfl rfl ⟨by rw [hrm]; exact Nat.le_of_ble_eq_true rfl, by rw [hrm]; exact Nat.le_of_ble_eq_true rfl⟩ ⟨by rw [hrm]; exact Nat.le_of_ble_eq_true rfl, by rw [hrm]; exact Nat.le_of_ble_eq_true rfl⟩ hr2 hk3 rfl rfl rfl (Nat.le_of_ble_eq_true rfl) dX9_quiet_55 (fun r1 m2 => ?_)
    refine z_aload_n C dX9_quiet_58 rfl 0 rfl ?_
    refine z_chk (fun hk4 => ?_)
    refine z_getR C fl_RX9_39 rfl hk4 dX9_quiet_59 ?_
    refine z_iconst (v := 1) C dX9_quiet_62 (by decide) ?_
    refine z_ck (fun a3 hr3 hk5 => ?_)
    refine z_cVI [.int 1] [] C mv_RX9_330 (fun r0 m0 h0 => M_X1_hasSort _ _ _ _ _ _ _ h0) rfl rfl ⟨by rw [hrm]; exact Nat.le_of_ble_eq_true rfl, by rw [hrm]; exact Nat.le_of_ble_eq_true rfl⟩ ⟨by rw [hrm]; exact Nat.le_of_ble_eq_true rfl, by rw [hrm]; exact Nat.le_of_ble_eq_true rfl⟩ hr3 hk5 rfl rfl rfl (Nat.le_of_ble_eq_true rfl) dX9_quiet_63 (fun r2 m3 => ?_)
    refine z_if_ne (tgt := 78) C dX9_quiet_66 (by decide) (fun c2 => ?_) (fun c2 => ?_)
    · exact z_sub [0, 1, 2, 3, 4, 5] rfl (s_X9_quiet_78 C hr hrm th p1 p2 p3 k33 h33 x5 x6 m3)
    · refine z_iload C dX9_quiet_69 4 rfl ?_
      refine z_iconst (v := 1) C dX9_quiet_71 (by decide) ?_
      refine z_iload C dX9_quiet_72 5 rfl ?_
      refine z_ishl C dX9_quiet_74 ?_
      refine z_ior C dX9_quiet_75 ?_
      refine z_bndI (fun y1 => ?_)
      refine z_istore (i := 5) (L2 := [(5, .int y1), (0, va_rf (some th)), (1, .int p1), (2, .int p2), (3, .int p3), (6, .int x6)]) C dX9_quiet_76 (by decide) rfl ?_
      exact z_sub [1, 2, 3, 4, 0, 5] rfl (s_X9_quiet_78 C hr hrm th p1 p2 p3 k33 h33 y1 x6 m3)
def l_X9_quiet_33 (th : Nat) (p1 : Int32) (p2 : Int32) (p3 : Int32) : Nat → Int32 → Int32 → MM → Option (Int32 × MM) := lp (fun _ _ _ => none) (fun k33 => g_X9_quiet_33 th p1 p2 p3 k33)
theorem t_X9_quiet_33 {Γ : GX} {E : EX} (C : Cx Γ E cX9_quiet RX9 7) (hr : Γ.meth.sig.returnType = (some .int)) (hrm : Γ.rm = rmX9_quiet) (th : Nat) (p1 : Int32) (p2 : Int32) (p3 : Int32) : ∀ (n : Nat) (x5 : Int32) (x6 : Int32) (m : MM), Sm (QM Γ E emI 0 0) Γ E 7 0 0 33 [(0, va_rf (some th)), (1, .int p1), (2, .int p2), (3, .int p3), (5, .int x5), (6, .int x6)] [] m (l_X9_quiet_33 th p1 p2 p3 n x5 x6 m) := by
  intro n
  induction n with
  | zero => intros; exact z_none
  | succ n ih => intro x5 x6 m; exact s_X9_quiet_33 C hr hrm th p1 p2 p3 (l_X9_quiet_33 th p1 p2 p3 n) ih x5 x6 m
set_option maxRecDepth 100000 in
def g_X9_quiet_0 (th : Nat) (p1 : Int32) (p2 : Int32) (p3 : Int32) (m : MM) : Option (Int32 × MM) :=
  chk (m.K th = 10) (ck m (m.R 1000 th 0) 8 (fun a4 => cal (f_X7_lawAt a4 p2 m) (fun r3 m4 => ifn r3 (some ((-1), m4)) (fun a5 => chk (m4.K th = 10) (cal (f_X9_opened th p1 p2 p3 m4) (fun r4 m5 => if r4 = 0 then (some ((-1), m5)) else (l_X9_quiet_33 th p1 p2 p3 FU 0 0 m5)))))))
set_option maxHeartbeats 4000000 in
set_option maxRecDepth 100000 in
theorem s_X9_quiet_0 {Γ : GX} {E : EX} (C : Cx Γ E cX9_quiet RX9 7) (hr : Γ.meth.sig.returnType = (some .int)) (hrm : Γ.rm = rmX9_quiet) (th : Nat) (p1 : Int32) (p2 : Int32) (p3 : Int32) (m : MM) : Sm (QM Γ E emI 0 0) Γ E 7 0 0 0 [(0, va_rf (some th)), (1, .int p1), (2, .int p2), (3, .int p3)] [] m (g_X9_quiet_0 th p1 p2 p3 m) := by
  unfold g_X9_quiet_0
  refine z_aload_n C dX9_quiet_0 rfl 0 rfl ?_
  refine z_chk (fun hk6 => ?_)
  refine z_getR C fl_RX9_10 rfl hk6 dX9_quiet_1 ?_
  refine z_iload_n C dX9_quiet_4 rfl 2 rfl ?_
  refine z_ck (fun a4 hr4 hk7 => ?_)
  refine z_cVR [.int p2] [] C mv_RX9_175 (fun r0 m0 h0 => M_X7_lawAt _ _ _ _ _ _ _ h0) rfl rfl ⟨by rw [hrm]; exact Nat.le_of_ble_eq_true rfl, by rw [hrm]; exact Nat.le_of_ble_eq_true rfl⟩ ⟨by rw [hrm]; exact Nat.le_of_ble_eq_true rfl, by rw [hrm]; exact Nat.le_of_ble_eq_true rfl⟩ hr4 hk7 rfl rfl rfl (Nat.le_of_ble_eq_true rfl) dX9_quiet_5 (fun r3 m4 => ?_)
  refine z_astore (i := 4) (L2 := [(4, va_rf r3), (0, va_rf (some th)), (1, .int p1), (2, .int p2), (3, .int p3)]) C dX9_quiet_8 (by decide) rfl ?_
  refine z_aload C dX9_quiet_10 0 rfl ?_
  refine z_ifnull (tgt := 25) C dX9_quiet_12 (by decide) (fun hn1 => ?_) (fun a5 ha1 => ?_)
  · refine z_iconst (v := (-1)) C dX9_quiet_25 (by decide) ?_
    exact z_iret C hr dX9_quiet_26
  · refine z_aload_n C dX9_quiet_15 rfl 1 rfl ?_
    refine z_iload_n C dX9_quiet_16 rfl 2 rfl ?_
    refine z_iload_n C dX9_quiet_17 rfl 3 rfl ?_
    refine z_iload_n C dX9_quiet_18 rfl 4 rfl ?_
    refine z_chk (fun hk8 => ?_)
    refine z_cVI [.int p1, .int p2, .int p3] [] C mv_RX9_247 (fun r0 m0 h0 => M_X9_opened _ _ _ _ _ _ _ _ _ h0) rfl rfl ⟨by rw [hrm]; exact Nat.le_of_ble_eq_true rfl, by rw [hrm]; exact Nat.le_of_ble_eq_true rfl⟩ ⟨by rw [hrm]; exact Nat.le_of_ble_eq_true rfl, by rw [hrm]; exact Nat.le_of_ble_eq_true rfl⟩ rfl hk8 rfl rfl rfl (Nat.le_of_ble_eq_true rfl) dX9_quiet_19 (fun r4 m5 => ?_)
    refine z_if_ne (tgt := 27) C dX9_quiet_22 (by decide) (fun c3 => ?_) (fun c3 => ?_)
    · refine z_iconst (v := 0) C dX9_quiet_27 (by decide) ?_
      refine z_istore (i := 5) (L2 := [(5, .int 0), (4, va_rf r3), (0, va_rf (some th)), (1, .int p1), (2, .int p2), (3, .int p3)]) C dX9_quiet_28 (by decide) (by simp [cat_rf, cat_i, cat_l, cat_a]) ?_
      refine z_iconst (v := 0) C dX9_quiet_30 (by decide) ?_
      refine z_istore (i := 6) (L2 := [(6, .int 0), (5, .int 0), (4, va_rf r3), (0, va_rf (some th)), (1, .int p1), (2, .int p2), (3, .int p3)]) C dX9_quiet_31 (by decide) rfl ?_
      exact z_sub [3, 4, 5, 6, 1, 0] rfl (t_X9_quiet_33 C hr hrm th p1 p2 p3 FU 0 0 m5)
    · refine z_iconst (v := (-1)) C dX9_quiet_25 (by decide) ?_
      exact z_iret C hr dX9_quiet_26
def f_X9_quiet (th : Nat) (p1 : Int32) (p2 : Int32) (p3 : Int32) (m : MM) : Option (Int32 × MM) := g_X9_quiet_0 th p1 p2 p3 m
theorem M_X9_quiet (l : Launch) (E : EX) (th : Nat) (p1 : Int32) (p2 : Int32) (p3 : Int32) (m : MM) (r : Int32) (m2 : MM) (h : f_X9_quiet th p1 p2 p3 m = some (r, m2)) : Met l yX9_quiet (.code yX9_quiet cX9_quiet 7 (some .int) :: TB) rmX9_quiet (va_Pc [.ref th, .int p1, .int p2, .int p3] (St E m)) (QR E (emI r) m2) 0 0 (AA E) :=
  met_of (em := emI) (plainFor_of_name rfl) (Nat.le_of_ble_eq_true rfl) (L0 := [(0, va_rf (some th)), (1, .int p1), (2, .int p2), (3, .int p3)]) rfl (fun Γ _ hrm C hr hn => s_X9_quiet_0 C hr hrm th p1 p2 p3 m) h

theorem dX9_room_0 : decode cX9_room 0 = .ok (.aload_n 0, 1) := by decide +kernel
theorem dX9_room_1 : decode cX9_room 1 = .ok (.iload_n 1, 1) := by decide +kernel
theorem dX9_room_2 : decode cX9_room 2 = .ok (.iload_n 2, 1) := by decide +kernel
theorem dX9_room_3 : decode cX9_room 3 = .ok (.iload_n 3, 1) := by decide +kernel
theorem dX9_room_4 : decode cX9_room 4 = .ok (.invokevirtual 247, 3) := by decide +kernel
theorem dX9_room_7 : decode cX9_room 7 = .ok (.ifCond .ne 5, 3) := by decide +kernel
theorem dX9_room_10 : decode cX9_room 10 = .ok (.iconst (-1), 1) := by decide +kernel
theorem dX9_room_11 : decode cX9_room 11 = .ok (.ireturn, 1) := by decide +kernel
theorem dX9_room_12 : decode cX9_room 12 = .ok (.iconst 0, 1) := by decide +kernel
theorem dX9_room_13 : decode cX9_room 13 = .ok (.istore 4, 2) := by decide +kernel
theorem dX9_room_15 : decode cX9_room 15 = .ok (.iload 4, 2) := by decide +kernel
theorem dX9_room_17 : decode cX9_room 17 = .ok (.bipush 12, 2) := by decide +kernel
theorem dX9_room_19 : decode cX9_room 19 = .ok (.if_icmp .gt 33, 3) := by decide +kernel
theorem dX9_room_22 : decode cX9_room 22 = .ok (.aload_n 0, 1) := by decide +kernel
theorem dX9_room_23 : decode cX9_room 23 = .ok (.getfield 30, 3) := by decide +kernel
theorem dX9_room_26 : decode cX9_room 26 = .ok (.iload 4, 2) := by decide +kernel
theorem dX9_room_28 : decode cX9_room 28 = .ok (.putfield 333, 3) := by decide +kernel
theorem dX9_room_31 : decode cX9_room 31 = .ok (.aload_n 0, 1) := by decide +kernel
theorem dX9_room_32 : decode cX9_room 32 = .ok (.getfield 30, 3) := by decide +kernel
theorem dX9_room_35 : decode cX9_room 35 = .ok (.invokevirtual 306, 3) := by decide +kernel
theorem dX9_room_38 : decode cX9_room 38 = .ok (.ifCond .eq 8, 3) := by decide +kernel
theorem dX9_room_41 : decode cX9_room 41 = .ok (.iload 4, 2) := by decide +kernel
theorem dX9_room_43 : decode cX9_room 43 = .ok (.iconst 1, 1) := by decide +kernel
theorem dX9_room_44 : decode cX9_room 44 = .ok (.isub, 1) := by decide +kernel
theorem dX9_room_45 : decode cX9_room 45 = .ok (.ireturn, 1) := by decide +kernel
theorem dX9_room_46 : decode cX9_room 46 = .ok (.iinc 4 1, 3) := by decide +kernel
theorem dX9_room_49 : decode cX9_room 49 = .ok (.goto (-34), 3) := by decide +kernel
theorem dX9_room_52 : decode cX9_room 52 = .ok (.bipush 12, 2) := by decide +kernel
theorem dX9_room_54 : decode cX9_room 54 = .ok (.ireturn, 1) := by decide +kernel
def rmX9_room : Room := { frames := 6, cells := 0, slots := 0, locals := 163 }
set_option maxRecDepth 100000 in
def g_X9_room_15 (th : Nat) (p1 : Int32) (p2 : Int32) (p3 : Int32) (k15 : Int32 → MM → Option (Int32 × MM)) (x4 : Int32) (m : MM) : Option (Int32 × MM) :=
  if 12 < x4 then (some (12, m)) else (chk (m.K th = 10) (ck m (m.R 1003 th 0) 6 (fun a1 => bnd (m.sI 606 a1 0 x4) (fun m1 => ck m1 (m1.R 1003 th 0) 6 (fun a2 => cal (f_X5_findFoes a2 m1) (fun r1 m2 => if r1 = 0 then (k15 (x4 + 1) m2) else (some (x4 - 1, m2))))))))
set_option maxHeartbeats 4000000 in
set_option maxRecDepth 100000 in
theorem s_X9_room_15 {Γ : GX} {E : EX} (C : Cx Γ E cX9_room RX9 5) (hr : Γ.meth.sig.returnType = (some .int)) (hrm : Γ.rm = rmX9_room) (th : Nat) (p1 : Int32) (p2 : Int32) (p3 : Int32) (k15 : Int32 → MM → Option (Int32 × MM)) (h15 : ∀ (x4 : Int32) (m : MM), Sm (QM Γ E emI 0 0) Γ E 5 0 0 15 [(0, va_rf (some th)), (1, .int p1), (2, .int p2), (3, .int p3), (4, .int x4)] [] m (k15 x4 m)) (x4 : Int32) (m : MM) : Sm (QM Γ E emI 0 0) Γ E 5 0 0 15 [(0, va_rf (some th)), (1, .int p1), (2, .int p2), (3, .int p3), (4, .int x4)] [] m (g_X9_room_15 th p1 p2 p3 k15 x4 m) := by
  unfold g_X9_room_15
  refine z_iload C dX9_room_15 4 rfl ?_
  refine z_bipush (v := 12) C dX9_room_17 (by decide) ?_
  refine z_icmp_gt (tgt := 52) C dX9_room_19 (by decide) (fun c1 => ?_) (fun c1 => ?_)
  · refine z_bipush (v := 12) C dX9_room_52 (by decide) ?_
    exact z_iret C hr dX9_room_54
  · refine z_aload_n C dX9_room_22 rfl 0 rfl ?_
    refine z_chk (fun hk1 => ?_)
    refine z_getR C fl_RX9_30 rfl hk1 dX9_room_23 ?_
    refine z_iload C dX9_room_26 4 rfl ?_
    refine z_ck (fun a1 hr1 hk2 => ?_)
    refine z_putI C fl_RX9_333 (fun h => by cases h) hr1 hk2 rfl rfl dX9_room_28 (fun m1 eK1 eN1 => ?_)
    refine z_aload_n C dX9_room_31 rfl 0 rfl ?_
    refine z_getR C fl_RX9_30 rfl (kfw eK1 hk1) dX9_room_32 ?_
    refine z_ck (fun a2 hr2 hk3 => ?_)
    refine z_cVI [] [] C mv_RX9_306 (fun r0 m0 h0 => M_X5_findFoes _ _ _ _ _ _ h0) rfl rfl ⟨by rw [hrm]; exact Nat.le_of_ble_eq_true rfl, by rw [hrm]; exact Nat.le_of_ble_eq_true rfl⟩ ⟨by rw [hrm]; exact Nat.le_of_ble_eq_true rfl, by rw [hrm]; exact Nat.le_of_ble_eq_true rfl⟩ hr2 hk3 rfl rfl rfl (Nat.le_of_ble_eq_true rfl) dX9_room_35 (fun r1 m2 => ?_)
    refine z_if_eq (tgt := 46) C dX9_room_38 (by decide) (fun c2 => ?_) (fun c2 => ?_)
    · refine z_iinc (v := 1) (L2 := [(4, .int (x4 + 1)), (0, va_rf (some th)), (1, .int p1), (2, .int p2), (3, .int p3)]) C dX9_room_46 4 rfl (by decide) (by decide) rfl ?_
      refine z_goto (tgt := 15) C dX9_room_49 (by decide) ?_
      exact z_sub [1, 2, 3, 4, 0] rfl (h15 (x4 + 1) m2)
    · refine z_iload C dX9_room_41 4 rfl ?_
      refine z_iconst (v := 1) C dX9_room_43 (by decide) ?_
      refine z_isub C dX9_room_44 ?_
      exact z_iret C hr dX9_room_45
def l_X9_room_15 (th : Nat) (p1 : Int32) (p2 : Int32) (p3 : Int32) : Nat → Int32 → MM → Option (Int32 × MM) := lp (fun _ _ => none) (fun k15 => g_X9_room_15 th p1 p2 p3 k15)
theorem t_X9_room_15 {Γ : GX} {E : EX} (C : Cx Γ E cX9_room RX9 5) (hr : Γ.meth.sig.returnType = (some .int)) (hrm : Γ.rm = rmX9_room) (th : Nat) (p1 : Int32) (p2 : Int32) (p3 : Int32) : ∀ (n : Nat) (x4 : Int32) (m : MM), Sm (QM Γ E emI 0 0) Γ E 5 0 0 15 [(0, va_rf (some th)), (1, .int p1), (2, .int p2), (3, .int p3), (4, .int x4)] [] m (l_X9_room_15 th p1 p2 p3 n x4 m) := by
  intro n
  induction n with
  | zero => intros; exact z_none
  | succ n ih => intro x4 m; exact s_X9_room_15 C hr hrm th p1 p2 p3 (l_X9_room_15 th p1 p2 p3 n) ih x4 m
set_option maxRecDepth 100000 in
def g_X9_room_0 (th : Nat) (p1 : Int32) (p2 : Int32) (p3 : Int32) (m : MM) : Option (Int32 × MM) :=
  chk (m.K th = 10) (cal (f_X9_opened th p1 p2 p3 m) (fun r2 m3 => if r2 = 0 then (some ((-1), m3)) else (l_X9_room_15 th p1 p2 p3 FU 0 m3)))
set_option maxHeartbeats 4000000 in
set_option maxRecDepth 100000 in
theorem s_X9_room_0 {Γ : GX} {E : EX} (C : Cx Γ E cX9_room RX9 5) (hr : Γ.meth.sig.returnType = (some .int)) (hrm : Γ.rm = rmX9_room) (th : Nat) (p1 : Int32) (p2 : Int32) (p3 : Int32) (m : MM) : Sm (QM Γ E emI 0 0) Γ E 5 0 0 0 [(0, va_rf (some th)), (1, .int p1), (2, .int p2), (3, .int p3)] [] m (g_X9_room_0 th p1 p2 p3 m) := by
  unfold g_X9_room_0
  refine z_aload_n C dX9_room_0 rfl 0 rfl ?_
  refine z_iload_n C dX9_room_1 rfl 1 rfl ?_
  refine z_iload_n C dX9_room_2 rfl 2 rfl ?_
  refine z_iload_n C dX9_room_3 rfl 3 rfl ?_
  refine z_chk (fun hk4 => ?_)
  refine z_cVI [.int p1, .int p2, .int p3] [] C mv_RX9_247 (fun r0 m0 h0 => M_X9_opened _ _ _ _ _ _ _ _ _ h0) rfl rfl ⟨by rw [hrm]; exact Nat.le_of_ble_eq_true rfl, by rw [hrm]; exact Nat.le_of_ble_eq_true rfl⟩ ⟨by rw [hrm]; exact Nat.le_of_ble_eq_true rfl, by rw [hrm]; exact Nat.le_of_ble_eq_true rfl⟩ rfl hk4 rfl rfl rfl (Nat.le_of_ble_eq_true rfl) dX9_room_4 (fun r2 m3 => ?_)
  refine z_if_ne (tgt := 12) C dX9_room_7 (by decide) (fun c3 => ?_) (fun c3 => ?_)
  · refine z_iconst (v := 0) C dX9_room_12 (by decide) ?_
    refine z_istore (i := 4) (L2 := [(4, .int 0), (0, va_rf (some th)), (1, .int p1), (2, .int p2), (3, .int p3)]) C dX9_room_13 (by decide) rfl ?_
    exact z_sub [1, 2, 3, 4, 0] rfl (t_X9_room_15 C hr hrm th p1 p2 p3 FU 0 m3)
  · refine z_iconst (v := (-1)) C dX9_room_10 (by decide) ?_
    exact z_iret C hr dX9_room_11
def f_X9_room (th : Nat) (p1 : Int32) (p2 : Int32) (p3 : Int32) (m : MM) : Option (Int32 × MM) := g_X9_room_0 th p1 p2 p3 m
theorem M_X9_room (l : Launch) (E : EX) (th : Nat) (p1 : Int32) (p2 : Int32) (p3 : Int32) (m : MM) (r : Int32) (m2 : MM) (h : f_X9_room th p1 p2 p3 m = some (r, m2)) : Met l yX9_room (.code yX9_room cX9_room 5 (some .int) :: TB) rmX9_room (va_Pc [.ref th, .int p1, .int p2, .int p3] (St E m)) (QR E (emI r) m2) 0 0 (AA E) :=
  met_of (em := emI) (plainFor_of_name rfl) (Nat.le_of_ble_eq_true rfl) (L0 := [(0, va_rf (some th)), (1, .int p1), (2, .int p2), (3, .int p3)]) rfl (fun Γ _ hrm C hr hn => s_X9_room_0 C hr hrm th p1 p2 p3 m) h

theorem dX9_by_0 : decode cX9_by 0 = .ok (.aload_n 0, 1) := by decide +kernel
theorem dX9_by_1 : decode cX9_by 1 = .ok (.getfield 10, 3) := by decide +kernel
theorem dX9_by_4 : decode cX9_by 4 = .ok (.iload_n 2, 1) := by decide +kernel
theorem dX9_by_5 : decode cX9_by 5 = .ok (.invokevirtual 175, 3) := by decide +kernel
theorem dX9_by_8 : decode cX9_by 8 = .ok (.astore 5, 2) := by decide +kernel
theorem dX9_by_10 : decode cX9_by 10 = .ok (.aload 5, 2) := by decide +kernel
theorem dX9_by_12 : decode cX9_by 12 = .ok (.ifnull 31, 3) := by decide +kernel
theorem dX9_by_15 : decode cX9_by 15 = .ok (.iload 4, 2) := by decide +kernel
theorem dX9_by_17 : decode cX9_by 17 = .ok (.ifCond .lt 26, 3) := by decide +kernel
theorem dX9_by_20 : decode cX9_by 20 = .ok (.iload 4, 2) := by decide +kernel
theorem dX9_by_22 : decode cX9_by 22 = .ok (.aload 5, 2) := by decide +kernel
theorem dX9_by_24 : decode cX9_by 24 = .ok (.getfield 178, 3) := by decide +kernel
theorem dX9_by_27 : decode cX9_by 27 = .ok (.getfield 142, 3) := by decide +kernel
theorem dX9_by_30 : decode cX9_by 30 = .ok (.if_icmp .ge 13, 3) := by decide +kernel
theorem dX9_by_33 : decode cX9_by 33 = .ok (.aload_n 0, 1) := by decide +kernel
theorem dX9_by_34 : decode cX9_by 34 = .ok (.iload_n 1, 1) := by decide +kernel
theorem dX9_by_35 : decode cX9_by 35 = .ok (.iload_n 2, 1) := by decide +kernel
theorem dX9_by_36 : decode cX9_by 36 = .ok (.iload_n 3, 1) := by decide +kernel
theorem dX9_by_37 : decode cX9_by 37 = .ok (.invokevirtual 247, 3) := by decide +kernel
theorem dX9_by_40 : decode cX9_by 40 = .ok (.ifCond .ne 5, 3) := by decide +kernel
theorem dX9_by_43 : decode cX9_by 43 = .ok (.iconst (-1), 1) := by decide +kernel
theorem dX9_by_44 : decode cX9_by 44 = .ok (.ireturn, 1) := by decide +kernel
theorem dX9_by_45 : decode cX9_by 45 = .ok (.aload_n 0, 1) := by decide +kernel
theorem dX9_by_46 : decode cX9_by 46 = .ok (.getfield 39, 3) := by decide +kernel
theorem dX9_by_49 : decode cX9_by 49 = .ok (.invokevirtual 251, 3) := by decide +kernel
theorem dX9_by_52 : decode cX9_by 52 = .ok (.iconst 0, 1) := by decide +kernel
theorem dX9_by_53 : decode cX9_by 53 = .ok (.istore 6, 2) := by decide +kernel
theorem dX9_by_55 : decode cX9_by 55 = .ok (.iconst 0, 1) := by decide +kernel
theorem dX9_by_56 : decode cX9_by 56 = .ok (.istore 7, 2) := by decide +kernel
theorem dX9_by_58 : decode cX9_by 58 = .ok (.iload 7, 2) := by decide +kernel
theorem dX9_by_60 : decode cX9_by 60 = .ok (.aload_n 0, 1) := by decide +kernel
theorem dX9_by_61 : decode cX9_by 61 = .ok (.getfield 39, 3) := by decide +kernel
theorem dX9_by_64 : decode cX9_by 64 = .ok (.getfield 254, 3) := by decide +kernel
theorem dX9_by_67 : decode cX9_by 67 = .ok (.if_icmp .ge 26, 3) := by decide +kernel
theorem dX9_by_70 : decode cX9_by 70 = .ok (.aload_n 0, 1) := by decide +kernel
theorem dX9_by_71 : decode cX9_by 71 = .ok (.getfield 39, 3) := by decide +kernel
theorem dX9_by_74 : decode cX9_by 74 = .ok (.iload 7, 2) := by decide +kernel
theorem dX9_by_76 : decode cX9_by 76 = .ok (.invokevirtual 261, 3) := by decide +kernel
theorem dX9_by_79 : decode cX9_by 79 = .ok (.iload 4, 2) := by decide +kernel
theorem dX9_by_81 : decode cX9_by 81 = .ok (.if_icmp .ne 6, 3) := by decide +kernel
theorem dX9_by_84 : decode cX9_by 84 = .ok (.iinc 6 1, 3) := by decide +kernel
theorem dX9_by_87 : decode cX9_by 87 = .ok (.iinc 7 1, 3) := by decide +kernel
theorem dX9_by_90 : decode cX9_by 90 = .ok (.goto (-32), 3) := by decide +kernel
theorem dX9_by_93 : decode cX9_by 93 = .ok (.iload 6, 2) := by decide +kernel
theorem dX9_by_95 : decode cX9_by 95 = .ok (.ireturn, 1) := by decide +kernel
def rmX9_by : Room := { frames := 5, cells := 0, slots := 0, locals := 141 }
set_option maxRecDepth 100000 in
def g_X9_by_87 (th : Nat) (p1 : Int32) (p2 : Int32) (p3 : Int32) (p4 : Int32) (k58 : Int32 → Int32 → MM → Option (Int32 × MM)) (x6 : Int32) (x7 : Int32) (m : MM) : Option (Int32 × MM) :=
  k58 x6 (x7 + 1) m
set_option maxHeartbeats 4000000 in
set_option maxRecDepth 100000 in
theorem s_X9_by_87 {Γ : GX} {E : EX} (C : Cx Γ E cX9_by RX9 8) (hr : Γ.meth.sig.returnType = (some .int)) (hrm : Γ.rm = rmX9_by) (th : Nat) (p1 : Int32) (p2 : Int32) (p3 : Int32) (p4 : Int32) (k58 : Int32 → Int32 → MM → Option (Int32 × MM)) (h58 : ∀ (x6 : Int32) (x7 : Int32) (m : MM), Sm (QM Γ E emI 0 0) Γ E 8 0 0 58 [(0, va_rf (some th)), (1, .int p1), (2, .int p2), (3, .int p3), (4, .int p4), (6, .int x6), (7, .int x7)] [] m (k58 x6 x7 m)) (x6 : Int32) (x7 : Int32) (m : MM) : Sm (QM Γ E emI 0 0) Γ E 8 0 0 87 [(0, va_rf (some th)), (1, .int p1), (2, .int p2), (3, .int p3), (4, .int p4), (6, .int x6), (7, .int x7)] [] m (g_X9_by_87 th p1 p2 p3 p4 k58 x6 x7 m) := by
  unfold g_X9_by_87
  refine z_iinc (v := 1) (L2 := [(7, .int (x7 + 1)), (0, va_rf (some th)), (1, .int p1), (2, .int p2), (3, .int p3), (4, .int p4), (6, .int x6)]) C dX9_by_87 6 rfl (by decide) (by decide) rfl ?_
  refine z_goto (tgt := 58) C dX9_by_90 (by decide) ?_
  exact z_sub [1, 2, 3, 4, 5, 6, 0] rfl (h58 x6 (x7 + 1) m)
set_option maxRecDepth 100000 in
def g_X9_by_58 (th : Nat) (p1 : Int32) (p2 : Int32) (p3 : Int32) (p4 : Int32) (k58 : Int32 → Int32 → MM → Option (Int32 × MM)) (x6 : Int32) (x7 : Int32) (m : MM) : Option (Int32 × MM) :=
  chk (m.K th = 10) (ck m (m.R 1004 th 0) 2 (fun a1 => if (m.I 203 a1 0) ≤ x7 then (some (x6, m)) else (cal (f_X1_ruleOf a1 x7 m) (fun r1 m1 => if r1 = p4 then (g_X9_by_87 th p1 p2 p3 p4 k58 (x6 + 1) x7 m1) else (g_X9_by_87 th p1 p2 p3 p4 k58 x6 x7 m1)))))
set_option maxHeartbeats 4000000 in
set_option maxRecDepth 100000 in
theorem s_X9_by_58 {Γ : GX} {E : EX} (C : Cx Γ E cX9_by RX9 8) (hr : Γ.meth.sig.returnType = (some .int)) (hrm : Γ.rm = rmX9_by) (th : Nat) (p1 : Int32) (p2 : Int32) (p3 : Int32) (p4 : Int32) (k58 : Int32 → Int32 → MM → Option (Int32 × MM)) (h58 : ∀ (x6 : Int32) (x7 : Int32) (m : MM), Sm (QM Γ E emI 0 0) Γ E 8 0 0 58 [(0, va_rf (some th)), (1, .int p1), (2, .int p2), (3, .int p3), (4, .int p4), (6, .int x6), (7, .int x7)] [] m (k58 x6 x7 m)) (x6 : Int32) (x7 : Int32) (m : MM) : Sm (QM Γ E emI 0 0) Γ E 8 0 0 58 [(0, va_rf (some th)), (1, .int p1), (2, .int p2), (3, .int p3), (4, .int p4), (6, .int x6), (7, .int x7)] [] m (g_X9_by_58 th p1 p2 p3 p4 k58 x6 x7 m) := by
  unfold g_X9_by_58
  refine z_iload C dX9_by_58 6 rfl ?_
  refine z_aload_n C dX9_by_60 rfl 0 rfl ?_
  refine z_chk (fun hk1 => ?_)
  refine z_getR C fl_RX9_39 rfl hk1 dX9_by_61 ?_
  refine z_ck (fun a1 hr1 hk2 => ?_)
  refine z_getI C fl_RX9_254 hr1 hk2 dX9_by_64 ?_
  refine z_icmp_ge (tgt := 93) C dX9_by_67 (by decide) (fun c1 => ?_) (fun c1 => ?_)
  · refine z_iload C dX9_by_93 5 rfl ?_
    exact z_iret C hr dX9_by_95
  · refine z_aload_n C dX9_by_70 rfl 0 rfl ?_
    refine z_getR C fl_RX9_39 rfl hk1 dX9_by_71 ?_
    refine z_iload C dX9_by_74 6 rfl ?_
    refine z_cVI [.int x7] [] C mv_RX9_261 (fun r0 m0 h0 => M_X1_ruleOf _ _ _ _ _ _ _ h0) rfl rfl ⟨by rw [hrm]; exact Nat.le_of_ble_eq_true rfl, by rw [hrm]; exact Nat.le_of_ble_eq_true rfl⟩ ⟨by rw [hrm]; exact Nat.le_of_ble_eq_true rfl, by rw [hrm]; exact Nat.le_of_ble_eq_true rfl⟩ hr1 hk2 rfl rfl rfl (Nat.le_of_ble_eq_true rfl) dX9_by_76 (fun r1 m1 => ?_)
    refine z_iload C dX9_by_79 4 rfl ?_
    refine z_icmp_ne (tgt := 87) C dX9_by_81 (by decide) (fun c2 => ?_) (fun c2 => ?_)
    · exact z_sub [0, 1, 2, 3, 4, 5, 6] rfl (s_X9_by_87 C hr hrm th p1 p2 p3 p4 k58 h58 x6 x7 m1)
    · refine z_iinc (v := 1) (L2 := [(6, .int (x6 + 1)), (0, va_rf (some th)), (1, .int p1), (2, .int p2), (3, .int p3), (4, .int p4), (7, .int x7)]) C dX9_by_84 5 rfl (by decide) (by decide) rfl ?_
      exact z_sub [1, 2, 3, 4, 5, 0, 6] rfl (s_X9_by_87 C hr hrm th p1 p2 p3 p4 k58 h58 (x6 + 1) x7 m1)
def l_X9_by_58 (th : Nat) (p1 : Int32) (p2 : Int32) (p3 : Int32) (p4 : Int32) : Nat → Int32 → Int32 → MM → Option (Int32 × MM) := lp (fun _ _ _ => none) (fun k58 => g_X9_by_58 th p1 p2 p3 p4 k58)
theorem t_X9_by_58 {Γ : GX} {E : EX} (C : Cx Γ E cX9_by RX9 8) (hr : Γ.meth.sig.returnType = (some .int)) (hrm : Γ.rm = rmX9_by) (th : Nat) (p1 : Int32) (p2 : Int32) (p3 : Int32) (p4 : Int32) : ∀ (n : Nat) (x6 : Int32) (x7 : Int32) (m : MM), Sm (QM Γ E emI 0 0) Γ E 8 0 0 58 [(0, va_rf (some th)), (1, .int p1), (2, .int p2), (3, .int p3), (4, .int p4), (6, .int x6), (7, .int x7)] [] m (l_X9_by_58 th p1 p2 p3 p4 n x6 x7 m) := by
  intro n
  induction n with
  | zero => intros; exact z_none
  | succ n ih => intro x6 x7 m; exact s_X9_by_58 C hr hrm th p1 p2 p3 p4 (l_X9_by_58 th p1 p2 p3 p4 n) ih x6 x7 m
set_option maxRecDepth 100000 in
def g_X9_by_0 (th : Nat) (p1 : Int32) (p2 : Int32) (p3 : Int32) (p4 : Int32) (m : MM) : Option (Int32 × MM) :=
  chk (m.K th = 10) (ck m (m.R 1000 th 0) 8 (fun a2 => cal (f_X7_lawAt a2 p2 m) (fun r2 m2 => ifn r2 (some ((-1), m2)) (fun a3 => if p4 < 0 then (some ((-1), m2)) else (chk (m2.K a3 = 3) (ck m2 (m2.R 300 a3 0) 7 (fun a4 => if (m2.I 703 a4 0) ≤ p4 then (some ((-1), m2)) else (chk (m2.K th = 10) (cal (f_X9_opened th p1 p2 p3 m2) (fun r3 m3 => if r3 = 0 then (some ((-1), m3)) else (chk (m3.K th = 10) (ck m3 (m3.R 1004 th 0) 2 (fun a5 => cal (f_X1_collect a5 m3) (fun r4 m4 => l_X9_by_58 th p1 p2 p3 p4 FU 0 0 m4))))))))))))))
set_option maxHeartbeats 4000000 in
set_option maxRecDepth 100000 in
theorem s_X9_by_0 {Γ : GX} {E : EX} (C : Cx Γ E cX9_by RX9 8) (hr : Γ.meth.sig.returnType = (some .int)) (hrm : Γ.rm = rmX9_by) (th : Nat) (p1 : Int32) (p2 : Int32) (p3 : Int32) (p4 : Int32) (m : MM) : Sm (QM Γ E emI 0 0) Γ E 8 0 0 0 [(0, va_rf (some th)), (1, .int p1), (2, .int p2), (3, .int p3), (4, .int p4)] [] m (g_X9_by_0 th p1 p2 p3 p4 m) := by
  unfold g_X9_by_0
  refine z_aload_n C dX9_by_0 rfl 0 rfl ?_
  refine z_chk (fun hk3 => ?_)
  refine z_getR C fl_RX9_10 rfl hk3 dX9_by_1 ?_
  refine z_iload_n C dX9_by_4 rfl 2 rfl ?_
  refine z_ck (fun a2 hr2 hk4 => ?_)
  refine z_cVR [.int p2] [] C mv_RX9_175 (fun r0 m0 h0 => M_X7_lawAt _ _ _ _ _ _ _ h0) rfl rfl ⟨by rw [hrm]; exact Nat.le_of_ble_eq_true rfl, by rw [hrm]; exact Nat.le_of_ble_eq_true rfl⟩ ⟨by rw [hrm]; exact Nat.le_of_ble_eq_true rfl, by rw [hrm]; exact Nat.le_of_ble_eq_true rfl⟩ hr2 hk4 rfl rfl rfl (Nat.le_of_ble_eq_true rfl) dX9_by_5 (fun r2 m2 => ?_)
  refine z_astore (i := 5) (L2 := [(5, va_rf r2), (0, va_rf (some th)), (1, .int p1), (2, .int p2), (3, .int p3), (4, .int p4)]) C dX9_by_8 (by decide) rfl ?_
  refine z_aload C dX9_by_10 0 rfl ?_
  refine z_ifnull (tgt := 43) C dX9_by_12 (by decide) (fun hn1 => ?_) (fun a3 ha1 => ?_)
  · refine z_iconst (v := (-1)) C dX9_by_43 (by decide) ?_
    exact z_iret C hr dX9_by_44
  · refine z_iload C dX9_by_15 5 rfl ?_
    refine z_if_lt (tgt := 43) C dX9_by_17 (by decide) (fun c3 => ?_) (fun c3 => ?_)
    · refine z_iconst (v := (-1)) C dX9_by_43 (by decide) ?_
      exact z_iret C hr dX9_by_44
    · refine z_iload C dX9_by_20 5 rfl ?_
      refine z_aload C dX9_by_22 0 rfl ?_
      refine z_chk (fun hk5 => ?_)
      refine z_getR C fl_RX9_178 ha1 hk5 dX9_by_24 ?_
      refine z_ck (fun a4 hr3 hk6 => ?_)
      refine z_getI C fl_RX9_142 hr3 hk6 dX9_by_27 ?_
      refine z_icmp_ge (tgt := 43) C dX9_by_30 (by decide) (fun c4 => ?_) (fun c4 => ?_)
      · refine z_iconst (v := (-1)) C dX9_by_43 (by decide) ?_
        exact z_iret C hr dX9_by_44
      · refine z_aload_n C dX9_by_33 rfl 1 rfl ?_
        refine z_iload_n C dX9_by_34 rfl 2 rfl ?_
        refine z_iload_n C dX9_by_35 rfl 3 rfl ?_
        refine z_iload_n C dX9_by_36 rfl 4 rfl ?_
        refine z_chk (fun hk7 => ?_)
        refine z_cVI [.int p1, .int p2, .int p3] [] C mv_RX9_247 (fun r0 m0 h0 => M_X9_opened _ _ _ _ _ _ _ _ _ h0) rfl rfl ⟨by rw [hrm]; exact Nat.le_of_ble_eq_true rfl, by rw [hrm]; exact Nat.le_of_ble_eq_true rfl⟩ ⟨by rw [hrm]; exact Nat.le_of_ble_eq_true rfl, by rw [hrm]; exact Nat.le_of_ble_eq_true rfl⟩ rfl hk7 rfl rfl rfl (Nat.le_of_ble_eq_true rfl) dX9_by_37 (fun r3 m3 => ?_)
        refine z_if_ne (tgt := 45) C dX9_by_40 (by decide) (fun c5 => ?_) (fun c5 => ?_)
        · refine z_aload_n C dX9_by_45 rfl 1 rfl ?_
          refine z_chk (fun hk8 => ?_)
          refine z_getR C fl_RX9_39 rfl hk8 dX9_by_46 ?_
          refine z_ck (fun a5 hr4 hk9 => ?_)
          refine z_cVV [] [] C mv_RX9_251 (fun r0 m0 h0 => M_X1_collect _ _ _ _ _ _ h0) rfl rfl ⟨by rw [hrm]; exact Nat.le_of_ble_eq_true rfl, by rw [hrm]; exact Nat.le_of_ble_eq_true rfl⟩ ⟨by rw [hrm]; exact Nat.le_of_ble_eq_true rfl, by rw [hrm]; exact Nat.le_of_ble_eq_true rfl⟩ hr4 hk9 rfl rfl rfl (Nat.le_of_ble_eq_true rfl) dX9_by_49 (fun r4 m4 => ?_)
          refine z_iconst (v := 0) C dX9_by_52 (by decide) ?_
          refine z_istore (i := 6) (L2 := [(6, .int 0), (5, va_rf r2), (0, va_rf (some th)), (1, .int p1), (2, .int p2), (3, .int p3), (4, .int p4)]) C dX9_by_53 (by decide) (by simp [cat_rf, cat_i, cat_l, cat_a]) ?_
          refine z_iconst (v := 0) C dX9_by_55 (by decide) ?_
          refine z_istore (i := 7) (L2 := [(7, .int 0), (6, .int 0), (5, va_rf r2), (0, va_rf (some th)), (1, .int p1), (2, .int p2), (3, .int p3), (4, .int p4)]) C dX9_by_56 (by decide) rfl ?_
          exact z_sub [3, 4, 5, 6, 7, 1, 0] rfl (t_X9_by_58 C hr hrm th p1 p2 p3 p4 FU 0 0 m4)
        · refine z_iconst (v := (-1)) C dX9_by_43 (by decide) ?_
          exact z_iret C hr dX9_by_44
def f_X9_by (th : Nat) (p1 : Int32) (p2 : Int32) (p3 : Int32) (p4 : Int32) (m : MM) : Option (Int32 × MM) := g_X9_by_0 th p1 p2 p3 p4 m
theorem M_X9_by (l : Launch) (E : EX) (th : Nat) (p1 : Int32) (p2 : Int32) (p3 : Int32) (p4 : Int32) (m : MM) (r : Int32) (m2 : MM) (h : f_X9_by th p1 p2 p3 p4 m = some (r, m2)) : Met l yX9_by (.code yX9_by cX9_by 8 (some .int) :: TB) rmX9_by (va_Pc [.ref th, .int p1, .int p2, .int p3, .int p4] (St E m)) (QR E (emI r) m2) 0 0 (AA E) :=
  met_of (em := emI) (plainFor_of_name rfl) (Nat.le_of_ble_eq_true rfl) (L0 := [(0, va_rf (some th)), (1, .int p1), (2, .int p2), (3, .int p3), (4, .int p4)]) rfl (fun Γ _ hrm C hr hn => s_X9_by_0 C hr hrm th p1 p2 p3 p4 m) h

theorem dX9_days_0 : decode cX9_days 0 = .ok (.aload_n 0, 1) := by decide +kernel
theorem dX9_days_1 : decode cX9_days 1 = .ok (.getfield 10, 3) := by decide +kernel
theorem dX9_days_4 : decode cX9_days 4 = .ok (.iload_n 1, 1) := by decide +kernel
theorem dX9_days_5 : decode cX9_days 5 = .ok (.invokevirtual 122, 3) := by decide +kernel
theorem dX9_days_8 : decode cX9_days 8 = .ok (.astore 4, 2) := by decide +kernel
theorem dX9_days_10 : decode cX9_days 10 = .ok (.aload_n 0, 1) := by decide +kernel
theorem dX9_days_11 : decode cX9_days 11 = .ok (.getfield 10, 3) := by decide +kernel
theorem dX9_days_14 : decode cX9_days 14 = .ok (.iload_n 2, 1) := by decide +kernel
theorem dX9_days_15 : decode cX9_days 15 = .ok (.invokevirtual 175, 3) := by decide +kernel
theorem dX9_days_18 : decode cX9_days 18 = .ok (.astore 5, 2) := by decide +kernel
theorem dX9_days_20 : decode cX9_days 20 = .ok (.aload 4, 2) := by decide +kernel
theorem dX9_days_22 : decode cX9_days 22 = .ok (.ifnull 8, 3) := by decide +kernel
theorem dX9_days_25 : decode cX9_days 25 = .ok (.aload 5, 2) := by decide +kernel
theorem dX9_days_27 : decode cX9_days 27 = .ok (.ifnonnull 5, 3) := by decide +kernel
theorem dX9_days_30 : decode cX9_days 30 = .ok (.iconst (-1), 1) := by decide +kernel
theorem dX9_days_31 : decode cX9_days 31 = .ok (.ireturn, 1) := by decide +kernel
theorem dX9_days_32 : decode cX9_days 32 = .ok (.iconst 0, 1) := by decide +kernel
theorem dX9_days_33 : decode cX9_days 33 = .ok (.istore 6, 2) := by decide +kernel
theorem dX9_days_35 : decode cX9_days 35 = .ok (.iconst 0, 1) := by decide +kernel
theorem dX9_days_36 : decode cX9_days 36 = .ok (.istore 7, 2) := by decide +kernel
theorem dX9_days_38 : decode cX9_days 38 = .ok (.iconst 0, 1) := by decide +kernel
theorem dX9_days_39 : decode cX9_days 39 = .ok (.istore 8, 2) := by decide +kernel
theorem dX9_days_41 : decode cX9_days 41 = .ok (.iload 8, 2) := by decide +kernel
theorem dX9_days_43 : decode cX9_days 43 = .ok (.sipush 999, 3) := by decide +kernel
theorem dX9_days_46 : decode cX9_days 46 = .ok (.if_icmp .gt 73, 3) := by decide +kernel
theorem dX9_days_49 : decode cX9_days 49 = .ok (.iload 8, 2) := by decide +kernel
theorem dX9_days_51 : decode cX9_days 51 = .ok (.ifCond .eq 13, 3) := by decide +kernel
theorem dX9_days_54 : decode cX9_days 54 = .ok (.aload 4, 2) := by decide +kernel
theorem dX9_days_56 : decode cX9_days 56 = .ok (.iload 8, 2) := by decide +kernel
theorem dX9_days_58 : decode cX9_days 58 = .ok (.invokevirtual 277, 3) := by decide +kernel
theorem dX9_days_61 : decode cX9_days 61 = .ok (.ifCond .eq 25, 3) := by decide +kernel
theorem dX9_days_64 : decode cX9_days 64 = .ok (.aload_n 0, 1) := by decide +kernel
theorem dX9_days_65 : decode cX9_days 65 = .ok (.getfield 30, 3) := by decide +kernel
theorem dX9_days_68 : decode cX9_days 68 = .ok (.aload 4, 2) := by decide +kernel
theorem dX9_days_70 : decode cX9_days 70 = .ok (.aload 5, 2) := by decide +kernel
theorem dX9_days_72 : decode cX9_days 72 = .ok (.iload 8, 2) := by decide +kernel
theorem dX9_days_74 : decode cX9_days 74 = .ok (.invokevirtual 227, 3) := by decide +kernel
theorem dX9_days_77 : decode cX9_days 77 = .ok (.aload_n 0, 1) := by decide +kernel
theorem dX9_days_78 : decode cX9_days 78 = .ok (.getfield 30, 3) := by decide +kernel
theorem dX9_days_81 : decode cX9_days 81 = .ok (.invokevirtual 306, 3) := by decide +kernel
theorem dX9_days_84 : decode cX9_days 84 = .ok (.istore 7, 2) := by decide +kernel
theorem dX9_days_86 : decode cX9_days 86 = .ok (.iload 7, 2) := by decide +kernel
theorem dX9_days_88 : decode cX9_days 88 = .ok (.ifCond .eq 10, 3) := by decide +kernel
theorem dX9_days_91 : decode cX9_days 91 = .ok (.iload_n 3, 1) := by decide +kernel
theorem dX9_days_92 : decode cX9_days 92 = .ok (.ifCond .eq 6, 3) := by decide +kernel
theorem dX9_days_95 : decode cX9_days 95 = .ok (.iload 8, 2) := by decide +kernel
theorem dX9_days_97 : decode cX9_days 97 = .ok (.ireturn, 1) := by decide +kernel
theorem dX9_days_98 : decode cX9_days 98 = .ok (.iload 6, 2) := by decide +kernel
theorem dX9_days_100 : decode cX9_days 100 = .ok (.iload 7, 2) := by decide +kernel
theorem dX9_days_102 : decode cX9_days 102 = .ok (.ifCond .eq 7, 3) := by decide +kernel
theorem dX9_days_105 : decode cX9_days 105 = .ok (.iconst 1, 1) := by decide +kernel
theorem dX9_days_106 : decode cX9_days 106 = .ok (.goto 4, 3) := by decide +kernel
theorem dX9_days_109 : decode cX9_days 109 = .ok (.iconst 0, 1) := by decide +kernel
theorem dX9_days_110 : decode cX9_days 110 = .ok (.iadd, 1) := by decide +kernel
theorem dX9_days_111 : decode cX9_days 111 = .ok (.istore 6, 2) := by decide +kernel
theorem dX9_days_113 : decode cX9_days 113 = .ok (.iinc 8 1, 3) := by decide +kernel
theorem dX9_days_116 : decode cX9_days 116 = .ok (.goto (-75), 3) := by decide +kernel
theorem dX9_days_119 : decode cX9_days 119 = .ok (.iload_n 3, 1) := by decide +kernel
theorem dX9_days_120 : decode cX9_days 120 = .ok (.ifCond .eq 7, 3) := by decide +kernel
theorem dX9_days_123 : decode cX9_days 123 = .ok (.iconst (-1), 1) := by decide +kernel
theorem dX9_days_124 : decode cX9_days 124 = .ok (.goto 5, 3) := by decide +kernel
theorem dX9_days_127 : decode cX9_days 127 = .ok (.iload 6, 2) := by decide +kernel
theorem dX9_days_129 : decode cX9_days 129 = .ok (.ireturn, 1) := by decide +kernel
def rmX9_days : Room := { frames := 6, cells := 0, slots := 0, locals := 163 }
set_option maxRecDepth 100000 in
def g_X9_days_110 (th : Nat) (p1 : Int32) (p2 : Int32) (p3 : Int32) (k41 : Option Nat → Option Nat → Int32 → Int32 → Int32 → MM → Option (Int32 × MM)) (k119 : Int32 → MM → Option (Int32 × MM)) (x4 : Option Nat) (x5 : Option Nat) (x7 : Int32) (x8 : Int32) (s0 : Int32) (s1 : Int32) (m : MM) : Option (Int32 × MM) :=
  bnd (s0 + s1) (fun y1 => k41 x4 x5 y1 x7 (x8 + 1) m)
set_option maxHeartbeats 4000000 in
set_option maxRecDepth 100000 in
theorem s_X9_days_110 {Γ : GX} {E : EX} (C : Cx Γ E cX9_days RX9 9) (hr : Γ.meth.sig.returnType = (some .int)) (hrm : Γ.rm = rmX9_days) (th : Nat) (p1 : Int32) (p2 : Int32) (p3 : Int32) (k41 : Option Nat → Option Nat → Int32 → Int32 → Int32 → MM → Option (Int32 × MM)) (k119 : Int32 → MM → Option (Int32 × MM)) (h41 : ∀ (x4 : Option Nat) (x5 : Option Nat) (x6 : Int32) (x7 : Int32) (x8 : Int32) (m : MM), Sm (QM Γ E emI 0 0) Γ E 9 0 0 41 [(0, va_rf (some th)), (1, .int p1), (2, .int p2), (3, .int p3), (4, va_rf x4), (5, va_rf x5), (6, .int x6), (7, .int x7), (8, .int x8)] [] m (k41 x4 x5 x6 x7 x8 m)) (h119 : ∀ (x6 : Int32) (m : MM), Sm (QM Γ E emI 0 0) Γ E 9 0 0 119 [(0, va_rf (some th)), (1, .int p1), (2, .int p2), (3, .int p3), (6, .int x6)] [] m (k119 x6 m)) (x4 : Option Nat) (x5 : Option Nat) (x7 : Int32) (x8 : Int32) (s0 : Int32) (s1 : Int32) (m : MM) : Sm (QM Γ E emI 0 0) Γ E 9 0 0 110 [(0, va_rf (some th)), (1, .int p1), (2, .int p2), (3, .int p3), (4, va_rf x4), (5, va_rf x5), (7, .int x7), (8, .int x8)] [.int s1, .int s0] m (g_X9_days_110 th p1 p2 p3 k41 k119 x4 x5 x7 x8 s0 s1 m) := by
  unfold g_X9_days_110
  refine z_iadd C dX9_days_110 ?_
  refine z_bndI (fun y1 => ?_)
  refine z_istore (i := 6) (L2 := [(6, .int y1), (0, va_rf (some th)), (1, .int p1), (2, .int p2), (3, .int p3), (4, va_rf x4), (5, va_rf x5), (7, .int x7), (8, .int x8)]) C dX9_days_111 (by decide) (by simp [cat_rf, cat_i, cat_l, cat_a]) ?_
  refine z_iinc (v := 1) (L2 := [(8, .int (x8 + 1)), (6, .int y1), (0, va_rf (some th)), (1, .int p1), (2, .int p2), (3, .int p3), (4, va_rf x4), (5, va_rf x5), (7, .int x7)]) C dX9_days_113 8 rfl (by decide) (by decide) rfl ?_
  refine z_goto (tgt := 41) C dX9_days_116 (by decide) ?_
  exact z_sub [2, 3, 4, 5, 6, 7, 1, 8, 0] rfl (h41 x4 x5 y1 x7 (x8 + 1) m)
set_option maxRecDepth 100000 in
def g_X9_days_98 (th : Nat) (p1 : Int32) (p2 : Int32) (p3 : Int32) (k41 : Option Nat → Option Nat → Int32 → Int32 → Int32 → MM → Option (Int32 × MM)) (k119 : Int32 → MM → Option (Int32 × MM)) (x4 : Option Nat) (x5 : Option Nat) (x6 : Int32) (x7 : Int32) (x8 : Int32) (m : MM) : Option (Int32 × MM) :=
  if x7 = 0 then (g_X9_days_110 th p1 p2 p3 k41 k119 x4 x5 x7 x8 x6 0 m) else (g_X9_days_110 th p1 p2 p3 k41 k119 x4 x5 x7 x8 x6 1 m)
set_option maxHeartbeats 4000000 in
set_option maxRecDepth 100000 in
theorem s_X9_days_98 {Γ : GX} {E : EX} (C : Cx Γ E cX9_days RX9 9) (hr : Γ.meth.sig.returnType = (some .int)) (hrm : Γ.rm = rmX9_days) (th : Nat) (p1 : Int32) (p2 : Int32) (p3 : Int32) (k41 : Option Nat → Option Nat → Int32 → Int32 → Int32 → MM → Option (Int32 × MM)) (k119 : Int32 → MM → Option (Int32 × MM)) (h41 : ∀ (x4 : Option Nat) (x5 : Option Nat) (x6 : Int32) (x7 : Int32) (x8 : Int32) (m : MM), Sm (QM Γ E emI 0 0) Γ E 9 0 0 41 [(0, va_rf (some th)), (1, .int p1), (2, .int p2), (3, .int p3), (4, va_rf x4), (5, va_rf x5), (6, .int x6), (7, .int x7), (8, .int x8)] [] m (k41 x4 x5 x6 x7 x8 m)) (h119 : ∀ (x6 : Int32) (m : MM), Sm (QM Γ E emI 0 0) Γ E 9 0 0 119 [(0, va_rf (some th)), (1, .int p1), (2, .int p2), (3, .int p3), (6, .int x6)] [] m (k119 x6 m)) (x4 : Option Nat) (x5 : Option Nat) (x6 : Int32) (x7 : Int32) (x8 : Int32) (m : MM) : Sm (QM Γ E emI 0 0) Γ E 9 0 0 98 [(0, va_rf (some th)), (1, .int p1), (2, .int p2), (3, .int p3), (4, va_rf x4), (5, va_rf x5), (6, .int x6), (7, .int x7), (8, .int x8)] [] m (g_X9_days_98 th p1 p2 p3 k41 k119 x4 x5 x6 x7 x8 m) := by
  unfold g_X9_days_98
  refine z_iload C dX9_days_98 6 rfl ?_
  refine z_iload C dX9_days_100 7 rfl ?_
  refine z_if_eq (tgt := 109) C dX9_days_102 (by decide) (fun c1 => ?_) (fun c1 => ?_)
  · refine z_iconst (v := 0) C dX9_days_109 (by decide) ?_
    exact z_sub [0, 1, 2, 3, 4, 5, 7, 8] rfl (s_X9_days_110 C hr hrm th p1 p2 p3 k41 k119 h41 h119 x4 x5 x7 x8 x6 0 m)
  · refine z_iconst (v := 1) C dX9_days_105 (by decide) ?_
    refine z_goto (tgt := 110) C dX9_days_106 (by decide) ?_
    exact z_sub [0, 1, 2, 3, 4, 5, 7, 8] rfl (s_X9_days_110 C hr hrm th p1 p2 p3 k41 k119 h41 h119 x4 x5 x7 x8 x6 1 m)
set_option maxRecDepth 100000 in
def g_X9_days_86 (th : Nat) (p1 : Int32) (p2 : Int32) (p3 : Int32) (k41 : Option Nat → Option Nat → Int32 → Int32 → Int32 → MM → Option (Int32 × MM)) (k119 : Int32 → MM → Option (Int32 × MM)) (x4 : Option Nat) (x5 : Option Nat) (x6 : Int32) (x7 : Int32) (x8 : Int32) (m : MM) : Option (Int32 × MM) :=
  if x7 = 0 then (g_X9_days_98 th p1 p2 p3 k41 k119 x4 x5 x6 x7 x8 m) else (if p3 = 0 then (g_X9_days_98 th p1 p2 p3 k41 k119 x4 x5 x6 x7 x8 m) else (some (x8, m)))
set_option maxHeartbeats 4000000 in
set_option maxRecDepth 100000 in
theorem s_X9_days_86 {Γ : GX} {E : EX} (C : Cx Γ E cX9_days RX9 9) (hr : Γ.meth.sig.returnType = (some .int)) (hrm : Γ.rm = rmX9_days) (th : Nat) (p1 : Int32) (p2 : Int32) (p3 : Int32) (k41 : Option Nat → Option Nat → Int32 → Int32 → Int32 → MM → Option (Int32 × MM)) (k119 : Int32 → MM → Option (Int32 × MM)) (h41 : ∀ (x4 : Option Nat) (x5 : Option Nat) (x6 : Int32) (x7 : Int32) (x8 : Int32) (m : MM), Sm (QM Γ E emI 0 0) Γ E 9 0 0 41 [(0, va_rf (some th)), (1, .int p1), (2, .int p2), (3, .int p3), (4, va_rf x4), (5, va_rf x5), (6, .int x6), (7, .int x7), (8, .int x8)] [] m (k41 x4 x5 x6 x7 x8 m)) (h119 : ∀ (x6 : Int32) (m : MM), Sm (QM Γ E emI 0 0) Γ E 9 0 0 119 [(0, va_rf (some th)), (1, .int p1), (2, .int p2), (3, .int p3), (6, .int x6)] [] m (k119 x6 m)) (x4 : Option Nat) (x5 : Option Nat) (x6 : Int32) (x7 : Int32) (x8 : Int32) (m : MM) : Sm (QM Γ E emI 0 0) Γ E 9 0 0 86 [(0, va_rf (some th)), (1, .int p1), (2, .int p2), (3, .int p3), (4, va_rf x4), (5, va_rf x5), (6, .int x6), (7, .int x7), (8, .int x8)] [] m (g_X9_days_86 th p1 p2 p3 k41 k119 x4 x5 x6 x7 x8 m) := by
  unfold g_X9_days_86
  refine z_iload C dX9_days_86 7 rfl ?_
  refine z_if_eq (tgt := 98) C dX9_days_88 (by decide) (fun c2 => ?_) (fun c2 => ?_)
  · exact z_sub [0, 1, 2, 3, 4, 5, 6, 7, 8] rfl (s_X9_days_98 C hr hrm th p1 p2 p3 k41 k119 h41 h119 x4 x5 x6 x7 x8 m)
  · refine z_iload_n C dX9_days_91 rfl 3 rfl ?_
    refine z_if_eq (tgt := 98) C dX9_days_92 (by decide) (fun c3 => ?_) (fun c3 => ?_)
    · exact z_sub [0, 1, 2, 3, 4, 5, 6, 7, 8] rfl (s_X9_days_98 C hr hrm th p1 p2 p3 k41 k119 h41 h119 x4 x5 x6 x7 x8 m)
    · refine z_iload C dX9_days_95 8 rfl ?_
      exact z_iret C hr dX9_days_97
set_option maxRecDepth 100000 in
def g_X9_days_64 (th : Nat) (p1 : Int32) (p2 : Int32) (p3 : Int32) (k41 : Option Nat → Option Nat → Int32 → Int32 → Int32 → MM → Option (Int32 × MM)) (k119 : Int32 → MM → Option (Int32 × MM)) (x4 : Option Nat) (x5 : Option Nat) (x6 : Int32) (x8 : Int32) (m : MM) : Option (Int32 × MM) :=
  chk (m.K th = 10) (ck m (m.R 1003 th 0) 6 (fun a1 => cal (f_X5_open a1 x4 x5 x8 m) (fun r1 m1 => chk (m1.K th = 10) (ck m1 (m1.R 1003 th 0) 6 (fun a2 => cal (f_X5_findFoes a2 m1) (fun r2 m2 => g_X9_days_86 th p1 p2 p3 k41 k119 x4 x5 x6 r2 x8 m2))))))
set_option maxHeartbeats 4000000 in
set_option maxRecDepth 100000 in
theorem s_X9_days_64 {Γ : GX} {E : EX} (C : Cx Γ E cX9_days RX9 9) (hr : Γ.meth.sig.returnType = (some .int)) (hrm : Γ.rm = rmX9_days) (th : Nat) (p1 : Int32) (p2 : Int32) (p3 : Int32) (k41 : Option Nat → Option Nat → Int32 → Int32 → Int32 → MM → Option (Int32 × MM)) (k119 : Int32 → MM → Option (Int32 × MM)) (h41 : ∀ (x4 : Option Nat) (x5 : Option Nat) (x6 : Int32) (x7 : Int32) (x8 : Int32) (m : MM), Sm (QM Γ E emI 0 0) Γ E 9 0 0 41 [(0, va_rf (some th)), (1, .int p1), (2, .int p2), (3, .int p3), (4, va_rf x4), (5, va_rf x5), (6, .int x6), (7, .int x7), (8, .int x8)] [] m (k41 x4 x5 x6 x7 x8 m)) (h119 : ∀ (x6 : Int32) (m : MM), Sm (QM Γ E emI 0 0) Γ E 9 0 0 119 [(0, va_rf (some th)), (1, .int p1), (2, .int p2), (3, .int p3), (6, .int x6)] [] m (k119 x6 m)) (x4 : Option Nat) (x5 : Option Nat) (x6 : Int32) (x8 : Int32) (m : MM) : Sm (QM Γ E emI 0 0) Γ E 9 0 0 64 [(0, va_rf (some th)), (1, .int p1), (2, .int p2), (3, .int p3), (4, va_rf x4), (5, va_rf x5), (6, .int x6), (8, .int x8)] [] m (g_X9_days_64 th p1 p2 p3 k41 k119 x4 x5 x6 x8 m) := by
  unfold g_X9_days_64
  refine z_aload_n C dX9_days_64 rfl 0 rfl ?_
  refine z_chk (fun hk1 => ?_)
  refine z_getR C fl_RX9_30 rfl hk1 dX9_days_65 ?_
  refine z_aload C dX9_days_68 4 rfl ?_
  refine z_aload C dX9_days_70 5 rfl ?_
  refine z_iload C dX9_days_72 7 rfl ?_
  refine z_ck (fun a1 hr1 hk2 => ?_)
  refine z_cVV [va_rf x4, va_rf x5, .int x8] [] C mv_RX9_227 (fun r0 m0 h0 => M_X5_open _ _ _ _ _ _ _ _ _ h0) rfl rfl ⟨by rw [hrm]; exact Nat.le_of_ble_eq_true rfl, by rw [hrm]; exact Nat.le_of_ble_eq_true rfl⟩ ⟨by rw [hrm]; exact Nat.le_of_ble_eq_true rfl, by rw [hrm]; exact Nat.le_of_ble_eq_true rfl⟩ hr1 hk2 rfl rfl rfl (Nat.le_of_ble_eq_true rfl) dX9_days_74 (fun r1 m1 => ?_)
  refine z_aload_n C dX9_days_77 rfl 0 rfl ?_
  refine z_chk (fun hk3 => ?_)
  refine z_getR C fl_RX9_30 rfl hk3 dX9_days_78 ?_
  refine z_ck (fun a2 hr2 hk4 => ?_)
  refine z_cVI [] [] C mv_RX9_306 (fun r0 m0 h0 => M_X5_findFoes _ _ _ _ _ _ h0) rfl rfl ⟨by rw [hrm]; exact Nat.le_of_ble_eq_true rfl, by rw [hrm]; exact Nat.le_of_ble_eq_true rfl⟩ ⟨by rw [hrm]; exact Nat.le_of_ble_eq_true rfl, by rw [hrm]; exact Nat.le_of_ble_eq_true rfl⟩ hr2 hk4 rfl rfl rfl (Nat.le_of_ble_eq_true rfl) dX9_days_81 (fun r2 m2 => ?_)
  refine z_istore (i := 7) (L2 := [(7, .int r2), (0, va_rf (some th)), (1, .int p1), (2, .int p2), (3, .int p3), (4, va_rf x4), (5, va_rf x5), (6, .int x6), (8, .int x8)]) C dX9_days_84 (by decide) rfl ?_
  exact z_sub [1, 2, 3, 4, 5, 6, 7, 0, 8] rfl (s_X9_days_86 C hr hrm th p1 p2 p3 k41 k119 h41 h119 x4 x5 x6 r2 x8 m2)
set_option maxRecDepth 100000 in
def g_X9_days_41 (th : Nat) (p1 : Int32) (p2 : Int32) (p3 : Int32) (k41 : Option Nat → Option Nat → Int32 → Int32 → Int32 → MM → Option (Int32 × MM)) (k119 : Int32 → MM → Option (Int32 × MM)) (x4 : Option Nat) (x5 : Option Nat) (x6 : Int32) (x7 : Int32) (x8 : Int32) (m : MM) : Option (Int32 × MM) :=
  if 999 < x8 then (k119 x6 m) else (if x8 = 0 then (g_X9_days_64 th p1 p2 p3 k41 k119 x4 x5 x6 x8 m) else (ck m x4 9 (fun a3 => cal (f_X8_changesOn a3 x8 m) (fun r3 m3 => if r3 = 0 then (g_X9_days_86 th p1 p2 p3 k41 k119 x4 x5 x6 x7 x8 m3) else (g_X9_days_64 th p1 p2 p3 k41 k119 x4 x5 x6 x8 m3)))))
set_option maxHeartbeats 4000000 in
set_option maxRecDepth 100000 in
theorem s_X9_days_41 {Γ : GX} {E : EX} (C : Cx Γ E cX9_days RX9 9) (hr : Γ.meth.sig.returnType = (some .int)) (hrm : Γ.rm = rmX9_days) (th : Nat) (p1 : Int32) (p2 : Int32) (p3 : Int32) (k41 : Option Nat → Option Nat → Int32 → Int32 → Int32 → MM → Option (Int32 × MM)) (k119 : Int32 → MM → Option (Int32 × MM)) (h41 : ∀ (x4 : Option Nat) (x5 : Option Nat) (x6 : Int32) (x7 : Int32) (x8 : Int32) (m : MM), Sm (QM Γ E emI 0 0) Γ E 9 0 0 41 [(0, va_rf (some th)), (1, .int p1), (2, .int p2), (3, .int p3), (4, va_rf x4), (5, va_rf x5), (6, .int x6), (7, .int x7), (8, .int x8)] [] m (k41 x4 x5 x6 x7 x8 m)) (h119 : ∀ (x6 : Int32) (m : MM), Sm (QM Γ E emI 0 0) Γ E 9 0 0 119 [(0, va_rf (some th)), (1, .int p1), (2, .int p2), (3, .int p3), (6, .int x6)] [] m (k119 x6 m)) (x4 : Option Nat) (x5 : Option Nat) (x6 : Int32) (x7 : Int32) (x8 : Int32) (m : MM) : Sm (QM Γ E emI 0 0) Γ E 9 0 0 41 [(0, va_rf (some th)), (1, .int p1), (2, .int p2), (3, .int p3), (4, va_rf x4), (5, va_rf x5), (6, .int x6), (7, .int x7), (8, .int x8)] [] m (g_X9_days_41 th p1 p2 p3 k41 k119 x4 x5 x6 x7 x8 m) := by
  unfold g_X9_days_41
  refine z_iload C dX9_days_41 8 rfl ?_
  refine z_sipush (v := 999) C dX9_days_43 (by decide) ?_
  refine z_icmp_gt (tgt := 119) C dX9_days_46 (by decide) (fun c4 => ?_) (fun c4 => ?_)
  · exact z_sub [0, 1, 2, 3, 6] rfl (h119 x6 m)
  · refine z_iload C dX9_days_49 8 rfl ?_
    refine z_if_eq (tgt := 64) C dX9_days_51 (by decide) (fun c5 => ?_) (fun c5 => ?_)
    · exact z_sub [0, 1, 2, 3, 4, 5, 6, 8] rfl (s_X9_days_64 C hr hrm th p1 p2 p3 k41 k119 h41 h119 x4 x5 x6 x8 m)
    · refine z_aload C dX9_days_54 4 rfl ?_
      refine z_iload C dX9_days_56 8 rfl ?_
      refine z_ck (fun a3 hr3 hk5 => ?_)
      refine z_cVI [.int x8] [] C mv_RX9_277 (fun r0 m0 h0 => M_X8_changesOn _ _ _ _ _ _ _ h0) rfl rfl ⟨by rw [hrm]; exact Nat.le_of_ble_eq_true rfl, by rw [hrm]; exact Nat.le_of_ble_eq_true rfl⟩ ⟨by rw [hrm]; exact Nat.le_of_ble_eq_true rfl, by rw [hrm]; exact Nat.le_of_ble_eq_true rfl⟩ hr3 hk5 rfl rfl rfl (Nat.le_of_ble_eq_true rfl) dX9_days_58 (fun r3 m3 => ?_)
      refine z_if_eq (tgt := 86) C dX9_days_61 (by decide) (fun c6 => ?_) (fun c6 => ?_)
      · exact z_sub [0, 1, 2, 3, 4, 5, 6, 7, 8] rfl (s_X9_days_86 C hr hrm th p1 p2 p3 k41 k119 h41 h119 x4 x5 x6 x7 x8 m3)
      · exact z_sub [0, 1, 2, 3, 4, 5, 6, 8] rfl (s_X9_days_64 C hr hrm th p1 p2 p3 k41 k119 h41 h119 x4 x5 x6 x8 m3)
def l_X9_days_41 (th : Nat) (p1 : Int32) (p2 : Int32) (p3 : Int32) (k119 : Int32 → MM → Option (Int32 × MM)) : Nat → Option Nat → Option Nat → Int32 → Int32 → Int32 → MM → Option (Int32 × MM) := lp (fun _ _ _ _ _ _ => none) (fun k41 => g_X9_days_41 th p1 p2 p3 k41 k119)
theorem t_X9_days_41 {Γ : GX} {E : EX} (C : Cx Γ E cX9_days RX9 9) (hr : Γ.meth.sig.returnType = (some .int)) (hrm : Γ.rm = rmX9_days) (th : Nat) (p1 : Int32) (p2 : Int32) (p3 : Int32) (k119 : Int32 → MM → Option (Int32 × MM)) (h119 : ∀ (x6 : Int32) (m : MM), Sm (QM Γ E emI 0 0) Γ E 9 0 0 119 [(0, va_rf (some th)), (1, .int p1), (2, .int p2), (3, .int p3), (6, .int x6)] [] m (k119 x6 m)) : ∀ (n : Nat) (x4 : Option Nat) (x5 : Option Nat) (x6 : Int32) (x7 : Int32) (x8 : Int32) (m : MM), Sm (QM Γ E emI 0 0) Γ E 9 0 0 41 [(0, va_rf (some th)), (1, .int p1), (2, .int p2), (3, .int p3), (4, va_rf x4), (5, va_rf x5), (6, .int x6), (7, .int x7), (8, .int x8)] [] m (l_X9_days_41 th p1 p2 p3 k119 n x4 x5 x6 x7 x8 m) := by
  intro n
  induction n with
  | zero => intros; exact z_none
  | succ n ih => intro x4 x5 x6 x7 x8 m; exact s_X9_days_41 C hr hrm th p1 p2 p3 (l_X9_days_41 th p1 p2 p3 k119 n) k119 ih h119 x4 x5 x6 x7 x8 m
set_option maxRecDepth 100000 in
def g_X9_days_119 (th : Nat) (p1 : Int32) (p2 : Int32) (p3 : Int32) (x6 : Int32) (m : MM) : Option (Int32 × MM) :=
  if p3 = 0 then (some (x6, m)) else (some ((-1), m))
set_option maxHeartbeats 4000000 in
set_option maxRecDepth 100000 in
theorem s_X9_days_119 {Γ : GX} {E : EX} (C : Cx Γ E cX9_days RX9 9) (hr : Γ.meth.sig.returnType = (some .int)) (hrm : Γ.rm = rmX9_days) (th : Nat) (p1 : Int32) (p2 : Int32) (p3 : Int32) (x6 : Int32) (m : MM) : Sm (QM Γ E emI 0 0) Γ E 9 0 0 119 [(0, va_rf (some th)), (1, .int p1), (2, .int p2), (3, .int p3), (6, .int x6)] [] m (g_X9_days_119 th p1 p2 p3 x6 m) := by
  unfold g_X9_days_119
  refine z_iload_n C dX9_days_119 rfl 3 rfl ?_
  refine z_if_eq (tgt := 127) C dX9_days_120 (by decide) (fun c7 => ?_) (fun c7 => ?_)
  · refine z_iload C dX9_days_127 4 rfl ?_
    exact z_iret C hr dX9_days_129
  · refine z_iconst (v := (-1)) C dX9_days_123 (by decide) ?_
    refine z_goto (tgt := 129) C dX9_days_124 (by decide) ?_
    exact z_iret C hr dX9_days_129
set_option maxRecDepth 100000 in
def g_X9_days_0 (th : Nat) (p1 : Int32) (p2 : Int32) (p3 : Int32) (m : MM) : Option (Int32 × MM) :=
  chk (m.K th = 10) (ck m (m.R 1000 th 0) 8 (fun a4 => cal (f_X7_townAt a4 p1 m) (fun r4 m4 => chk (m4.K th = 10) (ck m4 (m4.R 1000 th 0) 8 (fun a5 => cal (f_X7_lawAt a5 p2 m4) (fun r5 m5 => ifn r4 (some ((-1), m5)) (fun a6 => ifn r5 (some ((-1), m5)) (fun a7 => l_X9_days_41 th p1 p2 p3 (g_X9_days_119 th p1 p2 p3) FU r4 r5 0 0 0 m5))))))))
set_option maxHeartbeats 4000000 in
set_option maxRecDepth 100000 in
theorem s_X9_days_0 {Γ : GX} {E : EX} (C : Cx Γ E cX9_days RX9 9) (hr : Γ.meth.sig.returnType = (some .int)) (hrm : Γ.rm = rmX9_days) (th : Nat) (p1 : Int32) (p2 : Int32) (p3 : Int32) (m : MM) : Sm (QM Γ E emI 0 0) Γ E 9 0 0 0 [(0, va_rf (some th)), (1, .int p1), (2, .int p2), (3, .int p3)] [] m (g_X9_days_0 th p1 p2 p3 m) := by
  unfold g_X9_days_0
  refine z_aload_n C dX9_days_0 rfl 0 rfl ?_
  refine z_chk (fun hk6 => ?_)
  refine z_getR C fl_RX9_10 rfl hk6 dX9_days_1 ?_
  refine z_iload_n C dX9_days_4 rfl 1 rfl ?_
  refine z_ck (fun a4 hr4 hk7 => ?_)
  refine z_cVR [.int p1] [] C mv_RX9_122 (fun r0 m0 h0 => M_X7_townAt _ _ _ _ _ _ _ h0) rfl rfl ⟨by rw [hrm]; exact Nat.le_of_ble_eq_true rfl, by rw [hrm]; exact Nat.le_of_ble_eq_true rfl⟩ ⟨by rw [hrm]; exact Nat.le_of_ble_eq_true rfl, by rw [hrm]; exact Nat.le_of_ble_eq_true rfl⟩ hr4 hk7 rfl rfl rfl (Nat.le_of_ble_eq_true rfl) dX9_days_5 (fun r4 m4 => ?_)
  refine z_astore (i := 4) (L2 := [(4, va_rf r4), (0, va_rf (some th)), (1, .int p1), (2, .int p2), (3, .int p3)]) C dX9_days_8 (by decide) rfl ?_
  refine z_aload_n C dX9_days_10 rfl 1 rfl ?_
  refine z_chk (fun hk8 => ?_)
  refine z_getR C fl_RX9_10 rfl hk8 dX9_days_11 ?_
  refine z_iload_n C dX9_days_14 rfl 3 rfl ?_
  refine z_ck (fun a5 hr5 hk9 => ?_)
  refine z_cVR [.int p2] [] C mv_RX9_175 (fun r0 m0 h0 => M_X7_lawAt _ _ _ _ _ _ _ h0) rfl rfl ⟨by rw [hrm]; exact Nat.le_of_ble_eq_true rfl, by rw [hrm]; exact Nat.le_of_ble_eq_true rfl⟩ ⟨by rw [hrm]; exact Nat.le_of_ble_eq_true rfl, by rw [hrm]; exact Nat.le_of_ble_eq_true rfl⟩ hr5 hk9 rfl rfl rfl (Nat.le_of_ble_eq_true rfl) dX9_days_15 (fun r5 m5 => ?_)
  refine z_astore (i := 5) (L2 := [(5, va_rf r5), (4, va_rf r4), (0, va_rf (some th)), (1, .int p1), (2, .int p2), (3, .int p3)]) C dX9_days_18 (by decide) (by simp [cat_rf, cat_i, cat_l, cat_a]) ?_
  refine z_aload C dX9_days_20 1 rfl ?_
  refine z_ifnull (tgt := 30) C dX9_days_22 (by decide) (fun hn1 => ?_) (fun a6 ha1 => ?_)
  · refine z_iconst (v := (-1)) C dX9_days_30 (by decide) ?_
    exact z_iret C hr dX9_days_31
  · refine z_aload C dX9_days_25 0 rfl ?_
    refine z_ifnonnull (tgt := 32) C dX9_days_27 (by decide) (fun a7 ha2 => ?_) (fun hn2 => ?_)
    · refine z_iconst (v := 0) C dX9_days_32 (by decide) ?_
      refine z_istore (i := 6) (L2 := [(6, .int 0), (5, va_rf r5), (4, va_rf r4), (0, va_rf (some th)), (1, .int p1), (2, .int p2), (3, .int p3)]) C dX9_days_33 (by decide) (by simp [cat_rf, cat_i, cat_l, cat_a]) ?_
      refine z_iconst (v := 0) C dX9_days_35 (by decide) ?_
      refine z_istore (i := 7) (L2 := [(7, .int 0), (6, .int 0), (5, va_rf r5), (4, va_rf r4), (0, va_rf (some th)), (1, .int p1), (2, .int p2), (3, .int p3)]) C dX9_days_36 (by decide) rfl ?_
      refine z_iconst (v := 0) C dX9_days_38 (by decide) ?_
      refine z_istore (i := 8) (L2 := [(8, .int 0), (7, .int 0), (6, .int 0), (5, va_rf r5), (4, va_rf r4), (0, va_rf (some th)), (1, .int p1), (2, .int p2), (3, .int p3)]) C dX9_days_39 (by decide) rfl ?_
      exact z_sub [5, 6, 7, 8, 4, 3, 2, 1, 0] rfl (t_X9_days_41 C hr hrm th p1 p2 p3 (g_X9_days_119 th p1 p2 p3) (s_X9_days_119 C hr hrm th p1 p2 p3) FU r4 r5 0 0 0 m5)
    · refine z_iconst (v := (-1)) C dX9_days_30 (by decide) ?_
      exact z_iret C hr dX9_days_31
def f_X9_days (th : Nat) (p1 : Int32) (p2 : Int32) (p3 : Int32) (m : MM) : Option (Int32 × MM) := g_X9_days_0 th p1 p2 p3 m
theorem M_X9_days (l : Launch) (E : EX) (th : Nat) (p1 : Int32) (p2 : Int32) (p3 : Int32) (m : MM) (r : Int32) (m2 : MM) (h : f_X9_days th p1 p2 p3 m = some (r, m2)) : Met l yX9_days (.code yX9_days cX9_days 9 (some .int) :: TB) rmX9_days (va_Pc [.ref th, .int p1, .int p2, .int p3] (St E m)) (QR E (emI r) m2) 0 0 (AA E) :=
  met_of (em := emI) (plainFor_of_name rfl) (Nat.le_of_ble_eq_true rfl) (L0 := [(0, va_rf (some th)), (1, .int p1), (2, .int p2), (3, .int p3)]) rfl (fun Γ _ hrm C hr hn => s_X9_days_0 C hr hrm th p1 p2 p3 m) h

theorem dX9_feud_0 : decode cX9_feud 0 = .ok (.iload 4, 2) := by decide +kernel
theorem dX9_feud_2 : decode cX9_feud 2 = .ok (.invokestatic 198, 3) := by decide +kernel
theorem dX9_feud_5 : decode cX9_feud 5 = .ok (.ifCond .eq 21, 3) := by decide +kernel
theorem dX9_feud_8 : decode cX9_feud 8 = .ok (.iload 5, 2) := by decide +kernel
theorem dX9_feud_10 : decode cX9_feud 10 = .ok (.invokestatic 198, 3) := by decide +kernel
theorem dX9_feud_13 : decode cX9_feud 13 = .ok (.ifCond .eq 13, 3) := by decide +kernel
theorem dX9_feud_16 : decode cX9_feud 16 = .ok (.aload_n 0, 1) := by decide +kernel
theorem dX9_feud_17 : decode cX9_feud 17 = .ok (.iload_n 1, 1) := by decide +kernel
theorem dX9_feud_18 : decode cX9_feud 18 = .ok (.iload_n 2, 1) := by decide +kernel
theorem dX9_feud_19 : decode cX9_feud 19 = .ok (.iload_n 3, 1) := by decide +kernel
theorem dX9_feud_20 : decode cX9_feud 20 = .ok (.invokevirtual 247, 3) := by decide +kernel
theorem dX9_feud_23 : decode cX9_feud 23 = .ok (.ifCond .ne 5, 3) := by decide +kernel
theorem dX9_feud_26 : decode cX9_feud 26 = .ok (.iconst (-1), 1) := by decide +kernel
theorem dX9_feud_27 : decode cX9_feud 27 = .ok (.ireturn, 1) := by decide +kernel
theorem dX9_feud_28 : decode cX9_feud 28 = .ok (.aload_n 0, 1) := by decide +kernel
theorem dX9_feud_29 : decode cX9_feud 29 = .ok (.getfield 39, 3) := by decide +kernel
theorem dX9_feud_32 : decode cX9_feud 32 = .ok (.invokevirtual 251, 3) := by decide +kernel
theorem dX9_feud_35 : decode cX9_feud 35 = .ok (.iconst 0, 1) := by decide +kernel
theorem dX9_feud_36 : decode cX9_feud 36 = .ok (.istore 6, 2) := by decide +kernel
theorem dX9_feud_38 : decode cX9_feud 38 = .ok (.iconst 0, 1) := by decide +kernel
theorem dX9_feud_39 : decode cX9_feud 39 = .ok (.istore 7, 2) := by decide +kernel
theorem dX9_feud_41 : decode cX9_feud 41 = .ok (.iload 7, 2) := by decide +kernel
theorem dX9_feud_43 : decode cX9_feud 43 = .ok (.aload_n 0, 1) := by decide +kernel
theorem dX9_feud_44 : decode cX9_feud 44 = .ok (.getfield 39, 3) := by decide +kernel
theorem dX9_feud_47 : decode cX9_feud 47 = .ok (.getfield 254, 3) := by decide +kernel
theorem dX9_feud_50 : decode cX9_feud 50 = .ok (.if_icmp .ge 78, 3) := by decide +kernel
theorem dX9_feud_53 : decode cX9_feud 53 = .ok (.aload_n 0, 1) := by decide +kernel
theorem dX9_feud_54 : decode cX9_feud 54 = .ok (.getfield 30, 3) := by decide +kernel
theorem dX9_feud_57 : decode cX9_feud 57 = .ok (.aload_n 0, 1) := by decide +kernel
theorem dX9_feud_58 : decode cX9_feud 58 = .ok (.getfield 39, 3) := by decide +kernel
theorem dX9_feud_61 : decode cX9_feud 61 = .ok (.iload 7, 2) := by decide +kernel
theorem dX9_feud_63 : decode cX9_feud 63 = .ok (.invokevirtual 255, 3) := by decide +kernel
theorem dX9_feud_66 : decode cX9_feud 66 = .ok (.iconst 3, 1) := by decide +kernel
theorem dX9_feud_67 : decode cX9_feud 67 = .ok (.invokevirtual 274, 3) := by decide +kernel
theorem dX9_feud_70 : decode cX9_feud 70 = .ok (.istore 8, 2) := by decide +kernel
theorem dX9_feud_72 : decode cX9_feud 72 = .ok (.aload_n 0, 1) := by decide +kernel
theorem dX9_feud_73 : decode cX9_feud 73 = .ok (.getfield 30, 3) := by decide +kernel
theorem dX9_feud_76 : decode cX9_feud 76 = .ok (.aload_n 0, 1) := by decide +kernel
theorem dX9_feud_77 : decode cX9_feud 77 = .ok (.getfield 39, 3) := by decide +kernel
theorem dX9_feud_80 : decode cX9_feud 80 = .ok (.iload 7, 2) := by decide +kernel
theorem dX9_feud_82 : decode cX9_feud 82 = .ok (.invokevirtual 258, 3) := by decide +kernel
theorem dX9_feud_85 : decode cX9_feud 85 = .ok (.iconst 3, 1) := by decide +kernel
theorem dX9_feud_86 : decode cX9_feud 86 = .ok (.invokevirtual 274, 3) := by decide +kernel
theorem dX9_feud_89 : decode cX9_feud 89 = .ok (.istore 9, 2) := by decide +kernel
theorem dX9_feud_91 : decode cX9_feud 91 = .ok (.iload 8, 2) := by decide +kernel
theorem dX9_feud_93 : decode cX9_feud 93 = .ok (.iload 4, 2) := by decide +kernel
theorem dX9_feud_95 : decode cX9_feud 95 = .ok (.if_icmp .ne 10, 3) := by decide +kernel
theorem dX9_feud_98 : decode cX9_feud 98 = .ok (.iload 9, 2) := by decide +kernel
theorem dX9_feud_100 : decode cX9_feud 100 = .ok (.iload 5, 2) := by decide +kernel
theorem dX9_feud_102 : decode cX9_feud 102 = .ok (.if_icmp .eq 17, 3) := by decide +kernel
theorem dX9_feud_105 : decode cX9_feud 105 = .ok (.iload 8, 2) := by decide +kernel
theorem dX9_feud_107 : decode cX9_feud 107 = .ok (.iload 5, 2) := by decide +kernel
theorem dX9_feud_109 : decode cX9_feud 109 = .ok (.if_icmp .ne 13, 3) := by decide +kernel
theorem dX9_feud_112 : decode cX9_feud 112 = .ok (.iload 9, 2) := by decide +kernel
theorem dX9_feud_114 : decode cX9_feud 114 = .ok (.iload 4, 2) := by decide +kernel
theorem dX9_feud_116 : decode cX9_feud 116 = .ok (.if_icmp .ne 6, 3) := by decide +kernel
theorem dX9_feud_119 : decode cX9_feud 119 = .ok (.iinc 6 1, 3) := by decide +kernel
theorem dX9_feud_122 : decode cX9_feud 122 = .ok (.iinc 7 1, 3) := by decide +kernel
theorem dX9_feud_125 : decode cX9_feud 125 = .ok (.goto (-84), 3) := by decide +kernel
theorem dX9_feud_128 : decode cX9_feud 128 = .ok (.iload 6, 2) := by decide +kernel
theorem dX9_feud_130 : decode cX9_feud 130 = .ok (.ireturn, 1) := by decide +kernel
def rmX9_feud : Room := { frames := 5, cells := 0, slots := 0, locals := 141 }
set_option maxRecDepth 100000 in
def g_X9_feud_122 (th : Nat) (p1 : Int32) (p2 : Int32) (p3 : Int32) (p4 : Int32) (p5 : Int32) (k41 : Int32 → Int32 → MM → Option (Int32 × MM)) (x6 : Int32) (x7 : Int32) (m : MM) : Option (Int32 × MM) :=
  k41 x6 (x7 + 1) m
set_option maxHeartbeats 4000000 in
set_option maxRecDepth 100000 in
theorem s_X9_feud_122 {Γ : GX} {E : EX} (C : Cx Γ E cX9_feud RX9 10) (hr : Γ.meth.sig.returnType = (some .int)) (hrm : Γ.rm = rmX9_feud) (th : Nat) (p1 : Int32) (p2 : Int32) (p3 : Int32) (p4 : Int32) (p5 : Int32) (k41 : Int32 → Int32 → MM → Option (Int32 × MM)) (h41 : ∀ (x6 : Int32) (x7 : Int32) (m : MM), Sm (QM Γ E emI 0 0) Γ E 10 0 0 41 [(0, va_rf (some th)), (1, .int p1), (2, .int p2), (3, .int p3), (4, .int p4), (5, .int p5), (6, .int x6), (7, .int x7)] [] m (k41 x6 x7 m)) (x6 : Int32) (x7 : Int32) (m : MM) : Sm (QM Γ E emI 0 0) Γ E 10 0 0 122 [(0, va_rf (some th)), (1, .int p1), (2, .int p2), (3, .int p3), (4, .int p4), (5, .int p5), (6, .int x6), (7, .int x7)] [] m (g_X9_feud_122 th p1 p2 p3 p4 p5 k41 x6 x7 m) := by
  unfold g_X9_feud_122
  refine z_iinc (v := 1) (L2 := [(7, .int (x7 + 1)), (0, va_rf (some th)), (1, .int p1), (2, .int p2), (3, .int p3), (4, .int p4), (5, .int p5), (6, .int x6)]) C dX9_feud_122 7 rfl (by decide) (by decide) rfl ?_
  refine z_goto (tgt := 41) C dX9_feud_125 (by decide) ?_
  exact z_sub [1, 2, 3, 4, 5, 6, 7, 0] rfl (h41 x6 (x7 + 1) m)
set_option maxRecDepth 100000 in
def g_X9_feud_119 (th : Nat) (p1 : Int32) (p2 : Int32) (p3 : Int32) (p4 : Int32) (p5 : Int32) (k41 : Int32 → Int32 → MM → Option (Int32 × MM)) (x6 : Int32) (x7 : Int32) (m : MM) : Option (Int32 × MM) :=
  g_X9_feud_122 th p1 p2 p3 p4 p5 k41 (x6 + 1) x7 m
set_option maxHeartbeats 4000000 in
set_option maxRecDepth 100000 in
theorem s_X9_feud_119 {Γ : GX} {E : EX} (C : Cx Γ E cX9_feud RX9 10) (hr : Γ.meth.sig.returnType = (some .int)) (hrm : Γ.rm = rmX9_feud) (th : Nat) (p1 : Int32) (p2 : Int32) (p3 : Int32) (p4 : Int32) (p5 : Int32) (k41 : Int32 → Int32 → MM → Option (Int32 × MM)) (h41 : ∀ (x6 : Int32) (x7 : Int32) (m : MM), Sm (QM Γ E emI 0 0) Γ E 10 0 0 41 [(0, va_rf (some th)), (1, .int p1), (2, .int p2), (3, .int p3), (4, .int p4), (5, .int p5), (6, .int x6), (7, .int x7)] [] m (k41 x6 x7 m)) (x6 : Int32) (x7 : Int32) (m : MM) : Sm (QM Γ E emI 0 0) Γ E 10 0 0 119 [(0, va_rf (some th)), (1, .int p1), (2, .int p2), (3, .int p3), (4, .int p4), (5, .int p5), (6, .int x6), (7, .int x7)] [] m (g_X9_feud_119 th p1 p2 p3 p4 p5 k41 x6 x7 m) := by
  unfold g_X9_feud_119
  refine z_iinc (v := 1) (L2 := [(6, .int (x6 + 1)), (0, va_rf (some th)), (1, .int p1), (2, .int p2), (3, .int p3), (4, .int p4), (5, .int p5), (7, .int x7)]) C dX9_feud_119 6 rfl (by decide) (by decide) rfl ?_
  exact z_sub [1, 2, 3, 4, 5, 6, 0, 7] rfl (s_X9_feud_122 C hr hrm th p1 p2 p3 p4 p5 k41 h41 (x6 + 1) x7 m)
set_option maxRecDepth 100000 in
def g_X9_feud_105 (th : Nat) (p1 : Int32) (p2 : Int32) (p3 : Int32) (p4 : Int32) (p5 : Int32) (k41 : Int32 → Int32 → MM → Option (Int32 × MM)) (x6 : Int32) (x7 : Int32) (x8 : Int32) (x9 : Int32) (m : MM) : Option (Int32 × MM) :=
  if x8 = p5 then (if x9 = p4 then (g_X9_feud_119 th p1 p2 p3 p4 p5 k41 x6 x7 m) else (g_X9_feud_122 th p1 p2 p3 p4 p5 k41 x6 x7 m)) else (g_X9_feud_122 th p1 p2 p3 p4 p5 k41 x6 x7 m)
set_option maxHeartbeats 4000000 in
set_option maxRecDepth 100000 in
theorem s_X9_feud_105 {Γ : GX} {E : EX} (C : Cx Γ E cX9_feud RX9 10) (hr : Γ.meth.sig.returnType = (some .int)) (hrm : Γ.rm = rmX9_feud) (th : Nat) (p1 : Int32) (p2 : Int32) (p3 : Int32) (p4 : Int32) (p5 : Int32) (k41 : Int32 → Int32 → MM → Option (Int32 × MM)) (h41 : ∀ (x6 : Int32) (x7 : Int32) (m : MM), Sm (QM Γ E emI 0 0) Γ E 10 0 0 41 [(0, va_rf (some th)), (1, .int p1), (2, .int p2), (3, .int p3), (4, .int p4), (5, .int p5), (6, .int x6), (7, .int x7)] [] m (k41 x6 x7 m)) (x6 : Int32) (x7 : Int32) (x8 : Int32) (x9 : Int32) (m : MM) : Sm (QM Γ E emI 0 0) Γ E 10 0 0 105 [(0, va_rf (some th)), (1, .int p1), (2, .int p2), (3, .int p3), (4, .int p4), (5, .int p5), (6, .int x6), (7, .int x7), (8, .int x8), (9, .int x9)] [] m (g_X9_feud_105 th p1 p2 p3 p4 p5 k41 x6 x7 x8 x9 m) := by
  unfold g_X9_feud_105
  refine z_iload C dX9_feud_105 8 rfl ?_
  refine z_iload C dX9_feud_107 5 rfl ?_
  refine z_icmp_ne (tgt := 122) C dX9_feud_109 (by decide) (fun c1 => ?_) (fun c1 => ?_)
  · exact z_sub [0, 1, 2, 3, 4, 5, 6, 7] rfl (s_X9_feud_122 C hr hrm th p1 p2 p3 p4 p5 k41 h41 x6 x7 m)
  · refine z_iload C dX9_feud_112 9 rfl ?_
    refine z_iload C dX9_feud_114 4 rfl ?_
    refine z_icmp_ne (tgt := 122) C dX9_feud_116 (by decide) (fun c2 => ?_) (fun c2 => ?_)
    · exact z_sub [0, 1, 2, 3, 4, 5, 6, 7] rfl (s_X9_feud_122 C hr hrm th p1 p2 p3 p4 p5 k41 h41 x6 x7 m)
    · exact z_sub [0, 1, 2, 3, 4, 5, 6, 7] rfl (s_X9_feud_119 C hr hrm th p1 p2 p3 p4 p5 k41 h41 x6 x7 m)
set_option maxRecDepth 100000 in
def g_X9_feud_41 (th : Nat) (p1 : Int32) (p2 : Int32) (p3 : Int32) (p4 : Int32) (p5 : Int32) (k41 : Int32 → Int32 → MM → Option (Int32 × MM)) (x6 : Int32) (x7 : Int32) (m : MM) : Option (Int32 × MM) :=
  chk (m.K th = 10) (ck m (m.R 1004 th 0) 2 (fun a1 => if (m.I 203 a1 0) ≤ x7 then (some (x6, m)) else (cal (f_X1_firstOf a1 x7 m) (fun r1 m1 => ck m1 (m.R 1003 th 0) 6 (fun a2 => cal (f_X5_ofThing a2 r1 3 m1) (fun r2 m2 => chk (m2.K th = 10) (ck m2 (m2.R 1004 th 0) 2 (fun a3 => cal (f_X1_secondOf a3 x7 m2) (fun r3 m3 => ck m3 (m2.R 1003 th 0) 6 (fun a4 => cal (f_X5_ofThing a4 r3 3 m3) (fun r4 m4 => if r2 = p4 then (if r4 = p5 then (g_X9_feud_119 th p1 p2 p3 p4 p5 k41 x6 x7 m4) else (g_X9_feud_105 th p1 p2 p3 p4 p5 k41 x6 x7 r2 r4 m4)) else (g_X9_feud_105 th p1 p2 p3 p4 p5 k41 x6 x7 r2 r4 m4))))))))))))
set_option maxHeartbeats 4000000 in
set_option maxRecDepth 100000 in
theorem s_X9_feud_41 {Γ : GX} {E : EX} (C : Cx Γ E cX9_feud RX9 10) (hr : Γ.meth.sig.returnType = (some .int)) (hrm : Γ.rm = rmX9_feud) (th : Nat) (p1 : Int32) (p2 : Int32) (p3 : Int32) (p4 : Int32) (p5 : Int32) (k41 : Int32 → Int32 → MM → Option (Int32 × MM)) (h41 : ∀ (x6 : Int32) (x7 : Int32) (m : MM), Sm (QM Γ E emI 0 0) Γ E 10 0 0 41 [(0, va_rf (some th)), (1, .int p1), (2, .int p2), (3, .int p3), (4, .int p4), (5, .int p5), (6, .int x6), (7, .int x7)] [] m (k41 x6 x7 m)) (x6 : Int32) (x7 : Int32) (m : MM) : Sm (QM Γ E emI 0 0) Γ E 10 0 0 41 [(0, va_rf (some th)), (1, .int p1), (2, .int p2), (3, .int p3), (4, .int p4), (5, .int p5), (6, .int x6), (7, .int x7)] [] m (g_X9_feud_41 th p1 p2 p3 p4 p5 k41 x6 x7 m) := by
  unfold g_X9_feud_41
  refine z_iload C dX9_feud_41 7 rfl ?_
  refine z_aload_n C dX9_feud_43 rfl 0 rfl ?_
  refine z_chk (fun hk1 => ?_)
  refine z_getR C fl_RX9_39 rfl hk1 dX9_feud_44 ?_
  refine z_ck (fun a1 hr1 hk2 => ?_)
  refine z_getI C fl_RX9_254 hr1 hk2 dX9_feud_47 ?_
  refine z_icmp_ge (tgt := 128) C dX9_feud_50 (by decide) (fun c3 => ?_) (fun c3 => ?_)
  · refine z_iload C dX9_feud_128 6 rfl ?_
    exact z_iret C hr dX9_feud_130
  · refine z_aload_n C dX9_feud_53 rfl 0 rfl ?_
    refine z_getR C fl_RX9_30 rfl hk1 dX9_feud_54 ?_
    refine z_aload_n C dX9_feud_57 rfl 0 rfl ?_
    refine z_getR C fl_RX9_39 rfl hk1 dX9_feud_58 ?_
    refine z_iload C dX9_feud_61 7 rfl ?_
    refine z_cVI [.int x7] [va_rf (m.R 1003 th 0)] C mv_RX9_255 (fun r0 m0 h0 => M_X1_firstOf _ _ _ _ _ _ _ h0) rfl rfl ⟨by rw [hrm]; exact Nat.le_of_ble_eq_true rfl, by rw [hrm]; exact Nat.le_of_ble_eq_true rfl⟩ ⟨by rw [hrm]; exact Nat.le_of_ble_eq_true rfl, by rw [hrm]; exact Nat.le_of_ble_eq_true rfl⟩ hr1 hk2 rfl rfl rfl (by simp [cat_rf, cat_i, cat_l, cat_a]) dX9_feud_63 (fun r1 m1 => ?_)
    refine z_iconst (v := 3) C dX9_feud_66 (by decide) ?_
    refine z_ck (fun a2 hr2 hk3 => ?_)
    refine z_cVI [.int r1, .int 3] [] C mv_RX9_274 (fun r0 m0 h0 => M_X5_ofThing _ _ _ _ _ _ _ _ h0) rfl rfl ⟨by rw [hrm]; exact Nat.le_of_ble_eq_true rfl, by rw [hrm]; exact Nat.le_of_ble_eq_true rfl⟩ ⟨by rw [hrm]; exact Nat.le_of_ble_eq_true rfl, by rw [hrm]; exact Nat.le_of_ble_eq_true rfl⟩ hr2 hk3 rfl rfl rfl (Nat.le_of_ble_eq_true rfl) dX9_feud_67 (fun r2 m2 => ?_)
    refine z_istore (i := 8) (L2 := [(8, .int r2), (0, va_rf (some th)), (1, .int p1), (2, .int p2), (3, .int p3), (4, .int p4), (5, .int p5), (6, .int x6), (7, .int x7)]) C dX9_feud_70 (by decide) rfl ?_
    refine z_aload_n C dX9_feud_72 rfl 1 rfl ?_
    refine z_chk (fun hk4 => ?_)
    refine z_getR C fl_RX9_30 rfl hk4 dX9_feud_73 ?_
    refine z_aload_n C dX9_feud_76 rfl 1 rfl ?_
    refine z_getR C fl_RX9_39 rfl hk4 dX9_feud_77 ?_
    refine z_iload C dX9_feud_80 8 rfl ?_
    refine z_ck (fun a3 hr3 hk5 => ?_)
    refine z_cVI [.int x7] [va_rf (m2.R 1003 th 0)] C mv_RX9_258 (fun r0 m0 h0 => M_X1_secondOf _ _ _ _ _ _ _ h0) rfl rfl ⟨by rw [hrm]; exact Nat.le_of_ble_eq_true rfl, by rw [hrm]; exact Nat.le_of_ble_eq_true rfl⟩ ⟨by rw [hrm]; exact Nat.le_of_ble_eq_true rfl, by rw [hrm]; exact Nat.le_of_ble_eq_true rfl⟩ hr3 hk5 rfl rfl rfl (by simp [cat_rf, cat_i, cat_l, cat_a]) dX9_feud_82 (fun r3 m3 => ?_)
    refine z_iconst (v := 3) C dX9_feud_85 (by decide) ?_
    refine z_ck (fun a4 hr4 hk6 => ?_)
    refine z_cVI [.int r3, .int 3] [] C mv_RX9_274 (fun r0 m0 h0 => M_X5_ofThing _ _ _ _ _ _ _ _ h0) rfl rfl ⟨by rw [hrm]; exact Nat.le_of_ble_eq_true rfl, by rw [hrm]; exact Nat.le_of_ble_eq_true rfl⟩ ⟨by rw [hrm]; exact Nat.le_of_ble_eq_true rfl, by rw [hrm]; exact Nat.le_of_ble_eq_true rfl⟩ hr4 hk6 rfl rfl rfl (Nat.le_of_ble_eq_true rfl) dX9_feud_86 (fun r4 m4 => ?_)
    refine z_istore (i := 9) (L2 := [(9, .int r4), (8, .int r2), (0, va_rf (some th)), (1, .int p1), (2, .int p2), (3, .int p3), (4, .int p4), (5, .int p5), (6, .int x6), (7, .int x7)]) C dX9_feud_89 (by decide) rfl ?_
    refine z_iload C dX9_feud_91 1 rfl ?_
    refine z_iload C dX9_feud_93 6 rfl ?_
    refine z_icmp_ne (tgt := 105) C dX9_feud_95 (by decide) (fun c4 => ?_) (fun c4 => ?_)
    · exact z_sub [2, 3, 4, 5, 6, 7, 8, 9, 1, 0] rfl (s_X9_feud_105 C hr hrm th p1 p2 p3 p4 p5 k41 h41 x6 x7 r2 r4 m4)
    · refine z_iload C dX9_feud_98 0 rfl ?_
      refine z_iload C dX9_feud_100 7 rfl ?_
      refine z_icmp_eq (tgt := 119) C dX9_feud_102 (by decide) (fun c5 => ?_) (fun c5 => ?_)
      · exact z_sub [2, 3, 4, 5, 6, 7, 8, 9] rfl (s_X9_feud_119 C hr hrm th p1 p2 p3 p4 p5 k41 h41 x6 x7 m4)
      · exact z_sub [2, 3, 4, 5, 6, 7, 8, 9, 1, 0] rfl (s_X9_feud_105 C hr hrm th p1 p2 p3 p4 p5 k41 h41 x6 x7 r2 r4 m4)
def l_X9_feud_41 (th : Nat) (p1 : Int32) (p2 : Int32) (p3 : Int32) (p4 : Int32) (p5 : Int32) : Nat → Int32 → Int32 → MM → Option (Int32 × MM) := lp (fun _ _ _ => none) (fun k41 => g_X9_feud_41 th p1 p2 p3 p4 p5 k41)
theorem t_X9_feud_41 {Γ : GX} {E : EX} (C : Cx Γ E cX9_feud RX9 10) (hr : Γ.meth.sig.returnType = (some .int)) (hrm : Γ.rm = rmX9_feud) (th : Nat) (p1 : Int32) (p2 : Int32) (p3 : Int32) (p4 : Int32) (p5 : Int32) : ∀ (n : Nat) (x6 : Int32) (x7 : Int32) (m : MM), Sm (QM Γ E emI 0 0) Γ E 10 0 0 41 [(0, va_rf (some th)), (1, .int p1), (2, .int p2), (3, .int p3), (4, .int p4), (5, .int p5), (6, .int x6), (7, .int x7)] [] m (l_X9_feud_41 th p1 p2 p3 p4 p5 n x6 x7 m) := by
  intro n
  induction n with
  | zero => intros; exact z_none
  | succ n ih => intro x6 x7 m; exact s_X9_feud_41 C hr hrm th p1 p2 p3 p4 p5 (l_X9_feud_41 th p1 p2 p3 p4 p5 n) ih x6 x7 m
set_option maxRecDepth 100000 in
def g_X9_feud_0 (th : Nat) (p1 : Int32) (p2 : Int32) (p3 : Int32) (p4 : Int32) (p5 : Int32) (m : MM) : Option (Int32 × MM) :=
  cal (f_X9_isHouse p4 m) (fun r5 m5 => if r5 = 0 then (some ((-1), m5)) else (cal (f_X9_isHouse p5 m5) (fun r6 m6 => if r6 = 0 then (some ((-1), m6)) else (chk (m6.K th = 10) (cal (f_X9_opened th p1 p2 p3 m6) (fun r7 m7 => if r7 = 0 then (some ((-1), m7)) else (chk (m7.K th = 10) (ck m7 (m7.R 1004 th 0) 2 (fun a5 => cal (f_X1_collect a5 m7) (fun r8 m8 => l_X9_feud_41 th p1 p2 p3 p4 p5 FU 0 0 m8))))))))))
set_option maxHeartbeats 4000000 in
set_option maxRecDepth 100000 in
theorem s_X9_feud_0 {Γ : GX} {E : EX} (C : Cx Γ E cX9_feud RX9 10) (hr : Γ.meth.sig.returnType = (some .int)) (hrm : Γ.rm = rmX9_feud) (th : Nat) (p1 : Int32) (p2 : Int32) (p3 : Int32) (p4 : Int32) (p5 : Int32) (m : MM) : Sm (QM Γ E emI 0 0) Γ E 10 0 0 0 [(0, va_rf (some th)), (1, .int p1), (2, .int p2), (3, .int p3), (4, .int p4), (5, .int p5)] [] m (g_X9_feud_0 th p1 p2 p3 p4 p5 m) := by
  unfold g_X9_feud_0
  refine z_iload C dX9_feud_0 4 rfl ?_
  refine z_cSI [.int p4] [] C mv_RX9_198 (fun r0 m0 h0 => M_X9_isHouse _ _ _ _ _ _ h0) rfl rfl ⟨by rw [hrm]; exact Nat.le_of_ble_eq_true rfl, by rw [hrm]; exact Nat.le_of_ble_eq_true rfl⟩ ⟨by rw [hrm]; exact Nat.le_of_ble_eq_true rfl, by rw [hrm]; exact Nat.le_of_ble_eq_true rfl⟩ rfl rfl (Nat.le_of_ble_eq_true rfl) dX9_feud_2 (fun r5 m5 => ?_)
  refine z_if_eq (tgt := 26) C dX9_feud_5 (by decide) (fun c6 => ?_) (fun c6 => ?_)
  · refine z_iconst (v := (-1)) C dX9_feud_26 (by decide) ?_
    exact z_iret C hr dX9_feud_27
  · refine z_iload C dX9_feud_8 5 rfl ?_
    refine z_cSI [.int p5] [] C mv_RX9_198 (fun r0 m0 h0 => M_X9_isHouse _ _ _ _ _ _ h0) rfl rfl ⟨by rw [hrm]; exact Nat.le_of_ble_eq_true rfl, by rw [hrm]; exact Nat.le_of_ble_eq_true rfl⟩ ⟨by rw [hrm]; exact Nat.le_of_ble_eq_true rfl, by rw [hrm]; exact Nat.le_of_ble_eq_true rfl⟩ rfl rfl (Nat.le_of_ble_eq_true rfl) dX9_feud_10 (fun r6 m6 => ?_)
    refine z_if_eq (tgt := 26) C dX9_feud_13 (by decide) (fun c7 => ?_) (fun c7 => ?_)
    · refine z_iconst (v := (-1)) C dX9_feud_26 (by decide) ?_
      exact z_iret C hr dX9_feud_27
    · refine z_aload_n C dX9_feud_16 rfl 0 rfl ?_
      refine z_iload_n C dX9_feud_17 rfl 1 rfl ?_
      refine z_iload_n C dX9_feud_18 rfl 2 rfl ?_
      refine z_iload_n C dX9_feud_19 rfl 3 rfl ?_
      refine z_chk (fun hk7 => ?_)
      refine z_cVI [.int p1, .int p2, .int p3] [] C mv_RX9_247 (fun r0 m0 h0 => M_X9_opened _ _ _ _ _ _ _ _ _ h0) rfl rfl ⟨by rw [hrm]; exact Nat.le_of_ble_eq_true rfl, by rw [hrm]; exact Nat.le_of_ble_eq_true rfl⟩ ⟨by rw [hrm]; exact Nat.le_of_ble_eq_true rfl, by rw [hrm]; exact Nat.le_of_ble_eq_true rfl⟩ rfl hk7 rfl rfl rfl (Nat.le_of_ble_eq_true rfl) dX9_feud_20 (fun r7 m7 => ?_)
      refine z_if_ne (tgt := 28) C dX9_feud_23 (by decide) (fun c8 => ?_) (fun c8 => ?_)
      · refine z_aload_n C dX9_feud_28 rfl 0 rfl ?_
        refine z_chk (fun hk8 => ?_)
        refine z_getR C fl_RX9_39 rfl hk8 dX9_feud_29 ?_
        refine z_ck (fun a5 hr5 hk9 => ?_)
        refine z_cVV [] [] C mv_RX9_251 (fun r0 m0 h0 => M_X1_collect _ _ _ _ _ _ h0) rfl rfl ⟨by rw [hrm]; exact Nat.le_of_ble_eq_true rfl, by rw [hrm]; exact Nat.le_of_ble_eq_true rfl⟩ ⟨by rw [hrm]; exact Nat.le_of_ble_eq_true rfl, by rw [hrm]; exact Nat.le_of_ble_eq_true rfl⟩ hr5 hk9 rfl rfl rfl (Nat.le_of_ble_eq_true rfl) dX9_feud_32 (fun r8 m8 => ?_)
        refine z_iconst (v := 0) C dX9_feud_35 (by decide) ?_
        refine z_istore (i := 6) (L2 := [(6, .int 0), (0, va_rf (some th)), (1, .int p1), (2, .int p2), (3, .int p3), (4, .int p4), (5, .int p5)]) C dX9_feud_36 (by decide) rfl ?_
        refine z_iconst (v := 0) C dX9_feud_38 (by decide) ?_
        refine z_istore (i := 7) (L2 := [(7, .int 0), (6, .int 0), (0, va_rf (some th)), (1, .int p1), (2, .int p2), (3, .int p3), (4, .int p4), (5, .int p5)]) C dX9_feud_39 (by decide) rfl ?_
        exact z_sub [2, 3, 4, 5, 6, 7, 1, 0] rfl (t_X9_feud_41 C hr hrm th p1 p2 p3 p4 p5 FU 0 0 m8)
      · refine z_iconst (v := (-1)) C dX9_feud_26 (by decide) ?_
        exact z_iret C hr dX9_feud_27
def f_X9_feud (th : Nat) (p1 : Int32) (p2 : Int32) (p3 : Int32) (p4 : Int32) (p5 : Int32) (m : MM) : Option (Int32 × MM) := g_X9_feud_0 th p1 p2 p3 p4 p5 m
theorem M_X9_feud (l : Launch) (E : EX) (th : Nat) (p1 : Int32) (p2 : Int32) (p3 : Int32) (p4 : Int32) (p5 : Int32) (m : MM) (r : Int32) (m2 : MM) (h : f_X9_feud th p1 p2 p3 p4 p5 m = some (r, m2)) : Met l yX9_feud (.code yX9_feud cX9_feud 10 (some .int) :: TB) rmX9_feud (va_Pc [.ref th, .int p1, .int p2, .int p3, .int p4, .int p5] (St E m)) (QR E (emI r) m2) 0 0 (AA E) :=
  met_of (em := emI) (plainFor_of_name rfl) (Nat.le_of_ble_eq_true rfl) (L0 := [(0, va_rf (some th)), (1, .int p1), (2, .int p2), (3, .int p3), (4, .int p4), (5, .int p5)]) rfl (fun Γ _ hrm C hr hn => s_X9_feud_0 C hr hrm th p1 p2 p3 p4 p5 m) h

theorem dX9_count_0 : decode cX9_count 0 = .ok (.iload_n 1, 1) := by decide +kernel
theorem dX9_count_1 : decode cX9_count 1 = .ok (.ifCond .ne 11, 3) := by decide +kernel
theorem dX9_count_4 : decode cX9_count 4 = .ok (.aload_n 0, 1) := by decide +kernel
theorem dX9_count_5 : decode cX9_count 5 = .ok (.getfield 10, 3) := by decide +kernel
theorem dX9_count_8 : decode cX9_count 8 = .ok (.getfield 62, 3) := by decide +kernel
theorem dX9_count_11 : decode cX9_count 11 = .ok (.ireturn, 1) := by decide +kernel
theorem dX9_count_12 : decode cX9_count 12 = .ok (.iload_n 1, 1) := by decide +kernel
theorem dX9_count_13 : decode cX9_count 13 = .ok (.iconst 1, 1) := by decide +kernel
theorem dX9_count_14 : decode cX9_count 14 = .ok (.if_icmp .ne 13, 3) := by decide +kernel
theorem dX9_count_17 : decode cX9_count 17 = .ok (.aload_n 0, 1) := by decide +kernel
theorem dX9_count_18 : decode cX9_count 18 = .ok (.getfield 10, 3) := by decide +kernel
theorem dX9_count_21 : decode cX9_count 21 = .ok (.getfield 101, 3) := by decide +kernel
theorem dX9_count_24 : decode cX9_count 24 = .ok (.goto 5, 3) := by decide +kernel
theorem dX9_count_27 : decode cX9_count 27 = .ok (.bipush (-2), 2) := by decide +kernel
theorem dX9_count_29 : decode cX9_count 29 = .ok (.ireturn, 1) := by decide +kernel
def rmX9_count : Room := { frames := 0, cells := 0, slots := 0, locals := 0 }
set_option maxRecDepth 100000 in
def g_X9_count_0 (th : Nat) (p1 : Int32) (m : MM) : Option (Int32 × MM) :=
  if p1 = 0 then (chk (m.K th = 10) (ck m (m.R 1000 th 0) 8 (fun a2 => some (m.I 804 a2 0, m)))) else (if p1 = 1 then (chk (m.K th = 10) (ck m (m.R 1000 th 0) 8 (fun a1 => some (m.I 805 a1 0, m)))) else (some ((-2), m)))
set_option maxHeartbeats 4000000 in
set_option maxRecDepth 100000 in
theorem s_X9_count_0 {Γ : GX} {E : EX} (C : Cx Γ E cX9_count RX9 2) (hr : Γ.meth.sig.returnType = (some .int)) (hrm : Γ.rm = rmX9_count) (th : Nat) (p1 : Int32) (m : MM) : Sm (QM Γ E emI 0 0) Γ E 2 0 0 0 [(0, va_rf (some th)), (1, .int p1)] [] m (g_X9_count_0 th p1 m) := by
  unfold g_X9_count_0
  refine z_iload_n C dX9_count_0 rfl 1 rfl ?_
  refine z_if_ne (tgt := 12) C dX9_count_1 (by decide) (fun c1 => ?_) (fun c1 => ?_)
  · refine z_iload_n C dX9_count_12 rfl 1 rfl ?_
    refine z_iconst (v := 1) C dX9_count_13 (by decide) ?_
    refine z_icmp_ne (tgt := 27) C dX9_count_14 (by decide) (fun c2 => ?_) (fun c2 => ?_)
    · refine z_bipush (v := (-2)) C dX9_count_27 (by decide) ?_
      exact z_iret C hr dX9_count_29
    · refine z_aload_n C dX9_count_17 rfl 0 rfl ?_
      refine z_chk (fun hk1 => ?_)
      refine z_getR C fl_RX9_10 rfl hk1 dX9_count_18 ?_
      refine z_ck (fun a1 hr1 hk2 => ?_)
      refine z_getI C fl_RX9_101 hr1 hk2 dX9_count_21 ?_
      refine z_goto (tgt := 29) C dX9_count_24 (by decide) ?_
      exact z_iret C hr dX9_count_29
  · refine z_aload_n C dX9_count_4 rfl 0 rfl ?_
    refine z_chk (fun hk3 => ?_)
    refine z_getR C fl_RX9_10 rfl hk3 dX9_count_5 ?_
    refine z_ck (fun a2 hr2 hk4 => ?_)
    refine z_getI C fl_RX9_62 hr2 hk4 dX9_count_8 ?_
    exact z_iret C hr dX9_count_11
def f_X9_count (th : Nat) (p1 : Int32) (m : MM) : Option (Int32 × MM) := g_X9_count_0 th p1 m
theorem M_X9_count (l : Launch) (E : EX) (th : Nat) (p1 : Int32) (m : MM) (r : Int32) (m2 : MM) (h : f_X9_count th p1 m = some (r, m2)) : Met l yX9_count (.code yX9_count cX9_count 2 (some .int) :: TB) rmX9_count (va_Pc [.ref th, .int p1] (St E m)) (QR E (emI r) m2) 0 0 (AA E) :=
  met_of (em := emI) (plainFor_of_name rfl) (Nat.le_of_ble_eq_true rfl) (L0 := [(0, va_rf (some th)), (1, .int p1)]) rfl (fun Γ _ hrm C hr hn => s_X9_count_0 C hr hrm th p1 m) h

theorem dX9_image_0 : decode cX9_image 0 = .ok (.iload_n 1, 1) := by decide +kernel
theorem dX9_image_1 : decode cX9_image 1 = .ok (.ifCond .lt 12, 3) := by decide +kernel
theorem dX9_image_4 : decode cX9_image 4 = .ok (.iload_n 1, 1) := by decide +kernel
theorem dX9_image_5 : decode cX9_image 5 = .ok (.aload_n 0, 1) := by decide +kernel
theorem dX9_image_6 : decode cX9_image 6 = .ok (.getfield 16, 3) := by decide +kernel
theorem dX9_image_9 : decode cX9_image 9 = .ok (.arraylength, 1) := by decide +kernel
theorem dX9_image_10 : decode cX9_image 10 = .ok (.if_icmp .lt 5, 3) := by decide +kernel
theorem dX9_image_13 : decode cX9_image 13 = .ok (.iconst 0, 1) := by decide +kernel
theorem dX9_image_14 : decode cX9_image 14 = .ok (.ireturn, 1) := by decide +kernel
theorem dX9_image_15 : decode cX9_image 15 = .ok (.aload_n 0, 1) := by decide +kernel
theorem dX9_image_16 : decode cX9_image 16 = .ok (.getfield 16, 3) := by decide +kernel
theorem dX9_image_19 : decode cX9_image 19 = .ok (.iload_n 1, 1) := by decide +kernel
theorem dX9_image_20 : decode cX9_image 20 = .ok (.aaload, 1) := by decide +kernel
theorem dX9_image_21 : decode cX9_image 21 = .ok (.ifnonnull 16, 3) := by decide +kernel
theorem dX9_image_24 : decode cX9_image 24 = .ok (.aload_n 0, 1) := by decide +kernel
theorem dX9_image_25 : decode cX9_image 25 = .ok (.getfield 16, 3) := by decide +kernel
theorem dX9_image_28 : decode cX9_image 28 = .ok (.iload_n 1, 1) := by decide +kernel
theorem dX9_image_29 : decode cX9_image 29 = .ok (.new 7, 3) := by decide +kernel
theorem dX9_image_32 : decode cX9_image 32 = .ok (.dup, 1) := by decide +kernel
theorem dX9_image_33 : decode cX9_image 33 = .ok (.invokespecial 9, 3) := by decide +kernel
theorem dX9_image_36 : decode cX9_image 36 = .ok (.aastore, 1) := by decide +kernel
theorem dX9_image_37 : decode cX9_image 37 = .ok (.aload_n 0, 1) := by decide +kernel
theorem dX9_image_38 : decode cX9_image 38 = .ok (.getfield 16, 3) := by decide +kernel
theorem dX9_image_41 : decode cX9_image 41 = .ok (.iload_n 1, 1) := by decide +kernel
theorem dX9_image_42 : decode cX9_image 42 = .ok (.aaload, 1) := by decide +kernel
theorem dX9_image_43 : decode cX9_image 43 = .ok (.aload_n 0, 1) := by decide +kernel
theorem dX9_image_44 : decode cX9_image 44 = .ok (.getfield 10, 3) := by decide +kernel
theorem dX9_image_47 : decode cX9_image 47 = .ok (.invokevirtual 336, 3) := by decide +kernel
theorem dX9_image_50 : decode cX9_image 50 = .ok (.iconst 1, 1) := by decide +kernel
theorem dX9_image_51 : decode cX9_image 51 = .ok (.ireturn, 1) := by decide +kernel
def rmX9_image : Room := { frames := 4, cells := 58, slots := 1570, locals := 107 }
set_option maxRecDepth 100000 in
def g_X9_image_37 (th : Nat) (p1 : Int32) (m : MM) : Option (Int32 × MM) :=
  chk (m.K th = 10) (ck m (m.R 1001 th 0) 27 (fun a1 => chk (inb p1 (m.N a1) = true) (ck m (m.R 27 a1 (Int32.toNatClampNeg p1)) 8 (fun a2 => cal (f_X7_take a2 (m.R 1000 th 0) m) (fun r1 m1 => some (1, m1))))))
set_option maxHeartbeats 4000000 in
set_option maxRecDepth 100000 in
theorem s_X9_image_37 {Γ : GX} {E : EX} (C : Cx Γ E cX9_image RX9 2) (hr : Γ.meth.sig.returnType = (some .boolean)) (hrm : Γ.rm = rmX9_image) (th : Nat) (p1 : Int32) (m : MM) : Sm (QM Γ E emI 58 1570) Γ E 2 58 1570 37 [(0, va_rf (some th)), (1, .int p1)] [] m (g_X9_image_37 th p1 m) := by
  unfold g_X9_image_37
  refine z_aload_n C dX9_image_37 rfl 0 rfl ?_
  refine z_chk (fun hk1 => ?_)
  refine z_getR C fl_RX9_16 rfl hk1 dX9_image_38 ?_
  refine z_iload_n C dX9_image_41 rfl 1 rfl ?_
  refine z_ck (fun a1 hr1 hk2 => ?_)
  refine z_chk (fun hj1 => ?_)
  refine z_aald C hr1 hk2 (by decide) (by decide) hj1 dX9_image_42 ?_
  refine z_aload_n C dX9_image_43 rfl 0 rfl ?_
  refine z_getR C fl_RX9_10 rfl hk1 dX9_image_44 ?_
  refine z_ck (fun a2 hr2 hk3 => ?_)
  refine z_cVV [va_rf (m.R 1000 th 0)] [] C mv_RX9_336 (fun r0 m0 h0 => M_X7_take _ _ _ _ _ _ _ h0) rfl rfl ⟨by rw [hrm]; exact Nat.le_of_ble_eq_true rfl, by rw [hrm]; exact Nat.le_of_ble_eq_true rfl⟩ ⟨by rw [hrm]; exact Nat.le_of_ble_eq_true rfl, by rw [hrm]; exact Nat.le_of_ble_eq_true rfl⟩ hr2 hk3 rfl rfl rfl (Nat.le_of_ble_eq_true rfl) dX9_image_47 (fun r1 m1 => ?_)
  refine z_iconst (v := 1) C dX9_image_50 (by decide) ?_
  refine z_wid (k := 58) (n := 1570) (Nat.le_of_ble_eq_true rfl) (Nat.le_of_ble_eq_true rfl) ?_
  exact z_zret C hr rfl dX9_image_51
set_option maxRecDepth 100000 in
def g_X9_image_0 (th : Nat) (p1 : Int32) (m : MM) : Option (Int32 × MM) :=
  if p1 < 0 then (some (0, m)) else (chk (m.K th = 10) (ck m (m.R 1001 th 0) 27 (fun a3 => if p1 < (Int32.ofNat (m.N a3)) then (chk (inb p1 (m.N a3) = true) (ifn (m.R 27 a3 (Int32.toNatClampNeg p1)) (bnd m.S (fun a5 => bnd (m.nw 8 0) (fun m2 => cal (f_X7_init a5 m2) (fun r2 m3 => chk (m3.K a3 = 27) (chk (m3.K a5 = 8) (chk (inb p1 (m3.N a3) = true) (bnd (m3.sR 27 a3 (Int32.toNatClampNeg p1) (some a5)) (fun m4 => g_X9_image_37 th p1 m4)))))))) (fun a4 => g_X9_image_37 th p1 m))) else (some (0, m)))))
set_option maxHeartbeats 4000000 in
set_option maxRecDepth 100000 in
theorem s_X9_image_0 {Γ : GX} {E : EX} (C : Cx Γ E cX9_image RX9 2) (hr : Γ.meth.sig.returnType = (some .boolean)) (hrm : Γ.rm = rmX9_image) (th : Nat) (p1 : Int32) (m : MM) : Sm (QM Γ E emI 58 1570) Γ E 2 0 0 0 [(0, va_rf (some th)), (1, .int p1)] [] m (g_X9_image_0 th p1 m) := by
  unfold g_X9_image_0
  refine z_iload_n C dX9_image_0 rfl 1 rfl ?_
  refine z_if_lt (tgt := 13) C dX9_image_1 (by decide) (fun c1 => ?_) (fun c1 => ?_)
  · refine z_iconst (v := 0) C dX9_image_13 (by decide) ?_
    refine z_wid (k := 58) (n := 1570) (Nat.le_of_ble_eq_true rfl) (Nat.le_of_ble_eq_true rfl) ?_
    exact z_zret C hr rfl dX9_image_14
  · refine z_iload_n C dX9_image_4 rfl 1 rfl ?_
    refine z_aload_n C dX9_image_5 rfl 0 rfl ?_
    refine z_chk (fun hk4 => ?_)
    refine z_getR C fl_RX9_16 rfl hk4 dX9_image_6 ?_
    refine z_ck (fun a3 hr3 hk5 => ?_)
    refine z_alen C hr3 hk5 (by decide) (by decide) dX9_image_9 ?_
    refine z_icmp_lt (tgt := 15) C dX9_image_10 (by decide) (fun c2 => ?_) (fun c2 => ?_)
    · refine z_aload_n C dX9_image_15 rfl 0 rfl ?_
      refine z_getR C fl_RX9_16 rfl hk4 dX9_image_16 ?_
      refine z_iload_n C dX9_image_19 rfl 1 rfl ?_
      refine z_chk (fun hj2 => ?_)
      refine z_aald C hr3 hk5 (by decide) (by decide) hj2 dX9_image_20 ?_
      refine z_ifnonnull (tgt := 37) C dX9_image_21 (by decide) (fun a4 ha1 => ?_) (fun hn1 => ?_)
      · refine z_wid (k := 58) (n := 1570) (Nat.le_of_ble_eq_true rfl) (Nat.le_of_ble_eq_true rfl) ?_
        exact z_sub [0, 1] rfl (s_X9_image_37 C hr hrm th p1 m)
      · refine z_aload_n C dX9_image_24 rfl 0 rfl ?_
        refine z_getR C fl_RX9_16 rfl hk4 dX9_image_25 ?_
        refine z_iload_n C dX9_image_28 rfl 1 rfl ?_
        refine z_new2 C co_X7 cl_RX9_7 in_RX7 ii_RX7 (by rw [hrm]; exact Nat.le_of_ble_eq_true rfl) (by rw [hrm]; exact Nat.le_of_ble_eq_true rfl) dX9_image_29 (fun a5 m2 hk6 => ?_)
        refine z_dup C rfl dX9_image_32 ?_
        refine z_callI [] [va_rf (some a5), .int p1, va_rf (m.R 1001 th 0)] C mv_RX9_9 (fun r0 m0 h0 => M_X7_init _ _ _ _ _ _ h0) rfl rfl ⟨by rw [hrm]; exact Nat.le_of_ble_eq_true rfl, by rw [hrm]; exact Nat.le_of_ble_eq_true rfl⟩ rfl rfl rfl (by simp [cat_rf, cat_i, cat_l, cat_a]) dX9_image_33 ⟨by rw [hrm]; exact Nat.le_of_ble_eq_true rfl, by rw [hrm]; exact Nat.le_of_ble_eq_true rfl⟩ (fun r2 m3 => ?_)
        refine z_chk (fun hk7 => ?_)
        refine z_chk (fun hk8 => ?_)
        refine z_chk (fun hj3 => ?_)
        refine z_aast C hr3 hk7 (by decide) (by decide) rfl hk8 (hc := rfl) rfl hj3 dX9_image_36 (fun m4 eK1 eN1 => ?_)
        refine z_wid (k := 58) (n := 1570) (Nat.le_of_ble_eq_true rfl) (Nat.le_of_ble_eq_true rfl) ?_
        exact z_sub [0, 1] rfl (s_X9_image_37 C hr hrm th p1 m4)
    · refine z_iconst (v := 0) C dX9_image_13 (by decide) ?_
      refine z_wid (k := 58) (n := 1570) (Nat.le_of_ble_eq_true rfl) (Nat.le_of_ble_eq_true rfl) ?_
      exact z_zret C hr rfl dX9_image_14
def f_X9_image (th : Nat) (p1 : Int32) (m : MM) : Option (Int32 × MM) := g_X9_image_0 th p1 m
theorem M_X9_image (l : Launch) (E : EX) (th : Nat) (p1 : Int32) (m : MM) (r : Int32) (m2 : MM) (h : f_X9_image th p1 m = some (r, m2)) : Met l yX9_image (.code yX9_image cX9_image 2 (some .boolean) :: TB) rmX9_image (va_Pc [.ref th, .int p1] (St E m)) (QR E (emI r) m2) 58 1570 (AA E) :=
  met_of (em := emI) (plainFor_of_name rfl) (Nat.le_of_ble_eq_true rfl) (L0 := [(0, va_rf (some th)), (1, .int p1)]) rfl (fun Γ _ hrm C hr hn => s_X9_image_0 C hr hrm th p1 m) h

theorem dX9_again_0 : decode cX9_again 0 = .ok (.iload_n 1, 1) := by decide +kernel
theorem dX9_again_1 : decode cX9_again 1 = .ok (.ifCond .lt 21, 3) := by decide +kernel
theorem dX9_again_4 : decode cX9_again 4 = .ok (.iload_n 1, 1) := by decide +kernel
theorem dX9_again_5 : decode cX9_again 5 = .ok (.aload_n 0, 1) := by decide +kernel
theorem dX9_again_6 : decode cX9_again 6 = .ok (.getfield 16, 3) := by decide +kernel
theorem dX9_again_9 : decode cX9_again 9 = .ok (.arraylength, 1) := by decide +kernel
theorem dX9_again_10 : decode cX9_again 10 = .ok (.if_icmp .ge 12, 3) := by decide +kernel
theorem dX9_again_13 : decode cX9_again 13 = .ok (.aload_n 0, 1) := by decide +kernel
theorem dX9_again_14 : decode cX9_again 14 = .ok (.getfield 16, 3) := by decide +kernel
theorem dX9_again_17 : decode cX9_again 17 = .ok (.iload_n 1, 1) := by decide +kernel
theorem dX9_again_18 : decode cX9_again 18 = .ok (.aaload, 1) := by decide +kernel
theorem dX9_again_19 : decode cX9_again 19 = .ok (.ifnonnull 5, 3) := by decide +kernel
theorem dX9_again_22 : decode cX9_again 22 = .ok (.iconst 0, 1) := by decide +kernel
theorem dX9_again_23 : decode cX9_again 23 = .ok (.ireturn, 1) := by decide +kernel
theorem dX9_again_24 : decode cX9_again 24 = .ok (.aload_n 0, 1) := by decide +kernel
theorem dX9_again_25 : decode cX9_again 25 = .ok (.getfield 10, 3) := by decide +kernel
theorem dX9_again_28 : decode cX9_again 28 = .ok (.aload_n 0, 1) := by decide +kernel
theorem dX9_again_29 : decode cX9_again 29 = .ok (.getfield 16, 3) := by decide +kernel
theorem dX9_again_32 : decode cX9_again 32 = .ok (.iload_n 1, 1) := by decide +kernel
theorem dX9_again_33 : decode cX9_again 33 = .ok (.aaload, 1) := by decide +kernel
theorem dX9_again_34 : decode cX9_again 34 = .ok (.invokevirtual 336, 3) := by decide +kernel
theorem dX9_again_37 : decode cX9_again 37 = .ok (.iconst 1, 1) := by decide +kernel
theorem dX9_again_38 : decode cX9_again 38 = .ok (.ireturn, 1) := by decide +kernel
def rmX9_again : Room := { frames := 4, cells := 0, slots := 0, locals := 107 }
set_option maxRecDepth 100000 in
def g_X9_again_0 (th : Nat) (p1 : Int32) (m : MM) : Option (Int32 × MM) :=
  if p1 < 0 then (some (0, m)) else (chk (m.K th = 10) (ck m (m.R 1001 th 0) 27 (fun a1 => if (Int32.ofNat (m.N a1)) ≤ p1 then (some (0, m)) else (chk (inb p1 (m.N a1) = true) (ifn (m.R 27 a1 (Int32.toNatClampNeg p1)) (some (0, m)) (fun a2 => chk (inb p1 (m.N a1) = true) (ck m (m.R 1000 th 0) 8 (fun a3 => cal (f_X7_take a3 (m.R 27 a1 (Int32.toNatClampNeg p1)) m) (fun r1 m1 => some (1, m1))))))))))
set_option maxHeartbeats 4000000 in
set_option maxRecDepth 100000 in
theorem s_X9_again_0 {Γ : GX} {E : EX} (C : Cx Γ E cX9_again RX9 2) (hr : Γ.meth.sig.returnType = (some .boolean)) (hrm : Γ.rm = rmX9_again) (th : Nat) (p1 : Int32) (m : MM) : Sm (QM Γ E emI 0 0) Γ E 2 0 0 0 [(0, va_rf (some th)), (1, .int p1)] [] m (g_X9_again_0 th p1 m) := by
  unfold g_X9_again_0
  refine z_iload_n C dX9_again_0 rfl 1 rfl ?_
  refine z_if_lt (tgt := 22) C dX9_again_1 (by decide) (fun c1 => ?_) (fun c1 => ?_)
  · refine z_iconst (v := 0) C dX9_again_22 (by decide) ?_
    exact z_zret C hr rfl dX9_again_23
  · refine z_iload_n C dX9_again_4 rfl 1 rfl ?_
    refine z_aload_n C dX9_again_5 rfl 0 rfl ?_
    refine z_chk (fun hk1 => ?_)
    refine z_getR C fl_RX9_16 rfl hk1 dX9_again_6 ?_
    refine z_ck (fun a1 hr1 hk2 => ?_)
    refine z_alen C hr1 hk2 (by decide) (by decide) dX9_again_9 ?_
    refine z_icmp_ge (tgt := 22) C dX9_again_10 (by decide) (fun c2 => ?_) (fun c2 => ?_)
    · refine z_iconst (v := 0) C dX9_again_22 (by decide) ?_
      exact z_zret C hr rfl dX9_again_23
    · refine z_aload_n C dX9_again_13 rfl 0 rfl ?_
      refine z_getR C fl_RX9_16 rfl hk1 dX9_again_14 ?_
      refine z_iload_n C dX9_again_17 rfl 1 rfl ?_
      refine z_chk (fun hj1 => ?_)
      refine z_aald C hr1 hk2 (by decide) (by decide) hj1 dX9_again_18 ?_
      refine z_ifnonnull (tgt := 24) C dX9_again_19 (by decide) (fun a2 ha1 => ?_) (fun hn1 => ?_)
      · refine z_aload_n C dX9_again_24 rfl 0 rfl ?_
        refine z_getR C fl_RX9_10 rfl hk1 dX9_again_25 ?_
        refine z_aload_n C dX9_again_28 rfl 0 rfl ?_
        refine z_getR C fl_RX9_16 rfl hk1 dX9_again_29 ?_
        refine z_iload_n C dX9_again_32 rfl 1 rfl ?_
        refine z_chk (fun hj2 => ?_)
        refine z_aald C hr1 hk2 (by decide) (by decide) hj2 dX9_again_33 ?_
        refine z_ck (fun a3 hr2 hk3 => ?_)
        refine z_cVV [va_rf (m.R 27 a1 (Int32.toNatClampNeg p1))] [] C mv_RX9_336 (fun r0 m0 h0 => M_X7_take _ _ _ _ _ _ _ h0) rfl rfl ⟨by rw [hrm]; exact Nat.le_of_ble_eq_true rfl, by rw [hrm]; exact Nat.le_of_ble_eq_true rfl⟩ ⟨by rw [hrm]; exact Nat.le_of_ble_eq_true rfl, by rw [hrm]; exact Nat.le_of_ble_eq_true rfl⟩ hr2 hk3 rfl rfl rfl (Nat.le_of_ble_eq_true rfl) dX9_again_34 (fun r1 m1 => ?_)
        refine z_iconst (v := 1) C dX9_again_37 (by decide) ?_
        exact z_zret C hr rfl dX9_again_38
      · refine z_iconst (v := 0) C dX9_again_22 (by decide) ?_
        exact z_zret C hr rfl dX9_again_23
def f_X9_again (th : Nat) (p1 : Int32) (m : MM) : Option (Int32 × MM) := g_X9_again_0 th p1 m
theorem M_X9_again (l : Launch) (E : EX) (th : Nat) (p1 : Int32) (m : MM) (r : Int32) (m2 : MM) (h : f_X9_again th p1 m = some (r, m2)) : Met l yX9_again (.code yX9_again cX9_again 2 (some .boolean) :: TB) rmX9_again (va_Pc [.ref th, .int p1] (St E m)) (QR E (emI r) m2) 0 0 (AA E) :=
  met_of (em := emI) (plainFor_of_name rfl) (Nat.le_of_ble_eq_true rfl) (L0 := [(0, va_rf (some th)), (1, .int p1)]) rfl (fun Γ _ hrm C hr hn => s_X9_again_0 C hr hrm th p1 m) h
