theorem dJ9_max_7cf53_0 : decode cJ9_max_7cf53 0 = .ok (.iload_n 0, 1) := by decide +kernel
theorem dJ9_max_7cf53_1 : decode cJ9_max_7cf53 1 = .ok (.iload_n 1, 1) := by decide +kernel
theorem dJ9_max_7cf53_2 : decode cJ9_max_7cf53 2 = .ok (.if_icmp .lt 7, 3) := by decide +kernel
theorem dJ9_max_7cf53_5 : decode cJ9_max_7cf53 5 = .ok (.iload_n 0, 1) := by decide +kernel
theorem dJ9_max_7cf53_6 : decode cJ9_max_7cf53 6 = .ok (.goto 4, 3) := by decide +kernel
theorem dJ9_max_7cf53_9 : decode cJ9_max_7cf53 9 = .ok (.iload_n 1, 1) := by decide +kernel
theorem dJ9_max_7cf53_10 : decode cJ9_max_7cf53 10 = .ok (.ireturn, 1) := by decide +kernel
def rmJ9_max_7cf53 : Room := { frames := 0, cells := 0, slots := 0, locals := 0 }
set_option maxRecDepth 100000 in
def g_J9_max_7cf53_0 (p0 : Int32) (p1 : Int32) (m : MM) : Option (Int32 × MM) :=
  if p0 < p1 then (some (p1, m)) else (some (p0, m))
set_option maxHeartbeats 4000000 in
set_option maxRecDepth 100000 in
theorem s_J9_max_7cf53_0 {Γ : GX} {E : EX} (C : Cx Γ E cJ9_max_7cf53 RJ9 2) (hr : Γ.meth.sig.returnType = (some .int)) (hrm : Γ.rm = rmJ9_max_7cf53) (p0 : Int32) (p1 : Int32) (m : MM) : Sm (QM Γ E emI 0 0) Γ E 2 0 0 0 [(0, .int p0), (1, .int p1)] [] m (g_J9_max_7cf53_0 p0 p1 m) := by
  unfold g_J9_max_7cf53_0
  refine z_iload_n C dJ9_max_7cf53_0 rfl 0 rfl ?_
  refine z_iload_n C dJ9_max_7cf53_1 rfl 1 rfl ?_
  refine z_icmp_lt (tgt := 9) C dJ9_max_7cf53_2 (by decide) (fun c1 => ?_) (fun c1 => ?_)
  · refine z_iload_n C dJ9_max_7cf53_9 rfl 1 rfl ?_
    exact z_iret C hr dJ9_max_7cf53_10
  · refine z_iload_n C dJ9_max_7cf53_5 rfl 0 rfl ?_
    refine z_goto (tgt := 10) C dJ9_max_7cf53_6 (by decide) ?_
    exact z_iret C hr dJ9_max_7cf53_10
def f_J9_max_7cf53 (p0 : Int32) (p1 : Int32) (m : MM) : Option (Int32 × MM) := g_J9_max_7cf53_0 p0 p1 m
theorem M_J9_max_7cf53 (l : Launch) (E : EX) (p0 : Int32) (p1 : Int32) (m : MM) (r : Int32) (m2 : MM) (h : f_J9_max_7cf53 p0 p1 m = some (r, m2)) : Met l yJ9_max_7cf53 (.code yJ9_max_7cf53 cJ9_max_7cf53 2 (some .int) :: TB) rmJ9_max_7cf53 (va_Pc [.int p0, .int p1] (St E m)) (QR E (emI r) m2) 0 0 (AA E) :=
  met_of (em := emI) (by decide +kernel) (Nat.le_of_ble_eq_true rfl) (L0 := [(0, .int p0), (1, .int p1)]) rfl (fun Γ _ hrm C hr hn => s_J9_max_7cf53_0 C hr hrm p0 p1 m) h

theorem dJ6_bitCount_0f7a4_0 : decode cJ6_bitCount_0f7a4 0 = .ok (.iload_n 0, 1) := by decide +kernel
theorem dJ6_bitCount_0f7a4_1 : decode cJ6_bitCount_0f7a4 1 = .ok (.iload_n 0, 1) := by decide +kernel
theorem dJ6_bitCount_0f7a4_2 : decode cJ6_bitCount_0f7a4 2 = .ok (.iconst 1, 1) := by decide +kernel
theorem dJ6_bitCount_0f7a4_3 : decode cJ6_bitCount_0f7a4 3 = .ok (.iushr, 1) := by decide +kernel
theorem dJ6_bitCount_0f7a4_4 : decode cJ6_bitCount_0f7a4 4 = .ok (.ldc_w 265, 3) := by decide +kernel
theorem dJ6_bitCount_0f7a4_7 : decode cJ6_bitCount_0f7a4 7 = .ok (.iand, 1) := by decide +kernel
theorem dJ6_bitCount_0f7a4_8 : decode cJ6_bitCount_0f7a4 8 = .ok (.isub, 1) := by decide +kernel
theorem dJ6_bitCount_0f7a4_9 : decode cJ6_bitCount_0f7a4 9 = .ok (.istore_n 0, 1) := by decide +kernel
theorem dJ6_bitCount_0f7a4_10 : decode cJ6_bitCount_0f7a4 10 = .ok (.iload_n 0, 1) := by decide +kernel
theorem dJ6_bitCount_0f7a4_11 : decode cJ6_bitCount_0f7a4 11 = .ok (.ldc_w 266, 3) := by decide +kernel
theorem dJ6_bitCount_0f7a4_14 : decode cJ6_bitCount_0f7a4 14 = .ok (.iand, 1) := by decide +kernel
theorem dJ6_bitCount_0f7a4_15 : decode cJ6_bitCount_0f7a4 15 = .ok (.iload_n 0, 1) := by decide +kernel
theorem dJ6_bitCount_0f7a4_16 : decode cJ6_bitCount_0f7a4 16 = .ok (.iconst 2, 1) := by decide +kernel
theorem dJ6_bitCount_0f7a4_17 : decode cJ6_bitCount_0f7a4 17 = .ok (.iushr, 1) := by decide +kernel
theorem dJ6_bitCount_0f7a4_18 : decode cJ6_bitCount_0f7a4 18 = .ok (.ldc_w 266, 3) := by decide +kernel
theorem dJ6_bitCount_0f7a4_21 : decode cJ6_bitCount_0f7a4 21 = .ok (.iand, 1) := by decide +kernel
theorem dJ6_bitCount_0f7a4_22 : decode cJ6_bitCount_0f7a4 22 = .ok (.iadd, 1) := by decide +kernel
theorem dJ6_bitCount_0f7a4_23 : decode cJ6_bitCount_0f7a4 23 = .ok (.istore_n 0, 1) := by decide +kernel
theorem dJ6_bitCount_0f7a4_24 : decode cJ6_bitCount_0f7a4 24 = .ok (.iload_n 0, 1) := by decide +kernel
theorem dJ6_bitCount_0f7a4_25 : decode cJ6_bitCount_0f7a4 25 = .ok (.iload_n 0, 1) := by decide +kernel
theorem dJ6_bitCount_0f7a4_26 : decode cJ6_bitCount_0f7a4 26 = .ok (.iconst 4, 1) := by decide +kernel
theorem dJ6_bitCount_0f7a4_27 : decode cJ6_bitCount_0f7a4 27 = .ok (.iushr, 1) := by decide +kernel
theorem dJ6_bitCount_0f7a4_28 : decode cJ6_bitCount_0f7a4 28 = .ok (.iadd, 1) := by decide +kernel
theorem dJ6_bitCount_0f7a4_29 : decode cJ6_bitCount_0f7a4 29 = .ok (.ldc_w 267, 3) := by decide +kernel
theorem dJ6_bitCount_0f7a4_32 : decode cJ6_bitCount_0f7a4 32 = .ok (.iand, 1) := by decide +kernel
theorem dJ6_bitCount_0f7a4_33 : decode cJ6_bitCount_0f7a4 33 = .ok (.istore_n 0, 1) := by decide +kernel
theorem dJ6_bitCount_0f7a4_34 : decode cJ6_bitCount_0f7a4 34 = .ok (.iload_n 0, 1) := by decide +kernel
theorem dJ6_bitCount_0f7a4_35 : decode cJ6_bitCount_0f7a4 35 = .ok (.iload_n 0, 1) := by decide +kernel
theorem dJ6_bitCount_0f7a4_36 : decode cJ6_bitCount_0f7a4 36 = .ok (.bipush 8, 2) := by decide +kernel
theorem dJ6_bitCount_0f7a4_38 : decode cJ6_bitCount_0f7a4 38 = .ok (.iushr, 1) := by decide +kernel
theorem dJ6_bitCount_0f7a4_39 : decode cJ6_bitCount_0f7a4 39 = .ok (.iadd, 1) := by decide +kernel
theorem dJ6_bitCount_0f7a4_40 : decode cJ6_bitCount_0f7a4 40 = .ok (.istore_n 0, 1) := by decide +kernel
theorem dJ6_bitCount_0f7a4_41 : decode cJ6_bitCount_0f7a4 41 = .ok (.iload_n 0, 1) := by decide +kernel
theorem dJ6_bitCount_0f7a4_42 : decode cJ6_bitCount_0f7a4 42 = .ok (.iload_n 0, 1) := by decide +kernel
theorem dJ6_bitCount_0f7a4_43 : decode cJ6_bitCount_0f7a4 43 = .ok (.bipush 16, 2) := by decide +kernel
theorem dJ6_bitCount_0f7a4_45 : decode cJ6_bitCount_0f7a4 45 = .ok (.iushr, 1) := by decide +kernel
theorem dJ6_bitCount_0f7a4_46 : decode cJ6_bitCount_0f7a4 46 = .ok (.iadd, 1) := by decide +kernel
theorem dJ6_bitCount_0f7a4_47 : decode cJ6_bitCount_0f7a4 47 = .ok (.istore_n 0, 1) := by decide +kernel
theorem dJ6_bitCount_0f7a4_48 : decode cJ6_bitCount_0f7a4 48 = .ok (.iload_n 0, 1) := by decide +kernel
theorem dJ6_bitCount_0f7a4_49 : decode cJ6_bitCount_0f7a4 49 = .ok (.bipush 63, 2) := by decide +kernel
theorem dJ6_bitCount_0f7a4_51 : decode cJ6_bitCount_0f7a4 51 = .ok (.iand, 1) := by decide +kernel
theorem dJ6_bitCount_0f7a4_52 : decode cJ6_bitCount_0f7a4 52 = .ok (.ireturn, 1) := by decide +kernel
def rmJ6_bitCount_0f7a4 : Room := { frames := 0, cells := 0, slots := 0, locals := 0 }
set_option maxRecDepth 100000 in
def g_J6_bitCount_0f7a4_0 (x0 : Int32) (m : MM) : Option (Int32 × MM) :=
  bnd (x0 - ((iush x0 1) &&& 1431655765)) (fun y1 => bnd ((y1 &&& 858993459) + ((iush y1 2) &&& 858993459)) (fun y2 => bnd ((y2 + (iush y2 4)) &&& 252645135) (fun y3 => bnd (y3 + (iush y3 8)) (fun y4 => bnd (y4 + (iush y4 16)) (fun y5 => some (y5 &&& 63, m))))))
set_option maxHeartbeats 4000000 in
set_option maxRecDepth 100000 in
theorem s_J6_bitCount_0f7a4_0 {Γ : GX} {E : EX} (C : Cx Γ E cJ6_bitCount_0f7a4 RJ6 1) (hr : Γ.meth.sig.returnType = (some .int)) (hrm : Γ.rm = rmJ6_bitCount_0f7a4) (x0 : Int32) (m : MM) : Sm (QM Γ E emI 0 0) Γ E 1 0 0 0 [(0, .int x0)] [] m (g_J6_bitCount_0f7a4_0 x0 m) := by
  unfold g_J6_bitCount_0f7a4_0
  refine z_iload_n C dJ6_bitCount_0f7a4_0 rfl 0 rfl ?_
  refine z_iload_n C dJ6_bitCount_0f7a4_1 rfl 0 rfl ?_
  refine z_iconst (v := 1) C dJ6_bitCount_0f7a4_2 (by decide) ?_
  refine z_iushr C dJ6_bitCount_0f7a4_3 ?_
  refine z_ldcw C dJ6_bitCount_0f7a4_4 kc_RJ6_265 ?_
  refine z_iand C dJ6_bitCount_0f7a4_7 ?_
  refine z_isub C dJ6_bitCount_0f7a4_8 ?_
  refine z_bndI (fun y1 => ?_)
  refine z_istore_n (i := 0) (L2 := [(0, .int y1)]) C dJ6_bitCount_0f7a4_9 rfl (by decide) rfl ?_
  refine z_iload_n C dJ6_bitCount_0f7a4_10 rfl 0 rfl ?_
  refine z_ldcw C dJ6_bitCount_0f7a4_11 kc_RJ6_266 ?_
  refine z_iand C dJ6_bitCount_0f7a4_14 ?_
  refine z_iload_n C dJ6_bitCount_0f7a4_15 rfl 0 rfl ?_
  refine z_iconst (v := 2) C dJ6_bitCount_0f7a4_16 (by decide) ?_
  refine z_iushr C dJ6_bitCount_0f7a4_17 ?_
  refine z_ldcw C dJ6_bitCount_0f7a4_18 kc_RJ6_266 ?_
  refine z_iand C dJ6_bitCount_0f7a4_21 ?_
  refine z_iadd C dJ6_bitCount_0f7a4_22 ?_
  refine z_bndI (fun y2 => ?_)
  refine z_istore_n (i := 0) (L2 := [(0, .int y2)]) C dJ6_bitCount_0f7a4_23 rfl (by decide) rfl ?_
  refine z_iload_n C dJ6_bitCount_0f7a4_24 rfl 0 rfl ?_
  refine z_iload_n C dJ6_bitCount_0f7a4_25 rfl 0 rfl ?_
  refine z_iconst (v := 4) C dJ6_bitCount_0f7a4_26 (by decide) ?_
  refine z_iushr C dJ6_bitCount_0f7a4_27 ?_
  refine z_iadd C dJ6_bitCount_0f7a4_28 ?_
  refine z_ldcw C dJ6_bitCount_0f7a4_29 kc_RJ6_267 ?_
  refine z_iand C dJ6_bitCount_0f7a4_32 ?_
  refine z_bndI (fun y3 => ?_)
  refine z_istore_n (i := 0) (L2 := [(0, .int y3)]) C dJ6_bitCount_0f7a4_33 rfl (by decide) rfl ?_
  refine z_iload_n C dJ6_bitCount_0f7a4_34 rfl 0 rfl ?_
  refine z_iload_n C dJ6_bitCount_0f7a4_35 rfl 0 rfl ?_
  refine z_bipush (v := 8) C dJ6_bitCount_0f7a4_36 (by decide) ?_
  refine z_iushr C dJ6_bitCount_0f7a4_38 ?_
  refine z_iadd C dJ6_bitCount_0f7a4_39 ?_
  refine z_bndI (fun y4 => ?_)
  refine z_istore_n (i := 0) (L2 := [(0, .int y4)]) C dJ6_bitCount_0f7a4_40 rfl (by decide) rfl ?_
  refine z_iload_n C dJ6_bitCount_0f7a4_41 rfl 0 rfl ?_
  refine z_iload_n C dJ6_bitCount_0f7a4_42 rfl 0 rfl ?_
  refine z_bipush (v := 16) C dJ6_bitCount_0f7a4_43 (by decide) ?_
  refine z_iushr C dJ6_bitCount_0f7a4_45 ?_
  refine z_iadd C dJ6_bitCount_0f7a4_46 ?_
  refine z_bndI (fun y5 => ?_)
  refine z_istore_n (i := 0) (L2 := [(0, .int y5)]) C dJ6_bitCount_0f7a4_47 rfl (by decide) rfl ?_
  refine z_iload_n C dJ6_bitCount_0f7a4_48 rfl 0 rfl ?_
  refine z_bipush (v := 63) C dJ6_bitCount_0f7a4_49 (by decide) ?_
  refine z_iand C dJ6_bitCount_0f7a4_51 ?_
  exact z_iret C hr dJ6_bitCount_0f7a4_52
def f_J6_bitCount_0f7a4 (p0 : Int32) (m : MM) : Option (Int32 × MM) := g_J6_bitCount_0f7a4_0 p0 m
theorem M_J6_bitCount_0f7a4 (l : Launch) (E : EX) (p0 : Int32) (m : MM) (r : Int32) (m2 : MM) (h : f_J6_bitCount_0f7a4 p0 m = some (r, m2)) : Met l yJ6_bitCount_0f7a4 (.code yJ6_bitCount_0f7a4 cJ6_bitCount_0f7a4 1 (some .int) :: TB) rmJ6_bitCount_0f7a4 (va_Pc [.int p0] (St E m)) (QR E (emI r) m2) 0 0 (AA E) :=
  met_of (em := emI) (by decide +kernel) (Nat.le_of_ble_eq_true rfl) (L0 := [(0, .int p0)]) rfl (fun Γ _ hrm C hr hn => s_J6_bitCount_0f7a4_0 C hr hrm p0 m) h

theorem dJ13_bitCount_95d88_0 : decode cJ13_bitCount_95d88 0 = .ok (.lload_n 0, 1) := by decide +kernel
theorem dJ13_bitCount_95d88_1 : decode cJ13_bitCount_95d88 1 = .ok (.lload_n 0, 1) := by decide +kernel
theorem dJ13_bitCount_95d88_2 : decode cJ13_bitCount_95d88 2 = .ok (.iconst 1, 1) := by decide +kernel
theorem dJ13_bitCount_95d88_3 : decode cJ13_bitCount_95d88 3 = .ok (.lushr, 1) := by decide +kernel
theorem dJ13_bitCount_95d88_4 : decode cJ13_bitCount_95d88 4 = .ok (.ldc2_w 314, 3) := by decide +kernel
theorem dJ13_bitCount_95d88_7 : decode cJ13_bitCount_95d88 7 = .ok (.land, 1) := by decide +kernel
theorem dJ13_bitCount_95d88_8 : decode cJ13_bitCount_95d88 8 = .ok (.lsub, 1) := by decide +kernel
theorem dJ13_bitCount_95d88_9 : decode cJ13_bitCount_95d88 9 = .ok (.lstore_n 0, 1) := by decide +kernel
theorem dJ13_bitCount_95d88_10 : decode cJ13_bitCount_95d88 10 = .ok (.lload_n 0, 1) := by decide +kernel
theorem dJ13_bitCount_95d88_11 : decode cJ13_bitCount_95d88 11 = .ok (.ldc2_w 316, 3) := by decide +kernel
theorem dJ13_bitCount_95d88_14 : decode cJ13_bitCount_95d88 14 = .ok (.land, 1) := by decide +kernel
theorem dJ13_bitCount_95d88_15 : decode cJ13_bitCount_95d88 15 = .ok (.lload_n 0, 1) := by decide +kernel
theorem dJ13_bitCount_95d88_16 : decode cJ13_bitCount_95d88 16 = .ok (.iconst 2, 1) := by decide +kernel
theorem dJ13_bitCount_95d88_17 : decode cJ13_bitCount_95d88 17 = .ok (.lushr, 1) := by decide +kernel
theorem dJ13_bitCount_95d88_18 : decode cJ13_bitCount_95d88 18 = .ok (.ldc2_w 316, 3) := by decide +kernel
theorem dJ13_bitCount_95d88_21 : decode cJ13_bitCount_95d88 21 = .ok (.land, 1) := by decide +kernel
theorem dJ13_bitCount_95d88_22 : decode cJ13_bitCount_95d88 22 = .ok (.ladd, 1) := by decide +kernel
theorem dJ13_bitCount_95d88_23 : decode cJ13_bitCount_95d88 23 = .ok (.lstore_n 0, 1) := by decide +kernel
theorem dJ13_bitCount_95d88_24 : decode cJ13_bitCount_95d88 24 = .ok (.lload_n 0, 1) := by decide +kernel
theorem dJ13_bitCount_95d88_25 : decode cJ13_bitCount_95d88 25 = .ok (.lload_n 0, 1) := by decide +kernel
theorem dJ13_bitCount_95d88_26 : decode cJ13_bitCount_95d88 26 = .ok (.iconst 4, 1) := by decide +kernel
theorem dJ13_bitCount_95d88_27 : decode cJ13_bitCount_95d88 27 = .ok (.lushr, 1) := by decide +kernel
theorem dJ13_bitCount_95d88_28 : decode cJ13_bitCount_95d88 28 = .ok (.ladd, 1) := by decide +kernel
theorem dJ13_bitCount_95d88_29 : decode cJ13_bitCount_95d88 29 = .ok (.ldc2_w 318, 3) := by decide +kernel
theorem dJ13_bitCount_95d88_32 : decode cJ13_bitCount_95d88 32 = .ok (.land, 1) := by decide +kernel
theorem dJ13_bitCount_95d88_33 : decode cJ13_bitCount_95d88 33 = .ok (.lstore_n 0, 1) := by decide +kernel
theorem dJ13_bitCount_95d88_34 : decode cJ13_bitCount_95d88 34 = .ok (.lload_n 0, 1) := by decide +kernel
theorem dJ13_bitCount_95d88_35 : decode cJ13_bitCount_95d88 35 = .ok (.lload_n 0, 1) := by decide +kernel
theorem dJ13_bitCount_95d88_36 : decode cJ13_bitCount_95d88 36 = .ok (.bipush 8, 2) := by decide +kernel
theorem dJ13_bitCount_95d88_38 : decode cJ13_bitCount_95d88 38 = .ok (.lushr, 1) := by decide +kernel
theorem dJ13_bitCount_95d88_39 : decode cJ13_bitCount_95d88 39 = .ok (.ladd, 1) := by decide +kernel
theorem dJ13_bitCount_95d88_40 : decode cJ13_bitCount_95d88 40 = .ok (.lstore_n 0, 1) := by decide +kernel
theorem dJ13_bitCount_95d88_41 : decode cJ13_bitCount_95d88 41 = .ok (.lload_n 0, 1) := by decide +kernel
theorem dJ13_bitCount_95d88_42 : decode cJ13_bitCount_95d88 42 = .ok (.lload_n 0, 1) := by decide +kernel
theorem dJ13_bitCount_95d88_43 : decode cJ13_bitCount_95d88 43 = .ok (.bipush 16, 2) := by decide +kernel
theorem dJ13_bitCount_95d88_45 : decode cJ13_bitCount_95d88 45 = .ok (.lushr, 1) := by decide +kernel
theorem dJ13_bitCount_95d88_46 : decode cJ13_bitCount_95d88 46 = .ok (.ladd, 1) := by decide +kernel
theorem dJ13_bitCount_95d88_47 : decode cJ13_bitCount_95d88 47 = .ok (.lstore_n 0, 1) := by decide +kernel
theorem dJ13_bitCount_95d88_48 : decode cJ13_bitCount_95d88 48 = .ok (.lload_n 0, 1) := by decide +kernel
theorem dJ13_bitCount_95d88_49 : decode cJ13_bitCount_95d88 49 = .ok (.lload_n 0, 1) := by decide +kernel
theorem dJ13_bitCount_95d88_50 : decode cJ13_bitCount_95d88 50 = .ok (.bipush 32, 2) := by decide +kernel
theorem dJ13_bitCount_95d88_52 : decode cJ13_bitCount_95d88 52 = .ok (.lushr, 1) := by decide +kernel
theorem dJ13_bitCount_95d88_53 : decode cJ13_bitCount_95d88 53 = .ok (.ladd, 1) := by decide +kernel
theorem dJ13_bitCount_95d88_54 : decode cJ13_bitCount_95d88 54 = .ok (.lstore_n 0, 1) := by decide +kernel
theorem dJ13_bitCount_95d88_55 : decode cJ13_bitCount_95d88 55 = .ok (.lload_n 0, 1) := by decide +kernel
theorem dJ13_bitCount_95d88_56 : decode cJ13_bitCount_95d88 56 = .ok (.l2i, 1) := by decide +kernel
theorem dJ13_bitCount_95d88_57 : decode cJ13_bitCount_95d88 57 = .ok (.bipush 127, 2) := by decide +kernel
theorem dJ13_bitCount_95d88_59 : decode cJ13_bitCount_95d88 59 = .ok (.iand, 1) := by decide +kernel
theorem dJ13_bitCount_95d88_60 : decode cJ13_bitCount_95d88 60 = .ok (.ireturn, 1) := by decide +kernel
def rmJ13_bitCount_95d88 : Room := { frames := 0, cells := 0, slots := 0, locals := 0 }
set_option maxRecDepth 100000 in
def g_J13_bitCount_95d88_0 (x0 : Int64) (m : MM) : Option (Int32 × MM) :=
  bnd (x0 - ((lush x0 1) &&& 6148914691236517205)) (fun y1 => bnd ((y1 &&& 3689348814741910323) + ((lush y1 2) &&& 3689348814741910323)) (fun y2 => bnd ((y2 + (lush y2 4)) &&& 1085102592571150095) (fun y3 => bnd (y3 + (lush y3 8)) (fun y4 => bnd (y4 + (lush y4 16)) (fun y5 => bnd (y5 + (lush y5 32)) (fun y6 => some ((Int64.toInt32 y6) &&& 127, m)))))))
set_option maxHeartbeats 4000000 in
set_option maxRecDepth 100000 in
theorem s_J13_bitCount_95d88_0 {Γ : GX} {E : EX} (C : Cx Γ E cJ13_bitCount_95d88 RJ13 2) (hr : Γ.meth.sig.returnType = (some .int)) (hrm : Γ.rm = rmJ13_bitCount_95d88) (x0 : Int64) (m : MM) : Sm (QM Γ E emI 0 0) Γ E 2 0 0 0 [(0, .long x0)] [] m (g_J13_bitCount_95d88_0 x0 m) := by
  unfold g_J13_bitCount_95d88_0
  refine z_lload_n C dJ13_bitCount_95d88_0 rfl 0 rfl ?_
  refine z_lload_n C dJ13_bitCount_95d88_1 rfl 0 rfl ?_
  refine z_iconst (v := 1) C dJ13_bitCount_95d88_2 (by decide) ?_
  refine z_lushr C dJ13_bitCount_95d88_3 ?_
  refine z_ldc2 C dJ13_bitCount_95d88_4 kl_RJ13_314 ?_
  refine z_land C dJ13_bitCount_95d88_7 ?_
  refine z_lsub C dJ13_bitCount_95d88_8 ?_
  refine z_bndJ (fun y1 => ?_)
  refine z_lstore_n (i := 0) (L2 := [(0, .long y1)]) C dJ13_bitCount_95d88_9 rfl (by decide) rfl ?_
  refine z_lload_n C dJ13_bitCount_95d88_10 rfl 0 rfl ?_
  refine z_ldc2 C dJ13_bitCount_95d88_11 kl_RJ13_316 ?_
  refine z_land C dJ13_bitCount_95d88_14 ?_
  refine z_lload_n C dJ13_bitCount_95d88_15 rfl 0 rfl ?_
  refine z_iconst (v := 2) C dJ13_bitCount_95d88_16 (by decide) ?_
  refine z_lushr C dJ13_bitCount_95d88_17 ?_
  refine z_ldc2 C dJ13_bitCount_95d88_18 kl_RJ13_316 ?_
  refine z_land C dJ13_bitCount_95d88_21 ?_
  refine z_ladd C dJ13_bitCount_95d88_22 ?_
  refine z_bndJ (fun y2 => ?_)
  refine z_lstore_n (i := 0) (L2 := [(0, .long y2)]) C dJ13_bitCount_95d88_23 rfl (by decide) rfl ?_
  refine z_lload_n C dJ13_bitCount_95d88_24 rfl 0 rfl ?_
  refine z_lload_n C dJ13_bitCount_95d88_25 rfl 0 rfl ?_
  refine z_iconst (v := 4) C dJ13_bitCount_95d88_26 (by decide) ?_
  refine z_lushr C dJ13_bitCount_95d88_27 ?_
  refine z_ladd C dJ13_bitCount_95d88_28 ?_
  refine z_ldc2 C dJ13_bitCount_95d88_29 kl_RJ13_318 ?_
  refine z_land C dJ13_bitCount_95d88_32 ?_
  refine z_bndJ (fun y3 => ?_)
  refine z_lstore_n (i := 0) (L2 := [(0, .long y3)]) C dJ13_bitCount_95d88_33 rfl (by decide) rfl ?_
  refine z_lload_n C dJ13_bitCount_95d88_34 rfl 0 rfl ?_
  refine z_lload_n C dJ13_bitCount_95d88_35 rfl 0 rfl ?_
  refine z_bipush (v := 8) C dJ13_bitCount_95d88_36 (by decide) ?_
  refine z_lushr C dJ13_bitCount_95d88_38 ?_
  refine z_ladd C dJ13_bitCount_95d88_39 ?_
  refine z_bndJ (fun y4 => ?_)
  refine z_lstore_n (i := 0) (L2 := [(0, .long y4)]) C dJ13_bitCount_95d88_40 rfl (by decide) rfl ?_
  refine z_lload_n C dJ13_bitCount_95d88_41 rfl 0 rfl ?_
  refine z_lload_n C dJ13_bitCount_95d88_42 rfl 0 rfl ?_
  refine z_bipush (v := 16) C dJ13_bitCount_95d88_43 (by decide) ?_
  refine z_lushr C dJ13_bitCount_95d88_45 ?_
  refine z_ladd C dJ13_bitCount_95d88_46 ?_
  refine z_bndJ (fun y5 => ?_)
  refine z_lstore_n (i := 0) (L2 := [(0, .long y5)]) C dJ13_bitCount_95d88_47 rfl (by decide) rfl ?_
  refine z_lload_n C dJ13_bitCount_95d88_48 rfl 0 rfl ?_
  refine z_lload_n C dJ13_bitCount_95d88_49 rfl 0 rfl ?_
  refine z_bipush (v := 32) C dJ13_bitCount_95d88_50 (by decide) ?_
  refine z_lushr C dJ13_bitCount_95d88_52 ?_
  refine z_ladd C dJ13_bitCount_95d88_53 ?_
  refine z_bndJ (fun y6 => ?_)
  refine z_lstore_n (i := 0) (L2 := [(0, .long y6)]) C dJ13_bitCount_95d88_54 rfl (by decide) rfl ?_
  refine z_lload_n C dJ13_bitCount_95d88_55 rfl 0 rfl ?_
  refine z_l2i C dJ13_bitCount_95d88_56 ?_
  refine z_bipush (v := 127) C dJ13_bitCount_95d88_57 (by decide) ?_
  refine z_iand C dJ13_bitCount_95d88_59 ?_
  exact z_iret C hr dJ13_bitCount_95d88_60
def f_J13_bitCount_95d88 (p0 : Int64) (m : MM) : Option (Int32 × MM) := g_J13_bitCount_95d88_0 p0 m
theorem M_J13_bitCount_95d88 (l : Launch) (E : EX) (p0 : Int64) (m : MM) (r : Int32) (m2 : MM) (h : f_J13_bitCount_95d88 p0 m = some (r, m2)) : Met l yJ13_bitCount_95d88 (.code yJ13_bitCount_95d88 cJ13_bitCount_95d88 2 (some .int) :: TB) rmJ13_bitCount_95d88 (va_Pc [.long p0] (St E m)) (QR E (emI r) m2) 0 0 (AA E) :=
  met_of (em := emI) (by decide +kernel) (Nat.le_of_ble_eq_true rfl) (L0 := [(0, .long p0)]) rfl (fun Γ _ hrm C hr hn => s_J13_bitCount_95d88_0 C hr hrm p0 m) h
