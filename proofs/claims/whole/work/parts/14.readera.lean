theorem dX4_init_0 : decode cX4_init 0 = .ok (.aload_n 0, 1) := by decide +kernel
theorem dX4_init_1 : decode cX4_init 1 = .ok (.invokespecial 3, 3) := by decide +kernel
theorem dX4_init_4 : decode cX4_init 4 = .ok (.aload_n 0, 1) := by decide +kernel
theorem dX4_init_5 : decode cX4_init 5 = .ok (.new 9, 3) := by decide +kernel
theorem dX4_init_8 : decode cX4_init 8 = .ok (.dup, 1) := by decide +kernel
theorem dX4_init_9 : decode cX4_init 9 = .ok (.invokespecial 11, 3) := by decide +kernel
theorem dX4_init_12 : decode cX4_init 12 = .ok (.putfield 12, 3) := by decide +kernel
theorem dX4_init_15 : decode cX4_init 15 = .ok (.aload_n 0, 1) := by decide +kernel
theorem dX4_init_16 : decode cX4_init 16 = .ok (.new 18, 3) := by decide +kernel
theorem dX4_init_19 : decode cX4_init 19 = .ok (.dup, 1) := by decide +kernel
theorem dX4_init_20 : decode cX4_init 20 = .ok (.invokespecial 20, 3) := by decide +kernel
theorem dX4_init_23 : decode cX4_init 23 = .ok (.putfield 21, 3) := by decide +kernel
theorem dX4_init_26 : decode cX4_init 26 = .ok (.aload_n 0, 1) := by decide +kernel
theorem dX4_init_27 : decode cX4_init 27 = .ok (.bipush 6, 2) := by decide +kernel
theorem dX4_init_29 : decode cX4_init 29 = .ok (.newarray .int, 2) := by decide +kernel
theorem dX4_init_31 : decode cX4_init 31 = .ok (.putfield 25, 3) := by decide +kernel
theorem dX4_init_34 : decode cX4_init 34 = .ok (.aload_n 0, 1) := by decide +kernel
theorem dX4_init_35 : decode cX4_init 35 = .ok (.bipush 6, 2) := by decide +kernel
theorem dX4_init_37 : decode cX4_init 37 = .ok (.newarray .int, 2) := by decide +kernel
theorem dX4_init_39 : decode cX4_init 39 = .ok (.putfield 29, 3) := by decide +kernel
theorem dX4_init_42 : decode cX4_init 42 = .ok (.return_, 1) := by decide +kernel
def rmX4_init : Room := { frames := 3, cells := 20, slots := 364, locals := 62 }
set_option maxRecDepth 100000 in
def f_X4_init (th : Nat) (m : MM) : Option (Unit × MM) :=
  bnd m.S (fun a1 => bnd (m.nw 9 0) (fun m1 => cal (f_X8_init a1 m1) (fun r1 m2 => chk (m2.K th = 5) (bnd (m2.sR 500 th 0 (some a1)) (fun m3 => bnd m3.S (fun a2 => bnd (m3.nw 3 0) (fun m4 => cal (f_X2_init a2 m4) (fun r2 m5 => chk (m5.K th = 5) (bnd (m5.sR 501 th 0 (some a2)) (fun m6 => bnd m6.S (fun a3 => bnd (m6.nw 22 6) (fun m7 => chk (m7.K th = 5) (bnd (m7.sR 502 th 0 (some a3)) (fun m8 => bnd m8.S (fun a4 => bnd (m8.nw 22 6) (fun m9 => chk (m9.K th = 5) (bnd (m9.sR 503 th 0 (some a4)) (fun m10 => some ((), m10)))))))))))))))))))
set_option maxHeartbeats 4000000 in
set_option maxRecDepth 100000 in
theorem s_X4_init_0 {Γ : GX} {E : EX} (C : Cx Γ E cX4_init RX4 1) (hr : Γ.meth.sig.returnType = none) (hrm : Γ.rm = rmX4_init) (hnm : Γ.meth.name = "<init>") (th : Nat) (m : MM) : Sm (QM Γ E emV 20 364) Γ E 1 0 0 0 [(0, va_rf (some th))] [] m (f_X4_init th m) := by
  unfold f_X4_init
  refine z_aload_n C dX4_init_0 rfl 0 rfl ?_
  refine z_obj C rfl mo_RX4_3 (by rw [hrm]; exact Nat.le_of_ble_eq_true rfl) (by rw [hrm]; exact Nat.le_of_ble_eq_true rfl) (Nat.le_of_ble_eq_true rfl) dX4_init_1 ?_
  refine z_aload_n C dX4_init_4 rfl 0 rfl ?_
  refine z_new2 C co_X8 cl_RX4_9 in_RX8 ii_RX8 (by rw [hrm]; exact Nat.le_of_ble_eq_true rfl) (by rw [hrm]; exact Nat.le_of_ble_eq_true rfl) dX4_init_5 (fun a1 m1 hk1 => ?_)
  refine z_dup C rfl dX4_init_8 ?_
  refine z_callI [] [va_rf (some a1), va_rf (some th)] C mv_RX4_11 (fun r0 m0 h0 => M_X8_init _ _ _ _ _ _ h0) rfl rfl ⟨by rw [hrm]; exact Nat.le_of_ble_eq_true rfl, by rw [hrm]; exact Nat.le_of_ble_eq_true rfl⟩ rfl rfl rfl (Nat.le_of_ble_eq_true rfl) dX4_init_9 ⟨by rw [hrm]; exact Nat.le_of_ble_eq_true rfl, by rw [hrm]; exact Nat.le_of_ble_eq_true rfl⟩ (fun r1 m2 => ?_)
  refine z_chk (fun hk2 => ?_)
  refine z_putR C fl_RX4_12 (fun _ => ⟨hnm, rfl⟩) rfl hk2 nr_of fr_of dX4_init_12 (fun m3 eK1 eN1 => ?_)
  refine z_aload_n C dX4_init_15 rfl 0 rfl ?_
  refine z_new2 C co_X2 cl_RX4_18 in_RX2 ii_RX2 (by rw [hrm]; exact Nat.le_of_ble_eq_true rfl) (by rw [hrm]; exact Nat.le_of_ble_eq_true rfl) dX4_init_16 (fun a2 m4 hk3 => ?_)
  refine z_dup C rfl dX4_init_19 ?_
  refine z_callI [] [va_rf (some a2), va_rf (some th)] C mv_RX4_20 (fun r0 m0 h0 => M_X2_init _ _ _ _ _ _ h0) rfl rfl ⟨by rw [hrm]; exact Nat.le_of_ble_eq_true rfl, by rw [hrm]; exact Nat.le_of_ble_eq_true rfl⟩ rfl rfl rfl (Nat.le_of_ble_eq_true rfl) dX4_init_20 ⟨by rw [hrm]; exact Nat.le_of_ble_eq_true rfl, by rw [hrm]; exact Nat.le_of_ble_eq_true rfl⟩ (fun r2 m5 => ?_)
  refine z_chk (fun hk4 => ?_)
  refine z_putR C fl_RX4_21 (fun _ => ⟨hnm, rfl⟩) rfl hk4 nr_of fr_of dX4_init_23 (fun m6 eK2 eN2 => ?_)
  refine z_aload_n C dX4_init_26 rfl 0 rfl ?_
  refine z_bipush (v := 6) C dX4_init_27 (by decide) ?_
  refine z_newa2 (at0 := .int) (kd := 22) (N := 6) C ac_int (by decide) (by decide) rfl (by decide) (by decide) (by decide) (by rw [hrm]; exact Nat.le_of_ble_eq_true rfl) (by rw [hrm]; exact Nat.le_of_ble_eq_true rfl) dX4_init_29 (fun a3 m7 hk5 => ?_)
  refine z_chk (fun hk6 => ?_)
  refine z_putR C fl_RX4_25 (fun _ => ⟨hnm, rfl⟩) rfl hk6 na_of fa_of dX4_init_31 (fun m8 eK3 eN3 => ?_)
  refine z_aload_n C dX4_init_34 rfl 0 rfl ?_
  refine z_bipush (v := 6) C dX4_init_35 (by decide) ?_
  refine z_newa2 (at0 := .int) (kd := 22) (N := 6) C ac_int (by decide) (by decide) rfl (by decide) (by decide) (by decide) (by rw [hrm]; exact Nat.le_of_ble_eq_true rfl) (by rw [hrm]; exact Nat.le_of_ble_eq_true rfl) dX4_init_37 (fun a4 m9 hk7 => ?_)
  refine z_chk (fun hk8 => ?_)
  refine z_putR C fl_RX4_29 (fun _ => ⟨hnm, rfl⟩) rfl hk8 na_of fa_of dX4_init_39 (fun m10 eK4 eN4 => ?_)
  refine z_wid (k := 20) (n := 364) (Nat.le_of_ble_eq_true rfl) (Nat.le_of_ble_eq_true rfl) ?_
  exact z_vret C hr dX4_init_42
theorem M_X4_init (l : Launch) (E : EX) (th : Nat) (m : MM) (r : Unit) (m2 : MM) (h : f_X4_init th m = some (r, m2)) : Met l yX4_init (.code yX4_init cX4_init 1 none :: TB) rmX4_init (va_Pc [.ref th] (St E m)) (QR E (emV r) m2) 20 364 (AA E) :=
  met_of (em := emV) (plainFor_of_name rfl) (Nat.le_of_ble_eq_true rfl) (L0 := [(0, va_rf (some th))]) rfl (fun Γ _ hrm C hr hn => s_X4_init_0 C hr hrm hn th m) h

theorem dX4_byteAt_0 : decode cX4_byteAt 0 = .ok (.aload_n 0, 1) := by decide +kernel
theorem dX4_byteAt_1 : decode cX4_byteAt 1 = .ok (.getfield 63, 3) := by decide +kernel
theorem dX4_byteAt_4 : decode cX4_byteAt 4 = .ok (.ifnull 29, 3) := by decide +kernel
theorem dX4_byteAt_7 : decode cX4_byteAt 7 = .ok (.iload_n 1, 1) := by decide +kernel
theorem dX4_byteAt_8 : decode cX4_byteAt 8 = .ok (.ifCond .lt 25, 3) := by decide +kernel
theorem dX4_byteAt_11 : decode cX4_byteAt 11 = .ok (.iload_n 1, 1) := by decide +kernel
theorem dX4_byteAt_12 : decode cX4_byteAt 12 = .ok (.aload_n 0, 1) := by decide +kernel
theorem dX4_byteAt_13 : decode cX4_byteAt 13 = .ok (.getfield 63, 3) := by decide +kernel
theorem dX4_byteAt_16 : decode cX4_byteAt 16 = .ok (.arraylength, 1) := by decide +kernel
theorem dX4_byteAt_17 : decode cX4_byteAt 17 = .ok (.if_icmp .ge 16, 3) := by decide +kernel
theorem dX4_byteAt_20 : decode cX4_byteAt 20 = .ok (.aload_n 0, 1) := by decide +kernel
theorem dX4_byteAt_21 : decode cX4_byteAt 21 = .ok (.getfield 63, 3) := by decide +kernel
theorem dX4_byteAt_24 : decode cX4_byteAt 24 = .ok (.iload_n 1, 1) := by decide +kernel
theorem dX4_byteAt_25 : decode cX4_byteAt 25 = .ok (.baload, 1) := by decide +kernel
theorem dX4_byteAt_26 : decode cX4_byteAt 26 = .ok (.sipush 255, 3) := by decide +kernel
theorem dX4_byteAt_29 : decode cX4_byteAt 29 = .ok (.iand, 1) := by decide +kernel
theorem dX4_byteAt_30 : decode cX4_byteAt 30 = .ok (.goto 4, 3) := by decide +kernel
theorem dX4_byteAt_33 : decode cX4_byteAt 33 = .ok (.iconst 0, 1) := by decide +kernel
theorem dX4_byteAt_34 : decode cX4_byteAt 34 = .ok (.ireturn, 1) := by decide +kernel
def rmX4_byteAt : Room := { frames := 0, cells := 0, slots := 0, locals := 0 }
set_option maxRecDepth 100000 in
def g_X4_byteAt_33 (th : Nat) (p1 : Int32) (m : MM) : Option (Int32 × MM) :=
  some (0, m)
set_option maxHeartbeats 4000000 in
set_option maxRecDepth 100000 in
theorem s_X4_byteAt_33 {Γ : GX} {E : EX} (C : Cx Γ E cX4_byteAt RX4 2) (hr : Γ.meth.sig.returnType = (some .int)) (hrm : Γ.rm = rmX4_byteAt) (th : Nat) (p1 : Int32) (m : MM) : Sm (QM Γ E emI 0 0) Γ E 2 0 0 33 [(0, va_rf (some th)), (1, .int p1)] [] m (g_X4_byteAt_33 th p1 m) := by
  unfold g_X4_byteAt_33
  refine z_iconst (v := 0) C dX4_byteAt_33 (by decide) ?_
  exact z_iret C hr dX4_byteAt_34
set_option maxRecDepth 100000 in
def g_X4_byteAt_0 (th : Nat) (p1 : Int32) (m : MM) : Option (Int32 × MM) :=
  chk (m.K th = 5) (ifn (m.R 504 th 0) (g_X4_byteAt_33 th p1 m) (fun a1 => if p1 < 0 then (g_X4_byteAt_33 th p1 m) else (chk (m.K a1 = 21) (if (Int32.ofNat (m.N a1)) ≤ p1 then (g_X4_byteAt_33 th p1 m) else (chk (inb p1 (m.N a1) = true) (some ((m.I 21 a1 (Int32.toNatClampNeg p1)) &&& 255, m)))))))
set_option maxHeartbeats 4000000 in
set_option maxRecDepth 100000 in
theorem s_X4_byteAt_0 {Γ : GX} {E : EX} (C : Cx Γ E cX4_byteAt RX4 2) (hr : Γ.meth.sig.returnType = (some .int)) (hrm : Γ.rm = rmX4_byteAt) (th : Nat) (p1 : Int32) (m : MM) : Sm (QM Γ E emI 0 0) Γ E 2 0 0 0 [(0, va_rf (some th)), (1, .int p1)] [] m (g_X4_byteAt_0 th p1 m) := by
  unfold g_X4_byteAt_0
  refine z_aload_n C dX4_byteAt_0 rfl 0 rfl ?_
  refine z_chk (fun hk1 => ?_)
  refine z_getR C fl_RX4_63 rfl hk1 dX4_byteAt_1 ?_
  refine z_ifnull (tgt := 33) C dX4_byteAt_4 (by decide) (fun hn1 => ?_) (fun a1 ha1 => ?_)
  · exact z_sub [0, 1] rfl (s_X4_byteAt_33 C hr hrm th p1 m)
  · refine z_iload_n C dX4_byteAt_7 rfl 1 rfl ?_
    refine z_if_lt (tgt := 33) C dX4_byteAt_8 (by decide) (fun c1 => ?_) (fun c1 => ?_)
    · exact z_sub [0, 1] rfl (s_X4_byteAt_33 C hr hrm th p1 m)
    · refine z_iload_n C dX4_byteAt_11 rfl 1 rfl ?_
      refine z_aload_n C dX4_byteAt_12 rfl 0 rfl ?_
      refine z_getR C fl_RX4_63 rfl hk1 dX4_byteAt_13 ?_
      refine z_chk (fun hk2 => ?_)
      refine z_alen C ha1 hk2 (by decide) (by decide) dX4_byteAt_16 ?_
      refine z_icmp_ge (tgt := 33) C dX4_byteAt_17 (by decide) (fun c2 => ?_) (fun c2 => ?_)
      · exact z_sub [0, 1] rfl (s_X4_byteAt_33 C hr hrm th p1 m)
      · refine z_aload_n C dX4_byteAt_20 rfl 0 rfl ?_
        refine z_getR C fl_RX4_63 rfl hk1 dX4_byteAt_21 ?_
        refine z_iload_n C dX4_byteAt_24 rfl 1 rfl ?_
        refine z_chk (fun hj1 => ?_)
        refine z_bald C ha1 hk2 hj1 dX4_byteAt_25 ?_
        refine z_sipush (v := 255) C dX4_byteAt_26 (by decide) ?_
        refine z_iand C dX4_byteAt_29 ?_
        refine z_goto (tgt := 34) C dX4_byteAt_30 (by decide) ?_
        exact z_iret C hr dX4_byteAt_34
def f_X4_byteAt (th : Nat) (p1 : Int32) (m : MM) : Option (Int32 × MM) := g_X4_byteAt_0 th p1 m
theorem M_X4_byteAt (l : Launch) (E : EX) (th : Nat) (p1 : Int32) (m : MM) (r : Int32) (m2 : MM) (h : f_X4_byteAt th p1 m = some (r, m2)) : Met l yX4_byteAt (.code yX4_byteAt cX4_byteAt 2 (some .int) :: TB) rmX4_byteAt (va_Pc [.ref th, .int p1] (St E m)) (QR E (emI r) m2) 0 0 (AA E) :=
  met_of (em := emI) (plainFor_of_name rfl) (Nat.le_of_ble_eq_true rfl) (L0 := [(0, va_rf (some th)), (1, .int p1)]) rfl (fun Γ _ hrm C hr hn => s_X4_byteAt_0 C hr hrm th p1 m) h

theorem dX4_isBlank_0 : decode cX4_isBlank 0 = .ok (.iload_n 0, 1) := by decide +kernel
theorem dX4_isBlank_1 : decode cX4_isBlank 1 = .ok (.bipush 10, 2) := by decide +kernel
theorem dX4_isBlank_3 : decode cX4_isBlank 3 = .ok (.if_icmp .eq 9, 3) := by decide +kernel
theorem dX4_isBlank_6 : decode cX4_isBlank 6 = .ok (.iload_n 0, 1) := by decide +kernel
theorem dX4_isBlank_7 : decode cX4_isBlank 7 = .ok (.bipush 32, 2) := by decide +kernel
theorem dX4_isBlank_9 : decode cX4_isBlank 9 = .ok (.if_icmp .ne 7, 3) := by decide +kernel
theorem dX4_isBlank_12 : decode cX4_isBlank 12 = .ok (.iconst 1, 1) := by decide +kernel
theorem dX4_isBlank_13 : decode cX4_isBlank 13 = .ok (.goto 4, 3) := by decide +kernel
theorem dX4_isBlank_16 : decode cX4_isBlank 16 = .ok (.iconst 0, 1) := by decide +kernel
theorem dX4_isBlank_17 : decode cX4_isBlank 17 = .ok (.ireturn, 1) := by decide +kernel
def rmX4_isBlank : Room := { frames := 0, cells := 0, slots := 0, locals := 0 }
set_option maxRecDepth 100000 in
def g_X4_isBlank_12 (p0 : Int32) (m : MM) : Option (Int32 × MM) :=
  some (1, m)
set_option maxHeartbeats 4000000 in
set_option maxRecDepth 100000 in
theorem s_X4_isBlank_12 {Γ : GX} {E : EX} (C : Cx Γ E cX4_isBlank RX4 1) (hr : Γ.meth.sig.returnType = (some .boolean)) (hrm : Γ.rm = rmX4_isBlank) (p0 : Int32) (m : MM) : Sm (QM Γ E emI 0 0) Γ E 1 0 0 12 [(0, .int p0)] [] m (g_X4_isBlank_12 p0 m) := by
  unfold g_X4_isBlank_12
  refine z_iconst (v := 1) C dX4_isBlank_12 (by decide) ?_
  refine z_goto (tgt := 17) C dX4_isBlank_13 (by decide) ?_
  exact z_zret C hr rfl dX4_isBlank_17
set_option maxRecDepth 100000 in
def g_X4_isBlank_0 (p0 : Int32) (m : MM) : Option (Int32 × MM) :=
  if p0 = 10 then (g_X4_isBlank_12 p0 m) else (if p0 = 32 then (g_X4_isBlank_12 p0 m) else (some (0, m)))
set_option maxHeartbeats 4000000 in
set_option maxRecDepth 100000 in
theorem s_X4_isBlank_0 {Γ : GX} {E : EX} (C : Cx Γ E cX4_isBlank RX4 1) (hr : Γ.meth.sig.returnType = (some .boolean)) (hrm : Γ.rm = rmX4_isBlank) (p0 : Int32) (m : MM) : Sm (QM Γ E emI 0 0) Γ E 1 0 0 0 [(0, .int p0)] [] m (g_X4_isBlank_0 p0 m) := by
  unfold g_X4_isBlank_0
  refine z_iload_n C dX4_isBlank_0 rfl 0 rfl ?_
  refine z_bipush (v := 10) C dX4_isBlank_1 (by decide) ?_
  refine z_icmp_eq (tgt := 12) C dX4_isBlank_3 (by decide) (fun c1 => ?_) (fun c1 => ?_)
  · exact z_sub [0] rfl (s_X4_isBlank_12 C hr hrm p0 m)
  · refine z_iload_n C dX4_isBlank_6 rfl 0 rfl ?_
    refine z_bipush (v := 32) C dX4_isBlank_7 (by decide) ?_
    refine z_icmp_ne (tgt := 16) C dX4_isBlank_9 (by decide) (fun c2 => ?_) (fun c2 => ?_)
    · refine z_iconst (v := 0) C dX4_isBlank_16 (by decide) ?_
      exact z_zret C hr rfl dX4_isBlank_17
    · exact z_sub [0] rfl (s_X4_isBlank_12 C hr hrm p0 m)
def f_X4_isBlank (p0 : Int32) (m : MM) : Option (Int32 × MM) := g_X4_isBlank_0 p0 m
theorem M_X4_isBlank (l : Launch) (E : EX) (p0 : Int32) (m : MM) (r : Int32) (m2 : MM) (h : f_X4_isBlank p0 m = some (r, m2)) : Met l yX4_isBlank (.code yX4_isBlank cX4_isBlank 1 (some .boolean) :: TB) rmX4_isBlank (va_Pc [.int p0] (St E m)) (QR E (emI r) m2) 0 0 (AA E) :=
  met_of (em := emI) (plainFor_of_name rfl) (Nat.le_of_ble_eq_true rfl) (L0 := [(0, .int p0)]) rfl (fun Γ _ hrm C hr hn => s_X4_isBlank_0 C hr hrm p0 m) h

theorem dX4_isLetter_0 : decode cX4_isLetter 0 = .ok (.iload_n 0, 1) := by decide +kernel
theorem dX4_isLetter_1 : decode cX4_isLetter 1 = .ok (.bipush 97, 2) := by decide +kernel
theorem dX4_isLetter_3 : decode cX4_isLetter 3 = .ok (.if_icmp .lt 13, 3) := by decide +kernel
theorem dX4_isLetter_6 : decode cX4_isLetter 6 = .ok (.iload_n 0, 1) := by decide +kernel
theorem dX4_isLetter_7 : decode cX4_isLetter 7 = .ok (.bipush 122, 2) := by decide +kernel
theorem dX4_isLetter_9 : decode cX4_isLetter 9 = .ok (.if_icmp .gt 7, 3) := by decide +kernel
theorem dX4_isLetter_12 : decode cX4_isLetter 12 = .ok (.iconst 1, 1) := by decide +kernel
theorem dX4_isLetter_13 : decode cX4_isLetter 13 = .ok (.goto 4, 3) := by decide +kernel
theorem dX4_isLetter_16 : decode cX4_isLetter 16 = .ok (.iconst 0, 1) := by decide +kernel
theorem dX4_isLetter_17 : decode cX4_isLetter 17 = .ok (.ireturn, 1) := by decide +kernel
def rmX4_isLetter : Room := { frames := 0, cells := 0, slots := 0, locals := 0 }
set_option maxRecDepth 100000 in
def g_X4_isLetter_16 (p0 : Int32) (m : MM) : Option (Int32 × MM) :=
  some (0, m)
set_option maxHeartbeats 4000000 in
set_option maxRecDepth 100000 in
theorem s_X4_isLetter_16 {Γ : GX} {E : EX} (C : Cx Γ E cX4_isLetter RX4 1) (hr : Γ.meth.sig.returnType = (some .boolean)) (hrm : Γ.rm = rmX4_isLetter) (p0 : Int32) (m : MM) : Sm (QM Γ E emI 0 0) Γ E 1 0 0 16 [(0, .int p0)] [] m (g_X4_isLetter_16 p0 m) := by
  unfold g_X4_isLetter_16
  refine z_iconst (v := 0) C dX4_isLetter_16 (by decide) ?_
  exact z_zret C hr rfl dX4_isLetter_17
set_option maxRecDepth 100000 in
def g_X4_isLetter_0 (p0 : Int32) (m : MM) : Option (Int32 × MM) :=
  if p0 < 97 then (g_X4_isLetter_16 p0 m) else (if 122 < p0 then (g_X4_isLetter_16 p0 m) else (some (1, m)))
set_option maxHeartbeats 4000000 in
set_option maxRecDepth 100000 in
theorem s_X4_isLetter_0 {Γ : GX} {E : EX} (C : Cx Γ E cX4_isLetter RX4 1) (hr : Γ.meth.sig.returnType = (some .boolean)) (hrm : Γ.rm = rmX4_isLetter) (p0 : Int32) (m : MM) : Sm (QM Γ E emI 0 0) Γ E 1 0 0 0 [(0, .int p0)] [] m (g_X4_isLetter_0 p0 m) := by
  unfold g_X4_isLetter_0
  refine z_iload_n C dX4_isLetter_0 rfl 0 rfl ?_
  refine z_bipush (v := 97) C dX4_isLetter_1 (by decide) ?_
  refine z_icmp_lt (tgt := 16) C dX4_isLetter_3 (by decide) (fun c1 => ?_) (fun c1 => ?_)
  · exact z_sub [0] rfl (s_X4_isLetter_16 C hr hrm p0 m)
  · refine z_iload_n C dX4_isLetter_6 rfl 0 rfl ?_
    refine z_bipush (v := 122) C dX4_isLetter_7 (by decide) ?_
    refine z_icmp_gt (tgt := 16) C dX4_isLetter_9 (by decide) (fun c2 => ?_) (fun c2 => ?_)
    · exact z_sub [0] rfl (s_X4_isLetter_16 C hr hrm p0 m)
    · refine z_iconst (v := 1) C dX4_isLetter_12 (by decide) ?_
      refine z_goto (tgt := 17) C dX4_isLetter_13 (by decide) ?_
      exact z_zret C hr rfl dX4_isLetter_17
def f_X4_isLetter (p0 : Int32) (m : MM) : Option (Int32 × MM) := g_X4_isLetter_0 p0 m
theorem M_X4_isLetter (l : Launch) (E : EX) (p0 : Int32) (m : MM) (r : Int32) (m2 : MM) (h : f_X4_isLetter p0 m = some (r, m2)) : Met l yX4_isLetter (.code yX4_isLetter cX4_isLetter 1 (some .boolean) :: TB) rmX4_isLetter (va_Pc [.int p0] (St E m)) (QR E (emI r) m2) 0 0 (AA E) :=
  met_of (em := emI) (plainFor_of_name rfl) (Nat.le_of_ble_eq_true rfl) (L0 := [(0, .int p0)]) rfl (fun Γ _ hrm C hr hn => s_X4_isLetter_0 C hr hrm p0 m) h

theorem dX4_isDigit_0 : decode cX4_isDigit 0 = .ok (.iload_n 0, 1) := by decide +kernel
theorem dX4_isDigit_1 : decode cX4_isDigit 1 = .ok (.bipush 48, 2) := by decide +kernel
theorem dX4_isDigit_3 : decode cX4_isDigit 3 = .ok (.if_icmp .lt 13, 3) := by decide +kernel
theorem dX4_isDigit_6 : decode cX4_isDigit 6 = .ok (.iload_n 0, 1) := by decide +kernel
theorem dX4_isDigit_7 : decode cX4_isDigit 7 = .ok (.bipush 57, 2) := by decide +kernel
theorem dX4_isDigit_9 : decode cX4_isDigit 9 = .ok (.if_icmp .gt 7, 3) := by decide +kernel
theorem dX4_isDigit_12 : decode cX4_isDigit 12 = .ok (.iconst 1, 1) := by decide +kernel
theorem dX4_isDigit_13 : decode cX4_isDigit 13 = .ok (.goto 4, 3) := by decide +kernel
theorem dX4_isDigit_16 : decode cX4_isDigit 16 = .ok (.iconst 0, 1) := by decide +kernel
theorem dX4_isDigit_17 : decode cX4_isDigit 17 = .ok (.ireturn, 1) := by decide +kernel
def rmX4_isDigit : Room := { frames := 0, cells := 0, slots := 0, locals := 0 }
set_option maxRecDepth 100000 in
def g_X4_isDigit_16 (p0 : Int32) (m : MM) : Option (Int32 × MM) :=
  some (0, m)
set_option maxHeartbeats 4000000 in
set_option maxRecDepth 100000 in
theorem s_X4_isDigit_16 {Γ : GX} {E : EX} (C : Cx Γ E cX4_isDigit RX4 1) (hr : Γ.meth.sig.returnType = (some .boolean)) (hrm : Γ.rm = rmX4_isDigit) (p0 : Int32) (m : MM) : Sm (QM Γ E emI 0 0) Γ E 1 0 0 16 [(0, .int p0)] [] m (g_X4_isDigit_16 p0 m) := by
  unfold g_X4_isDigit_16
  refine z_iconst (v := 0) C dX4_isDigit_16 (by decide) ?_
  exact z_zret C hr rfl dX4_isDigit_17
set_option maxRecDepth 100000 in
def g_X4_isDigit_0 (p0 : Int32) (m : MM) : Option (Int32 × MM) :=
  if p0 < 48 then (g_X4_isDigit_16 p0 m) else (if 57 < p0 then (g_X4_isDigit_16 p0 m) else (some (1, m)))
set_option maxHeartbeats 4000000 in
set_option maxRecDepth 100000 in
theorem s_X4_isDigit_0 {Γ : GX} {E : EX} (C : Cx Γ E cX4_isDigit RX4 1) (hr : Γ.meth.sig.returnType = (some .boolean)) (hrm : Γ.rm = rmX4_isDigit) (p0 : Int32) (m : MM) : Sm (QM Γ E emI 0 0) Γ E 1 0 0 0 [(0, .int p0)] [] m (g_X4_isDigit_0 p0 m) := by
  unfold g_X4_isDigit_0
  refine z_iload_n C dX4_isDigit_0 rfl 0 rfl ?_
  refine z_bipush (v := 48) C dX4_isDigit_1 (by decide) ?_
  refine z_icmp_lt (tgt := 16) C dX4_isDigit_3 (by decide) (fun c1 => ?_) (fun c1 => ?_)
  · exact z_sub [0] rfl (s_X4_isDigit_16 C hr hrm p0 m)
  · refine z_iload_n C dX4_isDigit_6 rfl 0 rfl ?_
    refine z_bipush (v := 57) C dX4_isDigit_7 (by decide) ?_
    refine z_icmp_gt (tgt := 16) C dX4_isDigit_9 (by decide) (fun c2 => ?_) (fun c2 => ?_)
    · exact z_sub [0] rfl (s_X4_isDigit_16 C hr hrm p0 m)
    · refine z_iconst (v := 1) C dX4_isDigit_12 (by decide) ?_
      refine z_goto (tgt := 17) C dX4_isDigit_13 (by decide) ?_
      exact z_zret C hr rfl dX4_isDigit_17
def f_X4_isDigit (p0 : Int32) (m : MM) : Option (Int32 × MM) := g_X4_isDigit_0 p0 m
theorem M_X4_isDigit (l : Launch) (E : EX) (p0 : Int32) (m : MM) (r : Int32) (m2 : MM) (h : f_X4_isDigit p0 m = some (r, m2)) : Met l yX4_isDigit (.code yX4_isDigit cX4_isDigit 1 (some .boolean) :: TB) rmX4_isDigit (va_Pc [.int p0] (St E m)) (QR E (emI r) m2) 0 0 (AA E) :=
  met_of (em := emI) (plainFor_of_name rfl) (Nat.le_of_ble_eq_true rfl) (L0 := [(0, .int p0)]) rfl (fun Γ _ hrm C hr hn => s_X4_isDigit_0 C hr hrm p0 m) h

theorem dX4_step_0 : decode cX4_step 0 = .ok (.aload_n 0, 1) := by decide +kernel
theorem dX4_step_1 : decode cX4_step 1 = .ok (.getfield 70, 3) := by decide +kernel
theorem dX4_step_4 : decode cX4_step 4 = .ok (.istore_n 1, 1) := by decide +kernel
theorem dX4_step_5 : decode cX4_step 5 = .ok (.iload_n 1, 1) := by decide +kernel
theorem dX4_step_6 : decode cX4_step 6 = .ok (.aload_n 0, 1) := by decide +kernel
theorem dX4_step_7 : decode cX4_step 7 = .ok (.getfield 67, 3) := by decide +kernel
theorem dX4_step_10 : decode cX4_step 10 = .ok (.if_icmp .ge 20, 3) := by decide +kernel
theorem dX4_step_13 : decode cX4_step 13 = .ok (.aload_n 0, 1) := by decide +kernel
theorem dX4_step_14 : decode cX4_step 14 = .ok (.iload_n 1, 1) := by decide +kernel
theorem dX4_step_15 : decode cX4_step 15 = .ok (.invokevirtual 272, 3) := by decide +kernel
theorem dX4_step_18 : decode cX4_step 18 = .ok (.invokestatic 279, 3) := by decide +kernel
theorem dX4_step_21 : decode cX4_step 21 = .ok (.ifCond .eq 9, 3) := by decide +kernel
theorem dX4_step_24 : decode cX4_step 24 = .ok (.iinc 1 1, 3) := by decide +kernel
theorem dX4_step_27 : decode cX4_step 27 = .ok (.goto (-22), 3) := by decide +kernel
theorem dX4_step_30 : decode cX4_step 30 = .ok (.aload_n 0, 1) := by decide +kernel
theorem dX4_step_31 : decode cX4_step 31 = .ok (.iload_n 1, 1) := by decide +kernel
theorem dX4_step_32 : decode cX4_step 32 = .ok (.putfield 49, 3) := by decide +kernel
theorem dX4_step_35 : decode cX4_step 35 = .ok (.iload_n 1, 1) := by decide +kernel
theorem dX4_step_36 : decode cX4_step 36 = .ok (.aload_n 0, 1) := by decide +kernel
theorem dX4_step_37 : decode cX4_step 37 = .ok (.getfield 67, 3) := by decide +kernel
theorem dX4_step_40 : decode cX4_step 40 = .ok (.if_icmp .lt 11, 3) := by decide +kernel
theorem dX4_step_43 : decode cX4_step 43 = .ok (.aload_n 0, 1) := by decide +kernel
theorem dX4_step_44 : decode cX4_step 44 = .ok (.iconst 0, 1) := by decide +kernel
theorem dX4_step_45 : decode cX4_step 45 = .ok (.putfield 46, 3) := by decide +kernel
theorem dX4_step_48 : decode cX4_step 48 = .ok (.goto 170, 3) := by decide +kernel
theorem dX4_step_51 : decode cX4_step 51 = .ok (.aload_n 0, 1) := by decide +kernel
theorem dX4_step_52 : decode cX4_step 52 = .ok (.iload_n 1, 1) := by decide +kernel
theorem dX4_step_53 : decode cX4_step 53 = .ok (.invokevirtual 272, 3) := by decide +kernel
theorem dX4_step_56 : decode cX4_step 56 = .ok (.bipush 59, 2) := by decide +kernel
theorem dX4_step_58 : decode cX4_step 58 = .ok (.if_icmp .ne 14, 3) := by decide +kernel
theorem dX4_step_61 : decode cX4_step 61 = .ok (.aload_n 0, 1) := by decide +kernel
theorem dX4_step_62 : decode cX4_step 62 = .ok (.iconst 3, 1) := by decide +kernel
theorem dX4_step_63 : decode cX4_step 63 = .ok (.putfield 46, 3) := by decide +kernel
theorem dX4_step_66 : decode cX4_step 66 = .ok (.iinc 1 1, 3) := by decide +kernel
theorem dX4_step_69 : decode cX4_step 69 = .ok (.goto 149, 3) := by decide +kernel
theorem dX4_step_72 : decode cX4_step 72 = .ok (.aload_n 0, 1) := by decide +kernel
theorem dX4_step_73 : decode cX4_step 73 = .ok (.iload_n 1, 1) := by decide +kernel
theorem dX4_step_74 : decode cX4_step 74 = .ok (.invokevirtual 272, 3) := by decide +kernel
theorem dX4_step_77 : decode cX4_step 77 = .ok (.invokestatic 283, 3) := by decide +kernel
theorem dX4_step_80 : decode cX4_step 80 = .ok (.ifCond .eq 33, 3) := by decide +kernel
theorem dX4_step_83 : decode cX4_step 83 = .ok (.aload_n 0, 1) := by decide +kernel
theorem dX4_step_84 : decode cX4_step 84 = .ok (.iconst 1, 1) := by decide +kernel
theorem dX4_step_85 : decode cX4_step 85 = .ok (.putfield 46, 3) := by decide +kernel
theorem dX4_step_88 : decode cX4_step 88 = .ok (.iload_n 1, 1) := by decide +kernel
theorem dX4_step_89 : decode cX4_step 89 = .ok (.aload_n 0, 1) := by decide +kernel
theorem dX4_step_90 : decode cX4_step 90 = .ok (.getfield 67, 3) := by decide +kernel
theorem dX4_step_93 : decode cX4_step 93 = .ok (.if_icmp .ge 125, 3) := by decide +kernel
theorem dX4_step_96 : decode cX4_step 96 = .ok (.aload_n 0, 1) := by decide +kernel
theorem dX4_step_97 : decode cX4_step 97 = .ok (.iload_n 1, 1) := by decide +kernel
theorem dX4_step_98 : decode cX4_step 98 = .ok (.invokevirtual 272, 3) := by decide +kernel
theorem dX4_step_101 : decode cX4_step 101 = .ok (.invokestatic 283, 3) := by decide +kernel
theorem dX4_step_104 : decode cX4_step 104 = .ok (.ifCond .eq 114, 3) := by decide +kernel
theorem dX4_step_107 : decode cX4_step 107 = .ok (.iinc 1 1, 3) := by decide +kernel
theorem dX4_step_110 : decode cX4_step 110 = .ok (.goto (-22), 3) := by decide +kernel
theorem dX4_step_113 : decode cX4_step 113 = .ok (.aload_n 0, 1) := by decide +kernel
theorem dX4_step_114 : decode cX4_step 114 = .ok (.iload_n 1, 1) := by decide +kernel
theorem dX4_step_115 : decode cX4_step 115 = .ok (.invokevirtual 272, 3) := by decide +kernel
theorem dX4_step_118 : decode cX4_step 118 = .ok (.invokestatic 286, 3) := by decide +kernel
theorem dX4_step_121 : decode cX4_step 121 = .ok (.ifCond .eq 92, 3) := by decide +kernel
theorem dX4_step_124 : decode cX4_step 124 = .ok (.aload_n 0, 1) := by decide +kernel
theorem dX4_step_125 : decode cX4_step 125 = .ok (.iconst 0, 1) := by decide +kernel
theorem dX4_step_126 : decode cX4_step 126 = .ok (.putfield 265, 3) := by decide +kernel
theorem dX4_step_129 : decode cX4_step 129 = .ok (.iload_n 1, 1) := by decide +kernel
theorem dX4_step_130 : decode cX4_step 130 = .ok (.aload_n 0, 1) := by decide +kernel
theorem dX4_step_131 : decode cX4_step 131 = .ok (.getfield 67, 3) := by decide +kernel
theorem dX4_step_134 : decode cX4_step 134 = .ok (.if_icmp .ge 57, 3) := by decide +kernel
theorem dX4_step_137 : decode cX4_step 137 = .ok (.aload_n 0, 1) := by decide +kernel
theorem dX4_step_138 : decode cX4_step 138 = .ok (.iload_n 1, 1) := by decide +kernel
theorem dX4_step_139 : decode cX4_step 139 = .ok (.invokevirtual 272, 3) := by decide +kernel
theorem dX4_step_142 : decode cX4_step 142 = .ok (.invokestatic 286, 3) := by decide +kernel
theorem dX4_step_145 : decode cX4_step 145 = .ok (.ifCond .eq 46, 3) := by decide +kernel
theorem dX4_step_148 : decode cX4_step 148 = .ok (.aload_n 0, 1) := by decide +kernel
theorem dX4_step_149 : decode cX4_step 149 = .ok (.iload_n 1, 1) := by decide +kernel
theorem dX4_step_150 : decode cX4_step 150 = .ok (.aload_n 0, 1) := by decide +kernel
theorem dX4_step_151 : decode cX4_step 151 = .ok (.getfield 49, 3) := by decide +kernel
theorem dX4_step_154 : decode cX4_step 154 = .ok (.isub, 1) := by decide +kernel
theorem dX4_step_155 : decode cX4_step 155 = .ok (.iconst 4, 1) := by decide +kernel
theorem dX4_step_156 : decode cX4_step 156 = .ok (.if_icmp .ge 22, 3) := by decide +kernel
theorem dX4_step_159 : decode cX4_step 159 = .ok (.aload_n 0, 1) := by decide +kernel
theorem dX4_step_160 : decode cX4_step 160 = .ok (.getfield 265, 3) := by decide +kernel
theorem dX4_step_163 : decode cX4_step 163 = .ok (.bipush 10, 2) := by decide +kernel
theorem dX4_step_165 : decode cX4_step 165 = .ok (.imul, 1) := by decide +kernel
theorem dX4_step_166 : decode cX4_step 166 = .ok (.aload_n 0, 1) := by decide +kernel
theorem dX4_step_167 : decode cX4_step 167 = .ok (.iload_n 1, 1) := by decide +kernel
theorem dX4_step_168 : decode cX4_step 168 = .ok (.invokevirtual 272, 3) := by decide +kernel
theorem dX4_step_171 : decode cX4_step 171 = .ok (.iadd, 1) := by decide +kernel
theorem dX4_step_172 : decode cX4_step 172 = .ok (.bipush 48, 2) := by decide +kernel
theorem dX4_step_174 : decode cX4_step 174 = .ok (.isub, 1) := by decide +kernel
theorem dX4_step_175 : decode cX4_step 175 = .ok (.goto 7, 3) := by decide +kernel
theorem dX4_step_178 : decode cX4_step 178 = .ok (.aload_n 0, 1) := by decide +kernel
theorem dX4_step_179 : decode cX4_step 179 = .ok (.getfield 265, 3) := by decide +kernel
theorem dX4_step_182 : decode cX4_step 182 = .ok (.putfield 265, 3) := by decide +kernel
theorem dX4_step_185 : decode cX4_step 185 = .ok (.iinc 1 1, 3) := by decide +kernel
theorem dX4_step_188 : decode cX4_step 188 = .ok (.goto (-59), 3) := by decide +kernel
theorem dX4_step_191 : decode cX4_step 191 = .ok (.aload_n 0, 1) := by decide +kernel
theorem dX4_step_192 : decode cX4_step 192 = .ok (.iload_n 1, 1) := by decide +kernel
theorem dX4_step_193 : decode cX4_step 193 = .ok (.aload_n 0, 1) := by decide +kernel
theorem dX4_step_194 : decode cX4_step 194 = .ok (.getfield 49, 3) := by decide +kernel
theorem dX4_step_197 : decode cX4_step 197 = .ok (.isub, 1) := by decide +kernel
theorem dX4_step_198 : decode cX4_step 198 = .ok (.iconst 4, 1) := by decide +kernel
theorem dX4_step_199 : decode cX4_step 199 = .ok (.if_icmp .le 7, 3) := by decide +kernel
theorem dX4_step_202 : decode cX4_step 202 = .ok (.iconst 4, 1) := by decide +kernel
theorem dX4_step_203 : decode cX4_step 203 = .ok (.goto 4, 3) := by decide +kernel
theorem dX4_step_206 : decode cX4_step 206 = .ok (.iconst 2, 1) := by decide +kernel
theorem dX4_step_207 : decode cX4_step 207 = .ok (.putfield 46, 3) := by decide +kernel
theorem dX4_step_210 : decode cX4_step 210 = .ok (.goto 8, 3) := by decide +kernel
theorem dX4_step_213 : decode cX4_step 213 = .ok (.aload_n 0, 1) := by decide +kernel
theorem dX4_step_214 : decode cX4_step 214 = .ok (.iconst 4, 1) := by decide +kernel
theorem dX4_step_215 : decode cX4_step 215 = .ok (.putfield 46, 3) := by decide +kernel
theorem dX4_step_218 : decode cX4_step 218 = .ok (.aload_n 0, 1) := by decide +kernel
theorem dX4_step_219 : decode cX4_step 219 = .ok (.iload_n 1, 1) := by decide +kernel
theorem dX4_step_220 : decode cX4_step 220 = .ok (.putfield 70, 3) := by decide +kernel
theorem dX4_step_223 : decode cX4_step 223 = .ok (.return_, 1) := by decide +kernel
def rmX4_step : Room := { frames := 1, cells := 0, slots := 0, locals := 21 }
set_option maxRecDepth 100000 in
def g_X4_step_5 (th : Nat) (k5 : Int32 → MM → Option (Unit × MM)) (k30 : Int32 → MM → Option (Unit × MM)) (x1 : Int32) (m : MM) : Option (Unit × MM) :=
  chk (m.K th = 5) (if (m.I 505 th 0) ≤ x1 then (k30 x1 m) else (cal (f_X4_byteAt th x1 m) (fun r1 m1 => cal (f_X4_isBlank r1 m1) (fun r2 m2 => if r2 = 0 then (k30 x1 m2) else (k5 (x1 + 1) m2)))))
set_option maxHeartbeats 4000000 in
set_option maxRecDepth 100000 in
theorem s_X4_step_5 {Γ : GX} {E : EX} (C : Cx Γ E cX4_step RX4 2) (hr : Γ.meth.sig.returnType = none) (hrm : Γ.rm = rmX4_step) (th : Nat) (k5 : Int32 → MM → Option (Unit × MM)) (k30 : Int32 → MM → Option (Unit × MM)) (h5 : ∀ (x1 : Int32) (m : MM), Sm (QM Γ E emV 0 0) Γ E 2 0 0 5 [(0, va_rf (some th)), (1, .int x1)] [] m (k5 x1 m)) (h30 : ∀ (x1 : Int32) (m : MM), Sm (QM Γ E emV 0 0) Γ E 2 0 0 30 [(0, va_rf (some th)), (1, .int x1)] [] m (k30 x1 m)) (x1 : Int32) (m : MM) : Sm (QM Γ E emV 0 0) Γ E 2 0 0 5 [(0, va_rf (some th)), (1, .int x1)] [] m (g_X4_step_5 th k5 k30 x1 m) := by
  unfold g_X4_step_5
  refine z_iload_n C dX4_step_5 rfl 1 rfl ?_
  refine z_aload_n C dX4_step_6 rfl 0 rfl ?_
  refine z_chk (fun hk1 => ?_)
  refine z_getI C fl_RX4_67 rfl hk1 dX4_step_7 ?_
  refine z_icmp_ge (tgt := 30) C dX4_step_10 (by decide) (fun c1 => ?_) (fun c1 => ?_)
  · exact z_sub [0, 1] rfl (h30 x1 m)
  · refine z_aload_n C dX4_step_13 rfl 0 rfl ?_
    refine z_iload_n C dX4_step_14 rfl 1 rfl ?_
    refine z_cVI [.int x1] [] C mv_RX4_272 (fun r0 m0 h0 => M_X4_byteAt _ _ _ _ _ _ _ h0) rfl rfl ⟨by rw [hrm]; exact Nat.le_of_ble_eq_true rfl, by rw [hrm]; exact Nat.le_of_ble_eq_true rfl⟩ ⟨by rw [hrm]; exact Nat.le_of_ble_eq_true rfl, by rw [hrm]; exact Nat.le_of_ble_eq_true rfl⟩ rfl hk1 rfl rfl rfl (Nat.le_of_ble_eq_true rfl) dX4_step_15 (fun r1 m1 => ?_)
    refine z_cSI [.int r1] [] C mv_RX4_279 (fun r0 m0 h0 => M_X4_isBlank _ _ _ _ _ _ h0) rfl rfl ⟨by rw [hrm]; exact Nat.le_of_ble_eq_true rfl, by rw [hrm]; exact Nat.le_of_ble_eq_true rfl⟩ ⟨by rw [hrm]; exact Nat.le_of_ble_eq_true rfl, by rw [hrm]; exact Nat.le_of_ble_eq_true rfl⟩ rfl rfl (Nat.le_of_ble_eq_true rfl) dX4_step_18 (fun r2 m2 => ?_)
    refine z_if_eq (tgt := 30) C dX4_step_21 (by decide) (fun c2 => ?_) (fun c2 => ?_)
    · exact z_sub [0, 1] rfl (h30 x1 m2)
    · refine z_iinc (v := 1) (L2 := [(1, .int (x1 + 1)), (0, va_rf (some th))]) C dX4_step_24 1 rfl (by decide) (by decide) rfl ?_
      refine z_goto (tgt := 5) C dX4_step_27 (by decide) ?_
      exact z_sub [1, 0] rfl (h5 (x1 + 1) m2)
def l_X4_step_5 (th : Nat) (k30 : Int32 → MM → Option (Unit × MM)) : Nat → Int32 → MM → Option (Unit × MM) := lp (fun _ _ => none) (fun k5 => g_X4_step_5 th k5 k30)
theorem t_X4_step_5 {Γ : GX} {E : EX} (C : Cx Γ E cX4_step RX4 2) (hr : Γ.meth.sig.returnType = none) (hrm : Γ.rm = rmX4_step) (th : Nat) (k30 : Int32 → MM → Option (Unit × MM)) (h30 : ∀ (x1 : Int32) (m : MM), Sm (QM Γ E emV 0 0) Γ E 2 0 0 30 [(0, va_rf (some th)), (1, .int x1)] [] m (k30 x1 m)) : ∀ (n : Nat) (x1 : Int32) (m : MM), Sm (QM Γ E emV 0 0) Γ E 2 0 0 5 [(0, va_rf (some th)), (1, .int x1)] [] m (l_X4_step_5 th k30 n x1 m) := by
  intro n
  induction n with
  | zero => intros; exact z_none
  | succ n ih => intro x1 m; exact s_X4_step_5 C hr hrm th (l_X4_step_5 th k30 n) k30 ih h30 x1 m
set_option maxRecDepth 100000 in
def g_X4_step_88 (th : Nat) (k88 : Int32 → MM → Option (Unit × MM)) (x1 : Int32) (m : MM) : Option (Unit × MM) :=
  chk (m.K th = 5) (if (m.I 505 th 0) ≤ x1 then (bnd (m.sI 506 th 0 x1) (fun m3 => some ((), m3))) else (cal (f_X4_byteAt th x1 m) (fun r3 m4 => cal (f_X4_isLetter r3 m4) (fun r4 m5 => if r4 = 0 then (chk (m5.K th = 5) (bnd (m5.sI 506 th 0 x1) (fun m6 => some ((), m6)))) else (k88 (x1 + 1) m5)))))
set_option maxHeartbeats 4000000 in
set_option maxRecDepth 100000 in
theorem s_X4_step_88 {Γ : GX} {E : EX} (C : Cx Γ E cX4_step RX4 2) (hr : Γ.meth.sig.returnType = none) (hrm : Γ.rm = rmX4_step) (th : Nat) (k88 : Int32 → MM → Option (Unit × MM)) (h88 : ∀ (x1 : Int32) (m : MM), Sm (QM Γ E emV 0 0) Γ E 2 0 0 88 [(0, va_rf (some th)), (1, .int x1)] [] m (k88 x1 m)) (x1 : Int32) (m : MM) : Sm (QM Γ E emV 0 0) Γ E 2 0 0 88 [(0, va_rf (some th)), (1, .int x1)] [] m (g_X4_step_88 th k88 x1 m) := by
  unfold g_X4_step_88
  refine z_iload_n C dX4_step_88 rfl 1 rfl ?_
  refine z_aload_n C dX4_step_89 rfl 0 rfl ?_
  refine z_chk (fun hk2 => ?_)
  refine z_getI C fl_RX4_67 rfl hk2 dX4_step_90 ?_
  refine z_icmp_ge (tgt := 218) C dX4_step_93 (by decide) (fun c3 => ?_) (fun c3 => ?_)
  · refine z_aload_n C dX4_step_218 rfl 0 rfl ?_
    refine z_iload_n C dX4_step_219 rfl 1 rfl ?_
    refine z_putI C fl_RX4_70 (fun h => by cases h) rfl hk2 rfl rfl dX4_step_220 (fun m3 eK1 eN1 => ?_)
    exact z_vret C hr dX4_step_223
  · refine z_aload_n C dX4_step_96 rfl 0 rfl ?_
    refine z_iload_n C dX4_step_97 rfl 1 rfl ?_
    refine z_cVI [.int x1] [] C mv_RX4_272 (fun r0 m0 h0 => M_X4_byteAt _ _ _ _ _ _ _ h0) rfl rfl ⟨by rw [hrm]; exact Nat.le_of_ble_eq_true rfl, by rw [hrm]; exact Nat.le_of_ble_eq_true rfl⟩ ⟨by rw [hrm]; exact Nat.le_of_ble_eq_true rfl, by rw [hrm]; exact Nat.le_of_ble_eq_true rfl⟩ rfl hk2 rfl rfl rfl (Nat.le_of_ble_eq_true rfl) dX4_step_98 (fun r3 m4 => ?_)
    refine z_cSI [.int r3] [] C mv_RX4_283 (fun r0 m0 h0 => M_X4_isLetter _ _ _ _ _ _ h0) rfl rfl ⟨by rw [hrm]; exact Nat.le_of_ble_eq_true rfl, by rw [hrm]; exact Nat.le_of_ble_eq_true rfl⟩ ⟨by rw [hrm]; exact Nat.le_of_ble_eq_true rfl, by rw [hrm]; exact Nat.le_of_ble_eq_true rfl⟩ rfl rfl (Nat.le_of_ble_eq_true rfl) dX4_step_101 (fun r4 m5 => ?_)
    refine z_if_eq (tgt := 218) C dX4_step_104 (by decide) (fun c4 => ?_) (fun c4 => ?_)
    · refine z_aload_n C dX4_step_218 rfl 0 rfl ?_
      refine z_iload_n C dX4_step_219 rfl 1 rfl ?_
      refine z_chk (fun hk3 => ?_)
      refine z_putI C fl_RX4_70 (fun h => by cases h) rfl hk3 rfl rfl dX4_step_220 (fun m6 eK2 eN2 => ?_)
      exact z_vret C hr dX4_step_223
    · refine z_iinc (v := 1) (L2 := [(1, .int (x1 + 1)), (0, va_rf (some th))]) C dX4_step_107 1 rfl (by decide) (by decide) rfl ?_
      refine z_goto (tgt := 88) C dX4_step_110 (by decide) ?_
      exact z_sub [1, 0] rfl (h88 (x1 + 1) m5)
def l_X4_step_88 (th : Nat) : Nat → Int32 → MM → Option (Unit × MM) := lp (fun _ _ => none) (fun k88 => g_X4_step_88 th k88)
theorem t_X4_step_88 {Γ : GX} {E : EX} (C : Cx Γ E cX4_step RX4 2) (hr : Γ.meth.sig.returnType = none) (hrm : Γ.rm = rmX4_step) (th : Nat) : ∀ (n : Nat) (x1 : Int32) (m : MM), Sm (QM Γ E emV 0 0) Γ E 2 0 0 88 [(0, va_rf (some th)), (1, .int x1)] [] m (l_X4_step_88 th n x1 m) := by
  intro n
  induction n with
  | zero => intros; exact z_none
  | succ n ih => intro x1 m; exact s_X4_step_88 C hr hrm th (l_X4_step_88 th n) ih x1 m
set_option maxRecDepth 100000 in
def g_X4_step_182 (th : Nat) (k129 : Int32 → MM → Option (Unit × MM)) (k191 : Int32 → MM → Option (Unit × MM)) (x1 : Int32) (s0 : Option Nat) (s1 : Int32) (m : MM) : Option (Unit × MM) :=
  ck m s0 5 (fun a1 => bnd (m.sI 509 a1 0 s1) (fun m7 => k129 (x1 + 1) m7))
set_option maxHeartbeats 4000000 in
set_option maxRecDepth 100000 in
theorem s_X4_step_182 {Γ : GX} {E : EX} (C : Cx Γ E cX4_step RX4 2) (hr : Γ.meth.sig.returnType = none) (hrm : Γ.rm = rmX4_step) (th : Nat) (k129 : Int32 → MM → Option (Unit × MM)) (k191 : Int32 → MM → Option (Unit × MM)) (h129 : ∀ (x1 : Int32) (m : MM), Sm (QM Γ E emV 0 0) Γ E 2 0 0 129 [(0, va_rf (some th)), (1, .int x1)] [] m (k129 x1 m)) (h191 : ∀ (x1 : Int32) (m : MM), Sm (QM Γ E emV 0 0) Γ E 2 0 0 191 [(0, va_rf (some th)), (1, .int x1)] [] m (k191 x1 m)) (x1 : Int32) (s0 : Option Nat) (s1 : Int32) (m : MM) : Sm (QM Γ E emV 0 0) Γ E 2 0 0 182 [(0, va_rf (some th)), (1, .int x1)] [.int s1, va_rf s0] m (g_X4_step_182 th k129 k191 x1 s0 s1 m) := by
  unfold g_X4_step_182
  refine z_ck (fun a1 hr1 hk4 => ?_)
  refine z_putI C fl_RX4_265 (fun h => by cases h) hr1 hk4 rfl rfl dX4_step_182 (fun m7 eK3 eN3 => ?_)
  refine z_iinc (v := 1) (L2 := [(1, .int (x1 + 1)), (0, va_rf (some th))]) C dX4_step_185 1 rfl (by decide) (by decide) rfl ?_
  refine z_goto (tgt := 129) C dX4_step_188 (by decide) ?_
  exact z_sub [1, 0] rfl (h129 (x1 + 1) m7)
set_option maxRecDepth 100000 in
def g_X4_step_129 (th : Nat) (k129 : Int32 → MM → Option (Unit × MM)) (k191 : Int32 → MM → Option (Unit × MM)) (x1 : Int32) (m : MM) : Option (Unit × MM) :=
  chk (m.K th = 5) (if (m.I 505 th 0) ≤ x1 then (k191 x1 m) else (cal (f_X4_byteAt th x1 m) (fun r5 m8 => cal (f_X4_isDigit r5 m8) (fun r6 m9 => if r6 = 0 then (k191 x1 m9) else (chk (m9.K th = 5) (if 4 ≤ (x1 - (m9.I 508 th 0)) then (g_X4_step_182 th k129 k191 x1 (some th) (m9.I 509 th 0) m9) else (cal (f_X4_byteAt th x1 m9) (fun r7 m10 => g_X4_step_182 th k129 k191 x1 (some th) ((((m9.I 509 th 0) * 10) + r7) - 48) m10))))))))
set_option maxHeartbeats 4000000 in
set_option maxRecDepth 100000 in
theorem s_X4_step_129 {Γ : GX} {E : EX} (C : Cx Γ E cX4_step RX4 2) (hr : Γ.meth.sig.returnType = none) (hrm : Γ.rm = rmX4_step) (th : Nat) (k129 : Int32 → MM → Option (Unit × MM)) (k191 : Int32 → MM → Option (Unit × MM)) (h129 : ∀ (x1 : Int32) (m : MM), Sm (QM Γ E emV 0 0) Γ E 2 0 0 129 [(0, va_rf (some th)), (1, .int x1)] [] m (k129 x1 m)) (h191 : ∀ (x1 : Int32) (m : MM), Sm (QM Γ E emV 0 0) Γ E 2 0 0 191 [(0, va_rf (some th)), (1, .int x1)] [] m (k191 x1 m)) (x1 : Int32) (m : MM) : Sm (QM Γ E emV 0 0) Γ E 2 0 0 129 [(0, va_rf (some th)), (1, .int x1)] [] m (g_X4_step_129 th k129 k191 x1 m) := by
  unfold g_X4_step_129
  refine z_iload_n C dX4_step_129 rfl 1 rfl ?_
  refine z_aload_n C dX4_step_130 rfl 0 rfl ?_
  refine z_chk (fun hk5 => ?_)
  refine z_getI C fl_RX4_67 rfl hk5 dX4_step_131 ?_
  refine z_icmp_ge (tgt := 191) C dX4_step_134 (by decide) (fun c5 => ?_) (fun c5 => ?_)
  · exact z_sub [0, 1] rfl (h191 x1 m)
  · refine z_aload_n C dX4_step_137 rfl 0 rfl ?_
    refine z_iload_n C dX4_step_138 rfl 1 rfl ?_
    refine z_cVI [.int x1] [] C mv_RX4_272 (fun r0 m0 h0 => M_X4_byteAt _ _ _ _ _ _ _ h0) rfl rfl ⟨by rw [hrm]; exact Nat.le_of_ble_eq_true rfl, by rw [hrm]; exact Nat.le_of_ble_eq_true rfl⟩ ⟨by rw [hrm]; exact Nat.le_of_ble_eq_true rfl, by rw [hrm]; exact Nat.le_of_ble_eq_true rfl⟩ rfl hk5 rfl rfl rfl (Nat.le_of_ble_eq_true rfl) dX4_step_139 (fun r5 m8 => ?_)
    refine z_cSI [.int r5] [] C mv_RX4_286 (fun r0 m0 h0 => M_X4_isDigit _ _ _ _ _ _ h0) rfl rfl ⟨by rw [hrm]; exact Nat.le_of_ble_eq_true rfl, by rw [hrm]; exact Nat.le_of_ble_eq_true rfl⟩ ⟨by rw [hrm]; exact Nat.le_of_ble_eq_true rfl, by rw [hrm]; exact Nat.le_of_ble_eq_true rfl⟩ rfl rfl (Nat.le_of_ble_eq_true rfl) dX4_step_142 (fun r6 m9 => ?_)
    refine z_if_eq (tgt := 191) C dX4_step_145 (by decide) (fun c6 => ?_) (fun c6 => ?_)
    · exact z_sub [0, 1] rfl (h191 x1 m9)
    · refine z_aload_n C dX4_step_148 rfl 0 rfl ?_
      refine z_iload_n C dX4_step_149 rfl 1 rfl ?_
      refine z_aload_n C dX4_step_150 rfl 0 rfl ?_
      refine z_chk (fun hk6 => ?_)
      refine z_getI C fl_RX4_49 rfl hk6 dX4_step_151 ?_
      refine z_isub C dX4_step_154 ?_
      refine z_iconst (v := 4) C dX4_step_155 (by decide) ?_
      refine z_icmp_ge (tgt := 178) C dX4_step_156 (by decide) (fun c7 => ?_) (fun c7 => ?_)
      · refine z_aload_n C dX4_step_178 rfl 0 rfl ?_
        refine z_getI C fl_RX4_265 rfl hk6 dX4_step_179 ?_
        exact z_sub [0, 1] rfl (s_X4_step_182 C hr hrm th k129 k191 h129 h191 x1 (some th) (m9.I 509 th 0) m9)
      · refine z_aload_n C dX4_step_159 rfl 0 rfl ?_
        refine z_getI C fl_RX4_265 rfl hk6 dX4_step_160 ?_
        refine z_bipush (v := 10) C dX4_step_163 (by decide) ?_
        refine z_imul C dX4_step_165 ?_
        refine z_aload_n C dX4_step_166 rfl 0 rfl ?_
        refine z_iload_n C dX4_step_167 rfl 1 rfl ?_
        refine z_cVI [.int x1] [.int ((m9.I 509 th 0) * 10), va_rf (some th)] C mv_RX4_272 (fun r0 m0 h0 => M_X4_byteAt _ _ _ _ _ _ _ h0) rfl rfl ⟨by rw [hrm]; exact Nat.le_of_ble_eq_true rfl, by rw [hrm]; exact Nat.le_of_ble_eq_true rfl⟩ ⟨by rw [hrm]; exact Nat.le_of_ble_eq_true rfl, by rw [hrm]; exact Nat.le_of_ble_eq_true rfl⟩ rfl hk6 rfl rfl rfl (Nat.le_of_ble_eq_true rfl) dX4_step_168 (fun r7 m10 => ?_)
        refine z_iadd C dX4_step_171 ?_
        refine z_bipush (v := 48) C dX4_step_172 (by decide) ?_
        refine z_isub C dX4_step_174 ?_
        refine z_goto (tgt := 182) C dX4_step_175 (by decide) ?_
        exact z_sub [0, 1] rfl (s_X4_step_182 C hr hrm th k129 k191 h129 h191 x1 (some th) ((((m9.I 509 th 0) * 10) + r7) - 48) m10)
def l_X4_step_129 (th : Nat) (k191 : Int32 → MM → Option (Unit × MM)) : Nat → Int32 → MM → Option (Unit × MM) := lp (fun _ _ => none) (fun k129 => g_X4_step_129 th k129 k191)
theorem t_X4_step_129 {Γ : GX} {E : EX} (C : Cx Γ E cX4_step RX4 2) (hr : Γ.meth.sig.returnType = none) (hrm : Γ.rm = rmX4_step) (th : Nat) (k191 : Int32 → MM → Option (Unit × MM)) (h191 : ∀ (x1 : Int32) (m : MM), Sm (QM Γ E emV 0 0) Γ E 2 0 0 191 [(0, va_rf (some th)), (1, .int x1)] [] m (k191 x1 m)) : ∀ (n : Nat) (x1 : Int32) (m : MM), Sm (QM Γ E emV 0 0) Γ E 2 0 0 129 [(0, va_rf (some th)), (1, .int x1)] [] m (l_X4_step_129 th k191 n x1 m) := by
  intro n
  induction n with
  | zero => intros; exact z_none
  | succ n ih => intro x1 m; exact s_X4_step_129 C hr hrm th (l_X4_step_129 th k191 n) k191 ih h191 x1 m
set_option maxRecDepth 100000 in
def g_X4_step_207 (th : Nat) (x1 : Int32) (s0 : Option Nat) (s1 : Int32) (m : MM) : Option (Unit × MM) :=
  ck m s0 5 (fun a2 => bnd (m.sI 507 a2 0 s1) (fun m11 => chk (m11.K th = 5) (bnd (m11.sI 506 th 0 x1) (fun m12 => some ((), m12)))))
set_option maxHeartbeats 4000000 in
set_option maxRecDepth 100000 in
theorem s_X4_step_207 {Γ : GX} {E : EX} (C : Cx Γ E cX4_step RX4 2) (hr : Γ.meth.sig.returnType = none) (hrm : Γ.rm = rmX4_step) (th : Nat) (x1 : Int32) (s0 : Option Nat) (s1 : Int32) (m : MM) : Sm (QM Γ E emV 0 0) Γ E 2 0 0 207 [(0, va_rf (some th)), (1, .int x1)] [.int s1, va_rf s0] m (g_X4_step_207 th x1 s0 s1 m) := by
  unfold g_X4_step_207
  refine z_ck (fun a2 hr2 hk7 => ?_)
  refine z_putI C fl_RX4_46 (fun h => by cases h) hr2 hk7 rfl rfl dX4_step_207 (fun m11 eK4 eN4 => ?_)
  refine z_goto (tgt := 218) C dX4_step_210 (by decide) ?_
  refine z_aload_n C dX4_step_218 rfl 0 rfl ?_
  refine z_iload_n C dX4_step_219 rfl 1 rfl ?_
  refine z_chk (fun hk8 => ?_)
  refine z_putI C fl_RX4_70 (fun h => by cases h) rfl hk8 rfl rfl dX4_step_220 (fun m12 eK5 eN5 => ?_)
  exact z_vret C hr dX4_step_223
set_option maxRecDepth 100000 in
def g_X4_step_191 (th : Nat) (x1 : Int32) (m : MM) : Option (Unit × MM) :=
  chk (m.K th = 5) (if (x1 - (m.I 508 th 0)) ≤ 4 then (g_X4_step_207 th x1 (some th) 2 m) else (g_X4_step_207 th x1 (some th) 4 m))
set_option maxHeartbeats 4000000 in
set_option maxRecDepth 100000 in
theorem s_X4_step_191 {Γ : GX} {E : EX} (C : Cx Γ E cX4_step RX4 2) (hr : Γ.meth.sig.returnType = none) (hrm : Γ.rm = rmX4_step) (th : Nat) (x1 : Int32) (m : MM) : Sm (QM Γ E emV 0 0) Γ E 2 0 0 191 [(0, va_rf (some th)), (1, .int x1)] [] m (g_X4_step_191 th x1 m) := by
  unfold g_X4_step_191
  refine z_aload_n C dX4_step_191 rfl 0 rfl ?_
  refine z_iload_n C dX4_step_192 rfl 1 rfl ?_
  refine z_aload_n C dX4_step_193 rfl 0 rfl ?_
  refine z_chk (fun hk9 => ?_)
  refine z_getI C fl_RX4_49 rfl hk9 dX4_step_194 ?_
  refine z_isub C dX4_step_197 ?_
  refine z_iconst (v := 4) C dX4_step_198 (by decide) ?_
  refine z_icmp_le (tgt := 206) C dX4_step_199 (by decide) (fun c8 => ?_) (fun c8 => ?_)
  · refine z_iconst (v := 2) C dX4_step_206 (by decide) ?_
    exact z_sub [0, 1] rfl (s_X4_step_207 C hr hrm th x1 (some th) 2 m)
  · refine z_iconst (v := 4) C dX4_step_202 (by decide) ?_
    refine z_goto (tgt := 207) C dX4_step_203 (by decide) ?_
    exact z_sub [0, 1] rfl (s_X4_step_207 C hr hrm th x1 (some th) 4 m)
set_option maxRecDepth 100000 in
def g_X4_step_30 (th : Nat) (x1 : Int32) (m : MM) : Option (Unit × MM) :=
  chk (m.K th = 5) (bnd (m.sI 508 th 0 x1) (fun m13 => if x1 < (m13.I 505 th 0) then (cal (f_X4_byteAt th x1 m13) (fun r8 m14 => if r8 = 59 then (chk (m14.K th = 5) (bnd (m14.sI 507 th 0 3) (fun m23 => bnd (m23.sI 506 th 0 (x1 + 1)) (fun m24 => some ((), m24))))) else (chk (m14.K th = 5) (cal (f_X4_byteAt th x1 m14) (fun r9 m15 => cal (f_X4_isLetter r9 m15) (fun r10 m16 => if r10 = 0 then (chk (m16.K th = 5) (cal (f_X4_byteAt th x1 m16) (fun r11 m17 => cal (f_X4_isDigit r11 m17) (fun r12 m18 => if r12 = 0 then (chk (m18.K th = 5) (bnd (m18.sI 507 th 0 4) (fun m19 => bnd (m19.sI 506 th 0 x1) (fun m20 => some ((), m20))))) else (chk (m18.K th = 5) (bnd (m18.sI 509 th 0 0) (fun m21 => l_X4_step_129 th (g_X4_step_191 th) FU x1 m21))))))) else (chk (m16.K th = 5) (bnd (m16.sI 507 th 0 1) (fun m22 => l_X4_step_88 th FU x1 m22))))))))) else (bnd (m13.sI 507 th 0 0) (fun m25 => bnd (m25.sI 506 th 0 x1) (fun m26 => some ((), m26))))))
set_option maxHeartbeats 4000000 in
set_option maxRecDepth 100000 in
theorem s_X4_step_30 {Γ : GX} {E : EX} (C : Cx Γ E cX4_step RX4 2) (hr : Γ.meth.sig.returnType = none) (hrm : Γ.rm = rmX4_step) (th : Nat) (x1 : Int32) (m : MM) : Sm (QM Γ E emV 0 0) Γ E 2 0 0 30 [(0, va_rf (some th)), (1, .int x1)] [] m (g_X4_step_30 th x1 m) := by
  unfold g_X4_step_30
  refine z_aload_n C dX4_step_30 rfl 0 rfl ?_
  refine z_iload_n C dX4_step_31 rfl 1 rfl ?_
  refine z_chk (fun hk10 => ?_)
  refine z_putI C fl_RX4_49 (fun h => by cases h) rfl hk10 rfl rfl dX4_step_32 (fun m13 eK6 eN6 => ?_)
  refine z_iload_n C dX4_step_35 rfl 1 rfl ?_
  refine z_aload_n C dX4_step_36 rfl 0 rfl ?_
  refine z_getI C fl_RX4_67 rfl (kfw eK6 hk10) dX4_step_37 ?_
  refine z_icmp_lt (tgt := 51) C dX4_step_40 (by decide) (fun c9 => ?_) (fun c9 => ?_)
  · refine z_aload_n C dX4_step_51 rfl 0 rfl ?_
    refine z_iload_n C dX4_step_52 rfl 1 rfl ?_
    refine z_cVI [.int x1] [] C mv_RX4_272 (fun r0 m0 h0 => M_X4_byteAt _ _ _ _ _ _ _ h0) rfl rfl ⟨by rw [hrm]; exact Nat.le_of_ble_eq_true rfl, by rw [hrm]; exact Nat.le_of_ble_eq_true rfl⟩ ⟨by rw [hrm]; exact Nat.le_of_ble_eq_true rfl, by rw [hrm]; exact Nat.le_of_ble_eq_true rfl⟩ rfl (kfw eK6 hk10) rfl rfl rfl (Nat.le_of_ble_eq_true rfl) dX4_step_53 (fun r8 m14 => ?_)
    refine z_bipush (v := 59) C dX4_step_56 (by decide) ?_
    refine z_icmp_ne (tgt := 72) C dX4_step_58 (by decide) (fun c10 => ?_) (fun c10 => ?_)
    · refine z_aload_n C dX4_step_72 rfl 0 rfl ?_
      refine z_iload_n C dX4_step_73 rfl 1 rfl ?_
      refine z_chk (fun hk11 => ?_)
      refine z_cVI [.int x1] [] C mv_RX4_272 (fun r0 m0 h0 => M_X4_byteAt _ _ _ _ _ _ _ h0) rfl rfl ⟨by rw [hrm]; exact Nat.le_of_ble_eq_true rfl, by rw [hrm]; exact Nat.le_of_ble_eq_true rfl⟩ ⟨by rw [hrm]; exact Nat.le_of_ble_eq_true rfl, by rw [hrm]; exact Nat.le_of_ble_eq_true rfl⟩ rfl hk11 rfl rfl rfl (Nat.le_of_ble_eq_true rfl) dX4_step_74 (fun r9 m15 => ?_)
      refine z_cSI [.int r9] [] C mv_RX4_283 (fun r0 m0 h0 => M_X4_isLetter _ _ _ _ _ _ h0) rfl rfl ⟨by rw [hrm]; exact Nat.le_of_ble_eq_true rfl, by rw [hrm]; exact Nat.le_of_ble_eq_true rfl⟩ ⟨by rw [hrm]; exact Nat.le_of_ble_eq_true rfl, by rw [hrm]; exact Nat.le_of_ble_eq_true rfl⟩ rfl rfl (Nat.le_of_ble_eq_true rfl) dX4_step_77 (fun r10 m16 => ?_)
      refine z_if_eq (tgt := 113) C dX4_step_80 (by decide) (fun c11 => ?_) (fun c11 => ?_)
      · refine z_aload_n C dX4_step_113 rfl 0 rfl ?_
        refine z_iload_n C dX4_step_114 rfl 1 rfl ?_
        refine z_chk (fun hk12 => ?_)
        refine z_cVI [.int x1] [] C mv_RX4_272 (fun r0 m0 h0 => M_X4_byteAt _ _ _ _ _ _ _ h0) rfl rfl ⟨by rw [hrm]; exact Nat.le_of_ble_eq_true rfl, by rw [hrm]; exact Nat.le_of_ble_eq_true rfl⟩ ⟨by rw [hrm]; exact Nat.le_of_ble_eq_true rfl, by rw [hrm]; exact Nat.le_of_ble_eq_true rfl⟩ rfl hk12 rfl rfl rfl (Nat.le_of_ble_eq_true rfl) dX4_step_115 (fun r11 m17 => ?_)
        refine z_cSI [.int r11] [] C mv_RX4_286 (fun r0 m0 h0 => M_X4_isDigit _ _ _ _ _ _ h0) rfl rfl ⟨by rw [hrm]; exact Nat.le_of_ble_eq_true rfl, by rw [hrm]; exact Nat.le_of_ble_eq_true rfl⟩ ⟨by rw [hrm]; exact Nat.le_of_ble_eq_true rfl, by rw [hrm]; exact Nat.le_of_ble_eq_true rfl⟩ rfl rfl (Nat.le_of_ble_eq_true rfl) dX4_step_118 (fun r12 m18 => ?_)
        refine z_if_eq (tgt := 213) C dX4_step_121 (by decide) (fun c12 => ?_) (fun c12 => ?_)
        · refine z_aload_n C dX4_step_213 rfl 0 rfl ?_
          refine z_iconst (v := 4) C dX4_step_214 (by decide) ?_
          refine z_chk (fun hk13 => ?_)
          refine z_putI C fl_RX4_46 (fun h => by cases h) rfl hk13 rfl rfl dX4_step_215 (fun m19 eK7 eN7 => ?_)
          refine z_aload_n C dX4_step_218 rfl 0 rfl ?_
          refine z_iload_n C dX4_step_219 rfl 1 rfl ?_
          refine z_putI C fl_RX4_70 (fun h => by cases h) rfl (kfw eK7 hk13) rfl rfl dX4_step_220 (fun m20 eK8 eN8 => ?_)
          exact z_vret C hr dX4_step_223
        · refine z_aload_n C dX4_step_124 rfl 0 rfl ?_
          refine z_iconst (v := 0) C dX4_step_125 (by decide) ?_
          refine z_chk (fun hk14 => ?_)
          refine z_putI C fl_RX4_265 (fun h => by cases h) rfl hk14 rfl rfl dX4_step_126 (fun m21 eK9 eN9 => ?_)
          exact z_sub [0, 1] rfl (t_X4_step_129 C hr hrm th (g_X4_step_191 th) (s_X4_step_191 C hr hrm th) FU x1 m21)
      · refine z_aload_n C dX4_step_83 rfl 0 rfl ?_
        refine z_iconst (v := 1) C dX4_step_84 (by decide) ?_
        refine z_chk (fun hk15 => ?_)
        refine z_putI C fl_RX4_46 (fun h => by cases h) rfl hk15 rfl rfl dX4_step_85 (fun m22 eK10 eN10 => ?_)
        exact z_sub [0, 1] rfl (t_X4_step_88 C hr hrm th FU x1 m22)
    · refine z_aload_n C dX4_step_61 rfl 0 rfl ?_
      refine z_iconst (v := 3) C dX4_step_62 (by decide) ?_
      refine z_chk (fun hk16 => ?_)
      refine z_putI C fl_RX4_46 (fun h => by cases h) rfl hk16 rfl rfl dX4_step_63 (fun m23 eK11 eN11 => ?_)
      refine z_iinc (v := 1) (L2 := [(1, .int (x1 + 1)), (0, va_rf (some th))]) C dX4_step_66 1 rfl (by decide) (by decide) rfl ?_
      refine z_goto (tgt := 218) C dX4_step_69 (by decide) ?_
      refine z_aload_n C dX4_step_218 rfl 1 rfl ?_
      refine z_iload_n C dX4_step_219 rfl 0 rfl ?_
      refine z_putI C fl_RX4_70 (fun h => by cases h) rfl (kfw eK11 hk16) rfl rfl dX4_step_220 (fun m24 eK12 eN12 => ?_)
      exact z_vret C hr dX4_step_223
  · refine z_aload_n C dX4_step_43 rfl 0 rfl ?_
    refine z_iconst (v := 0) C dX4_step_44 (by decide) ?_
    refine z_putI C fl_RX4_46 (fun h => by cases h) rfl (kfw eK6 hk10) rfl rfl dX4_step_45 (fun m25 eK13 eN13 => ?_)
    refine z_goto (tgt := 218) C dX4_step_48 (by decide) ?_
    refine z_aload_n C dX4_step_218 rfl 0 rfl ?_
    refine z_iload_n C dX4_step_219 rfl 1 rfl ?_
    refine z_putI C fl_RX4_70 (fun h => by cases h) rfl (kfw eK13 (kfw eK6 hk10)) rfl rfl dX4_step_220 (fun m26 eK14 eN14 => ?_)
    exact z_vret C hr dX4_step_223
set_option maxRecDepth 100000 in
def g_X4_step_0 (th : Nat) (m : MM) : Option (Unit × MM) :=
  chk (m.K th = 5) (bnd (m.I 506 th 0) (fun y1 => l_X4_step_5 th (g_X4_step_30 th) FU y1 m))
set_option maxHeartbeats 4000000 in
set_option maxRecDepth 100000 in
theorem s_X4_step_0 {Γ : GX} {E : EX} (C : Cx Γ E cX4_step RX4 2) (hr : Γ.meth.sig.returnType = none) (hrm : Γ.rm = rmX4_step) (th : Nat) (m : MM) : Sm (QM Γ E emV 0 0) Γ E 2 0 0 0 [(0, va_rf (some th))] [] m (g_X4_step_0 th m) := by
  unfold g_X4_step_0
  refine z_aload_n C dX4_step_0 rfl 0 rfl ?_
  refine z_chk (fun hk17 => ?_)
  refine z_getI C fl_RX4_70 rfl hk17 dX4_step_1 ?_
  refine z_bndI (fun y1 => ?_)
  refine z_istore_n (i := 1) (L2 := [(1, .int y1), (0, va_rf (some th))]) C dX4_step_4 rfl (by decide) rfl ?_
  exact z_sub [1, 0] rfl (t_X4_step_5 C hr hrm th (g_X4_step_30 th) (s_X4_step_30 C hr hrm th) FU y1 m)
def f_X4_step (th : Nat) (m : MM) : Option (Unit × MM) := g_X4_step_0 th m
theorem M_X4_step (l : Launch) (E : EX) (th : Nat) (m : MM) (r : Unit) (m2 : MM) (h : f_X4_step th m = some (r, m2)) : Met l yX4_step (.code yX4_step cX4_step 2 none :: TB) rmX4_step (va_Pc [.ref th] (St E m)) (QR E (emV r) m2) 0 0 (AA E) :=
  met_of (em := emV) (plainFor_of_name rfl) (Nat.le_of_ble_eq_true rfl) (L0 := [(0, va_rf (some th))]) rfl (fun Γ _ hrm C hr hn => s_X4_step_0 C hr hrm th m) h

theorem dX4_begin_0 : decode cX4_begin 0 = .ok (.aload_n 0, 1) := by decide +kernel
theorem dX4_begin_1 : decode cX4_begin 1 = .ok (.aload_n 1, 1) := by decide +kernel
theorem dX4_begin_2 : decode cX4_begin 2 = .ok (.putfield 63, 3) := by decide +kernel
theorem dX4_begin_5 : decode cX4_begin 5 = .ok (.aload_n 0, 1) := by decide +kernel
theorem dX4_begin_6 : decode cX4_begin 6 = .ok (.iload_n 2, 1) := by decide +kernel
theorem dX4_begin_7 : decode cX4_begin 7 = .ok (.putfield 67, 3) := by decide +kernel
theorem dX4_begin_10 : decode cX4_begin 10 = .ok (.aload_n 0, 1) := by decide +kernel
theorem dX4_begin_11 : decode cX4_begin 11 = .ok (.iconst 0, 1) := by decide +kernel
theorem dX4_begin_12 : decode cX4_begin 12 = .ok (.putfield 70, 3) := by decide +kernel
theorem dX4_begin_15 : decode cX4_begin 15 = .ok (.aload_n 0, 1) := by decide +kernel
theorem dX4_begin_16 : decode cX4_begin 16 = .ok (.iconst 0, 1) := by decide +kernel
theorem dX4_begin_17 : decode cX4_begin 17 = .ok (.putfield 42, 3) := by decide +kernel
theorem dX4_begin_20 : decode cX4_begin 20 = .ok (.aload_n 0, 1) := by decide +kernel
theorem dX4_begin_21 : decode cX4_begin 21 = .ok (.iconst (-1), 1) := by decide +kernel
theorem dX4_begin_22 : decode cX4_begin 22 = .ok (.putfield 73, 3) := by decide +kernel
theorem dX4_begin_25 : decode cX4_begin 25 = .ok (.aload_n 0, 1) := by decide +kernel
theorem dX4_begin_26 : decode cX4_begin 26 = .ok (.invokevirtual 76, 3) := by decide +kernel
theorem dX4_begin_29 : decode cX4_begin 29 = .ok (.return_, 1) := by decide +kernel
def rmX4_begin : Room := { frames := 2, cells := 0, slots := 0, locals := 42 }
set_option maxRecDepth 100000 in
def g_X4_begin_0 (th : Nat) (p1 : Option Nat) (p2 : Int32) (m : MM) : Option (Unit × MM) :=
  chk (m.K th = 5) (bnd (m.sR 504 th 0 p1) (fun m1 => bnd (m1.sI 505 th 0 p2) (fun m2 => bnd (m2.sI 506 th 0 0) (fun m3 => bnd (m3.sI 510 th 0 0) (fun m4 => bnd (m4.sI 511 th 0 (-1)) (fun m5 => cal (f_X4_step th m5) (fun r1 m6 => some ((), m6))))))))
set_option maxHeartbeats 4000000 in
set_option maxRecDepth 100000 in
theorem s_X4_begin_0 {Γ : GX} {E : EX} (C : Cx Γ E cX4_begin RX4 3) (hr : Γ.meth.sig.returnType = none) (hrm : Γ.rm = rmX4_begin) (th : Nat) (p1 : Option Nat) (p2 : Int32) (m : MM) : Sm (QM Γ E emV 0 0) Γ E 3 0 0 0 [(0, va_rf (some th)), (1, va_rf p1), (2, .int p2)] [] m (g_X4_begin_0 th p1 p2 m) := by
  unfold g_X4_begin_0
  refine z_aload_n C dX4_begin_0 rfl 0 rfl ?_
  refine z_aload_n C dX4_begin_1 rfl 1 rfl ?_
  refine z_chk (fun hk1 => ?_)
  refine z_putR C fl_RX4_63 (fun h => by cases h) rfl hk1 na_of fa_of dX4_begin_2 (fun m1 eK1 eN1 => ?_)
  refine z_aload_n C dX4_begin_5 rfl 0 rfl ?_
  refine z_iload_n C dX4_begin_6 rfl 2 rfl ?_
  refine z_putI C fl_RX4_67 (fun h => by cases h) rfl (kfw eK1 hk1) rfl rfl dX4_begin_7 (fun m2 eK2 eN2 => ?_)
  refine z_aload_n C dX4_begin_10 rfl 0 rfl ?_
  refine z_iconst (v := 0) C dX4_begin_11 (by decide) ?_
  refine z_putI C fl_RX4_70 (fun h => by cases h) rfl (kfw eK2 (kfw eK1 hk1)) rfl rfl dX4_begin_12 (fun m3 eK3 eN3 => ?_)
  refine z_aload_n C dX4_begin_15 rfl 0 rfl ?_
  refine z_iconst (v := 0) C dX4_begin_16 (by decide) ?_
  refine z_putI C fl_RX4_42 (fun h => by cases h) rfl (kfw eK3 (kfw eK2 (kfw eK1 hk1))) rfl rfl dX4_begin_17 (fun m4 eK4 eN4 => ?_)
  refine z_aload_n C dX4_begin_20 rfl 0 rfl ?_
  refine z_iconst (v := (-1)) C dX4_begin_21 (by decide) ?_
  refine z_putI C fl_RX4_73 (fun h => by cases h) rfl (kfw eK4 (kfw eK3 (kfw eK2 (kfw eK1 hk1)))) rfl rfl dX4_begin_22 (fun m5 eK5 eN5 => ?_)
  refine z_aload_n C dX4_begin_25 rfl 0 rfl ?_
  refine z_cVV [] [] C mv_RX4_76 (fun r0 m0 h0 => M_X4_step _ _ _ _ _ _ h0) rfl rfl ⟨by rw [hrm]; exact Nat.le_of_ble_eq_true rfl, by rw [hrm]; exact Nat.le_of_ble_eq_true rfl⟩ ⟨by rw [hrm]; exact Nat.le_of_ble_eq_true rfl, by rw [hrm]; exact Nat.le_of_ble_eq_true rfl⟩ rfl (kfw eK5 (kfw eK4 (kfw eK3 (kfw eK2 (kfw eK1 hk1))))) rfl rfl rfl (Nat.le_of_ble_eq_true rfl) dX4_begin_26 (fun r1 m6 => ?_)
  exact z_vret C hr dX4_begin_29
def f_X4_begin (th : Nat) (p1 : Option Nat) (p2 : Int32) (m : MM) : Option (Unit × MM) := g_X4_begin_0 th p1 p2 m
theorem M_X4_begin (l : Launch) (E : EX) (th : Nat) (p1 : Option Nat) (p2 : Int32) (m : MM) (r : Unit) (m2 : MM) (h : f_X4_begin th p1 p2 m = some (r, m2)) : Met l yX4_begin (.code yX4_begin cX4_begin 3 none :: TB) rmX4_begin (va_Pc [.ref th, va_rf p1, .int p2] (St E m)) (QR E (emV r) m2) 0 0 (AA E) :=
  met_of (em := emV) (plainFor_of_name rfl) (by simp [lg_sl, cat_rf, cat_i, cat_l, cat_a]) (L0 := [(0, va_rf (some th)), (1, va_rf p1), (2, .int p2)]) (by simp [lv_args, cat_rf, cat_i, cat_l, cat_a] <;> rfl) (fun Γ _ hrm C hr hn => s_X4_begin_0 C hr hrm th p1 p2 m) h

theorem dX4_isWord_0 : decode cX4_isWord 0 = .ok (.aload_n 0, 1) := by decide +kernel
theorem dX4_isWord_1 : decode cX4_isWord 1 = .ok (.getfield 46, 3) := by decide +kernel
theorem dX4_isWord_4 : decode cX4_isWord 4 = .ok (.iconst 1, 1) := by decide +kernel
theorem dX4_isWord_5 : decode cX4_isWord 5 = .ok (.if_icmp .ne 19, 3) := by decide +kernel
theorem dX4_isWord_8 : decode cX4_isWord 8 = .ok (.aload_n 0, 1) := by decide +kernel
theorem dX4_isWord_9 : decode cX4_isWord 9 = .ok (.getfield 70, 3) := by decide +kernel
theorem dX4_isWord_12 : decode cX4_isWord 12 = .ok (.aload_n 0, 1) := by decide +kernel
theorem dX4_isWord_13 : decode cX4_isWord 13 = .ok (.getfield 49, 3) := by decide +kernel
theorem dX4_isWord_16 : decode cX4_isWord 16 = .ok (.isub, 1) := by decide +kernel
theorem dX4_isWord_17 : decode cX4_isWord 17 = .ok (.aload_n 1, 1) := by decide +kernel
theorem dX4_isWord_18 : decode cX4_isWord 18 = .ok (.invokevirtual 268, 3) := by decide +kernel
theorem dX4_isWord_21 : decode cX4_isWord 21 = .ok (.if_icmp .eq 5, 3) := by decide +kernel
theorem dX4_isWord_24 : decode cX4_isWord 24 = .ok (.iconst 0, 1) := by decide +kernel
theorem dX4_isWord_25 : decode cX4_isWord 25 = .ok (.ireturn, 1) := by decide +kernel
theorem dX4_isWord_26 : decode cX4_isWord 26 = .ok (.iconst 0, 1) := by decide +kernel
theorem dX4_isWord_27 : decode cX4_isWord 27 = .ok (.istore_n 2, 1) := by decide +kernel
theorem dX4_isWord_28 : decode cX4_isWord 28 = .ok (.iload_n 2, 1) := by decide +kernel
theorem dX4_isWord_29 : decode cX4_isWord 29 = .ok (.aload_n 1, 1) := by decide +kernel
theorem dX4_isWord_30 : decode cX4_isWord 30 = .ok (.invokevirtual 268, 3) := by decide +kernel
theorem dX4_isWord_33 : decode cX4_isWord 33 = .ok (.if_icmp .ge 29, 3) := by decide +kernel
theorem dX4_isWord_36 : decode cX4_isWord 36 = .ok (.aload_n 0, 1) := by decide +kernel
theorem dX4_isWord_37 : decode cX4_isWord 37 = .ok (.aload_n 0, 1) := by decide +kernel
theorem dX4_isWord_38 : decode cX4_isWord 38 = .ok (.getfield 49, 3) := by decide +kernel
theorem dX4_isWord_41 : decode cX4_isWord 41 = .ok (.iload_n 2, 1) := by decide +kernel
theorem dX4_isWord_42 : decode cX4_isWord 42 = .ok (.iadd, 1) := by decide +kernel
theorem dX4_isWord_43 : decode cX4_isWord 43 = .ok (.invokevirtual 272, 3) := by decide +kernel
theorem dX4_isWord_46 : decode cX4_isWord 46 = .ok (.aload_n 1, 1) := by decide +kernel
theorem dX4_isWord_47 : decode cX4_isWord 47 = .ok (.iload_n 2, 1) := by decide +kernel
theorem dX4_isWord_48 : decode cX4_isWord 48 = .ok (.invokevirtual 275, 3) := by decide +kernel
theorem dX4_isWord_51 : decode cX4_isWord 51 = .ok (.if_icmp .eq 5, 3) := by decide +kernel
theorem dX4_isWord_54 : decode cX4_isWord 54 = .ok (.iconst 0, 1) := by decide +kernel
theorem dX4_isWord_55 : decode cX4_isWord 55 = .ok (.ireturn, 1) := by decide +kernel
theorem dX4_isWord_56 : decode cX4_isWord 56 = .ok (.iinc 2 1, 3) := by decide +kernel
theorem dX4_isWord_59 : decode cX4_isWord 59 = .ok (.goto (-31), 3) := by decide +kernel
theorem dX4_isWord_62 : decode cX4_isWord 62 = .ok (.iconst 1, 1) := by decide +kernel
theorem dX4_isWord_63 : decode cX4_isWord 63 = .ok (.ireturn, 1) := by decide +kernel
def rmX4_isWord : Room := { frames := 4, cells := 0, slots := 0, locals := 85 }
set_option maxRecDepth 100000 in
def g_X4_isWord_28 (th : Nat) (p1 : Nat) (k28 : Int32 → MM → Option (Int32 × MM)) (x2 : Int32) (m : MM) : Option (Int32 × MM) :=
  chk (p1 < skN) (cal (f_strlen p1 m) (fun r1 m1 => if r1 ≤ x2 then (some (1, m1)) else (chk (m1.K th = 5) (cal (f_X4_byteAt th ((m1.I 508 th 0) + x2) m1) (fun r2 m2 => chk (p1 < skN) (cal (f_strchr p1 x2 m2) (fun r3 m3 => if r2 = r3 then (k28 (x2 + 1) m3) else (some (0, m3)))))))))
set_option maxHeartbeats 4000000 in
set_option maxRecDepth 100000 in
theorem s_X4_isWord_28 {Γ : GX} {E : EX} (C : Cx Γ E cX4_isWord RX4 3) (hr : Γ.meth.sig.returnType = (some .boolean)) (hrm : Γ.rm = rmX4_isWord) (th : Nat) (p1 : Nat) (k28 : Int32 → MM → Option (Int32 × MM)) (h28 : ∀ (x2 : Int32) (m : MM), Sm (QM Γ E emI 0 0) Γ E 3 0 0 28 [(0, va_rf (some th)), (1, va_rf (some (E.adK p1))), (2, .int x2)] [] m (k28 x2 m)) (x2 : Int32) (m : MM) : Sm (QM Γ E emI 0 0) Γ E 3 0 0 28 [(0, va_rf (some th)), (1, va_rf (some (E.adK p1))), (2, .int x2)] [] m (g_X4_isWord_28 th p1 k28 x2 m) := by
  unfold g_X4_isWord_28
  refine z_iload_n C dX4_isWord_28 rfl 2 rfl ?_
  refine z_aload_n C dX4_isWord_29 rfl 1 rfl ?_
  refine z_chk (fun hi1 => ?_)
  refine z_cK [] [.int x2] C mv_RX4_268 rfl hi1 (fun r0 m0 h0 => M_strlen _ _ _ hi1 _ _ _ h0) rfl rfl ⟨by rw [hrm]; exact Nat.le_of_ble_eq_true rfl, by rw [hrm]; exact Nat.le_of_ble_eq_true rfl⟩ ⟨by rw [hrm]; exact Nat.le_of_ble_eq_true rfl, by rw [hrm]; exact Nat.le_of_ble_eq_true rfl⟩ rfl rfl (Nat.le_of_ble_eq_true rfl) dX4_isWord_30 (fun r1 m1 => ?_)
  refine z_icmp_ge (tgt := 62) C dX4_isWord_33 (by decide) (fun c1 => ?_) (fun c1 => ?_)
  · refine z_iconst (v := 1) C dX4_isWord_62 (by decide) ?_
    exact z_zret C hr rfl dX4_isWord_63
  · refine z_aload_n C dX4_isWord_36 rfl 0 rfl ?_
    refine z_aload_n C dX4_isWord_37 rfl 0 rfl ?_
    refine z_chk (fun hk1 => ?_)
    refine z_getI C fl_RX4_49 rfl hk1 dX4_isWord_38 ?_
    refine z_iload_n C dX4_isWord_41 rfl 2 rfl ?_
    refine z_iadd C dX4_isWord_42 ?_
    refine z_cVI [.int ((m1.I 508 th 0) + x2)] [] C mv_RX4_272 (fun r0 m0 h0 => M_X4_byteAt _ _ _ _ _ _ _ h0) rfl rfl ⟨by rw [hrm]; exact Nat.le_of_ble_eq_true rfl, by rw [hrm]; exact Nat.le_of_ble_eq_true rfl⟩ ⟨by rw [hrm]; exact Nat.le_of_ble_eq_true rfl, by rw [hrm]; exact Nat.le_of_ble_eq_true rfl⟩ rfl hk1 rfl rfl rfl (Nat.le_of_ble_eq_true rfl) dX4_isWord_43 (fun r2 m2 => ?_)
    refine z_aload_n C dX4_isWord_46 rfl 1 rfl ?_
    refine z_iload_n C dX4_isWord_47 rfl 2 rfl ?_
    refine z_chk (fun hi2 => ?_)
    refine z_cK [.int x2] [.int r2] C mv_RX4_275 rfl hi2 (fun r0 m0 h0 => M_strchr _ _ _ hi2 _ _ _ _ h0) rfl rfl ⟨by rw [hrm]; exact Nat.le_of_ble_eq_true rfl, by rw [hrm]; exact Nat.le_of_ble_eq_true rfl⟩ ⟨by rw [hrm]; exact Nat.le_of_ble_eq_true rfl, by rw [hrm]; exact Nat.le_of_ble_eq_true rfl⟩ rfl rfl (Nat.le_of_ble_eq_true rfl) dX4_isWord_48 (fun r3 m3 => ?_)
    refine z_icmp_eq (tgt := 56) C dX4_isWord_51 (by decide) (fun c2 => ?_) (fun c2 => ?_)
    · refine z_iinc (v := 1) (L2 := [(2, .int (x2 + 1)), (0, va_rf (some th)), (1, va_rf (some (E.adK p1)))]) C dX4_isWord_56 2 rfl (by decide) (by decide) rfl ?_
      refine z_goto (tgt := 28) C dX4_isWord_59 (by decide) ?_
      exact z_sub [1, 2, 0] rfl (h28 (x2 + 1) m3)
    · refine z_iconst (v := 0) C dX4_isWord_54 (by decide) ?_
      exact z_zret C hr rfl dX4_isWord_55
def l_X4_isWord_28 (th : Nat) (p1 : Nat) : Nat → Int32 → MM → Option (Int32 × MM) := lp (fun _ _ => none) (fun k28 => g_X4_isWord_28 th p1 k28)
theorem t_X4_isWord_28 {Γ : GX} {E : EX} (C : Cx Γ E cX4_isWord RX4 3) (hr : Γ.meth.sig.returnType = (some .boolean)) (hrm : Γ.rm = rmX4_isWord) (th : Nat) (p1 : Nat) : ∀ (n : Nat) (x2 : Int32) (m : MM), Sm (QM Γ E emI 0 0) Γ E 3 0 0 28 [(0, va_rf (some th)), (1, va_rf (some (E.adK p1))), (2, .int x2)] [] m (l_X4_isWord_28 th p1 n x2 m) := by
  intro n
  induction n with
  | zero => intros; exact z_none
  | succ n ih => intro x2 m; exact s_X4_isWord_28 C hr hrm th p1 (l_X4_isWord_28 th p1 n) ih x2 m
set_option maxRecDepth 100000 in
def g_X4_isWord_0 (th : Nat) (p1 : Nat) (m : MM) : Option (Int32 × MM) :=
  chk (m.K th = 5) (if (m.I 507 th 0) = 1 then (chk (p1 < skN) (cal (f_strlen p1 m) (fun r4 m4 => if ((m.I 506 th 0) - (m.I 508 th 0)) = r4 then (l_X4_isWord_28 th p1 FU 0 m4) else (some (0, m4))))) else (some (0, m)))
set_option maxHeartbeats 4000000 in
set_option maxRecDepth 100000 in
theorem s_X4_isWord_0 {Γ : GX} {E : EX} (C : Cx Γ E cX4_isWord RX4 3) (hr : Γ.meth.sig.returnType = (some .boolean)) (hrm : Γ.rm = rmX4_isWord) (th : Nat) (p1 : Nat) (m : MM) : Sm (QM Γ E emI 0 0) Γ E 3 0 0 0 [(0, va_rf (some th)), (1, va_rf (some (E.adK p1)))] [] m (g_X4_isWord_0 th p1 m) := by
  unfold g_X4_isWord_0
  refine z_aload_n C dX4_isWord_0 rfl 0 rfl ?_
  refine z_chk (fun hk2 => ?_)
  refine z_getI C fl_RX4_46 rfl hk2 dX4_isWord_1 ?_
  refine z_iconst (v := 1) C dX4_isWord_4 (by decide) ?_
  refine z_icmp_ne (tgt := 24) C dX4_isWord_5 (by decide) (fun c3 => ?_) (fun c3 => ?_)
  · refine z_iconst (v := 0) C dX4_isWord_24 (by decide) ?_
    exact z_zret C hr rfl dX4_isWord_25
  · refine z_aload_n C dX4_isWord_8 rfl 0 rfl ?_
    refine z_getI C fl_RX4_70 rfl hk2 dX4_isWord_9 ?_
    refine z_aload_n C dX4_isWord_12 rfl 0 rfl ?_
    refine z_getI C fl_RX4_49 rfl hk2 dX4_isWord_13 ?_
    refine z_isub C dX4_isWord_16 ?_
    refine z_aload_n C dX4_isWord_17 rfl 1 rfl ?_
    refine z_chk (fun hi3 => ?_)
    refine z_cK [] [.int ((m.I 506 th 0) - (m.I 508 th 0))] C mv_RX4_268 rfl hi3 (fun r0 m0 h0 => M_strlen _ _ _ hi3 _ _ _ h0) rfl rfl ⟨by rw [hrm]; exact Nat.le_of_ble_eq_true rfl, by rw [hrm]; exact Nat.le_of_ble_eq_true rfl⟩ ⟨by rw [hrm]; exact Nat.le_of_ble_eq_true rfl, by rw [hrm]; exact Nat.le_of_ble_eq_true rfl⟩ rfl rfl (Nat.le_of_ble_eq_true rfl) dX4_isWord_18 (fun r4 m4 => ?_)
    refine z_icmp_eq (tgt := 26) C dX4_isWord_21 (by decide) (fun c4 => ?_) (fun c4 => ?_)
    · refine z_iconst (v := 0) C dX4_isWord_26 (by decide) ?_
      refine z_istore_n (i := 2) (L2 := [(2, .int 0), (0, va_rf (some th)), (1, va_rf (some (E.adK p1)))]) C dX4_isWord_27 rfl (by decide) rfl ?_
      exact z_sub [1, 2, 0] rfl (t_X4_isWord_28 C hr hrm th p1 FU 0 m4)
    · refine z_iconst (v := 0) C dX4_isWord_24 (by decide) ?_
      exact z_zret C hr rfl dX4_isWord_25
def f_X4_isWord (th : Nat) (p1 : Nat) (m : MM) : Option (Int32 × MM) := g_X4_isWord_0 th p1 m
theorem M_X4_isWord (l : Launch) (E : EX) (th : Nat) (p1 : Nat) (m : MM) (r : Int32) (m2 : MM) (h : f_X4_isWord th p1 m = some (r, m2)) : Met l yX4_isWord (.code yX4_isWord cX4_isWord 3 (some .boolean) :: TB) rmX4_isWord (va_Pc [.ref th, va_rf (some (E.adK p1))] (St E m)) (QR E (emI r) m2) 0 0 (AA E) :=
  met_of (em := emI) (plainFor_of_name rfl) (Nat.le_of_ble_eq_true rfl) (L0 := [(0, va_rf (some th)), (1, va_rf (some (E.adK p1)))]) rfl (fun Γ _ hrm C hr hn => s_X4_isWord_0 C hr hrm th p1 m) h

theorem dX4_breakOff_0 : decode cX4_breakOff 0 = .ok (.aload_n 0, 1) := by decide +kernel
theorem dX4_breakOff_1 : decode cX4_breakOff 1 = .ok (.iconst 1, 1) := by decide +kernel
theorem dX4_breakOff_2 : decode cX4_breakOff 2 = .ok (.putfield 42, 3) := by decide +kernel
theorem dX4_breakOff_5 : decode cX4_breakOff 5 = .ok (.aload_n 0, 1) := by decide +kernel
theorem dX4_breakOff_6 : decode cX4_breakOff 6 = .ok (.aload_n 0, 1) := by decide +kernel
theorem dX4_breakOff_7 : decode cX4_breakOff 7 = .ok (.getfield 49, 3) := by decide +kernel
theorem dX4_breakOff_10 : decode cX4_breakOff 10 = .ok (.putfield 73, 3) := by decide +kernel
theorem dX4_breakOff_13 : decode cX4_breakOff 13 = .ok (.return_, 1) := by decide +kernel
def rmX4_breakOff : Room := { frames := 0, cells := 0, slots := 0, locals := 0 }
set_option maxRecDepth 100000 in
def g_X4_breakOff_0 (th : Nat) (m : MM) : Option (Unit × MM) :=
  chk (m.K th = 5) (bnd (m.sI 510 th 0 1) (fun m1 => bnd (m1.sI 511 th 0 (m1.I 508 th 0)) (fun m2 => some ((), m2))))
set_option maxHeartbeats 4000000 in
set_option maxRecDepth 100000 in
theorem s_X4_breakOff_0 {Γ : GX} {E : EX} (C : Cx Γ E cX4_breakOff RX4 1) (hr : Γ.meth.sig.returnType = none) (hrm : Γ.rm = rmX4_breakOff) (th : Nat) (m : MM) : Sm (QM Γ E emV 0 0) Γ E 1 0 0 0 [(0, va_rf (some th))] [] m (g_X4_breakOff_0 th m) := by
  unfold g_X4_breakOff_0
  refine z_aload_n C dX4_breakOff_0 rfl 0 rfl ?_
  refine z_iconst (v := 1) C dX4_breakOff_1 (by decide) ?_
  refine z_chk (fun hk1 => ?_)
  refine z_putI C fl_RX4_42 (fun h => by cases h) rfl hk1 rfl rfl dX4_breakOff_2 (fun m1 eK1 eN1 => ?_)
  refine z_aload_n C dX4_breakOff_5 rfl 0 rfl ?_
  refine z_aload_n C dX4_breakOff_6 rfl 0 rfl ?_
  refine z_getI C fl_RX4_49 rfl (kfw eK1 hk1) dX4_breakOff_7 ?_
  refine z_putI C fl_RX4_73 (fun h => by cases h) rfl (kfw eK1 hk1) rfl rfl dX4_breakOff_10 (fun m2 eK2 eN2 => ?_)
  exact z_vret C hr dX4_breakOff_13
def f_X4_breakOff (th : Nat) (m : MM) : Option (Unit × MM) := g_X4_breakOff_0 th m
theorem M_X4_breakOff (l : Launch) (E : EX) (th : Nat) (m : MM) (r : Unit) (m2 : MM) (h : f_X4_breakOff th m = some (r, m2)) : Met l yX4_breakOff (.code yX4_breakOff cX4_breakOff 1 none :: TB) rmX4_breakOff (va_Pc [.ref th] (St E m)) (QR E (emV r) m2) 0 0 (AA E) :=
  met_of (em := emV) (plainFor_of_name rfl) (Nat.le_of_ble_eq_true rfl) (L0 := [(0, va_rf (some th))]) rfl (fun Γ _ hrm C hr hn => s_X4_breakOff_0 C hr hrm th m) h

theorem dX4_readWord_0 : decode cX4_readWord 0 = .ok (.aload_n 0, 1) := by decide +kernel
theorem dX4_readWord_1 : decode cX4_readWord 1 = .ok (.aload_n 1, 1) := by decide +kernel
theorem dX4_readWord_2 : decode cX4_readWord 2 = .ok (.invokevirtual 109, 3) := by decide +kernel
theorem dX4_readWord_5 : decode cX4_readWord 5 = .ok (.ifCond .ne 9, 3) := by decide +kernel
theorem dX4_readWord_8 : decode cX4_readWord 8 = .ok (.aload_n 0, 1) := by decide +kernel
theorem dX4_readWord_9 : decode cX4_readWord 9 = .ok (.invokevirtual 161, 3) := by decide +kernel
theorem dX4_readWord_12 : decode cX4_readWord 12 = .ok (.iconst 0, 1) := by decide +kernel
theorem dX4_readWord_13 : decode cX4_readWord 13 = .ok (.ireturn, 1) := by decide +kernel
theorem dX4_readWord_14 : decode cX4_readWord 14 = .ok (.aload_n 0, 1) := by decide +kernel
theorem dX4_readWord_15 : decode cX4_readWord 15 = .ok (.invokevirtual 76, 3) := by decide +kernel
theorem dX4_readWord_18 : decode cX4_readWord 18 = .ok (.iconst 1, 1) := by decide +kernel
theorem dX4_readWord_19 : decode cX4_readWord 19 = .ok (.ireturn, 1) := by decide +kernel
def rmX4_readWord : Room := { frames := 5, cells := 0, slots := 0, locals := 107 }
set_option maxRecDepth 100000 in
def g_X4_readWord_0 (th : Nat) (p1 : Nat) (m : MM) : Option (Int32 × MM) :=
  chk (m.K th = 5) (cal (f_X4_isWord th p1 m) (fun r1 m1 => if r1 = 0 then (chk (m1.K th = 5) (cal (f_X4_breakOff th m1) (fun r3 m3 => some (0, m3)))) else (chk (m1.K th = 5) (cal (f_X4_step th m1) (fun r2 m2 => some (1, m2))))))
set_option maxHeartbeats 4000000 in
set_option maxRecDepth 100000 in
theorem s_X4_readWord_0 {Γ : GX} {E : EX} (C : Cx Γ E cX4_readWord RX4 2) (hr : Γ.meth.sig.returnType = (some .boolean)) (hrm : Γ.rm = rmX4_readWord) (th : Nat) (p1 : Nat) (m : MM) : Sm (QM Γ E emI 0 0) Γ E 2 0 0 0 [(0, va_rf (some th)), (1, va_rf (some (E.adK p1)))] [] m (g_X4_readWord_0 th p1 m) := by
  unfold g_X4_readWord_0
  refine z_aload_n C dX4_readWord_0 rfl 0 rfl ?_
  refine z_aload_n C dX4_readWord_1 rfl 1 rfl ?_
  refine z_chk (fun hk1 => ?_)
  refine z_cVI [va_rf (some (E.adK p1))] [] C mv_RX4_109 (fun r0 m0 h0 => M_X4_isWord _ _ _ _ _ _ _ h0) rfl rfl ⟨by rw [hrm]; exact Nat.le_of_ble_eq_true rfl, by rw [hrm]; exact Nat.le_of_ble_eq_true rfl⟩ ⟨by rw [hrm]; exact Nat.le_of_ble_eq_true rfl, by rw [hrm]; exact Nat.le_of_ble_eq_true rfl⟩ rfl hk1 rfl rfl rfl (Nat.le_of_ble_eq_true rfl) dX4_readWord_2 (fun r1 m1 => ?_)
  refine z_if_ne (tgt := 14) C dX4_readWord_5 (by decide) (fun c1 => ?_) (fun c1 => ?_)
  · refine z_aload_n C dX4_readWord_14 rfl 0 rfl ?_
    refine z_chk (fun hk2 => ?_)
    refine z_cVV [] [] C mv_RX4_76 (fun r0 m0 h0 => M_X4_step _ _ _ _ _ _ h0) rfl rfl ⟨by rw [hrm]; exact Nat.le_of_ble_eq_true rfl, by rw [hrm]; exact Nat.le_of_ble_eq_true rfl⟩ ⟨by rw [hrm]; exact Nat.le_of_ble_eq_true rfl, by rw [hrm]; exact Nat.le_of_ble_eq_true rfl⟩ rfl hk2 rfl rfl rfl (Nat.le_of_ble_eq_true rfl) dX4_readWord_15 (fun r2 m2 => ?_)
    refine z_iconst (v := 1) C dX4_readWord_18 (by decide) ?_
    exact z_zret C hr rfl dX4_readWord_19
  · refine z_aload_n C dX4_readWord_8 rfl 0 rfl ?_
    refine z_chk (fun hk3 => ?_)
    refine z_cVV [] [] C mv_RX4_161 (fun r0 m0 h0 => M_X4_breakOff _ _ _ _ _ _ h0) rfl rfl ⟨by rw [hrm]; exact Nat.le_of_ble_eq_true rfl, by rw [hrm]; exact Nat.le_of_ble_eq_true rfl⟩ ⟨by rw [hrm]; exact Nat.le_of_ble_eq_true rfl, by rw [hrm]; exact Nat.le_of_ble_eq_true rfl⟩ rfl hk3 rfl rfl rfl (Nat.le_of_ble_eq_true rfl) dX4_readWord_9 (fun r3 m3 => ?_)
    refine z_iconst (v := 0) C dX4_readWord_12 (by decide) ?_
    exact z_zret C hr rfl dX4_readWord_13
def f_X4_readWord (th : Nat) (p1 : Nat) (m : MM) : Option (Int32 × MM) := g_X4_readWord_0 th p1 m
theorem M_X4_readWord (l : Launch) (E : EX) (th : Nat) (p1 : Nat) (m : MM) (r : Int32) (m2 : MM) (h : f_X4_readWord th p1 m = some (r, m2)) : Met l yX4_readWord (.code yX4_readWord cX4_readWord 2 (some .boolean) :: TB) rmX4_readWord (va_Pc [.ref th, va_rf (some (E.adK p1))] (St E m)) (QR E (emI r) m2) 0 0 (AA E) :=
  met_of (em := emI) (plainFor_of_name rfl) (Nat.le_of_ble_eq_true rfl) (L0 := [(0, va_rf (some th)), (1, va_rf (some (E.adK p1)))]) rfl (fun Γ _ hrm C hr hn => s_X4_readWord_0 C hr hrm th p1 m) h

theorem dX4_readNumbers_0 : decode cX4_readNumbers 0 = .ok (.iload_n 1, 1) := by decide +kernel
theorem dX4_readNumbers_1 : decode cX4_readNumbers 1 = .ok (.istore_n 3, 1) := by decide +kernel
theorem dX4_readNumbers_2 : decode cX4_readNumbers 2 = .ok (.iload_n 3, 1) := by decide +kernel
theorem dX4_readNumbers_3 : decode cX4_readNumbers 3 = .ok (.iload_n 1, 1) := by decide +kernel
theorem dX4_readNumbers_4 : decode cX4_readNumbers 4 = .ok (.iload_n 2, 1) := by decide +kernel
theorem dX4_readNumbers_5 : decode cX4_readNumbers 5 = .ok (.iadd, 1) := by decide +kernel
theorem dX4_readNumbers_6 : decode cX4_readNumbers 6 = .ok (.if_icmp .ge 69, 3) := by decide +kernel
theorem dX4_readNumbers_9 : decode cX4_readNumbers 9 = .ok (.aload_n 0, 1) := by decide +kernel
theorem dX4_readNumbers_10 : decode cX4_readNumbers 10 = .ok (.getfield 46, 3) := by decide +kernel
theorem dX4_readNumbers_13 : decode cX4_readNumbers 13 = .ok (.iconst 2, 1) := by decide +kernel
theorem dX4_readNumbers_14 : decode cX4_readNumbers 14 = .ok (.if_icmp .ne 25, 3) := by decide +kernel
theorem dX4_readNumbers_17 : decode cX4_readNumbers 17 = .ok (.iload_n 3, 1) := by decide +kernel
theorem dX4_readNumbers_18 : decode cX4_readNumbers 18 = .ok (.ifCond .lt 21, 3) := by decide +kernel
theorem dX4_readNumbers_21 : decode cX4_readNumbers 21 = .ok (.iload_n 3, 1) := by decide +kernel
theorem dX4_readNumbers_22 : decode cX4_readNumbers 22 = .ok (.aload_n 0, 1) := by decide +kernel
theorem dX4_readNumbers_23 : decode cX4_readNumbers 23 = .ok (.getfield 25, 3) := by decide +kernel
theorem dX4_readNumbers_26 : decode cX4_readNumbers 26 = .ok (.arraylength, 1) := by decide +kernel
theorem dX4_readNumbers_27 : decode cX4_readNumbers 27 = .ok (.if_icmp .ge 12, 3) := by decide +kernel
theorem dX4_readNumbers_30 : decode cX4_readNumbers 30 = .ok (.iload_n 3, 1) := by decide +kernel
theorem dX4_readNumbers_31 : decode cX4_readNumbers 31 = .ok (.aload_n 0, 1) := by decide +kernel
theorem dX4_readNumbers_32 : decode cX4_readNumbers 32 = .ok (.getfield 29, 3) := by decide +kernel
theorem dX4_readNumbers_35 : decode cX4_readNumbers 35 = .ok (.arraylength, 1) := by decide +kernel
theorem dX4_readNumbers_36 : decode cX4_readNumbers 36 = .ok (.if_icmp .lt 9, 3) := by decide +kernel
theorem dX4_readNumbers_39 : decode cX4_readNumbers 39 = .ok (.aload_n 0, 1) := by decide +kernel
theorem dX4_readNumbers_40 : decode cX4_readNumbers 40 = .ok (.invokevirtual 161, 3) := by decide +kernel
theorem dX4_readNumbers_43 : decode cX4_readNumbers 43 = .ok (.iconst 0, 1) := by decide +kernel
theorem dX4_readNumbers_44 : decode cX4_readNumbers 44 = .ok (.ireturn, 1) := by decide +kernel
theorem dX4_readNumbers_45 : decode cX4_readNumbers 45 = .ok (.aload_n 0, 1) := by decide +kernel
theorem dX4_readNumbers_46 : decode cX4_readNumbers 46 = .ok (.getfield 25, 3) := by decide +kernel
theorem dX4_readNumbers_49 : decode cX4_readNumbers 49 = .ok (.iload_n 3, 1) := by decide +kernel
theorem dX4_readNumbers_50 : decode cX4_readNumbers 50 = .ok (.aload_n 0, 1) := by decide +kernel
theorem dX4_readNumbers_51 : decode cX4_readNumbers 51 = .ok (.getfield 265, 3) := by decide +kernel
theorem dX4_readNumbers_54 : decode cX4_readNumbers 54 = .ok (.iastore, 1) := by decide +kernel
theorem dX4_readNumbers_55 : decode cX4_readNumbers 55 = .ok (.aload_n 0, 1) := by decide +kernel
theorem dX4_readNumbers_56 : decode cX4_readNumbers 56 = .ok (.getfield 29, 3) := by decide +kernel
theorem dX4_readNumbers_59 : decode cX4_readNumbers 59 = .ok (.iload_n 3, 1) := by decide +kernel
theorem dX4_readNumbers_60 : decode cX4_readNumbers 60 = .ok (.aload_n 0, 1) := by decide +kernel
theorem dX4_readNumbers_61 : decode cX4_readNumbers 61 = .ok (.getfield 49, 3) := by decide +kernel
theorem dX4_readNumbers_64 : decode cX4_readNumbers 64 = .ok (.iastore, 1) := by decide +kernel
theorem dX4_readNumbers_65 : decode cX4_readNumbers 65 = .ok (.aload_n 0, 1) := by decide +kernel
theorem dX4_readNumbers_66 : decode cX4_readNumbers 66 = .ok (.invokevirtual 76, 3) := by decide +kernel
theorem dX4_readNumbers_69 : decode cX4_readNumbers 69 = .ok (.iinc 3 1, 3) := by decide +kernel
theorem dX4_readNumbers_72 : decode cX4_readNumbers 72 = .ok (.goto (-70), 3) := by decide +kernel
theorem dX4_readNumbers_75 : decode cX4_readNumbers 75 = .ok (.iconst 1, 1) := by decide +kernel
theorem dX4_readNumbers_76 : decode cX4_readNumbers 76 = .ok (.ireturn, 1) := by decide +kernel
def rmX4_readNumbers : Room := { frames := 2, cells := 0, slots := 0, locals := 42 }
set_option maxRecDepth 100000 in
def g_X4_readNumbers_2 (th : Nat) (p1 : Int32) (p2 : Int32) (k2 : Int32 → MM → Option (Int32 × MM)) (x3 : Int32) (m : MM) : Option (Int32 × MM) :=
  if (p1 + p2) ≤ x3 then (some (1, m)) else (chk (m.K th = 5) (if (m.I 507 th 0) = 2 then (if x3 < 0 then (cal (f_X4_breakOff th m) (fun r2 m2 => some (0, m2))) else (ck m (m.R 502 th 0) 22 (fun a1 => if (Int32.ofNat (m.N a1)) ≤ x3 then (cal (f_X4_breakOff th m) (fun r3 m3 => some (0, m3))) else (ck m (m.R 503 th 0) 22 (fun a2 => if x3 < (Int32.ofNat (m.N a2)) then (chk (inb x3 (m.N a1) = true) (bnd (m.sI 22 a1 (Int32.toNatClampNeg x3) (m.I 509 th 0)) (fun m4 => ck m4 (m4.R 503 th 0) 22 (fun a3 => chk (inb x3 (m4.N a3) = true) (bnd (m4.sI 22 a3 (Int32.toNatClampNeg x3) (m4.I 508 th 0)) (fun m5 => cal (f_X4_step th m5) (fun r4 m6 => k2 (x3 + 1) m6))))))) else (cal (f_X4_breakOff th m) (fun r5 m7 => some (0, m7)))))))) else (cal (f_X4_breakOff th m) (fun r1 m1 => some (0, m1)))))
set_option maxHeartbeats 4000000 in
set_option maxRecDepth 100000 in
theorem s_X4_readNumbers_2 {Γ : GX} {E : EX} (C : Cx Γ E cX4_readNumbers RX4 4) (hr : Γ.meth.sig.returnType = (some .boolean)) (hrm : Γ.rm = rmX4_readNumbers) (th : Nat) (p1 : Int32) (p2 : Int32) (k2 : Int32 → MM → Option (Int32 × MM)) (h2 : ∀ (x3 : Int32) (m : MM), Sm (QM Γ E emI 0 0) Γ E 4 0 0 2 [(0, va_rf (some th)), (1, .int p1), (2, .int p2), (3, .int x3)] [] m (k2 x3 m)) (x3 : Int32) (m : MM) : Sm (QM Γ E emI 0 0) Γ E 4 0 0 2 [(0, va_rf (some th)), (1, .int p1), (2, .int p2), (3, .int x3)] [] m (g_X4_readNumbers_2 th p1 p2 k2 x3 m) := by
  unfold g_X4_readNumbers_2
  refine z_iload_n C dX4_readNumbers_2 rfl 3 rfl ?_
  refine z_iload_n C dX4_readNumbers_3 rfl 1 rfl ?_
  refine z_iload_n C dX4_readNumbers_4 rfl 2 rfl ?_
  refine z_iadd C dX4_readNumbers_5 ?_
  refine z_icmp_ge (tgt := 75) C dX4_readNumbers_6 (by decide) (fun c1 => ?_) (fun c1 => ?_)
  · refine z_iconst (v := 1) C dX4_readNumbers_75 (by decide) ?_
    exact z_zret C hr rfl dX4_readNumbers_76
  · refine z_aload_n C dX4_readNumbers_9 rfl 0 rfl ?_
    refine z_chk (fun hk1 => ?_)
    refine z_getI C fl_RX4_46 rfl hk1 dX4_readNumbers_10 ?_
    refine z_iconst (v := 2) C dX4_readNumbers_13 (by decide) ?_
    refine z_icmp_ne (tgt := 39) C dX4_readNumbers_14 (by decide) (fun c2 => ?_) (fun c2 => ?_)
    · refine z_aload_n C dX4_readNumbers_39 rfl 0 rfl ?_
      refine z_cVV [] [] C mv_RX4_161 (fun r0 m0 h0 => M_X4_breakOff _ _ _ _ _ _ h0) rfl rfl ⟨by rw [hrm]; exact Nat.le_of_ble_eq_true rfl, by rw [hrm]; exact Nat.le_of_ble_eq_true rfl⟩ ⟨by rw [hrm]; exact Nat.le_of_ble_eq_true rfl, by rw [hrm]; exact Nat.le_of_ble_eq_true rfl⟩ rfl hk1 rfl rfl rfl (Nat.le_of_ble_eq_true rfl) dX4_readNumbers_40 (fun r1 m1 => ?_)
      refine z_iconst (v := 0) C dX4_readNumbers_43 (by decide) ?_
      exact z_zret C hr rfl dX4_readNumbers_44
    · refine z_iload_n C dX4_readNumbers_17 rfl 3 rfl ?_
      refine z_if_lt (tgt := 39) C dX4_readNumbers_18 (by decide) (fun c3 => ?_) (fun c3 => ?_)
      · refine z_aload_n C dX4_readNumbers_39 rfl 0 rfl ?_
        refine z_cVV [] [] C mv_RX4_161 (fun r0 m0 h0 => M_X4_breakOff _ _ _ _ _ _ h0) rfl rfl ⟨by rw [hrm]; exact Nat.le_of_ble_eq_true rfl, by rw [hrm]; exact Nat.le_of_ble_eq_true rfl⟩ ⟨by rw [hrm]; exact Nat.le_of_ble_eq_true rfl, by rw [hrm]; exact Nat.le_of_ble_eq_true rfl⟩ rfl hk1 rfl rfl rfl (Nat.le_of_ble_eq_true rfl) dX4_readNumbers_40 (fun r2 m2 => ?_)
        refine z_iconst (v := 0) C dX4_readNumbers_43 (by decide) ?_
        exact z_zret C hr rfl dX4_readNumbers_44
      · refine z_iload_n C dX4_readNumbers_21 rfl 3 rfl ?_
        refine z_aload_n C dX4_readNumbers_22 rfl 0 rfl ?_
        refine z_getR C fl_RX4_25 rfl hk1 dX4_readNumbers_23 ?_
        refine z_ck (fun a1 hr1 hk2 => ?_)
        refine z_alen C hr1 hk2 (by decide) (by decide) dX4_readNumbers_26 ?_
        refine z_icmp_ge (tgt := 39) C dX4_readNumbers_27 (by decide) (fun c4 => ?_) (fun c4 => ?_)
        · refine z_aload_n C dX4_readNumbers_39 rfl 0 rfl ?_
          refine z_cVV [] [] C mv_RX4_161 (fun r0 m0 h0 => M_X4_breakOff _ _ _ _ _ _ h0) rfl rfl ⟨by rw [hrm]; exact Nat.le_of_ble_eq_true rfl, by rw [hrm]; exact Nat.le_of_ble_eq_true rfl⟩ ⟨by rw [hrm]; exact Nat.le_of_ble_eq_true rfl, by rw [hrm]; exact Nat.le_of_ble_eq_true rfl⟩ rfl hk1 rfl rfl rfl (Nat.le_of_ble_eq_true rfl) dX4_readNumbers_40 (fun r3 m3 => ?_)
          refine z_iconst (v := 0) C dX4_readNumbers_43 (by decide) ?_
          exact z_zret C hr rfl dX4_readNumbers_44
        · refine z_iload_n C dX4_readNumbers_30 rfl 3 rfl ?_
          refine z_aload_n C dX4_readNumbers_31 rfl 0 rfl ?_
          refine z_getR C fl_RX4_29 rfl hk1 dX4_readNumbers_32 ?_
          refine z_ck (fun a2 hr2 hk3 => ?_)
          refine z_alen C hr2 hk3 (by decide) (by decide) dX4_readNumbers_35 ?_
          refine z_icmp_lt (tgt := 45) C dX4_readNumbers_36 (by decide) (fun c5 => ?_) (fun c5 => ?_)
          · refine z_aload_n C dX4_readNumbers_45 rfl 0 rfl ?_
            refine z_getR C fl_RX4_25 rfl hk1 dX4_readNumbers_46 ?_
            refine z_iload_n C dX4_readNumbers_49 rfl 3 rfl ?_
            refine z_aload_n C dX4_readNumbers_50 rfl 0 rfl ?_
            refine z_getI C fl_RX4_265 rfl hk1 dX4_readNumbers_51 ?_
            refine z_chk (fun hj1 => ?_)
            refine z_iast C hr1 hk2 hj1 dX4_readNumbers_54 (fun m4 eK1 eN1 => ?_)
            refine z_aload_n C dX4_readNumbers_55 rfl 0 rfl ?_
            refine z_getR C fl_RX4_29 rfl (kfw eK1 hk1) dX4_readNumbers_56 ?_
            refine z_iload_n C dX4_readNumbers_59 rfl 3 rfl ?_
            refine z_aload_n C dX4_readNumbers_60 rfl 0 rfl ?_
            refine z_getI C fl_RX4_49 rfl (kfw eK1 hk1) dX4_readNumbers_61 ?_
            refine z_ck (fun a3 hr3 hk4 => ?_)
            refine z_chk (fun hj2 => ?_)
            refine z_iast C hr3 hk4 hj2 dX4_readNumbers_64 (fun m5 eK2 eN2 => ?_)
            refine z_aload_n C dX4_readNumbers_65 rfl 0 rfl ?_
            refine z_cVV [] [] C mv_RX4_76 (fun r0 m0 h0 => M_X4_step _ _ _ _ _ _ h0) rfl rfl ⟨by rw [hrm]; exact Nat.le_of_ble_eq_true rfl, by rw [hrm]; exact Nat.le_of_ble_eq_true rfl⟩ ⟨by rw [hrm]; exact Nat.le_of_ble_eq_true rfl, by rw [hrm]; exact Nat.le_of_ble_eq_true rfl⟩ rfl (kfw eK2 (kfw eK1 hk1)) rfl rfl rfl (Nat.le_of_ble_eq_true rfl) dX4_readNumbers_66 (fun r4 m6 => ?_)
            refine z_iinc (v := 1) (L2 := [(3, .int (x3 + 1)), (0, va_rf (some th)), (1, .int p1), (2, .int p2)]) C dX4_readNumbers_69 3 rfl (by decide) (by decide) rfl ?_
            refine z_goto (tgt := 2) C dX4_readNumbers_72 (by decide) ?_
            exact z_sub [1, 2, 3, 0] rfl (h2 (x3 + 1) m6)
          · refine z_aload_n C dX4_readNumbers_39 rfl 0 rfl ?_
            refine z_cVV [] [] C mv_RX4_161 (fun r0 m0 h0 => M_X4_breakOff _ _ _ _ _ _ h0) rfl rfl ⟨by rw [hrm]; exact Nat.le_of_ble_eq_true rfl, by rw [hrm]; exact Nat.le_of_ble_eq_true rfl⟩ ⟨by rw [hrm]; exact Nat.le_of_ble_eq_true rfl, by rw [hrm]; exact Nat.le_of_ble_eq_true rfl⟩ rfl hk1 rfl rfl rfl (Nat.le_of_ble_eq_true rfl) dX4_readNumbers_40 (fun r5 m7 => ?_)
            refine z_iconst (v := 0) C dX4_readNumbers_43 (by decide) ?_
            exact z_zret C hr rfl dX4_readNumbers_44
def l_X4_readNumbers_2 (th : Nat) (p1 : Int32) (p2 : Int32) : Nat → Int32 → MM → Option (Int32 × MM) := lp (fun _ _ => none) (fun k2 => g_X4_readNumbers_2 th p1 p2 k2)
theorem t_X4_readNumbers_2 {Γ : GX} {E : EX} (C : Cx Γ E cX4_readNumbers RX4 4) (hr : Γ.meth.sig.returnType = (some .boolean)) (hrm : Γ.rm = rmX4_readNumbers) (th : Nat) (p1 : Int32) (p2 : Int32) : ∀ (n : Nat) (x3 : Int32) (m : MM), Sm (QM Γ E emI 0 0) Γ E 4 0 0 2 [(0, va_rf (some th)), (1, .int p1), (2, .int p2), (3, .int x3)] [] m (l_X4_readNumbers_2 th p1 p2 n x3 m) := by
  intro n
  induction n with
  | zero => intros; exact z_none
  | succ n ih => intro x3 m; exact s_X4_readNumbers_2 C hr hrm th p1 p2 (l_X4_readNumbers_2 th p1 p2 n) ih x3 m
set_option maxRecDepth 100000 in
def g_X4_readNumbers_0 (th : Nat) (p1 : Int32) (p2 : Int32) (m : MM) : Option (Int32 × MM) :=
  l_X4_readNumbers_2 th p1 p2 FU p1 m
set_option maxHeartbeats 4000000 in
set_option maxRecDepth 100000 in
theorem s_X4_readNumbers_0 {Γ : GX} {E : EX} (C : Cx Γ E cX4_readNumbers RX4 4) (hr : Γ.meth.sig.returnType = (some .boolean)) (hrm : Γ.rm = rmX4_readNumbers) (th : Nat) (p1 : Int32) (p2 : Int32) (m : MM) : Sm (QM Γ E emI 0 0) Γ E 4 0 0 0 [(0, va_rf (some th)), (1, .int p1), (2, .int p2)] [] m (g_X4_readNumbers_0 th p1 p2 m) := by
  unfold g_X4_readNumbers_0
  refine z_iload_n C dX4_readNumbers_0 rfl 1 rfl ?_
  refine z_istore_n (i := 3) (L2 := [(3, .int p1), (0, va_rf (some th)), (1, .int p1), (2, .int p2)]) C dX4_readNumbers_1 rfl (by decide) rfl ?_
  exact z_sub [1, 2, 3, 0] rfl (t_X4_readNumbers_2 C hr hrm th p1 p2 FU p1 m)
def f_X4_readNumbers (th : Nat) (p1 : Int32) (p2 : Int32) (m : MM) : Option (Int32 × MM) := g_X4_readNumbers_0 th p1 p2 m
theorem M_X4_readNumbers (l : Launch) (E : EX) (th : Nat) (p1 : Int32) (p2 : Int32) (m : MM) (r : Int32) (m2 : MM) (h : f_X4_readNumbers th p1 p2 m = some (r, m2)) : Met l yX4_readNumbers (.code yX4_readNumbers cX4_readNumbers 4 (some .boolean) :: TB) rmX4_readNumbers (va_Pc [.ref th, .int p1, .int p2] (St E m)) (QR E (emI r) m2) 0 0 (AA E) :=
  met_of (em := emI) (plainFor_of_name rfl) (Nat.le_of_ble_eq_true rfl) (L0 := [(0, va_rf (some th)), (1, .int p1), (2, .int p2)]) rfl (fun Γ _ hrm C hr hn => s_X4_readNumbers_0 C hr hrm th p1 p2 m) h

theorem dX4_readStop_0 : decode cX4_readStop 0 = .ok (.aload_n 0, 1) := by decide +kernel
theorem dX4_readStop_1 : decode cX4_readStop 1 = .ok (.getfield 46, 3) := by decide +kernel
theorem dX4_readStop_4 : decode cX4_readStop 4 = .ok (.iconst 3, 1) := by decide +kernel
theorem dX4_readStop_5 : decode cX4_readStop 5 = .ok (.if_icmp .eq 9, 3) := by decide +kernel
theorem dX4_readStop_8 : decode cX4_readStop 8 = .ok (.aload_n 0, 1) := by decide +kernel
theorem dX4_readStop_9 : decode cX4_readStop 9 = .ok (.invokevirtual 161, 3) := by decide +kernel
theorem dX4_readStop_12 : decode cX4_readStop 12 = .ok (.iconst 0, 1) := by decide +kernel
theorem dX4_readStop_13 : decode cX4_readStop 13 = .ok (.ireturn, 1) := by decide +kernel
theorem dX4_readStop_14 : decode cX4_readStop 14 = .ok (.aload_n 0, 1) := by decide +kernel
theorem dX4_readStop_15 : decode cX4_readStop 15 = .ok (.invokevirtual 76, 3) := by decide +kernel
theorem dX4_readStop_18 : decode cX4_readStop 18 = .ok (.iconst 1, 1) := by decide +kernel
theorem dX4_readStop_19 : decode cX4_readStop 19 = .ok (.ireturn, 1) := by decide +kernel
def rmX4_readStop : Room := { frames := 2, cells := 0, slots := 0, locals := 42 }
set_option maxRecDepth 100000 in
def g_X4_readStop_0 (th : Nat) (m : MM) : Option (Int32 × MM) :=
  chk (m.K th = 5) (if (m.I 507 th 0) = 3 then (cal (f_X4_step th m) (fun r1 m1 => some (1, m1))) else (cal (f_X4_breakOff th m) (fun r2 m2 => some (0, m2))))
set_option maxHeartbeats 4000000 in
set_option maxRecDepth 100000 in
theorem s_X4_readStop_0 {Γ : GX} {E : EX} (C : Cx Γ E cX4_readStop RX4 1) (hr : Γ.meth.sig.returnType = (some .boolean)) (hrm : Γ.rm = rmX4_readStop) (th : Nat) (m : MM) : Sm (QM Γ E emI 0 0) Γ E 1 0 0 0 [(0, va_rf (some th))] [] m (g_X4_readStop_0 th m) := by
  unfold g_X4_readStop_0
  refine z_aload_n C dX4_readStop_0 rfl 0 rfl ?_
  refine z_chk (fun hk1 => ?_)
  refine z_getI C fl_RX4_46 rfl hk1 dX4_readStop_1 ?_
  refine z_iconst (v := 3) C dX4_readStop_4 (by decide) ?_
  refine z_icmp_eq (tgt := 14) C dX4_readStop_5 (by decide) (fun c1 => ?_) (fun c1 => ?_)
  · refine z_aload_n C dX4_readStop_14 rfl 0 rfl ?_
    refine z_cVV [] [] C mv_RX4_76 (fun r0 m0 h0 => M_X4_step _ _ _ _ _ _ h0) rfl rfl ⟨by rw [hrm]; exact Nat.le_of_ble_eq_true rfl, by rw [hrm]; exact Nat.le_of_ble_eq_true rfl⟩ ⟨by rw [hrm]; exact Nat.le_of_ble_eq_true rfl, by rw [hrm]; exact Nat.le_of_ble_eq_true rfl⟩ rfl hk1 rfl rfl rfl (Nat.le_of_ble_eq_true rfl) dX4_readStop_15 (fun r1 m1 => ?_)
    refine z_iconst (v := 1) C dX4_readStop_18 (by decide) ?_
    exact z_zret C hr rfl dX4_readStop_19
  · refine z_aload_n C dX4_readStop_8 rfl 0 rfl ?_
    refine z_cVV [] [] C mv_RX4_161 (fun r0 m0 h0 => M_X4_breakOff _ _ _ _ _ _ h0) rfl rfl ⟨by rw [hrm]; exact Nat.le_of_ble_eq_true rfl, by rw [hrm]; exact Nat.le_of_ble_eq_true rfl⟩ ⟨by rw [hrm]; exact Nat.le_of_ble_eq_true rfl, by rw [hrm]; exact Nat.le_of_ble_eq_true rfl⟩ rfl hk1 rfl rfl rfl (Nat.le_of_ble_eq_true rfl) dX4_readStop_9 (fun r2 m2 => ?_)
    refine z_iconst (v := 0) C dX4_readStop_12 (by decide) ?_
    exact z_zret C hr rfl dX4_readStop_13
def f_X4_readStop (th : Nat) (m : MM) : Option (Int32 × MM) := g_X4_readStop_0 th m
theorem M_X4_readStop (l : Launch) (E : EX) (th : Nat) (m : MM) (r : Int32) (m2 : MM) (h : f_X4_readStop th m = some (r, m2)) : Met l yX4_readStop (.code yX4_readStop cX4_readStop 1 (some .boolean) :: TB) rmX4_readStop (va_Pc [.ref th] (St E m)) (QR E (emI r) m2) 0 0 (AA E) :=
  met_of (em := emI) (plainFor_of_name rfl) (Nat.le_of_ble_eq_true rfl) (L0 := [(0, va_rf (some th))]) rfl (fun Γ _ hrm C hr hn => s_X4_readStop_0 C hr hrm th m) h

theorem dX4_number_0 : decode cX4_number 0 = .ok (.iload_n 1, 1) := by decide +kernel
theorem dX4_number_1 : decode cX4_number 1 = .ok (.ifCond .lt 21, 3) := by decide +kernel
theorem dX4_number_4 : decode cX4_number 4 = .ok (.iload_n 1, 1) := by decide +kernel
theorem dX4_number_5 : decode cX4_number 5 = .ok (.aload_n 0, 1) := by decide +kernel
theorem dX4_number_6 : decode cX4_number 6 = .ok (.getfield 25, 3) := by decide +kernel
theorem dX4_number_9 : decode cX4_number 9 = .ok (.arraylength, 1) := by decide +kernel
theorem dX4_number_10 : decode cX4_number 10 = .ok (.if_icmp .ge 12, 3) := by decide +kernel
theorem dX4_number_13 : decode cX4_number 13 = .ok (.aload_n 0, 1) := by decide +kernel
theorem dX4_number_14 : decode cX4_number 14 = .ok (.getfield 25, 3) := by decide +kernel
theorem dX4_number_17 : decode cX4_number 17 = .ok (.iload_n 1, 1) := by decide +kernel
theorem dX4_number_18 : decode cX4_number 18 = .ok (.iaload, 1) := by decide +kernel
theorem dX4_number_19 : decode cX4_number 19 = .ok (.goto 4, 3) := by decide +kernel
theorem dX4_number_22 : decode cX4_number 22 = .ok (.iconst 0, 1) := by decide +kernel
theorem dX4_number_23 : decode cX4_number 23 = .ok (.ireturn, 1) := by decide +kernel
def rmX4_number : Room := { frames := 0, cells := 0, slots := 0, locals := 0 }
set_option maxRecDepth 100000 in
def g_X4_number_22 (th : Nat) (p1 : Int32) (m : MM) : Option (Int32 × MM) :=
  some (0, m)
set_option maxHeartbeats 4000000 in
set_option maxRecDepth 100000 in
theorem s_X4_number_22 {Γ : GX} {E : EX} (C : Cx Γ E cX4_number RX4 2) (hr : Γ.meth.sig.returnType = (some .int)) (hrm : Γ.rm = rmX4_number) (th : Nat) (p1 : Int32) (m : MM) : Sm (QM Γ E emI 0 0) Γ E 2 0 0 22 [(0, va_rf (some th)), (1, .int p1)] [] m (g_X4_number_22 th p1 m) := by
  unfold g_X4_number_22
  refine z_iconst (v := 0) C dX4_number_22 (by decide) ?_
  exact z_iret C hr dX4_number_23
set_option maxRecDepth 100000 in
def g_X4_number_0 (th : Nat) (p1 : Int32) (m : MM) : Option (Int32 × MM) :=
  if p1 < 0 then (g_X4_number_22 th p1 m) else (chk (m.K th = 5) (ck m (m.R 502 th 0) 22 (fun a1 => if (Int32.ofNat (m.N a1)) ≤ p1 then (g_X4_number_22 th p1 m) else (chk (inb p1 (m.N a1) = true) (some (m.I 22 a1 (Int32.toNatClampNeg p1), m))))))
set_option maxHeartbeats 4000000 in
set_option maxRecDepth 100000 in
theorem s_X4_number_0 {Γ : GX} {E : EX} (C : Cx Γ E cX4_number RX4 2) (hr : Γ.meth.sig.returnType = (some .int)) (hrm : Γ.rm = rmX4_number) (th : Nat) (p1 : Int32) (m : MM) : Sm (QM Γ E emI 0 0) Γ E 2 0 0 0 [(0, va_rf (some th)), (1, .int p1)] [] m (g_X4_number_0 th p1 m) := by
  unfold g_X4_number_0
  refine z_iload_n C dX4_number_0 rfl 1 rfl ?_
  refine z_if_lt (tgt := 22) C dX4_number_1 (by decide) (fun c1 => ?_) (fun c1 => ?_)
  · exact z_sub [0, 1] rfl (s_X4_number_22 C hr hrm th p1 m)
  · refine z_iload_n C dX4_number_4 rfl 1 rfl ?_
    refine z_aload_n C dX4_number_5 rfl 0 rfl ?_
    refine z_chk (fun hk1 => ?_)
    refine z_getR C fl_RX4_25 rfl hk1 dX4_number_6 ?_
    refine z_ck (fun a1 hr1 hk2 => ?_)
    refine z_alen C hr1 hk2 (by decide) (by decide) dX4_number_9 ?_
    refine z_icmp_ge (tgt := 22) C dX4_number_10 (by decide) (fun c2 => ?_) (fun c2 => ?_)
    · exact z_sub [0, 1] rfl (s_X4_number_22 C hr hrm th p1 m)
    · refine z_aload_n C dX4_number_13 rfl 0 rfl ?_
      refine z_getR C fl_RX4_25 rfl hk1 dX4_number_14 ?_
      refine z_iload_n C dX4_number_17 rfl 1 rfl ?_
      refine z_chk (fun hj1 => ?_)
      refine z_iald C hr1 hk2 hj1 dX4_number_18 ?_
      refine z_goto (tgt := 23) C dX4_number_19 (by decide) ?_
      exact z_iret C hr dX4_number_23
def f_X4_number (th : Nat) (p1 : Int32) (m : MM) : Option (Int32 × MM) := g_X4_number_0 th p1 m
theorem M_X4_number (l : Launch) (E : EX) (th : Nat) (p1 : Int32) (m : MM) (r : Int32) (m2 : MM) (h : f_X4_number th p1 m = some (r, m2)) : Met l yX4_number (.code yX4_number cX4_number 2 (some .int) :: TB) rmX4_number (va_Pc [.ref th, .int p1] (St E m)) (QR E (emI r) m2) 0 0 (AA E) :=
  met_of (em := emI) (plainFor_of_name rfl) (Nat.le_of_ble_eq_true rfl) (L0 := [(0, va_rf (some th)), (1, .int p1)]) rfl (fun Γ _ hrm C hr hn => s_X4_number_0 C hr hrm th p1 m) h

theorem dX4_placeOf_0 : decode cX4_placeOf 0 = .ok (.iload_n 1, 1) := by decide +kernel
theorem dX4_placeOf_1 : decode cX4_placeOf 1 = .ok (.ifCond .lt 21, 3) := by decide +kernel
theorem dX4_placeOf_4 : decode cX4_placeOf 4 = .ok (.iload_n 1, 1) := by decide +kernel
theorem dX4_placeOf_5 : decode cX4_placeOf 5 = .ok (.aload_n 0, 1) := by decide +kernel
theorem dX4_placeOf_6 : decode cX4_placeOf 6 = .ok (.getfield 29, 3) := by decide +kernel
theorem dX4_placeOf_9 : decode cX4_placeOf 9 = .ok (.arraylength, 1) := by decide +kernel
theorem dX4_placeOf_10 : decode cX4_placeOf 10 = .ok (.if_icmp .ge 12, 3) := by decide +kernel
theorem dX4_placeOf_13 : decode cX4_placeOf 13 = .ok (.aload_n 0, 1) := by decide +kernel
theorem dX4_placeOf_14 : decode cX4_placeOf 14 = .ok (.getfield 29, 3) := by decide +kernel
theorem dX4_placeOf_17 : decode cX4_placeOf 17 = .ok (.iload_n 1, 1) := by decide +kernel
theorem dX4_placeOf_18 : decode cX4_placeOf 18 = .ok (.iaload, 1) := by decide +kernel
theorem dX4_placeOf_19 : decode cX4_placeOf 19 = .ok (.goto 4, 3) := by decide +kernel
theorem dX4_placeOf_22 : decode cX4_placeOf 22 = .ok (.iconst (-1), 1) := by decide +kernel
theorem dX4_placeOf_23 : decode cX4_placeOf 23 = .ok (.ireturn, 1) := by decide +kernel
def rmX4_placeOf : Room := { frames := 0, cells := 0, slots := 0, locals := 0 }
set_option maxRecDepth 100000 in
def g_X4_placeOf_22 (th : Nat) (p1 : Int32) (m : MM) : Option (Int32 × MM) :=
  some ((-1), m)
set_option maxHeartbeats 4000000 in
set_option maxRecDepth 100000 in
theorem s_X4_placeOf_22 {Γ : GX} {E : EX} (C : Cx Γ E cX4_placeOf RX4 2) (hr : Γ.meth.sig.returnType = (some .int)) (hrm : Γ.rm = rmX4_placeOf) (th : Nat) (p1 : Int32) (m : MM) : Sm (QM Γ E emI 0 0) Γ E 2 0 0 22 [(0, va_rf (some th)), (1, .int p1)] [] m (g_X4_placeOf_22 th p1 m) := by
  unfold g_X4_placeOf_22
  refine z_iconst (v := (-1)) C dX4_placeOf_22 (by decide) ?_
  exact z_iret C hr dX4_placeOf_23
set_option maxRecDepth 100000 in
def g_X4_placeOf_0 (th : Nat) (p1 : Int32) (m : MM) : Option (Int32 × MM) :=
  if p1 < 0 then (g_X4_placeOf_22 th p1 m) else (chk (m.K th = 5) (ck m (m.R 503 th 0) 22 (fun a1 => if (Int32.ofNat (m.N a1)) ≤ p1 then (g_X4_placeOf_22 th p1 m) else (chk (inb p1 (m.N a1) = true) (some (m.I 22 a1 (Int32.toNatClampNeg p1), m))))))
set_option maxHeartbeats 4000000 in
set_option maxRecDepth 100000 in
theorem s_X4_placeOf_0 {Γ : GX} {E : EX} (C : Cx Γ E cX4_placeOf RX4 2) (hr : Γ.meth.sig.returnType = (some .int)) (hrm : Γ.rm = rmX4_placeOf) (th : Nat) (p1 : Int32) (m : MM) : Sm (QM Γ E emI 0 0) Γ E 2 0 0 0 [(0, va_rf (some th)), (1, .int p1)] [] m (g_X4_placeOf_0 th p1 m) := by
  unfold g_X4_placeOf_0
  refine z_iload_n C dX4_placeOf_0 rfl 1 rfl ?_
  refine z_if_lt (tgt := 22) C dX4_placeOf_1 (by decide) (fun c1 => ?_) (fun c1 => ?_)
  · exact z_sub [0, 1] rfl (s_X4_placeOf_22 C hr hrm th p1 m)
  · refine z_iload_n C dX4_placeOf_4 rfl 1 rfl ?_
    refine z_aload_n C dX4_placeOf_5 rfl 0 rfl ?_
    refine z_chk (fun hk1 => ?_)
    refine z_getR C fl_RX4_29 rfl hk1 dX4_placeOf_6 ?_
    refine z_ck (fun a1 hr1 hk2 => ?_)
    refine z_alen C hr1 hk2 (by decide) (by decide) dX4_placeOf_9 ?_
    refine z_icmp_ge (tgt := 22) C dX4_placeOf_10 (by decide) (fun c2 => ?_) (fun c2 => ?_)
    · exact z_sub [0, 1] rfl (s_X4_placeOf_22 C hr hrm th p1 m)
    · refine z_aload_n C dX4_placeOf_13 rfl 0 rfl ?_
      refine z_getR C fl_RX4_29 rfl hk1 dX4_placeOf_14 ?_
      refine z_iload_n C dX4_placeOf_17 rfl 1 rfl ?_
      refine z_chk (fun hj1 => ?_)
      refine z_iald C hr1 hk2 hj1 dX4_placeOf_18 ?_
      refine z_goto (tgt := 23) C dX4_placeOf_19 (by decide) ?_
      exact z_iret C hr dX4_placeOf_23
def f_X4_placeOf (th : Nat) (p1 : Int32) (m : MM) : Option (Int32 × MM) := g_X4_placeOf_0 th p1 m
theorem M_X4_placeOf (l : Launch) (E : EX) (th : Nat) (p1 : Int32) (m : MM) (r : Int32) (m2 : MM) (h : f_X4_placeOf th p1 m = some (r, m2)) : Met l yX4_placeOf (.code yX4_placeOf cX4_placeOf 2 (some .int) :: TB) rmX4_placeOf (va_Pc [.ref th, .int p1] (St E m)) (QR E (emI r) m2) 0 0 (AA E) :=
  met_of (em := emI) (plainFor_of_name rfl) (Nat.le_of_ble_eq_true rfl) (L0 := [(0, va_rf (some th)), (1, .int p1)]) rfl (fun Γ _ hrm C hr hn => s_X4_placeOf_0 C hr hrm th p1 m) h

theorem dX4_note_0 : decode cX4_note 0 = .ok (.aload_n 0, 1) := by decide +kernel
theorem dX4_note_1 : decode cX4_note 1 = .ok (.getfield 42, 3) := by decide +kernel
theorem dX4_note_4 : decode cX4_note 4 = .ok (.iconst 1, 1) := by decide +kernel
theorem dX4_note_5 : decode cX4_note 5 = .ok (.if_icmp .ne 4, 3) := by decide +kernel
theorem dX4_note_8 : decode cX4_note 8 = .ok (.return_, 1) := by decide +kernel
theorem dX4_note_9 : decode cX4_note 9 = .ok (.aload_n 0, 1) := by decide +kernel
theorem dX4_note_10 : decode cX4_note 10 = .ok (.getfield 42, 3) := by decide +kernel
theorem dX4_note_13 : decode cX4_note 13 = .ok (.ifCond .eq 27, 3) := by decide +kernel
theorem dX4_note_16 : decode cX4_note 16 = .ok (.iload_n 2, 1) := by decide +kernel
theorem dX4_note_17 : decode cX4_note 17 = .ok (.aload_n 0, 1) := by decide +kernel
theorem dX4_note_18 : decode cX4_note 18 = .ok (.getfield 73, 3) := by decide +kernel
theorem dX4_note_21 : decode cX4_note 21 = .ok (.if_icmp .lt 19, 3) := by decide +kernel
theorem dX4_note_24 : decode cX4_note 24 = .ok (.iload_n 2, 1) := by decide +kernel
theorem dX4_note_25 : decode cX4_note 25 = .ok (.aload_n 0, 1) := by decide +kernel
theorem dX4_note_26 : decode cX4_note 26 = .ok (.getfield 73, 3) := by decide +kernel
theorem dX4_note_29 : decode cX4_note 29 = .ok (.if_icmp .ne 21, 3) := by decide +kernel
theorem dX4_note_32 : decode cX4_note 32 = .ok (.iload_n 1, 1) := by decide +kernel
theorem dX4_note_33 : decode cX4_note 33 = .ok (.aload_n 0, 1) := by decide +kernel
theorem dX4_note_34 : decode cX4_note 34 = .ok (.getfield 42, 3) := by decide +kernel
theorem dX4_note_37 : decode cX4_note 37 = .ok (.if_icmp .ge 13, 3) := by decide +kernel
theorem dX4_note_40 : decode cX4_note 40 = .ok (.aload_n 0, 1) := by decide +kernel
theorem dX4_note_41 : decode cX4_note 41 = .ok (.iload_n 1, 1) := by decide +kernel
theorem dX4_note_42 : decode cX4_note 42 = .ok (.putfield 42, 3) := by decide +kernel
theorem dX4_note_45 : decode cX4_note 45 = .ok (.aload_n 0, 1) := by decide +kernel
theorem dX4_note_46 : decode cX4_note 46 = .ok (.iload_n 2, 1) := by decide +kernel
theorem dX4_note_47 : decode cX4_note 47 = .ok (.putfield 73, 3) := by decide +kernel
theorem dX4_note_50 : decode cX4_note 50 = .ok (.return_, 1) := by decide +kernel
def rmX4_note : Room := { frames := 0, cells := 0, slots := 0, locals := 0 }
set_option maxRecDepth 100000 in
def g_X4_note_40 (th : Nat) (p1 : Int32) (p2 : Int32) (m : MM) : Option (Unit × MM) :=
  chk (m.K th = 5) (bnd (m.sI 510 th 0 p1) (fun m1 => bnd (m1.sI 511 th 0 p2) (fun m2 => some ((), m2))))
set_option maxHeartbeats 4000000 in
set_option maxRecDepth 100000 in
theorem s_X4_note_40 {Γ : GX} {E : EX} (C : Cx Γ E cX4_note RX4 3) (hr : Γ.meth.sig.returnType = none) (hrm : Γ.rm = rmX4_note) (th : Nat) (p1 : Int32) (p2 : Int32) (m : MM) : Sm (QM Γ E emV 0 0) Γ E 3 0 0 40 [(0, va_rf (some th)), (1, .int p1), (2, .int p2)] [] m (g_X4_note_40 th p1 p2 m) := by
  unfold g_X4_note_40
  refine z_aload_n C dX4_note_40 rfl 0 rfl ?_
  refine z_iload_n C dX4_note_41 rfl 1 rfl ?_
  refine z_chk (fun hk1 => ?_)
  refine z_putI C fl_RX4_42 (fun h => by cases h) rfl hk1 rfl rfl dX4_note_42 (fun m1 eK1 eN1 => ?_)
  refine z_aload_n C dX4_note_45 rfl 0 rfl ?_
  refine z_iload_n C dX4_note_46 rfl 2 rfl ?_
  refine z_putI C fl_RX4_73 (fun h => by cases h) rfl (kfw eK1 hk1) rfl rfl dX4_note_47 (fun m2 eK2 eN2 => ?_)
  exact z_vret C hr dX4_note_50
set_option maxRecDepth 100000 in
def g_X4_note_0 (th : Nat) (p1 : Int32) (p2 : Int32) (m : MM) : Option (Unit × MM) :=
  chk (m.K th = 5) (if (m.I 510 th 0) = 1 then (some ((), m)) else (if (m.I 510 th 0) = 0 then (g_X4_note_40 th p1 p2 m) else (if p2 < (m.I 511 th 0) then (g_X4_note_40 th p1 p2 m) else (if p2 = (m.I 511 th 0) then (if (m.I 510 th 0) ≤ p1 then (some ((), m)) else (g_X4_note_40 th p1 p2 m)) else (some ((), m))))))
set_option maxHeartbeats 4000000 in
set_option maxRecDepth 100000 in
theorem s_X4_note_0 {Γ : GX} {E : EX} (C : Cx Γ E cX4_note RX4 3) (hr : Γ.meth.sig.returnType = none) (hrm : Γ.rm = rmX4_note) (th : Nat) (p1 : Int32) (p2 : Int32) (m : MM) : Sm (QM Γ E emV 0 0) Γ E 3 0 0 0 [(0, va_rf (some th)), (1, .int p1), (2, .int p2)] [] m (g_X4_note_0 th p1 p2 m) := by
  unfold g_X4_note_0
  refine z_aload_n C dX4_note_0 rfl 0 rfl ?_
  refine z_chk (fun hk2 => ?_)
  refine z_getI C fl_RX4_42 rfl hk2 dX4_note_1 ?_
  refine z_iconst (v := 1) C dX4_note_4 (by decide) ?_
  refine z_icmp_ne (tgt := 9) C dX4_note_5 (by decide) (fun c1 => ?_) (fun c1 => ?_)
  · refine z_aload_n C dX4_note_9 rfl 0 rfl ?_
    refine z_getI C fl_RX4_42 rfl hk2 dX4_note_10 ?_
    refine z_if_eq (tgt := 40) C dX4_note_13 (by decide) (fun c2 => ?_) (fun c2 => ?_)
    · exact z_sub [0, 1, 2] rfl (s_X4_note_40 C hr hrm th p1 p2 m)
    · refine z_iload_n C dX4_note_16 rfl 2 rfl ?_
      refine z_aload_n C dX4_note_17 rfl 0 rfl ?_
      refine z_getI C fl_RX4_73 rfl hk2 dX4_note_18 ?_
      refine z_icmp_lt (tgt := 40) C dX4_note_21 (by decide) (fun c3 => ?_) (fun c3 => ?_)
      · exact z_sub [0, 1, 2] rfl (s_X4_note_40 C hr hrm th p1 p2 m)
      · refine z_iload_n C dX4_note_24 rfl 2 rfl ?_
        refine z_aload_n C dX4_note_25 rfl 0 rfl ?_
        refine z_getI C fl_RX4_73 rfl hk2 dX4_note_26 ?_
        refine z_icmp_ne (tgt := 50) C dX4_note_29 (by decide) (fun c4 => ?_) (fun c4 => ?_)
        · exact z_vret C hr dX4_note_50
        · refine z_iload_n C dX4_note_32 rfl 1 rfl ?_
          refine z_aload_n C dX4_note_33 rfl 0 rfl ?_
          refine z_getI C fl_RX4_42 rfl hk2 dX4_note_34 ?_
          refine z_icmp_ge (tgt := 50) C dX4_note_37 (by decide) (fun c5 => ?_) (fun c5 => ?_)
          · exact z_vret C hr dX4_note_50
          · exact z_sub [0, 1, 2] rfl (s_X4_note_40 C hr hrm th p1 p2 m)
  · exact z_vret C hr dX4_note_8
def f_X4_note (th : Nat) (p1 : Int32) (p2 : Int32) (m : MM) : Option (Unit × MM) := g_X4_note_0 th p1 p2 m
theorem M_X4_note (l : Launch) (E : EX) (th : Nat) (p1 : Int32) (p2 : Int32) (m : MM) (r : Unit) (m2 : MM) (h : f_X4_note th p1 p2 m = some (r, m2)) : Met l yX4_note (.code yX4_note cX4_note 3 none :: TB) rmX4_note (va_Pc [.ref th, .int p1, .int p2] (St E m)) (QR E (emV r) m2) 0 0 (AA E) :=
  met_of (em := emV) (plainFor_of_name rfl) (Nat.le_of_ble_eq_true rfl) (L0 := [(0, va_rf (some th)), (1, .int p1), (2, .int p2)]) rfl (fun Γ _ hrm C hr hn => s_X4_note_0 C hr hrm th p1 p2 m) h

theorem dX4_check_0 : decode cX4_check 0 = .ok (.aload_n 0, 1) := by decide +kernel
theorem dX4_check_1 : decode cX4_check 1 = .ok (.iload_n 1, 1) := by decide +kernel
theorem dX4_check_2 : decode cX4_check 2 = .ok (.invokevirtual 97, 3) := by decide +kernel
theorem dX4_check_5 : decode cX4_check 5 = .ok (.iload_n 2, 1) := by decide +kernel
theorem dX4_check_6 : decode cX4_check 6 = .ok (.if_icmp .lt 12, 3) := by decide +kernel
theorem dX4_check_9 : decode cX4_check 9 = .ok (.aload_n 0, 1) := by decide +kernel
theorem dX4_check_10 : decode cX4_check 10 = .ok (.iload_n 1, 1) := by decide +kernel
theorem dX4_check_11 : decode cX4_check 11 = .ok (.invokevirtual 97, 3) := by decide +kernel
theorem dX4_check_14 : decode cX4_check 14 = .ok (.iload_n 3, 1) := by decide +kernel
theorem dX4_check_15 : decode cX4_check 15 = .ok (.if_icmp .le 13, 3) := by decide +kernel
theorem dX4_check_18 : decode cX4_check 18 = .ok (.aload_n 0, 1) := by decide +kernel
theorem dX4_check_19 : decode cX4_check 19 = .ok (.iconst 2, 1) := by decide +kernel
theorem dX4_check_20 : decode cX4_check 20 = .ok (.aload_n 0, 1) := by decide +kernel
theorem dX4_check_21 : decode cX4_check 21 = .ok (.iload_n 1, 1) := by decide +kernel
theorem dX4_check_22 : decode cX4_check 22 = .ok (.invokevirtual 180, 3) := by decide +kernel
theorem dX4_check_25 : decode cX4_check 25 = .ok (.invokevirtual 52, 3) := by decide +kernel
theorem dX4_check_28 : decode cX4_check 28 = .ok (.return_, 1) := by decide +kernel
def rmX4_check : Room := { frames := 1, cells := 0, slots := 0, locals := 22 }
set_option maxRecDepth 100000 in
def g_X4_check_18 (th : Nat) (p1 : Int32) (p2 : Int32) (p3 : Int32) (m : MM) : Option (Unit × MM) :=
  chk (m.K th = 5) (cal (f_X4_placeOf th p1 m) (fun r1 m1 => chk (m1.K th = 5) (cal (f_X4_note th 2 r1 m1) (fun r2 m2 => some ((), m2)))))
set_option maxHeartbeats 4000000 in
set_option maxRecDepth 100000 in
theorem s_X4_check_18 {Γ : GX} {E : EX} (C : Cx Γ E cX4_check RX4 4) (hr : Γ.meth.sig.returnType = none) (hrm : Γ.rm = rmX4_check) (th : Nat) (p1 : Int32) (p2 : Int32) (p3 : Int32) (m : MM) : Sm (QM Γ E emV 0 0) Γ E 4 0 0 18 [(0, va_rf (some th)), (1, .int p1), (2, .int p2), (3, .int p3)] [] m (g_X4_check_18 th p1 p2 p3 m) := by
  unfold g_X4_check_18
  refine z_aload_n C dX4_check_18 rfl 0 rfl ?_
  refine z_iconst (v := 2) C dX4_check_19 (by decide) ?_
  refine z_aload_n C dX4_check_20 rfl 0 rfl ?_
  refine z_iload_n C dX4_check_21 rfl 1 rfl ?_
  refine z_chk (fun hk1 => ?_)
  refine z_cVI [.int p1] [.int 2, va_rf (some th)] C mv_RX4_180 (fun r0 m0 h0 => M_X4_placeOf _ _ _ _ _ _ _ h0) rfl rfl ⟨by rw [hrm]; exact Nat.le_of_ble_eq_true rfl, by rw [hrm]; exact Nat.le_of_ble_eq_true rfl⟩ ⟨by rw [hrm]; exact Nat.le_of_ble_eq_true rfl, by rw [hrm]; exact Nat.le_of_ble_eq_true rfl⟩ rfl hk1 rfl rfl rfl (Nat.le_of_ble_eq_true rfl) dX4_check_22 (fun r1 m1 => ?_)
  refine z_chk (fun hk2 => ?_)
  refine z_cVV [.int 2, .int r1] [] C mv_RX4_52 (fun r0 m0 h0 => M_X4_note _ _ _ _ _ _ _ _ h0) rfl rfl ⟨by rw [hrm]; exact Nat.le_of_ble_eq_true rfl, by rw [hrm]; exact Nat.le_of_ble_eq_true rfl⟩ ⟨by rw [hrm]; exact Nat.le_of_ble_eq_true rfl, by rw [hrm]; exact Nat.le_of_ble_eq_true rfl⟩ rfl hk2 rfl rfl rfl (Nat.le_of_ble_eq_true rfl) dX4_check_25 (fun r2 m2 => ?_)
  exact z_vret C hr dX4_check_28
set_option maxRecDepth 100000 in
def g_X4_check_0 (th : Nat) (p1 : Int32) (p2 : Int32) (p3 : Int32) (m : MM) : Option (Unit × MM) :=
  chk (m.K th = 5) (cal (f_X4_number th p1 m) (fun r3 m3 => if r3 < p2 then (g_X4_check_18 th p1 p2 p3 m3) else (chk (m3.K th = 5) (cal (f_X4_number th p1 m3) (fun r4 m4 => if r4 ≤ p3 then (some ((), m4)) else (g_X4_check_18 th p1 p2 p3 m4))))))
set_option maxHeartbeats 4000000 in
set_option maxRecDepth 100000 in
theorem s_X4_check_0 {Γ : GX} {E : EX} (C : Cx Γ E cX4_check RX4 4) (hr : Γ.meth.sig.returnType = none) (hrm : Γ.rm = rmX4_check) (th : Nat) (p1 : Int32) (p2 : Int32) (p3 : Int32) (m : MM) : Sm (QM Γ E emV 0 0) Γ E 4 0 0 0 [(0, va_rf (some th)), (1, .int p1), (2, .int p2), (3, .int p3)] [] m (g_X4_check_0 th p1 p2 p3 m) := by
  unfold g_X4_check_0
  refine z_aload_n C dX4_check_0 rfl 0 rfl ?_
  refine z_iload_n C dX4_check_1 rfl 1 rfl ?_
  refine z_chk (fun hk3 => ?_)
  refine z_cVI [.int p1] [] C mv_RX4_97 (fun r0 m0 h0 => M_X4_number _ _ _ _ _ _ _ h0) rfl rfl ⟨by rw [hrm]; exact Nat.le_of_ble_eq_true rfl, by rw [hrm]; exact Nat.le_of_ble_eq_true rfl⟩ ⟨by rw [hrm]; exact Nat.le_of_ble_eq_true rfl, by rw [hrm]; exact Nat.le_of_ble_eq_true rfl⟩ rfl hk3 rfl rfl rfl (Nat.le_of_ble_eq_true rfl) dX4_check_2 (fun r3 m3 => ?_)
  refine z_iload_n C dX4_check_5 rfl 2 rfl ?_
  refine z_icmp_lt (tgt := 18) C dX4_check_6 (by decide) (fun c1 => ?_) (fun c1 => ?_)
  · exact z_sub [0, 1, 2, 3] rfl (s_X4_check_18 C hr hrm th p1 p2 p3 m3)
  · refine z_aload_n C dX4_check_9 rfl 0 rfl ?_
    refine z_iload_n C dX4_check_10 rfl 1 rfl ?_
    refine z_chk (fun hk4 => ?_)
    refine z_cVI [.int p1] [] C mv_RX4_97 (fun r0 m0 h0 => M_X4_number _ _ _ _ _ _ _ h0) rfl rfl ⟨by rw [hrm]; exact Nat.le_of_ble_eq_true rfl, by rw [hrm]; exact Nat.le_of_ble_eq_true rfl⟩ ⟨by rw [hrm]; exact Nat.le_of_ble_eq_true rfl, by rw [hrm]; exact Nat.le_of_ble_eq_true rfl⟩ rfl hk4 rfl rfl rfl (Nat.le_of_ble_eq_true rfl) dX4_check_11 (fun r4 m4 => ?_)
    refine z_iload_n C dX4_check_14 rfl 3 rfl ?_
    refine z_icmp_le (tgt := 28) C dX4_check_15 (by decide) (fun c2 => ?_) (fun c2 => ?_)
    · exact z_vret C hr dX4_check_28
    · exact z_sub [0, 1, 2, 3] rfl (s_X4_check_18 C hr hrm th p1 p2 p3 m4)
def f_X4_check (th : Nat) (p1 : Int32) (p2 : Int32) (p3 : Int32) (m : MM) : Option (Unit × MM) := g_X4_check_0 th p1 p2 p3 m
theorem M_X4_check (l : Launch) (E : EX) (th : Nat) (p1 : Int32) (p2 : Int32) (p3 : Int32) (m : MM) (r : Unit) (m2 : MM) (h : f_X4_check th p1 p2 p3 m = some (r, m2)) : Met l yX4_check (.code yX4_check cX4_check 4 none :: TB) rmX4_check (va_Pc [.ref th, .int p1, .int p2, .int p3] (St E m)) (QR E (emV r) m2) 0 0 (AA E) :=
  met_of (em := emV) (plainFor_of_name rfl) (Nat.le_of_ble_eq_true rfl) (L0 := [(0, va_rf (some th)), (1, .int p1), (2, .int p2), (3, .int p3)]) rfl (fun Γ _ hrm C hr hn => s_X4_check_0 C hr hrm th p1 p2 p3 m) h

theorem dX4_readSize_0 : decode cX4_readSize 0 = .ok (.aload_n 0, 1) := by decide +kernel
theorem dX4_readSize_1 : decode cX4_readSize 1 = .ok (.ldc 79, 2) := by decide +kernel
theorem dX4_readSize_3 : decode cX4_readSize 3 = .ok (.invokevirtual 81, 3) := by decide +kernel
theorem dX4_readSize_6 : decode cX4_readSize 6 = .ok (.ifCond .eq 19, 3) := by decide +kernel
theorem dX4_readSize_9 : decode cX4_readSize 9 = .ok (.aload_n 0, 1) := by decide +kernel
theorem dX4_readSize_10 : decode cX4_readSize 10 = .ok (.iconst 0, 1) := by decide +kernel
theorem dX4_readSize_11 : decode cX4_readSize 11 = .ok (.iconst 2, 1) := by decide +kernel
theorem dX4_readSize_12 : decode cX4_readSize 12 = .ok (.invokevirtual 85, 3) := by decide +kernel
theorem dX4_readSize_15 : decode cX4_readSize 15 = .ok (.ifCond .eq 10, 3) := by decide +kernel
theorem dX4_readSize_18 : decode cX4_readSize 18 = .ok (.aload_n 0, 1) := by decide +kernel
theorem dX4_readSize_19 : decode cX4_readSize 19 = .ok (.invokevirtual 89, 3) := by decide +kernel
theorem dX4_readSize_22 : decode cX4_readSize 22 = .ok (.ifCond .ne 4, 3) := by decide +kernel
theorem dX4_readSize_25 : decode cX4_readSize 25 = .ok (.return_, 1) := by decide +kernel
theorem dX4_readSize_26 : decode cX4_readSize 26 = .ok (.aload_n 0, 1) := by decide +kernel
theorem dX4_readSize_27 : decode cX4_readSize 27 = .ok (.iconst 0, 1) := by decide +kernel
theorem dX4_readSize_28 : decode cX4_readSize 28 = .ok (.iconst 1, 1) := by decide +kernel
theorem dX4_readSize_29 : decode cX4_readSize 29 = .ok (.bipush 8, 2) := by decide +kernel
theorem dX4_readSize_31 : decode cX4_readSize 31 = .ok (.invokevirtual 93, 3) := by decide +kernel
theorem dX4_readSize_34 : decode cX4_readSize 34 = .ok (.aload_n 0, 1) := by decide +kernel
theorem dX4_readSize_35 : decode cX4_readSize 35 = .ok (.iconst 1, 1) := by decide +kernel
theorem dX4_readSize_36 : decode cX4_readSize 36 = .ok (.iconst 1, 1) := by decide +kernel
theorem dX4_readSize_37 : decode cX4_readSize 37 = .ok (.bipush 8, 2) := by decide +kernel
theorem dX4_readSize_39 : decode cX4_readSize 39 = .ok (.invokevirtual 93, 3) := by decide +kernel
theorem dX4_readSize_42 : decode cX4_readSize 42 = .ok (.aload_n 0, 1) := by decide +kernel
theorem dX4_readSize_43 : decode cX4_readSize 43 = .ok (.getfield 12, 3) := by decide +kernel
theorem dX4_readSize_46 : decode cX4_readSize 46 = .ok (.aload_n 0, 1) := by decide +kernel
theorem dX4_readSize_47 : decode cX4_readSize 47 = .ok (.iconst 0, 1) := by decide +kernel
theorem dX4_readSize_48 : decode cX4_readSize 48 = .ok (.invokevirtual 97, 3) := by decide +kernel
theorem dX4_readSize_51 : decode cX4_readSize 51 = .ok (.putfield 101, 3) := by decide +kernel
theorem dX4_readSize_54 : decode cX4_readSize 54 = .ok (.aload_n 0, 1) := by decide +kernel
theorem dX4_readSize_55 : decode cX4_readSize 55 = .ok (.getfield 12, 3) := by decide +kernel
theorem dX4_readSize_58 : decode cX4_readSize 58 = .ok (.aload_n 0, 1) := by decide +kernel
theorem dX4_readSize_59 : decode cX4_readSize 59 = .ok (.iconst 1, 1) := by decide +kernel
theorem dX4_readSize_60 : decode cX4_readSize 60 = .ok (.invokevirtual 97, 3) := by decide +kernel
theorem dX4_readSize_63 : decode cX4_readSize 63 = .ok (.putfield 104, 3) := by decide +kernel
theorem dX4_readSize_66 : decode cX4_readSize 66 = .ok (.return_, 1) := by decide +kernel
def rmX4_readSize : Room := { frames := 6, cells := 0, slots := 0, locals := 128 }
set_option maxRecDepth 100000 in
def g_X4_readSize_0 (th : Nat) (m : MM) : Option (Unit × MM) :=
  chk (m.K th = 5) (cal (f_X4_readWord th 0 m) (fun r1 m1 => if r1 = 0 then (some ((), m1)) else (chk (m1.K th = 5) (cal (f_X4_readNumbers th 0 2 m1) (fun r2 m2 => if r2 = 0 then (some ((), m2)) else (chk (m2.K th = 5) (cal (f_X4_readStop th m2) (fun r3 m3 => if r3 = 0 then (some ((), m3)) else (chk (m3.K th = 5) (cal (f_X4_check th 0 1 8 m3) (fun r4 m4 => chk (m4.K th = 5) (cal (f_X4_check th 1 1 8 m4) (fun r5 m5 => chk (m5.K th = 5) (cal (f_X4_number th 0 m5) (fun r6 m6 => ck m6 (m5.R 500 th 0) 9 (fun a1 => bnd (m6.sI 900 a1 0 r6) (fun m7 => chk (m7.K th = 5) (cal (f_X4_number th 1 m7) (fun r7 m8 => ck m8 (m7.R 500 th 0) 9 (fun a2 => bnd (m8.sI 901 a2 0 r7) (fun m9 => some ((), m9))))))))))))))))))))))
set_option maxHeartbeats 4000000 in
set_option maxRecDepth 100000 in
theorem s_X4_readSize_0 {Γ : GX} {E : EX} (C : Cx Γ E cX4_readSize RX4 1) (hr : Γ.meth.sig.returnType = none) (hrm : Γ.rm = rmX4_readSize) (th : Nat) (m : MM) : Sm (QM Γ E emV 0 0) Γ E 1 0 0 0 [(0, va_rf (some th))] [] m (g_X4_readSize_0 th m) := by
  unfold g_X4_readSize_0
  refine z_aload_n C dX4_readSize_0 rfl 0 rfl ?_
  refine z_ldcS C (i := 0) (by decide) rfl dX4_readSize_1 ?_
  refine z_chk (fun hk1 => ?_)
  refine z_cVI [va_rf (some (E.adK 0))] [] C mv_RX4_81 (fun r0 m0 h0 => M_X4_readWord _ _ _ _ _ _ _ h0) rfl rfl ⟨by rw [hrm]; exact Nat.le_of_ble_eq_true rfl, by rw [hrm]; exact Nat.le_of_ble_eq_true rfl⟩ ⟨by rw [hrm]; exact Nat.le_of_ble_eq_true rfl, by rw [hrm]; exact Nat.le_of_ble_eq_true rfl⟩ rfl hk1 rfl rfl rfl (Nat.le_of_ble_eq_true rfl) dX4_readSize_3 (fun r1 m1 => ?_)
  refine z_if_eq (tgt := 25) C dX4_readSize_6 (by decide) (fun c1 => ?_) (fun c1 => ?_)
  · exact z_vret C hr dX4_readSize_25
  · refine z_aload_n C dX4_readSize_9 rfl 0 rfl ?_
    refine z_iconst (v := 0) C dX4_readSize_10 (by decide) ?_
    refine z_iconst (v := 2) C dX4_readSize_11 (by decide) ?_
    refine z_chk (fun hk2 => ?_)
    refine z_cVI [.int 0, .int 2] [] C mv_RX4_85 (fun r0 m0 h0 => M_X4_readNumbers _ _ _ _ _ _ _ _ h0) rfl rfl ⟨by rw [hrm]; exact Nat.le_of_ble_eq_true rfl, by rw [hrm]; exact Nat.le_of_ble_eq_true rfl⟩ ⟨by rw [hrm]; exact Nat.le_of_ble_eq_true rfl, by rw [hrm]; exact Nat.le_of_ble_eq_true rfl⟩ rfl hk2 rfl rfl rfl (Nat.le_of_ble_eq_true rfl) dX4_readSize_12 (fun r2 m2 => ?_)
    refine z_if_eq (tgt := 25) C dX4_readSize_15 (by decide) (fun c2 => ?_) (fun c2 => ?_)
    · exact z_vret C hr dX4_readSize_25
    · refine z_aload_n C dX4_readSize_18 rfl 0 rfl ?_
      refine z_chk (fun hk3 => ?_)
      refine z_cVI [] [] C mv_RX4_89 (fun r0 m0 h0 => M_X4_readStop _ _ _ _ _ _ h0) rfl rfl ⟨by rw [hrm]; exact Nat.le_of_ble_eq_true rfl, by rw [hrm]; exact Nat.le_of_ble_eq_true rfl⟩ ⟨by rw [hrm]; exact Nat.le_of_ble_eq_true rfl, by rw [hrm]; exact Nat.le_of_ble_eq_true rfl⟩ rfl hk3 rfl rfl rfl (Nat.le_of_ble_eq_true rfl) dX4_readSize_19 (fun r3 m3 => ?_)
      refine z_if_ne (tgt := 26) C dX4_readSize_22 (by decide) (fun c3 => ?_) (fun c3 => ?_)
      · refine z_aload_n C dX4_readSize_26 rfl 0 rfl ?_
        refine z_iconst (v := 0) C dX4_readSize_27 (by decide) ?_
        refine z_iconst (v := 1) C dX4_readSize_28 (by decide) ?_
        refine z_bipush (v := 8) C dX4_readSize_29 (by decide) ?_
        refine z_chk (fun hk4 => ?_)
        refine z_cVV [.int 0, .int 1, .int 8] [] C mv_RX4_93 (fun r0 m0 h0 => M_X4_check _ _ _ _ _ _ _ _ _ h0) rfl rfl ⟨by rw [hrm]; exact Nat.le_of_ble_eq_true rfl, by rw [hrm]; exact Nat.le_of_ble_eq_true rfl⟩ ⟨by rw [hrm]; exact Nat.le_of_ble_eq_true rfl, by rw [hrm]; exact Nat.le_of_ble_eq_true rfl⟩ rfl hk4 rfl rfl rfl (Nat.le_of_ble_eq_true rfl) dX4_readSize_31 (fun r4 m4 => ?_)
        refine z_aload_n C dX4_readSize_34 rfl 0 rfl ?_
        refine z_iconst (v := 1) C dX4_readSize_35 (by decide) ?_
        refine z_iconst (v := 1) C dX4_readSize_36 (by decide) ?_
        refine z_bipush (v := 8) C dX4_readSize_37 (by decide) ?_
        refine z_chk (fun hk5 => ?_)
        refine z_cVV [.int 1, .int 1, .int 8] [] C mv_RX4_93 (fun r0 m0 h0 => M_X4_check _ _ _ _ _ _ _ _ _ h0) rfl rfl ⟨by rw [hrm]; exact Nat.le_of_ble_eq_true rfl, by rw [hrm]; exact Nat.le_of_ble_eq_true rfl⟩ ⟨by rw [hrm]; exact Nat.le_of_ble_eq_true rfl, by rw [hrm]; exact Nat.le_of_ble_eq_true rfl⟩ rfl hk5 rfl rfl rfl (Nat.le_of_ble_eq_true rfl) dX4_readSize_39 (fun r5 m5 => ?_)
        refine z_aload_n C dX4_readSize_42 rfl 0 rfl ?_
        refine z_chk (fun hk6 => ?_)
        refine z_getR C fl_RX4_12 rfl hk6 dX4_readSize_43 ?_
        refine z_aload_n C dX4_readSize_46 rfl 0 rfl ?_
        refine z_iconst (v := 0) C dX4_readSize_47 (by decide) ?_
        refine z_cVI [.int 0] [va_rf (m5.R 500 th 0)] C mv_RX4_97 (fun r0 m0 h0 => M_X4_number _ _ _ _ _ _ _ h0) rfl rfl ⟨by rw [hrm]; exact Nat.le_of_ble_eq_true rfl, by rw [hrm]; exact Nat.le_of_ble_eq_true rfl⟩ ⟨by rw [hrm]; exact Nat.le_of_ble_eq_true rfl, by rw [hrm]; exact Nat.le_of_ble_eq_true rfl⟩ rfl hk6 rfl rfl rfl (by simp [cat_rf, cat_i, cat_l, cat_a]) dX4_readSize_48 (fun r6 m6 => ?_)
        refine z_ck (fun a1 hr1 hk7 => ?_)
        refine z_putI C fl_RX4_101 (fun h => by cases h) hr1 hk7 rfl rfl dX4_readSize_51 (fun m7 eK1 eN1 => ?_)
        refine z_aload_n C dX4_readSize_54 rfl 0 rfl ?_
        refine z_chk (fun hk8 => ?_)
        refine z_getR C fl_RX4_12 rfl hk8 dX4_readSize_55 ?_
        refine z_aload_n C dX4_readSize_58 rfl 0 rfl ?_
        refine z_iconst (v := 1) C dX4_readSize_59 (by decide) ?_
        refine z_cVI [.int 1] [va_rf (m7.R 500 th 0)] C mv_RX4_97 (fun r0 m0 h0 => M_X4_number _ _ _ _ _ _ _ h0) rfl rfl ⟨by rw [hrm]; exact Nat.le_of_ble_eq_true rfl, by rw [hrm]; exact Nat.le_of_ble_eq_true rfl⟩ ⟨by rw [hrm]; exact Nat.le_of_ble_eq_true rfl, by rw [hrm]; exact Nat.le_of_ble_eq_true rfl⟩ rfl hk8 rfl rfl rfl (by simp [cat_rf, cat_i, cat_l, cat_a]) dX4_readSize_60 (fun r7 m8 => ?_)
        refine z_ck (fun a2 hr2 hk9 => ?_)
        refine z_putI C fl_RX4_104 (fun h => by cases h) hr2 hk9 rfl rfl dX4_readSize_63 (fun m9 eK2 eN2 => ?_)
        exact z_vret C hr dX4_readSize_66
      · exact z_vret C hr dX4_readSize_25
def f_X4_readSize (th : Nat) (m : MM) : Option (Unit × MM) := g_X4_readSize_0 th m
theorem M_X4_readSize (l : Launch) (E : EX) (th : Nat) (m : MM) (r : Unit) (m2 : MM) (h : f_X4_readSize th m = some (r, m2)) : Met l yX4_readSize (.code yX4_readSize cX4_readSize 1 none :: TB) rmX4_readSize (va_Pc [.ref th] (St E m)) (QR E (emV r) m2) 0 0 (AA E) :=
  met_of (em := emV) (plainFor_of_name rfl) (Nat.le_of_ble_eq_true rfl) (L0 := [(0, va_rf (some th))]) rfl (fun Γ _ hrm C hr hn => s_X4_readSize_0 C hr hrm th m) h

theorem dX4_checkPlaceFor_0 : decode cX4_checkPlaceFor 0 = .ok (.aload_n 1, 1) := by decide +kernel
theorem dX4_checkPlaceFor_1 : decode cX4_checkPlaceFor 1 = .ok (.getfield 221, 3) := by decide +kernel
theorem dX4_checkPlaceFor_4 : decode cX4_checkPlaceFor 4 = .ok (.aload_n 1, 1) := by decide +kernel
theorem dX4_checkPlaceFor_5 : decode cX4_checkPlaceFor 5 = .ok (.getfield 262, 3) := by decide +kernel
theorem dX4_checkPlaceFor_8 : decode cX4_checkPlaceFor 8 = .ok (.if_icmp .lt 9, 3) := by decide +kernel
theorem dX4_checkPlaceFor_11 : decode cX4_checkPlaceFor 11 = .ok (.aload_n 0, 1) := by decide +kernel
theorem dX4_checkPlaceFor_12 : decode cX4_checkPlaceFor 12 = .ok (.iconst 3, 1) := by decide +kernel
theorem dX4_checkPlaceFor_13 : decode cX4_checkPlaceFor 13 = .ok (.iload_n 2, 1) := by decide +kernel
theorem dX4_checkPlaceFor_14 : decode cX4_checkPlaceFor 14 = .ok (.invokevirtual 52, 3) := by decide +kernel
theorem dX4_checkPlaceFor_17 : decode cX4_checkPlaceFor 17 = .ok (.return_, 1) := by decide +kernel
def rmX4_checkPlaceFor : Room := { frames := 1, cells := 0, slots := 0, locals := 22 }
set_option maxRecDepth 100000 in
def g_X4_checkPlaceFor_0 (th : Nat) (p1 : Option Nat) (p2 : Int32) (m : MM) : Option (Unit × MM) :=
  ck m p1 7 (fun a1 => if (m.I 703 a1 0) < (m.I 700 a1 0) then (some ((), m)) else (chk (m.K th = 5) (cal (f_X4_note th 3 p2 m) (fun r1 m1 => some ((), m1)))))
set_option maxHeartbeats 4000000 in
set_option maxRecDepth 100000 in
theorem s_X4_checkPlaceFor_0 {Γ : GX} {E : EX} (C : Cx Γ E cX4_checkPlaceFor RX4 3) (hr : Γ.meth.sig.returnType = none) (hrm : Γ.rm = rmX4_checkPlaceFor) (th : Nat) (p1 : Option Nat) (p2 : Int32) (m : MM) : Sm (QM Γ E emV 0 0) Γ E 3 0 0 0 [(0, va_rf (some th)), (1, va_rf p1), (2, .int p2)] [] m (g_X4_checkPlaceFor_0 th p1 p2 m) := by
  unfold g_X4_checkPlaceFor_0
  refine z_aload_n C dX4_checkPlaceFor_0 rfl 1 rfl ?_
  refine z_ck (fun a1 hr1 hk1 => ?_)
  refine z_getI C fl_RX4_221 hr1 hk1 dX4_checkPlaceFor_1 ?_
  refine z_aload_n C dX4_checkPlaceFor_4 rfl 1 rfl ?_
  refine z_getI C fl_RX4_262 hr1 hk1 dX4_checkPlaceFor_5 ?_
  refine z_icmp_lt (tgt := 17) C dX4_checkPlaceFor_8 (by decide) (fun c1 => ?_) (fun c1 => ?_)
  · exact z_vret C hr dX4_checkPlaceFor_17
  · refine z_aload_n C dX4_checkPlaceFor_11 rfl 0 rfl ?_
    refine z_iconst (v := 3) C dX4_checkPlaceFor_12 (by decide) ?_
    refine z_iload_n C dX4_checkPlaceFor_13 rfl 2 rfl ?_
    refine z_chk (fun hk2 => ?_)
    refine z_cVV [.int 3, .int p2] [] C mv_RX4_52 (fun r0 m0 h0 => M_X4_note _ _ _ _ _ _ _ _ h0) rfl rfl ⟨by rw [hrm]; exact Nat.le_of_ble_eq_true rfl, by rw [hrm]; exact Nat.le_of_ble_eq_true rfl⟩ ⟨by rw [hrm]; exact Nat.le_of_ble_eq_true rfl, by rw [hrm]; exact Nat.le_of_ble_eq_true rfl⟩ rfl hk2 rfl rfl rfl (Nat.le_of_ble_eq_true rfl) dX4_checkPlaceFor_14 (fun r1 m1 => ?_)
    exact z_vret C hr dX4_checkPlaceFor_17
def f_X4_checkPlaceFor (th : Nat) (p1 : Option Nat) (p2 : Int32) (m : MM) : Option (Unit × MM) := g_X4_checkPlaceFor_0 th p1 p2 m
theorem M_X4_checkPlaceFor (l : Launch) (E : EX) (th : Nat) (p1 : Option Nat) (p2 : Int32) (m : MM) (r : Unit) (m2 : MM) (h : f_X4_checkPlaceFor th p1 p2 m = some (r, m2)) : Met l yX4_checkPlaceFor (.code yX4_checkPlaceFor cX4_checkPlaceFor 3 none :: TB) rmX4_checkPlaceFor (va_Pc [.ref th, va_rf p1, .int p2] (St E m)) (QR E (emV r) m2) 0 0 (AA E) :=
  met_of (em := emV) (plainFor_of_name rfl) (by simp [lg_sl, cat_rf, cat_i, cat_l, cat_a]) (L0 := [(0, va_rf (some th)), (1, va_rf p1), (2, .int p2)]) (by simp [lv_args, cat_rf, cat_i, cat_l, cat_a] <;> rfl) (fun Γ _ hrm C hr hn => s_X4_checkPlaceFor_0 C hr hrm th p1 p2 m) h

theorem dX4_checkPoint_0 : decode cX4_checkPoint 0 = .ok (.aload_n 0, 1) := by decide +kernel
theorem dX4_checkPoint_1 : decode cX4_checkPoint 1 = .ok (.iload_n 1, 1) := by decide +kernel
theorem dX4_checkPoint_2 : decode cX4_checkPoint 2 = .ok (.iconst 0, 1) := by decide +kernel
theorem dX4_checkPoint_3 : decode cX4_checkPoint 3 = .ok (.aload_n 0, 1) := by decide +kernel
theorem dX4_checkPoint_4 : decode cX4_checkPoint 4 = .ok (.getfield 12, 3) := by decide +kernel
theorem dX4_checkPoint_7 : decode cX4_checkPoint 7 = .ok (.getfield 101, 3) := by decide +kernel
theorem dX4_checkPoint_10 : decode cX4_checkPoint 10 = .ok (.iconst 1, 1) := by decide +kernel
theorem dX4_checkPoint_11 : decode cX4_checkPoint 11 = .ok (.isub, 1) := by decide +kernel
theorem dX4_checkPoint_12 : decode cX4_checkPoint 12 = .ok (.invokevirtual 93, 3) := by decide +kernel
theorem dX4_checkPoint_15 : decode cX4_checkPoint 15 = .ok (.aload_n 0, 1) := by decide +kernel
theorem dX4_checkPoint_16 : decode cX4_checkPoint 16 = .ok (.iload_n 1, 1) := by decide +kernel
theorem dX4_checkPoint_17 : decode cX4_checkPoint 17 = .ok (.iconst 1, 1) := by decide +kernel
theorem dX4_checkPoint_18 : decode cX4_checkPoint 18 = .ok (.iadd, 1) := by decide +kernel
theorem dX4_checkPoint_19 : decode cX4_checkPoint 19 = .ok (.iconst 0, 1) := by decide +kernel
theorem dX4_checkPoint_20 : decode cX4_checkPoint 20 = .ok (.aload_n 0, 1) := by decide +kernel
theorem dX4_checkPoint_21 : decode cX4_checkPoint 21 = .ok (.getfield 12, 3) := by decide +kernel
theorem dX4_checkPoint_24 : decode cX4_checkPoint 24 = .ok (.getfield 104, 3) := by decide +kernel
theorem dX4_checkPoint_27 : decode cX4_checkPoint 27 = .ok (.iconst 1, 1) := by decide +kernel
theorem dX4_checkPoint_28 : decode cX4_checkPoint 28 = .ok (.isub, 1) := by decide +kernel
theorem dX4_checkPoint_29 : decode cX4_checkPoint 29 = .ok (.invokevirtual 93, 3) := by decide +kernel
theorem dX4_checkPoint_32 : decode cX4_checkPoint 32 = .ok (.return_, 1) := by decide +kernel
def rmX4_checkPoint : Room := { frames := 2, cells := 0, slots := 0, locals := 45 }
set_option maxRecDepth 100000 in
def g_X4_checkPoint_0 (th : Nat) (p1 : Int32) (m : MM) : Option (Unit × MM) :=
  chk (m.K th = 5) (ck m (m.R 500 th 0) 9 (fun a1 => cal (f_X4_check th p1 0 ((m.I 900 a1 0) - 1) m) (fun r1 m1 => chk (m1.K th = 5) (ck m1 (m1.R 500 th 0) 9 (fun a2 => cal (f_X4_check th (p1 + 1) 0 ((m1.I 901 a2 0) - 1) m1) (fun r2 m2 => some ((), m2)))))))
set_option maxHeartbeats 4000000 in
set_option maxRecDepth 100000 in
theorem s_X4_checkPoint_0 {Γ : GX} {E : EX} (C : Cx Γ E cX4_checkPoint RX4 2) (hr : Γ.meth.sig.returnType = none) (hrm : Γ.rm = rmX4_checkPoint) (th : Nat) (p1 : Int32) (m : MM) : Sm (QM Γ E emV 0 0) Γ E 2 0 0 0 [(0, va_rf (some th)), (1, .int p1)] [] m (g_X4_checkPoint_0 th p1 m) := by
  unfold g_X4_checkPoint_0
  refine z_aload_n C dX4_checkPoint_0 rfl 0 rfl ?_
  refine z_iload_n C dX4_checkPoint_1 rfl 1 rfl ?_
  refine z_iconst (v := 0) C dX4_checkPoint_2 (by decide) ?_
  refine z_aload_n C dX4_checkPoint_3 rfl 0 rfl ?_
  refine z_chk (fun hk1 => ?_)
  refine z_getR C fl_RX4_12 rfl hk1 dX4_checkPoint_4 ?_
  refine z_ck (fun a1 hr1 hk2 => ?_)
  refine z_getI C fl_RX4_101 hr1 hk2 dX4_checkPoint_7 ?_
  refine z_iconst (v := 1) C dX4_checkPoint_10 (by decide) ?_
  refine z_isub C dX4_checkPoint_11 ?_
  refine z_cVV [.int p1, .int 0, .int ((m.I 900 a1 0) - 1)] [] C mv_RX4_93 (fun r0 m0 h0 => M_X4_check _ _ _ _ _ _ _ _ _ h0) rfl rfl ⟨by rw [hrm]; exact Nat.le_of_ble_eq_true rfl, by rw [hrm]; exact Nat.le_of_ble_eq_true rfl⟩ ⟨by rw [hrm]; exact Nat.le_of_ble_eq_true rfl, by rw [hrm]; exact Nat.le_of_ble_eq_true rfl⟩ rfl hk1 rfl rfl rfl (Nat.le_of_ble_eq_true rfl) dX4_checkPoint_12 (fun r1 m1 => ?_)
  refine z_aload_n C dX4_checkPoint_15 rfl 0 rfl ?_
  refine z_iload_n C dX4_checkPoint_16 rfl 1 rfl ?_
  refine z_iconst (v := 1) C dX4_checkPoint_17 (by decide) ?_
  refine z_iadd C dX4_checkPoint_18 ?_
  refine z_iconst (v := 0) C dX4_checkPoint_19 (by decide) ?_
  refine z_aload_n C dX4_checkPoint_20 rfl 0 rfl ?_
  refine z_chk (fun hk3 => ?_)
  refine z_getR C fl_RX4_12 rfl hk3 dX4_checkPoint_21 ?_
  refine z_ck (fun a2 hr2 hk4 => ?_)
  refine z_getI C fl_RX4_104 hr2 hk4 dX4_checkPoint_24 ?_
  refine z_iconst (v := 1) C dX4_checkPoint_27 (by decide) ?_
  refine z_isub C dX4_checkPoint_28 ?_
  refine z_cVV [.int (p1 + 1), .int 0, .int ((m1.I 901 a2 0) - 1)] [] C mv_RX4_93 (fun r0 m0 h0 => M_X4_check _ _ _ _ _ _ _ _ _ h0) rfl rfl ⟨by rw [hrm]; exact Nat.le_of_ble_eq_true rfl, by rw [hrm]; exact Nat.le_of_ble_eq_true rfl⟩ ⟨by rw [hrm]; exact Nat.le_of_ble_eq_true rfl, by rw [hrm]; exact Nat.le_of_ble_eq_true rfl⟩ rfl hk3 rfl rfl rfl (Nat.le_of_ble_eq_true rfl) dX4_checkPoint_29 (fun r2 m2 => ?_)
  exact z_vret C hr dX4_checkPoint_32
def f_X4_checkPoint (th : Nat) (p1 : Int32) (m : MM) : Option (Unit × MM) := g_X4_checkPoint_0 th p1 m
theorem M_X4_checkPoint (l : Launch) (E : EX) (th : Nat) (p1 : Int32) (m : MM) (r : Unit) (m2 : MM) (h : f_X4_checkPoint th p1 m = some (r, m2)) : Met l yX4_checkPoint (.code yX4_checkPoint cX4_checkPoint 2 none :: TB) rmX4_checkPoint (va_Pc [.ref th, .int p1] (St E m)) (QR E (emV r) m2) 0 0 (AA E) :=
  met_of (em := emV) (plainFor_of_name rfl) (Nat.le_of_ble_eq_true rfl) (L0 := [(0, va_rf (some th)), (1, .int p1)]) rfl (fun Γ _ hrm C hr hn => s_X4_checkPoint_0 C hr hrm th p1 m) h

theorem dX4_readThing_0 : decode cX4_readThing 0 = .ok (.aload_n 0, 1) := by decide +kernel
theorem dX4_readThing_1 : decode cX4_readThing 1 = .ok (.invokevirtual 76, 3) := by decide +kernel
theorem dX4_readThing_4 : decode cX4_readThing 4 = .ok (.aload_n 0, 1) := by decide +kernel
theorem dX4_readThing_5 : decode cX4_readThing 5 = .ok (.iconst 0, 1) := by decide +kernel
theorem dX4_readThing_6 : decode cX4_readThing 6 = .ok (.iconst 5, 1) := by decide +kernel
theorem dX4_readThing_7 : decode cX4_readThing 7 = .ok (.invokevirtual 85, 3) := by decide +kernel
theorem dX4_readThing_10 : decode cX4_readThing 10 = .ok (.ifCond .ne 4, 3) := by decide +kernel
theorem dX4_readThing_13 : decode cX4_readThing 13 = .ok (.return_, 1) := by decide +kernel
theorem dX4_readThing_14 : decode cX4_readThing 14 = .ok (.aload_n 0, 1) := by decide +kernel
theorem dX4_readThing_15 : decode cX4_readThing 15 = .ok (.ldc 164, 2) := by decide +kernel
theorem dX4_readThing_17 : decode cX4_readThing 17 = .ok (.invokevirtual 109, 3) := by decide +kernel
theorem dX4_readThing_20 : decode cX4_readThing 20 = .ok (.istore_n 2, 1) := by decide +kernel
theorem dX4_readThing_21 : decode cX4_readThing 21 = .ok (.iload_n 2, 1) := by decide +kernel
theorem dX4_readThing_22 : decode cX4_readThing 22 = .ok (.ifCond .eq 17, 3) := by decide +kernel
theorem dX4_readThing_25 : decode cX4_readThing 25 = .ok (.aload_n 0, 1) := by decide +kernel
theorem dX4_readThing_26 : decode cX4_readThing 26 = .ok (.invokevirtual 76, 3) := by decide +kernel
theorem dX4_readThing_29 : decode cX4_readThing 29 = .ok (.aload_n 0, 1) := by decide +kernel
theorem dX4_readThing_30 : decode cX4_readThing 30 = .ok (.iconst 5, 1) := by decide +kernel
theorem dX4_readThing_31 : decode cX4_readThing 31 = .ok (.iconst 1, 1) := by decide +kernel
theorem dX4_readThing_32 : decode cX4_readThing 32 = .ok (.invokevirtual 85, 3) := by decide +kernel
theorem dX4_readThing_35 : decode cX4_readThing 35 = .ok (.ifCond .ne 4, 3) := by decide +kernel
theorem dX4_readThing_38 : decode cX4_readThing 38 = .ok (.return_, 1) := by decide +kernel
theorem dX4_readThing_39 : decode cX4_readThing 39 = .ok (.aload_n 0, 1) := by decide +kernel
theorem dX4_readThing_40 : decode cX4_readThing 40 = .ok (.invokevirtual 89, 3) := by decide +kernel
theorem dX4_readThing_43 : decode cX4_readThing 43 = .ok (.ifCond .ne 4, 3) := by decide +kernel
theorem dX4_readThing_46 : decode cX4_readThing 46 = .ok (.return_, 1) := by decide +kernel
theorem dX4_readThing_47 : decode cX4_readThing 47 = .ok (.aload_n 0, 1) := by decide +kernel
theorem dX4_readThing_48 : decode cX4_readThing 48 = .ok (.aload_n 0, 1) := by decide +kernel
theorem dX4_readThing_49 : decode cX4_readThing 49 = .ok (.getfield 12, 3) := by decide +kernel
theorem dX4_readThing_52 : decode cX4_readThing 52 = .ok (.getfield 166, 3) := by decide +kernel
theorem dX4_readThing_55 : decode cX4_readThing 55 = .ok (.iload_n 1, 1) := by decide +kernel
theorem dX4_readThing_56 : decode cX4_readThing 56 = .ok (.invokevirtual 169, 3) := by decide +kernel
theorem dX4_readThing_59 : decode cX4_readThing 59 = .ok (.aload_n 0, 1) := by decide +kernel
theorem dX4_readThing_60 : decode cX4_readThing 60 = .ok (.iconst 0, 1) := by decide +kernel
theorem dX4_readThing_61 : decode cX4_readThing 61 = .ok (.iconst 0, 1) := by decide +kernel
theorem dX4_readThing_62 : decode cX4_readThing 62 = .ok (.iconst 5, 1) := by decide +kernel
theorem dX4_readThing_63 : decode cX4_readThing 63 = .ok (.invokevirtual 93, 3) := by decide +kernel
theorem dX4_readThing_66 : decode cX4_readThing 66 = .ok (.aload_n 0, 1) := by decide +kernel
theorem dX4_readThing_67 : decode cX4_readThing 67 = .ok (.iconst 1, 1) := by decide +kernel
theorem dX4_readThing_68 : decode cX4_readThing 68 = .ok (.invokevirtual 173, 3) := by decide +kernel
theorem dX4_readThing_71 : decode cX4_readThing 71 = .ok (.aload_n 0, 1) := by decide +kernel
theorem dX4_readThing_72 : decode cX4_readThing 72 = .ok (.iconst 3, 1) := by decide +kernel
theorem dX4_readThing_73 : decode cX4_readThing 73 = .ok (.iconst 0, 1) := by decide +kernel
theorem dX4_readThing_74 : decode cX4_readThing 74 = .ok (.bipush 7, 2) := by decide +kernel
theorem dX4_readThing_76 : decode cX4_readThing 76 = .ok (.invokevirtual 93, 3) := by decide +kernel
theorem dX4_readThing_79 : decode cX4_readThing 79 = .ok (.aload_n 0, 1) := by decide +kernel
theorem dX4_readThing_80 : decode cX4_readThing 80 = .ok (.iconst 4, 1) := by decide +kernel
theorem dX4_readThing_81 : decode cX4_readThing 81 = .ok (.iconst 0, 1) := by decide +kernel
theorem dX4_readThing_82 : decode cX4_readThing 82 = .ok (.sipush 999, 3) := by decide +kernel
theorem dX4_readThing_85 : decode cX4_readThing 85 = .ok (.invokevirtual 93, 3) := by decide +kernel
theorem dX4_readThing_88 : decode cX4_readThing 88 = .ok (.iload_n 2, 1) := by decide +kernel
theorem dX4_readThing_89 : decode cX4_readThing 89 = .ok (.ifCond .eq 10, 3) := by decide +kernel
theorem dX4_readThing_92 : decode cX4_readThing 92 = .ok (.aload_n 0, 1) := by decide +kernel
theorem dX4_readThing_93 : decode cX4_readThing 93 = .ok (.iconst 5, 1) := by decide +kernel
theorem dX4_readThing_94 : decode cX4_readThing 94 = .ok (.iconst 0, 1) := by decide +kernel
theorem dX4_readThing_95 : decode cX4_readThing 95 = .ok (.iconst 3, 1) := by decide +kernel
theorem dX4_readThing_96 : decode cX4_readThing 96 = .ok (.invokevirtual 93, 3) := by decide +kernel
theorem dX4_readThing_99 : decode cX4_readThing 99 = .ok (.aload_n 0, 1) := by decide +kernel
theorem dX4_readThing_100 : decode cX4_readThing 100 = .ok (.getfield 12, 3) := by decide +kernel
theorem dX4_readThing_103 : decode cX4_readThing 103 = .ok (.aload_n 0, 1) := by decide +kernel
theorem dX4_readThing_104 : decode cX4_readThing 104 = .ok (.iconst 1, 1) := by decide +kernel
theorem dX4_readThing_105 : decode cX4_readThing 105 = .ok (.invokevirtual 97, 3) := by decide +kernel
theorem dX4_readThing_108 : decode cX4_readThing 108 = .ok (.aload_n 0, 1) := by decide +kernel
theorem dX4_readThing_109 : decode cX4_readThing 109 = .ok (.iconst 2, 1) := by decide +kernel
theorem dX4_readThing_110 : decode cX4_readThing 110 = .ok (.invokevirtual 97, 3) := by decide +kernel
theorem dX4_readThing_113 : decode cX4_readThing 113 = .ok (.invokevirtual 176, 3) := by decide +kernel
theorem dX4_readThing_116 : decode cX4_readThing 116 = .ok (.iconst (-1), 1) := by decide +kernel
theorem dX4_readThing_117 : decode cX4_readThing 117 = .ok (.if_icmp .eq 13, 3) := by decide +kernel
theorem dX4_readThing_120 : decode cX4_readThing 120 = .ok (.aload_n 0, 1) := by decide +kernel
theorem dX4_readThing_121 : decode cX4_readThing 121 = .ok (.iconst 4, 1) := by decide +kernel
theorem dX4_readThing_122 : decode cX4_readThing 122 = .ok (.aload_n 0, 1) := by decide +kernel
theorem dX4_readThing_123 : decode cX4_readThing 123 = .ok (.iconst 1, 1) := by decide +kernel
theorem dX4_readThing_124 : decode cX4_readThing 124 = .ok (.invokevirtual 180, 3) := by decide +kernel
theorem dX4_readThing_127 : decode cX4_readThing 127 = .ok (.invokevirtual 52, 3) := by decide +kernel
theorem dX4_readThing_130 : decode cX4_readThing 130 = .ok (.aload_n 0, 1) := by decide +kernel
theorem dX4_readThing_131 : decode cX4_readThing 131 = .ok (.getfield 42, 3) := by decide +kernel
theorem dX4_readThing_134 : decode cX4_readThing 134 = .ok (.ifCond .ne 68, 3) := by decide +kernel
theorem dX4_readThing_137 : decode cX4_readThing 137 = .ok (.aload_n 0, 1) := by decide +kernel
theorem dX4_readThing_138 : decode cX4_readThing 138 = .ok (.getfield 12, 3) := by decide +kernel
theorem dX4_readThing_141 : decode cX4_readThing 141 = .ok (.getfield 166, 3) := by decide +kernel
theorem dX4_readThing_144 : decode cX4_readThing 144 = .ok (.invokevirtual 183, 3) := by decide +kernel
theorem dX4_readThing_147 : decode cX4_readThing 147 = .ok (.istore_n 3, 1) := by decide +kernel
theorem dX4_readThing_148 : decode cX4_readThing 148 = .ok (.aload_n 0, 1) := by decide +kernel
theorem dX4_readThing_149 : decode cX4_readThing 149 = .ok (.getfield 12, 3) := by decide +kernel
theorem dX4_readThing_152 : decode cX4_readThing 152 = .ok (.iload_n 3, 1) := by decide +kernel
theorem dX4_readThing_153 : decode cX4_readThing 153 = .ok (.aload_n 0, 1) := by decide +kernel
theorem dX4_readThing_154 : decode cX4_readThing 154 = .ok (.iconst 0, 1) := by decide +kernel
theorem dX4_readThing_155 : decode cX4_readThing 155 = .ok (.invokevirtual 97, 3) := by decide +kernel
theorem dX4_readThing_158 : decode cX4_readThing 158 = .ok (.aload_n 0, 1) := by decide +kernel
theorem dX4_readThing_159 : decode cX4_readThing 159 = .ok (.iconst 1, 1) := by decide +kernel
theorem dX4_readThing_160 : decode cX4_readThing 160 = .ok (.invokevirtual 97, 3) := by decide +kernel
theorem dX4_readThing_163 : decode cX4_readThing 163 = .ok (.aload_n 0, 1) := by decide +kernel
theorem dX4_readThing_164 : decode cX4_readThing 164 = .ok (.iconst 2, 1) := by decide +kernel
theorem dX4_readThing_165 : decode cX4_readThing 165 = .ok (.invokevirtual 97, 3) := by decide +kernel
theorem dX4_readThing_168 : decode cX4_readThing 168 = .ok (.invokevirtual 189, 3) := by decide +kernel
theorem dX4_readThing_171 : decode cX4_readThing 171 = .ok (.aload_n 0, 1) := by decide +kernel
theorem dX4_readThing_172 : decode cX4_readThing 172 = .ok (.getfield 12, 3) := by decide +kernel
theorem dX4_readThing_175 : decode cX4_readThing 175 = .ok (.iload_n 3, 1) := by decide +kernel
theorem dX4_readThing_176 : decode cX4_readThing 176 = .ok (.aload_n 0, 1) := by decide +kernel
theorem dX4_readThing_177 : decode cX4_readThing 177 = .ok (.iconst 3, 1) := by decide +kernel
theorem dX4_readThing_178 : decode cX4_readThing 178 = .ok (.invokevirtual 97, 3) := by decide +kernel
theorem dX4_readThing_181 : decode cX4_readThing 181 = .ok (.aload_n 0, 1) := by decide +kernel
theorem dX4_readThing_182 : decode cX4_readThing 182 = .ok (.iconst 4, 1) := by decide +kernel
theorem dX4_readThing_183 : decode cX4_readThing 183 = .ok (.invokevirtual 97, 3) := by decide +kernel
theorem dX4_readThing_186 : decode cX4_readThing 186 = .ok (.iload_n 2, 1) := by decide +kernel
theorem dX4_readThing_187 : decode cX4_readThing 187 = .ok (.ifCond .eq 11, 3) := by decide +kernel
theorem dX4_readThing_190 : decode cX4_readThing 190 = .ok (.aload_n 0, 1) := by decide +kernel
theorem dX4_readThing_191 : decode cX4_readThing 191 = .ok (.iconst 5, 1) := by decide +kernel
theorem dX4_readThing_192 : decode cX4_readThing 192 = .ok (.invokevirtual 97, 3) := by decide +kernel
theorem dX4_readThing_195 : decode cX4_readThing 195 = .ok (.goto 4, 3) := by decide +kernel
theorem dX4_readThing_198 : decode cX4_readThing 198 = .ok (.iconst (-1), 1) := by decide +kernel
theorem dX4_readThing_199 : decode cX4_readThing 199 = .ok (.invokevirtual 193, 3) := by decide +kernel
theorem dX4_readThing_202 : decode cX4_readThing 202 = .ok (.return_, 1) := by decide +kernel
def rmX4_readThing : Room := { frames := 5, cells := 0, slots := 0, locals := 107 }
set_option maxRecDepth 100000 in
def g_X4_readThing_199 (th : Nat) (p1 : Int32) (s0 : Option Nat) (s1 : Int32) (s2 : Int32) (s3 : Int32) (s4 : Int32) (m : MM) : Option (Unit × MM) :=
  ck m s0 9 (fun a1 => cal (f_X8_fillRest a1 s1 s2 s3 s4 m) (fun r1 m1 => some ((), m1)))
set_option maxHeartbeats 4000000 in
set_option maxRecDepth 100000 in
theorem s_X4_readThing_199 {Γ : GX} {E : EX} (C : Cx Γ E cX4_readThing RX4 4) (hr : Γ.meth.sig.returnType = none) (hrm : Γ.rm = rmX4_readThing) (th : Nat) (p1 : Int32) (s0 : Option Nat) (s1 : Int32) (s2 : Int32) (s3 : Int32) (s4 : Int32) (m : MM) : Sm (QM Γ E emV 0 0) Γ E 4 0 0 199 [(0, va_rf (some th)), (1, .int p1)] [.int s4, .int s3, .int s2, .int s1, va_rf s0] m (g_X4_readThing_199 th p1 s0 s1 s2 s3 s4 m) := by
  unfold g_X4_readThing_199
  refine z_ck (fun a1 hr1 hk1 => ?_)
  refine z_cVV [.int s1, .int s2, .int s3, .int s4] [] C mv_RX4_193 (fun r0 m0 h0 => M_X8_fillRest _ _ _ _ _ _ _ _ _ _ h0) rfl rfl ⟨by rw [hrm]; exact Nat.le_of_ble_eq_true rfl, by rw [hrm]; exact Nat.le_of_ble_eq_true rfl⟩ ⟨by rw [hrm]; exact Nat.le_of_ble_eq_true rfl, by rw [hrm]; exact Nat.le_of_ble_eq_true rfl⟩ hr1 hk1 rfl rfl rfl (Nat.le_of_ble_eq_true rfl) dX4_readThing_199 (fun r1 m1 => ?_)
  exact z_vret C hr dX4_readThing_202
set_option maxRecDepth 100000 in
def g_X4_readThing_130 (th : Nat) (p1 : Int32) (x2 : Int32) (m : MM) : Option (Unit × MM) :=
  chk (m.K th = 5) (if (m.I 510 th 0) = 0 then (ck m (m.R 500 th 0) 9 (fun a2 => ck m (m.R 904 a2 0) 7 (fun a3 => cal (f_X6_addRow a3 m) (fun r2 m2 => chk (m2.K th = 5) (cal (f_X4_number th 0 m2) (fun r3 m3 => chk (m3.K th = 5) (cal (f_X4_number th 1 m3) (fun r4 m4 => chk (m4.K th = 5) (cal (f_X4_number th 2 m4) (fun r5 m5 => ck m5 (m2.R 500 th 0) 9 (fun a4 => cal (f_X8_fillThing a4 r2 r3 r4 r5 m5) (fun r6 m6 => chk (m6.K th = 5) (cal (f_X4_number th 3 m6) (fun r7 m7 => chk (m7.K th = 5) (cal (f_X4_number th 4 m7) (fun r8 m8 => if x2 = 0 then (g_X4_readThing_199 th p1 (m6.R 500 th 0) r2 r7 r8 (-1) m8) else (chk (m8.K th = 5) (cal (f_X4_number th 5 m8) (fun r9 m9 => g_X4_readThing_199 th p1 (m6.R 500 th 0) r2 r7 r8 r9 m9))))))))))))))))))) else (some ((), m)))
set_option maxHeartbeats 4000000 in
set_option maxRecDepth 100000 in
theorem s_X4_readThing_130 {Γ : GX} {E : EX} (C : Cx Γ E cX4_readThing RX4 4) (hr : Γ.meth.sig.returnType = none) (hrm : Γ.rm = rmX4_readThing) (th : Nat) (p1 : Int32) (x2 : Int32) (m : MM) : Sm (QM Γ E emV 0 0) Γ E 4 0 0 130 [(0, va_rf (some th)), (1, .int p1), (2, .int x2)] [] m (g_X4_readThing_130 th p1 x2 m) := by
  unfold g_X4_readThing_130
  refine z_aload_n C dX4_readThing_130 rfl 0 rfl ?_
  refine z_chk (fun hk2 => ?_)
  refine z_getI C fl_RX4_42 rfl hk2 dX4_readThing_131 ?_
  refine z_if_ne (tgt := 202) C dX4_readThing_134 (by decide) (fun c1 => ?_) (fun c1 => ?_)
  · exact z_vret C hr dX4_readThing_202
  · refine z_aload_n C dX4_readThing_137 rfl 0 rfl ?_
    refine z_getR C fl_RX4_12 rfl hk2 dX4_readThing_138 ?_
    refine z_ck (fun a2 hr2 hk3 => ?_)
    refine z_getR C fl_RX4_166 hr2 hk3 dX4_readThing_141 ?_
    refine z_ck (fun a3 hr3 hk4 => ?_)
    refine z_cVI [] [] C mv_RX4_183 (fun r0 m0 h0 => M_X6_addRow _ _ _ _ _ _ h0) rfl rfl ⟨by rw [hrm]; exact Nat.le_of_ble_eq_true rfl, by rw [hrm]; exact Nat.le_of_ble_eq_true rfl⟩ ⟨by rw [hrm]; exact Nat.le_of_ble_eq_true rfl, by rw [hrm]; exact Nat.le_of_ble_eq_true rfl⟩ hr3 hk4 rfl rfl rfl (Nat.le_of_ble_eq_true rfl) dX4_readThing_144 (fun r2 m2 => ?_)
    refine z_istore_n (i := 3) (L2 := [(3, .int r2), (0, va_rf (some th)), (1, .int p1), (2, .int x2)]) C dX4_readThing_147 rfl (by decide) rfl ?_
    refine z_aload_n C dX4_readThing_148 rfl 1 rfl ?_
    refine z_chk (fun hk5 => ?_)
    refine z_getR C fl_RX4_12 rfl hk5 dX4_readThing_149 ?_
    refine z_iload_n C dX4_readThing_152 rfl 0 rfl ?_
    refine z_aload_n C dX4_readThing_153 rfl 1 rfl ?_
    refine z_iconst (v := 0) C dX4_readThing_154 (by decide) ?_
    refine z_cVI [.int 0] [.int r2, va_rf (m2.R 500 th 0)] C mv_RX4_97 (fun r0 m0 h0 => M_X4_number _ _ _ _ _ _ _ h0) rfl rfl ⟨by rw [hrm]; exact Nat.le_of_ble_eq_true rfl, by rw [hrm]; exact Nat.le_of_ble_eq_true rfl⟩ ⟨by rw [hrm]; exact Nat.le_of_ble_eq_true rfl, by rw [hrm]; exact Nat.le_of_ble_eq_true rfl⟩ rfl hk5 rfl rfl rfl (by simp [cat_rf, cat_i, cat_l, cat_a]) dX4_readThing_155 (fun r3 m3 => ?_)
    refine z_aload_n C dX4_readThing_158 rfl 1 rfl ?_
    refine z_iconst (v := 1) C dX4_readThing_159 (by decide) ?_
    refine z_chk (fun hk6 => ?_)
    refine z_cVI [.int 1] [.int r3, .int r2, va_rf (m2.R 500 th 0)] C mv_RX4_97 (fun r0 m0 h0 => M_X4_number _ _ _ _ _ _ _ h0) rfl rfl ⟨by rw [hrm]; exact Nat.le_of_ble_eq_true rfl, by rw [hrm]; exact Nat.le_of_ble_eq_true rfl⟩ ⟨by rw [hrm]; exact Nat.le_of_ble_eq_true rfl, by rw [hrm]; exact Nat.le_of_ble_eq_true rfl⟩ rfl hk6 rfl rfl rfl (by simp [cat_rf, cat_i, cat_l, cat_a]) dX4_readThing_160 (fun r4 m4 => ?_)
    refine z_aload_n C dX4_readThing_163 rfl 1 rfl ?_
    refine z_iconst (v := 2) C dX4_readThing_164 (by decide) ?_
    refine z_chk (fun hk7 => ?_)
    refine z_cVI [.int 2] [.int r4, .int r3, .int r2, va_rf (m2.R 500 th 0)] C mv_RX4_97 (fun r0 m0 h0 => M_X4_number _ _ _ _ _ _ _ h0) rfl rfl ⟨by rw [hrm]; exact Nat.le_of_ble_eq_true rfl, by rw [hrm]; exact Nat.le_of_ble_eq_true rfl⟩ ⟨by rw [hrm]; exact Nat.le_of_ble_eq_true rfl, by rw [hrm]; exact Nat.le_of_ble_eq_true rfl⟩ rfl hk7 rfl rfl rfl (by simp [cat_rf, cat_i, cat_l, cat_a]) dX4_readThing_165 (fun r5 m5 => ?_)
    refine z_ck (fun a4 hr4 hk8 => ?_)
    refine z_cVV [.int r2, .int r3, .int r4, .int r5] [] C mv_RX4_189 (fun r0 m0 h0 => M_X8_fillThing _ _ _ _ _ _ _ _ _ _ h0) rfl rfl ⟨by rw [hrm]; exact Nat.le_of_ble_eq_true rfl, by rw [hrm]; exact Nat.le_of_ble_eq_true rfl⟩ ⟨by rw [hrm]; exact Nat.le_of_ble_eq_true rfl, by rw [hrm]; exact Nat.le_of_ble_eq_true rfl⟩ hr4 hk8 rfl rfl rfl (Nat.le_of_ble_eq_true rfl) dX4_readThing_168 (fun r6 m6 => ?_)
    refine z_aload_n C dX4_readThing_171 rfl 1 rfl ?_
    refine z_chk (fun hk9 => ?_)
    refine z_getR C fl_RX4_12 rfl hk9 dX4_readThing_172 ?_
    refine z_iload_n C dX4_readThing_175 rfl 0 rfl ?_
    refine z_aload_n C dX4_readThing_176 rfl 1 rfl ?_
    refine z_iconst (v := 3) C dX4_readThing_177 (by decide) ?_
    refine z_cVI [.int 3] [.int r2, va_rf (m6.R 500 th 0)] C mv_RX4_97 (fun r0 m0 h0 => M_X4_number _ _ _ _ _ _ _ h0) rfl rfl ⟨by rw [hrm]; exact Nat.le_of_ble_eq_true rfl, by rw [hrm]; exact Nat.le_of_ble_eq_true rfl⟩ ⟨by rw [hrm]; exact Nat.le_of_ble_eq_true rfl, by rw [hrm]; exact Nat.le_of_ble_eq_true rfl⟩ rfl hk9 rfl rfl rfl (by simp [cat_rf, cat_i, cat_l, cat_a]) dX4_readThing_178 (fun r7 m7 => ?_)
    refine z_aload_n C dX4_readThing_181 rfl 1 rfl ?_
    refine z_iconst (v := 4) C dX4_readThing_182 (by decide) ?_
    refine z_chk (fun hk10 => ?_)
    refine z_cVI [.int 4] [.int r7, .int r2, va_rf (m6.R 500 th 0)] C mv_RX4_97 (fun r0 m0 h0 => M_X4_number _ _ _ _ _ _ _ h0) rfl rfl ⟨by rw [hrm]; exact Nat.le_of_ble_eq_true rfl, by rw [hrm]; exact Nat.le_of_ble_eq_true rfl⟩ ⟨by rw [hrm]; exact Nat.le_of_ble_eq_true rfl, by rw [hrm]; exact Nat.le_of_ble_eq_true rfl⟩ rfl hk10 rfl rfl rfl (by simp [cat_rf, cat_i, cat_l, cat_a]) dX4_readThing_183 (fun r8 m8 => ?_)
    refine z_iload_n C dX4_readThing_186 rfl 3 rfl ?_
    refine z_if_eq (tgt := 198) C dX4_readThing_187 (by decide) (fun c2 => ?_) (fun c2 => ?_)
    · refine z_iconst (v := (-1)) C dX4_readThing_198 (by decide) ?_
      exact z_sub [1, 2] rfl (s_X4_readThing_199 C hr hrm th p1 (m6.R 500 th 0) r2 r7 r8 (-1) m8)
    · refine z_aload_n C dX4_readThing_190 rfl 1 rfl ?_
      refine z_iconst (v := 5) C dX4_readThing_191 (by decide) ?_
      refine z_chk (fun hk11 => ?_)
      refine z_cVI [.int 5] [.int r8, .int r7, .int r2, va_rf (m6.R 500 th 0)] C mv_RX4_97 (fun r0 m0 h0 => M_X4_number _ _ _ _ _ _ _ h0) rfl rfl ⟨by rw [hrm]; exact Nat.le_of_ble_eq_true rfl, by rw [hrm]; exact Nat.le_of_ble_eq_true rfl⟩ ⟨by rw [hrm]; exact Nat.le_of_ble_eq_true rfl, by rw [hrm]; exact Nat.le_of_ble_eq_true rfl⟩ rfl hk11 rfl rfl rfl (by simp [cat_rf, cat_i, cat_l, cat_a]) dX4_readThing_192 (fun r9 m9 => ?_)
      refine z_goto (tgt := 199) C dX4_readThing_195 (by decide) ?_
      exact z_sub [1, 2] rfl (s_X4_readThing_199 C hr hrm th p1 (m6.R 500 th 0) r2 r7 r8 r9 m9)
set_option maxRecDepth 100000 in
def g_X4_readThing_99 (th : Nat) (p1 : Int32) (x2 : Int32) (m : MM) : Option (Unit × MM) :=
  chk (m.K th = 5) (cal (f_X4_number th 1 m) (fun r10 m10 => chk (m10.K th = 5) (cal (f_X4_number th 2 m10) (fun r11 m11 => ck m11 (m.R 500 th 0) 9 (fun a5 => cal (f_X8_thingAt a5 r10 r11 m11) (fun r12 m12 => if r12 = (-1) then (g_X4_readThing_130 th p1 x2 m12) else (chk (m12.K th = 5) (cal (f_X4_placeOf th 1 m12) (fun r13 m13 => chk (m13.K th = 5) (cal (f_X4_note th 4 r13 m13) (fun r14 m14 => g_X4_readThing_130 th p1 x2 m14)))))))))))
set_option maxHeartbeats 4000000 in
set_option maxRecDepth 100000 in
theorem s_X4_readThing_99 {Γ : GX} {E : EX} (C : Cx Γ E cX4_readThing RX4 4) (hr : Γ.meth.sig.returnType = none) (hrm : Γ.rm = rmX4_readThing) (th : Nat) (p1 : Int32) (x2 : Int32) (m : MM) : Sm (QM Γ E emV 0 0) Γ E 4 0 0 99 [(0, va_rf (some th)), (1, .int p1), (2, .int x2)] [] m (g_X4_readThing_99 th p1 x2 m) := by
  unfold g_X4_readThing_99
  refine z_aload_n C dX4_readThing_99 rfl 0 rfl ?_
  refine z_chk (fun hk12 => ?_)
  refine z_getR C fl_RX4_12 rfl hk12 dX4_readThing_100 ?_
  refine z_aload_n C dX4_readThing_103 rfl 0 rfl ?_
  refine z_iconst (v := 1) C dX4_readThing_104 (by decide) ?_
  refine z_cVI [.int 1] [va_rf (m.R 500 th 0)] C mv_RX4_97 (fun r0 m0 h0 => M_X4_number _ _ _ _ _ _ _ h0) rfl rfl ⟨by rw [hrm]; exact Nat.le_of_ble_eq_true rfl, by rw [hrm]; exact Nat.le_of_ble_eq_true rfl⟩ ⟨by rw [hrm]; exact Nat.le_of_ble_eq_true rfl, by rw [hrm]; exact Nat.le_of_ble_eq_true rfl⟩ rfl hk12 rfl rfl rfl (by simp [cat_rf, cat_i, cat_l, cat_a]) dX4_readThing_105 (fun r10 m10 => ?_)
  refine z_aload_n C dX4_readThing_108 rfl 0 rfl ?_
  refine z_iconst (v := 2) C dX4_readThing_109 (by decide) ?_
  refine z_chk (fun hk13 => ?_)
  refine z_cVI [.int 2] [.int r10, va_rf (m.R 500 th 0)] C mv_RX4_97 (fun r0 m0 h0 => M_X4_number _ _ _ _ _ _ _ h0) rfl rfl ⟨by rw [hrm]; exact Nat.le_of_ble_eq_true rfl, by rw [hrm]; exact Nat.le_of_ble_eq_true rfl⟩ ⟨by rw [hrm]; exact Nat.le_of_ble_eq_true rfl, by rw [hrm]; exact Nat.le_of_ble_eq_true rfl⟩ rfl hk13 rfl rfl rfl (by simp [cat_rf, cat_i, cat_l, cat_a]) dX4_readThing_110 (fun r11 m11 => ?_)
  refine z_ck (fun a5 hr5 hk14 => ?_)
  refine z_cVI [.int r10, .int r11] [] C mv_RX4_176 (fun r0 m0 h0 => M_X8_thingAt _ _ _ _ _ _ _ _ h0) rfl rfl ⟨by rw [hrm]; exact Nat.le_of_ble_eq_true rfl, by rw [hrm]; exact Nat.le_of_ble_eq_true rfl⟩ ⟨by rw [hrm]; exact Nat.le_of_ble_eq_true rfl, by rw [hrm]; exact Nat.le_of_ble_eq_true rfl⟩ hr5 hk14 rfl rfl rfl (Nat.le_of_ble_eq_true rfl) dX4_readThing_113 (fun r12 m12 => ?_)
  refine z_iconst (v := (-1)) C dX4_readThing_116 (by decide) ?_
  refine z_icmp_eq (tgt := 130) C dX4_readThing_117 (by decide) (fun c3 => ?_) (fun c3 => ?_)
  · exact z_sub [0, 1, 2] rfl (s_X4_readThing_130 C hr hrm th p1 x2 m12)
  · refine z_aload_n C dX4_readThing_120 rfl 0 rfl ?_
    refine z_iconst (v := 4) C dX4_readThing_121 (by decide) ?_
    refine z_aload_n C dX4_readThing_122 rfl 0 rfl ?_
    refine z_iconst (v := 1) C dX4_readThing_123 (by decide) ?_
    refine z_chk (fun hk15 => ?_)
    refine z_cVI [.int 1] [.int 4, va_rf (some th)] C mv_RX4_180 (fun r0 m0 h0 => M_X4_placeOf _ _ _ _ _ _ _ h0) rfl rfl ⟨by rw [hrm]; exact Nat.le_of_ble_eq_true rfl, by rw [hrm]; exact Nat.le_of_ble_eq_true rfl⟩ ⟨by rw [hrm]; exact Nat.le_of_ble_eq_true rfl, by rw [hrm]; exact Nat.le_of_ble_eq_true rfl⟩ rfl hk15 rfl rfl rfl (Nat.le_of_ble_eq_true rfl) dX4_readThing_124 (fun r13 m13 => ?_)
    refine z_chk (fun hk16 => ?_)
    refine z_cVV [.int 4, .int r13] [] C mv_RX4_52 (fun r0 m0 h0 => M_X4_note _ _ _ _ _ _ _ _ h0) rfl rfl ⟨by rw [hrm]; exact Nat.le_of_ble_eq_true rfl, by rw [hrm]; exact Nat.le_of_ble_eq_true rfl⟩ ⟨by rw [hrm]; exact Nat.le_of_ble_eq_true rfl, by rw [hrm]; exact Nat.le_of_ble_eq_true rfl⟩ rfl hk16 rfl rfl rfl (Nat.le_of_ble_eq_true rfl) dX4_readThing_127 (fun r14 m14 => ?_)
    exact z_sub [0, 1, 2] rfl (s_X4_readThing_130 C hr hrm th p1 x2 m14)
set_option maxRecDepth 100000 in
def g_X4_readThing_39 (th : Nat) (p1 : Int32) (x2 : Int32) (m : MM) : Option (Unit × MM) :=
  chk (m.K th = 5) (cal (f_X4_readStop th m) (fun r15 m15 => if r15 = 0 then (some ((), m15)) else (chk (m15.K th = 5) (ck m15 (m15.R 500 th 0) 9 (fun a6 => cal (f_X4_checkPlaceFor th (m15.R 904 a6 0) p1 m15) (fun r16 m16 => chk (m16.K th = 5) (cal (f_X4_check th 0 0 5 m16) (fun r17 m17 => chk (m17.K th = 5) (cal (f_X4_checkPoint th 1 m17) (fun r18 m18 => chk (m18.K th = 5) (cal (f_X4_check th 3 0 7 m18) (fun r19 m19 => chk (m19.K th = 5) (cal (f_X4_check th 4 0 999 m19) (fun r20 m20 => if x2 = 0 then (g_X4_readThing_99 th p1 x2 m20) else (chk (m20.K th = 5) (cal (f_X4_check th 5 0 3 m20) (fun r21 m21 => g_X4_readThing_99 th p1 x2 m21)))))))))))))))))
set_option maxHeartbeats 4000000 in
set_option maxRecDepth 100000 in
theorem s_X4_readThing_39 {Γ : GX} {E : EX} (C : Cx Γ E cX4_readThing RX4 4) (hr : Γ.meth.sig.returnType = none) (hrm : Γ.rm = rmX4_readThing) (th : Nat) (p1 : Int32) (x2 : Int32) (m : MM) : Sm (QM Γ E emV 0 0) Γ E 4 0 0 39 [(0, va_rf (some th)), (1, .int p1), (2, .int x2)] [] m (g_X4_readThing_39 th p1 x2 m) := by
  unfold g_X4_readThing_39
  refine z_aload_n C dX4_readThing_39 rfl 0 rfl ?_
  refine z_chk (fun hk17 => ?_)
  refine z_cVI [] [] C mv_RX4_89 (fun r0 m0 h0 => M_X4_readStop _ _ _ _ _ _ h0) rfl rfl ⟨by rw [hrm]; exact Nat.le_of_ble_eq_true rfl, by rw [hrm]; exact Nat.le_of_ble_eq_true rfl⟩ ⟨by rw [hrm]; exact Nat.le_of_ble_eq_true rfl, by rw [hrm]; exact Nat.le_of_ble_eq_true rfl⟩ rfl hk17 rfl rfl rfl (Nat.le_of_ble_eq_true rfl) dX4_readThing_40 (fun r15 m15 => ?_)
  refine z_if_ne (tgt := 47) C dX4_readThing_43 (by decide) (fun c4 => ?_) (fun c4 => ?_)
  · refine z_aload_n C dX4_readThing_47 rfl 0 rfl ?_
    refine z_aload_n C dX4_readThing_48 rfl 0 rfl ?_
    refine z_chk (fun hk18 => ?_)
    refine z_getR C fl_RX4_12 rfl hk18 dX4_readThing_49 ?_
    refine z_ck (fun a6 hr6 hk19 => ?_)
    refine z_getR C fl_RX4_166 hr6 hk19 dX4_readThing_52 ?_
    refine z_iload_n C dX4_readThing_55 rfl 1 rfl ?_
    refine z_cVV [va_rf (m15.R 904 a6 0), .int p1] [] C mv_RX4_169 (fun r0 m0 h0 => M_X4_checkPlaceFor _ _ _ _ _ _ _ _ h0) rfl rfl ⟨by rw [hrm]; exact Nat.le_of_ble_eq_true rfl, by rw [hrm]; exact Nat.le_of_ble_eq_true rfl⟩ ⟨by rw [hrm]; exact Nat.le_of_ble_eq_true rfl, by rw [hrm]; exact Nat.le_of_ble_eq_true rfl⟩ rfl hk18 rfl rfl rfl (Nat.le_of_ble_eq_true rfl) dX4_readThing_56 (fun r16 m16 => ?_)
    refine z_aload_n C dX4_readThing_59 rfl 0 rfl ?_
    refine z_iconst (v := 0) C dX4_readThing_60 (by decide) ?_
    refine z_iconst (v := 0) C dX4_readThing_61 (by decide) ?_
    refine z_iconst (v := 5) C dX4_readThing_62 (by decide) ?_
    refine z_chk (fun hk20 => ?_)
    refine z_cVV [.int 0, .int 0, .int 5] [] C mv_RX4_93 (fun r0 m0 h0 => M_X4_check _ _ _ _ _ _ _ _ _ h0) rfl rfl ⟨by rw [hrm]; exact Nat.le_of_ble_eq_true rfl, by rw [hrm]; exact Nat.le_of_ble_eq_true rfl⟩ ⟨by rw [hrm]; exact Nat.le_of_ble_eq_true rfl, by rw [hrm]; exact Nat.le_of_ble_eq_true rfl⟩ rfl hk20 rfl rfl rfl (Nat.le_of_ble_eq_true rfl) dX4_readThing_63 (fun r17 m17 => ?_)
    refine z_aload_n C dX4_readThing_66 rfl 0 rfl ?_
    refine z_iconst (v := 1) C dX4_readThing_67 (by decide) ?_
    refine z_chk (fun hk21 => ?_)
    refine z_cVV [.int 1] [] C mv_RX4_173 (fun r0 m0 h0 => M_X4_checkPoint _ _ _ _ _ _ _ h0) rfl rfl ⟨by rw [hrm]; exact Nat.le_of_ble_eq_true rfl, by rw [hrm]; exact Nat.le_of_ble_eq_true rfl⟩ ⟨by rw [hrm]; exact Nat.le_of_ble_eq_true rfl, by rw [hrm]; exact Nat.le_of_ble_eq_true rfl⟩ rfl hk21 rfl rfl rfl (Nat.le_of_ble_eq_true rfl) dX4_readThing_68 (fun r18 m18 => ?_)
    refine z_aload_n C dX4_readThing_71 rfl 0 rfl ?_
    refine z_iconst (v := 3) C dX4_readThing_72 (by decide) ?_
    refine z_iconst (v := 0) C dX4_readThing_73 (by decide) ?_
    refine z_bipush (v := 7) C dX4_readThing_74 (by decide) ?_
    refine z_chk (fun hk22 => ?_)
    refine z_cVV [.int 3, .int 0, .int 7] [] C mv_RX4_93 (fun r0 m0 h0 => M_X4_check _ _ _ _ _ _ _ _ _ h0) rfl rfl ⟨by rw [hrm]; exact Nat.le_of_ble_eq_true rfl, by rw [hrm]; exact Nat.le_of_ble_eq_true rfl⟩ ⟨by rw [hrm]; exact Nat.le_of_ble_eq_true rfl, by rw [hrm]; exact Nat.le_of_ble_eq_true rfl⟩ rfl hk22 rfl rfl rfl (Nat.le_of_ble_eq_true rfl) dX4_readThing_76 (fun r19 m19 => ?_)
    refine z_aload_n C dX4_readThing_79 rfl 0 rfl ?_
    refine z_iconst (v := 4) C dX4_readThing_80 (by decide) ?_
    refine z_iconst (v := 0) C dX4_readThing_81 (by decide) ?_
    refine z_sipush (v := 999) C dX4_readThing_82 (by decide) ?_
    refine z_chk (fun hk23 => ?_)
    refine z_cVV [.int 4, .int 0, .int 999] [] C mv_RX4_93 (fun r0 m0 h0 => M_X4_check _ _ _ _ _ _ _ _ _ h0) rfl rfl ⟨by rw [hrm]; exact Nat.le_of_ble_eq_true rfl, by rw [hrm]; exact Nat.le_of_ble_eq_true rfl⟩ ⟨by rw [hrm]; exact Nat.le_of_ble_eq_true rfl, by rw [hrm]; exact Nat.le_of_ble_eq_true rfl⟩ rfl hk23 rfl rfl rfl (Nat.le_of_ble_eq_true rfl) dX4_readThing_85 (fun r20 m20 => ?_)
    refine z_iload_n C dX4_readThing_88 rfl 2 rfl ?_
    refine z_if_eq (tgt := 99) C dX4_readThing_89 (by decide) (fun c5 => ?_) (fun c5 => ?_)
    · exact z_sub [0, 1, 2] rfl (s_X4_readThing_99 C hr hrm th p1 x2 m20)
    · refine z_aload_n C dX4_readThing_92 rfl 0 rfl ?_
      refine z_iconst (v := 5) C dX4_readThing_93 (by decide) ?_
      refine z_iconst (v := 0) C dX4_readThing_94 (by decide) ?_
      refine z_iconst (v := 3) C dX4_readThing_95 (by decide) ?_
      refine z_chk (fun hk24 => ?_)
      refine z_cVV [.int 5, .int 0, .int 3] [] C mv_RX4_93 (fun r0 m0 h0 => M_X4_check _ _ _ _ _ _ _ _ _ h0) rfl rfl ⟨by rw [hrm]; exact Nat.le_of_ble_eq_true rfl, by rw [hrm]; exact Nat.le_of_ble_eq_true rfl⟩ ⟨by rw [hrm]; exact Nat.le_of_ble_eq_true rfl, by rw [hrm]; exact Nat.le_of_ble_eq_true rfl⟩ rfl hk24 rfl rfl rfl (Nat.le_of_ble_eq_true rfl) dX4_readThing_96 (fun r21 m21 => ?_)
      exact z_sub [0, 1, 2] rfl (s_X4_readThing_99 C hr hrm th p1 x2 m21)
  · exact z_vret C hr dX4_readThing_46
set_option maxRecDepth 100000 in
def g_X4_readThing_0 (th : Nat) (p1 : Int32) (m : MM) : Option (Unit × MM) :=
  chk (m.K th = 5) (cal (f_X4_step th m) (fun r22 m22 => chk (m22.K th = 5) (cal (f_X4_readNumbers th 0 5 m22) (fun r23 m23 => if r23 = 0 then (some ((), m23)) else (chk (m23.K th = 5) (cal (f_X4_isWord th 2 m23) (fun r24 m24 => if r24 = 0 then (g_X4_readThing_39 th p1 r24 m24) else (chk (m24.K th = 5) (cal (f_X4_step th m24) (fun r25 m25 => chk (m25.K th = 5) (cal (f_X4_readNumbers th 5 1 m25) (fun r26 m26 => if r26 = 0 then (some ((), m26)) else (g_X4_readThing_39 th p1 r24 m26)))))))))))))
set_option maxHeartbeats 4000000 in
set_option maxRecDepth 100000 in
theorem s_X4_readThing_0 {Γ : GX} {E : EX} (C : Cx Γ E cX4_readThing RX4 4) (hr : Γ.meth.sig.returnType = none) (hrm : Γ.rm = rmX4_readThing) (th : Nat) (p1 : Int32) (m : MM) : Sm (QM Γ E emV 0 0) Γ E 4 0 0 0 [(0, va_rf (some th)), (1, .int p1)] [] m (g_X4_readThing_0 th p1 m) := by
  unfold g_X4_readThing_0
  refine z_aload_n C dX4_readThing_0 rfl 0 rfl ?_
  refine z_chk (fun hk25 => ?_)
  refine z_cVV [] [] C mv_RX4_76 (fun r0 m0 h0 => M_X4_step _ _ _ _ _ _ h0) rfl rfl ⟨by rw [hrm]; exact Nat.le_of_ble_eq_true rfl, by rw [hrm]; exact Nat.le_of_ble_eq_true rfl⟩ ⟨by rw [hrm]; exact Nat.le_of_ble_eq_true rfl, by rw [hrm]; exact Nat.le_of_ble_eq_true rfl⟩ rfl hk25 rfl rfl rfl (Nat.le_of_ble_eq_true rfl) dX4_readThing_1 (fun r22 m22 => ?_)
  refine z_aload_n C dX4_readThing_4 rfl 0 rfl ?_
  refine z_iconst (v := 0) C dX4_readThing_5 (by decide) ?_
  refine z_iconst (v := 5) C dX4_readThing_6 (by decide) ?_
  refine z_chk (fun hk26 => ?_)
  refine z_cVI [.int 0, .int 5] [] C mv_RX4_85 (fun r0 m0 h0 => M_X4_readNumbers _ _ _ _ _ _ _ _ h0) rfl rfl ⟨by rw [hrm]; exact Nat.le_of_ble_eq_true rfl, by rw [hrm]; exact Nat.le_of_ble_eq_true rfl⟩ ⟨by rw [hrm]; exact Nat.le_of_ble_eq_true rfl, by rw [hrm]; exact Nat.le_of_ble_eq_true rfl⟩ rfl hk26 rfl rfl rfl (Nat.le_of_ble_eq_true rfl) dX4_readThing_7 (fun r23 m23 => ?_)
  refine z_if_ne (tgt := 14) C dX4_readThing_10 (by decide) (fun c6 => ?_) (fun c6 => ?_)
  · refine z_aload_n C dX4_readThing_14 rfl 0 rfl ?_
    refine z_ldcS C (i := 2) (by decide) rfl dX4_readThing_15 ?_
    refine z_chk (fun hk27 => ?_)
    refine z_cVI [va_rf (some (E.adK 2))] [] C mv_RX4_109 (fun r0 m0 h0 => M_X4_isWord _ _ _ _ _ _ _ h0) rfl rfl ⟨by rw [hrm]; exact Nat.le_of_ble_eq_true rfl, by rw [hrm]; exact Nat.le_of_ble_eq_true rfl⟩ ⟨by rw [hrm]; exact Nat.le_of_ble_eq_true rfl, by rw [hrm]; exact Nat.le_of_ble_eq_true rfl⟩ rfl hk27 rfl rfl rfl (Nat.le_of_ble_eq_true rfl) dX4_readThing_17 (fun r24 m24 => ?_)
    refine z_istore_n (i := 2) (L2 := [(2, .int r24), (0, va_rf (some th)), (1, .int p1)]) C dX4_readThing_20 rfl (by decide) rfl ?_
    refine z_iload_n C dX4_readThing_21 rfl 0 rfl ?_
    refine z_if_eq (tgt := 39) C dX4_readThing_22 (by decide) (fun c7 => ?_) (fun c7 => ?_)
    · exact z_sub [1, 2, 0] rfl (s_X4_readThing_39 C hr hrm th p1 r24 m24)
    · refine z_aload_n C dX4_readThing_25 rfl 1 rfl ?_
      refine z_chk (fun hk28 => ?_)
      refine z_cVV [] [] C mv_RX4_76 (fun r0 m0 h0 => M_X4_step _ _ _ _ _ _ h0) rfl rfl ⟨by rw [hrm]; exact Nat.le_of_ble_eq_true rfl, by rw [hrm]; exact Nat.le_of_ble_eq_true rfl⟩ ⟨by rw [hrm]; exact Nat.le_of_ble_eq_true rfl, by rw [hrm]; exact Nat.le_of_ble_eq_true rfl⟩ rfl hk28 rfl rfl rfl (Nat.le_of_ble_eq_true rfl) dX4_readThing_26 (fun r25 m25 => ?_)
      refine z_aload_n C dX4_readThing_29 rfl 1 rfl ?_
      refine z_iconst (v := 5) C dX4_readThing_30 (by decide) ?_
      refine z_iconst (v := 1) C dX4_readThing_31 (by decide) ?_
      refine z_chk (fun hk29 => ?_)
      refine z_cVI [.int 5, .int 1] [] C mv_RX4_85 (fun r0 m0 h0 => M_X4_readNumbers _ _ _ _ _ _ _ _ h0) rfl rfl ⟨by rw [hrm]; exact Nat.le_of_ble_eq_true rfl, by rw [hrm]; exact Nat.le_of_ble_eq_true rfl⟩ ⟨by rw [hrm]; exact Nat.le_of_ble_eq_true rfl, by rw [hrm]; exact Nat.le_of_ble_eq_true rfl⟩ rfl hk29 rfl rfl rfl (Nat.le_of_ble_eq_true rfl) dX4_readThing_32 (fun r26 m26 => ?_)
      refine z_if_ne (tgt := 39) C dX4_readThing_35 (by decide) (fun c8 => ?_) (fun c8 => ?_)
      · exact z_sub [1, 2, 0] rfl (s_X4_readThing_39 C hr hrm th p1 r24 m26)
      · exact z_vret C hr dX4_readThing_38
  · exact z_vret C hr dX4_readThing_13
def f_X4_readThing (th : Nat) (p1 : Int32) (m : MM) : Option (Unit × MM) := g_X4_readThing_0 th p1 m
theorem M_X4_readThing (l : Launch) (E : EX) (th : Nat) (p1 : Int32) (m : MM) (r : Unit) (m2 : MM) (h : f_X4_readThing th p1 m = some (r, m2)) : Met l yX4_readThing (.code yX4_readThing cX4_readThing 4 none :: TB) rmX4_readThing (va_Pc [.ref th, .int p1] (St E m)) (QR E (emV r) m2) 0 0 (AA E) :=
  met_of (em := emV) (plainFor_of_name rfl) (Nat.le_of_ble_eq_true rfl) (L0 := [(0, va_rf (some th)), (1, .int p1)]) rfl (fun Γ _ hrm C hr hn => s_X4_readThing_0 C hr hrm th p1 m) h

theorem dX4_keep_0 : decode cX4_keep 0 = .ok (.aload_n 0, 1) := by decide +kernel
theorem dX4_keep_1 : decode cX4_keep 1 = .ok (.getfield 42, 3) := by decide +kernel
theorem dX4_keep_4 : decode cX4_keep 4 = .ok (.ifCond .eq 4, 3) := by decide +kernel
theorem dX4_keep_7 : decode cX4_keep 7 = .ok (.return_, 1) := by decide +kernel
theorem dX4_keep_8 : decode cX4_keep 8 = .ok (.aload_n 1, 1) := by decide +kernel
theorem dX4_keep_9 : decode cX4_keep 9 = .ok (.invokevirtual 183, 3) := by decide +kernel
theorem dX4_keep_12 : decode cX4_keep 12 = .ok (.istore_n 3, 1) := by decide +kernel
theorem dX4_keep_13 : decode cX4_keep 13 = .ok (.iconst 0, 1) := by decide +kernel
theorem dX4_keep_14 : decode cX4_keep 14 = .ok (.istore 4, 2) := by decide +kernel
theorem dX4_keep_16 : decode cX4_keep 16 = .ok (.iload 4, 2) := by decide +kernel
theorem dX4_keep_18 : decode cX4_keep 18 = .ok (.iload_n 2, 1) := by decide +kernel
theorem dX4_keep_19 : decode cX4_keep 19 = .ok (.if_icmp .ge 22, 3) := by decide +kernel
theorem dX4_keep_22 : decode cX4_keep 22 = .ok (.aload_n 1, 1) := by decide +kernel
theorem dX4_keep_23 : decode cX4_keep 23 = .ok (.iload_n 3, 1) := by decide +kernel
theorem dX4_keep_24 : decode cX4_keep 24 = .ok (.iload 4, 2) := by decide +kernel
theorem dX4_keep_26 : decode cX4_keep 26 = .ok (.aload_n 0, 1) := by decide +kernel
theorem dX4_keep_27 : decode cX4_keep 27 = .ok (.iload 4, 2) := by decide +kernel
theorem dX4_keep_29 : decode cX4_keep 29 = .ok (.invokevirtual 97, 3) := by decide +kernel
theorem dX4_keep_32 : decode cX4_keep 32 = .ok (.invokevirtual 223, 3) := by decide +kernel
theorem dX4_keep_35 : decode cX4_keep 35 = .ok (.iinc 4 1, 3) := by decide +kernel
theorem dX4_keep_38 : decode cX4_keep 38 = .ok (.goto (-22), 3) := by decide +kernel
theorem dX4_keep_41 : decode cX4_keep 41 = .ok (.return_, 1) := by decide +kernel
def rmX4_keep : Room := { frames := 1, cells := 0, slots := 0, locals := 24 }
set_option maxRecDepth 100000 in
def g_X4_keep_16 (th : Nat) (p1 : Option Nat) (p2 : Int32) (k16 : Int32 → Int32 → MM → Option (Unit × MM)) (x3 : Int32) (x4 : Int32) (m : MM) : Option (Unit × MM) :=
  if p2 ≤ x4 then (some ((), m)) else (chk (m.K th = 5) (cal (f_X4_number th x4 m) (fun r1 m1 => ck m1 p1 7 (fun a1 => cal (f_X6_put a1 x3 x4 r1 m1) (fun r2 m2 => k16 x3 (x4 + 1) m2)))))
set_option maxHeartbeats 4000000 in
set_option maxRecDepth 100000 in
theorem s_X4_keep_16 {Γ : GX} {E : EX} (C : Cx Γ E cX4_keep RX4 5) (hr : Γ.meth.sig.returnType = none) (hrm : Γ.rm = rmX4_keep) (th : Nat) (p1 : Option Nat) (p2 : Int32) (k16 : Int32 → Int32 → MM → Option (Unit × MM)) (h16 : ∀ (x3 : Int32) (x4 : Int32) (m : MM), Sm (QM Γ E emV 0 0) Γ E 5 0 0 16 [(0, va_rf (some th)), (1, va_rf p1), (2, .int p2), (3, .int x3), (4, .int x4)] [] m (k16 x3 x4 m)) (x3 : Int32) (x4 : Int32) (m : MM) : Sm (QM Γ E emV 0 0) Γ E 5 0 0 16 [(0, va_rf (some th)), (1, va_rf p1), (2, .int p2), (3, .int x3), (4, .int x4)] [] m (g_X4_keep_16 th p1 p2 k16 x3 x4 m) := by
  unfold g_X4_keep_16
  refine z_iload C dX4_keep_16 4 rfl ?_
  refine z_iload_n C dX4_keep_18 rfl 2 rfl ?_
  refine z_icmp_ge (tgt := 41) C dX4_keep_19 (by decide) (fun c1 => ?_) (fun c1 => ?_)
  · exact z_vret C hr dX4_keep_41
  · refine z_aload_n C dX4_keep_22 rfl 1 rfl ?_
    refine z_iload_n C dX4_keep_23 rfl 3 rfl ?_
    refine z_iload C dX4_keep_24 4 rfl ?_
    refine z_aload_n C dX4_keep_26 rfl 0 rfl ?_
    refine z_iload C dX4_keep_27 4 rfl ?_
    refine z_chk (fun hk1 => ?_)
    refine z_cVI [.int x4] [.int x4, .int x3, va_rf p1] C mv_RX4_97 (fun r0 m0 h0 => M_X4_number _ _ _ _ _ _ _ h0) rfl rfl ⟨by rw [hrm]; exact Nat.le_of_ble_eq_true rfl, by rw [hrm]; exact Nat.le_of_ble_eq_true rfl⟩ ⟨by rw [hrm]; exact Nat.le_of_ble_eq_true rfl, by rw [hrm]; exact Nat.le_of_ble_eq_true rfl⟩ rfl hk1 rfl rfl rfl (by simp [cat_rf, cat_i, cat_l, cat_a]) dX4_keep_29 (fun r1 m1 => ?_)
    refine z_ck (fun a1 hr1 hk2 => ?_)
    refine z_cVV [.int x3, .int x4, .int r1] [] C mv_RX4_223 (fun r0 m0 h0 => M_X6_put _ _ _ _ _ _ _ _ _ h0) rfl rfl ⟨by rw [hrm]; exact Nat.le_of_ble_eq_true rfl, by rw [hrm]; exact Nat.le_of_ble_eq_true rfl⟩ ⟨by rw [hrm]; exact Nat.le_of_ble_eq_true rfl, by rw [hrm]; exact Nat.le_of_ble_eq_true rfl⟩ hr1 hk2 rfl rfl rfl (Nat.le_of_ble_eq_true rfl) dX4_keep_32 (fun r2 m2 => ?_)
    refine z_iinc (v := 1) (L2 := [(4, .int (x4 + 1)), (0, va_rf (some th)), (1, va_rf p1), (2, .int p2), (3, .int x3)]) C dX4_keep_35 4 rfl (by decide) (by decide) rfl ?_
    refine z_goto (tgt := 16) C dX4_keep_38 (by decide) ?_
    exact z_sub [1, 2, 3, 4, 0] rfl (h16 x3 (x4 + 1) m2)
def l_X4_keep_16 (th : Nat) (p1 : Option Nat) (p2 : Int32) : Nat → Int32 → Int32 → MM → Option (Unit × MM) := lp (fun _ _ _ => none) (fun k16 => g_X4_keep_16 th p1 p2 k16)
theorem t_X4_keep_16 {Γ : GX} {E : EX} (C : Cx Γ E cX4_keep RX4 5) (hr : Γ.meth.sig.returnType = none) (hrm : Γ.rm = rmX4_keep) (th : Nat) (p1 : Option Nat) (p2 : Int32) : ∀ (n : Nat) (x3 : Int32) (x4 : Int32) (m : MM), Sm (QM Γ E emV 0 0) Γ E 5 0 0 16 [(0, va_rf (some th)), (1, va_rf p1), (2, .int p2), (3, .int x3), (4, .int x4)] [] m (l_X4_keep_16 th p1 p2 n x3 x4 m) := by
  intro n
  induction n with
  | zero => intros; exact z_none
  | succ n ih => intro x3 x4 m; exact s_X4_keep_16 C hr hrm th p1 p2 (l_X4_keep_16 th p1 p2 n) ih x3 x4 m
set_option maxRecDepth 100000 in
def g_X4_keep_0 (th : Nat) (p1 : Option Nat) (p2 : Int32) (m : MM) : Option (Unit × MM) :=
  chk (m.K th = 5) (if (m.I 510 th 0) = 0 then (ck m p1 7 (fun a2 => cal (f_X6_addRow a2 m) (fun r3 m3 => l_X4_keep_16 th p1 p2 FU r3 0 m3))) else (some ((), m)))
set_option maxHeartbeats 4000000 in
set_option maxRecDepth 100000 in
theorem s_X4_keep_0 {Γ : GX} {E : EX} (C : Cx Γ E cX4_keep RX4 5) (hr : Γ.meth.sig.returnType = none) (hrm : Γ.rm = rmX4_keep) (th : Nat) (p1 : Option Nat) (p2 : Int32) (m : MM) : Sm (QM Γ E emV 0 0) Γ E 5 0 0 0 [(0, va_rf (some th)), (1, va_rf p1), (2, .int p2)] [] m (g_X4_keep_0 th p1 p2 m) := by
  unfold g_X4_keep_0
  refine z_aload_n C dX4_keep_0 rfl 0 rfl ?_
  refine z_chk (fun hk3 => ?_)
  refine z_getI C fl_RX4_42 rfl hk3 dX4_keep_1 ?_
  refine z_if_eq (tgt := 8) C dX4_keep_4 (by decide) (fun c2 => ?_) (fun c2 => ?_)
  · refine z_aload_n C dX4_keep_8 rfl 1 rfl ?_
    refine z_ck (fun a2 hr2 hk4 => ?_)
    refine z_cVI [] [] C mv_RX4_183 (fun r0 m0 h0 => M_X6_addRow _ _ _ _ _ _ h0) rfl rfl ⟨by rw [hrm]; exact Nat.le_of_ble_eq_true rfl, by rw [hrm]; exact Nat.le_of_ble_eq_true rfl⟩ ⟨by rw [hrm]; exact Nat.le_of_ble_eq_true rfl, by rw [hrm]; exact Nat.le_of_ble_eq_true rfl⟩ hr2 hk4 rfl rfl rfl (Nat.le_of_ble_eq_true rfl) dX4_keep_9 (fun r3 m3 => ?_)
    refine z_istore_n (i := 3) (L2 := [(3, .int r3), (0, va_rf (some th)), (1, va_rf p1), (2, .int p2)]) C dX4_keep_12 rfl (by decide) rfl ?_
    refine z_iconst (v := 0) C dX4_keep_13 (by decide) ?_
    refine z_istore (i := 4) (L2 := [(4, .int 0), (3, .int r3), (0, va_rf (some th)), (1, va_rf p1), (2, .int p2)]) C dX4_keep_14 (by decide) rfl ?_
    exact z_sub [2, 3, 4, 1, 0] rfl (t_X4_keep_16 C hr hrm th p1 p2 FU r3 0 m3)
  · exact z_vret C hr dX4_keep_7
def f_X4_keep (th : Nat) (p1 : Option Nat) (p2 : Int32) (m : MM) : Option (Unit × MM) := g_X4_keep_0 th p1 p2 m
theorem M_X4_keep (l : Launch) (E : EX) (th : Nat) (p1 : Option Nat) (p2 : Int32) (m : MM) (r : Unit) (m2 : MM) (h : f_X4_keep th p1 p2 m = some (r, m2)) : Met l yX4_keep (.code yX4_keep cX4_keep 5 none :: TB) rmX4_keep (va_Pc [.ref th, va_rf p1, .int p2] (St E m)) (QR E (emV r) m2) 0 0 (AA E) :=
  met_of (em := emV) (plainFor_of_name rfl) (by simp [lg_sl, cat_rf, cat_i, cat_l, cat_a]) (L0 := [(0, va_rf (some th)), (1, va_rf p1), (2, .int p2)]) (by simp [lv_args, cat_rf, cat_i, cat_l, cat_a] <;> rfl) (fun Γ _ hrm C hr hn => s_X4_keep_0 C hr hrm th p1 p2 m) h

theorem dX4_readSpan_0 : decode cX4_readSpan 0 = .ok (.aload_n 0, 1) := by decide +kernel
theorem dX4_readSpan_1 : decode cX4_readSpan 1 = .ok (.invokevirtual 76, 3) := by decide +kernel
theorem dX4_readSpan_4 : decode cX4_readSpan 4 = .ok (.aload_n 0, 1) := by decide +kernel
theorem dX4_readSpan_5 : decode cX4_readSpan 5 = .ok (.iconst 0, 1) := by decide +kernel
theorem dX4_readSpan_6 : decode cX4_readSpan 6 = .ok (.iload_n 3, 1) := by decide +kernel
theorem dX4_readSpan_7 : decode cX4_readSpan 7 = .ok (.invokevirtual 85, 3) := by decide +kernel
theorem dX4_readSpan_10 : decode cX4_readSpan 10 = .ok (.ifCond .eq 10, 3) := by decide +kernel
theorem dX4_readSpan_13 : decode cX4_readSpan 13 = .ok (.aload_n 0, 1) := by decide +kernel
theorem dX4_readSpan_14 : decode cX4_readSpan 14 = .ok (.invokevirtual 89, 3) := by decide +kernel
theorem dX4_readSpan_17 : decode cX4_readSpan 17 = .ok (.ifCond .ne 4, 3) := by decide +kernel
theorem dX4_readSpan_20 : decode cX4_readSpan 20 = .ok (.return_, 1) := by decide +kernel
theorem dX4_readSpan_21 : decode cX4_readSpan 21 = .ok (.aload_n 0, 1) := by decide +kernel
theorem dX4_readSpan_22 : decode cX4_readSpan 22 = .ok (.aload_n 1, 1) := by decide +kernel
theorem dX4_readSpan_23 : decode cX4_readSpan 23 = .ok (.iload_n 2, 1) := by decide +kernel
theorem dX4_readSpan_24 : decode cX4_readSpan 24 = .ok (.invokevirtual 169, 3) := by decide +kernel
theorem dX4_readSpan_27 : decode cX4_readSpan 27 = .ok (.aload_n 0, 1) := by decide +kernel
theorem dX4_readSpan_28 : decode cX4_readSpan 28 = .ok (.iconst 0, 1) := by decide +kernel
theorem dX4_readSpan_29 : decode cX4_readSpan 29 = .ok (.invokevirtual 173, 3) := by decide +kernel
theorem dX4_readSpan_32 : decode cX4_readSpan 32 = .ok (.aload_n 0, 1) := by decide +kernel
theorem dX4_readSpan_33 : decode cX4_readSpan 33 = .ok (.iconst 2, 1) := by decide +kernel
theorem dX4_readSpan_34 : decode cX4_readSpan 34 = .ok (.invokevirtual 173, 3) := by decide +kernel
theorem dX4_readSpan_37 : decode cX4_readSpan 37 = .ok (.aload_n 0, 1) := by decide +kernel
theorem dX4_readSpan_38 : decode cX4_readSpan 38 = .ok (.iconst 0, 1) := by decide +kernel
theorem dX4_readSpan_39 : decode cX4_readSpan 39 = .ok (.invokevirtual 97, 3) := by decide +kernel
theorem dX4_readSpan_42 : decode cX4_readSpan 42 = .ok (.aload_n 0, 1) := by decide +kernel
theorem dX4_readSpan_43 : decode cX4_readSpan 43 = .ok (.iconst 2, 1) := by decide +kernel
theorem dX4_readSpan_44 : decode cX4_readSpan 44 = .ok (.invokevirtual 97, 3) := by decide +kernel
theorem dX4_readSpan_47 : decode cX4_readSpan 47 = .ok (.if_icmp .ne 26, 3) := by decide +kernel
theorem dX4_readSpan_50 : decode cX4_readSpan 50 = .ok (.aload_n 0, 1) := by decide +kernel
theorem dX4_readSpan_51 : decode cX4_readSpan 51 = .ok (.iconst 1, 1) := by decide +kernel
theorem dX4_readSpan_52 : decode cX4_readSpan 52 = .ok (.invokevirtual 97, 3) := by decide +kernel
theorem dX4_readSpan_55 : decode cX4_readSpan 55 = .ok (.aload_n 0, 1) := by decide +kernel
theorem dX4_readSpan_56 : decode cX4_readSpan 56 = .ok (.iconst 3, 1) := by decide +kernel
theorem dX4_readSpan_57 : decode cX4_readSpan 57 = .ok (.invokevirtual 97, 3) := by decide +kernel
theorem dX4_readSpan_60 : decode cX4_readSpan 60 = .ok (.if_icmp .ne 13, 3) := by decide +kernel
theorem dX4_readSpan_63 : decode cX4_readSpan 63 = .ok (.aload_n 0, 1) := by decide +kernel
theorem dX4_readSpan_64 : decode cX4_readSpan 64 = .ok (.iconst 2, 1) := by decide +kernel
theorem dX4_readSpan_65 : decode cX4_readSpan 65 = .ok (.aload_n 0, 1) := by decide +kernel
theorem dX4_readSpan_66 : decode cX4_readSpan 66 = .ok (.iconst 3, 1) := by decide +kernel
theorem dX4_readSpan_67 : decode cX4_readSpan 67 = .ok (.invokevirtual 180, 3) := by decide +kernel
theorem dX4_readSpan_70 : decode cX4_readSpan 70 = .ok (.invokevirtual 52, 3) := by decide +kernel
theorem dX4_readSpan_73 : decode cX4_readSpan 73 = .ok (.iload_n 3, 1) := by decide +kernel
theorem dX4_readSpan_74 : decode cX4_readSpan 74 = .ok (.iconst 4, 1) := by decide +kernel
theorem dX4_readSpan_75 : decode cX4_readSpan 75 = .ok (.if_icmp .le 12, 3) := by decide +kernel
theorem dX4_readSpan_78 : decode cX4_readSpan 78 = .ok (.aload_n 0, 1) := by decide +kernel
theorem dX4_readSpan_79 : decode cX4_readSpan 79 = .ok (.iconst 4, 1) := by decide +kernel
theorem dX4_readSpan_80 : decode cX4_readSpan 80 = .ok (.iconst 0, 1) := by decide +kernel
theorem dX4_readSpan_81 : decode cX4_readSpan 81 = .ok (.sipush 999, 3) := by decide +kernel
theorem dX4_readSpan_84 : decode cX4_readSpan 84 = .ok (.invokevirtual 93, 3) := by decide +kernel
theorem dX4_readSpan_87 : decode cX4_readSpan 87 = .ok (.aload_n 0, 1) := by decide +kernel
theorem dX4_readSpan_88 : decode cX4_readSpan 88 = .ok (.aload_n 1, 1) := by decide +kernel
theorem dX4_readSpan_89 : decode cX4_readSpan 89 = .ok (.iload_n 3, 1) := by decide +kernel
theorem dX4_readSpan_90 : decode cX4_readSpan 90 = .ok (.invokevirtual 196, 3) := by decide +kernel
theorem dX4_readSpan_93 : decode cX4_readSpan 93 = .ok (.return_, 1) := by decide +kernel
def rmX4_readSpan : Room := { frames := 3, cells := 0, slots := 0, locals := 66 }
set_option maxRecDepth 100000 in
def g_X4_readSpan_73 (th : Nat) (p1 : Option Nat) (p2 : Int32) (p3 : Int32) (m : MM) : Option (Unit × MM) :=
  if p3 ≤ 4 then (chk (m.K th = 5) (cal (f_X4_keep th p1 p3 m) (fun r1 m1 => some ((), m1)))) else (chk (m.K th = 5) (cal (f_X4_check th 4 0 999 m) (fun r2 m2 => chk (m2.K th = 5) (cal (f_X4_keep th p1 p3 m2) (fun r3 m3 => some ((), m3))))))
set_option maxHeartbeats 4000000 in
set_option maxRecDepth 100000 in
theorem s_X4_readSpan_73 {Γ : GX} {E : EX} (C : Cx Γ E cX4_readSpan RX4 4) (hr : Γ.meth.sig.returnType = none) (hrm : Γ.rm = rmX4_readSpan) (th : Nat) (p1 : Option Nat) (p2 : Int32) (p3 : Int32) (m : MM) : Sm (QM Γ E emV 0 0) Γ E 4 0 0 73 [(0, va_rf (some th)), (1, va_rf p1), (2, .int p2), (3, .int p3)] [] m (g_X4_readSpan_73 th p1 p2 p3 m) := by
  unfold g_X4_readSpan_73
  refine z_iload_n C dX4_readSpan_73 rfl 3 rfl ?_
  refine z_iconst (v := 4) C dX4_readSpan_74 (by decide) ?_
  refine z_icmp_le (tgt := 87) C dX4_readSpan_75 (by decide) (fun c1 => ?_) (fun c1 => ?_)
  · refine z_aload_n C dX4_readSpan_87 rfl 0 rfl ?_
    refine z_aload_n C dX4_readSpan_88 rfl 1 rfl ?_
    refine z_iload_n C dX4_readSpan_89 rfl 3 rfl ?_
    refine z_chk (fun hk1 => ?_)
    refine z_cVV [va_rf p1, .int p3] [] C mv_RX4_196 (fun r0 m0 h0 => M_X4_keep _ _ _ _ _ _ _ _ h0) rfl rfl ⟨by rw [hrm]; exact Nat.le_of_ble_eq_true rfl, by rw [hrm]; exact Nat.le_of_ble_eq_true rfl⟩ ⟨by rw [hrm]; exact Nat.le_of_ble_eq_true rfl, by rw [hrm]; exact Nat.le_of_ble_eq_true rfl⟩ rfl hk1 rfl rfl rfl (Nat.le_of_ble_eq_true rfl) dX4_readSpan_90 (fun r1 m1 => ?_)
    exact z_vret C hr dX4_readSpan_93
  · refine z_aload_n C dX4_readSpan_78 rfl 0 rfl ?_
    refine z_iconst (v := 4) C dX4_readSpan_79 (by decide) ?_
    refine z_iconst (v := 0) C dX4_readSpan_80 (by decide) ?_
    refine z_sipush (v := 999) C dX4_readSpan_81 (by decide) ?_
    refine z_chk (fun hk2 => ?_)
    refine z_cVV [.int 4, .int 0, .int 999] [] C mv_RX4_93 (fun r0 m0 h0 => M_X4_check _ _ _ _ _ _ _ _ _ h0) rfl rfl ⟨by rw [hrm]; exact Nat.le_of_ble_eq_true rfl, by rw [hrm]; exact Nat.le_of_ble_eq_true rfl⟩ ⟨by rw [hrm]; exact Nat.le_of_ble_eq_true rfl, by rw [hrm]; exact Nat.le_of_ble_eq_true rfl⟩ rfl hk2 rfl rfl rfl (Nat.le_of_ble_eq_true rfl) dX4_readSpan_84 (fun r2 m2 => ?_)
    refine z_aload_n C dX4_readSpan_87 rfl 0 rfl ?_
    refine z_aload_n C dX4_readSpan_88 rfl 1 rfl ?_
    refine z_iload_n C dX4_readSpan_89 rfl 3 rfl ?_
    refine z_chk (fun hk3 => ?_)
    refine z_cVV [va_rf p1, .int p3] [] C mv_RX4_196 (fun r0 m0 h0 => M_X4_keep _ _ _ _ _ _ _ _ h0) rfl rfl ⟨by rw [hrm]; exact Nat.le_of_ble_eq_true rfl, by rw [hrm]; exact Nat.le_of_ble_eq_true rfl⟩ ⟨by rw [hrm]; exact Nat.le_of_ble_eq_true rfl, by rw [hrm]; exact Nat.le_of_ble_eq_true rfl⟩ rfl hk3 rfl rfl rfl (Nat.le_of_ble_eq_true rfl) dX4_readSpan_90 (fun r3 m3 => ?_)
    exact z_vret C hr dX4_readSpan_93
set_option maxRecDepth 100000 in
def g_X4_readSpan_0 (th : Nat) (p1 : Option Nat) (p2 : Int32) (p3 : Int32) (m : MM) : Option (Unit × MM) :=
  chk (m.K th = 5) (cal (f_X4_step th m) (fun r4 m4 => chk (m4.K th = 5) (cal (f_X4_readNumbers th 0 p3 m4) (fun r5 m5 => if r5 = 0 then (some ((), m5)) else (chk (m5.K th = 5) (cal (f_X4_readStop th m5) (fun r6 m6 => if r6 = 0 then (some ((), m6)) else (chk (m6.K th = 5) (cal (f_X4_checkPlaceFor th p1 p2 m6) (fun r7 m7 => chk (m7.K th = 5) (cal (f_X4_checkPoint th 0 m7) (fun r8 m8 => chk (m8.K th = 5) (cal (f_X4_checkPoint th 2 m8) (fun r9 m9 => chk (m9.K th = 5) (cal (f_X4_number th 0 m9) (fun r10 m10 => chk (m10.K th = 5) (cal (f_X4_number th 2 m10) (fun r11 m11 => if r10 = r11 then (chk (m11.K th = 5) (cal (f_X4_number th 1 m11) (fun r12 m12 => chk (m12.K th = 5) (cal (f_X4_number th 3 m12) (fun r13 m13 => if r12 = r13 then (chk (m13.K th = 5) (cal (f_X4_placeOf th 3 m13) (fun r14 m14 => chk (m14.K th = 5) (cal (f_X4_note th 2 r14 m14) (fun r15 m15 => g_X4_readSpan_73 th p1 p2 p3 m15))))) else (g_X4_readSpan_73 th p1 p2 p3 m13)))))) else (g_X4_readSpan_73 th p1 p2 p3 m11)))))))))))))))))))
set_option maxHeartbeats 4000000 in
set_option maxRecDepth 100000 in
theorem s_X4_readSpan_0 {Γ : GX} {E : EX} (C : Cx Γ E cX4_readSpan RX4 4) (hr : Γ.meth.sig.returnType = none) (hrm : Γ.rm = rmX4_readSpan) (th : Nat) (p1 : Option Nat) (p2 : Int32) (p3 : Int32) (m : MM) : Sm (QM Γ E emV 0 0) Γ E 4 0 0 0 [(0, va_rf (some th)), (1, va_rf p1), (2, .int p2), (3, .int p3)] [] m (g_X4_readSpan_0 th p1 p2 p3 m) := by
  unfold g_X4_readSpan_0
  refine z_aload_n C dX4_readSpan_0 rfl 0 rfl ?_
  refine z_chk (fun hk4 => ?_)
  refine z_cVV [] [] C mv_RX4_76 (fun r0 m0 h0 => M_X4_step _ _ _ _ _ _ h0) rfl rfl ⟨by rw [hrm]; exact Nat.le_of_ble_eq_true rfl, by rw [hrm]; exact Nat.le_of_ble_eq_true rfl⟩ ⟨by rw [hrm]; exact Nat.le_of_ble_eq_true rfl, by rw [hrm]; exact Nat.le_of_ble_eq_true rfl⟩ rfl hk4 rfl rfl rfl (Nat.le_of_ble_eq_true rfl) dX4_readSpan_1 (fun r4 m4 => ?_)
  refine z_aload_n C dX4_readSpan_4 rfl 0 rfl ?_
  refine z_iconst (v := 0) C dX4_readSpan_5 (by decide) ?_
  refine z_iload_n C dX4_readSpan_6 rfl 3 rfl ?_
  refine z_chk (fun hk5 => ?_)
  refine z_cVI [.int 0, .int p3] [] C mv_RX4_85 (fun r0 m0 h0 => M_X4_readNumbers _ _ _ _ _ _ _ _ h0) rfl rfl ⟨by rw [hrm]; exact Nat.le_of_ble_eq_true rfl, by rw [hrm]; exact Nat.le_of_ble_eq_true rfl⟩ ⟨by rw [hrm]; exact Nat.le_of_ble_eq_true rfl, by rw [hrm]; exact Nat.le_of_ble_eq_true rfl⟩ rfl hk5 rfl rfl rfl (Nat.le_of_ble_eq_true rfl) dX4_readSpan_7 (fun r5 m5 => ?_)
  refine z_if_eq (tgt := 20) C dX4_readSpan_10 (by decide) (fun c2 => ?_) (fun c2 => ?_)
  · exact z_vret C hr dX4_readSpan_20
  · refine z_aload_n C dX4_readSpan_13 rfl 0 rfl ?_
    refine z_chk (fun hk6 => ?_)
    refine z_cVI [] [] C mv_RX4_89 (fun r0 m0 h0 => M_X4_readStop _ _ _ _ _ _ h0) rfl rfl ⟨by rw [hrm]; exact Nat.le_of_ble_eq_true rfl, by rw [hrm]; exact Nat.le_of_ble_eq_true rfl⟩ ⟨by rw [hrm]; exact Nat.le_of_ble_eq_true rfl, by rw [hrm]; exact Nat.le_of_ble_eq_true rfl⟩ rfl hk6 rfl rfl rfl (Nat.le_of_ble_eq_true rfl) dX4_readSpan_14 (fun r6 m6 => ?_)
    refine z_if_ne (tgt := 21) C dX4_readSpan_17 (by decide) (fun c3 => ?_) (fun c3 => ?_)
    · refine z_aload_n C dX4_readSpan_21 rfl 0 rfl ?_
      refine z_aload_n C dX4_readSpan_22 rfl 1 rfl ?_
      refine z_iload_n C dX4_readSpan_23 rfl 2 rfl ?_
      refine z_chk (fun hk7 => ?_)
      refine z_cVV [va_rf p1, .int p2] [] C mv_RX4_169 (fun r0 m0 h0 => M_X4_checkPlaceFor _ _ _ _ _ _ _ _ h0) rfl rfl ⟨by rw [hrm]; exact Nat.le_of_ble_eq_true rfl, by rw [hrm]; exact Nat.le_of_ble_eq_true rfl⟩ ⟨by rw [hrm]; exact Nat.le_of_ble_eq_true rfl, by rw [hrm]; exact Nat.le_of_ble_eq_true rfl⟩ rfl hk7 rfl rfl rfl (Nat.le_of_ble_eq_true rfl) dX4_readSpan_24 (fun r7 m7 => ?_)
      refine z_aload_n C dX4_readSpan_27 rfl 0 rfl ?_
      refine z_iconst (v := 0) C dX4_readSpan_28 (by decide) ?_
      refine z_chk (fun hk8 => ?_)
      refine z_cVV [.int 0] [] C mv_RX4_173 (fun r0 m0 h0 => M_X4_checkPoint _ _ _ _ _ _ _ h0) rfl rfl ⟨by rw [hrm]; exact Nat.le_of_ble_eq_true rfl, by rw [hrm]; exact Nat.le_of_ble_eq_true rfl⟩ ⟨by rw [hrm]; exact Nat.le_of_ble_eq_true rfl, by rw [hrm]; exact Nat.le_of_ble_eq_true rfl⟩ rfl hk8 rfl rfl rfl (Nat.le_of_ble_eq_true rfl) dX4_readSpan_29 (fun r8 m8 => ?_)
      refine z_aload_n C dX4_readSpan_32 rfl 0 rfl ?_
      refine z_iconst (v := 2) C dX4_readSpan_33 (by decide) ?_
      refine z_chk (fun hk9 => ?_)
      refine z_cVV [.int 2] [] C mv_RX4_173 (fun r0 m0 h0 => M_X4_checkPoint _ _ _ _ _ _ _ h0) rfl rfl ⟨by rw [hrm]; exact Nat.le_of_ble_eq_true rfl, by rw [hrm]; exact Nat.le_of_ble_eq_true rfl⟩ ⟨by rw [hrm]; exact Nat.le_of_ble_eq_true rfl, by rw [hrm]; exact Nat.le_of_ble_eq_true rfl⟩ rfl hk9 rfl rfl rfl (Nat.le_of_ble_eq_true rfl) dX4_readSpan_34 (fun r9 m9 => ?_)
      refine z_aload_n C dX4_readSpan_37 rfl 0 rfl ?_
      refine z_iconst (v := 0) C dX4_readSpan_38 (by decide) ?_
      refine z_chk (fun hk10 => ?_)
      refine z_cVI [.int 0] [] C mv_RX4_97 (fun r0 m0 h0 => M_X4_number _ _ _ _ _ _ _ h0) rfl rfl ⟨by rw [hrm]; exact Nat.le_of_ble_eq_true rfl, by rw [hrm]; exact Nat.le_of_ble_eq_true rfl⟩ ⟨by rw [hrm]; exact Nat.le_of_ble_eq_true rfl, by rw [hrm]; exact Nat.le_of_ble_eq_true rfl⟩ rfl hk10 rfl rfl rfl (Nat.le_of_ble_eq_true rfl) dX4_readSpan_39 (fun r10 m10 => ?_)
      refine z_aload_n C dX4_readSpan_42 rfl 0 rfl ?_
      refine z_iconst (v := 2) C dX4_readSpan_43 (by decide) ?_
      refine z_chk (fun hk11 => ?_)
      refine z_cVI [.int 2] [.int r10] C mv_RX4_97 (fun r0 m0 h0 => M_X4_number _ _ _ _ _ _ _ h0) rfl rfl ⟨by rw [hrm]; exact Nat.le_of_ble_eq_true rfl, by rw [hrm]; exact Nat.le_of_ble_eq_true rfl⟩ ⟨by rw [hrm]; exact Nat.le_of_ble_eq_true rfl, by rw [hrm]; exact Nat.le_of_ble_eq_true rfl⟩ rfl hk11 rfl rfl rfl (Nat.le_of_ble_eq_true rfl) dX4_readSpan_44 (fun r11 m11 => ?_)
      refine z_icmp_ne (tgt := 73) C dX4_readSpan_47 (by decide) (fun c4 => ?_) (fun c4 => ?_)
      · exact z_sub [0, 1, 2, 3] rfl (s_X4_readSpan_73 C hr hrm th p1 p2 p3 m11)
      · refine z_aload_n C dX4_readSpan_50 rfl 0 rfl ?_
        refine z_iconst (v := 1) C dX4_readSpan_51 (by decide) ?_
        refine z_chk (fun hk12 => ?_)
        refine z_cVI [.int 1] [] C mv_RX4_97 (fun r0 m0 h0 => M_X4_number _ _ _ _ _ _ _ h0) rfl rfl ⟨by rw [hrm]; exact Nat.le_of_ble_eq_true rfl, by rw [hrm]; exact Nat.le_of_ble_eq_true rfl⟩ ⟨by rw [hrm]; exact Nat.le_of_ble_eq_true rfl, by rw [hrm]; exact Nat.le_of_ble_eq_true rfl⟩ rfl hk12 rfl rfl rfl (Nat.le_of_ble_eq_true rfl) dX4_readSpan_52 (fun r12 m12 => ?_)
        refine z_aload_n C dX4_readSpan_55 rfl 0 rfl ?_
        refine z_iconst (v := 3) C dX4_readSpan_56 (by decide) ?_
        refine z_chk (fun hk13 => ?_)
        refine z_cVI [.int 3] [.int r12] C mv_RX4_97 (fun r0 m0 h0 => M_X4_number _ _ _ _ _ _ _ h0) rfl rfl ⟨by rw [hrm]; exact Nat.le_of_ble_eq_true rfl, by rw [hrm]; exact Nat.le_of_ble_eq_true rfl⟩ ⟨by rw [hrm]; exact Nat.le_of_ble_eq_true rfl, by rw [hrm]; exact Nat.le_of_ble_eq_true rfl⟩ rfl hk13 rfl rfl rfl (Nat.le_of_ble_eq_true rfl) dX4_readSpan_57 (fun r13 m13 => ?_)
        refine z_icmp_ne (tgt := 73) C dX4_readSpan_60 (by decide) (fun c5 => ?_) (fun c5 => ?_)
        · exact z_sub [0, 1, 2, 3] rfl (s_X4_readSpan_73 C hr hrm th p1 p2 p3 m13)
        · refine z_aload_n C dX4_readSpan_63 rfl 0 rfl ?_
          refine z_iconst (v := 2) C dX4_readSpan_64 (by decide) ?_
          refine z_aload_n C dX4_readSpan_65 rfl 0 rfl ?_
          refine z_iconst (v := 3) C dX4_readSpan_66 (by decide) ?_
          refine z_chk (fun hk14 => ?_)
          refine z_cVI [.int 3] [.int 2, va_rf (some th)] C mv_RX4_180 (fun r0 m0 h0 => M_X4_placeOf _ _ _ _ _ _ _ h0) rfl rfl ⟨by rw [hrm]; exact Nat.le_of_ble_eq_true rfl, by rw [hrm]; exact Nat.le_of_ble_eq_true rfl⟩ ⟨by rw [hrm]; exact Nat.le_of_ble_eq_true rfl, by rw [hrm]; exact Nat.le_of_ble_eq_true rfl⟩ rfl hk14 rfl rfl rfl (Nat.le_of_ble_eq_true rfl) dX4_readSpan_67 (fun r14 m14 => ?_)
          refine z_chk (fun hk15 => ?_)
          refine z_cVV [.int 2, .int r14] [] C mv_RX4_52 (fun r0 m0 h0 => M_X4_note _ _ _ _ _ _ _ _ h0) rfl rfl ⟨by rw [hrm]; exact Nat.le_of_ble_eq_true rfl, by rw [hrm]; exact Nat.le_of_ble_eq_true rfl⟩ ⟨by rw [hrm]; exact Nat.le_of_ble_eq_true rfl, by rw [hrm]; exact Nat.le_of_ble_eq_true rfl⟩ rfl hk15 rfl rfl rfl (Nat.le_of_ble_eq_true rfl) dX4_readSpan_70 (fun r15 m15 => ?_)
          exact z_sub [0, 1, 2, 3] rfl (s_X4_readSpan_73 C hr hrm th p1 p2 p3 m15)
    · exact z_vret C hr dX4_readSpan_20
def f_X4_readSpan (th : Nat) (p1 : Option Nat) (p2 : Int32) (p3 : Int32) (m : MM) : Option (Unit × MM) := g_X4_readSpan_0 th p1 p2 p3 m
theorem M_X4_readSpan (l : Launch) (E : EX) (th : Nat) (p1 : Option Nat) (p2 : Int32) (p3 : Int32) (m : MM) (r : Unit) (m2 : MM) (h : f_X4_readSpan th p1 p2 p3 m = some (r, m2)) : Met l yX4_readSpan (.code yX4_readSpan cX4_readSpan 4 none :: TB) rmX4_readSpan (va_Pc [.ref th, va_rf p1, .int p2, .int p3] (St E m)) (QR E (emV r) m2) 0 0 (AA E) :=
  met_of (em := emV) (plainFor_of_name rfl) (by simp [lg_sl, cat_rf, cat_i, cat_l, cat_a]) (L0 := [(0, va_rf (some th)), (1, va_rf p1), (2, .int p2), (3, .int p3)]) (by simp [lv_args, cat_rf, cat_i, cat_l, cat_a] <;> rfl) (fun Γ _ hrm C hr hn => s_X4_readSpan_0 C hr hrm th p1 p2 p3 m) h

theorem dX4_readWind_0 : decode cX4_readWind 0 = .ok (.aload_n 0, 1) := by decide +kernel
theorem dX4_readWind_1 : decode cX4_readWind 1 = .ok (.invokevirtual 76, 3) := by decide +kernel
theorem dX4_readWind_4 : decode cX4_readWind 4 = .ok (.aload_n 0, 1) := by decide +kernel
theorem dX4_readWind_5 : decode cX4_readWind 5 = .ok (.iconst 0, 1) := by decide +kernel
theorem dX4_readWind_6 : decode cX4_readWind 6 = .ok (.iconst 2, 1) := by decide +kernel
theorem dX4_readWind_7 : decode cX4_readWind 7 = .ok (.invokevirtual 85, 3) := by decide +kernel
theorem dX4_readWind_10 : decode cX4_readWind 10 = .ok (.ifCond .eq 10, 3) := by decide +kernel
theorem dX4_readWind_13 : decode cX4_readWind 13 = .ok (.aload_n 0, 1) := by decide +kernel
theorem dX4_readWind_14 : decode cX4_readWind 14 = .ok (.invokevirtual 89, 3) := by decide +kernel
theorem dX4_readWind_17 : decode cX4_readWind 17 = .ok (.ifCond .ne 4, 3) := by decide +kernel
theorem dX4_readWind_20 : decode cX4_readWind 20 = .ok (.return_, 1) := by decide +kernel
theorem dX4_readWind_21 : decode cX4_readWind 21 = .ok (.aload_n 0, 1) := by decide +kernel
theorem dX4_readWind_22 : decode cX4_readWind 22 = .ok (.iconst 0, 1) := by decide +kernel
theorem dX4_readWind_23 : decode cX4_readWind 23 = .ok (.iconst 0, 1) := by decide +kernel
theorem dX4_readWind_24 : decode cX4_readWind 24 = .ok (.bipush 7, 2) := by decide +kernel
theorem dX4_readWind_26 : decode cX4_readWind 26 = .ok (.invokevirtual 93, 3) := by decide +kernel
theorem dX4_readWind_29 : decode cX4_readWind 29 = .ok (.aload_n 0, 1) := by decide +kernel
theorem dX4_readWind_30 : decode cX4_readWind 30 = .ok (.iconst 1, 1) := by decide +kernel
theorem dX4_readWind_31 : decode cX4_readWind 31 = .ok (.iconst 0, 1) := by decide +kernel
theorem dX4_readWind_32 : decode cX4_readWind 32 = .ok (.bipush 7, 2) := by decide +kernel
theorem dX4_readWind_34 : decode cX4_readWind 34 = .ok (.invokevirtual 93, 3) := by decide +kernel
theorem dX4_readWind_37 : decode cX4_readWind 37 = .ok (.aload_n 0, 1) := by decide +kernel
theorem dX4_readWind_38 : decode cX4_readWind 38 = .ok (.iconst 0, 1) := by decide +kernel
theorem dX4_readWind_39 : decode cX4_readWind 39 = .ok (.invokevirtual 97, 3) := by decide +kernel
theorem dX4_readWind_42 : decode cX4_readWind 42 = .ok (.istore_n 1, 1) := by decide +kernel
theorem dX4_readWind_43 : decode cX4_readWind 43 = .ok (.aload_n 0, 1) := by decide +kernel
theorem dX4_readWind_44 : decode cX4_readWind 44 = .ok (.getfield 42, 3) := by decide +kernel
theorem dX4_readWind_47 : decode cX4_readWind 47 = .ok (.ifCond .ne 33, 3) := by decide +kernel
theorem dX4_readWind_50 : decode cX4_readWind 50 = .ok (.iload_n 1, 1) := by decide +kernel
theorem dX4_readWind_51 : decode cX4_readWind 51 = .ok (.ifCond .lt 29, 3) := by decide +kernel
theorem dX4_readWind_54 : decode cX4_readWind 54 = .ok (.iload_n 1, 1) := by decide +kernel
theorem dX4_readWind_55 : decode cX4_readWind 55 = .ok (.aload_n 0, 1) := by decide +kernel
theorem dX4_readWind_56 : decode cX4_readWind 56 = .ok (.getfield 12, 3) := by decide +kernel
theorem dX4_readWind_59 : decode cX4_readWind 59 = .ok (.getfield 199, 3) := by decide +kernel
theorem dX4_readWind_62 : decode cX4_readWind 62 = .ok (.arraylength, 1) := by decide +kernel
theorem dX4_readWind_63 : decode cX4_readWind 63 = .ok (.if_icmp .ge 17, 3) := by decide +kernel
theorem dX4_readWind_66 : decode cX4_readWind 66 = .ok (.aload_n 0, 1) := by decide +kernel
theorem dX4_readWind_67 : decode cX4_readWind 67 = .ok (.getfield 12, 3) := by decide +kernel
theorem dX4_readWind_70 : decode cX4_readWind 70 = .ok (.getfield 199, 3) := by decide +kernel
theorem dX4_readWind_73 : decode cX4_readWind 73 = .ok (.iload_n 1, 1) := by decide +kernel
theorem dX4_readWind_74 : decode cX4_readWind 74 = .ok (.aload_n 0, 1) := by decide +kernel
theorem dX4_readWind_75 : decode cX4_readWind 75 = .ok (.iconst 1, 1) := by decide +kernel
theorem dX4_readWind_76 : decode cX4_readWind 76 = .ok (.invokevirtual 97, 3) := by decide +kernel
theorem dX4_readWind_79 : decode cX4_readWind 79 = .ok (.iastore, 1) := by decide +kernel
theorem dX4_readWind_80 : decode cX4_readWind 80 = .ok (.return_, 1) := by decide +kernel
def rmX4_readWind : Room := { frames := 3, cells := 0, slots := 0, locals := 65 }
set_option maxRecDepth 100000 in
def g_X4_readWind_0 (th : Nat) (m : MM) : Option (Unit × MM) :=
  chk (m.K th = 5) (cal (f_X4_step th m) (fun r1 m1 => chk (m1.K th = 5) (cal (f_X4_readNumbers th 0 2 m1) (fun r2 m2 => if r2 = 0 then (some ((), m2)) else (chk (m2.K th = 5) (cal (f_X4_readStop th m2) (fun r3 m3 => if r3 = 0 then (some ((), m3)) else (chk (m3.K th = 5) (cal (f_X4_check th 0 0 7 m3) (fun r4 m4 => chk (m4.K th = 5) (cal (f_X4_check th 1 0 7 m4) (fun r5 m5 => chk (m5.K th = 5) (cal (f_X4_number th 0 m5) (fun r6 m6 => chk (m6.K th = 5) (if (m6.I 510 th 0) = 0 then (if r6 < 0 then (some ((), m6)) else (ck m6 (m6.R 500 th 0) 9 (fun a1 => ck m6 (m6.R 910 a1 0) 22 (fun a2 => if (Int32.ofNat (m6.N a2)) ≤ r6 then (some ((), m6)) else (cal (f_X4_number th 1 m6) (fun r7 m7 => chk (m7.K a2 = 22) (chk (inb r6 (m7.N a2) = true) (bnd (m7.sI 22 a2 (Int32.toNatClampNeg r6) r7) (fun m8 => some ((), m8)))))))))) else (some ((), m6)))))))))))))))))
set_option maxHeartbeats 4000000 in
set_option maxRecDepth 100000 in
theorem s_X4_readWind_0 {Γ : GX} {E : EX} (C : Cx Γ E cX4_readWind RX4 2) (hr : Γ.meth.sig.returnType = none) (hrm : Γ.rm = rmX4_readWind) (th : Nat) (m : MM) : Sm (QM Γ E emV 0 0) Γ E 2 0 0 0 [(0, va_rf (some th))] [] m (g_X4_readWind_0 th m) := by
  unfold g_X4_readWind_0
  refine z_aload_n C dX4_readWind_0 rfl 0 rfl ?_
  refine z_chk (fun hk1 => ?_)
  refine z_cVV [] [] C mv_RX4_76 (fun r0 m0 h0 => M_X4_step _ _ _ _ _ _ h0) rfl rfl ⟨by rw [hrm]; exact Nat.le_of_ble_eq_true rfl, by rw [hrm]; exact Nat.le_of_ble_eq_true rfl⟩ ⟨by rw [hrm]; exact Nat.le_of_ble_eq_true rfl, by rw [hrm]; exact Nat.le_of_ble_eq_true rfl⟩ rfl hk1 rfl rfl rfl (Nat.le_of_ble_eq_true rfl) dX4_readWind_1 (fun r1 m1 => ?_)
  refine z_aload_n C dX4_readWind_4 rfl 0 rfl ?_
  refine z_iconst (v := 0) C dX4_readWind_5 (by decide) ?_
  refine z_iconst (v := 2) C dX4_readWind_6 (by decide) ?_
  refine z_chk (fun hk2 => ?_)
  refine z_cVI [.int 0, .int 2] [] C mv_RX4_85 (fun r0 m0 h0 => M_X4_readNumbers _ _ _ _ _ _ _ _ h0) rfl rfl ⟨by rw [hrm]; exact Nat.le_of_ble_eq_true rfl, by rw [hrm]; exact Nat.le_of_ble_eq_true rfl⟩ ⟨by rw [hrm]; exact Nat.le_of_ble_eq_true rfl, by rw [hrm]; exact Nat.le_of_ble_eq_true rfl⟩ rfl hk2 rfl rfl rfl (Nat.le_of_ble_eq_true rfl) dX4_readWind_7 (fun r2 m2 => ?_)
  refine z_if_eq (tgt := 20) C dX4_readWind_10 (by decide) (fun c1 => ?_) (fun c1 => ?_)
  · exact z_vret C hr dX4_readWind_20
  · refine z_aload_n C dX4_readWind_13 rfl 0 rfl ?_
    refine z_chk (fun hk3 => ?_)
    refine z_cVI [] [] C mv_RX4_89 (fun r0 m0 h0 => M_X4_readStop _ _ _ _ _ _ h0) rfl rfl ⟨by rw [hrm]; exact Nat.le_of_ble_eq_true rfl, by rw [hrm]; exact Nat.le_of_ble_eq_true rfl⟩ ⟨by rw [hrm]; exact Nat.le_of_ble_eq_true rfl, by rw [hrm]; exact Nat.le_of_ble_eq_true rfl⟩ rfl hk3 rfl rfl rfl (Nat.le_of_ble_eq_true rfl) dX4_readWind_14 (fun r3 m3 => ?_)
    refine z_if_ne (tgt := 21) C dX4_readWind_17 (by decide) (fun c2 => ?_) (fun c2 => ?_)
    · refine z_aload_n C dX4_readWind_21 rfl 0 rfl ?_
      refine z_iconst (v := 0) C dX4_readWind_22 (by decide) ?_
      refine z_iconst (v := 0) C dX4_readWind_23 (by decide) ?_
      refine z_bipush (v := 7) C dX4_readWind_24 (by decide) ?_
      refine z_chk (fun hk4 => ?_)
      refine z_cVV [.int 0, .int 0, .int 7] [] C mv_RX4_93 (fun r0 m0 h0 => M_X4_check _ _ _ _ _ _ _ _ _ h0) rfl rfl ⟨by rw [hrm]; exact Nat.le_of_ble_eq_true rfl, by rw [hrm]; exact Nat.le_of_ble_eq_true rfl⟩ ⟨by rw [hrm]; exact Nat.le_of_ble_eq_true rfl, by rw [hrm]; exact Nat.le_of_ble_eq_true rfl⟩ rfl hk4 rfl rfl rfl (Nat.le_of_ble_eq_true rfl) dX4_readWind_26 (fun r4 m4 => ?_)
      refine z_aload_n C dX4_readWind_29 rfl 0 rfl ?_
      refine z_iconst (v := 1) C dX4_readWind_30 (by decide) ?_
      refine z_iconst (v := 0) C dX4_readWind_31 (by decide) ?_
      refine z_bipush (v := 7) C dX4_readWind_32 (by decide) ?_
      refine z_chk (fun hk5 => ?_)
      refine z_cVV [.int 1, .int 0, .int 7] [] C mv_RX4_93 (fun r0 m0 h0 => M_X4_check _ _ _ _ _ _ _ _ _ h0) rfl rfl ⟨by rw [hrm]; exact Nat.le_of_ble_eq_true rfl, by rw [hrm]; exact Nat.le_of_ble_eq_true rfl⟩ ⟨by rw [hrm]; exact Nat.le_of_ble_eq_true rfl, by rw [hrm]; exact Nat.le_of_ble_eq_true rfl⟩ rfl hk5 rfl rfl rfl (Nat.le_of_ble_eq_true rfl) dX4_readWind_34 (fun r5 m5 => ?_)
      refine z_aload_n C dX4_readWind_37 rfl 0 rfl ?_
      refine z_iconst (v := 0) C dX4_readWind_38 (by decide) ?_
      refine z_chk (fun hk6 => ?_)
      refine z_cVI [.int 0] [] C mv_RX4_97 (fun r0 m0 h0 => M_X4_number _ _ _ _ _ _ _ h0) rfl rfl ⟨by rw [hrm]; exact Nat.le_of_ble_eq_true rfl, by rw [hrm]; exact Nat.le_of_ble_eq_true rfl⟩ ⟨by rw [hrm]; exact Nat.le_of_ble_eq_true rfl, by rw [hrm]; exact Nat.le_of_ble_eq_true rfl⟩ rfl hk6 rfl rfl rfl (Nat.le_of_ble_eq_true rfl) dX4_readWind_39 (fun r6 m6 => ?_)
      refine z_istore_n (i := 1) (L2 := [(1, .int r6), (0, va_rf (some th))]) C dX4_readWind_42 rfl (by decide) rfl ?_
      refine z_aload_n C dX4_readWind_43 rfl 1 rfl ?_
      refine z_chk (fun hk7 => ?_)
      refine z_getI C fl_RX4_42 rfl hk7 dX4_readWind_44 ?_
      refine z_if_ne (tgt := 80) C dX4_readWind_47 (by decide) (fun c3 => ?_) (fun c3 => ?_)
      · exact z_vret C hr dX4_readWind_80
      · refine z_iload_n C dX4_readWind_50 rfl 0 rfl ?_
        refine z_if_lt (tgt := 80) C dX4_readWind_51 (by decide) (fun c4 => ?_) (fun c4 => ?_)
        · exact z_vret C hr dX4_readWind_80
        · refine z_iload_n C dX4_readWind_54 rfl 0 rfl ?_
          refine z_aload_n C dX4_readWind_55 rfl 1 rfl ?_
          refine z_getR C fl_RX4_12 rfl hk7 dX4_readWind_56 ?_
          refine z_ck (fun a1 hr1 hk8 => ?_)
          refine z_getR C fl_RX4_199 hr1 hk8 dX4_readWind_59 ?_
          refine z_ck (fun a2 hr2 hk9 => ?_)
          refine z_alen C hr2 hk9 (by decide) (by decide) dX4_readWind_62 ?_
          refine z_icmp_ge (tgt := 80) C dX4_readWind_63 (by decide) (fun c5 => ?_) (fun c5 => ?_)
          · exact z_vret C hr dX4_readWind_80
          · refine z_aload_n C dX4_readWind_66 rfl 1 rfl ?_
            refine z_getR C fl_RX4_12 rfl hk7 dX4_readWind_67 ?_
            refine z_getR C fl_RX4_199 hr1 hk8 dX4_readWind_70 ?_
            refine z_iload_n C dX4_readWind_73 rfl 0 rfl ?_
            refine z_aload_n C dX4_readWind_74 rfl 1 rfl ?_
            refine z_iconst (v := 1) C dX4_readWind_75 (by decide) ?_
            refine z_cVI [.int 1] [.int r6, va_rf (m6.R 910 a1 0)] C mv_RX4_97 (fun r0 m0 h0 => M_X4_number _ _ _ _ _ _ _ h0) rfl rfl ⟨by rw [hrm]; exact Nat.le_of_ble_eq_true rfl, by rw [hrm]; exact Nat.le_of_ble_eq_true rfl⟩ ⟨by rw [hrm]; exact Nat.le_of_ble_eq_true rfl, by rw [hrm]; exact Nat.le_of_ble_eq_true rfl⟩ rfl hk7 rfl rfl rfl (by simp [cat_rf, cat_i, cat_l, cat_a]) dX4_readWind_76 (fun r7 m7 => ?_)
            refine z_chk (fun hk10 => ?_)
            refine z_chk (fun hj1 => ?_)
            refine z_iast C hr2 hk10 hj1 dX4_readWind_79 (fun m8 eK1 eN1 => ?_)
            exact z_vret C hr dX4_readWind_80
    · exact z_vret C hr dX4_readWind_20
def f_X4_readWind (th : Nat) (m : MM) : Option (Unit × MM) := g_X4_readWind_0 th m
theorem M_X4_readWind (l : Launch) (E : EX) (th : Nat) (m : MM) (r : Unit) (m2 : MM) (h : f_X4_readWind th m = some (r, m2)) : Met l yX4_readWind (.code yX4_readWind cX4_readWind 2 none :: TB) rmX4_readWind (va_Pc [.ref th] (St E m)) (QR E (emV r) m2) 0 0 (AA E) :=
  met_of (em := emV) (plainFor_of_name rfl) (Nat.le_of_ble_eq_true rfl) (L0 := [(0, va_rf (some th))]) rfl (fun Γ _ hrm C hr hn => s_X4_readWind_0 C hr hrm th m) h

theorem dX4_readSign_0 : decode cX4_readSign 0 = .ok (.aload_n 0, 1) := by decide +kernel
theorem dX4_readSign_1 : decode cX4_readSign 1 = .ok (.ldc 211, 2) := by decide +kernel
theorem dX4_readSign_3 : decode cX4_readSign 3 = .ok (.invokevirtual 109, 3) := by decide +kernel
theorem dX4_readSign_6 : decode cX4_readSign 6 = .ok (.ifCond .eq 7, 3) := by decide +kernel
theorem dX4_readSign_9 : decode cX4_readSign 9 = .ok (.iconst 1, 1) := by decide +kernel
theorem dX4_readSign_10 : decode cX4_readSign 10 = .ok (.goto 17, 3) := by decide +kernel
theorem dX4_readSign_13 : decode cX4_readSign 13 = .ok (.aload_n 0, 1) := by decide +kernel
theorem dX4_readSign_14 : decode cX4_readSign 14 = .ok (.ldc 213, 2) := by decide +kernel
theorem dX4_readSign_16 : decode cX4_readSign 16 = .ok (.invokevirtual 109, 3) := by decide +kernel
theorem dX4_readSign_19 : decode cX4_readSign 19 = .ok (.ifCond .eq 7, 3) := by decide +kernel
theorem dX4_readSign_22 : decode cX4_readSign 22 = .ok (.iconst (-1), 1) := by decide +kernel
theorem dX4_readSign_23 : decode cX4_readSign 23 = .ok (.goto 4, 3) := by decide +kernel
theorem dX4_readSign_26 : decode cX4_readSign 26 = .ok (.iconst 0, 1) := by decide +kernel
theorem dX4_readSign_27 : decode cX4_readSign 27 = .ok (.istore_n 1, 1) := by decide +kernel
theorem dX4_readSign_28 : decode cX4_readSign 28 = .ok (.iload_n 1, 1) := by decide +kernel
theorem dX4_readSign_29 : decode cX4_readSign 29 = .ok (.ifCond .ne 10, 3) := by decide +kernel
theorem dX4_readSign_32 : decode cX4_readSign 32 = .ok (.aload_n 0, 1) := by decide +kernel
theorem dX4_readSign_33 : decode cX4_readSign 33 = .ok (.invokevirtual 161, 3) := by decide +kernel
theorem dX4_readSign_36 : decode cX4_readSign 36 = .ok (.goto 7, 3) := by decide +kernel
theorem dX4_readSign_39 : decode cX4_readSign 39 = .ok (.aload_n 0, 1) := by decide +kernel
theorem dX4_readSign_40 : decode cX4_readSign 40 = .ok (.invokevirtual 76, 3) := by decide +kernel
theorem dX4_readSign_43 : decode cX4_readSign 43 = .ok (.iload_n 1, 1) := by decide +kernel
theorem dX4_readSign_44 : decode cX4_readSign 44 = .ok (.ireturn, 1) := by decide +kernel
def rmX4_readSign : Room := { frames := 5, cells := 0, slots := 0, locals := 107 }
set_option maxRecDepth 100000 in
def g_X4_readSign_27 (th : Nat) (s0 : Int32) (m : MM) : Option (Int32 × MM) :=
  if s0 = 0 then (chk (m.K th = 5) (cal (f_X4_breakOff th m) (fun r2 m2 => some (s0, m2)))) else (chk (m.K th = 5) (cal (f_X4_step th m) (fun r1 m1 => some (s0, m1))))
set_option maxHeartbeats 4000000 in
set_option maxRecDepth 100000 in
theorem s_X4_readSign_27 {Γ : GX} {E : EX} (C : Cx Γ E cX4_readSign RX4 2) (hr : Γ.meth.sig.returnType = (some .int)) (hrm : Γ.rm = rmX4_readSign) (th : Nat) (s0 : Int32) (m : MM) : Sm (QM Γ E emI 0 0) Γ E 2 0 0 27 [(0, va_rf (some th))] [.int s0] m (g_X4_readSign_27 th s0 m) := by
  unfold g_X4_readSign_27
  refine z_istore_n (i := 1) (L2 := [(1, .int s0), (0, va_rf (some th))]) C dX4_readSign_27 rfl (by decide) rfl ?_
  refine z_iload_n C dX4_readSign_28 rfl 0 rfl ?_
  refine z_if_ne (tgt := 39) C dX4_readSign_29 (by decide) (fun c1 => ?_) (fun c1 => ?_)
  · refine z_aload_n C dX4_readSign_39 rfl 1 rfl ?_
    refine z_chk (fun hk1 => ?_)
    refine z_cVV [] [] C mv_RX4_76 (fun r0 m0 h0 => M_X4_step _ _ _ _ _ _ h0) rfl rfl ⟨by rw [hrm]; exact Nat.le_of_ble_eq_true rfl, by rw [hrm]; exact Nat.le_of_ble_eq_true rfl⟩ ⟨by rw [hrm]; exact Nat.le_of_ble_eq_true rfl, by rw [hrm]; exact Nat.le_of_ble_eq_true rfl⟩ rfl hk1 rfl rfl rfl (Nat.le_of_ble_eq_true rfl) dX4_readSign_40 (fun r1 m1 => ?_)
    refine z_iload_n C dX4_readSign_43 rfl 0 rfl ?_
    exact z_iret C hr dX4_readSign_44
  · refine z_aload_n C dX4_readSign_32 rfl 1 rfl ?_
    refine z_chk (fun hk2 => ?_)
    refine z_cVV [] [] C mv_RX4_161 (fun r0 m0 h0 => M_X4_breakOff _ _ _ _ _ _ h0) rfl rfl ⟨by rw [hrm]; exact Nat.le_of_ble_eq_true rfl, by rw [hrm]; exact Nat.le_of_ble_eq_true rfl⟩ ⟨by rw [hrm]; exact Nat.le_of_ble_eq_true rfl, by rw [hrm]; exact Nat.le_of_ble_eq_true rfl⟩ rfl hk2 rfl rfl rfl (Nat.le_of_ble_eq_true rfl) dX4_readSign_33 (fun r2 m2 => ?_)
    refine z_goto (tgt := 43) C dX4_readSign_36 (by decide) ?_
    refine z_iload_n C dX4_readSign_43 rfl 0 rfl ?_
    exact z_iret C hr dX4_readSign_44
set_option maxRecDepth 100000 in
def g_X4_readSign_0 (th : Nat) (m : MM) : Option (Int32 × MM) :=
  chk (m.K th = 5) (cal (f_X4_isWord th 7 m) (fun r3 m3 => if r3 = 0 then (chk (m3.K th = 5) (cal (f_X4_isWord th 8 m3) (fun r4 m4 => if r4 = 0 then (g_X4_readSign_27 th 0 m4) else (g_X4_readSign_27 th (-1) m4)))) else (g_X4_readSign_27 th 1 m3)))
set_option maxHeartbeats 4000000 in
set_option maxRecDepth 100000 in
theorem s_X4_readSign_0 {Γ : GX} {E : EX} (C : Cx Γ E cX4_readSign RX4 2) (hr : Γ.meth.sig.returnType = (some .int)) (hrm : Γ.rm = rmX4_readSign) (th : Nat) (m : MM) : Sm (QM Γ E emI 0 0) Γ E 2 0 0 0 [(0, va_rf (some th))] [] m (g_X4_readSign_0 th m) := by
  unfold g_X4_readSign_0
  refine z_aload_n C dX4_readSign_0 rfl 0 rfl ?_
  refine z_ldcS C (i := 7) (by decide) rfl dX4_readSign_1 ?_
  refine z_chk (fun hk3 => ?_)
  refine z_cVI [va_rf (some (E.adK 7))] [] C mv_RX4_109 (fun r0 m0 h0 => M_X4_isWord _ _ _ _ _ _ _ h0) rfl rfl ⟨by rw [hrm]; exact Nat.le_of_ble_eq_true rfl, by rw [hrm]; exact Nat.le_of_ble_eq_true rfl⟩ ⟨by rw [hrm]; exact Nat.le_of_ble_eq_true rfl, by rw [hrm]; exact Nat.le_of_ble_eq_true rfl⟩ rfl hk3 rfl rfl rfl (Nat.le_of_ble_eq_true rfl) dX4_readSign_3 (fun r3 m3 => ?_)
  refine z_if_eq (tgt := 13) C dX4_readSign_6 (by decide) (fun c2 => ?_) (fun c2 => ?_)
  · refine z_aload_n C dX4_readSign_13 rfl 0 rfl ?_
    refine z_ldcS C (i := 8) (by decide) rfl dX4_readSign_14 ?_
    refine z_chk (fun hk4 => ?_)
    refine z_cVI [va_rf (some (E.adK 8))] [] C mv_RX4_109 (fun r0 m0 h0 => M_X4_isWord _ _ _ _ _ _ _ h0) rfl rfl ⟨by rw [hrm]; exact Nat.le_of_ble_eq_true rfl, by rw [hrm]; exact Nat.le_of_ble_eq_true rfl⟩ ⟨by rw [hrm]; exact Nat.le_of_ble_eq_true rfl, by rw [hrm]; exact Nat.le_of_ble_eq_true rfl⟩ rfl hk4 rfl rfl rfl (Nat.le_of_ble_eq_true rfl) dX4_readSign_16 (fun r4 m4 => ?_)
    refine z_if_eq (tgt := 26) C dX4_readSign_19 (by decide) (fun c3 => ?_) (fun c3 => ?_)
    · refine z_iconst (v := 0) C dX4_readSign_26 (by decide) ?_
      exact z_sub [0] rfl (s_X4_readSign_27 C hr hrm th 0 m4)
    · refine z_iconst (v := (-1)) C dX4_readSign_22 (by decide) ?_
      refine z_goto (tgt := 27) C dX4_readSign_23 (by decide) ?_
      exact z_sub [0] rfl (s_X4_readSign_27 C hr hrm th (-1) m4)
  · refine z_iconst (v := 1) C dX4_readSign_9 (by decide) ?_
    refine z_goto (tgt := 27) C dX4_readSign_10 (by decide) ?_
    exact z_sub [0] rfl (s_X4_readSign_27 C hr hrm th 1 m3)
def f_X4_readSign (th : Nat) (m : MM) : Option (Int32 × MM) := g_X4_readSign_0 th m
theorem M_X4_readSign (l : Launch) (E : EX) (th : Nat) (m : MM) (r : Int32) (m2 : MM) (h : f_X4_readSign th m = some (r, m2)) : Met l yX4_readSign (.code yX4_readSign cX4_readSign 2 (some .int) :: TB) rmX4_readSign (va_Pc [.ref th] (St E m)) (QR E (emI r) m2) 0 0 (AA E) :=
  met_of (em := emI) (plainFor_of_name rfl) (Nat.le_of_ble_eq_true rfl) (L0 := [(0, va_rf (some th))]) rfl (fun Γ _ hrm C hr hn => s_X4_readSign_0 C hr hrm th m) h

theorem dX4_readSlope_0 : decode cX4_readSlope 0 = .ok (.aload_n 0, 1) := by decide +kernel
theorem dX4_readSlope_1 : decode cX4_readSlope 1 = .ok (.invokevirtual 76, 3) := by decide +kernel
theorem dX4_readSlope_4 : decode cX4_readSlope 4 = .ok (.aload_n 0, 1) := by decide +kernel
theorem dX4_readSlope_5 : decode cX4_readSlope 5 = .ok (.invokevirtual 202, 3) := by decide +kernel
theorem dX4_readSlope_8 : decode cX4_readSlope 8 = .ok (.istore_n 1, 1) := by decide +kernel
theorem dX4_readSlope_9 : decode cX4_readSlope 9 = .ok (.iload_n 1, 1) := by decide +kernel
theorem dX4_readSlope_10 : decode cX4_readSlope 10 = .ok (.ifCond .eq 12, 3) := by decide +kernel
theorem dX4_readSlope_13 : decode cX4_readSlope 13 = .ok (.aload_n 0, 1) := by decide +kernel
theorem dX4_readSlope_14 : decode cX4_readSlope 14 = .ok (.iconst 0, 1) := by decide +kernel
theorem dX4_readSlope_15 : decode cX4_readSlope 15 = .ok (.iconst 1, 1) := by decide +kernel
theorem dX4_readSlope_16 : decode cX4_readSlope 16 = .ok (.invokevirtual 85, 3) := by decide +kernel
theorem dX4_readSlope_19 : decode cX4_readSlope 19 = .ok (.ifCond .ne 4, 3) := by decide +kernel
theorem dX4_readSlope_22 : decode cX4_readSlope 22 = .ok (.return_, 1) := by decide +kernel
theorem dX4_readSlope_23 : decode cX4_readSlope 23 = .ok (.aload_n 0, 1) := by decide +kernel
theorem dX4_readSlope_24 : decode cX4_readSlope 24 = .ok (.invokevirtual 202, 3) := by decide +kernel
theorem dX4_readSlope_27 : decode cX4_readSlope 27 = .ok (.istore_n 2, 1) := by decide +kernel
theorem dX4_readSlope_28 : decode cX4_readSlope 28 = .ok (.iload_n 2, 1) := by decide +kernel
theorem dX4_readSlope_29 : decode cX4_readSlope 29 = .ok (.ifCond .eq 19, 3) := by decide +kernel
theorem dX4_readSlope_32 : decode cX4_readSlope 32 = .ok (.aload_n 0, 1) := by decide +kernel
theorem dX4_readSlope_33 : decode cX4_readSlope 33 = .ok (.iconst 1, 1) := by decide +kernel
theorem dX4_readSlope_34 : decode cX4_readSlope 34 = .ok (.iconst 1, 1) := by decide +kernel
theorem dX4_readSlope_35 : decode cX4_readSlope 35 = .ok (.invokevirtual 85, 3) := by decide +kernel
theorem dX4_readSlope_38 : decode cX4_readSlope 38 = .ok (.ifCond .eq 10, 3) := by decide +kernel
theorem dX4_readSlope_41 : decode cX4_readSlope 41 = .ok (.aload_n 0, 1) := by decide +kernel
theorem dX4_readSlope_42 : decode cX4_readSlope 42 = .ok (.invokevirtual 89, 3) := by decide +kernel
theorem dX4_readSlope_45 : decode cX4_readSlope 45 = .ok (.ifCond .ne 4, 3) := by decide +kernel
theorem dX4_readSlope_48 : decode cX4_readSlope 48 = .ok (.return_, 1) := by decide +kernel
theorem dX4_readSlope_49 : decode cX4_readSlope 49 = .ok (.aload_n 0, 1) := by decide +kernel
theorem dX4_readSlope_50 : decode cX4_readSlope 50 = .ok (.iconst 0, 1) := by decide +kernel
theorem dX4_readSlope_51 : decode cX4_readSlope 51 = .ok (.iconst 0, 1) := by decide +kernel
theorem dX4_readSlope_52 : decode cX4_readSlope 52 = .ok (.bipush 9, 2) := by decide +kernel
theorem dX4_readSlope_54 : decode cX4_readSlope 54 = .ok (.invokevirtual 93, 3) := by decide +kernel
theorem dX4_readSlope_57 : decode cX4_readSlope 57 = .ok (.aload_n 0, 1) := by decide +kernel
theorem dX4_readSlope_58 : decode cX4_readSlope 58 = .ok (.iconst 1, 1) := by decide +kernel
theorem dX4_readSlope_59 : decode cX4_readSlope 59 = .ok (.iconst 0, 1) := by decide +kernel
theorem dX4_readSlope_60 : decode cX4_readSlope 60 = .ok (.bipush 9, 2) := by decide +kernel
theorem dX4_readSlope_62 : decode cX4_readSlope 62 = .ok (.invokevirtual 93, 3) := by decide +kernel
theorem dX4_readSlope_65 : decode cX4_readSlope 65 = .ok (.aload_n 0, 1) := by decide +kernel
theorem dX4_readSlope_66 : decode cX4_readSlope 66 = .ok (.getfield 42, 3) := by decide +kernel
theorem dX4_readSlope_69 : decode cX4_readSlope 69 = .ok (.ifCond .ne 31, 3) := by decide +kernel
theorem dX4_readSlope_72 : decode cX4_readSlope 72 = .ok (.aload_n 0, 1) := by decide +kernel
theorem dX4_readSlope_73 : decode cX4_readSlope 73 = .ok (.getfield 12, 3) := by decide +kernel
theorem dX4_readSlope_76 : decode cX4_readSlope 76 = .ok (.iload_n 1, 1) := by decide +kernel
theorem dX4_readSlope_77 : decode cX4_readSlope 77 = .ok (.aload_n 0, 1) := by decide +kernel
theorem dX4_readSlope_78 : decode cX4_readSlope 78 = .ok (.iconst 0, 1) := by decide +kernel
theorem dX4_readSlope_79 : decode cX4_readSlope 79 = .ok (.invokevirtual 97, 3) := by decide +kernel
theorem dX4_readSlope_82 : decode cX4_readSlope 82 = .ok (.imul, 1) := by decide +kernel
theorem dX4_readSlope_83 : decode cX4_readSlope 83 = .ok (.putfield 205, 3) := by decide +kernel
theorem dX4_readSlope_86 : decode cX4_readSlope 86 = .ok (.aload_n 0, 1) := by decide +kernel
theorem dX4_readSlope_87 : decode cX4_readSlope 87 = .ok (.getfield 12, 3) := by decide +kernel
theorem dX4_readSlope_90 : decode cX4_readSlope 90 = .ok (.iload_n 2, 1) := by decide +kernel
theorem dX4_readSlope_91 : decode cX4_readSlope 91 = .ok (.aload_n 0, 1) := by decide +kernel
theorem dX4_readSlope_92 : decode cX4_readSlope 92 = .ok (.iconst 1, 1) := by decide +kernel
theorem dX4_readSlope_93 : decode cX4_readSlope 93 = .ok (.invokevirtual 97, 3) := by decide +kernel
theorem dX4_readSlope_96 : decode cX4_readSlope 96 = .ok (.imul, 1) := by decide +kernel
theorem dX4_readSlope_97 : decode cX4_readSlope 97 = .ok (.putfield 208, 3) := by decide +kernel
theorem dX4_readSlope_100 : decode cX4_readSlope 100 = .ok (.return_, 1) := by decide +kernel
def rmX4_readSlope : Room := { frames := 6, cells := 0, slots := 0, locals := 128 }
set_option maxRecDepth 100000 in
def g_X4_readSlope_0 (th : Nat) (m : MM) : Option (Unit × MM) :=
  chk (m.K th = 5) (cal (f_X4_step th m) (fun r1 m1 => chk (m1.K th = 5) (cal (f_X4_readSign th m1) (fun r2 m2 => if r2 = 0 then (some ((), m2)) else (chk (m2.K th = 5) (cal (f_X4_readNumbers th 0 1 m2) (fun r3 m3 => if r3 = 0 then (some ((), m3)) else (chk (m3.K th = 5) (cal (f_X4_readSign th m3) (fun r4 m4 => if r4 = 0 then (some ((), m4)) else (chk (m4.K th = 5) (cal (f_X4_readNumbers th 1 1 m4) (fun r5 m5 => if r5 = 0 then (some ((), m5)) else (chk (m5.K th = 5) (cal (f_X4_readStop th m5) (fun r6 m6 => if r6 = 0 then (some ((), m6)) else (chk (m6.K th = 5) (cal (f_X4_check th 0 0 9 m6) (fun r7 m7 => chk (m7.K th = 5) (cal (f_X4_check th 1 0 9 m7) (fun r8 m8 => chk (m8.K th = 5) (if (m8.I 510 th 0) = 0 then (cal (f_X4_number th 0 m8) (fun r9 m9 => ck m9 (m8.R 500 th 0) 9 (fun a1 => bnd (m9.sI 902 a1 0 (r2 * r9)) (fun m10 => chk (m10.K th = 5) (cal (f_X4_number th 1 m10) (fun r10 m11 => ck m11 (m10.R 500 th 0) 9 (fun a2 => bnd (m11.sI 903 a2 0 (r4 * r10)) (fun m12 => some ((), m12))))))))) else (some ((), m8))))))))))))))))))))))))
set_option maxHeartbeats 4000000 in
set_option maxRecDepth 100000 in
theorem s_X4_readSlope_0 {Γ : GX} {E : EX} (C : Cx Γ E cX4_readSlope RX4 3) (hr : Γ.meth.sig.returnType = none) (hrm : Γ.rm = rmX4_readSlope) (th : Nat) (m : MM) : Sm (QM Γ E emV 0 0) Γ E 3 0 0 0 [(0, va_rf (some th))] [] m (g_X4_readSlope_0 th m) := by
  unfold g_X4_readSlope_0
  refine z_aload_n C dX4_readSlope_0 rfl 0 rfl ?_
  refine z_chk (fun hk1 => ?_)
  refine z_cVV [] [] C mv_RX4_76 (fun r0 m0 h0 => M_X4_step _ _ _ _ _ _ h0) rfl rfl ⟨by rw [hrm]; exact Nat.le_of_ble_eq_true rfl, by rw [hrm]; exact Nat.le_of_ble_eq_true rfl⟩ ⟨by rw [hrm]; exact Nat.le_of_ble_eq_true rfl, by rw [hrm]; exact Nat.le_of_ble_eq_true rfl⟩ rfl hk1 rfl rfl rfl (Nat.le_of_ble_eq_true rfl) dX4_readSlope_1 (fun r1 m1 => ?_)
  refine z_aload_n C dX4_readSlope_4 rfl 0 rfl ?_
  refine z_chk (fun hk2 => ?_)
  refine z_cVI [] [] C mv_RX4_202 (fun r0 m0 h0 => M_X4_readSign _ _ _ _ _ _ h0) rfl rfl ⟨by rw [hrm]; exact Nat.le_of_ble_eq_true rfl, by rw [hrm]; exact Nat.le_of_ble_eq_true rfl⟩ ⟨by rw [hrm]; exact Nat.le_of_ble_eq_true rfl, by rw [hrm]; exact Nat.le_of_ble_eq_true rfl⟩ rfl hk2 rfl rfl rfl (Nat.le_of_ble_eq_true rfl) dX4_readSlope_5 (fun r2 m2 => ?_)
  refine z_istore_n (i := 1) (L2 := [(1, .int r2), (0, va_rf (some th))]) C dX4_readSlope_8 rfl (by decide) rfl ?_
  refine z_iload_n C dX4_readSlope_9 rfl 0 rfl ?_
  refine z_if_eq (tgt := 22) C dX4_readSlope_10 (by decide) (fun c1 => ?_) (fun c1 => ?_)
  · exact z_vret C hr dX4_readSlope_22
  · refine z_aload_n C dX4_readSlope_13 rfl 1 rfl ?_
    refine z_iconst (v := 0) C dX4_readSlope_14 (by decide) ?_
    refine z_iconst (v := 1) C dX4_readSlope_15 (by decide) ?_
    refine z_chk (fun hk3 => ?_)
    refine z_cVI [.int 0, .int 1] [] C mv_RX4_85 (fun r0 m0 h0 => M_X4_readNumbers _ _ _ _ _ _ _ _ h0) rfl rfl ⟨by rw [hrm]; exact Nat.le_of_ble_eq_true rfl, by rw [hrm]; exact Nat.le_of_ble_eq_true rfl⟩ ⟨by rw [hrm]; exact Nat.le_of_ble_eq_true rfl, by rw [hrm]; exact Nat.le_of_ble_eq_true rfl⟩ rfl hk3 rfl rfl rfl (Nat.le_of_ble_eq_true rfl) dX4_readSlope_16 (fun r3 m3 => ?_)
    refine z_if_ne (tgt := 23) C dX4_readSlope_19 (by decide) (fun c2 => ?_) (fun c2 => ?_)
    · refine z_aload_n C dX4_readSlope_23 rfl 1 rfl ?_
      refine z_chk (fun hk4 => ?_)
      refine z_cVI [] [] C mv_RX4_202 (fun r0 m0 h0 => M_X4_readSign _ _ _ _ _ _ h0) rfl rfl ⟨by rw [hrm]; exact Nat.le_of_ble_eq_true rfl, by rw [hrm]; exact Nat.le_of_ble_eq_true rfl⟩ ⟨by rw [hrm]; exact Nat.le_of_ble_eq_true rfl, by rw [hrm]; exact Nat.le_of_ble_eq_true rfl⟩ rfl hk4 rfl rfl rfl (Nat.le_of_ble_eq_true rfl) dX4_readSlope_24 (fun r4 m4 => ?_)
      refine z_istore_n (i := 2) (L2 := [(2, .int r4), (1, .int r2), (0, va_rf (some th))]) C dX4_readSlope_27 rfl (by decide) rfl ?_
      refine z_iload_n C dX4_readSlope_28 rfl 0 rfl ?_
      refine z_if_eq (tgt := 48) C dX4_readSlope_29 (by decide) (fun c3 => ?_) (fun c3 => ?_)
      · exact z_vret C hr dX4_readSlope_48
      · refine z_aload_n C dX4_readSlope_32 rfl 2 rfl ?_
        refine z_iconst (v := 1) C dX4_readSlope_33 (by decide) ?_
        refine z_iconst (v := 1) C dX4_readSlope_34 (by decide) ?_
        refine z_chk (fun hk5 => ?_)
        refine z_cVI [.int 1, .int 1] [] C mv_RX4_85 (fun r0 m0 h0 => M_X4_readNumbers _ _ _ _ _ _ _ _ h0) rfl rfl ⟨by rw [hrm]; exact Nat.le_of_ble_eq_true rfl, by rw [hrm]; exact Nat.le_of_ble_eq_true rfl⟩ ⟨by rw [hrm]; exact Nat.le_of_ble_eq_true rfl, by rw [hrm]; exact Nat.le_of_ble_eq_true rfl⟩ rfl hk5 rfl rfl rfl (Nat.le_of_ble_eq_true rfl) dX4_readSlope_35 (fun r5 m5 => ?_)
        refine z_if_eq (tgt := 48) C dX4_readSlope_38 (by decide) (fun c4 => ?_) (fun c4 => ?_)
        · exact z_vret C hr dX4_readSlope_48
        · refine z_aload_n C dX4_readSlope_41 rfl 2 rfl ?_
          refine z_chk (fun hk6 => ?_)
          refine z_cVI [] [] C mv_RX4_89 (fun r0 m0 h0 => M_X4_readStop _ _ _ _ _ _ h0) rfl rfl ⟨by rw [hrm]; exact Nat.le_of_ble_eq_true rfl, by rw [hrm]; exact Nat.le_of_ble_eq_true rfl⟩ ⟨by rw [hrm]; exact Nat.le_of_ble_eq_true rfl, by rw [hrm]; exact Nat.le_of_ble_eq_true rfl⟩ rfl hk6 rfl rfl rfl (Nat.le_of_ble_eq_true rfl) dX4_readSlope_42 (fun r6 m6 => ?_)
          refine z_if_ne (tgt := 49) C dX4_readSlope_45 (by decide) (fun c5 => ?_) (fun c5 => ?_)
          · refine z_aload_n C dX4_readSlope_49 rfl 2 rfl ?_
            refine z_iconst (v := 0) C dX4_readSlope_50 (by decide) ?_
            refine z_iconst (v := 0) C dX4_readSlope_51 (by decide) ?_
            refine z_bipush (v := 9) C dX4_readSlope_52 (by decide) ?_
            refine z_chk (fun hk7 => ?_)
            refine z_cVV [.int 0, .int 0, .int 9] [] C mv_RX4_93 (fun r0 m0 h0 => M_X4_check _ _ _ _ _ _ _ _ _ h0) rfl rfl ⟨by rw [hrm]; exact Nat.le_of_ble_eq_true rfl, by rw [hrm]; exact Nat.le_of_ble_eq_true rfl⟩ ⟨by rw [hrm]; exact Nat.le_of_ble_eq_true rfl, by rw [hrm]; exact Nat.le_of_ble_eq_true rfl⟩ rfl hk7 rfl rfl rfl (Nat.le_of_ble_eq_true rfl) dX4_readSlope_54 (fun r7 m7 => ?_)
            refine z_aload_n C dX4_readSlope_57 rfl 2 rfl ?_
            refine z_iconst (v := 1) C dX4_readSlope_58 (by decide) ?_
            refine z_iconst (v := 0) C dX4_readSlope_59 (by decide) ?_
            refine z_bipush (v := 9) C dX4_readSlope_60 (by decide) ?_
            refine z_chk (fun hk8 => ?_)
            refine z_cVV [.int 1, .int 0, .int 9] [] C mv_RX4_93 (fun r0 m0 h0 => M_X4_check _ _ _ _ _ _ _ _ _ h0) rfl rfl ⟨by rw [hrm]; exact Nat.le_of_ble_eq_true rfl, by rw [hrm]; exact Nat.le_of_ble_eq_true rfl⟩ ⟨by rw [hrm]; exact Nat.le_of_ble_eq_true rfl, by rw [hrm]; exact Nat.le_of_ble_eq_true rfl⟩ rfl hk8 rfl rfl rfl (Nat.le_of_ble_eq_true rfl) dX4_readSlope_62 (fun r8 m8 => ?_)
            refine z_aload_n C dX4_readSlope_65 rfl 2 rfl ?_
            refine z_chk (fun hk9 => ?_)
            refine z_getI C fl_RX4_42 rfl hk9 dX4_readSlope_66 ?_
            refine z_if_ne (tgt := 100) C dX4_readSlope_69 (by decide) (fun c6 => ?_) (fun c6 => ?_)
            · exact z_vret C hr dX4_readSlope_100
            · refine z_aload_n C dX4_readSlope_72 rfl 2 rfl ?_
              refine z_getR C fl_RX4_12 rfl hk9 dX4_readSlope_73 ?_
              refine z_iload_n C dX4_readSlope_76 rfl 1 rfl ?_
              refine z_aload_n C dX4_readSlope_77 rfl 2 rfl ?_
              refine z_iconst (v := 0) C dX4_readSlope_78 (by decide) ?_
              refine z_cVI [.int 0] [.int r2, va_rf (m8.R 500 th 0)] C mv_RX4_97 (fun r0 m0 h0 => M_X4_number _ _ _ _ _ _ _ h0) rfl rfl ⟨by rw [hrm]; exact Nat.le_of_ble_eq_true rfl, by rw [hrm]; exact Nat.le_of_ble_eq_true rfl⟩ ⟨by rw [hrm]; exact Nat.le_of_ble_eq_true rfl, by rw [hrm]; exact Nat.le_of_ble_eq_true rfl⟩ rfl hk9 rfl rfl rfl (by simp [cat_rf, cat_i, cat_l, cat_a]) dX4_readSlope_79 (fun r9 m9 => ?_)
              refine z_imul C dX4_readSlope_82 ?_
              refine z_ck (fun a1 hr1 hk10 => ?_)
              refine z_putI C fl_RX4_205 (fun h => by cases h) hr1 hk10 rfl rfl dX4_readSlope_83 (fun m10 eK1 eN1 => ?_)
              refine z_aload_n C dX4_readSlope_86 rfl 2 rfl ?_
              refine z_chk (fun hk11 => ?_)
              refine z_getR C fl_RX4_12 rfl hk11 dX4_readSlope_87 ?_
              refine z_iload_n C dX4_readSlope_90 rfl 0 rfl ?_
              refine z_aload_n C dX4_readSlope_91 rfl 2 rfl ?_
              refine z_iconst (v := 1) C dX4_readSlope_92 (by decide) ?_
              refine z_cVI [.int 1] [.int r4, va_rf (m10.R 500 th 0)] C mv_RX4_97 (fun r0 m0 h0 => M_X4_number _ _ _ _ _ _ _ h0) rfl rfl ⟨by rw [hrm]; exact Nat.le_of_ble_eq_true rfl, by rw [hrm]; exact Nat.le_of_ble_eq_true rfl⟩ ⟨by rw [hrm]; exact Nat.le_of_ble_eq_true rfl, by rw [hrm]; exact Nat.le_of_ble_eq_true rfl⟩ rfl hk11 rfl rfl rfl (by simp [cat_rf, cat_i, cat_l, cat_a]) dX4_readSlope_93 (fun r10 m11 => ?_)
              refine z_imul C dX4_readSlope_96 ?_
              refine z_ck (fun a2 hr2 hk12 => ?_)
              refine z_putI C fl_RX4_208 (fun h => by cases h) hr2 hk12 rfl rfl dX4_readSlope_97 (fun m12 eK2 eN2 => ?_)
              exact z_vret C hr dX4_readSlope_100
          · exact z_vret C hr dX4_readSlope_48
    · exact z_vret C hr dX4_readSlope_22
def f_X4_readSlope (th : Nat) (m : MM) : Option (Unit × MM) := g_X4_readSlope_0 th m
theorem M_X4_readSlope (l : Launch) (E : EX) (th : Nat) (m : MM) (r : Unit) (m2 : MM) (h : f_X4_readSlope th m = some (r, m2)) : Met l yX4_readSlope (.code yX4_readSlope cX4_readSlope 3 none :: TB) rmX4_readSlope (va_Pc [.ref th] (St E m)) (QR E (emV r) m2) 0 0 (AA E) :=
  met_of (em := emV) (plainFor_of_name rfl) (Nat.le_of_ble_eq_true rfl) (L0 := [(0, va_rf (some th))]) rfl (fun Γ _ hrm C hr hn => s_X4_readSlope_0 C hr hrm th m) h

theorem dX4_readLeave_0 : decode cX4_readLeave 0 = .ok (.aload_n 0, 1) := by decide +kernel
theorem dX4_readLeave_1 : decode cX4_readLeave 1 = .ok (.invokevirtual 76, 3) := by decide +kernel
theorem dX4_readLeave_4 : decode cX4_readLeave 4 = .ok (.aload_n 0, 1) := by decide +kernel
theorem dX4_readLeave_5 : decode cX4_readLeave 5 = .ok (.iconst 0, 1) := by decide +kernel
theorem dX4_readLeave_6 : decode cX4_readLeave 6 = .ok (.iconst 3, 1) := by decide +kernel
theorem dX4_readLeave_7 : decode cX4_readLeave 7 = .ok (.invokevirtual 85, 3) := by decide +kernel
theorem dX4_readLeave_10 : decode cX4_readLeave 10 = .ok (.ifCond .eq 10, 3) := by decide +kernel
theorem dX4_readLeave_13 : decode cX4_readLeave 13 = .ok (.aload_n 0, 1) := by decide +kernel
theorem dX4_readLeave_14 : decode cX4_readLeave 14 = .ok (.invokevirtual 89, 3) := by decide +kernel
theorem dX4_readLeave_17 : decode cX4_readLeave 17 = .ok (.ifCond .ne 4, 3) := by decide +kernel
theorem dX4_readLeave_20 : decode cX4_readLeave 20 = .ok (.return_, 1) := by decide +kernel
theorem dX4_readLeave_21 : decode cX4_readLeave 21 = .ok (.aload_n 0, 1) := by decide +kernel
theorem dX4_readLeave_22 : decode cX4_readLeave 22 = .ok (.aload_n 0, 1) := by decide +kernel
theorem dX4_readLeave_23 : decode cX4_readLeave 23 = .ok (.getfield 12, 3) := by decide +kernel
theorem dX4_readLeave_26 : decode cX4_readLeave 26 = .ok (.getfield 215, 3) := by decide +kernel
theorem dX4_readLeave_29 : decode cX4_readLeave 29 = .ok (.iload_n 1, 1) := by decide +kernel
theorem dX4_readLeave_30 : decode cX4_readLeave 30 = .ok (.invokevirtual 169, 3) := by decide +kernel
theorem dX4_readLeave_33 : decode cX4_readLeave 33 = .ok (.aload_n 0, 1) := by decide +kernel
theorem dX4_readLeave_34 : decode cX4_readLeave 34 = .ok (.iconst 0, 1) := by decide +kernel
theorem dX4_readLeave_35 : decode cX4_readLeave 35 = .ok (.iconst 0, 1) := by decide +kernel
theorem dX4_readLeave_36 : decode cX4_readLeave 36 = .ok (.bipush 7, 2) := by decide +kernel
theorem dX4_readLeave_38 : decode cX4_readLeave 38 = .ok (.invokevirtual 93, 3) := by decide +kernel
theorem dX4_readLeave_41 : decode cX4_readLeave 41 = .ok (.aload_n 0, 1) := by decide +kernel
theorem dX4_readLeave_42 : decode cX4_readLeave 42 = .ok (.iconst 1, 1) := by decide +kernel
theorem dX4_readLeave_43 : decode cX4_readLeave 43 = .ok (.iconst 0, 1) := by decide +kernel
theorem dX4_readLeave_44 : decode cX4_readLeave 44 = .ok (.bipush 7, 2) := by decide +kernel
theorem dX4_readLeave_46 : decode cX4_readLeave 46 = .ok (.invokevirtual 93, 3) := by decide +kernel
theorem dX4_readLeave_49 : decode cX4_readLeave 49 = .ok (.aload_n 0, 1) := by decide +kernel
theorem dX4_readLeave_50 : decode cX4_readLeave 50 = .ok (.iconst 2, 1) := by decide +kernel
theorem dX4_readLeave_51 : decode cX4_readLeave 51 = .ok (.iconst 0, 1) := by decide +kernel
theorem dX4_readLeave_52 : decode cX4_readLeave 52 = .ok (.sipush 999, 3) := by decide +kernel
theorem dX4_readLeave_55 : decode cX4_readLeave 55 = .ok (.invokevirtual 93, 3) := by decide +kernel
theorem dX4_readLeave_58 : decode cX4_readLeave 58 = .ok (.aload_n 0, 1) := by decide +kernel
theorem dX4_readLeave_59 : decode cX4_readLeave 59 = .ok (.aload_n 0, 1) := by decide +kernel
theorem dX4_readLeave_60 : decode cX4_readLeave 60 = .ok (.getfield 12, 3) := by decide +kernel
theorem dX4_readLeave_63 : decode cX4_readLeave 63 = .ok (.getfield 215, 3) := by decide +kernel
theorem dX4_readLeave_66 : decode cX4_readLeave 66 = .ok (.iconst 3, 1) := by decide +kernel
theorem dX4_readLeave_67 : decode cX4_readLeave 67 = .ok (.invokevirtual 196, 3) := by decide +kernel
theorem dX4_readLeave_70 : decode cX4_readLeave 70 = .ok (.return_, 1) := by decide +kernel
def rmX4_readLeave : Room := { frames := 3, cells := 0, slots := 0, locals := 65 }
set_option maxRecDepth 100000 in
def g_X4_readLeave_0 (th : Nat) (p1 : Int32) (m : MM) : Option (Unit × MM) :=
  chk (m.K th = 5) (cal (f_X4_step th m) (fun r1 m1 => chk (m1.K th = 5) (cal (f_X4_readNumbers th 0 3 m1) (fun r2 m2 => if r2 = 0 then (some ((), m2)) else (chk (m2.K th = 5) (cal (f_X4_readStop th m2) (fun r3 m3 => if r3 = 0 then (some ((), m3)) else (chk (m3.K th = 5) (ck m3 (m3.R 500 th 0) 9 (fun a1 => cal (f_X4_checkPlaceFor th (m3.R 907 a1 0) p1 m3) (fun r4 m4 => chk (m4.K th = 5) (cal (f_X4_check th 0 0 7 m4) (fun r5 m5 => chk (m5.K th = 5) (cal (f_X4_check th 1 0 7 m5) (fun r6 m6 => chk (m6.K th = 5) (cal (f_X4_check th 2 0 999 m6) (fun r7 m7 => chk (m7.K th = 5) (ck m7 (m7.R 500 th 0) 9 (fun a2 => cal (f_X4_keep th (m7.R 907 a2 0) 3 m7) (fun r8 m8 => some ((), m8)))))))))))))))))))))
set_option maxHeartbeats 4000000 in
set_option maxRecDepth 100000 in
theorem s_X4_readLeave_0 {Γ : GX} {E : EX} (C : Cx Γ E cX4_readLeave RX4 2) (hr : Γ.meth.sig.returnType = none) (hrm : Γ.rm = rmX4_readLeave) (th : Nat) (p1 : Int32) (m : MM) : Sm (QM Γ E emV 0 0) Γ E 2 0 0 0 [(0, va_rf (some th)), (1, .int p1)] [] m (g_X4_readLeave_0 th p1 m) := by
  unfold g_X4_readLeave_0
  refine z_aload_n C dX4_readLeave_0 rfl 0 rfl ?_
  refine z_chk (fun hk1 => ?_)
  refine z_cVV [] [] C mv_RX4_76 (fun r0 m0 h0 => M_X4_step _ _ _ _ _ _ h0) rfl rfl ⟨by rw [hrm]; exact Nat.le_of_ble_eq_true rfl, by rw [hrm]; exact Nat.le_of_ble_eq_true rfl⟩ ⟨by rw [hrm]; exact Nat.le_of_ble_eq_true rfl, by rw [hrm]; exact Nat.le_of_ble_eq_true rfl⟩ rfl hk1 rfl rfl rfl (Nat.le_of_ble_eq_true rfl) dX4_readLeave_1 (fun r1 m1 => ?_)
  refine z_aload_n C dX4_readLeave_4 rfl 0 rfl ?_
  refine z_iconst (v := 0) C dX4_readLeave_5 (by decide) ?_
  refine z_iconst (v := 3) C dX4_readLeave_6 (by decide) ?_
  refine z_chk (fun hk2 => ?_)
  refine z_cVI [.int 0, .int 3] [] C mv_RX4_85 (fun r0 m0 h0 => M_X4_readNumbers _ _ _ _ _ _ _ _ h0) rfl rfl ⟨by rw [hrm]; exact Nat.le_of_ble_eq_true rfl, by rw [hrm]; exact Nat.le_of_ble_eq_true rfl⟩ ⟨by rw [hrm]; exact Nat.le_of_ble_eq_true rfl, by rw [hrm]; exact Nat.le_of_ble_eq_true rfl⟩ rfl hk2 rfl rfl rfl (Nat.le_of_ble_eq_true rfl) dX4_readLeave_7 (fun r2 m2 => ?_)
  refine z_if_eq (tgt := 20) C dX4_readLeave_10 (by decide) (fun c1 => ?_) (fun c1 => ?_)
  · exact z_vret C hr dX4_readLeave_20
  · refine z_aload_n C dX4_readLeave_13 rfl 0 rfl ?_
    refine z_chk (fun hk3 => ?_)
    refine z_cVI [] [] C mv_RX4_89 (fun r0 m0 h0 => M_X4_readStop _ _ _ _ _ _ h0) rfl rfl ⟨by rw [hrm]; exact Nat.le_of_ble_eq_true rfl, by rw [hrm]; exact Nat.le_of_ble_eq_true rfl⟩ ⟨by rw [hrm]; exact Nat.le_of_ble_eq_true rfl, by rw [hrm]; exact Nat.le_of_ble_eq_true rfl⟩ rfl hk3 rfl rfl rfl (Nat.le_of_ble_eq_true rfl) dX4_readLeave_14 (fun r3 m3 => ?_)
    refine z_if_ne (tgt := 21) C dX4_readLeave_17 (by decide) (fun c2 => ?_) (fun c2 => ?_)
    · refine z_aload_n C dX4_readLeave_21 rfl 0 rfl ?_
      refine z_aload_n C dX4_readLeave_22 rfl 0 rfl ?_
      refine z_chk (fun hk4 => ?_)
      refine z_getR C fl_RX4_12 rfl hk4 dX4_readLeave_23 ?_
      refine z_ck (fun a1 hr1 hk5 => ?_)
      refine z_getR C fl_RX4_215 hr1 hk5 dX4_readLeave_26 ?_
      refine z_iload_n C dX4_readLeave_29 rfl 1 rfl ?_
      refine z_cVV [va_rf (m3.R 907 a1 0), .int p1] [] C mv_RX4_169 (fun r0 m0 h0 => M_X4_checkPlaceFor _ _ _ _ _ _ _ _ h0) rfl rfl ⟨by rw [hrm]; exact Nat.le_of_ble_eq_true rfl, by rw [hrm]; exact Nat.le_of_ble_eq_true rfl⟩ ⟨by rw [hrm]; exact Nat.le_of_ble_eq_true rfl, by rw [hrm]; exact Nat.le_of_ble_eq_true rfl⟩ rfl hk4 rfl rfl rfl (Nat.le_of_ble_eq_true rfl) dX4_readLeave_30 (fun r4 m4 => ?_)
      refine z_aload_n C dX4_readLeave_33 rfl 0 rfl ?_
      refine z_iconst (v := 0) C dX4_readLeave_34 (by decide) ?_
      refine z_iconst (v := 0) C dX4_readLeave_35 (by decide) ?_
      refine z_bipush (v := 7) C dX4_readLeave_36 (by decide) ?_
      refine z_chk (fun hk6 => ?_)
      refine z_cVV [.int 0, .int 0, .int 7] [] C mv_RX4_93 (fun r0 m0 h0 => M_X4_check _ _ _ _ _ _ _ _ _ h0) rfl rfl ⟨by rw [hrm]; exact Nat.le_of_ble_eq_true rfl, by rw [hrm]; exact Nat.le_of_ble_eq_true rfl⟩ ⟨by rw [hrm]; exact Nat.le_of_ble_eq_true rfl, by rw [hrm]; exact Nat.le_of_ble_eq_true rfl⟩ rfl hk6 rfl rfl rfl (Nat.le_of_ble_eq_true rfl) dX4_readLeave_38 (fun r5 m5 => ?_)
      refine z_aload_n C dX4_readLeave_41 rfl 0 rfl ?_
      refine z_iconst (v := 1) C dX4_readLeave_42 (by decide) ?_
      refine z_iconst (v := 0) C dX4_readLeave_43 (by decide) ?_
      refine z_bipush (v := 7) C dX4_readLeave_44 (by decide) ?_
      refine z_chk (fun hk7 => ?_)
      refine z_cVV [.int 1, .int 0, .int 7] [] C mv_RX4_93 (fun r0 m0 h0 => M_X4_check _ _ _ _ _ _ _ _ _ h0) rfl rfl ⟨by rw [hrm]; exact Nat.le_of_ble_eq_true rfl, by rw [hrm]; exact Nat.le_of_ble_eq_true rfl⟩ ⟨by rw [hrm]; exact Nat.le_of_ble_eq_true rfl, by rw [hrm]; exact Nat.le_of_ble_eq_true rfl⟩ rfl hk7 rfl rfl rfl (Nat.le_of_ble_eq_true rfl) dX4_readLeave_46 (fun r6 m6 => ?_)
      refine z_aload_n C dX4_readLeave_49 rfl 0 rfl ?_
      refine z_iconst (v := 2) C dX4_readLeave_50 (by decide) ?_
      refine z_iconst (v := 0) C dX4_readLeave_51 (by decide) ?_
      refine z_sipush (v := 999) C dX4_readLeave_52 (by decide) ?_
      refine z_chk (fun hk8 => ?_)
      refine z_cVV [.int 2, .int 0, .int 999] [] C mv_RX4_93 (fun r0 m0 h0 => M_X4_check _ _ _ _ _ _ _ _ _ h0) rfl rfl ⟨by rw [hrm]; exact Nat.le_of_ble_eq_true rfl, by rw [hrm]; exact Nat.le_of_ble_eq_true rfl⟩ ⟨by rw [hrm]; exact Nat.le_of_ble_eq_true rfl, by rw [hrm]; exact Nat.le_of_ble_eq_true rfl⟩ rfl hk8 rfl rfl rfl (Nat.le_of_ble_eq_true rfl) dX4_readLeave_55 (fun r7 m7 => ?_)
      refine z_aload_n C dX4_readLeave_58 rfl 0 rfl ?_
      refine z_aload_n C dX4_readLeave_59 rfl 0 rfl ?_
      refine z_chk (fun hk9 => ?_)
      refine z_getR C fl_RX4_12 rfl hk9 dX4_readLeave_60 ?_
      refine z_ck (fun a2 hr2 hk10 => ?_)
      refine z_getR C fl_RX4_215 hr2 hk10 dX4_readLeave_63 ?_
      refine z_iconst (v := 3) C dX4_readLeave_66 (by decide) ?_
      refine z_cVV [va_rf (m7.R 907 a2 0), .int 3] [] C mv_RX4_196 (fun r0 m0 h0 => M_X4_keep _ _ _ _ _ _ _ _ h0) rfl rfl ⟨by rw [hrm]; exact Nat.le_of_ble_eq_true rfl, by rw [hrm]; exact Nat.le_of_ble_eq_true rfl⟩ ⟨by rw [hrm]; exact Nat.le_of_ble_eq_true rfl, by rw [hrm]; exact Nat.le_of_ble_eq_true rfl⟩ rfl hk9 rfl rfl rfl (Nat.le_of_ble_eq_true rfl) dX4_readLeave_67 (fun r8 m8 => ?_)
      exact z_vret C hr dX4_readLeave_70
    · exact z_vret C hr dX4_readLeave_20
def f_X4_readLeave (th : Nat) (p1 : Int32) (m : MM) : Option (Unit × MM) := g_X4_readLeave_0 th p1 m
theorem M_X4_readLeave (l : Launch) (E : EX) (th : Nat) (p1 : Int32) (m : MM) (r : Unit) (m2 : MM) (h : f_X4_readLeave th p1 m = some (r, m2)) : Met l yX4_readLeave (.code yX4_readLeave cX4_readLeave 2 none :: TB) rmX4_readLeave (va_Pc [.ref th, .int p1] (St E m)) (QR E (emV r) m2) 0 0 (AA E) :=
  met_of (em := emV) (plainFor_of_name rfl) (Nat.le_of_ble_eq_true rfl) (L0 := [(0, va_rf (some th)), (1, .int p1)]) rfl (fun Γ _ hrm C hr hn => s_X4_readLeave_0 C hr hrm th p1 m) h

theorem dX4_readObjection_0 : decode cX4_readObjection 0 = .ok (.aload_n 0, 1) := by decide +kernel
theorem dX4_readObjection_1 : decode cX4_readObjection 1 = .ok (.invokevirtual 76, 3) := by decide +kernel
theorem dX4_readObjection_4 : decode cX4_readObjection 4 = .ok (.aload_n 0, 1) := by decide +kernel
theorem dX4_readObjection_5 : decode cX4_readObjection 5 = .ok (.iconst 0, 1) := by decide +kernel
theorem dX4_readObjection_6 : decode cX4_readObjection 6 = .ok (.iconst 3, 1) := by decide +kernel
theorem dX4_readObjection_7 : decode cX4_readObjection 7 = .ok (.invokevirtual 85, 3) := by decide +kernel
theorem dX4_readObjection_10 : decode cX4_readObjection 10 = .ok (.ifCond .eq 10, 3) := by decide +kernel
theorem dX4_readObjection_13 : decode cX4_readObjection 13 = .ok (.aload_n 0, 1) := by decide +kernel
theorem dX4_readObjection_14 : decode cX4_readObjection 14 = .ok (.invokevirtual 89, 3) := by decide +kernel
theorem dX4_readObjection_17 : decode cX4_readObjection 17 = .ok (.ifCond .ne 4, 3) := by decide +kernel
theorem dX4_readObjection_20 : decode cX4_readObjection 20 = .ok (.return_, 1) := by decide +kernel
theorem dX4_readObjection_21 : decode cX4_readObjection 21 = .ok (.aload_n 0, 1) := by decide +kernel
theorem dX4_readObjection_22 : decode cX4_readObjection 22 = .ok (.aload_n 0, 1) := by decide +kernel
theorem dX4_readObjection_23 : decode cX4_readObjection 23 = .ok (.getfield 12, 3) := by decide +kernel
theorem dX4_readObjection_26 : decode cX4_readObjection 26 = .ok (.getfield 218, 3) := by decide +kernel
theorem dX4_readObjection_29 : decode cX4_readObjection 29 = .ok (.iload_n 1, 1) := by decide +kernel
theorem dX4_readObjection_30 : decode cX4_readObjection 30 = .ok (.invokevirtual 169, 3) := by decide +kernel
theorem dX4_readObjection_33 : decode cX4_readObjection 33 = .ok (.aload_n 0, 1) := by decide +kernel
theorem dX4_readObjection_34 : decode cX4_readObjection 34 = .ok (.iconst 0, 1) := by decide +kernel
theorem dX4_readObjection_35 : decode cX4_readObjection 35 = .ok (.iconst 0, 1) := by decide +kernel
theorem dX4_readObjection_36 : decode cX4_readObjection 36 = .ok (.aload_n 0, 1) := by decide +kernel
theorem dX4_readObjection_37 : decode cX4_readObjection 37 = .ok (.getfield 12, 3) := by decide +kernel
theorem dX4_readObjection_40 : decode cX4_readObjection 40 = .ok (.getfield 166, 3) := by decide +kernel
theorem dX4_readObjection_43 : decode cX4_readObjection 43 = .ok (.getfield 221, 3) := by decide +kernel
theorem dX4_readObjection_46 : decode cX4_readObjection 46 = .ok (.iconst 1, 1) := by decide +kernel
theorem dX4_readObjection_47 : decode cX4_readObjection 47 = .ok (.isub, 1) := by decide +kernel
theorem dX4_readObjection_48 : decode cX4_readObjection 48 = .ok (.invokevirtual 93, 3) := by decide +kernel
theorem dX4_readObjection_51 : decode cX4_readObjection 51 = .ok (.aload_n 0, 1) := by decide +kernel
theorem dX4_readObjection_52 : decode cX4_readObjection 52 = .ok (.iconst 1, 1) := by decide +kernel
theorem dX4_readObjection_53 : decode cX4_readObjection 53 = .ok (.iconst 0, 1) := by decide +kernel
theorem dX4_readObjection_54 : decode cX4_readObjection 54 = .ok (.aload_n 0, 1) := by decide +kernel
theorem dX4_readObjection_55 : decode cX4_readObjection 55 = .ok (.getfield 12, 3) := by decide +kernel
theorem dX4_readObjection_58 : decode cX4_readObjection 58 = .ok (.getfield 166, 3) := by decide +kernel
theorem dX4_readObjection_61 : decode cX4_readObjection 61 = .ok (.getfield 221, 3) := by decide +kernel
theorem dX4_readObjection_64 : decode cX4_readObjection 64 = .ok (.iconst 1, 1) := by decide +kernel
theorem dX4_readObjection_65 : decode cX4_readObjection 65 = .ok (.isub, 1) := by decide +kernel
theorem dX4_readObjection_66 : decode cX4_readObjection 66 = .ok (.invokevirtual 93, 3) := by decide +kernel
theorem dX4_readObjection_69 : decode cX4_readObjection 69 = .ok (.aload_n 0, 1) := by decide +kernel
theorem dX4_readObjection_70 : decode cX4_readObjection 70 = .ok (.iconst 0, 1) := by decide +kernel
theorem dX4_readObjection_71 : decode cX4_readObjection 71 = .ok (.invokevirtual 97, 3) := by decide +kernel
theorem dX4_readObjection_74 : decode cX4_readObjection 74 = .ok (.aload_n 0, 1) := by decide +kernel
theorem dX4_readObjection_75 : decode cX4_readObjection 75 = .ok (.iconst 1, 1) := by decide +kernel
theorem dX4_readObjection_76 : decode cX4_readObjection 76 = .ok (.invokevirtual 97, 3) := by decide +kernel
theorem dX4_readObjection_79 : decode cX4_readObjection 79 = .ok (.if_icmp .ne 13, 3) := by decide +kernel
theorem dX4_readObjection_82 : decode cX4_readObjection 82 = .ok (.aload_n 0, 1) := by decide +kernel
theorem dX4_readObjection_83 : decode cX4_readObjection 83 = .ok (.iconst 2, 1) := by decide +kernel
theorem dX4_readObjection_84 : decode cX4_readObjection 84 = .ok (.aload_n 0, 1) := by decide +kernel
theorem dX4_readObjection_85 : decode cX4_readObjection 85 = .ok (.iconst 1, 1) := by decide +kernel
theorem dX4_readObjection_86 : decode cX4_readObjection 86 = .ok (.invokevirtual 180, 3) := by decide +kernel
theorem dX4_readObjection_89 : decode cX4_readObjection 89 = .ok (.invokevirtual 52, 3) := by decide +kernel
theorem dX4_readObjection_92 : decode cX4_readObjection 92 = .ok (.aload_n 0, 1) := by decide +kernel
theorem dX4_readObjection_93 : decode cX4_readObjection 93 = .ok (.iconst 2, 1) := by decide +kernel
theorem dX4_readObjection_94 : decode cX4_readObjection 94 = .ok (.iconst 0, 1) := by decide +kernel
theorem dX4_readObjection_95 : decode cX4_readObjection 95 = .ok (.sipush 999, 3) := by decide +kernel
theorem dX4_readObjection_98 : decode cX4_readObjection 98 = .ok (.invokevirtual 93, 3) := by decide +kernel
theorem dX4_readObjection_101 : decode cX4_readObjection 101 = .ok (.aload_n 0, 1) := by decide +kernel
theorem dX4_readObjection_102 : decode cX4_readObjection 102 = .ok (.aload_n 0, 1) := by decide +kernel
theorem dX4_readObjection_103 : decode cX4_readObjection 103 = .ok (.getfield 12, 3) := by decide +kernel
theorem dX4_readObjection_106 : decode cX4_readObjection 106 = .ok (.getfield 218, 3) := by decide +kernel
theorem dX4_readObjection_109 : decode cX4_readObjection 109 = .ok (.iconst 3, 1) := by decide +kernel
theorem dX4_readObjection_110 : decode cX4_readObjection 110 = .ok (.invokevirtual 196, 3) := by decide +kernel
theorem dX4_readObjection_113 : decode cX4_readObjection 113 = .ok (.return_, 1) := by decide +kernel
def rmX4_readObjection : Room := { frames := 3, cells := 0, slots := 0, locals := 65 }
set_option maxRecDepth 100000 in
def g_X4_readObjection_92 (th : Nat) (p1 : Int32) (m : MM) : Option (Unit × MM) :=
  chk (m.K th = 5) (cal (f_X4_check th 2 0 999 m) (fun r1 m1 => chk (m1.K th = 5) (ck m1 (m1.R 500 th 0) 9 (fun a1 => cal (f_X4_keep th (m1.R 908 a1 0) 3 m1) (fun r2 m2 => some ((), m2))))))
set_option maxHeartbeats 4000000 in
set_option maxRecDepth 100000 in
theorem s_X4_readObjection_92 {Γ : GX} {E : EX} (C : Cx Γ E cX4_readObjection RX4 2) (hr : Γ.meth.sig.returnType = none) (hrm : Γ.rm = rmX4_readObjection) (th : Nat) (p1 : Int32) (m : MM) : Sm (QM Γ E emV 0 0) Γ E 2 0 0 92 [(0, va_rf (some th)), (1, .int p1)] [] m (g_X4_readObjection_92 th p1 m) := by
  unfold g_X4_readObjection_92
  refine z_aload_n C dX4_readObjection_92 rfl 0 rfl ?_
  refine z_iconst (v := 2) C dX4_readObjection_93 (by decide) ?_
  refine z_iconst (v := 0) C dX4_readObjection_94 (by decide) ?_
  refine z_sipush (v := 999) C dX4_readObjection_95 (by decide) ?_
  refine z_chk (fun hk1 => ?_)
  refine z_cVV [.int 2, .int 0, .int 999] [] C mv_RX4_93 (fun r0 m0 h0 => M_X4_check _ _ _ _ _ _ _ _ _ h0) rfl rfl ⟨by rw [hrm]; exact Nat.le_of_ble_eq_true rfl, by rw [hrm]; exact Nat.le_of_ble_eq_true rfl⟩ ⟨by rw [hrm]; exact Nat.le_of_ble_eq_true rfl, by rw [hrm]; exact Nat.le_of_ble_eq_true rfl⟩ rfl hk1 rfl rfl rfl (Nat.le_of_ble_eq_true rfl) dX4_readObjection_98 (fun r1 m1 => ?_)
  refine z_aload_n C dX4_readObjection_101 rfl 0 rfl ?_
  refine z_aload_n C dX4_readObjection_102 rfl 0 rfl ?_
  refine z_chk (fun hk2 => ?_)
  refine z_getR C fl_RX4_12 rfl hk2 dX4_readObjection_103 ?_
  refine z_ck (fun a1 hr1 hk3 => ?_)
  refine z_getR C fl_RX4_218 hr1 hk3 dX4_readObjection_106 ?_
  refine z_iconst (v := 3) C dX4_readObjection_109 (by decide) ?_
  refine z_cVV [va_rf (m1.R 908 a1 0), .int 3] [] C mv_RX4_196 (fun r0 m0 h0 => M_X4_keep _ _ _ _ _ _ _ _ h0) rfl rfl ⟨by rw [hrm]; exact Nat.le_of_ble_eq_true rfl, by rw [hrm]; exact Nat.le_of_ble_eq_true rfl⟩ ⟨by rw [hrm]; exact Nat.le_of_ble_eq_true rfl, by rw [hrm]; exact Nat.le_of_ble_eq_true rfl⟩ rfl hk2 rfl rfl rfl (Nat.le_of_ble_eq_true rfl) dX4_readObjection_110 (fun r2 m2 => ?_)
  exact z_vret C hr dX4_readObjection_113
set_option maxRecDepth 100000 in
def g_X4_readObjection_0 (th : Nat) (p1 : Int32) (m : MM) : Option (Unit × MM) :=
  chk (m.K th = 5) (cal (f_X4_step th m) (fun r3 m3 => chk (m3.K th = 5) (cal (f_X4_readNumbers th 0 3 m3) (fun r4 m4 => if r4 = 0 then (some ((), m4)) else (chk (m4.K th = 5) (cal (f_X4_readStop th m4) (fun r5 m5 => if r5 = 0 then (some ((), m5)) else (chk (m5.K th = 5) (ck m5 (m5.R 500 th 0) 9 (fun a2 => cal (f_X4_checkPlaceFor th (m5.R 908 a2 0) p1 m5) (fun r6 m6 => chk (m6.K th = 5) (ck m6 (m6.R 500 th 0) 9 (fun a3 => ck m6 (m6.R 904 a3 0) 7 (fun a4 => cal (f_X4_check th 0 0 ((m6.I 703 a4 0) - 1) m6) (fun r7 m7 => chk (m7.K th = 5) (ck m7 (m7.R 500 th 0) 9 (fun a5 => ck m7 (m7.R 904 a5 0) 7 (fun a6 => cal (f_X4_check th 1 0 ((m7.I 703 a6 0) - 1) m7) (fun r8 m8 => chk (m8.K th = 5) (cal (f_X4_number th 0 m8) (fun r9 m9 => chk (m9.K th = 5) (cal (f_X4_number th 1 m9) (fun r10 m10 => if r9 = r10 then (chk (m10.K th = 5) (cal (f_X4_placeOf th 1 m10) (fun r11 m11 => chk (m11.K th = 5) (cal (f_X4_note th 2 r11 m11) (fun r12 m12 => g_X4_readObjection_92 th p1 m12))))) else (g_X4_readObjection_92 th p1 m10))))))))))))))))))))))))
set_option maxHeartbeats 4000000 in
set_option maxRecDepth 100000 in
theorem s_X4_readObjection_0 {Γ : GX} {E : EX} (C : Cx Γ E cX4_readObjection RX4 2) (hr : Γ.meth.sig.returnType = none) (hrm : Γ.rm = rmX4_readObjection) (th : Nat) (p1 : Int32) (m : MM) : Sm (QM Γ E emV 0 0) Γ E 2 0 0 0 [(0, va_rf (some th)), (1, .int p1)] [] m (g_X4_readObjection_0 th p1 m) := by
  unfold g_X4_readObjection_0
  refine z_aload_n C dX4_readObjection_0 rfl 0 rfl ?_
  refine z_chk (fun hk4 => ?_)
  refine z_cVV [] [] C mv_RX4_76 (fun r0 m0 h0 => M_X4_step _ _ _ _ _ _ h0) rfl rfl ⟨by rw [hrm]; exact Nat.le_of_ble_eq_true rfl, by rw [hrm]; exact Nat.le_of_ble_eq_true rfl⟩ ⟨by rw [hrm]; exact Nat.le_of_ble_eq_true rfl, by rw [hrm]; exact Nat.le_of_ble_eq_true rfl⟩ rfl hk4 rfl rfl rfl (Nat.le_of_ble_eq_true rfl) dX4_readObjection_1 (fun r3 m3 => ?_)
  refine z_aload_n C dX4_readObjection_4 rfl 0 rfl ?_
  refine z_iconst (v := 0) C dX4_readObjection_5 (by decide) ?_
  refine z_iconst (v := 3) C dX4_readObjection_6 (by decide) ?_
  refine z_chk (fun hk5 => ?_)
  refine z_cVI [.int 0, .int 3] [] C mv_RX4_85 (fun r0 m0 h0 => M_X4_readNumbers _ _ _ _ _ _ _ _ h0) rfl rfl ⟨by rw [hrm]; exact Nat.le_of_ble_eq_true rfl, by rw [hrm]; exact Nat.le_of_ble_eq_true rfl⟩ ⟨by rw [hrm]; exact Nat.le_of_ble_eq_true rfl, by rw [hrm]; exact Nat.le_of_ble_eq_true rfl⟩ rfl hk5 rfl rfl rfl (Nat.le_of_ble_eq_true rfl) dX4_readObjection_7 (fun r4 m4 => ?_)
  refine z_if_eq (tgt := 20) C dX4_readObjection_10 (by decide) (fun c1 => ?_) (fun c1 => ?_)
  · exact z_vret C hr dX4_readObjection_20
  · refine z_aload_n C dX4_readObjection_13 rfl 0 rfl ?_
    refine z_chk (fun hk6 => ?_)
    refine z_cVI [] [] C mv_RX4_89 (fun r0 m0 h0 => M_X4_readStop _ _ _ _ _ _ h0) rfl rfl ⟨by rw [hrm]; exact Nat.le_of_ble_eq_true rfl, by rw [hrm]; exact Nat.le_of_ble_eq_true rfl⟩ ⟨by rw [hrm]; exact Nat.le_of_ble_eq_true rfl, by rw [hrm]; exact Nat.le_of_ble_eq_true rfl⟩ rfl hk6 rfl rfl rfl (Nat.le_of_ble_eq_true rfl) dX4_readObjection_14 (fun r5 m5 => ?_)
    refine z_if_ne (tgt := 21) C dX4_readObjection_17 (by decide) (fun c2 => ?_) (fun c2 => ?_)
    · refine z_aload_n C dX4_readObjection_21 rfl 0 rfl ?_
      refine z_aload_n C dX4_readObjection_22 rfl 0 rfl ?_
      refine z_chk (fun hk7 => ?_)
      refine z_getR C fl_RX4_12 rfl hk7 dX4_readObjection_23 ?_
      refine z_ck (fun a2 hr2 hk8 => ?_)
      refine z_getR C fl_RX4_218 hr2 hk8 dX4_readObjection_26 ?_
      refine z_iload_n C dX4_readObjection_29 rfl 1 rfl ?_
      refine z_cVV [va_rf (m5.R 908 a2 0), .int p1] [] C mv_RX4_169 (fun r0 m0 h0 => M_X4_checkPlaceFor _ _ _ _ _ _ _ _ h0) rfl rfl ⟨by rw [hrm]; exact Nat.le_of_ble_eq_true rfl, by rw [hrm]; exact Nat.le_of_ble_eq_true rfl⟩ ⟨by rw [hrm]; exact Nat.le_of_ble_eq_true rfl, by rw [hrm]; exact Nat.le_of_ble_eq_true rfl⟩ rfl hk7 rfl rfl rfl (Nat.le_of_ble_eq_true rfl) dX4_readObjection_30 (fun r6 m6 => ?_)
      refine z_aload_n C dX4_readObjection_33 rfl 0 rfl ?_
      refine z_iconst (v := 0) C dX4_readObjection_34 (by decide) ?_
      refine z_iconst (v := 0) C dX4_readObjection_35 (by decide) ?_
      refine z_aload_n C dX4_readObjection_36 rfl 0 rfl ?_
      refine z_chk (fun hk9 => ?_)
      refine z_getR C fl_RX4_12 rfl hk9 dX4_readObjection_37 ?_
      refine z_ck (fun a3 hr3 hk10 => ?_)
      refine z_getR C fl_RX4_166 hr3 hk10 dX4_readObjection_40 ?_
      refine z_ck (fun a4 hr4 hk11 => ?_)
      refine z_getI C fl_RX4_221 hr4 hk11 dX4_readObjection_43 ?_
      refine z_iconst (v := 1) C dX4_readObjection_46 (by decide) ?_
      refine z_isub C dX4_readObjection_47 ?_
      refine z_cVV [.int 0, .int 0, .int ((m6.I 703 a4 0) - 1)] [] C mv_RX4_93 (fun r0 m0 h0 => M_X4_check _ _ _ _ _ _ _ _ _ h0) rfl rfl ⟨by rw [hrm]; exact Nat.le_of_ble_eq_true rfl, by rw [hrm]; exact Nat.le_of_ble_eq_true rfl⟩ ⟨by rw [hrm]; exact Nat.le_of_ble_eq_true rfl, by rw [hrm]; exact Nat.le_of_ble_eq_true rfl⟩ rfl hk9 rfl rfl rfl (Nat.le_of_ble_eq_true rfl) dX4_readObjection_48 (fun r7 m7 => ?_)
      refine z_aload_n C dX4_readObjection_51 rfl 0 rfl ?_
      refine z_iconst (v := 1) C dX4_readObjection_52 (by decide) ?_
      refine z_iconst (v := 0) C dX4_readObjection_53 (by decide) ?_
      refine z_aload_n C dX4_readObjection_54 rfl 0 rfl ?_
      refine z_chk (fun hk12 => ?_)
      refine z_getR C fl_RX4_12 rfl hk12 dX4_readObjection_55 ?_
      refine z_ck (fun a5 hr5 hk13 => ?_)
      refine z_getR C fl_RX4_166 hr5 hk13 dX4_readObjection_58 ?_
      refine z_ck (fun a6 hr6 hk14 => ?_)
      refine z_getI C fl_RX4_221 hr6 hk14 dX4_readObjection_61 ?_
      refine z_iconst (v := 1) C dX4_readObjection_64 (by decide) ?_
      refine z_isub C dX4_readObjection_65 ?_
      refine z_cVV [.int 1, .int 0, .int ((m7.I 703 a6 0) - 1)] [] C mv_RX4_93 (fun r0 m0 h0 => M_X4_check _ _ _ _ _ _ _ _ _ h0) rfl rfl ⟨by rw [hrm]; exact Nat.le_of_ble_eq_true rfl, by rw [hrm]; exact Nat.le_of_ble_eq_true rfl⟩ ⟨by rw [hrm]; exact Nat.le_of_ble_eq_true rfl, by rw [hrm]; exact Nat.le_of_ble_eq_true rfl⟩ rfl hk12 rfl rfl rfl (Nat.le_of_ble_eq_true rfl) dX4_readObjection_66 (fun r8 m8 => ?_)
      refine z_aload_n C dX4_readObjection_69 rfl 0 rfl ?_
      refine z_iconst (v := 0) C dX4_readObjection_70 (by decide) ?_
      refine z_chk (fun hk15 => ?_)
      refine z_cVI [.int 0] [] C mv_RX4_97 (fun r0 m0 h0 => M_X4_number _ _ _ _ _ _ _ h0) rfl rfl ⟨by rw [hrm]; exact Nat.le_of_ble_eq_true rfl, by rw [hrm]; exact Nat.le_of_ble_eq_true rfl⟩ ⟨by rw [hrm]; exact Nat.le_of_ble_eq_true rfl, by rw [hrm]; exact Nat.le_of_ble_eq_true rfl⟩ rfl hk15 rfl rfl rfl (Nat.le_of_ble_eq_true rfl) dX4_readObjection_71 (fun r9 m9 => ?_)
      refine z_aload_n C dX4_readObjection_74 rfl 0 rfl ?_
      refine z_iconst (v := 1) C dX4_readObjection_75 (by decide) ?_
      refine z_chk (fun hk16 => ?_)
      refine z_cVI [.int 1] [.int r9] C mv_RX4_97 (fun r0 m0 h0 => M_X4_number _ _ _ _ _ _ _ h0) rfl rfl ⟨by rw [hrm]; exact Nat.le_of_ble_eq_true rfl, by rw [hrm]; exact Nat.le_of_ble_eq_true rfl⟩ ⟨by rw [hrm]; exact Nat.le_of_ble_eq_true rfl, by rw [hrm]; exact Nat.le_of_ble_eq_true rfl⟩ rfl hk16 rfl rfl rfl (Nat.le_of_ble_eq_true rfl) dX4_readObjection_76 (fun r10 m10 => ?_)
      refine z_icmp_ne (tgt := 92) C dX4_readObjection_79 (by decide) (fun c3 => ?_) (fun c3 => ?_)
      · exact z_sub [0, 1] rfl (s_X4_readObjection_92 C hr hrm th p1 m10)
      · refine z_aload_n C dX4_readObjection_82 rfl 0 rfl ?_
        refine z_iconst (v := 2) C dX4_readObjection_83 (by decide) ?_
        refine z_aload_n C dX4_readObjection_84 rfl 0 rfl ?_
        refine z_iconst (v := 1) C dX4_readObjection_85 (by decide) ?_
        refine z_chk (fun hk17 => ?_)
        refine z_cVI [.int 1] [.int 2, va_rf (some th)] C mv_RX4_180 (fun r0 m0 h0 => M_X4_placeOf _ _ _ _ _ _ _ h0) rfl rfl ⟨by rw [hrm]; exact Nat.le_of_ble_eq_true rfl, by rw [hrm]; exact Nat.le_of_ble_eq_true rfl⟩ ⟨by rw [hrm]; exact Nat.le_of_ble_eq_true rfl, by rw [hrm]; exact Nat.le_of_ble_eq_true rfl⟩ rfl hk17 rfl rfl rfl (Nat.le_of_ble_eq_true rfl) dX4_readObjection_86 (fun r11 m11 => ?_)
        refine z_chk (fun hk18 => ?_)
        refine z_cVV [.int 2, .int r11] [] C mv_RX4_52 (fun r0 m0 h0 => M_X4_note _ _ _ _ _ _ _ _ h0) rfl rfl ⟨by rw [hrm]; exact Nat.le_of_ble_eq_true rfl, by rw [hrm]; exact Nat.le_of_ble_eq_true rfl⟩ ⟨by rw [hrm]; exact Nat.le_of_ble_eq_true rfl, by rw [hrm]; exact Nat.le_of_ble_eq_true rfl⟩ rfl hk18 rfl rfl rfl (Nat.le_of_ble_eq_true rfl) dX4_readObjection_89 (fun r12 m12 => ?_)
        exact z_sub [0, 1] rfl (s_X4_readObjection_92 C hr hrm th p1 m12)
    · exact z_vret C hr dX4_readObjection_20
def f_X4_readObjection (th : Nat) (p1 : Int32) (m : MM) : Option (Unit × MM) := g_X4_readObjection_0 th p1 m
theorem M_X4_readObjection (l : Launch) (E : EX) (th : Nat) (p1 : Int32) (m : MM) (r : Unit) (m2 : MM) (h : f_X4_readObjection th p1 m = some (r, m2)) : Met l yX4_readObjection (.code yX4_readObjection cX4_readObjection 2 none :: TB) rmX4_readObjection (va_Pc [.ref th, .int p1] (St E m)) (QR E (emV r) m2) 0 0 (AA E) :=
  met_of (em := emV) (plainFor_of_name rfl) (Nat.le_of_ble_eq_true rfl) (L0 := [(0, va_rf (some th)), (1, .int p1)]) rfl (fun Γ _ hrm C hr hn => s_X4_readObjection_0 C hr hrm th p1 m) h
