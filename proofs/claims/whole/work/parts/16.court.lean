theorem dX1_init_0 : decode cX1_init 0 = .ok (.aload_n 0, 1) := by decide +kernel
theorem dX1_init_1 : decode cX1_init 1 = .ok (.invokespecial 3, 3) := by decide +kernel
theorem dX1_init_4 : decode cX1_init 4 = .ok (.aload_n 0, 1) := by decide +kernel
theorem dX1_init_5 : decode cX1_init 5 = .ok (.aload_n 1, 1) := by decide +kernel
theorem dX1_init_6 : decode cX1_init 6 = .ok (.putfield 9, 3) := by decide +kernel
theorem dX1_init_9 : decode cX1_init 9 = .ok (.aload_n 0, 1) := by decide +kernel
theorem dX1_init_10 : decode cX1_init 10 = .ok (.sipush 1320, 3) := by decide +kernel
theorem dX1_init_13 : decode cX1_init 13 = .ok (.newarray .int, 2) := by decide +kernel
theorem dX1_init_15 : decode cX1_init 15 = .ok (.putfield 15, 3) := by decide +kernel
theorem dX1_init_18 : decode cX1_init 18 = .ok (.aload_n 0, 1) := by decide +kernel
theorem dX1_init_19 : decode cX1_init 19 = .ok (.bipush 64, 2) := by decide +kernel
theorem dX1_init_21 : decode cX1_init 21 = .ok (.newarray .boolean, 2) := by decide +kernel
theorem dX1_init_23 : decode cX1_init 23 = .ok (.putfield 19, 3) := by decide +kernel
theorem dX1_init_26 : decode cX1_init 26 = .ok (.return_, 1) := by decide +kernel
def rmX1_init : Room := { frames := 1, cells := 2, slots := 1384, locals := 20 }
set_option maxRecDepth 100000 in
def f_X1_init (th : Nat) (p1 : Option Nat) (m : MM) : Option (Unit × MM) :=
  chk (m.K th = 2) (bnd (m.sR 200 th 0 p1) (fun m1 => bnd m1.S (fun a1 => bnd (m1.nw 22 1320) (fun m2 => chk (m2.K th = 2) (bnd (m2.sR 201 th 0 (some a1)) (fun m3 => bnd m3.S (fun a2 => bnd (m3.nw 24 64) (fun m4 => chk (m4.K th = 2) (bnd (m4.sR 202 th 0 (some a2)) (fun m5 => some ((), m5)))))))))))
set_option maxHeartbeats 4000000 in
set_option maxRecDepth 100000 in
theorem s_X1_init_0 {Γ : GX} {E : EX} (C : Cx Γ E cX1_init RX1 2) (hr : Γ.meth.sig.returnType = none) (hrm : Γ.rm = rmX1_init) (hnm : Γ.meth.name = "<init>") (th : Nat) (p1 : Option Nat) (m : MM) : Sm (QM Γ E emV 2 1384) Γ E 2 0 0 0 [(0, va_rf (some th)), (1, va_rf p1)] [] m (f_X1_init th p1 m) := by
  unfold f_X1_init
  refine z_aload_n C dX1_init_0 rfl 0 rfl ?_
  refine z_obj C rfl mo_RX1_3 (by rw [hrm]; exact Nat.le_of_ble_eq_true rfl) (by rw [hrm]; exact Nat.le_of_ble_eq_true rfl) (Nat.le_of_ble_eq_true rfl) dX1_init_1 ?_
  refine z_aload_n C dX1_init_4 rfl 0 rfl ?_
  refine z_aload_n C dX1_init_5 rfl 1 rfl ?_
  refine z_chk (fun hk1 => ?_)
  refine z_putR C fl_RX1_9 (fun _ => ⟨hnm, rfl⟩) rfl hk1 nr_of fr_of dX1_init_6 (fun m1 eK1 eN1 => ?_)
  refine z_aload_n C dX1_init_9 rfl 0 rfl ?_
  refine z_sipush (v := 1320) C dX1_init_10 (by decide) ?_
  refine z_newa2 (at0 := .int) (kd := 22) (N := 1320) C ac_int (by decide) (by decide) rfl (by decide) (by decide) (by decide) (by rw [hrm]; exact Nat.le_of_ble_eq_true rfl) (by rw [hrm]; exact Nat.le_of_ble_eq_true rfl) dX1_init_13 (fun a1 m2 hk2 => ?_)
  refine z_chk (fun hk3 => ?_)
  refine z_putR C fl_RX1_15 (fun _ => ⟨hnm, rfl⟩) rfl hk3 na_of fa_of dX1_init_15 (fun m3 eK2 eN2 => ?_)
  refine z_aload_n C dX1_init_18 rfl 0 rfl ?_
  refine z_bipush (v := 64) C dX1_init_19 (by decide) ?_
  refine z_newa2 (at0 := .boolean) (kd := 24) (N := 64) C ac_boolean (by decide) (by decide) rfl (by decide) (by decide) (by decide) (by rw [hrm]; exact Nat.le_of_ble_eq_true rfl) (by rw [hrm]; exact Nat.le_of_ble_eq_true rfl) dX1_init_21 (fun a2 m4 hk4 => ?_)
  refine z_chk (fun hk5 => ?_)
  refine z_putR C fl_RX1_19 (fun _ => ⟨hnm, rfl⟩) rfl hk5 na_of fa_of dX1_init_23 (fun m5 eK3 eN3 => ?_)
  refine z_wid (k := 2) (n := 1384) (Nat.le_of_ble_eq_true rfl) (Nat.le_of_ble_eq_true rfl) ?_
  exact z_vret C hr dX1_init_26
theorem M_X1_init (l : Launch) (E : EX) (th : Nat) (p1 : Option Nat) (m : MM) (r : Unit) (m2 : MM) (h : f_X1_init th p1 m = some (r, m2)) : Met l yX1_init (.code yX1_init cX1_init 2 none :: TB) rmX1_init (va_Pc [.ref th, va_rf p1] (St E m)) (QR E (emV r) m2) 2 1384 (AA E) :=
  met_of (em := emV) (plainFor_of_name rfl) (by simp [lg_sl, cat_rf, cat_i, cat_l, cat_a]) (L0 := [(0, va_rf (some th)), (1, va_rf p1)]) (by simp [lv_args, cat_rf, cat_i, cat_l, cat_a] <;> rfl) (fun Γ _ hrm C hr hn => s_X1_init_0 C hr hrm hn th p1 m) h

theorem dX1_isEven_0 : decode cX1_isEven 0 = .ok (.aload_n 0, 1) := by decide +kernel
theorem dX1_isEven_1 : decode cX1_isEven 1 = .ok (.iload_n 1, 1) := by decide +kernel
theorem dX1_isEven_2 : decode cX1_isEven 2 = .ok (.iconst 0, 1) := by decide +kernel
theorem dX1_isEven_3 : decode cX1_isEven 3 = .ok (.invokevirtual 62, 3) := by decide +kernel
theorem dX1_isEven_6 : decode cX1_isEven 6 = .ok (.istore_n 2, 1) := by decide +kernel
theorem dX1_isEven_7 : decode cX1_isEven 7 = .ok (.aload_n 0, 1) := by decide +kernel
theorem dX1_isEven_8 : decode cX1_isEven 8 = .ok (.iload_n 1, 1) := by decide +kernel
theorem dX1_isEven_9 : decode cX1_isEven 9 = .ok (.iconst 1, 1) := by decide +kernel
theorem dX1_isEven_10 : decode cX1_isEven 10 = .ok (.invokevirtual 62, 3) := by decide +kernel
theorem dX1_isEven_13 : decode cX1_isEven 13 = .ok (.aload_n 0, 1) := by decide +kernel
theorem dX1_isEven_14 : decode cX1_isEven 14 = .ok (.iload_n 1, 1) := by decide +kernel
theorem dX1_isEven_15 : decode cX1_isEven 15 = .ok (.iconst 2, 1) := by decide +kernel
theorem dX1_isEven_16 : decode cX1_isEven 16 = .ok (.invokevirtual 62, 3) := by decide +kernel
theorem dX1_isEven_19 : decode cX1_isEven 19 = .ok (.if_icmp .ne 7, 3) := by decide +kernel
theorem dX1_isEven_22 : decode cX1_isEven 22 = .ok (.iconst 1, 1) := by decide +kernel
theorem dX1_isEven_23 : decode cX1_isEven 23 = .ok (.goto 4, 3) := by decide +kernel
theorem dX1_isEven_26 : decode cX1_isEven 26 = .ok (.iconst 0, 1) := by decide +kernel
theorem dX1_isEven_27 : decode cX1_isEven 27 = .ok (.istore_n 3, 1) := by decide +kernel
theorem dX1_isEven_28 : decode cX1_isEven 28 = .ok (.iload_n 3, 1) := by decide +kernel
theorem dX1_isEven_29 : decode cX1_isEven 29 = .ok (.ifCond .eq 16, 3) := by decide +kernel
theorem dX1_isEven_32 : decode cX1_isEven 32 = .ok (.iload_n 2, 1) := by decide +kernel
theorem dX1_isEven_33 : decode cX1_isEven 33 = .ok (.ifCond .eq 8, 3) := by decide +kernel
theorem dX1_isEven_36 : decode cX1_isEven 36 = .ok (.iload_n 2, 1) := by decide +kernel
theorem dX1_isEven_37 : decode cX1_isEven 37 = .ok (.iconst 3, 1) := by decide +kernel
theorem dX1_isEven_38 : decode cX1_isEven 38 = .ok (.if_icmp .ne 7, 3) := by decide +kernel
theorem dX1_isEven_41 : decode cX1_isEven 41 = .ok (.iconst 1, 1) := by decide +kernel
theorem dX1_isEven_42 : decode cX1_isEven 42 = .ok (.goto 4, 3) := by decide +kernel
theorem dX1_isEven_45 : decode cX1_isEven 45 = .ok (.iconst 0, 1) := by decide +kernel
theorem dX1_isEven_46 : decode cX1_isEven 46 = .ok (.ireturn, 1) := by decide +kernel
def rmX1_isEven : Room := { frames := 1, cells := 0, slots := 0, locals := 23 }
set_option maxRecDepth 100000 in
def g_X1_isEven_45 (p0 : Option Nat) (p1 : Int32) (m : MM) : Option (Int32 × MM) :=
  some (0, m)
set_option maxHeartbeats 4000000 in
set_option maxRecDepth 100000 in
theorem s_X1_isEven_45 {Γ : GX} {E : EX} (C : Cx Γ E cX1_isEven RX1 4) (hr : Γ.meth.sig.returnType = (some .boolean)) (hrm : Γ.rm = rmX1_isEven) (p0 : Option Nat) (p1 : Int32) (m : MM) : Sm (QM Γ E emI 0 0) Γ E 4 0 0 45 [(0, va_rf p0), (1, .int p1)] [] m (g_X1_isEven_45 p0 p1 m) := by
  unfold g_X1_isEven_45
  refine z_iconst (v := 0) C dX1_isEven_45 (by decide) ?_
  exact z_zret C hr rfl dX1_isEven_46
set_option maxRecDepth 100000 in
def g_X1_isEven_41 (p0 : Option Nat) (p1 : Int32) (m : MM) : Option (Int32 × MM) :=
  some (1, m)
set_option maxHeartbeats 4000000 in
set_option maxRecDepth 100000 in
theorem s_X1_isEven_41 {Γ : GX} {E : EX} (C : Cx Γ E cX1_isEven RX1 4) (hr : Γ.meth.sig.returnType = (some .boolean)) (hrm : Γ.rm = rmX1_isEven) (p0 : Option Nat) (p1 : Int32) (m : MM) : Sm (QM Γ E emI 0 0) Γ E 4 0 0 41 [(0, va_rf p0), (1, .int p1)] [] m (g_X1_isEven_41 p0 p1 m) := by
  unfold g_X1_isEven_41
  refine z_iconst (v := 1) C dX1_isEven_41 (by decide) ?_
  refine z_goto (tgt := 46) C dX1_isEven_42 (by decide) ?_
  exact z_zret C hr rfl dX1_isEven_46
set_option maxRecDepth 100000 in
def g_X1_isEven_27 (p0 : Option Nat) (p1 : Int32) (x2 : Int32) (s0 : Int32) (m : MM) : Option (Int32 × MM) :=
  if s0 = 0 then (g_X1_isEven_45 p0 p1 m) else (if x2 = 0 then (g_X1_isEven_41 p0 p1 m) else (if x2 = 3 then (g_X1_isEven_41 p0 p1 m) else (g_X1_isEven_45 p0 p1 m)))
set_option maxHeartbeats 4000000 in
set_option maxRecDepth 100000 in
theorem s_X1_isEven_27 {Γ : GX} {E : EX} (C : Cx Γ E cX1_isEven RX1 4) (hr : Γ.meth.sig.returnType = (some .boolean)) (hrm : Γ.rm = rmX1_isEven) (p0 : Option Nat) (p1 : Int32) (x2 : Int32) (s0 : Int32) (m : MM) : Sm (QM Γ E emI 0 0) Γ E 4 0 0 27 [(0, va_rf p0), (1, .int p1), (2, .int x2)] [.int s0] m (g_X1_isEven_27 p0 p1 x2 s0 m) := by
  unfold g_X1_isEven_27
  refine z_istore_n (i := 3) (L2 := [(3, .int s0), (0, va_rf p0), (1, .int p1), (2, .int x2)]) C dX1_isEven_27 rfl (by decide) rfl ?_
  refine z_iload_n C dX1_isEven_28 rfl 0 rfl ?_
  refine z_if_eq (tgt := 45) C dX1_isEven_29 (by decide) (fun c1 => ?_) (fun c1 => ?_)
  · exact z_sub [1, 2] rfl (s_X1_isEven_45 C hr hrm p0 p1 m)
  · refine z_iload_n C dX1_isEven_32 rfl 3 rfl ?_
    refine z_if_eq (tgt := 41) C dX1_isEven_33 (by decide) (fun c2 => ?_) (fun c2 => ?_)
    · exact z_sub [1, 2] rfl (s_X1_isEven_41 C hr hrm p0 p1 m)
    · refine z_iload_n C dX1_isEven_36 rfl 3 rfl ?_
      refine z_iconst (v := 3) C dX1_isEven_37 (by decide) ?_
      refine z_icmp_ne (tgt := 45) C dX1_isEven_38 (by decide) (fun c3 => ?_) (fun c3 => ?_)
      · exact z_sub [1, 2] rfl (s_X1_isEven_45 C hr hrm p0 p1 m)
      · exact z_sub [1, 2] rfl (s_X1_isEven_41 C hr hrm p0 p1 m)
set_option maxRecDepth 100000 in
def g_X1_isEven_0 (p0 : Option Nat) (p1 : Int32) (m : MM) : Option (Int32 × MM) :=
  ck m p0 7 (fun a1 => cal (f_X6_cell a1 p1 0 m) (fun r1 m1 => chk (m1.K a1 = 7) (cal (f_X6_cell a1 p1 1 m1) (fun r2 m2 => chk (m2.K a1 = 7) (cal (f_X6_cell a1 p1 2 m2) (fun r3 m3 => if r2 = r3 then (g_X1_isEven_27 p0 p1 r1 1 m3) else (g_X1_isEven_27 p0 p1 r1 0 m3)))))))
set_option maxHeartbeats 4000000 in
set_option maxRecDepth 100000 in
theorem s_X1_isEven_0 {Γ : GX} {E : EX} (C : Cx Γ E cX1_isEven RX1 4) (hr : Γ.meth.sig.returnType = (some .boolean)) (hrm : Γ.rm = rmX1_isEven) (p0 : Option Nat) (p1 : Int32) (m : MM) : Sm (QM Γ E emI 0 0) Γ E 4 0 0 0 [(0, va_rf p0), (1, .int p1)] [] m (g_X1_isEven_0 p0 p1 m) := by
  unfold g_X1_isEven_0
  refine z_aload_n C dX1_isEven_0 rfl 0 rfl ?_
  refine z_iload_n C dX1_isEven_1 rfl 1 rfl ?_
  refine z_iconst (v := 0) C dX1_isEven_2 (by decide) ?_
  refine z_ck (fun a1 hr1 hk1 => ?_)
  refine z_cVI [.int p1, .int 0] [] C mv_RX1_62 (fun r0 m0 h0 => M_X6_cell _ _ _ _ _ _ _ _ h0) rfl rfl ⟨by rw [hrm]; exact Nat.le_of_ble_eq_true rfl, by rw [hrm]; exact Nat.le_of_ble_eq_true rfl⟩ ⟨by rw [hrm]; exact Nat.le_of_ble_eq_true rfl, by rw [hrm]; exact Nat.le_of_ble_eq_true rfl⟩ hr1 hk1 rfl rfl rfl (Nat.le_of_ble_eq_true rfl) dX1_isEven_3 (fun r1 m1 => ?_)
  refine z_istore_n (i := 2) (L2 := [(2, .int r1), (0, va_rf p0), (1, .int p1)]) C dX1_isEven_6 rfl (by decide) rfl ?_
  refine z_aload_n C dX1_isEven_7 rfl 1 rfl ?_
  refine z_iload_n C dX1_isEven_8 rfl 2 rfl ?_
  refine z_iconst (v := 1) C dX1_isEven_9 (by decide) ?_
  refine z_chk (fun hk2 => ?_)
  refine z_cVI [.int p1, .int 1] [] C mv_RX1_62 (fun r0 m0 h0 => M_X6_cell _ _ _ _ _ _ _ _ h0) rfl rfl ⟨by rw [hrm]; exact Nat.le_of_ble_eq_true rfl, by rw [hrm]; exact Nat.le_of_ble_eq_true rfl⟩ ⟨by rw [hrm]; exact Nat.le_of_ble_eq_true rfl, by rw [hrm]; exact Nat.le_of_ble_eq_true rfl⟩ hr1 hk2 rfl rfl rfl (Nat.le_of_ble_eq_true rfl) dX1_isEven_10 (fun r2 m2 => ?_)
  refine z_aload_n C dX1_isEven_13 rfl 1 rfl ?_
  refine z_iload_n C dX1_isEven_14 rfl 2 rfl ?_
  refine z_iconst (v := 2) C dX1_isEven_15 (by decide) ?_
  refine z_chk (fun hk3 => ?_)
  refine z_cVI [.int p1, .int 2] [.int r2] C mv_RX1_62 (fun r0 m0 h0 => M_X6_cell _ _ _ _ _ _ _ _ h0) rfl rfl ⟨by rw [hrm]; exact Nat.le_of_ble_eq_true rfl, by rw [hrm]; exact Nat.le_of_ble_eq_true rfl⟩ ⟨by rw [hrm]; exact Nat.le_of_ble_eq_true rfl, by rw [hrm]; exact Nat.le_of_ble_eq_true rfl⟩ hr1 hk3 rfl rfl rfl (Nat.le_of_ble_eq_true rfl) dX1_isEven_16 (fun r3 m3 => ?_)
  refine z_icmp_ne (tgt := 26) C dX1_isEven_19 (by decide) (fun c4 => ?_) (fun c4 => ?_)
  · refine z_iconst (v := 0) C dX1_isEven_26 (by decide) ?_
    exact z_sub [1, 2, 0] rfl (s_X1_isEven_27 C hr hrm p0 p1 r1 0 m3)
  · refine z_iconst (v := 1) C dX1_isEven_22 (by decide) ?_
    refine z_goto (tgt := 27) C dX1_isEven_23 (by decide) ?_
    exact z_sub [1, 2, 0] rfl (s_X1_isEven_27 C hr hrm p0 p1 r1 1 m3)
def f_X1_isEven (p0 : Option Nat) (p1 : Int32) (m : MM) : Option (Int32 × MM) := g_X1_isEven_0 p0 p1 m
theorem M_X1_isEven (l : Launch) (E : EX) (p0 : Option Nat) (p1 : Int32) (m : MM) (r : Int32) (m2 : MM) (h : f_X1_isEven p0 p1 m = some (r, m2)) : Met l yX1_isEven (.code yX1_isEven cX1_isEven 4 (some .boolean) :: TB) rmX1_isEven (va_Pc [va_rf p0, .int p1] (St E m)) (QR E (emI r) m2) 0 0 (AA E) :=
  met_of (em := emI) (plainFor_of_name rfl) (by simp [lg_sl, cat_rf, cat_i, cat_l, cat_a]) (L0 := [(0, va_rf p0), (1, .int p1)]) (by simp [lv_args, cat_rf, cat_i, cat_l, cat_a] <;> rfl) (fun Γ _ hrm C hr hn => s_X1_isEven_0 C hr hrm p0 p1 m) h

theorem dX1_collectOf_0 : decode cX1_collectOf 0 = .ok (.aload_n 0, 1) := by decide +kernel
theorem dX1_collectOf_1 : decode cX1_collectOf 1 = .ok (.getfield 9, 3) := by decide +kernel
theorem dX1_collectOf_4 : decode cX1_collectOf 4 = .ok (.getfield 37, 3) := by decide +kernel
theorem dX1_collectOf_7 : decode cX1_collectOf 7 = .ok (.astore_n 3, 1) := by decide +kernel
theorem dX1_collectOf_8 : decode cX1_collectOf 8 = .ok (.aload_n 3, 1) := by decide +kernel
theorem dX1_collectOf_9 : decode cX1_collectOf 9 = .ok (.ifnonnull 4, 3) := by decide +kernel
theorem dX1_collectOf_12 : decode cX1_collectOf 12 = .ok (.return_, 1) := by decide +kernel
theorem dX1_collectOf_13 : decode cX1_collectOf 13 = .ok (.iconst 0, 1) := by decide +kernel
theorem dX1_collectOf_14 : decode cX1_collectOf 14 = .ok (.istore 4, 2) := by decide +kernel
theorem dX1_collectOf_16 : decode cX1_collectOf 16 = .ok (.iload 4, 2) := by decide +kernel
theorem dX1_collectOf_18 : decode cX1_collectOf 18 = .ok (.aload_n 3, 1) := by decide +kernel
theorem dX1_collectOf_19 : decode cX1_collectOf 19 = .ok (.getfield 41, 3) := by decide +kernel
theorem dX1_collectOf_22 : decode cX1_collectOf 22 = .ok (.getfield 47, 3) := by decide +kernel
theorem dX1_collectOf_25 : decode cX1_collectOf 25 = .ok (.if_icmp .ge 107, 3) := by decide +kernel
theorem dX1_collectOf_28 : decode cX1_collectOf 28 = .ok (.iload_n 1, 1) := by decide +kernel
theorem dX1_collectOf_29 : decode cX1_collectOf 29 = .ok (.iload_n 2, 1) := by decide +kernel
theorem dX1_collectOf_30 : decode cX1_collectOf 30 = .ok (.if_icmp .le 15, 3) := by decide +kernel
theorem dX1_collectOf_33 : decode cX1_collectOf 33 = .ok (.aload_n 3, 1) := by decide +kernel
theorem dX1_collectOf_34 : decode cX1_collectOf 34 = .ok (.getfield 41, 3) := by decide +kernel
theorem dX1_collectOf_37 : decode cX1_collectOf 37 = .ok (.iload 4, 2) := by decide +kernel
theorem dX1_collectOf_39 : decode cX1_collectOf 39 = .ok (.invokestatic 50, 3) := by decide +kernel
theorem dX1_collectOf_42 : decode cX1_collectOf 42 = .ok (.ifCond .ne 84, 3) := by decide +kernel
theorem dX1_collectOf_45 : decode cX1_collectOf 45 = .ok (.aload_n 0, 1) := by decide +kernel
theorem dX1_collectOf_46 : decode cX1_collectOf 46 = .ok (.getfield 9, 3) := by decide +kernel
theorem dX1_collectOf_49 : decode cX1_collectOf 49 = .ok (.aload_n 0, 1) := by decide +kernel
theorem dX1_collectOf_50 : decode cX1_collectOf 50 = .ok (.getfield 9, 3) := by decide +kernel
theorem dX1_collectOf_53 : decode cX1_collectOf 53 = .ok (.iload_n 1, 1) := by decide +kernel
theorem dX1_collectOf_54 : decode cX1_collectOf 54 = .ok (.invokevirtual 54, 3) := by decide +kernel
theorem dX1_collectOf_57 : decode cX1_collectOf 57 = .ok (.aload_n 0, 1) := by decide +kernel
theorem dX1_collectOf_58 : decode cX1_collectOf 58 = .ok (.getfield 9, 3) := by decide +kernel
theorem dX1_collectOf_61 : decode cX1_collectOf 61 = .ok (.iload_n 2, 1) := by decide +kernel
theorem dX1_collectOf_62 : decode cX1_collectOf 62 = .ok (.invokevirtual 54, 3) := by decide +kernel
theorem dX1_collectOf_65 : decode cX1_collectOf 65 = .ok (.iload 4, 2) := by decide +kernel
theorem dX1_collectOf_67 : decode cX1_collectOf 67 = .ok (.invokevirtual 58, 3) := by decide +kernel
theorem dX1_collectOf_70 : decode cX1_collectOf 70 = .ok (.ifCond .ne 6, 3) := by decide +kernel
theorem dX1_collectOf_73 : decode cX1_collectOf 73 = .ok (.goto 53, 3) := by decide +kernel
theorem dX1_collectOf_76 : decode cX1_collectOf 76 = .ok (.aload_n 0, 1) := by decide +kernel
theorem dX1_collectOf_77 : decode cX1_collectOf 77 = .ok (.getfield 23, 3) := by decide +kernel
theorem dX1_collectOf_80 : decode cX1_collectOf 80 = .ok (.ifCond .lt 46, 3) := by decide +kernel
theorem dX1_collectOf_83 : decode cX1_collectOf 83 = .ok (.aload_n 0, 1) := by decide +kernel
theorem dX1_collectOf_84 : decode cX1_collectOf 84 = .ok (.getfield 23, 3) := by decide +kernel
theorem dX1_collectOf_87 : decode cX1_collectOf 87 = .ok (.aload_n 0, 1) := by decide +kernel
theorem dX1_collectOf_88 : decode cX1_collectOf 88 = .ok (.getfield 15, 3) := by decide +kernel
theorem dX1_collectOf_91 : decode cX1_collectOf 91 = .ok (.arraylength, 1) := by decide +kernel
theorem dX1_collectOf_92 : decode cX1_collectOf 92 = .ok (.if_icmp .ge 34, 3) := by decide +kernel
theorem dX1_collectOf_95 : decode cX1_collectOf 95 = .ok (.aload_n 0, 1) := by decide +kernel
theorem dX1_collectOf_96 : decode cX1_collectOf 96 = .ok (.getfield 15, 3) := by decide +kernel
theorem dX1_collectOf_99 : decode cX1_collectOf 99 = .ok (.aload_n 0, 1) := by decide +kernel
theorem dX1_collectOf_100 : decode cX1_collectOf 100 = .ok (.getfield 23, 3) := by decide +kernel
theorem dX1_collectOf_103 : decode cX1_collectOf 103 = .ok (.iload_n 1, 1) := by decide +kernel
theorem dX1_collectOf_104 : decode cX1_collectOf 104 = .ok (.bipush 12, 2) := by decide +kernel
theorem dX1_collectOf_106 : decode cX1_collectOf 106 = .ok (.imul, 1) := by decide +kernel
theorem dX1_collectOf_107 : decode cX1_collectOf 107 = .ok (.iload_n 2, 1) := by decide +kernel
theorem dX1_collectOf_108 : decode cX1_collectOf 108 = .ok (.iadd, 1) := by decide +kernel
theorem dX1_collectOf_109 : decode cX1_collectOf 109 = .ok (.bipush 10, 2) := by decide +kernel
theorem dX1_collectOf_111 : decode cX1_collectOf 111 = .ok (.imul, 1) := by decide +kernel
theorem dX1_collectOf_112 : decode cX1_collectOf 112 = .ok (.iload 4, 2) := by decide +kernel
theorem dX1_collectOf_114 : decode cX1_collectOf 114 = .ok (.iadd, 1) := by decide +kernel
theorem dX1_collectOf_115 : decode cX1_collectOf 115 = .ok (.iastore, 1) := by decide +kernel
theorem dX1_collectOf_116 : decode cX1_collectOf 116 = .ok (.aload_n 0, 1) := by decide +kernel
theorem dX1_collectOf_117 : decode cX1_collectOf 117 = .ok (.dup, 1) := by decide +kernel
theorem dX1_collectOf_118 : decode cX1_collectOf 118 = .ok (.getfield 23, 3) := by decide +kernel
theorem dX1_collectOf_121 : decode cX1_collectOf 121 = .ok (.iconst 1, 1) := by decide +kernel
theorem dX1_collectOf_122 : decode cX1_collectOf 122 = .ok (.iadd, 1) := by decide +kernel
theorem dX1_collectOf_123 : decode cX1_collectOf 123 = .ok (.putfield 23, 3) := by decide +kernel
theorem dX1_collectOf_126 : decode cX1_collectOf 126 = .ok (.iinc 4 1, 3) := by decide +kernel
theorem dX1_collectOf_129 : decode cX1_collectOf 129 = .ok (.goto (-113), 3) := by decide +kernel
theorem dX1_collectOf_132 : decode cX1_collectOf 132 = .ok (.return_, 1) := by decide +kernel
def rmX1_collectOf : Room := { frames := 3, cells := 0, slots := 0, locals := 95 }
set_option maxRecDepth 100000 in
def g_X1_collectOf_126 (th : Nat) (p1 : Int32) (p2 : Int32) (k16 : Option Nat → Int32 → MM → Option (Unit × MM)) (x3 : Option Nat) (x4 : Int32) (m : MM) : Option (Unit × MM) :=
  k16 x3 (x4 + 1) m
set_option maxHeartbeats 4000000 in
set_option maxRecDepth 100000 in
theorem s_X1_collectOf_126 {Γ : GX} {E : EX} (C : Cx Γ E cX1_collectOf RX1 5) (hr : Γ.meth.sig.returnType = none) (hrm : Γ.rm = rmX1_collectOf) (th : Nat) (p1 : Int32) (p2 : Int32) (k16 : Option Nat → Int32 → MM → Option (Unit × MM)) (h16 : ∀ (x3 : Option Nat) (x4 : Int32) (m : MM), Sm (QM Γ E emV 0 0) Γ E 5 0 0 16 [(0, va_rf (some th)), (1, .int p1), (2, .int p2), (3, va_rf x3), (4, .int x4)] [] m (k16 x3 x4 m)) (x3 : Option Nat) (x4 : Int32) (m : MM) : Sm (QM Γ E emV 0 0) Γ E 5 0 0 126 [(0, va_rf (some th)), (1, .int p1), (2, .int p2), (3, va_rf x3), (4, .int x4)] [] m (g_X1_collectOf_126 th p1 p2 k16 x3 x4 m) := by
  unfold g_X1_collectOf_126
  refine z_iinc (v := 1) (L2 := [(4, .int (x4 + 1)), (0, va_rf (some th)), (1, .int p1), (2, .int p2), (3, va_rf x3)]) C dX1_collectOf_126 4 rfl (by decide) (by decide) (by simp [cat_rf, cat_i, cat_l, cat_a]) ?_
  refine z_goto (tgt := 16) C dX1_collectOf_129 (by decide) ?_
  exact z_sub [1, 2, 3, 4, 0] rfl (h16 x3 (x4 + 1) m)
set_option maxRecDepth 100000 in
def g_X1_collectOf_45 (th : Nat) (p1 : Int32) (p2 : Int32) (k16 : Option Nat → Int32 → MM → Option (Unit × MM)) (x3 : Option Nat) (x4 : Int32) (m : MM) : Option (Unit × MM) :=
  chk (m.K th = 2) (ck m (m.R 200 th 0) 6 (fun a1 => cal (f_X5_body a1 p1 m) (fun r1 m1 => chk (m1.K th = 2) (ck m1 (m1.R 200 th 0) 6 (fun a2 => cal (f_X5_body a2 p2 m1) (fun r2 m2 => chk (m2.K a1 = 6) (cal (f_X5_barsTwo a1 r1 r2 x4 m2) (fun r3 m3 => if r3 = 0 then (g_X1_collectOf_126 th p1 p2 k16 x3 x4 m3) else (chk (m3.K th = 2) (if (m3.I 203 th 0) < 0 then (g_X1_collectOf_126 th p1 p2 k16 x3 x4 m3) else (ck m3 (m3.R 201 th 0) 22 (fun a3 => if (Int32.ofNat (m3.N a3)) ≤ (m3.I 203 th 0) then (g_X1_collectOf_126 th p1 p2 k16 x3 x4 m3) else (chk (inb (m3.I 203 th 0) (m3.N a3) = true) (bnd (m3.sI 22 a3 (Int32.toNatClampNeg (m3.I 203 th 0)) ((((p1 * 12) + p2) * 10) + x4)) (fun m4 => bnd (m4.sI 203 th 0 ((m4.I 203 th 0) + 1)) (fun m5 => g_X1_collectOf_126 th p1 p2 k16 x3 x4 m5))))))))))))))))
set_option maxHeartbeats 4000000 in
set_option maxRecDepth 100000 in
theorem s_X1_collectOf_45 {Γ : GX} {E : EX} (C : Cx Γ E cX1_collectOf RX1 5) (hr : Γ.meth.sig.returnType = none) (hrm : Γ.rm = rmX1_collectOf) (th : Nat) (p1 : Int32) (p2 : Int32) (k16 : Option Nat → Int32 → MM → Option (Unit × MM)) (h16 : ∀ (x3 : Option Nat) (x4 : Int32) (m : MM), Sm (QM Γ E emV 0 0) Γ E 5 0 0 16 [(0, va_rf (some th)), (1, .int p1), (2, .int p2), (3, va_rf x3), (4, .int x4)] [] m (k16 x3 x4 m)) (x3 : Option Nat) (x4 : Int32) (m : MM) : Sm (QM Γ E emV 0 0) Γ E 5 0 0 45 [(0, va_rf (some th)), (1, .int p1), (2, .int p2), (3, va_rf x3), (4, .int x4)] [] m (g_X1_collectOf_45 th p1 p2 k16 x3 x4 m) := by
  unfold g_X1_collectOf_45
  refine z_aload_n C dX1_collectOf_45 rfl 0 rfl ?_
  refine z_chk (fun hk1 => ?_)
  refine z_getR C fl_RX1_9 rfl hk1 dX1_collectOf_46 ?_
  refine z_aload_n C dX1_collectOf_49 rfl 0 rfl ?_
  refine z_getR C fl_RX1_9 rfl hk1 dX1_collectOf_50 ?_
  refine z_iload_n C dX1_collectOf_53 rfl 1 rfl ?_
  refine z_ck (fun a1 hr1 hk2 => ?_)
  refine z_cVR [.int p1] [va_rf (m.R 200 th 0)] C mv_RX1_54 (fun r0 m0 h0 => M_X5_body _ _ _ _ _ _ _ h0) rfl rfl ⟨by rw [hrm]; exact Nat.le_of_ble_eq_true rfl, by rw [hrm]; exact Nat.le_of_ble_eq_true rfl⟩ ⟨by rw [hrm]; exact Nat.le_of_ble_eq_true rfl, by rw [hrm]; exact Nat.le_of_ble_eq_true rfl⟩ hr1 hk2 rfl rfl rfl (by simp [cat_rf, cat_i, cat_l, cat_a]) dX1_collectOf_54 (fun r1 m1 => ?_)
  refine z_aload_n C dX1_collectOf_57 rfl 0 rfl ?_
  refine z_chk (fun hk3 => ?_)
  refine z_getR C fl_RX1_9 rfl hk3 dX1_collectOf_58 ?_
  refine z_iload_n C dX1_collectOf_61 rfl 2 rfl ?_
  refine z_ck (fun a2 hr2 hk4 => ?_)
  refine z_cVR [.int p2] [va_rf r1, va_rf (m.R 200 th 0)] C mv_RX1_54 (fun r0 m0 h0 => M_X5_body _ _ _ _ _ _ _ h0) rfl rfl ⟨by rw [hrm]; exact Nat.le_of_ble_eq_true rfl, by rw [hrm]; exact Nat.le_of_ble_eq_true rfl⟩ ⟨by rw [hrm]; exact Nat.le_of_ble_eq_true rfl, by rw [hrm]; exact Nat.le_of_ble_eq_true rfl⟩ hr2 hk4 rfl rfl rfl (by simp [cat_rf, cat_i, cat_l, cat_a]) dX1_collectOf_62 (fun r2 m2 => ?_)
  refine z_iload C dX1_collectOf_65 4 rfl ?_
  refine z_chk (fun hk5 => ?_)
  refine z_cVI [va_rf r1, va_rf r2, .int x4] [] C mv_RX1_58 (fun r0 m0 h0 => M_X5_barsTwo _ _ _ _ _ _ _ _ _ h0) rfl rfl ⟨by rw [hrm]; exact Nat.le_of_ble_eq_true rfl, by rw [hrm]; exact Nat.le_of_ble_eq_true rfl⟩ ⟨by rw [hrm]; exact Nat.le_of_ble_eq_true rfl, by rw [hrm]; exact Nat.le_of_ble_eq_true rfl⟩ hr1 hk5 rfl rfl rfl (Nat.le_of_ble_eq_true rfl) dX1_collectOf_67 (fun r3 m3 => ?_)
  refine z_if_ne (tgt := 76) C dX1_collectOf_70 (by decide) (fun c1 => ?_) (fun c1 => ?_)
  · refine z_aload_n C dX1_collectOf_76 rfl 0 rfl ?_
    refine z_chk (fun hk6 => ?_)
    refine z_getI C fl_RX1_23 rfl hk6 dX1_collectOf_77 ?_
    refine z_if_lt (tgt := 126) C dX1_collectOf_80 (by decide) (fun c2 => ?_) (fun c2 => ?_)
    · exact z_sub [0, 1, 2, 3, 4] rfl (s_X1_collectOf_126 C hr hrm th p1 p2 k16 h16 x3 x4 m3)
    · refine z_aload_n C dX1_collectOf_83 rfl 0 rfl ?_
      refine z_getI C fl_RX1_23 rfl hk6 dX1_collectOf_84 ?_
      refine z_aload_n C dX1_collectOf_87 rfl 0 rfl ?_
      refine z_getR C fl_RX1_15 rfl hk6 dX1_collectOf_88 ?_
      refine z_ck (fun a3 hr3 hk7 => ?_)
      refine z_alen C hr3 hk7 (by decide) (by decide) dX1_collectOf_91 ?_
      refine z_icmp_ge (tgt := 126) C dX1_collectOf_92 (by decide) (fun c3 => ?_) (fun c3 => ?_)
      · exact z_sub [0, 1, 2, 3, 4] rfl (s_X1_collectOf_126 C hr hrm th p1 p2 k16 h16 x3 x4 m3)
      · refine z_aload_n C dX1_collectOf_95 rfl 0 rfl ?_
        refine z_getR C fl_RX1_15 rfl hk6 dX1_collectOf_96 ?_
        refine z_aload_n C dX1_collectOf_99 rfl 0 rfl ?_
        refine z_getI C fl_RX1_23 rfl hk6 dX1_collectOf_100 ?_
        refine z_iload_n C dX1_collectOf_103 rfl 1 rfl ?_
        refine z_bipush (v := 12) C dX1_collectOf_104 (by decide) ?_
        refine z_imul C dX1_collectOf_106 ?_
        refine z_iload_n C dX1_collectOf_107 rfl 2 rfl ?_
        refine z_iadd C dX1_collectOf_108 ?_
        refine z_bipush (v := 10) C dX1_collectOf_109 (by decide) ?_
        refine z_imul C dX1_collectOf_111 ?_
        refine z_iload C dX1_collectOf_112 4 rfl ?_
        refine z_iadd C dX1_collectOf_114 ?_
        refine z_chk (fun hj1 => ?_)
        refine z_iast C hr3 hk7 hj1 dX1_collectOf_115 (fun m4 eK1 eN1 => ?_)
        refine z_aload_n C dX1_collectOf_116 rfl 0 rfl ?_
        refine z_dup C rfl dX1_collectOf_117 ?_
        refine z_getI C fl_RX1_23 rfl (kfw eK1 hk6) dX1_collectOf_118 ?_
        refine z_iconst (v := 1) C dX1_collectOf_121 (by decide) ?_
        refine z_iadd C dX1_collectOf_122 ?_
        refine z_putI C fl_RX1_23 (fun h => by cases h) rfl (kfw eK1 hk6) rfl rfl dX1_collectOf_123 (fun m5 eK2 eN2 => ?_)
        exact z_sub [0, 1, 2, 3, 4] rfl (s_X1_collectOf_126 C hr hrm th p1 p2 k16 h16 x3 x4 m5)
  · refine z_goto (tgt := 126) C dX1_collectOf_73 (by decide) ?_
    exact z_sub [0, 1, 2, 3, 4] rfl (s_X1_collectOf_126 C hr hrm th p1 p2 k16 h16 x3 x4 m3)
set_option maxRecDepth 100000 in
def g_X1_collectOf_16 (th : Nat) (p1 : Int32) (p2 : Int32) (k16 : Option Nat → Int32 → MM → Option (Unit × MM)) (x3 : Option Nat) (x4 : Int32) (m : MM) : Option (Unit × MM) :=
  ck m x3 3 (fun a4 => ck m (m.R 300 a4 0) 7 (fun a5 => if (m.I 703 a5 0) ≤ x4 then (some ((), m)) else (if p1 ≤ p2 then (g_X1_collectOf_45 th p1 p2 k16 x3 x4 m) else (cal (f_X1_isEven (m.R 300 a4 0) x4 m) (fun r4 m6 => if r4 = 0 then (g_X1_collectOf_45 th p1 p2 k16 x3 x4 m6) else (g_X1_collectOf_126 th p1 p2 k16 x3 x4 m6))))))
set_option maxHeartbeats 4000000 in
set_option maxRecDepth 100000 in
theorem s_X1_collectOf_16 {Γ : GX} {E : EX} (C : Cx Γ E cX1_collectOf RX1 5) (hr : Γ.meth.sig.returnType = none) (hrm : Γ.rm = rmX1_collectOf) (th : Nat) (p1 : Int32) (p2 : Int32) (k16 : Option Nat → Int32 → MM → Option (Unit × MM)) (h16 : ∀ (x3 : Option Nat) (x4 : Int32) (m : MM), Sm (QM Γ E emV 0 0) Γ E 5 0 0 16 [(0, va_rf (some th)), (1, .int p1), (2, .int p2), (3, va_rf x3), (4, .int x4)] [] m (k16 x3 x4 m)) (x3 : Option Nat) (x4 : Int32) (m : MM) : Sm (QM Γ E emV 0 0) Γ E 5 0 0 16 [(0, va_rf (some th)), (1, .int p1), (2, .int p2), (3, va_rf x3), (4, .int x4)] [] m (g_X1_collectOf_16 th p1 p2 k16 x3 x4 m) := by
  unfold g_X1_collectOf_16
  refine z_iload C dX1_collectOf_16 4 rfl ?_
  refine z_aload_n C dX1_collectOf_18 rfl 3 rfl ?_
  refine z_ck (fun a4 hr4 hk8 => ?_)
  refine z_getR C fl_RX1_41 hr4 hk8 dX1_collectOf_19 ?_
  refine z_ck (fun a5 hr5 hk9 => ?_)
  refine z_getI C fl_RX1_47 hr5 hk9 dX1_collectOf_22 ?_
  refine z_icmp_ge (tgt := 132) C dX1_collectOf_25 (by decide) (fun c4 => ?_) (fun c4 => ?_)
  · exact z_vret C hr dX1_collectOf_132
  · refine z_iload_n C dX1_collectOf_28 rfl 1 rfl ?_
    refine z_iload_n C dX1_collectOf_29 rfl 2 rfl ?_
    refine z_icmp_le (tgt := 45) C dX1_collectOf_30 (by decide) (fun c5 => ?_) (fun c5 => ?_)
    · exact z_sub [0, 1, 2, 3, 4] rfl (s_X1_collectOf_45 C hr hrm th p1 p2 k16 h16 x3 x4 m)
    · refine z_aload_n C dX1_collectOf_33 rfl 3 rfl ?_
      refine z_getR C fl_RX1_41 hr4 hk8 dX1_collectOf_34 ?_
      refine z_iload C dX1_collectOf_37 4 rfl ?_
      refine z_cSI [va_rf (m.R 300 a4 0), .int x4] [] C mv_RX1_50 (fun r0 m0 h0 => M_X1_isEven _ _ _ _ _ _ _ h0) rfl rfl ⟨by rw [hrm]; exact Nat.le_of_ble_eq_true rfl, by rw [hrm]; exact Nat.le_of_ble_eq_true rfl⟩ ⟨by rw [hrm]; exact Nat.le_of_ble_eq_true rfl, by rw [hrm]; exact Nat.le_of_ble_eq_true rfl⟩ rfl rfl (Nat.le_of_ble_eq_true rfl) dX1_collectOf_39 (fun r4 m6 => ?_)
      refine z_if_ne (tgt := 126) C dX1_collectOf_42 (by decide) (fun c6 => ?_) (fun c6 => ?_)
      · exact z_sub [0, 1, 2, 3, 4] rfl (s_X1_collectOf_126 C hr hrm th p1 p2 k16 h16 x3 x4 m6)
      · exact z_sub [0, 1, 2, 3, 4] rfl (s_X1_collectOf_45 C hr hrm th p1 p2 k16 h16 x3 x4 m6)
def l_X1_collectOf_16 (th : Nat) (p1 : Int32) (p2 : Int32) : Nat → Option Nat → Int32 → MM → Option (Unit × MM) := lp (fun _ _ _ => none) (fun k16 => g_X1_collectOf_16 th p1 p2 k16)
theorem t_X1_collectOf_16 {Γ : GX} {E : EX} (C : Cx Γ E cX1_collectOf RX1 5) (hr : Γ.meth.sig.returnType = none) (hrm : Γ.rm = rmX1_collectOf) (th : Nat) (p1 : Int32) (p2 : Int32) : ∀ (n : Nat) (x3 : Option Nat) (x4 : Int32) (m : MM), Sm (QM Γ E emV 0 0) Γ E 5 0 0 16 [(0, va_rf (some th)), (1, .int p1), (2, .int p2), (3, va_rf x3), (4, .int x4)] [] m (l_X1_collectOf_16 th p1 p2 n x3 x4 m) := by
  intro n
  induction n with
  | zero => intros; exact z_none
  | succ n ih => intro x3 x4 m; exact s_X1_collectOf_16 C hr hrm th p1 p2 (l_X1_collectOf_16 th p1 p2 n) ih x3 x4 m
set_option maxRecDepth 100000 in
def g_X1_collectOf_0 (th : Nat) (p1 : Int32) (p2 : Int32) (m : MM) : Option (Unit × MM) :=
  chk (m.K th = 2) (ck m (m.R 200 th 0) 6 (fun a6 => bnd (m.R 603 a6 0) (fun y1 => ifn y1 (some ((), m)) (fun a7 => l_X1_collectOf_16 th p1 p2 FU y1 0 m))))
set_option maxHeartbeats 4000000 in
set_option maxRecDepth 100000 in
theorem s_X1_collectOf_0 {Γ : GX} {E : EX} (C : Cx Γ E cX1_collectOf RX1 5) (hr : Γ.meth.sig.returnType = none) (hrm : Γ.rm = rmX1_collectOf) (th : Nat) (p1 : Int32) (p2 : Int32) (m : MM) : Sm (QM Γ E emV 0 0) Γ E 5 0 0 0 [(0, va_rf (some th)), (1, .int p1), (2, .int p2)] [] m (g_X1_collectOf_0 th p1 p2 m) := by
  unfold g_X1_collectOf_0
  refine z_aload_n C dX1_collectOf_0 rfl 0 rfl ?_
  refine z_chk (fun hk10 => ?_)
  refine z_getR C fl_RX1_9 rfl hk10 dX1_collectOf_1 ?_
  refine z_ck (fun a6 hr6 hk11 => ?_)
  refine z_getR C fl_RX1_37 hr6 hk11 dX1_collectOf_4 ?_
  refine z_bndR (fun y1 => ?_)
  refine z_astore_n (i := 3) (L2 := [(3, va_rf y1), (0, va_rf (some th)), (1, .int p1), (2, .int p2)]) C dX1_collectOf_7 rfl (by decide) rfl ?_
  refine z_aload_n C dX1_collectOf_8 rfl 0 rfl ?_
  refine z_ifnonnull (tgt := 13) C dX1_collectOf_9 (by decide) (fun a7 ha1 => ?_) (fun hn1 => ?_)
  · refine z_iconst (v := 0) C dX1_collectOf_13 (by decide) ?_
    refine z_istore (i := 4) (L2 := [(4, .int 0), (3, va_rf y1), (0, va_rf (some th)), (1, .int p1), (2, .int p2)]) C dX1_collectOf_14 (by decide) (by simp [cat_rf, cat_i, cat_l, cat_a]) ?_
    exact z_sub [2, 3, 4, 1, 0] rfl (t_X1_collectOf_16 C hr hrm th p1 p2 FU y1 0 m)
  · exact z_vret C hr dX1_collectOf_12
def f_X1_collectOf (th : Nat) (p1 : Int32) (p2 : Int32) (m : MM) : Option (Unit × MM) := g_X1_collectOf_0 th p1 p2 m
theorem M_X1_collectOf (l : Launch) (E : EX) (th : Nat) (p1 : Int32) (p2 : Int32) (m : MM) (r : Unit) (m2 : MM) (h : f_X1_collectOf th p1 p2 m = some (r, m2)) : Met l yX1_collectOf (.code yX1_collectOf cX1_collectOf 5 none :: TB) rmX1_collectOf (va_Pc [.ref th, .int p1, .int p2] (St E m)) (QR E (emV r) m2) 0 0 (AA E) :=
  met_of (em := emV) (plainFor_of_name rfl) (Nat.le_of_ble_eq_true rfl) (L0 := [(0, va_rf (some th)), (1, .int p1), (2, .int p2)]) rfl (fun Γ _ hrm C hr hn => s_X1_collectOf_0 C hr hrm th p1 p2 m) h

theorem dX1_collect_0 : decode cX1_collect 0 = .ok (.aload_n 0, 1) := by decide +kernel
theorem dX1_collect_1 : decode cX1_collect 1 = .ok (.iconst 0, 1) := by decide +kernel
theorem dX1_collect_2 : decode cX1_collect 2 = .ok (.putfield 23, 3) := by decide +kernel
theorem dX1_collect_5 : decode cX1_collect 5 = .ok (.iconst 0, 1) := by decide +kernel
theorem dX1_collect_6 : decode cX1_collect 6 = .ok (.istore_n 1, 1) := by decide +kernel
theorem dX1_collect_7 : decode cX1_collect 7 = .ok (.iload_n 1, 1) := by decide +kernel
theorem dX1_collect_8 : decode cX1_collect 8 = .ok (.bipush 12, 2) := by decide +kernel
theorem dX1_collect_10 : decode cX1_collect 10 = .ok (.if_icmp .ge 46, 3) := by decide +kernel
theorem dX1_collect_13 : decode cX1_collect 13 = .ok (.iconst 0, 1) := by decide +kernel
theorem dX1_collect_14 : decode cX1_collect 14 = .ok (.istore_n 2, 1) := by decide +kernel
theorem dX1_collect_15 : decode cX1_collect 15 = .ok (.iload_n 2, 1) := by decide +kernel
theorem dX1_collect_16 : decode cX1_collect 16 = .ok (.bipush 12, 2) := by decide +kernel
theorem dX1_collect_18 : decode cX1_collect 18 = .ok (.if_icmp .ge 32, 3) := by decide +kernel
theorem dX1_collect_21 : decode cX1_collect 21 = .ok (.iload_n 1, 1) := by decide +kernel
theorem dX1_collect_22 : decode cX1_collect 22 = .ok (.iload_n 2, 1) := by decide +kernel
theorem dX1_collect_23 : decode cX1_collect 23 = .ok (.if_icmp .eq 21, 3) := by decide +kernel
theorem dX1_collect_26 : decode cX1_collect 26 = .ok (.aload_n 0, 1) := by decide +kernel
theorem dX1_collect_27 : decode cX1_collect 27 = .ok (.getfield 9, 3) := by decide +kernel
theorem dX1_collect_30 : decode cX1_collect 30 = .ok (.iload_n 1, 1) := by decide +kernel
theorem dX1_collect_31 : decode cX1_collect 31 = .ok (.iload_n 2, 1) := by decide +kernel
theorem dX1_collect_32 : decode cX1_collect 32 = .ok (.invokevirtual 27, 3) := by decide +kernel
theorem dX1_collect_35 : decode cX1_collect 35 = .ok (.ifCond .eq 9, 3) := by decide +kernel
theorem dX1_collect_38 : decode cX1_collect 38 = .ok (.aload_n 0, 1) := by decide +kernel
theorem dX1_collect_39 : decode cX1_collect 39 = .ok (.iload_n 1, 1) := by decide +kernel
theorem dX1_collect_40 : decode cX1_collect 40 = .ok (.iload_n 2, 1) := by decide +kernel
theorem dX1_collect_41 : decode cX1_collect 41 = .ok (.invokevirtual 33, 3) := by decide +kernel
theorem dX1_collect_44 : decode cX1_collect 44 = .ok (.iinc 2 1, 3) := by decide +kernel
theorem dX1_collect_47 : decode cX1_collect 47 = .ok (.goto (-32), 3) := by decide +kernel
theorem dX1_collect_50 : decode cX1_collect 50 = .ok (.iinc 1 1, 3) := by decide +kernel
theorem dX1_collect_53 : decode cX1_collect 53 = .ok (.goto (-46), 3) := by decide +kernel
theorem dX1_collect_56 : decode cX1_collect 56 = .ok (.return_, 1) := by decide +kernel
def rmX1_collect : Room := { frames := 4, cells := 0, slots := 0, locals := 119 }
set_option maxRecDepth 100000 in
def g_X1_collect_44 (th : Nat) (k15 : Int32 → Int32 → MM → Option (Unit × MM)) (k50 : Int32 → MM → Option (Unit × MM)) (x1 : Int32) (x2 : Int32) (m : MM) : Option (Unit × MM) :=
  k15 x1 (x2 + 1) m
set_option maxHeartbeats 4000000 in
set_option maxRecDepth 100000 in
theorem s_X1_collect_44 {Γ : GX} {E : EX} (C : Cx Γ E cX1_collect RX1 3) (hr : Γ.meth.sig.returnType = none) (hrm : Γ.rm = rmX1_collect) (th : Nat) (k15 : Int32 → Int32 → MM → Option (Unit × MM)) (k50 : Int32 → MM → Option (Unit × MM)) (h15 : ∀ (x1 : Int32) (x2 : Int32) (m : MM), Sm (QM Γ E emV 0 0) Γ E 3 0 0 15 [(0, va_rf (some th)), (1, .int x1), (2, .int x2)] [] m (k15 x1 x2 m)) (h50 : ∀ (x1 : Int32) (m : MM), Sm (QM Γ E emV 0 0) Γ E 3 0 0 50 [(0, va_rf (some th)), (1, .int x1)] [] m (k50 x1 m)) (x1 : Int32) (x2 : Int32) (m : MM) : Sm (QM Γ E emV 0 0) Γ E 3 0 0 44 [(0, va_rf (some th)), (1, .int x1), (2, .int x2)] [] m (g_X1_collect_44 th k15 k50 x1 x2 m) := by
  unfold g_X1_collect_44
  refine z_iinc (v := 1) (L2 := [(2, .int (x2 + 1)), (0, va_rf (some th)), (1, .int x1)]) C dX1_collect_44 2 rfl (by decide) (by decide) rfl ?_
  refine z_goto (tgt := 15) C dX1_collect_47 (by decide) ?_
  exact z_sub [1, 2, 0] rfl (h15 x1 (x2 + 1) m)
set_option maxRecDepth 100000 in
def g_X1_collect_15 (th : Nat) (k15 : Int32 → Int32 → MM → Option (Unit × MM)) (k50 : Int32 → MM → Option (Unit × MM)) (x1 : Int32) (x2 : Int32) (m : MM) : Option (Unit × MM) :=
  if 12 ≤ x2 then (k50 x1 m) else (if x1 = x2 then (g_X1_collect_44 th k15 k50 x1 x2 m) else (chk (m.K th = 2) (ck m (m.R 200 th 0) 6 (fun a1 => cal (f_X5_bothStand a1 x1 x2 m) (fun r1 m1 => if r1 = 0 then (g_X1_collect_44 th k15 k50 x1 x2 m1) else (chk (m1.K th = 2) (cal (f_X1_collectOf th x1 x2 m1) (fun r2 m2 => g_X1_collect_44 th k15 k50 x1 x2 m2))))))))
set_option maxHeartbeats 4000000 in
set_option maxRecDepth 100000 in
theorem s_X1_collect_15 {Γ : GX} {E : EX} (C : Cx Γ E cX1_collect RX1 3) (hr : Γ.meth.sig.returnType = none) (hrm : Γ.rm = rmX1_collect) (th : Nat) (k15 : Int32 → Int32 → MM → Option (Unit × MM)) (k50 : Int32 → MM → Option (Unit × MM)) (h15 : ∀ (x1 : Int32) (x2 : Int32) (m : MM), Sm (QM Γ E emV 0 0) Γ E 3 0 0 15 [(0, va_rf (some th)), (1, .int x1), (2, .int x2)] [] m (k15 x1 x2 m)) (h50 : ∀ (x1 : Int32) (m : MM), Sm (QM Γ E emV 0 0) Γ E 3 0 0 50 [(0, va_rf (some th)), (1, .int x1)] [] m (k50 x1 m)) (x1 : Int32) (x2 : Int32) (m : MM) : Sm (QM Γ E emV 0 0) Γ E 3 0 0 15 [(0, va_rf (some th)), (1, .int x1), (2, .int x2)] [] m (g_X1_collect_15 th k15 k50 x1 x2 m) := by
  unfold g_X1_collect_15
  refine z_iload_n C dX1_collect_15 rfl 2 rfl ?_
  refine z_bipush (v := 12) C dX1_collect_16 (by decide) ?_
  refine z_icmp_ge (tgt := 50) C dX1_collect_18 (by decide) (fun c1 => ?_) (fun c1 => ?_)
  · exact z_sub [0, 1] rfl (h50 x1 m)
  · refine z_iload_n C dX1_collect_21 rfl 1 rfl ?_
    refine z_iload_n C dX1_collect_22 rfl 2 rfl ?_
    refine z_icmp_eq (tgt := 44) C dX1_collect_23 (by decide) (fun c2 => ?_) (fun c2 => ?_)
    · exact z_sub [0, 1, 2] rfl (s_X1_collect_44 C hr hrm th k15 k50 h15 h50 x1 x2 m)
    · refine z_aload_n C dX1_collect_26 rfl 0 rfl ?_
      refine z_chk (fun hk1 => ?_)
      refine z_getR C fl_RX1_9 rfl hk1 dX1_collect_27 ?_
      refine z_iload_n C dX1_collect_30 rfl 1 rfl ?_
      refine z_iload_n C dX1_collect_31 rfl 2 rfl ?_
      refine z_ck (fun a1 hr1 hk2 => ?_)
      refine z_cVI [.int x1, .int x2] [] C mv_RX1_27 (fun r0 m0 h0 => M_X5_bothStand _ _ _ _ _ _ _ _ h0) rfl rfl ⟨by rw [hrm]; exact Nat.le_of_ble_eq_true rfl, by rw [hrm]; exact Nat.le_of_ble_eq_true rfl⟩ ⟨by rw [hrm]; exact Nat.le_of_ble_eq_true rfl, by rw [hrm]; exact Nat.le_of_ble_eq_true rfl⟩ hr1 hk2 rfl rfl rfl (Nat.le_of_ble_eq_true rfl) dX1_collect_32 (fun r1 m1 => ?_)
      refine z_if_eq (tgt := 44) C dX1_collect_35 (by decide) (fun c3 => ?_) (fun c3 => ?_)
      · exact z_sub [0, 1, 2] rfl (s_X1_collect_44 C hr hrm th k15 k50 h15 h50 x1 x2 m1)
      · refine z_aload_n C dX1_collect_38 rfl 0 rfl ?_
        refine z_iload_n C dX1_collect_39 rfl 1 rfl ?_
        refine z_iload_n C dX1_collect_40 rfl 2 rfl ?_
        refine z_chk (fun hk3 => ?_)
        refine z_cVV [.int x1, .int x2] [] C mv_RX1_33 (fun r0 m0 h0 => M_X1_collectOf _ _ _ _ _ _ _ _ h0) rfl rfl ⟨by rw [hrm]; exact Nat.le_of_ble_eq_true rfl, by rw [hrm]; exact Nat.le_of_ble_eq_true rfl⟩ ⟨by rw [hrm]; exact Nat.le_of_ble_eq_true rfl, by rw [hrm]; exact Nat.le_of_ble_eq_true rfl⟩ rfl hk3 rfl rfl rfl (Nat.le_of_ble_eq_true rfl) dX1_collect_41 (fun r2 m2 => ?_)
        exact z_sub [0, 1, 2] rfl (s_X1_collect_44 C hr hrm th k15 k50 h15 h50 x1 x2 m2)
def l_X1_collect_15 (th : Nat) (k50 : Int32 → MM → Option (Unit × MM)) : Nat → Int32 → Int32 → MM → Option (Unit × MM) := lp (fun _ _ _ => none) (fun k15 => g_X1_collect_15 th k15 k50)
theorem t_X1_collect_15 {Γ : GX} {E : EX} (C : Cx Γ E cX1_collect RX1 3) (hr : Γ.meth.sig.returnType = none) (hrm : Γ.rm = rmX1_collect) (th : Nat) (k50 : Int32 → MM → Option (Unit × MM)) (h50 : ∀ (x1 : Int32) (m : MM), Sm (QM Γ E emV 0 0) Γ E 3 0 0 50 [(0, va_rf (some th)), (1, .int x1)] [] m (k50 x1 m)) : ∀ (n : Nat) (x1 : Int32) (x2 : Int32) (m : MM), Sm (QM Γ E emV 0 0) Γ E 3 0 0 15 [(0, va_rf (some th)), (1, .int x1), (2, .int x2)] [] m (l_X1_collect_15 th k50 n x1 x2 m) := by
  intro n
  induction n with
  | zero => intros; exact z_none
  | succ n ih => intro x1 x2 m; exact s_X1_collect_15 C hr hrm th (l_X1_collect_15 th k50 n) k50 ih h50 x1 x2 m
set_option maxRecDepth 100000 in
def g_X1_collect_50 (th : Nat) (k7 : Int32 → MM → Option (Unit × MM)) (x1 : Int32) (m : MM) : Option (Unit × MM) :=
  k7 (x1 + 1) m
set_option maxHeartbeats 4000000 in
set_option maxRecDepth 100000 in
theorem s_X1_collect_50 {Γ : GX} {E : EX} (C : Cx Γ E cX1_collect RX1 3) (hr : Γ.meth.sig.returnType = none) (hrm : Γ.rm = rmX1_collect) (th : Nat) (k7 : Int32 → MM → Option (Unit × MM)) (h7 : ∀ (x1 : Int32) (m : MM), Sm (QM Γ E emV 0 0) Γ E 3 0 0 7 [(0, va_rf (some th)), (1, .int x1)] [] m (k7 x1 m)) (x1 : Int32) (m : MM) : Sm (QM Γ E emV 0 0) Γ E 3 0 0 50 [(0, va_rf (some th)), (1, .int x1)] [] m (g_X1_collect_50 th k7 x1 m) := by
  unfold g_X1_collect_50
  refine z_iinc (v := 1) (L2 := [(1, .int (x1 + 1)), (0, va_rf (some th))]) C dX1_collect_50 1 rfl (by decide) (by decide) rfl ?_
  refine z_goto (tgt := 7) C dX1_collect_53 (by decide) ?_
  exact z_sub [1, 0] rfl (h7 (x1 + 1) m)
set_option maxRecDepth 100000 in
def g_X1_collect_7 (th : Nat) (k7 : Int32 → MM → Option (Unit × MM)) (x1 : Int32) (m : MM) : Option (Unit × MM) :=
  if 12 ≤ x1 then (some ((), m)) else (l_X1_collect_15 th (g_X1_collect_50 th k7) FU x1 0 m)
set_option maxHeartbeats 4000000 in
set_option maxRecDepth 100000 in
theorem s_X1_collect_7 {Γ : GX} {E : EX} (C : Cx Γ E cX1_collect RX1 3) (hr : Γ.meth.sig.returnType = none) (hrm : Γ.rm = rmX1_collect) (th : Nat) (k7 : Int32 → MM → Option (Unit × MM)) (h7 : ∀ (x1 : Int32) (m : MM), Sm (QM Γ E emV 0 0) Γ E 3 0 0 7 [(0, va_rf (some th)), (1, .int x1)] [] m (k7 x1 m)) (x1 : Int32) (m : MM) : Sm (QM Γ E emV 0 0) Γ E 3 0 0 7 [(0, va_rf (some th)), (1, .int x1)] [] m (g_X1_collect_7 th k7 x1 m) := by
  unfold g_X1_collect_7
  refine z_iload_n C dX1_collect_7 rfl 1 rfl ?_
  refine z_bipush (v := 12) C dX1_collect_8 (by decide) ?_
  refine z_icmp_ge (tgt := 56) C dX1_collect_10 (by decide) (fun c4 => ?_) (fun c4 => ?_)
  · exact z_vret C hr dX1_collect_56
  · refine z_iconst (v := 0) C dX1_collect_13 (by decide) ?_
    refine z_istore_n (i := 2) (L2 := [(2, .int 0), (0, va_rf (some th)), (1, .int x1)]) C dX1_collect_14 rfl (by decide) rfl ?_
    exact z_sub [1, 2, 0] rfl (t_X1_collect_15 C hr hrm th (g_X1_collect_50 th k7) (s_X1_collect_50 C hr hrm th k7 h7) FU x1 0 m)
def l_X1_collect_7 (th : Nat) : Nat → Int32 → MM → Option (Unit × MM) := lp (fun _ _ => none) (fun k7 => g_X1_collect_7 th k7)
theorem t_X1_collect_7 {Γ : GX} {E : EX} (C : Cx Γ E cX1_collect RX1 3) (hr : Γ.meth.sig.returnType = none) (hrm : Γ.rm = rmX1_collect) (th : Nat) : ∀ (n : Nat) (x1 : Int32) (m : MM), Sm (QM Γ E emV 0 0) Γ E 3 0 0 7 [(0, va_rf (some th)), (1, .int x1)] [] m (l_X1_collect_7 th n x1 m) := by
  intro n
  induction n with
  | zero => intros; exact z_none
  | succ n ih => intro x1 m; exact s_X1_collect_7 C hr hrm th (l_X1_collect_7 th n) ih x1 m
set_option maxRecDepth 100000 in
def g_X1_collect_0 (th : Nat) (m : MM) : Option (Unit × MM) :=
  chk (m.K th = 2) (bnd (m.sI 203 th 0 0) (fun m3 => l_X1_collect_7 th FU 0 m3))
set_option maxHeartbeats 4000000 in
set_option maxRecDepth 100000 in
theorem s_X1_collect_0 {Γ : GX} {E : EX} (C : Cx Γ E cX1_collect RX1 3) (hr : Γ.meth.sig.returnType = none) (hrm : Γ.rm = rmX1_collect) (th : Nat) (m : MM) : Sm (QM Γ E emV 0 0) Γ E 3 0 0 0 [(0, va_rf (some th))] [] m (g_X1_collect_0 th m) := by
  unfold g_X1_collect_0
  refine z_aload_n C dX1_collect_0 rfl 0 rfl ?_
  refine z_iconst (v := 0) C dX1_collect_1 (by decide) ?_
  refine z_chk (fun hk4 => ?_)
  refine z_putI C fl_RX1_23 (fun h => by cases h) rfl hk4 rfl rfl dX1_collect_2 (fun m3 eK1 eN1 => ?_)
  refine z_iconst (v := 0) C dX1_collect_5 (by decide) ?_
  refine z_istore_n (i := 1) (L2 := [(1, .int 0), (0, va_rf (some th))]) C dX1_collect_6 rfl (by decide) rfl ?_
  exact z_sub [1, 0] rfl (t_X1_collect_7 C hr hrm th FU 0 m3)
def f_X1_collect (th : Nat) (m : MM) : Option (Unit × MM) := g_X1_collect_0 th m
theorem M_X1_collect (l : Launch) (E : EX) (th : Nat) (m : MM) (r : Unit) (m2 : MM) (h : f_X1_collect th m = some (r, m2)) : Met l yX1_collect (.code yX1_collect cX1_collect 3 none :: TB) rmX1_collect (va_Pc [.ref th] (St E m)) (QR E (emV r) m2) 0 0 (AA E) :=
  met_of (em := emV) (plainFor_of_name rfl) (Nat.le_of_ble_eq_true rfl) (L0 := [(0, va_rf (some th))]) rfl (fun Γ _ hrm C hr hn => s_X1_collect_0 C hr hrm th m) h

theorem dX1_codeOf_0 : decode cX1_codeOf 0 = .ok (.iload_n 1, 1) := by decide +kernel
theorem dX1_codeOf_1 : decode cX1_codeOf 1 = .ok (.ifCond .lt 29, 3) := by decide +kernel
theorem dX1_codeOf_4 : decode cX1_codeOf 4 = .ok (.iload_n 1, 1) := by decide +kernel
theorem dX1_codeOf_5 : decode cX1_codeOf 5 = .ok (.aload_n 0, 1) := by decide +kernel
theorem dX1_codeOf_6 : decode cX1_codeOf 6 = .ok (.getfield 23, 3) := by decide +kernel
theorem dX1_codeOf_9 : decode cX1_codeOf 9 = .ok (.if_icmp .ge 21, 3) := by decide +kernel
theorem dX1_codeOf_12 : decode cX1_codeOf 12 = .ok (.iload_n 1, 1) := by decide +kernel
theorem dX1_codeOf_13 : decode cX1_codeOf 13 = .ok (.aload_n 0, 1) := by decide +kernel
theorem dX1_codeOf_14 : decode cX1_codeOf 14 = .ok (.getfield 15, 3) := by decide +kernel
theorem dX1_codeOf_17 : decode cX1_codeOf 17 = .ok (.arraylength, 1) := by decide +kernel
theorem dX1_codeOf_18 : decode cX1_codeOf 18 = .ok (.if_icmp .ge 12, 3) := by decide +kernel
theorem dX1_codeOf_21 : decode cX1_codeOf 21 = .ok (.aload_n 0, 1) := by decide +kernel
theorem dX1_codeOf_22 : decode cX1_codeOf 22 = .ok (.getfield 15, 3) := by decide +kernel
theorem dX1_codeOf_25 : decode cX1_codeOf 25 = .ok (.iload_n 1, 1) := by decide +kernel
theorem dX1_codeOf_26 : decode cX1_codeOf 26 = .ok (.iaload, 1) := by decide +kernel
theorem dX1_codeOf_27 : decode cX1_codeOf 27 = .ok (.goto 4, 3) := by decide +kernel
theorem dX1_codeOf_30 : decode cX1_codeOf 30 = .ok (.iconst 0, 1) := by decide +kernel
theorem dX1_codeOf_31 : decode cX1_codeOf 31 = .ok (.ireturn, 1) := by decide +kernel
def rmX1_codeOf : Room := { frames := 0, cells := 0, slots := 0, locals := 0 }
set_option maxRecDepth 100000 in
def g_X1_codeOf_30 (th : Nat) (p1 : Int32) (m : MM) : Option (Int32 × MM) :=
  some (0, m)
set_option maxHeartbeats 4000000 in
set_option maxRecDepth 100000 in
theorem s_X1_codeOf_30 {Γ : GX} {E : EX} (C : Cx Γ E cX1_codeOf RX1 2) (hr : Γ.meth.sig.returnType = (some .int)) (hrm : Γ.rm = rmX1_codeOf) (th : Nat) (p1 : Int32) (m : MM) : Sm (QM Γ E emI 0 0) Γ E 2 0 0 30 [(0, va_rf (some th)), (1, .int p1)] [] m (g_X1_codeOf_30 th p1 m) := by
  unfold g_X1_codeOf_30
  refine z_iconst (v := 0) C dX1_codeOf_30 (by decide) ?_
  exact z_iret C hr dX1_codeOf_31
set_option maxRecDepth 100000 in
def g_X1_codeOf_0 (th : Nat) (p1 : Int32) (m : MM) : Option (Int32 × MM) :=
  if p1 < 0 then (g_X1_codeOf_30 th p1 m) else (chk (m.K th = 2) (if (m.I 203 th 0) ≤ p1 then (g_X1_codeOf_30 th p1 m) else (ck m (m.R 201 th 0) 22 (fun a1 => if (Int32.ofNat (m.N a1)) ≤ p1 then (g_X1_codeOf_30 th p1 m) else (chk (inb p1 (m.N a1) = true) (some (m.I 22 a1 (Int32.toNatClampNeg p1), m)))))))
set_option maxHeartbeats 4000000 in
set_option maxRecDepth 100000 in
theorem s_X1_codeOf_0 {Γ : GX} {E : EX} (C : Cx Γ E cX1_codeOf RX1 2) (hr : Γ.meth.sig.returnType = (some .int)) (hrm : Γ.rm = rmX1_codeOf) (th : Nat) (p1 : Int32) (m : MM) : Sm (QM Γ E emI 0 0) Γ E 2 0 0 0 [(0, va_rf (some th)), (1, .int p1)] [] m (g_X1_codeOf_0 th p1 m) := by
  unfold g_X1_codeOf_0
  refine z_iload_n C dX1_codeOf_0 rfl 1 rfl ?_
  refine z_if_lt (tgt := 30) C dX1_codeOf_1 (by decide) (fun c1 => ?_) (fun c1 => ?_)
  · exact z_sub [0, 1] rfl (s_X1_codeOf_30 C hr hrm th p1 m)
  · refine z_iload_n C dX1_codeOf_4 rfl 1 rfl ?_
    refine z_aload_n C dX1_codeOf_5 rfl 0 rfl ?_
    refine z_chk (fun hk1 => ?_)
    refine z_getI C fl_RX1_23 rfl hk1 dX1_codeOf_6 ?_
    refine z_icmp_ge (tgt := 30) C dX1_codeOf_9 (by decide) (fun c2 => ?_) (fun c2 => ?_)
    · exact z_sub [0, 1] rfl (s_X1_codeOf_30 C hr hrm th p1 m)
    · refine z_iload_n C dX1_codeOf_12 rfl 1 rfl ?_
      refine z_aload_n C dX1_codeOf_13 rfl 0 rfl ?_
      refine z_getR C fl_RX1_15 rfl hk1 dX1_codeOf_14 ?_
      refine z_ck (fun a1 hr1 hk2 => ?_)
      refine z_alen C hr1 hk2 (by decide) (by decide) dX1_codeOf_17 ?_
      refine z_icmp_ge (tgt := 30) C dX1_codeOf_18 (by decide) (fun c3 => ?_) (fun c3 => ?_)
      · exact z_sub [0, 1] rfl (s_X1_codeOf_30 C hr hrm th p1 m)
      · refine z_aload_n C dX1_codeOf_21 rfl 0 rfl ?_
        refine z_getR C fl_RX1_15 rfl hk1 dX1_codeOf_22 ?_
        refine z_iload_n C dX1_codeOf_25 rfl 1 rfl ?_
        refine z_chk (fun hj1 => ?_)
        refine z_iald C hr1 hk2 hj1 dX1_codeOf_26 ?_
        refine z_goto (tgt := 31) C dX1_codeOf_27 (by decide) ?_
        exact z_iret C hr dX1_codeOf_31
def f_X1_codeOf (th : Nat) (p1 : Int32) (m : MM) : Option (Int32 × MM) := g_X1_codeOf_0 th p1 m
theorem M_X1_codeOf (l : Launch) (E : EX) (th : Nat) (p1 : Int32) (m : MM) (r : Int32) (m2 : MM) (h : f_X1_codeOf th p1 m = some (r, m2)) : Met l yX1_codeOf (.code yX1_codeOf cX1_codeOf 2 (some .int) :: TB) rmX1_codeOf (va_Pc [.ref th, .int p1] (St E m)) (QR E (emI r) m2) 0 0 (AA E) :=
  met_of (em := emI) (plainFor_of_name rfl) (Nat.le_of_ble_eq_true rfl) (L0 := [(0, va_rf (some th)), (1, .int p1)]) rfl (fun Γ _ hrm C hr hn => s_X1_codeOf_0 C hr hrm th p1 m) h

theorem dX1_firstOf_0 : decode cX1_firstOf 0 = .ok (.aload_n 0, 1) := by decide +kernel
theorem dX1_firstOf_1 : decode cX1_firstOf 1 = .ok (.iload_n 1, 1) := by decide +kernel
theorem dX1_firstOf_2 : decode cX1_firstOf 2 = .ok (.invokevirtual 66, 3) := by decide +kernel
theorem dX1_firstOf_5 : decode cX1_firstOf 5 = .ok (.bipush 120, 2) := by decide +kernel
theorem dX1_firstOf_7 : decode cX1_firstOf 7 = .ok (.idiv, 1) := by decide +kernel
theorem dX1_firstOf_8 : decode cX1_firstOf 8 = .ok (.ireturn, 1) := by decide +kernel
def rmX1_firstOf : Room := { frames := 1, cells := 0, slots := 0, locals := 21 }
set_option maxRecDepth 100000 in
def g_X1_firstOf_0 (th : Nat) (p1 : Int32) (m : MM) : Option (Int32 × MM) :=
  chk (m.K th = 2) (cal (f_X1_codeOf th p1 m) (fun r1 m1 => some (r1 / 120, m1)))
set_option maxHeartbeats 4000000 in
set_option maxRecDepth 100000 in
theorem s_X1_firstOf_0 {Γ : GX} {E : EX} (C : Cx Γ E cX1_firstOf RX1 2) (hr : Γ.meth.sig.returnType = (some .int)) (hrm : Γ.rm = rmX1_firstOf) (th : Nat) (p1 : Int32) (m : MM) : Sm (QM Γ E emI 0 0) Γ E 2 0 0 0 [(0, va_rf (some th)), (1, .int p1)] [] m (g_X1_firstOf_0 th p1 m) := by
  unfold g_X1_firstOf_0
  refine z_aload_n C dX1_firstOf_0 rfl 0 rfl ?_
  refine z_iload_n C dX1_firstOf_1 rfl 1 rfl ?_
  refine z_chk (fun hk1 => ?_)
  refine z_cVI [.int p1] [] C mv_RX1_66 (fun r0 m0 h0 => M_X1_codeOf _ _ _ _ _ _ _ h0) rfl rfl ⟨by rw [hrm]; exact Nat.le_of_ble_eq_true rfl, by rw [hrm]; exact Nat.le_of_ble_eq_true rfl⟩ ⟨by rw [hrm]; exact Nat.le_of_ble_eq_true rfl, by rw [hrm]; exact Nat.le_of_ble_eq_true rfl⟩ rfl hk1 rfl rfl rfl (Nat.le_of_ble_eq_true rfl) dX1_firstOf_2 (fun r1 m1 => ?_)
  refine z_bipush (v := 120) C dX1_firstOf_5 (by decide) ?_
  refine z_idiv C (by decide) dX1_firstOf_7 ?_
  exact z_iret C hr dX1_firstOf_8
def f_X1_firstOf (th : Nat) (p1 : Int32) (m : MM) : Option (Int32 × MM) := g_X1_firstOf_0 th p1 m
theorem M_X1_firstOf (l : Launch) (E : EX) (th : Nat) (p1 : Int32) (m : MM) (r : Int32) (m2 : MM) (h : f_X1_firstOf th p1 m = some (r, m2)) : Met l yX1_firstOf (.code yX1_firstOf cX1_firstOf 2 (some .int) :: TB) rmX1_firstOf (va_Pc [.ref th, .int p1] (St E m)) (QR E (emI r) m2) 0 0 (AA E) :=
  met_of (em := emI) (plainFor_of_name rfl) (Nat.le_of_ble_eq_true rfl) (L0 := [(0, va_rf (some th)), (1, .int p1)]) rfl (fun Γ _ hrm C hr hn => s_X1_firstOf_0 C hr hrm th p1 m) h

theorem dX1_secondOf_0 : decode cX1_secondOf 0 = .ok (.aload_n 0, 1) := by decide +kernel
theorem dX1_secondOf_1 : decode cX1_secondOf 1 = .ok (.iload_n 1, 1) := by decide +kernel
theorem dX1_secondOf_2 : decode cX1_secondOf 2 = .ok (.invokevirtual 66, 3) := by decide +kernel
theorem dX1_secondOf_5 : decode cX1_secondOf 5 = .ok (.bipush 10, 2) := by decide +kernel
theorem dX1_secondOf_7 : decode cX1_secondOf 7 = .ok (.idiv, 1) := by decide +kernel
theorem dX1_secondOf_8 : decode cX1_secondOf 8 = .ok (.bipush 12, 2) := by decide +kernel
theorem dX1_secondOf_10 : decode cX1_secondOf 10 = .ok (.irem, 1) := by decide +kernel
theorem dX1_secondOf_11 : decode cX1_secondOf 11 = .ok (.ireturn, 1) := by decide +kernel
def rmX1_secondOf : Room := { frames := 1, cells := 0, slots := 0, locals := 21 }
set_option maxRecDepth 100000 in
def g_X1_secondOf_0 (th : Nat) (p1 : Int32) (m : MM) : Option (Int32 × MM) :=
  chk (m.K th = 2) (cal (f_X1_codeOf th p1 m) (fun r1 m1 => some ((r1 / 10) - (r1 / 10) / 12 * 12, m1)))
set_option maxHeartbeats 4000000 in
set_option maxRecDepth 100000 in
theorem s_X1_secondOf_0 {Γ : GX} {E : EX} (C : Cx Γ E cX1_secondOf RX1 2) (hr : Γ.meth.sig.returnType = (some .int)) (hrm : Γ.rm = rmX1_secondOf) (th : Nat) (p1 : Int32) (m : MM) : Sm (QM Γ E emI 0 0) Γ E 2 0 0 0 [(0, va_rf (some th)), (1, .int p1)] [] m (g_X1_secondOf_0 th p1 m) := by
  unfold g_X1_secondOf_0
  refine z_aload_n C dX1_secondOf_0 rfl 0 rfl ?_
  refine z_iload_n C dX1_secondOf_1 rfl 1 rfl ?_
  refine z_chk (fun hk1 => ?_)
  refine z_cVI [.int p1] [] C mv_RX1_66 (fun r0 m0 h0 => M_X1_codeOf _ _ _ _ _ _ _ h0) rfl rfl ⟨by rw [hrm]; exact Nat.le_of_ble_eq_true rfl, by rw [hrm]; exact Nat.le_of_ble_eq_true rfl⟩ ⟨by rw [hrm]; exact Nat.le_of_ble_eq_true rfl, by rw [hrm]; exact Nat.le_of_ble_eq_true rfl⟩ rfl hk1 rfl rfl rfl (Nat.le_of_ble_eq_true rfl) dX1_secondOf_2 (fun r1 m1 => ?_)
  refine z_bipush (v := 10) C dX1_secondOf_5 (by decide) ?_
  refine z_idiv C (by decide) dX1_secondOf_7 ?_
  refine z_bipush (v := 12) C dX1_secondOf_8 (by decide) ?_
  refine z_irem C (by decide) dX1_secondOf_10 ?_
  exact z_iret C hr dX1_secondOf_11
def f_X1_secondOf (th : Nat) (p1 : Int32) (m : MM) : Option (Int32 × MM) := g_X1_secondOf_0 th p1 m
theorem M_X1_secondOf (l : Launch) (E : EX) (th : Nat) (p1 : Int32) (m : MM) (r : Int32) (m2 : MM) (h : f_X1_secondOf th p1 m = some (r, m2)) : Met l yX1_secondOf (.code yX1_secondOf cX1_secondOf 2 (some .int) :: TB) rmX1_secondOf (va_Pc [.ref th, .int p1] (St E m)) (QR E (emI r) m2) 0 0 (AA E) :=
  met_of (em := emI) (plainFor_of_name rfl) (Nat.le_of_ble_eq_true rfl) (L0 := [(0, va_rf (some th)), (1, .int p1)]) rfl (fun Γ _ hrm C hr hn => s_X1_secondOf_0 C hr hrm th p1 m) h

theorem dX1_ruleOf_0 : decode cX1_ruleOf 0 = .ok (.aload_n 0, 1) := by decide +kernel
theorem dX1_ruleOf_1 : decode cX1_ruleOf 1 = .ok (.iload_n 1, 1) := by decide +kernel
theorem dX1_ruleOf_2 : decode cX1_ruleOf 2 = .ok (.invokevirtual 66, 3) := by decide +kernel
theorem dX1_ruleOf_5 : decode cX1_ruleOf 5 = .ok (.bipush 10, 2) := by decide +kernel
theorem dX1_ruleOf_7 : decode cX1_ruleOf 7 = .ok (.irem, 1) := by decide +kernel
theorem dX1_ruleOf_8 : decode cX1_ruleOf 8 = .ok (.ireturn, 1) := by decide +kernel
def rmX1_ruleOf : Room := { frames := 1, cells := 0, slots := 0, locals := 21 }
set_option maxRecDepth 100000 in
def g_X1_ruleOf_0 (th : Nat) (p1 : Int32) (m : MM) : Option (Int32 × MM) :=
  chk (m.K th = 2) (cal (f_X1_codeOf th p1 m) (fun r1 m1 => some (r1 - r1 / 10 * 10, m1)))
set_option maxHeartbeats 4000000 in
set_option maxRecDepth 100000 in
theorem s_X1_ruleOf_0 {Γ : GX} {E : EX} (C : Cx Γ E cX1_ruleOf RX1 2) (hr : Γ.meth.sig.returnType = (some .int)) (hrm : Γ.rm = rmX1_ruleOf) (th : Nat) (p1 : Int32) (m : MM) : Sm (QM Γ E emI 0 0) Γ E 2 0 0 0 [(0, va_rf (some th)), (1, .int p1)] [] m (g_X1_ruleOf_0 th p1 m) := by
  unfold g_X1_ruleOf_0
  refine z_aload_n C dX1_ruleOf_0 rfl 0 rfl ?_
  refine z_iload_n C dX1_ruleOf_1 rfl 1 rfl ?_
  refine z_chk (fun hk1 => ?_)
  refine z_cVI [.int p1] [] C mv_RX1_66 (fun r0 m0 h0 => M_X1_codeOf _ _ _ _ _ _ _ h0) rfl rfl ⟨by rw [hrm]; exact Nat.le_of_ble_eq_true rfl, by rw [hrm]; exact Nat.le_of_ble_eq_true rfl⟩ ⟨by rw [hrm]; exact Nat.le_of_ble_eq_true rfl, by rw [hrm]; exact Nat.le_of_ble_eq_true rfl⟩ rfl hk1 rfl rfl rfl (Nat.le_of_ble_eq_true rfl) dX1_ruleOf_2 (fun r1 m1 => ?_)
  refine z_bipush (v := 10) C dX1_ruleOf_5 (by decide) ?_
  refine z_irem C (by decide) dX1_ruleOf_7 ?_
  exact z_iret C hr dX1_ruleOf_8
def f_X1_ruleOf (th : Nat) (p1 : Int32) (m : MM) : Option (Int32 × MM) := g_X1_ruleOf_0 th p1 m
theorem M_X1_ruleOf (l : Launch) (E : EX) (th : Nat) (p1 : Int32) (m : MM) (r : Int32) (m2 : MM) (h : f_X1_ruleOf th p1 m = some (r, m2)) : Met l yX1_ruleOf (.code yX1_ruleOf cX1_ruleOf 2 (some .int) :: TB) rmX1_ruleOf (va_Pc [.ref th, .int p1] (St E m)) (QR E (emI r) m2) 0 0 (AA E) :=
  met_of (em := emI) (plainFor_of_name rfl) (Nat.le_of_ble_eq_true rfl) (L0 := [(0, va_rf (some th)), (1, .int p1)]) rfl (fun Γ _ hrm C hr hn => s_X1_ruleOf_0 C hr hrm th p1 m) h

theorem dX1_hasSort_0 : decode cX1_hasSort 0 = .ok (.aload_n 0, 1) := by decide +kernel
theorem dX1_hasSort_1 : decode cX1_hasSort 1 = .ok (.getfield 9, 3) := by decide +kernel
theorem dX1_hasSort_4 : decode cX1_hasSort 4 = .ok (.getfield 37, 3) := by decide +kernel
theorem dX1_hasSort_7 : decode cX1_hasSort 7 = .ok (.astore_n 2, 1) := by decide +kernel
theorem dX1_hasSort_8 : decode cX1_hasSort 8 = .ok (.iconst 0, 1) := by decide +kernel
theorem dX1_hasSort_9 : decode cX1_hasSort 9 = .ok (.istore_n 3, 1) := by decide +kernel
theorem dX1_hasSort_10 : decode cX1_hasSort 10 = .ok (.aload_n 2, 1) := by decide +kernel
theorem dX1_hasSort_11 : decode cX1_hasSort 11 = .ok (.ifnull 36, 3) := by decide +kernel
theorem dX1_hasSort_14 : decode cX1_hasSort 14 = .ok (.iload_n 3, 1) := by decide +kernel
theorem dX1_hasSort_15 : decode cX1_hasSort 15 = .ok (.aload_n 0, 1) := by decide +kernel
theorem dX1_hasSort_16 : decode cX1_hasSort 16 = .ok (.getfield 23, 3) := by decide +kernel
theorem dX1_hasSort_19 : decode cX1_hasSort 19 = .ok (.if_icmp .ge 28, 3) := by decide +kernel
theorem dX1_hasSort_22 : decode cX1_hasSort 22 = .ok (.aload_n 2, 1) := by decide +kernel
theorem dX1_hasSort_23 : decode cX1_hasSort 23 = .ok (.getfield 41, 3) := by decide +kernel
theorem dX1_hasSort_26 : decode cX1_hasSort 26 = .ok (.aload_n 0, 1) := by decide +kernel
theorem dX1_hasSort_27 : decode cX1_hasSort 27 = .ok (.iload_n 3, 1) := by decide +kernel
theorem dX1_hasSort_28 : decode cX1_hasSort 28 = .ok (.invokevirtual 70, 3) := by decide +kernel
theorem dX1_hasSort_31 : decode cX1_hasSort 31 = .ok (.iconst 0, 1) := by decide +kernel
theorem dX1_hasSort_32 : decode cX1_hasSort 32 = .ok (.invokevirtual 62, 3) := by decide +kernel
theorem dX1_hasSort_35 : decode cX1_hasSort 35 = .ok (.iload_n 1, 1) := by decide +kernel
theorem dX1_hasSort_36 : decode cX1_hasSort 36 = .ok (.if_icmp .ne 5, 3) := by decide +kernel
theorem dX1_hasSort_39 : decode cX1_hasSort 39 = .ok (.iconst 1, 1) := by decide +kernel
theorem dX1_hasSort_40 : decode cX1_hasSort 40 = .ok (.ireturn, 1) := by decide +kernel
theorem dX1_hasSort_41 : decode cX1_hasSort 41 = .ok (.iinc 3 1, 3) := by decide +kernel
theorem dX1_hasSort_44 : decode cX1_hasSort 44 = .ok (.goto (-34), 3) := by decide +kernel
theorem dX1_hasSort_47 : decode cX1_hasSort 47 = .ok (.iconst 0, 1) := by decide +kernel
theorem dX1_hasSort_48 : decode cX1_hasSort 48 = .ok (.ireturn, 1) := by decide +kernel
def rmX1_hasSort : Room := { frames := 2, cells := 0, slots := 0, locals := 42 }
set_option maxRecDepth 100000 in
def g_X1_hasSort_10 (th : Nat) (p1 : Int32) (k10 : Option Nat → Int32 → MM → Option (Int32 × MM)) (x2 : Option Nat) (x3 : Int32) (m : MM) : Option (Int32 × MM) :=
  ifn x2 (some (0, m)) (fun a1 => chk (m.K th = 2) (if (m.I 203 th 0) ≤ x3 then (some (0, m)) else (chk (m.K a1 = 3) (cal (f_X1_ruleOf th x3 m) (fun r1 m1 => ck m1 (m.R 300 a1 0) 7 (fun a2 => cal (f_X6_cell a2 r1 0 m1) (fun r2 m2 => if r2 = p1 then (some (1, m2)) else (k10 x2 (x3 + 1) m2))))))))
set_option maxHeartbeats 4000000 in
set_option maxRecDepth 100000 in
theorem s_X1_hasSort_10 {Γ : GX} {E : EX} (C : Cx Γ E cX1_hasSort RX1 4) (hr : Γ.meth.sig.returnType = (some .boolean)) (hrm : Γ.rm = rmX1_hasSort) (th : Nat) (p1 : Int32) (k10 : Option Nat → Int32 → MM → Option (Int32 × MM)) (h10 : ∀ (x2 : Option Nat) (x3 : Int32) (m : MM), Sm (QM Γ E emI 0 0) Γ E 4 0 0 10 [(0, va_rf (some th)), (1, .int p1), (2, va_rf x2), (3, .int x3)] [] m (k10 x2 x3 m)) (x2 : Option Nat) (x3 : Int32) (m : MM) : Sm (QM Γ E emI 0 0) Γ E 4 0 0 10 [(0, va_rf (some th)), (1, .int p1), (2, va_rf x2), (3, .int x3)] [] m (g_X1_hasSort_10 th p1 k10 x2 x3 m) := by
  unfold g_X1_hasSort_10
  refine z_aload_n C dX1_hasSort_10 rfl 2 rfl ?_
  refine z_ifnull (tgt := 47) C dX1_hasSort_11 (by decide) (fun hn1 => ?_) (fun a1 ha1 => ?_)
  · refine z_iconst (v := 0) C dX1_hasSort_47 (by decide) ?_
    exact z_zret C hr rfl dX1_hasSort_48
  · refine z_iload_n C dX1_hasSort_14 rfl 3 rfl ?_
    refine z_aload_n C dX1_hasSort_15 rfl 0 rfl ?_
    refine z_chk (fun hk1 => ?_)
    refine z_getI C fl_RX1_23 rfl hk1 dX1_hasSort_16 ?_
    refine z_icmp_ge (tgt := 47) C dX1_hasSort_19 (by decide) (fun c1 => ?_) (fun c1 => ?_)
    · refine z_iconst (v := 0) C dX1_hasSort_47 (by decide) ?_
      exact z_zret C hr rfl dX1_hasSort_48
    · refine z_aload_n C dX1_hasSort_22 rfl 2 rfl ?_
      refine z_chk (fun hk2 => ?_)
      refine z_getR C fl_RX1_41 ha1 hk2 dX1_hasSort_23 ?_
      refine z_aload_n C dX1_hasSort_26 rfl 0 rfl ?_
      refine z_iload_n C dX1_hasSort_27 rfl 3 rfl ?_
      refine z_cVI [.int x3] [va_rf (m.R 300 a1 0)] C mv_RX1_70 (fun r0 m0 h0 => M_X1_ruleOf _ _ _ _ _ _ _ h0) rfl rfl ⟨by rw [hrm]; exact Nat.le_of_ble_eq_true rfl, by rw [hrm]; exact Nat.le_of_ble_eq_true rfl⟩ ⟨by rw [hrm]; exact Nat.le_of_ble_eq_true rfl, by rw [hrm]; exact Nat.le_of_ble_eq_true rfl⟩ rfl hk1 rfl rfl rfl (by simp [cat_rf, cat_i, cat_l, cat_a]) dX1_hasSort_28 (fun r1 m1 => ?_)
      refine z_iconst (v := 0) C dX1_hasSort_31 (by decide) ?_
      refine z_ck (fun a2 hr1 hk3 => ?_)
      refine z_cVI [.int r1, .int 0] [] C mv_RX1_62 (fun r0 m0 h0 => M_X6_cell _ _ _ _ _ _ _ _ h0) rfl rfl ⟨by rw [hrm]; exact Nat.le_of_ble_eq_true rfl, by rw [hrm]; exact Nat.le_of_ble_eq_true rfl⟩ ⟨by rw [hrm]; exact Nat.le_of_ble_eq_true rfl, by rw [hrm]; exact Nat.le_of_ble_eq_true rfl⟩ hr1 hk3 rfl rfl rfl (Nat.le_of_ble_eq_true rfl) dX1_hasSort_32 (fun r2 m2 => ?_)
      refine z_iload_n C dX1_hasSort_35 rfl 1 rfl ?_
      refine z_icmp_ne (tgt := 41) C dX1_hasSort_36 (by decide) (fun c2 => ?_) (fun c2 => ?_)
      · refine z_iinc (v := 1) (L2 := [(3, .int (x3 + 1)), (0, va_rf (some th)), (1, .int p1), (2, va_rf x2)]) C dX1_hasSort_41 3 rfl (by decide) (by decide) (by simp [cat_rf, cat_i, cat_l, cat_a]) ?_
        refine z_goto (tgt := 10) C dX1_hasSort_44 (by decide) ?_
        exact z_sub [1, 2, 3, 0] rfl (h10 x2 (x3 + 1) m2)
      · refine z_iconst (v := 1) C dX1_hasSort_39 (by decide) ?_
        exact z_zret C hr rfl dX1_hasSort_40
def l_X1_hasSort_10 (th : Nat) (p1 : Int32) : Nat → Option Nat → Int32 → MM → Option (Int32 × MM) := lp (fun _ _ _ => none) (fun k10 => g_X1_hasSort_10 th p1 k10)
theorem t_X1_hasSort_10 {Γ : GX} {E : EX} (C : Cx Γ E cX1_hasSort RX1 4) (hr : Γ.meth.sig.returnType = (some .boolean)) (hrm : Γ.rm = rmX1_hasSort) (th : Nat) (p1 : Int32) : ∀ (n : Nat) (x2 : Option Nat) (x3 : Int32) (m : MM), Sm (QM Γ E emI 0 0) Γ E 4 0 0 10 [(0, va_rf (some th)), (1, .int p1), (2, va_rf x2), (3, .int x3)] [] m (l_X1_hasSort_10 th p1 n x2 x3 m) := by
  intro n
  induction n with
  | zero => intros; exact z_none
  | succ n ih => intro x2 x3 m; exact s_X1_hasSort_10 C hr hrm th p1 (l_X1_hasSort_10 th p1 n) ih x2 x3 m
set_option maxRecDepth 100000 in
def g_X1_hasSort_0 (th : Nat) (p1 : Int32) (m : MM) : Option (Int32 × MM) :=
  chk (m.K th = 2) (ck m (m.R 200 th 0) 6 (fun a3 => bnd (m.R 603 a3 0) (fun y1 => l_X1_hasSort_10 th p1 FU y1 0 m)))
set_option maxHeartbeats 4000000 in
set_option maxRecDepth 100000 in
theorem s_X1_hasSort_0 {Γ : GX} {E : EX} (C : Cx Γ E cX1_hasSort RX1 4) (hr : Γ.meth.sig.returnType = (some .boolean)) (hrm : Γ.rm = rmX1_hasSort) (th : Nat) (p1 : Int32) (m : MM) : Sm (QM Γ E emI 0 0) Γ E 4 0 0 0 [(0, va_rf (some th)), (1, .int p1)] [] m (g_X1_hasSort_0 th p1 m) := by
  unfold g_X1_hasSort_0
  refine z_aload_n C dX1_hasSort_0 rfl 0 rfl ?_
  refine z_chk (fun hk4 => ?_)
  refine z_getR C fl_RX1_9 rfl hk4 dX1_hasSort_1 ?_
  refine z_ck (fun a3 hr2 hk5 => ?_)
  refine z_getR C fl_RX1_37 hr2 hk5 dX1_hasSort_4 ?_
  refine z_bndR (fun y1 => ?_)
  refine z_astore_n (i := 2) (L2 := [(2, va_rf y1), (0, va_rf (some th)), (1, .int p1)]) C dX1_hasSort_7 rfl (by decide) rfl ?_
  refine z_iconst (v := 0) C dX1_hasSort_8 (by decide) ?_
  refine z_istore_n (i := 3) (L2 := [(3, .int 0), (2, va_rf y1), (0, va_rf (some th)), (1, .int p1)]) C dX1_hasSort_9 rfl (by decide) (by simp [cat_rf, cat_i, cat_l, cat_a]) ?_
  exact z_sub [2, 3, 1, 0] rfl (t_X1_hasSort_10 C hr hrm th p1 FU y1 0 m)
def f_X1_hasSort (th : Nat) (p1 : Int32) (m : MM) : Option (Int32 × MM) := g_X1_hasSort_0 th p1 m
theorem M_X1_hasSort (l : Launch) (E : EX) (th : Nat) (p1 : Int32) (m : MM) (r : Int32) (m2 : MM) (h : f_X1_hasSort th p1 m = some (r, m2)) : Met l yX1_hasSort (.code yX1_hasSort cX1_hasSort 4 (some .boolean) :: TB) rmX1_hasSort (va_Pc [.ref th, .int p1] (St E m)) (QR E (emI r) m2) 0 0 (AA E) :=
  met_of (em := emI) (plainFor_of_name rfl) (Nat.le_of_ble_eq_true rfl) (L0 := [(0, va_rf (some th)), (1, .int p1)]) rfl (fun Γ _ hrm C hr hn => s_X1_hasSort_0 C hr hrm th p1 m) h

theorem dX1_isLater_0 : decode cX1_isLater 0 = .ok (.aload_n 0, 1) := by decide +kernel
theorem dX1_isLater_1 : decode cX1_isLater 1 = .ok (.getfield 9, 3) := by decide +kernel
theorem dX1_isLater_4 : decode cX1_isLater 4 = .ok (.iload_n 1, 1) := by decide +kernel
theorem dX1_isLater_5 : decode cX1_isLater 5 = .ok (.iconst 4, 1) := by decide +kernel
theorem dX1_isLater_6 : decode cX1_isLater 6 = .ok (.invokevirtual 73, 3) := by decide +kernel
theorem dX1_isLater_9 : decode cX1_isLater 9 = .ok (.istore_n 3, 1) := by decide +kernel
theorem dX1_isLater_10 : decode cX1_isLater 10 = .ok (.aload_n 0, 1) := by decide +kernel
theorem dX1_isLater_11 : decode cX1_isLater 11 = .ok (.getfield 9, 3) := by decide +kernel
theorem dX1_isLater_14 : decode cX1_isLater 14 = .ok (.iload_n 2, 1) := by decide +kernel
theorem dX1_isLater_15 : decode cX1_isLater 15 = .ok (.iconst 4, 1) := by decide +kernel
theorem dX1_isLater_16 : decode cX1_isLater 16 = .ok (.invokevirtual 73, 3) := by decide +kernel
theorem dX1_isLater_19 : decode cX1_isLater 19 = .ok (.istore 4, 2) := by decide +kernel
theorem dX1_isLater_21 : decode cX1_isLater 21 = .ok (.iload_n 3, 1) := by decide +kernel
theorem dX1_isLater_22 : decode cX1_isLater 22 = .ok (.iload 4, 2) := by decide +kernel
theorem dX1_isLater_24 : decode cX1_isLater 24 = .ok (.if_icmp .gt 14, 3) := by decide +kernel
theorem dX1_isLater_27 : decode cX1_isLater 27 = .ok (.iload_n 3, 1) := by decide +kernel
theorem dX1_isLater_28 : decode cX1_isLater 28 = .ok (.iload 4, 2) := by decide +kernel
theorem dX1_isLater_30 : decode cX1_isLater 30 = .ok (.if_icmp .ne 12, 3) := by decide +kernel
theorem dX1_isLater_33 : decode cX1_isLater 33 = .ok (.iload_n 1, 1) := by decide +kernel
theorem dX1_isLater_34 : decode cX1_isLater 34 = .ok (.iload_n 2, 1) := by decide +kernel
theorem dX1_isLater_35 : decode cX1_isLater 35 = .ok (.if_icmp .le 7, 3) := by decide +kernel
theorem dX1_isLater_38 : decode cX1_isLater 38 = .ok (.iconst 1, 1) := by decide +kernel
theorem dX1_isLater_39 : decode cX1_isLater 39 = .ok (.goto 4, 3) := by decide +kernel
theorem dX1_isLater_42 : decode cX1_isLater 42 = .ok (.iconst 0, 1) := by decide +kernel
theorem dX1_isLater_43 : decode cX1_isLater 43 = .ok (.ireturn, 1) := by decide +kernel
def rmX1_isLater : Room := { frames := 2, cells := 0, slots := 0, locals := 45 }
set_option maxRecDepth 100000 in
def g_X1_isLater_38 (th : Nat) (p1 : Int32) (p2 : Int32) (m : MM) : Option (Int32 × MM) :=
  some (1, m)
set_option maxHeartbeats 4000000 in
set_option maxRecDepth 100000 in
theorem s_X1_isLater_38 {Γ : GX} {E : EX} (C : Cx Γ E cX1_isLater RX1 5) (hr : Γ.meth.sig.returnType = (some .boolean)) (hrm : Γ.rm = rmX1_isLater) (th : Nat) (p1 : Int32) (p2 : Int32) (m : MM) : Sm (QM Γ E emI 0 0) Γ E 5 0 0 38 [(0, va_rf (some th)), (1, .int p1), (2, .int p2)] [] m (g_X1_isLater_38 th p1 p2 m) := by
  unfold g_X1_isLater_38
  refine z_iconst (v := 1) C dX1_isLater_38 (by decide) ?_
  refine z_goto (tgt := 43) C dX1_isLater_39 (by decide) ?_
  exact z_zret C hr rfl dX1_isLater_43
set_option maxRecDepth 100000 in
def g_X1_isLater_42 (th : Nat) (p1 : Int32) (p2 : Int32) (m : MM) : Option (Int32 × MM) :=
  some (0, m)
set_option maxHeartbeats 4000000 in
set_option maxRecDepth 100000 in
theorem s_X1_isLater_42 {Γ : GX} {E : EX} (C : Cx Γ E cX1_isLater RX1 5) (hr : Γ.meth.sig.returnType = (some .boolean)) (hrm : Γ.rm = rmX1_isLater) (th : Nat) (p1 : Int32) (p2 : Int32) (m : MM) : Sm (QM Γ E emI 0 0) Γ E 5 0 0 42 [(0, va_rf (some th)), (1, .int p1), (2, .int p2)] [] m (g_X1_isLater_42 th p1 p2 m) := by
  unfold g_X1_isLater_42
  refine z_iconst (v := 0) C dX1_isLater_42 (by decide) ?_
  exact z_zret C hr rfl dX1_isLater_43
set_option maxRecDepth 100000 in
def g_X1_isLater_0 (th : Nat) (p1 : Int32) (p2 : Int32) (m : MM) : Option (Int32 × MM) :=
  chk (m.K th = 2) (ck m (m.R 200 th 0) 6 (fun a1 => cal (f_X5_ofThing a1 p1 4 m) (fun r1 m1 => chk (m1.K th = 2) (ck m1 (m1.R 200 th 0) 6 (fun a2 => cal (f_X5_ofThing a2 p2 4 m1) (fun r2 m2 => if r2 < r1 then (g_X1_isLater_38 th p1 p2 m2) else (if r1 = r2 then (if p1 ≤ p2 then (g_X1_isLater_42 th p1 p2 m2) else (g_X1_isLater_38 th p1 p2 m2)) else (g_X1_isLater_42 th p1 p2 m2))))))))
set_option maxHeartbeats 4000000 in
set_option maxRecDepth 100000 in
theorem s_X1_isLater_0 {Γ : GX} {E : EX} (C : Cx Γ E cX1_isLater RX1 5) (hr : Γ.meth.sig.returnType = (some .boolean)) (hrm : Γ.rm = rmX1_isLater) (th : Nat) (p1 : Int32) (p2 : Int32) (m : MM) : Sm (QM Γ E emI 0 0) Γ E 5 0 0 0 [(0, va_rf (some th)), (1, .int p1), (2, .int p2)] [] m (g_X1_isLater_0 th p1 p2 m) := by
  unfold g_X1_isLater_0
  refine z_aload_n C dX1_isLater_0 rfl 0 rfl ?_
  refine z_chk (fun hk1 => ?_)
  refine z_getR C fl_RX1_9 rfl hk1 dX1_isLater_1 ?_
  refine z_iload_n C dX1_isLater_4 rfl 1 rfl ?_
  refine z_iconst (v := 4) C dX1_isLater_5 (by decide) ?_
  refine z_ck (fun a1 hr1 hk2 => ?_)
  refine z_cVI [.int p1, .int 4] [] C mv_RX1_73 (fun r0 m0 h0 => M_X5_ofThing _ _ _ _ _ _ _ _ h0) rfl rfl ⟨by rw [hrm]; exact Nat.le_of_ble_eq_true rfl, by rw [hrm]; exact Nat.le_of_ble_eq_true rfl⟩ ⟨by rw [hrm]; exact Nat.le_of_ble_eq_true rfl, by rw [hrm]; exact Nat.le_of_ble_eq_true rfl⟩ hr1 hk2 rfl rfl rfl (Nat.le_of_ble_eq_true rfl) dX1_isLater_6 (fun r1 m1 => ?_)
  refine z_istore_n (i := 3) (L2 := [(3, .int r1), (0, va_rf (some th)), (1, .int p1), (2, .int p2)]) C dX1_isLater_9 rfl (by decide) rfl ?_
  refine z_aload_n C dX1_isLater_10 rfl 1 rfl ?_
  refine z_chk (fun hk3 => ?_)
  refine z_getR C fl_RX1_9 rfl hk3 dX1_isLater_11 ?_
  refine z_iload_n C dX1_isLater_14 rfl 3 rfl ?_
  refine z_iconst (v := 4) C dX1_isLater_15 (by decide) ?_
  refine z_ck (fun a2 hr2 hk4 => ?_)
  refine z_cVI [.int p2, .int 4] [] C mv_RX1_73 (fun r0 m0 h0 => M_X5_ofThing _ _ _ _ _ _ _ _ h0) rfl rfl ⟨by rw [hrm]; exact Nat.le_of_ble_eq_true rfl, by rw [hrm]; exact Nat.le_of_ble_eq_true rfl⟩ ⟨by rw [hrm]; exact Nat.le_of_ble_eq_true rfl, by rw [hrm]; exact Nat.le_of_ble_eq_true rfl⟩ hr2 hk4 rfl rfl rfl (Nat.le_of_ble_eq_true rfl) dX1_isLater_16 (fun r2 m2 => ?_)
  refine z_istore (i := 4) (L2 := [(4, .int r2), (3, .int r1), (0, va_rf (some th)), (1, .int p1), (2, .int p2)]) C dX1_isLater_19 (by decide) rfl ?_
  refine z_iload_n C dX1_isLater_21 rfl 1 rfl ?_
  refine z_iload C dX1_isLater_22 0 rfl ?_
  refine z_icmp_gt (tgt := 38) C dX1_isLater_24 (by decide) (fun c1 => ?_) (fun c1 => ?_)
  · exact z_sub [2, 3, 4] rfl (s_X1_isLater_38 C hr hrm th p1 p2 m2)
  · refine z_iload_n C dX1_isLater_27 rfl 1 rfl ?_
    refine z_iload C dX1_isLater_28 0 rfl ?_
    refine z_icmp_ne (tgt := 42) C dX1_isLater_30 (by decide) (fun c2 => ?_) (fun c2 => ?_)
    · exact z_sub [2, 3, 4] rfl (s_X1_isLater_42 C hr hrm th p1 p2 m2)
    · refine z_iload_n C dX1_isLater_33 rfl 3 rfl ?_
      refine z_iload_n C dX1_isLater_34 rfl 4 rfl ?_
      refine z_icmp_le (tgt := 42) C dX1_isLater_35 (by decide) (fun c3 => ?_) (fun c3 => ?_)
      · exact z_sub [2, 3, 4] rfl (s_X1_isLater_42 C hr hrm th p1 p2 m2)
      · exact z_sub [2, 3, 4] rfl (s_X1_isLater_38 C hr hrm th p1 p2 m2)
def f_X1_isLater (th : Nat) (p1 : Int32) (p2 : Int32) (m : MM) : Option (Int32 × MM) := g_X1_isLater_0 th p1 p2 m
theorem M_X1_isLater (l : Launch) (E : EX) (th : Nat) (p1 : Int32) (p2 : Int32) (m : MM) (r : Int32) (m2 : MM) (h : f_X1_isLater th p1 p2 m = some (r, m2)) : Met l yX1_isLater (.code yX1_isLater cX1_isLater 5 (some .boolean) :: TB) rmX1_isLater (va_Pc [.ref th, .int p1, .int p2] (St E m)) (QR E (emI r) m2) 0 0 (AA E) :=
  met_of (em := emI) (plainFor_of_name rfl) (Nat.le_of_ble_eq_true rfl) (L0 := [(0, va_rf (some th)), (1, .int p1), (2, .int p2)]) rfl (fun Γ _ hrm C hr hn => s_X1_isLater_0 C hr hrm th p1 p2 m) h

theorem dX1_whoGoes_0 : decode cX1_whoGoes 0 = .ok (.aload_n 0, 1) := by decide +kernel
theorem dX1_whoGoes_1 : decode cX1_whoGoes 1 = .ok (.getfield 9, 3) := by decide +kernel
theorem dX1_whoGoes_4 : decode cX1_whoGoes 4 = .ok (.getfield 76, 3) := by decide +kernel
theorem dX1_whoGoes_7 : decode cX1_whoGoes 7 = .ok (.astore_n 2, 1) := by decide +kernel
theorem dX1_whoGoes_8 : decode cX1_whoGoes 8 = .ok (.aload_n 0, 1) := by decide +kernel
theorem dX1_whoGoes_9 : decode cX1_whoGoes 9 = .ok (.getfield 9, 3) := by decide +kernel
theorem dX1_whoGoes_12 : decode cX1_whoGoes 12 = .ok (.getfield 37, 3) := by decide +kernel
theorem dX1_whoGoes_15 : decode cX1_whoGoes 15 = .ok (.astore_n 3, 1) := by decide +kernel
theorem dX1_whoGoes_16 : decode cX1_whoGoes 16 = .ok (.aload_n 2, 1) := by decide +kernel
theorem dX1_whoGoes_17 : decode cX1_whoGoes 17 = .ok (.ifnull 7, 3) := by decide +kernel
theorem dX1_whoGoes_20 : decode cX1_whoGoes 20 = .ok (.aload_n 3, 1) := by decide +kernel
theorem dX1_whoGoes_21 : decode cX1_whoGoes 21 = .ok (.ifnonnull 5, 3) := by decide +kernel
theorem dX1_whoGoes_24 : decode cX1_whoGoes 24 = .ok (.iconst (-1), 1) := by decide +kernel
theorem dX1_whoGoes_25 : decode cX1_whoGoes 25 = .ok (.ireturn, 1) := by decide +kernel
theorem dX1_whoGoes_26 : decode cX1_whoGoes 26 = .ok (.aload_n 0, 1) := by decide +kernel
theorem dX1_whoGoes_27 : decode cX1_whoGoes 27 = .ok (.iload_n 1, 1) := by decide +kernel
theorem dX1_whoGoes_28 : decode cX1_whoGoes 28 = .ok (.invokevirtual 80, 3) := by decide +kernel
theorem dX1_whoGoes_31 : decode cX1_whoGoes 31 = .ok (.istore 4, 2) := by decide +kernel
theorem dX1_whoGoes_33 : decode cX1_whoGoes 33 = .ok (.aload_n 0, 1) := by decide +kernel
theorem dX1_whoGoes_34 : decode cX1_whoGoes 34 = .ok (.iload_n 1, 1) := by decide +kernel
theorem dX1_whoGoes_35 : decode cX1_whoGoes 35 = .ok (.invokevirtual 83, 3) := by decide +kernel
theorem dX1_whoGoes_38 : decode cX1_whoGoes 38 = .ok (.istore 5, 2) := by decide +kernel
theorem dX1_whoGoes_40 : decode cX1_whoGoes 40 = .ok (.aload_n 3, 1) := by decide +kernel
theorem dX1_whoGoes_41 : decode cX1_whoGoes 41 = .ok (.getfield 86, 3) := by decide +kernel
theorem dX1_whoGoes_44 : decode cX1_whoGoes 44 = .ok (.ifCond .ne 14, 3) := by decide +kernel
theorem dX1_whoGoes_47 : decode cX1_whoGoes 47 = .ok (.aload_n 0, 1) := by decide +kernel
theorem dX1_whoGoes_48 : decode cX1_whoGoes 48 = .ok (.iload 4, 2) := by decide +kernel
theorem dX1_whoGoes_50 : decode cX1_whoGoes 50 = .ok (.iload 5, 2) := by decide +kernel
theorem dX1_whoGoes_52 : decode cX1_whoGoes 52 = .ok (.invokevirtual 90, 3) := by decide +kernel
theorem dX1_whoGoes_55 : decode cX1_whoGoes 55 = .ok (.ifCond .eq 8, 3) := by decide +kernel
theorem dX1_whoGoes_58 : decode cX1_whoGoes 58 = .ok (.iload 4, 2) := by decide +kernel
theorem dX1_whoGoes_60 : decode cX1_whoGoes 60 = .ok (.goto 5, 3) := by decide +kernel
theorem dX1_whoGoes_63 : decode cX1_whoGoes 63 = .ok (.iload 5, 2) := by decide +kernel
theorem dX1_whoGoes_65 : decode cX1_whoGoes 65 = .ok (.istore 6, 2) := by decide +kernel
theorem dX1_whoGoes_67 : decode cX1_whoGoes 67 = .ok (.iload 6, 2) := by decide +kernel
theorem dX1_whoGoes_69 : decode cX1_whoGoes 69 = .ok (.iload 4, 2) := by decide +kernel
theorem dX1_whoGoes_71 : decode cX1_whoGoes 71 = .ok (.if_icmp .ne 8, 3) := by decide +kernel
theorem dX1_whoGoes_74 : decode cX1_whoGoes 74 = .ok (.iload 5, 2) := by decide +kernel
theorem dX1_whoGoes_76 : decode cX1_whoGoes 76 = .ok (.goto 5, 3) := by decide +kernel
theorem dX1_whoGoes_79 : decode cX1_whoGoes 79 = .ok (.iload 4, 2) := by decide +kernel
theorem dX1_whoGoes_81 : decode cX1_whoGoes 81 = .ok (.istore 7, 2) := by decide +kernel
theorem dX1_whoGoes_83 : decode cX1_whoGoes 83 = .ok (.aload_n 0, 1) := by decide +kernel
theorem dX1_whoGoes_84 : decode cX1_whoGoes 84 = .ok (.getfield 9, 3) := by decide +kernel
theorem dX1_whoGoes_87 : decode cX1_whoGoes 87 = .ok (.iload 6, 2) := by decide +kernel
theorem dX1_whoGoes_89 : decode cX1_whoGoes 89 = .ok (.iconst 4, 1) := by decide +kernel
theorem dX1_whoGoes_90 : decode cX1_whoGoes 90 = .ok (.invokevirtual 73, 3) := by decide +kernel
theorem dX1_whoGoes_93 : decode cX1_whoGoes 93 = .ok (.istore 8, 2) := by decide +kernel
theorem dX1_whoGoes_95 : decode cX1_whoGoes 95 = .ok (.aload_n 0, 1) := by decide +kernel
theorem dX1_whoGoes_96 : decode cX1_whoGoes 96 = .ok (.getfield 9, 3) := by decide +kernel
theorem dX1_whoGoes_99 : decode cX1_whoGoes 99 = .ok (.iload 7, 2) := by decide +kernel
theorem dX1_whoGoes_101 : decode cX1_whoGoes 101 = .ok (.iconst 3, 1) := by decide +kernel
theorem dX1_whoGoes_102 : decode cX1_whoGoes 102 = .ok (.invokevirtual 73, 3) := by decide +kernel
theorem dX1_whoGoes_105 : decode cX1_whoGoes 105 = .ok (.istore 9, 2) := by decide +kernel
theorem dX1_whoGoes_107 : decode cX1_whoGoes 107 = .ok (.aload_n 3, 1) := by decide +kernel
theorem dX1_whoGoes_108 : decode cX1_whoGoes 108 = .ok (.getfield 93, 3) := by decide +kernel
theorem dX1_whoGoes_111 : decode cX1_whoGoes 111 = .ok (.ifCond .eq 26, 3) := by decide +kernel
theorem dX1_whoGoes_114 : decode cX1_whoGoes 114 = .ok (.aload_n 2, 1) := by decide +kernel
theorem dX1_whoGoes_115 : decode cX1_whoGoes 115 = .ok (.iload 9, 2) := by decide +kernel
theorem dX1_whoGoes_117 : decode cX1_whoGoes 117 = .ok (.aload_n 0, 1) := by decide +kernel
theorem dX1_whoGoes_118 : decode cX1_whoGoes 118 = .ok (.getfield 9, 3) := by decide +kernel
theorem dX1_whoGoes_121 : decode cX1_whoGoes 121 = .ok (.iload 6, 2) := by decide +kernel
theorem dX1_whoGoes_123 : decode cX1_whoGoes 123 = .ok (.iconst 3, 1) := by decide +kernel
theorem dX1_whoGoes_124 : decode cX1_whoGoes 124 = .ok (.invokevirtual 73, 3) := by decide +kernel
theorem dX1_whoGoes_127 : decode cX1_whoGoes 127 = .ok (.iload 8, 2) := by decide +kernel
theorem dX1_whoGoes_129 : decode cX1_whoGoes 129 = .ok (.invokevirtual 96, 3) := by decide +kernel
theorem dX1_whoGoes_132 : decode cX1_whoGoes 132 = .ok (.ifCond .eq 5, 3) := by decide +kernel
theorem dX1_whoGoes_135 : decode cX1_whoGoes 135 = .ok (.iconst (-1), 1) := by decide +kernel
theorem dX1_whoGoes_136 : decode cX1_whoGoes 136 = .ok (.ireturn, 1) := by decide +kernel
theorem dX1_whoGoes_137 : decode cX1_whoGoes 137 = .ok (.iload 8, 2) := by decide +kernel
theorem dX1_whoGoes_139 : decode cX1_whoGoes 139 = .ok (.aload_n 0, 1) := by decide +kernel
theorem dX1_whoGoes_140 : decode cX1_whoGoes 140 = .ok (.getfield 9, 3) := by decide +kernel
theorem dX1_whoGoes_143 : decode cX1_whoGoes 143 = .ok (.iload 7, 2) := by decide +kernel
theorem dX1_whoGoes_145 : decode cX1_whoGoes 145 = .ok (.iconst 4, 1) := by decide +kernel
theorem dX1_whoGoes_146 : decode cX1_whoGoes 146 = .ok (.invokevirtual 73, 3) := by decide +kernel
theorem dX1_whoGoes_149 : decode cX1_whoGoes 149 = .ok (.invokestatic 102, 3) := by decide +kernel
theorem dX1_whoGoes_152 : decode cX1_whoGoes 152 = .ok (.istore 10, 2) := by decide +kernel
theorem dX1_whoGoes_154 : decode cX1_whoGoes 154 = .ok (.iload 10, 2) := by decide +kernel
theorem dX1_whoGoes_156 : decode cX1_whoGoes 156 = .ok (.aload_n 3, 1) := by decide +kernel
theorem dX1_whoGoes_157 : decode cX1_whoGoes 157 = .ok (.getfield 107, 3) := by decide +kernel
theorem dX1_whoGoes_160 : decode cX1_whoGoes 160 = .ok (.iadd, 1) := by decide +kernel
theorem dX1_whoGoes_161 : decode cX1_whoGoes 161 = .ok (.istore 11, 2) := by decide +kernel
theorem dX1_whoGoes_163 : decode cX1_whoGoes 163 = .ok (.aload_n 3, 1) := by decide +kernel
theorem dX1_whoGoes_164 : decode cX1_whoGoes 164 = .ok (.getfield 107, 3) := by decide +kernel
theorem dX1_whoGoes_167 : decode cX1_whoGoes 167 = .ok (.ifCond .le 32, 3) := by decide +kernel
theorem dX1_whoGoes_170 : decode cX1_whoGoes 170 = .ok (.aload_n 0, 1) := by decide +kernel
theorem dX1_whoGoes_171 : decode cX1_whoGoes 171 = .ok (.getfield 9, 3) := by decide +kernel
theorem dX1_whoGoes_174 : decode cX1_whoGoes 174 = .ok (.getfield 110, 3) := by decide +kernel
theorem dX1_whoGoes_177 : decode cX1_whoGoes 177 = .ok (.iload 11, 2) := by decide +kernel
theorem dX1_whoGoes_179 : decode cX1_whoGoes 179 = .ok (.if_icmp .lt 20, 3) := by decide +kernel
theorem dX1_whoGoes_182 : decode cX1_whoGoes 182 = .ok (.aload_n 2, 1) := by decide +kernel
theorem dX1_whoGoes_183 : decode cX1_whoGoes 183 = .ok (.iload 7, 2) := by decide +kernel
theorem dX1_whoGoes_185 : decode cX1_whoGoes 185 = .ok (.iload 6, 2) := by decide +kernel
theorem dX1_whoGoes_187 : decode cX1_whoGoes 187 = .ok (.iload 10, 2) := by decide +kernel
theorem dX1_whoGoes_189 : decode cX1_whoGoes 189 = .ok (.iload 11, 2) := by decide +kernel
theorem dX1_whoGoes_191 : decode cX1_whoGoes 191 = .ok (.invokevirtual 113, 3) := by decide +kernel
theorem dX1_whoGoes_194 : decode cX1_whoGoes 194 = .ok (.ifCond .ne 5, 3) := by decide +kernel
theorem dX1_whoGoes_197 : decode cX1_whoGoes 197 = .ok (.iconst (-1), 1) := by decide +kernel
theorem dX1_whoGoes_198 : decode cX1_whoGoes 198 = .ok (.ireturn, 1) := by decide +kernel
theorem dX1_whoGoes_199 : decode cX1_whoGoes 199 = .ok (.iload 6, 2) := by decide +kernel
theorem dX1_whoGoes_201 : decode cX1_whoGoes 201 = .ok (.ireturn, 1) := by decide +kernel
def rmX1_whoGoes : Room := { frames := 3, cells := 0, slots := 0, locals := 69 }
set_option maxRecDepth 100000 in
def g_X1_whoGoes_137 (th : Nat) (p1 : Int32) (x2 : Option Nat) (x3 : Option Nat) (x6 : Int32) (x7 : Int32) (x8 : Int32) (m : MM) : Option (Int32 × MM) :=
  chk (m.K th = 2) (ck m (m.R 200 th 0) 6 (fun a1 => cal (f_X5_ofThing a1 x7 4 m) (fun r1 m1 => cal (f_J9_max_7cf53 x8 r1 m1) (fun r2 m2 => ck m2 x3 3 (fun a2 => bnd (r2 + (m2.I 303 a2 0)) (fun y1 => if (m2.I 303 a2 0) ≤ 0 then (some (x6, m2)) else (chk (m2.K th = 2) (ck m2 (m2.R 200 th 0) 6 (fun a3 => if (m2.I 604 a3 0) < y1 then (some (x6, m2)) else (ck m2 x2 9 (fun a4 => cal (f_X8_objected a4 x7 x6 r2 y1 m2) (fun r3 m3 => if r3 = 0 then (some ((-1), m3)) else (some (x6, m3))))))))))))))
set_option maxHeartbeats 4000000 in
set_option maxRecDepth 100000 in
theorem s_X1_whoGoes_137 {Γ : GX} {E : EX} (C : Cx Γ E cX1_whoGoes RX1 12) (hr : Γ.meth.sig.returnType = (some .int)) (hrm : Γ.rm = rmX1_whoGoes) (th : Nat) (p1 : Int32) (x2 : Option Nat) (x3 : Option Nat) (x6 : Int32) (x7 : Int32) (x8 : Int32) (m : MM) : Sm (QM Γ E emI 0 0) Γ E 12 0 0 137 [(0, va_rf (some th)), (1, .int p1), (2, va_rf x2), (3, va_rf x3), (6, .int x6), (7, .int x7), (8, .int x8)] [] m (g_X1_whoGoes_137 th p1 x2 x3 x6 x7 x8 m) := by
  unfold g_X1_whoGoes_137
  refine z_iload C dX1_whoGoes_137 6 rfl ?_
  refine z_aload_n C dX1_whoGoes_139 rfl 0 rfl ?_
  refine z_chk (fun hk1 => ?_)
  refine z_getR C fl_RX1_9 rfl hk1 dX1_whoGoes_140 ?_
  refine z_iload C dX1_whoGoes_143 5 rfl ?_
  refine z_iconst (v := 4) C dX1_whoGoes_145 (by decide) ?_
  refine z_ck (fun a1 hr1 hk2 => ?_)
  refine z_cVI [.int x7, .int 4] [.int x8] C mv_RX1_73 (fun r0 m0 h0 => M_X5_ofThing _ _ _ _ _ _ _ _ h0) rfl rfl ⟨by rw [hrm]; exact Nat.le_of_ble_eq_true rfl, by rw [hrm]; exact Nat.le_of_ble_eq_true rfl⟩ ⟨by rw [hrm]; exact Nat.le_of_ble_eq_true rfl, by rw [hrm]; exact Nat.le_of_ble_eq_true rfl⟩ hr1 hk2 rfl rfl rfl (Nat.le_of_ble_eq_true rfl) dX1_whoGoes_146 (fun r1 m1 => ?_)
  refine z_cSI [.int x8, .int r1] [] C mv_RX1_102 (fun r0 m0 h0 => M_J9_max_7cf53 _ _ _ _ _ _ _ h0) rfl rfl ⟨by rw [hrm]; exact Nat.le_of_ble_eq_true rfl, by rw [hrm]; exact Nat.le_of_ble_eq_true rfl⟩ ⟨by rw [hrm]; exact Nat.le_of_ble_eq_true rfl, by rw [hrm]; exact Nat.le_of_ble_eq_true rfl⟩ rfl rfl (Nat.le_of_ble_eq_true rfl) dX1_whoGoes_149 (fun r2 m2 => ?_)
  refine z_istore (i := 10) (L2 := [(10, .int r2), (0, va_rf (some th)), (1, .int p1), (2, va_rf x2), (3, va_rf x3), (6, .int x6), (7, .int x7), (8, .int x8)]) C dX1_whoGoes_152 (by decide) rfl ?_
  refine z_iload C dX1_whoGoes_154 0 rfl ?_
  refine z_aload_n C dX1_whoGoes_156 rfl 4 rfl ?_
  refine z_ck (fun a2 hr2 hk3 => ?_)
  refine z_getI C fl_RX1_107 hr2 hk3 dX1_whoGoes_157 ?_
  refine z_iadd C dX1_whoGoes_160 ?_
  refine z_bndI (fun y1 => ?_)
  refine z_istore (i := 11) (L2 := [(11, .int y1), (10, .int r2), (0, va_rf (some th)), (1, .int p1), (2, va_rf x2), (3, va_rf x3), (6, .int x6), (7, .int x7), (8, .int x8)]) C dX1_whoGoes_161 (by decide) rfl ?_
  refine z_aload_n C dX1_whoGoes_163 rfl 5 rfl ?_
  refine z_getI C fl_RX1_107 hr2 hk3 dX1_whoGoes_164 ?_
  refine z_if_le (tgt := 199) C dX1_whoGoes_167 (by decide) (fun c1 => ?_) (fun c1 => ?_)
  · refine z_iload C dX1_whoGoes_199 6 rfl ?_
    exact z_iret C hr dX1_whoGoes_201
  · refine z_aload_n C dX1_whoGoes_170 rfl 2 rfl ?_
    refine z_chk (fun hk4 => ?_)
    refine z_getR C fl_RX1_9 rfl hk4 dX1_whoGoes_171 ?_
    refine z_ck (fun a3 hr3 hk5 => ?_)
    refine z_getI C fl_RX1_110 hr3 hk5 dX1_whoGoes_174 ?_
    refine z_iload C dX1_whoGoes_177 0 rfl ?_
    refine z_icmp_lt (tgt := 199) C dX1_whoGoes_179 (by decide) (fun c2 => ?_) (fun c2 => ?_)
    · refine z_iload C dX1_whoGoes_199 6 rfl ?_
      exact z_iret C hr dX1_whoGoes_201
    · refine z_aload_n C dX1_whoGoes_182 rfl 4 rfl ?_
      refine z_iload C dX1_whoGoes_183 7 rfl ?_
      refine z_iload C dX1_whoGoes_185 6 rfl ?_
      refine z_iload C dX1_whoGoes_187 1 rfl ?_
      refine z_iload C dX1_whoGoes_189 0 rfl ?_
      refine z_ck (fun a4 hr4 hk6 => ?_)
      refine z_cVI [.int x7, .int x6, .int r2, .int y1] [] C mv_RX1_113 (fun r0 m0 h0 => M_X8_objected _ _ _ _ _ _ _ _ _ _ h0) rfl rfl ⟨by rw [hrm]; exact Nat.le_of_ble_eq_true rfl, by rw [hrm]; exact Nat.le_of_ble_eq_true rfl⟩ ⟨by rw [hrm]; exact Nat.le_of_ble_eq_true rfl, by rw [hrm]; exact Nat.le_of_ble_eq_true rfl⟩ hr4 hk6 rfl rfl rfl (Nat.le_of_ble_eq_true rfl) dX1_whoGoes_191 (fun r3 m3 => ?_)
      refine z_if_ne (tgt := 199) C dX1_whoGoes_194 (by decide) (fun c3 => ?_) (fun c3 => ?_)
      · refine z_iload C dX1_whoGoes_199 6 rfl ?_
        exact z_iret C hr dX1_whoGoes_201
      · refine z_iconst (v := (-1)) C dX1_whoGoes_197 (by decide) ?_
        exact z_iret C hr dX1_whoGoes_198
set_option maxRecDepth 100000 in
def g_X1_whoGoes_81 (th : Nat) (p1 : Int32) (x2 : Option Nat) (x3 : Option Nat) (x6 : Int32) (s0 : Int32) (m : MM) : Option (Int32 × MM) :=
  chk (m.K th = 2) (ck m (m.R 200 th 0) 6 (fun a5 => cal (f_X5_ofThing a5 x6 4 m) (fun r4 m4 => chk (m4.K th = 2) (ck m4 (m4.R 200 th 0) 6 (fun a6 => cal (f_X5_ofThing a6 s0 3 m4) (fun r5 m5 => ck m5 x3 3 (fun a7 => if (m5.I 302 a7 0) = 0 then (g_X1_whoGoes_137 th p1 x2 x3 x6 s0 r4 m5) else (chk (m5.K th = 2) (ck m5 (m5.R 200 th 0) 6 (fun a8 => cal (f_X5_ofThing a8 x6 3 m5) (fun r6 m6 => ck m6 x2 9 (fun a9 => cal (f_X8_gaveLeave a9 r5 r6 r4 m6) (fun r7 m7 => if r7 = 0 then (g_X1_whoGoes_137 th p1 x2 x3 x6 s0 r4 m7) else (some ((-1), m7)))))))))))))))
set_option maxHeartbeats 4000000 in
set_option maxRecDepth 100000 in
theorem s_X1_whoGoes_81 {Γ : GX} {E : EX} (C : Cx Γ E cX1_whoGoes RX1 12) (hr : Γ.meth.sig.returnType = (some .int)) (hrm : Γ.rm = rmX1_whoGoes) (th : Nat) (p1 : Int32) (x2 : Option Nat) (x3 : Option Nat) (x6 : Int32) (s0 : Int32) (m : MM) : Sm (QM Γ E emI 0 0) Γ E 12 0 0 81 [(0, va_rf (some th)), (1, .int p1), (2, va_rf x2), (3, va_rf x3), (6, .int x6)] [.int s0] m (g_X1_whoGoes_81 th p1 x2 x3 x6 s0 m) := by
  unfold g_X1_whoGoes_81
  refine z_istore (i := 7) (L2 := [(7, .int s0), (0, va_rf (some th)), (1, .int p1), (2, va_rf x2), (3, va_rf x3), (6, .int x6)]) C dX1_whoGoes_81 (by decide) rfl ?_
  refine z_aload_n C dX1_whoGoes_83 rfl 1 rfl ?_
  refine z_chk (fun hk7 => ?_)
  refine z_getR C fl_RX1_9 rfl hk7 dX1_whoGoes_84 ?_
  refine z_iload C dX1_whoGoes_87 5 rfl ?_
  refine z_iconst (v := 4) C dX1_whoGoes_89 (by decide) ?_
  refine z_ck (fun a5 hr5 hk8 => ?_)
  refine z_cVI [.int x6, .int 4] [] C mv_RX1_73 (fun r0 m0 h0 => M_X5_ofThing _ _ _ _ _ _ _ _ h0) rfl rfl ⟨by rw [hrm]; exact Nat.le_of_ble_eq_true rfl, by rw [hrm]; exact Nat.le_of_ble_eq_true rfl⟩ ⟨by rw [hrm]; exact Nat.le_of_ble_eq_true rfl, by rw [hrm]; exact Nat.le_of_ble_eq_true rfl⟩ hr5 hk8 rfl rfl rfl (Nat.le_of_ble_eq_true rfl) dX1_whoGoes_90 (fun r4 m4 => ?_)
  refine z_istore (i := 8) (L2 := [(8, .int r4), (7, .int s0), (0, va_rf (some th)), (1, .int p1), (2, va_rf x2), (3, va_rf x3), (6, .int x6)]) C dX1_whoGoes_93 (by decide) rfl ?_
  refine z_aload_n C dX1_whoGoes_95 rfl 2 rfl ?_
  refine z_chk (fun hk9 => ?_)
  refine z_getR C fl_RX1_9 rfl hk9 dX1_whoGoes_96 ?_
  refine z_iload C dX1_whoGoes_99 1 rfl ?_
  refine z_iconst (v := 3) C dX1_whoGoes_101 (by decide) ?_
  refine z_ck (fun a6 hr6 hk10 => ?_)
  refine z_cVI [.int s0, .int 3] [] C mv_RX1_73 (fun r0 m0 h0 => M_X5_ofThing _ _ _ _ _ _ _ _ h0) rfl rfl ⟨by rw [hrm]; exact Nat.le_of_ble_eq_true rfl, by rw [hrm]; exact Nat.le_of_ble_eq_true rfl⟩ ⟨by rw [hrm]; exact Nat.le_of_ble_eq_true rfl, by rw [hrm]; exact Nat.le_of_ble_eq_true rfl⟩ hr6 hk10 rfl rfl rfl (Nat.le_of_ble_eq_true rfl) dX1_whoGoes_102 (fun r5 m5 => ?_)
  refine z_istore (i := 9) (L2 := [(9, .int r5), (8, .int r4), (7, .int s0), (0, va_rf (some th)), (1, .int p1), (2, va_rf x2), (3, va_rf x3), (6, .int x6)]) C dX1_whoGoes_105 (by decide) rfl ?_
  refine z_aload_n C dX1_whoGoes_107 rfl 6 rfl ?_
  refine z_ck (fun a7 hr7 hk11 => ?_)
  refine z_getI C fl_RX1_93 hr7 hk11 dX1_whoGoes_108 ?_
  refine z_if_eq (tgt := 137) C dX1_whoGoes_111 (by decide) (fun c4 => ?_) (fun c4 => ?_)
  · exact z_sub [3, 4, 5, 6, 7, 2, 1] rfl (s_X1_whoGoes_137 C hr hrm th p1 x2 x3 x6 s0 r4 m5)
  · refine z_aload_n C dX1_whoGoes_114 rfl 5 rfl ?_
    refine z_iload C dX1_whoGoes_115 0 rfl ?_
    refine z_aload_n C dX1_whoGoes_117 rfl 3 rfl ?_
    refine z_chk (fun hk12 => ?_)
    refine z_getR C fl_RX1_9 rfl hk12 dX1_whoGoes_118 ?_
    refine z_iload C dX1_whoGoes_121 7 rfl ?_
    refine z_iconst (v := 3) C dX1_whoGoes_123 (by decide) ?_
    refine z_ck (fun a8 hr8 hk13 => ?_)
    refine z_cVI [.int x6, .int 3] [.int r5, va_rf x2] C mv_RX1_73 (fun r0 m0 h0 => M_X5_ofThing _ _ _ _ _ _ _ _ h0) rfl rfl ⟨by rw [hrm]; exact Nat.le_of_ble_eq_true rfl, by rw [hrm]; exact Nat.le_of_ble_eq_true rfl⟩ ⟨by rw [hrm]; exact Nat.le_of_ble_eq_true rfl, by rw [hrm]; exact Nat.le_of_ble_eq_true rfl⟩ hr8 hk13 rfl rfl rfl (by simp [cat_rf, cat_i, cat_l, cat_a]) dX1_whoGoes_124 (fun r6 m6 => ?_)
    refine z_iload C dX1_whoGoes_127 1 rfl ?_
    refine z_ck (fun a9 hr9 hk14 => ?_)
    refine z_cVI [.int r5, .int r6, .int r4] [] C mv_RX1_96 (fun r0 m0 h0 => M_X8_gaveLeave _ _ _ _ _ _ _ _ _ h0) rfl rfl ⟨by rw [hrm]; exact Nat.le_of_ble_eq_true rfl, by rw [hrm]; exact Nat.le_of_ble_eq_true rfl⟩ ⟨by rw [hrm]; exact Nat.le_of_ble_eq_true rfl, by rw [hrm]; exact Nat.le_of_ble_eq_true rfl⟩ hr9 hk14 rfl rfl rfl (Nat.le_of_ble_eq_true rfl) dX1_whoGoes_129 (fun r7 m7 => ?_)
    refine z_if_eq (tgt := 137) C dX1_whoGoes_132 (by decide) (fun c5 => ?_) (fun c5 => ?_)
    · exact z_sub [3, 4, 5, 6, 7, 2, 1] rfl (s_X1_whoGoes_137 C hr hrm th p1 x2 x3 x6 s0 r4 m7)
    · refine z_iconst (v := (-1)) C dX1_whoGoes_135 (by decide) ?_
      exact z_iret C hr dX1_whoGoes_136
set_option maxRecDepth 100000 in
def g_X1_whoGoes_65 (th : Nat) (p1 : Int32) (x2 : Option Nat) (x3 : Option Nat) (x4 : Int32) (x5 : Int32) (s0 : Int32) (m : MM) : Option (Int32 × MM) :=
  if s0 = x4 then (g_X1_whoGoes_81 th p1 x2 x3 s0 x5 m) else (g_X1_whoGoes_81 th p1 x2 x3 s0 x4 m)
set_option maxHeartbeats 4000000 in
set_option maxRecDepth 100000 in
theorem s_X1_whoGoes_65 {Γ : GX} {E : EX} (C : Cx Γ E cX1_whoGoes RX1 12) (hr : Γ.meth.sig.returnType = (some .int)) (hrm : Γ.rm = rmX1_whoGoes) (th : Nat) (p1 : Int32) (x2 : Option Nat) (x3 : Option Nat) (x4 : Int32) (x5 : Int32) (s0 : Int32) (m : MM) : Sm (QM Γ E emI 0 0) Γ E 12 0 0 65 [(0, va_rf (some th)), (1, .int p1), (2, va_rf x2), (3, va_rf x3), (4, .int x4), (5, .int x5)] [.int s0] m (g_X1_whoGoes_65 th p1 x2 x3 x4 x5 s0 m) := by
  unfold g_X1_whoGoes_65
  refine z_istore (i := 6) (L2 := [(6, .int s0), (0, va_rf (some th)), (1, .int p1), (2, va_rf x2), (3, va_rf x3), (4, .int x4), (5, .int x5)]) C dX1_whoGoes_65 (by decide) rfl ?_
  refine z_iload C dX1_whoGoes_67 0 rfl ?_
  refine z_iload C dX1_whoGoes_69 5 rfl ?_
  refine z_icmp_ne (tgt := 79) C dX1_whoGoes_71 (by decide) (fun c6 => ?_) (fun c6 => ?_)
  · refine z_iload C dX1_whoGoes_79 5 rfl ?_
    exact z_sub [1, 2, 3, 4, 0] rfl (s_X1_whoGoes_81 C hr hrm th p1 x2 x3 s0 x4 m)
  · refine z_iload C dX1_whoGoes_74 6 rfl ?_
    refine z_goto (tgt := 81) C dX1_whoGoes_76 (by decide) ?_
    exact z_sub [1, 2, 3, 4, 0] rfl (s_X1_whoGoes_81 C hr hrm th p1 x2 x3 s0 x5 m)
set_option maxRecDepth 100000 in
def g_X1_whoGoes_58 (th : Nat) (p1 : Int32) (x2 : Option Nat) (x3 : Option Nat) (x4 : Int32) (x5 : Int32) (m : MM) : Option (Int32 × MM) :=
  g_X1_whoGoes_65 th p1 x2 x3 x4 x5 x4 m
set_option maxHeartbeats 4000000 in
set_option maxRecDepth 100000 in
theorem s_X1_whoGoes_58 {Γ : GX} {E : EX} (C : Cx Γ E cX1_whoGoes RX1 12) (hr : Γ.meth.sig.returnType = (some .int)) (hrm : Γ.rm = rmX1_whoGoes) (th : Nat) (p1 : Int32) (x2 : Option Nat) (x3 : Option Nat) (x4 : Int32) (x5 : Int32) (m : MM) : Sm (QM Γ E emI 0 0) Γ E 12 0 0 58 [(0, va_rf (some th)), (1, .int p1), (2, va_rf x2), (3, va_rf x3), (4, .int x4), (5, .int x5)] [] m (g_X1_whoGoes_58 th p1 x2 x3 x4 x5 m) := by
  unfold g_X1_whoGoes_58
  refine z_iload C dX1_whoGoes_58 4 rfl ?_
  refine z_goto (tgt := 65) C dX1_whoGoes_60 (by decide) ?_
  exact z_sub [0, 1, 2, 3, 4, 5] rfl (s_X1_whoGoes_65 C hr hrm th p1 x2 x3 x4 x5 x4 m)
set_option maxRecDepth 100000 in
def g_X1_whoGoes_0 (th : Nat) (p1 : Int32) (m : MM) : Option (Int32 × MM) :=
  chk (m.K th = 2) (ck m (m.R 200 th 0) 6 (fun a10 => bnd (m.R 602 a10 0) (fun y2 => bnd (m.R 603 a10 0) (fun y3 => ifn y2 (some ((-1), m)) (fun a11 => ifn y3 (some ((-1), m)) (fun a12 => cal (f_X1_firstOf th p1 m) (fun r8 m8 => chk (m8.K th = 2) (cal (f_X1_secondOf th p1 m8) (fun r9 m9 => chk (m9.K a12 = 3) (if (m9.I 301 a12 0) = 0 then (chk (m9.K th = 2) (cal (f_X1_isLater th r8 r9 m9) (fun r10 m10 => if r10 = 0 then (g_X1_whoGoes_65 th p1 y2 y3 r8 r9 r9 m10) else (g_X1_whoGoes_58 th p1 y2 y3 r8 r9 m10)))) else (g_X1_whoGoes_58 th p1 y2 y3 r8 r9 m9)))))))))))
set_option maxHeartbeats 4000000 in
set_option maxRecDepth 100000 in
theorem s_X1_whoGoes_0 {Γ : GX} {E : EX} (C : Cx Γ E cX1_whoGoes RX1 12) (hr : Γ.meth.sig.returnType = (some .int)) (hrm : Γ.rm = rmX1_whoGoes) (th : Nat) (p1 : Int32) (m : MM) : Sm (QM Γ E emI 0 0) Γ E 12 0 0 0 [(0, va_rf (some th)), (1, .int p1)] [] m (g_X1_whoGoes_0 th p1 m) := by
  unfold g_X1_whoGoes_0
  refine z_aload_n C dX1_whoGoes_0 rfl 0 rfl ?_
  refine z_chk (fun hk15 => ?_)
  refine z_getR C fl_RX1_9 rfl hk15 dX1_whoGoes_1 ?_
  refine z_ck (fun a10 hr10 hk16 => ?_)
  refine z_getR C fl_RX1_76 hr10 hk16 dX1_whoGoes_4 ?_
  refine z_bndR (fun y2 => ?_)
  refine z_astore_n (i := 2) (L2 := [(2, va_rf y2), (0, va_rf (some th)), (1, .int p1)]) C dX1_whoGoes_7 rfl (by decide) rfl ?_
  refine z_aload_n C dX1_whoGoes_8 rfl 1 rfl ?_
  refine z_getR C fl_RX1_9 rfl hk15 dX1_whoGoes_9 ?_
  refine z_getR C fl_RX1_37 hr10 hk16 dX1_whoGoes_12 ?_
  refine z_bndR (fun y3 => ?_)
  refine z_astore_n (i := 3) (L2 := [(3, va_rf y3), (2, va_rf y2), (0, va_rf (some th)), (1, .int p1)]) C dX1_whoGoes_15 rfl (by decide) (by simp [cat_rf, cat_i, cat_l, cat_a]) ?_
  refine z_aload_n C dX1_whoGoes_16 rfl 1 rfl ?_
  refine z_ifnull (tgt := 24) C dX1_whoGoes_17 (by decide) (fun hn1 => ?_) (fun a11 ha1 => ?_)
  · refine z_iconst (v := (-1)) C dX1_whoGoes_24 (by decide) ?_
    exact z_iret C hr dX1_whoGoes_25
  · refine z_aload_n C dX1_whoGoes_20 rfl 0 rfl ?_
    refine z_ifnonnull (tgt := 26) C dX1_whoGoes_21 (by decide) (fun a12 ha2 => ?_) (fun hn2 => ?_)
    · refine z_aload_n C dX1_whoGoes_26 rfl 2 rfl ?_
      refine z_iload_n C dX1_whoGoes_27 rfl 3 rfl ?_
      refine z_cVI [.int p1] [] C mv_RX1_80 (fun r0 m0 h0 => M_X1_firstOf _ _ _ _ _ _ _ h0) rfl rfl ⟨by rw [hrm]; exact Nat.le_of_ble_eq_true rfl, by rw [hrm]; exact Nat.le_of_ble_eq_true rfl⟩ ⟨by rw [hrm]; exact Nat.le_of_ble_eq_true rfl, by rw [hrm]; exact Nat.le_of_ble_eq_true rfl⟩ rfl hk15 rfl rfl rfl (Nat.le_of_ble_eq_true rfl) dX1_whoGoes_28 (fun r8 m8 => ?_)
      refine z_istore (i := 4) (L2 := [(4, .int r8), (3, va_rf y3), (2, va_rf y2), (0, va_rf (some th)), (1, .int p1)]) C dX1_whoGoes_31 (by decide) (by simp [cat_rf, cat_i, cat_l, cat_a]) ?_
      refine z_aload_n C dX1_whoGoes_33 rfl 3 rfl ?_
      refine z_iload_n C dX1_whoGoes_34 rfl 4 rfl ?_
      refine z_chk (fun hk17 => ?_)
      refine z_cVI [.int p1] [] C mv_RX1_83 (fun r0 m0 h0 => M_X1_secondOf _ _ _ _ _ _ _ h0) rfl rfl ⟨by rw [hrm]; exact Nat.le_of_ble_eq_true rfl, by rw [hrm]; exact Nat.le_of_ble_eq_true rfl⟩ ⟨by rw [hrm]; exact Nat.le_of_ble_eq_true rfl, by rw [hrm]; exact Nat.le_of_ble_eq_true rfl⟩ rfl hk17 rfl rfl rfl (Nat.le_of_ble_eq_true rfl) dX1_whoGoes_35 (fun r9 m9 => ?_)
      refine z_istore (i := 5) (L2 := [(5, .int r9), (4, .int r8), (3, va_rf y3), (2, va_rf y2), (0, va_rf (some th)), (1, .int p1)]) C dX1_whoGoes_38 (by decide) rfl ?_
      refine z_aload_n C dX1_whoGoes_40 rfl 2 rfl ?_
      refine z_chk (fun hk18 => ?_)
      refine z_getI C fl_RX1_86 ha2 hk18 dX1_whoGoes_41 ?_
      refine z_if_ne (tgt := 58) C dX1_whoGoes_44 (by decide) (fun c7 => ?_) (fun c7 => ?_)
      · exact z_sub [4, 5, 3, 2, 1, 0] rfl (s_X1_whoGoes_58 C hr hrm th p1 y2 y3 r8 r9 m9)
      · refine z_aload_n C dX1_whoGoes_47 rfl 4 rfl ?_
        refine z_iload C dX1_whoGoes_48 1 rfl ?_
        refine z_iload C dX1_whoGoes_50 0 rfl ?_
        refine z_chk (fun hk19 => ?_)
        refine z_cVI [.int r8, .int r9] [] C mv_RX1_90 (fun r0 m0 h0 => M_X1_isLater _ _ _ _ _ _ _ _ h0) rfl rfl ⟨by rw [hrm]; exact Nat.le_of_ble_eq_true rfl, by rw [hrm]; exact Nat.le_of_ble_eq_true rfl⟩ ⟨by rw [hrm]; exact Nat.le_of_ble_eq_true rfl, by rw [hrm]; exact Nat.le_of_ble_eq_true rfl⟩ rfl hk19 rfl rfl rfl (Nat.le_of_ble_eq_true rfl) dX1_whoGoes_52 (fun r10 m10 => ?_)
        refine z_if_eq (tgt := 63) C dX1_whoGoes_55 (by decide) (fun c8 => ?_) (fun c8 => ?_)
        · refine z_iload C dX1_whoGoes_63 0 rfl ?_
          exact z_sub [4, 5, 3, 2, 1, 0] rfl (s_X1_whoGoes_65 C hr hrm th p1 y2 y3 r8 r9 r9 m10)
        · exact z_sub [4, 5, 3, 2, 1, 0] rfl (s_X1_whoGoes_58 C hr hrm th p1 y2 y3 r8 r9 m10)
    · refine z_iconst (v := (-1)) C dX1_whoGoes_24 (by decide) ?_
      exact z_iret C hr dX1_whoGoes_25
def f_X1_whoGoes (th : Nat) (p1 : Int32) (m : MM) : Option (Int32 × MM) := g_X1_whoGoes_0 th p1 m
theorem M_X1_whoGoes (l : Launch) (E : EX) (th : Nat) (p1 : Int32) (m : MM) (r : Int32) (m2 : MM) (h : f_X1_whoGoes th p1 m = some (r, m2)) : Met l yX1_whoGoes (.code yX1_whoGoes cX1_whoGoes 12 (some .int) :: TB) rmX1_whoGoes (va_Pc [.ref th, .int p1] (St E m)) (QR E (emI r) m2) 0 0 (AA E) :=
  met_of (em := emI) (plainFor_of_name rfl) (Nat.le_of_ble_eq_true rfl) (L0 := [(0, va_rf (some th)), (1, .int p1)]) rfl (fun Γ _ hrm C hr hn => s_X1_whoGoes_0 C hr hrm th p1 m) h

theorem dX1_payer_0 : decode cX1_payer 0 = .ok (.aload_n 0, 1) := by decide +kernel
theorem dX1_payer_1 : decode cX1_payer 1 = .ok (.iload_n 1, 1) := by decide +kernel
theorem dX1_payer_2 : decode cX1_payer 2 = .ok (.invokevirtual 80, 3) := by decide +kernel
theorem dX1_payer_5 : decode cX1_payer 5 = .ok (.istore_n 3, 1) := by decide +kernel
theorem dX1_payer_6 : decode cX1_payer 6 = .ok (.iload_n 2, 1) := by decide +kernel
theorem dX1_payer_7 : decode cX1_payer 7 = .ok (.iload_n 3, 1) := by decide +kernel
theorem dX1_payer_8 : decode cX1_payer 8 = .ok (.if_icmp .ne 11, 3) := by decide +kernel
theorem dX1_payer_11 : decode cX1_payer 11 = .ok (.aload_n 0, 1) := by decide +kernel
theorem dX1_payer_12 : decode cX1_payer 12 = .ok (.iload_n 1, 1) := by decide +kernel
theorem dX1_payer_13 : decode cX1_payer 13 = .ok (.invokevirtual 83, 3) := by decide +kernel
theorem dX1_payer_16 : decode cX1_payer 16 = .ok (.goto 4, 3) := by decide +kernel
theorem dX1_payer_19 : decode cX1_payer 19 = .ok (.iload_n 3, 1) := by decide +kernel
theorem dX1_payer_20 : decode cX1_payer 20 = .ok (.istore 4, 2) := by decide +kernel
theorem dX1_payer_22 : decode cX1_payer 22 = .ok (.aload_n 0, 1) := by decide +kernel
theorem dX1_payer_23 : decode cX1_payer 23 = .ok (.getfield 9, 3) := by decide +kernel
theorem dX1_payer_26 : decode cX1_payer 26 = .ok (.aload_n 0, 1) := by decide +kernel
theorem dX1_payer_27 : decode cX1_payer 27 = .ok (.iload_n 2, 1) := by decide +kernel
theorem dX1_payer_28 : decode cX1_payer 28 = .ok (.iload 4, 2) := by decide +kernel
theorem dX1_payer_30 : decode cX1_payer 30 = .ok (.invokevirtual 90, 3) := by decide +kernel
theorem dX1_payer_33 : decode cX1_payer 33 = .ok (.ifCond .eq 7, 3) := by decide +kernel
theorem dX1_payer_36 : decode cX1_payer 36 = .ok (.iload_n 2, 1) := by decide +kernel
theorem dX1_payer_37 : decode cX1_payer 37 = .ok (.goto 5, 3) := by decide +kernel
theorem dX1_payer_40 : decode cX1_payer 40 = .ok (.iload 4, 2) := by decide +kernel
theorem dX1_payer_42 : decode cX1_payer 42 = .ok (.iconst 3, 1) := by decide +kernel
theorem dX1_payer_43 : decode cX1_payer 43 = .ok (.invokevirtual 73, 3) := by decide +kernel
theorem dX1_payer_46 : decode cX1_payer 46 = .ok (.ireturn, 1) := by decide +kernel
def rmX1_payer : Room := { frames := 3, cells := 0, slots := 0, locals := 69 }
set_option maxRecDepth 100000 in
def g_X1_payer_20 (th : Nat) (p1 : Int32) (p2 : Int32) (s0 : Int32) (m : MM) : Option (Int32 × MM) :=
  chk (m.K th = 2) (cal (f_X1_isLater th p2 s0 m) (fun r1 m1 => if r1 = 0 then (ck m1 (m.R 200 th 0) 6 (fun a1 => cal (f_X5_ofThing a1 s0 3 m1) (fun r2 m2 => some (r2, m2)))) else (ck m1 (m.R 200 th 0) 6 (fun a2 => cal (f_X5_ofThing a2 p2 3 m1) (fun r3 m3 => some (r3, m3))))))
set_option maxHeartbeats 4000000 in
set_option maxRecDepth 100000 in
theorem s_X1_payer_20 {Γ : GX} {E : EX} (C : Cx Γ E cX1_payer RX1 5) (hr : Γ.meth.sig.returnType = (some .int)) (hrm : Γ.rm = rmX1_payer) (th : Nat) (p1 : Int32) (p2 : Int32) (s0 : Int32) (m : MM) : Sm (QM Γ E emI 0 0) Γ E 5 0 0 20 [(0, va_rf (some th)), (1, .int p1), (2, .int p2)] [.int s0] m (g_X1_payer_20 th p1 p2 s0 m) := by
  unfold g_X1_payer_20
  refine z_istore (i := 4) (L2 := [(4, .int s0), (0, va_rf (some th)), (1, .int p1), (2, .int p2)]) C dX1_payer_20 (by decide) rfl ?_
  refine z_aload_n C dX1_payer_22 rfl 1 rfl ?_
  refine z_chk (fun hk1 => ?_)
  refine z_getR C fl_RX1_9 rfl hk1 dX1_payer_23 ?_
  refine z_aload_n C dX1_payer_26 rfl 1 rfl ?_
  refine z_iload_n C dX1_payer_27 rfl 3 rfl ?_
  refine z_iload C dX1_payer_28 0 rfl ?_
  refine z_cVI [.int p2, .int s0] [va_rf (m.R 200 th 0)] C mv_RX1_90 (fun r0 m0 h0 => M_X1_isLater _ _ _ _ _ _ _ _ h0) rfl rfl ⟨by rw [hrm]; exact Nat.le_of_ble_eq_true rfl, by rw [hrm]; exact Nat.le_of_ble_eq_true rfl⟩ ⟨by rw [hrm]; exact Nat.le_of_ble_eq_true rfl, by rw [hrm]; exact Nat.le_of_ble_eq_true rfl⟩ rfl hk1 rfl rfl rfl (by simp [cat_rf, cat_i, cat_l, cat_a]) dX1_payer_30 (fun r1 m1 => ?_)
  refine z_if_eq (tgt := 40) C dX1_payer_33 (by decide) (fun c1 => ?_) (fun c1 => ?_)
  · refine z_iload C dX1_payer_40 0 rfl ?_
    refine z_iconst (v := 3) C dX1_payer_42 (by decide) ?_
    refine z_ck (fun a1 hr1 hk2 => ?_)
    refine z_cVI [.int s0, .int 3] [] C mv_RX1_73 (fun r0 m0 h0 => M_X5_ofThing _ _ _ _ _ _ _ _ h0) rfl rfl ⟨by rw [hrm]; exact Nat.le_of_ble_eq_true rfl, by rw [hrm]; exact Nat.le_of_ble_eq_true rfl⟩ ⟨by rw [hrm]; exact Nat.le_of_ble_eq_true rfl, by rw [hrm]; exact Nat.le_of_ble_eq_true rfl⟩ hr1 hk2 rfl rfl rfl (Nat.le_of_ble_eq_true rfl) dX1_payer_43 (fun r2 m2 => ?_)
    exact z_iret C hr dX1_payer_46
  · refine z_iload_n C dX1_payer_36 rfl 3 rfl ?_
    refine z_goto (tgt := 42) C dX1_payer_37 (by decide) ?_
    refine z_iconst (v := 3) C dX1_payer_42 (by decide) ?_
    refine z_ck (fun a2 hr2 hk3 => ?_)
    refine z_cVI [.int p2, .int 3] [] C mv_RX1_73 (fun r0 m0 h0 => M_X5_ofThing _ _ _ _ _ _ _ _ h0) rfl rfl ⟨by rw [hrm]; exact Nat.le_of_ble_eq_true rfl, by rw [hrm]; exact Nat.le_of_ble_eq_true rfl⟩ ⟨by rw [hrm]; exact Nat.le_of_ble_eq_true rfl, by rw [hrm]; exact Nat.le_of_ble_eq_true rfl⟩ hr2 hk3 rfl rfl rfl (Nat.le_of_ble_eq_true rfl) dX1_payer_43 (fun r3 m3 => ?_)
    exact z_iret C hr dX1_payer_46
set_option maxRecDepth 100000 in
def g_X1_payer_0 (th : Nat) (p1 : Int32) (p2 : Int32) (m : MM) : Option (Int32 × MM) :=
  chk (m.K th = 2) (cal (f_X1_firstOf th p1 m) (fun r4 m4 => if p2 = r4 then (chk (m4.K th = 2) (cal (f_X1_secondOf th p1 m4) (fun r5 m5 => g_X1_payer_20 th p1 p2 r5 m5))) else (g_X1_payer_20 th p1 p2 r4 m4)))
set_option maxHeartbeats 4000000 in
set_option maxRecDepth 100000 in
theorem s_X1_payer_0 {Γ : GX} {E : EX} (C : Cx Γ E cX1_payer RX1 5) (hr : Γ.meth.sig.returnType = (some .int)) (hrm : Γ.rm = rmX1_payer) (th : Nat) (p1 : Int32) (p2 : Int32) (m : MM) : Sm (QM Γ E emI 0 0) Γ E 5 0 0 0 [(0, va_rf (some th)), (1, .int p1), (2, .int p2)] [] m (g_X1_payer_0 th p1 p2 m) := by
  unfold g_X1_payer_0
  refine z_aload_n C dX1_payer_0 rfl 0 rfl ?_
  refine z_iload_n C dX1_payer_1 rfl 1 rfl ?_
  refine z_chk (fun hk4 => ?_)
  refine z_cVI [.int p1] [] C mv_RX1_80 (fun r0 m0 h0 => M_X1_firstOf _ _ _ _ _ _ _ h0) rfl rfl ⟨by rw [hrm]; exact Nat.le_of_ble_eq_true rfl, by rw [hrm]; exact Nat.le_of_ble_eq_true rfl⟩ ⟨by rw [hrm]; exact Nat.le_of_ble_eq_true rfl, by rw [hrm]; exact Nat.le_of_ble_eq_true rfl⟩ rfl hk4 rfl rfl rfl (Nat.le_of_ble_eq_true rfl) dX1_payer_2 (fun r4 m4 => ?_)
  refine z_istore_n (i := 3) (L2 := [(3, .int r4), (0, va_rf (some th)), (1, .int p1), (2, .int p2)]) C dX1_payer_5 rfl (by decide) rfl ?_
  refine z_iload_n C dX1_payer_6 rfl 3 rfl ?_
  refine z_iload_n C dX1_payer_7 rfl 0 rfl ?_
  refine z_icmp_ne (tgt := 19) C dX1_payer_8 (by decide) (fun c2 => ?_) (fun c2 => ?_)
  · refine z_iload_n C dX1_payer_19 rfl 0 rfl ?_
    exact z_sub [1, 2, 3] rfl (s_X1_payer_20 C hr hrm th p1 p2 r4 m4)
  · refine z_aload_n C dX1_payer_11 rfl 1 rfl ?_
    refine z_iload_n C dX1_payer_12 rfl 2 rfl ?_
    refine z_chk (fun hk5 => ?_)
    refine z_cVI [.int p1] [] C mv_RX1_83 (fun r0 m0 h0 => M_X1_secondOf _ _ _ _ _ _ _ h0) rfl rfl ⟨by rw [hrm]; exact Nat.le_of_ble_eq_true rfl, by rw [hrm]; exact Nat.le_of_ble_eq_true rfl⟩ ⟨by rw [hrm]; exact Nat.le_of_ble_eq_true rfl, by rw [hrm]; exact Nat.le_of_ble_eq_true rfl⟩ rfl hk5 rfl rfl rfl (Nat.le_of_ble_eq_true rfl) dX1_payer_13 (fun r5 m5 => ?_)
    refine z_goto (tgt := 20) C dX1_payer_16 (by decide) ?_
    exact z_sub [1, 2, 3] rfl (s_X1_payer_20 C hr hrm th p1 p2 r5 m5)
def f_X1_payer (th : Nat) (p1 : Int32) (p2 : Int32) (m : MM) : Option (Int32 × MM) := g_X1_payer_0 th p1 p2 m
theorem M_X1_payer (l : Launch) (E : EX) (th : Nat) (p1 : Int32) (p2 : Int32) (m : MM) (r : Int32) (m2 : MM) (h : f_X1_payer th p1 p2 m = some (r, m2)) : Met l yX1_payer (.code yX1_payer cX1_payer 5 (some .int) :: TB) rmX1_payer (va_Pc [.ref th, .int p1, .int p2] (St E m)) (QR E (emI r) m2) 0 0 (AA E) :=
  met_of (em := emI) (plainFor_of_name rfl) (Nat.le_of_ble_eq_true rfl) (L0 := [(0, va_rf (some th)), (1, .int p1), (2, .int p2)]) rfl (fun Γ _ hrm C hr hn => s_X1_payer_0 C hr hrm th p1 p2 m) h

theorem dX1_costOf_0 : decode cX1_costOf 0 = .ok (.iconst 0, 1) := by decide +kernel
theorem dX1_costOf_1 : decode cX1_costOf 1 = .ok (.istore_n 2, 1) := by decide +kernel
theorem dX1_costOf_2 : decode cX1_costOf 2 = .ok (.iconst 0, 1) := by decide +kernel
theorem dX1_costOf_3 : decode cX1_costOf 3 = .ok (.istore_n 3, 1) := by decide +kernel
theorem dX1_costOf_4 : decode cX1_costOf 4 = .ok (.iload_n 3, 1) := by decide +kernel
theorem dX1_costOf_5 : decode cX1_costOf 5 = .ok (.bipush 12, 2) := by decide +kernel
theorem dX1_costOf_7 : decode cX1_costOf 7 = .ok (.if_icmp .ge 30, 3) := by decide +kernel
theorem dX1_costOf_10 : decode cX1_costOf 10 = .ok (.iload_n 1, 1) := by decide +kernel
theorem dX1_costOf_11 : decode cX1_costOf 11 = .ok (.iload_n 3, 1) := by decide +kernel
theorem dX1_costOf_12 : decode cX1_costOf 12 = .ok (.ishr, 1) := by decide +kernel
theorem dX1_costOf_13 : decode cX1_costOf 13 = .ok (.iconst 1, 1) := by decide +kernel
theorem dX1_costOf_14 : decode cX1_costOf 14 = .ok (.iand, 1) := by decide +kernel
theorem dX1_costOf_15 : decode cX1_costOf 15 = .ok (.ifCond .eq 16, 3) := by decide +kernel
theorem dX1_costOf_18 : decode cX1_costOf 18 = .ok (.iload_n 2, 1) := by decide +kernel
theorem dX1_costOf_19 : decode cX1_costOf 19 = .ok (.aload_n 0, 1) := by decide +kernel
theorem dX1_costOf_20 : decode cX1_costOf 20 = .ok (.getfield 9, 3) := by decide +kernel
theorem dX1_costOf_23 : decode cX1_costOf 23 = .ok (.iload_n 3, 1) := by decide +kernel
theorem dX1_costOf_24 : decode cX1_costOf 24 = .ok (.bipush 6, 2) := by decide +kernel
theorem dX1_costOf_26 : decode cX1_costOf 26 = .ok (.invokevirtual 73, 3) := by decide +kernel
theorem dX1_costOf_29 : decode cX1_costOf 29 = .ok (.iadd, 1) := by decide +kernel
theorem dX1_costOf_30 : decode cX1_costOf 30 = .ok (.istore_n 2, 1) := by decide +kernel
theorem dX1_costOf_31 : decode cX1_costOf 31 = .ok (.iinc 3 1, 3) := by decide +kernel
theorem dX1_costOf_34 : decode cX1_costOf 34 = .ok (.goto (-30), 3) := by decide +kernel
theorem dX1_costOf_37 : decode cX1_costOf 37 = .ok (.iload_n 2, 1) := by decide +kernel
theorem dX1_costOf_38 : decode cX1_costOf 38 = .ok (.ireturn, 1) := by decide +kernel
def rmX1_costOf : Room := { frames := 2, cells := 0, slots := 0, locals := 45 }
set_option maxRecDepth 100000 in
def g_X1_costOf_31 (th : Nat) (p1 : Int32) (k4 : Int32 → Int32 → MM → Option (Int32 × MM)) (x2 : Int32) (x3 : Int32) (m : MM) : Option (Int32 × MM) :=
  k4 x2 (x3 + 1) m
set_option maxHeartbeats 4000000 in
set_option maxRecDepth 100000 in
theorem s_X1_costOf_31 {Γ : GX} {E : EX} (C : Cx Γ E cX1_costOf RX1 4) (hr : Γ.meth.sig.returnType = (some .int)) (hrm : Γ.rm = rmX1_costOf) (th : Nat) (p1 : Int32) (k4 : Int32 → Int32 → MM → Option (Int32 × MM)) (h4 : ∀ (x2 : Int32) (x3 : Int32) (m : MM), Sm (QM Γ E emI 0 0) Γ E 4 0 0 4 [(0, va_rf (some th)), (1, .int p1), (2, .int x2), (3, .int x3)] [] m (k4 x2 x3 m)) (x2 : Int32) (x3 : Int32) (m : MM) : Sm (QM Γ E emI 0 0) Γ E 4 0 0 31 [(0, va_rf (some th)), (1, .int p1), (2, .int x2), (3, .int x3)] [] m (g_X1_costOf_31 th p1 k4 x2 x3 m) := by
  unfold g_X1_costOf_31
  refine z_iinc (v := 1) (L2 := [(3, .int (x3 + 1)), (0, va_rf (some th)), (1, .int p1), (2, .int x2)]) C dX1_costOf_31 3 rfl (by decide) (by decide) rfl ?_
  refine z_goto (tgt := 4) C dX1_costOf_34 (by decide) ?_
  exact z_sub [1, 2, 3, 0] rfl (h4 x2 (x3 + 1) m)
set_option maxRecDepth 100000 in
def g_X1_costOf_4 (th : Nat) (p1 : Int32) (k4 : Int32 → Int32 → MM → Option (Int32 × MM)) (x2 : Int32) (x3 : Int32) (m : MM) : Option (Int32 × MM) :=
  if 12 ≤ x3 then (some (x2, m)) else (if ((p1 >>> (x3 &&& 31)) &&& 1) = 0 then (g_X1_costOf_31 th p1 k4 x2 x3 m) else (chk (m.K th = 2) (ck m (m.R 200 th 0) 6 (fun a1 => cal (f_X5_ofThing a1 x3 6 m) (fun r1 m1 => bnd (x2 + r1) (fun y1 => g_X1_costOf_31 th p1 k4 y1 x3 m1))))))
set_option maxHeartbeats 4000000 in
set_option maxRecDepth 100000 in
theorem s_X1_costOf_4 {Γ : GX} {E : EX} (C : Cx Γ E cX1_costOf RX1 4) (hr : Γ.meth.sig.returnType = (some .int)) (hrm : Γ.rm = rmX1_costOf) (th : Nat) (p1 : Int32) (k4 : Int32 → Int32 → MM → Option (Int32 × MM)) (h4 : ∀ (x2 : Int32) (x3 : Int32) (m : MM), Sm (QM Γ E emI 0 0) Γ E 4 0 0 4 [(0, va_rf (some th)), (1, .int p1), (2, .int x2), (3, .int x3)] [] m (k4 x2 x3 m)) (x2 : Int32) (x3 : Int32) (m : MM) : Sm (QM Γ E emI 0 0) Γ E 4 0 0 4 [(0, va_rf (some th)), (1, .int p1), (2, .int x2), (3, .int x3)] [] m (g_X1_costOf_4 th p1 k4 x2 x3 m) := by
  unfold g_X1_costOf_4
  refine z_iload_n C dX1_costOf_4 rfl 3 rfl ?_
  refine z_bipush (v := 12) C dX1_costOf_5 (by decide) ?_
  refine z_icmp_ge (tgt := 37) C dX1_costOf_7 (by decide) (fun c1 => ?_) (fun c1 => ?_)
  · refine z_iload_n C dX1_costOf_37 rfl 2 rfl ?_
    exact z_iret C hr dX1_costOf_38
  · refine z_iload_n C dX1_costOf_10 rfl 1 rfl ?_
    refine z_iload_n C dX1_costOf_11 rfl 3 rfl ?_
    refine z_ishr C dX1_costOf_12 ?_
    refine z_iconst (v := 1) C dX1_costOf_13 (by decide) ?_
    refine z_iand C dX1_costOf_14 ?_
    refine z_if_eq (tgt := 31) C dX1_costOf_15 (by decide) (fun c2 => ?_) (fun c2 => ?_)
    · exact z_sub [0, 1, 2, 3] rfl (s_X1_costOf_31 C hr hrm th p1 k4 h4 x2 x3 m)
    · refine z_iload_n C dX1_costOf_18 rfl 2 rfl ?_
      refine z_aload_n C dX1_costOf_19 rfl 0 rfl ?_
      refine z_chk (fun hk1 => ?_)
      refine z_getR C fl_RX1_9 rfl hk1 dX1_costOf_20 ?_
      refine z_iload_n C dX1_costOf_23 rfl 3 rfl ?_
      refine z_bipush (v := 6) C dX1_costOf_24 (by decide) ?_
      refine z_ck (fun a1 hr1 hk2 => ?_)
      refine z_cVI [.int x3, .int 6] [.int x2] C mv_RX1_73 (fun r0 m0 h0 => M_X5_ofThing _ _ _ _ _ _ _ _ h0) rfl rfl ⟨by rw [hrm]; exact Nat.le_of_ble_eq_true rfl, by rw [hrm]; exact Nat.le_of_ble_eq_true rfl⟩ ⟨by rw [hrm]; exact Nat.le_of_ble_eq_true rfl, by rw [hrm]; exact Nat.le_of_ble_eq_true rfl⟩ hr1 hk2 rfl rfl rfl (Nat.le_of_ble_eq_true rfl) dX1_costOf_26 (fun r1 m1 => ?_)
      refine z_iadd C dX1_costOf_29 ?_
      refine z_bndI (fun y1 => ?_)
      refine z_istore_n (i := 2) (L2 := [(2, .int y1), (0, va_rf (some th)), (1, .int p1), (3, .int x3)]) C dX1_costOf_30 rfl (by decide) rfl ?_
      exact z_sub [1, 2, 0, 3] rfl (s_X1_costOf_31 C hr hrm th p1 k4 h4 y1 x3 m1)
def l_X1_costOf_4 (th : Nat) (p1 : Int32) : Nat → Int32 → Int32 → MM → Option (Int32 × MM) := lp (fun _ _ _ => none) (fun k4 => g_X1_costOf_4 th p1 k4)
theorem t_X1_costOf_4 {Γ : GX} {E : EX} (C : Cx Γ E cX1_costOf RX1 4) (hr : Γ.meth.sig.returnType = (some .int)) (hrm : Γ.rm = rmX1_costOf) (th : Nat) (p1 : Int32) : ∀ (n : Nat) (x2 : Int32) (x3 : Int32) (m : MM), Sm (QM Γ E emI 0 0) Γ E 4 0 0 4 [(0, va_rf (some th)), (1, .int p1), (2, .int x2), (3, .int x3)] [] m (l_X1_costOf_4 th p1 n x2 x3 m) := by
  intro n
  induction n with
  | zero => intros; exact z_none
  | succ n ih => intro x2 x3 m; exact s_X1_costOf_4 C hr hrm th p1 (l_X1_costOf_4 th p1 n) ih x2 x3 m
set_option maxRecDepth 100000 in
def g_X1_costOf_0 (th : Nat) (p1 : Int32) (m : MM) : Option (Int32 × MM) :=
  l_X1_costOf_4 th p1 FU 0 0 m
set_option maxHeartbeats 4000000 in
set_option maxRecDepth 100000 in
theorem s_X1_costOf_0 {Γ : GX} {E : EX} (C : Cx Γ E cX1_costOf RX1 4) (hr : Γ.meth.sig.returnType = (some .int)) (hrm : Γ.rm = rmX1_costOf) (th : Nat) (p1 : Int32) (m : MM) : Sm (QM Γ E emI 0 0) Γ E 4 0 0 0 [(0, va_rf (some th)), (1, .int p1)] [] m (g_X1_costOf_0 th p1 m) := by
  unfold g_X1_costOf_0
  refine z_iconst (v := 0) C dX1_costOf_0 (by decide) ?_
  refine z_istore_n (i := 2) (L2 := [(2, .int 0), (0, va_rf (some th)), (1, .int p1)]) C dX1_costOf_1 rfl (by decide) rfl ?_
  refine z_iconst (v := 0) C dX1_costOf_2 (by decide) ?_
  refine z_istore_n (i := 3) (L2 := [(3, .int 0), (2, .int 0), (0, va_rf (some th)), (1, .int p1)]) C dX1_costOf_3 rfl (by decide) rfl ?_
  exact z_sub [2, 3, 1, 0] rfl (t_X1_costOf_4 C hr hrm th p1 FU 0 0 m)
def f_X1_costOf (th : Nat) (p1 : Int32) (m : MM) : Option (Int32 × MM) := g_X1_costOf_0 th p1 m
theorem M_X1_costOf (l : Launch) (E : EX) (th : Nat) (p1 : Int32) (m : MM) (r : Int32) (m2 : MM) (h : f_X1_costOf th p1 m = some (r, m2)) : Met l yX1_costOf (.code yX1_costOf cX1_costOf 4 (some .int) :: TB) rmX1_costOf (va_Pc [.ref th, .int p1] (St E m)) (QR E (emI r) m2) 0 0 (AA E) :=
  met_of (em := emI) (plainFor_of_name rfl) (Nat.le_of_ble_eq_true rfl) (L0 := [(0, va_rf (some th)), (1, .int p1)]) rfl (fun Γ _ hrm C hr hn => s_X1_costOf_0 C hr hrm th p1 m) h

theorem dX1_isLesser_0 : decode cX1_isLesser 0 = .ok (.iload_n 0, 1) := by decide +kernel
theorem dX1_isLesser_1 : decode cX1_isLesser 1 = .ok (.invokestatic 130, 3) := by decide +kernel
theorem dX1_isLesser_4 : decode cX1_isLesser 4 = .ok (.istore_n 2, 1) := by decide +kernel
theorem dX1_isLesser_5 : decode cX1_isLesser 5 = .ok (.iload_n 1, 1) := by decide +kernel
theorem dX1_isLesser_6 : decode cX1_isLesser 6 = .ok (.invokestatic 130, 3) := by decide +kernel
theorem dX1_isLesser_9 : decode cX1_isLesser 9 = .ok (.istore_n 3, 1) := by decide +kernel
theorem dX1_isLesser_10 : decode cX1_isLesser 10 = .ok (.iload_n 0, 1) := by decide +kernel
theorem dX1_isLesser_11 : decode cX1_isLesser 11 = .ok (.iload_n 1, 1) := by decide +kernel
theorem dX1_isLesser_12 : decode cX1_isLesser 12 = .ok (.ixor, 1) := by decide +kernel
theorem dX1_isLesser_13 : decode cX1_isLesser 13 = .ok (.istore 4, 2) := by decide +kernel
theorem dX1_isLesser_15 : decode cX1_isLesser 15 = .ok (.iload_n 2, 1) := by decide +kernel
theorem dX1_isLesser_16 : decode cX1_isLesser 16 = .ok (.iload_n 3, 1) := by decide +kernel
theorem dX1_isLesser_17 : decode cX1_isLesser 17 = .ok (.if_icmp .lt 19, 3) := by decide +kernel
theorem dX1_isLesser_20 : decode cX1_isLesser 20 = .ok (.iload_n 2, 1) := by decide +kernel
theorem dX1_isLesser_21 : decode cX1_isLesser 21 = .ok (.iload_n 3, 1) := by decide +kernel
theorem dX1_isLesser_22 : decode cX1_isLesser 22 = .ok (.if_icmp .ne 18, 3) := by decide +kernel
theorem dX1_isLesser_25 : decode cX1_isLesser 25 = .ok (.iload_n 0, 1) := by decide +kernel
theorem dX1_isLesser_26 : decode cX1_isLesser 26 = .ok (.iload 4, 2) := by decide +kernel
theorem dX1_isLesser_28 : decode cX1_isLesser 28 = .ok (.iand, 1) := by decide +kernel
theorem dX1_isLesser_29 : decode cX1_isLesser 29 = .ok (.iload 4, 2) := by decide +kernel
theorem dX1_isLesser_31 : decode cX1_isLesser 31 = .ok (.ineg, 1) := by decide +kernel
theorem dX1_isLesser_32 : decode cX1_isLesser 32 = .ok (.iand, 1) := by decide +kernel
theorem dX1_isLesser_33 : decode cX1_isLesser 33 = .ok (.ifCond .eq 7, 3) := by decide +kernel
theorem dX1_isLesser_36 : decode cX1_isLesser 36 = .ok (.iconst 1, 1) := by decide +kernel
theorem dX1_isLesser_37 : decode cX1_isLesser 37 = .ok (.goto 4, 3) := by decide +kernel
theorem dX1_isLesser_40 : decode cX1_isLesser 40 = .ok (.iconst 0, 1) := by decide +kernel
theorem dX1_isLesser_41 : decode cX1_isLesser 41 = .ok (.ireturn, 1) := by decide +kernel
def rmX1_isLesser : Room := { frames := 1, cells := 0, slots := 0, locals := 20 }
set_option maxRecDepth 100000 in
def g_X1_isLesser_36 (p0 : Int32) (p1 : Int32) (m : MM) : Option (Int32 × MM) :=
  some (1, m)
set_option maxHeartbeats 4000000 in
set_option maxRecDepth 100000 in
theorem s_X1_isLesser_36 {Γ : GX} {E : EX} (C : Cx Γ E cX1_isLesser RX1 5) (hr : Γ.meth.sig.returnType = (some .boolean)) (hrm : Γ.rm = rmX1_isLesser) (p0 : Int32) (p1 : Int32) (m : MM) : Sm (QM Γ E emI 0 0) Γ E 5 0 0 36 [(0, .int p0), (1, .int p1)] [] m (g_X1_isLesser_36 p0 p1 m) := by
  unfold g_X1_isLesser_36
  refine z_iconst (v := 1) C dX1_isLesser_36 (by decide) ?_
  refine z_goto (tgt := 41) C dX1_isLesser_37 (by decide) ?_
  exact z_zret C hr rfl dX1_isLesser_41
set_option maxRecDepth 100000 in
def g_X1_isLesser_40 (p0 : Int32) (p1 : Int32) (m : MM) : Option (Int32 × MM) :=
  some (0, m)
set_option maxHeartbeats 4000000 in
set_option maxRecDepth 100000 in
theorem s_X1_isLesser_40 {Γ : GX} {E : EX} (C : Cx Γ E cX1_isLesser RX1 5) (hr : Γ.meth.sig.returnType = (some .boolean)) (hrm : Γ.rm = rmX1_isLesser) (p0 : Int32) (p1 : Int32) (m : MM) : Sm (QM Γ E emI 0 0) Γ E 5 0 0 40 [(0, .int p0), (1, .int p1)] [] m (g_X1_isLesser_40 p0 p1 m) := by
  unfold g_X1_isLesser_40
  refine z_iconst (v := 0) C dX1_isLesser_40 (by decide) ?_
  exact z_zret C hr rfl dX1_isLesser_41
set_option maxRecDepth 100000 in
def g_X1_isLesser_0 (p0 : Int32) (p1 : Int32) (m : MM) : Option (Int32 × MM) :=
  cal (f_J6_bitCount_0f7a4 p0 m) (fun r1 m1 => cal (f_J6_bitCount_0f7a4 p1 m1) (fun r2 m2 => bnd (p0 ^^^ p1) (fun y1 => if r1 < r2 then (g_X1_isLesser_36 p0 p1 m2) else (if r1 = r2 then (if ((p0 &&& y1) &&& (-y1)) = 0 then (g_X1_isLesser_40 p0 p1 m2) else (g_X1_isLesser_36 p0 p1 m2)) else (g_X1_isLesser_40 p0 p1 m2)))))
set_option maxHeartbeats 4000000 in
set_option maxRecDepth 100000 in
theorem s_X1_isLesser_0 {Γ : GX} {E : EX} (C : Cx Γ E cX1_isLesser RX1 5) (hr : Γ.meth.sig.returnType = (some .boolean)) (hrm : Γ.rm = rmX1_isLesser) (p0 : Int32) (p1 : Int32) (m : MM) : Sm (QM Γ E emI 0 0) Γ E 5 0 0 0 [(0, .int p0), (1, .int p1)] [] m (g_X1_isLesser_0 p0 p1 m) := by
  unfold g_X1_isLesser_0
  refine z_iload_n C dX1_isLesser_0 rfl 0 rfl ?_
  refine z_cSI [.int p0] [] C mv_RX1_130 (fun r0 m0 h0 => M_J6_bitCount_0f7a4 _ _ _ _ _ _ h0) rfl rfl ⟨by rw [hrm]; exact Nat.le_of_ble_eq_true rfl, by rw [hrm]; exact Nat.le_of_ble_eq_true rfl⟩ ⟨by rw [hrm]; exact Nat.le_of_ble_eq_true rfl, by rw [hrm]; exact Nat.le_of_ble_eq_true rfl⟩ rfl rfl (Nat.le_of_ble_eq_true rfl) dX1_isLesser_1 (fun r1 m1 => ?_)
  refine z_istore_n (i := 2) (L2 := [(2, .int r1), (0, .int p0), (1, .int p1)]) C dX1_isLesser_4 rfl (by decide) rfl ?_
  refine z_iload_n C dX1_isLesser_5 rfl 2 rfl ?_
  refine z_cSI [.int p1] [] C mv_RX1_130 (fun r0 m0 h0 => M_J6_bitCount_0f7a4 _ _ _ _ _ _ h0) rfl rfl ⟨by rw [hrm]; exact Nat.le_of_ble_eq_true rfl, by rw [hrm]; exact Nat.le_of_ble_eq_true rfl⟩ ⟨by rw [hrm]; exact Nat.le_of_ble_eq_true rfl, by rw [hrm]; exact Nat.le_of_ble_eq_true rfl⟩ rfl rfl (Nat.le_of_ble_eq_true rfl) dX1_isLesser_6 (fun r2 m2 => ?_)
  refine z_istore_n (i := 3) (L2 := [(3, .int r2), (2, .int r1), (0, .int p0), (1, .int p1)]) C dX1_isLesser_9 rfl (by decide) rfl ?_
  refine z_iload_n C dX1_isLesser_10 rfl 2 rfl ?_
  refine z_iload_n C dX1_isLesser_11 rfl 3 rfl ?_
  refine z_ixor C dX1_isLesser_12 ?_
  refine z_bndI (fun y1 => ?_)
  refine z_istore (i := 4) (L2 := [(4, .int y1), (3, .int r2), (2, .int r1), (0, .int p0), (1, .int p1)]) C dX1_isLesser_13 (by decide) rfl ?_
  refine z_iload_n C dX1_isLesser_15 rfl 2 rfl ?_
  refine z_iload_n C dX1_isLesser_16 rfl 1 rfl ?_
  refine z_icmp_lt (tgt := 36) C dX1_isLesser_17 (by decide) (fun c1 => ?_) (fun c1 => ?_)
  · exact z_sub [3, 4] rfl (s_X1_isLesser_36 C hr hrm p0 p1 m2)
  · refine z_iload_n C dX1_isLesser_20 rfl 2 rfl ?_
    refine z_iload_n C dX1_isLesser_21 rfl 1 rfl ?_
    refine z_icmp_ne (tgt := 40) C dX1_isLesser_22 (by decide) (fun c2 => ?_) (fun c2 => ?_)
    · exact z_sub [3, 4] rfl (s_X1_isLesser_40 C hr hrm p0 p1 m2)
    · refine z_iload_n C dX1_isLesser_25 rfl 3 rfl ?_
      refine z_iload C dX1_isLesser_26 0 rfl ?_
      refine z_iand C dX1_isLesser_28 ?_
      refine z_iload C dX1_isLesser_29 0 rfl ?_
      refine z_ineg C dX1_isLesser_31 ?_
      refine z_iand C dX1_isLesser_32 ?_
      refine z_if_eq (tgt := 40) C dX1_isLesser_33 (by decide) (fun c3 => ?_) (fun c3 => ?_)
      · exact z_sub [3, 4] rfl (s_X1_isLesser_40 C hr hrm p0 p1 m2)
      · exact z_sub [3, 4] rfl (s_X1_isLesser_36 C hr hrm p0 p1 m2)
def f_X1_isLesser (p0 : Int32) (p1 : Int32) (m : MM) : Option (Int32 × MM) := g_X1_isLesser_0 p0 p1 m
theorem M_X1_isLesser (l : Launch) (E : EX) (p0 : Int32) (p1 : Int32) (m : MM) (r : Int32) (m2 : MM) (h : f_X1_isLesser p0 p1 m = some (r, m2)) : Met l yX1_isLesser (.code yX1_isLesser cX1_isLesser 5 (some .boolean) :: TB) rmX1_isLesser (va_Pc [.int p0, .int p1] (St E m)) (QR E (emI r) m2) 0 0 (AA E) :=
  met_of (em := emI) (plainFor_of_name rfl) (Nat.le_of_ble_eq_true rfl) (L0 := [(0, .int p0), (1, .int p1)]) rfl (fun Γ _ hrm C hr hn => s_X1_isLesser_0 C hr hrm p0 p1 m) h

theorem dX1_fewestWithout_0 : decode cX1_fewestWithout 0 = .ok (.iconst 0, 1) := by decide +kernel
theorem dX1_fewestWithout_1 : decode cX1_fewestWithout 1 = .ok (.istore_n 2, 1) := by decide +kernel
theorem dX1_fewestWithout_2 : decode cX1_fewestWithout 2 = .ok (.iconst (-1), 1) := by decide +kernel
theorem dX1_fewestWithout_3 : decode cX1_fewestWithout 3 = .ok (.istore_n 3, 1) := by decide +kernel
theorem dX1_fewestWithout_4 : decode cX1_fewestWithout 4 = .ok (.iconst 0, 1) := by decide +kernel
theorem dX1_fewestWithout_5 : decode cX1_fewestWithout 5 = .ok (.istore 4, 2) := by decide +kernel
theorem dX1_fewestWithout_7 : decode cX1_fewestWithout 7 = .ok (.iload 4, 2) := by decide +kernel
theorem dX1_fewestWithout_9 : decode cX1_fewestWithout 9 = .ok (.sipush 4096, 3) := by decide +kernel
theorem dX1_fewestWithout_12 : decode cX1_fewestWithout 12 = .ok (.if_icmp .ge 99, 3) := by decide +kernel
theorem dX1_fewestWithout_15 : decode cX1_fewestWithout 15 = .ok (.iload 4, 2) := by decide +kernel
theorem dX1_fewestWithout_17 : decode cX1_fewestWithout 17 = .ok (.aload_n 0, 1) := by decide +kernel
theorem dX1_fewestWithout_18 : decode cX1_fewestWithout 18 = .ok (.getfield 9, 3) := by decide +kernel
theorem dX1_fewestWithout_21 : decode cX1_fewestWithout 21 = .ok (.getfield 117, 3) := by decide +kernel
theorem dX1_fewestWithout_24 : decode cX1_fewestWithout 24 = .ok (.iconst (-1), 1) := by decide +kernel
theorem dX1_fewestWithout_25 : decode cX1_fewestWithout 25 = .ok (.ixor, 1) := by decide +kernel
theorem dX1_fewestWithout_26 : decode cX1_fewestWithout 26 = .ok (.iand, 1) := by decide +kernel
theorem dX1_fewestWithout_27 : decode cX1_fewestWithout 27 = .ok (.ifCond .ne 78, 3) := by decide +kernel
theorem dX1_fewestWithout_30 : decode cX1_fewestWithout 30 = .ok (.aload_n 0, 1) := by decide +kernel
theorem dX1_fewestWithout_31 : decode cX1_fewestWithout 31 = .ok (.getfield 9, 3) := by decide +kernel
theorem dX1_fewestWithout_34 : decode cX1_fewestWithout 34 = .ok (.iload 4, 2) := by decide +kernel
theorem dX1_fewestWithout_36 : decode cX1_fewestWithout 36 = .ok (.invokevirtual 120, 3) := by decide +kernel
theorem dX1_fewestWithout_39 : decode cX1_fewestWithout 39 = .ok (.ifCond .ne 6, 3) := by decide +kernel
theorem dX1_fewestWithout_42 : decode cX1_fewestWithout 42 = .ok (.goto 63, 3) := by decide +kernel
theorem dX1_fewestWithout_45 : decode cX1_fewestWithout 45 = .ok (.iload_n 1, 1) := by decide +kernel
theorem dX1_fewestWithout_46 : decode cX1_fewestWithout 46 = .ok (.ifCond .eq 12, 3) := by decide +kernel
theorem dX1_fewestWithout_49 : decode cX1_fewestWithout 49 = .ok (.aload_n 0, 1) := by decide +kernel
theorem dX1_fewestWithout_50 : decode cX1_fewestWithout 50 = .ok (.iload 4, 2) := by decide +kernel
theorem dX1_fewestWithout_52 : decode cX1_fewestWithout 52 = .ok (.invokevirtual 124, 3) := by decide +kernel
theorem dX1_fewestWithout_55 : decode cX1_fewestWithout 55 = .ok (.goto 4, 3) := by decide +kernel
theorem dX1_fewestWithout_58 : decode cX1_fewestWithout 58 = .ok (.iconst 0, 1) := by decide +kernel
theorem dX1_fewestWithout_59 : decode cX1_fewestWithout 59 = .ok (.istore 5, 2) := by decide +kernel
theorem dX1_fewestWithout_61 : decode cX1_fewestWithout 61 = .ok (.iload_n 3, 1) := by decide +kernel
theorem dX1_fewestWithout_62 : decode cX1_fewestWithout 62 = .ok (.iconst (-1), 1) := by decide +kernel
theorem dX1_fewestWithout_63 : decode cX1_fewestWithout 63 = .ok (.if_icmp .eq 9, 3) := by decide +kernel
theorem dX1_fewestWithout_66 : decode cX1_fewestWithout 66 = .ok (.iload 5, 2) := by decide +kernel
theorem dX1_fewestWithout_68 : decode cX1_fewestWithout 68 = .ok (.iload_n 3, 1) := by decide +kernel
theorem dX1_fewestWithout_69 : decode cX1_fewestWithout 69 = .ok (.if_icmp .ge 7, 3) := by decide +kernel
theorem dX1_fewestWithout_72 : decode cX1_fewestWithout 72 = .ok (.iconst 1, 1) := by decide +kernel
theorem dX1_fewestWithout_73 : decode cX1_fewestWithout 73 = .ok (.goto 4, 3) := by decide +kernel
theorem dX1_fewestWithout_76 : decode cX1_fewestWithout 76 = .ok (.iconst 0, 1) := by decide +kernel
theorem dX1_fewestWithout_77 : decode cX1_fewestWithout 77 = .ok (.istore 6, 2) := by decide +kernel
theorem dX1_fewestWithout_79 : decode cX1_fewestWithout 79 = .ok (.iload 6, 2) := by decide +kernel
theorem dX1_fewestWithout_81 : decode cX1_fewestWithout 81 = .ok (.ifCond .ne 18, 3) := by decide +kernel
theorem dX1_fewestWithout_84 : decode cX1_fewestWithout 84 = .ok (.iload 5, 2) := by decide +kernel
theorem dX1_fewestWithout_86 : decode cX1_fewestWithout 86 = .ok (.iload_n 3, 1) := by decide +kernel
theorem dX1_fewestWithout_87 : decode cX1_fewestWithout 87 = .ok (.if_icmp .ne 18, 3) := by decide +kernel
theorem dX1_fewestWithout_90 : decode cX1_fewestWithout 90 = .ok (.iload 4, 2) := by decide +kernel
theorem dX1_fewestWithout_92 : decode cX1_fewestWithout 92 = .ok (.iload_n 2, 1) := by decide +kernel
theorem dX1_fewestWithout_93 : decode cX1_fewestWithout 93 = .ok (.invokestatic 127, 3) := by decide +kernel
theorem dX1_fewestWithout_96 : decode cX1_fewestWithout 96 = .ok (.ifCond .eq 9, 3) := by decide +kernel
theorem dX1_fewestWithout_99 : decode cX1_fewestWithout 99 = .ok (.iload 4, 2) := by decide +kernel
theorem dX1_fewestWithout_101 : decode cX1_fewestWithout 101 = .ok (.istore_n 2, 1) := by decide +kernel
theorem dX1_fewestWithout_102 : decode cX1_fewestWithout 102 = .ok (.iload 5, 2) := by decide +kernel
theorem dX1_fewestWithout_104 : decode cX1_fewestWithout 104 = .ok (.istore_n 3, 1) := by decide +kernel
theorem dX1_fewestWithout_105 : decode cX1_fewestWithout 105 = .ok (.iinc 4 1, 3) := by decide +kernel
theorem dX1_fewestWithout_108 : decode cX1_fewestWithout 108 = .ok (.goto (-101), 3) := by decide +kernel
theorem dX1_fewestWithout_111 : decode cX1_fewestWithout 111 = .ok (.iload_n 2, 1) := by decide +kernel
theorem dX1_fewestWithout_112 : decode cX1_fewestWithout 112 = .ok (.ireturn, 1) := by decide +kernel
def rmX1_fewestWithout : Room := { frames := 3, cells := 0, slots := 0, locals := 68 }
set_option maxRecDepth 100000 in
def g_X1_fewestWithout_105 (th : Nat) (p1 : Int32) (k7 : Int32 → Int32 → Int32 → MM → Option (Int32 × MM)) (x2 : Int32) (x3 : Int32) (x4 : Int32) (m : MM) : Option (Int32 × MM) :=
  k7 x2 x3 (x4 + 1) m
set_option maxHeartbeats 4000000 in
set_option maxRecDepth 100000 in
theorem s_X1_fewestWithout_105 {Γ : GX} {E : EX} (C : Cx Γ E cX1_fewestWithout RX1 7) (hr : Γ.meth.sig.returnType = (some .int)) (hrm : Γ.rm = rmX1_fewestWithout) (th : Nat) (p1 : Int32) (k7 : Int32 → Int32 → Int32 → MM → Option (Int32 × MM)) (h7 : ∀ (x2 : Int32) (x3 : Int32) (x4 : Int32) (m : MM), Sm (QM Γ E emI 0 0) Γ E 7 0 0 7 [(0, va_rf (some th)), (1, .int p1), (2, .int x2), (3, .int x3), (4, .int x4)] [] m (k7 x2 x3 x4 m)) (x2 : Int32) (x3 : Int32) (x4 : Int32) (m : MM) : Sm (QM Γ E emI 0 0) Γ E 7 0 0 105 [(0, va_rf (some th)), (1, .int p1), (2, .int x2), (3, .int x3), (4, .int x4)] [] m (g_X1_fewestWithout_105 th p1 k7 x2 x3 x4 m) := by
  unfold g_X1_fewestWithout_105
  refine z_iinc (v := 1) (L2 := [(4, .int (x4 + 1)), (0, va_rf (some th)), (1, .int p1), (2, .int x2), (3, .int x3)]) C dX1_fewestWithout_105 4 rfl (by decide) (by decide) rfl ?_
  refine z_goto (tgt := 7) C dX1_fewestWithout_108 (by decide) ?_
  exact z_sub [1, 2, 3, 4, 0] rfl (h7 x2 x3 (x4 + 1) m)
set_option maxRecDepth 100000 in
def g_X1_fewestWithout_99 (th : Nat) (p1 : Int32) (k7 : Int32 → Int32 → Int32 → MM → Option (Int32 × MM)) (x4 : Int32) (x5 : Int32) (m : MM) : Option (Int32 × MM) :=
  g_X1_fewestWithout_105 th p1 k7 x4 x5 x4 m
set_option maxHeartbeats 4000000 in
set_option maxRecDepth 100000 in
theorem s_X1_fewestWithout_99 {Γ : GX} {E : EX} (C : Cx Γ E cX1_fewestWithout RX1 7) (hr : Γ.meth.sig.returnType = (some .int)) (hrm : Γ.rm = rmX1_fewestWithout) (th : Nat) (p1 : Int32) (k7 : Int32 → Int32 → Int32 → MM → Option (Int32 × MM)) (h7 : ∀ (x2 : Int32) (x3 : Int32) (x4 : Int32) (m : MM), Sm (QM Γ E emI 0 0) Γ E 7 0 0 7 [(0, va_rf (some th)), (1, .int p1), (2, .int x2), (3, .int x3), (4, .int x4)] [] m (k7 x2 x3 x4 m)) (x4 : Int32) (x5 : Int32) (m : MM) : Sm (QM Γ E emI 0 0) Γ E 7 0 0 99 [(0, va_rf (some th)), (1, .int p1), (4, .int x4), (5, .int x5)] [] m (g_X1_fewestWithout_99 th p1 k7 x4 x5 m) := by
  unfold g_X1_fewestWithout_99
  refine z_iload C dX1_fewestWithout_99 2 rfl ?_
  refine z_istore_n (i := 2) (L2 := [(2, .int x4), (0, va_rf (some th)), (1, .int p1), (4, .int x4), (5, .int x5)]) C dX1_fewestWithout_101 rfl (by decide) rfl ?_
  refine z_iload C dX1_fewestWithout_102 4 rfl ?_
  refine z_istore_n (i := 3) (L2 := [(3, .int x5), (2, .int x4), (0, va_rf (some th)), (1, .int p1), (4, .int x4), (5, .int x5)]) C dX1_fewestWithout_104 rfl (by decide) rfl ?_
  exact z_sub [2, 3, 1, 0, 4] rfl (s_X1_fewestWithout_105 C hr hrm th p1 k7 h7 x4 x5 x4 m)
set_option maxRecDepth 100000 in
def g_X1_fewestWithout_77 (th : Nat) (p1 : Int32) (k7 : Int32 → Int32 → Int32 → MM → Option (Int32 × MM)) (x2 : Int32) (x3 : Int32) (x4 : Int32) (x5 : Int32) (s0 : Int32) (m : MM) : Option (Int32 × MM) :=
  if s0 = 0 then (if x5 = x3 then (cal (f_X1_isLesser x4 x2 m) (fun r1 m1 => if r1 = 0 then (g_X1_fewestWithout_105 th p1 k7 x2 x3 x4 m1) else (g_X1_fewestWithout_99 th p1 k7 x4 x5 m1))) else (g_X1_fewestWithout_105 th p1 k7 x2 x3 x4 m)) else (g_X1_fewestWithout_99 th p1 k7 x4 x5 m)
set_option maxHeartbeats 4000000 in
set_option maxRecDepth 100000 in
theorem s_X1_fewestWithout_77 {Γ : GX} {E : EX} (C : Cx Γ E cX1_fewestWithout RX1 7) (hr : Γ.meth.sig.returnType = (some .int)) (hrm : Γ.rm = rmX1_fewestWithout) (th : Nat) (p1 : Int32) (k7 : Int32 → Int32 → Int32 → MM → Option (Int32 × MM)) (h7 : ∀ (x2 : Int32) (x3 : Int32) (x4 : Int32) (m : MM), Sm (QM Γ E emI 0 0) Γ E 7 0 0 7 [(0, va_rf (some th)), (1, .int p1), (2, .int x2), (3, .int x3), (4, .int x4)] [] m (k7 x2 x3 x4 m)) (x2 : Int32) (x3 : Int32) (x4 : Int32) (x5 : Int32) (s0 : Int32) (m : MM) : Sm (QM Γ E emI 0 0) Γ E 7 0 0 77 [(0, va_rf (some th)), (1, .int p1), (2, .int x2), (3, .int x3), (4, .int x4), (5, .int x5)] [.int s0] m (g_X1_fewestWithout_77 th p1 k7 x2 x3 x4 x5 s0 m) := by
  unfold g_X1_fewestWithout_77
  refine z_istore (i := 6) (L2 := [(6, .int s0), (0, va_rf (some th)), (1, .int p1), (2, .int x2), (3, .int x3), (4, .int x4), (5, .int x5)]) C dX1_fewestWithout_77 (by decide) rfl ?_
  refine z_iload C dX1_fewestWithout_79 0 rfl ?_
  refine z_if_ne (tgt := 99) C dX1_fewestWithout_81 (by decide) (fun c1 => ?_) (fun c1 => ?_)
  · exact z_sub [1, 2, 5, 6] rfl (s_X1_fewestWithout_99 C hr hrm th p1 k7 h7 x4 x5 m)
  · refine z_iload C dX1_fewestWithout_84 6 rfl ?_
    refine z_iload_n C dX1_fewestWithout_86 rfl 4 rfl ?_
    refine z_icmp_ne (tgt := 105) C dX1_fewestWithout_87 (by decide) (fun c2 => ?_) (fun c2 => ?_)
    · exact z_sub [1, 2, 3, 4, 5] rfl (s_X1_fewestWithout_105 C hr hrm th p1 k7 h7 x2 x3 x4 m)
    · refine z_iload C dX1_fewestWithout_90 5 rfl ?_
      refine z_iload_n C dX1_fewestWithout_92 rfl 3 rfl ?_
      refine z_cSI [.int x4, .int x2] [] C mv_RX1_127 (fun r0 m0 h0 => M_X1_isLesser _ _ _ _ _ _ _ h0) rfl rfl ⟨by rw [hrm]; exact Nat.le_of_ble_eq_true rfl, by rw [hrm]; exact Nat.le_of_ble_eq_true rfl⟩ ⟨by rw [hrm]; exact Nat.le_of_ble_eq_true rfl, by rw [hrm]; exact Nat.le_of_ble_eq_true rfl⟩ rfl rfl (Nat.le_of_ble_eq_true rfl) dX1_fewestWithout_93 (fun r1 m1 => ?_)
      refine z_if_eq (tgt := 105) C dX1_fewestWithout_96 (by decide) (fun c3 => ?_) (fun c3 => ?_)
      · exact z_sub [1, 2, 3, 4, 5] rfl (s_X1_fewestWithout_105 C hr hrm th p1 k7 h7 x2 x3 x4 m1)
      · exact z_sub [1, 2, 5, 6] rfl (s_X1_fewestWithout_99 C hr hrm th p1 k7 h7 x4 x5 m1)
set_option maxRecDepth 100000 in
def g_X1_fewestWithout_72 (th : Nat) (p1 : Int32) (k7 : Int32 → Int32 → Int32 → MM → Option (Int32 × MM)) (x2 : Int32) (x3 : Int32) (x4 : Int32) (x5 : Int32) (m : MM) : Option (Int32 × MM) :=
  g_X1_fewestWithout_77 th p1 k7 x2 x3 x4 x5 1 m
set_option maxHeartbeats 4000000 in
set_option maxRecDepth 100000 in
theorem s_X1_fewestWithout_72 {Γ : GX} {E : EX} (C : Cx Γ E cX1_fewestWithout RX1 7) (hr : Γ.meth.sig.returnType = (some .int)) (hrm : Γ.rm = rmX1_fewestWithout) (th : Nat) (p1 : Int32) (k7 : Int32 → Int32 → Int32 → MM → Option (Int32 × MM)) (h7 : ∀ (x2 : Int32) (x3 : Int32) (x4 : Int32) (m : MM), Sm (QM Γ E emI 0 0) Γ E 7 0 0 7 [(0, va_rf (some th)), (1, .int p1), (2, .int x2), (3, .int x3), (4, .int x4)] [] m (k7 x2 x3 x4 m)) (x2 : Int32) (x3 : Int32) (x4 : Int32) (x5 : Int32) (m : MM) : Sm (QM Γ E emI 0 0) Γ E 7 0 0 72 [(0, va_rf (some th)), (1, .int p1), (2, .int x2), (3, .int x3), (4, .int x4), (5, .int x5)] [] m (g_X1_fewestWithout_72 th p1 k7 x2 x3 x4 x5 m) := by
  unfold g_X1_fewestWithout_72
  refine z_iconst (v := 1) C dX1_fewestWithout_72 (by decide) ?_
  refine z_goto (tgt := 77) C dX1_fewestWithout_73 (by decide) ?_
  exact z_sub [0, 1, 2, 3, 4, 5] rfl (s_X1_fewestWithout_77 C hr hrm th p1 k7 h7 x2 x3 x4 x5 1 m)
set_option maxRecDepth 100000 in
def g_X1_fewestWithout_59 (th : Nat) (p1 : Int32) (k7 : Int32 → Int32 → Int32 → MM → Option (Int32 × MM)) (x2 : Int32) (x3 : Int32) (x4 : Int32) (s0 : Int32) (m : MM) : Option (Int32 × MM) :=
  if x3 = (-1) then (g_X1_fewestWithout_72 th p1 k7 x2 x3 x4 s0 m) else (if x3 ≤ s0 then (g_X1_fewestWithout_77 th p1 k7 x2 x3 x4 s0 0 m) else (g_X1_fewestWithout_72 th p1 k7 x2 x3 x4 s0 m))
set_option maxHeartbeats 4000000 in
set_option maxRecDepth 100000 in
theorem s_X1_fewestWithout_59 {Γ : GX} {E : EX} (C : Cx Γ E cX1_fewestWithout RX1 7) (hr : Γ.meth.sig.returnType = (some .int)) (hrm : Γ.rm = rmX1_fewestWithout) (th : Nat) (p1 : Int32) (k7 : Int32 → Int32 → Int32 → MM → Option (Int32 × MM)) (h7 : ∀ (x2 : Int32) (x3 : Int32) (x4 : Int32) (m : MM), Sm (QM Γ E emI 0 0) Γ E 7 0 0 7 [(0, va_rf (some th)), (1, .int p1), (2, .int x2), (3, .int x3), (4, .int x4)] [] m (k7 x2 x3 x4 m)) (x2 : Int32) (x3 : Int32) (x4 : Int32) (s0 : Int32) (m : MM) : Sm (QM Γ E emI 0 0) Γ E 7 0 0 59 [(0, va_rf (some th)), (1, .int p1), (2, .int x2), (3, .int x3), (4, .int x4)] [.int s0] m (g_X1_fewestWithout_59 th p1 k7 x2 x3 x4 s0 m) := by
  unfold g_X1_fewestWithout_59
  refine z_istore (i := 5) (L2 := [(5, .int s0), (0, va_rf (some th)), (1, .int p1), (2, .int x2), (3, .int x3), (4, .int x4)]) C dX1_fewestWithout_59 (by decide) rfl ?_
  refine z_iload_n C dX1_fewestWithout_61 rfl 4 rfl ?_
  refine z_iconst (v := (-1)) C dX1_fewestWithout_62 (by decide) ?_
  refine z_icmp_eq (tgt := 72) C dX1_fewestWithout_63 (by decide) (fun c4 => ?_) (fun c4 => ?_)
  · exact z_sub [1, 2, 3, 4, 5, 0] rfl (s_X1_fewestWithout_72 C hr hrm th p1 k7 h7 x2 x3 x4 s0 m)
  · refine z_iload C dX1_fewestWithout_66 0 rfl ?_
    refine z_iload_n C dX1_fewestWithout_68 rfl 4 rfl ?_
    refine z_icmp_ge (tgt := 76) C dX1_fewestWithout_69 (by decide) (fun c5 => ?_) (fun c5 => ?_)
    · refine z_iconst (v := 0) C dX1_fewestWithout_76 (by decide) ?_
      exact z_sub [1, 2, 3, 4, 5, 0] rfl (s_X1_fewestWithout_77 C hr hrm th p1 k7 h7 x2 x3 x4 s0 0 m)
    · exact z_sub [1, 2, 3, 4, 5, 0] rfl (s_X1_fewestWithout_72 C hr hrm th p1 k7 h7 x2 x3 x4 s0 m)
set_option maxRecDepth 100000 in
def g_X1_fewestWithout_7 (th : Nat) (p1 : Int32) (k7 : Int32 → Int32 → Int32 → MM → Option (Int32 × MM)) (x2 : Int32) (x3 : Int32) (x4 : Int32) (m : MM) : Option (Int32 × MM) :=
  if 4096 ≤ x4 then (some (x2, m)) else (chk (m.K th = 2) (ck m (m.R 200 th 0) 6 (fun a1 => if (x4 &&& ((m.I 605 a1 0) ^^^ (-1))) = 0 then (cal (f_X5_rids a1 x4 m) (fun r2 m2 => if r2 = 0 then (g_X1_fewestWithout_105 th p1 k7 x2 x3 x4 m2) else (if p1 = 0 then (g_X1_fewestWithout_59 th p1 k7 x2 x3 x4 0 m2) else (chk (m2.K th = 2) (cal (f_X1_costOf th x4 m2) (fun r3 m3 => g_X1_fewestWithout_59 th p1 k7 x2 x3 x4 r3 m3)))))) else (g_X1_fewestWithout_105 th p1 k7 x2 x3 x4 m))))
set_option maxHeartbeats 4000000 in
set_option maxRecDepth 100000 in
theorem s_X1_fewestWithout_7 {Γ : GX} {E : EX} (C : Cx Γ E cX1_fewestWithout RX1 7) (hr : Γ.meth.sig.returnType = (some .int)) (hrm : Γ.rm = rmX1_fewestWithout) (th : Nat) (p1 : Int32) (k7 : Int32 → Int32 → Int32 → MM → Option (Int32 × MM)) (h7 : ∀ (x2 : Int32) (x3 : Int32) (x4 : Int32) (m : MM), Sm (QM Γ E emI 0 0) Γ E 7 0 0 7 [(0, va_rf (some th)), (1, .int p1), (2, .int x2), (3, .int x3), (4, .int x4)] [] m (k7 x2 x3 x4 m)) (x2 : Int32) (x3 : Int32) (x4 : Int32) (m : MM) : Sm (QM Γ E emI 0 0) Γ E 7 0 0 7 [(0, va_rf (some th)), (1, .int p1), (2, .int x2), (3, .int x3), (4, .int x4)] [] m (g_X1_fewestWithout_7 th p1 k7 x2 x3 x4 m) := by
  unfold g_X1_fewestWithout_7
  refine z_iload C dX1_fewestWithout_7 4 rfl ?_
  refine z_sipush (v := 4096) C dX1_fewestWithout_9 (by decide) ?_
  refine z_icmp_ge (tgt := 111) C dX1_fewestWithout_12 (by decide) (fun c6 => ?_) (fun c6 => ?_)
  · refine z_iload_n C dX1_fewestWithout_111 rfl 2 rfl ?_
    exact z_iret C hr dX1_fewestWithout_112
  · refine z_iload C dX1_fewestWithout_15 4 rfl ?_
    refine z_aload_n C dX1_fewestWithout_17 rfl 0 rfl ?_
    refine z_chk (fun hk1 => ?_)
    refine z_getR C fl_RX1_9 rfl hk1 dX1_fewestWithout_18 ?_
    refine z_ck (fun a1 hr1 hk2 => ?_)
    refine z_getI C fl_RX1_117 hr1 hk2 dX1_fewestWithout_21 ?_
    refine z_iconst (v := (-1)) C dX1_fewestWithout_24 (by decide) ?_
    refine z_ixor C dX1_fewestWithout_25 ?_
    refine z_iand C dX1_fewestWithout_26 ?_
    refine z_if_ne (tgt := 105) C dX1_fewestWithout_27 (by decide) (fun c7 => ?_) (fun c7 => ?_)
    · exact z_sub [0, 1, 2, 3, 4] rfl (s_X1_fewestWithout_105 C hr hrm th p1 k7 h7 x2 x3 x4 m)
    · refine z_aload_n C dX1_fewestWithout_30 rfl 0 rfl ?_
      refine z_getR C fl_RX1_9 rfl hk1 dX1_fewestWithout_31 ?_
      refine z_iload C dX1_fewestWithout_34 4 rfl ?_
      refine z_cVI [.int x4] [] C mv_RX1_120 (fun r0 m0 h0 => M_X5_rids _ _ _ _ _ _ _ h0) rfl rfl ⟨by rw [hrm]; exact Nat.le_of_ble_eq_true rfl, by rw [hrm]; exact Nat.le_of_ble_eq_true rfl⟩ ⟨by rw [hrm]; exact Nat.le_of_ble_eq_true rfl, by rw [hrm]; exact Nat.le_of_ble_eq_true rfl⟩ hr1 hk2 rfl rfl rfl (Nat.le_of_ble_eq_true rfl) dX1_fewestWithout_36 (fun r2 m2 => ?_)
      refine z_if_ne (tgt := 45) C dX1_fewestWithout_39 (by decide) (fun c8 => ?_) (fun c8 => ?_)
      · refine z_iload_n C dX1_fewestWithout_45 rfl 1 rfl ?_
        refine z_if_eq (tgt := 58) C dX1_fewestWithout_46 (by decide) (fun c9 => ?_) (fun c9 => ?_)
        · refine z_iconst (v := 0) C dX1_fewestWithout_58 (by decide) ?_
          exact z_sub [0, 1, 2, 3, 4] rfl (s_X1_fewestWithout_59 C hr hrm th p1 k7 h7 x2 x3 x4 0 m2)
        · refine z_aload_n C dX1_fewestWithout_49 rfl 0 rfl ?_
          refine z_iload C dX1_fewestWithout_50 4 rfl ?_
          refine z_chk (fun hk3 => ?_)
          refine z_cVI [.int x4] [] C mv_RX1_124 (fun r0 m0 h0 => M_X1_costOf _ _ _ _ _ _ _ h0) rfl rfl ⟨by rw [hrm]; exact Nat.le_of_ble_eq_true rfl, by rw [hrm]; exact Nat.le_of_ble_eq_true rfl⟩ ⟨by rw [hrm]; exact Nat.le_of_ble_eq_true rfl, by rw [hrm]; exact Nat.le_of_ble_eq_true rfl⟩ rfl hk3 rfl rfl rfl (Nat.le_of_ble_eq_true rfl) dX1_fewestWithout_52 (fun r3 m3 => ?_)
          refine z_goto (tgt := 59) C dX1_fewestWithout_55 (by decide) ?_
          exact z_sub [0, 1, 2, 3, 4] rfl (s_X1_fewestWithout_59 C hr hrm th p1 k7 h7 x2 x3 x4 r3 m3)
      · refine z_goto (tgt := 105) C dX1_fewestWithout_42 (by decide) ?_
        exact z_sub [0, 1, 2, 3, 4] rfl (s_X1_fewestWithout_105 C hr hrm th p1 k7 h7 x2 x3 x4 m2)
def l_X1_fewestWithout_7 (th : Nat) (p1 : Int32) : Nat → Int32 → Int32 → Int32 → MM → Option (Int32 × MM) := lp (fun _ _ _ _ => none) (fun k7 => g_X1_fewestWithout_7 th p1 k7)
theorem t_X1_fewestWithout_7 {Γ : GX} {E : EX} (C : Cx Γ E cX1_fewestWithout RX1 7) (hr : Γ.meth.sig.returnType = (some .int)) (hrm : Γ.rm = rmX1_fewestWithout) (th : Nat) (p1 : Int32) : ∀ (n : Nat) (x2 : Int32) (x3 : Int32) (x4 : Int32) (m : MM), Sm (QM Γ E emI 0 0) Γ E 7 0 0 7 [(0, va_rf (some th)), (1, .int p1), (2, .int x2), (3, .int x3), (4, .int x4)] [] m (l_X1_fewestWithout_7 th p1 n x2 x3 x4 m) := by
  intro n
  induction n with
  | zero => intros; exact z_none
  | succ n ih => intro x2 x3 x4 m; exact s_X1_fewestWithout_7 C hr hrm th p1 (l_X1_fewestWithout_7 th p1 n) ih x2 x3 x4 m
set_option maxRecDepth 100000 in
def g_X1_fewestWithout_0 (th : Nat) (p1 : Int32) (m : MM) : Option (Int32 × MM) :=
  l_X1_fewestWithout_7 th p1 FU 0 (-1) 0 m
set_option maxHeartbeats 4000000 in
set_option maxRecDepth 100000 in
theorem s_X1_fewestWithout_0 {Γ : GX} {E : EX} (C : Cx Γ E cX1_fewestWithout RX1 7) (hr : Γ.meth.sig.returnType = (some .int)) (hrm : Γ.rm = rmX1_fewestWithout) (th : Nat) (p1 : Int32) (m : MM) : Sm (QM Γ E emI 0 0) Γ E 7 0 0 0 [(0, va_rf (some th)), (1, .int p1)] [] m (g_X1_fewestWithout_0 th p1 m) := by
  unfold g_X1_fewestWithout_0
  refine z_iconst (v := 0) C dX1_fewestWithout_0 (by decide) ?_
  refine z_istore_n (i := 2) (L2 := [(2, .int 0), (0, va_rf (some th)), (1, .int p1)]) C dX1_fewestWithout_1 rfl (by decide) rfl ?_
  refine z_iconst (v := (-1)) C dX1_fewestWithout_2 (by decide) ?_
  refine z_istore_n (i := 3) (L2 := [(3, .int (-1)), (2, .int 0), (0, va_rf (some th)), (1, .int p1)]) C dX1_fewestWithout_3 rfl (by decide) rfl ?_
  refine z_iconst (v := 0) C dX1_fewestWithout_4 (by decide) ?_
  refine z_istore (i := 4) (L2 := [(4, .int 0), (3, .int (-1)), (2, .int 0), (0, va_rf (some th)), (1, .int p1)]) C dX1_fewestWithout_5 (by decide) rfl ?_
  exact z_sub [3, 4, 2, 1, 0] rfl (t_X1_fewestWithout_7 C hr hrm th p1 FU 0 (-1) 0 m)
def f_X1_fewestWithout (th : Nat) (p1 : Int32) (m : MM) : Option (Int32 × MM) := g_X1_fewestWithout_0 th p1 m
theorem M_X1_fewestWithout (l : Launch) (E : EX) (th : Nat) (p1 : Int32) (m : MM) (r : Int32) (m2 : MM) (h : f_X1_fewestWithout th p1 m = some (r, m2)) : Met l yX1_fewestWithout (.code yX1_fewestWithout cX1_fewestWithout 7 (some .int) :: TB) rmX1_fewestWithout (va_Pc [.ref th, .int p1] (St E m)) (QR E (emI r) m2) 0 0 (AA E) :=
  met_of (em := emI) (plainFor_of_name rfl) (Nat.le_of_ble_eq_true rfl) (L0 := [(0, va_rf (some th)), (1, .int p1)]) rfl (fun Γ _ hrm C hr hn => s_X1_fewestWithout_0 C hr hrm th p1 m) h

theorem dX1_fencesFor_0 : decode cX1_fencesFor 0 = .ok (.aload_n 0, 1) := by decide +kernel
theorem dX1_fencesFor_1 : decode cX1_fencesFor 1 = .ok (.getfield 9, 3) := by decide +kernel
theorem dX1_fencesFor_4 : decode cX1_fencesFor 4 = .ok (.getfield 37, 3) := by decide +kernel
theorem dX1_fencesFor_7 : decode cX1_fencesFor 7 = .ok (.astore_n 2, 1) := by decide +kernel
theorem dX1_fencesFor_8 : decode cX1_fencesFor 8 = .ok (.aload_n 2, 1) := by decide +kernel
theorem dX1_fencesFor_9 : decode cX1_fencesFor 9 = .ok (.ifnull 20, 3) := by decide +kernel
theorem dX1_fencesFor_12 : decode cX1_fencesFor 12 = .ok (.aload_n 2, 1) := by decide +kernel
theorem dX1_fencesFor_13 : decode cX1_fencesFor 13 = .ok (.getfield 41, 3) := by decide +kernel
theorem dX1_fencesFor_16 : decode cX1_fencesFor 16 = .ok (.aload_n 0, 1) := by decide +kernel
theorem dX1_fencesFor_17 : decode cX1_fencesFor 17 = .ok (.iload_n 1, 1) := by decide +kernel
theorem dX1_fencesFor_18 : decode cX1_fencesFor 18 = .ok (.invokevirtual 70, 3) := by decide +kernel
theorem dX1_fencesFor_21 : decode cX1_fencesFor 21 = .ok (.iconst 4, 1) := by decide +kernel
theorem dX1_fencesFor_22 : decode cX1_fencesFor 22 = .ok (.invokevirtual 62, 3) := by decide +kernel
theorem dX1_fencesFor_25 : decode cX1_fencesFor 25 = .ok (.iconst 1, 1) := by decide +kernel
theorem dX1_fencesFor_26 : decode cX1_fencesFor 26 = .ok (.if_icmp .eq 5, 3) := by decide +kernel
theorem dX1_fencesFor_29 : decode cX1_fencesFor 29 = .ok (.iconst 0, 1) := by decide +kernel
theorem dX1_fencesFor_30 : decode cX1_fencesFor 30 = .ok (.ireturn, 1) := by decide +kernel
theorem dX1_fencesFor_31 : decode cX1_fencesFor 31 = .ok (.aload_n 0, 1) := by decide +kernel
theorem dX1_fencesFor_32 : decode cX1_fencesFor 32 = .ok (.getfield 9, 3) := by decide +kernel
theorem dX1_fencesFor_35 : decode cX1_fencesFor 35 = .ok (.aload_n 0, 1) := by decide +kernel
theorem dX1_fencesFor_36 : decode cX1_fencesFor 36 = .ok (.getfield 9, 3) := by decide +kernel
theorem dX1_fencesFor_39 : decode cX1_fencesFor 39 = .ok (.aload_n 0, 1) := by decide +kernel
theorem dX1_fencesFor_40 : decode cX1_fencesFor 40 = .ok (.iload_n 1, 1) := by decide +kernel
theorem dX1_fencesFor_41 : decode cX1_fencesFor 41 = .ok (.invokevirtual 80, 3) := by decide +kernel
theorem dX1_fencesFor_44 : decode cX1_fencesFor 44 = .ok (.invokevirtual 54, 3) := by decide +kernel
theorem dX1_fencesFor_47 : decode cX1_fencesFor 47 = .ok (.aload_n 0, 1) := by decide +kernel
theorem dX1_fencesFor_48 : decode cX1_fencesFor 48 = .ok (.getfield 9, 3) := by decide +kernel
theorem dX1_fencesFor_51 : decode cX1_fencesFor 51 = .ok (.aload_n 0, 1) := by decide +kernel
theorem dX1_fencesFor_52 : decode cX1_fencesFor 52 = .ok (.iload_n 1, 1) := by decide +kernel
theorem dX1_fencesFor_53 : decode cX1_fencesFor 53 = .ok (.invokevirtual 83, 3) := by decide +kernel
theorem dX1_fencesFor_56 : decode cX1_fencesFor 56 = .ok (.invokevirtual 54, 3) := by decide +kernel
theorem dX1_fencesFor_59 : decode cX1_fencesFor 59 = .ok (.invokevirtual 141, 3) := by decide +kernel
theorem dX1_fencesFor_62 : decode cX1_fencesFor 62 = .ok (.ireturn, 1) := by decide +kernel
def rmX1_fencesFor : Room := { frames := 3, cells := 0, slots := 0, locals := 89 }
set_option maxRecDepth 100000 in
def g_X1_fencesFor_0 (th : Nat) (p1 : Int32) (m : MM) : Option (Int32 × MM) :=
  chk (m.K th = 2) (ck m (m.R 200 th 0) 6 (fun a1 => bnd (m.R 603 a1 0) (fun y1 => ifn y1 (some (0, m)) (fun a2 => chk (m.K a2 = 3) (cal (f_X1_ruleOf th p1 m) (fun r1 m1 => ck m1 (m.R 300 a2 0) 7 (fun a3 => cal (f_X6_cell a3 r1 4 m1) (fun r2 m2 => if r2 = 1 then (chk (m2.K th = 2) (cal (f_X1_firstOf th p1 m2) (fun r3 m3 => ck m3 (m2.R 200 th 0) 6 (fun a4 => cal (f_X5_body a4 r3 m3) (fun r4 m4 => chk (m4.K th = 2) (cal (f_X1_secondOf th p1 m4) (fun r5 m5 => ck m5 (m4.R 200 th 0) 6 (fun a5 => cal (f_X5_body a5 r5 m5) (fun r6 m6 => chk (m6.K a4 = 6) (cal (f_X5_fencesBetween a4 r4 r6 m6) (fun r7 m7 => some (r7, m7)))))))))))) else (some (0, m2))))))))))
set_option maxHeartbeats 4000000 in
set_option maxRecDepth 100000 in
theorem s_X1_fencesFor_0 {Γ : GX} {E : EX} (C : Cx Γ E cX1_fencesFor RX1 3) (hr : Γ.meth.sig.returnType = (some .int)) (hrm : Γ.rm = rmX1_fencesFor) (th : Nat) (p1 : Int32) (m : MM) : Sm (QM Γ E emI 0 0) Γ E 3 0 0 0 [(0, va_rf (some th)), (1, .int p1)] [] m (g_X1_fencesFor_0 th p1 m) := by
  unfold g_X1_fencesFor_0
  refine z_aload_n C dX1_fencesFor_0 rfl 0 rfl ?_
  refine z_chk (fun hk1 => ?_)
  refine z_getR C fl_RX1_9 rfl hk1 dX1_fencesFor_1 ?_
  refine z_ck (fun a1 hr1 hk2 => ?_)
  refine z_getR C fl_RX1_37 hr1 hk2 dX1_fencesFor_4 ?_
  refine z_bndR (fun y1 => ?_)
  refine z_astore_n (i := 2) (L2 := [(2, va_rf y1), (0, va_rf (some th)), (1, .int p1)]) C dX1_fencesFor_7 rfl (by decide) rfl ?_
  refine z_aload_n C dX1_fencesFor_8 rfl 0 rfl ?_
  refine z_ifnull (tgt := 29) C dX1_fencesFor_9 (by decide) (fun hn1 => ?_) (fun a2 ha1 => ?_)
  · refine z_iconst (v := 0) C dX1_fencesFor_29 (by decide) ?_
    exact z_iret C hr dX1_fencesFor_30
  · refine z_aload_n C dX1_fencesFor_12 rfl 0 rfl ?_
    refine z_chk (fun hk3 => ?_)
    refine z_getR C fl_RX1_41 ha1 hk3 dX1_fencesFor_13 ?_
    refine z_aload_n C dX1_fencesFor_16 rfl 1 rfl ?_
    refine z_iload_n C dX1_fencesFor_17 rfl 2 rfl ?_
    refine z_cVI [.int p1] [va_rf (m.R 300 a2 0)] C mv_RX1_70 (fun r0 m0 h0 => M_X1_ruleOf _ _ _ _ _ _ _ h0) rfl rfl ⟨by rw [hrm]; exact Nat.le_of_ble_eq_true rfl, by rw [hrm]; exact Nat.le_of_ble_eq_true rfl⟩ ⟨by rw [hrm]; exact Nat.le_of_ble_eq_true rfl, by rw [hrm]; exact Nat.le_of_ble_eq_true rfl⟩ rfl hk1 rfl rfl rfl (by simp [cat_rf, cat_i, cat_l, cat_a]) dX1_fencesFor_18 (fun r1 m1 => ?_)
    refine z_iconst (v := 4) C dX1_fencesFor_21 (by decide) ?_
    refine z_ck (fun a3 hr2 hk4 => ?_)
    refine z_cVI [.int r1, .int 4] [] C mv_RX1_62 (fun r0 m0 h0 => M_X6_cell _ _ _ _ _ _ _ _ h0) rfl rfl ⟨by rw [hrm]; exact Nat.le_of_ble_eq_true rfl, by rw [hrm]; exact Nat.le_of_ble_eq_true rfl⟩ ⟨by rw [hrm]; exact Nat.le_of_ble_eq_true rfl, by rw [hrm]; exact Nat.le_of_ble_eq_true rfl⟩ hr2 hk4 rfl rfl rfl (Nat.le_of_ble_eq_true rfl) dX1_fencesFor_22 (fun r2 m2 => ?_)
    refine z_iconst (v := 1) C dX1_fencesFor_25 (by decide) ?_
    refine z_icmp_eq (tgt := 31) C dX1_fencesFor_26 (by decide) (fun c1 => ?_) (fun c1 => ?_)
    · refine z_aload_n C dX1_fencesFor_31 rfl 1 rfl ?_
      refine z_chk (fun hk5 => ?_)
      refine z_getR C fl_RX1_9 rfl hk5 dX1_fencesFor_32 ?_
      refine z_aload_n C dX1_fencesFor_35 rfl 1 rfl ?_
      refine z_getR C fl_RX1_9 rfl hk5 dX1_fencesFor_36 ?_
      refine z_aload_n C dX1_fencesFor_39 rfl 1 rfl ?_
      refine z_iload_n C dX1_fencesFor_40 rfl 2 rfl ?_
      refine z_cVI [.int p1] [va_rf (m2.R 200 th 0), va_rf (m2.R 200 th 0)] C mv_RX1_80 (fun r0 m0 h0 => M_X1_firstOf _ _ _ _ _ _ _ h0) rfl rfl ⟨by rw [hrm]; exact Nat.le_of_ble_eq_true rfl, by rw [hrm]; exact Nat.le_of_ble_eq_true rfl⟩ ⟨by rw [hrm]; exact Nat.le_of_ble_eq_true rfl, by rw [hrm]; exact Nat.le_of_ble_eq_true rfl⟩ rfl hk5 rfl rfl rfl (by simp [cat_rf, cat_i, cat_l, cat_a]) dX1_fencesFor_41 (fun r3 m3 => ?_)
      refine z_ck (fun a4 hr3 hk6 => ?_)
      refine z_cVR [.int r3] [va_rf (m2.R 200 th 0)] C mv_RX1_54 (fun r0 m0 h0 => M_X5_body _ _ _ _ _ _ _ h0) rfl rfl ⟨by rw [hrm]; exact Nat.le_of_ble_eq_true rfl, by rw [hrm]; exact Nat.le_of_ble_eq_true rfl⟩ ⟨by rw [hrm]; exact Nat.le_of_ble_eq_true rfl, by rw [hrm]; exact Nat.le_of_ble_eq_true rfl⟩ hr3 hk6 rfl rfl rfl (by simp [cat_rf, cat_i, cat_l, cat_a]) dX1_fencesFor_44 (fun r4 m4 => ?_)
      refine z_aload_n C dX1_fencesFor_47 rfl 1 rfl ?_
      refine z_chk (fun hk7 => ?_)
      refine z_getR C fl_RX1_9 rfl hk7 dX1_fencesFor_48 ?_
      refine z_aload_n C dX1_fencesFor_51 rfl 1 rfl ?_
      refine z_iload_n C dX1_fencesFor_52 rfl 2 rfl ?_
      refine z_cVI [.int p1] [va_rf (m4.R 200 th 0), va_rf r4, va_rf (m2.R 200 th 0)] C mv_RX1_83 (fun r0 m0 h0 => M_X1_secondOf _ _ _ _ _ _ _ h0) rfl rfl ⟨by rw [hrm]; exact Nat.le_of_ble_eq_true rfl, by rw [hrm]; exact Nat.le_of_ble_eq_true rfl⟩ ⟨by rw [hrm]; exact Nat.le_of_ble_eq_true rfl, by rw [hrm]; exact Nat.le_of_ble_eq_true rfl⟩ rfl hk7 rfl rfl rfl (by simp [cat_rf, cat_i, cat_l, cat_a]) dX1_fencesFor_53 (fun r5 m5 => ?_)
      refine z_ck (fun a5 hr4 hk8 => ?_)
      refine z_cVR [.int r5] [va_rf r4, va_rf (m2.R 200 th 0)] C mv_RX1_54 (fun r0 m0 h0 => M_X5_body _ _ _ _ _ _ _ h0) rfl rfl ⟨by rw [hrm]; exact Nat.le_of_ble_eq_true rfl, by rw [hrm]; exact Nat.le_of_ble_eq_true rfl⟩ ⟨by rw [hrm]; exact Nat.le_of_ble_eq_true rfl, by rw [hrm]; exact Nat.le_of_ble_eq_true rfl⟩ hr4 hk8 rfl rfl rfl (by simp [cat_rf, cat_i, cat_l, cat_a]) dX1_fencesFor_56 (fun r6 m6 => ?_)
      refine z_chk (fun hk9 => ?_)
      refine z_cVI [va_rf r4, va_rf r6] [] C mv_RX1_141 (fun r0 m0 h0 => M_X5_fencesBetween _ _ _ _ _ _ _ _ h0) rfl rfl ⟨by rw [hrm]; exact Nat.le_of_ble_eq_true rfl, by rw [hrm]; exact Nat.le_of_ble_eq_true rfl⟩ ⟨by rw [hrm]; exact Nat.le_of_ble_eq_true rfl, by rw [hrm]; exact Nat.le_of_ble_eq_true rfl⟩ hr3 hk9 rfl rfl rfl (Nat.le_of_ble_eq_true rfl) dX1_fencesFor_59 (fun r7 m7 => ?_)
      exact z_iret C hr dX1_fencesFor_62
    · refine z_iconst (v := 0) C dX1_fencesFor_29 (by decide) ?_
      exact z_iret C hr dX1_fencesFor_30
def f_X1_fencesFor (th : Nat) (p1 : Int32) (m : MM) : Option (Int32 × MM) := g_X1_fencesFor_0 th p1 m
theorem M_X1_fencesFor (l : Launch) (E : EX) (th : Nat) (p1 : Int32) (m : MM) (r : Int32) (m2 : MM) (h : f_X1_fencesFor th p1 m = some (r, m2)) : Met l yX1_fencesFor (.code yX1_fencesFor cX1_fencesFor 3 (some .int) :: TB) rmX1_fencesFor (va_Pc [.ref th, .int p1] (St E m)) (QR E (emI r) m2) 0 0 (AA E) :=
  met_of (em := emI) (plainFor_of_name rfl) (Nat.le_of_ble_eq_true rfl) (L0 := [(0, va_rf (some th)), (1, .int p1)]) rfl (fun Γ _ hrm C hr hn => s_X1_fencesFor_0 C hr hrm th p1 m) h

theorem dX1_meetsAll_0 : decode cX1_meetsAll 0 = .ok (.iconst 0, 1) := by decide +kernel
theorem dX1_meetsAll_1 : decode cX1_meetsAll 1 = .ok (.istore_n 2, 1) := by decide +kernel
theorem dX1_meetsAll_2 : decode cX1_meetsAll 2 = .ok (.iload_n 2, 1) := by decide +kernel
theorem dX1_meetsAll_3 : decode cX1_meetsAll 3 = .ok (.aload_n 0, 1) := by decide +kernel
theorem dX1_meetsAll_4 : decode cX1_meetsAll 4 = .ok (.getfield 19, 3) := by decide +kernel
theorem dX1_meetsAll_7 : decode cX1_meetsAll 7 = .ok (.arraylength, 1) := by decide +kernel
theorem dX1_meetsAll_8 : decode cX1_meetsAll 8 = .ok (.if_icmp .ge 26, 3) := by decide +kernel
theorem dX1_meetsAll_11 : decode cX1_meetsAll 11 = .ok (.aload_n 0, 1) := by decide +kernel
theorem dX1_meetsAll_12 : decode cX1_meetsAll 12 = .ok (.getfield 19, 3) := by decide +kernel
theorem dX1_meetsAll_15 : decode cX1_meetsAll 15 = .ok (.iload_n 2, 1) := by decide +kernel
theorem dX1_meetsAll_16 : decode cX1_meetsAll 16 = .ok (.baload, 1) := by decide +kernel
theorem dX1_meetsAll_17 : decode cX1_meetsAll 17 = .ok (.ifCond .eq 11, 3) := by decide +kernel
theorem dX1_meetsAll_20 : decode cX1_meetsAll 20 = .ok (.iload_n 2, 1) := by decide +kernel
theorem dX1_meetsAll_21 : decode cX1_meetsAll 21 = .ok (.iload_n 1, 1) := by decide +kernel
theorem dX1_meetsAll_22 : decode cX1_meetsAll 22 = .ok (.iand, 1) := by decide +kernel
theorem dX1_meetsAll_23 : decode cX1_meetsAll 23 = .ok (.ifCond .ne 5, 3) := by decide +kernel
theorem dX1_meetsAll_26 : decode cX1_meetsAll 26 = .ok (.iconst 0, 1) := by decide +kernel
theorem dX1_meetsAll_27 : decode cX1_meetsAll 27 = .ok (.ireturn, 1) := by decide +kernel
theorem dX1_meetsAll_28 : decode cX1_meetsAll 28 = .ok (.iinc 2 1, 3) := by decide +kernel
theorem dX1_meetsAll_31 : decode cX1_meetsAll 31 = .ok (.goto (-29), 3) := by decide +kernel
theorem dX1_meetsAll_34 : decode cX1_meetsAll 34 = .ok (.iconst 1, 1) := by decide +kernel
theorem dX1_meetsAll_35 : decode cX1_meetsAll 35 = .ok (.ireturn, 1) := by decide +kernel
def rmX1_meetsAll : Room := { frames := 0, cells := 0, slots := 0, locals := 0 }
set_option maxRecDepth 100000 in
def g_X1_meetsAll_28 (th : Nat) (p1 : Int32) (k2 : Int32 → MM → Option (Int32 × MM)) (x2 : Int32) (m : MM) : Option (Int32 × MM) :=
  k2 (x2 + 1) m
set_option maxHeartbeats 4000000 in
set_option maxRecDepth 100000 in
theorem s_X1_meetsAll_28 {Γ : GX} {E : EX} (C : Cx Γ E cX1_meetsAll RX1 3) (hr : Γ.meth.sig.returnType = (some .boolean)) (hrm : Γ.rm = rmX1_meetsAll) (th : Nat) (p1 : Int32) (k2 : Int32 → MM → Option (Int32 × MM)) (h2 : ∀ (x2 : Int32) (m : MM), Sm (QM Γ E emI 0 0) Γ E 3 0 0 2 [(0, va_rf (some th)), (1, .int p1), (2, .int x2)] [] m (k2 x2 m)) (x2 : Int32) (m : MM) : Sm (QM Γ E emI 0 0) Γ E 3 0 0 28 [(0, va_rf (some th)), (1, .int p1), (2, .int x2)] [] m (g_X1_meetsAll_28 th p1 k2 x2 m) := by
  unfold g_X1_meetsAll_28
  refine z_iinc (v := 1) (L2 := [(2, .int (x2 + 1)), (0, va_rf (some th)), (1, .int p1)]) C dX1_meetsAll_28 2 rfl (by decide) (by decide) rfl ?_
  refine z_goto (tgt := 2) C dX1_meetsAll_31 (by decide) ?_
  exact z_sub [1, 2, 0] rfl (h2 (x2 + 1) m)
set_option maxRecDepth 100000 in
def g_X1_meetsAll_2 (th : Nat) (p1 : Int32) (k2 : Int32 → MM → Option (Int32 × MM)) (x2 : Int32) (m : MM) : Option (Int32 × MM) :=
  chk (m.K th = 2) (ck m (m.R 202 th 0) 24 (fun a1 => if (Int32.ofNat (m.N a1)) ≤ x2 then (some (1, m)) else (chk (inb x2 (m.N a1) = true) (if (m.I 24 a1 (Int32.toNatClampNeg x2)) = 0 then (g_X1_meetsAll_28 th p1 k2 x2 m) else (if (x2 &&& p1) = 0 then (some (0, m)) else (g_X1_meetsAll_28 th p1 k2 x2 m))))))
set_option maxHeartbeats 4000000 in
set_option maxRecDepth 100000 in
theorem s_X1_meetsAll_2 {Γ : GX} {E : EX} (C : Cx Γ E cX1_meetsAll RX1 3) (hr : Γ.meth.sig.returnType = (some .boolean)) (hrm : Γ.rm = rmX1_meetsAll) (th : Nat) (p1 : Int32) (k2 : Int32 → MM → Option (Int32 × MM)) (h2 : ∀ (x2 : Int32) (m : MM), Sm (QM Γ E emI 0 0) Γ E 3 0 0 2 [(0, va_rf (some th)), (1, .int p1), (2, .int x2)] [] m (k2 x2 m)) (x2 : Int32) (m : MM) : Sm (QM Γ E emI 0 0) Γ E 3 0 0 2 [(0, va_rf (some th)), (1, .int p1), (2, .int x2)] [] m (g_X1_meetsAll_2 th p1 k2 x2 m) := by
  unfold g_X1_meetsAll_2
  refine z_iload_n C dX1_meetsAll_2 rfl 2 rfl ?_
  refine z_aload_n C dX1_meetsAll_3 rfl 0 rfl ?_
  refine z_chk (fun hk1 => ?_)
  refine z_getR C fl_RX1_19 rfl hk1 dX1_meetsAll_4 ?_
  refine z_ck (fun a1 hr1 hk2 => ?_)
  refine z_alen C hr1 hk2 (by decide) (by decide) dX1_meetsAll_7 ?_
  refine z_icmp_ge (tgt := 34) C dX1_meetsAll_8 (by decide) (fun c1 => ?_) (fun c1 => ?_)
  · refine z_iconst (v := 1) C dX1_meetsAll_34 (by decide) ?_
    exact z_zret C hr rfl dX1_meetsAll_35
  · refine z_aload_n C dX1_meetsAll_11 rfl 0 rfl ?_
    refine z_getR C fl_RX1_19 rfl hk1 dX1_meetsAll_12 ?_
    refine z_iload_n C dX1_meetsAll_15 rfl 2 rfl ?_
    refine z_chk (fun hj1 => ?_)
    refine z_zald C hr1 hk2 hj1 dX1_meetsAll_16 ?_
    refine z_if_eq (tgt := 28) C dX1_meetsAll_17 (by decide) (fun c2 => ?_) (fun c2 => ?_)
    · exact z_sub [0, 1, 2] rfl (s_X1_meetsAll_28 C hr hrm th p1 k2 h2 x2 m)
    · refine z_iload_n C dX1_meetsAll_20 rfl 2 rfl ?_
      refine z_iload_n C dX1_meetsAll_21 rfl 1 rfl ?_
      refine z_iand C dX1_meetsAll_22 ?_
      refine z_if_ne (tgt := 28) C dX1_meetsAll_23 (by decide) (fun c3 => ?_) (fun c3 => ?_)
      · exact z_sub [0, 1, 2] rfl (s_X1_meetsAll_28 C hr hrm th p1 k2 h2 x2 m)
      · refine z_iconst (v := 0) C dX1_meetsAll_26 (by decide) ?_
        exact z_zret C hr rfl dX1_meetsAll_27
def l_X1_meetsAll_2 (th : Nat) (p1 : Int32) : Nat → Int32 → MM → Option (Int32 × MM) := lp (fun _ _ => none) (fun k2 => g_X1_meetsAll_2 th p1 k2)
theorem t_X1_meetsAll_2 {Γ : GX} {E : EX} (C : Cx Γ E cX1_meetsAll RX1 3) (hr : Γ.meth.sig.returnType = (some .boolean)) (hrm : Γ.rm = rmX1_meetsAll) (th : Nat) (p1 : Int32) : ∀ (n : Nat) (x2 : Int32) (m : MM), Sm (QM Γ E emI 0 0) Γ E 3 0 0 2 [(0, va_rf (some th)), (1, .int p1), (2, .int x2)] [] m (l_X1_meetsAll_2 th p1 n x2 m) := by
  intro n
  induction n with
  | zero => intros; exact z_none
  | succ n ih => intro x2 m; exact s_X1_meetsAll_2 C hr hrm th p1 (l_X1_meetsAll_2 th p1 n) ih x2 m
set_option maxRecDepth 100000 in
def g_X1_meetsAll_0 (th : Nat) (p1 : Int32) (m : MM) : Option (Int32 × MM) :=
  l_X1_meetsAll_2 th p1 FU 0 m
set_option maxHeartbeats 4000000 in
set_option maxRecDepth 100000 in
theorem s_X1_meetsAll_0 {Γ : GX} {E : EX} (C : Cx Γ E cX1_meetsAll RX1 3) (hr : Γ.meth.sig.returnType = (some .boolean)) (hrm : Γ.rm = rmX1_meetsAll) (th : Nat) (p1 : Int32) (m : MM) : Sm (QM Γ E emI 0 0) Γ E 3 0 0 0 [(0, va_rf (some th)), (1, .int p1)] [] m (g_X1_meetsAll_0 th p1 m) := by
  unfold g_X1_meetsAll_0
  refine z_iconst (v := 0) C dX1_meetsAll_0 (by decide) ?_
  refine z_istore_n (i := 2) (L2 := [(2, .int 0), (0, va_rf (some th)), (1, .int p1)]) C dX1_meetsAll_1 rfl (by decide) rfl ?_
  exact z_sub [1, 2, 0] rfl (t_X1_meetsAll_2 C hr hrm th p1 FU 0 m)
def f_X1_meetsAll (th : Nat) (p1 : Int32) (m : MM) : Option (Int32 × MM) := g_X1_meetsAll_0 th p1 m
theorem M_X1_meetsAll (l : Launch) (E : EX) (th : Nat) (p1 : Int32) (m : MM) (r : Int32) (m2 : MM) (h : f_X1_meetsAll th p1 m = some (r, m2)) : Met l yX1_meetsAll (.code yX1_meetsAll cX1_meetsAll 3 (some .boolean) :: TB) rmX1_meetsAll (va_Pc [.ref th, .int p1] (St E m)) (QR E (emI r) m2) 0 0 (AA E) :=
  met_of (em := emI) (plainFor_of_name rfl) (Nat.le_of_ble_eq_true rfl) (L0 := [(0, va_rf (some th)), (1, .int p1)]) rfl (fun Γ _ hrm C hr hn => s_X1_meetsAll_0 C hr hrm th p1 m) h

theorem dX1_fewestFences_0 : decode cX1_fewestFences 0 = .ok (.iconst 0, 1) := by decide +kernel
theorem dX1_fewestFences_1 : decode cX1_fewestFences 1 = .ok (.istore_n 1, 1) := by decide +kernel
theorem dX1_fewestFences_2 : decode cX1_fewestFences 2 = .ok (.iload_n 1, 1) := by decide +kernel
theorem dX1_fewestFences_3 : decode cX1_fewestFences 3 = .ok (.aload_n 0, 1) := by decide +kernel
theorem dX1_fewestFences_4 : decode cX1_fewestFences 4 = .ok (.getfield 19, 3) := by decide +kernel
theorem dX1_fewestFences_7 : decode cX1_fewestFences 7 = .ok (.arraylength, 1) := by decide +kernel
theorem dX1_fewestFences_8 : decode cX1_fewestFences 8 = .ok (.if_icmp .ge 16, 3) := by decide +kernel
theorem dX1_fewestFences_11 : decode cX1_fewestFences 11 = .ok (.aload_n 0, 1) := by decide +kernel
theorem dX1_fewestFences_12 : decode cX1_fewestFences 12 = .ok (.getfield 19, 3) := by decide +kernel
theorem dX1_fewestFences_15 : decode cX1_fewestFences 15 = .ok (.iload_n 1, 1) := by decide +kernel
theorem dX1_fewestFences_16 : decode cX1_fewestFences 16 = .ok (.iconst 0, 1) := by decide +kernel
theorem dX1_fewestFences_17 : decode cX1_fewestFences 17 = .ok (.bastore, 1) := by decide +kernel
theorem dX1_fewestFences_18 : decode cX1_fewestFences 18 = .ok (.iinc 1 1, 3) := by decide +kernel
theorem dX1_fewestFences_21 : decode cX1_fewestFences 21 = .ok (.goto (-19), 3) := by decide +kernel
theorem dX1_fewestFences_24 : decode cX1_fewestFences 24 = .ok (.iconst 0, 1) := by decide +kernel
theorem dX1_fewestFences_25 : decode cX1_fewestFences 25 = .ok (.istore_n 1, 1) := by decide +kernel
theorem dX1_fewestFences_26 : decode cX1_fewestFences 26 = .ok (.iload_n 1, 1) := by decide +kernel
theorem dX1_fewestFences_27 : decode cX1_fewestFences 27 = .ok (.aload_n 0, 1) := by decide +kernel
theorem dX1_fewestFences_28 : decode cX1_fewestFences 28 = .ok (.getfield 23, 3) := by decide +kernel
theorem dX1_fewestFences_31 : decode cX1_fewestFences 31 = .ok (.if_icmp .ge 37, 3) := by decide +kernel
theorem dX1_fewestFences_34 : decode cX1_fewestFences 34 = .ok (.aload_n 0, 1) := by decide +kernel
theorem dX1_fewestFences_35 : decode cX1_fewestFences 35 = .ok (.iload_n 1, 1) := by decide +kernel
theorem dX1_fewestFences_36 : decode cX1_fewestFences 36 = .ok (.invokevirtual 135, 3) := by decide +kernel
theorem dX1_fewestFences_39 : decode cX1_fewestFences 39 = .ok (.istore_n 2, 1) := by decide +kernel
theorem dX1_fewestFences_40 : decode cX1_fewestFences 40 = .ok (.iload_n 2, 1) := by decide +kernel
theorem dX1_fewestFences_41 : decode cX1_fewestFences 41 = .ok (.ifCond .le 12, 3) := by decide +kernel
theorem dX1_fewestFences_44 : decode cX1_fewestFences 44 = .ok (.iload_n 2, 1) := by decide +kernel
theorem dX1_fewestFences_45 : decode cX1_fewestFences 45 = .ok (.aload_n 0, 1) := by decide +kernel
theorem dX1_fewestFences_46 : decode cX1_fewestFences 46 = .ok (.getfield 19, 3) := by decide +kernel
theorem dX1_fewestFences_49 : decode cX1_fewestFences 49 = .ok (.arraylength, 1) := by decide +kernel
theorem dX1_fewestFences_50 : decode cX1_fewestFences 50 = .ok (.if_icmp .lt 5, 3) := by decide +kernel
theorem dX1_fewestFences_53 : decode cX1_fewestFences 53 = .ok (.iconst (-1), 1) := by decide +kernel
theorem dX1_fewestFences_54 : decode cX1_fewestFences 54 = .ok (.ireturn, 1) := by decide +kernel
theorem dX1_fewestFences_55 : decode cX1_fewestFences 55 = .ok (.aload_n 0, 1) := by decide +kernel
theorem dX1_fewestFences_56 : decode cX1_fewestFences 56 = .ok (.getfield 19, 3) := by decide +kernel
theorem dX1_fewestFences_59 : decode cX1_fewestFences 59 = .ok (.iload_n 2, 1) := by decide +kernel
theorem dX1_fewestFences_60 : decode cX1_fewestFences 60 = .ok (.iconst 1, 1) := by decide +kernel
theorem dX1_fewestFences_61 : decode cX1_fewestFences 61 = .ok (.bastore, 1) := by decide +kernel
theorem dX1_fewestFences_62 : decode cX1_fewestFences 62 = .ok (.iinc 1 1, 3) := by decide +kernel
theorem dX1_fewestFences_65 : decode cX1_fewestFences 65 = .ok (.goto (-39), 3) := by decide +kernel
theorem dX1_fewestFences_68 : decode cX1_fewestFences 68 = .ok (.aload_n 0, 1) := by decide +kernel
theorem dX1_fewestFences_69 : decode cX1_fewestFences 69 = .ok (.getfield 19, 3) := by decide +kernel
theorem dX1_fewestFences_72 : decode cX1_fewestFences 72 = .ok (.arraylength, 1) := by decide +kernel
theorem dX1_fewestFences_73 : decode cX1_fewestFences 73 = .ok (.iconst 1, 1) := by decide +kernel
theorem dX1_fewestFences_74 : decode cX1_fewestFences 74 = .ok (.isub, 1) := by decide +kernel
theorem dX1_fewestFences_75 : decode cX1_fewestFences 75 = .ok (.istore_n 1, 1) := by decide +kernel
theorem dX1_fewestFences_76 : decode cX1_fewestFences 76 = .ok (.iconst 0, 1) := by decide +kernel
theorem dX1_fewestFences_77 : decode cX1_fewestFences 77 = .ok (.istore_n 2, 1) := by decide +kernel
theorem dX1_fewestFences_78 : decode cX1_fewestFences 78 = .ok (.iload_n 2, 1) := by decide +kernel
theorem dX1_fewestFences_79 : decode cX1_fewestFences 79 = .ok (.aload_n 0, 1) := by decide +kernel
theorem dX1_fewestFences_80 : decode cX1_fewestFences 80 = .ok (.getfield 19, 3) := by decide +kernel
theorem dX1_fewestFences_83 : decode cX1_fewestFences 83 = .ok (.arraylength, 1) := by decide +kernel
theorem dX1_fewestFences_84 : decode cX1_fewestFences 84 = .ok (.if_icmp .ge 27, 3) := by decide +kernel
theorem dX1_fewestFences_87 : decode cX1_fewestFences 87 = .ok (.aload_n 0, 1) := by decide +kernel
theorem dX1_fewestFences_88 : decode cX1_fewestFences 88 = .ok (.iload_n 2, 1) := by decide +kernel
theorem dX1_fewestFences_89 : decode cX1_fewestFences 89 = .ok (.invokevirtual 138, 3) := by decide +kernel
theorem dX1_fewestFences_92 : decode cX1_fewestFences 92 = .ok (.ifCond .eq 13, 3) := by decide +kernel
theorem dX1_fewestFences_95 : decode cX1_fewestFences 95 = .ok (.iload_n 2, 1) := by decide +kernel
theorem dX1_fewestFences_96 : decode cX1_fewestFences 96 = .ok (.iload_n 1, 1) := by decide +kernel
theorem dX1_fewestFences_97 : decode cX1_fewestFences 97 = .ok (.invokestatic 127, 3) := by decide +kernel
theorem dX1_fewestFences_100 : decode cX1_fewestFences 100 = .ok (.ifCond .eq 5, 3) := by decide +kernel
theorem dX1_fewestFences_103 : decode cX1_fewestFences 103 = .ok (.iload_n 2, 1) := by decide +kernel
theorem dX1_fewestFences_104 : decode cX1_fewestFences 104 = .ok (.istore_n 1, 1) := by decide +kernel
theorem dX1_fewestFences_105 : decode cX1_fewestFences 105 = .ok (.iinc 2 1, 3) := by decide +kernel
theorem dX1_fewestFences_108 : decode cX1_fewestFences 108 = .ok (.goto (-30), 3) := by decide +kernel
theorem dX1_fewestFences_111 : decode cX1_fewestFences 111 = .ok (.iload_n 1, 1) := by decide +kernel
theorem dX1_fewestFences_112 : decode cX1_fewestFences 112 = .ok (.ireturn, 1) := by decide +kernel
def rmX1_fewestFences : Room := { frames := 4, cells := 0, slots := 0, locals := 111 }
set_option maxRecDepth 100000 in
def g_X1_fewestFences_2 (th : Nat) (k2 : Int32 → MM → Option (Int32 × MM)) (k24 : MM → Option (Int32 × MM)) (x1 : Int32) (m : MM) : Option (Int32 × MM) :=
  chk (m.K th = 2) (ck m (m.R 202 th 0) 24 (fun a1 => if (Int32.ofNat (m.N a1)) ≤ x1 then (k24 m) else (chk (inb x1 (m.N a1) = true) (bnd (m.sI 24 a1 (Int32.toNatClampNeg x1) (0 &&& 1)) (fun m1 => k2 (x1 + 1) m1)))))
set_option maxHeartbeats 4000000 in
set_option maxRecDepth 100000 in
theorem s_X1_fewestFences_2 {Γ : GX} {E : EX} (C : Cx Γ E cX1_fewestFences RX1 3) (hr : Γ.meth.sig.returnType = (some .int)) (hrm : Γ.rm = rmX1_fewestFences) (th : Nat) (k2 : Int32 → MM → Option (Int32 × MM)) (k24 : MM → Option (Int32 × MM)) (h2 : ∀ (x1 : Int32) (m : MM), Sm (QM Γ E emI 0 0) Γ E 3 0 0 2 [(0, va_rf (some th)), (1, .int x1)] [] m (k2 x1 m)) (h24 : ∀ (m : MM), Sm (QM Γ E emI 0 0) Γ E 3 0 0 24 [(0, va_rf (some th))] [] m (k24 m)) (x1 : Int32) (m : MM) : Sm (QM Γ E emI 0 0) Γ E 3 0 0 2 [(0, va_rf (some th)), (1, .int x1)] [] m (g_X1_fewestFences_2 th k2 k24 x1 m) := by
  unfold g_X1_fewestFences_2
  refine z_iload_n C dX1_fewestFences_2 rfl 1 rfl ?_
  refine z_aload_n C dX1_fewestFences_3 rfl 0 rfl ?_
  refine z_chk (fun hk1 => ?_)
  refine z_getR C fl_RX1_19 rfl hk1 dX1_fewestFences_4 ?_
  refine z_ck (fun a1 hr1 hk2 => ?_)
  refine z_alen C hr1 hk2 (by decide) (by decide) dX1_fewestFences_7 ?_
  refine z_icmp_ge (tgt := 24) C dX1_fewestFences_8 (by decide) (fun c1 => ?_) (fun c1 => ?_)
  · exact z_sub [0] rfl (h24 m)
  · refine z_aload_n C dX1_fewestFences_11 rfl 0 rfl ?_
    refine z_getR C fl_RX1_19 rfl hk1 dX1_fewestFences_12 ?_
    refine z_iload_n C dX1_fewestFences_15 rfl 1 rfl ?_
    refine z_iconst (v := 0) C dX1_fewestFences_16 (by decide) ?_
    refine z_chk (fun hj1 => ?_)
    refine z_zast C hr1 hk2 hj1 dX1_fewestFences_17 (fun m1 eK1 eN1 => ?_)
    refine z_iinc (v := 1) (L2 := [(1, .int (x1 + 1)), (0, va_rf (some th))]) C dX1_fewestFences_18 1 rfl (by decide) (by decide) rfl ?_
    refine z_goto (tgt := 2) C dX1_fewestFences_21 (by decide) ?_
    exact z_sub [1, 0] rfl (h2 (x1 + 1) m1)
def l_X1_fewestFences_2 (th : Nat) (k24 : MM → Option (Int32 × MM)) : Nat → Int32 → MM → Option (Int32 × MM) := lp (fun _ _ => none) (fun k2 => g_X1_fewestFences_2 th k2 k24)
theorem t_X1_fewestFences_2 {Γ : GX} {E : EX} (C : Cx Γ E cX1_fewestFences RX1 3) (hr : Γ.meth.sig.returnType = (some .int)) (hrm : Γ.rm = rmX1_fewestFences) (th : Nat) (k24 : MM → Option (Int32 × MM)) (h24 : ∀ (m : MM), Sm (QM Γ E emI 0 0) Γ E 3 0 0 24 [(0, va_rf (some th))] [] m (k24 m)) : ∀ (n : Nat) (x1 : Int32) (m : MM), Sm (QM Γ E emI 0 0) Γ E 3 0 0 2 [(0, va_rf (some th)), (1, .int x1)] [] m (l_X1_fewestFences_2 th k24 n x1 m) := by
  intro n
  induction n with
  | zero => intros; exact z_none
  | succ n ih => intro x1 m; exact s_X1_fewestFences_2 C hr hrm th (l_X1_fewestFences_2 th k24 n) k24 ih h24 x1 m
set_option maxRecDepth 100000 in
def g_X1_fewestFences_26 (th : Nat) (k26 : Int32 → MM → Option (Int32 × MM)) (k68 : MM → Option (Int32 × MM)) (x1 : Int32) (m : MM) : Option (Int32 × MM) :=
  chk (m.K th = 2) (if (m.I 203 th 0) ≤ x1 then (k68 m) else (cal (f_X1_fencesFor th x1 m) (fun r1 m2 => if r1 ≤ 0 then (some ((-1), m2)) else (chk (m2.K th = 2) (ck m2 (m2.R 202 th 0) 24 (fun a2 => if r1 < (Int32.ofNat (m2.N a2)) then (chk (inb r1 (m2.N a2) = true) (bnd (m2.sI 24 a2 (Int32.toNatClampNeg r1) (1 &&& 1)) (fun m3 => k26 (x1 + 1) m3))) else (some ((-1), m2))))))))
set_option maxHeartbeats 4000000 in
set_option maxRecDepth 100000 in
theorem s_X1_fewestFences_26 {Γ : GX} {E : EX} (C : Cx Γ E cX1_fewestFences RX1 3) (hr : Γ.meth.sig.returnType = (some .int)) (hrm : Γ.rm = rmX1_fewestFences) (th : Nat) (k26 : Int32 → MM → Option (Int32 × MM)) (k68 : MM → Option (Int32 × MM)) (h26 : ∀ (x1 : Int32) (m : MM), Sm (QM Γ E emI 0 0) Γ E 3 0 0 26 [(0, va_rf (some th)), (1, .int x1)] [] m (k26 x1 m)) (h68 : ∀ (m : MM), Sm (QM Γ E emI 0 0) Γ E 3 0 0 68 [(0, va_rf (some th))] [] m (k68 m)) (x1 : Int32) (m : MM) : Sm (QM Γ E emI 0 0) Γ E 3 0 0 26 [(0, va_rf (some th)), (1, .int x1)] [] m (g_X1_fewestFences_26 th k26 k68 x1 m) := by
  unfold g_X1_fewestFences_26
  refine z_iload_n C dX1_fewestFences_26 rfl 1 rfl ?_
  refine z_aload_n C dX1_fewestFences_27 rfl 0 rfl ?_
  refine z_chk (fun hk3 => ?_)
  refine z_getI C fl_RX1_23 rfl hk3 dX1_fewestFences_28 ?_
  refine z_icmp_ge (tgt := 68) C dX1_fewestFences_31 (by decide) (fun c2 => ?_) (fun c2 => ?_)
  · exact z_sub [0] rfl (h68 m)
  · refine z_aload_n C dX1_fewestFences_34 rfl 0 rfl ?_
    refine z_iload_n C dX1_fewestFences_35 rfl 1 rfl ?_
    refine z_cVI [.int x1] [] C mv_RX1_135 (fun r0 m0 h0 => M_X1_fencesFor _ _ _ _ _ _ _ h0) rfl rfl ⟨by rw [hrm]; exact Nat.le_of_ble_eq_true rfl, by rw [hrm]; exact Nat.le_of_ble_eq_true rfl⟩ ⟨by rw [hrm]; exact Nat.le_of_ble_eq_true rfl, by rw [hrm]; exact Nat.le_of_ble_eq_true rfl⟩ rfl hk3 rfl rfl rfl (Nat.le_of_ble_eq_true rfl) dX1_fewestFences_36 (fun r1 m2 => ?_)
    refine z_istore_n (i := 2) (L2 := [(2, .int r1), (0, va_rf (some th)), (1, .int x1)]) C dX1_fewestFences_39 rfl (by decide) rfl ?_
    refine z_iload_n C dX1_fewestFences_40 rfl 0 rfl ?_
    refine z_if_le (tgt := 53) C dX1_fewestFences_41 (by decide) (fun c3 => ?_) (fun c3 => ?_)
    · refine z_iconst (v := (-1)) C dX1_fewestFences_53 (by decide) ?_
      exact z_iret C hr dX1_fewestFences_54
    · refine z_iload_n C dX1_fewestFences_44 rfl 0 rfl ?_
      refine z_aload_n C dX1_fewestFences_45 rfl 1 rfl ?_
      refine z_chk (fun hk4 => ?_)
      refine z_getR C fl_RX1_19 rfl hk4 dX1_fewestFences_46 ?_
      refine z_ck (fun a2 hr2 hk5 => ?_)
      refine z_alen C hr2 hk5 (by decide) (by decide) dX1_fewestFences_49 ?_
      refine z_icmp_lt (tgt := 55) C dX1_fewestFences_50 (by decide) (fun c4 => ?_) (fun c4 => ?_)
      · refine z_aload_n C dX1_fewestFences_55 rfl 1 rfl ?_
        refine z_getR C fl_RX1_19 rfl hk4 dX1_fewestFences_56 ?_
        refine z_iload_n C dX1_fewestFences_59 rfl 0 rfl ?_
        refine z_iconst (v := 1) C dX1_fewestFences_60 (by decide) ?_
        refine z_chk (fun hj2 => ?_)
        refine z_zast C hr2 hk5 hj2 dX1_fewestFences_61 (fun m3 eK2 eN2 => ?_)
        refine z_iinc (v := 1) (L2 := [(1, .int (x1 + 1)), (2, .int r1), (0, va_rf (some th))]) C dX1_fewestFences_62 2 rfl (by decide) (by decide) rfl ?_
        refine z_goto (tgt := 26) C dX1_fewestFences_65 (by decide) ?_
        exact z_sub [2, 0] rfl (h26 (x1 + 1) m3)
      · refine z_iconst (v := (-1)) C dX1_fewestFences_53 (by decide) ?_
        exact z_iret C hr dX1_fewestFences_54
def l_X1_fewestFences_26 (th : Nat) (k68 : MM → Option (Int32 × MM)) : Nat → Int32 → MM → Option (Int32 × MM) := lp (fun _ _ => none) (fun k26 => g_X1_fewestFences_26 th k26 k68)
theorem t_X1_fewestFences_26 {Γ : GX} {E : EX} (C : Cx Γ E cX1_fewestFences RX1 3) (hr : Γ.meth.sig.returnType = (some .int)) (hrm : Γ.rm = rmX1_fewestFences) (th : Nat) (k68 : MM → Option (Int32 × MM)) (h68 : ∀ (m : MM), Sm (QM Γ E emI 0 0) Γ E 3 0 0 68 [(0, va_rf (some th))] [] m (k68 m)) : ∀ (n : Nat) (x1 : Int32) (m : MM), Sm (QM Γ E emI 0 0) Γ E 3 0 0 26 [(0, va_rf (some th)), (1, .int x1)] [] m (l_X1_fewestFences_26 th k68 n x1 m) := by
  intro n
  induction n with
  | zero => intros; exact z_none
  | succ n ih => intro x1 m; exact s_X1_fewestFences_26 C hr hrm th (l_X1_fewestFences_26 th k68 n) k68 ih h68 x1 m
set_option maxRecDepth 100000 in
def g_X1_fewestFences_105 (th : Nat) (k78 : Int32 → Int32 → MM → Option (Int32 × MM)) (x1 : Int32) (x2 : Int32) (m : MM) : Option (Int32 × MM) :=
  k78 x1 (x2 + 1) m
set_option maxHeartbeats 4000000 in
set_option maxRecDepth 100000 in
theorem s_X1_fewestFences_105 {Γ : GX} {E : EX} (C : Cx Γ E cX1_fewestFences RX1 3) (hr : Γ.meth.sig.returnType = (some .int)) (hrm : Γ.rm = rmX1_fewestFences) (th : Nat) (k78 : Int32 → Int32 → MM → Option (Int32 × MM)) (h78 : ∀ (x1 : Int32) (x2 : Int32) (m : MM), Sm (QM Γ E emI 0 0) Γ E 3 0 0 78 [(0, va_rf (some th)), (1, .int x1), (2, .int x2)] [] m (k78 x1 x2 m)) (x1 : Int32) (x2 : Int32) (m : MM) : Sm (QM Γ E emI 0 0) Γ E 3 0 0 105 [(0, va_rf (some th)), (1, .int x1), (2, .int x2)] [] m (g_X1_fewestFences_105 th k78 x1 x2 m) := by
  unfold g_X1_fewestFences_105
  refine z_iinc (v := 1) (L2 := [(2, .int (x2 + 1)), (0, va_rf (some th)), (1, .int x1)]) C dX1_fewestFences_105 2 rfl (by decide) (by decide) rfl ?_
  refine z_goto (tgt := 78) C dX1_fewestFences_108 (by decide) ?_
  exact z_sub [1, 2, 0] rfl (h78 x1 (x2 + 1) m)
set_option maxRecDepth 100000 in
def g_X1_fewestFences_78 (th : Nat) (k78 : Int32 → Int32 → MM → Option (Int32 × MM)) (x1 : Int32) (x2 : Int32) (m : MM) : Option (Int32 × MM) :=
  chk (m.K th = 2) (ck m (m.R 202 th 0) 24 (fun a3 => if (Int32.ofNat (m.N a3)) ≤ x2 then (some (x1, m)) else (cal (f_X1_meetsAll th x2 m) (fun r2 m4 => if r2 = 0 then (g_X1_fewestFences_105 th k78 x1 x2 m4) else (cal (f_X1_isLesser x2 x1 m4) (fun r3 m5 => if r3 = 0 then (g_X1_fewestFences_105 th k78 x1 x2 m5) else (g_X1_fewestFences_105 th k78 x2 x2 m5)))))))
set_option maxHeartbeats 4000000 in
set_option maxRecDepth 100000 in
theorem s_X1_fewestFences_78 {Γ : GX} {E : EX} (C : Cx Γ E cX1_fewestFences RX1 3) (hr : Γ.meth.sig.returnType = (some .int)) (hrm : Γ.rm = rmX1_fewestFences) (th : Nat) (k78 : Int32 → Int32 → MM → Option (Int32 × MM)) (h78 : ∀ (x1 : Int32) (x2 : Int32) (m : MM), Sm (QM Γ E emI 0 0) Γ E 3 0 0 78 [(0, va_rf (some th)), (1, .int x1), (2, .int x2)] [] m (k78 x1 x2 m)) (x1 : Int32) (x2 : Int32) (m : MM) : Sm (QM Γ E emI 0 0) Γ E 3 0 0 78 [(0, va_rf (some th)), (1, .int x1), (2, .int x2)] [] m (g_X1_fewestFences_78 th k78 x1 x2 m) := by
  unfold g_X1_fewestFences_78
  refine z_iload_n C dX1_fewestFences_78 rfl 2 rfl ?_
  refine z_aload_n C dX1_fewestFences_79 rfl 0 rfl ?_
  refine z_chk (fun hk6 => ?_)
  refine z_getR C fl_RX1_19 rfl hk6 dX1_fewestFences_80 ?_
  refine z_ck (fun a3 hr3 hk7 => ?_)
  refine z_alen C hr3 hk7 (by decide) (by decide) dX1_fewestFences_83 ?_
  refine z_icmp_ge (tgt := 111) C dX1_fewestFences_84 (by decide) (fun c5 => ?_) (fun c5 => ?_)
  · refine z_iload_n C dX1_fewestFences_111 rfl 1 rfl ?_
    exact z_iret C hr dX1_fewestFences_112
  · refine z_aload_n C dX1_fewestFences_87 rfl 0 rfl ?_
    refine z_iload_n C dX1_fewestFences_88 rfl 2 rfl ?_
    refine z_cVI [.int x2] [] C mv_RX1_138 (fun r0 m0 h0 => M_X1_meetsAll _ _ _ _ _ _ _ h0) rfl rfl ⟨by rw [hrm]; exact Nat.le_of_ble_eq_true rfl, by rw [hrm]; exact Nat.le_of_ble_eq_true rfl⟩ ⟨by rw [hrm]; exact Nat.le_of_ble_eq_true rfl, by rw [hrm]; exact Nat.le_of_ble_eq_true rfl⟩ rfl hk6 rfl rfl rfl (Nat.le_of_ble_eq_true rfl) dX1_fewestFences_89 (fun r2 m4 => ?_)
    refine z_if_eq (tgt := 105) C dX1_fewestFences_92 (by decide) (fun c6 => ?_) (fun c6 => ?_)
    · exact z_sub [0, 1, 2] rfl (s_X1_fewestFences_105 C hr hrm th k78 h78 x1 x2 m4)
    · refine z_iload_n C dX1_fewestFences_95 rfl 2 rfl ?_
      refine z_iload_n C dX1_fewestFences_96 rfl 1 rfl ?_
      refine z_cSI [.int x2, .int x1] [] C mv_RX1_127 (fun r0 m0 h0 => M_X1_isLesser _ _ _ _ _ _ _ h0) rfl rfl ⟨by rw [hrm]; exact Nat.le_of_ble_eq_true rfl, by rw [hrm]; exact Nat.le_of_ble_eq_true rfl⟩ ⟨by rw [hrm]; exact Nat.le_of_ble_eq_true rfl, by rw [hrm]; exact Nat.le_of_ble_eq_true rfl⟩ rfl rfl (Nat.le_of_ble_eq_true rfl) dX1_fewestFences_97 (fun r3 m5 => ?_)
      refine z_if_eq (tgt := 105) C dX1_fewestFences_100 (by decide) (fun c7 => ?_) (fun c7 => ?_)
      · exact z_sub [0, 1, 2] rfl (s_X1_fewestFences_105 C hr hrm th k78 h78 x1 x2 m5)
      · refine z_iload_n C dX1_fewestFences_103 rfl 2 rfl ?_
        refine z_istore_n (i := 1) (L2 := [(1, .int x2), (0, va_rf (some th)), (2, .int x2)]) C dX1_fewestFences_104 rfl (by decide) rfl ?_
        exact z_sub [1, 0, 2] rfl (s_X1_fewestFences_105 C hr hrm th k78 h78 x2 x2 m5)
def l_X1_fewestFences_78 (th : Nat) : Nat → Int32 → Int32 → MM → Option (Int32 × MM) := lp (fun _ _ _ => none) (fun k78 => g_X1_fewestFences_78 th k78)
theorem t_X1_fewestFences_78 {Γ : GX} {E : EX} (C : Cx Γ E cX1_fewestFences RX1 3) (hr : Γ.meth.sig.returnType = (some .int)) (hrm : Γ.rm = rmX1_fewestFences) (th : Nat) : ∀ (n : Nat) (x1 : Int32) (x2 : Int32) (m : MM), Sm (QM Γ E emI 0 0) Γ E 3 0 0 78 [(0, va_rf (some th)), (1, .int x1), (2, .int x2)] [] m (l_X1_fewestFences_78 th n x1 x2 m) := by
  intro n
  induction n with
  | zero => intros; exact z_none
  | succ n ih => intro x1 x2 m; exact s_X1_fewestFences_78 C hr hrm th (l_X1_fewestFences_78 th n) ih x1 x2 m
set_option maxRecDepth 100000 in
def g_X1_fewestFences_68 (th : Nat) (m : MM) : Option (Int32 × MM) :=
  chk (m.K th = 2) (ck m (m.R 202 th 0) 24 (fun a4 => bnd ((Int32.ofNat (m.N a4)) - 1) (fun y1 => l_X1_fewestFences_78 th FU y1 0 m)))
set_option maxHeartbeats 4000000 in
set_option maxRecDepth 100000 in
theorem s_X1_fewestFences_68 {Γ : GX} {E : EX} (C : Cx Γ E cX1_fewestFences RX1 3) (hr : Γ.meth.sig.returnType = (some .int)) (hrm : Γ.rm = rmX1_fewestFences) (th : Nat) (m : MM) : Sm (QM Γ E emI 0 0) Γ E 3 0 0 68 [(0, va_rf (some th))] [] m (g_X1_fewestFences_68 th m) := by
  unfold g_X1_fewestFences_68
  refine z_aload_n C dX1_fewestFences_68 rfl 0 rfl ?_
  refine z_chk (fun hk8 => ?_)
  refine z_getR C fl_RX1_19 rfl hk8 dX1_fewestFences_69 ?_
  refine z_ck (fun a4 hr4 hk9 => ?_)
  refine z_alen C hr4 hk9 (by decide) (by decide) dX1_fewestFences_72 ?_
  refine z_iconst (v := 1) C dX1_fewestFences_73 (by decide) ?_
  refine z_isub C dX1_fewestFences_74 ?_
  refine z_bndI (fun y1 => ?_)
  refine z_istore_n (i := 1) (L2 := [(1, .int y1), (0, va_rf (some th))]) C dX1_fewestFences_75 rfl (by decide) rfl ?_
  refine z_iconst (v := 0) C dX1_fewestFences_76 (by decide) ?_
  refine z_istore_n (i := 2) (L2 := [(2, .int 0), (1, .int y1), (0, va_rf (some th))]) C dX1_fewestFences_77 rfl (by decide) rfl ?_
  exact z_sub [2, 1, 0] rfl (t_X1_fewestFences_78 C hr hrm th FU y1 0 m)
set_option maxRecDepth 100000 in
def g_X1_fewestFences_24 (th : Nat) (m : MM) : Option (Int32 × MM) :=
  l_X1_fewestFences_26 th (g_X1_fewestFences_68 th) FU 0 m
set_option maxHeartbeats 4000000 in
set_option maxRecDepth 100000 in
theorem s_X1_fewestFences_24 {Γ : GX} {E : EX} (C : Cx Γ E cX1_fewestFences RX1 3) (hr : Γ.meth.sig.returnType = (some .int)) (hrm : Γ.rm = rmX1_fewestFences) (th : Nat) (m : MM) : Sm (QM Γ E emI 0 0) Γ E 3 0 0 24 [(0, va_rf (some th))] [] m (g_X1_fewestFences_24 th m) := by
  unfold g_X1_fewestFences_24
  refine z_iconst (v := 0) C dX1_fewestFences_24 (by decide) ?_
  refine z_istore_n (i := 1) (L2 := [(1, .int 0), (0, va_rf (some th))]) C dX1_fewestFences_25 rfl (by decide) rfl ?_
  exact z_sub [1, 0] rfl (t_X1_fewestFences_26 C hr hrm th (g_X1_fewestFences_68 th) (s_X1_fewestFences_68 C hr hrm th) FU 0 m)
set_option maxRecDepth 100000 in
def g_X1_fewestFences_0 (th : Nat) (m : MM) : Option (Int32 × MM) :=
  l_X1_fewestFences_2 th (g_X1_fewestFences_24 th) FU 0 m
set_option maxHeartbeats 4000000 in
set_option maxRecDepth 100000 in
theorem s_X1_fewestFences_0 {Γ : GX} {E : EX} (C : Cx Γ E cX1_fewestFences RX1 3) (hr : Γ.meth.sig.returnType = (some .int)) (hrm : Γ.rm = rmX1_fewestFences) (th : Nat) (m : MM) : Sm (QM Γ E emI 0 0) Γ E 3 0 0 0 [(0, va_rf (some th))] [] m (g_X1_fewestFences_0 th m) := by
  unfold g_X1_fewestFences_0
  refine z_iconst (v := 0) C dX1_fewestFences_0 (by decide) ?_
  refine z_istore_n (i := 1) (L2 := [(1, .int 0), (0, va_rf (some th))]) C dX1_fewestFences_1 rfl (by decide) rfl ?_
  exact z_sub [1, 0] rfl (t_X1_fewestFences_2 C hr hrm th (g_X1_fewestFences_24 th) (s_X1_fewestFences_24 C hr hrm th) FU 0 m)
def f_X1_fewestFences (th : Nat) (m : MM) : Option (Int32 × MM) := g_X1_fewestFences_0 th m
theorem M_X1_fewestFences (l : Launch) (E : EX) (th : Nat) (m : MM) (r : Int32) (m2 : MM) (h : f_X1_fewestFences th m = some (r, m2)) : Met l yX1_fewestFences (.code yX1_fewestFences cX1_fewestFences 3 (some .int) :: TB) rmX1_fewestFences (va_Pc [.ref th] (St E m)) (QR E (emI r) m2) 0 0 (AA E) :=
  met_of (em := emI) (plainFor_of_name rfl) (Nat.le_of_ble_eq_true rfl) (L0 := [(0, va_rf (some th))]) rfl (fun Γ _ hrm C hr hn => s_X1_fewestFences_0 C hr hrm th m) h
