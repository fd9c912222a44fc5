theorem dJ0_length_8abf5_0 : decode cJ0_length_8abf5 0 = .ok (.aload_n 0, 1) := by decide +kernel
theorem dJ0_length_8abf5_1 : decode cJ0_length_8abf5 1 = .ok (.getfield 9, 3) := by decide +kernel
theorem dJ0_length_8abf5_4 : decode cJ0_length_8abf5 4 = .ok (.arraylength, 1) := by decide +kernel
theorem dJ0_length_8abf5_5 : decode cJ0_length_8abf5 5 = .ok (.aload_n 0, 1) := by decide +kernel
theorem dJ0_length_8abf5_6 : decode cJ0_length_8abf5 6 = .ok (.invokevirtual 335, 3) := by decide +kernel
theorem dJ0_length_8abf5_9 : decode cJ0_length_8abf5 9 = .ok (.ishr, 1) := by decide +kernel
theorem dJ0_length_8abf5_10 : decode cJ0_length_8abf5 10 = .ok (.ireturn, 1) := by decide +kernel
theorem dJ0_coder_7d493_0 : decode cJ0_coder_7d493 0 = .ok (.getstatic 38, 3) := by decide +kernel
theorem dJ0_coder_7d493_3 : decode cJ0_coder_7d493 3 = .ok (.ifCond .eq 10, 3) := by decide +kernel
theorem dJ0_coder_7d493_6 : decode cJ0_coder_7d493 6 = .ok (.aload_n 0, 1) := by decide +kernel
theorem dJ0_coder_7d493_7 : decode cJ0_coder_7d493 7 = .ok (.getfield 15, 3) := by decide +kernel
theorem dJ0_coder_7d493_10 : decode cJ0_coder_7d493 10 = .ok (.goto 4, 3) := by decide +kernel
theorem dJ0_coder_7d493_13 : decode cJ0_coder_7d493 13 = .ok (.iconst 1, 1) := by decide +kernel
theorem dJ0_coder_7d493_14 : decode cJ0_coder_7d493 14 = .ok (.ireturn, 1) := by decide +kernel
theorem dJ0_isLatin1_aae02_0 : decode cJ0_isLatin1_aae02 0 = .ok (.getstatic 38, 3) := by decide +kernel
theorem dJ0_isLatin1_aae02_3 : decode cJ0_isLatin1_aae02 3 = .ok (.ifCond .eq 14, 3) := by decide +kernel
theorem dJ0_isLatin1_aae02_6 : decode cJ0_isLatin1_aae02 6 = .ok (.aload_n 0, 1) := by decide +kernel
theorem dJ0_isLatin1_aae02_7 : decode cJ0_isLatin1_aae02 7 = .ok (.getfield 15, 3) := by decide +kernel
theorem dJ0_isLatin1_aae02_10 : decode cJ0_isLatin1_aae02 10 = .ok (.ifCond .ne 7, 3) := by decide +kernel
theorem dJ0_isLatin1_aae02_13 : decode cJ0_isLatin1_aae02 13 = .ok (.iconst 1, 1) := by decide +kernel
theorem dJ0_isLatin1_aae02_14 : decode cJ0_isLatin1_aae02 14 = .ok (.goto 4, 3) := by decide +kernel
theorem dJ0_isLatin1_aae02_17 : decode cJ0_isLatin1_aae02 17 = .ok (.iconst 0, 1) := by decide +kernel
theorem dJ0_isLatin1_aae02_18 : decode cJ0_isLatin1_aae02 18 = .ok (.ireturn, 1) := by decide +kernel
theorem dJ0_charAt_5068e_0 : decode cJ0_charAt_5068e 0 = .ok (.aload_n 0, 1) := by decide +kernel
theorem dJ0_charAt_5068e_1 : decode cJ0_charAt_5068e 1 = .ok (.invokevirtual 492, 3) := by decide +kernel
theorem dJ0_charAt_5068e_4 : decode cJ0_charAt_5068e 4 = .ok (.ifCond .eq 12, 3) := by decide +kernel
theorem dJ0_charAt_5068e_7 : decode cJ0_charAt_5068e 7 = .ok (.aload_n 0, 1) := by decide +kernel
theorem dJ0_charAt_5068e_8 : decode cJ0_charAt_5068e 8 = .ok (.getfield 9, 3) := by decide +kernel
theorem dJ0_charAt_5068e_11 : decode cJ0_charAt_5068e 11 = .ok (.iload_n 1, 1) := by decide +kernel
theorem dJ0_charAt_5068e_12 : decode cJ0_charAt_5068e 12 = .ok (.invokestatic 495, 3) := by decide +kernel
theorem dJ0_charAt_5068e_15 : decode cJ0_charAt_5068e 15 = .ok (.ireturn, 1) := by decide +kernel
theorem dJ0_charAt_5068e_16 : decode cJ0_charAt_5068e 16 = .ok (.aload_n 0, 1) := by decide +kernel
theorem dJ0_charAt_5068e_17 : decode cJ0_charAt_5068e 17 = .ok (.getfield 9, 3) := by decide +kernel
theorem dJ0_charAt_5068e_20 : decode cJ0_charAt_5068e 20 = .ok (.iload_n 1, 1) := by decide +kernel
theorem dJ0_charAt_5068e_21 : decode cJ0_charAt_5068e 21 = .ok (.invokestatic 498, 3) := by decide +kernel
theorem dJ0_charAt_5068e_24 : decode cJ0_charAt_5068e 24 = .ok (.ireturn, 1) := by decide +kernel
theorem dJ1_charAt_3b067_0 : decode cJ1_charAt_3b067 0 = .ok (.iload_n 1, 1) := by decide +kernel
theorem dJ1_charAt_3b067_1 : decode cJ1_charAt_3b067 1 = .ok (.aload_n 0, 1) := by decide +kernel
theorem dJ1_charAt_3b067_2 : decode cJ1_charAt_3b067 2 = .ok (.arraylength, 1) := by decide +kernel
theorem dJ1_charAt_3b067_3 : decode cJ1_charAt_3b067 3 = .ok (.invokestatic 9, 3) := by decide +kernel
theorem dJ1_charAt_3b067_6 : decode cJ1_charAt_3b067 6 = .ok (.aload_n 0, 1) := by decide +kernel
theorem dJ1_charAt_3b067_7 : decode cJ1_charAt_3b067 7 = .ok (.iload_n 1, 1) := by decide +kernel
theorem dJ1_charAt_3b067_8 : decode cJ1_charAt_3b067 8 = .ok (.baload, 1) := by decide +kernel
theorem dJ1_charAt_3b067_9 : decode cJ1_charAt_3b067 9 = .ok (.sipush 255, 3) := by decide +kernel
theorem dJ1_charAt_3b067_12 : decode cJ1_charAt_3b067 12 = .ok (.iand, 1) := by decide +kernel
theorem dJ1_charAt_3b067_13 : decode cJ1_charAt_3b067 13 = .ok (.i2c, 1) := by decide +kernel
theorem dJ1_charAt_3b067_14 : decode cJ1_charAt_3b067 14 = .ok (.ireturn, 1) := by decide +kernel
theorem dJ0_checkIndex_df160_0 : decode cJ0_checkIndex_df160 0 = .ok (.iload_n 0, 1) := by decide +kernel
theorem dJ0_checkIndex_df160_1 : decode cJ0_checkIndex_df160 1 = .ok (.iload_n 1, 1) := by decide +kernel
theorem dJ0_checkIndex_df160_2 : decode cJ0_checkIndex_df160 2 = .ok (.getstatic 1053, 3) := by decide +kernel
theorem dJ0_checkIndex_df160_5 : decode cJ0_checkIndex_df160 5 = .ok (.invokestatic 1059, 3) := by decide +kernel
theorem dJ0_checkIndex_df160_8 : decode cJ0_checkIndex_df160 8 = .ok (.pop, 1) := by decide +kernel
theorem dJ0_checkIndex_df160_9 : decode cJ0_checkIndex_df160 9 = .ok (.return_, 1) := by decide +kernel
theorem dJ3_checkIndex_8e157_0 : decode cJ3_checkIndex_8e157 0 = .ok (.iload_n 0, 1) := by decide +kernel
theorem dJ3_checkIndex_8e157_1 : decode cJ3_checkIndex_8e157 1 = .ok (.ifCond .lt 8, 3) := by decide +kernel
theorem dJ3_checkIndex_8e157_4 : decode cJ3_checkIndex_8e157 4 = .ok (.iload_n 0, 1) := by decide +kernel
theorem dJ3_checkIndex_8e157_5 : decode cJ3_checkIndex_8e157 5 = .ok (.iload_n 1, 1) := by decide +kernel
theorem dJ3_checkIndex_8e157_6 : decode cJ3_checkIndex_8e157 6 = .ok (.if_icmp .lt 10, 3) := by decide +kernel
theorem dJ3_checkIndex_8e157_9 : decode cJ3_checkIndex_8e157 9 = .ok (.aload_n 2, 1) := by decide +kernel
theorem dJ3_checkIndex_8e157_10 : decode cJ3_checkIndex_8e157 10 = .ok (.iload_n 0, 1) := by decide +kernel
theorem dJ3_checkIndex_8e157_11 : decode cJ3_checkIndex_8e157 11 = .ok (.iload_n 1, 1) := by decide +kernel
theorem dJ3_checkIndex_8e157_12 : decode cJ3_checkIndex_8e157 12 = .ok (.invokestatic 95, 3) := by decide +kernel
theorem dJ3_checkIndex_8e157_15 : decode cJ3_checkIndex_8e157 15 = .ok (.athrow, 1) := by decide +kernel
theorem dJ3_checkIndex_8e157_16 : decode cJ3_checkIndex_8e157 16 = .ok (.iload_n 0, 1) := by decide +kernel
theorem dJ3_checkIndex_8e157_17 : decode cJ3_checkIndex_8e157 17 = .ok (.ireturn, 1) := by decide +kernel
section ZS
variable {R : Type} {Qf : R → MM → State → Prop} {Γ : GX} {E : EX} {cc : ByteArray} {own : String} {nL ce sl pc : Nat} {L L2 : List (Nat × Value)} {st : List Value} {m : MM} {X : Option (R × MM)}
theorem z_topI {x y : Int32} (h : x = y) (k : Sm Qf Γ E nL ce sl pc L (.int y :: st) m X) : Sm Qf Γ E nL ce sl pc L (.int x :: st) m X := by subst h; exact k
theorem z_i2c (C : Cx Γ E cc own nL) {x v : Int32} (d : decode cc pc = .ok (.i2c, 1)) (hv : (x.toUInt32 % 65536).toInt32 = v) (k : Sm Qf Γ E nL ce sl (pc + 1) L (.int v :: st) m X) : Sm Qf Γ E nL ce sl pc L (.int x :: st) m X := fun r m2 h H locs ls h1 h2 h3 => lv_i2c C.1 C.2.1 d hv (k r m2 h H locs ls h1 h2 h3)
theorem z_gcs (C : Cx Γ E cc RJ0 nL) (d : decode cc pc = .ok (.getstatic 38, 3)) (k : Sm Qf Γ E nL ce sl (pc + 3) L (.int 1 :: st) m X) : Sm Qf Γ E nL ce sl pc L st m X := fun r m2 h H locs ls h1 h2 h3 => va_gets C.1 C.2.1 C.2.2.2.2.2.1.2.2.1 h2 C.2.2.2.1 (C.2.2.2.2.1 _ fj_RJ0_38) (fun _ q => q) d (k r m2 h H locs ls h1 h2 h3)
theorem z_kval (C : Cx Γ E cc RJ0 nL) {i : Nat} (hi : i < skN) (d : decode cc pc = .ok (.getfield 9, 3)) (k : Sm Qf Γ E nL ce sl (pc + 3) L (va_rf (some (E.adV i)) :: st) m X) : Sm Qf Γ E nL ce sl pc L (va_rf (some (E.adK i)) :: st) m X := fun r m2 h H locs ls h1 h2 h3 => vk_getf C.1 C.2.1 (C.2.2.2.2.2.1.2.2.2.1.1 i hi).2.2.1 h2 C.2.2.2.1 (C.2.2.2.2.1 _ fj_RJ0_9) (fun _ q => q) d (k r m2 h H locs ls h1 h2 h3)
theorem z_kcod (C : Cx Γ E cc RJ0 nL) {i : Nat} (hi : i < skN) (d : decode cc pc = .ok (.getfield 15, 3)) (k : Sm Qf Γ E nL ce sl (pc + 3) L (.int 0 :: st) m X) : Sm Qf Γ E nL ce sl pc L (va_rf (some (E.adK i)) :: st) m X := fun r m2 h H locs ls h1 h2 h3 => vk_getf C.1 C.2.1 (C.2.2.2.2.2.1.2.2.2.1.1 i hi).2.1 h2 C.2.2.2.1 (C.2.2.2.2.1 _ fj_RJ0_15) (fun _ q => q) d (k r m2 h H locs ls h1 h2 h3)
theorem z_klen (C : Cx Γ E cc own nL) {i : Nat} (hi : i < skN) (d : decode cc pc = .ok (.arraylength, 1)) (k : Sm Qf Γ E nL ce sl (pc + 1) L (.int (Int32.ofNat (skL.getD i 0)) :: st) m X) : Sm Qf Γ E nL ce sl pc L (va_rf (some (E.adV i)) :: st) m X := fun r m2 h H locs ls h1 h2 h3 => va_tlen C.1 C.2.1 (C.2.2.2.2.2.1.2.2.2.1.1 i hi).2.2.2 h2 rfl d (k r m2 h H locs ls h1 h2 h3)
theorem z_kbal (C : Cx Γ E cc own nL) {i : Nat} {j : Int32} (hi : i < skN) (hj : inb j (skL.getD i 0) = true) (d : decode cc pc = .ok (.baload, 1)) (k : Sm Qf Γ E nL ce sl (pc + 1) L (.int ((skB.getD i []).getD j.toNatClampNeg 0) :: st) m X) : Sm Qf Γ E nL ce sl pc L (.int j :: va_rf (some (E.adV i)) :: st) m X := fun r m2 h H locs ls h1 h2 h3 => by
  obtain ⟨cell, c1, c2, c3, c4, c5, c6, c7⟩ := (C.2.2.2.2.2.1.2.2.2.1.1 i hi).2.2.2
  exact W.bald C.1 C.2.1 (by rw [h2.2.1 _ (Array.getElem?_eq_some_iff.mp c1).1 c7]; exact c1) c2 c3 (fun q => inb_in hj (q.imp id (fun q => by omega))) (c6 _ (inb_lt hj)) rfl rfl d (k r m2 h H locs ls h1 h2 h3)
theorem z_sio (C : Cx Γ E cc RJ0 nL) (d : decode cc pc = .ok (.getstatic 1053, 3)) (k : ∀ q : Option Nat, Sm Qf Γ E nL ce sl (pc + 3) L (va_rf q :: st) m X) : Sm Qf Γ E nL ce sl pc L st m X := fun r m2 h H locs ls h1 h2 h3 => by
  rcases C.2.2.2.2.2.1.2.2.2.2.2.2.2.2 with g | ⟨t, g⟩
  · exact va_gets C.1 C.2.1 g h2 C.2.2.2.1 (C.2.2.2.2.1 _ fj_RJ0_1053) (fun _ q => q) d (k none r m2 h H locs ls h1 h2 h3)
  · exact va_gets C.1 C.2.1 g h2 C.2.2.2.1 (C.2.2.2.2.1 _ fj_RJ0_1053) (fun _ q => q) d (k (some t) r m2 h H locs ls h1 h2 h3)
/-- a call of a constant String's method -/
theorem z_cK {f : Option (Int32 × MM)} {K : Int32 → MM → Option (R × MM)} {n idx maxL i : Nat} {ret : Option FieldType} {bytes : ByteArray} {y : MethodName} {rm : Room} (As rest : List Value) (C : Cx Γ E cc own nL) (W1 : Mv own idx y bytes maxL ret n) (hcl : y.cls = RJ0) (hi : i < skN)
    (hM : ∀ (r1 : Int32) (m1 : MM), f = some (r1, m1) → Met Γ.l y (.code y bytes maxL ret :: TB) rm (va_Pc (.ref (E.adK i) :: As) (St E m)) (QR E (emI r1) m1) 0 0 (AA E))
    (hrc : rm.cells = 0) (hrs : rm.slots = 0) (hR : rm.frames + 1 ≤ Γ.rm.frames ∧ 8 + (maxL + 11) + rm.locals ≤ Γ.rm.locals) (hroom : ce ≤ Γ.rm.cells ∧ sl ≤ Γ.rm.slots) (hn : As.length = n) (hst : st = As.reverse ++ va_rf (some (E.adK i)) :: rest) (hrest : (rest.map fun v => v.category).sum ≤ 8) (d : decode cc pc = .ok (.invokevirtual idx, 3))
    (k : ∀ (r1 : Int32) (m1 : MM), Sm Qf Γ E nL ce sl (pc + 3) L (.int r1 :: rest) m1 (K r1 m1)) : Sm Qf Γ E nL ce sl pc L st m (cal f K) := by
  subst hst
  obtain ⟨w1, w2, w3, w4, w5, w6, w7, w8⟩ := W1
  refine z_run (em := emI) (mc := 0) (ms := 0) (rest := rest) (aa := (Value.ref (E.adK i) :: As).toArray) (fun r1 m1 hf H locs ls h1 h2 h3 => ?_) k
  have hre := vk_recv C.2.2.2.2.2.1.2.2.2.1 hi h2
  refine va_runV (C := y.cls) (As := As) (rest := rest) ⟨C.1, C.2.1, C.2.2.1, C.2.2.2.1, C.2.2.2.2.1⟩ (hM r1 m1 hf) (cwV n C.2.2.2.2.1 (goodTB fun w hw => ?_) rfl hrc hrs ⟨rfl, w6, w7, w8⟩ hR) ⟨st_blind _, by rw [hcl]; exact hre, fun U hU hW => ⟨rfl, kn_at h2 hU hW C.2.2.2.2.2.1, by rw [hU]; exact h1⟩⟩ rfl hn h3.1 rfl (lv_room hrest) d hroom
  simp only [wsV, List.cons_append, List.nil_append, List.mem_cons] at hw
  rcases hw with rfl | rfl | rfl | rfl | rfl | hw
  · exact w1
  · exact w2
  · exact w3
  · exact w4
  · exact w5
  · exact hw
end ZS
def rmJ0_coder : Room := { frames := 0, cells := 0, slots := 0, locals := 0 }
theorem s_J0_coder {Γ : GX} {E : EX} (C : Cx Γ E cJ0_coder_7d493 RJ0 1) (hr : Γ.meth.sig.returnType = some .byte) {i : Nat} (hi : i < skN) (m : MM) : Sm (QM Γ E emI 0 0) Γ E 1 0 0 0 [(0, va_rf (some (E.adK i)))] [] m (some (0, m)) := by
  refine z_gcs C dJ0_coder_7d493_0 ?_
  refine z_if_eq_f (tgt := 13) C dJ0_coder_7d493_3 (by decide) (by decide) ?_
  refine z_aload_n C dJ0_coder_7d493_6 rfl 0 rfl ?_
  refine z_kcod C hi dJ0_coder_7d493_7 ?_
  refine z_goto (tgt := 14) C dJ0_coder_7d493_10 (by decide) ?_
  exact z_zret C hr rfl dJ0_coder_7d493_14
theorem M_J0_coder (l : Launch) (E : EX) (i : Nat) (hi : i < skN) (m : MM) (r : Int32) (m2 : MM) (h : some ((0 : Int32), m) = some (r, m2)) : Met l yJ0_coder_7d493 (.code yJ0_coder_7d493 cJ0_coder_7d493 1 (some .byte) :: TB) rmJ0_coder (va_Pc [.ref (E.adK i)] (St E m)) (QR E (emI r) m2) 0 0 (AA E) :=
  met_of (em := emI) (by decide +kernel) (Nat.le_of_ble_eq_true rfl) (L0 := [(0, va_rf (some (E.adK i)))]) rfl (fun Γ _ hrm C hr hn => s_J0_coder C hr hi m) h
theorem s_J0_isLatin1 {Γ : GX} {E : EX} (C : Cx Γ E cJ0_isLatin1_aae02 RJ0 1) (hr : Γ.meth.sig.returnType = some .boolean) {i : Nat} (hi : i < skN) (m : MM) : Sm (QM Γ E emI 0 0) Γ E 1 0 0 0 [(0, va_rf (some (E.adK i)))] [] m (some (1, m)) := by
  refine z_gcs C dJ0_isLatin1_aae02_0 ?_
  refine z_if_eq_f (tgt := 17) C dJ0_isLatin1_aae02_3 (by decide) (by decide) ?_
  refine z_aload_n C dJ0_isLatin1_aae02_6 rfl 0 rfl ?_
  refine z_kcod C hi dJ0_isLatin1_aae02_7 ?_
  refine z_if_ne_f (tgt := 17) C dJ0_isLatin1_aae02_10 (by decide) (by decide) ?_
  refine z_iconst (v := 1) C dJ0_isLatin1_aae02_13 (by decide) ?_
  refine z_goto (tgt := 18) C dJ0_isLatin1_aae02_14 (by decide) ?_
  exact z_zret C hr rfl dJ0_isLatin1_aae02_18
theorem M_J0_isLatin1 (l : Launch) (E : EX) (i : Nat) (hi : i < skN) (m : MM) (r : Int32) (m2 : MM) (h : some ((1 : Int32), m) = some (r, m2)) : Met l yJ0_isLatin1_aae02 (.code yJ0_isLatin1_aae02 cJ0_isLatin1_aae02 1 (some .boolean) :: TB) rmJ0_coder (va_Pc [.ref (E.adK i)] (St E m)) (QR E (emI r) m2) 0 0 (AA E) :=
  met_of (em := emI) (by decide +kernel) (Nat.le_of_ble_eq_true rfl) (L0 := [(0, va_rf (some (E.adK i)))]) rfl (fun Γ _ hrm C hr hn => s_J0_isLatin1 C hr hi m) h
def f_strlen (i : Nat) (m : MM) : Option (Int32 × MM) := some (Int32.ofNat (skL.getD i 0), m)
def rmJ0_length : Room := { frames := 1, cells := 0, slots := 0, locals := 20 }
theorem s_J0_length {Γ : GX} {E : EX} (C : Cx Γ E cJ0_length_8abf5 RJ0 1) (hr : Γ.meth.sig.returnType = some .int) (hrm : Γ.rm = rmJ0_length) {i : Nat} (hi : i < skN) (m : MM) : Sm (QM Γ E emI 0 0) Γ E 1 0 0 0 [(0, va_rf (some (E.adK i)))] [] m (cal (some ((0 : Int32), m)) (fun r1 m1 => some (Int32.ofNat (skL.getD i 0) >>> (r1 &&& 31), m1))) := by
  refine z_aload_n C dJ0_length_8abf5_0 rfl 0 rfl ?_
  refine z_kval C hi dJ0_length_8abf5_1 ?_
  refine z_klen C hi dJ0_length_8abf5_4 ?_
  refine z_aload_n C dJ0_length_8abf5_5 rfl 0 rfl ?_
  refine z_cK [] [.int (Int32.ofNat (skL.getD i 0))] C mv_RJ0_335 rfl hi (fun r0 m0 h0 => M_J0_coder _ _ _ hi _ _ _ h0) rfl rfl ⟨by rw [hrm]; exact Nat.le_of_ble_eq_true rfl, by rw [hrm]; exact Nat.le_of_ble_eq_true rfl⟩ ⟨Nat.zero_le _, Nat.zero_le _⟩ rfl rfl (Nat.le_of_ble_eq_true rfl) dJ0_length_8abf5_6 (fun r1 m1 => ?_)
  refine z_ishr C dJ0_length_8abf5_9 ?_
  exact z_iret C hr dJ0_length_8abf5_10
theorem M_strlen (l : Launch) (E : EX) (i : Nat) (hi : i < skN) (m : MM) (r : Int32) (m2 : MM) (h : f_strlen i m = some (r, m2)) : Met l yJ0_length_8abf5 (.code yJ0_length_8abf5 cJ0_length_8abf5 1 (some .int) :: TB) rmJ0_length (va_Pc [.ref (E.adK i)] (St E m)) (QR E (emI r) m2) 0 0 (AA E) :=
  met_of (em := emI) (by decide +kernel) (Nat.le_of_ble_eq_true rfl) (L0 := [(0, va_rf (some (E.adK i)))]) rfl (fun Γ _ hrm C hr hn => s_J0_length C hr hrm hi m) (by
    rw [← h]
    show some (_ >>> ((0 : Int32) &&& 31), m) = f_strlen i m
    rw [sb_shr0]
    rfl)
def f_pck (p0 p1 : Int32) (m : MM) : Option (Int32 × MM) := if p0 < 0 then none else if p0 < p1 then some (p0, m) else none
theorem s_J3_checkIndex {Γ : GX} {E : EX} (C : Cx Γ E cJ3_checkIndex_8e157 RJ3 3) (hr : Γ.meth.sig.returnType = some .int) (p0 p1 : Int32) (p2 : Option Nat) (m : MM) : Sm (QM Γ E emI 0 0) Γ E 3 0 0 0 [(0, .int p0), (1, .int p1), (2, va_rf p2)] [] m (f_pck p0 p1 m) := by
  unfold f_pck
  refine z_iload_n C dJ3_checkIndex_8e157_0 rfl 0 rfl ?_
  refine z_if_lt (tgt := 9) C dJ3_checkIndex_8e157_1 (by decide) (fun c1 => z_none) (fun c1 => ?_)
  refine z_iload_n C dJ3_checkIndex_8e157_4 rfl 0 rfl ?_
  refine z_iload_n C dJ3_checkIndex_8e157_5 rfl 1 rfl ?_
  refine z_icmp_lt (tgt := 16) C dJ3_checkIndex_8e157_6 (by decide) (fun c2 => ?_) (fun c2 => z_none)
  refine z_iload_n C dJ3_checkIndex_8e157_16 rfl 0 rfl ?_
  exact z_iret C hr dJ3_checkIndex_8e157_17
theorem M_pck (l : Launch) (E : EX) (p0 p1 : Int32) (p2 : Option Nat) (m : MM) (r : Int32) (m2 : MM) (h : f_pck p0 p1 m = some (r, m2)) : Met l yJ3_checkIndex_8e157 (.code yJ3_checkIndex_8e157 cJ3_checkIndex_8e157 3 (some .int) :: TB) rmJ0_coder (va_Pc [.int p0, .int p1, va_rf p2] (St E m)) (QR E (emI r) m2) 0 0 (AA E) :=
  met_of (em := emI) (by decide +kernel) (by simp [lg_sl, cat_rf, cat_i]) (L0 := [(0, .int p0), (1, .int p1), (2, va_rf p2)]) (by simp [lv_args, cat_rf, cat_i]) (fun Γ _ hrm C hr hn => s_J3_checkIndex C hr p0 p1 p2 m) h
def f_sck (p0 p1 : Int32) (m : MM) : Option (Unit × MM) := cal (f_pck p0 p1 m) (fun _ m1 => some ((), m1))
def rmJ0_checkIndex : Room := { frames := 1, cells := 0, slots := 0, locals := 22 }
theorem s_J0_checkIndex {Γ : GX} {E : EX} (C : Cx Γ E cJ0_checkIndex_df160 RJ0 2) (hr : Γ.meth.sig.returnType = none) (hrm : Γ.rm = rmJ0_checkIndex) (p0 p1 : Int32) (m : MM) : Sm (QM Γ E emV 0 0) Γ E 2 0 0 0 [(0, .int p0), (1, .int p1)] [] m (f_sck p0 p1 m) := by
  unfold f_sck
  refine z_iload_n C dJ0_checkIndex_df160_0 rfl 0 rfl ?_
  refine z_iload_n C dJ0_checkIndex_df160_1 rfl 1 rfl ?_
  refine z_sio C dJ0_checkIndex_df160_2 (fun q => ?_)
  refine z_cSI [.int p0, .int p1, va_rf q] [] C mv_RJ0_1059 (fun r0 m0 h0 => M_pck _ _ _ _ _ _ _ _ h0) rfl rfl ⟨by rw [hrm]; exact Nat.le_of_ble_eq_true rfl, by rw [hrm]; exact Nat.le_of_ble_eq_true rfl⟩ ⟨Nat.zero_le _, Nat.zero_le _⟩ rfl rfl (Nat.le_of_ble_eq_true rfl) dJ0_checkIndex_df160_5 (fun r1 m1 => ?_)
  refine z_pop C rfl dJ0_checkIndex_df160_8 ?_
  exact z_vret C hr dJ0_checkIndex_df160_9
theorem M_sck (l : Launch) (E : EX) (p0 p1 : Int32) (m : MM) (r : Unit) (m2 : MM) (h : f_sck p0 p1 m = some (r, m2)) : Met l yJ0_checkIndex_df160 (.code yJ0_checkIndex_df160 cJ0_checkIndex_df160 2 none :: TB) rmJ0_checkIndex (va_Pc [.int p0, .int p1] (St E m)) (QR E (emV r) m2) 0 0 (AA E) :=
  met_of (em := emV) (by decide +kernel) (Nat.le_of_ble_eq_true rfl) (L0 := [(0, .int p0), (1, .int p1)]) rfl (fun Γ _ hrm C hr hn => s_J0_checkIndex C hr hrm p0 p1 m) h
theorem chr_ok : ∀ i, i < skN → ∀ j, j < skL.getD i 0 → ((((skB.getD i []).getD j 0) &&& 255).toUInt32 % 65536).toInt32 = (skB.getD i []).getD j 0 ∧ narrow .char (.int ((skB.getD i []).getD j 0)) = .int ((skB.getD i []).getD j 0) := by decide +kernel
def f_l1c (i : Nat) (p1 : Int32) (m : MM) : Option (Int32 × MM) := cal (f_sck p1 (Int32.ofNat (skL.getD i 0)) m) (fun _ m1 => chk (inb p1 (skL.getD i 0) = true) (some ((skB.getD i []).getD p1.toNatClampNeg 0, m1)))
def rmJ1_charAt : Room := { frames := 2, cells := 0, slots := 0, locals := 43 }
theorem s_J1_charAt {Γ : GX} {E : EX} (C : Cx Γ E cJ1_charAt_3b067 RJ1 2) (hr : Γ.meth.sig.returnType = some .char) (hrm : Γ.rm = rmJ1_charAt) {i : Nat} (hi : i < skN) (p1 : Int32) (m : MM) : Sm (QM Γ E emI 0 0) Γ E 2 0 0 0 [(0, va_rf (some (E.adV i))), (1, .int p1)] [] m (f_l1c i p1 m) := by
  unfold f_l1c
  refine z_iload_n C dJ1_charAt_3b067_0 rfl 1 rfl ?_
  refine z_aload_n C dJ1_charAt_3b067_1 rfl 0 rfl ?_
  refine z_klen C hi dJ1_charAt_3b067_2 ?_
  refine z_cSV [.int p1, .int (Int32.ofNat (skL.getD i 0))] [] C mv_RJ1_9 (fun r0 m0 h0 => M_sck _ _ _ _ _ _ _ h0) rfl rfl ⟨by rw [hrm]; exact Nat.le_of_ble_eq_true rfl, by rw [hrm]; exact Nat.le_of_ble_eq_true rfl⟩ ⟨Nat.zero_le _, Nat.zero_le _⟩ rfl rfl (Nat.le_of_ble_eq_true rfl) dJ1_charAt_3b067_3 (fun r1 m1 => ?_)
  refine z_chk (fun hj => ?_)
  refine z_aload_n C dJ1_charAt_3b067_6 rfl 0 rfl ?_
  refine z_iload_n C dJ1_charAt_3b067_7 rfl 1 rfl ?_
  refine z_kbal C hi hj dJ1_charAt_3b067_8 ?_
  refine z_sipush (v := 255) C dJ1_charAt_3b067_9 (by decide) ?_
  refine z_iand C dJ1_charAt_3b067_12 ?_
  refine z_i2c C dJ1_charAt_3b067_13 (chr_ok i hi _ (inb_lt hj)).1 ?_
  exact z_zret C hr (chr_ok i hi _ (inb_lt hj)).2 dJ1_charAt_3b067_14
theorem M_l1c (l : Launch) (E : EX) (i : Nat) (hi : i < skN) (p1 : Int32) (m : MM) (r : Int32) (m2 : MM) (h : f_l1c i p1 m = some (r, m2)) : Met l yJ1_charAt_3b067 (.code yJ1_charAt_3b067 cJ1_charAt_3b067 2 (some .char) :: TB) rmJ1_charAt (va_Pc [.ref (E.adV i), .int p1] (St E m)) (QR E (emI r) m2) 0 0 (AA E) :=
  met_of (em := emI) (by decide +kernel) (Nat.le_of_ble_eq_true rfl) (L0 := [(0, va_rf (some (E.adV i))), (1, .int p1)]) rfl (fun Γ _ hrm C hr hn => s_J1_charAt C hr hrm hi p1 m) h
def f_strchr0 (i : Nat) (p1 : Int32) (m : MM) : Option (Int32 × MM) := cal (some ((1 : Int32), m)) (fun r1 m1 => if r1 = 0 then none else cal (f_l1c i p1 m1) (fun r2 m2 => chk (narrow .char (.int r2) = .int r2) (some (r2, m2))))
def rmJ0_charAt : Room := { frames := 3, cells := 0, slots := 0, locals := 64 }
theorem s_J0_charAt {Γ : GX} {E : EX} (C : Cx Γ E cJ0_charAt_5068e RJ0 2) (hr : Γ.meth.sig.returnType = some .char) (hrm : Γ.rm = rmJ0_charAt) {i : Nat} (hi : i < skN) (p1 : Int32) (m : MM) : Sm (QM Γ E emI 0 0) Γ E 2 0 0 0 [(0, va_rf (some (E.adK i))), (1, .int p1)] [] m (f_strchr0 i p1 m) := by
  unfold f_strchr0
  refine z_aload_n C dJ0_charAt_5068e_0 rfl 0 rfl ?_
  refine z_cK [] [] C mv_RJ0_492 rfl hi (fun r0 m0 h0 => M_J0_isLatin1 _ _ _ hi _ _ _ h0) rfl rfl ⟨by rw [hrm]; exact Nat.le_of_ble_eq_true rfl, by rw [hrm]; exact Nat.le_of_ble_eq_true rfl⟩ ⟨Nat.zero_le _, Nat.zero_le _⟩ rfl rfl (Nat.le_of_ble_eq_true rfl) dJ0_charAt_5068e_1 (fun r1 m1 => ?_)
  refine z_if_eq (tgt := 16) C dJ0_charAt_5068e_4 (by decide) (fun c1 => z_none) (fun c1 => ?_)
  refine z_aload_n C dJ0_charAt_5068e_7 rfl 0 rfl ?_
  refine z_kval C hi dJ0_charAt_5068e_8 ?_
  refine z_iload_n C dJ0_charAt_5068e_11 rfl 1 rfl ?_
  refine z_cSI [va_rf (some (E.adV i)), .int p1] [] C mv_RJ0_495 (fun r0 m0 h0 => M_l1c _ _ _ hi _ _ _ _ h0) rfl rfl ⟨by rw [hrm]; exact Nat.le_of_ble_eq_true rfl, by rw [hrm]; exact Nat.le_of_ble_eq_true rfl⟩ ⟨Nat.zero_le _, Nat.zero_le _⟩ rfl rfl (Nat.le_of_ble_eq_true rfl) dJ0_charAt_5068e_12 (fun r2 m2 => ?_)
  refine z_chk (fun hc => ?_)
  exact z_zret C hr hc dJ0_charAt_5068e_15
def f_strchr (i : Nat) (p1 : Int32) (m : MM) : Option (Int32 × MM) := chk (inb p1 (skL.getD i 0) = true) (some ((skB.getD i []).getD p1.toNatClampNeg 0, m))
theorem skL_lt : ∀ i, i < skN → skL.getD i 0 < 100 := by decide +kernel
theorem strchr_eq {i : Nat} (hi : i < skN) {p1 r : Int32} {m m2 : MM} (h : f_strchr i p1 m = some (r, m2)) : f_strchr0 i p1 m = some (r, m2) := by
  unfold f_strchr chk at h
  by_cases hj : inb p1 (skL.getD i 0) = true
  · rw [if_pos hj] at h
    have g := inb_in hj
    have h0 : ¬ p1 < 0 := fun q => g (Or.inl q)
    have hL := skL_lt i hi
    have h1 : p1 < Int32.ofNat (skL.getD i 0) := by
      obtain ⟨j, hj2, e⟩ := nI_of h0
      have hlt := inb_lt hj
      rw [e, nI_clamp hj2] at hlt
      rw [e]
      exact nI_lt hlt (by omega)
    cases h
    simp only [f_strchr0, cal, f_l1c, f_sck, f_pck, if_neg h0, if_pos h1, chk, if_pos hj]
    rw [if_neg (by decide), if_pos (chr_ok i hi _ (inb_lt hj)).2]
  · rw [if_neg hj] at h; cases h
theorem M_strchr (l : Launch) (E : EX) (i : Nat) (hi : i < skN) (p1 : Int32) (m : MM) (r : Int32) (m2 : MM) (h : f_strchr i p1 m = some (r, m2)) : Met l yJ0_charAt_5068e (.code yJ0_charAt_5068e cJ0_charAt_5068e 2 (some .char) :: TB) rmJ0_charAt (va_Pc [.ref (E.adK i), .int p1] (St E m)) (QR E (emI r) m2) 0 0 (AA E) :=
  met_of (em := emI) (by decide +kernel) (Nat.le_of_ble_eq_true rfl) (L0 := [(0, va_rf (some (E.adK i))), (1, .int p1)]) rfl (fun Γ _ hrm C hr hn => s_J0_charAt C hr hrm hi p1 m) (strchr_eq hi h)
