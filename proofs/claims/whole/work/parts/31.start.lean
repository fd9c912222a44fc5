def mem0 (x : Nat) : MM := (fun _ _ _ => 0, fun _ _ _ => none, fun _ _ _ => 0, fun _ => 0, fun _ => 0, x)
theorem rp0 {E : EX} {H : Heap} (h : E.base = H.size) : Rp E (mem0 H.size) H := ⟨rfl, by omega, fun a ha => absurd rfl ha⟩
def l_L_law (xs : Nat → Int32) (Ln : Nat) : Nat → Option Nat → Option Nat → Int32 → MM → Option (Int32 × MM) := lp (fun _ _ _ _ => none) (fun k18 => g_L_law_18 xs Ln k18)
def f_law (xs : Nat → Int32) (Ln : Nat) (m : MM) : Option (Int32 × MM) := bnd m.S (fun a1 => bnd (m.nw 10 0) (fun m1 => cal (f_X9_init a1 m1) (fun _ m2 => bnd m2.S (fun a2 => bnd (m2.nw 11 0) (fun m3 => cal (f_X10_init a2 m3) (fun _ m4 => l_L_law xs Ln 513 (some a1) (some a2) 0 m4))))))
set_option maxRecDepth 100000 in
theorem t_L_law {Γ : GX} {E : EX} (xs : Nat → Int32) (Ln : Nat) {b : Nat} (C : Cx Γ E cL_law RL 4) (hr : Γ.meth.sig.returnType = ret) (hrm : Γ.rm = room_1) (hA : Γ.args = #[Value.ref b]) (hX : va_X b Ln xs Γ.s Γ.s.heap) (hbl : b < Γ.s.heap.size) (hbA : ¬ AA E b) (hB : E.base = Γ.s.heap.size) : ∀ (n : Nat) (x1 x2 : Option Nat) (x3 : Int32) (m : MM) (ce sl : Nat), ce + 58 * n ≤ room_1.cells → sl + 1570 * n ≤ room_1.slots → Sm (QL Γ) Γ E 4 ce sl 18 [(0, va_rf (some b)), (1, va_rf x1), (2, va_rf x2), (3, .int x3)] [] m (l_L_law xs Ln n x1 x2 x3 m) := by
  intro n
  induction n with
  | zero => intros; exact z_none
  | succ n ih =>
    intro x1 x2 x3 m ce sl h1 h2
    have e1 : ce + 58 ≤ room_1.cells := by omega
    have e2 : sl + 1570 ≤ room_1.slots := by omega
    have e3 : ce + 58 + 58 * n ≤ room_1.cells := by omega
    have e4 : sl + 1570 + 1570 * n ≤ room_1.slots := by omega
    exact s_L_law_18 (ce := ce) (sl := sl) xs Ln C hr hrm hA hX hbl hbA hB e1 e2 (l_L_law xs Ln n) (fun y1 y2 y3 m1 => ih y1 y2 y3 m1 (ce + 58) (sl + 1570) e3 e4) x1 x2 x3 m
set_option maxHeartbeats 4000000 in
set_option maxRecDepth 100000 in
theorem s_L_law_0 {Γ : GX} {E : EX} (xs : Nat → Int32) (Ln : Nat) {b : Nat} (C : Cx Γ E cL_law RL 4) (hr : Γ.meth.sig.returnType = ret) (hrm : Γ.rm = room_1) (hA : Γ.args = #[Value.ref b]) (hX : va_X b Ln xs Γ.s Γ.s.heap) (hbl : b < Γ.s.heap.size) (hbA : ¬ AA E b) (hB : E.base = Γ.s.heap.size) (m : MM) : Sm (QL Γ) Γ E 4 0 0 0 [(0, va_rf (some b))] [] m (f_law xs Ln m) := by
  unfold f_law
  refine z_new2 C co_X9 cl_RL_7 in_RX9 ii_RX9 (by rw [hrm]; exact Nat.le_of_ble_eq_true rfl) (by rw [hrm]; exact Nat.le_of_ble_eq_true rfl) dL_law_0 (fun a1 m1 hk1 => ?_)
  refine z_dup C rfl dL_law_3 ?_
  refine z_callI [] [va_rf (some a1)] C mv_RL_9 (fun r0 m0 h0 => M_X9_init _ _ _ _ _ _ h0) rfl rfl ⟨by rw [hrm]; exact Nat.le_of_ble_eq_true rfl, by rw [hrm]; exact Nat.le_of_ble_eq_true rfl⟩ rfl rfl rfl (Nat.le_of_ble_eq_true rfl) dL_law_4 ⟨by rw [hrm]; exact Nat.le_of_ble_eq_true rfl, by rw [hrm]; exact Nat.le_of_ble_eq_true rfl⟩ (fun r1 m2 => ?_)
  refine z_astore_n (i := 1) (L2 := [(1, va_rf (some a1)), (0, va_rf (some b))]) C dL_law_7 rfl (by decide) rfl ?_
  refine z_new2 C co_X10 cl_RL_10 in_RX10 ii_RX10 (by rw [hrm]; exact Nat.le_of_ble_eq_true rfl) (by rw [hrm]; exact Nat.le_of_ble_eq_true rfl) dL_law_8 (fun a2 m3 hk2 => ?_)
  refine z_dup C rfl dL_law_11 ?_
  refine z_callI [] [va_rf (some a2)] C mv_RL_12 (fun r0 m0 h0 => M_X10_init _ _ _ _ _ _ h0) rfl rfl ⟨by rw [hrm]; exact Nat.le_of_ble_eq_true rfl, by rw [hrm]; exact Nat.le_of_ble_eq_true rfl⟩ rfl rfl rfl (Nat.le_of_ble_eq_true rfl) dL_law_12 ⟨by rw [hrm]; exact Nat.le_of_ble_eq_true rfl, by rw [hrm]; exact Nat.le_of_ble_eq_true rfl⟩ (fun r2 m4 => ?_)
  refine z_astore_n (i := 2) (L2 := [(2, va_rf (some a2)), (1, va_rf (some a1)), (0, va_rf (some b))]) C dL_law_15 rfl (by decide) rfl ?_
  refine z_iconst (v := 0) C dL_law_16 (by decide) ?_
  refine z_istore_n (i := 3) (L2 := [(3, .int 0), (2, va_rf (some a2)), (1, va_rf (some a1)), (0, va_rf (some b))]) C dL_law_17 rfl (by decide) rfl ?_
  exact z_sub [3, 2, 1, 0] rfl (t_L_law xs Ln C hr hrm hA hX hbl hbA hB 513 (some a1) (some a2) 0 m4 _ _ (Nat.le_of_ble_eq_true rfl) (Nat.le_of_ble_eq_true rfl))
/-- what the Statement gives of the start -/
def FL : List Cond := flatC (Jvm.Cond.and given_1 narrow_1)
def kdC (kd : Nat) : FieldType := ety kd
theorem fl_st : ∀ j, j < 4 → (Cond.arrayOf (.static RX9 (saN j) "[I") .int ∈ FL ∧ Cond.eq (.length (.static RX9 (saN j) "[I")) (.int (Int32.ofNat (saV j).length)) ∈ FL ∧ ∀ i, i < (saV j).length → Cond.eq (.elem (.static RX9 (saN j) "[I") (.int (Int32.ofNat i))) (.int ((saV j).getD i 0)) ∈ FL) := by decide +kernel
theorem fl_sl : ∀ j, j < 4 → Cond.laysStatic RX9 (saN j) "[I" ∈ lw_tbl := by decide +kernel
theorem fl_s1 : ∀ i, i < skN → (Cond.exactly (.string RX4 (skI.getD i 0)) "java/lang/String" ∈ FL ∧ Cond.eq (.field (.string RX4 (skI.getD i 0)) "java/lang/String" "coder" "B") (.int 0) ∈ FL ∧ Cond.arrayOf (.field (.string RX4 (skI.getD i 0)) "java/lang/String" "value" "[B") .byte ∈ FL ∧ Cond.eq (.length (.field (.string RX4 (skI.getD i 0)) "java/lang/String" "value" "[B")) (.int (Int32.ofNat (skL.getD i 0))) ∈ FL) := by decide +kernel
theorem fl_s2 : ∀ i, i < skN → ∀ j, j < skL.getD i 0 → Cond.eq (.elem (.field (.string RX4 (skI.getD i 0)) "java/lang/String" "value" "[B") (.int (Int32.ofNat j))) (.int ((skB.getD i []).getD j 0)) ∈ FL := by decide +kernel
def flP : List Nat := [0, 106, 116, 126, 138, 150, 164, 176, 191, 208, 227, 245, 264, 283, 304, 326, 350, 374, 401]
theorem fl_s3a : ∀ j, j < skN → ∀ i, i < j → FL[flP.getD j 0 + i]? = some (Cond.not (Cond.eq (.string RX4 (skI.getD i 0)) (.string RX4 (skI.getD j 0)))) := by decide +kernel
theorem fl_s3 (i : Nat) (hi : i < skN) (j : Nat) (hj : j < skN) (hne : i ≠ j) : (Cond.not (Cond.eq (.string RX4 (skI.getD i 0)) (.string RX4 (skI.getD j 0))) ∈ FL ∨ Cond.not (Cond.eq (.string RX4 (skI.getD j 0)) (.string RX4 (skI.getD i 0))) ∈ FL) := by
  rcases Nat.lt_or_gt_of_ne hne with h | h
  · exact Or.inl (List.mem_of_getElem? (fl_s3a j hj i h))
  · exact Or.inr (List.mem_of_getElem? (fl_s3a i hi j h))
theorem fl_s4 : ∀ i, i < skN → Cond.stringRef RX4 (skI.getD i 0) (skT.getD i "") ∈ lw_tbl := by decide +kernel
theorem fl_nf : ∀ q ∈ nsF, Cond.fieldLinkNest q.1 q.2.1 q.2.2.1 q.2.2.2.1 q.2.2.2.2.1 q.2.2.2.2.2 ∈ lw_tbl := by decide +kernel
theorem fl_nm : ∀ q ∈ nsM, Cond.methodLinkNest q.1 q.2.1 q.2.2.1 q.2.2.2 ∈ lw_tbl := by decide +kernel
theorem fl_ao : ∀ C ∈ [RX0, RX2, RX7, RX8], Cond.arrayOver (.object C) ∈ lw_tbl := by decide +kernel
theorem fl_ac : ∀ t ∈ [FieldType.byte, FieldType.int, FieldType.long, FieldType.boolean], Cond.arrayClass t ∈ lw_tbl := by decide +kernel
theorem fl_cs : Cond.laysStatic RJ0 "COMPACT_STRINGS" "Z" ∈ lw_tbl ∧ Cond.eq (.static RJ0 "COMPACT_STRINGS" "Z") (.int 1) ∈ FL ∧ Cond.initialized RJ0 ∈ lw_tbl := by decide +kernel
theorem fl_si : Cond.laysStatic RJ3 "SIOOBE_FORMATTER" "Ljava/util/function/BiFunction;" ∈ lw_tbl ∧ Cond.isRef (.static RJ3 "SIOOBE_FORMATTER" "Ljava/util/function/BiFunction;") ∈ FL ∧ Cond.initialized RJ3 ∈ lw_tbl := by decide +kernel
theorem fl_ii : Cond.initialized RX9 ∈ lw_tbl := by decide +kernel
theorem fl_in : ∀ k, k < 11 → Cond.instantiable ((vwCl[k]?.map (·.1)).getD "") ((vwCl[k]?.map (·.2.2)).getD 0) ∈ lw_tbl := by decide +kernel
theorem tb_sub {w : Cond} (h : w ∈ TB) : w ∈ lw_tbl := (List.mem_filter.mp h).1
theorem str_ok : ∀ i, i < skN → skL.getD i 0 < 2 ^ 31 := by decide +kernel
theorem nsF_ok : ∀ q ∈ nsF, (Cond.fieldLinkNest q.1 q.2.1 q.2.2.1 q.2.2.2.1 q.2.2.2.2.1 q.2.2.2.2.2).onTables = true := fun _ _ => rfl
set_option maxHeartbeats 4000000 in
/-- at the law's entry there is a picture of the empty memory -/
theorem start_E {s : State} {b : Nat} (hts : ∀ w ∈ lw_tbl, w.before #[Value.ref b] s = true) (hgv : (Jvm.Cond.and given_1 narrow_1).before #[Value.ref b] s = true) : ∃ E : EX, E.base = s.heap.size ∧ Kn E s := by
  have hs := flat_of_before _ hgv
  have hA : ∀ a : Nat, a < s.heap.size → ¬ (fun q : Nat => s.heap.size ≤ q) a := fun a h q => absurd h (Nat.not_lt.mpr q)
  -- classes
  have hcl : ∀ k : Nat, ∃ q : ClassId × (Nat → Nat), ∀ r : vw_C, vwCl[k]? = some r → u_Kn s r.1 r.2.1 r.2.2 q.1 q.2 := by
    intro k
    cases hk : vwCl[k]? with
    | none => exact ⟨(0, fun _ => 0), fun r h => by cases h⟩
    | some r =>
      have hk11 := cl_lt hk
      have hin := fl_in k hk11
      rw [hk] at hin
      have hw : ∀ w ∈ u_ws r.1 r.2.1 r.2.2, w ∈ lw_tbl := by
        rcases (show k = 0 ∨ k = 1 ∨ k = 2 ∨ k = 3 ∨ k = 4 ∨ k = 5 ∨ k = 6 ∨ k = 7 ∨ k = 8 ∨ k = 9 ∨ k = 10 by omega) with rfl | rfl | rfl | rfl | rfl | rfl | rfl | rfl | rfl | rfl | rfl <;> cases hk
        · exact fun w h => tb_sub (co_X0.2.1 w h)
        · exact fun w h => tb_sub (co_X1.2.1 w h)
        · exact fun w h => tb_sub (co_X2.2.1 w h)
        · exact fun w h => tb_sub (co_X3.2.1 w h)
        · exact fun w h => tb_sub (co_X4.2.1 w h)
        · exact fun w h => tb_sub (co_X5.2.1 w h)
        · exact fun w h => tb_sub (co_X6.2.1 w h)
        · exact fun w h => tb_sub (co_X7.2.1 w h)
        · exact fun w h => tb_sub (co_X8.2.1 w h)
        · exact fun w h => tb_sub (co_X9.2.1 w h)
        · exact fun w h => tb_sub (co_X10.2.1 w h)
      obtain ⟨cC, iS, h⟩ := u_known (C := r.1) (T := r.2.1) (N := r.2.2) (n := r.2.2) hts hw (hts _ hin)
      exact ⟨(cC, iS), fun r2 h2 => by cases h2; exact h⟩
  obtain ⟨dD, hdD⟩ := Classical.axiomOfChoice hcl
  -- array classes
  have hac : ∀ kd : Nat, ∃ cA : ClassId, 20 < kd → kd < 29 → ArrOfT s cA (ety kd) ∧ va_RA s cA (ety kd) := by
    intro kd
    by_cases h20 : 20 < kd ∧ kd < 29
    · have prim : ∀ t : FieldType, t ∈ [FieldType.byte, FieldType.int, FieldType.long, FieldType.boolean] → ∃ cA : ClassId, ArrOfT s cA t ∧ va_RA s cA t := by
        intro t ht
        obtain ⟨cA, kA, comp, h1, h2, h3⟩ := Cond.arrayClass_spec (hts _ (fl_ac t ht))
        refine ⟨cA, fun n z => ⟨fun k h => (by cases h), kA, h2, comp, h3⟩, ?_⟩
        simp only [List.mem_cons, List.not_mem_nil, or_false] at ht
        rcases ht with rfl | rfl | rfl | rfl <;> exact h1
      have obj : ∀ C : String, C ∈ [RX0, RX2, RX7, RX8] → ∃ cA : ClassId, ArrOfT s cA (.object C) ∧ va_RA s cA (.object C) := by
        intro C hC
        obtain ⟨comp, cA, kA, h1, -, h2, h3, h4⟩ := Cond.arrayOver_spec (hts _ (fl_ao C hC))
        exact ⟨cA, fun n z => ⟨fun k h => (by cases h), kA, h2, comp, h3⟩, kA, comp, h2, h3, h1, h4⟩
      rcases (show kd = 21 ∨ kd = 22 ∨ kd = 23 ∨ kd = 24 ∨ kd = 25 ∨ kd = 26 ∨ kd = 27 ∨ kd = 28 by omega) with rfl | rfl | rfl | rfl | rfl | rfl | rfl | rfl
      · obtain ⟨c, h⟩ := prim .byte (by simp); exact ⟨c, fun _ _ => h⟩
      · obtain ⟨c, h⟩ := prim .int (by simp); exact ⟨c, fun _ _ => h⟩
      · obtain ⟨c, h⟩ := prim .long (by simp); exact ⟨c, fun _ _ => h⟩
      · obtain ⟨c, h⟩ := prim .boolean (by simp); exact ⟨c, fun _ _ => h⟩
      · obtain ⟨c, h⟩ := obj RX0 (by simp); exact ⟨c, fun _ _ => h⟩
      · obtain ⟨c, h⟩ := obj RX2 (by simp); exact ⟨c, fun _ _ => h⟩
      · obtain ⟨c, h⟩ := obj RX7 (by simp); exact ⟨c, fun _ _ => h⟩
      · obtain ⟨c, h⟩ := obj RX8 (by simp); exact ⟨c, fun _ _ => h⟩
    · exact ⟨0, fun h1 h2 => absurd ⟨h1, h2⟩ h20⟩
  obtain ⟨cy, hcy⟩ := Classical.axiomOfChoice hac
  -- static arrays
  have hsa : ∀ j : Nat, ∃ t : Nat, j < 4 → va_Z RX9 (saN j) "[I" (.ref t) (fun q : Nat => s.heap.size ≤ q) s s.heap ∧ va_T .int t (saV j).length (fun i => .int ((saV j).getD i 0)) (fun q : Nat => s.heap.size ≤ q) s s.heap := by
    intro j
    by_cases hj : j < 4
    · obtain ⟨w1, w2, w3⟩ := fl_st j hj
      have hlen : (saV j).length < 2 ^ 31 := by
        rcases (show j = 0 ∨ j = 1 ∨ j = 2 ∨ j = 3 by omega) with rfl | rfl | rfl | rfl <;> decide
      obtain ⟨t, ht, hT⟩ := va_Tof (tm := .static RX9 (saN j) "[I") (f := fun i => .int ((saV j).getD i 0)) hlen (hs _ w1) (va_eqt (hs _ w2)) (fun i hi => va_eqt (hs _ (w3 i hi))) hA
      exact ⟨t, fun _ => ⟨va_Zof (hts _ (fl_sl j hj)) (hts _ fl_ii) ht hA, hT⟩⟩
    · exact ⟨0, fun h => absurd h hj⟩
  obtain ⟨sa, hsa⟩ := Classical.axiomOfChoice hsa
  -- the constant texts
  obtain ⟨adK, adV, hS, hR⟩ := vk_Sof (N := skN) (tm := fun i => .string RX4 (skI.getD i 0)) (len := skL) (byt := skB) (A := fun q : Nat => s.heap.size ≤ q) str_ok (fun i hi => hs _ (fl_s1 i hi).1) (fun i hi => hs _ (fl_s1 i hi).2.1) (fun i hi => hs _ (fl_s1 i hi).2.2.1) (fun i hi => hs _ (fl_s1 i hi).2.2.2) (fun i hi j hj => hs _ (fl_s2 i hi j hj)) (fun i j hi hj hne => (fl_s3 i hi j hj hne).imp (fun h => hs _ h) (fun h => hs _ h)) hA
  refine ⟨((fun k => (dD k).1, fun k => (dD k).2), cy, s.heap.size, sa, adK, adV), rfl, ⟨fun k q hq => hdD k q hq, fun k q hk => ?_⟩, fun j hj => hsa j hj, va_Zof (hts _ fl_cs.1) (hts _ fl_cs.2.2) (va_eqi (hs _ fl_cs.2.1)) hA, hS, fun i hi => ?_, fun q hq => va_Nw.of rfl (hts _ (fl_nf q hq)), fun q hq => va_Nw.of rfl (hts _ (fl_nm q hq)), fun C hC => va_AO.of (hts _ (fl_ao C hC)), va_Zqof (hts _ fl_si.1) (hts _ fl_si.2.2) (hs _ fl_si.2.1) hA⟩
  · have hk8 : k < 8 := (List.getElem?_eq_some_iff.mp hk).1
    rcases (show k = 0 ∨ k = 1 ∨ k = 2 ∨ k = 3 ∨ k = 4 ∨ k = 5 ∨ k = 6 ∨ k = 7 by omega) with rfl | rfl | rfl | rfl | rfl | rfl | rfl | rfl <;> cases hk
    · exact hcy 21 (by decide) (by decide)
    · exact hcy 22 (by decide) (by decide)
    · exact hcy 23 (by decide) (by decide)
    · exact hcy 24 (by decide) (by decide)
    · exact hcy 25 (by decide) (by decide)
    · exact hcy 26 (by decide) (by decide)
    · exact hcy 27 (by decide) (by decide)
    · exact hcy 28 (by decide) (by decide)
  · have e := hR i hi
    exact vk_R.of (hts _ (fl_s4 i hi)) e
set_option maxHeartbeats 4000000 in
theorem whole_open (Bm : ∀ (xs : Nat → Int32) (Ln : Nat), Ln ≤ 4096 → ∀ x : Nat, ∃ m2 : MM, f_law xs Ln (mem0 x) = some (1, m2)) {p : Program} {e : Env} {s : State} {m : MethodId} {below : List Frame} {meth : Method} {c : Code} (l : Launch) {b L : Nat} {xs : Nat → Int32} (hL : L ≤ 4096) (C0 : lw_At p s m meth c b L xs) : W p l e room_1 s m #[Value.ref b] below meth c s.heap [] 0 0 (lw_Z below #[Value.ref b] s) (entryFrame m ([Value.ref b] : List Value).toArray 4) := by
  obtain ⟨hx, hb, hr, hml, hown, hts, hX, hbl, hlocks, hgv⟩ := id C0
  obtain ⟨E, hE, hK⟩ := start_E hts hgv
  obtain ⟨m2, hm2⟩ := Bm xs L hL s.heap.size
  have hl := lv_entry ([.ref b]) (n := 4) (Nat.le_of_ble_eq_true rfl)
  rw [lg_entry_eq]
  have hbA : ¬ AA E b := fun q => by have q : E.base ≤ b := q; omega
  exact s_L_law_0 (Γ := (p, l, e, room_1, s, m, #[Value.ref b], below, meth, c)) (E := E) xs L (b := b) ⟨hx, hb, hml, hown, fun w hw => hts w (tb_sub hw), hK, hlocks, by rw [hE]; exact Nat.le_refl _⟩ hr rfl rfl hX hbl hbA hE (mem0 s.heap.size) 1 m2 hm2 s.heap [] _ (rp0 hE) va_S.rf hl
