/-! whether two stretches meet, by whole numbers -/
theorem z_sq {k z w v : Int} (hk : k ≠ 0) (hw : w ≤ 0) (h : k * k * z = w * (v * v)) : z ≤ 0 := by
  have h1 : 0 < k * k := by
    rcases Int.lt_or_gt_of_ne hk with q | q
    · exact Int.mul_pos_of_neg_of_neg q q
    · exact Int.mul_pos q q
  have h2 : 0 ≤ v * v := by
    rcases Int.le_total 0 v with q | q
    · exact Int.mul_nonneg q q
    · exact Int.mul_nonneg_of_nonpos_of_nonpos q q
  have h3 : w * (v * v) ≤ 0 := Int.mul_nonpos_of_nonpos_of_nonneg hw h2
  rcases Int.lt_or_le 0 z with q | q
  · have := Int.mul_pos h1 q
    omega
  · exact q
theorem z_np {a b : Int} : a * b ≤ 0 ↔ (a ≤ 0 ∧ 0 ≤ b) ∨ (0 ≤ a ∧ b ≤ 0) := by
  constructor
  · intro h
    rcases Int.lt_or_le 0 a with p | p
    · rcases Int.lt_or_le 0 b with q | q
      · have := Int.mul_pos p q; omega
      · exact Or.inr ⟨by omega, q⟩
    · rcases Int.lt_or_le b 0 with q | q
      · rcases Int.lt_or_le a 0 with r | r
        · have := Int.mul_pos_of_neg_of_neg r q; omega
        · exact Or.inr ⟨r, by omega⟩
      · exact Or.inl ⟨p, q⟩
  · rintro (⟨p, q⟩ | ⟨p, q⟩)
    · exact Int.mul_nonpos_of_nonpos_of_nonneg p q
    · exact Int.mul_nonpos_of_nonneg_of_nonpos p q
/-- p between a and b -/
def btw (a b p : Int) : Prop := (a ≤ p ∧ p ≤ b) ∨ (b ≤ p ∧ p ≤ a)
theorem btw_mul {a b p : Int} : btw a b p ↔ (p - a) * (p - b) ≤ 0 := by
  rw [z_np]
  unfold btw
  omega
def sdz (ax ay bx by' px py : Int) : Int := (bx - ax) * (py - ay) - (by' - ay) * (px - ax)
def onz (ax ay bx by' px py : Int) : Prop := sdz ax ay bx by' px py = 0 ∧ btw ax bx px ∧ btw ay by' py
/-- the class: by the sides on which the ends lie -/
def cutz (ax ay bx by' fx fy tx ty : Int) : Prop :=
  ¬ 0 < sdz ax ay bx by' fx fy * sdz ax ay bx by' tx ty ∧ ¬ 0 < sdz fx fy tx ty ax ay * sdz fx fy tx ty bx by' ∧
  (sdz ax ay bx by' fx fy = 0 → sdz ax ay bx by' tx ty = 0 → sdz fx fy tx ty ax ay = 0 → sdz fx fy tx ty bx by' = 0 →
    (btw fx tx ax ∧ btw fy ty ay) ∨ (btw fx tx bx ∧ btw fy ty by') ∨ (btw ax bx fx ∧ btw ay by' fy))
/-- the reference -/
def crsz (ax ay bx by' fx fy tx ty : Int) : Prop :=
  (sdz ax ay bx by' fx fy * sdz ax ay bx by' tx ty < 0 ∧ sdz fx fy tx ty ax ay * sdz fx fy tx ty bx by' < 0) ∨
  onz ax ay bx by' fx fy ∨ onz ax ay bx by' tx ty ∨ onz fx fy tx ty ax ay ∨ onz fx fy tx ty bx by'
/-- an end on the other's straight, whose sides differ, lies within it -/
theorem z_on {ax ay bx by' fx fy tx ty : Int} (h0 : sdz ax ay bx by' fx fy = 0) (h1 : sdz fx fy tx ty ax ay * sdz fx fy tx ty bx by' ≤ 0) (h2 : sdz fx fy tx ty ax ay - sdz fx fy tx ty bx by' ≠ 0) : onz ax ay bx by' fx fy := by
  refine ⟨h0, btw_mul.mpr ?_, btw_mul.mpr ?_⟩
  · refine z_sq h2 h1 (v := bx - ax) ?_
    unfold sdz at h0 ⊢
    grind
  · refine z_sq h2 h1 (v := by' - ay) ?_
    unfold sdz at h0 ⊢
    grind
/-- an end within the other: the other's ends do not lie on one side -/
theorem z_off {ax ay bx by' fx fy tx ty : Int} (h : onz ax ay bx by' fx fy) : sdz fx fy tx ty ax ay * sdz fx fy tx ty bx by' ≤ 0 := by
  obtain ⟨h0, h1, h2⟩ := h
  by_cases e1 : bx - ax = 0
  · by_cases e2 : by' - ay = 0
    · have q1 : fx = ax := by unfold btw at h1; omega
      have q2 : fy = ay := by unfold btw at h2; omega
      have q3 : sdz fx fy tx ty ax ay = 0 := by unfold sdz; rw [q1, q2]; grind
      rw [q3]; omega
    · refine z_sq e2 (btw_mul.mp h2) (v := (tx - fx) * (by' - ay) - (ty - fy) * (bx - ax)) ?_
      unfold sdz at h0 ⊢
      grind
  · refine z_sq e1 (btw_mul.mp h1) (v := (tx - fx) * (by' - ay) - (ty - fy) * (bx - ax)) ?_
    unfold sdz at h0 ⊢
    grind
/-- on one straight, what lies between by the one axis lies so by the other -/
theorem z_ax {u v px py qx qy rx ry : Int} (hu : u ≠ 0) (h1 : (py - qy) * u = v * (px - qx)) (h2 : (py - ry) * u = v * (px - rx)) (h : btw qx rx px) : btw qy ry py := by
  refine btw_mul.mpr (z_sq hu (btw_mul.mp h) (v := v) ?_)
  grind
theorem z_col {ax ay bx by' fx fy tx ty : Int} (h1 : sdz ax ay bx by' fx fy = 0) (h2 : sdz ax ay bx by' tx ty = 0) (h : btw ax bx tx ∧ btw ay by' ty) : (btw fx tx ax ∧ btw fy ty ay) ∨ (btw fx tx bx ∧ btw fy ty by') ∨ (btw ax bx fx ∧ btw ay by' fy) := by
  unfold sdz at h1 h2
  by_cases e1 : bx - ax = 0
  · by_cases e2 : by' - ay = 0
    · unfold btw at *
      omega
    · have key : btw fy ty ay ∨ btw fy ty by' ∨ btw ay by' fy := by unfold btw at *; omega
      rcases key with k | k | k
      · exact Or.inl ⟨z_ax e2 (v := bx - ax) (by grind) (by grind) k, k⟩
      · exact Or.inr (Or.inl ⟨z_ax e2 (v := bx - ax) (by grind) (by grind) k, k⟩)
      · exact Or.inr (Or.inr ⟨z_ax e2 (v := bx - ax) (by grind) (by grind) k, k⟩)
  · have key : btw fx tx ax ∨ btw fx tx bx ∨ btw ax bx fx := by unfold btw at *; omega
    rcases key with k | k | k
    · exact Or.inl ⟨k, z_ax e1 (v := by' - ay) (by grind) (by grind) k⟩
    · exact Or.inr (Or.inl ⟨k, z_ax e1 (v := by' - ay) (by grind) (by grind) k⟩)
    · exact Or.inr (Or.inr ⟨k, z_ax e1 (v := by' - ay) (by grind) (by grind) k⟩)
theorem sdz_sw (fx fy tx ty px py : Int) : sdz tx ty fx fy px py = - sdz fx fy tx ty px py := by unfold sdz; grind
theorem sdz_d (ax ay bx by' fx fy tx ty : Int) : sdz ax ay bx by' fx fy - sdz ax ay bx by' tx ty = sdz fx fy tx ty bx by' - sdz fx fy tx ty ax ay := by unfold sdz; grind
theorem btw_sw {a b p : Int} : btw a b p ↔ btw b a p := by unfold btw; omega
theorem onz_sw {ax ay bx by' px py : Int} (h : onz ax ay bx by' px py) : onz bx by' ax ay px py := ⟨by rw [sdz_sw, h.1]; rfl, btw_sw.mp h.2.1, btw_sw.mp h.2.2⟩
theorem z_neg2 (a b : Int) : -a * -b = a * b := by grind
theorem z_cut {ax ay bx by' fx fy tx ty : Int} : cutz ax ay bx by' fx fy tx ty ↔ crsz ax ay bx by' fx fy tx ty := by
  have hd := sdz_d ax ay bx by' fx fy tx ty
  constructor
  · intro ⟨h1, h2, hc⟩
    have h1' : sdz ax ay bx by' fx fy * sdz ax ay bx by' tx ty ≤ 0 := by omega
    have h2' : sdz fx fy tx ty ax ay * sdz fx fy tx ty bx by' ≤ 0 := by omega
    by_cases hz : sdz fx fy tx ty ax ay - sdz fx fy tx ty bx by' = 0
    · have e : sdz fx fy tx ty ax ay = sdz fx fy tx ty bx by' := by omega
      have e' : sdz ax ay bx by' fx fy = sdz ax ay bx by' tx ty := by omega
      have s0 : ∀ z : Int, z * z ≤ 0 → z = 0 := fun z hz => by rcases z_np.mp hz with q | q <;> omega
      have g1 : sdz fx fy tx ty bx by' = 0 := s0 _ (by rw [e] at h2'; exact h2')
      have g2 : sdz ax ay bx by' tx ty = 0 := s0 _ (by rw [e'] at h1'; exact h1')
      rcases hc (by omega) g2 (by omega) g1 with q | q | q
      · exact Or.inr (Or.inr (Or.inr (Or.inl ⟨by omega, q⟩)))
      · exact Or.inr (Or.inr (Or.inr (Or.inr ⟨by omega, q⟩)))
      · exact Or.inr (Or.inl ⟨by omega, q⟩)
    · by_cases k1 : sdz ax ay bx by' fx fy = 0
      · exact Or.inr (Or.inl (z_on k1 h2' hz))
      · by_cases k2 : sdz ax ay bx by' tx ty = 0
        · exact Or.inr (Or.inr (Or.inl (z_on k2 (tx := fx) (ty := fy) (by rw [sdz_sw fx fy tx ty, sdz_sw fx fy tx ty, z_neg2]; exact h2') (by rw [sdz_sw fx fy tx ty, sdz_sw fx fy tx ty]; omega))))
        · by_cases k3 : sdz fx fy tx ty ax ay = 0
          · exact Or.inr (Or.inr (Or.inr (Or.inl (z_on k3 h1' (by omega)))))
          · by_cases k4 : sdz fx fy tx ty bx by' = 0
            · exact Or.inr (Or.inr (Or.inr (Or.inr (z_on k4 (tx := ax) (ty := ay) (by rw [sdz_sw ax ay bx by', sdz_sw ax ay bx by', z_neg2]; exact h1') (by rw [sdz_sw ax ay bx by', sdz_sw ax ay bx by']; omega)))))
            · refine Or.inl ⟨?_, ?_⟩
              · have := Int.mul_ne_zero k1 k2; omega
              · have := Int.mul_ne_zero k3 k4; omega
  · rintro (⟨p, q⟩ | p | p | p | p)
    · refine ⟨by omega, by omega, fun e _ _ _ => ?_⟩
      rw [e, Int.zero_mul] at p
      omega
    · refine ⟨by rw [p.1, Int.zero_mul]; omega, ?_, fun _ _ _ _ => Or.inr (Or.inr p.2)⟩
      have := z_off p (tx := tx) (ty := ty)
      omega
    · refine ⟨by rw [p.1, Int.mul_zero]; omega, ?_, fun e1 e2 _ _ => z_col e1 e2 p.2⟩
      have := z_off p (tx := fx) (ty := fy)
      rw [sdz_sw fx fy tx ty, sdz_sw fx fy tx ty, z_neg2] at this
      omega
    · refine ⟨?_, by rw [p.1, Int.zero_mul]; omega, fun _ _ _ _ => Or.inl p.2⟩
      have := z_off p (tx := bx) (ty := by')
      omega
    · refine ⟨?_, by rw [p.1, Int.mul_zero]; omega, fun _ _ _ _ => Or.inr (Or.inl p.2)⟩
      have := z_off p (tx := ax) (ty := ay)
      rw [sdz_sw ax ay bx by', sdz_sw ax ay bx by', z_neg2] at this
      omega
/-! numbers of the machine out of whole numbers -/
def zI (a : Int) : Int32 := Int32.ofInt a
theorem zz (n : Nat) : nI n = zI (n : Int) := rfl
theorem zI_add (a b : Int) : zI a + zI b = zI (a + b) := (Int32.ofInt_add a b).symm
theorem zI_sub (a b : Int) : zI a - zI b = zI (a - b) := (Int32.ofInt_sub a b).symm
theorem zI_mul (a b : Int) : zI a * zI b = zI (a * b) := (Int32.ofInt_mul a b).symm
theorem zI_neg (a : Int) : - zI a = zI (- a) := (Int32.ofInt_neg a).symm
def sm (a : Int) : Prop := -2147483648 ≤ a ∧ a < 2147483648
theorem zI_toInt {a : Int} (h : sm a) : (zI a).toInt = a := by
  unfold zI
  have e : Int32.size = 4294967296 := rfl
  rw [Int32.toInt_ofInt, e]
  exact Int.bmod_eq_of_le (by unfold sm at h; omega) (by unfold sm at h; omega)
theorem zI_lt {a b : Int} (ha : sm a) (hb : sm b) : zI a < zI b ↔ a < b := by rw [i_lt, zI_toInt ha, zI_toInt hb]
theorem zI_le {a b : Int} (ha : sm a) (hb : sm b) : zI a ≤ zI b ↔ a ≤ b := by rw [i_le, zI_toInt ha, zI_toInt hb]
theorem zI_eq {a b : Int} (ha : sm a) (hb : sm b) : zI a = zI b ↔ a = b := by rw [i_eq, zI_toInt ha, zI_toInt hb]
theorem z0 : (0 : Int32) = zI 0 := rfl
theorem z_bd {x y : Int} (A B : Nat) (hx : -A ≤ x ∧ x ≤ A) (hy : -B ≤ y ∧ y ≤ B) : -((A * B : Nat) : Int) ≤ x * y ∧ x * y ≤ ((A * B : Nat) : Int) := by
  have h1 : x.natAbs ≤ A := by omega
  have h2 : y.natAbs ≤ B := by omega
  have h3 : (x * y).natAbs ≤ A * B := by rw [Int.natAbs_mul]; exact Nat.mul_le_mul h1 h2
  omega
theorem sdz_bd {ax ay bx by' px py : Nat} (h1 : ax < 8) (h2 : ay < 8) (h3 : bx < 8) (h4 : by' < 8) (h5 : px < 8) (h6 : py < 8) : -98 ≤ sdz ax ay bx by' px py ∧ sdz ax ay bx by' px py ≤ 98 := by
  unfold sdz
  have q1 := z_bd (x := (bx : Int) - ax) (y := (py : Int) - ay) 7 7 (by omega) (by omega)
  have q2 := z_bd (x := (by' : Int) - ay) (y := (px : Int) - ax) 7 7 (by omega) (by omega)
  omega
def btB (a b p : Int) : Bool := decide ((p - a) * (p - b) ≤ 0)
theorem btB_iff {a b p : Int} : btB a b p = true ↔ btw a b p := by rw [btw_mul]; exact decide_eq_true_iff
def cutB (ax ay bx by' fx fy tx ty : Int) : Bool :=
  !decide (0 < sdz ax ay bx by' fx fy * sdz ax ay bx by' tx ty) && !decide (0 < sdz fx fy tx ty ax ay * sdz fx fy tx ty bx by') &&
  (!decide (sdz ax ay bx by' fx fy = 0) || !decide (sdz ax ay bx by' tx ty = 0) || !decide (sdz fx fy tx ty ax ay = 0) || !decide (sdz fx fy tx ty bx by' = 0) ||
    (btB fx tx ax && btB fy ty ay) || (btB fx tx bx && btB fy ty by') || (btB ax bx fx && btB ay by' fy))
theorem cutB_iff {ax ay bx by' fx fy tx ty : Int} : cutB ax ay bx by' fx fy tx ty = true ↔ cutz ax ay bx by' fx fy tx ty := by
  unfold cutB cutz
  simp only [Bool.and_eq_true, Bool.or_eq_true, Bool.not_eq_true', decide_eq_false_iff_not, btB_iff]
  grind
