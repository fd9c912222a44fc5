/-! the reference: two stretches -/
theorem r_side {m : MM} {ax ay bx by' px py : Nat} (h1 : ax < 8) (h2 : ay < 8) (h3 : bx < 8) (h4 : by' < 8) (h5 : px < 8) (h6 : py < 8) : f_X10_side (nI ax) (nI ay) (nI bx) (nI by') (nI px) (nI py) m = some (zI (Int.sign (sdz ax ay bx by' px py)), m) := by
  have d := sdz_bd h1 h2 h3 h4 h5 h6
  have e : (nI bx - nI ax) * (nI py - nI ay) - (nI by' - nI ay) * (nI px - nI ax) = zI (sdz ax ay bx by' px py) := by simp only [zz, zI_sub, zI_mul, sdz]
  simp only [g_X10_side_0, f_X10_side, chk_t, ck_sI, ck_sR, ck_sJ, cal_s, bnd_e, ifn_s, ifn_n, e, z0]
  simp only [zI_le (z_sm (show _ ∧ _ by omega : -9604 ≤ sdz ax ay bx by' px py ∧ sdz ax ay bx by' px py ≤ 9604)) sm0, zI_le sm0 (z_sm (show _ ∧ _ by omega : -9604 ≤ sdz ax ay bx by' px py ∧ sdz ax ay bx by' px py ≤ 9604))]
  generalize sdz ax ay bx by' px py = s
  rcases Int.lt_trichotomy s 0 with q | q | q
  · rw [if_pos (by omega), if_neg (by omega), Int.sign_eq_neg_one_of_neg q]; rfl
  · rw [if_pos (by omega), if_pos (by omega), q]; rfl
  · rw [if_neg (by omega), Int.sign_eq_one_of_pos q]; rfl
def onB (ax ay bx by' px py : Int) : Bool := decide (sdz ax ay bx by' px py = 0) && btB ax bx px && btB ay by' py
theorem onB_iff {ax ay bx by' px py : Int} : onB ax ay bx by' px py = true ↔ onz ax ay bx by' px py := by
  unfold onB onz
  simp only [Bool.and_eq_true, decide_eq_true_eq, btB_iff, and_assoc]
theorem sg_0 {s : Int} : zI (Int.sign s) = 0 ↔ s = 0 := by
  rcases Int.lt_trichotomy s 0 with q | q | q
  · rw [Int.sign_eq_neg_one_of_neg q]
    exact ⟨fun h => absurd h (by decide), fun h => by omega⟩
  · rw [q]; exact ⟨fun _ => rfl, fun _ => rfl⟩
  · rw [Int.sign_eq_one_of_pos q]
    exact ⟨fun h => absurd h (by decide), fun h => by omega⟩
theorem in_btw {a b p : Nat} (ha : a < 8) (hb : b < 8) (hp : p < 8) (hab : a ≤ b) : inR (nI p) (nI a) (nI a + nI b - nI a) = btB a b p := by
  have e : nI a + nI b - nI a = nI b := by simp only [zz, zI_add, zI_sub]; congr 1; omega
  rw [e, Bool.eq_iff_iff, btB_iff]
  simp only [inR, Bool.and_eq_true, Bool.not_eq_true', decide_eq_false_iff_not, nI_ltI (show p < 2 ^ 31 by omega) (show a < 2 ^ 31 by omega), nI_ltI (show b < 2 ^ 31 by omega) (show p < 2 ^ 31 by omega)]
  unfold btw
  omega
theorem in_btw2 {a b p : Nat} (ha : a < 8) (hb : b < 8) (hp : p < 8) (hab : b ≤ a) : inR (nI p) (nI b) (nI a + nI b - nI b) = btB a b p := by
  have e : nI a + nI b - nI b = nI a := by simp only [zz, zI_add, zI_sub]; congr 1; omega
  rw [e, Bool.eq_iff_iff, btB_iff]
  simp only [inR, Bool.and_eq_true, Bool.not_eq_true', decide_eq_false_iff_not, nI_ltI (show p < 2 ^ 31 by omega) (show b < 2 ^ 31 by omega), nI_ltI (show a < 2 ^ 31 by omega) (show p < 2 ^ 31 by omega)]
  unfold btw
  omega
theorem r_isOn {m : MM} {ax ay bx by' px py : Nat} (h1 : ax < 8) (h2 : ay < 8) (h3 : bx < 8) (h4 : by' < 8) (h5 : px < 8) (h6 : py < 8) : f_X10_isOn (nI ax) (nI ay) (nI bx) (nI by') (nI px) (nI py) m = some (bI (onB ax ay bx by' px py), m) := by
  have go : ∀ u v : Int32, inR (nI px) u (nI ax + nI bx - u) = btB ax bx px → inR (nI py) v (nI ay + nI by' - v) = btB ay by' py → g_X10_isOn_22 (nI ax) (nI ay) (nI bx) (nI by') (nI px) (nI py) u v m = some (bI (onB ax ay bx by' px py), m) := by
    intro u v e1 e2
    simp only [g_X10_isOn_74, g_X10_isOn_22, g_X10_isOn_10, g_X10_isOn_0, f_X10_isOn, chk_t, ck_sI, ck_sR, ck_sJ, cal_s, bnd_e, ifn_s, ifn_n, r_side h1 h2 h3 h4 h5 h6, sg_0, r_in, e1, e2, bI_0, onB]
    by_cases k : sdz ax ay bx by' px py = 0
    · simp only [k, decide_true, Bool.true_and, if_true]
      cases btB ax bx px <;> cases btB ay by' py <;> rfl
    · simp [k, bI]
  by_cases k1 : bx ≤ ax
  · by_cases k2 : by' ≤ ay
    · simp only [f_X10_isOn, g_X10_isOn_0, g_X10_isOn_10, if_pos (nI_le k1 (show ax < 2 ^ 31 by omega)), if_pos (nI_le k2 (show ay < 2 ^ 31 by omega))]
      exact go _ _ (in_btw2 h1 h3 h5 k1) (in_btw2 h2 h4 h6 k2)
    · simp only [f_X10_isOn, g_X10_isOn_0, g_X10_isOn_10, if_pos (nI_le k1 (show ax < 2 ^ 31 by omega)), if_neg (nI_ge (show ay < by' by omega) (show by' < 2 ^ 31 by omega))]
      exact go _ _ (in_btw2 h1 h3 h5 k1) (in_btw h2 h4 h6 (by omega))
  · by_cases k2 : by' ≤ ay
    · simp only [f_X10_isOn, g_X10_isOn_0, g_X10_isOn_10, if_neg (nI_ge (show ax < bx by omega) (show bx < 2 ^ 31 by omega)), if_pos (nI_le k2 (show ay < 2 ^ 31 by omega))]
      exact go _ _ (in_btw h1 h3 h5 (by omega)) (in_btw2 h2 h4 h6 k2)
    · simp only [f_X10_isOn, g_X10_isOn_0, g_X10_isOn_10, if_neg (nI_ge (show ax < bx by omega) (show bx < 2 ^ 31 by omega)), if_neg (nI_ge (show ay < by' by omega) (show by' < 2 ^ 31 by omega))]
      exact go _ _ (in_btw h1 h3 h5 (by omega)) (in_btw h2 h4 h6 (by omega))
/-- a body of the reference, and since when it stands -/
def Rb (m : MM) (y i : Nat) (b : BD) (s : Nat) : Prop := m.I 22 (y + 45) i = nI b.k ∧ m.I 22 (y + 46) i = nI b.x ∧ m.I 22 (y + 47) i = nI b.y ∧ m.I 22 (y + 48) i = b.f ∧ m.I 22 (y + 49) i = nI s
theorem sg_mul {s t : Int} : (0 ≤ zI (Int.sign s) * zI (Int.sign t)) ↔ ¬ s * t < 0 := by
  rw [zI_mul, ← Int.sign_mul]
  generalize s * t = u
  rcases Int.lt_trichotomy u 0 with q | q | q
  · rw [Int.sign_eq_neg_one_of_neg q]
    exact ⟨fun h => absurd h (by decide), fun h => by omega⟩
  · rw [q]; exact ⟨fun _ => by omega, fun _ => by decide⟩
  · rw [Int.sign_eq_one_of_pos q]
    exact ⟨fun _ => by omega, fun _ => by decide⟩
def crsB (ax ay bx by' fx fy tx ty : Int) : Bool :=
  (decide (sdz ax ay bx by' fx fy * sdz ax ay bx by' tx ty < 0) && decide (sdz fx fy tx ty ax ay * sdz fx fy tx ty bx by' < 0)) ||
  onB ax ay bx by' fx fy || onB ax ay bx by' tx ty || onB fx fy tx ty ax ay || onB fx fy tx ty bx by'
theorem crsB_cutB (ax ay bx by' fx fy tx ty : Int) : crsB ax ay bx by' fx fy tx ty = cutB ax ay bx by' fx fy tx ty := by
  rw [Bool.eq_iff_iff, cutB_iff, z_cut]
  unfold crsB crsz
  simp only [Bool.or_eq_true, Bool.and_eq_true, decide_eq_true_eq, onB_iff, or_assoc]
theorem r_crosses {m : MM} {y i k p q : Nat} {a b : BD} {sa sb fx fy tx ty : Nat} (h : Md m y) (ht : m.I 1166 y 0 = nI i) (hi : i < 3) (hk : k < 14) (hp : p < 15) (hq : q < 15) (ha : Rb m y p a sa) (hb : Rb m y q b sb) (va : VB a) (vb : VB b) (h1 : fx < 8) (h2 : fy < 8) (h3 : tx < 8) (h4 : ty < 8) (w1 : m.I 22 (y + 15) (14 * i + k) = nI fx) (w2 : m.I 22 (y + 16) (14 * i + k) = nI fy) (w3 : m.I 22 (y + 17) (14 * i + k) = nI tx) (w4 : m.I 22 (y + 18) (14 * i + k) = nI ty) : f_X10_crosses y (nI k) (nI p) (nI q) m = some (bI (cutN a b fx fy tx ty), m) := by
  obtain ⟨_, va2, va3, _⟩ := va
  obtain ⟨_, vb2, vb3, _⟩ := vb
  obtain ⟨_, a2, a3, _⟩ := ha
  obtain ⟨_, b2, b3, _⟩ := hb
  have e : (14 : Int32) * nI i + nI k = nI (14 * i + k) := by
    show nI 14 * nI i + nI k = _
    rw [pk_mul, nI_add]
  simp only [g_X10_crosses_389, g_X10_crosses_290, g_X10_crosses_285, g_X10_crosses_197, g_X10_crosses_0, f_X10_crosses, chk_t h.1, chk_t, ck_sI, ck_sR, ck_sJ, cal_s, bnd_e, ifn_s, ifn_n, ht, e, h.c1161, h.c1162, h.c1115, h.c1116, h.c1117, h.c1118, h.n1161, h.n1162, h.n1115, h.n1116, h.n1117, h.n1118, chk_t (inb_nI hp (by decide)), chk_t (inb_nI hq (by decide)), chk_t (inb_nI (show 14 * i + k < 168 by omega) (by decide)), cl_nI (show p < 2 ^ 31 by omega), cl_nI (show q < 2 ^ 31 by omega), cl_nI (show 14 * i + k < 2 ^ 31 by omega), a2, a3, b2, b3, w1, w2, w3, w4, r_side va2 va3 vb2 vb3 h1 h2, r_side va2 va3 vb2 vb3 h3 h4, r_side h1 h2 h3 h4 va2 va3, r_side h1 h2 h3 h4 vb2 vb3, r_isOn va2 va3 vb2 vb3 h1 h2, r_isOn va2 va3 vb2 vb3 h3 h4, r_isOn h1 h2 h3 h4 va2 va3, r_isOn h1 h2 h3 h4 vb2 vb3, sg_mul, bI_0]
  rw [cutN, ← crsB_cutB, crsB]
  by_cases k1 : sdz a.x a.y b.x b.y fx fy * sdz a.x a.y b.x b.y tx ty < 0
  · by_cases k2 : sdz fx fy tx ty a.x a.y * sdz fx fy tx ty b.x b.y < 0
    · simp [k1, k2, bI]
    · simp only [k1, k2, decide_true, decide_false, Bool.false_and, Bool.and_false, Bool.false_or, not_true_eq_false, not_false_eq_true, if_true, if_false]
      cases onB a.x a.y b.x b.y fx fy <;> cases onB a.x a.y b.x b.y tx ty <;> cases onB fx fy tx ty a.x a.y <;> cases onB fx fy tx ty b.x b.y <;> rfl
  · simp only [k1, decide_false, Bool.false_and, Bool.false_or, not_false_eq_true, if_true]
    cases onB a.x a.y b.x b.y fx fy <;> cases onB a.x a.y b.x b.y tx ty <;> cases onB fx fy tx ty a.x a.y <;> cases onB fx fy tx ty b.x b.y <;> rfl
