/-! slopes, faces -/
theorem zI_of (p : Int32) : zI p.toInt = p := Int32.ofInt_toInt p
def seF (f : Int32) (dx dy : Int) : Bool := if f = 0 then decide (dy = 0) && decide (0 < dx) else if f = 1 then decide (dx = 0) && decide (0 < dy) else if f = 2 then decide (dy = 0) && decide (dx < 0) else if f = 3 then decide (dx = 0) && decide (dy < 0) else false
def seB (a b : BD) : Bool := seF a.f ((b.x : Int) - a.x) ((b.y : Int) - a.y)
def aX (k : Nat) : Int := [1, 0, -1, 0].getD k 0
def aY (k : Nat) : Int := [0, 1, 0, -1].getD k 0
theorem sa_2 : ∀ k, k < 4 → (saV 2).getD k 0 = zI (aX k) := by decide
theorem sa_3 : ∀ k, k < 4 → (saV 3).getD k 0 = zI (aY k) := by decide
theorem aX_b : ∀ k, k < 4 → -1 ≤ aX k ∧ aX k ≤ 1 := by decide
theorem aY_b : ∀ k, k < 4 → -1 ≤ aY k ∧ aY k ≤ 1 := by decide
theorem seF_k {k : Nat} (hk : k < 4) (dx dy : Int) : seF (nI k) dx dy = (decide (0 < dx * aX k + dy * aY k) && decide (dx * aY k - dy * aX k = 0)) := by
  have : k = 0 ∨ k = 1 ∨ k = 2 ∨ k = 3 := by omega
  rcases this with q | q | q | q <;> subst q
  · rw [show seF (nI 0) dx dy = (decide (dy = 0) && decide (0 < dx)) from if_pos rfl, show aX 0 = 1 from rfl, show aY 0 = 0 from rfl, Bool.eq_iff_iff]
    simp only [Bool.and_eq_true, decide_eq_true_eq]; omega
  · rw [show seF (nI 1) dx dy = (decide (dx = 0) && decide (0 < dy)) from (if_neg (by decide)).trans (if_pos rfl), show aX 1 = 0 from rfl, show aY 1 = 1 from rfl, Bool.eq_iff_iff]
    simp only [Bool.and_eq_true, decide_eq_true_eq]; omega
  · rw [show seF (nI 2) dx dy = (decide (dy = 0) && decide (dx < 0)) from ((if_neg (by decide)).trans (if_neg (by decide))).trans (if_pos rfl), show aX 2 = -1 from rfl, show aY 2 = 0 from rfl, Bool.eq_iff_iff]
    simp only [Bool.and_eq_true, decide_eq_true_eq]; omega
  · rw [show seF (nI 3) dx dy = (decide (dx = 0) && decide (dy < 0)) from (((if_neg (by decide)).trans (if_neg (by decide))).trans (if_neg (by decide))).trans (if_pos rfl), show aX 3 = 0 from rfl, show aY 3 = -1 from rfl, Bool.eq_iff_iff]
    simp only [Bool.and_eq_true, decide_eq_true_eq]; omega
theorem seF_m (dx dy : Int) : seF (-1) dx dy = false := (((if_neg (by decide)).trans (if_neg (by decide))).trans (if_neg (by decide))).trans (if_neg (by decide))
theorem c_seesAhead {m : MM} {p q : Nat} {a b : BD} (ha : Bo m p a) (hb : Bo m q b) (va : VB a) (vb : VB b) : f_X0_seesAhead p (some q) m = some (bI (seB a b), m) := by
  obtain ⟨_, va2, va3, va4, _⟩ := va
  obtain ⟨_, vb2, vb3, _⟩ := vb
  obtain ⟨a1, a2, a3, a4, a5, a6⟩ := ha
  obtain ⟨b1, b2, b3, b4, b5, b6⟩ := hb
  have hx : s7 ((b.x : Int) - a.x) := by unfold s7; omega
  have hy : s7 ((b.y : Int) - a.y) := by unfold s7; omega
  simp only [g_X0_seesAhead_111, g_X0_seesAhead_0, f_X0_seesAhead, chk_t a1, ck_s b1, chk_t, ck_sI, ck_sR, ck_sJ, cal_s, bnd_e, ifn_s, ifn_n, a3, a4, a5, b3, b4]
  rw [zz b.x, zz a.x, zz b.y, zz a.y]
  unfold seB
  rw [zI_sub, zI_sub]
  generalize ((b.x : Int) - a.x) = dx at hx ⊢
  generalize ((b.y : Int) - a.y) = dy at hy ⊢
  unfold s7 at hx hy
  rcases va4 with e | ⟨k, hk, e⟩
  · rw [e, if_pos (by decide), seF_m]; rfl
  · have q1 := z_bd (x := dx) (y := aX k) 7 1 hx (aX_b k hk)
    have q2 := z_bd (x := dy) (y := aY k) 7 1 hy (aY_b k hk)
    have q3 := z_bd (x := dx) (y := aY k) 7 1 hx (aY_b k hk)
    have q4 := z_bd (x := dy) (y := aX k) 7 1 hy (aX_b k hk)
    have g1 : ¬ nI k < 0 := nI_pos (by omega)
    have g2 : ¬ (4 : Int32) ≤ nI k := nI_ge (b := 4) hk (by decide)
    have g3 : nI k < (4 : Int32) := nI_lt (b := 4) hk (by decide)
    simp only [e, if_neg g1, if_neg g2, if_pos g3, chk_t (show inb (nI k) (saV 2).length = true from inb_nI hk (by decide)), chk_t (show inb (nI k) (saV 3).length = true from inb_nI hk (by decide)), cl_nI (show k < 2 ^ 31 by omega), sa_2 k hk, sa_3 k hk, zI_mul, zI_add, zI_sub, seF_k hk]
    have z1 : (zI (dx * aX k + dy * aY k) ≤ 0) ↔ dx * aX k + dy * aY k ≤ 0 := zI_le (b := 0) (z_s14 (by omega)) sm0
    have z2 : (zI (dx * aY k - dy * aX k) = 0) ↔ dx * aY k - dy * aX k = 0 := zI_eq (b := 0) (z_s14 (by omega)) sm0
    simp only [z1, z2]
    by_cases k1 : dx * aX k + dy * aY k ≤ 0
    · rw [if_pos k1, decide_eq_false (show ¬ 0 < dx * aX k + dy * aY k by omega)]; rfl
    · rw [if_neg k1, decide_eq_true (show 0 < dx * aX k + dy * aY k by omega)]
      by_cases k2 : dx * aY k - dy * aX k = 0
      · rw [if_pos k2, decide_eq_true k2]; rfl
      · rw [if_neg k2, decide_eq_false k2]; rfl
theorem r_looksAt {m : MM} {y p q : Nat} {a b : BD} {sa sb : Nat} (h : Md m y) (hp : p < 15) (hq : q < 15) (ha : Rb m y p a sa) (hb : Rb m y q b sb) (va : VB a) (vb : VB b) : f_X10_looksAt y (nI p) (nI q) m = some (bI (seB a b), m) := by
  obtain ⟨_, va2, va3, va4, _⟩ := va
  obtain ⟨_, vb2, vb3, _⟩ := vb
  obtain ⟨_, a2, a3, a4, _⟩ := ha
  obtain ⟨_, b2, b3, _⟩ := hb
  have hx : s7 ((b.x : Int) - a.x) := by unfold s7; omega
  have hy : s7 ((b.y : Int) - a.y) := by unfold s7; omega
  simp only [g_X10_looksAt_51, g_X10_looksAt_78, g_X10_looksAt_105, g_X10_looksAt_132, g_X10_looksAt_0, f_X10_looksAt, chk_t h.1, chk_t, ck_sI, ck_sR, ck_sJ, cal_s, bnd_e, ifn_s, ifn_n, h.c1161, h.c1162, h.c1163, h.n1161, h.n1162, h.n1163, chk_t (inb_nI hp (by decide)), chk_t (inb_nI hq (by decide)), cl_nI (show p < 2 ^ 31 by omega), cl_nI (show q < 2 ^ 31 by omega), a2, a3, a4, b2, b3]
  rw [zz b.x, zz a.x, zz b.y, zz a.y]
  unfold seB
  rw [zI_sub, zI_sub]
  generalize ((b.x : Int) - a.x) = dx at hx ⊢
  generalize ((b.y : Int) - a.y) = dy at hy ⊢
  unfold s7 at hx hy
  have x1 : (zI dx = 0) ↔ dx = 0 := zI_eq (by unfold sm; omega) sm0
  have x2 : (zI dx ≤ 0) ↔ dx ≤ 0 := zI_le (by unfold sm; omega) sm0
  have x3 : (0 ≤ zI dx) ↔ 0 ≤ dx := zI_le sm0 (by unfold sm; omega)
  have y1 : (zI dy = 0) ↔ dy = 0 := zI_eq (by unfold sm; omega) sm0
  have y2 : (zI dy ≤ 0) ↔ dy ≤ 0 := zI_le (by unfold sm; omega) sm0
  have y3 : (0 ≤ zI dy) ↔ 0 ≤ dy := zI_le sm0 (by unfold sm; omega)
  simp only [x1, x2, x3, y1, y2, y3, seF]
  by_cases f0 : a.f = 0
  · rw [if_pos f0, if_pos f0]
    by_cases k1 : dy = 0
    · by_cases k2 : dx ≤ 0
      · simp [k1, k2, bI]
      · simp [k1, k2, show 0 < dx by omega, bI]
    · simp [k1, bI]
  rw [if_neg f0, if_neg f0]
  by_cases f1 : a.f = 1
  · rw [if_pos f1, if_pos f1]
    by_cases k1 : dx = 0
    · by_cases k2 : dy ≤ 0
      · simp [k1, k2, bI]
      · simp [k1, k2, show 0 < dy by omega, bI]
    · simp [k1, bI]
  rw [if_neg f1, if_neg f1]
  by_cases f2 : a.f = 2
  · rw [if_pos f2, if_pos f2]
    by_cases k1 : dy = 0
    · by_cases k2 : 0 ≤ dx
      · simp [k1, k2, bI]
      · simp [k1, k2, show dx < 0 by omega, bI]
    · simp [k1, bI]
  rw [if_neg f2, if_neg f2]
  by_cases f3 : a.f = 3
  · rw [if_pos f3, if_pos f3]
    by_cases k1 : dx = 0
    · by_cases k2 : 0 ≤ dy
      · simp [k1, k2, bI]
      · simp [k1, k2, show dy < 0 by omega, bI]
    · simp [k1, bI]
  rw [if_neg f3, if_neg f3]
  rfl
def flB (T : TW) (a b : BD) : Bool := decide ((T.1 2).toInt * ((b.x : Int) - a.x) + (T.1 3).toInt * ((b.y : Int) - a.y) < 0)
theorem r_height {m : MM} {y i : Nat} {T : TW} (h : Md m y) (ht : m.I 1166 y 0 = nI i) (hi : i < 3) (R : RT m y i T) {p : Nat} {a : BD} {s : Nat} (hp : p < 15) (ha : Rb m y p a s) : f_X10_height y (nI p) m = some (zI ((T.1 2).toInt * a.x + (T.1 3).toInt * a.y), m) := by
  have h5 : m.I 22 (y + 6) (32 * i + 5) = T.1 2 := R.1.2.2.2.2.2.1
  have h6 : m.I 22 (y + 6) (32 * i + 6) = T.1 3 := R.1.2.2.2.2.2.2.1
  obtain ⟨_, a2, a3, a4, _⟩ := ha
  have o5 : f_X10_of y (nI i) 5 m = some (T.1 2, m) := by rw [← h5]; exact r_of h (w := 5) (by omega) (by omega)
  have o6 : f_X10_of y (nI i) 6 m = some (T.1 3, m) := by rw [← h6]; exact r_of h (w := 6) (by omega) (by omega)
  simp only [g_X10_height_0, f_X10_height, chk_t h.1, chk_t, ck_sI, ck_sR, ck_sJ, cal_s, bnd_e, ifn_s, ifn_n, ht, o5, o6, h.c1161, h.c1162, h.n1161, h.n1162, chk_t (inb_nI hp (by decide)), cl_nI (show p < 2 ^ 31 by omega), a2, a3]
  rw [← zI_of (T.1 2), ← zI_of (T.1 3), zz a.x, zz a.y, zI_mul, zI_mul, zI_add, zI_of, zI_of]
/-! walls and fences -/
def cuT (T : TW) (j i : Nat) (a b : BD) : Bool := cutN a b (T.2.2 j i 0).toNatClampNeg (T.2.2 j i 1).toNatClampNeg (T.2.2 j i 2).toNatClampNeg (T.2.2 j i 3).toNatClampNeg
def wlB (T : TW) (d : Nat) (a b : BD) (i : Nat) : Bool := decide (T.2.2 1 i 4 ≤ nI d) && cuT T 1 i a b
def fnB (T : TW) (a b : BD) (i : Nat) : Bool := cuT T 2 i a b
theorem mks_s (P : Nat → Bool) (n : Nat) : mks P (n + 1) = if P n then mks P n ||| (1 <<< (nI n &&& 31)) else mks P n := rfl
theorem c_walls {m : MM} {t th p q d : Nat} {T : TW} {a b : BD} (h : CT m t T) (V : VT T) (hK : m.K th = 6) (hd : m.I 604 th 0 = nI d) (ha : Bo m p a) (hb : Bo m q b) (va : VB a) (vb : VB b) : f_X5_linesBetween th (some (t + 3)) 1 (some p) (some q) m = some (mks (wlB T d a b) (T.2.1 1), m) := by
  have hn := h.n1.2.2
  show l_X5_linesBetween_18 th (some (t + 3)) 1 (some p) (some q) FU 0 0 m = _
  refine lp_for (fun n (c : Int32) i => l_X5_linesBetween_18 th (some (t + 3)) 1 (some p) (some q) n c i m) (fun i => mks (wlB T d a b) i) (T.2.1 1) _ (fun i hi n => ?_) (fun n => ?_) (by unfold FU; omega)
  · show g_X5_linesBetween_18 th (some (t + 3)) 1 (some p) (some q) (l_X5_linesBetween_18 th (some (t + 3)) 1 (some p) (some q) n) _ (nI i) m = _
    have e1 : ¬ nI (T.2.1 1) ≤ nI i := nI_ge hi (by omega)
    have e2 : ¬ (1 : Int32) = 0 := by decide
    obtain ⟨⟨w0, l0, v0⟩, ⟨w1, l1, v1⟩, ⟨w2, l2, v2⟩, ⟨w3, l3, v3⟩, ⟨w4, l4, v4⟩⟩ := V.2.2.2.2.2.2.2.1 i hi
    have key : cuT T 1 i a b = cutN a b w0 w1 w2 w3 := by unfold cuT; rw [v0, v1, v2, v3, cl_nI (by omega), cl_nI (by omega), cl_nI (by omega), cl_nI (by omega)]
    simp only [g_X5_linesBetween_110, g_X5_linesBetween_48, g_X5_linesBetween_18, g_X5_linesBetween_0, f_X5_linesBetween, ck_s h.n1.2.1, chk_t h.n1.2.1, h.n1.1, if_neg e1, if_neg e2, chk_t, ck_sI, ck_sR, ck_sJ, cal_s, bnd_e, ifn_s, ifn_n, h.cell1_4 hi, h.cell1_0 hi, h.cell1_1 hi, h.cell1_2 hi, h.cell1_3 hi, hK, hd, v0, v1, v2, v3, c_cuts ha hb va vb l0 l1 l2 l3, bI_0, nI_1, mks_s, wlB, key]
    by_cases k1 : T.2.2 1 i 4 ≤ nI d
    · rw [if_pos k1, decide_eq_true k1, Bool.true_and]
      cases cutN a b w0 w1 w2 w3 <;> simp
    · rw [if_neg k1, decide_eq_false k1, Bool.false_and]
      simp
  · show g_X5_linesBetween_18 th (some (t + 3)) 1 (some p) (some q) (l_X5_linesBetween_18 th (some (t + 3)) 1 (some p) (some q) n) _ (nI (T.2.1 1)) m = _
    simp only [g_X5_linesBetween_110, g_X5_linesBetween_48, g_X5_linesBetween_18, g_X5_linesBetween_0, f_X5_linesBetween, ck_s h.n1.2.1, h.n1.1, if_pos (Int32.le_refl _)]
theorem c_fences {m : MM} {t th p q : Nat} {T : TW} {a b : BD} (h : CT m t T) (V : VT T) (ha : Bo m p a) (hb : Bo m q b) (va : VB a) (vb : VB b) : f_X5_linesBetween th (some (t + 5)) 0 (some p) (some q) m = some (mks (fnB T a b) (T.2.1 2), m) := by
  have hn := h.n2.2.2
  show l_X5_linesBetween_18 th (some (t + 5)) 0 (some p) (some q) FU 0 0 m = _
  refine lp_for (fun n (c : Int32) i => l_X5_linesBetween_18 th (some (t + 5)) 0 (some p) (some q) n c i m) (fun i => mks (fnB T a b) i) (T.2.1 2) _ (fun i hi n => ?_) (fun n => ?_) (by unfold FU; omega)
  · show g_X5_linesBetween_18 th (some (t + 5)) 0 (some p) (some q) (l_X5_linesBetween_18 th (some (t + 5)) 0 (some p) (some q) n) _ (nI i) m = _
    have e1 : ¬ nI (T.2.1 2) ≤ nI i := nI_ge hi (by omega)
    obtain ⟨⟨w0, l0, v0⟩, ⟨w1, l1, v1⟩, ⟨w2, l2, v2⟩, ⟨w3, l3, v3⟩⟩ := V.2.2.2.2.2.2.2.2.1 i hi
    have key : fnB T a b i = cutN a b w0 w1 w2 w3 := by unfold fnB cuT; rw [v0, v1, v2, v3, cl_nI (by omega), cl_nI (by omega), cl_nI (by omega), cl_nI (by omega)]
    simp only [g_X5_linesBetween_110, g_X5_linesBetween_48, g_X5_linesBetween_18, g_X5_linesBetween_0, f_X5_linesBetween, ck_s h.n2.2.1, chk_t h.n2.2.1, h.n2.1, if_neg e1, if_pos, chk_t, ck_sI, ck_sR, ck_sJ, cal_s, bnd_e, ifn_s, ifn_n, h.cell2_0 hi, h.cell2_1 hi, h.cell2_2 hi, h.cell2_3 hi, v0, v1, v2, v3, c_cuts ha hb va vb l0 l1 l2 l3, bI_0, nI_1, mks_s, key]
    cases cutN a b w0 w1 w2 w3 <;> simp
  · show g_X5_linesBetween_18 th (some (t + 5)) 0 (some p) (some q) (l_X5_linesBetween_18 th (some (t + 5)) 0 (some p) (some q) n) _ (nI (T.2.1 2)) m = _
    simp only [g_X5_linesBetween_110, g_X5_linesBetween_48, g_X5_linesBetween_18, g_X5_linesBetween_0, f_X5_linesBetween, ck_s h.n2.2.1, h.n2.1, if_pos (Int32.le_refl _)]
