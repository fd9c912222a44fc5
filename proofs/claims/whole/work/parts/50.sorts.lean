def bN (b : Bool) : Nat := if b then 1 else 0
theorem cntB_s (P : Nat → Bool) (n : Nat) : cntB P (n + 1) = cntB P n + bN (P n) := rfl
theorem bN_t : bN true = 1 := rfl
theorem bN_f : bN false = 0 := rfl
/-! winds -/
def wX (k : Nat) : Int := [1, 1, 0, -1, -1, -1, 0, 1].getD k 0
def wY (k : Nat) : Int := [0, 1, 1, 1, 0, -1, -1, -1].getD k 0
theorem sa_0 : ∀ k, k < 8 → (saV 0).getD k 0 = zI (wX k) := by decide
theorem sa_1 : ∀ k, k < 8 → (saV 1).getD k 0 = zI (wY k) := by decide
theorem wX_b : ∀ k, k < 8 → -1 ≤ wX k ∧ wX k ≤ 1 := by decide
theorem wY_b : ∀ k, k < 8 → -1 ≤ wY k ∧ wY k ≤ 1 := by decide
def dwn (k : Nat) (dx dy : Int) : Bool := decide (0 < dx * wX k + dy * wY k) && !decide (dx * wX k + dy * wY k < dx * wY k - dy * wX k) && !decide (dx * wX k + dy * wY k < -(dx * wY k - dy * wX k))
def wdB (T : TW) (h : Nat) (dx dy : Int) : Bool := if T.1 (10 + h) = -1 then false else dwn (T.1 (10 + h)).toNatClampNeg dx dy
def s7 (a : Int) : Prop := -7 ≤ a ∧ a ≤ 7
theorem dwn_bd {k : Nat} {dx dy : Int} (hk : k < 8) (hx : s7 dx) (hy : s7 dy) : (-14 ≤ dx * wX k + dy * wY k ∧ dx * wX k + dy * wY k ≤ 14) ∧ (-14 ≤ dx * wY k - dy * wX k ∧ dx * wY k - dy * wX k ≤ 14) := by
  unfold s7 at hx hy
  have q1 := z_bd (x := dx) (y := wX k) 7 1 hx (wX_b k hk)
  have q2 := z_bd (x := dy) (y := wY k) 7 1 hy (wY_b k hk)
  have q3 := z_bd (x := dx) (y := wY k) 7 1 hx (wY_b k hk)
  have q4 := z_bd (x := dy) (y := wX k) 7 1 hy (wX_b k hk)
  omega
theorem z_s14 {a : Int} (h : -14 ≤ a ∧ a ≤ 14) : sm a := by unfold sm; omega
theorem c_hoursDownwind {m : MM} {t : Nat} {T : TW} (h : CT m t T) (V : VT T) (p : Int32) {dx dy : Int} (hx : s7 dx) (hy : s7 dy) : f_X8_hoursDownwind t p (zI dx) (zI dy) m = some (nI (cntB (fun h => bt p h && wdB T h dx dy) 8), m) := by
  show l_X8_hoursDownwind_6 t p (zI dx) (zI dy) FU 0 0 m = _
  refine lp_for (fun n (c : Int32) i => l_X8_hoursDownwind_6 t p (zI dx) (zI dy) n c i m) (fun i => nI (cntB (fun h => bt p h && wdB T h dx dy) i)) 8 _ (fun i hi n => ?_) (fun n => ?_) (by unfold FU; omega)
  · show g_X8_hoursDownwind_6 t p (zI dx) (zI dy) (l_X8_hoursDownwind_6 t p (zI dx) (zI dy) n) _ (nI i) m = _
    have e1 : ¬ nI 8 ≤ nI i := nI_ge hi (by decide)
    have ew := h.wi i hi
    simp only [g_X8_hoursDownwind_121, g_X8_hoursDownwind_6, g_X8_hoursDownwind_0, f_X8_hoursDownwind, h.kt, h.kw, h.Nw, chk_t, ck_sI, ck_sR, ck_sJ, cal_s, bnd_e, ifn_s, ifn_n, ofN, if_neg e1, chk_t (inb_nI hi (by decide)), cl_nI (show i < 2 ^ 31 by omega), ew, bt_q p (show i < 32 by omega), nI_1, cntB_s]
    generalize cntB (fun h => bt p h && wdB T h dx dy) i = c
    cases hb : bt p i with
    | false => simp [bN]
    | true =>
      simp only [Bool.true_eq_false, if_false, Bool.true_and, wdB]
      rcases V.2.2.2.2.1 i hi with e | ⟨k, hk, e⟩
      · rw [e, if_pos (by decide)]
        simp [bN]
      · have g1 : ¬ nI k < 0 := nI_pos (by omega)
        have g2 : ¬ (8 : Int32) ≤ nI k := nI_ge (b := 8) hk (by decide)
        have g3 : nI k < (8 : Int32) := nI_lt (b := 8) hk (by decide)
        have g4 : ¬ nI k = -1 := nI_ne_m1 (by omega)
        have d := dwn_bd hk hx hy
        simp only [e, if_neg g1, if_neg g2, if_pos g3, if_neg g4, chk_t (show inb (nI k) (saV 0).length = true from inb_nI hk (by decide)), chk_t (show inb (nI k) (saV 1).length = true from inb_nI hk (by decide)), cl_nI (show k < 2 ^ 31 by omega), sa_0 k hk, sa_1 k hk, zI_mul, zI_add, zI_sub, zI_neg]
        simp only [z0]
        simp only [zI_le (z_s14 d.1) sm0, zI_lt (z_s14 d.1) (z_s14 d.2), zI_lt (z_s14 d.1) (z_s14 (a := -(dx * wY k - dy * wX k)) (by omega)), dwn]
        by_cases k1 : dx * wX k + dy * wY k ≤ 0
        · have k1' : ¬ 0 < dx * wX k + dy * wY k := by omega
          simp [k1, k1', bN]
        · have k1' : 0 < dx * wX k + dy * wY k := by omega
          by_cases k2 : dx * wX k + dy * wY k < dx * wY k - dy * wX k
          · simp [k1, k1', k2, bN]
          · by_cases k3 : dx * wX k + dy * wY k < -(dx * wY k - dy * wX k)
            · simp only [k1, k1', k2, k3]; simp [bN]
            · simp only [k1, k1', k2, k3]; simp [nI_1, bN]
  · show g_X8_hoursDownwind_6 t p (zI dx) (zI dy) (l_X8_hoursDownwind_6 t p (zI dx) (zI dy) n) _ (nI 8) m = _
    simp only [g_X8_hoursDownwind_121, g_X8_hoursDownwind_6, g_X8_hoursDownwind_0, f_X8_hoursDownwind, h.kt, h.kw, h.Nw, ofN, if_pos (Int32.le_refl _)]
theorem r_towardX {m : MM} {k : Nat} (hk : k < 8) : f_X10_towardX (nI k) m = some (zI (wX k), m) := by
  have : k = 0 ∨ k = 1 ∨ k = 2 ∨ k = 3 ∨ k = 4 ∨ k = 5 ∨ k = 6 ∨ k = 7 := by omega
  rcases this with q | q | q | q | q | q | q | q <;> subst q <;> rfl
theorem r_towardY {m : MM} {k : Nat} (hk : k < 8) : f_X10_towardY (nI k) m = some (zI (wY k), m) := by
  have : k = 0 ∨ k = 1 ∨ k = 2 ∨ k = 3 ∨ k = 4 ∨ k = 5 ∨ k = 6 ∨ k = 7 := by omega
  rcases this with q | q | q | q | q | q | q | q <;> subst q <;> rfl
/-- where a body stands, of the reference -/
def Rp2 (m : MM) (y i bx by' : Nat) : Prop := m.I 22 (y + 46) i = nI bx ∧ m.I 22 (y + 47) i = nI by' ∧ bx < 8 ∧ by' < 8
theorem Rb.p {m : MM} {y i : Nat} {b : BD} {s : Nat} (h : Rb m y i b s) (v : VB b) : Rp2 m y i b.x b.y := ⟨h.2.1, h.2.2.1, v.2.1, v.2.2.1⟩
theorem r_smellsIn {m : MM} {y i : Nat} {T : TW} (h : Md m y) (ht : m.I 1166 y 0 = nI i) (hi : i < 3) (R : RT m y i T) (V : VT T) {k p q ax ay bx by' : Nat} (hk : k < 8) (hp : p < 15) (hq : q < 15) (ha : Rp2 m y p ax ay) (hb : Rp2 m y q bx by') : f_X10_smellsIn y (nI k) (nI p) (nI q) m = some (bI (wdB T k ((bx : Int) - ax) ((by' : Int) - ay)), m) := by
  obtain ⟨a1, a2, a3, a4⟩ := ha
  obtain ⟨b1, b2, b3, b4⟩ := hb
  have e10 : (10 : Int32) + nI k = nI (10 + k) := nI_add (a := 10) (b := k)
  have hw : m.I 22 (y + 6) (32 * i + (10 + k)) = T.1 (10 + k) := R.1.2.2.2.2.2.2.2.2.2.2.1 k hk
  simp only [g_X10_smellsIn_117, g_X10_smellsIn_110, g_X10_smellsIn_0, f_X10_smellsIn, chk_t h.1, chk_t, ck_sI, ck_sR, ck_sJ, cal_s, bnd_e, ifn_s, ifn_n, ht, e10, r_of h (show i < 12 by omega) (show 10 + k < 32 by omega), hw]
  rcases V.2.2.2.2.1 k hk with e | ⟨j, hj, e⟩
  · rw [if_pos e, wdB, if_pos e]; rfl
  · have g4 : ¬ nI j = -1 := nI_ne_m1 (by omega)
    have d := dwn_bd hj (dx := (bx : Int) - ax) (dy := (by' : Int) - ay) (by unfold s7; omega) (by unfold s7; omega)
    simp only [e, if_neg g4, wdB, h.c1161, h.c1162, h.n1161, h.n1162, chk_t (inb_nI hp (by decide)), chk_t (inb_nI hq (by decide)), cl_nI (show p < 2 ^ 31 by omega), cl_nI (show q < 2 ^ 31 by omega), cl_nI (show j < 2 ^ 31 by omega), a1, a2, b1, b2, r_towardX hj, r_towardY hj, chk_t, ck_sI, ck_sR, ck_sJ, cal_s, bnd_e, ifn_s, ifn_n]
    rw [zz bx, zz ax, zz by', zz ay]
    simp only [zI_mul, zI_add, zI_sub, zI_neg, z0]
    simp only [zI_le (z_s14 d.1) sm0, zI_le sm0 (z_s14 d.2), zI_lt (z_s14 d.1) (z_s14 d.2), zI_lt (z_s14 d.1) (z_s14 (a := -(((bx : Int) - ax) * wY j - ((by' : Int) - ay) * wX j)) (by omega)), dwn]
    generalize ((bx : Int) - ax) * wX j + ((by' : Int) - ay) * wY j = al
    generalize ((bx : Int) - ax) * wY j - ((by' : Int) - ay) * wX j = ac
    by_cases k1 : al ≤ 0
    · have k1' : ¬ 0 < al := by omega
      simp [k1, k1', bI]; rfl
    · have k1' : 0 < al := by omega
      by_cases k2 : 0 ≤ ac
      · have k3 : ¬ al < -ac := by omega
        by_cases k4 : al < ac
        · simp [k1, k1', k2, k3, k4, bI]; rfl
        · simp [k1, k1', k2, k3, k4, bI]
      · have k3 : ¬ al < ac := by omega
        by_cases k4 : al < -ac
        · simp [k1, k1', k2, k3, k4, bI]; rfl
        · simp [k1, k1', k2, k3, k4, bI]
/-- the hours that the reference asks for -/
def ohB (o : Int32) (h : Nat) : Bool := decide (o = -1) || decide (o = nI h)
theorem r_smellHours {m : MM} {y i : Nat} {T : TW} (h : Md m y) (ht : m.I 1166 y 0 = nI i) (hi : i < 3) (R : RT m y i T) (V : VT T) {p q ax ay bx by' : Nat} (hp : p < 15) (hq : q < 15) (ha : Rp2 m y p ax ay) (hb : Rp2 m y q bx by') : f_X10_smellHours y (nI p) (nI q) m = some (nI (cntB (fun k => ohB (m.I 1169 y 0) k && wdB T k ((bx : Int) - ax) ((by' : Int) - ay)) 8), m) := by
  show l_X10_smellHours_5 y (nI p) (nI q) FU 0 0 m = _
  refine lp_for (fun n (c : Int32) i => l_X10_smellHours_5 y (nI p) (nI q) n c i m) (fun i => nI (cntB (fun k => ohB (m.I 1169 y 0) k && wdB T k ((bx : Int) - ax) ((by' : Int) - ay)) i)) 8 _ (fun k hk n => ?_) (fun n => ?_) (by unfold FU; omega)
  · show g_X10_smellHours_5 y (nI p) (nI q) (l_X10_smellHours_5 y (nI p) (nI q) n) _ (nI k) m = _
    have e1 : ¬ (8 : Int32) ≤ nI k := nI_ge (b := 8) hk (by decide)
    simp only [g_X10_smellHours_46, g_X10_smellHours_45, g_X10_smellHours_30, g_X10_smellHours_5, g_X10_smellHours_0, f_X10_smellHours, chk_t h.1, chk_t, ck_sI, ck_sR, ck_sJ, cal_s, bnd_e, ifn_s, ifn_n, if_neg e1, r_smellsIn h ht hi R V hk hp hq ha hb, bI_0, cntB_s, nI_1]
    generalize cntB (fun k => ohB (m.I 1169 y 0) k && wdB T k ((bx : Int) - ax) ((by' : Int) - ay)) k = c
    simp only [ohB]
    by_cases k1 : m.I 1169 y 0 = -1
    · cases wdB T k ((bx : Int) - ax) ((by' : Int) - ay) <;> simp [k1, nI_1, bN]
    · by_cases k2 : m.I 1169 y 0 = nI k
      · cases wdB T k ((bx : Int) - ax) ((by' : Int) - ay) <;> simp [k1, k2, nI_1, bN]
      · simp [k1, k2, bN]
  · show g_X10_smellHours_5 y (nI p) (nI q) (l_X10_smellHours_5 y (nI p) (nI q) n) _ (nI 8) m = _
    simp only [g_X10_smellHours_46, g_X10_smellHours_45, g_X10_smellHours_30, g_X10_smellHours_5, g_X10_smellHours_0, f_X10_smellHours, if_pos (show (8 : Int32) ≤ nI 8 by decide)]
