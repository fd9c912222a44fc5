/-! the reference: walls between, growth, how far -/
def NT (T : TW) : Prop := T.2.1 0 ≤ 12 ∧ T.2.1 1 ≤ 8 ∧ T.2.1 2 ≤ 6 ∧ T.2.1 3 ≤ 12 ∧ T.2.1 4 ≤ 12 ∧ T.2.1 5 ≤ 3
theorem CT.nn {m : MM} {t : Nat} {T : TW} (h : CT m t T) : NT T := ⟨h.T0.2.2.2.2.2.2.2.1, h.T1.2.2.2.2.2.2.2.1, h.T2.2.2.2.2.2.2.2.1, h.T3.2.2.2.2.2.2.2.1, h.T4.2.2.2.2.2.2.2.1, h.T5.2.2.2.2.2.2.2.1⟩
/-- the lines that count for the reference: walls built, fences thought of -/
def rwB (T : TW) (d : Nat) (F : Int32) (a b : BD) (k : Nat) : Bool := if k < 8 then decide (k < T.2.1 1) && wlB T d a b k else bt F (k - 8) && fnB T a b (k - 8)
theorem r_wallsBetween {m : MM} {y i : Nat} {T : TW} (h : Md m y) (ht : m.I 1166 y 0 = nI i) (hi : i < 3) (R : RT m y i T) (V : VT T) (N : NT T) {d : Nat} (hd : m.I 1167 y 0 = nI d) {F : Int32} (hF : m.I 1168 y 0 = F) (hFb : ∀ k, k < 6 → bt F k = true → k < T.2.1 2) {p q : Nat} {a b : BD} {sa sb : Nat} (hp : p < 15) (hq : q < 15) (ha : Rb m y p a sa) (hb : Rb m y q b sb) (va : VB a) (vb : VB b) : f_X10_wallsBetween y (nI p) (nI q) m = some (nI (cntB (rwB T d F a b) 14), m) := by
  show l_X10_wallsBetween_5 y (nI p) (nI q) FU 0 0 m = _
  refine lp_for (fun n (c : Int32) i => l_X10_wallsBetween_5 y (nI p) (nI q) n c i m) (fun i => nI (cntB (rwB T d F a b) i)) 14 _ (fun k hk n => ?_) (fun n => ?_) (by unfold FU; omega)
  · show g_X10_wallsBetween_5 y (nI p) (nI q) (l_X10_wallsBetween_5 y (nI p) (nI q) n) _ (nI k) m = _
    have e1 : ¬ (14 : Int32) ≤ nI k := nI_ge (b := 14) hk (by decide)
    have e2 : ¬ (1 : Int32) = 0 := by decide
    have o3 : f_X10_of y (nI i) 3 m = some (nI (T.2.1 1), m) := by rw [← R.1.2.2.2.1]; exact r_of h (w := 3) (by omega) (by omega)
    rw [cntB_s]
    generalize cntB (rwB T d F a b) k = c
    by_cases k8 : 8 ≤ k
    · have e3 : (8 : Int32) ≤ nI k := nI_le (a := 8) k8 (by omega)
      have e4 : nI k - 8 = nI (k - 8) := pk_sub (b := 8) k8
      simp only [g_X10_wallsBetween_107, g_X10_wallsBetween_106, g_X10_wallsBetween_83, g_X10_wallsBetween_59, g_X10_wallsBetween_5, g_X10_wallsBetween_0, f_X10_wallsBetween, if_neg e1, if_pos e3, chk_t h.1, hF, e4, bt_q F (show k - 8 < 32 by omega), if_neg e2, if_pos, chk_t, ck_sI, ck_sR, ck_sJ, cal_s, bnd_e, ifn_s, ifn_n]
      rw [rwB, if_neg (show ¬ k < 8 by omega)]
      cases hf : bt F (k - 8) with
      | false => simp [bN, nI_1]
      | true =>
        have hk2 : k - 8 < T.2.1 2 := hFb (k - 8) (by omega) hf
        obtain ⟨⟨w0, l0, v0⟩, ⟨w1, l1, v1⟩, ⟨w2, l2, v2⟩, ⟨w3, l3, v3⟩⟩ := V.2.2.2.2.2.2.2.2.1 (k - 8) hk2
        have key : fnB T a b (k - 8) = cutN a b w0 w1 w2 w3 := by unfold fnB cuT; rw [v0, v1, v2, v3, cl_nI (by omega), cl_nI (by omega), cl_nI (by omega), cl_nI (by omega)]
        have r := R.2.2.2.1 (k - 8) hk2
        have ek : 8 + (k - 8) = k := by omega
        rw [ek] at r
        have hc := r_crosses h ht hi hk hp hq ha hb va vb l0 l1 l2 l3 (by rw [← v0]; exact r 0 (by omega)) (by rw [← v1]; exact r 1 (by omega)) (by rw [← v2]; exact r 2 (by omega)) (by rw [← v3]; exact r 3 (by omega))
        simp only [Bool.true_eq_false, if_false, hc, chk_t, ck_sI, ck_sR, ck_sJ, cal_s, bnd_e, ifn_s, ifn_n, bI_0, key, Bool.true_and]
        cases cutN a b w0 w1 w2 w3 <;> simp [bN, nI_1]
    · have e3 : ¬ (8 : Int32) ≤ nI k := nI_ge (b := 8) (by omega) (by decide)
      have hn := N.2.1
      rw [rwB, if_pos (show k < 8 by omega)]
      by_cases k1 : k < T.2.1 1
      · have e5 : ¬ nI (T.2.1 1) ≤ nI k := nI_ge k1 (by omega)
        have e6 : (14 : Int32) * nI i + nI k = nI (14 * i + k) := by
          show nI 14 * nI i + nI k = _
          rw [pk_mul, nI_add]
        obtain ⟨⟨w0, l0, v0⟩, ⟨w1, l1, v1⟩, ⟨w2, l2, v2⟩, ⟨w3, l3, v3⟩, ⟨w4, l4, v4⟩⟩ := V.2.2.2.2.2.2.2.1 k k1
        have key : cuT T 1 k a b = cutN a b w0 w1 w2 w3 := by unfold cuT; rw [v0, v1, v2, v3, cl_nI (by omega), cl_nI (by omega), cl_nI (by omega), cl_nI (by omega)]
        have r := R.2.2.1 k k1
        have r4 : m.I 22 (y + 19) (14 * i + k) = T.2.2 1 k 4 := r 4 (by omega)
        have hc := r_crosses h ht hi hk hp hq ha hb va vb l0 l1 l2 l3 (by rw [← v0]; exact r 0 (by omega)) (by rw [← v1]; exact r 1 (by omega)) (by rw [← v2]; exact r 2 (by omega)) (by rw [← v3]; exact r 3 (by omega))
        rw [wlB, decide_eq_true k1, Bool.true_and]
        simp only [g_X10_wallsBetween_107, g_X10_wallsBetween_106, g_X10_wallsBetween_83, g_X10_wallsBetween_59, g_X10_wallsBetween_5, g_X10_wallsBetween_0, f_X10_wallsBetween, if_neg e1, if_neg e3, chk_t h.1, ht, hd, o3, if_neg e5, e6, h.c1119, h.n1119, chk_t (inb_nI (show 14 * i + k < 168 by omega) (by decide)), cl_nI (show 14 * i + k < 2 ^ 31 by omega), r4, if_neg e2, if_pos, hc, chk_t, ck_sI, ck_sR, ck_sJ, cal_s, bnd_e, ifn_s, ifn_n, bI_0, key]
        by_cases k2 : T.2.2 1 k 4 ≤ nI d
        · have k2' : ¬ nI d < T.2.2 1 k 4 := Int32.not_lt.mpr k2
          rw [if_neg k2', decide_eq_true k2]
          cases cutN a b w0 w1 w2 w3 <;> simp [bN, nI_1]
        · have k2' : nI d < T.2.2 1 k 4 := Int32.not_le.mp k2
          rw [if_pos k2', decide_eq_false k2]
          simp [bN, nI_1]
      · have e5 : nI (T.2.1 1) ≤ nI k := nI_le (by omega) (by omega)
        simp only [g_X10_wallsBetween_107, g_X10_wallsBetween_106, g_X10_wallsBetween_83, g_X10_wallsBetween_59, g_X10_wallsBetween_5, g_X10_wallsBetween_0, f_X10_wallsBetween, if_neg e1, if_neg e3, chk_t h.1, ht, hd, o3, if_pos e5, chk_t, ck_sI, ck_sR, ck_sJ, cal_s, bnd_e, ifn_s, ifn_n]
        rw [decide_eq_false k1, Bool.false_and]
        simp [bN, nI_1]
  · show g_X10_wallsBetween_5 y (nI p) (nI q) (l_X10_wallsBetween_5 y (nI p) (nI q) n) _ (nI 14) m = _
    simp only [g_X10_wallsBetween_107, g_X10_wallsBetween_106, g_X10_wallsBetween_83, g_X10_wallsBetween_59, g_X10_wallsBetween_5, g_X10_wallsBetween_0, f_X10_wallsBetween, if_pos (show (14 : Int32) ≤ nI 14 by decide)]
theorem r_grownBy {m : MM} {y i : Nat} {T : TW} (h : Md m y) (ht : m.I 1166 y 0 = nI i) (hi : i < 3) (R : RT m y i T) (V : VT T) {d : Nat} (hd : m.I 1167 y 0 = nI d) (hdl : d < 1000) {p : Nat} {a : BD} {s : Nat} (hp : p < 15) (ha : Rb m y p a s) (va : VB a) (hs : s < 1000) : f_X10_grownBy y (nI p) m = some (nI (gN T a.k s d), m) := by
  obtain ⟨va1, _⟩ := va
  obtain ⟨a1, _, _, _, a5⟩ := ha
  have e18 : (18 : Int32) + nI a.k = nI (18 + a.k) := nI_add (a := 18) (b := a.k)
  have hw : m.I 22 (y + 6) (32 * i + (18 + a.k)) = T.1 (20 + a.k) := R.1.2.2.2.2.2.2.2.2.2.2.2 a.k va1
  simp only [g_X10_grownBy_0, f_X10_grownBy, chk_t h.1, chk_t, ck_sI, ck_sR, ck_sJ, cal_s, bnd_e, ifn_s, ifn_n, ht, hd, e18, r_of h (show i < 12 by omega) (show 18 + a.k < 32 by omega), hw, h.c1160, h.c1164, h.n1160, h.n1164, chk_t (inb_nI hp (by decide)), cl_nI (show p < 2 ^ 31 by omega), a1, a5]
  rcases V.2.2.2.2.2.1 a.k va1 with e | ⟨g, g1, g2, e⟩
  · rw [if_pos e]
    simp only [gN, e, if_true]
    split <;> rfl
  · have em : ¬ nI g = -1 := nI_ne_m1 (by omega)
    have e0 : ¬ nI g = 0 := nI_ne0 (by omega) (by omega)
    simp only [e, if_neg em, gN, cl_nI (show g < 2 ^ 31 by omega)]
    by_cases hds : d < s
    · rw [if_pos hds, if_neg (nI_ge hds (by omega))]
      rfl
    · rw [if_neg hds, if_pos (nI_le (show s ≤ d by omega) (by omega)), chk_t e0, pk_sub (by omega), pk_div (by omega) (by omega) (by omega)]
      have hlt : (d - s) / g < 2 ^ 31 := Nat.lt_of_le_of_lt (Nat.div_le_self _ _) (by omega)
      by_cases e3 : 9 ≤ (d - s) / g
      · rw [if_pos (show (9 : Int32) ≤ nI ((d - s) / g) from nI_le (a := 9) e3 hlt), Nat.min_eq_left e3]
        rfl
      · rw [if_neg (show ¬ (9 : Int32) ≤ nI ((d - s) / g) from nI_ge (b := 9) (by omega) (by decide)), Nat.min_eq_right (by omega)]
/-- the square of how far apart -/
def dsq (a b : BD) : Int := ((b.x : Int) - a.x) * ((b.x : Int) - a.x) + ((b.y : Int) - a.y) * ((b.y : Int) - a.y)
theorem dsq_c (a b : BD) : dsq a b = dsq b a := by unfold dsq; grind
theorem dsq_b {a b : BD} (va : VB a) (vb : VB b) : 0 ≤ dsq a b ∧ dsq a b ≤ 98 := by
  obtain ⟨_, va2, va3, _⟩ := va
  obtain ⟨_, vb2, vb3, _⟩ := vb
  have q1 := z_bd (x := (b.x : Int) - a.x) (y := (b.x : Int) - a.x) 7 7 (by omega) (by omega)
  have q2 := z_bd (x := (b.y : Int) - a.y) (y := (b.y : Int) - a.y) 7 7 (by omega) (by omega)
  have p1 : 0 ≤ ((b.x : Int) - a.x) * ((b.x : Int) - a.x) := by
    rcases Int.le_total 0 ((b.x : Int) - a.x) with q | q
    · exact Int.mul_nonneg q q
    · exact Int.mul_nonneg_of_nonpos_of_nonpos q q
  have p2 : 0 ≤ ((b.y : Int) - a.y) * ((b.y : Int) - a.y) := by
    rcases Int.le_total 0 ((b.y : Int) - a.y) with q | q
    · exact Int.mul_nonneg q q
    · exact Int.mul_nonneg_of_nonpos_of_nonpos q q
  unfold dsq
  omega
theorem r_apartBy {m : MM} {y p q : Nat} {a b : BD} {sa sb : Nat} (h : Md m y) (hp : p < 15) (hq : q < 15) (ha : Rb m y p a sa) (hb : Rb m y q b sb) : f_X10_apartBy y (nI p) (nI q) m = some (zI (dsq a b), m) := by
  obtain ⟨_, a2, a3, _⟩ := ha
  obtain ⟨_, b2, b3, _⟩ := hb
  simp only [g_X10_apartBy_0, f_X10_apartBy, chk_t h.1, chk_t, ck_sI, ck_sR, ck_sJ, cal_s, bnd_e, ifn_s, ifn_n, h.c1161, h.c1162, h.n1161, h.n1162, chk_t (inb_nI hp (by decide)), chk_t (inb_nI hq (by decide)), cl_nI (show p < 2 ^ 31 by omega), cl_nI (show q < 2 ^ 31 by omega), a2, a3, b2, b3]
  rw [dsq_c, zz b.x, zz a.x, zz b.y, zz a.y]
  simp only [zI_sub, zI_mul, zI_add, dsq]
theorem r_farBy {m : MM} {y i : Nat} {T : TW} (h : Md m y) (ht : m.I 1166 y 0 = nI i) (hi : i < 3) (R : RT m y i T) (V : VT T) {d : Nat} (hd : m.I 1167 y 0 = nI d) (hdl : d < 1000) {p q : Nat} {a b : BD} {sa sb : Nat} (hp : p < 15) (hq : q < 15) (ha : Rb m y p a sa) (hb : Rb m y q b sb) (va : VB a) (vb : VB b) (hsa : sa < 1000) (hsb : sb < 1000) {w : Nat} (hw : m.I 1170 y 0 = nI w) {r f : Nat} (hr : r < 120) (hf : m.I 22 (y + 36) r = nI f) : f_X10_farBy y (nI r) (nI p) (nI q) m = some (nI (f + w + gN T a.k sa d + gN T b.k sb d), m) := by
  simp only [g_X10_farBy_0, f_X10_farBy, chk_t h.1, chk_t, ck_sI, ck_sR, ck_sJ, cal_s, bnd_e, ifn_s, ifn_n, h.c1136, h.n1136, chk_t (inb_nI hr (by decide)), cl_nI (show r < 2 ^ 31 by omega), hf, hw, r_grownBy h ht hi R V hd hdl hp ha va hsa, r_grownBy h ht hi R V hd hdl hq hb vb hsb, nI_add]
