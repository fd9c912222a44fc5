theorem CL.cell {m : MM} {l : Nat} {B : LW} (h : CL m l B) {i c : Nat} (hi : i < B.2.1) (hc : c < 5) : f_X6_cell (l + 1) (nI i) (nI c) m = some (B.2.2 i c, m) := by rw [← h.c i hi c hc]; exact cell_in h.T hi hc
theorem md10 : ∀ n, n < 60 → nI n - nI n / 10 * 10 = nI (n % 10) := by decide
theorem md10' : ∀ n, n < 60 → nI n - nI (n / 10) * 10 = nI (n % 10) := by decide
theorem dv10 : ∀ n, n < 60 → nI n / 10 = nI (n / 10) := by decide
def rlV (B : LW) (w : Int32) : Int32 := if inR w 10 59 && decide (w.toNatClampNeg % 10 < B.2.1) then B.2.2 (w.toNatClampNeg % 10) (w.toNatClampNeg / 10 - 1) else if w = 0 then nI B.2.1 else if w = 1 then B.1 0 else if w = 2 then B.1 1 else if w = 3 then B.1 2 else -1
theorem i_tr {w : Int32} {a b : Nat} (ha : a < 2 ^ 31) (hb : b = a + 1) (hb2 : b < 2 ^ 31) : (nI a < w) ↔ (nI b ≤ w) := by rw [i_lt, i_le, nI_toInt ha, nI_toInt hb2]; omega
theorem m_ruled (x : Nat) (p w : Int32) : Mq x (f_X9_ruled x p w) (f_X10_ruled (x + 106) p w) := by
  refine Mq_q (fun W => if isN W.nl p then rlV (W.lw p.toNatClampNeg) w else -1) (fun m W D h => ⟨m, ?_, Fq.rf x m⟩) (fun m W D h => ⟨_, ?_, fq_code x m⟩)
  · have hnl := h.nl
    simp only [f_X9_ruled, g_X9_ruled_0, chk_t h.kx, h.now]
    cases hp : isN W.nl p with
    | false => simp only [c_lawAt0 h.T hp, chk_t, ck_sI, ck_sR, ck_sJ, cal_s, bnd_e, ifn_s, ifn_n, Bool.false_eq_true, if_false]
    | true =>
      obtain ⟨i, hi, e⟩ := (isN_iff (by omega)).mp hp
      subst e
      have c := h.cl hi
      have V := h.V.2 i hi
      have hb := c.n.2.2
      have f45 : ¬ inR w 10 59 = true → g_X9_ruled_45 x (nI i) w (some (x + 1 + 19 + 18 * i)) m = some (rlV (W.lw i) w, m) := by
        intro hw
        have hw' : inR w 10 59 = false := by cases q : inR w 10 59 with | false => rfl | true => exact absurd q hw
        simp only [g_X9_ruled_45, ck_s c.K, c.kr, c.n.1, c.s0, c.s1, c.s2, rlV, hw', Bool.false_and, Bool.false_eq_true, if_false]
        by_cases k0 : w = 0
        · simp only [if_pos k0]
        simp only [if_neg k0]
        by_cases k1 : w = 1
        · simp only [if_pos k1]
          rcases V.1 with q | q <;> rw [q] <;> rfl
        simp only [if_neg k1]
        by_cases k2 : w = 2
        · simp only [if_pos k2]
          rcases V.2.1 with q | q <;> rw [q] <;> rfl
        simp only [if_neg k2]
        by_cases k3 : w = 3
        · simp only [if_pos k3]
        · simp only [if_neg k3]
      simp only [c_lawAt h.T hi, chk_t, ck_sI, ck_sR, ck_sJ, cal_s, bnd_e, ifn_s, ifn_n, chk_t c.K, c.kr, if_true, cl_nI (show i < 2 ^ 31 by omega)]
      by_cases hw : inR w 10 59 = true
      · obtain ⟨n, n1, n2, e⟩ := inR_n (lo := 10) (hi := 59) (by decide) (by decide) hw
        subst e
        have k1 : ¬ nI n < (10 : Int32) := fun q => by have := (nI_ltI (b := 10) (by omega) (by decide)).mp q; omega
        have k2 : ¬ (60 : Int32) ≤ nI n := nI_ge (b := 60) (by omega) (by decide)
        have k4 : nI (n / 10) - 1 = nI (n / 10 - 1) := pk_sub (b := 1) (by omega)
        simp only [if_neg k1, if_neg k2, md10' n (by omega), dv10 n (by omega), k4, rlV, hw, Bool.true_and, cl_nI (show n < 2 ^ 31 by omega)]
        by_cases k5 : n % 10 < (W.lw i).2.1
        · simp only [c.cell k5 (show n / 10 - 1 < 5 by omega), chk_t, ck_sI, ck_sR, ck_sJ, cal_s, bnd_e, ifn_s, ifn_n, decide_eq_true k5, if_true]
        · have k6 : nI (W.lw i).2.1 ≤ nI (n % 10) := nI_le (by omega) (by omega)
          have hx : ∀ j, j < 10 → ¬ nI n = nI j := fun j hj q => by have := nI_inj (by omega) (by omega) q; omega
          simp only [c.out (Or.inr k6), chk_t, ck_sI, ck_sR, ck_sJ, cal_s, bnd_e, ifn_s, ifn_n, decide_eq_false k5, Bool.false_eq_true, if_false, if_neg (show ¬ nI n = 0 from hx 0 (by omega)), if_neg (show ¬ nI n = 1 from hx 1 (by omega)), if_neg (show ¬ nI n = 2 from hx 2 (by omega)), if_neg (show ¬ nI n = 3 from hx 3 (by omega))]
      · rw [f45 hw]
        by_cases k1 : w < 10
        · rw [if_pos k1]
        · rw [if_neg k1]
          by_cases k2 : (60 : Int32) ≤ w
          · rw [if_pos k2]
          · refine absurd ?_ hw
            simp only [inR, Bool.and_eq_true, Bool.not_eq_true', decide_eq_false_iff_not]
            exact ⟨k1, fun q => k2 ((i_tr (a := 59) (by decide) rfl (by decide)).mp q)⟩
  · have hnl := h.nl
    have g := h.code
    simp only [f_X10_ruled, g_X10_ruled_0, chk_t h.M.1, bnd_e]
    generalize m.sI 1100 (x + 106) 0 0 = m1 at g ⊢
    simp only [chk_t, ck_sI, ck_sR, ck_sJ, cal_s, bnd_e, ifn_s, ifn_n, r_isLaw g.M g.R hnl p, bI_0]
    cases hp : isN W.nl p with
    | false => simp
    | true =>
      obtain ⟨i, hi, e⟩ := (isN_iff (by omega)).mp hp
      subst e
      have R := g.rl hi
      have hb := (g.cl hi).n.2.2
      have R0 : m1.I 22 (x + 106 + 29) i = nI (W.lw i).2.1 := R.1
      have R1 : m1.I 22 (x + 106 + 30) i = (W.lw i).1 0 := R.2.1
      have R2 : m1.I 22 (x + 106 + 31) i = (W.lw i).1 1 := R.2.2.1
      have R3 : m1.I 22 (x + 106 + 32) i = (W.lw i).1 2 := R.2.2.2.1
      have hi12 : i < 12 := by omega
      have f131 : (inR w 10 59 && decide (w.toNatClampNeg % 10 < (W.lw i).2.1)) = false → g_X10_ruled_131 (x + 106) (nI i) w (nI (W.lw i).2.1) m1 = some (rlV (W.lw i) w, m1) := by
        intro hw
        simp only [g_X10_ruled_131, chk_t g.M.1, g.M.c1130, g.M.c1131, g.M.c1132, g.M.n1130, g.M.n1131, g.M.n1132, chk_t (inb_nI hi12 (by decide)), cl_nI (show i < 2 ^ 31 by omega), R1, R2, R3, rlV, hw, Bool.false_eq_true, if_false]
        by_cases k0 : w = 0
        · simp only [if_pos k0]
        simp only [if_neg k0]
        by_cases k1 : w = 1
        · simp only [if_pos k1]
        simp only [if_neg k1]
        by_cases k2 : w = 2
        · simp only [if_pos k2]
        simp only [if_neg k2]
        by_cases k3 : w = 3
        · simp only [if_pos k3]
        · simp only [if_neg k3]
      simp only [Bool.true_eq_false, if_false, if_true, chk_t g.M.1, g.M.c1129, g.M.n1129, chk_t (inb_nI hi12 (by decide)), cl_nI (show i < 2 ^ 31 by omega), R0]
      by_cases hw : inR w 10 59 = true
      · obtain ⟨n, n1, n2, e⟩ := inR_n (lo := 10) (hi := 59) (by decide) (by decide) hw
        subst e
        have k1 : ¬ nI n < (10 : Int32) := fun q => by have := (nI_ltI (b := 10) (by omega) (by decide)).mp q; omega
        have k2 : ¬ (60 : Int32) ≤ nI n := nI_ge (b := 60) (by omega) (by decide)
        rw [if_neg k1, if_neg k2]
        simp only [md10' n (by omega), dv10 n (by omega)]
        by_cases k5 : n % 10 < (W.lw i).2.1
        · have e10 : (10 : Int32) * nI i + nI (n % 10) = nI (10 * i + n % 10) := by
            show nI 10 * nI i + nI (n % 10) = _
            rw [pk_mul, nI_add]
          have hk : 10 * i + n % 10 < 120 := by omega
          have Rr := R.2.2.2.2 (n % 10) k5
          rw [if_neg (nI_ge k5 (by omega))]
          simp only [e10, g.M.c1133, g.M.c1134, g.M.c1135, g.M.c1136, g.M.c1137, g.M.n1133, g.M.n1134, g.M.n1135, g.M.n1136, g.M.n1137, chk_t (inb_nI hk (by decide)), cl_nI (show 10 * i + n % 10 < 2 ^ 31 by omega), rlV, hw, Bool.true_and, cl_nI (show n < 2 ^ 31 by omega), decide_eq_true k5, if_true, show m1.I 22 (x + 106 + 33) (10 * i + n % 10) = _ from Rr 0 (by omega), show m1.I 22 (x + 106 + 34) (10 * i + n % 10) = _ from Rr 1 (by omega), show m1.I 22 (x + 106 + 35) (10 * i + n % 10) = _ from Rr 2 (by omega), show m1.I 22 (x + 106 + 36) (10 * i + n % 10) = _ from Rr 3 (by omega), show m1.I 22 (x + 106 + 37) (10 * i + n % 10) = _ from Rr 4 (by omega)]
          have : n / 10 = 1 ∨ n / 10 = 2 ∨ n / 10 = 3 ∨ n / 10 = 4 ∨ n / 10 = 5 := by omega
          rcases this with q | q | q | q | q <;> rw [q] <;> rfl
        · rw [if_pos (nI_le (by omega) (by omega))]
          exact f131 (by rw [cl_nI (by omega), decide_eq_false k5, Bool.and_false])
      · have hw' : inR w 10 59 = false := by cases q : inR w 10 59 with | false => rfl | true => exact absurd q hw
        by_cases k1 : w < 10
        · rw [if_pos k1]
          exact f131 (by rw [hw']; rfl)
        · rw [if_neg k1]
          by_cases k2 : (60 : Int32) ≤ w
          · rw [if_pos k2]
            exact f131 (by rw [hw']; rfl)
          · refine absurd ?_ hw
            simp only [inR, Bool.and_eq_true, Bool.not_eq_true', decide_eq_false_iff_not]
            exact ⟨k1, fun q => k2 ((i_tr (a := 59) (by decide) rfl (by decide)).mp q)⟩
