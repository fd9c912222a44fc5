/-! about, thing, ruled -/
theorem inR_n {w : Int32} {lo hi : Nat} (hh : hi < 2 ^ 31) (hl : lo < 2 ^ 31) (h : inR w (nI lo) (nI hi) = true) : ∃ n, lo ≤ n ∧ n ≤ hi ∧ w = nI n := by
  simp only [inR, Bool.and_eq_true, Bool.not_eq_true', decide_eq_false_iff_not] at h
  have h0 : ¬ w < 0 := fun q => h.1 (by rw [i_lt] at q ⊢; rw [nI_toInt hl]; have e : (0 : Int32).toInt = 0 := rfl; omega)
  obtain ⟨j, hj, e⟩ := nI_of h0
  refine ⟨j, ?_, ?_, e⟩
  · rcases Nat.lt_or_ge j lo with q | q
    · exact absurd (by rw [e]; exact nI_lt q hl) h.1
    · exact q
  · rcases Nat.lt_or_ge hi j with q | q
    · exact absurd (by rw [e]; exact nI_lt q hj) h.2
    · exact q
theorem inR_t {n lo hi : Nat} (hh : hi < 2 ^ 31) (h1 : lo ≤ n) (h2 : n ≤ hi) : inR (nI n) (nI lo) (nI hi) = true := by
  simp only [inR, Bool.and_eq_true, Bool.not_eq_true', decide_eq_false_iff_not]
  exact ⟨fun q => by have := (nI_ltI (by omega) (by omega)).mp q; omega, fun q => by have := (nI_ltI (by omega) (by omega)).mp q; omega⟩
def abN (T : TW) (n : Nat) : Int32 := if n = 0 then T.1 0 else if n = 1 then T.1 1 else if n = 2 then nI (T.2.1 0) else if n = 3 then nI (T.2.1 1) else if n = 4 then nI (T.2.1 2) else if n = 5 then T.1 2 else if n = 6 then T.1 3 else if n = 7 then nI (T.2.1 3) else if n = 8 then nI (T.2.1 4) else nI (T.2.1 5)
def abV (T : TW) (w : Int32) : Int32 := if inR w 0 9 then abN T w.toNatClampNeg else if inR w 20 27 then T.1 (10 + (w.toNatClampNeg - 20)) else if inR w 30 35 then T.1 (20 + (w.toNatClampNeg - 30)) else -10000
theorem c_windIn {m : MM} {t : Nat} {T : TW} (h : CT m t T) {k : Nat} (hk : k < 8) : f_X8_windIn t (nI k) m = some (T.1 (10 + k), m) := by
  have e1 : ¬ nI k < 0 := nI_pos (by omega)
  have e2 : ¬ nI 8 ≤ nI k := nI_ge hk (by decide)
  simp only [g_X8_windIn_22, g_X8_windIn_0, f_X8_windIn, h.kt, h.kw, h.Nw, if_neg e1, ofN, if_neg e2, chk_t (inb_nI hk (by decide)), cl_nI (show k < 2 ^ 31 by omega), h.wi k hk]
theorem c_about59 {m : MM} {x t : Nat} {T : TW} (h : CT m t T) (p w : Int32) : g_X9_about_59 x p w (some t) m = some (if inR w 0 9 then abN T w.toNatClampNeg else -10000, m) := by
  simp only [g_X9_about_59, ck_s h.K, h.k0, h.k1, h.k2, h.k3, h.k4, h.k5, h.n0.1, h.n1.1, h.n2.1, h.n3.1, h.n4.1, h.n5.1, h.s0, h.s1, h.s2, h.s3]
  by_cases hA : inR w 0 9 = true
  · obtain ⟨n, n1, n2, e⟩ := inR_n (lo := 0) (hi := 9) (by decide) (by decide) hA
    subst e
    rw [if_pos hA, cl_nI (by omega)]
    have : n = 0 ∨ n = 1 ∨ n = 2 ∨ n = 3 ∨ n = 4 ∨ n = 5 ∨ n = 6 ∨ n = 7 ∨ n = 8 ∨ n = 9 := by omega
    rcases this with q | q | q | q | q | q | q | q | q | q <;> subst q <;> rfl
  · rw [if_neg hA]
    have hx : ∀ n, n ≤ 9 → ¬ w = nI n := fun n hn q => hA (by rw [q]; exact inR_t (lo := 0) (hi := 9) (by decide) (by omega) hn)
    rw [if_neg (show ¬ w = 0 from hx 0 (by omega)), if_neg (show ¬ w = 1 from hx 1 (by omega)), if_neg (show ¬ w = 2 from hx 2 (by omega)), if_neg (show ¬ w = 3 from hx 3 (by omega)), if_neg (show ¬ w = 4 from hx 4 (by omega)), if_neg (show ¬ w = 5 from hx 5 (by omega)), if_neg (show ¬ w = 6 from hx 6 (by omega)), if_neg (show ¬ w = 7 from hx 7 (by omega)), if_neg (show ¬ w = 8 from hx 8 (by omega)), if_neg (show ¬ w = 9 from hx 9 (by omega))]
theorem m_about (x : Nat) (p w : Int32) : Mq x (f_X9_about x p w) (f_X10_about (x + 106) p w) := by
  refine Mq_q (fun W => if isN W.nt p then abV (W.tn p.toNatClampNeg) w else -10000) (fun m W D h => ⟨m, ?_, Fq.rf x m⟩) (fun m W D h => ⟨_, ?_, fq_code x m⟩)
  · have hnt := h.nt
    simp only [f_X9_about, g_X9_about_0, g_X9_about_38, chk_t h.kx, h.now]
    cases hp : isN W.nt p with
    | false => simp only [c_townAt0 h.T hp, chk_t, ck_sI, ck_sR, ck_sJ, cal_s, bnd_e, ifn_s, ifn_n, Bool.false_eq_true, if_false]
    | true =>
      obtain ⟨i, hi, e⟩ := (isN_iff (by omega)).mp hp
      subst e
      have c := h.ct hi
      simp only [c_townAt h.T hi, chk_t, ck_sI, ck_sR, ck_sJ, cal_s, bnd_e, ifn_s, ifn_n, chk_t c.K, ck_s c.K, if_true, cl_nI (show i < 2 ^ 31 by omega), abV]
      simp only [c_about59 c]
      by_cases hB : inR w 20 27 = true
      · obtain ⟨n, n1, n2, e⟩ := inR_n (lo := 20) (hi := 27) (by decide) (by decide) hB
        subst e
        have k1 : ¬ nI n < (20 : Int32) := fun q => by have := (nI_ltI (b := 20) (by omega) (by decide)).mp q; omega
        have k2 : ¬ (28 : Int32) ≤ nI n := nI_ge (b := 28) (by omega) (by decide)
        have k3 : ¬ inR (nI n) 0 9 = true := fun q => by
          obtain ⟨n', _, q2, e⟩ := inR_n (lo := 0) (hi := 9) (by decide) (by decide) q
          have := nI_inj (by omega) (by omega) e
          omega
        have k4 : nI n - 20 = nI (n - 20) := pk_sub (b := 20) n1
        simp only [if_neg k1, if_neg k2, if_neg k3, if_pos hB, k4, c_windIn c (show n - 20 < 8 by omega), chk_t, ck_sI, ck_sR, ck_sJ, cal_s, bnd_e, ifn_s, ifn_n, cl_nI (show n < 2 ^ 31 by omega)]
      · by_cases hC : inR w 30 35 = true
        · obtain ⟨n, n1, n2, e⟩ := inR_n (lo := 30) (hi := 35) (by decide) (by decide) hC
          subst e
          have k1 : ¬ nI n < (20 : Int32) := fun q => by have := (nI_ltI (b := 20) (by omega) (by decide)).mp q; omega
          have k2 : (28 : Int32) ≤ nI n := nI_le (a := 28) (by omega) (by omega)
          have k5 : ¬ nI n < (30 : Int32) := fun q => by have := (nI_ltI (b := 30) (by omega) (by decide)).mp q; omega
          have k6 : ¬ (36 : Int32) ≤ nI n := nI_ge (b := 36) (by omega) (by decide)
          have k3 : ¬ inR (nI n) 0 9 = true := fun q => by
            obtain ⟨n', _, q2, e⟩ := inR_n (lo := 0) (hi := 9) (by decide) (by decide) q
            have := nI_inj (by omega) (by omega) e
            omega
          have k4 : nI n - 30 = nI (n - 30) := pk_sub (b := 30) n1
          simp only [if_neg k1, if_pos k2, if_neg k3, if_neg hB, if_pos hC, if_neg k5, if_neg k6, k4, c_growsBy c (show n - 30 < 6 by omega), chk_t, ck_sI, ck_sR, ck_sJ, cal_s, bnd_e, ifn_s, ifn_n, cl_nI (show n < 2 ^ 31 by omega)]
        · rw [if_neg hB, if_neg hC]
          by_cases k1 : w < 20
          · have k5 : w < 30 := by rw [i_lt] at k1 ⊢; have e1 : (20 : Int32).toInt = 20 := rfl; have e2 : (30 : Int32).toInt = 30 := rfl; omega
            rw [if_pos k1, if_pos k5]
          · rw [if_neg k1]
            by_cases k2 : (28 : Int32) ≤ w
            · rw [if_pos k2]
              by_cases k5 : w < 30
              · rw [if_pos k5]
              · rw [if_neg k5]
                by_cases k6 : (36 : Int32) ≤ w
                · rw [if_pos k6]
                · refine absurd ?_ hC
                  simp only [inR, Bool.and_eq_true, Bool.not_eq_true', decide_eq_false_iff_not]
                  refine ⟨k5, ?_⟩
                  rw [i_le] at k6
                  rw [i_lt]
                  have e1 : (36 : Int32).toInt = 36 := rfl
                  have e2 : (35 : Int32).toInt = 35 := rfl
                  omega
            · refine absurd ?_ hB
              simp only [inR, Bool.and_eq_true, Bool.not_eq_true', decide_eq_false_iff_not]
              refine ⟨k1, ?_⟩
              rw [i_le] at k2
              rw [i_lt]
              have e1 : (28 : Int32).toInt = 28 := rfl
              have e2 : (27 : Int32).toInt = 27 := rfl
              omega
  · have hnt := h.nt
    have g := h.code
    simp only [f_X10_about, g_X10_about_0, chk_t h.M.1, chk_t, ck_sI, ck_sR, ck_sJ, cal_s, bnd_e, ifn_s, ifn_n, r_isTown g.M g.R hnt p, r_in, bI_0]
    generalize m.sI 1100 (x + 106) 0 0 = m1 at g ⊢
    cases hp : isN W.nt p with
    | false => simp
    | true =>
      obtain ⟨i, hi, e⟩ := (isN_iff (by omega)).mp hp
      subst e
      have R := (g.rt hi).1
      simp only [Bool.true_eq_false, if_false, if_true, cl_nI (show i < 2 ^ 31 by omega), abV, chk_t g.M.1]
      by_cases hA : inR w 0 9 = true
      · obtain ⟨n, n1, n2, e⟩ := inR_n (lo := 0) (hi := 9) (by decide) (by decide) hA
        subst e
        simp only [hA, Bool.true_eq_false, if_false, if_true, r_of g.M (show i < 12 by omega) (show n < 32 by omega), chk_t, ck_sI, ck_sR, ck_sJ, cal_s, bnd_e, ifn_s, ifn_n, cl_nI (show n < 2 ^ 31 by omega)]
        have : n = 0 ∨ n = 1 ∨ n = 2 ∨ n = 3 ∨ n = 4 ∨ n = 5 ∨ n = 6 ∨ n = 7 ∨ n = 8 ∨ n = 9 := by omega
        obtain ⟨p0, p1, p2, p3, p4, p5, p6, p7, p8, p9, _⟩ := R
        rcases this with q | q | q | q | q | q | q | q | q | q <;> subst q
        · show some (m1.I 22 (x + 106 + 6) (32 * i), m1) = _
          rw [p0]; rfl
        · rw [p1]; rfl
        · rw [p2]; rfl
        · rw [p3]; rfl
        · rw [p4]; rfl
        · rw [p5]; rfl
        · rw [p6]; rfl
        · rw [p7]; rfl
        · rw [p8]; rfl
        · rw [p9]; rfl
      · have hA' : inR w 0 9 = false := by cases q : inR w 0 9 with | false => rfl | true => exact absurd q hA
        simp only [hA', if_true, Bool.false_eq_true, if_false]
        by_cases hB : inR w 20 27 = true
        · obtain ⟨n, n1, n2, e⟩ := inR_n (lo := 20) (hi := 27) (by decide) (by decide) hB
          subst e
          have k4 : (10 : Int32) + nI n - 20 = nI (10 + (n - 20)) := by
            rw [show (10 : Int32) + nI n = nI (10 + n) from nI_add 10 n, show nI (10 + n) - (20 : Int32) = nI (10 + n - 20) from pk_sub (b := 20) (by omega)]
            congr 1; omega
          simp only [hB, Bool.true_eq_false, if_false, if_true, k4, r_of g.M (show i < 12 by omega) (show 10 + (n - 20) < 32 by omega), chk_t, ck_sI, ck_sR, ck_sJ, cal_s, bnd_e, ifn_s, ifn_n, cl_nI (show n < 2 ^ 31 by omega)]
          rw [R.2.2.2.2.2.2.2.2.2.2.1 (n - 20) (by omega)]
        · have hB' : inR w 20 27 = false := by cases q : inR w 20 27 with | false => rfl | true => exact absurd q hB
          simp only [hB', if_true, Bool.false_eq_true, if_false]
          by_cases hC : inR w 30 35 = true
          · obtain ⟨n, n1, n2, e⟩ := inR_n (lo := 30) (hi := 35) (by decide) (by decide) hC
            subst e
            have k4 : (18 : Int32) + nI n - 30 = nI (18 + (n - 30)) := by
              rw [show (18 : Int32) + nI n = nI (18 + n) from nI_add 18 n, show nI (18 + n) - (30 : Int32) = nI (18 + n - 30) from pk_sub (b := 30) (by omega)]
              congr 1; omega
            simp only [hC, Bool.true_eq_false, if_false, if_true, k4, r_of g.M (show i < 12 by omega) (show 18 + (n - 30) < 32 by omega), chk_t, ck_sI, ck_sR, ck_sJ, cal_s, bnd_e, ifn_s, ifn_n, cl_nI (show n < 2 ^ 31 by omega)]
            rw [R.2.2.2.2.2.2.2.2.2.2.2 (n - 30) (by omega)]
          · have hC' : inR w 30 35 = false := by cases q : inR w 30 35 with | false => rfl | true => exact absurd q hC
            simp only [hC', if_true, Bool.false_eq_true, if_false]
