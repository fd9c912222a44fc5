theorem c_body {m : MM} {x : Nat} (hS : Sh m x) {j : Nat} (hj : j < 12) : f_X5_body (x + 81) (nI j) m = some (some (x + 83 + j), m) := by
  have e1 : ¬ nI j < 0 := nI_pos (by omega)
  have e2 : ¬ nI 12 ≤ nI j := nI_ge hj (by decide)
  simp only [g_X5_body_22, g_X5_body_0, f_X5_body, if_neg e1, chk_t hS.th, hS.bs.1, ck_s hS.bs.2.1, hS.bs.2.2, ofN, if_neg e2, chk_t (inb_nI hj (by decide)), cl_nI (show j < 2 ^ 31 by omega), (hS.b hj).1]
theorem Inv.sc {m : MM} {x : Nat} {W : WD} {D : Nat → Option (Nat × WD)} (h : Inv m x W D) {α : Type} (K : Nat → Option α) : ck m (m.R 1003 x 0) 6 K = K (x + 81) := ck_e h.1.1.2.2.2.2.1 h.1.th
theorem rwB_0 {T : TW} (N : NT T) (d : Nat) (a b : BD) : cntB (rwB T d 0 a b) 14 = cntB (wlB T d a b) (T.2.1 1) := by
  rw [← cntB_ex (P := wlB T d a b) 14 (by have := N.2.1; omega)]
  refine cntB_congr 14 (fun k hk => ?_)
  unfold rwB
  by_cases q : k < 8
  · rw [if_pos q]
  · rw [if_neg q, bt_0, decide_eq_false (by have := N.2.1; omega)]; rfl
theorem m_between (x : Nat) (p a b d : Int32) : Mq x (f_X9_between x p a b d) (f_X10_between (x + 106) p a b d) := by
  refine Mq_q (fun W => if isN W.nt p && (isN ((W.tn p.toNatClampNeg).2.1 0) a && isN ((W.tn p.toNatClampNeg).2.1 0) b && !decide (a = b) && isN 1000 d) then nI (cntB (wlB (W.tn p.toNatClampNeg) d.toNatClampNeg (bdy (W.tn p.toNatClampNeg) d.toNatClampNeg a.toNatClampNeg) (bdy (W.tn p.toNatClampNeg) d.toNatClampNeg b.toNatClampNeg)) ((W.tn p.toNatClampNeg).2.1 1)) else -1) (fun m W D h => ?_) (fun m W D h => ?_)
  · have hnt := h.nt
    simp only [f_X9_between, g_X9_between_0, chk_t h.kx, h.now]
    cases hp : isN W.nt p with
    | false => exact ⟨m, by simp only [c_townAt0 h.T hp, chk_t, ck_sI, ck_sR, ck_sJ, cal_s, bnd_e, ifn_s, ifn_n, Bool.false_and, Bool.false_eq_true, if_false], Fq.rf x m⟩
    | true =>
      obtain ⟨i, hi, e⟩ := (isN_iff (by omega)).mp hp
      subst e
      have c := h.ct hi
      have hn := (h.nn hi).1
      have hn1 := (h.nn hi).2.1
      have V := h.V.1 i hi
      simp only [c_townAt h.T hi, chk_t, ck_sI, ck_sR, ck_sJ, cal_s, bnd_e, ifn_s, ifn_n, chk_t c.K, c_hasTwo c, hasTh_isN, bI_0, cl_nI (show i < 2 ^ 31 by omega), Bool.true_and, c_isDay]
      cases ha : isN ((W.tn i).2.1 0) a with
      | false => exact ⟨m, by simp, Fq.rf x m⟩
      | true =>
        cases hb : isN ((W.tn i).2.1 0) b with
        | false => exact ⟨m, by simp, Fq.rf x m⟩
        | true =>
          by_cases hab : a = b
          · exact ⟨m, by simp [hab], Fq.rf x m⟩
          · cases hd : isN 1000 d with
            | false => exact ⟨m, by simp [hab], Fq.rf x m⟩
            | true =>
              obtain ⟨j, hj, e⟩ := (isN_iff (by omega)).mp ha
              subst e
              obtain ⟨k, hk, e⟩ := (isN_iff (by omega)).mp hb
              subst e
              obtain ⟨d, hdl, e⟩ := (isN_iff (by decide)).mp hd
              subst e
              obtain ⟨m2, e2, f2, q2⟩ := c_open h.S c V (by omega) (by omega) hdl none
              have g := h.kept f2
              have c2 := g.ct hi
              refine ⟨m2, ?_, f2⟩
              simp only [decide_eq_false hab, Bool.not_false, Bool.and_true, Bool.true_eq_false, if_false, Bool.true_and, if_true, chk_t h.kx, h.sc, e2, chk_t, ck_sI, ck_sR, ck_sJ, cal_s, bnd_e, ifn_s, ifn_n, chk_t g.kx, g.sc, c_body g.S (show j < 12 by omega), c_body g.S (show k < 12 by omega), chk_t g.S.th, g_X5_wallsBetween_0, f_X5_wallsBetween, q2.1, chk_t c2.K, c2.R5, c_walls c2 V g.S.th q2.2.2.1 (q2.2.2.2.2.2.2.2 j hj) (q2.2.2.2.2.2.2.2 k hk) (bdy_v V hj d) (bdy_v V hk d), j_bitCount, bc_mks (show (W.tn i).2.1 1 ≤ 12 by omega), cl_nI (show j < 2 ^ 31 by omega), cl_nI (show k < 2 ^ 31 by omega), cl_nI (show d < 2 ^ 31 by omega)]
  · have hnt := h.nt
    have g := h.code
    simp only [f_X10_between, g_X10_between_0, chk_t h.M.1, bnd_e]
    have fc := fq_code x m
    generalize m.sI 1100 (x + 106) 0 0 = m1 at g fc ⊢
    cases hp : isN W.nt p with
    | false => exact ⟨m1, by simp only [r_isThing0 g hp, chk_t, ck_sI, ck_sR, ck_sJ, cal_s, bnd_e, ifn_s, ifn_n, if_true, Bool.false_and, Bool.false_eq_true, if_false], fc⟩
    | true =>
      obtain ⟨i, hi, e⟩ := (isN_iff (by omega)).mp hp
      subst e
      have hn := (g.nn hi).1
      have V := g.V.1 i hi
      simp only [r_isThing g hi, chk_t, ck_sI, ck_sR, ck_sJ, cal_s, bnd_e, ifn_s, ifn_n, bI_0, cl_nI (show i < 2 ^ 31 by omega), Bool.true_and, r_isDay]
      cases ha : isN ((W.tn i).2.1 0) a with
      | false => exact ⟨m1, by simp, fc⟩
      | true =>
        cases hb : isN ((W.tn i).2.1 0) b with
        | false => exact ⟨m1, by simp [chk_t g.M.1], fc⟩
        | true =>
          by_cases hab : a = b
          · exact ⟨m1, by simp [hab, chk_t g.M.1], fc⟩
          · cases hd : isN 1000 d with
            | false => exact ⟨m1, by simp [hab, chk_t g.M.1], fc⟩
            | true =>
              obtain ⟨j, hj, e⟩ := (isN_iff (by omega)).mp ha
              subst e
              obtain ⟨k, hk, e⟩ := (isN_iff (by omega)).mp hb
              subst e
              obtain ⟨d, hdl, e⟩ := (isN_iff (by decide)).mp hd
              subst e
              obtain ⟨m2, e2, f2, q2⟩ := r_bring (d := d) g.M (show i < 3 by omega) (g.rt hi) V (g.nn hi)
              have g2 := g.kept f2
              refine ⟨m2, ?_, fc.tr f2⟩
              have sh := r_wallsBetween g2.M q2.1 (show i < 3 by omega) (g2.rt hi) V (g2.nn hi) q2.2.1 q2.2.2.1 (fun k _ h => by rw [bt_0] at h; exact absurd h (by decide)) (show j < 15 by omega) (show k < 15 by omega) (q2.2.2.2.2.2.2 j hj) (q2.2.2.2.2.2.2 k hk) (bdy_v V hj d) (bdy_v V hk d)
              rw [rwB_0 (g.nn hi)] at sh
              simp only [Bool.true_eq_false, if_false, Bool.true_and, if_true, if_neg hab, decide_eq_false hab, Bool.not_false, chk_t g.M.1, e2, chk_t, ck_sI, ck_sR, ck_sJ, cal_s, bnd_e, ifn_s, ifn_n, chk_t g2.M.1, sh, cl_nI (show j < 2 ^ 31 by omega), cl_nI (show k < 2 ^ 31 by omega), cl_nI (show d < 2 ^ 31 by omega)]
