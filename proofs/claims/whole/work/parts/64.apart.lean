/-! apart, grown, smells -/
theorem bdy_e {T : TW} (V : VT T) {i : Nat} (hi : i < T.2.1 0) (d : Nat) : T.2.2 0 i 0 = nI (bdy T d i).k ∧ T.2.2 0 i 1 = nI (bdy T d i).x ∧ T.2.2 0 i 2 = nI (bdy T d i).y ∧ T.2.2 0 i 4 = nI (snc T i) ∧ snc T i < 1000 := by
  obtain ⟨v0, v1, v2, _, v4, _⟩ := V.2.2.2.2.2.2.1 i hi
  exact ⟨(nB_e v0 (by omega)).1, (nB_e v1 (by omega)).1, (nB_e v2 (by omega)).1, (nB_e v4 (by omega)).1, (nB_e v4 (by omega)).2⟩
theorem m_apart (x : Nat) (p a b : Int32) : Mq x (f_X9_apart x p a b) (f_X10_apart (x + 106) p a b) := by
  refine Mq_q (fun W => if isN W.nt p && (isN ((W.tn p.toNatClampNeg).2.1 0) a && isN ((W.tn p.toNatClampNeg).2.1 0) b) then zI (dsq (bdy (W.tn p.toNatClampNeg) 0 a.toNatClampNeg) (bdy (W.tn p.toNatClampNeg) 0 b.toNatClampNeg)) else -1) (fun m W D h => ⟨m, ?_, Fq.rf x m⟩) (fun m W D h => ?_)
  · have hnt := h.nt
    simp only [f_X9_apart, g_X9_apart_0, chk_t h.kx, h.now]
    cases hp : isN W.nt p with
    | false => simp only [c_townAt0 h.T hp, chk_t, ck_sI, ck_sR, ck_sJ, cal_s, bnd_e, ifn_s, ifn_n, Bool.false_and, Bool.false_eq_true, if_false]
    | true =>
      obtain ⟨i, hi, e⟩ := (isN_iff (by omega)).mp hp
      subst e
      have c := h.ct hi
      have hn := (h.nn hi).1
      have V := h.V.1 i hi
      simp only [c_townAt h.T hi, chk_t, ck_sI, ck_sR, ck_sJ, cal_s, bnd_e, ifn_s, ifn_n, chk_t c.K, c.k0, c_hasThing c, hasTh_isN, bI_0, cl_nI (show i < 2 ^ 31 by omega), Bool.true_and]
      cases ha : isN ((W.tn i).2.1 0) a with
      | false => simp
      | true =>
        cases hb : isN ((W.tn i).2.1 0) b with
        | false => simp
        | true =>
          obtain ⟨j, hj, e⟩ := (isN_iff (by omega)).mp ha
          subst e
          obtain ⟨k, hk, e⟩ := (isN_iff (by omega)).mp hb
          subst e
          simp only [Bool.true_eq_false, if_false, Bool.true_and, cl_nI (show j < 2 ^ 31 by omega), cl_nI (show k < 2 ^ 31 by omega), c.cell0_1 hk, c.cell0_1 hj, c.cell0_2 hk, c.cell0_2 hj, chk_t, ck_sI, ck_sR, ck_sJ, cal_s, bnd_e, ifn_s, ifn_n, chk_t c.K, c.k0, if_true, (bdy_e V hk 0).2.1, (bdy_e V hj 0).2.1, (bdy_e V hk 0).2.2.1, (bdy_e V hj 0).2.2.1]
          simp only [dsq, zz, zI_sub, zI_mul, zI_add]
  · have hnt := h.nt
    have g := h.code
    simp only [f_X10_apart, g_X10_apart_0, chk_t h.M.1, bnd_e]
    have fc := fq_code x m
    generalize m.sI 1100 (x + 106) 0 0 = m1 at g fc ⊢
    cases hp : isN W.nt p with
    | false => exact ⟨m1, by simp only [r_isThing0 g hp, chk_t, ck_sI, ck_sR, ck_sJ, cal_s, bnd_e, ifn_s, ifn_n, if_true, Bool.false_and, Bool.false_eq_true, if_false], fc⟩
    | true =>
      obtain ⟨i, hi, e⟩ := (isN_iff (by omega)).mp hp
      subst e
      have hn := (g.nn hi).1
      simp only [r_isThing g hi, chk_t, ck_sI, ck_sR, ck_sJ, cal_s, bnd_e, ifn_s, ifn_n, bI_0, cl_nI (show i < 2 ^ 31 by omega), Bool.true_and]
      cases ha : isN ((W.tn i).2.1 0) a with
      | false => exact ⟨m1, by simp, fc⟩
      | true =>
        cases hb : isN ((W.tn i).2.1 0) b with
        | false => exact ⟨m1, by simp [chk_t g.M.1], fc⟩
        | true =>
          obtain ⟨j, hj, e⟩ := (isN_iff (by omega)).mp ha
          subst e
          obtain ⟨k, hk, e⟩ := (isN_iff (by omega)).mp hb
          subst e
          obtain ⟨m2, e2, f2, q2⟩ := r_bring (d := 0) g.M (show i < 3 by omega) (g.rt hi) (g.V.1 i hi) (g.nn hi)
          have g2 := g.kept f2
          refine ⟨m2, ?_, fc.tr f2⟩
          have e2' : f_X10_bring (x + 106) (nI i) 0 m1 = some ((), m2) := e2
          simp only [Bool.true_eq_false, if_false, Bool.true_and, if_true, chk_t g.M.1, e2', chk_t, ck_sI, ck_sR, ck_sJ, cal_s, bnd_e, ifn_s, ifn_n, chk_t g2.M.1, r_apartBy g2.M (show j < 15 by omega) (show k < 15 by omega) (q2.2.2.2.2.2.2 j hj) (q2.2.2.2.2.2.2 k hk), cl_nI (show j < 2 ^ 31 by omega), cl_nI (show k < 2 ^ 31 by omega)]
theorem m_grown (x : Nat) (p a d : Int32) : Mq x (f_X9_grown x p a d) (f_X10_grown (x + 106) p a d) := by
  refine Mq_q (fun W => if isN W.nt p && (isN ((W.tn p.toNatClampNeg).2.1 0) a && isN 1000 d) then nI (bdy (W.tn p.toNatClampNeg) d.toNatClampNeg a.toNatClampNeg).g else -1) (fun m W D h => ⟨m, ?_, Fq.rf x m⟩) (fun m W D h => ?_)
  · have hnt := h.nt
    simp only [f_X9_grown, g_X9_grown_0, chk_t h.kx, h.now]
    cases hp : isN W.nt p with
    | false => simp only [c_townAt0 h.T hp, chk_t, ck_sI, ck_sR, ck_sJ, cal_s, bnd_e, ifn_s, ifn_n, Bool.false_and, Bool.false_eq_true, if_false]
    | true =>
      obtain ⟨i, hi, e⟩ := (isN_iff (by omega)).mp hp
      subst e
      have c := h.ct hi
      have hn := (h.nn hi).1
      have V := h.V.1 i hi
      simp only [c_townAt h.T hi, chk_t, ck_sI, ck_sR, ck_sJ, cal_s, bnd_e, ifn_s, ifn_n, chk_t c.K, c.k0, c_hasThing c, hasTh_isN, bI_0, cl_nI (show i < 2 ^ 31 by omega), Bool.true_and, c_isDay]
      cases ha : isN ((W.tn i).2.1 0) a with
      | false => simp
      | true =>
        cases hb : isN 1000 d with
        | false => simp
        | true =>
          obtain ⟨j, hj, e⟩ := (isN_iff (by omega)).mp ha
          subst e
          obtain ⟨k, hk, e⟩ := (isN_iff (by omega)).mp hb
          subst e
          have q := bdy_e V hj k
          have v := bdy_v V hj k
          simp only [Bool.true_eq_false, if_false, Bool.true_and, cl_nI (show j < 2 ^ 31 by omega), cl_nI (show k < 2 ^ 31 by omega), c_growth c V hj v.1 q.1 q.2.2.2.1 q.2.2.2.2 (show k < 1001 by omega), chk_t, ck_sI, ck_sR, ck_sJ, cal_s, bnd_e, ifn_s, ifn_n, if_true]
          rfl
  · have hnt := h.nt
    have g := h.code
    simp only [f_X10_grown, g_X10_grown_0, chk_t h.M.1, bnd_e]
    have fc := fq_code x m
    generalize m.sI 1100 (x + 106) 0 0 = m1 at g fc ⊢
    cases hp : isN W.nt p with
    | false => exact ⟨m1, by simp only [r_isThing0 g hp, chk_t, ck_sI, ck_sR, ck_sJ, cal_s, bnd_e, ifn_s, ifn_n, if_true, Bool.false_and, Bool.false_eq_true, if_false], fc⟩
    | true =>
      obtain ⟨i, hi, e⟩ := (isN_iff (by omega)).mp hp
      subst e
      have hn := (g.nn hi).1
      have V := g.V.1 i hi
      simp only [r_isThing g hi, chk_t, ck_sI, ck_sR, ck_sJ, cal_s, bnd_e, ifn_s, ifn_n, bI_0, cl_nI (show i < 2 ^ 31 by omega), Bool.true_and, r_isDay]
      cases ha : isN ((W.tn i).2.1 0) a with
      | false => exact ⟨m1, by simp, fc⟩
      | true =>
        cases hb : isN 1000 d with
        | false => exact ⟨m1, by simp, fc⟩
        | true =>
          obtain ⟨j, hj, e⟩ := (isN_iff (by omega)).mp ha
          subst e
          obtain ⟨k, hk, e⟩ := (isN_iff (by omega)).mp hb
          subst e
          obtain ⟨m2, e2, f2, q2⟩ := r_bring (d := k) g.M (show i < 3 by omega) (g.rt hi) V (g.nn hi)
          have g2 := g.kept f2
          refine ⟨m2, ?_, fc.tr f2⟩
          have q := bdy_e V hj k
          have v := bdy_v V hj k
          simp only [Bool.true_eq_false, if_false, Bool.true_and, if_true, chk_t g.M.1, e2, chk_t, ck_sI, ck_sR, ck_sJ, cal_s, bnd_e, ifn_s, ifn_n, chk_t g2.M.1, r_grownBy g2.M q2.1 (show i < 3 by omega) (g2.rt hi) V q2.2.1 (show k < 1000 by omega) (show j < 15 by omega) (q2.2.2.2.2.2.2 j hj) v q.2.2.2.2, cl_nI (show j < 2 ^ 31 by omega), cl_nI (show k < 2 ^ 31 by omega)]
          rfl
theorem all_h : ∀ h, h < 8 → bt 255 h = true := by decide
theorem m_smells (x : Nat) (p a b : Int32) : Mq x (f_X9_smells x p a b) (f_X10_smells (x + 106) p a b) := by
  refine Mq_q (fun W => if isN W.nt p && (isN ((W.tn p.toNatClampNeg).2.1 0) a && isN ((W.tn p.toNatClampNeg).2.1 0) b && !decide (a = b)) then nI (cntB (fun h => true && wdB (W.tn p.toNatClampNeg) h (((bdy (W.tn p.toNatClampNeg) 0 b.toNatClampNeg).x : Int) - (bdy (W.tn p.toNatClampNeg) 0 a.toNatClampNeg).x) (((bdy (W.tn p.toNatClampNeg) 0 b.toNatClampNeg).y : Int) - (bdy (W.tn p.toNatClampNeg) 0 a.toNatClampNeg).y)) 8) else -1) (fun m W D h => ⟨m, ?_, Fq.rf x m⟩) (fun m W D h => ?_)
  · have hnt := h.nt
    simp only [f_X9_smells, g_X9_smells_0, chk_t h.kx, h.now]
    cases hp : isN W.nt p with
    | false => simp only [c_townAt0 h.T hp, chk_t, ck_sI, ck_sR, ck_sJ, cal_s, bnd_e, ifn_s, ifn_n, Bool.false_and, Bool.false_eq_true, if_false]
    | true =>
      obtain ⟨i, hi, e⟩ := (isN_iff (by omega)).mp hp
      subst e
      have c := h.ct hi
      have hn := (h.nn hi).1
      have V := h.V.1 i hi
      simp only [c_townAt h.T hi, chk_t, ck_sI, ck_sR, ck_sJ, cal_s, bnd_e, ifn_s, ifn_n, chk_t c.K, c.k0, c_hasTwo c, hasTh_isN, bI_0, cl_nI (show i < 2 ^ 31 by omega), Bool.true_and]
      cases ha : isN ((W.tn i).2.1 0) a with
      | false => simp
      | true =>
        cases hb : isN ((W.tn i).2.1 0) b with
        | false => simp
        | true =>
          by_cases hab : a = b
          · simp [hab]
          · obtain ⟨j, hj, e⟩ := (isN_iff (by omega)).mp ha
            subst e
            obtain ⟨k, hk, e⟩ := (isN_iff (by omega)).mp hb
            subst e
            have vj := bdy_v V hj 0
            have vk := bdy_v V hk 0
            have hx : s7 (((bdy (W.tn i) 0 k).x : Int) - (bdy (W.tn i) 0 j).x) := by have := vj.2.1; have := vk.2.1; unfold s7; omega
            have hy : s7 (((bdy (W.tn i) 0 k).y : Int) - (bdy (W.tn i) 0 j).y) := by have := vj.2.2.1; have := vk.2.2.1; unfold s7; omega
            simp only [decide_eq_false hab, Bool.not_false, Bool.and_true, Bool.true_eq_false, if_false, Bool.true_and, cl_nI (show j < 2 ^ 31 by omega), cl_nI (show k < 2 ^ 31 by omega), c.cell0_1 hk, c.cell0_1 hj, c.cell0_2 hk, c.cell0_2 hj, chk_t, ck_sI, ck_sR, ck_sJ, cal_s, bnd_e, ifn_s, ifn_n, chk_t c.K, c.k0, if_true, (bdy_e V hk 0).2.1, (bdy_e V hj 0).2.1, (bdy_e V hk 0).2.2.1, (bdy_e V hj 0).2.2.1]
            rw [zz (bdy (W.tn i) 0 k).x, zz (bdy (W.tn i) 0 j).x, zz (bdy (W.tn i) 0 k).y, zz (bdy (W.tn i) 0 j).y, zI_sub, zI_sub, c_hoursDownwind c V 255 hx hy]
            simp only [chk_t, ck_sI, ck_sR, ck_sJ, cal_s, bnd_e, ifn_s, ifn_n]
            rw [cntB_congr 8 (fun h hh => by rw [all_h h hh])]
            simp only [Bool.true_and]
  · have hnt := h.nt
    have g := h.code
    simp only [f_X10_smells, g_X10_smells_0, chk_t h.M.1, bnd_e]
    have fc := fq_code x m
    generalize m.sI 1100 (x + 106) 0 0 = m1 at g fc ⊢
    cases hp : isN W.nt p with
    | false => exact ⟨m1, by simp only [r_isThing0 g hp, chk_t, ck_sI, ck_sR, ck_sJ, cal_s, bnd_e, ifn_s, ifn_n, if_true, Bool.false_and, Bool.false_eq_true, if_false], fc⟩
    | true =>
      obtain ⟨i, hi, e⟩ := (isN_iff (by omega)).mp hp
      subst e
      have hn := (g.nn hi).1
      have V := g.V.1 i hi
      simp only [r_isThing g hi, chk_t, ck_sI, ck_sR, ck_sJ, cal_s, bnd_e, ifn_s, ifn_n, bI_0, cl_nI (show i < 2 ^ 31 by omega), Bool.true_and]
      cases ha : isN ((W.tn i).2.1 0) a with
      | false => exact ⟨m1, by simp, fc⟩
      | true =>
        cases hb : isN ((W.tn i).2.1 0) b with
        | false => exact ⟨m1, by simp [chk_t g.M.1], fc⟩
        | true =>
          by_cases hab : a = b
          · exact ⟨m1, by simp [hab, chk_t g.M.1], fc⟩
          · obtain ⟨j, hj, e⟩ := (isN_iff (by omega)).mp ha
            subst e
            obtain ⟨k, hk, e⟩ := (isN_iff (by omega)).mp hb
            subst e
            obtain ⟨m2, e2, f2, q2⟩ := r_bring (d := 0) g.M (show i < 3 by omega) (g.rt hi) V (g.nn hi)
            have g2 := g.kept f2
            refine ⟨m2, ?_, fc.tr f2⟩
            have e2' : f_X10_bring (x + 106) (nI i) 0 m1 = some ((), m2) := e2
            have sh := r_smellHours g2.M q2.1 (show i < 3 by omega) (g2.rt hi) V (show j < 15 by omega) (show k < 15 by omega) ((q2.2.2.2.2.2.2 j hj).p (bdy_v V hj 0)) ((q2.2.2.2.2.2.2 k hk).p (bdy_v V hk 0))
            have oh : ∀ h, ohB (m2.I 1169 (x + 106) 0) h = true := fun h => by rw [q2.2.2.2.1]; rfl
            simp only [oh] at sh
            simp only [Bool.true_eq_false, if_false, Bool.true_and, if_true, if_neg hab, decide_eq_false hab, Bool.not_false, chk_t g.M.1, e2', chk_t, ck_sI, ck_sR, ck_sJ, cal_s, bnd_e, ifn_s, ifn_n, chk_t g2.M.1, sh, cl_nI (show j < 2 ^ 31 by omega), cl_nI (show k < 2 ^ 31 by omega)]
