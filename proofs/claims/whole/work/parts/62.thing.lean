theorem hasTh_isN (T : TW) (p : Int32) : hasTh T p = isN (T.2.1 0) p := rfl
theorem r_isThing {m : MM} {x : Nat} {W : WD} {D : Nat → Option (Nat × WD)} (g : Inv m x W D) {i : Nat} (hi : i < W.nt) (q : Int32) : f_X10_isThing (x + 106) (nI i) q m = some (bI (isN ((W.tn i).2.1 0) q), m) := by
  have hnt := g.nt
  have hn := (g.nn hi).1
  have o2 : f_X10_of (x + 106) (nI i) 2 m = some (nI ((W.tn i).2.1 0), m) := by rw [← (g.rt hi).1.2.2.1]; exact r_of g.M (w := 2) (by omega) (by omega)
  simp only [g_X10_isThing_28, g_X10_isThing_0, f_X10_isThing, chk_t g.M.1, r_isTown g.M g.R hnt, isN_nI (show W.nt < 2 ^ 31 by omega) hi, chk_t, ck_sI, ck_sR, ck_sJ, cal_s, bnd_e, ifn_s, ifn_n, o2, r_in, inR_isN (show (W.tn i).2.1 0 < 2 ^ 30 by omega), bI_0, Bool.true_eq_false, if_false]
  cases isN ((W.tn i).2.1 0) q <;> rfl
theorem r_isThing0 {m : MM} {x : Nat} {W : WD} {D : Nat → Option (Nat × WD)} (g : Inv m x W D) {p : Int32} (hp : isN W.nt p = false) (q : Int32) : f_X10_isThing (x + 106) p q m = some (0, m) := by
  simp only [g_X10_isThing_28, g_X10_isThing_0, f_X10_isThing, chk_t g.M.1, r_isTown g.M g.R g.nt, hp, chk_t, ck_sI, ck_sR, ck_sJ, cal_s, bnd_e, ifn_s, ifn_n, bI_0, if_true]
theorem m_thing (x : Nat) (p q w : Int32) : Mq x (f_X9_thing x p q w) (f_X10_thing (x + 106) p q w) := by
  refine Mq_q (fun W => if isN W.nt p && isN ((W.tn p.toNatClampNeg).2.1 0) q && isN 8 w then (W.tn p.toNatClampNeg).2.2 0 q.toNatClampNeg w.toNatClampNeg else -10000) (fun m W D h => ⟨m, ?_, Fq.rf x m⟩) (fun m W D h => ⟨_, ?_, fq_code x m⟩)
  · have hnt := h.nt
    simp only [f_X9_thing, g_X9_thing_0, chk_t h.kx, h.now]
    cases hp : isN W.nt p with
    | false => simp only [c_townAt0 h.T hp, chk_t, ck_sI, ck_sR, ck_sJ, cal_s, bnd_e, ifn_s, ifn_n, Bool.false_and, Bool.false_eq_true, if_false]
    | true =>
      obtain ⟨i, hi, e⟩ := (isN_iff (by omega)).mp hp
      subst e
      have c := h.ct hi
      have hn := (h.nn hi).1
      simp only [c_townAt h.T hi, chk_t, ck_sI, ck_sR, ck_sJ, cal_s, bnd_e, ifn_s, ifn_n, chk_t c.K, c.k0, c_hasThing c, hasTh_isN, bI_0, cl_nI (show i < 2 ^ 31 by omega), Bool.true_and]
      cases hq : isN ((W.tn i).2.1 0) q with
      | false => simp
      | true =>
        obtain ⟨j, hj, e⟩ := (isN_iff (by omega)).mp hq
        subst e
        simp only [Bool.true_eq_false, if_false, Bool.true_and, cl_nI (show j < 2 ^ 31 by omega)]
        cases hw : isN 8 w with
        | true =>
          obtain ⟨k, hk, e⟩ := (isN_iff (by decide)).mp hw
          subst e
          have k1 : ¬ nI k < 0 := nI_pos (by omega)
          have k2 : nI k < (8 : Int32) := nI_lt (b := 8) hk (by decide)
          simp only [if_neg k1, if_pos k2, c.cell0 hj hk, chk_t, ck_sI, ck_sR, ck_sJ, cal_s, bnd_e, ifn_s, ifn_n, if_true, cl_nI (show k < 2 ^ 31 by omega)]
        | false =>
          rcases isN_f hw with k1 | k1
          · simp only [if_pos k1, Bool.false_eq_true, if_false]
          · have k2 : ¬ w < (8 : Int32) := Int32.not_lt.mpr k1
            simp only [if_neg k2, ite_self, Bool.false_eq_true, if_false]
  · have hnt := h.nt
    have g := h.code
    simp only [f_X10_thing, g_X10_thing_0, chk_t h.M.1, chk_t, ck_sI, ck_sR, ck_sJ, cal_s, bnd_e, ifn_s, ifn_n]
    generalize m.sI 1100 (x + 106) 0 0 = m1 at g ⊢
    cases hp : isN W.nt p with
    | false => simp only [r_isThing0 g hp, chk_t, ck_sI, ck_sR, ck_sJ, cal_s, bnd_e, ifn_s, ifn_n, if_true, Bool.false_and, Bool.false_eq_true, if_false]
    | true =>
      obtain ⟨i, hi, e⟩ := (isN_iff (by omega)).mp hp
      subst e
      have hn := (g.nn hi).1
      simp only [r_isThing g hi, chk_t, ck_sI, ck_sR, ck_sJ, cal_s, bnd_e, ifn_s, ifn_n, bI_0, cl_nI (show i < 2 ^ 31 by omega), Bool.true_and]
      cases hq : isN ((W.tn i).2.1 0) q with
      | false => simp
      | true =>
        obtain ⟨j, hj, e⟩ := (isN_iff (by omega)).mp hq
        subst e
        have e12 : (12 : Int32) * nI i + nI j = nI (12 * i + j) := by
          show nI 12 * nI i + nI j = _
          rw [pk_mul, nI_add]
        have hk : 12 * i + j < 144 := by omega
        have R := (g.rt hi).2.1 j hj
        simp only [Bool.true_eq_false, if_false, Bool.true_and, cl_nI (show j < 2 ^ 31 by omega), e12, chk_t g.M.1, g.M.c1107, g.M.c1108, g.M.c1109, g.M.c1110, g.M.c1111, g.M.c1112, g.M.c1113, g.M.c1114, g.M.n1107, g.M.n1108, g.M.n1109, g.M.n1110, g.M.n1111, g.M.n1112, g.M.n1113, g.M.n1114, chk_t (inb_nI hk (by decide)), cl_nI (show 12 * i + j < 2 ^ 31 by omega), show m1.I 22 (x + 106 + 7) (12 * i + j) = _ from R 0 (by omega), show m1.I 22 (x + 106 + 8) (12 * i + j) = _ from R 1 (by omega), show m1.I 22 (x + 106 + 9) (12 * i + j) = _ from R 2 (by omega), show m1.I 22 (x + 106 + 10) (12 * i + j) = _ from R 3 (by omega), show m1.I 22 (x + 106 + 11) (12 * i + j) = _ from R 4 (by omega), show m1.I 22 (x + 106 + 12) (12 * i + j) = _ from R 5 (by omega), show m1.I 22 (x + 106 + 13) (12 * i + j) = _ from R 6 (by omega), show m1.I 22 (x + 106 + 14) (12 * i + j) = _ from R 7 (by omega)]
        cases hw : isN 8 w with
        | true =>
          obtain ⟨k, hk, e⟩ := (isN_iff (by decide)).mp hw
          subst e
          rw [if_pos rfl, cl_nI (by omega)]
          have : k = 0 ∨ k = 1 ∨ k = 2 ∨ k = 3 ∨ k = 4 ∨ k = 5 ∨ k = 6 ∨ k = 7 := by omega
          rcases this with q | q | q | q | q | q | q | q <;> subst q <;> rfl
        | false =>
          have hx : ∀ n, n < 8 → ¬ w = nI n := fun n hn q => by rw [q, isN_nI (by decide) hn] at hw; exact absurd hw (by decide)
          rw [if_neg (show ¬ w = 0 from hx 0 (by omega)), if_neg (show ¬ w = 1 from hx 1 (by omega)), if_neg (show ¬ w = 2 from hx 2 (by omega)), if_neg (show ¬ w = 3 from hx 3 (by omega)), if_neg (show ¬ w = 4 from hx 4 (by omega)), if_neg (show ¬ w = 5 from hx 5 (by omega)), if_neg (show ¬ w = 6 from hx 6 (by omega)), if_neg (show ¬ w = 7 from hx 7 (by omega)), if_neg (by decide)]
