/-! first -/
def fiP (T : TW) (B : LW) (a b d : Nat) : Bool := foe T B d 0 (bt 255) (clL T d) a b
def fiV (T : TW) (B : LW) (a b : Nat) : Int32 := fnd (fiP T B a b) (fun d => nI d) (-1) 1000 0
theorem foe_r {T : TW} {B : LW} {d a b : Nat} (N : NT T) (hab : a ≠ b) : foe T B d 0 (bt 255) (clL T d) a b = ((sB T d a && sB T d b) && clB T B 0 (ohB (-1)) (rfL T d 0) (-1) (bdy T d a) (bdy T d b)) := by
  unfold foe
  rw [decide_eq_false hab, Bool.not_false, Bool.true_and, clB_congr (H := bt 255) (H' := ohB (-1)) (L := clL T d) (L' := rfL T d 0) (fun h hh => by rw [ohB_m, bt_255 h hh]) (rfL_0 N d _ _).symm (rfL_0 N d _ _).symm]
theorem m_first (x : Nat) (p q a b : Int32) : Mq x (f_X9_first x p q a b) (f_X10_first (x + 106) p q a b) := by
  refine Mq_q (fun W => cond (isN W.nt p && isN W.nl q && (isN ((W.tn p.toNatClampNeg).2.1 0) a && isN ((W.tn p.toNatClampNeg).2.1 0) b && !decide (a = b))) (fiV (W.tn p.toNatClampNeg) (W.lw q.toNatClampNeg) a.toNatClampNeg b.toNatClampNeg) (-1)) (fun m W D h => ?_) (fun m W D h => ?_)
  · have hnt := h.nt
    have hnl := h.nl
    cases hp : isN W.nt p with
    | false =>
      refine ⟨m, ?_, Fq.rf x m⟩
      simp only [hp, Bool.false_and, cond_false]
      cases hq : isN W.nl q with
      | false => simp only [f_X9_first, g_X9_first_0, chk_t h.kx, h.now, c_townAt0 h.T hp, c_lawAt0 h.T hq, chk_t, ck_sI, ck_sR, ck_sJ, cal_s, bnd_e, ifn_s, ifn_n]
      | true =>
        obtain ⟨j, hj, e⟩ := (isN_iff (by omega)).mp hq
        subst e
        simp only [f_X9_first, g_X9_first_0, chk_t h.kx, h.now, c_townAt0 h.T hp, c_lawAt h.T hj, chk_t, ck_sI, ck_sR, ck_sJ, cal_s, bnd_e, ifn_s, ifn_n]
    | true =>
    obtain ⟨i, hi, e⟩ := (isN_iff (by omega)).mp hp
    subst e
    cases hq : isN W.nl q with
    | false =>
      refine ⟨m, ?_, Fq.rf x m⟩
      simp only [hp, hq, Bool.and_false, Bool.false_and, cond_false, f_X9_first, g_X9_first_0, chk_t h.kx, h.now, c_townAt h.T hi, c_lawAt0 h.T hq, chk_t, ck_sI, ck_sR, ck_sJ, cal_s, bnd_e, ifn_s, ifn_n]
    | true =>
    obtain ⟨j, hj, e⟩ := (isN_iff (by omega)).mp hq
    subst e
    have c := h.ct hi
    have hn := (h.nn hi).1
    have V := h.V.1 i hi
    simp only [hp, hq, Bool.and_true, Bool.true_and, cl_nI (show i < 2 ^ 31 by omega), cl_nI (show j < 2 ^ 31 by omega), f_X9_first, g_X9_first_0, chk_t h.kx, h.now, c_townAt h.T hi, c_lawAt h.T hj, chk_t, ck_sI, ck_sR, ck_sJ, cal_s, bnd_e, ifn_s, ifn_n, chk_t c.K, c_hasTwo c, hasTh_isN, bI_0]
    cases hab : (isN ((W.tn i).2.1 0) a && isN ((W.tn i).2.1 0) b && !decide (a = b)) with
    | false => exact ⟨m, by simp only [if_true, cond_false], Fq.rf x m⟩
    | true =>
    simp only [Bool.true_eq_false, if_false, cond_true]
    rw [Bool.and_eq_true, Bool.and_eq_true, Bool.not_eq_true', decide_eq_false_iff_not] at hab
    obtain ⟨⟨ha, hb⟩, hne⟩ := hab
    obtain ⟨a, ha, e⟩ := (isN_iff (by omega)).mp ha
    subst e
    obtain ⟨b, hb, e⟩ := (isN_iff (by omega)).mp hb
    subst e
    rw [cl_nI (show a < 2 ^ 31 by omega), cl_nI (show b < 2 ^ 31 by omega)]
    obtain ⟨r, ⟨m', er, fr⟩, hr⟩ := lp_ex (fun n d (s : MM) => l_X9_first_46 x (nI i) (nI j) (nI a) (nI b) n (some (x + 1 + 4 + 18 * i)) (some (x + 1 + 19 + 18 * j)) d s) (fun d s => fnd (fiP (W.tn i) (W.lw j) a b) (fun d => nI d) (-1) (1000 - d) d = fiV (W.tn i) (W.lw j) a b ∧ (0 < d → fiP (W.tn i) (W.lw j) a b (d - 1) = false) ∧ Fq x m s) (fun r => ∃ m', r = some (fiV (W.tn i) (W.lw j) a b, m') ∧ Fq x m m') 1000 0 (by omega) (fun d _ hd s hI => by
      obtain ⟨a1, a3, a4⟩ := hI
      have g := h.kept a4
      have z1 : ¬ (999 : Int32) < nI d := fun q => by have := (nI_ltI (a := 999) (by decide) (by omega)).mp q; omega
      have op : ∃ m2, Fq x m m2 ∧ ∀ n, g_X9_first_72 x (nI i) (nI j) (nI a) (nI b) (l_X9_first_46 x (nI i) (nI j) (nI a) (nI b) n) (some (x + 1 + 4 + 18 * i)) (some (x + 1 + 19 + 18 * j)) (nI d) s = if fiP (W.tn i) (W.lw j) a b d = false then l_X9_first_46 x (nI i) (nI j) (nI a) (nI b) n (some (x + 1 + 4 + 18 * i)) (some (x + 1 + 19 + 18 * j)) (nI (d + 1)) m2 else some (nI d, m2) := by
        obtain ⟨m1, e1, f1, q1⟩ := c_open g.S (g.ct hi) V (by omega) (by omega) hd (some (x + 1 + 19 + 18 * j))
        have g1 := g.kept f1
        have C : CS m1 x (x + 1 + 4 + 18 * i) (x + 1 + 19 + 18 * j) (W.tn i) (W.lw j) d 0 255 (-1) := ⟨g1.S, ⟨g1.S.th, q1.1, q1.2.1, g1.ct hi, g1.cl hj, q1.2.2.1, q1.2.2.2.1, q1.2.2.2.2.1, q1.2.2.2.2.2.1⟩, V, h.V.2 j hj, by omega, q1.2.2.2.2.2.2.1, q1.2.2.2.2.2.2.2, by omega, by omega⟩
        have cf := c_foes C (show a < 12 by omega) (show b < 12 by omega)
        refine ⟨m1, a4.tr f1, fun n => ?_⟩
        simp only [g_X9_first_72, g_X9_first_101, chk_t g.kx, g.sc, e1, chk_t, ck_sI, ck_sR, ck_sJ, cal_s, bnd_e, ifn_s, ifn_n, chk_t g1.kx, g1.sc, show f_X5_foes (x + 81) (nI a) (nI b) m1 = some (bI (fiP (W.tn i) (W.lw j) a b d), m1) from cf, bI_0, nI_1]
      have fin : (∃ m2, Fq x m m2 ∧ ∀ n, l_X9_first_46 x (nI i) (nI j) (nI a) (nI b) (n + 1) (some (x + 1 + 4 + 18 * i)) (some (x + 1 + 19 + 18 * j)) (nI d) s = if fiP (W.tn i) (W.lw j) a b d = false then l_X9_first_46 x (nI i) (nI j) (nI a) (nI b) n (some (x + 1 + 4 + 18 * i)) (some (x + 1 + 19 + 18 * j)) (nI (d + 1)) m2 else some (nI d, m2)) → (∃ r, (∃ m', r = some (fiV (W.tn i) (W.lw j) a b, m') ∧ Fq x m m') ∧ ∀ n, l_X9_first_46 x (nI i) (nI j) (nI a) (nI b) (n + 1) (some (x + 1 + 4 + 18 * i)) (some (x + 1 + 19 + 18 * j)) (nI d) s = r) ∨ (∃ s' : MM, (fnd (fiP (W.tn i) (W.lw j) a b) (fun d => nI d) (-1) (1000 - (d + 1)) (d + 1) = fiV (W.tn i) (W.lw j) a b ∧ (0 < d + 1 → fiP (W.tn i) (W.lw j) a b (d + 1 - 1) = false) ∧ Fq x m s') ∧ ∀ n, l_X9_first_46 x (nI i) (nI j) (nI a) (nI b) (n + 1) (some (x + 1 + 4 + 18 * i)) (some (x + 1 + 19 + 18 * j)) (nI d) s = l_X9_first_46 x (nI i) (nI j) (nI a) (nI b) n (some (x + 1 + 4 + 18 * i)) (some (x + 1 + 19 + 18 * j)) (nI (d + 1)) s') := by
        rintro ⟨m2, f2, hst⟩
        cases hP : fiP (W.tn i) (W.lw j) a b d with
        | true =>
          refine .inl ⟨some (nI d, m2), ⟨m2, ?_, f2⟩, fun n => ?_⟩
          · rw [← a1, fnd_t hd hP]
          · rw [hst n, hP, if_neg (by decide)]
        | false =>
          refine .inr ⟨m2, ⟨?_, fun _ => hP, f2⟩, fun n => ?_⟩
          · rw [← a1, fnd_f hd hP]
          · rw [hst n, hP, if_pos rfl]
      by_cases hd0 : d = 0
      · obtain ⟨m2, f2, e2⟩ := op
        refine fin ⟨m2, f2, fun n => ?_⟩
        show g_X9_first_46 x (nI i) (nI j) (nI a) (nI b) (l_X9_first_46 x (nI i) (nI j) (nI a) (nI b) n) (some (x + 1 + 4 + 18 * i)) (some (x + 1 + 19 + 18 * j)) (nI d) s = _
        simp only [g_X9_first_46, if_neg z1, le0 (show d < 2 ^ 31 by omega), if_pos hd0, e2]
      · have cc := c_changesOn (g.ct hi) V hd (by omega)
        cases hch : chB (W.tn i) d with
        | true =>
          obtain ⟨m2, f2, e2⟩ := op
          refine fin ⟨m2, f2, fun n => ?_⟩
          show g_X9_first_46 x (nI i) (nI j) (nI a) (nI b) (l_X9_first_46 x (nI i) (nI j) (nI a) (nI b) n) (some (x + 1 + 4 + 18 * i)) (some (x + 1 + 19 + 18 * j)) (nI d) s = _
          simp only [g_X9_first_46, if_neg z1, le0 (show d < 2 ^ 31 by omega), if_neg hd0, ck_s (g.ct hi).K, cc, hch, chk_t, ck_sI, ck_sR, ck_sJ, cal_s, bnd_e, ifn_s, ifn_n, bI_0, Bool.true_eq_false, if_false, e2]
        | false =>
          have hP : fiP (W.tn i) (W.lw j) a b d = false := by rw [← a3 (by omega)]; exact nc_foe V hd (by omega) hch a b
          refine .inr ⟨s, ⟨?_, fun _ => hP, a4⟩, fun n => ?_⟩
          · rw [← a1, fnd_f hd hP]
          · show g_X9_first_46 x (nI i) (nI j) (nI a) (nI b) (l_X9_first_46 x (nI i) (nI j) (nI a) (nI b) n) (some (x + 1 + 4 + 18 * i)) (some (x + 1 + 19 + 18 * j)) (nI d) s = _
            simp only [g_X9_first_46, g_X9_first_101, if_neg z1, le0 (show d < 2 ^ 31 by omega), if_neg hd0, ck_s (g.ct hi).K, cc, hch, chk_t, ck_sI, ck_sR, ck_sJ, cal_s, bnd_e, ifn_s, ifn_n, bI_0, if_true, nI_1]) (fun s hI => by
      obtain ⟨a1, a3, a4⟩ := hI
      refine ⟨some (fiV (W.tn i) (W.lw j) a b, s), ⟨s, rfl, a4⟩, fun n => ?_⟩
      show g_X9_first_46 x (nI i) (nI j) (nI a) (nI b) (l_X9_first_46 x (nI i) (nI j) (nI a) (nI b) n) (some (x + 1 + 4 + 18 * i)) (some (x + 1 + 19 + 18 * j)) (nI 1000) s = _
      simp only [g_X9_first_46, if_pos (show (999 : Int32) < nI 1000 by decide)]
      rw [← a1]
      rfl) (s0 := m) ⟨rfl, fun q => absurd q (by omega), Fq.rf x m⟩
    refine ⟨m', ?_, fr⟩
    rw [← er]
    exact hr FU (by unfold FU; omega)
  · have hnt := h.nt
    have hnl := h.nl
    have g := h.code
    have fc := fq_code x m
    simp only [f_X10_first, g_X10_first_0, chk_t h.M.1, chk_t, ck_sI, ck_sR, ck_sJ, cal_s, bnd_e, ifn_s, ifn_n]
    generalize m.sI 1100 (x + 106) 0 0 = m1 at g fc ⊢
    cases hp : isN W.nt p with
    | false => exact ⟨m1, by simp only [r_isThing0 g hp, chk_t, ck_sI, ck_sR, ck_sJ, cal_s, bnd_e, ifn_s, ifn_n, if_true, Bool.false_and, cond_false], fc⟩
    | true =>
    obtain ⟨i, hi, e⟩ := (isN_iff (by omega)).mp hp
    subst e
    have hn := (h.nn hi).1
    simp only [r_isThing g hi, r_isLaw g.M g.R hnl, chk_t, ck_sI, ck_sR, ck_sJ, cal_s, bnd_e, ifn_s, ifn_n, bI_0, chk_t g.M.1, cl_nI (show i < 2 ^ 31 by omega), Bool.true_and]
    cases ha : isN ((W.tn i).2.1 0) a with
    | false => exact ⟨m1, by simp, fc⟩
    | true =>
    cases hb : isN ((W.tn i).2.1 0) b with
    | false => exact ⟨m1, by simp, fc⟩
    | true =>
    by_cases hne : a = b
    · exact ⟨m1, by simp [hne], fc⟩
    cases hq : isN W.nl q with
    | false => exact ⟨m1, by simp [hne], fc⟩
    | true =>
    obtain ⟨j, hj, e⟩ := (isN_iff (by omega)).mp hq
    subst e
    obtain ⟨a, hal, e⟩ := (isN_iff (by omega)).mp ha
    subst e
    obtain ⟨b, hbl, e⟩ := (isN_iff (by omega)).mp hb
    subst e
    have hne' : a ≠ b := fun q => hne (by rw [q])
    have hB := (h.cl hj).n.2.2
    have N := h.nn hi
    simp only [Bool.true_eq_false, if_false, if_neg hne, decide_eq_false hne, Bool.not_false, Bool.and_true, Bool.true_and, cond_true, cl_nI (show j < 2 ^ 31 by omega), cl_nI (show a < 2 ^ 31 by omega), cl_nI (show b < 2 ^ 31 by omega)]
    obtain ⟨r, ⟨m', er, fr⟩, hr⟩ := lp_ex (fun n d (s : MM) => l_X10_first_43 (x + 106) (nI i) (nI j) (nI a) (nI b) n d s) (fun d s => fnd (fiP (W.tn i) (W.lw j) a b) (fun d => nI d) (-1) (1000 - d) d = fiV (W.tn i) (W.lw j) a b ∧ Fq x m s) (fun r => ∃ m', r = some (fiV (W.tn i) (W.lw j) a b, m') ∧ Fq x m m') 1000 0 (by omega) (fun d _ hd s hI => by
      obtain ⟨a1, a4⟩ := hI
      have g := h.kept a4
      have z1 : ¬ (999 : Int32) < nI d := fun q => by have := (nI_ltI (a := 999) (by decide) (by omega)).mp q; omega
      obtain ⟨m2, e2, f2, R2⟩ := r_br g hi hj hd
      have bb := r_barsBoth R2.1 R2.2.1 N R2.2.2.2.1 hB hd (show 0 ≤ 12 by omega) (show a < 15 by omega) (show b < 15 by omega) hne' (R2.g hal) (R2.g hbl) (-1)
      have hP : fiP (W.tn i) (W.lw j) a b d = _ := foe_r N hne'
      have st : ∀ n, l_X10_first_43 (x + 106) (nI i) (nI j) (nI a) (nI b) (n + 1) (nI d) s = if fiP (W.tn i) (W.lw j) a b d = false then l_X10_first_43 (x + 106) (nI i) (nI j) (nI a) (nI b) n (nI (d + 1)) m2 else some (nI d, m2) := by
        intro n
        show g_X10_first_43 (x + 106) (nI i) (nI j) (nI a) (nI b) (l_X10_first_43 (x + 106) (nI i) (nI j) (nI a) (nI b) n) (nI d) s = _
        simp only [g_X10_first_43, g_X10_first_90, if_neg z1, chk_t g.M.1, e2, chk_t, ck_sI, ck_sR, ck_sJ, cal_s, bnd_e, ifn_s, ifn_n, chk_t R2.1.1.1, r_stands R2.1.1 R2.2.2.2.2.2.2.2.1 (show a < 12 by omega), r_stands R2.1.1 R2.2.2.2.2.2.2.2.1 (show b < 12 by omega), bb, bI_0, nI_1]
        rw [hP]
        cases sB (W.tn i) d a <;> cases sB (W.tn i) d b <;> cases clB (W.tn i) (W.lw j) 0 (ohB (-1)) (rfL (W.tn i) d 0) (-1) (bdy (W.tn i) d a) (bdy (W.tn i) d b) <;> simp
      cases hP2 : fiP (W.tn i) (W.lw j) a b d with
      | true =>
        refine .inl ⟨some (nI d, m2), ⟨m2, ?_, a4.tr f2⟩, fun n => ?_⟩
        · rw [← a1, fnd_t hd hP2]
        · rw [st n, hP2, if_neg (by decide)]
      | false =>
        refine .inr ⟨m2, ⟨?_, a4.tr f2⟩, fun n => ?_⟩
        · rw [← a1, fnd_f hd hP2]
        · rw [st n, hP2, if_pos rfl]) (fun s hI => by
      obtain ⟨a1, a4⟩ := hI
      refine ⟨some (fiV (W.tn i) (W.lw j) a b, s), ⟨s, rfl, a4⟩, fun n => ?_⟩
      show g_X10_first_43 (x + 106) (nI i) (nI j) (nI a) (nI b) (l_X10_first_43 (x + 106) (nI i) (nI j) (nI a) (nI b) n) (nI 1000) s = _
      simp only [g_X10_first_43, if_pos (show (999 : Int32) < nI 1000 by decide)]
      rw [← a1]
      rfl) (s0 := m1) ⟨rfl, fc⟩
    refine ⟨m', ?_, fr⟩
    rw [← er]
    exact hr FU (by unfold FU; omega)
