/-! pays -/
def pyH (T : TW) (g o : Nat) : Int32 := T.2.2 0 (cond (laB T g o) g o) 3
def paS (T : TW) (B : LW) (d : Nat) (L : List B3) (h : Int32) : Nat → Int32 × Int32
  | 0 => (0, 0)
  | k + 1 => cond (gwB T B d (lat L k).1 (lat L k).2.1 || bt (paS T B d L h k).2 (goG T B (lat L k).1 (lat L k).2.1)) (paS T B d L h k) (cond (decide (pyH T (goG T B (lat L k).1 (lat L k).2.1) (goO T B (lat L k).1 (lat L k).2.1) = h)) ((paS T B d L h k).1 + T.2.2 0 (goG T B (lat L k).1 (lat L k).2.1) 6) (paS T B d L h k).1, (paS T B d L h k).2 ||| (1 <<< (nI (goG T B (lat L k).1 (lat L k).2.1) &&& 31)))
theorem paS_s (T : TW) (B : LW) (d : Nat) (L : List B3) (h : Int32) (k : Nat) : paS T B d L h (k + 1) = cond (gwB T B d (lat L k).1 (lat L k).2.1 || bt (paS T B d L h k).2 (goG T B (lat L k).1 (lat L k).2.1)) (paS T B d L h k) (cond (decide (pyH T (goG T B (lat L k).1 (lat L k).2.1) (goO T B (lat L k).1 (lat L k).2.1) = h)) ((paS T B d L h k).1 + T.2.2 0 (goG T B (lat L k).1 (lat L k).2.1) 6) (paS T B d L h k).1, (paS T B d L h k).2 ||| (1 <<< (nI (goG T B (lat L k).1 (lat L k).2.1) &&& 31))) := rfl
theorem go_or (T : TW) (B : LW) (a b : Nat) : (goG T B a b = a ∧ goO T B a b = b) ∨ (goG T B a b = b ∧ goO T B a b = a) := by
  unfold goG goO
  cases (decide (B.1 0 = 1) || laB T a b)
  · exact .inr ⟨rfl, rfl⟩
  · exact .inl ⟨rfl, rfl⟩
theorem c_payer {m : MM} {x t l d w a b r k : Nat} {T : TW} {B : LW} {ho wo : Int32} {L : List B3} (hS : Sh m x) (S : Sc m (x + 81) t l T B d w ho wo) (F : FcL m x L) (hL : L.length ≤ 1320) (hk : k < L.length) (e : lat L k = (a, b, r)) (ha : a < T.2.1 0) (hb : b < T.2.1 0) (hab : a ≠ b) (hr : r < 10) : f_X1_payer (x + 96) (nI k) (nI (goG T B a b)) m = some (pyH T (goG T B a b) (goO T B a b), m) := by
  have hn := S.2.2.2.1.n0.2.2
  have ne : ¬ nI b = nI a := fun q => hab (nI_inj (by omega) (by omega) q).symm
  have p20 : ∀ g o, g < T.2.1 0 → o < T.2.1 0 → g_X1_payer_20 (x + 96) (nI k) (nI g) (nI o) m = some (pyH T g o, m) := by
    intro g o hg ho
    simp only [g_X1_payer_20, chk_t hS.2.2.2.1.1, c_isLater hS S hg ho, chk_t, ck_sI, ck_sR, ck_sJ, cal_s, bnd_e, ifn_s, ifn_n, bI_0, hS.2.2.2.1.2.1, ck_s hS.th, show f_X5_ofThing (x + 81) (nI g) 3 m = _ from c_ofThing (c := 3) S hg (by omega), show f_X5_ofThing (x + 81) (nI o) 3 m = _ from c_ofThing (c := 3) S ho (by omega), pyH]
    cases laB T g o <;> simp
  rcases go_or T B a b with ⟨e1, e2⟩ | ⟨e1, e2⟩
  · rw [e1, e2]
    simp only [f_X1_payer, g_X1_payer_0, chk_t hS.2.2.2.1.1, c_firstOf hS F hL hk e (show a < 12 by omega) (show b < 12 by omega) hr, c_secondOf hS F hL hk e (show a < 12 by omega) (show b < 12 by omega) hr, chk_t, ck_sI, ck_sR, ck_sJ, cal_s, bnd_e, ifn_s, ifn_n, if_true, p20 a b ha hb]
  · rw [e1, e2]
    simp only [f_X1_payer, g_X1_payer_0, chk_t hS.2.2.2.1.1, c_firstOf hS F hL hk e (show a < 12 by omega) (show b < 12 by omega) hr, chk_t, ck_sI, ck_sR, ck_sJ, cal_s, bnd_e, ifn_s, ifn_n, if_neg ne, p20 b a hb ha]
def paV (T : TW) (B : LW) (d : Nat) (u : Int32) : Int32 := cond (isN 8 u) (paS T B d (br0 T B d) u (br0 T B d).length).1 (-1)
theorem m_pays (x : Nat) (p q d u : Int32) : Mq x (f_X9_pays x p q d u) (f_X10_pays (x + 106) p q d u) := by
  refine Mq_o p q d (-1) (fun T B k => paV T B k u) (fun m W D h ho => ⟨m, ?_, Fq.rf x m⟩) (fun m W D i j k h hi hj hk e1 e2 e3 => ?_) (fun m W D h ho => ⟨_, ?_, fq_code x m⟩) (fun m W D i j k h hi hj hk e1 e2 e3 => ?_)
  · simp only [f_X9_pays, g_X9_pays_0, chk_t h.kx, c_isHouse, c_opened0 h ho, chk_t, ck_sI, ck_sR, ck_sJ, cal_s, bnd_e, ifn_s, ifn_n, if_true, ite_self]
  · subst e1; subst e2; subst e3
    have hB := (h.cl hj).n.2.2
    simp only [f_X9_pays, g_X9_pays_0, chk_t h.kx, c_isHouse, chk_t, ck_sI, ck_sR, ck_sJ, cal_s, bnd_e, ifn_s, ifn_n, paV, bI_0]
    cases hu : isN 8 u with
    | false => exact ⟨m, by simp only [if_true, cond_false], Fq.rf x m⟩
    | true =>
    obtain ⟨m1, m2, o1, s1, o2, f2, C, G, g⟩ := c_oc h hi hj hk
    have hL : (br0 (W.tn i) (W.lw j) k).length ≤ 1320 := barL_le hB
    refine ⟨m2, ?_, f2⟩
    simp only [Bool.true_eq_false, if_false, cond_true, o1, chk_t, ck_sI, ck_sR, ck_sJ, cal_s, bnd_e, ifn_s, ifn_n, if_neg ne10, chk_t s1.1.1, s1.ct, o2]
    have := lp_for (fun n (s : Int32 × Int32) c => l_X9_pays_36 x (nI i) (nI j) (nI k) u n s.1 s.2 c m2) (paS (W.tn i) (W.lw j) k (br0 (W.tn i) (W.lw j) k) u) (br0 (W.tn i) (W.lw j) k).length (some ((paS (W.tn i) (W.lw j) k (br0 (W.tn i) (W.lw j) k) u (br0 (W.tn i) (W.lw j) k).length).1, m2)) (fun c hc n => ?_) (fun n => ?_) (n := FU) (by unfold FU; omega)
    · exact this
    · show g_X9_pays_36 x (nI i) (nI j) (nI k) u (l_X9_pays_36 x (nI i) (nI j) (nI k) u n) _ _ (nI c) m2 = _
      obtain ⟨a, b, r, el, ha, hb, hab, hr, hP⟩ := bar_ok hc
      have el' : lat (br0 (W.tn i) (W.lw j) k) c = (a, b, r) := el
      have hn0 := (h.nn hi).1
      have hg := goG_lt (T := W.tn i) (B := W.lw j) ha hb
      have z1 : ¬ nI (br0 (W.tn i) (W.lw j) k).length ≤ nI c := nI_ge hc (by omega)
      have z2 : ¬ nI (goG (W.tn i) (W.lw j) a b) = -1 := nI_ne_m1 (by omega)
      rw [paS_s, el']
      generalize paS (W.tn i) (W.lw j) k (br0 (W.tn i) (W.lw j) k) u c = s
      obtain ⟨su, dn⟩ := s
      simp only [g_X9_pays_36, g_X9_pays_119, chk_t g.kx, C.1.ct, C.1.sn, G.1, if_neg z1, c_whoGoes C.1 C.2.1 C.2.2.2.1 G hL hc el' ha hb hab (show r < 10 by omega), chk_t, ck_sI, ck_sR, ck_sJ, cal_s, bnd_e, ifn_s, ifn_n, gwV_e, nI_1]
      cases gwB (W.tn i) (W.lw j) k a b with
      | true => simp only [cond_true, if_true, Bool.true_or]
      | false =>
        simp only [cond_false, if_neg z2, Bool.false_or, bt_q _ (show goG (W.tn i) (W.lw j) a b < 32 by omega), c_payer C.1 C.2.1 G hL hc el' ha hb hab (show r < 10 by omega), chk_t, ck_sI, ck_sR, ck_sJ, cal_s, bnd_e, ifn_s, ifn_n, show f_X5_ofThing (x + 81) (nI (goG (W.tn i) (W.lw j) a b)) 6 m2 = _ from c_ofThing (c := 6) C.2.1 hg (by omega)]
        cases bt dn (goG (W.tn i) (W.lw j) a b) with
        | true => simp only [cond_true, Bool.true_eq_false, if_false]
        | false =>
          simp only [if_true, cond_false]
          by_cases y : pyH (W.tn i) (goG (W.tn i) (W.lw j) a b) (goO (W.tn i) (W.lw j) a b) = u
          · rw [if_pos y, decide_eq_true y, cond_true, chk_t g.kx, C.1.sn, show f_X5_ofThing (x + 81) (nI (goG (W.tn i) (W.lw j) a b)) 6 m2 = _ from c_ofThing (c := 6) C.2.1 hg (by omega), cal_s]
          · rw [if_neg y, decide_eq_false y, cond_false]
    · show g_X9_pays_36 x (nI i) (nI j) (nI k) u (l_X9_pays_36 x (nI i) (nI j) (nI k) u n) _ _ (nI (br0 (W.tn i) (W.lw j) k).length) m2 = _
      simp only [g_X9_pays_36, chk_t g.kx, C.1.ct, G.1, if_pos (Int32.le_refl _)]
  · simp only [f_X10_pays, g_X10_pays_0, chk_t h.M.1, chk_t, ck_sI, ck_sR, ck_sJ, cal_s, bnd_e, ifn_s, ifn_n, r_in, K_sI, r_bring0 h.code ho, if_true, ite_self]
  · subst e1; subst e2; subst e3
    have hnt := h.nt
    have hB := (h.cl hj).n.2.2
    have g0 := h.code
    simp only [f_X10_pays, g_X10_pays_0, chk_t h.M.1, chk_t, ck_sI, ck_sR, ck_sJ, cal_s, bnd_e, ifn_s, ifn_n, r_in, inR_8, bI_0, paV]
    cases hu : isN 8 u with
    | false => exact ⟨_, by simp only [if_true, cond_false], fq_code x m⟩
    | true =>
    obtain ⟨m2, o2, f2, R, G, g⟩ := r_bb g0 hi hj hk
    have hL : (br0 (W.tn i) (W.lw j) k).length ≤ 1320 := barL_le hB
    refine ⟨m2, ?_, (fq_code x m).tr f2⟩
    simp only [Bool.true_eq_false, if_false, cond_true, chk_t g0.M.1, o2, chk_t, ck_sI, ck_sR, ck_sJ, cal_s, bnd_e, ifn_s, ifn_n, if_neg ne10]
    have := lp_for (fun n (s : Int32 × Int32) c => l_X10_pays_37 (x + 106) (nI i) (nI j) (nI k) u n s.2 s.1 c m2) (paS (W.tn i) (W.lw j) k (br0 (W.tn i) (W.lw j) k) u) (br0 (W.tn i) (W.lw j) k).length (some ((paS (W.tn i) (W.lw j) k (br0 (W.tn i) (W.lw j) k) u (br0 (W.tn i) (W.lw j) k).length).1, m2)) (fun c hc n => ?_) (fun n => ?_) (n := FU) (by unfold FU; omega)
    · exact this
    · show g_X10_pays_37 (x + 106) (nI i) (nI j) (nI k) u (l_X10_pays_37 (x + 106) (nI i) (nI j) (nI k) u n) _ _ (nI c) m2 = _
      obtain ⟨a, b, r, el, ha, hb, hab, hr, hP⟩ := bar_ok hc
      have el' : lat (br0 (W.tn i) (W.lw j) k) c = (a, b, r) := el
      have hn0 := (h.nn hi).1
      have hg := goG_lt (T := W.tn i) (B := W.lw j) ha hb
      have z1 : ¬ nI (br0 (W.tn i) (W.lw j) k).length ≤ nI c := nI_ge hc (by omega)
      have z2 : ¬ nI (goG (W.tn i) (W.lw j) a b) = -1 := nI_ne_m1 (by omega)
      obtain ⟨g1, g2, g3⟩ := G.2 c hc
      rw [el'] at g1 g2 g3
      have e12 : (12 : Int32) * nI i = nI (12 * i) := pk_mul 12 i
      have p112 : ∀ g' o' su dn, g' < (W.tn i).2.1 0 → o' < (W.tn i).2.1 0 → g_X10_pays_112 (x + 106) (nI i) (nI j) (nI k) u (l_X10_pays_37 (x + 106) (nI i) (nI j) (nI k) u n) dn su (nI c) (nI g') (nI o') m2 = l_X10_pays_37 (x + 106) (nI i) (nI j) (nI k) u n dn (cond (decide (pyH (W.tn i) g' o' = u)) (su + (W.tn i).2.2 0 g' 6) su) (nI (c + 1)) m2 := by
        intro g' o' su dn hg' ho'
        have q6 : m2.I 22 (x + 106 + 13) (12 * i + g') = (W.tn i).2.2 0 g' 6 := (g.rt hi).2.1 g' hg' 6 (by omega)
        have p132 : ∀ s', s' < (W.tn i).2.1 0 → g_X10_pays_132 (x + 106) (nI i) (nI j) (nI k) u (l_X10_pays_37 (x + 106) (nI i) (nI j) (nI k) u n) dn su (nI c) (nI g') (nI s') m2 = l_X10_pays_37 (x + 106) (nI i) (nI j) (nI k) u n dn (cond (decide ((W.tn i).2.2 0 s' 3 = u)) (su + (W.tn i).2.2 0 g' 6) su) (nI (c + 1)) m2 := by
          intro s' hs'
          have q3 : m2.I 22 (x + 106 + 10) (12 * i + s') = (W.tn i).2.2 0 s' 3 := (g.rt hi).2.1 s' hs' 3 (by omega)
          simp only [g_X10_pays_132, g_X10_pays_169, g_X10_pays_172, chk_t g.M.1, g.M.c1110, g.M.n1110, g.M.c1113, g.M.n1113, e12, nI_add (12 * i) s', nI_add (12 * i) g', chk_t (inb_nI (show 12 * i + s' < 144 by omega) (by decide)), chk_t (inb_nI (show 12 * i + g' < 144 by omega) (by decide)), cl_nI (show 12 * i + s' < 2 ^ 31 by omega), cl_nI (show 12 * i + g' < 2 ^ 31 by omega), q3, q6, chk_t, ck_sI, ck_sR, ck_sJ, cal_s, bnd_e, ifn_s, ifn_n, nI_1, Int32.add_zero]
          by_cases y : (W.tn i).2.2 0 s' 3 = u
          · rw [if_pos y, decide_eq_true y, cond_true]
          · rw [if_neg y, decide_eq_false y, cond_false]
        cases hla : laB (W.tn i) g' o' with
        | true =>
          have hpy : pyH (W.tn i) g' o' = (W.tn i).2.2 0 g' 3 := by unfold pyH; rw [hla]; rfl
          rw [hpy]
          simp only [g_X10_pays_112, chk_t g.M.1, r_isLater R hg' ho', chk_t, ck_sI, ck_sR, ck_sJ, cal_s, bnd_e, ifn_s, ifn_n, bI_0, p132 g' hg', hla, Bool.true_eq_false, if_false]
        | false =>
          have hpy : pyH (W.tn i) g' o' = (W.tn i).2.2 0 o' 3 := by unfold pyH; rw [hla]; rfl
          rw [hpy]
          simp only [g_X10_pays_112, chk_t g.M.1, r_isLater R hg' ho', chk_t, ck_sI, ck_sR, ck_sJ, cal_s, bnd_e, ifn_s, ifn_n, bI_0, p132 o' ho', hla, if_true]
      rw [paS_s, el']
      generalize paS (W.tn i) (W.lw j) k (br0 (W.tn i) (W.lw j) k) u c = s
      obtain ⟨su, dn⟩ := s
      simp only [g_X10_pays_37, g_X10_pays_172, chk_t g.M.1, G.1, if_neg z1, r_goer R G hL hc el' ha hb hab, chk_t, ck_sI, ck_sR, ck_sJ, cal_s, bnd_e, ifn_s, ifn_n, gwV_e, nI_1]
      cases gwB (W.tn i) (W.lw j) k a b with
      | true => simp only [cond_true, if_true, Bool.true_or]
      | false =>
        simp only [cond_false, if_neg z2, Bool.false_or, bt_q _ (show goG (W.tn i) (W.lw j) a b < 32 by omega)]
        cases bt dn (goG (W.tn i) (W.lw j) a b) with
        | true => simp only [cond_true, Bool.true_eq_false, if_false]
        | false =>
          simp only [if_true, cond_false, g.M.c1171, g.M.n1171, g.M.c1172, g.M.n1172, chk_t (inb_nI (show c < 1440 by omega) (by decide)), cl_nI (show c < 2 ^ 31 by omega), g1, g2]
          have ne : ¬ nI b = nI a := fun q => hab (nI_inj (by omega) (by omega) q).symm
          rcases go_or (W.tn i) (W.lw j) a b with ⟨y1, y2⟩ | ⟨y1, y2⟩
          · rw [y1, y2, if_pos rfl, p112 a b _ _ ha hb]
          · rw [y1, y2, if_neg ne, p112 b a _ _ hb ha]
    · show g_X10_pays_37 (x + 106) (nI i) (nI j) (nI k) u (l_X10_pays_37 (x + 106) (nI i) (nI j) (nI k) u n) _ _ (nI (br0 (W.tn i) (W.lw j) k).length) m2 = _
      simp only [g_X10_pays_37, chk_t g.M.1, G.1, if_pos (Int32.le_refl _)]
