/-! goes, pays, by, feud -/
def gwB (T : TW) (B : LW) (d a b : Nat) : Bool := (decide (B.1 1 = 1) && lvB T (goG T B a b) (goO T B a b)) || siB T B d (goG T B a b) (goO T B a b)
theorem gwV_e (T : TW) (B : LW) (d a b : Nat) : gwV T B d a b = cond (gwB T B d a b) (-1) (nI (goG T B a b)) := rfl
theorem goG_lt {T : TW} {B : LW} {a b n : Nat} (ha : a < n) (hb : b < n) : goG T B a b < n := by
  unfold goG
  cases (decide (B.1 0 = 1) || laB T a b) <;> assumption
def goS (T : TW) (B : LW) (d : Nat) (L : List B3) : Nat → Int32
  | 0 => 0
  | k + 1 => cond (gwB T B d (lat L k).1 (lat L k).2.1) (goS T B d L k) (goS T B d L k ||| (1 <<< (nI (goG T B (lat L k).1 (lat L k).2.1) &&& 31)))
theorem goS_s (T : TW) (B : LW) (d : Nat) (L : List B3) (k : Nat) : goS T B d L (k + 1) = cond (gwB T B d (lat L k).1 (lat L k).2.1) (goS T B d L k) (goS T B d L k ||| (1 <<< (nI (goG T B (lat L k).1 (lat L k).2.1) &&& 31))) := rfl
theorem m_goes (x : Nat) (p q d : Int32) : Mq x (f_X9_goes x p q d) (f_X10_goes (x + 106) p q d) := by
  refine Mq_o p q d (-1) (fun T B k => goS T B k (br0 T B k) (br0 T B k).length) (fun m W D h ho => ⟨m, ?_, Fq.rf x m⟩) (fun m W D i j k h hi hj hk e1 e2 e3 => ?_) (fun m W D h ho => ⟨_, ?_, fq_code x m⟩) (fun m W D i j k h hi hj hk e1 e2 e3 => ?_)
  · simp only [f_X9_goes, g_X9_goes_0, chk_t h.kx, c_opened0 h ho, chk_t, ck_sI, ck_sR, ck_sJ, cal_s, bnd_e, ifn_s, ifn_n, if_true]
  · subst e1; subst e2; subst e3
    have hB := (h.cl hj).n.2.2
    obtain ⟨m1, m2, o1, s1, o2, f2, C, G, g⟩ := c_oc h hi hj hk
    have hL : (br0 (W.tn i) (W.lw j) k).length ≤ 1320 := barL_le hB
    refine ⟨m2, ?_, f2⟩
    simp only [f_X9_goes, g_X9_goes_0, chk_t h.kx, o1, chk_t, ck_sI, ck_sR, ck_sJ, cal_s, bnd_e, ifn_s, ifn_n, if_neg ne10, chk_t s1.1.1, s1.ct, o2]
    have := lp_for (fun n s c => l_X9_goes_25 x (nI i) (nI j) (nI k) n s c m2) (goS (W.tn i) (W.lw j) k (br0 (W.tn i) (W.lw j) k)) (br0 (W.tn i) (W.lw j) k).length (some (goS (W.tn i) (W.lw j) k (br0 (W.tn i) (W.lw j) k) (br0 (W.tn i) (W.lw j) k).length, m2)) (fun c hc n => ?_) (fun n => ?_) (n := FU) (by unfold FU; omega)
    · exact this
    · show g_X9_goes_25 x (nI i) (nI j) (nI k) (l_X9_goes_25 x (nI i) (nI j) (nI k) n) _ (nI c) m2 = _
      obtain ⟨a, b, r, el, ha, hb, hab, hr, hP⟩ := bar_ok hc
      have el' : lat (br0 (W.tn i) (W.lw j) k) c = (a, b, r) := el
      have hn0 := (h.nn hi).1
      have z1 : ¬ nI (br0 (W.tn i) (W.lw j) k).length ≤ nI c := nI_ge hc (by omega)
      have z2 : ¬ nI (goG (W.tn i) (W.lw j) a b) = -1 := nI_ne_m1 (by have := goG_lt (T := W.tn i) (B := W.lw j) ha hb; omega)
      simp only [g_X9_goes_25, g_X9_goes_63, chk_t g.kx, C.1.ct, G.1, if_neg z1, c_whoGoes C.1 C.2.1 C.2.2.2.1 G hL hc el' ha hb hab (show r < 10 by omega), chk_t, ck_sI, ck_sR, ck_sJ, cal_s, bnd_e, ifn_s, ifn_n, gwV_e, goS_s, el', nI_1]
      cases gwB (W.tn i) (W.lw j) k a b with
      | true => simp only [cond_true, if_true]
      | false => simp only [cond_false, if_neg z2]
    · show g_X9_goes_25 x (nI i) (nI j) (nI k) (l_X9_goes_25 x (nI i) (nI j) (nI k) n) _ (nI (br0 (W.tn i) (W.lw j) k).length) m2 = _
      simp only [g_X9_goes_25, chk_t g.kx, C.1.ct, G.1, if_pos (Int32.le_refl _)]
  · simp only [f_X10_goes, g_X10_goes_0, chk_t h.M.1, chk_t, ck_sI, ck_sR, ck_sJ, cal_s, bnd_e, ifn_s, ifn_n, r_bring0 h.code ho, if_true]
  · subst e1; subst e2; subst e3
    have hB := (h.cl hj).n.2.2
    obtain ⟨m2, o2, f2, R, G, g⟩ := r_bb h.code hi hj hk
    have hL : (br0 (W.tn i) (W.lw j) k).length ≤ 1320 := barL_le hB
    refine ⟨m2, ?_, (fq_code x m).tr f2⟩
    simp only [f_X10_goes, g_X10_goes_0, chk_t h.M.1, chk_t, ck_sI, ck_sR, ck_sJ, cal_s, bnd_e, ifn_s, ifn_n, o2, if_neg ne10]
    have := lp_for (fun n s c => l_X10_goes_23 (x + 106) (nI i) (nI j) (nI k) n s c m2) (goS (W.tn i) (W.lw j) k (br0 (W.tn i) (W.lw j) k)) (br0 (W.tn i) (W.lw j) k).length (some (goS (W.tn i) (W.lw j) k (br0 (W.tn i) (W.lw j) k) (br0 (W.tn i) (W.lw j) k).length, m2)) (fun c hc n => ?_) (fun n => ?_) (n := FU) (by unfold FU; omega)
    · exact this
    · show g_X10_goes_23 (x + 106) (nI i) (nI j) (nI k) (l_X10_goes_23 (x + 106) (nI i) (nI j) (nI k) n) _ (nI c) m2 = _
      obtain ⟨a, b, r, el, ha, hb, hab, hr, hP⟩ := bar_ok hc
      have el' : lat (br0 (W.tn i) (W.lw j) k) c = (a, b, r) := el
      have hn0 := (h.nn hi).1
      have z1 : ¬ nI (br0 (W.tn i) (W.lw j) k).length ≤ nI c := nI_ge hc (by omega)
      have z2 : ¬ nI (goG (W.tn i) (W.lw j) a b) = -1 := nI_ne_m1 (by have := goG_lt (T := W.tn i) (B := W.lw j) ha hb; omega)
      simp only [g_X10_goes_23, g_X10_goes_57, chk_t g.M.1, G.1, if_neg z1, r_goer R G hL hc el' ha hb hab, chk_t, ck_sI, ck_sR, ck_sJ, cal_s, bnd_e, ifn_s, ifn_n, gwV_e, goS_s, el', nI_1, or_0]
      cases gwB (W.tn i) (W.lw j) k a b with
      | true => simp only [cond_true, if_true]
      | false => simp only [cond_false, if_neg z2]
    · show g_X10_goes_23 (x + 106) (nI i) (nI j) (nI k) (l_X10_goes_23 (x + 106) (nI i) (nI j) (nI k) n) _ (nI (br0 (W.tn i) (W.lw j) k).length) m2 = _
      simp only [g_X10_goes_23, chk_t g.M.1, G.1, if_pos (Int32.le_refl _)]
/-! by -/
def byN (L : List B3) (r : Int32) : Nat → Nat := cntB (fun k => decide (nI (lat L k).2.2 = r))
def byV (T : TW) (B : LW) (d : Nat) (r : Int32) : Int32 := cond (isN B.2.1 r) (nI (cntB (fun k => decide (nI (lat (br0 T B d) k).2.2 = r)) (br0 T B d).length)) (-1)
theorem m_by (x : Nat) (p q d u : Int32) : Mq x (f_X9_by x p q d u) (f_X10_by (x + 106) p q d u) := by
  refine Mq_o p q d (-1) (fun T B k => byV T B k u) (fun m W D h ho => ⟨m, ?_, Fq.rf x m⟩) (fun m W D i j k h hi hj hk e1 e2 e3 => ?_) (fun m W D h ho => ⟨_, ?_, fq_code x m⟩) (fun m W D i j k h hi hj hk e1 e2 e3 => ?_)
  · have hnl := h.nl
    simp only [f_X9_by, g_X9_by_0, chk_t h.kx, h.now]
    cases hq : isN W.nl q with
    | false => simp only [c_lawAt0 h.T hq, chk_t, ck_sI, ck_sR, ck_sJ, cal_s, bnd_e, ifn_s, ifn_n]
    | true =>
      obtain ⟨j, hj, e⟩ := (isN_iff (by omega)).mp hq
      subst e
      have cl := h.cl hj
      simp only [c_lawAt h.T hj, chk_t, ck_sI, ck_sR, ck_sJ, cal_s, bnd_e, ifn_s, ifn_n, chk_t cl.K, cl.kr, cl.n.1, chk_t h.kx, c_opened0 h ho, if_true, ite_self]
  · subst e1; subst e2; subst e3
    have hnl := h.nl
    have cl := h.cl hj
    have hB := (h.cl hj).n.2.2
    simp only [f_X9_by, g_X9_by_0, chk_t h.kx, h.now, c_lawAt h.T hj, chk_t, ck_sI, ck_sR, ck_sJ, cal_s, bnd_e, ifn_s, ifn_n, chk_t cl.K, cl.kr, cl.n.1, byV]
    cases hu : isN (W.lw j).2.1 u with
    | false =>
      refine ⟨m, ?_, Fq.rf x m⟩
      rcases isN_f hu with z | z
      · simp only [if_pos z, cond_false]
      · simp only [if_pos z, ite_self, cond_false]
    | true =>
      obtain ⟨c, hc, e⟩ := (isN_iff (by omega)).mp hu
      have z1 : ¬ u < 0 := by rw [e]; exact nI_pos (by omega)
      have z2 : ¬ nI (W.lw j).2.1 ≤ u := by rw [e]; exact nI_ge hc (by omega)
      obtain ⟨m1, m2, o1, s1, o2, f2, C, G, g⟩ := c_oc h hi hj hk
      have hL : (br0 (W.tn i) (W.lw j) k).length ≤ 1320 := barL_le hB
      refine ⟨m2, ?_, f2⟩
      simp only [if_neg z1, if_neg z2, chk_t h.kx, o1, chk_t, ck_sI, ck_sR, ck_sJ, cal_s, bnd_e, ifn_s, ifn_n, if_neg ne10, chk_t s1.1.1, s1.ct, o2, cond_true]
      have := lp_for (fun n s c => l_X9_by_58 x (nI i) (nI j) (nI k) u n s c m2) (fun c => nI (cntB (fun k' => decide (nI (lat (br0 (W.tn i) (W.lw j) k) k').2.2 = u)) c)) (br0 (W.tn i) (W.lw j) k).length (some (nI (cntB (fun k' => decide (nI (lat (br0 (W.tn i) (W.lw j) k) k').2.2 = u)) (br0 (W.tn i) (W.lw j) k).length), m2)) (fun c hc n => ?_) (fun n => ?_) (n := FU) (by unfold FU; omega)
      · exact this
      · show g_X9_by_58 x (nI i) (nI j) (nI k) u (l_X9_by_58 x (nI i) (nI j) (nI k) u n) _ (nI c) m2 = _
        obtain ⟨a, b, r, el, ha, hb, hab, hr, hP⟩ := bar_ok hc
        have el' : lat (br0 (W.tn i) (W.lw j) k) c = (a, b, r) := el
        have hn0 := (h.nn hi).1
        have z1 : ¬ nI (br0 (W.tn i) (W.lw j) k).length ≤ nI c := nI_ge hc (by omega)
        simp only [g_X9_by_58, g_X9_by_87, chk_t g.kx, C.1.ct, G.1, if_neg z1, c_ruleOf C.1 G hL hc el' (show a < 12 by omega) (show b < 12 by omega) (show r < 10 by omega), chk_t, ck_sI, ck_sR, ck_sJ, cal_s, bnd_e, ifn_s, ifn_n, cntB_s, el', nI_1]
        by_cases z : nI r = u
        · rw [if_pos z, decide_eq_true z, bN_t]
        · rw [if_neg z, decide_eq_false z, bN_f]; rfl
      · show g_X9_by_58 x (nI i) (nI j) (nI k) u (l_X9_by_58 x (nI i) (nI j) (nI k) u n) _ (nI (br0 (W.tn i) (W.lw j) k).length) m2 = _
        simp only [g_X9_by_58, chk_t g.kx, C.1.ct, G.1, if_pos (Int32.le_refl _)]
  · simp only [f_X10_by, g_X10_by_0, chk_t h.M.1, chk_t, ck_sI, ck_sR, ck_sJ, cal_s, bnd_e, ifn_s, ifn_n, r_bring0 h.code ho, if_true]
  · subst e1; subst e2; subst e3
    have hnl := h.nl
    have hB := (h.cl hj).n.2.2
    obtain ⟨m2, o2, f2, R, G, g⟩ := r_bb h.code hi hj hk
    have hL : (br0 (W.tn i) (W.lw j) k).length ≤ 1320 := barL_le hB
    refine ⟨m2, ?_, (fq_code x m).tr f2⟩
    simp only [f_X10_by, g_X10_by_0, chk_t h.M.1, chk_t, ck_sI, ck_sR, ck_sJ, cal_s, bnd_e, ifn_s, ifn_n, o2, if_neg ne10, chk_t g.M.1, g.M.c1129, g.M.n1129, chk_t (inb_nI (show j < 12 by omega) (by decide)), cl_nI (show j < 2 ^ 31 by omega), (g.rl hj).1, r_in, inR_isN (show (W.lw j).2.1 < 2 ^ 30 by omega), bI_0, byV]
    cases hu : isN (W.lw j).2.1 u with
    | false => simp only [if_true, cond_false]
    | true =>
      simp only [Bool.true_eq_false, if_false, cond_true]
      have := lp_for (fun n s c => l_X10_by_40 (x + 106) (nI i) (nI j) (nI k) u n s c m2) (fun c => nI (cntB (fun k' => decide (nI (lat (br0 (W.tn i) (W.lw j) k) k').2.2 = u)) c)) (br0 (W.tn i) (W.lw j) k).length (some (nI (cntB (fun k' => decide (nI (lat (br0 (W.tn i) (W.lw j) k) k').2.2 = u)) (br0 (W.tn i) (W.lw j) k).length), m2)) (fun c hc n => ?_) (fun n => ?_) (n := FU) (by unfold FU; omega)
      · exact this
      · show g_X10_by_40 (x + 106) (nI i) (nI j) (nI k) u (l_X10_by_40 (x + 106) (nI i) (nI j) (nI k) u n) _ (nI c) m2 = _
        have z1 : ¬ nI (br0 (W.tn i) (W.lw j) k).length ≤ nI c := nI_ge hc (by omega)
        obtain ⟨g1, g2, g3⟩ := G.2 c hc
        have a0 : ∀ v : Nat, nI v + 0 = nI v := fun v => nI_add v 0
        simp only [g_X10_by_40, g_X10_by_68, chk_t g.M.1, G.1, if_neg z1, g.M.c1173, g.M.n1173, chk_t (inb_nI (show c < 1440 by omega) (by decide)), cl_nI (show c < 2 ^ 31 by omega), g3, chk_t, ck_sI, ck_sR, ck_sJ, cal_s, bnd_e, ifn_s, ifn_n, cntB_s, nI_1]
        by_cases z : nI (lat (br0 (W.tn i) (W.lw j) k) c).2.2 = u
        · rw [if_pos z, decide_eq_true z, bN_t]
        · rw [if_neg z, decide_eq_false z, bN_f, a0]; rfl
      · show g_X10_by_40 (x + 106) (nI i) (nI j) (nI k) u (l_X10_by_40 (x + 106) (nI i) (nI j) (nI k) u n) _ (nI (br0 (W.tn i) (W.lw j) k).length) m2 = _
        simp only [g_X10_by_40, chk_t g.M.1, G.1, if_pos (Int32.le_refl _)]
/-! feud -/
theorem fe_if {α : Type} (P Q R S : Prop) [Decidable P] [Decidable Q] [Decidable R] [Decidable S] (f : Nat → α) (c : Nat) : (if P then (if Q then f (c + 1) else (if R then (if S then f (c + 1) else f c) else f c)) else (if R then (if S then f (c + 1) else f c) else f c)) = f (c + bN ((decide P && decide Q) || (decide R && decide S))) := by
  by_cases h1 : P <;> by_cases h2 : Q <;> by_cases h3 : R <;> by_cases h4 : S <;> simp [h1, h2, h3, h4, bN]
def feB (T : TW) (L : List B3) (u v : Int32) (k : Nat) : Bool := (decide (T.2.2 0 (lat L k).1 3 = u) && decide (T.2.2 0 (lat L k).2.1 3 = v)) || (decide (T.2.2 0 (lat L k).1 3 = v) && decide (T.2.2 0 (lat L k).2.1 3 = u))
def feV (T : TW) (B : LW) (d : Nat) (u v : Int32) : Int32 := cond (isN 8 u && isN 8 v) (nI (cntB (feB T (br0 T B d) u v) (br0 T B d).length)) (-1)
theorem m_feud (x : Nat) (p q d u v : Int32) : Mq x (f_X9_feud x p q d u v) (f_X10_feud (x + 106) p q d u v) := by
  refine Mq_o p q d (-1) (fun T B k => feV T B k u v) (fun m W D h ho => ⟨m, ?_, Fq.rf x m⟩) (fun m W D i j k h hi hj hk e1 e2 e3 => ?_) (fun m W D h ho => ⟨_, ?_, fq_code x m⟩) (fun m W D i j k h hi hj hk e1 e2 e3 => ?_)
  · simp only [f_X9_feud, g_X9_feud_0, chk_t h.kx, c_isHouse, c_opened0 h ho, chk_t, ck_sI, ck_sR, ck_sJ, cal_s, bnd_e, ifn_s, ifn_n, if_true, ite_self]
  · subst e1; subst e2; subst e3
    have hB := (h.cl hj).n.2.2
    simp only [f_X9_feud, g_X9_feud_0, chk_t h.kx, c_isHouse, chk_t, ck_sI, ck_sR, ck_sJ, cal_s, bnd_e, ifn_s, ifn_n, feV, bI_0]
    cases hu : isN 8 u with
    | false => exact ⟨m, by simp only [if_true, Bool.false_and, cond_false], Fq.rf x m⟩
    | true =>
    cases hv : isN 8 v with
    | false => exact ⟨m, by simp only [if_true, Bool.true_eq_false, if_false, Bool.and_false, cond_false], Fq.rf x m⟩
    | true =>
    obtain ⟨m1, m2, o1, s1, o2, f2, C, G, g⟩ := c_oc h hi hj hk
    have hL : (br0 (W.tn i) (W.lw j) k).length ≤ 1320 := barL_le hB
    refine ⟨m2, ?_, f2⟩
    simp only [Bool.true_eq_false, if_false, Bool.and_true, cond_true, o1, chk_t, ck_sI, ck_sR, ck_sJ, cal_s, bnd_e, ifn_s, ifn_n, if_neg ne10, chk_t s1.1.1, s1.ct, o2]
    have := lp_for (fun n s c => l_X9_feud_41 x (nI i) (nI j) (nI k) u v n s c m2) (fun c => nI (cntB (feB (W.tn i) (br0 (W.tn i) (W.lw j) k) u v) c)) (br0 (W.tn i) (W.lw j) k).length (some (nI (cntB (feB (W.tn i) (br0 (W.tn i) (W.lw j) k) u v) (br0 (W.tn i) (W.lw j) k).length), m2)) (fun c hc n => ?_) (fun n => ?_) (n := FU) (by unfold FU; omega)
    · exact this
    · show g_X9_feud_41 x (nI i) (nI j) (nI k) u v (l_X9_feud_41 x (nI i) (nI j) (nI k) u v n) _ (nI c) m2 = _
      obtain ⟨a, b, r, el, ha, hb, hab, hr, hP⟩ := bar_ok hc
      have el' : lat (br0 (W.tn i) (W.lw j) k) c = (a, b, r) := el
      have hn0 := (h.nn hi).1
      have z1 : ¬ nI (br0 (W.tn i) (W.lw j) k).length ≤ nI c := nI_ge hc (by omega)
      simp only [g_X9_feud_41, g_X9_feud_105, g_X9_feud_119, g_X9_feud_122, chk_t g.kx, C.1.ct, C.1.sn, G.1, if_neg z1, c_firstOf C.1 G hL hc el' (show a < 12 by omega) (show b < 12 by omega) (show r < 10 by omega), c_secondOf C.1 G hL hc el' (show a < 12 by omega) (show b < 12 by omega) (show r < 10 by omega), show f_X5_ofThing (x + 81) (nI a) 3 m2 = _ from c_ofThing (c := 3) C.2.1 ha (by omega), show f_X5_ofThing (x + 81) (nI b) 3 m2 = _ from c_ofThing (c := 3) C.2.1 hb (by omega), chk_t, ck_sI, ck_sR, ck_sJ, cal_s, bnd_e, ifn_s, ifn_n, cntB_s, nI_1]
      have fe : feB (W.tn i) (br0 (W.tn i) (W.lw j) k) u v c = ((decide ((W.tn i).2.2 0 a 3 = u) && decide ((W.tn i).2.2 0 b 3 = v)) || (decide ((W.tn i).2.2 0 a 3 = v) && decide ((W.tn i).2.2 0 b 3 = u))) := by unfold feB; rw [el']
      rw [fe]
      exact fe_if _ _ _ _ (fun z => l_X9_feud_41 x (nI i) (nI j) (nI k) u v n (nI z) (nI (c + 1)) m2) _
    · show g_X9_feud_41 x (nI i) (nI j) (nI k) u v (l_X9_feud_41 x (nI i) (nI j) (nI k) u v n) _ (nI (br0 (W.tn i) (W.lw j) k).length) m2 = _
      simp only [g_X9_feud_41, chk_t g.kx, C.1.ct, G.1, if_pos (Int32.le_refl _)]
  · simp only [f_X10_feud, g_X10_feud_0, chk_t h.M.1, chk_t, ck_sI, ck_sR, ck_sJ, cal_s, bnd_e, ifn_s, ifn_n, r_in, K_sI, r_bring0 h.code ho, if_true, ite_self]
  · subst e1; subst e2; subst e3
    have hnt := h.nt
    have hB := (h.cl hj).n.2.2
    have g0 := h.code
    simp only [f_X10_feud, g_X10_feud_0, chk_t h.M.1, chk_t, ck_sI, ck_sR, ck_sJ, cal_s, bnd_e, ifn_s, ifn_n, r_in, inR_8, bI_0, feV]
    cases hu : isN 8 u with
    | false => exact ⟨_, by simp only [if_true, Bool.false_and, cond_false], fq_code x m⟩
    | true =>
    cases hv : isN 8 v with
    | false => exact ⟨_, by simp only [if_true, Bool.true_eq_false, if_false, Bool.and_false, cond_false], fq_code x m⟩
    | true =>
    obtain ⟨m2, o2, f2, R, G, g⟩ := r_bb g0 hi hj hk
    have hL : (br0 (W.tn i) (W.lw j) k).length ≤ 1320 := barL_le hB
    refine ⟨m2, ?_, (fq_code x m).tr f2⟩
    simp only [Bool.true_eq_false, if_false, Bool.and_true, cond_true, chk_t g0.M.1, o2, chk_t, ck_sI, ck_sR, ck_sJ, cal_s, bnd_e, ifn_s, ifn_n, if_neg ne10]
    have := lp_for (fun n s c => l_X10_feud_45 (x + 106) (nI i) (nI j) (nI k) u v n s c m2) (fun c => nI (cntB (feB (W.tn i) (br0 (W.tn i) (W.lw j) k) u v) c)) (br0 (W.tn i) (W.lw j) k).length (some (nI (cntB (feB (W.tn i) (br0 (W.tn i) (W.lw j) k) u v) (br0 (W.tn i) (W.lw j) k).length), m2)) (fun c hc n => ?_) (fun n => ?_) (n := FU) (by unfold FU; omega)
    · exact this
    · show g_X10_feud_45 (x + 106) (nI i) (nI j) (nI k) u v (l_X10_feud_45 (x + 106) (nI i) (nI j) (nI k) u v n) _ (nI c) m2 = _
      obtain ⟨a, b, r, el, ha, hb, hab, hr, hP⟩ := bar_ok hc
      have el' : lat (br0 (W.tn i) (W.lw j) k) c = (a, b, r) := el
      have hn0 := (h.nn hi).1
      have z1 : ¬ nI (br0 (W.tn i) (W.lw j) k).length ≤ nI c := nI_ge hc (by omega)
      obtain ⟨g1, g2, g3⟩ := G.2 c hc
      rw [el'] at g1 g2 g3
      have a0 : ∀ v : Nat, nI v + 0 = nI v := fun v => nI_add v 0
      have e12 : (12 : Int32) * nI i = nI (12 * i) := pk_mul 12 i
      simp only [g_X10_feud_45, g_X10_feud_108, g_X10_feud_122, g_X10_feud_126, g_X10_feud_127, chk_t g.M.1, G.1, if_neg z1, g.M.c1171, g.M.n1171, g.M.c1172, g.M.n1172, g.M.c1110, g.M.n1110, chk_t (inb_nI (show c < 1440 by omega) (by decide)), cl_nI (show c < 2 ^ 31 by omega), g1, g2, e12, nI_add (12 * i) a, nI_add (12 * i) b, chk_t (inb_nI (show 12 * i + a < 144 by omega) (by decide)), chk_t (inb_nI (show 12 * i + b < 144 by omega) (by decide)), cl_nI (show 12 * i + a < 2 ^ 31 by omega), cl_nI (show 12 * i + b < 2 ^ 31 by omega), show m2.I 22 (x + 106 + 10) (12 * i + a) = _ from (g.rt hi).2.1 a ha 3 (by omega), show m2.I 22 (x + 106 + 10) (12 * i + b) = _ from (g.rt hi).2.1 b hb 3 (by omega), chk_t, ck_sI, ck_sR, ck_sJ, cal_s, bnd_e, ifn_s, ifn_n, cntB_s, nI_1, a0]
      have fe : feB (W.tn i) (br0 (W.tn i) (W.lw j) k) u v c = ((decide ((W.tn i).2.2 0 a 3 = u) && decide ((W.tn i).2.2 0 b 3 = v)) || (decide ((W.tn i).2.2 0 a 3 = v) && decide ((W.tn i).2.2 0 b 3 = u))) := by unfold feB; rw [el']
      rw [fe]
      exact fe_if _ _ _ _ (fun z => l_X10_feud_45 (x + 106) (nI i) (nI j) (nI k) u v n (nI z) (nI (c + 1)) m2) _
    · show g_X10_feud_45 (x + 106) (nI i) (nI j) (nI k) u v (l_X10_feud_45 (x + 106) (nI i) (nI j) (nI k) u v n) _ (nI (br0 (W.tn i) (W.lw j) k).length) m2 = _
      simp only [g_X10_feud_45, chk_t g.M.1, G.1, if_pos (Int32.le_refl _)]
