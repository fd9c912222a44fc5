/-! bar, goes, pays, by, feud -/
def isq (s : Nat) : Nat := cntB (fun k => decide ((k + 1) * (k + 1) ≤ s)) 10
theorem isq_ok : ∀ s, s < 99 → isq s * isq s ≤ s ∧ s < (isq s + 1) * (isq s + 1) ∧ isq s < 10 := by decide
def lkN (T : TW) (B : LW) (d a b r : Nat) : Nat := (B.2.2 r 3).toNatClampNeg + (bdy T d a).g + (bdy T d b).g - isq (dsq (bdy T d a) (bdy T d b)).toNat
theorem sq_lt {a b : Nat} (h : a * a < b * b) : a < b := by
  rcases Nat.lt_or_ge a b with q | q
  · exact q
  · exact absurd (Nat.mul_le_mul q q) (by omega)
theorem sq_le {a b : Nat} (h : a ≤ b) : a * a ≤ b * b := Nat.mul_le_mul h h
section LCK
variable {m : MM} {x t l d a b r : Nat} {T : TW} {B : LW} {ho wo : Int32}
theorem lk_D (hb : baR T B 0 (bt 255) (clL T d) r (bdy T d a) (bdy T d b) = true) (va : VB (bdy T d a)) (vb : VB (bdy T d b)) : isq (dsq (bdy T d a) (bdy T d b)).toNat ≤ (B.2.2 r 3).toNatClampNeg + (bdy T d a).g + (bdy T d b).g := by
  unfold baR at hb
  simp only [Bool.and_eq_true, decide_eq_true_eq] at hb
  have h1 := hb.1.1.2
  have h2 := dsq_b va vb
  obtain ⟨q1, q2, q3⟩ := isq_ok (dsq (bdy T d a) (bdy T d b)).toNat (by omega)
  generalize isq (dsq (bdy T d a) (bdy T d b)).toNat = e at *
  unfold rch at h1
  rw [Nat.add_zero] at h1
  generalize (B.2.2 r 3).toNatClampNeg + (bdy T d a).g + (bdy T d b).g = D at *
  have h3 : (e * e : Nat) < D * D := by
    have : ((D : Int) * D) = ((D * D : Nat) : Int) := by push_cast; rfl
    rw [this] at h1
    omega
  have := sq_lt h3
  omega
theorem c_lacks (C : CS m x t l T B d 0 255 (-1)) (ha : a < T.2.1 0) (hb : b < T.2.1 0) (hr : r < B.2.1) (hba : baR T B 0 (bt 255) (clL T d) r (bdy T d a) (bdy T d b) = true) : f_X5_lacks (x + 81) (nI a) (nI b) (nI r) m = some (nI (lkN T B d a b r), m) := by
  have hn := C.2.1.2.2.2.1.n0.2.2
  have bA := C.2.2.2.2.2.2.1 a ha
  have bB := C.2.2.2.2.2.2.1 b hb
  have vA := bdy_v C.2.2.1 ha d
  have vB := bdy_v C.2.2.1 hb d
  have hl := C.2.1.2.2.2.2.1
  have h2 := dsq_b vA vB
  have hD := lk_D hba vA vB
  obtain ⟨f, f1, f2, ef⟩ := (C.2.2.2.1.2.2.2 r hr).2.2.2.1
  have e1 : nI (bdy T d b).x - nI (bdy T d a).x = zI (((bdy T d b).x : Int) - (bdy T d a).x) := by rw [zz, zz, zI_sub]
  have e2 : nI (bdy T d b).y - nI (bdy T d a).y = zI (((bdy T d b).y : Int) - (bdy T d a).y) := by rw [zz, zz, zI_sub]
  obtain ⟨s, hs⟩ : ∃ s : Nat, s = (dsq (bdy T d a) (bdy T d b)).toNat := ⟨_, rfl⟩
  have ed : ∀ X Y : Int32, X = zI (((bdy T d b).x : Int) - (bdy T d a).x) → Y = zI (((bdy T d b).y : Int) - (bdy T d a).y) → X * X + Y * Y = nI s := by
    intro X Y hX hY
    rw [hX, hY, zI_mul, zI_mul, zI_add]
    show zI (dsq (bdy T d a) (bdy T d b)) = nI s
    rw [zz, hs, Int.toNat_of_nonneg h2.1]
  simp only [f_X5_lacks, g_X5_lacks_0, chk_t C.1.th, c_body C.1 (show a < 12 by omega), c_body C.1 (show b < 12 by omega), chk_t, ck_sI, ck_sR, ck_sJ, cal_s, bnd_e, ifn_s, ifn_n, C.2.1.2.2.1, chk_t bA.1, chk_t bB.1, bA.2.2.1, bB.2.2.1, bA.2.2.2.1, bB.2.2.2.1, e1, e2]
  generalize hX : zI (((bdy T d b).x : Int) - (bdy T d a).x) = X
  generalize hY : zI (((bdy T d b).y : Int) - (bdy T d a).y) = Y
  have eXY := ed X Y hX.symm hY.symm
  obtain ⟨q1, q2, q3⟩ := isq_ok s (by omega)
  have fin : g_X5_lacks_98 (x + 81) (nI a) (nI b) (nI r) (some (x + 83 + a)) (some (x + 83 + b)) (nI (isq s)) m = some (nI (lkN T B d a b r), m) := by
    simp only [g_X5_lacks_98, chk_t C.1.th, C.2.1.2.2.1, ck_s hl.K, hl.kr, hl.cell_3 hr, chk_t, ck_sI, ck_sR, ck_sJ, cal_s, bnd_e, ifn_s, ifn_n, ck_s bA.1, ck_s bB.1, bA.2.2.2.2.2, bB.2.2.2.2.2, ef, nI_add]
    rw [ef, cl_nI (by omega)] at hD
    unfold lkN
    rw [ef, cl_nI (by omega), ← hs]
    rw [← hs] at hD
    rw [pk_sub hD]
  have := lp_for (fun n (_ : Unit) i => l_X5_lacks_62 (x + 81) (nI a) (nI b) (nI r) (g_X5_lacks_98 (x + 81) (nI a) (nI b) (nI r)) n (some (x + 83 + a)) (some (x + 83 + b)) X Y i m) (fun _ => ()) (isq s) (some (nI (lkN T B d a b r), m)) (fun i hi n => ?_) (fun n => ?_) (n := FU) (by unfold FU; omega)
  · exact this
  · show g_X5_lacks_62 (x + 81) (nI a) (nI b) (nI r) (l_X5_lacks_62 (x + 81) (nI a) (nI b) (nI r) (g_X5_lacks_98 (x + 81) (nI a) (nI b) (nI r)) n) (g_X5_lacks_98 (x + 81) (nI a) (nI b) (nI r)) (some (x + 83 + a)) (some (x + 83 + b)) X Y (nI i) m = _
    have k1 : ¬ (64 : Int32) ≤ nI i := nI_ge (b := 64) (by omega) (by decide)
    have k3 := sq_le (show i + 1 ≤ isq s by omega)
    have k2 : ¬ nI s < nI ((i + 1) * (i + 1)) := fun q => by have := (nI_ltI (by omega) (by omega)).mp q; omega
    simp only [g_X5_lacks_62, if_neg k1, eXY, nI_1, pk_mul, if_neg k2]
  · show g_X5_lacks_62 (x + 81) (nI a) (nI b) (nI r) (l_X5_lacks_62 (x + 81) (nI a) (nI b) (nI r) (g_X5_lacks_98 (x + 81) (nI a) (nI b) (nI r)) n) (g_X5_lacks_98 (x + 81) (nI a) (nI b) (nI r)) (some (x + 83 + a)) (some (x + 83 + b)) X Y (nI (isq s)) m = _
    have k1 : ¬ (64 : Int32) ≤ nI (isq s) := nI_ge (b := 64) (by omega) (by decide)
    have k4 := sq_le (show isq s + 1 ≤ 10 by omega)
    have k2 : nI s < nI ((isq s + 1) * (isq s + 1)) := nI_lt q2 (by omega)
    simp only [g_X5_lacks_62, if_neg k1, eXY, nI_1, pk_mul, if_pos k2, fin]
end LCK
section SHB
variable {m : MM} {y i j d a b r k : Nat} {T : TW} {B : LW} {oh F : Int32} {L : List B3}
theorem r_shortBy (R : RS m y i j T B d 0 oh F) (G : FrL m y L) (hL : L.length ≤ 1320) (hk : k < L.length) (e : lat L k = (a, b, r)) (ha : a < T.2.1 0) (hb : b < T.2.1 0) (hr : r < B.2.1) (hba : baR T B 0 (bt 255) (clL T d) r (bdy T d a) (bdy T d b) = true) : f_X10_shortBy y (nI j) (nI k) m = some (nI (lkN T B d a b r), m) := by
  have hn := R.2.2.1.1
  have hj := R.1.2.2.2.2.2.2.2.2.2.1
  have RL := R.1.2.2.2.2.2.2.2.2.2.2
  have hB := R.2.2.2.2.1
  have VB' := R.2.2.2.1
  obtain ⟨g1, g2, g3⟩ := G.2 k hk
  rw [e] at g1 g2 g3
  obtain ⟨sa, hsa, rA, vA, gA⟩ := R.g ha
  obtain ⟨sb, hsb, rB, vB, gB⟩ := R.g hb
  have h2 := dsq_b vA vB
  have hD := lk_D hba vA vB
  obtain ⟨f, f1, f2, ef⟩ := (VB'.2.2.2 r hr).2.2.2.1
  have e0 : (10 : Int32) * nI j + nI r = nI (10 * j + r) := by
    show nI 10 * nI j + nI r = _
    rw [pk_mul, nI_add]
  have c3 : m.I 22 (y + 36) (10 * j + r) = nI f := (RL.2.2.2.2 r hr 3 (by omega)).trans ef
  have k1 := r_farBy R.1.1 R.1.2.1 R.1.2.2.1 R.1.2.2.2.1 R.2.1 R.1.2.2.2.2.1 R.2.2.2.2.2.1 (show a < 15 by omega) (show b < 15 by omega) rA rB vA vB hsa hsb R.1.2.2.2.2.2.2.2.2.1 (show 10 * j + r < 120 by omega) c3
  rw [← gA, ← gB, Nat.add_zero] at k1
  rw [ef, cl_nI (by omega)] at hD
  have va5 := vA.2.2.2.2
  have vb5 := vB.2.2.2.2
  obtain ⟨s, hs⟩ : ∃ s : Nat, s = (dsq (bdy T d a) (bdy T d b)).toNat := ⟨_, rfl⟩
  have ap : f_X10_apartBy y (nI a) (nI b) m = some (nI s, m) := by
    rw [r_apartBy R.1.1 (by omega) (by omega) rA rB]
    rw [zz, hs, Int.toNat_of_nonneg h2.1]
  have ek : lkN T B d a b r = f + (bdy T d a).g + (bdy T d b).g - isq s := by
    unfold lkN
    rw [ef, cl_nI (by omega), ← hs]
  rw [← hs] at hD
  simp only [f_X10_shortBy, g_X10_shortBy_0, chk_t R.1.1.1, R.1.1.c1171, R.1.1.n1171, R.1.1.c1172, R.1.1.n1172, R.1.1.c1173, R.1.1.n1173, chk_t (inb_nI (show k < 1440 by omega) (by decide)), cl_nI (show k < 2 ^ 31 by omega), g1, g2, g3, e0, k1, chk_t, ck_sI, ck_sR, ck_sJ, cal_s, bnd_e, ifn_s, ifn_n, ek]
  obtain ⟨q1, q2, q3⟩ := isq_ok s (by omega)
  generalize hDD : f + (bdy T d a).g + (bdy T d b).g = DD at *
  have hDDl : DD < 100 := by omega
  have := lp_for (fun n (_ : Unit) i => l_X10_shortBy_31 y (nI j) (nI k) n (nI DD) i m) (fun _ => ()) (DD - isq s) (some (nI (DD - isq s), m)) (fun i hi n => ?_) (fun n => ?_) (n := FU) (by unfold FU; omega)
  · exact this
  · show g_X10_shortBy_31 y (nI j) (nI k) (l_X10_shortBy_31 y (nI j) (nI k) n) (nI DD) (nI i) m = _
    have k3 := sq_le (show isq s + 1 ≤ DD - i by omega)
    have k4 := sq_le (show DD - i ≤ 100 by omega)
    have k2 : ¬ nI ((DD - i) * (DD - i)) ≤ nI s := fun q => by have := (nI_leI (by omega) (by omega)).mp q; omega
    simp only [g_X10_shortBy_31, chk_t R.1.1.1, R.1.1.c1171, R.1.1.n1171, R.1.1.c1172, R.1.1.n1172, chk_t (inb_nI (show k < 1440 by omega) (by decide)), cl_nI (show k < 2 ^ 31 by omega), g1, g2, ap, chk_t, ck_sI, ck_sR, ck_sJ, cal_s, bnd_e, ifn_s, ifn_n, pk_sub (show i ≤ DD by omega), pk_mul, if_neg k2, nI_1]
  · show g_X10_shortBy_31 y (nI j) (nI k) (l_X10_shortBy_31 y (nI j) (nI k) n) (nI DD) (nI (DD - isq s)) m = _
    have k5 : DD - (DD - isq s) = isq s := by omega
    have k2 : nI (isq s * isq s) ≤ nI s := nI_le q1 (by omega)
    simp only [g_X10_shortBy_31, chk_t R.1.1.1, R.1.1.c1171, R.1.1.n1171, R.1.1.c1172, R.1.1.n1172, chk_t (inb_nI (show k < 1440 by omega) (by decide)), cl_nI (show k < 2 ^ 31 by omega), g1, g2, ap, chk_t, ck_sI, ck_sR, ck_sJ, cal_s, bnd_e, ifn_s, ifn_n, pk_sub (show DD - isq s ≤ DD by omega), k5, pk_mul, if_pos k2]
end SHB
def baV (T : TW) (B : LW) (d : Nat) (k w : Int32) : Int32 := cond (isN (br0 T B d).length k) (if w = 0 then nI (lat (br0 T B d) k.toNatClampNeg).1 else if w = 1 then nI (lat (br0 T B d) k.toNatClampNeg).2.1 else if w = 2 then nI (lat (br0 T B d) k.toNatClampNeg).2.2 else if w = 3 then nI (lkN T B d (lat (br0 T B d) k.toNatClampNeg).1 (lat (br0 T B d) k.toNatClampNeg).2.1 (lat (br0 T B d) k.toNatClampNeg).2.2) else if w = 4 then gwV T B d (lat (br0 T B d) k.toNatClampNeg).1 (lat (br0 T B d) k.toNatClampNeg).2.1 else -10000) (-10000)
theorem barP_ba {T : TW} {B : LW} {d w a b r : Nat} {H : Nat → Bool} {L : BD → BD → Bool} (h : barP T B d w H L a b r = true) : baR T B w H L r (bdy T d a) (bdy T d b) = true := by
  unfold barP at h
  rw [Bool.and_eq_true] at h
  exact h.2
theorem m_bar (x : Nat) (p q d n w : Int32) : Mq x (f_X9_bar x p q d n w) (f_X10_bar (x + 106) p q d n w) := by
  refine Mq_o p q d (-10000) (fun T B k => baV T B k n w) (fun m W D h ho => ⟨m, ?_, Fq.rf x m⟩) (fun m W D i j k h hi hj hk e1 e2 e3 => ?_) (fun m W D h ho => ⟨_, ?_, fq_code x m⟩) (fun m W D i j k h hi hj hk e1 e2 e3 => ?_)
  · simp only [g_X9_bar_0, f_X9_bar, chk_t h.kx, c_opened0 h ho, chk_t, ck_sI, ck_sR, ck_sJ, cal_s, bnd_e, ifn_s, ifn_n, if_true]
  · subst e1; subst e2; subst e3
    have hB := (h.cl hj).n.2.2
    obtain ⟨m1, m2, o1, s1, o2, f2, C, G, g⟩ := c_oc h hi hj hk
    have hL : (br0 (W.tn i) (W.lw j) k).length ≤ 1320 := barL_le hB
    refine ⟨m2, ?_, f2⟩
    simp only [g_X9_bar_0, f_X9_bar, chk_t h.kx, o1, chk_t, ck_sI, ck_sR, ck_sJ, cal_s, bnd_e, ifn_s, ifn_n, if_neg ne10, chk_t s1.1.1, s1.ct, o2, chk_t g.kx, C.1.ct, C.1.sn, G.1, baV]
    cases hn : isN (br0 (W.tn i) (W.lw j) k).length n with
    | false =>
      rcases isN_f hn with z | z
      · simp only [if_pos z, cond_false]
      · have z2 : ¬ n < nI (br0 (W.tn i) (W.lw j) k).length := Int32.not_lt.mpr z
        simp only [if_neg z2, ite_self, cond_false]
    | true =>
      obtain ⟨c, hc, e⟩ := (isN_iff (by omega)).mp hn
      subst e
      have z1 : ¬ nI c < 0 := nI_pos (by omega)
      have z2 : nI c < nI (br0 (W.tn i) (W.lw j) k).length := nI_lt hc (by omega)
      obtain ⟨a, b, r, el, ha, hb, hab, hr, hP⟩ := bar_ok hc
      have hn0 := (h.nn hi).1
      have el' : lat (br0 (W.tn i) (W.lw j) k) c = (a, b, r) := el
      simp only [if_neg z1, if_pos z2, cond_true, cl_nI (show c < 2 ^ 31 by omega), c_firstOf C.1 G hL hc el' (show a < 12 by omega) (show b < 12 by omega) (show r < 10 by omega), c_secondOf C.1 G hL hc el' (show a < 12 by omega) (show b < 12 by omega) (show r < 10 by omega), c_ruleOf C.1 G hL hc el' (show a < 12 by omega) (show b < 12 by omega) (show r < 10 by omega), chk_t, ck_sI, ck_sR, ck_sJ, cal_s, bnd_e, ifn_s, ifn_n, chk_t g.kx, C.1.ct, C.1.sn, c_lacks C ha hb hr (barP_ba hP), c_whoGoes C.1 C.2.1 C.2.2.2.1 G hL hc el' ha hb hab (show r < 10 by omega), el']
      by_cases w0 : w = 0
      · simp only [if_pos w0]
      simp only [if_neg w0]
      by_cases w1 : w = 1
      · simp only [if_pos w1]
      simp only [if_neg w1]
      by_cases w2 : w = 2
      · simp only [if_pos w2]
      simp only [if_neg w2]
      by_cases w3 : w = 3
      · simp only [if_pos w3]
      simp only [if_neg w3]
      by_cases w4 : w = 4
      · simp only [if_pos w4]
      simp only [if_neg w4]
  · simp only [g_X10_bar_0, f_X10_bar, chk_t h.M.1, chk_t, ck_sI, ck_sR, ck_sJ, cal_s, bnd_e, ifn_s, ifn_n, r_bring0 h.code ho, if_true]
  · subst e1; subst e2; subst e3
    have hB := (h.cl hj).n.2.2
    obtain ⟨m2, o2, f2, R, G, g⟩ := r_bb h.code hi hj hk
    have hL : (br0 (W.tn i) (W.lw j) k).length ≤ 1320 := barL_le hB
    refine ⟨m2, ?_, (fq_code x m).tr f2⟩
    simp only [g_X10_bar_0, f_X10_bar, chk_t h.M.1, chk_t, ck_sI, ck_sR, ck_sJ, cal_s, bnd_e, ifn_s, ifn_n, o2, if_neg ne10, chk_t g.M.1, G.1, r_in, inR_isN (show (br0 (W.tn i) (W.lw j) k).length < 2 ^ 30 by omega), bI_0, baV]
    cases hn : isN (br0 (W.tn i) (W.lw j) k).length n with
    | false => simp only [if_true, cond_false]
    | true =>
      obtain ⟨c, hc, e⟩ := (isN_iff (by omega)).mp hn
      subst e
      obtain ⟨a, b, r, el, ha, hb, hab, hr, hP⟩ := bar_ok hc
      have el' : lat (br0 (W.tn i) (W.lw j) k) c = (a, b, r) := el
      obtain ⟨g1, g2, g3⟩ := G.2 c hc
      simp only [Bool.true_eq_false, if_false, cond_true, cl_nI (show c < 2 ^ 31 by omega), R.1.1.c1171, R.1.1.n1171, R.1.1.c1172, R.1.1.n1172, R.1.1.c1173, R.1.1.n1173, chk_t (inb_nI (show c < 1440 by omega) (by decide)), g1, g2, g3, r_shortBy R G hL hc el' ha hb hr (barP_ba hP), r_goer R G hL hc el' ha hb hab, chk_t, ck_sI, ck_sR, ck_sJ, cal_s, bnd_e, ifn_s, ifn_n, el']
      by_cases w0 : w = 0
      · simp only [if_pos w0]
      simp only [if_neg w0]
      by_cases w1 : w = 1
      · simp only [if_pos w1]
      simp only [if_neg w1]
      by_cases w2 : w = 2
      · simp only [if_pos w2]
      simp only [if_neg w2]
      by_cases w3 : w = 3
      · simp only [if_pos w3]
      simp only [if_neg w3]
      by_cases w4 : w = 4
      · simp only [if_pos w4]
      simp only [if_neg w4]
