/-! plans -/
def plO (T : TW) (d : Nat) (bare : Int32) (i : Nat) : Bool := cond (decide (bare = 0)) (sB T d i) false
def plS (T : TW) (B : LW) (d : Nat) (wo bare : Int32) : Option (Nat → Nat) := se (wsA T B d wo (plO T d bare)) (wsC T B d wo) (T.2.1 5) 0 (fun _ => 0)
theorem plO_n {T : TW} {d i : Nat} {bare : Int32} (h : plO T d bare i = true) : i < T.2.1 0 := by
  unfold plO at h
  cases hb : decide (bare = 0) with
  | true => rw [hb] at h; exact sB_n h
  | false => rw [hb] at h; cases h
theorem c_findPlan {m : MM} {x t l d : Nat} {T : TW} {B : LW} {wo : Int32} (C : CS m x t l T B d 0 255 wo) (bare : Int32) : ∃ m', f_X3_findPlan (x + 99) bare m = some (bI (plS T B d wo bare).isSome, m') ∧ Pn x m m' ∧ ∀ ps', plS T B d wo bare = some ps' → Gsd m' x (T.2.1 5) (wkN T) (wfV T) ps' := by
  have ct := C.2.1.2.2.2.1
  have hN : T.2.1 5 ≤ 3 := ct.nn.2.2.2.2.2
  have V := C.2.2.1
  have hkk : ∀ e, e < T.2.1 5 → wkN T e < 6 := fun e he => (nB_e (V.2.2.2.2.2.2.2.2.2 e he).1 (by omega)).2
  have hff : ∀ e, e < T.2.1 5 → wfV T e = -1 ∨ nB (wfV T e) 4 := fun e he => (V.2.2.2.2.2.2.2.2.2 e he).2
  obtain ⟨s, ⟨q1, q2⟩, q3⟩ := lp_inv (fun n i (s : MM) => l_X3_findPlan_22 (x + 99) bare n (some (t + 11)) i s) (fun i s => Pn x m s ∧ SF s x i (wkN T) (wfV T) (wsA T B d wo (plO T d bare))) (fun s => cal (f_X3_seatAll (x + 99) (nI (T.2.1 5)) s) (fun r2 m3 => chk (r2 = 0 ∨ r2 = 1) (some (r2, m3)))) (T.2.1 5) (fun i hi s hI => by
    obtain ⟨a1, a2⟩ := hI
    have Cs := C.pn a1
    have cs := Cs.2.1.2.2.2.1
    have gs := Cs.1.2.2.2.2
    have e1 : ¬ nI (T.2.1 5) ≤ nI i := nI_ge hi (by omega)
    have e2 : ¬ nI 3 ≤ nI i := nI_ge (by omega) (by decide)
    have ek := (nB_e (V.2.2.2.2.2.2.2.2.2 i hi).1 (by omega)).1
    obtain ⟨n1, u1, u2, u3, u4, u5⟩ := c_welcome Cs.1 (i := i) (by omega) (wkN T i) (wfV T i)
    have u1 : f_X3_welcome (x + 99) (nI i) (T.2.2 5 i 0) (T.2.2 5 i 1) s = some ((), n1) := by rw [ek]; exact u1
    have C1 := Cs.pn u2
    have g1 := C1.1.2.2.2.2
    have hq : ∃ q, q = (if bare = 0 then mks (sB T d) 12 else 0) ∧ ∀ z, z < 12 → bt q z = plO T d bare z := by
      refine ⟨_, rfl, fun z hz => ?_⟩
      unfold plO
      by_cases hb : bare = 0
      · rw [if_pos hb, decide_eq_true hb, cond_true, bt_mks (by omega) z (by omega), decide_eq_true hz, Bool.true_and]
      · rw [if_neg hb, decide_eq_false hb, cond_false, bt_0]
    obtain ⟨q, eq, hq⟩ := hq
    obtain ⟨n2, v1, v2⟩ := c_openPoints (q := q) (O := plO T d bare) C1 hq (fun z _ hz => plO_n hz) (i := i) (by omega) u4 (hkk i hi) (hff i hi)
    have C2 := C1.pn (v2.p (by omega))
    have g2 := C2.1.2.2.2.2
    refine ⟨n2.sJ 23 (x + 104) i (mkL (wsA T B d wo (plO T d bare) i) 64), ⟨((a1.tr u2).tr (v2.p (by omega))).sJ _ _ _ _, fun c hc => ?_⟩, fun n => ?_⟩
    · by_cases z : c = i
      · subst z
        have u5' : Wl n2 x c (wkN T c) (wfV T c) := u4.gi v2
        exact ⟨u5', by rw [J_sJ, if_pos ⟨rfl, rfl, rfl⟩]⟩
      · obtain ⟨b1, b2⟩ := a2 c (by omega)
        refine ⟨?_, by rw [J_sJ, if_neg (fun y => z y.2.2), v2.2.2.2.2.1, u3]; exact b2⟩
        have w1 : Wl n1 x c (wkN T c) (wfV T c) := ⟨by rw [u2.1]; exact b1.1, by rw [u5 _ _ _ (by omega)]; exact b1.2.1, by rw [u5 _ _ _ (by omega)]; exact b1.2.2.1, by rw [u5 _ _ _ (by omega)]; exact b1.2.2.2⟩
        have w2' : Wl n2 x c (wkN T c) (wfV T c) := w1.gi v2
        exact w2'
    · show g_X3_findPlan_22 (x + 99) bare (l_X3_findPlan_22 (x + 99) bare n) (some (t + 11)) (nI i) s = _
      have f85 : ∀ w, w = q → g_X3_findPlan_85 (x + 99) bare (l_X3_findPlan_22 (x + 99) bare n) (some (t + 11)) (nI i) (n1.R 402 (x + 99) 0) (nI i) (some (x + 99)) (nI i) w n1 = l_X3_findPlan_22 (x + 99) bare n (some (t + 11)) (nI (i + 1)) (n2.sJ 23 (x + 104) i (mkL (wsA T B d wo (plO T d bare) i) 64)) := by
        intro w hw
        rw [hw]
        unfold g_X3_findPlan_85
        rw [ck_s g1.1, v1, cal_s, show n1.R 402 (x + 99) 0 = some (x + 104) from g1.2.2.2.1, ck_s (show n2.K (x + 104) = 23 from g2.2.2.2.2.2.2.2.1), show n2.N (x + 104) = 3 from g2.2.2.2.2.2.2.2.2.1, chk_t (inb_nI (show i < 3 by omega) (by decide)), bnd_e, cl_nI (show i < 2 ^ 31 by omega), nI_1]
        rfl
      unfold g_X3_findPlan_22
      rw [ck_s cs.n5.2.1, cs.n5.1, if_neg e1, chk_t gs.1, ck_e gs.2.2.2.1 gs.2.2.2.2.2.2.2.1, gs.2.2.2.2.2.2.2.2.1, ofN, if_neg e2, cs.cell5_0 hi, cal_s, chk_t cs.n5.2.1, cs.cell5_1 hi, cal_s, chk_t gs.1, u1, cal_s, chk_t g1.1]
      by_cases hb : bare = 0
      · rw [if_pos hb, show n1.R 400 (x + 99) 0 = some (x + 81) from C1.1.2.2.2.2.2.1, ck_s C1.1.th, C1.2.2.2.2.2.1]
        exact f85 _ (by rw [eq, if_pos hb])
      · rw [if_neg hb]
        exact f85 _ (by rw [eq, if_neg hb])) (fun s hI n => by
    obtain ⟨a1, a2⟩ := hI
    have Cs := C.pn a1
    have cs := Cs.2.1.2.2.2.1
    have gs := Cs.1.2.2.2.2
    show g_X3_findPlan_22 (x + 99) bare (l_X3_findPlan_22 (x + 99) bare n) (some (t + 11)) (nI (T.2.1 5)) s = _
    unfold g_X3_findPlan_22
    rw [ck_s cs.n5.2.1, cs.n5.1, if_pos (Int32.le_refl _), chk_t gs.1]) (s0 := m) ⟨Pn.rf x m, fun c hc => by omega⟩
  have Cs := C.pn q1
  obtain ⟨m', w1, w2, w3⟩ := c_seatAll (N := T.2.1 5) (ps := fun _ => 0) Cs hN hkk hff q2
  have hcl : gsC T B d wo (wkN T) (wfV T) = wsC T B d wo := rfl
  rw [hcl] at w1 w3
  refine ⟨m', ?_, q1.tr w2, w3⟩
  have g := C.1.2.2.2.2
  unfold f_X3_findPlan g_X3_findPlan_0
  rw [chk_t g.1, show m.R 400 (x + 99) 0 = some (x + 81) from C.1.2.2.2.2.2.1, ck_s C.1.th, bnd_e, C.2.1.2.1, ifn_s, chk_t ct.K, bnd_e, ct.R9]
  refine (q3 FU (by unfold FU; omega)).trans ?_
  rw [w1, cal_s, chk_t (bI_01 _)]
  rfl
theorem c_pointOf {m : MM} {x e : Nat} {k p : Nat} {f : Int32} (hS : Sh m x) (he : e < 3) (hb : Bo m (x + 101 + e) (gst k f p)) (hp : p < 64) : f_X3_pointOf (x + 99) (nI e) m = some (nI p, m) := by
  have b1 : m.I 101 (x + 101 + e) 0 = nI (p % 8) := hb.2.2.1
  have b2 : m.I 102 (x + 101 + e) 0 = nI (p / 8) := hb.2.2.2.1
  have ep : nI (p / 8) * 8 + nI (p % 8) = nI p := by
    show nI (p / 8) * nI 8 + nI (p % 8) = _
    rw [pk_mul, nI_add]
    congr 1; omega
  simp only [g_X3_pointOf_0, f_X3_pointOf, chk_t hS.2.2.2.2.1, c_guest hS he, chk_t, ck_sI, ck_sR, ck_sJ, cal_s, bnd_e, ifn_s, ifn_n, chk_t hb.1, b1, b2, ep]
theorem RO.st {m : MM} {y i j d : Nat} {T : TW} {B : LW} {O O2 : Nat → Bool} (h : RO m y i j T B d O) (hO : ∀ k, k < 12 → O2 k = true → k < T.2.1 0) {v : Int32} (hv : v = mks O2 12) : RO (m.sI 1165 y 0 v) y i j T B d O2 := by
  obtain ⟨⟨h1, h2, h3, h4, h5, h6, h7, h8, h9, h10, h11⟩, V, N, VB', hB, hd, h65, hb, _⟩ := h
  exact ⟨⟨h1, by rw [I_sI, if_neg (by omega)]; exact h2, h3, h4.kept (ar_y m y 1165 v), by rw [I_sI, if_neg (by omega)]; exact h5, by rw [I_sI, if_neg (by omega)]; exact h6, h7, by rw [I_sI, if_neg (by omega)]; exact h8, by rw [I_sI, if_neg (by omega)]; exact h9, h10, h11.kept (ar_y m y 1165 v)⟩, V, N, VB', hB, hd, by rw [I_sI, if_pos ⟨rfl, rfl, rfl⟩]; exact hv, fun k hk => (hb k hk).kept (fun a a1 a2 => by rw [I_sI, if_neg (by omega)]), hO⟩
theorem mks_f (n : Nat) : mks (fun _ => false) n = 0 := by
  induction n with
  | zero => rfl
  | succ n ih => rw [mks_s, if_neg (by decide)]; exact ih
theorem r_findPlanO {m : MM} {x i j d : Nat} {T : TW} {B : LW} {but : Int32} {O : Nat → Bool} (bare : Int32) (R : RO m (x + 106) i j T B d O) (hOb : bare = 0 → O = sB T d) : ∃ m', f_X10_findPlan (x + 106) (nI i) (nI j) bare but m = some (bI (plS T B d but bare).isSome, m') ∧ Fq x m m' ∧ RO m' (x + 106) i j T B d (plO T d bare) ∧ ∀ ps', plS T B d but bare = some ps' → ∀ e, e < T.2.1 5 → ps' e < 64 ∧ m'.I 22 (x + 106 + 53) e = nI (ps' e) := by
  have hn3 : T.2.1 5 ≤ 3 := R.2.2.1.2.2.2.2.2
  have hi := R.1.2.2.1
  obtain ⟨v, hv⟩ : ∃ v, v = (if bare = 0 then mks (sB T d) 12 else 0) := ⟨_, rfl⟩
  have hvO : v = mks (plO T d bare) 12 := by
    rw [hv]
    by_cases hb : bare = 0
    · rw [if_pos hb]
      exact mks_congr (fun z _ => by unfold plO; rw [decide_eq_true hb, cond_true])
    · rw [if_neg hb, mks_congr (Q := fun _ => false) (fun z _ => by unfold plO; rw [decide_eq_false hb, cond_false]), mks_f]
  have R1 := R.st (O2 := plO T d bare) (fun k _ hk => plO_n hk) hvO
  obtain ⟨m1, hm1⟩ : ∃ q, q = m.sI 1165 (x + 106) 0 v := ⟨_, rfl⟩
  rw [← hm1] at R1
  have f1 : Fq x m m1 := by rw [hm1]; exact (Fq.rf x m).sI _ _ _ _ (by unfold inW; omega)
  have o9 : f_X10_of (x + 106) (nI i) 9 m1 = some (nI (T.2.1 5), m1) := by rw [← R1.1.2.2.2.1.1.2.2.2.2.2.2.2.2.2.1]; exact r_of R1.1.1 (w := 9) (by omega) (by omega)
  obtain ⟨m2, hm2⟩ : ∃ q, q = m1.sI 22 (x + 106 + 53) 0 (-1) := ⟨_, rfl⟩
  have l2 : Ln (x + 106) m1 m2 := by rw [hm2]; exact (Ln.rf _ m1).sI _ _ _ _ (.inr (.inr rfl))
  have R2 := R1.ln l2
  obtain ⟨s, m', hs, l', ho⟩ := r_level (but := but) rfl bare (T.2.1 5) 0 (by omega) (fun _ => 0) m2 ⟨R2, fun c hc => by omega⟩ (fun _ => by rw [hm2, I_sI, if_pos ⟨rfl, rfl, rfl⟩])
  have hbd : bdS (T.2.1 5) ≤ 532609 := by
    have : T.2.1 5 = 0 ∨ T.2.1 5 = 1 ∨ T.2.1 5 = 2 ∨ T.2.1 5 = 3 := by omega
    rcases this with q | q | q | q <;> rw [q] <;> decide
  have pre : f_X10_findPlan (x + 106) (nI i) (nI j) bare but m = l_X10_findPlan_35 (x + 106) (nI i) (nI j) bare but (g_X10_findPlan_169 (x + 106) (nI i) (nI j) bare but) FU (nI (T.2.1 5)) 0 m2 := by
    have f13 : g_X10_findPlan_13 (x + 106) (nI i) (nI j) bare but (some (x + 106)) v m = l_X10_findPlan_35 (x + 106) (nI i) (nI j) bare but (g_X10_findPlan_169 (x + 106) (nI i) (nI j) bare but) FU (nI (T.2.1 5)) 0 m2 := by
      unfold g_X10_findPlan_13
      rw [ck_s R.1.1.1, bnd_e, ← hm1, chk_t R1.1.1.1, o9, cal_s, chk_t R1.1.1.1, R1.1.1.c1176, R1.1.1.n1176, chk_t (show inb 0 3 = true by decide), bnd_e, show Int32.toNatClampNeg 0 = 0 from rfl, ← hm2]
    unfold f_X10_findPlan g_X10_findPlan_0
    by_cases hb : bare = 0
    · rw [if_pos hb, chk_t R.1.1.1, R.2.2.2.2.2.2.1, hOb hb]
      rw [hv, if_pos hb] at f13
      exact f13
    · rw [if_neg hb]
      rw [hv, if_neg hb] at f13
      exact f13
  have hlev : f_X10_findPlan (x + 106) (nI i) (nI j) bare but m = l_X10_findPlan_35 (x + 106) (nI i) (nI j) bare but (g_X10_findPlan_169 (x + 106) (nI i) (nI j) bare but) (FU - s + s) (nI (T.2.1 5)) (nI 0) m2 := by
    rw [pre, show FU - s + s = FU by unfold FU; omega]
    rfl
  rcases ho with ⟨ps', o1, o2, o3⟩ | ⟨o1, o2, o3⟩
  · have hpl : plS T B d but bare = some ps' := o1
    refine ⟨m', by rw [hlev, o3, hpl]; rfl, f1.tr (l2.tr l').f, R2.ln l', fun ps2 h2 e he => ?_⟩
    rw [hpl] at h2
    have : ps' = ps2 := Option.some.inj h2
    rw [← this]
    exact o2 e he
  · have hpl : plS T B d but bare = none := o1
    refine ⟨m', ?_, f1.tr (l2.tr l').f, R2.ln l', fun ps2 h2 => by rw [hpl] at h2; cases h2⟩
    rw [hlev, o3, hpl]
    obtain ⟨k, hk⟩ : ∃ k, FU - s = k + 1 := ⟨FU - s - 1, by unfold FU; omega⟩
    rw [hk]
    show g_X10_findPlan_35 (x + 106) (nI i) (nI j) bare but (l_X10_findPlan_35 (x + 106) (nI i) (nI j) bare but (g_X10_findPlan_169 (x + 106) (nI i) (nI j) bare but) k) (g_X10_findPlan_169 (x + 106) (nI i) (nI j) bare but) (nI (T.2.1 5)) (nI 0 + (-1)) m' = _
    have e0 : nI 0 + (-1) = (-1 : Int32) := by decide
    have hN0 : T.2.1 5 ≠ 0 := fun q => by
      unfold plS at hpl
      rw [q] at hpl
      cases hpl
    have e1 : ¬ nI (T.2.1 5) ≤ -1 := fun q => by
      rw [i_le, nI_toInt (by omega)] at q
      have : (-1 : Int32).toInt = -1 := by decide
      omega
    have e2 : ¬ (-1 : Int32) = nI (T.2.1 5) := fun q => nI_ne_m1 (show T.2.1 5 < 2 ^ 31 by omega) q.symm
    rw [e0]
    unfold g_X10_findPlan_35 g_X10_findPlan_169
    rw [if_neg e1, if_pos (show (-1 : Int32) < 0 by decide), if_neg e2]
    rfl
theorem r_findPlan {m : MM} {x i j d : Nat} {T : TW} {B : LW} {but : Int32} (bare : Int32) (R : RO m (x + 106) i j T B d (sB T d)) : ∃ m', f_X10_findPlan (x + 106) (nI i) (nI j) bare but m = some (bI (plS T B d but bare).isSome, m') ∧ Fq x m m' ∧ RO m' (x + 106) i j T B d (plO T d bare) ∧ ∀ ps', plS T B d but bare = some ps' → ∀ e, e < T.2.1 5 → ps' e < 64 ∧ m'.I 22 (x + 106 + 53) e = nI (ps' e) := r_findPlanO bare R (fun _ => rfl)
theorem r_findPlan1 {m : MM} {x i j d : Nat} {T : TW} {B : LW} {but : Int32} {O : Nat → Bool} (R : RO m (x + 106) i j T B d O) : ∃ m', f_X10_findPlan (x + 106) (nI i) (nI j) 1 but m = some (bI (plS T B d but 1).isSome, m') ∧ Fq x m m' ∧ RO m' (x + 106) i j T B d (plO T d 1) := by
  obtain ⟨m', h1, h2, h3, _⟩ := r_findPlanO (but := but) 1 R (fun z => absurd z (by decide))
  exact ⟨m', h1, h2, h3⟩
def plV (T : TW) (B : LW) (d : Nat) (bare k : Int32) : Int32 := cond (isN (T.2.1 5) k) (match plS T B d (-1) bare with | some ps => nI (ps k.toNatClampNeg) | none => -1) (-1)
theorem m_plan (x : Nat) (p q d bare k : Int32) : Mq x (f_X9_plan x p q d bare k) (f_X10_plan (x + 106) p q d bare k) := by
  refine Mq_o p q d (-1) (fun T B e => plV T B e bare k) (fun m W D h ho => ⟨m, ?_, Fq.rf x m⟩) (fun m W D i j e h hi hj hk e1 e2 e3 => ?_) (fun m W D h ho => ⟨_, ?_, fq_code x m⟩) (fun m W D i j e h hi hj hk e1 e2 e3 => ?_)
  · have hnt := h.nt
    simp only [g_X9_plan_0, f_X9_plan, chk_t h.kx, h.now]
    cases hp : isN W.nt p with
    | false => simp only [c_townAt0 h.T hp, chk_t, ck_sI, ck_sR, ck_sJ, cal_s, bnd_e, ifn_s, ifn_n]
    | true =>
      obtain ⟨i, hi, e⟩ := (isN_iff (by omega)).mp hp
      subst e
      have ct := h.ct hi
      simp only [c_townAt h.T hi, chk_t, ck_sI, ck_sR, ck_sJ, cal_s, bnd_e, ifn_s, ifn_n, chk_t ct.K, ct.k5, ct.n5.1, chk_t h.kx, c_opened0 h ho, if_true, ite_self]
  · subst e1; subst e2; subst e3
    have hnt := h.nt
    have ct := h.ct hi
    have hN := (h.nn hi).2.2.2.2.2
    unfold f_X9_plan g_X9_plan_0
    rw [chk_t h.kx, h.now, c_townAt h.T hi, cal_s, ifn_s]
    unfold plV
    cases hkk : isN ((W.tn i).2.1 5) k with
    | false =>
      refine ⟨m, ?_, Fq.rf x m⟩
      rw [cond_false]
      rcases isN_f hkk with z | z
      · rw [if_pos z]
      · by_cases z0 : k < 0
        · rw [if_pos z0]
        · rw [if_neg z0, chk_t ct.K, ct.k5, ct.n5.1, if_pos z]
    | true =>
      obtain ⟨c, hc, ec⟩ := (isN_iff (by omega)).mp hkk
      subst ec
      obtain ⟨m1, o1, f1, C1⟩ := c_opened1 h hi hj hk
      obtain ⟨m2, w1, w2, w3⟩ := c_findPlan C1 bare
      have C2 := C1.pn w2
      refine ⟨m2, ?_, f1.tr w2.f⟩
      rw [if_neg (nI_pos (show c < 2 ^ 31 by omega)), chk_t ct.K, ct.k5, ct.n5.1, if_neg (nI_ge hc (by omega)), chk_t h.kx, o1, cal_s, if_neg ne10, chk_t C1.1.1.1, C1.1.pn, w1, cal_s, cond_true, cl_nI (show c < 2 ^ 31 by omega)]
      cases hpl : plS (W.tn i) (W.lw j) e (-1) bare with
      | none => rw [if_pos (show bI (none : Option (Nat → Nat)).isSome = 0 from rfl)]
      | some ps =>
        obtain ⟨b1, b2⟩ := w3 ps hpl c hc
        rw [if_neg (show ¬ bI (some ps).isSome = 0 from (show ¬ bI true = 0 by decide)), chk_t C2.1.1.1, C2.1.pn, c_pointOf C2.1 (by omega) b2 b1, cal_s]
  · have hnt := h.nt
    have hnl := h.nl
    have g := h.code
    simp only [f_X10_plan, g_X10_plan_0, chk_t h.M.1, chk_t, ck_sI, ck_sR, ck_sJ, cal_s, bnd_e, ifn_s, ifn_n]
    unfold opB at ho
    generalize m.sI 1100 (x + 106) 0 0 = m1 at g ⊢
    simp only [r_isTown g.M g.R hnt, r_isLaw g.M g.R hnl, r_isDay, chk_t, ck_sI, ck_sR, ck_sJ, cal_s, bnd_e, ifn_s, ifn_n, bI_0]
    cases hp : isN W.nt p with
    | false => simp
    | true =>
      cases hq : isN W.nl q with
      | false => simp [chk_t g.M.1]
      | true =>
        have hd : isN 1000 d = false := by rw [hp, hq] at ho; simpa using ho
        simp [hd, chk_t g.M.1]
  · subst e1; subst e2; subst e3
    have hnt := h.nt
    have hnl := h.nl
    have hN := (h.nn hi).2.2.2.2.2
    have g := h.code
    have fc := fq_code x m
    unfold f_X10_plan g_X10_plan_0
    rw [chk_t h.M.1, bnd_e]
    generalize m.sI 1100 (x + 106) 0 0 = m0 at g fc ⊢
    have o9 : f_X10_of (x + 106) (nI i) 9 m0 = some (nI ((W.tn i).2.1 5), m0) := by rw [← (g.rt hi).1.2.2.2.2.2.2.2.2.2.1]; exact r_of g.M (w := 9) (by omega) (by omega)
    have b1 : ¬ bI true = 0 := by decide
    rw [r_isTown g.M g.R hnt, cal_s, isN_nI (by omega) hi, if_neg b1, chk_t g.M.1, r_isLaw g.M g.R hnl, cal_s, isN_nI (by omega) hj, if_neg b1, r_isDay, cal_s, isN_nI (by decide) hk, if_neg b1, chk_t g.M.1, o9, cal_s, r_in, cal_s, inR_isN (by omega)]
    unfold plV
    cases hkk : isN ((W.tn i).2.1 5) k with
    | false => exact ⟨m0, by rw [bI_f, if_pos rfl, cond_false], fc⟩
    | true =>
      obtain ⟨c, hc, ec⟩ := (isN_iff (by omega)).mp hkk
      subst ec
      obtain ⟨m1, e1, f1, R1⟩ := r_br g hi hj hk
      obtain ⟨m2, w1, w2, w3, w4⟩ := r_findPlan (but := -1) bare R1.o
      refine ⟨m2, ?_, fc.tr (f1.tr w2)⟩
      rw [if_neg b1, chk_t g.M.1, e1, cal_s, chk_t R1.1.1.1, w1, cal_s, cond_true, cl_nI (show c < 2 ^ 31 by omega)]
      cases hpl : plS (W.tn i) (W.lw j) e (-1) bare with
      | none => rw [if_pos (show bI (none : Option (Nat → Nat)).isSome = 0 from rfl)]
      | some ps => rw [if_neg (show ¬ bI (some ps).isSome = 0 from (show ¬ bI true = 0 by decide)), chk_t w3.1.1.1, w3.1.1.c1176, w3.1.1.n1176, chk_t (inb_nI (show c < 3 by omega) (by decide)), (w4 ps hpl c hc).2]
/-! blame -/
def blP (T : TW) (B : LW) (d r : Nat) : Bool := (plS T B d (nI r) 1).isSome
def bmV (T : TW) (B : LW) (d : Nat) : Int32 := cond (plS T B d (-1) 1).isSome (-1) (fnd (blP T B d) (fun r => nI r) (-1) B.2.1 0)
theorem plS_1 (T : TW) (B : LW) (d : Nat) (but : Int32) : plS T B d but 1 = se (wsA T B d but (fun _ => false)) (wsC T B d but) (T.2.1 5) 0 (fun _ => 0) := by
  have : plO T d 1 = fun _ => false := by
    funext z
    unfold plO
    rw [decide_eq_false (show ¬ (1 : Int32) = 0 by decide)]
    rfl
  unfold plS
  rw [this]
theorem m_blame (x : Nat) (p q d : Int32) : Mq x (f_X9_blame x p q d) (f_X10_blame (x + 106) p q d) := by
  refine Mq_o p q d (-1) (fun T B e => bmV T B e) (fun m W D h ho => ⟨m, ?_, Fq.rf x m⟩) (fun m W D i j e h hi hj hk e1 e2 e3 => ?_) (fun m W D h ho => ⟨_, ?_, fq_code x m⟩) (fun m W D i j e h hi hj hk e1 e2 e3 => ?_)
  · have hnl := h.nl
    simp only [f_X9_blame, g_X9_blame_0, chk_t h.kx, h.now]
    cases hq : isN W.nl q with
    | false => simp only [c_lawAt0 h.T hq, chk_t, ck_sI, ck_sR, ck_sJ, cal_s, bnd_e, ifn_s, ifn_n]
    | true =>
      obtain ⟨j, hj, e⟩ := (isN_iff (by omega)).mp hq
      subst e
      simp only [c_lawAt h.T hj, chk_t, ck_sI, ck_sR, ck_sJ, cal_s, bnd_e, ifn_s, ifn_n, chk_t h.kx, c_opened0 h ho, if_true]
  · subst e1; subst e2; subst e3
    have hB := (h.cl hj).n.2.2
    obtain ⟨m1, o1, f1, C1⟩ := c_opened1 h hi hj hk
    obtain ⟨m2, w1, w2, _⟩ := c_findPlan C1 1
    have C2 := C1.pn w2
    unfold f_X9_blame g_X9_blame_0
    rw [chk_t h.kx, h.now, c_lawAt h.T hj, cal_s, ifn_s, chk_t h.kx, o1, cal_s, if_neg ne10, chk_t C1.1.1.1, C1.1.pn, w1, cal_s]
    unfold bmV
    cases hpl : (plS (W.tn i) (W.lw j) e (-1) 1).isSome with
    | true => exact ⟨m2, by rw [if_neg (show ¬ bI true = 0 by decide), cond_true], f1.tr w2.f⟩
    | false =>
      rw [bI_f, if_pos rfl, cond_false]
      obtain ⟨r, ⟨m', er, fr⟩, hr⟩ := lp_ex (fun n c (s : MM) => l_X9_blame_41 x (nI i) (nI j) (nI e) n (some (x + 1 + 19 + 18 * j)) c s) (fun c s => fnd (blP (W.tn i) (W.lw j) e) (fun r => nI r) (-1) ((W.lw j).2.1 - c) c = fnd (blP (W.tn i) (W.lw j) e) (fun r => nI r) (-1) (W.lw j).2.1 0 ∧ Fq x m s ∧ ∃ wo, CS s x (x + 1 + 4 + 18 * i) (x + 1 + 19 + 18 * j) (W.tn i) (W.lw j) e 0 255 wo) (fun r => ∃ m', r = some (fnd (blP (W.tn i) (W.lw j) e) (fun r => nI r) (-1) (W.lw j).2.1 0, m') ∧ Fq x m m') (W.lw j).2.1 0 (by omega) (fun c _ hc s hI => by
        obtain ⟨a1, a2, wo, C⟩ := hI
        have cl := C.2.1.2.2.2.2.1
        have C' := C.wt (nI c)
        obtain ⟨m3, v1, v2, _⟩ := c_findPlan C' 1
        have C3 := C'.pn v2
        have f3 : Fq x m m3 := (a2.sI _ _ _ _ (by unfold inW; omega)).tr v2.f
        have z1 : ¬ nI (W.lw j).2.1 ≤ nI c := nI_ge hc (by omega)
        have st : ∀ n, l_X9_blame_41 x (nI i) (nI j) (nI e) (n + 1) (some (x + 1 + 19 + 18 * j)) (nI c) s = if bI (blP (W.tn i) (W.lw j) e c) = 0 then l_X9_blame_41 x (nI i) (nI j) (nI e) n (some (x + 1 + 19 + 18 * j)) (nI (c + 1)) m3 else some (nI c, m3) := by
          intro n
          show g_X9_blame_41 x (nI i) (nI j) (nI e) (l_X9_blame_41 x (nI i) (nI j) (nI e) n) (some (x + 1 + 19 + 18 * j)) (nI c) s = _
          unfold g_X9_blame_41
          rw [ck_s cl.K, cl.kr, cl.n.1, if_neg z1, chk_t C.1.1.1, C.1.sn, bnd_e, C'.1.pn, v1, cal_s, nI_1]
          rfl
        cases hP : blP (W.tn i) (W.lw j) e c with
        | true =>
          refine .inl ⟨some (nI c, m3), ⟨m3, ?_, f3⟩, fun n => ?_⟩
          · rw [← a1, fnd_t hc hP]
          · rw [st n, hP, if_neg (by decide)]
        | false =>
          refine .inr ⟨m3, ⟨?_, f3, _, C3⟩, fun n => ?_⟩
          · rw [← a1, fnd_f hc hP]
          · rw [st n, hP, bI_f, if_pos rfl]) (fun s hI => by
        obtain ⟨a1, a2, wo, C⟩ := hI
        have cl := C.2.1.2.2.2.2.1
        refine ⟨some (-1, s), ⟨s, ?_, a2⟩, fun n => ?_⟩
        · rw [← a1, Nat.sub_self]; rfl
        · show g_X9_blame_41 x (nI i) (nI j) (nI e) (l_X9_blame_41 x (nI i) (nI j) (nI e) n) (some (x + 1 + 19 + 18 * j)) (nI (W.lw j).2.1) s = _
          unfold g_X9_blame_41
          rw [ck_s cl.K, cl.kr, cl.n.1, if_pos (Int32.le_refl _)]) (s0 := m2) ⟨rfl, f1.tr w2.f, _, C2⟩
      refine ⟨m', ?_, fr⟩
      rw [← er]
      exact hr FU (by unfold FU; omega)
  · have hnt := h.nt
    have hnl := h.nl
    have g := h.code
    simp only [f_X10_blame, g_X10_blame_0, chk_t h.M.1, chk_t, ck_sI, ck_sR, ck_sJ, cal_s, bnd_e, ifn_s, ifn_n]
    unfold opB at ho
    generalize m.sI 1100 (x + 106) 0 0 = m1 at g ⊢
    simp only [r_isTown g.M g.R hnt, r_isLaw g.M g.R hnl, r_isDay, chk_t, ck_sI, ck_sR, ck_sJ, cal_s, bnd_e, ifn_s, ifn_n, bI_0]
    cases hp : isN W.nt p with
    | false => simp
    | true =>
      cases hq : isN W.nl q with
      | false => simp [chk_t g.M.1]
      | true =>
        have hd : isN 1000 d = false := by rw [hp, hq] at ho; simpa using ho
        simp [hd, chk_t g.M.1]
  · subst e1; subst e2; subst e3
    have hnt := h.nt
    have hnl := h.nl
    have hB := (h.cl hj).n.2.2
    have g := h.code
    have fc := fq_code x m
    unfold f_X10_blame g_X10_blame_0
    rw [chk_t h.M.1, bnd_e]
    generalize m.sI 1100 (x + 106) 0 0 = m0 at g fc ⊢
    have b1 : ¬ bI true = 0 := by decide
    obtain ⟨m1, e1, f1, R1⟩ := r_br g hi hj hk
    obtain ⟨m2, w1, w2, w3, _⟩ := r_findPlan (but := -1) 1 R1.o
    rw [r_isTown g.M g.R hnt, cal_s, isN_nI (by omega) hi, if_neg b1, chk_t g.M.1, r_isLaw g.M g.R hnl, cal_s, isN_nI (by omega) hj, if_neg b1, r_isDay, cal_s, isN_nI (by decide) hk, if_neg b1, chk_t g.M.1, e1, cal_s, chk_t R1.1.1.1, w1, cal_s]
    unfold bmV
    cases hpl : (plS (W.tn i) (W.lw j) e (-1) 1).isSome with
    | true => exact ⟨m2, by rw [if_neg b1, cond_true], fc.tr (f1.tr w2)⟩
    | false =>
      rw [bI_f, if_pos rfl, cond_false]
      obtain ⟨r, ⟨m', er, fr⟩, hr⟩ := lp_ex (fun n c (s : MM) => l_X10_blame_52 (x + 106) (nI i) (nI j) (nI e) n c s) (fun c s => fnd (blP (W.tn i) (W.lw j) e) (fun r => nI r) (-1) ((W.lw j).2.1 - c) c = fnd (blP (W.tn i) (W.lw j) e) (fun r => nI r) (-1) (W.lw j).2.1 0 ∧ Fq x m s ∧ RO s (x + 106) i j (W.tn i) (W.lw j) e (plO (W.tn i) e 1)) (fun r => ∃ m', r = some (fnd (blP (W.tn i) (W.lw j) e) (fun r => nI r) (-1) (W.lw j).2.1 0, m') ∧ Fq x m m') (W.lw j).2.1 0 (by omega) (fun c _ hc s hI => by
        obtain ⟨a1, a2, R⟩ := hI
        obtain ⟨m3, v1, v2, v3⟩ := r_findPlan1 (but := nI c) R
        have z1 : ¬ nI (W.lw j).2.1 ≤ nI c := nI_ge hc (by omega)
        have st : ∀ n, l_X10_blame_52 (x + 106) (nI i) (nI j) (nI e) (n + 1) (nI c) s = if bI (blP (W.tn i) (W.lw j) e c) = 0 then l_X10_blame_52 (x + 106) (nI i) (nI j) (nI e) n (nI (c + 1)) m3 else some (nI c, m3) := by
          intro n
          show g_X10_blame_52 (x + 106) (nI i) (nI j) (nI e) (l_X10_blame_52 (x + 106) (nI i) (nI j) (nI e) n) (nI c) s = _
          unfold g_X10_blame_52
          rw [chk_t R.1.1.1, R.1.1.c1129, R.1.1.n1129, chk_t (inb_nI (show j < 12 by omega) (by decide)), cl_nI (show j < 2 ^ 31 by omega), R.1.2.2.2.2.2.2.2.2.2.2.1, if_neg z1, v1, cal_s, nI_1]
          rfl
        cases hP : blP (W.tn i) (W.lw j) e c with
        | true =>
          refine .inl ⟨some (nI c, m3), ⟨m3, ?_, a2.tr v2⟩, fun n => ?_⟩
          · rw [← a1, fnd_t hc hP]
          · rw [st n, hP, if_neg (by decide)]
        | false =>
          refine .inr ⟨m3, ⟨?_, a2.tr v2, v3⟩, fun n => ?_⟩
          · rw [← a1, fnd_f hc hP]
          · rw [st n, hP, bI_f, if_pos rfl]) (fun s hI => by
        obtain ⟨a1, a2, R⟩ := hI
        refine ⟨some (-1, s), ⟨s, ?_, a2⟩, fun n => ?_⟩
        · rw [← a1, Nat.sub_self]; rfl
        · show g_X10_blame_52 (x + 106) (nI i) (nI j) (nI e) (l_X10_blame_52 (x + 106) (nI i) (nI j) (nI e) n) (nI (W.lw j).2.1) s = _
          unfold g_X10_blame_52
          rw [chk_t R.1.1.1, R.1.1.c1129, R.1.1.n1129, chk_t (inb_nI (show j < 12 by omega) (by decide)), cl_nI (show j < 2 ^ 31 by omega), R.1.2.2.2.2.2.2.2.2.2.2.1, if_pos (Int32.le_refl _)]) (s0 := m2) ⟨rfl, fc.tr (f1.tr w2), w3⟩
      refine ⟨m', ?_, fr⟩
      rw [← er]
      exact hr FU (by unfold FU; omega)
