/-! the scene's "if"s -/
section FLD
variable {m : MM} {x t l d w : Nat} {T : TW} {B : LW} {ho wo : Int32}
theorem CS.fl {n : MM} (C : CS m x t l T B d w ho wo) {w2 : Nat} {ho2 wo2 : Int32} (s : Nat) (v : Int32) (hn : n = m.sI s (x + 81) 0 v) (hs : s = 606 ∨ s = 607 ∨ s = 608) (hw : w2 ≤ 12) (e6 : n.I 606 (x + 81) 0 = nI w2) (e7 : n.I 607 (x + 81) 0 = ho2) (e8 : n.I 608 (x + 81) 0 = wo2) : CS n x t l T B d w2 ho2 wo2 := by
  obtain ⟨hS, ⟨k1, k2, k3, k4, k5, k6, k7, k8, k9⟩, V, VB', _, h605, hb, ht, hl⟩ := C
  subst hn
  refine ⟨hS.kept rfl rfl (fun _ _ _ _ _ _ => rfl), ⟨k1, k2, k3, k4.sI _ _ _ _ (by omega), k5.sI _ _ _ _ (by omega), by rw [I_sI, if_neg (by omega)]; exact k6, e6, e7, e8⟩, V, VB', hw, by rw [I_sI, if_neg (by omega)]; exact h605, fun k hk => (hb k hk).kept rfl (fun s => by rw [I_sI, if_neg (by omega)]), ht, hl⟩
theorem CS.hr (C : CS m x t l T B d w ho wo) (v : Int32) : CS (m.sI 607 (x + 81) 0 v) x t l T B d w v wo := C.fl 607 v rfl (by omega) C.2.2.2.2.1 (by rw [I_sI, if_neg (by omega)]; exact C.2.1.2.2.2.2.2.2.1) (by rw [I_sI, if_pos ⟨rfl, rfl, rfl⟩]) (by rw [I_sI, if_neg (by omega)]; exact C.2.1.2.2.2.2.2.2.2.2)
theorem CS.ex (C : CS m x t l T B d w ho wo) {v : Nat} (hv : v ≤ 12) : CS (m.sI 606 (x + 81) 0 (nI v)) x t l T B d v ho wo := C.fl 606 (nI v) rfl (by omega) hv (by rw [I_sI, if_pos ⟨rfl, rfl, rfl⟩]) (by rw [I_sI, if_neg (by omega)]; exact C.2.1.2.2.2.2.2.2.2.1) (by rw [I_sI, if_neg (by omega)]; exact C.2.1.2.2.2.2.2.2.2.2)
theorem CS.wt (C : CS m x t l T B d w ho wo) (v : Int32) : CS (m.sI 608 (x + 81) 0 v) x t l T B d w ho v := C.fl 608 v rfl (by omega) C.2.2.2.2.1 (by rw [I_sI, if_neg (by omega)]; exact C.2.1.2.2.2.2.2.2.1) (by rw [I_sI, if_neg (by omega)]; exact C.2.1.2.2.2.2.2.2.2.1) (by rw [I_sI, if_pos ⟨rfl, rfl, rfl⟩])
end FLD
theorem ar_y (m : MM) (y s : Nat) (v : Int32) : Ar m (m.sI s y 0 v) y := ⟨fun d d1 d2 i => by rw [I_sI, if_neg (by omega)], fun i => by rw [I_sI, if_neg (by omega)], fun i => by rw [I_sI, if_neg (by omega)]⟩
section FLR
variable {m : MM} {y i j d w : Nat} {T : TW} {B : LW} {oh F : Int32}
theorem RS.fl {n : MM} (R : RS m y i j T B d w oh F) {w2 : Nat} {oh2 F2 : Int32} (s : Nat) (v : Int32) (hn : n = m.sI s y 0 v) (hs : s = 1168 ∨ s = 1169 ∨ s = 1170) (hw : w2 ≤ 12) (e8 : n.I 1168 y 0 = F2) (hF : ∀ k, k < 6 → bt F2 k = true → k < T.2.1 2) (e9 : n.I 1169 y 0 = oh2) (e0 : n.I 1170 y 0 = nI w2) : RS n y i j T B d w2 oh2 F2 := by
  obtain ⟨⟨h1, h2, h3, h4, h5, h6, h7, h8, h9, h10, h11⟩, V, N, VB', hB, hd, _, h65, hb⟩ := R
  subst hn
  exact ⟨⟨h1, by rw [I_sI, if_neg (by omega)]; exact h2, h3, h4.kept (ar_y m y s v), by rw [I_sI, if_neg (by omega)]; exact h5, e8, hF, e9, e0, h10, h11.kept (ar_y m y s v)⟩, V, N, VB', hB, hd, hw, by rw [I_sI, if_neg (by omega)]; exact h65, fun k hk => (hb k hk).kept (fun a a1 a2 => by rw [I_sI, if_neg (by omega)])⟩
theorem RS.hr (R : RS m y i j T B d w oh F) (v : Int32) : RS (m.sI 1169 y 0 v) y i j T B d w v F := R.fl 1169 v rfl (by omega) R.2.2.2.2.2.2.1 (by rw [I_sI, if_neg (by omega)]; exact R.1.2.2.2.2.2.1) R.1.2.2.2.2.2.2.1 (by rw [I_sI, if_pos ⟨rfl, rfl, rfl⟩]) (by rw [I_sI, if_neg (by omega)]; exact R.1.2.2.2.2.2.2.2.2.1)
theorem RS.wd (R : RS m y i j T B d w oh F) {v : Nat} (hv : v ≤ 12) : RS (m.sI 1170 y 0 (nI v)) y i j T B d v oh F := R.fl 1170 (nI v) rfl (by omega) hv (by rw [I_sI, if_neg (by omega)]; exact R.1.2.2.2.2.2.1) R.1.2.2.2.2.2.2.1 (by rw [I_sI, if_neg (by omega)]; exact R.1.2.2.2.2.2.2.2.1) (by rw [I_sI, if_pos ⟨rfl, rfl, rfl⟩])
theorem RS.fn (R : RS m y i j T B d w oh F) (v : Int32) (hv : ∀ k, k < 6 → bt v k = true → k < T.2.1 2) : RS (m.sI 1168 y 0 v) y i j T B d w oh v := R.fl 1168 v rfl (by omega) R.2.2.2.2.2.2.1 (by rw [I_sI, if_pos ⟨rfl, rfl, rfl⟩]) hv (by rw [I_sI, if_neg (by omega)]; exact R.1.2.2.2.2.2.2.2.1) (by rw [I_sI, if_neg (by omega)]; exact R.1.2.2.2.2.2.2.2.2.1)
end FLR
/-! quiet -/
def qL (T : TW) (B : LW) (d h : Nat) : List B3 := barL T B d 0 (fun j => decide (j = h)) (clL T d)
def wnB (B : LW) (L : List B3) : Bool := (List.range L.length).any (fun k => decide (B.2.2 (lat L k).2.2 0 = 1))
def quB (T : TW) (B : LW) (d h : Nat) : Bool := !wnB B (qL T B d h)
theorem any_s (P : Nat → Bool) (n : Nat) : (List.range (n + 1)).any P = ((List.range n).any P || P n) := by
  rw [List.range_succ, List.any_append]
  simp
theorem c_hasSort {m : MM} {x t l d w : Nat} {T : TW} {B : LW} {ho wo : Int32} {L : List B3} (C : CS m x t l T B d w ho wo) (F : FcL m x L) (hL : L.length ≤ 1320) (hv : ∀ k, k < L.length → (lat L k).1 < 12 ∧ (lat L k).2.1 < 12 ∧ (lat L k).2.2 < B.2.1) : f_X1_hasSort (x + 96) 1 m = some (bI (wnB B L), m) := by
  have cl := C.2.1.2.2.2.2.1
  have hB := cl.n.2.2
  simp only [f_X1_hasSort, g_X1_hasSort_0, chk_t C.1.2.2.2.1.1, C.1.2.2.2.1.2.1, ck_s C.1.th, chk_t, ck_sI, ck_sR, ck_sJ, cal_s, bnd_e, ifn_s, ifn_n, C.2.1.2.2.1]
  have := lp_any (fun n i => l_X1_hasSort_10 (x + 96) 1 n (some l) i m) (fun k => decide (B.2.2 (lat L k).2.2 0 = 1)) (some (1, m)) (some (0, m)) L.length (fun k hk n => ?_) (fun n => ?_) (n := FU) (by unfold FU; omega)
  · refine this.trans ?_
    unfold wnB
    cases (List.range L.length).any _ <;> rfl
  · show g_X1_hasSort_10 (x + 96) 1 (l_X1_hasSort_10 (x + 96) 1 n) (some l) (nI k) m = _
    obtain ⟨v1, v2, v3⟩ := hv k hk
    obtain ⟨a, b, r, el⟩ : ∃ a b r, lat L k = (a, b, r) := ⟨_, _, _, rfl⟩
    rw [el] at v1 v2 v3 ⊢
    have v1 : a < 12 := v1
    have v2 : b < 12 := v2
    have v3 : r < B.2.1 := v3
    have e1 : ¬ nI L.length ≤ nI k := nI_ge hk (by omega)
    simp only [g_X1_hasSort_10, chk_t, ck_sI, ck_sR, ck_sJ, cal_s, bnd_e, ifn_s, ifn_n, chk_t C.1.2.2.2.1.1, F.1, if_neg e1, chk_t cl.K, c_ruleOf C.1 F hL hk el v1 v2 (show r < 10 by omega), cl.kr, cl.cell_0 v3, nI_1]
    by_cases z : B.2.2 r 0 = 1
    · rw [if_pos z, decide_eq_true z]; rfl
    · rw [if_neg z, decide_eq_false z]; rfl
  · show g_X1_hasSort_10 (x + 96) 1 (l_X1_hasSort_10 (x + 96) 1 n) (some l) (nI L.length) m = _
    simp only [g_X1_hasSort_10, chk_t, ck_sI, ck_sR, ck_sJ, cal_s, bnd_e, ifn_s, ifn_n, chk_t C.1.2.2.2.1.1, F.1, if_pos (Int32.le_refl _)]
theorem m_quiet (x : Nat) (p q d : Int32) : Mq x (f_X9_quiet x p q d) (f_X10_quiet (x + 106) p q d) := by
  refine Mq_o p q d (-1) (fun T B k => mks (quB T B k) 8) (fun m W D h ho => ⟨m, ?_, Fq.rf x m⟩) (fun m W D i j k h hi hj hk e1 e2 e3 => ?_) (fun m W D h ho => ⟨_, ?_, fq_code x m⟩) (fun m W D i j k h hi hj hk e1 e2 e3 => ?_)
  · have hnl := h.nl
    simp only [f_X9_quiet, g_X9_quiet_0, chk_t h.kx, h.now]
    cases hq : isN W.nl q with
    | false => simp only [c_lawAt0 h.T hq, chk_t, ck_sI, ck_sR, ck_sJ, cal_s, bnd_e, ifn_s, ifn_n]
    | true =>
      obtain ⟨j, hj, e⟩ := (isN_iff (by omega)).mp hq
      subst e
      simp only [c_lawAt h.T hj, chk_t, ck_sI, ck_sR, ck_sJ, cal_s, bnd_e, ifn_s, ifn_n, chk_t h.kx, c_opened0 h ho, if_true]
  · subst e1; subst e2; subst e3
    have hB := (h.cl hj).n.2.2
    obtain ⟨m1, o1, f1, C1⟩ := c_opened1 h hi hj hk
    obtain ⟨s, ⟨q1, q2, _⟩, q3⟩ := lp_inv (fun n i' (s : Int32 × MM) => l_X9_quiet_33 x (nI i) (nI j) (nI k) n s.1 i' s.2) (fun h' s => s.1 = mks (quB (W.tn i) (W.lw j) k) h' ∧ Fq x m s.2 ∧ ∃ ho, CS s.2 x (x + 1 + 4 + 18 * i) (x + 1 + 19 + 18 * j) (W.tn i) (W.lw j) k 0 ho (-1)) (fun s => some (s.1, s.2)) 8 (fun h' hh s hI => by
      obtain ⟨a1, a2, ho, C⟩ := hI
      have C' := C.hr (1 <<< (nI h' &&& 31))
      obtain ⟨m2, e2, o2, F2⟩ := c_collect C'
      have C2 := C'.on o2 (by omega)
      have hqL : barL (W.tn i) (W.lw j) k 0 (bt (1 <<< (nI h' &&& 31))) (clL (W.tn i) k) = qL (W.tn i) (W.lw j) k h' := barL_congr (fun b hb => bt_1 (by omega) (by omega)) (fun _ _ => rfl)
      rw [hqL] at F2
      have hs := c_hasSort C2 F2 (barL_le hB) (fun c hc => by
        have hn0 := (h.nn hi).1
        obtain ⟨a, b, r, el, ha, hb, _, hr, _⟩ := bar_ok hc
        have el' : lat (qL (W.tn i) (W.lw j) k h') c = (a, b, r) := el
        rw [el']
        exact ⟨show a < 12 by omega, show b < 12 by omega, hr⟩)
      refine ⟨(mks (quB (W.tn i) (W.lw j) k) (h' + 1), m2), ⟨rfl, (a2.sI _ _ _ _ (by unfold inW; omega)).tr (o2.f (by omega) (by omega)), _, C2⟩, fun n => ?_⟩
      show g_X9_quiet_33 x (nI i) (nI j) (nI k) (l_X9_quiet_33 x (nI i) (nI j) (nI k) n) s.1 (nI h') s.2 = _
      have z1 : ¬ (8 : Int32) ≤ nI h' := nI_ge (b := 8) hh (by decide)
      simp only [g_X9_quiet_33, g_X9_quiet_78, if_neg z1, chk_t C.1.1.1, C.1.sn, chk_t, ck_sI, ck_sR, ck_sJ, cal_s, bnd_e, ifn_s, ifn_n, R_sI, C.1.ct, e2, chk_t C2.1.1.1, C2.1.ct, hs, bI_0, a1, mks_s, nI_1]
      have hq : quB (W.tn i) (W.lw j) k h' = !wnB (W.lw j) (qL (W.tn i) (W.lw j) k h') := rfl
      cases hw : wnB (W.lw j) (qL (W.tn i) (W.lw j) k h') <;> rw [hw] at hq <;> simp [hq]) (fun s hI n => by
      show g_X9_quiet_33 x (nI i) (nI j) (nI k) (l_X9_quiet_33 x (nI i) (nI j) (nI k) n) s.1 (nI 8) s.2 = _
      simp only [g_X9_quiet_33, if_pos (show (8 : Int32) ≤ nI 8 by decide)]) (s0 := (0, m1)) ⟨rfl, f1, _, C1⟩
    refine ⟨s.2, ?_, q2⟩
    simp only [f_X9_quiet, g_X9_quiet_0, chk_t h.kx, h.now, c_lawAt h.T hj, chk_t, ck_sI, ck_sR, ck_sJ, cal_s, bnd_e, ifn_s, ifn_n, o1, if_neg ne10]
    refine (q3 FU (by unfold FU; omega)).trans ?_
    rw [q1]
  · have hnt := h.nt
    have hnl := h.nl
    have g := h.code
    simp only [f_X10_quiet, g_X10_quiet_0, chk_t h.M.1, chk_t, ck_sI, ck_sR, ck_sJ, cal_s, bnd_e, ifn_s, ifn_n]
    unfold opB at ho
    generalize m.sI 1100 (x + 106) 0 0 = m1 at g ⊢
    simp only [r_isTown g.M g.R hnt, r_isLaw g.M g.R hnl, r_isDay, chk_t, ck_sI, ck_sR, ck_sJ, cal_s, bnd_e, ifn_s, ifn_n, bI_0]
    cases hp : isN W.nt p with
    | false => simp
    | true =>
      cases hq : isN W.nl q with
      | false => simp [chk_t g.M.1]
      | true =>
        have hd : isN 1000 d = false := by rw [hp, hq] at ho; simpa using ho
        simp [hd, chk_t g.M.1]
  · subst e1; subst e2; subst e3
    have hnt := h.nt
    have hnl := h.nl
    have hB := (h.cl hj).n.2.2
    have N := h.nn hi
    have g0 := h.code
    obtain ⟨m1, e1, f1, R1⟩ := r_br g0 hi hj hk
    have inner : ∀ (m2 : MM) (L : List B3) (oh : Int32), RS m2 (x + 106) i j (W.tn i) (W.lw j) k 0 oh 0 → FrL m2 (x + 106) L → L.length ≤ 1320 → (∀ c, c < L.length → (lat L c).2.2 < (W.lw j).2.1) → ∀ (K : Int32 → Int32 → Int32 → MM → Option (Int32 × MM)) (u v : Int32), l_X10_quiet_66 (x + 106) (nI i) (nI j) (nI k) K FU u v 1 0 m2 = K u v (bI (!wnB (W.lw j) L)) m2 := by
      intro m2 L oh R G hL hv K u v
      have e10 : (10 : Int32) * nI j = nI (10 * j) := pk_mul 10 j
      have := lp_for (fun n s c => l_X10_quiet_66 (x + 106) (nI i) (nI j) (nI k) K n u v s c m2) (fun c => bI (!(List.range c).any (fun k => decide ((W.lw j).2.2 (lat L k).2.2 0 = 1)))) L.length (K u v (bI (!wnB (W.lw j) L)) m2) (fun c hc n => ?_) (fun n => ?_) (n := FU) (by unfold FU; omega)
      · exact this
      · show g_X10_quiet_66 (x + 106) (nI i) (nI j) (nI k) (l_X10_quiet_66 (x + 106) (nI i) (nI j) (nI k) K n) K u v _ (nI c) m2 = _
        have z1 : ¬ nI L.length ≤ nI c := nI_ge hc (by omega)
        have hr := hv c hc
        obtain ⟨g1, g2, g3⟩ := G.2 c hc
        have q0 : m2.I 22 (x + 106 + 33) (10 * j + (lat L c).2.2) = (W.lw j).2.2 (lat L c).2.2 0 := R.1.2.2.2.2.2.2.2.2.2.2.2.2.2.2 _ hr 0 (by omega)
        rw [any_s]
        generalize (List.range c).any (fun k => decide ((W.lw j).2.2 (lat L k).2.2 0 = 1)) = A
        simp only [g_X10_quiet_66, g_X10_quiet_105, g_X10_quiet_106, chk_t R.1.1.1, G.1, if_neg z1, R.1.1.c1173, R.1.1.n1173, R.1.1.c1133, R.1.1.n1133, chk_t (inb_nI (show c < 1440 by omega) (by decide)), cl_nI (show c < 2 ^ 31 by omega), g3, e10, nI_add (10 * j) (lat L c).2.2, chk_t (inb_nI (show 10 * j + (lat L c).2.2 < 120 by omega) (by decide)), cl_nI (show 10 * j + (lat L c).2.2 < 2 ^ 31 by omega), q0, nI_1, bI_0]
        cases A with
        | true => simp [bI]
        | false =>
          by_cases y : (W.lw j).2.2 (lat L c).2.2 0 = 1
          · simp [y, bI]
          · simp [y, bI]
      · show g_X10_quiet_66 (x + 106) (nI i) (nI j) (nI k) (l_X10_quiet_66 (x + 106) (nI i) (nI j) (nI k) K n) K u v _ (nI L.length) m2 = _
        simp only [g_X10_quiet_66, chk_t R.1.1.1, G.1, if_pos (Int32.le_refl _), wnB]
    obtain ⟨s, ⟨q1, q2, _⟩, q3⟩ := lp_inv (fun n i' (s : Int32 × MM) => l_X10_quiet_42 (x + 106) (nI i) (nI j) (nI k) n s.1 i' s.2) (fun h' s => s.1 = mks (quB (W.tn i) (W.lw j) k) h' ∧ Fq x (m.sI 1100 (x + 106) 0 0) s.2 ∧ ∃ oh, RS s.2 (x + 106) i j (W.tn i) (W.lw j) k 0 oh 0) (fun s => some (s.1, s.2)) 8 (fun h' hh s hI => by
      obtain ⟨a1, a2, oh, R⟩ := hI
      have R' := R.hr (nI h')
      obtain ⟨m2, e2, o2, F2⟩ := r_findBars R'
      have R2 := R'.rn o2
      have hqL : barL (W.tn i) (W.lw j) k 0 (ohB (nI h')) (rfL (W.tn i) k 0) = qL (W.tn i) (W.lw j) k h' := barL_congr (fun b hb => by
        unfold ohB
        rw [decide_eq_false (show ¬ nI h' = -1 from nI_ne_m1 (by omega)), Bool.false_or]
        by_cases y : b = h'
        · rw [y]; simp
        · rw [decide_eq_false y, decide_eq_false (fun z => y (nI_inj (by omega) (by omega) z).symm)]) (fun a b => rfL_0 N k a b)
      rw [hqL] at F2
      have hin := inner m2 (qL (W.tn i) (W.lw j) k h') (nI h') R2 F2 (barL_le hB) (fun c hc => by
        obtain ⟨a, b, r, el, ha, hb, _, hr, _⟩ := bar_ok hc
        have el' : lat (qL (W.tn i) (W.lw j) k h') c = (a, b, r) := el
        rw [el']
        exact hr)
      refine ⟨(mks (quB (W.tn i) (W.lw j) k) (h' + 1), m2), ⟨rfl, (a2.sI _ _ _ _ (by unfold inW; omega)).tr o2.f, _, R2⟩, fun n => ?_⟩
      show g_X10_quiet_42 (x + 106) (nI i) (nI j) (nI k) (l_X10_quiet_42 (x + 106) (nI i) (nI j) (nI k) n) s.1 (nI h') s.2 = _
      have z1 : ¬ (8 : Int32) ≤ nI h' := nI_ge (b := 8) hh (by decide)
      simp only [g_X10_quiet_42, if_neg z1, chk_t R.1.1.1, chk_t, ck_sI, ck_sR, ck_sJ, cal_s, bnd_e, ifn_s, ifn_n, e2, hin, g_X10_quiet_114, g_X10_quiet_129, bI_0, a1, mks_s, nI_1, or_0]
      have hq : quB (W.tn i) (W.lw j) k h' = !wnB (W.lw j) (qL (W.tn i) (W.lw j) k h') := rfl
      cases hw : wnB (W.lw j) (qL (W.tn i) (W.lw j) k h') <;> rw [hw] at hq <;> simp [hq]) (fun s hI n => by
      show g_X10_quiet_42 (x + 106) (nI i) (nI j) (nI k) (l_X10_quiet_42 (x + 106) (nI i) (nI j) (nI k) n) s.1 (nI 8) s.2 = _
      simp only [g_X10_quiet_42, if_pos (show (8 : Int32) ≤ nI 8 by decide)]) (s0 := (0, m1)) ⟨rfl, f1, _, R1⟩
    refine ⟨s.2, ?_, (fq_code x m).tr q2⟩
    simp only [f_X10_quiet, g_X10_quiet_0, chk_t h.M.1, chk_t, ck_sI, ck_sR, ck_sJ, cal_s, bnd_e, ifn_s, ifn_n, r_isTown g0.M g0.R hnt, r_isLaw g0.M g0.R hnl, r_isDay, bI_0, isN_nI (show W.nt < 2 ^ 31 by omega) hi, isN_nI (show W.nl < 2 ^ 31 by omega) hj, isN_nI (show 1000 < 2 ^ 31 by decide) hk, Bool.true_eq_false, if_false, chk_t g0.M.1, e1]
    refine (q3 FU (by unfold FU; omega)).trans ?_
    rw [q1]
