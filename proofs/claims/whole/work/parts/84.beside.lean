/-! beside -/
def sumN (f : Nat → Nat) : Nat → Nat
  | 0 => 0
  | n + 1 => sumN f n + f n
theorem sumN_s (f : Nat → Nat) (n : Nat) : sumN f (n + 1) = sumN f n + f n := rfl
theorem sumN_congr {f g : Nat → Nat} : ∀ n, (∀ i, i < n → f i = g i) → sumN f n = sumN g n
  | 0, _ => rfl
  | n + 1, h => by rw [sumN_s, sumN_s, sumN_congr n (fun i hi => h i (by omega)), h n (by omega)]
theorem sumN_add (f g : Nat → Nat) : ∀ n, sumN (fun i => f i + g i) n = sumN f n + sumN g n
  | 0 => rfl
  | n + 1 => by rw [sumN_s, sumN_s, sumN_s, sumN_add f g n]; omega
theorem sumN_cnt (P : Nat → Bool) : ∀ n, sumN (fun i => bN (P i)) n = cntB P n
  | 0 => rfl
  | n + 1 => by rw [sumN_s, cntB_s, sumN_cnt P n]
theorem tri {Q : Nat → Nat → Bool} (sw : ∀ i j, Q i j = Q j i) : ∀ n, sumN (fun i => cntB (fun j => decide (i < j) && Q i j) n) n = sumN (fun i => cntB (Q i) i) n
  | 0 => rfl
  | n + 1 => by
    rw [sumN_s, sumN_s, ← tri sw n]
    have e1 : cntB (fun j => decide (n < j) && Q n j) (n + 1) = 0 := (cntB_0 (n + 1)).mpr (fun j hj => by rw [decide_eq_false (by omega)]; rfl)
    have e2 : sumN (fun i => cntB (fun j => decide (i < j) && Q i j) (n + 1)) n = sumN (fun i => cntB (fun j => decide (i < j) && Q i j) n + bN (Q i n)) n := sumN_congr n (fun i hi => by rw [cntB_s, decide_eq_true hi, Bool.true_and])
    have e3 : cntB (fun i => Q i n) n = cntB (Q n) n := cntB_congr n (fun i _ => sw i n)
    rw [e1, e2, sumN_add, sumN_cnt, e3]
    omega
def bsQ (T : TW) (A B : LW) (d i j : Nat) : Bool := !decide (foe T A d 0 (bt 255) (clL T d) i j = foe T B d 0 (bt 255) (clL T d) i j)
theorem bsQ_sw (T : TW) (A B : LW) (d i j : Nat) : bsQ T A B d i j = bsQ T A B d j i := by unfold bsQ; rw [foe_sw T A, foe_sw T B]
def bsV (T : TW) (A B : LW) (d : Nat) : Int32 := nI (sumN (fun i => cntB (bsQ T A B d i) i) 12)
theorem CS.lw {m : MM} {x t l l2 d w : Nat} {T : TW} {B B2 : LW} {ho wo : Int32} (C : CS m x t l T B d w ho wo) (hl2 : CL m l2 B2) (V2 : VL B2) (h2 : l2 + 3 ≤ x + 60) : CS (m.sR 603 (x + 81) 0 (some l2)) x t l2 T B2 d w ho wo := by
  obtain ⟨hS, ⟨k1, k2, k3, k4, k5, k6, k7, k8, k9⟩, V, VB', hw, h605, hb, ht, hl⟩ := C
  refine ⟨hS.kept rfl rfl (fun s a i g1 g2 g3 => by rw [R_sR, if_neg (by omega)]), ⟨k1, by rw [R_sR, if_neg (by omega)]; exact k2, by rw [R_sR, if_pos ⟨rfl, rfl, rfl⟩], k4.sR _ _ _ _ (by omega), hl2.sR _ _ _ _ (by omega), k6, k7, k8, k9⟩, V, V2, hw, h605, hb, ht, h2⟩
theorem m_beside (x : Nat) (p a b d : Int32) : Mq x (f_X9_beside x p a b d) (f_X10_beside (x + 106) p a b d) := by
  refine Mq_q (fun W => cond (isN W.nl b) (cond (opB W p a d) (bsV (W.tn p.toNatClampNeg) (W.lw a.toNatClampNeg) (W.lw b.toNatClampNeg) d.toNatClampNeg) (-1)) (-1)) (fun m W D h => ?_) (fun m W D h => ?_)
  · have hnt := h.nt
    have hnl := h.nl
    simp only [f_X9_beside, g_X9_beside_0, chk_t h.kx, h.now]
    cases hb : isN W.nl b with
    | false =>
      refine ⟨m, ?_, Fq.rf x m⟩
      cases ha : isN W.nl a with
      | false => simp only [c_lawAt0 h.T ha, c_lawAt0 h.T hb, chk_t, ck_sI, ck_sR, ck_sJ, cal_s, bnd_e, ifn_s, ifn_n, chk_t h.kx, h.now, hb, cond_false]
      | true =>
        obtain ⟨j, hj, e⟩ := (isN_iff (by omega)).mp ha
        subst e
        simp only [c_lawAt h.T hj, c_lawAt0 h.T hb, chk_t, ck_sI, ck_sR, ck_sJ, cal_s, bnd_e, ifn_s, ifn_n, chk_t h.kx, h.now, hb, cond_false]
    | true =>
    obtain ⟨j2, hj2, e⟩ := (isN_iff (by omega)).mp hb
    subst e
    simp only [hb, cond_true]
    cases ho : opB W p a d with
    | false =>
      refine ⟨m, ?_, Fq.rf x m⟩
      cases ha : isN W.nl a with
      | false => simp only [c_lawAt0 h.T ha, c_lawAt h.T hj2, chk_t, ck_sI, ck_sR, ck_sJ, cal_s, bnd_e, ifn_s, ifn_n, chk_t h.kx, h.now, cond_false]
      | true =>
        obtain ⟨j, hj, e⟩ := (isN_iff (by omega)).mp ha
        subst e
        simp only [c_lawAt h.T hj, c_lawAt h.T hj2, chk_t, ck_sI, ck_sR, ck_sJ, cal_s, bnd_e, ifn_s, ifn_n, chk_t h.kx, h.now, c_opened0 h ho, if_true, cond_false]
    | true =>
    have ho2 := ho
    unfold opB at ho2
    rw [Bool.and_eq_true, Bool.and_eq_true] at ho2
    obtain ⟨i, hi, e⟩ := (isN_iff (by omega)).mp ho2.1.1
    subst e
    obtain ⟨j1, hj1, e⟩ := (isN_iff (by omega)).mp ho2.1.2
    subst e
    obtain ⟨k, hk, e⟩ := (isN_iff (by decide)).mp ho2.2
    subst e
    simp only [cond_true, cl_nI (show i < 2 ^ 31 by omega), cl_nI (show j1 < 2 ^ 31 by omega), cl_nI (show j2 < 2 ^ 31 by omega), cl_nI (show k < 2 ^ 31 by omega)]
    obtain ⟨m1, o1, f1, C1⟩ := c_opened1 h hi hj1 hk
    obtain ⟨Q, hQ⟩ : ∃ Q, Q = bsQ (W.tn i) (W.lw j1) (W.lw j2) k := ⟨_, rfl⟩
    have sw : ∀ u v, Q u v = Q v u := fun u v => by rw [hQ]; exact bsQ_sw _ _ _ _ u v
    have inner : ∀ u, u < 12 → ∀ (s : Int32 × MM), (s.1 = nI (sumN (fun u => cntB (fun v => decide (u < v) && Q u v) 12) u) ∧ Fq x m s.2 ∧ ∃ l B, CS s.2 x (x + 1 + 4 + 18 * i) l (W.tn i) B k 0 255 (-1)) → ∃ s' : Int32 × MM, (s'.1 = nI (sumN (fun u => cntB (fun v => decide (u < v) && Q u v) 12) u + cntB (fun v => decide (u < v) && Q u v) 12) ∧ Fq x m s'.2 ∧ ∃ l B, CS s'.2 x (x + 1 + 4 + 18 * i) l (W.tn i) B k 0 255 (-1)) ∧ ∀ n, 12 < n → (fun (K : Option Nat → Option Nat → Int32 → Int32 → MM → Option (Int32 × MM)) => l_X9_beside_62 x (nI i) (nI j1) (nI j2) (nI k) K n (some (x + 1 + 19 + 18 * j1)) (some (x + 1 + 19 + 18 * j2)) s.1 (nI u) (nI (u + 1)) s.2) = fun K => K (some (x + 1 + 19 + 18 * j1)) (some (x + 1 + 19 + 18 * j2)) s'.1 (nI u) s'.2 := by
      intro u hu s hs
      refine lp_invF (fun n v (s : Int32 × MM) => fun (K : Option Nat → Option Nat → Int32 → Int32 → MM → Option (Int32 × MM)) => l_X9_beside_62 x (nI i) (nI j1) (nI j2) (nI k) K n (some (x + 1 + 19 + 18 * j1)) (some (x + 1 + 19 + 18 * j2)) s.1 (nI u) v s.2) (fun v s => s.1 = nI (sumN (fun u => cntB (fun v => decide (u < v) && Q u v) 12) u + cntB (fun v => decide (u < v) && Q u v) v) ∧ Fq x m s.2 ∧ ∃ l B, CS s.2 x (x + 1 + 4 + 18 * i) l (W.tn i) B k 0 255 (-1)) (fun s => fun K => K (some (x + 1 + 19 + 18 * j1)) (some (x + 1 + 19 + 18 * j2)) s.1 (nI u) s.2) 12 (u + 1) (by omega) (fun v huv hv s hI => ?_) (fun s hI n => ?_) (s0 := s) ?_
      · obtain ⟨a1, a2, l, B, C⟩ := hI
        have g := h.kept a2
        have w81 : inW x (x + 81) := by unfold inW; omega
        have Ca := C.lw (g.cl hj1) (h.V.2 j1 hj1) (by omega)
        have fa : Fq x m (s.2.sR 603 (x + 81) 0 (some (x + 1 + 19 + 18 * j1))) := a2.sR _ _ _ _ w81 (.inr rfl)
        have ga := h.kept fa
        have Cb := Ca.lw (ga.cl hj2) (h.V.2 j2 hj2) (by omega)
        have fb := fa.sR 603 _ 0 (some (x + 1 + 19 + 18 * j2)) w81 (.inr rfl)
        have r1 := c_foes Ca hu hv
        have r2 := c_foes Cb hu hv
        have e1 : ¬ (12 : Int32) ≤ nI v := nI_ge (b := 12) hv (by decide)
        have hq : Q u v = !decide (foe (W.tn i) (W.lw j1) k 0 (bt 255) (clL (W.tn i) k) u v = foe (W.tn i) (W.lw j2) k 0 (bt 255) (clL (W.tn i) k) u v) := by rw [hQ]; rfl
        refine ⟨(nI (sumN (fun u => cntB (fun v => decide (u < v) && Q u v) 12) u + cntB (fun v => decide (u < v) && Q u v) (v + 1)), (s.2.sR 603 (x + 81) 0 (some (x + 1 + 19 + 18 * j1))).sR 603 (x + 81) 0 (some (x + 1 + 19 + 18 * j2))), ⟨rfl, fb, _, _, Cb⟩, fun n => ?_⟩
        funext K
        show g_X9_beside_62 x (nI i) (nI j1) (nI j2) (nI k) (l_X9_beside_62 x (nI i) (nI j1) (nI j2) (nI k) K n) K (some (x + 1 + 19 + 18 * j1)) (some (x + 1 + 19 + 18 * j2)) s.1 (nI u) (nI v) s.2 = _
        have rr : ∀ (q : MM) (v : Option Nat), (q.sR 603 (x + 81) 0 v).R 1003 x 0 = q.R 1003 x 0 := fun q v => by rw [R_sR, if_neg (by omega)]
        simp only [g_X9_beside_62, g_X9_beside_119, if_neg e1, chk_t g.kx, rr, C.1.sn, chk_t, ck_sI, ck_sR, ck_sJ, cal_s, bnd_e, ifn_s, ifn_n, K_sR, r1, r2, nI_1, a1]
        rw [cntB_s, decide_eq_true (show u < v by omega), Bool.true_and, hq]
        generalize foe (W.tn i) (W.lw j1) k 0 (bt 255) (clL (W.tn i) k) u v = A1
        generalize foe (W.tn i) (W.lw j2) k 0 (bt 255) (clL (W.tn i) k) u v = A2
        generalize sumN (fun u => cntB (fun v => decide (u < v) && Q u v) 12) u = S
        generalize cntB (fun v => decide (u < v) && Q u v) v = S2
        cases A1 <;> cases A2 <;> simp [bI, bN, Nat.add_assoc]
      · funext K
        show g_X9_beside_62 x (nI i) (nI j1) (nI j2) (nI k) (l_X9_beside_62 x (nI i) (nI j1) (nI j2) (nI k) K n) K (some (x + 1 + 19 + 18 * j1)) (some (x + 1 + 19 + 18 * j2)) s.1 (nI u) (nI 12) s.2 = _
        simp only [g_X9_beside_62, if_pos (show (12 : Int32) ≤ nI 12 by decide)]
      · have e0 : cntB (fun v => decide (u < v) && Q u v) (u + 1) = 0 := (cntB_0 (u + 1)).mpr (fun v hv => by rw [decide_eq_false (by omega)]; rfl)
        refine ⟨?_, hs.2⟩
        rw [e0, Nat.add_zero]
        exact hs.1
    obtain ⟨s, ⟨q1, q2, _⟩, q3⟩ := lp_inv (fun n u (s : Int32 × MM) => l_X9_beside_49 x (nI i) (nI j1) (nI j2) (nI k) n (some (x + 1 + 19 + 18 * j1)) (some (x + 1 + 19 + 18 * j2)) s.1 u s.2) (fun u s => s.1 = nI (sumN (fun u => cntB (fun v => decide (u < v) && Q u v) 12) u) ∧ Fq x m s.2 ∧ ∃ l B, CS s.2 x (x + 1 + 4 + 18 * i) l (W.tn i) B k 0 255 (-1)) (fun s => some (s.1, s.2)) 12 (fun u hu s hI => by
      obtain ⟨s', r1, r2⟩ := inner u hu s hI
      have e1 : ¬ (12 : Int32) ≤ nI u := nI_ge (b := 12) hu (by decide)
      refine ⟨s', by rw [sumN_s]; exact r1, fun n => ?_⟩
      show g_X9_beside_49 x (nI i) (nI j1) (nI j2) (nI k) (l_X9_beside_49 x (nI i) (nI j1) (nI j2) (nI k) n) (some (x + 1 + 19 + 18 * j1)) (some (x + 1 + 19 + 18 * j2)) s.1 (nI u) s.2 = _
      simp only [g_X9_beside_49, if_neg e1, chk_t, ck_sI, ck_sR, ck_sJ, cal_s, bnd_e, ifn_s, ifn_n, nI_1]
      refine (congrFun (r2 FU (by unfold FU; omega)) (g_X9_beside_125 x (nI i) (nI j1) (nI j2) (nI k) (l_X9_beside_49 x (nI i) (nI j1) (nI j2) (nI k) n))).trans ?_
      simp only [g_X9_beside_125, nI_1]) (fun s hI n => by
      show g_X9_beside_49 x (nI i) (nI j1) (nI j2) (nI k) (l_X9_beside_49 x (nI i) (nI j1) (nI j2) (nI k) n) (some (x + 1 + 19 + 18 * j1)) (some (x + 1 + 19 + 18 * j2)) s.1 (nI 12) s.2 = _
      simp only [g_X9_beside_49, if_pos (show (12 : Int32) ≤ nI 12 by decide)]) (s0 := (0, m1)) ⟨rfl, f1, _, _, C1⟩
    refine ⟨s.2, ?_, q2⟩
    simp only [c_lawAt h.T hj1, c_lawAt h.T hj2, chk_t, ck_sI, ck_sR, ck_sJ, cal_s, bnd_e, ifn_s, ifn_n, chk_t h.kx, h.now, o1, if_neg ne10]
    refine (q3 FU (by unfold FU; omega)).trans ?_
    rw [q1, tri sw 12, hQ]
    rfl
  · have hnt := h.nt
    have hnl := h.nl
    have g := h.code
    have fc := fq_code x m
    simp only [f_X10_beside, g_X10_beside_0, chk_t h.M.1, chk_t, ck_sI, ck_sR, ck_sJ, cal_s, bnd_e, ifn_s, ifn_n]
    generalize m.sI 1100 (x + 106) 0 0 = m1 at g fc ⊢
    simp only [r_isTown g.M g.R hnt, r_isLaw g.M g.R hnl, r_isDay, chk_t, ck_sI, ck_sR, ck_sJ, cal_s, bnd_e, ifn_s, ifn_n, bI_0, chk_t g.M.1, opB]
    cases hp : isN W.nt p with
    | false => exact ⟨m1, by cases isN W.nl b <;> simp, fc⟩
    | true =>
    cases ha : isN W.nl a with
    | false => exact ⟨m1, by cases isN W.nl b <;> simp, fc⟩
    | true =>
    cases hb : isN W.nl b with
    | false => exact ⟨m1, by simp, fc⟩
    | true =>
    cases hd : isN 1000 d with
    | false => exact ⟨m1, by simp, fc⟩
    | true =>
    obtain ⟨i, hi, e⟩ := (isN_iff (by omega)).mp hp
    subst e
    obtain ⟨j1, hj1, e⟩ := (isN_iff (by omega)).mp ha
    subst e
    obtain ⟨j2, hj2, e⟩ := (isN_iff (by omega)).mp hb
    subst e
    obtain ⟨k, hk, e⟩ := (isN_iff (by decide)).mp hd
    subst e
    have hB1 := (h.cl hj1).n.2.2
    have hB2 := (h.cl hj2).n.2.2
    have N := h.nn hi
    simp only [Bool.true_eq_false, if_false, Bool.and_true, cond_true, cl_nI (show i < 2 ^ 31 by omega), cl_nI (show j1 < 2 ^ 31 by omega), cl_nI (show j2 < 2 ^ 31 by omega), cl_nI (show k < 2 ^ 31 by omega)]
    obtain ⟨m2, e2, f2, R1⟩ := r_br g hi hj1 hk
    have g2 := g.kept f2
    have R2 : RS m2 (x + 106) i j2 (W.tn i) (W.lw j2) k 0 (-1) 0 := ⟨⟨R1.1.1, R1.1.2.1, R1.1.2.2.1, R1.1.2.2.2.1, R1.1.2.2.2.2.1, R1.1.2.2.2.2.2.1, R1.1.2.2.2.2.2.2.1, R1.1.2.2.2.2.2.2.2.1, R1.1.2.2.2.2.2.2.2.2.1, by omega, g2.rl hj2⟩, R1.2.1, N, h.V.2 j2 hj2, hB2, hk, by omega, R1.2.2.2.2.2.2.2.1, R1.2.2.2.2.2.2.2.2⟩
    refine ⟨m2, ?_, fc.tr f2⟩
    rw [e2, cal_s]
    have inner : ∀ u, u < 12 → ∀ (c : Nat) (K : Int32 → Int32 → MM → Option (Int32 × MM)), l_X10_beside_62 (x + 106) (nI i) (nI j1) (nI j2) (nI k) K FU (nI c) (nI u) 0 m2 = K (nI (c + cntB (bsQ (W.tn i) (W.lw j1) (W.lw j2) k u) u)) (nI u) m2 := by
      intro u hu c K
      have := lp_for (fun n s v => l_X10_beside_62 (x + 106) (nI i) (nI j1) (nI j2) (nI k) K n s (nI u) v m2) (fun v => nI (c + cntB (bsQ (W.tn i) (W.lw j1) (W.lw j2) k u) v)) u (K (nI (c + cntB (bsQ (W.tn i) (W.lw j1) (W.lw j2) k u) u)) (nI u) m2) (fun v hv n => ?_) (fun n => ?_) (n := FU) (by unfold FU; omega)
      · exact this
      · show g_X10_beside_62 (x + 106) (nI i) (nI j1) (nI j2) (nI k) (l_X10_beside_62 (x + 106) (nI i) (nI j1) (nI j2) (nI k) K n) K _ (nI u) (nI v) m2 = _
        have z1 : ¬ nI u ≤ nI v := nI_ge hv (by omega)
        have huv : u ≠ v := by omega
        rw [cntB_s]
        generalize cntB (bsQ (W.tn i) (W.lw j1) (W.lw j2) k u) v = S2
        have hq : bsQ (W.tn i) (W.lw j1) (W.lw j2) k u v = ((sB (W.tn i) k u && sB (W.tn i) k v) && !decide (clB (W.tn i) (W.lw j1) 0 (ohB (-1)) (rfL (W.tn i) k 0) (-1) (bdy (W.tn i) k u) (bdy (W.tn i) k v) = clB (W.tn i) (W.lw j2) 0 (ohB (-1)) (rfL (W.tn i) k 0) (-1) (bdy (W.tn i) k u) (bdy (W.tn i) k v))) := by
          unfold bsQ
          rw [foe_r N huv, foe_r N huv]
          generalize clB (W.tn i) (W.lw j1) 0 (ohB (-1)) (rfL (W.tn i) k 0) (-1) (bdy (W.tn i) k u) (bdy (W.tn i) k v) = A1
          generalize clB (W.tn i) (W.lw j2) 0 (ohB (-1)) (rfL (W.tn i) k 0) (-1) (bdy (W.tn i) k u) (bdy (W.tn i) k v) = A2
          cases (sB (W.tn i) k u && sB (W.tn i) k v) <;> cases A1 <;> cases A2 <;> rfl
        rw [hq]
        have a0 : ∀ v : Nat, nI v + 0 = nI v := fun v => nI_add v 0
        simp only [g_X10_beside_62, g_X10_beside_116, g_X10_beside_117, if_neg z1, chk_t R1.1.1.1, r_stands R1.1.1 R1.2.2.2.2.2.2.2.1 hu, r_stands R1.1.1 R1.2.2.2.2.2.2.2.1 (show v < 12 by omega), chk_t, ck_sI, ck_sR, ck_sJ, cal_s, bnd_e, ifn_s, ifn_n, bI_0, nI_1, a0]
        cases su : sB (W.tn i) k u with
        | false => simp [bN]
        | true =>
        cases sv : sB (W.tn i) k v with
        | false => simp [bN]
        | true =>
        have b1 := r_barsBoth R1.1 R1.2.1 N R1.2.2.2.1 hB1 hk (show 0 ≤ 12 by omega) (show u < 15 by omega) (show v < 15 by omega) huv (R1.g (sB_n su)) (R1.g (sB_n sv)) (-1)
        have b2 := r_barsBoth R2.1 R2.2.1 N R2.2.2.2.1 hB2 hk (show 0 ≤ 12 by omega) (show u < 15 by omega) (show v < 15 by omega) huv (R2.g (sB_n su)) (R2.g (sB_n sv)) (-1)
        simp only [b1, b2, chk_t, ck_sI, ck_sR, ck_sJ, cal_s, bnd_e, ifn_s, ifn_n, Bool.true_eq_false, if_false, Bool.and_true, Bool.true_and, chk_t R1.1.1.1]
        generalize clB (W.tn i) (W.lw j1) 0 (ohB (-1)) (rfL (W.tn i) k 0) (-1) (bdy (W.tn i) k u) (bdy (W.tn i) k v) = A1
        generalize clB (W.tn i) (W.lw j2) 0 (ohB (-1)) (rfL (W.tn i) k 0) (-1) (bdy (W.tn i) k u) (bdy (W.tn i) k v) = A2
        cases A1 <;> cases A2 <;> simp [bI, bN, Nat.add_assoc]
      · show g_X10_beside_62 (x + 106) (nI i) (nI j1) (nI j2) (nI k) (l_X10_beside_62 (x + 106) (nI i) (nI j1) (nI j2) (nI k) K n) K _ (nI u) (nI u) m2 = _
        simp only [g_X10_beside_62, if_pos (Int32.le_refl _)]
    have := lp_for (fun n s u => l_X10_beside_52 (x + 106) (nI i) (nI j1) (nI j2) (nI k) n s u m2) (fun u => nI (sumN (fun u => cntB (bsQ (W.tn i) (W.lw j1) (W.lw j2) k u) u) u)) 12 (some (bsV (W.tn i) (W.lw j1) (W.lw j2) k, m2)) (fun u hu n => ?_) (fun n => ?_) (n := FU) (by unfold FU; omega)
    · exact this
    · show g_X10_beside_52 (x + 106) (nI i) (nI j1) (nI j2) (nI k) (l_X10_beside_52 (x + 106) (nI i) (nI j1) (nI j2) (nI k) n) _ (nI u) m2 = _
      have e1 : ¬ (12 : Int32) ≤ nI u := nI_ge (b := 12) hu (by decide)
      simp only [g_X10_beside_52, if_neg e1, inner u hu, g_X10_beside_126, nI_1, sumN_s]
    · show g_X10_beside_52 (x + 106) (nI i) (nI j1) (nI j2) (nI k) (l_X10_beside_52 (x + 106) (nI i) (nI j1) (nI j2) (nI k) n) _ (nI 12) m2 = _
      simp only [g_X10_beside_52, if_pos (show (12 : Int32) ≤ nI 12 by decide), bsV]
