/-! a told takes another's -/
theorem I_cp (m : MM) (src sp dst dp n s a i : Nat) : (m.cp src sp dst dp n).I s a i = if s = 22 ∧ a = dst ∧ dp ≤ i ∧ i < dp + n then m.I 22 src (sp + (i - dp)) else m.I s a i := rfl
def Tq (lo hi : Nat) (m n : MM) : Prop := n.K = m.K ∧ n.N = m.N ∧ n.S = m.S ∧ n.R = m.R ∧ ∀ s a i, (a < lo ∨ hi ≤ a) → n.I s a i = m.I s a i
theorem Tq.rf (lo hi : Nat) (m : MM) : Tq lo hi m m := ⟨rfl, rfl, rfl, rfl, fun _ _ _ _ => rfl⟩
theorem Tq.tr {lo hi : Nat} {m n q : MM} (h1 : Tq lo hi m n) (h2 : Tq lo hi n q) : Tq lo hi m q := ⟨h2.1.trans h1.1, h2.2.1.trans h1.2.1, h2.2.2.1.trans h1.2.2.1, h2.2.2.2.1.trans h1.2.2.2.1, fun s a i g => (h2.2.2.2.2 s a i g).trans (h1.2.2.2.2 s a i g)⟩
theorem Tq.up {lo hi lo2 hi2 : Nat} {m n : MM} (h : Tq lo hi m n) (h1 : lo2 ≤ lo) (h2 : hi ≤ hi2) : Tq lo2 hi2 m n := ⟨h.1, h.2.1, h.2.2.1, h.2.2.2.1, fun s a i g => h.2.2.2.2 s a i (by omega)⟩
theorem Tq.sI {lo hi : Nat} {m n : MM} (h : Tq lo hi m n) (s a i : Nat) (v : Int32) (h1 : lo ≤ a) (h2 : a < hi) : Tq lo hi m (n.sI s a i v) := ⟨h.1, h.2.1, h.2.2.1, h.2.2.2.1, fun s2 a2 i2 g => by rw [I_sI, if_neg (by omega)]; exact h.2.2.2.2 s2 a2 i2 g⟩
theorem Tq.ag {lo hi lo2 hi2 : Nat} {m n : MM} (h : Tq lo hi m n) (hd : hi2 ≤ lo ∨ hi ≤ lo2) : Ag m n lo2 hi2 := fun a g1 g2 => ⟨by rw [h.1], by rw [h.2.1], fun s i => h.2.2.2.2 s a i (by omega), fun s i => by rw [h.2.2.2.1]⟩
theorem c_tabTake {m : MM} {a b n w s s2 : Nat} (h1 : Tb m a n w s) (h2 : Tb m b n w s2) (hab : a + 2 ≤ b ∨ b + 2 ≤ a) : ∃ m', f_X6_take a (some b) m = some ((), m') ∧ Tq a (a + 2) m m' ∧ Tb m' a n w s2 ∧ ∀ i, i < n * w → m'.I 22 (a + 1) i = m.I 22 (b + 1) i := by
  obtain ⟨p1, p2, p3, p4, p5, p6, p7, p8, p9, p10⟩ := h1
  obtain ⟨q1, q2, q3, q4, q5, q6, q7, q8, q9, q10⟩ := h2
  have hnw : n * w ≤ 96 := Nat.mul_le_mul p9 p10
  have hok : okcp m (b + 1) 0 (a + 1) 0 (nI (n * w)) = true := by
    unfold okcp
    rw [cl_nI (by omega), show Int32.toNatClampNeg 0 = 0 from rfl, Nat.zero_add, p6, q6, decide_eq_true (show (0 : Int32) ≤ 0 by decide), decide_eq_true (show (0 : Int32) ≤ nI (n * w) from nI_pos' (by omega)), decide_eq_true (Nat.le_refl _)]
    rfl
  have e3 : (m.cp (b + 1) 0 (a + 1) 0 (n * w)).I 703 b 0 = nI s2 := by rw [I_cp, if_neg (by omega)]; exact q7
  refine ⟨(m.cp (b + 1) 0 (a + 1) 0 (n * w)).sI 703 a 0 (nI s2), ?_, ⟨rfl, rfl, rfl, rfl, fun s3 a3 i3 g => ?_⟩, ⟨p1, ?_, ?_, p4, p5, p6, ?_, q8, p9, p10⟩, fun i hi => ?_⟩
  · unfold f_X6_take g_X6_take_0
    rw [ifn_s, chk_t q1, ck_e q4 q5, chk_t p1, ck_e p4 p5, p6, q6, if_pos rfl, ofN, chk_t hok, bnd_e, cl_nI (show n * w < 2 ^ 31 by omega), show Int32.toNatClampNeg 0 = 0 from rfl, e3, bnd_e]
  · rw [I_sI, if_neg (by omega), I_cp, if_neg (by omega)]
  · rw [I_sI, if_neg (by omega), I_cp, if_neg (by omega)]; exact p2
  · rw [I_sI, if_neg (by omega), I_cp, if_neg (by omega)]; exact p3
  · rw [I_sI, if_pos ⟨rfl, rfl, rfl⟩]
  · rw [I_sI, if_neg (by omega), I_cp, if_pos ⟨rfl, rfl, Nat.zero_le _, by omega⟩]
    congr 1; omega
theorem c_tk105 {m : MM} {t u : Nat} {V : TW} (k1 : m.K t = 9) (r1 : m.R 910 t 0 = some (t + 13)) (k3 : m.K (t + 13) = 22) (n3 : m.N (t + 13) = 8) (hu : CT m u V) (hd : t + 15 ≤ u ∨ u + 15 ≤ t) : ∃ s, Tq (t + 13) (t + 14) m s ∧ (∀ h, h < 8 → s.I 22 (t + 13) h = V.1 (10 + h)) ∧ ∀ K, l_X8_take_105 t (some u) K FU 0 m = K s := by
  obtain ⟨s, ⟨q1, q2⟩, q3⟩ := lp_inv (fun n h (s : MM) => fun (K : MM → Option (Unit × MM)) => l_X8_take_105 t (some u) K n h s) (fun h s => Tq (t + 13) (t + 14) m s ∧ ∀ g, g < h → s.I 22 (t + 13) g = V.1 (10 + g)) (fun s => fun K => K s) 8 (fun h hh s hI => by
    obtain ⟨a1, a2⟩ := hI
    have e1 : ¬ nI 8 ≤ nI h := nI_ge hh (by decide)
    refine ⟨s.sI 22 (t + 13) h (V.1 (10 + h)), ⟨a1.sI _ _ _ _ (by omega) (by omega), fun g hg => ?_⟩, fun n => ?_⟩
    · by_cases z : g = h
      · rw [z, I_sI, if_pos ⟨rfl, rfl, rfl⟩]
      · rw [I_sI, if_neg (by omega)]; exact a2 g (by omega)
    · skip
      funext K
      show g_X8_take_105 t (some u) (l_X8_take_105 t (some u) K n) K (nI h) s = _
      unfold g_X8_take_105
      rw [← a1.1] at k1 k3
      rw [← a1.2.2.2.1] at r1
      rw [← a1.2.1] at n3
      have k2 : s.K u = 9 := by rw [a1.1]; exact hu.K
      have r2 : s.R 910 u 0 = some (u + 13) := by rw [a1.2.2.2.1]; exact hu.Rw
      have k4 : s.K (u + 13) = 22 := by rw [a1.1]; exact hu.Kw
      have n4 : s.N (u + 13) = 8 := by rw [a1.2.1]; exact hu.Nw
      have v : s.I 22 (u + 13) h = V.1 (10 + h) := by rw [a1.2.2.2.2 _ _ _ (by omega)]; exact hu.wi h hh
      rw [chk_t k1, ck_e r1 k3, n3, ofN, if_neg e1, ck_s k2, ck_e r2 k4, n4, ofN, if_neg e1, chk_t (inb_nI hh (by decide)), chk_t (inb_nI hh (by decide)), bnd_e, cl_nI (show h < 2 ^ 31 by omega), v, nI_1]) (fun s hI n => by
    obtain ⟨a1, a2⟩ := hI
    funext K
    show g_X8_take_105 t (some u) (l_X8_take_105 t (some u) K n) K (nI 8) s = _
    unfold g_X8_take_105
    rw [← a1.1] at k1 k3
    rw [← a1.2.2.2.1] at r1
    rw [← a1.2.1] at n3
    rw [chk_t k1, ck_e r1 k3, n3, ofN, if_pos (Int32.le_refl _)]) (s0 := m) ⟨Tq.rf _ _ m, fun g hg => by omega⟩
  exact ⟨s, q1, q2, fun K => congrFun (q3 FU (by unfold FU; omega)) K⟩
theorem c_tk143 {m : MM} {t u : Nat} {V : TW} (k1 : m.K t = 9) (r1 : m.R 911 t 0 = some (t + 14)) (k3 : m.K (t + 14) = 22) (n3 : m.N (t + 14) = 6) (hu : CT m u V) (hd : t + 15 ≤ u ∨ u + 15 ≤ t) : ∃ s, Tq (t + 14) (t + 15) m s ∧ (∀ h, h < 6 → s.I 22 (t + 14) h = V.1 (20 + h)) ∧ l_X8_take_143 t (some u) FU 0 m = some ((), s) := by
  obtain ⟨s, ⟨q1, q2⟩, q3⟩ := lp_inv (fun n h (s : MM) => l_X8_take_143 t (some u) n h s) (fun h s => Tq (t + 14) (t + 15) m s ∧ ∀ g, g < h → s.I 22 (t + 14) g = V.1 (20 + g)) (fun s => some ((), s)) 6 (fun h hh s hI => by
    obtain ⟨a1, a2⟩ := hI
    have e1 : ¬ nI 6 ≤ nI h := nI_ge hh (by decide)
    refine ⟨s.sI 22 (t + 14) h (V.1 (20 + h)), ⟨a1.sI _ _ _ _ (by omega) (by omega), fun g hg => ?_⟩, fun n => ?_⟩
    · by_cases z : g = h
      · rw [z, I_sI, if_pos ⟨rfl, rfl, rfl⟩]
      · rw [I_sI, if_neg (by omega)]; exact a2 g (by omega)
    · skip
      show g_X8_take_143 t (some u) (l_X8_take_143 t (some u) n) (nI h) s = _
      unfold g_X8_take_143
      rw [← a1.1] at k1 k3
      rw [← a1.2.2.2.1] at r1
      rw [← a1.2.1] at n3
      have k2 : s.K u = 9 := by rw [a1.1]; exact hu.K
      have r2 : s.R 911 u 0 = some (u + 14) := by rw [a1.2.2.2.1]; exact hu.Rg
      have k4 : s.K (u + 14) = 22 := by rw [a1.1]; exact hu.Kg
      have n4 : s.N (u + 14) = 6 := by rw [a1.2.1]; exact hu.Ng
      have v : s.I 22 (u + 14) h = V.1 (20 + h) := by rw [a1.2.2.2.2 _ _ _ (by omega)]; exact hu.gr h hh
      rw [chk_t k1, ck_e r1 k3, n3, ofN, if_neg e1, ck_s k2, ck_e r2 k4, n4, ofN, if_neg e1, chk_t (inb_nI hh (by decide)), chk_t (inb_nI hh (by decide)), bnd_e, cl_nI (show h < 2 ^ 31 by omega), v, nI_1]) (fun s hI n => by
    obtain ⟨a1, a2⟩ := hI
    show g_X8_take_143 t (some u) (l_X8_take_143 t (some u) n) (nI 6) s = _
    unfold g_X8_take_143
    rw [← a1.1] at k1 k3
    rw [← a1.2.2.2.1] at r1
    rw [← a1.2.1] at n3
    rw [chk_t k1, ck_e r1 k3, n3, ofN, if_pos (Int32.le_refl _)]) (s0 := m) ⟨Tq.rf _ _ m, fun g hg => by omega⟩
  exact ⟨s, q1, q2, q3 FU (by unfold FU; omega)⟩
theorem c_townTake {m : MM} {t u : Nat} {T V : TW} (ht : CT m t T) (hu : CT m u V) (hd : t + 15 ≤ u ∨ u + 15 ≤ t) : ∃ m', f_X8_take t (some u) m = some ((), m') ∧ Tq t (t + 15) m m' ∧ CT m' t V := by
  obtain ⟨m0, hm0⟩ : ∃ q, q = (((m.sI 900 t 0 (V.1 0)).sI 901 t 0 (V.1 1)).sI 902 t 0 (V.1 2)).sI 903 t 0 (V.1 3) := ⟨_, rfl⟩
  have f0 : Tq t (t + 1) m m0 := by rw [hm0]; exact ((((Tq.rf t (t + 1) m).sI _ _ _ _ (by omega) (by omega)).sI _ _ _ _ (by omega) (by omega)).sI _ _ _ _ (by omega) (by omega)).sI _ _ _ _ (by omega) (by omega)
  have z0 : m0.I 900 t 0 = V.1 0 := by rw [hm0, I_sI, if_neg (by omega), I_sI, if_neg (by omega), I_sI, if_neg (by omega), I_sI, if_pos ⟨rfl, rfl, rfl⟩]
  have z1 : m0.I 901 t 0 = V.1 1 := by rw [hm0, I_sI, if_neg (by omega), I_sI, if_neg (by omega), I_sI, if_pos ⟨rfl, rfl, rfl⟩]
  have z2 : m0.I 902 t 0 = V.1 2 := by rw [hm0, I_sI, if_neg (by omega), I_sI, if_pos ⟨rfl, rfl, rfl⟩]
  have z3 : m0.I 903 t 0 = V.1 3 := by rw [hm0, I_sI, if_pos ⟨rfl, rfl, rfl⟩]
  have w1 : (m.sI 900 t 0 (V.1 0)).I 901 u 0 = V.1 1 := by rw [I_sI, if_neg (by omega)]; exact hu.s1
  have w2 : ((m.sI 900 t 0 (V.1 0)).sI 901 t 0 (V.1 1)).I 902 u 0 = V.1 2 := by rw [I_sI, if_neg (by omega), I_sI, if_neg (by omega)]; exact hu.s2
  have w3 : (((m.sI 900 t 0 (V.1 0)).sI 901 t 0 (V.1 1)).sI 902 t 0 (V.1 2)).I 903 u 0 = V.1 3 := by rw [I_sI, if_neg (by omega), I_sI, if_neg (by omega), I_sI, if_neg (by omega)]; exact hu.s3
  have U0 : CT m0 u V := hu.kept (f0.ag (by omega))
  obtain ⟨m1, e1, g1, b0, c0⟩ := c_tabTake (ht.T0.kept (f0.ag (lo2 := t + 1) (hi2 := t + 15) (by omega)) (by omega) (by omega)) U0.T0 (by omega)
  have f1 : Tq t (t + 3) m m1 := (f0.up (by omega) (by omega)).tr (g1.up (by omega) (by omega))
  have U1 : CT m1 u V := hu.kept (f1.ag (by omega))
  obtain ⟨m2, e2, g2, b1, c1⟩ := c_tabTake (ht.T1.kept (f1.ag (lo2 := t + 3) (hi2 := t + 15) (by omega)) (by omega) (by omega)) U1.T1 (by omega)
  have f2 : Tq t (t + 5) m m2 := (f1.up (by omega) (by omega)).tr (g2.up (by omega) (by omega))
  have U2 : CT m2 u V := hu.kept (f2.ag (by omega))
  obtain ⟨m3, e3, g3, b2, c2⟩ := c_tabTake (ht.T2.kept (f2.ag (lo2 := t + 5) (hi2 := t + 15) (by omega)) (by omega) (by omega)) U2.T2 (by omega)
  have f3 : Tq t (t + 7) m m3 := (f2.up (by omega) (by omega)).tr (g3.up (by omega) (by omega))
  have U3 : CT m3 u V := hu.kept (f3.ag (by omega))
  obtain ⟨m4, e4, g4, b3, c3⟩ := c_tabTake (ht.T3.kept (f3.ag (lo2 := t + 7) (hi2 := t + 15) (by omega)) (by omega) (by omega)) U3.T3 (by omega)
  have f4 : Tq t (t + 9) m m4 := (f3.up (by omega) (by omega)).tr (g4.up (by omega) (by omega))
  have U4 : CT m4 u V := hu.kept (f4.ag (by omega))
  obtain ⟨m5, e5, g5, b4, c4⟩ := c_tabTake (ht.T4.kept (f4.ag (lo2 := t + 9) (hi2 := t + 15) (by omega)) (by omega) (by omega)) U4.T4 (by omega)
  have f5 : Tq t (t + 11) m m5 := (f4.up (by omega) (by omega)).tr (g5.up (by omega) (by omega))
  have U5 : CT m5 u V := hu.kept (f5.ag (by omega))
  obtain ⟨m6, e6, g6, b5, c5⟩ := c_tabTake (ht.T5.kept (f5.ag (lo2 := t + 11) (hi2 := t + 15) (by omega)) (by omega) (by omega)) U5.T5 (by omega)
  have f6 : Tq t (t + 13) m m6 := (f5.up (by omega) (by omega)).tr (g6.up (by omega) (by omega))
  have U6 : CT m6 u V := hu.kept (f6.ag (by omega))
  obtain ⟨m7, f7, v7, e7⟩ := c_tk105 (t := t) (by rw [f6.1]; exact ht.K) (by rw [f6.2.2.2.1]; exact ht.Rw) (by rw [f6.1]; exact ht.Kw) (by rw [f6.2.1]; exact ht.Nw) U6 hd
  have F7 : Tq t (t + 15) m m7 := (f6.up (by omega) (by omega)).tr (f7.up (by omega) (by omega))
  have U7 : CT m7 u V := hu.kept (F7.ag (by omega))
  obtain ⟨m8, f8, v8, e8⟩ := c_tk143 (t := t) (by rw [F7.1]; exact ht.K) (by rw [F7.2.2.2.1]; exact ht.Rg) (by rw [F7.1]; exact ht.Kg) (by rw [F7.2.1]; exact ht.Ng) U7 hd
  have F8 : Tq t (t + 15) m m8 := F7.tr (f8.up (by omega) (by omega))
  have G0 : Tq (t + 3) (t + 15) m1 m8 := ((((((((Tq.rf (t + 3) (t + 15) m1).tr (g2.up (by omega) (by omega))).tr (g3.up (by omega) (by omega))).tr (g4.up (by omega) (by omega))).tr (g5.up (by omega) (by omega))).tr (g6.up (by omega) (by omega))).tr (f7.up (by omega) (by omega))).tr (f8.up (by omega) (by omega)))
  have G1 : Tq (t + 5) (t + 15) m2 m8 := (((((((Tq.rf (t + 5) (t + 15) m2).tr (g3.up (by omega) (by omega))).tr (g4.up (by omega) (by omega))).tr (g5.up (by omega) (by omega))).tr (g6.up (by omega) (by omega))).tr (f7.up (by omega) (by omega))).tr (f8.up (by omega) (by omega)))
  have G2 : Tq (t + 7) (t + 15) m3 m8 := ((((((Tq.rf (t + 7) (t + 15) m3).tr (g4.up (by omega) (by omega))).tr (g5.up (by omega) (by omega))).tr (g6.up (by omega) (by omega))).tr (f7.up (by omega) (by omega))).tr (f8.up (by omega) (by omega)))
  have G3 : Tq (t + 9) (t + 15) m4 m8 := (((((Tq.rf (t + 9) (t + 15) m4).tr (g5.up (by omega) (by omega))).tr (g6.up (by omega) (by omega))).tr (f7.up (by omega) (by omega))).tr (f8.up (by omega) (by omega)))
  have G4 : Tq (t + 11) (t + 15) m5 m8 := ((((Tq.rf (t + 11) (t + 15) m5).tr (g6.up (by omega) (by omega))).tr (f7.up (by omega) (by omega))).tr (f8.up (by omega) (by omega)))
  have G5 : Tq (t + 13) (t + 15) m6 m8 := (((Tq.rf (t + 13) (t + 15) m6).tr (f7.up (by omega) (by omega))).tr (f8.up (by omega) (by omega)))
  have Z0 : Tq (t + 1) (t + 15) m0 m8 := (g1.up (by omega) (by omega)).tr (G0.up (by omega) (by omega))
  refine ⟨m8, ?_, F8, by rw [F8.1]; exact ht.K, by rw [F8.2.2.2.1]; exact ht.R4, by rw [F8.2.2.2.1]; exact ht.R5, by rw [F8.2.2.2.1]; exact ht.R6, by rw [F8.2.2.2.1]; exact ht.R7, by rw [F8.2.2.2.1]; exact ht.R8, by rw [F8.2.2.2.1]; exact ht.R9, by rw [F8.2.2.2.1]; exact ht.Rw, by rw [F8.2.2.2.1]; exact ht.Rg, by rw [F8.1]; exact ht.Kw, by rw [F8.2.1]; exact ht.Nw, by rw [F8.1]; exact ht.Kg, by rw [F8.2.1]; exact ht.Ng, b0.kept (G0.ag (lo2 := t) (hi2 := t + 3) (by omega)) (by omega) (by omega), b1.kept (G1.ag (lo2 := t) (hi2 := t + 5) (by omega)) (by omega) (by omega), b2.kept (G2.ag (lo2 := t) (hi2 := t + 7) (by omega)) (by omega) (by omega), b3.kept (G3.ag (lo2 := t) (hi2 := t + 9) (by omega)) (by omega) (by omega), b4.kept (G4.ag (lo2 := t) (hi2 := t + 11) (by omega)) (by omega) (by omega), b5.kept (G5.ag (lo2 := t) (hi2 := t + 13) (by omega)) (by omega) (by omega), by rw [Z0.2.2.2.2 _ _ _ (by omega)]; exact z0, by rw [Z0.2.2.2.2 _ _ _ (by omega)]; exact z1, by rw [Z0.2.2.2.2 _ _ _ (by omega)]; exact z2, by rw [Z0.2.2.2.2 _ _ _ (by omega)]; exact z3, fun h hh => by rw [f8.2.2.2.2 _ _ _ (by omega)]; exact v7 h hh, v8, fun r hr c hc => by have hl := b0.2.2.2.2.2.2.2.1; rw [G0.2.2.2.2 _ _ _ (by omega), c0 _ (by omega)]; exact U0.c0 r hr c hc, fun r hr c hc => by have hl := b1.2.2.2.2.2.2.2.1; rw [G1.2.2.2.2 _ _ _ (by omega), c1 _ (by omega)]; exact U1.c1 r hr c hc, fun r hr c hc => by have hl := b2.2.2.2.2.2.2.2.1; rw [G2.2.2.2.2 _ _ _ (by omega), c2 _ (by omega)]; exact U2.c2 r hr c hc, fun r hr c hc => by have hl := b3.2.2.2.2.2.2.2.1; rw [G3.2.2.2.2 _ _ _ (by omega), c3 _ (by omega)]; exact U3.c3 r hr c hc, fun r hr c hc => by have hl := b4.2.2.2.2.2.2.2.1; rw [G4.2.2.2.2 _ _ _ (by omega), c4 _ (by omega)]; exact U4.c4 r hr c hc, fun r hr c hc => by have hl := b5.2.2.2.2.2.2.2.1; rw [G5.2.2.2.2 _ _ _ (by omega), c5 _ (by omega)]; exact U5.c5 r hr c hc⟩
  have kt : ∀ {n : MM}, n.K = m.K → n.K t = 9 := fun h => by rw [h]; exact ht.K
  have ku : ∀ {n : MM}, n.K = m.K → n.K u = 9 := fun h => by rw [h]; exact hu.K
  unfold f_X8_take g_X8_take_0
  rw [ifn_s, chk_t hu.K, chk_t ht.K, bnd_e, hu.s0, bnd_e, w1, bnd_e, w2, bnd_e, w3, ← hm0, show m0.R 904 t 0 = some (t + 1) from by rw [f0.2.2.2.1]; exact ht.R4, ck_s (show m0.K (t + 1) = 7 from by rw [f0.1]; exact ht.T0.1), show m0.R 904 u 0 = some (u + 1) from by rw [f0.2.2.2.1]; exact hu.R4, e1, cal_s, chk_t (kt f1.1), chk_t (ku f1.1), show m1.R 905 t 0 = some (t + 3) from by rw [f1.2.2.2.1]; exact ht.R5, ck_s (show m1.K (t + 3) = 7 from by rw [f1.1]; exact ht.T1.1), show m1.R 905 u 0 = some (u + 3) from by rw [f1.2.2.2.1]; exact hu.R5, e2, cal_s, chk_t (kt f2.1), chk_t (ku f2.1), show m2.R 906 t 0 = some (t + 5) from by rw [f2.2.2.2.1]; exact ht.R6, ck_s (show m2.K (t + 5) = 7 from by rw [f2.1]; exact ht.T2.1), show m2.R 906 u 0 = some (u + 5) from by rw [f2.2.2.2.1]; exact hu.R6, e3, cal_s, chk_t (kt f3.1), chk_t (ku f3.1), show m3.R 907 t 0 = some (t + 7) from by rw [f3.2.2.2.1]; exact ht.R7, ck_s (show m3.K (t + 7) = 7 from by rw [f3.1]; exact ht.T3.1), show m3.R 907 u 0 = some (u + 7) from by rw [f3.2.2.2.1]; exact hu.R7, e4, cal_s, chk_t (kt f4.1), chk_t (ku f4.1), show m4.R 908 t 0 = some (t + 9) from by rw [f4.2.2.2.1]; exact ht.R8, ck_s (show m4.K (t + 9) = 7 from by rw [f4.1]; exact ht.T4.1), show m4.R 908 u 0 = some (u + 9) from by rw [f4.2.2.2.1]; exact hu.R8, e5, cal_s, chk_t (kt f5.1), chk_t (ku f5.1), show m5.R 909 t 0 = some (t + 11) from by rw [f5.2.2.2.1]; exact ht.R9, ck_s (show m5.K (t + 11) = 7 from by rw [f5.1]; exact ht.T5.1), show m5.R 909 u 0 = some (u + 11) from by rw [f5.2.2.2.1]; exact hu.R9, e6, cal_s, e7]
  exact e8
theorem c_lawTake {m : MM} {t u : Nat} {B V : LW} (ht : CL m t B) (hu : CL m u V) (hd : t + 3 ≤ u ∨ u + 3 ≤ t) : ∃ m', f_X2_take t (some u) m = some ((), m') ∧ Tq t (t + 3) m m' ∧ CL m' t V := by
  obtain ⟨m1, e1, g1, b1, c1⟩ := c_tabTake ht.T hu.T (by omega)
  have U1 : CL m1 u V := hu.kept (g1.ag (by omega))
  have w1 : (m1.sI 301 t 0 (V.1 0)).I 302 u 0 = V.1 1 := by rw [I_sI, if_neg (by omega)]; exact U1.s1
  have w2 : ((m1.sI 301 t 0 (V.1 0)).sI 302 t 0 (V.1 1)).I 303 u 0 = V.1 2 := by rw [I_sI, if_neg (by omega), I_sI, if_neg (by omega)]; exact U1.s2
  obtain ⟨m2, hm2⟩ : ∃ q, q = ((m1.sI 301 t 0 (V.1 0)).sI 302 t 0 (V.1 1)).sI 303 t 0 (V.1 2) := ⟨_, rfl⟩
  have f2 : Tq t (t + 1) m1 m2 := by rw [hm2]; exact (((Tq.rf t (t + 1) m1).sI _ _ _ _ (by omega) (by omega)).sI _ _ _ _ (by omega) (by omega)).sI _ _ _ _ (by omega) (by omega)
  have F2 : Tq t (t + 3) m m2 := (g1.up (by omega) (by omega)).tr (f2.up (by omega) (by omega))
  refine ⟨m2, ?_, F2, by rw [F2.1]; exact ht.K, by rw [F2.2.2.2.1]; exact ht.R, b1.kept (f2.ag (lo2 := t + 1) (hi2 := t + 3) (by omega)) (by omega) (by omega), ?_, ?_, ?_, fun r hr c hc => ?_, hu.b⟩
  · unfold f_X2_take g_X2_take_0
    rw [ifn_s, chk_t ht.K, chk_t hu.K, ck_e ht.R ht.T.1, hu.R, e1, cal_s, chk_t U1.K, chk_t (show m1.K t = 3 from by rw [g1.1]; exact ht.K), U1.s0, chk_t hu.b.1, bnd_e, w1, chk_t hu.b.2, bnd_e, w2, bnd_e, ← hm2]
  · rw [hm2, I_sI, if_neg (by omega), I_sI, if_neg (by omega), I_sI, if_pos ⟨rfl, rfl, rfl⟩]
  · rw [hm2, I_sI, if_neg (by omega), I_sI, if_pos ⟨rfl, rfl, rfl⟩]
  · rw [hm2, I_sI, if_pos ⟨rfl, rfl, rfl⟩]
  · have hl := b1.2.2.2.2.2.2.2.1
    rw [f2.2.2.2.2 _ _ _ (by omega), c1 _ (by omega)]
    exact hu.c r hr c hc
/-- a byte, read -/
def cvB (v : Int32) : Int32 := (Int32.toInt8 v).toInt32
def cvW (W : WD) : WD := (fun j => cvB (W.tp j), W.2)
theorem c_toldTape {m : MM} {t u : Nat} {W V : WD} (ht : TD m t W) (hu : TD m u V) (hd : t + 58 ≤ u ∨ u + 58 ≤ t) : ∃ s, Tq (t + 1) (t + 2) m s ∧ (∀ h, h < 500 → s.I 21 (t + 1) h = cvB (V.tp h)) ∧ ∀ K, l_X7_take_7 t (some u) K FU 0 m = K s := by
  obtain ⟨s, ⟨q1, q2⟩, q3⟩ := lp_inv (fun n h (s : MM) => fun (K : MM → Option (Unit × MM)) => l_X7_take_7 t (some u) K n h s) (fun h s => Tq (t + 1) (t + 2) m s ∧ ∀ g, g < h → s.I 21 (t + 1) g = cvB (V.tp g)) (fun s => fun K => K s) 500 (fun h hh s hI => by
    obtain ⟨a1, a2⟩ := hI
    have e1 : ¬ nI 500 ≤ nI h := nI_ge hh (by decide)
    refine ⟨s.sI 21 (t + 1) h (cvB (V.tp h)), ⟨a1.sI _ _ _ _ (by omega) (by omega), fun g hg => ?_⟩, fun n => ?_⟩
    · by_cases z : g = h
      · rw [z, I_sI, if_pos ⟨rfl, rfl, rfl⟩]
      · rw [I_sI, if_neg (by omega)]; exact a2 g (by omega)
    · funext K
      show g_X7_take_7 t (some u) (l_X7_take_7 t (some u) K n) K (nI h) s = _
      unfold g_X7_take_7
      have k1 : s.K t = 8 := by rw [a1.1]; exact ht.K
      have k2 : s.K u = 8 := by rw [a1.1]; exact hu.K
      have r1 : s.R 800 t 0 = some (t + 1) := by rw [a1.2.2.2.1]; exact ht.Rt
      have r2 : s.R 800 u 0 = some (u + 1) := by rw [a1.2.2.2.1]; exact hu.Rt
      have k3 : s.K (t + 1) = 21 := by rw [a1.1]; exact ht.K1
      have k4 : s.K (u + 1) = 21 := by rw [a1.1]; exact hu.K1
      have n3 : s.N (t + 1) = 500 := by rw [a1.2.1]; exact ht.N1
      have n4 : s.N (u + 1) = 500 := by rw [a1.2.1]; exact hu.N1
      have v : s.I 21 (u + 1) h = V.tp h := by rw [a1.2.2.2.2 _ _ _ (by omega)]; exact hu.tp h hh
      rw [chk_t k1, ck_e r1 k3, n3, ofN, if_neg e1, ck_s k2, ck_e r2 k4, n4, ofN, if_neg e1, chk_t (inb_nI hh (by decide)), chk_t (inb_nI hh (by decide)), bnd_e, cl_nI (show h < 2 ^ 31 by omega), v, nI_1]
      rfl) (fun s hI n => by
    obtain ⟨a1, a2⟩ := hI
    funext K
    show g_X7_take_7 t (some u) (l_X7_take_7 t (some u) K n) K (nI 500) s = _
    unfold g_X7_take_7
    have k1 : s.K t = 8 := by rw [a1.1]; exact ht.K
    have r1 : s.R 800 t 0 = some (t + 1) := by rw [a1.2.2.2.1]; exact ht.Rt
    have k3 : s.K (t + 1) = 21 := by rw [a1.1]; exact ht.K1
    have n3 : s.N (t + 1) = 500 := by rw [a1.2.1]; exact ht.N1
    rw [chk_t k1, ck_e r1 k3, n3, ofN, if_pos (Int32.le_refl _)]) (s0 := m) ⟨Tq.rf _ _ m, fun g hg => by omega⟩
  exact ⟨s, q1, q2, fun K => congrFun (q3 FU (by unfold FU; omega)) K⟩
/-- the head of a told, what it points to -/
def TH (m : MM) (t : Nat) : Prop := m.K t = 8 ∧ m.R 800 t 0 = some (t + 1) ∧ m.R 806 t 0 = some (t + 2) ∧ m.R 807 t 0 = some (t + 3) ∧ m.K (t + 1) = 21 ∧ m.N (t + 1) = 500 ∧ m.K (t + 2) = 28 ∧ m.N (t + 2) = 3 ∧ m.K (t + 3) = 26 ∧ m.N (t + 3) = 3 ∧ (∀ i, i < 3 → m.R 28 (t + 2) i = some (t + 4 + 18 * i)) ∧ (∀ i, i < 3 → m.R 26 (t + 3) i = some (t + 19 + 18 * i))
theorem TH.seatT {m : MM} {t : Nat} (h : TH m t) {i : Nat} (hi : i < 3) : f_X7_townSeat t (nI i) m = some (some (t + 4 + 18 * i), m) := by
  obtain ⟨h1, h2, h3, h4, h5, h6, h7, h8, h9, h10, h11, h12⟩ := h
  have e1 : ¬ nI i < 0 := nI_pos (by omega)
  have e2 : ¬ nI 3 ≤ nI i := nI_ge hi (by decide)
  simp only [g_X7_townSeat_22, g_X7_townSeat_0, f_X7_townSeat, if_neg e1, chk_t h1, ck_e h3 h7, h8, ofN, if_neg e2, chk_t (inb_nI hi (by decide)), cl_nI (show i < 2 ^ 31 by omega), h11 i hi]
theorem TH.seatL {m : MM} {t : Nat} (h : TH m t) {i : Nat} (hi : i < 3) : f_X7_lawSeat t (nI i) m = some (some (t + 19 + 18 * i), m) := by
  obtain ⟨h1, h2, h3, h4, h5, h6, h7, h8, h9, h10, h11, h12⟩ := h
  have e1 : ¬ nI i < 0 := nI_pos (by omega)
  have e2 : ¬ nI 3 ≤ nI i := nI_ge hi (by decide)
  simp only [g_X7_lawSeat_22, g_X7_lawSeat_0, f_X7_lawSeat, if_neg e1, chk_t h1, ck_e h4 h9, h10, ofN, if_neg e2, chk_t (inb_nI hi (by decide)), cl_nI (show i < 2 ^ 31 by omega), h12 i hi]
theorem TD.th {m : MM} {t : Nat} {W : WD} (h : TD m t W) : TH m t := ⟨h.K, h.Rt, h.Rr, h.Rl, h.K1, h.N1, h.K2, h.N2, h.K3, h.N3, h.rT, h.rL⟩
theorem TH.tq {m n : MM} {t lo hi : Nat} (h : TH m t) (o : Tq lo hi m n) : TH n t := by
  unfold TH
  rw [o.1, o.2.1, o.2.2.2.1]
  exact h
theorem c_toldTake {m : MM} {t u : Nat} {W V : WD} (ht : TD m t W) (hu : TD m u V) (hd : t + 58 ≤ u ∨ u + 58 ≤ t) : ∃ m', f_X7_take t (some u) m = some ((), m') ∧ Tq t (t + 58) m m' ∧ TD m' t (cvW V) := by
  obtain ⟨m1, f1, v1, e1⟩ := c_toldTape ht hu hd
  have U1 : TD m1 u V := hu.kept (f1.ag (by omega))
  obtain ⟨m2, hm2⟩ : ∃ q, q = ((((m1.sI 801 t 0 (nI V.ln)).sI 802 t 0 V.fa).sI 803 t 0 V.pl).sI 804 t 0 (nI V.nt)).sI 805 t 0 (nI V.nl) := ⟨_, rfl⟩
  have f2 : Tq t (t + 1) m1 m2 := by rw [hm2]; exact (((((Tq.rf t (t + 1) m1).sI _ _ _ _ (by omega) (by omega)).sI _ _ _ _ (by omega) (by omega)).sI _ _ _ _ (by omega) (by omega)).sI _ _ _ _ (by omega) (by omega)).sI _ _ _ _ (by omega) (by omega)
  have F2 : Tq t (t + 4) m m2 := (f1.up (by omega) (by omega)).tr (f2.up (by omega) (by omega))
  obtain ⟨m3, ⟨f3, c3, d3⟩, e3⟩ := lp_inv (fun n h (s : MM) => l_X7_take_85 t (some u) n h s) (fun h s => Tq (t + 4) (t + 4 + 18 * h) m2 s ∧ (∀ i, i < h → CT s (t + 4 + 18 * i) (V.tn i)) ∧ ∀ i, i < h → CL s (t + 19 + 18 * i) (V.lw i)) (fun s => some ((), s)) 3 (fun h hh s hI => by
    obtain ⟨a1, a2, a3⟩ := hI
    have gD : Ag m s (t + 4 + 18 * h) (t + 58) := (F2.ag (by omega)).tr (a1.ag (by omega))
    have gU : Ag m s u (u + 58) := (F2.ag (by omega)).tr (a1.ag (by omega))
    have Us := hu.kept gU
    have dT : CT s (t + 4 + 18 * h) (W.tn h) := (ht.T h hh).kept (gD.sub (by omega) (by omega))
    have dL : CL s (t + 19 + 18 * h) (W.lw h) := (ht.L h hh).kept (gD.sub (by omega) (by omega))
    obtain ⟨s1, x1, x2, x3⟩ := c_townTake dT (Us.T h hh) (by omega)
    have Us1 := Us.kept (x2.ag (by omega))
    have dL1 : CL s1 (t + 19 + 18 * h) (W.lw h) := dL.kept (x2.ag (by omega))
    obtain ⟨s2, y1, y2, y3⟩ := c_lawTake dL1 (Us1.L h hh) (by omega)
    have H : TH s t := (ht.th.tq F2).tq a1
    refine ⟨s2, ⟨((a1.up (by omega) (by omega)).tr (x2.up (by omega) (by omega))).tr (y2.up (by omega) (by omega)), fun i hi => ?_, fun i hi => ?_⟩, fun n => ?_⟩
    · by_cases z : i = h
      · subst z
        exact x3.kept (y2.ag (by omega))
      · exact ((a2 i (by omega)).kept (x2.ag (by omega))).kept (y2.ag (by omega))
    · by_cases z : i = h
      · subst z
        exact y3
      · exact ((a3 i (by omega)).kept (x2.ag (by omega))).kept (y2.ag (by omega))
    · show g_X7_take_85 t (some u) (l_X7_take_85 t (some u) n) (nI h) s = _
      unfold g_X7_take_85 g_X7_take_131
      rw [if_neg (show ¬ (3 : Int32) ≤ nI h from nI_ge (b := 3) hh (by decide)), chk_t H.1, H.seatT hh, cal_s, chk_t H.1, H.seatL hh, cal_s, ifn_s, ifn_s, ck_s Us.K, Us.th.seatT hh, cal_s, chk_t dT.K, x1, cal_s, chk_t Us1.K, Us1.th.seatL hh, cal_s, chk_t dL1.K, y1, cal_s, nI_1]) (fun s hI n => by
    show g_X7_take_85 t (some u) (l_X7_take_85 t (some u) n) (nI 3) s = _
    unfold g_X7_take_85
    rw [if_pos (show (3 : Int32) ≤ nI 3 by decide)]) (s0 := m2) ⟨Tq.rf _ _ m2, fun i hi => by omega, fun i hi => by omega⟩
  have F3 : Tq t (t + 58) m m3 := (F2.up (by omega) (by omega)).tr (f3.up (by omega) (by omega))
  obtain ⟨h1, h2, h3, h4, h5, h6, h7, h8, h9, h10, h11, h12⟩ := ht.th.tq F3
  have ef : ∀ s, m3.I s t 0 = m2.I s t 0 := fun s => f3.2.2.2.2 s t 0 (by omega)
  refine ⟨m3, ?_, F3, h1, h2, h3, h4, h5, h6, h7, h8, h9, h10, h11, h12, fun h hh => ?_, ?_, hu.lnle, ?_, ?_, ?_, hu.ntle, ?_, hu.nlle, c3, d3⟩
  · have w1 : (m1.sI 801 t 0 (nI V.ln)).I 802 u 0 = V.fa := by rw [I_sI, if_neg (by omega)]; exact U1.fa
    have w2 : ((m1.sI 801 t 0 (nI V.ln)).sI 802 t 0 V.fa).I 803 u 0 = V.pl := by rw [I_sI, if_neg (by omega), I_sI, if_neg (by omega)]; exact U1.pl
    have w3 : (((m1.sI 801 t 0 (nI V.ln)).sI 802 t 0 V.fa).sI 803 t 0 V.pl).I 804 u 0 = nI V.nt := by rw [I_sI, if_neg (by omega), I_sI, if_neg (by omega), I_sI, if_neg (by omega)]; exact U1.nt
    have w4 : ((((m1.sI 801 t 0 (nI V.ln)).sI 802 t 0 V.fa).sI 803 t 0 V.pl).sI 804 t 0 (nI V.nt)).I 805 u 0 = nI V.nl := by rw [I_sI, if_neg (by omega), I_sI, if_neg (by omega), I_sI, if_neg (by omega), I_sI, if_neg (by omega)]; exact U1.nl
    unfold f_X7_take g_X7_take_0
    rw [ifn_s, e1]
    unfold g_X7_take_43
    rw [ck_s U1.K, chk_t (show m1.K t = 8 from by rw [f1.1]; exact ht.K), U1.ln, bnd_e, w1, bnd_e, w2, bnd_e, w3, bnd_e, w4, bnd_e, ← hm2]
    exact e3 FU (by unfold FU; omega)
  · rw [f3.2.2.2.2 _ _ _ (by omega), f2.2.2.2.2 _ _ _ (by omega)]; exact v1 h hh
  · rw [ef, hm2, I_sI, if_neg (by omega), I_sI, if_neg (by omega), I_sI, if_neg (by omega), I_sI, if_neg (by omega), I_sI, if_pos ⟨rfl, rfl, rfl⟩]; rfl
  · rw [ef, hm2, I_sI, if_neg (by omega), I_sI, if_neg (by omega), I_sI, if_neg (by omega), I_sI, if_pos ⟨rfl, rfl, rfl⟩]; rfl
  · rw [ef, hm2, I_sI, if_neg (by omega), I_sI, if_neg (by omega), I_sI, if_pos ⟨rfl, rfl, rfl⟩]; rfl
  · rw [ef, hm2, I_sI, if_neg (by omega), I_sI, if_pos ⟨rfl, rfl, rfl⟩]; rfl
  · rw [ef, hm2, I_sI, if_pos ⟨rfl, rfl, rfl⟩]; rfl
