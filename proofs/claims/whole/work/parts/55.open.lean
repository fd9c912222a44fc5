/-! a scene is opened -/
theorem lp_inv {σ ρ : Type} (L : Nat → Int32 → σ → ρ) (I : Nat → σ → Prop) (e : σ → ρ) (N : Nat) (hs : ∀ i, i < N → ∀ s, I i s → ∃ s', I (i + 1) s' ∧ ∀ n, L (n + 1) (nI i) s = L n (nI (i + 1)) s') (he : ∀ s, I N s → ∀ n, L (n + 1) (nI N) s = e s) {s0 : σ} (h0 : I 0 s0) : ∃ s, I N s ∧ ∀ n, N < n → L n (nI 0) s0 = e s := by
  have key : ∀ k i, i + k = N → ∀ s, I i s → ∃ s', I N s' ∧ ∀ n, k < n → L n (nI i) s = e s' := by
    intro k
    induction k with
    | zero =>
      intro i hi s hI
      have : i = N := by omega
      subst this
      refine ⟨s, hI, fun n hn => ?_⟩
      obtain ⟨q, rfl⟩ : ∃ q, n = q + 1 := ⟨n - 1, by omega⟩
      exact he s hI q
    | succ k ih =>
      intro i hi s hI
      obtain ⟨s1, h1, e1⟩ := hs i (by omega) s hI
      obtain ⟨s2, h2, e2⟩ := ih (i + 1) (by omega) s1 h1
      refine ⟨s2, h2, fun n hn => ?_⟩
      obtain ⟨q, rfl⟩ : ∃ q, n = q + 1 := ⟨n - 1, by omega⟩
      rw [e1 q]
      exact e2 q (by omega)
  exact key N 0 (by omega) s0 h0
theorem CT.sI {m : MM} {t : Nat} {T : TW} (h : CT m t T) (s a i : Nat) (v : Int32) (ha : a < t ∨ t + 15 ≤ a) : CT (m.sI s a i v) t T := h.kept ((Ag.rf m t (t + 15)).sI s a i v ha)
theorem CT.sR {m : MM} {t : Nat} {T : TW} (h : CT m t T) (s a i : Nat) (v : Option Nat) (ha : a < t ∨ t + 15 ≤ a) : CT (m.sR s a i v) t T := h.kept ((Ag.rf m t (t + 15)).sR s a i v ha)
theorem CL.sI {m : MM} {t : Nat} {B : LW} (h : CL m t B) (s a i : Nat) (v : Int32) (ha : a < t ∨ t + 3 ≤ a) : CL (m.sI s a i v) t B := h.kept ((Ag.rf m t (t + 3)).sI s a i v ha)
theorem CL.sR {m : MM} {t : Nat} {B : LW} (h : CL m t B) (s a i : Nat) (v : Option Nat) (ha : a < t ∨ t + 3 ≤ a) : CL (m.sR s a i v) t B := h.kept ((Ag.rf m t (t + 3)).sR s a i v ha)
theorem Sh.th {m : MM} {x : Nat} (h : Sh m x) : m.K (x + 81) = 6 := h.2.2.1.1
theorem Sh.bs {m : MM} {x : Nat} (h : Sh m x) : m.R 600 (x + 81) 0 = some (x + 82) ∧ m.K (x + 82) = 25 ∧ m.N (x + 82) = 12 := ⟨h.2.2.1.2.1, h.2.2.1.2.2.2.1, h.2.2.1.2.2.2.2.1⟩
theorem Sh.b {m : MM} {x : Nat} (h : Sh m x) {i : Nat} (hi : i < 12) : m.R 25 (x + 82) i = some (x + 83 + i) ∧ m.K (x + 83 + i) = 1 := h.2.2.1.2.2.2.2.2.2.2 i hi
theorem Bo.kept {m n : MM} {a : Nat} {b : BD} (h : Bo m a b) (hK : n.K a = m.K a) (hI : ∀ s, n.I s a 0 = m.I s a 0) : Bo n a b := ⟨by rw [hK]; exact h.1, by rw [hI]; exact h.2.1, by rw [hI]; exact h.2.2.1, by rw [hI]; exact h.2.2.2.1, by rw [hI]; exact h.2.2.2.2.1, by rw [hI]; exact h.2.2.2.2.2⟩
/-- a thing's body on a day -/
def bdy (T : TW) (d i : Nat) : BD := ((T.2.2 0 i 0).toNatClampNeg, (T.2.2 0 i 1).toNatClampNeg, (T.2.2 0 i 2).toNatClampNeg, T.2.2 0 i 5, gN T (T.2.2 0 i 0).toNatClampNeg (T.2.2 0 i 4).toNatClampNeg d)
theorem gN_le (T : TW) (k s d : Nat) : gN T k s d ≤ 9 := by
  unfold gN
  split
  · omega
  · split
    · omega
    · exact Nat.min_le_left _ _
theorem nB_e {v : Int32} {n : Nat} (h : nB v n) (hn : n ≤ 2 ^ 31) : v = nI v.toNatClampNeg ∧ v.toNatClampNeg < n := by
  obtain ⟨k, hk, e⟩ := h
  have : v.toNatClampNeg = k := by rw [e, cl_nI (by omega)]
  rw [this]
  exact ⟨e, hk⟩
theorem bdy_v {T : TW} (V : VT T) {i : Nat} (hi : i < T.2.1 0) (d : Nat) : VB (bdy T d i) := by
  obtain ⟨v0, v1, v2, _, _, v5, _⟩ := V.2.2.2.2.2.2.1 i hi
  exact ⟨(nB_e v0 (by omega)).2, (nB_e v1 (by omega)).2, (nB_e v2 (by omega)).2, v5, gN_le _ _ _ _⟩
/-- who stands on a day -/
def sB (T : TW) (d i : Nat) : Bool := decide (i < T.2.1 0) && stB T i (nI d)
def Oq (m : MM) (x t : Nat) (pl : Option Nat) (T : TW) (d : Nat) : Prop := m.R 602 (x + 81) 0 = some t ∧ m.R 603 (x + 81) 0 = pl ∧ m.I 604 (x + 81) 0 = nI d ∧ m.I 606 (x + 81) 0 = 0 ∧ m.I 607 (x + 81) 0 = 255 ∧ m.I 608 (x + 81) 0 = -1 ∧ m.I 605 (x + 81) 0 = mks (sB T d) 12 ∧ ∀ k, k < T.2.1 0 → Bo m (x + 83 + k) (bdy T d k)
def Oi (m : MM) (x t : Nat) (pl : Option Nat) (T : TW) (d i : Nat) (s : MM) : Prop := Fq x m s ∧ (s.R 602 (x + 81) 0 = some t ∧ s.R 603 (x + 81) 0 = pl ∧ s.I 604 (x + 81) 0 = nI d ∧ s.I 606 (x + 81) 0 = 0 ∧ s.I 607 (x + 81) 0 = 255 ∧ s.I 608 (x + 81) 0 = -1) ∧ s.I 605 (x + 81) 0 = mks (sB T d) i ∧ ∀ k, k < i → k < T.2.1 0 → Bo s (x + 83 + k) (bdy T d k)
theorem c_open_s {m s : MM} {x t d i : Nat} {T : TW} (hS : Sh m x) (h : CT m t T) (V : VT T) (t1 : x + 1 ≤ t) (t2 : t + 15 ≤ x + 60) (hd : d < 1000) (pl : Option Nat) (hi : i < 12) (hI : Oi m x t pl T d i s) : ∃ s', Oi m x t pl T d (i + 1) s' ∧ ∀ n, l_X5_open_40 (x + 81) (some t) pl (nI d) (n + 1) (nI i) s = l_X5_open_40 (x + 81) (some t) pl (nI d) n (nI (i + 1)) s' := by
  obtain ⟨j1, j2, j3, j4⟩ := hI
  have hn := h.n0.2.2
  have sS := j1.sh hS
  have w81 : inW x (x + 81) := by unfold inW; omega
  have c0 : CT s t T := h.kept (j1.ag (by omega))
  have e1 : ¬ nI 12 ≤ nI i := nI_ge hi (by decide)
  have wb : inW x (x + 83 + i) := by unfold inW; omega
  have b1 := sS.b hi
  by_cases hit : i < T.2.1 0
  · obtain ⟨v0, v1, v2, _, v4, v5, _⟩ := V.2.2.2.2.2.2.1 i hit
    have q0 := nB_e v0 (by omega)
    have q1 := nB_e v1 (by omega)
    have q2 := nB_e v2 (by omega)
    have q4 := nB_e v4 (by omega)
    have c1 := c0.sI 100 (x + 83 + i) 0 (T.2.2 0 i 0) (by omega)
    have c2 := c1.sI 101 (x + 83 + i) 0 (T.2.2 0 i 1) (by omega)
    have c3 := c2.sI 102 (x + 83 + i) 0 (T.2.2 0 i 2) (by omega)
    have c4 := c3.sI 103 (x + 83 + i) 0 (T.2.2 0 i 5) (by omega)
    have c5 := c4.sI 104 (x + 83 + i) 0 (nI (gN T (T.2.2 0 i 0).toNatClampNeg (T.2.2 0 i 4).toNatClampNeg d)) (by omega)
    have gr := c_growth c4 V hit q0.2 q0.1 q4.1 q4.2 (show d < 1001 by omega)
    obtain ⟨s5, hs5⟩ : ∃ q : MM, q = ((((s.sI 100 (x + 83 + i) 0 (T.2.2 0 i 0)).sI 101 (x + 83 + i) 0 (T.2.2 0 i 1)).sI 102 (x + 83 + i) 0 (T.2.2 0 i 2)).sI 103 (x + 83 + i) 0 (T.2.2 0 i 5)).sI 104 (x + 83 + i) 0 (nI (gN T (T.2.2 0 i 0).toNatClampNeg (T.2.2 0 i 4).toNatClampNeg d)) := ⟨_, rfl⟩
    have i5 : s5.I 605 (x + 81) 0 = mks (sB T d) i := by rw [hs5]; simp [I_sI, j3]
    have k5 : s5.K = s.K := by rw [hs5]; rfl
    have f5 : Fq x m s5 := by rw [hs5]; exact ((((j1.sI _ _ _ _ wb).sI _ _ _ _ wb).sI _ _ _ _ wb).sI _ _ _ _ wb).sI _ _ _ _ wb
    have o5 : ∀ s2 a2 i2, a2 ≠ x + 83 + i → s5.I s2 a2 i2 = s.I s2 a2 i2 := by
      intro s2 a2 i2 ha
      rw [hs5]
      simp [I_sI, ha]
    have r5 : s5.R = s.R := by rw [hs5]; rfl
    have n5 : Bo s5 (x + 83 + i) (bdy T d i) := by
      refine ⟨by rw [k5]; exact b1.2, ?_, ?_, ?_, ?_, ?_⟩
      · rw [hs5]; simp only [I_sI]; simp; exact q0.1
      · rw [hs5]; simp only [I_sI]; simp; exact q1.1
      · rw [hs5]; simp only [I_sI]; simp; exact q2.1
      · rw [hs5]; simp only [I_sI]; simp; rfl
      · rw [hs5]; simp only [I_sI]; simp; rfl
    rw [← hs5] at c5
    have key : ∀ n, l_X5_open_40 (x + 81) (some t) pl (nI d) (n + 1) (nI i) s = l_X5_open_40 (x + 81) (some t) pl (nI d) n (nI (i + 1)) (if stB T i (nI d) then s5.sI 605 (x + 81) 0 (mks (sB T d) i ||| (1 <<< (nI i &&& 31))) else s5) := by
      intro n
      show g_X5_open_40 (x + 81) (some t) pl (nI d) (l_X5_open_40 (x + 81) (some t) pl (nI d) n) (nI i) s = _
      simp only [g_X5_open_40, g_X5_open_175, chk_t sS.th, sS.bs.1, ck_s sS.bs.2.1, sS.bs.2.2, ofN, if_neg e1, chk_t (inb_nI hi (by decide)), cl_nI (show i < 2 ^ 31 by omega), b1.1, chk_t, ck_sI, ck_sR, ck_sJ, cal_s, bnd_e, ifn_s, ifn_n, chk_t c0.K, c_hasThing c0, hasTh_nI c0.n0.2.2 hit, bI_0, Bool.true_eq_false, if_false, c0.k0, c0.cell0_0 hit, K_sI, R_sI, chk_t b1.2, c1.cell0_1 hit, c2.cell0_2 hit, c3.cell0_5 hit, gr, ← hs5]
      simp only [c_stands c5 hit, nI_1, i5, chk_t, ck_sI, ck_sR, ck_sJ, cal_s, bnd_e, ifn_s, ifn_n, bI_0, k5, chk_t sS.th]
      cases stB T i (nI d) <;> simp
    have hsb : sB T d i = stB T i (nI d) := by rw [sB, decide_eq_true hit, Bool.true_and]
    refine ⟨_, ?_, key⟩
    cases hst : stB T i (nI d) with
    | true =>
      simp only [if_true]
      refine ⟨f5.sI _ _ _ _ w81, ⟨by rw [R_sI, r5]; exact j2.1, by rw [R_sI, r5]; exact j2.2.1, ?_, ?_, ?_, ?_⟩, ?_, fun k hk hkt => ?_⟩
      · rw [I_sI, if_neg (by simp), o5 _ _ _ (by omega)]; exact j2.2.2.1
      · rw [I_sI, if_neg (by simp), o5 _ _ _ (by omega)]; exact j2.2.2.2.1
      · rw [I_sI, if_neg (by simp), o5 _ _ _ (by omega)]; exact j2.2.2.2.2.1
      · rw [I_sI, if_neg (by simp), o5 _ _ _ (by omega)]; exact j2.2.2.2.2.2
      · rw [I_sI, if_pos ⟨rfl, rfl, rfl⟩, mks_s, hsb, hst, if_pos rfl]
      · have hb : Bo s5 (x + 83 + k) (bdy T d k) := by
          by_cases q : k = i
          · rw [q]; exact n5
          · exact (j4 k (by omega) hkt).kept (by rw [k5]) (fun s2 => o5 _ _ _ (by omega))
        exact hb.kept rfl (fun s2 => by rw [I_sI, if_neg (fun q => by omega)])
    | false =>
      simp only [Bool.false_eq_true, if_false]
      refine ⟨f5, ⟨by rw [r5]; exact j2.1, by rw [r5]; exact j2.2.1, ?_, ?_, ?_, ?_⟩, ?_, fun k hk hkt => ?_⟩
      · rw [o5 _ _ _ (by omega)]; exact j2.2.2.1
      · rw [o5 _ _ _ (by omega)]; exact j2.2.2.2.1
      · rw [o5 _ _ _ (by omega)]; exact j2.2.2.2.2.1
      · rw [o5 _ _ _ (by omega)]; exact j2.2.2.2.2.2
      · rw [mks_s, hsb, hst, if_neg (by decide)]; exact i5
      · by_cases q : k = i
        · rw [q]; exact n5
        · exact (j4 k (by omega) hkt).kept (by rw [k5]) (fun s2 => o5 _ _ _ (by omega))
  · refine ⟨s, ⟨j1, j2, ?_, fun k hk hkt => j4 k (by omega) hkt⟩, fun n => ?_⟩
    · rw [mks_s, sB, decide_eq_false hit, Bool.false_and, if_neg (by decide)]; exact j3
    · show g_X5_open_40 (x + 81) (some t) pl (nI d) (l_X5_open_40 (x + 81) (some t) pl (nI d) n) (nI i) s = _
      simp only [g_X5_open_40, g_X5_open_175, chk_t sS.th, sS.bs.1, ck_s sS.bs.2.1, sS.bs.2.2, ofN, if_neg e1, chk_t (inb_nI hi (by decide)), cl_nI (show i < 2 ^ 31 by omega), b1.1, chk_t, ck_sI, ck_sR, ck_sJ, cal_s, bnd_e, ifn_s, ifn_n, chk_t c0.K, c_hasThing c0, hasTh_no c0.n0.2.2 (show T.2.1 0 ≤ i by omega) (by omega), bI_0, if_true, nI_1]
theorem c_open {m : MM} {x t d : Nat} {T : TW} (hS : Sh m x) (h : CT m t T) (V : VT T) (t1 : x + 1 ≤ t) (t2 : t + 15 ≤ x + 60) (hd : d < 1000) (pl : Option Nat) : ∃ m', f_X5_open (x + 81) (some t) pl (nI d) m = some ((), m') ∧ Fq x m m' ∧ Oq m' x t pl T d := by
  have hn := h.n0.2.2
  have w81 : inW x (x + 81) := by unfold inW; omega
  obtain ⟨m1, hm1⟩ : ∃ q : MM, q = ((((((m.sR 602 (x + 81) 0 (some t)).sR 603 (x + 81) 0 pl).sI 604 (x + 81) 0 (nI d)).sI 606 (x + 81) 0 0).sI 607 (x + 81) 0 255).sI 608 (x + 81) 0 (-1)).sI 605 (x + 81) 0 0 := ⟨_, rfl⟩
  have f1 : Fq x m m1 := by rw [hm1]; exact (((((((Fq.rf x m).sR 602 _ _ _ w81 (Or.inl rfl)).sR 603 _ _ _ w81 (Or.inr rfl)).sI _ _ _ _ w81).sI _ _ _ _ w81).sI _ _ _ _ w81).sI _ _ _ _ w81).sI _ _ _ _ w81
  have I0 : Oi m x t pl T d 0 m1 := ⟨f1, by rw [hm1]; simp [I_sI, R_sI, R_sR, I_sR], by rw [hm1]; simp [I_sI, mks], fun k hk => by omega⟩
  have he : ∀ s, Oi m x t pl T d 12 s → ∀ n, l_X5_open_40 (x + 81) (some t) pl (nI d) (n + 1) (nI 12) s = some ((), s) := by
    intro s hI n
    have sS := hI.1.sh hS
    show g_X5_open_40 (x + 81) (some t) pl (nI d) (l_X5_open_40 (x + 81) (some t) pl (nI d) n) (nI 12) s = _
    simp only [g_X5_open_40, chk_t sS.th, sS.bs.1, ck_s sS.bs.2.1, sS.bs.2.2, ofN, if_pos (Int32.le_refl _)]
  obtain ⟨m2, ⟨g1, g2, g3, g4⟩, ge⟩ := lp_inv (fun n i s => l_X5_open_40 (x + 81) (some t) pl (nI d) n i s) (Oi m x t pl T d) (fun s => some ((), s)) 12 (fun i hi s hI => c_open_s hS h V t1 t2 hd pl hi hI) he I0
  refine ⟨m2, ?_, g1, g2.1, g2.2.1, g2.2.2.1, g2.2.2.2.1, g2.2.2.2.2.1, g2.2.2.2.2.2, g3, fun k hk => g4 k (by omega) hk⟩
  simp only [f_X5_open, g_X5_open_0, chk_t hS.th, chk_t, ck_sI, ck_sR, ck_sJ, cal_s, bnd_e, ifn_s, ifn_n]
  rw [← hm1]
  exact ge FU (by unfold FU; omega)
