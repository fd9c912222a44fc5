/-! a town, a law, a day are asked for -/
def opB (W : WD) (p q d : Int32) : Bool := isN W.nt p && isN W.nl q && isN 1000 d
def br0 (T : TW) (B : LW) (d : Nat) : List B3 := barL T B d 0 (bt 255) (clL T d)
theorem bt_255 : ∀ h, h < 8 → bt 255 h = true := by decide
theorem ohB_m (h : Nat) : ohB (-1) h = true := by unfold ohB; rw [decide_eq_true rfl]; rfl
theorem barL_congr {T : TW} {B : LW} {d w : Nat} {H H' : Nat → Bool} {L L' : BD → BD → Bool} (hH : ∀ h, h < 8 → H h = H' h) (hL : ∀ a b, L a b = L' a b) : barL T B d w H L = barL T B d w H' L' := by
  unfold barL
  refine aL_congr (fun a b r _ _ _ => ?_)
  unfold barP
  rw [baR_congr hH (hL _ _)]
theorem br0_r {T : TW} {B : LW} {d : Nat} (N : NT T) : barL T B d 0 (ohB (-1)) (rfL T d 0) = br0 T B d := barL_congr (fun h hh => by rw [ohB_m, bt_255 h hh]) (fun a b => rfL_0 N d a b)
theorem barL_le {T : TW} {B : LW} {d w : Nat} {H : Nat → Bool} {L : BD → BD → Bool} (hB : B.2.1 ≤ 10) : (barL T B d w H L).length ≤ 1320 := aL_le (barP_d T B d w H L) hB 12 (by omega)
theorem bar_ok {T : TW} {B : LW} {d w : Nat} {H : Nat → Bool} {L : BD → BD → Bool} {k : Nat} (hk : k < (barL T B d w H L).length) : ∃ a b r, lat (barL T B d w H L) k = (a, b, r) ∧ a < T.2.1 0 ∧ b < T.2.1 0 ∧ a ≠ b ∧ r < B.2.1 ∧ barP T B d w H L a b r = true := by
  obtain ⟨h1, h2, h3, h4⟩ := aL_mem.mp (lat_mem hk)
  have h5 := h4
  unfold barP at h5
  simp only [Bool.and_eq_true, Bool.not_eq_true', decide_eq_false_iff_not] at h5
  exact ⟨_, _, _, rfl, sB_n h5.1.1.1.1, sB_n h5.1.1.1.2, h5.1.1.2, h3, h4⟩
theorem Mq_o {x : Nat} {A B : MM → Option (Int32 × MM)} (p q d r0 : Int32) (Q : TW → LW → Nat → Int32) (hA0 : ∀ m W D, Inv m x W D → opB W p q d = false → ∃ m', A m = some (r0, m') ∧ Fq x m m') (hA1 : ∀ m W D i j k, Inv m x W D → i < W.nt → j < W.nl → k < 1000 → p = nI i → q = nI j → d = nI k → ∃ m', A m = some (Q (W.tn i) (W.lw j) k, m') ∧ Fq x m m') (hB0 : ∀ m W D, Inv m x W D → opB W p q d = false → ∃ m', B m = some (r0, m') ∧ Fq x m m') (hB1 : ∀ m W D i j k, Inv m x W D → i < W.nt → j < W.nl → k < 1000 → p = nI i → q = nI j → d = nI k → ∃ m', B m = some (Q (W.tn i) (W.lw j) k, m') ∧ Fq x m m') : Mq x A B := by
  have key : ∀ (A : MM → Option (Int32 × MM)), (∀ m W D, Inv m x W D → opB W p q d = false → ∃ m', A m = some (r0, m') ∧ Fq x m m') → (∀ m W D i j k, Inv m x W D → i < W.nt → j < W.nl → k < 1000 → p = nI i → q = nI j → d = nI k → ∃ m', A m = some (Q (W.tn i) (W.lw j) k, m') ∧ Fq x m m') → Qa x A (fun W => cond (opB W p q d) (Q (W.tn p.toNatClampNeg) (W.lw q.toNatClampNeg) d.toNatClampNeg) r0) := by
    intro A h0 h1 m W D h
    cases hop : opB W p q d with
    | false =>
      simp only [hop, cond_false]
      exact h0 m W D h hop
    | true =>
      have hop2 := hop
      unfold opB at hop2
      rw [Bool.and_eq_true, Bool.and_eq_true] at hop2
      have hnt := h.nt
      have hnl := h.nl
      obtain ⟨i, hi, e1⟩ := (isN_iff (by omega)).mp hop2.1.1
      obtain ⟨j, hj, e2⟩ := (isN_iff (by omega)).mp hop2.1.2
      obtain ⟨k, hk, e3⟩ := (isN_iff (by decide)).mp hop2.2
      have := h1 m W D i j k h hi hj hk e1 e2 e3
      simp only [hop, cond_true]
      rw [e1, e2, e3, cl_nI (by omega), cl_nI (by omega), cl_nI (by omega)]
      exact this
  exact Mq_q _ (key A hA0 hA1) (key B hB0 hB1)
section OPN
variable {m : MM} {x i j k : Nat} {W : WD} {D : Nat → Option (Nat × WD)}
theorem c_opened0 (h : Inv m x W D) {p q d : Int32} (ho : opB W p q d = false) : f_X9_opened x p q d m = some (0, m) := by
  have hnt := h.nt
  have hnl := h.nl
  simp only [f_X9_opened, g_X9_opened_0, chk_t h.kx, h.now]
  unfold opB at ho
  cases hp : isN W.nt p with
  | false =>
    cases hq : isN W.nl q with
    | false => simp only [c_townAt0 h.T hp, c_lawAt0 h.T hq, chk_t, ck_sI, ck_sR, ck_sJ, cal_s, bnd_e, ifn_s, ifn_n, chk_t h.kx, h.now]
    | true =>
      obtain ⟨j, hj, e⟩ := (isN_iff (by omega)).mp hq
      subst e
      simp only [c_townAt0 h.T hp, c_lawAt h.T hj, chk_t, ck_sI, ck_sR, ck_sJ, cal_s, bnd_e, ifn_s, ifn_n, chk_t h.kx, h.now]
  | true =>
    obtain ⟨i, hi, e⟩ := (isN_iff (by omega)).mp hp
    subst e
    cases hq : isN W.nl q with
    | false => simp only [c_townAt h.T hi, c_lawAt0 h.T hq, chk_t, ck_sI, ck_sR, ck_sJ, cal_s, bnd_e, ifn_s, ifn_n, chk_t h.kx, h.now]
    | true =>
      obtain ⟨j, hj, e⟩ := (isN_iff (by omega)).mp hq
      subst e
      have hd : isN 1000 d = false := by rw [hp, hq] at ho; simpa using ho
      simp only [c_townAt h.T hi, c_lawAt h.T hj, chk_t, ck_sI, ck_sR, ck_sJ, cal_s, bnd_e, ifn_s, ifn_n, chk_t h.kx, h.now, c_isDay, hd, bI_0, if_true]
theorem c_opened1 (h : Inv m x W D) (hi : i < W.nt) (hj : j < W.nl) (hk : k < 1000) : ∃ m', f_X9_opened x (nI i) (nI j) (nI k) m = some (1, m') ∧ Fq x m m' ∧ CS m' x (x + 1 + 4 + 18 * i) (x + 1 + 19 + 18 * j) (W.tn i) (W.lw j) k 0 255 (-1) := by
  have hnt := h.nt
  have hnl := h.nl
  have V := h.V.1 i hi
  obtain ⟨m2, e2, f2, q2⟩ := c_open h.S (h.ct hi) V (by omega) (by omega) hk (some (x + 1 + 19 + 18 * j))
  have g := h.kept f2
  refine ⟨m2, ?_, f2, g.S, ⟨g.S.th, q2.1, q2.2.1, g.ct hi, g.cl hj, q2.2.2.1, q2.2.2.2.1, q2.2.2.2.2.1, q2.2.2.2.2.2.1⟩, V, h.V.2 j hj, by omega, q2.2.2.2.2.2.2.1, q2.2.2.2.2.2.2.2, by omega, by omega⟩
  simp only [f_X9_opened, g_X9_opened_0, chk_t h.kx, h.now, c_townAt h.T hi, c_lawAt h.T hj, chk_t, ck_sI, ck_sR, ck_sJ, cal_s, bnd_e, ifn_s, ifn_n, c_isDay, isN_nI (show 1000 < 2 ^ 31 by decide) hk, bI_0, Bool.true_eq_false, if_false, h.sc, e2]
theorem Sh.ct {m : MM} {x : Nat} (h : Sh m x) {α : Type} (K : Nat → Option α) : ck m (m.R 1004 x 0) 2 K = K (x + 96) := ck_e h.1.2.2.2.2.2.1 h.2.2.2.1.1
theorem Sh.sn {m : MM} {x : Nat} (h : Sh m x) {α : Type} (K : Nat → Option α) : ck m (m.R 1003 x 0) 6 K = K (x + 81) := ck_e h.1.2.2.2.2.1 h.th
theorem Sh.pn {m : MM} {x : Nat} (h : Sh m x) {α : Type} (K : Nat → Option α) : ck m (m.R 1005 x 0) 4 K = K (x + 99) := ck_e h.1.2.2.2.2.2.2.1 h.2.2.2.2.1
theorem On.f {x : Nat} {m n : MM} {lo hi : Nat} (h : On m n lo hi) (h1 : x + 81 ≤ lo) (h2 : hi ≤ x + 106) : Fq x m n := ⟨h.1, h.2.1, h.2.2.1, fun a ha s i => ⟨h.2.2.2.2.2 s a i (by omega), by rw [h.2.2.2.1]⟩, fun s a i _ _ => by rw [h.2.2.2.1]⟩
theorem c_oc (h : Inv m x W D) (hi : i < W.nt) (hj : j < W.nl) (hk : k < 1000) : ∃ m1 m2, f_X9_opened x (nI i) (nI j) (nI k) m = some (1, m1) ∧ Sh m1 x ∧ f_X1_collect (x + 96) m1 = some ((), m2) ∧ Fq x m m2 ∧ CS m2 x (x + 1 + 4 + 18 * i) (x + 1 + 19 + 18 * j) (W.tn i) (W.lw j) k 0 255 (-1) ∧ FcL m2 x (br0 (W.tn i) (W.lw j) k) ∧ Inv m2 x W D := by
  obtain ⟨m1, e1, f1, C1⟩ := c_opened1 h hi hj hk
  obtain ⟨m2, e2, o2, F2⟩ := c_collect C1
  have f2 : Fq x m m2 := f1.tr (o2.f (by omega) (by omega))
  exact ⟨m1, m2, e1, C1.1, e2, f2, C1.on o2 (by omega), F2, h.kept f2⟩
theorem r_bring0 (h : Inv m x W D) {p q d : Int32} (ho : opB W p q d = false) : f_X10_bringBars (x + 106) p q d m = some (0, m) := by
  have hnt := h.nt
  have hnl := h.nl
  simp only [f_X10_bringBars, g_X10_bringBars_0, chk_t h.M.1, r_isTown h.M h.R hnt, r_isLaw h.M h.R hnl, r_isDay, chk_t, ck_sI, ck_sR, ck_sJ, cal_s, bnd_e, ifn_s, ifn_n, bI_0]
  unfold opB at ho
  cases hp : isN W.nt p with
  | false => simp
  | true =>
    cases hq : isN W.nl q with
    | false => simp
    | true =>
      have hd : isN 1000 d = false := by rw [hp, hq] at ho; simpa using ho
      simp [hd]
theorem r_br (h : Inv m x W D) (hi : i < W.nt) (hj : j < W.nl) (hk : k < 1000) : ∃ m', f_X10_bring (x + 106) (nI i) (nI k) m = some ((), m') ∧ Fq x m m' ∧ RS m' (x + 106) i j (W.tn i) (W.lw j) k 0 (-1) 0 := by
  have hnt := h.nt
  have hnl := h.nl
  have hB := (h.cl hj).n.2.2
  obtain ⟨m2, e2, f2, q2⟩ := r_bring (d := k) h.M (show i < 3 by omega) (h.rt hi) (h.V.1 i hi) (h.nn hi)
  have g := h.kept f2
  exact ⟨m2, e2, f2, ⟨g.M, q2.1, by omega, g.rt hi, q2.2.1, q2.2.2.1, fun k _ hb => (by rw [bt_0] at hb; cases hb), q2.2.2.2.1, q2.2.2.2.2.1, by omega, g.rl hj⟩, h.V.1 i hi, h.nn hi, h.V.2 j hj, hB, hk, by omega, q2.2.2.2.2.2.1, q2.2.2.2.2.2.2⟩
theorem r_bb (h : Inv m x W D) (hi : i < W.nt) (hj : j < W.nl) (hk : k < 1000) : ∃ m2, f_X10_bringBars (x + 106) (nI i) (nI j) (nI k) m = some (1, m2) ∧ Fq x m m2 ∧ RS m2 (x + 106) i j (W.tn i) (W.lw j) k 0 (-1) 0 ∧ FrL m2 (x + 106) (br0 (W.tn i) (W.lw j) k) ∧ Inv m2 x W D := by
  have hnt := h.nt
  have hnl := h.nl
  obtain ⟨m1, e1, f1, R1⟩ := r_br h hi hj hk
  obtain ⟨m2, e2, o2, G2⟩ := r_findBars R1
  rw [br0_r (h.nn hi)] at G2
  have f2 : Fq x m m2 := f1.tr o2.f
  refine ⟨m2, ?_, f2, R1.rn o2, G2, h.kept f2⟩
  simp only [f_X10_bringBars, g_X10_bringBars_0, chk_t h.M.1, r_isTown h.M h.R hnt, r_isLaw h.M h.R hnl, r_isDay, chk_t, ck_sI, ck_sR, ck_sJ, cal_s, bnd_e, ifn_s, ifn_n, bI_0, isN_nI (show W.nt < 2 ^ 31 by omega) hi, isN_nI (show W.nl < 2 ^ 31 by omega) hj, isN_nI (show 1000 < 2 ^ 31 by decide) hk, Bool.true_eq_false, if_false, e1, chk_t R1.1.1.1, e2]
end OPN
theorem ne10 : ¬ (1 : Int32) = 0 := by decide
theorem m_bars (x : Nat) (p q d : Int32) : Mq x (f_X9_bars x p q d) (f_X10_bars (x + 106) p q d) := by
  refine Mq_o p q d (-1) (fun T B k => nI (br0 T B k).length) (fun m W D h ho => ⟨m, ?_, Fq.rf x m⟩) (fun m W D i j k h hi hj hk e1 e2 e3 => ?_) (fun m W D h ho => ⟨_, ?_, fq_code x m⟩) (fun m W D i j k h hi hj hk e1 e2 e3 => ?_)
  · simp only [g_X9_bars_0, f_X9_bars, chk_t h.kx, c_opened0 h ho, chk_t, ck_sI, ck_sR, ck_sJ, cal_s, bnd_e, ifn_s, ifn_n, if_true]
  · subst e1; subst e2; subst e3
    obtain ⟨m1, m2, o1, s1, o2, f2, C, F, g⟩ := c_oc h hi hj hk
    refine ⟨m2, ?_, f2⟩
    simp only [g_X9_bars_0, f_X9_bars, chk_t h.kx, o1, chk_t, ck_sI, ck_sR, ck_sJ, cal_s, bnd_e, ifn_s, ifn_n, if_neg ne10, chk_t s1.1.1, s1.ct, o2, chk_t g.kx, C.1.ct, F.1]
  · simp only [g_X10_bars_0, f_X10_bars, chk_t h.M.1, chk_t, ck_sI, ck_sR, ck_sJ, cal_s, bnd_e, ifn_s, ifn_n, r_bring0 h.code ho, if_true]
  · subst e1; subst e2; subst e3
    obtain ⟨m2, o2, f2, R, G, g⟩ := r_bb h.code hi hj hk
    refine ⟨m2, ?_, (fq_code x m).tr f2⟩
    simp only [g_X10_bars_0, f_X10_bars, chk_t h.M.1, chk_t, ck_sI, ck_sR, ck_sJ, cal_s, bnd_e, ifn_s, ifn_n, o2, if_neg ne10, chk_t g.M.1, G.1]
