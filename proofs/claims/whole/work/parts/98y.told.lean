/-! a town, a law is told: what stands then -/
def txW (W : WD) : Tx := (fun j => (W.tp j &&& 255).toNatClampNeg, W.ln)
theorem by255 (v : Int32) : ∃ k, k < 256 ∧ v &&& 255 = nI k := by
  refine ⟨(v &&& 255).toBitVec.toNat, ?_, ?_⟩
  · rw [Int32.toBitVec_and, BitVec.toNat_and]
    have : (Int32.toBitVec 255).toNat = 255 := by decide
    rw [this]
    have := Nat.and_le_right (n := v.toBitVec.toNat) (m := 255)
    omega
  · apply Int32.toBitVec_inj.mp
    show (v &&& 255).toBitVec = BitVec.ofNat 32 (v &&& 255).toBitVec.toNat
    simp
theorem txW_b (W : WD) (j : Nat) : W.tp j &&& 255 = nI ((txW W).1 j) ∧ (txW W).1 j < 256 := by
  obtain ⟨k, hk, e⟩ := by255 (W.tp j)
  show W.tp j &&& 255 = nI ((W.tp j &&& 255).toNatClampNeg) ∧ (W.tp j &&& 255).toNatClampNeg < 256
  rw [e, cl_nI (by omega)]
  exact ⟨rfl, hk⟩
def w0W (W : WD) : WD := (W.tp, 0, 0, -1, W.nt, W.nl, W.tn, W.lw)
def faW (W : WD) (f q : Int32) : WD := (W.tp, W.ln, f, q, W.nt, W.nl, W.tn, W.lw)
def ptW (W : WD) (i : Nat) (T : TW) (n : Nat) : WD := (W.tp, W.ln, W.fa, W.pl, n, W.nl, fun j => if j = i then T else W.tn j, W.lw)
def plW (W : WD) (i : Nat) (B : LW) (n : Nat) : WD := (W.tp, W.ln, W.fa, W.pl, W.nt, n, W.tn, fun j => if j = i then B else W.lw j)
/-- the seat that is asked for -/
def stN (n : Nat) (p : Int32) : Option Nat := if p = -1 then (if n = 3 then none else some n) else if isN n p = true then some p.toNatClampNeg else none
def tR (W : WD) (p : Int32) : Int32 := match stN W.nt p with
  | none => -2
  | some i => match rdT (txW W) with
    | .inl _ => -1
    | .inr (E, _) => if E = 0 then nI i else -1
def tV (W : WD) (p : Int32) : WD := match stN W.nt p with
  | none => w0W W
  | some i => match rdT (txW W) with
    | .inl pl => faW (w0W W) 1 (nI pl)
    | .inr (E, T) => if E = 0 then ptW (w0W W) i T (if p = -1 then W.nt + 1 else W.nt) else faW (w0W W) (nI (E % 8)) (nI (E / 8))
def lR (W : WD) (p : Int32) : Int32 := match stN W.nl p with
  | none => -2
  | some i => match rdW (txW W) with
    | .inl _ => -1
    | .inr (E, _) => if E = 0 then nI i else -1
def lV (W : WD) (p : Int32) : WD := match stN W.nl p with
  | none => w0W W
  | some i => match rdW (txW W) with
    | .inl pl => faW (w0W W) 1 (nI pl)
    | .inr (E, B) => if E = 0 then plW (w0W W) i B (if p = -1 then W.nl + 1 else W.nl) else faW (w0W W) (nI (E % 8)) (nI (E / 8))
theorem stN_s {n i : Nat} {p : Int32} (hn : n ≤ 3) (h : stN n p = some i) : i < 3 ∧ ((p = -1 ∧ i = n ∧ n < 3) ∨ (p ≠ -1 ∧ i < n ∧ p = nI i)) := by
  unfold stN at h
  by_cases e : p = -1
  · rw [if_pos e] at h
    by_cases e3 : n = 3
    · rw [if_pos e3] at h; cases h
    · rw [if_neg e3] at h
      injection h with h
      exact ⟨by omega, .inl ⟨e, h.symm, by omega⟩⟩
  · rw [if_neg e] at h
    by_cases e2 : isN n p = true
    · rw [if_pos e2] at h
      injection h with h
      obtain ⟨k, hk, ek⟩ := (isN_iff (by omega)).mp e2
      rw [ek, cl_nI (by omega)] at h
      subst h
      exact ⟨by omega, .inr ⟨e, hk, ek⟩⟩
    · rw [if_neg e2] at h; cases h
theorem stN_n {n : Nat} {p : Int32} (h : stN n p = none) : (p = -1 ∧ n = 3) ∨ (p ≠ -1 ∧ isN n p = false) := by
  unfold stN at h
  by_cases e : p = -1
  · rw [if_pos e] at h
    by_cases e3 : n = 3
    · exact .inl ⟨e, e3⟩
    · rw [if_neg e3] at h; cases h
  · rw [if_neg e] at h
    by_cases e2 : isN n p = true
    · rw [if_pos e2] at h; cases h
    · exact .inr ⟨e, by simpa using e2⟩
theorem Mq_r {x : Nat} {A B : MM → Option (Int32 × MM)} (R : WD → Int32) (V : WD → WD) (hA : ∀ m W D, Inv m x W D → ∃ m1, A m = some (R W, m1) ∧ Gq x m m1 ∧ (∃ T, CT m1 (x + 61) T) ∧ (∃ L, CL m1 (x + 76) L) ∧ Ar m m1 (x + 106) ∧ TD m1 (x + 1) (V W) ∧ VW (V W)) (hB : ∀ m W, RI m x W → ∃ m2, B m = some (R W, m2) ∧ Gq x m m2 ∧ Ag m m2 (x + 1) (x + 81) ∧ RW m2 (x + 106) 0 (V W)) : Mq x A B := by
  intro m W D h
  obtain ⟨m1, e1, g1, ⟨T, hT⟩, ⟨L, hL⟩, r1, t1, v1⟩ := hA m W D h
  have hR : RI m1 x W := ⟨g1.md h.M, h.R.kept r1, h.V, h.nt, h.nl, fun _ hi => h.nn hi, h.T.lnle⟩
  obtain ⟨m2, e2, g2, a2, w2⟩ := hB m1 W hR
  exact ⟨R W, m1, m2, V W, D, e1, e2, h.step (g1.tr g2) ⟨T, hT.kept (a2.sub (by omega) (by omega))⟩ ⟨L, hL.kept (a2.sub (by omega) (by omega))⟩ (t1.kept (a2.sub (by omega) (by omega))) w2 v1⟩
theorem Tq.g {x lo hi : Nat} {m n : MM} (h : Tq lo hi m n) (h1 : (x + 1 ≤ lo ∧ hi ≤ x + 59) ∨ (x + 60 ≤ lo ∧ hi ≤ x + 106)) : Gq x m n := ⟨h.1, h.2.1, h.2.2.1, fun a ha s i => h.2.2.2.2 s a i (by omega), fun s a i _ _ _ => by rw [h.2.2.2.1], fun s a i _ => by rw [h.2.2.2.1], fun d d1 d2 s i _ => h.2.2.2.2 s _ i (by omega)⟩
theorem gq_504 (x : Nat) (m : MM) (v : Option Nat) : Gq x m (m.sR 504 (x + 60) 0 v) := ⟨rfl, rfl, rfl, fun _ _ _ _ => rfl, fun s a i _ _ g => by rw [R_sR, if_neg (by omega)], fun s a i g => by rw [R_sR, if_neg (by omega)], fun _ _ _ _ _ _ => rfl⟩
theorem Tq.ar {y lo hi : Nat} {m n : MM} (h : Tq lo hi m n) (h1 : hi ≤ y) : Ar m n y := ⟨fun d d1 d2 i => h.2.2.2.2 _ _ _ (by omega), fun i => h.2.2.2.2 _ _ _ (by omega), fun i => h.2.2.2.2 _ _ _ (by omega)⟩
theorem Ar.tr {m n q : MM} {y : Nat} (h1 : Ar m n y) (h2 : Ar n q y) : Ar m q y := ⟨fun d d1 d2 i => (h2.1 d d1 d2 i).trans (h1.1 d d1 d2 i), fun i => (h2.2.1 i).trans (h1.2.1 i), fun i => (h2.2.2 i).trans (h1.2.2 i)⟩
theorem VW.w0 {W : WD} (h : VW W) : VW (w0W W) := h
theorem VW.fa {W : WD} (h : VW W) (f q : Int32) : VW (faW W f q) := h
theorem c_takeTape {m : MM} {t : Nat} {W : WD} (h : TD m t W) : ∃ n, f_X7_takeTape t m = some (nI W.ln, n) ∧ Tq t (t + 1) m n ∧ TD n t (w0W W) := by
  unfold f_X7_takeTape g_X7_takeTape_0 f_X7_setFault g_X7_setFault_0
  rw [chk_t h.K, bnd_e, bnd_e, chk_t (show (m.sI 801 t 0 0).K t = 8 from h.K), bnd_e, bnd_e, cal_s, h.ln]
  have o : Tq t (t + 1) m (((m.sI 801 t 0 0).sI 802 t 0 0).sI 803 t 0 (-1)) := (((Tq.rf _ _ m).sI _ _ _ _ (by omega) (by omega)).sI _ _ _ _ (by omega) (by omega)).sI _ _ _ _ (by omega) (by omega)
  refine ⟨_, rfl, o, h.head (o.ag (by omega)) rfl (fun _ => rfl) ?_ (by show 0 ≤ 500; omega) ?_ ?_ ?_ h.ntle ?_ h.nlle rfl rfl rfl⟩
  · rw [I_sI, if_neg (by omega), I_sI, if_neg (by omega), I_sI, if_pos ⟨rfl, rfl, rfl⟩]; rfl
  · rw [I_sI, if_neg (by omega), I_sI, if_pos ⟨rfl, rfl, rfl⟩]; rfl
  · rw [I_sI, if_pos ⟨rfl, rfl, rfl⟩]; rfl
  · rw [I_sI, if_neg (by omega), I_sI, if_neg (by omega), I_sI, if_neg (by omega)]; exact h.nt
  · rw [I_sI, if_neg (by omega), I_sI, if_neg (by omega), I_sI, if_neg (by omega)]; exact h.nl
theorem c_setFault {m : MM} {t : Nat} {W : WD} (h : TD m t W) (f q : Int32) : ∃ n, f_X7_setFault t f q m = some ((), n) ∧ Tq t (t + 1) m n ∧ TD n t (faW W f q) := by
  unfold f_X7_setFault g_X7_setFault_0
  rw [chk_t h.K, bnd_e, bnd_e]
  have o : Tq t (t + 1) m ((m.sI 802 t 0 f).sI 803 t 0 q) := ((Tq.rf _ _ m).sI _ _ _ _ (by omega) (by omega)).sI _ _ _ _ (by omega) (by omega)
  refine ⟨_, rfl, o, h.head (o.ag (by omega)) rfl (fun _ => rfl) ?_ h.lnle ?_ ?_ ?_ h.ntle ?_ h.nlle rfl rfl rfl⟩
  · rw [I_sI, if_neg (by omega), I_sI, if_neg (by omega)]; exact h.ln
  · rw [I_sI, if_neg (by omega), I_sI, if_pos ⟨rfl, rfl, rfl⟩]; rfl
  · rw [I_sI, if_pos ⟨rfl, rfl, rfl⟩]; rfl
  · rw [I_sI, if_neg (by omega), I_sI, if_neg (by omega)]; exact h.nt
  · rw [I_sI, if_neg (by omega), I_sI, if_neg (by omega)]; exact h.nl
theorem c_seatFor {n : Nat} {p : Int32} (hn : n ≤ 3) (m : MM) : (stN n p = none → ∃ q, f_X9_seatFor p (nI n) m = some (q, m) ∧ (q < 0 ∨ 3 ≤ q)) ∧ ∀ i, stN n p = some i → f_X9_seatFor p (nI n) m = some (nI i, m) := by
  unfold f_X9_seatFor g_X9_seatFor_0 g_X9_seatFor_20
  refine ⟨fun h => ?_, fun i h => ?_⟩
  · rcases stN_n h with ⟨a, b⟩ | ⟨a, b⟩
    · rw [if_pos a, b]; exact ⟨_, rfl, .inr (by decide)⟩
    · rw [if_neg a]
      rcases isN_f b with q | q
      · rw [if_pos q]; exact ⟨_, rfl, .inl (by decide)⟩
      · by_cases z : p < 0
        · rw [if_pos z]; exact ⟨_, rfl, .inl (by decide)⟩
        · rw [if_neg z, if_pos q]; exact ⟨_, rfl, .inl (by decide)⟩
  · obtain ⟨_, ⟨a, b, c⟩ | ⟨a, b, c⟩⟩ := stN_s hn h
    · rw [if_pos a, b]
    · rw [if_neg a, c, if_neg (nI_pos (by omega)), if_neg (nI_ge b (by omega))]
theorem C0.of {x : Nat} {m : MM} {W : WD} (hS : Sh m x) (hT : TD m (x + 1) (w0W W)) (hl : W.ln ≤ 500) : C0 (txW W) x m := ⟨hS, hT.K1, hT.N1, fun j hj => by rw [show m.I 21 (x + 2) j = W.tp j from hT.tp j hj]; exact (txW_b W j).1, hl, fun j => (txW_b W j).2⟩
theorem c_town {x : Nat} {m : MM} {W : WD} {D : Nat → Option (Nat × WD)} (h : Inv m x W D) (p : Int32) : ∃ m1, f_X9_town x p m = some (tR W p, m1) ∧ Gq x m m1 ∧ (∃ T, CT m1 (x + 61) T) ∧ (∃ L, CL m1 (x + 76) L) ∧ Ar m m1 (x + 106) ∧ TD m1 (x + 1) (tV W p) ∧ VW (tV W p) := by
  obtain ⟨TT, T0⟩ := h.2.2.1
  obtain ⟨LL, L0⟩ := h.2.2.2.1
  have hln := h.T.lnle
  have hcn := h.T.ntle
  obtain ⟨m1, e1, o1, t1⟩ := c_takeTape h.T
  have S1 : Sh m1 x := h.1.kept o1.1 o1.2.1 (fun s a i _ _ _ => by rw [o1.2.2.2.1])
  have T1 : CT m1 (x + 61) TT := T0.kept (o1.ag (by omega))
  have L1 : CL m1 (x + 76) LL := L0.kept (o1.ag (by omega))
  have G1 : Gq x m m1 := o1.g (by omega)
  have A1 : Ar m m1 (x + 106) := o1.ar (by omega)
  have nw1 : ∀ {α : Type} (K : Nat → Option α), ck m1 (m1.R 1000 x 0) 8 K = K (x + 1) := fun K => ck_e S1.1.2.1 t1.K
  unfold f_X9_town g_X9_town_0
  rw [chk_t h.kx, h.now, e1, cal_s, chk_t S1.1.1, nw1, t1.nt]
  obtain ⟨sf0, sf1⟩ := c_seatFor (n := W.nt) (p := p) hcn m1
  unfold tR tV
  cases hs : stN W.nt p with
  | none =>
    obtain ⟨q, q1, q2⟩ := sf0 hs
    rw [show f_X9_seatFor p (nI (w0W W).nt) m1 = _ from q1, cal_s, chk_t t1.K, c_townSeat0 t1 q2, cal_s, ifn_n]
    exact ⟨m1, rfl, G1, ⟨_, T1⟩, ⟨_, L1⟩, A1, t1, h.V.w0⟩
  | some i =>
    obtain ⟨hi3, hsi⟩ := stN_s hcn hs
    have C := C0.of S1 t1 hln
    have hrd := c_readTown (B := LL) C T1 (z := nI W.ln) rfl
    have r8 : m1.R 800 (x + 1) 0 = some (x + 2) := t1.Rt
    have r2 : m1.R 1002 x 0 = some (x + 60) := S1.1.2.2.2.1
    rw [show f_X9_seatFor p (nI (w0W W).nt) m1 = _ from sf1 i hs, cal_s, chk_t t1.K, c_townSeat t1 hi3, cal_s, ifn_s, chk_t S1.1.1, nw1, ck_e r2 S1.2.1.1, r8]
    have mid : ∀ (n : MM), Tq (x + 60) (x + 81) (m1.sR 504 (x + 60) 0 (some (x + 2))) n → n.K = m1.K ∧ n.N = m1.N ∧ (∀ s, s ≠ 504 → ∀ a j, n.R s a j = m1.R s a j) ∧ TD n (x + 1) (w0W W) ∧ Gq x m n ∧ Ar m n (x + 106) := fun n a3 => by
      refine ⟨a3.1, a3.2.1, fun s hs a j => by rw [a3.2.2.2.1, R_sR, if_neg (by omega)], t1.kept ?_, (G1.tr (gq_504 x m1 _)).tr (a3.g (by omega)), (A1.tr ⟨fun _ _ _ _ => rfl, fun _ => rfl, fun _ => rfl⟩).tr (a3.ar (by omega))⟩
      exact ((Ag.rf m1 _ _).sR _ _ _ _ (by omega)).tr (a3.ag (by omega))
    have bad : ∀ (n : MM) (f q : Int32), Tq (x + 60) (x + 81) (m1.sR 504 (x + 60) 0 (some (x + 2))) n → n.I 510 (x + 60) 0 = f → n.I 511 (x + 60) 0 = q → (∃ T, CT n (x + 61) T) → (∃ L, CL n (x + 76) L) → ∃ u, f_X7_setFault (x + 1) (n.I 510 (x + 60) 0) (n.I 511 (x + 60) 0) n = some ((), u) ∧ u.K = m1.K ∧ (∀ s, s ≠ 504 → ∀ a j, u.R s a j = m1.R s a j) ∧ Tq (x + 1) (x + 2) n u ∧ Gq x m u ∧ (∃ T, CT u (x + 61) T) ∧ (∃ L, CL u (x + 76) L) ∧ Ar m u (x + 106) ∧ TD u (x + 1) (faW (w0W W) f q) := fun n f q a3 hf hq hTn hLn => by
      obtain ⟨k1, k2, k3, k4, k5, k6⟩ := mid n a3
      obtain ⟨u, b1, b2, b3⟩ := c_setFault k4 f q
      obtain ⟨Tn, hTn⟩ := hTn
      obtain ⟨Ln, hLn⟩ := hLn
      exact ⟨u, by rw [hf, hq]; exact b1, by rw [b2.1, k1], fun s hs a j => by rw [b2.2.2.2.1]; exact k3 s hs a j, b2, k5.tr (b2.g (by omega)), ⟨Tn, hTn.kept (b2.ag (by omega))⟩, ⟨Ln, hLn.kept (b2.ag (by omega))⟩, k6.tr (b2.ar (by omega)), b3⟩
    have LK : ∀ n, Ag (m1.sR 504 (x + 60) 0 (some (x + 2))) n (x + 76) (x + 79) → CL n (x + 76) LL := fun n a4 => (L1.kept ((Ag.rf m1 _ _).sR _ _ _ _ (by omega))).kept (a4.sub (by omega) (by omega))
    rcases hrd with ⟨n, pl, a1, a2, a3, a4, a5, a6, a7⟩ | ⟨n, E, T, a1, a2, a3, a4, a5, a6⟩
    · rw [a1, cal_s, a2]
      obtain ⟨k1, k2, k3, k4, k5, k6⟩ := mid n a3
      have kn : n.K x = 10 := by rw [k1]; exact S1.1.1
      obtain ⟨u, b1, b2, b3, b4, b5, b6, b7, b8, b9⟩ := bad n 1 (nI pl) a3 a5 a6 a7 ⟨_, LK n a4⟩
      rw [chk_t kn, ck_e ((k3 1002 (by omega) x 0).trans r2) (by rw [k1]; exact S1.2.1.1), ck_e ((k3 1000 (by omega) x 0).trans S1.1.2.1) k4.K, b1, cal_s, if_pos rfl]
      exact ⟨u, rfl, b5, b6, b7, b8, b9, h.V.w0.fa _ _⟩
    · rw [a1, cal_s, a2]
      obtain ⟨k1, k2, k3, k4, k5, k6⟩ := mid n a3
      have kn : n.K x = 10 := by rw [k1]; exact S1.1.1
      by_cases z : E = 0
      · subst z
        obtain ⟨f0, f1⟩ := a5.1 rfl
        obtain ⟨u, b1, b2, b3, b4, b5, b6, b7, b8, b9⟩ := bad n 0 (-1) a3 f0 f1 ⟨_, a6⟩ ⟨_, LK n a4⟩
        have ku : u.K x = 10 := by rw [b2]; exact S1.1.1
        have hu : CT u (x + 61) T := a6.kept (b4.ag (by omega))
        have ht := b9.T i hi3
        have r5 : u.R 500 (x + 60) 0 = some (x + 61) := (b3 500 (by omega) (x + 60) 0).trans S1.2.1.2.1
        obtain ⟨u2, d1, d2, d3⟩ := c_townTake ht hu (by omega)
        have t2 : TD u2 (x + 1) (setT (faW (w0W W) 0 (-1)) i T) := b9.town hi3 (d2.ag (by omega)) (d2.ag (by omega)) d3
        have G2 : Gq x m u2 := b5.tr (d2.g (by omega))
        have A2 : Ar m u2 (x + 106) := b8.tr (d2.ar (by omega))
        have T2 : ∃ T, CT u2 (x + 61) T := by
          obtain ⟨q, hq⟩ := b6
          exact ⟨q, hq.kept (d2.ag (by omega))⟩
        have L2 : ∃ T, CL u2 (x + 76) T := by
          obtain ⟨q, hq⟩ := b7
          exact ⟨q, hq.kept (d2.ag (by omega))⟩
        have V2 : VT T := (rdT_0 a2).1.1
        have ku2 : u2.K x = 10 := by rw [d2.1]; exact ku
        have rk : ∀ s, s ≠ 504 → ∀ a j, u2.R s a j = m1.R s a j := fun s hs a j => by rw [d2.2.2.2.1]; exact b3 s hs a j
        dsimp only
        rw [show bI (decide (0 = 0)) = 1 from rfl, chk_t kn, ck_e ((k3 1002 (by omega) x 0).trans r2) (by rw [k1]; exact S1.2.1.1), ck_e ((k3 1000 (by omega) x 0).trans S1.1.2.1) k4.K, b1, cal_s, if_neg (by decide), chk_t ku, ck_e ((b3 1002 (by omega) x 0).trans r2) (by rw [b2]; exact S1.2.1.1), chk_t ht.K, r5, d1, cal_s, if_pos rfl, if_pos rfl]
        rcases hsi with ⟨c1, c2, c3⟩ | ⟨c1, c2, c3⟩
        · have vn : u2.I 804 (x + 1) 0 = nI W.nt := t2.nt
          have o3 : Tq (x + 1) (x + 2) u2 (u2.sI 804 (x + 1) 0 (nI (W.nt + 1))) := (Tq.rf _ _ u2).sI _ _ _ _ (by omega) (by omega)
          have ev : (u2.sI 804 (x + 1) 0 (nI (W.nt + 1))).I 804 (x + 1) 0 - 1 = nI W.nt := by rw [I_sI, if_pos ⟨rfl, rfl, rfl⟩]; exact nI_pred _
          have r1k : u2.R 1000 x 0 = some (x + 1) := (rk 1000 (by omega) x 0).trans S1.1.2.1
          have r1k' : (u2.sI 804 (x + 1) 0 (nI (W.nt + 1))).R 1000 x 0 = some (x + 1) := r1k
          have k8 : (u2.sI 804 (x + 1) 0 (nI (W.nt + 1))).K (x + 1) = 8 := t2.K
          rw [if_pos c1, chk_t ku2, bnd_e, ck_e r1k t2.K, vn, nI_1, bnd_e, ck_e r1k' k8, ev, if_pos c1, c2]
          refine ⟨_, rfl, G2.tr (o3.g (by omega)), ?_, ?_, A2.tr (o3.ar (by omega)), ?_, ?_⟩
          · obtain ⟨q, hq⟩ := T2
            exact ⟨q, hq.kept (o3.ag (by omega))⟩
          · obtain ⟨q, hq⟩ := L2
            exact ⟨q, hq.kept (o3.ag (by omega))⟩
          · rw [c2] at t2
            refine t2.head (o3.ag (by omega)) rfl (fun _ => rfl) ?_ t2.lnle ?_ ?_ ?_ (show W.nt + 1 ≤ 3 by omega) ?_ t2.nlle rfl rfl rfl
            · rw [I_sI, if_neg (by omega)]; exact t2.ln
            · rw [I_sI, if_neg (by omega)]; exact t2.fa
            · rw [I_sI, if_neg (by omega)]; exact t2.pl
            · rw [I_sI, if_pos ⟨rfl, rfl, rfl⟩]; rfl
            · rw [I_sI, if_neg (by omega)]; exact t2.nl
          · refine ⟨fun j hj => ?_, h.V.2⟩
            show VT (if j = W.nt then T else W.tn j)
            have hj' : j < W.nt + 1 := hj
            by_cases e : j = W.nt
            · rw [if_pos e]; exact V2
            · rw [if_neg e]; exact h.V.1 j (by omega)
        · rw [if_neg c1, if_neg c1, c3]
          refine ⟨u2, rfl, G2, T2, L2, A2, t2, ?_⟩
          refine ⟨fun j hj => ?_, h.V.2⟩
          show VT (if j = i then T else W.tn j)
          by_cases e : j = i
          · rw [if_pos e]; exact V2
          · rw [if_neg e]; exact h.V.1 j hj
      · obtain ⟨f0, f1, _⟩ := a5.2 z
        obtain ⟨u, b1, b2, b3, b4, b5, b6, b7, b8, b9⟩ := bad n (nI (E % 8)) (nI (E / 8)) a3 f0 f1 ⟨_, a6⟩ ⟨_, LK n a4⟩
        dsimp only
        rw [decide_eq_false z, show bI false = 0 from rfl, chk_t kn, ck_e ((k3 1002 (by omega) x 0).trans r2) (by rw [k1]; exact S1.2.1.1), ck_e ((k3 1000 (by omega) x 0).trans S1.1.2.1) k4.K, b1, cal_s, if_pos rfl, if_neg z, if_neg z]
        exact ⟨u, rfl, b5, b6, b7, b8, b9, h.V.w0.fa _ _⟩
theorem TD.lawP {m n : MM} {t : Nat} {W : WD} (h : TD m t W) {i : Nat} (hi : i < 3) {B : LW} (h1 : Ag m n t (t + 19 + 18 * i)) (h2 : Ag m n (t + 22 + 18 * i) (t + 58)) (hC : CL n (t + 19 + 18 * i) B) : TD n t (plW W i B W.nl) := by
  have a0 := h1 t (by omega) (by omega)
  have a1 := h1 (t + 1) (by omega) (by omega)
  have a2 := h1 (t + 2) (by omega) (by omega)
  have a3 := h1 (t + 3) (by omega) (by omega)
  refine ⟨by rw [a0.1]; exact h.K, by rw [a0.2.2.2]; exact h.Rt, by rw [a0.2.2.2]; exact h.Rr, by rw [a0.2.2.2]; exact h.Rl, by rw [a1.1]; exact h.K1, by rw [a1.2.1]; exact h.N1, by rw [a2.1]; exact h.K2, by rw [a2.2.1]; exact h.N2, by rw [a3.1]; exact h.K3, by rw [a3.2.1]; exact h.N3, fun i hi => by rw [a2.2.2.2]; exact h.rT i hi, fun i hi => by rw [a3.2.2.2]; exact h.rL i hi, fun j hj => by rw [a1.2.2.1]; exact h.tp j hj, by rw [a0.2.2.1]; exact h.ln, h.lnle, by rw [a0.2.2.1]; exact h.fa, by rw [a0.2.2.1]; exact h.pl, by rw [a0.2.2.1]; exact h.nt, h.ntle, by rw [a0.2.2.1]; exact h.nl, h.nlle, fun j hj => ?_, fun j hj => ?_⟩
  · show CT n (t + 4 + 18 * j) (W.tn j)
    rcases Nat.lt_or_ge i j with q | q
    · exact (h.T j hj).kept (h2.sub (by omega) (by omega))
    · exact (h.T j hj).kept (h1.sub (by omega) (by omega))
  · show CL n (t + 19 + 18 * j) (if j = i then B else W.lw j)
    by_cases e : j = i
    · subst e; rw [if_pos rfl]; exact hC
    · rw [if_neg e]
      rcases Nat.lt_or_ge j i with q | q
      · exact (h.L j hj).kept (h1.sub (by omega) (by omega))
      · exact (h.L j hj).kept (h2.sub (by omega) (by omega))
theorem c_law {x : Nat} {m : MM} {W : WD} {D : Nat → Option (Nat × WD)} (h : Inv m x W D) (p : Int32) : ∃ m1, f_X9_law x p m = some (lR W p, m1) ∧ Gq x m m1 ∧ (∃ T, CT m1 (x + 61) T) ∧ (∃ L, CL m1 (x + 76) L) ∧ Ar m m1 (x + 106) ∧ TD m1 (x + 1) (lV W p) ∧ VW (lV W p) := by
  obtain ⟨TT, T0⟩ := h.2.2.1
  obtain ⟨LL, L0⟩ := h.2.2.2.1
  have hln := h.T.lnle
  have hcn := h.T.nlle
  obtain ⟨m1, e1, o1, t1⟩ := c_takeTape h.T
  have S1 : Sh m1 x := h.1.kept o1.1 o1.2.1 (fun s a i _ _ _ => by rw [o1.2.2.2.1])
  have T1 : CT m1 (x + 61) TT := T0.kept (o1.ag (by omega))
  have L1 : CL m1 (x + 76) LL := L0.kept (o1.ag (by omega))
  have G1 : Gq x m m1 := o1.g (by omega)
  have A1 : Ar m m1 (x + 106) := o1.ar (by omega)
  have nw1 : ∀ {α : Type} (K : Nat → Option α), ck m1 (m1.R 1000 x 0) 8 K = K (x + 1) := fun K => ck_e S1.1.2.1 t1.K
  unfold f_X9_law g_X9_law_0
  rw [chk_t h.kx, h.now, e1, cal_s, chk_t S1.1.1, nw1, t1.nl]
  obtain ⟨sf0, sf1⟩ := c_seatFor (n := W.nl) (p := p) hcn m1
  unfold lR lV
  cases hs : stN W.nl p with
  | none =>
    obtain ⟨q, q1, q2⟩ := sf0 hs
    rw [show f_X9_seatFor p (nI (w0W W).nl) m1 = _ from q1, cal_s, chk_t t1.K, c_lawSeat0 t1 q2, cal_s, ifn_n]
    exact ⟨m1, rfl, G1, ⟨_, T1⟩, ⟨_, L1⟩, A1, t1, h.V.w0⟩
  | some i =>
    obtain ⟨hi3, hsi⟩ := stN_s hcn hs
    have C := C0.of S1 t1 hln
    have hrd := c_readLaw C L1 (z := nI W.ln) rfl
    have r8 : m1.R 800 (x + 1) 0 = some (x + 2) := t1.Rt
    have r2 : m1.R 1002 x 0 = some (x + 60) := S1.1.2.2.2.1
    rw [show f_X9_seatFor p (nI (w0W W).nl) m1 = _ from sf1 i hs, cal_s, chk_t t1.K, c_lawSeat t1 hi3, cal_s, ifn_s, chk_t S1.1.1, nw1, ck_e r2 S1.2.1.1, r8]
    have mid : ∀ (n : MM), Tq (x + 60) (x + 81) (m1.sR 504 (x + 60) 0 (some (x + 2))) n → n.K = m1.K ∧ n.N = m1.N ∧ (∀ s, s ≠ 504 → ∀ a j, n.R s a j = m1.R s a j) ∧ TD n (x + 1) (w0W W) ∧ Gq x m n ∧ Ar m n (x + 106) := fun n a3 => by
      refine ⟨a3.1, a3.2.1, fun s hs a j => by rw [a3.2.2.2.1, R_sR, if_neg (by omega)], t1.kept ?_, (G1.tr (gq_504 x m1 _)).tr (a3.g (by omega)), (A1.tr ⟨fun _ _ _ _ => rfl, fun _ => rfl, fun _ => rfl⟩).tr (a3.ar (by omega))⟩
      exact ((Ag.rf m1 _ _).sR _ _ _ _ (by omega)).tr (a3.ag (by omega))
    have bad : ∀ (n : MM) (f q : Int32), Tq (x + 60) (x + 81) (m1.sR 504 (x + 60) 0 (some (x + 2))) n → n.I 510 (x + 60) 0 = f → n.I 511 (x + 60) 0 = q → (∃ T, CT n (x + 61) T) → (∃ L, CL n (x + 76) L) → ∃ u, f_X7_setFault (x + 1) (n.I 510 (x + 60) 0) (n.I 511 (x + 60) 0) n = some ((), u) ∧ u.K = m1.K ∧ (∀ s, s ≠ 504 → ∀ a j, u.R s a j = m1.R s a j) ∧ Tq (x + 1) (x + 2) n u ∧ Gq x m u ∧ (∃ T, CT u (x + 61) T) ∧ (∃ L, CL u (x + 76) L) ∧ Ar m u (x + 106) ∧ TD u (x + 1) (faW (w0W W) f q) := fun n f q a3 hf hq hTn hLn => by
      obtain ⟨k1, k2, k3, k4, k5, k6⟩ := mid n a3
      obtain ⟨u, b1, b2, b3⟩ := c_setFault k4 f q
      obtain ⟨Tn, hTn⟩ := hTn
      obtain ⟨Ln, hLn⟩ := hLn
      exact ⟨u, by rw [hf, hq]; exact b1, by rw [b2.1, k1], fun s hs a j => by rw [b2.2.2.2.1]; exact k3 s hs a j, b2, k5.tr (b2.g (by omega)), ⟨Tn, hTn.kept (b2.ag (by omega))⟩, ⟨Ln, hLn.kept (b2.ag (by omega))⟩, k6.tr (b2.ar (by omega)), b3⟩
    have LK : ∀ n, Ag (m1.sR 504 (x + 60) 0 (some (x + 2))) n (x + 61) (x + 76) → CT n (x + 61) TT := fun n a4 => (T1.kept ((Ag.rf m1 _ _).sR _ _ _ _ (by omega))).kept (a4.sub (by omega) (by omega))
    rcases hrd with ⟨n, pl, a1, a2, a3, a4, a5, a6, a7⟩ | ⟨n, E, T, a1, a2, a3, a4, a5, a6⟩
    · rw [a1, cal_s, a2]
      obtain ⟨k1, k2, k3, k4, k5, k6⟩ := mid n a3
      have kn : n.K x = 10 := by rw [k1]; exact S1.1.1
      obtain ⟨u, b1, b2, b3, b4, b5, b6, b7, b8, b9⟩ := bad n 1 (nI pl) a3 a5 a6 ⟨_, LK n a4⟩ a7
      rw [chk_t kn, ck_e ((k3 1002 (by omega) x 0).trans r2) (by rw [k1]; exact S1.2.1.1), ck_e ((k3 1000 (by omega) x 0).trans S1.1.2.1) k4.K, b1, cal_s, if_pos rfl]
      exact ⟨u, rfl, b5, b6, b7, b8, b9, h.V.w0.fa _ _⟩
    · rw [a1, cal_s, a2]
      obtain ⟨k1, k2, k3, k4, k5, k6⟩ := mid n a3
      have kn : n.K x = 10 := by rw [k1]; exact S1.1.1
      by_cases z : E = 0
      · subst z
        obtain ⟨f0, f1⟩ := a5.1 rfl
        obtain ⟨u, b1, b2, b3, b4, b5, b6, b7, b8, b9⟩ := bad n 0 (-1) a3 f0 f1 ⟨_, LK n a4⟩ ⟨_, a6⟩
        have ku : u.K x = 10 := by rw [b2]; exact S1.1.1
        have hu : CL u (x + 76) T := a6.kept (b4.ag (by omega))
        have ht := b9.L i hi3
        have r5 : u.R 501 (x + 60) 0 = some (x + 76) := (b3 501 (by omega) (x + 60) 0).trans S1.2.1.2.2.1
        obtain ⟨u2, d1, d2, d3⟩ := c_lawTake ht hu (by omega)
        have t2 : TD u2 (x + 1) (plW (faW (w0W W) 0 (-1)) i T W.nl) := b9.lawP hi3 (d2.ag (by omega)) (d2.ag (by omega)) d3
        have G2 : Gq x m u2 := b5.tr (d2.g (by omega))
        have A2 : Ar m u2 (x + 106) := b8.tr (d2.ar (by omega))
        have T2 : ∃ T, CT u2 (x + 61) T := by
          obtain ⟨q, hq⟩ := b6
          exact ⟨q, hq.kept (d2.ag (by omega))⟩
        have L2 : ∃ T, CL u2 (x + 76) T := by
          obtain ⟨q, hq⟩ := b7
          exact ⟨q, hq.kept (d2.ag (by omega))⟩
        have V2 : VL T := rdW_0 a2
        have ku2 : u2.K x = 10 := by rw [d2.1]; exact ku
        have rk : ∀ s, s ≠ 504 → ∀ a j, u2.R s a j = m1.R s a j := fun s hs a j => by rw [d2.2.2.2.1]; exact b3 s hs a j
        dsimp only
        rw [show bI (decide (0 = 0)) = 1 from rfl, chk_t kn, ck_e ((k3 1002 (by omega) x 0).trans r2) (by rw [k1]; exact S1.2.1.1), ck_e ((k3 1000 (by omega) x 0).trans S1.1.2.1) k4.K, b1, cal_s, if_neg (by decide), chk_t ku, ck_e ((b3 1002 (by omega) x 0).trans r2) (by rw [b2]; exact S1.2.1.1), chk_t ht.K, r5, d1, cal_s, if_pos rfl, if_pos rfl]
        rcases hsi with ⟨c1, c2, c3⟩ | ⟨c1, c2, c3⟩
        · have vn : u2.I 805 (x + 1) 0 = nI W.nl := t2.nl
          have o3 : Tq (x + 1) (x + 2) u2 (u2.sI 805 (x + 1) 0 (nI (W.nl + 1))) := (Tq.rf _ _ u2).sI _ _ _ _ (by omega) (by omega)
          have ev : (u2.sI 805 (x + 1) 0 (nI (W.nl + 1))).I 805 (x + 1) 0 - 1 = nI W.nl := by rw [I_sI, if_pos ⟨rfl, rfl, rfl⟩]; exact nI_pred _
          have r1k : u2.R 1000 x 0 = some (x + 1) := (rk 1000 (by omega) x 0).trans S1.1.2.1
          have r1k' : (u2.sI 805 (x + 1) 0 (nI (W.nl + 1))).R 1000 x 0 = some (x + 1) := r1k
          have k8 : (u2.sI 805 (x + 1) 0 (nI (W.nl + 1))).K (x + 1) = 8 := t2.K
          rw [if_pos c1, chk_t ku2, bnd_e, ck_e r1k t2.K, vn, nI_1, bnd_e, ck_e r1k' k8, ev, if_pos c1, c2]
          refine ⟨_, rfl, G2.tr (o3.g (by omega)), ?_, ?_, A2.tr (o3.ar (by omega)), ?_, ?_⟩
          · obtain ⟨q, hq⟩ := T2
            exact ⟨q, hq.kept (o3.ag (by omega))⟩
          · obtain ⟨q, hq⟩ := L2
            exact ⟨q, hq.kept (o3.ag (by omega))⟩
          · rw [c2] at t2
            refine t2.head (o3.ag (by omega)) rfl (fun _ => rfl) ?_ t2.lnle ?_ ?_ ?_ t2.ntle ?_ (show W.nl + 1 ≤ 3 by omega) rfl rfl rfl
            · rw [I_sI, if_neg (by omega)]; exact t2.ln
            · rw [I_sI, if_neg (by omega)]; exact t2.fa
            · rw [I_sI, if_neg (by omega)]; exact t2.pl
            · rw [I_sI, if_neg (by omega)]; exact t2.nt
            · rw [I_sI, if_pos ⟨rfl, rfl, rfl⟩]; rfl
          · refine ⟨h.V.1, fun j hj => ?_⟩
            show VL (if j = W.nl then T else W.lw j)
            have hj' : j < W.nl + 1 := hj
            by_cases e : j = W.nl
            · rw [if_pos e]; exact V2
            · rw [if_neg e]; exact h.V.2 j (by omega)
        · rw [if_neg c1, if_neg c1, c3]
          refine ⟨u2, rfl, G2, T2, L2, A2, t2, ?_⟩
          refine ⟨h.V.1, fun j hj => ?_⟩
          show VL (if j = i then T else W.lw j)
          by_cases e : j = i
          · rw [if_pos e]; exact V2
          · rw [if_neg e]; exact h.V.2 j hj
      · obtain ⟨f0, f1, _⟩ := a5.2 z
        obtain ⟨u, b1, b2, b3, b4, b5, b6, b7, b8, b9⟩ := bad n (nI (E % 8)) (nI (E / 8)) a3 f0 f1 ⟨_, LK n a4⟩ ⟨_, a6⟩
        dsimp only
        rw [decide_eq_false z, show bI false = 0 from rfl, chk_t kn, ck_e ((k3 1002 (by omega) x 0).trans r2) (by rw [k1]; exact S1.2.1.1), ck_e ((k3 1000 (by omega) x 0).trans S1.1.2.1) k4.K, b1, cal_s, if_pos rfl, if_neg z, if_neg z]
        exact ⟨u, rfl, b5, b6, b7, b8, b9, h.V.w0.fa _ _⟩
