/-! end, forget, wish, gone -/
def setN (W : WD) (n : Nat) : WD := (W.tp, n, W.fa, W.pl, W.nt, W.nl, W.tn, W.lw)
theorem RW.head {m n : MM} {y : Nat} {W V : WD} (h : RW m y 0 W) (hA : ∀ d, 6 ≤ d → d < 38 → d ≠ 28 → ∀ j, n.I 22 (y + d) j = m.I 22 (y + d) j) (e0 : ∀ j, j < 500 → n.I 21 (y + 1) j = V.tp j) (e2 : n.I 22 (y + 2) 0 = nI V.ln) (e3 : n.I 22 (y + 3) 0 = V.fa) (e4 : n.I 22 (y + 4) 0 = V.pl) (e5 : n.I 22 (y + 5) 0 = nI V.nt) (e28 : n.I 22 (y + 28) 0 = nI V.nl) (q4 : V.nt = W.nt) (q5 : V.nl = W.nl) (q1 : V.tn = W.tn) (q2 : V.lw = W.lw) : RW n y 0 V := by
  obtain ⟨_, _, _, _, _, _, h6, h7⟩ := h
  refine ⟨fun j hj => by rw [Nat.mul_zero, Nat.zero_add]; exact e0 j hj, e2, e3, e4, e5, e28, fun i hi => ?_, fun i hi => ?_⟩
  · rw [q1]
    have h6 := h6 i (by rw [← q4]; exact hi)
    have e6 : ∀ i, n.I 22 (y + 6) i = m.I 22 (y + 6) i := hA 6 (by omega) (by omega) (by omega)
    obtain ⟨⟨h0, h1, h2, h3, h4, h5, h6, h7, h8, h9, h10, h11⟩, g0, g1, g2, g3, g4, g5⟩ := h6
    refine ⟨⟨by rw [e6]; exact h0, by rw [e6]; exact h1, by rw [e6]; exact h2, by rw [e6]; exact h3, by rw [e6]; exact h4, by rw [e6]; exact h5, by rw [e6]; exact h6, by rw [e6]; exact h7, by rw [e6]; exact h8, by rw [e6]; exact h9, fun h hh => by rw [e6]; exact h10 h hh, fun g hg => by rw [e6]; exact h11 g hg⟩, fun r hr c hc => ?_, fun r hr c hc => ?_, fun r hr c hc => ?_, fun r hr c hc => ?_, fun r hr c hc => ?_, fun r hr c hc => ?_⟩
    · rw [hA (7 + c) (by omega) (by omega) (by omega)]; exact g0 r hr c hc
    · rw [hA (15 + c) (by omega) (by omega) (by omega)]; exact g1 r hr c hc
    · rw [hA (15 + c) (by omega) (by omega) (by omega)]; exact g2 r hr c hc
    · rw [hA (20 + c) (by omega) (by omega) (by omega)]; exact g3 r hr c hc
    · rw [hA (23 + c) (by omega) (by omega) (by omega)]; exact g4 r hr c hc
    · rw [hA (26 + c) (by omega) (by omega) (by omega)]; exact g5 r hr c hc
  · rw [q2]
    obtain ⟨a0, a1, a2, a3, a4⟩ := h7 i (by rw [← q5]; exact hi)
    refine ⟨by rw [hA 29 (by omega) (by omega) (by omega)]; exact a0, by rw [hA 30 (by omega) (by omega) (by omega)]; exact a1, by rw [hA 31 (by omega) (by omega) (by omega)]; exact a2, by rw [hA 32 (by omega) (by omega) (by omega)]; exact a3, fun r hr c hc => by rw [hA (33 + c) (by omega) (by omega) (by omega)]; exact a4 r hr c hc⟩
theorem gq_code (x : Nat) (m : MM) : Gq x m (m.sI 1100 (x + 106) 0 0) := (fq_code x m).g
theorem ag_code (x : Nat) (m : MM) : Ag m (m.sI 1100 (x + 106) 0 0) (x + 1) (x + 81) := (Ag.rf m _ _).sI _ _ _ _ (by omega)
theorem RI.lnle {m : MM} {x : Nat} {W : WD} (h : RI m x W) : W.ln ≤ 500 := h.2.2.2.2.2.2
theorem RI.M {m : MM} {x : Nat} {W : WD} (h : RI m x W) : Md m (x + 106) := h.1
theorem RI.R {m : MM} {x : Nat} {W : WD} (h : RI m x W) : RW m (x + 106) 0 W := h.2.1
theorem RI.V {m : MM} {x : Nat} {W : WD} (h : RI m x W) : VW W := h.2.2.1
theorem RI.nt {m : MM} {x : Nat} {W : WD} (h : RI m x W) : W.nt ≤ 3 := h.2.2.2.1
theorem RI.nl {m : MM} {x : Nat} {W : WD} (h : RI m x W) : W.nl ≤ 3 := h.2.2.2.2.1
theorem RI.nn {m : MM} {x : Nat} {W : WD} (h : RI m x W) : ∀ i, i < W.nt → NT (W.tn i) := h.2.2.2.2.2.1
theorem m_end (x : Nat) (p : Int32) : Mq x (f_X9_end x p) (f_X10_end (x + 106) p) := by
  refine Mq_w (fun W => if isN (W.ln + 1) p then p else -1) (fun W => if isN (W.ln + 1) p then setN W p.toNatClampNeg else W) (fun m W D h => ?_) (fun m W h => ?_)
  · have hl := h.T.lnle
    simp only [g_X9_end_0, f_X9_end, chk_t h.kx, h.now, h.T.ln, chk_t, ck_sI, ck_sR, ck_sJ, cal_s, bnd_e, ifn_s, ifn_n]
    cases hp : isN (W.ln + 1) p with
    | false =>
      refine ⟨m, ?_, Gq.rf x m, Ag.rf _ _ _, (Fq.rf x m).ar, h.T, h.V⟩
      rcases isN_f hp with k | k
      · simp [k]
      · have k2 : ¬ p ≤ nI W.ln := fun q => by
          rw [i_le, nI_toInt (by omega)] at k q
          omega
        simp [k2]
    | true =>
      obtain ⟨k, hk, e⟩ := (isN_iff (by omega)).mp hp
      subst e
      have o : On m (m.sI 801 (x + 1) 0 (nI k)) (x + 1) (x + 2) := (On.rf m _ _).sI _ _ _ _ (by omega) (by omega)
      refine ⟨m.sI 801 (x + 1) 0 (nI k), ?_, o.g (by omega) (by omega), o.ag (by omega), o.ar (by omega), ?_, ?_⟩
      · simp only [if_neg (nI_pos (show k < 2 ^ 31 by omega)), if_pos (nI_le (show k ≤ W.ln by omega) (by omega)), if_true]
      · simp only [if_true, cl_nI (show k < 2 ^ 31 by omega)]
        exact h.T.head (o.ag (by omega)) rfl (fun _ => rfl) (by rw [I_sI, if_pos ⟨rfl, rfl, rfl⟩]; rfl) (show k ≤ 500 by omega) h.T.fa h.T.pl h.T.nt h.T.ntle h.T.nl h.T.nlle rfl rfl rfl
      · simp only [if_true]
        exact h.V
  · have hl := h.lnle
    have g := h.code
    have fc := gq_code x m
    have ac := ag_code x m
    simp only [f_X10_end, g_X10_end_0, chk_t h.M.1, bnd_e]
    generalize m.sI 1100 (x + 106) 0 0 = m1 at g fc ac ⊢
    have e0 : m1.I 22 (x + 106 + 2) (Int32.toNatClampNeg 0) = nI W.ln := g.R.2.1
    have e1 : nI W.ln = nI (W.ln + 1) - 1 := (pk_sub (a := W.ln + 1) (b := 1) (by omega)).symm
    simp only [g.M.c1102, g.M.n1102, chk_t (show inb 0 4 = true by decide), e0, r_in, chk_t, ck_sI, ck_sR, ck_sJ, cal_s, bnd_e, ifn_s, ifn_n, bI_0, chk_t g.M.1]
    rw [e1, inR_isN (by omega)]
    cases hp : isN (W.ln + 1) p with
    | false => exact ⟨m1, by simp, fc, ac, g.R⟩
    | true =>
      obtain ⟨k, hk, e⟩ := (isN_iff (by omega)).mp hp
      subst e
      refine ⟨m1.sI 22 (x + 106 + 2) 0 (nI k), by simp [show Int32.toNatClampNeg 0 = 0 from rfl], fc.sI _ _ _ _ (.inr (.inr (.inr ⟨2, by omega, by omega, rfl, by decide⟩))), ac.sI _ _ _ _ (by omega), ?_⟩
      simp only [if_true, cl_nI (show k < 2 ^ 31 by omega)]
      obtain ⟨r0, r1, r2, r3, r4, r5, r6, r7⟩ := g.R
      refine RW.head g.R (fun d d1 d2 d3 j => by rw [I_sI, if_neg (by omega)]) (fun j hj => ?_) (by rw [I_sI, if_pos ⟨rfl, rfl, rfl⟩]; rfl) ?_ ?_ ?_ ?_ rfl rfl rfl rfl
      · rw [I_sI, if_neg (by omega)]; have := r0 j hj; rw [Nat.mul_zero, Nat.zero_add] at this; exact this
      · rw [I_sI, if_neg (by omega)]; exact r2
      · rw [I_sI, if_neg (by omega)]; exact r3
      · rw [I_sI, if_neg (by omega)]; exact r4
      · rw [I_sI, if_neg (by omega)]; exact r5
/-- a town of a world anew -/
theorem VW.town {W : WD} {i : Nat} {T : TW} (h : VW W) (hT : VT T) : VW (setT W i T) := by
  refine ⟨fun j hj => ?_, h.2⟩
  show VT (if j = i then T else W.tn j)
  split
  · exact hT
  · exact h.1 j hj
theorem VT.tab0 {T : TW} (V : VT T) {z : Nat} {C : Nat → Nat → Int32} (hc : ∀ r, r < z → nB (C r 0) 6 ∧ nB (C r 1) 8 ∧ nB (C r 2) 8 ∧ nB (C r 3) 8 ∧ nB (C r 4) 1000 ∧ (C r 5 = -1 ∨ nB (C r 5) 4) ∧ nB (C r 6) 100 ∧ (C r 7 = -1 ∨ nB (C r 7) 1000)) : VT (tabW T 0 z C) := by
  obtain ⟨a1, a2, a3, a4, a5, a6, a7, a8, a9, a10⟩ := V
  exact ⟨a1, a2, a3, a4, a5, a6, hc, a8, a9, a10⟩
theorem VT.tab5 {T : TW} (V : VT T) {z : Nat} {C : Nat → Nat → Int32} (hc : ∀ r, r < z → nB (C r 0) 6 ∧ (C r 1 = -1 ∨ nB (C r 1) 4)) : VT (tabW T 5 z C) := by
  obtain ⟨a1, a2, a3, a4, a5, a6, a7, a8, a9, a10⟩ := V
  exact ⟨a1, a2, a3, a4, a5, a6, a7, a8, a9, hc⟩
def fgW (W : WD) (i : Nat) : WD := setT W i (tabW (W.tn i) 5 0 ((W.tn i).2.2 5))
theorem m_forget (x : Nat) (p : Int32) : Mq x (f_X9_forget x p) (f_X10_forget (x + 106) p) := by
  refine Mq_w (fun W => if isN W.nt p && !decide ((W.tn p.toNatClampNeg).2.1 5 = 0) then 1 else 0) (fun W => if isN W.nt p && !decide ((W.tn p.toNatClampNeg).2.1 5 = 0) then fgW W p.toNatClampNeg else W) (fun m W D h => ?_) (fun m W h => ?_)
  · have hnt := h.nt
    simp only [g_X9_forget_0, f_X9_forget, chk_t h.kx, h.now]
    cases hp : isN W.nt p with
    | false => exact ⟨m, by simp only [c_townAt0 h.T hp, chk_t, ck_sI, ck_sR, ck_sJ, cal_s, bnd_e, ifn_s, ifn_n, Bool.false_and, Bool.false_eq_true, if_false], Gq.rf x m, Ag.rf _ _ _, (Fq.rf x m).ar, by simpa using h.T, by simpa using h.V⟩
    | true =>
      obtain ⟨i, hi, e⟩ := (isN_iff (by omega)).mp hp
      subst e
      have c := h.ct hi
      have hn := (h.nn hi).2.2.2.2.2
      simp only [c_townAt h.T hi, chk_t, ck_sI, ck_sR, ck_sJ, cal_s, bnd_e, ifn_s, ifn_n, chk_t c.K, c.k5, c.n5.1, cl_nI (show i < 2 ^ 31 by omega), Bool.true_and]
      by_cases k : (W.tn i).2.1 5 = 0
      · exact ⟨m, by simp [k, show nI 0 = (0 : Int32) from rfl], Gq.rf x m, Ag.rf _ _ _, (Fq.rf x m).ar, by simpa [k] using h.T, by simpa [k] using h.V⟩
      · have k0 : ¬ nI ((W.tn i).2.1 5) = 0 := nI_ne0 (by omega) (by omega)
        have o : On m (m.sI 703 (x + 1 + 4 + 18 * i + 11) 0 0) (x + 1 + 4 + 18 * i) (x + 1 + 19 + 18 * i) := (On.rf m _ _).sI _ _ _ _ (by omega) (by omega)
        refine ⟨m.sI 703 (x + 1 + 4 + 18 * i + 11) 0 0, by simp [k, k0], o.g (by omega) (by omega), o.ag (by omega), o.ar (by omega), ?_, ?_⟩
        · simp only [k, decide_false, Bool.not_false, if_true]
          refine h.T.town (by omega) (o.ag (by omega)) (o.ag (by omega)) (c.tab5 rfl rfl rfl (fun s a j a1 a2 a3 a4 => ?_) ?_ (by omega) (fun r hr => by omega))
          · rw [I_sI, if_neg (by omega)]
          · rw [I_sI, if_pos ⟨rfl, rfl, rfl⟩]; rfl
        · simp only [k, decide_false, Bool.not_false, if_true]
          exact h.V.town ((h.V.1 i hi).tab5 (fun r hr => by omega))
  · have hnt := h.nt
    have g := h.code
    have fc := gq_code x m
    have ac := ag_code x m
    simp only [f_X10_forget, g_X10_forget_0, chk_t h.M.1, bnd_e]
    generalize m.sI 1100 (x + 106) 0 0 = m1 at g fc ac ⊢
    simp only [r_isTown g.M g.R hnt, chk_t, ck_sI, ck_sR, ck_sJ, cal_s, bnd_e, ifn_s, ifn_n, bI_0]
    cases hp : isN W.nt p with
    | false => exact ⟨m1, by simp, fc, ac, by simpa using g.R⟩
    | true =>
      obtain ⟨i, hi, e⟩ := (isN_iff (by omega)).mp hp
      subst e
      have hn := (g.nn i hi).2.2.2.2.2
      have R := (g.rt hi)
      have o9 : f_X10_of (x + 106) (nI i) 9 m1 = some (nI ((W.tn i).2.1 5), m1) := by rw [← R.1.2.2.2.2.2.2.2.2.2.1]; exact r_of g.M (w := 9) (by omega) (by omega)
      have e32 : (32 : Int32) * nI i + 9 = nI (32 * i + 9) := by
        show nI 32 * nI i + nI 9 = _
        rw [pk_mul, nI_add]
      simp only [Bool.true_eq_false, if_false, chk_t g.M.1, o9, chk_t, ck_sI, ck_sR, ck_sJ, cal_s, bnd_e, ifn_s, ifn_n, e32, g.M.c1106, g.M.n1106, chk_t (inb_nI (show 32 * i + 9 < 384 by omega) (by decide)), cl_nI (show i < 2 ^ 31 by omega), cl_nI (show 32 * i + 9 < 2 ^ 31 by omega), Bool.true_and]
      by_cases k : (W.tn i).2.1 5 = 0
      · exact ⟨m1, by simp [k, show nI 0 = (0 : Int32) from rfl], fc, ac, by simpa [k] using g.R⟩
      · have k0 : ¬ nI ((W.tn i).2.1 5) = 0 := nI_ne0 (by omega) (by omega)
        refine ⟨m1.sI 22 (x + 106 + 6) (32 * i + 9) 0, by simp [k, k0], fc.sI _ _ _ _ (.inr (.inr (.inr ⟨6, by omega, by omega, rfl, by show _ < 96; omega⟩))), ac.sI _ _ _ _ (by omega), ?_⟩
        simp only [k, decide_false, Bool.not_false, if_true]
        refine g.R.town g.nn ((At.rf _ i m1).sI _ _ _ _ (.inr (.inr ⟨6, 9, by omega, by omega, rfl, rfl, by decide⟩))) (R.tab5 (fun j hj => ?_) ?_ (fun d d1 d2 j => ?_) (fun r hr => by omega))
        · rw [I_sI, if_neg (by omega)]
        · rw [I_sI, if_pos ⟨rfl, rfl, rfl⟩]; rfl
        · rw [I_sI, if_neg (by omega)]
def wiB (W : WD) (p k f : Int32) : Bool := isN W.nt p && decide ((W.tn p.toNatClampNeg).2.1 5 < 3) && isN 6 k && fcB f
def wiW (W : WD) (i : Nat) (k f : Int32) : WD := setT W i (addR (W.tn i) 5 (fun c => if c = 0 then k else f))
theorem wiV {W : WD} {i : Nat} {k f : Int32} (V : VW W) (hi : i < W.nt) (hk : isN 6 k = true) (hf : fcB f = true) : VW (wiW W i k f) := by
  refine V.town ((V.1 i hi).tab5 (fun r hr => ?_))
  by_cases e : r = (W.tn i).2.1 5
  · simp only [if_pos e, if_true]
    obtain ⟨q, hq, eq⟩ := (isN_iff (by decide)).mp hk
    refine ⟨⟨q, hq, eq⟩, ?_⟩
    simp only [fcB, Bool.or_eq_true, decide_eq_true_eq] at hf
    rcases hf with hf | hf
    · exact .inl (by simpa using hf)
    · obtain ⟨q, hq, eq⟩ := (isN_iff (by decide)).mp hf
      exact .inr ⟨q, hq, by simpa using eq⟩
  · simp only [if_neg e]
    exact (V.1 i hi).2.2.2.2.2.2.2.2.2 r (by omega)
theorem m_wish (x : Nat) (p k f : Int32) : Mq x (f_X9_wish x p k f) (f_X10_wish (x + 106) p k f) := by
  refine Mq_w (fun W => if wiB W p k f then nI ((W.tn p.toNatClampNeg).2.1 5 + 1) else -1) (fun W => if wiB W p k f then wiW W p.toNatClampNeg k f else W) (fun m W D h => ?_) (fun m W h => ?_)
  · have hnt := h.nt
    simp only [g_X9_wish_0, f_X9_wish, chk_t h.kx, h.now]
    cases hp : isN W.nt p with
    | false => exact ⟨m, by simp only [c_townAt0 h.T hp, chk_t, ck_sI, ck_sR, ck_sJ, cal_s, bnd_e, ifn_s, ifn_n, wiB, hp, Bool.false_and, Bool.false_eq_true, if_false], Gq.rf x m, Ag.rf _ _ _, (Fq.rf x m).ar, by simpa [wiB, hp] using h.T, by simpa [wiB, hp] using h.V⟩
    | true =>
      obtain ⟨i, hi, e⟩ := (isN_iff (by omega)).mp hp
      subst e
      have c := h.ct hi
      have hn := (h.nn hi).2.2.2.2.2
      simp only [c_townAt h.T hi, c_isKind, c_isFacing, chk_t, ck_sI, ck_sR, ck_sJ, cal_s, bnd_e, ifn_s, ifn_n, chk_t c.K, bI_0, cl_nI (show i < 2 ^ 31 by omega), Bool.true_and, wiB, hp]
      cases hk : isN 6 k with
      | false => exact ⟨m, by simp, Gq.rf x m, Ag.rf _ _ _, (Fq.rf x m).ar, by simpa using h.T, by simpa using h.V⟩
      | true =>
        cases hf : fcB f with
        | false => exact ⟨m, by simp, Gq.rf x m, Ag.rf _ _ _, (Fq.rf x m).ar, by simpa using h.T, by simpa using h.V⟩
        | true =>
          simp only [Bool.true_eq_false, if_false, c.k5, Bool.and_true]
          by_cases hz : (W.tn i).2.1 5 < 3
          · obtain ⟨a1, a2⟩ := addRow_in c.T5 hz
            have a3 := a2.s22 (x + 1 + 4 + 18 * i + 11 + 1) ((W.tn i).2.1 5 * 2 + 0) k
            have ne : ¬ nI ((W.tn i).2.1 5) = -1 := nI_ne_m1 (by omega)
            have o : On m (((m.sI 703 (x + 1 + 4 + 18 * i + 11) 0 (nI ((W.tn i).2.1 5 + 1))).sI 22 (x + 1 + 4 + 18 * i + 11 + 1) ((W.tn i).2.1 5 * 2 + 0) k).sI 22 (x + 1 + 4 + 18 * i + 11 + 1) ((W.tn i).2.1 5 * 2 + 1) f) (x + 1 + 4 + 18 * i) (x + 1 + 19 + 18 * i) := (((On.rf m _ _).sI _ _ _ _ (by omega) (by omega)).sI _ _ _ _ (by omega) (by omega)).sI _ _ _ _ (by omega) (by omega)
            refine ⟨_, ?_, o.g (by omega) (by omega), o.ag (by omega), o.ar (by omega), ?_, ?_⟩
            · simp only [a1, chk_t, ck_sI, ck_sR, ck_sJ, cal_s, bnd_e, ifn_s, ifn_n, if_neg ne, K_sI, R_sI, chk_t c.K, c.k5, show f_X6_put (x + 1 + 4 + 18 * i + 11) (nI ((W.tn i).2.1 5)) 0 k _ = _ from put_in (c := 0) a2 (by omega) (by omega) k, show f_X6_put (x + 1 + 4 + 18 * i + 11) (nI ((W.tn i).2.1 5)) 1 f _ = _ from put_in (c := 1) a3 (by omega) (by omega) f]
              simp [I_sI, hz]
            · simp only [hz, decide_true, if_true]
              refine h.T.town (by omega) (o.ag (by omega)) (o.ag (by omega)) (c.tab5 rfl rfl rfl (fun s a j a1 a2 a3 a4 => ?_) ?_ (by omega) (fun r hr q hq => ?_))
              · rw [I_sI, if_neg (by omega), I_sI, if_neg (by omega), I_sI, if_neg (by omega)]
              · rw [I_sI, if_neg (by omega), I_sI, if_neg (by omega), I_sI, if_pos ⟨rfl, rfl, rfl⟩]
              · by_cases er : r = (W.tn i).2.1 5
                · subst er
                  rw [if_pos rfl]
                  have : q = 0 ∨ q = 1 := by omega
                  rcases this with rfl | rfl
                  · rw [I_sI, if_neg (by omega), I_sI, if_pos ⟨rfl, rfl, rfl⟩]; rfl
                  · rw [I_sI, if_pos ⟨rfl, rfl, rfl⟩]; rfl
                · rw [if_neg er, I_sI, if_neg (by omega), I_sI, if_neg (by omega), I_sI, if_neg (by omega)]
                  exact c.c5 r (by omega) q hq
            · simp only [hz, decide_true, if_true]
              exact wiV h.V hi hk hf
          · refine ⟨m, ?_, Gq.rf x m, Ag.rf _ _ _, (Fq.rf x m).ar, by simpa [hz] using h.T, by simpa [hz] using h.V⟩
            simp only [addRow_no c.T5 (by omega), chk_t, ck_sI, ck_sR, ck_sJ, cal_s, bnd_e, ifn_s, ifn_n, if_true, hz, decide_false, Bool.false_eq_true, if_false]
  · have hnt := h.nt
    have g := h.code
    have fc := gq_code x m
    have ac := ag_code x m
    simp only [f_X10_wish, g_X10_wish_0, chk_t h.M.1, bnd_e]
    generalize m.sI 1100 (x + 106) 0 0 = m1 at g fc ac ⊢
    simp only [r_isTown g.M g.R hnt, chk_t, ck_sI, ck_sR, ck_sJ, cal_s, bnd_e, ifn_s, ifn_n, bI_0]
    cases hp : isN W.nt p with
    | false => exact ⟨m1, by simp [wiB, hp], fc, ac, by simpa [wiB, hp] using g.R⟩
    | true =>
      obtain ⟨i, hi, e⟩ := (isN_iff (by omega)).mp hp
      subst e
      have hn := (g.nn i hi).2.2.2.2.2
      have R := (g.rt hi)
      have o9 : f_X10_of (x + 106) (nI i) 9 m1 = some (nI ((W.tn i).2.1 5), m1) := by rw [← R.1.2.2.2.2.2.2.2.2.2.1]; exact r_of g.M (w := 9) (by omega) (by omega)
      simp only [Bool.true_eq_false, if_false, chk_t g.M.1, o9, r_in, inR_6, inR_f, chk_t, ck_sI, ck_sR, ck_sJ, cal_s, bnd_e, ifn_s, ifn_n, bI_0, cl_nI (show i < 2 ^ 31 by omega), Bool.true_and, wiB, hp]
      by_cases hz : (W.tn i).2.1 5 < 3
      · have k3 : ¬ nI ((W.tn i).2.1 5) = 3 := fun q => by have := nI_inj (b := 3) (by omega) (by decide) q; omega
        simp only [if_neg k3, hz, decide_true, Bool.true_and]
        cases hk : isN 6 k with
        | false => exact ⟨m1, by simp, fc, ac, by simpa using g.R⟩
        | true =>
          cases hf : fcB f with
          | false => exact ⟨m1, by simp, fc, ac, by simpa using g.R⟩
          | true =>
            have e3 : (3 : Int32) * nI i + nI ((W.tn i).2.1 5) = nI (3 * i + (W.tn i).2.1 5) := by
              show nI 3 * nI i + _ = _
              rw [pk_mul, nI_add]
            have e32 : (32 : Int32) * nI i + 9 = nI (32 * i + 9) := by
              show nI 32 * nI i + nI 9 = _
              rw [pk_mul, nI_add]
            have u1 : ∀ s a j v, a ≠ x + 106 → f_X10_of (x + 106) (nI i) 9 (m1.sI s a j v) = some ((m1.sI s a j v).I 22 (x + 106 + 6) (32 * i + 9), m1.sI s a j v) := fun s a j v _ => r_of (k := i) (w := 9) (show Md (m1.sI s a j v) (x + 106) from g.M) (by omega) (by omega)
            have u2 : ∀ s a j v s2 a2 j2 v2 s3 a3 j3 v3, f_X10_of (x + 106) (nI i) 9 (((m1.sI s a j v).sI s2 a2 j2 v2).sI s3 a3 j3 v3) = some ((((m1.sI s a j v).sI s2 a2 j2 v2).sI s3 a3 j3 v3).I 22 (x + 106 + 6) (32 * i + 9), ((m1.sI s a j v).sI s2 a2 j2 v2).sI s3 a3 j3 v3) := fun s a j v s2 a2 j2 v2 s3 a3 j3 v3 => r_of (k := i) (w := 9) (show Md (((m1.sI s a j v).sI s2 a2 j2 v2).sI s3 a3 j3 v3) (x + 106) from g.M) (by omega) (by omega)
            have r9 := R.1.2.2.2.2.2.2.2.2.2.1
            have e10 : nI ((W.tn i).2.1 5) + 1 = nI ((W.tn i).2.1 5 + 1) := nI_add _ 1
            have a1 : (m1.sI 22 (x + 106 + 26) (3 * i + (W.tn i).2.1 5) k).I 22 (x + 106 + 6) (32 * i + 9) = nI ((W.tn i).2.1 5) := by rw [I_sI, if_neg (by omega)]; exact r9
            have a2 : ((m1.sI 22 (x + 106 + 26) (3 * i + (W.tn i).2.1 5) k).sI 22 (x + 106 + 27) (3 * i + (W.tn i).2.1 5) f).I 22 (x + 106 + 6) (32 * i + 9) = nI ((W.tn i).2.1 5) := by rw [I_sI, if_neg (by omega)]; exact a1
            have a3 : (((m1.sI 22 (x + 106 + 26) (3 * i + (W.tn i).2.1 5) k).sI 22 (x + 106 + 27) (3 * i + (W.tn i).2.1 5) f).sI 22 (x + 106 + 6) (32 * i + 9) (nI ((W.tn i).2.1 5 + 1))).I 22 (x + 106 + 6) (32 * i + 9) = nI ((W.tn i).2.1 5 + 1) := by rw [I_sI, if_pos ⟨rfl, rfl, rfl⟩]
            refine ⟨((m1.sI 22 (x + 106 + 26) (3 * i + (W.tn i).2.1 5) k).sI 22 (x + 106 + 27) (3 * i + (W.tn i).2.1 5) f).sI 22 (x + 106 + 6) (32 * i + 9) (nI ((W.tn i).2.1 5 + 1)), ?_, ?_, ?_, ?_⟩
            · simp only [Bool.true_eq_false, if_false, K_sI, R_sI, N_sI, chk_t g.M.1, g.M.c1126, g.M.n1126, g.M.c1127, g.M.n1127, g.M.c1106, g.M.n1106, e3, e32, chk_t (inb_nI (show 3 * i + (W.tn i).2.1 5 < 36 by omega) (by decide)), chk_t (inb_nI (show 32 * i + 9 < 384 by omega) (by decide)), cl_nI (show 3 * i + (W.tn i).2.1 5 < 2 ^ 31 by omega), cl_nI (show 32 * i + 9 < 2 ^ 31 by omega), chk_t, ck_sI, ck_sR, ck_sJ, cal_s, bnd_e, ifn_s, ifn_n, u1 22 (x + 106 + 26) _ _ (by omega), a1, a2, a3, e10, u2, if_true, Bool.and_true]
            · exact ((fc.sI _ _ _ _ (.inr (.inr (.inr ⟨26, by omega, by omega, rfl, by show _ < 9; omega⟩)))).sI _ _ _ _ (.inr (.inr (.inr ⟨27, by omega, by omega, rfl, by show _ < 9; omega⟩)))).sI _ _ _ _ (.inr (.inr (.inr ⟨6, by omega, by omega, rfl, by show _ < 96; omega⟩)))
            · exact ((ac.sI _ _ _ _ (by omega)).sI _ _ _ _ (by omega)).sI _ _ _ _ (by omega)
            · simp only [Bool.and_true, if_true]
              refine g.R.town g.nn ((((At.rf _ i m1).sI _ _ _ _ (.inr (.inr ⟨26, (W.tn i).2.1 5, by omega, by omega, rfl, rfl, hz⟩))).sI _ _ _ _ (.inr (.inr ⟨27, (W.tn i).2.1 5, by omega, by omega, rfl, rfl, hz⟩))).sI _ _ _ _ (.inr (.inr ⟨6, 9, by omega, by omega, rfl, rfl, by decide⟩))) (R.tab5 (fun j hj => ?_) ?_ (fun d d1 d2 j => ?_) (fun r hr c hc => ?_))
              · rw [I_sI, if_neg (by omega), I_sI, if_neg (by omega), I_sI, if_neg (by omega)]
              · rw [I_sI, if_pos ⟨rfl, rfl, rfl⟩]
              · rw [I_sI, if_neg (by omega), I_sI, if_neg (by omega), I_sI, if_neg (by omega)]
              · by_cases er : r = (W.tn i).2.1 5
                · subst er
                  rw [if_pos rfl]
                  have : c = 0 ∨ c = 1 := by omega
                  rcases this with rfl | rfl
                  · rw [I_sI, if_neg (by omega), I_sI, if_neg (by omega), I_sI, if_pos ⟨rfl, rfl, rfl⟩]; rfl
                  · rw [I_sI, if_neg (by omega), I_sI, if_pos ⟨rfl, rfl, rfl⟩]; rfl
                · rw [if_neg er, I_sI, if_neg (by omega), I_sI, if_neg (by omega), I_sI, if_neg (by omega)]
                  exact R.2.2.2.2.2.2 r (by omega) c hc
      · have k3 : nI ((W.tn i).2.1 5) = 3 := by rw [show (W.tn i).2.1 5 = 3 by omega]; rfl
        exact ⟨m1, by simp [k3, hz], fc, ac, by simpa [hz] using g.R⟩
