/-! feed -/
def byS (p s : Int32) : Int32 := (Int32.toInt8 ((Int32.toInt8 (iush p s)).toInt32)).toInt32
def fdW (W : WD) (v : Int32) : WD := (fun j => if j = W.ln then v else W.tp j, W.ln + 1, W.fa, W.pl, W.nt, W.nl, W.tn, W.lw)
def fd4 (W : WD) (p : Int32) : WD := fdW (fdW (fdW (fdW W (byS p 24)) (byS p 16)) (byS p 8)) (byS p 0)
theorem TD.fd {m : MM} {t : Nat} {W : WD} (h : TD m t W) (hl : W.ln < 500) (v : Int32) : TD ((m.sI 21 (t + 1) W.ln v).sI 801 t 0 (nI (W.ln + 1))) t (fdW W v) := by
  have hA : Ag m ((m.sI 21 (t + 1) W.ln v).sI 801 t 0 (nI (W.ln + 1))) (t + 2) (t + 58) := ((Ag.rf m _ _).sI _ _ _ _ (by omega)).sI _ _ _ _ (by omega)
  refine ⟨h.K, h.Rt, h.Rr, h.Rl, h.K1, h.N1, h.K2, h.N2, h.K3, h.N3, h.rT, h.rL, fun j hj => ?_, ?_, hl, ?_, ?_, ?_, h.ntle, ?_, h.nlle, fun i hi => ?_, fun i hi => ?_⟩
  · show _ = if j = W.ln then v else W.tp j
    rw [I_sI, if_neg (by omega), I_sI]
    by_cases e : j = W.ln
    · rw [if_pos ⟨rfl, rfl, e⟩, if_pos e]
    · rw [if_neg (fun q => e q.2.2), if_neg e]; exact h.tp j hj
  · rw [I_sI, if_pos ⟨rfl, rfl, rfl⟩]; rfl
  · rw [I_sI, if_neg (by omega), I_sI, if_neg (by omega)]; exact h.fa
  · rw [I_sI, if_neg (by omega), I_sI, if_neg (by omega)]; exact h.pl
  · rw [I_sI, if_neg (by omega), I_sI, if_neg (by omega)]; exact h.nt
  · rw [I_sI, if_neg (by omega), I_sI, if_neg (by omega)]; exact h.nl
  · exact (h.T i hi).kept (hA.sub (by omega) (by omega))
  · exact (h.L i hi).kept (hA.sub (by omega) (by omega))
theorem c_put1 {m : MM} {t : Nat} {W : WD} (h : TD m t W) (hl : W.ln < 500) (p s : Int32) (hs : ¬ s < 0) (k : Int32 → MM → Option (Unit × MM)) : g_X7_putBytes_3 t p k s m = k (s + (-8)) ((m.sI 21 (t + 1) W.ln (byS p s)).sI 801 t 0 (nI (W.ln + 1))) := by
  have e1 : ¬ nI W.ln < 0 := nI_pos (by omega)
  have e2 : ¬ nI 500 ≤ nI W.ln := nI_ge hl (by decide)
  have e3 : nI W.ln + 1 = nI (W.ln + 1) := nI_add _ 1
  have e4 : (m.sI 21 (t + 1) W.ln (byS p s)).I 801 t 0 = nI W.ln := by rw [I_sI, if_neg (by omega)]; exact h.ln
  simp only [g_X7_putBytes_3, g_X7_putBytes_49, if_neg hs, chk_t h.K, h.ln, if_neg e1, ck_e h.Rt h.K1, h.N1, ofN, if_neg e2, chk_t (inb_nI hl (by decide)), bnd_e, cl_nI (show W.ln < 2 ^ 31 by omega)]
  show k (s + -8) ((m.sI 21 (t + 1) W.ln (byS p s)).sI 801 t 0 ((m.sI 21 (t + 1) W.ln (byS p s)).I 801 t 0 + 1)) = _
  rw [e4, e3]
theorem c_putBytes {m : MM} {t : Nat} {W : WD} (h : TD m t W) (hl : W.ln + 4 ≤ 500) (p : Int32) : ∃ n, f_X7_putBytes t p m = some ((), n) ∧ TD n t (fd4 W p) ∧ On m n t (t + 2) := by
  have h1 := h.fd (by omega) (byS p 24)
  have h2 := h1.fd (show W.ln + 1 < 500 by omega) (byS p 16)
  have h3 := h2.fd (show W.ln + 1 + 1 < 500 by omega) (byS p 8)
  have h4 := h3.fd (show W.ln + 1 + 1 + 1 < 500 by omega) (byS p 0)
  refine ⟨_, ?_, h4, ?_⟩
  · show l_X7_putBytes_3 t p (1048571 + 5) 24 m = _
    show g_X7_putBytes_3 t p (l_X7_putBytes_3 t p (1048571 + 4)) 24 m = _
    rw [c_put1 h (by omega) p 24 (by decide), show (24 : Int32) + (-8) = 16 from by decide]
    show g_X7_putBytes_3 t p (l_X7_putBytes_3 t p (1048571 + 3)) 16 _ = _
    rw [c_put1 h1 (show W.ln + 1 < 500 by omega) p 16 (by decide), show (16 : Int32) + (-8) = 8 from by decide]
    show g_X7_putBytes_3 t p (l_X7_putBytes_3 t p (1048571 + 2)) 8 _ = _
    rw [c_put1 h2 (show W.ln + 1 + 1 < 500 by omega) p 8 (by decide), show (8 : Int32) + (-8) = 0 from by decide]
    show g_X7_putBytes_3 t p (l_X7_putBytes_3 t p (1048571 + 1)) 0 _ = _
    rw [c_put1 h3 (show W.ln + 1 + 1 + 1 < 500 by omega) p 0 (by decide), show (0 : Int32) + (-8) = -8 from by decide]
    show g_X7_putBytes_3 t p (l_X7_putBytes_3 t p 1048571) (-8) _ = _
    simp only [g_X7_putBytes_3, if_pos (show (-8 : Int32) < 0 by decide)]
  · exact ((((((((On.rf m _ _).sI _ _ _ _ (by omega) (by omega)).sI _ _ _ _ (by omega) (by omega)).sI _ _ _ _ (by omega) (by omega)).sI _ _ _ _ (by omega) (by omega)).sI _ _ _ _ (by omega) (by omega)).sI _ _ _ _ (by omega) (by omega)).sI _ _ _ _ (by omega) (by omega)).sI _ _ _ _ (by omega) (by omega)
theorem byS_e {a b : BitVec 32} (h : ∀ i, i < 8 → a.getLsbD i = b.getLsbD i) : a.signExtend 8 = b.signExtend 8 := by
  apply BitVec.eq_of_getLsbD_eq
  intro i hi
  rw [BitVec.getLsbD_signExtend, BitVec.getLsbD_signExtend, h i hi]
  have : i < 32 := by omega
  simp [this]
theorem by_k (p : BitVec 32) (s : Nat) (hs : s ≤ 24) (i : Nat) (hi : i < 8) : (p.sshiftRight s).getLsbD i = (p >>> s).getLsbD i := by
  rw [BitVec.getLsbD_sshiftRight, BitVec.getLsbD_ushiftRight]
  have h1 : ¬ 32 ≤ i := by omega
  have h2 : s + i < 32 := by omega
  simp [h1, h2]
theorem by_r (p s : Int32) (hs : s = 24 ∨ s = 16 ∨ s = 8 ∨ s = 0) : Int32.toInt8 (p >>> (s &&& 31)) = Int32.toInt8 (iush p s) := by
  apply Int8.toBitVec_inj.mp
  rw [Int32.toBitVec_toInt8, Int32.toBitVec_toInt8]
  apply byS_e
  intro i hi
  unfold iush
  have e : ((p.toUInt32 >>> (s.toUInt32 &&& Int32.toUInt32 31)).toInt32).toBitVec = (p.toUInt32 >>> (s.toUInt32 &&& Int32.toUInt32 31)).toBitVec := rfl
  rw [e, Int32.toBitVec_shiftRight, UInt32.toBitVec_shiftRight]
  rcases hs with rfl | rfl | rfl | rfl
  · exact by_k p.toBitVec 24 (by omega) i hi
  · exact by_k p.toBitVec 16 (by omega) i hi
  · exact by_k p.toBitVec 8 (by omega) i hi
  · exact by_k p.toBitVec 0 (by omega) i hi
theorem fdW_ln (W : WD) (v : Int32) : (fdW W v).ln = W.ln + 1 := rfl
theorem VW.fd {W : WD} (h : VW W) (v : Int32) : VW (fdW W v) := h
theorem fd4_ln (W : WD) (p : Int32) : (fd4 W p).ln = W.ln + 4 := by unfold fd4; rw [fdW_ln, fdW_ln, fdW_ln, fdW_ln]
theorem VW.fd4 {W : WD} (h : VW W) (p : Int32) : VW (fd4 W p) := (((h.fd _).fd _).fd _).fd _
def fd20 (W : WD) (a b c d e : Int32) : WD := fd4 (fd4 (fd4 (fd4 (fd4 W a) b) c) d) e
theorem RI.fd {m : MM} {x : Nat} {W : WD} (h : RI m x W) (hl : W.ln < 500) (v : Int32) : RI ((m.sI 21 (x + 106 + 1) W.ln v).sI 22 (x + 106 + 2) 0 (nI (W.ln + 1))) x (fdW W v) := by
  obtain ⟨r0, r1, r2, r3, r4, r5, r6, r7⟩ := h.R
  refine ⟨h.M, RW.head h.R (fun d d1 d2 d3 j => by rw [I_sI, if_neg (by omega), I_sI, if_neg (by omega)]) (fun j hj => ?_) ?_ ?_ ?_ ?_ ?_ rfl rfl rfl rfl, h.V, h.nt, h.nl, h.nn, hl⟩
  · show _ = if j = W.ln then v else W.tp j
    rw [I_sI, if_neg (by omega), I_sI]
    by_cases e : j = W.ln
    · rw [if_pos ⟨rfl, rfl, e⟩, if_pos e]
    · rw [if_neg (fun q => e q.2.2), if_neg e]; have := r0 j hj; rw [Nat.mul_zero, Nat.zero_add] at this; exact this
  · rw [I_sI, if_pos ⟨rfl, rfl, rfl⟩]; rfl
  · rw [I_sI, if_neg (by omega), I_sI, if_neg (by omega)]; exact r2
  · rw [I_sI, if_neg (by omega), I_sI, if_neg (by omega)]; exact r3
  · rw [I_sI, if_neg (by omega), I_sI, if_neg (by omega)]; exact r4
  · rw [I_sI, if_neg (by omega), I_sI, if_neg (by omega)]; exact r5
theorem r_put1 {m : MM} {x : Nat} {W : WD} (h : RI m x W) (hl : W.ln < 500) (p s : Int32) (hs : s = 24 ∨ s = 16 ∨ s = 8 ∨ s = 0) (k : Int32 → MM → Option (Unit × MM)) : g_X10_four_3 (x + 106) p k s m = k (s + (-8)) ((m.sI 21 (x + 106 + 1) W.ln (byS p s)).sI 22 (x + 106 + 2) 0 (nI (W.ln + 1))) := by
  have hs0 : ¬ s < 0 := by rcases hs with rfl | rfl | rfl | rfl <;> decide
  have e0 : m.I 22 (x + 106 + 2) 0 = nI W.ln := h.R.2.1
  have e3 : nI W.ln + 1 = nI (W.ln + 1) := nI_add _ 1
  have e4 : (m.sI 21 (x + 106 + 1) W.ln (byS p s)).I 22 (x + 106 + 2) 0 = nI W.ln := by rw [I_sI, if_neg (by omega)]; exact e0
  simp only [g_X10_four_3, if_neg hs0, chk_t h.M.1, h.M.c1101, h.M.c1102, h.M.n1101, h.M.n1102, chk_t (show inb 0 4 = true by decide), show Int32.toNatClampNeg 0 = 0 from rfl, e0, chk_t (inb_nI (show W.ln < 2000 by omega) (by decide)), cl_nI (show W.ln < 2 ^ 31 by omega), chk_t, ck_sI, ck_sR, ck_sJ, cal_s, bnd_e, ifn_s, ifn_n, R_sI, N_sI, by_r p s hs]
  show k (s + -8) ((m.sI 21 (x + 106 + 1) W.ln (byS p s)).sI 22 (x + 106 + 2) 0 ((m.sI 21 (x + 106 + 1) W.ln (byS p s)).I 22 (x + 106 + 2) 0 + 1)) = _
  rw [e4, e3]
theorem fd_g {x l : Nat} {m n : MM} (h : Gq x m n ∧ Ag m n (x + 1) (x + 81)) (hl : l < 500) (v w : Int32) : Gq x m ((n.sI 21 (x + 106 + 1) l v).sI 22 (x + 106 + 2) 0 w) ∧ Ag m ((n.sI 21 (x + 106 + 1) l v).sI 22 (x + 106 + 2) 0 w) (x + 1) (x + 81) :=
  ⟨(h.1.sI _ _ _ _ (.inr (.inr (.inr ⟨1, by omega, by omega, rfl, hl⟩)))).sI _ _ _ _ (.inr (.inr (.inr ⟨2, by omega, by omega, rfl, by decide⟩))), (h.2.sI _ _ _ _ (by omega)).sI _ _ _ _ (by omega)⟩
theorem r_four {m : MM} {x : Nat} {W : WD} (h : RI m x W) (hl : W.ln + 4 ≤ 500) (p : Int32) : ∃ n, f_X10_four (x + 106) p m = some ((), n) ∧ RI n x (fd4 W p) ∧ Gq x m n ∧ Ag m n (x + 1) (x + 81) := by
  have h1 := h.fd (by omega) (byS p 24)
  have h2 := h1.fd (show W.ln + 1 < 500 by omega) (byS p 16)
  have h3 := h2.fd (show W.ln + 1 + 1 < 500 by omega) (byS p 8)
  have h4 := h3.fd (show W.ln + 1 + 1 + 1 < 500 by omega) (byS p 0)
  refine ⟨_, ?_, h4, ?_⟩
  · show l_X10_four_3 (x + 106) p (1048571 + 5) 24 m = _
    show g_X10_four_3 (x + 106) p (l_X10_four_3 (x + 106) p (1048571 + 4)) 24 m = _
    rw [r_put1 h (by omega) p 24 (.inl rfl), show (24 : Int32) + (-8) = 16 from by decide]
    show g_X10_four_3 (x + 106) p (l_X10_four_3 (x + 106) p (1048571 + 3)) 16 _ = _
    rw [r_put1 h1 (show W.ln + 1 < 500 by omega) p 16 (.inr (.inl rfl)), show (16 : Int32) + (-8) = 8 from by decide]
    show g_X10_four_3 (x + 106) p (l_X10_four_3 (x + 106) p (1048571 + 2)) 8 _ = _
    rw [r_put1 h2 (show W.ln + 1 + 1 < 500 by omega) p 8 (.inr (.inr (.inl rfl))), show (8 : Int32) + (-8) = 0 from by decide]
    show g_X10_four_3 (x + 106) p (l_X10_four_3 (x + 106) p (1048571 + 1)) 0 _ = _
    rw [r_put1 h3 (show W.ln + 1 + 1 + 1 < 500 by omega) p 0 (.inr (.inr (.inr rfl))), show (0 : Int32) + (-8) = -8 from by decide]
    show g_X10_four_3 (x + 106) p (l_X10_four_3 (x + 106) p 1048571) (-8) _ = _
    simp only [g_X10_four_3, if_pos (show (-8 : Int32) < 0 by decide)]
  · exact fd_g (fd_g (fd_g (fd_g ⟨Gq.rf x m, Ag.rf _ _ _⟩ (show W.ln < 500 by omega) _ _) (show W.ln + 1 < 500 by omega) _ _) (show W.ln + 1 + 1 < 500 by omega) _ _) (show W.ln + 1 + 1 + 1 < 500 by omega) _ _
theorem m_feed (x : Nat) (a b c d e : Int32) : Mq x (f_X9_feed x a b c d e) (f_X10_feed (x + 106) a b c d e) := by
  refine Mq_w (fun W => if W.ln ≤ 480 then nI (W.ln + 20) else -1) (fun W => if W.ln ≤ 480 then fd20 W a b c d e else W) (fun m W D h => ?_) (fun m W h => ?_)
  · have hl := h.T.lnle
    by_cases k : W.ln ≤ 480
    · have k1 : nI W.ln ≤ 480 := nI_le (b := 480) k (by decide)
      obtain ⟨n1, e1, t1, o1⟩ := c_putBytes h.T (by omega) a
      obtain ⟨n2, e2, t2, o2⟩ := c_putBytes t1 (by simp only [fd4_ln]; omega) b
      obtain ⟨n3, e3, t3, o3⟩ := c_putBytes t2 (by simp only [fd4_ln]; omega) c
      obtain ⟨n4, e4, t4, o4⟩ := c_putBytes t3 (by simp only [fd4_ln]; omega) d
      obtain ⟨n5, e5, t5, o5⟩ := c_putBytes t4 (by simp only [fd4_ln]; omega) e
      have q2 := o1.tr o2
      have q3 := q2.tr o3
      have q4 := q3.tr o4
      have o := q4.tr o5
      have kx := h.kx
      have nw : ∀ n, On m n (x + 1) (x + 1 + 2) → TD n (x + 1) W ∨ m.K (x + 1) = 8 → ∀ {α : Type} (K : Nat → Option α), chk (n.K x = 10) (ck n (n.R 1000 x 0) 8 K) = K (x + 1) := fun n on _ {α} K => by
        rw [on.1, on.2.2.2.1, chk_t kx]
        exact ck_e h.1.1.2.1 (by rw [on.1]; exact h.T.K)
      rw [if_pos k, if_pos k]
      refine ⟨n5, ?_, o.g (by omega) (by omega), o.ag (by omega), o.ar (by omega), t5, ((((h.V.fd4 _).fd4 _).fd4 _).fd4 _).fd4 _⟩
      simp only [g_X9_feed_0, f_X9_feed, chk_t h.kx, h.now, h.T.ln, if_pos k1, e1, e2, e3, e4, e5, chk_t, ck_sI, ck_sR, ck_sJ, cal_s, bnd_e, ifn_s, ifn_n, nw n1 o1 (.inr h.T.K), nw n2 q2 (.inr h.T.K), nw n3 q3 (.inr h.T.K), nw n4 q4 (.inr h.T.K), nw n5 o (.inr h.T.K)]
      rw [t5.ln]
      simp only [fd4_ln]
    · have k1 : ¬ nI W.ln ≤ 480 := fun q => by have := (nI_leI (b := 480) (by omega) (by decide)).mp q; omega
      rw [if_neg k, if_neg k]
      exact ⟨m, by simp only [g_X9_feed_0, f_X9_feed, chk_t h.kx, h.now, h.T.ln, if_neg k1], Gq.rf x m, Ag.rf _ _ _, (Fq.rf x m).ar, h.T, h.V⟩
  · have hl := h.lnle
    have g := h.code
    have fc := gq_code x m
    have ac := ag_code x m
    simp only [f_X10_feed, g_X10_feed_0, chk_t h.M.1, bnd_e]
    generalize m.sI 1100 (x + 106) 0 0 = m1 at g fc ac ⊢
    have e0 : m1.I 22 (x + 106 + 2) (Int32.toNatClampNeg 0) = nI W.ln := g.R.2.1
    have e20 : nI W.ln + 20 = nI (W.ln + 20) := nI_add W.ln 20
    simp only [g.M.c1102, g.M.n1102, chk_t (show inb 0 4 = true by decide), e0, e20]
    by_cases k : W.ln ≤ 480
    · have k1 : nI (W.ln + 20) ≤ 500 := nI_le (b := 500) (by omega) (by decide)
      obtain ⟨n1, e1, t1, o1⟩ := r_four g (by omega) a
      obtain ⟨n2, e2, t2, o2⟩ := r_four t1 (by simp only [fd4_ln]; omega) b
      obtain ⟨n3, e3, t3, o3⟩ := r_four t2 (by simp only [fd4_ln]; omega) c
      obtain ⟨n4, e4, t4, o4⟩ := r_four t3 (by simp only [fd4_ln]; omega) d
      obtain ⟨n5, e5, t5, o5⟩ := r_four t4 (by simp only [fd4_ln]; omega) e
      rw [if_pos k, if_pos k]
      have e9 : n5.I 22 (x + 106 + 2) (Int32.toNatClampNeg 0) = nI (W.ln + 20) := by
        have q := t5.R.2.1
        simp only [fd4_ln] at q
        exact q
      refine ⟨n5, ?_, ((((fc.tr o1.1).tr o2.1).tr o3.1).tr o4.1).tr o5.1, ((((ac.tr o1.2).tr o2.2).tr o3.2).tr o4.2).tr o5.2, t5.R⟩
      simp only [if_pos k1, e1, e2, e3, e4, e5, chk_t, ck_sI, ck_sR, ck_sJ, cal_s, bnd_e, ifn_s, ifn_n, chk_t t1.M.1, chk_t t2.M.1, chk_t t3.M.1, chk_t t4.M.1, chk_t t5.M.1, t5.M.c1102, t5.M.n1102, chk_t (show inb 0 4 = true by decide), e9]
    · have k1 : ¬ nI (W.ln + 20) ≤ 500 := fun q => by have := (nI_leI (b := 500) (by omega) (by decide)).mp q; omega
      rw [if_neg k, if_neg k]
      exact ⟨m1, by simp only [if_neg k1], fc, ac, g.R⟩
