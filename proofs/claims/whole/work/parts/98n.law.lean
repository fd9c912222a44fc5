/-! a town is read; a law's lines: the class -/
section CBeg
variable {X : Tx} {x : Nat} {m : MM} {p E : Nat}
/-- what stands before a text is read -/
def C0 (X : Tx) (x : Nat) (m : MM) : Prop := Sh m x ∧ m.K (x + 2) = 21 ∧ m.N (x + 2) = 500 ∧ (∀ j, j < 500 → m.I 21 (x + 2) j &&& 255 = nI (X.1 j)) ∧ X.2 ≤ 500 ∧ ∀ j, X.1 j < 256
theorem c_begin (h : C0 X x m) {z : Int32} (hz : z = nI X.2) : ∃ n, f_X4_begin (x + 60) (some (x + 2)) z m = some ((), n) ∧ Cs x 505 512 (m.sR 504 (x + 60) 0 (some (x + 2))) n ∧ CC X x n 0 0 := by
  subst hz
  obtain ⟨⟨_, ⟨b1, b2, b3, b4, b5, b6, b7, b8, b9⟩, _⟩, h1, h2, h3, h4, h5⟩ := h
  unfold f_X4_begin g_X4_begin_0
  rw [chk_t b1, bnd_e, bnd_e, bnd_e, bnd_e, bnd_e]
  obtain ⟨m5, hm5⟩ : ∃ q, q = ((((m.sR 504 (x + 60) 0 (some (x + 2))).sI 505 (x + 60) 0 (nI X.2)).sI 506 (x + 60) 0 0).sI 510 (x + 60) 0 0).sI 511 (x + 60) 0 (-1) := ⟨_, rfl⟩
  have o : Cs x 505 512 (m.sR 504 (x + 60) 0 (some (x + 2))) m5 := by
    rw [hm5]
    exact ((((Cs.rf x _ _ _).sI _ _ (by omega) (by omega)).sI _ _ (by omega) (by omega)).sI _ _ (by omega) (by omega)).sI _ _ (by omega) (by omega)
  have rR : ∀ f v, f ≠ 504 → m.R f (x + 60) 0 = v → m5.R f (x + 60) 0 = v := fun f v hf hv => by rw [o.1.2.2.2.1, R_sR, if_neg (by omega)]; exact hv
  have B : CB X x m5 := by
    refine ⟨by rw [o.1.1]; exact b1, rR _ _ (by omega) b2, rR _ _ (by omega) b3, rR _ _ (by omega) b4, rR _ _ (by omega) b5, by rw [o.1.2.2.2.1, R_sR, if_pos ⟨rfl, rfl, rfl⟩], by rw [o.1.1]; exact b6, by rw [o.1.2.1]; exact b7, by rw [o.1.1]; exact b8, by rw [o.1.2.1]; exact b9, by rw [o.1.1]; exact h1, by rw [o.1.2.1]; exact h2, fun j hj => by rw [o.1.2.2.2.2 _ _ _ (by omega)]; exact h3 j hj, ?_, h4, h5⟩
    rw [hm5, I_sI, if_neg (by omega), I_sI, if_neg (by omega), I_sI, if_neg (by omega), I_sI, if_pos ⟨rfl, rfl, rfl⟩]
  obtain ⟨n, e1, e2, e3⟩ := c_step0 (p := 0) B (by omega) (by rw [hm5, I_sI, if_neg (by omega), I_sI, if_neg (by omega), I_sI, if_pos ⟨rfl, rfl, rfl⟩]; rfl)
  rw [← hm5, e1, cal_s]
  refine ⟨n, rfl, o.tr (e2.up (by omega) (by omega)), B.cs e2 (by omega), e3, ⟨fun _ => ⟨?_, ?_⟩, fun u => absurd rfl u⟩, by omega⟩
  · rw [e2.2 _ (by omega), hm5, I_sI, if_neg (by omega), I_sI, if_pos ⟨rfl, rfl, rfl⟩]
  · rw [e2.2 _ (by omega), hm5, I_sI, if_pos ⟨rfl, rfl, rfl⟩]
theorem c_readTown {T : TW} {B : LW} (h : C0 X x m) (hT : CT m (x + 61) T) {z : Int32} (hz : z = nI X.2) : RdC X x (m.sR 504 (x + 60) 0 (some (x + 2))) (f_X4_readTown (x + 60) (some (x + 2)) z m) (rdT X) := by
  obtain ⟨m1, e1, o1, c1⟩ := c_begin h hz
  have hT0 : CT (m.sR 504 (x + 60) 0 (some (x + 2))) (x + 61) T := hT.kept ((Ag.rf m _ _).sR _ _ _ _ (by omega))
  have hT1 := hT0.cs o1
  obtain ⟨m2, e2, o2, hT2⟩ := c_clear hT1
  have c2 := c1.on o2 (by omega) (by omega)
  have O2 : Tq (x + 60) (x + 81) (m.sR 504 (x + 60) 0 (some (x + 2))) m2 := (o1.1.up (by omega) (by omega)).tr (o2.up (by omega) (by omega))
  have A2 : Ag (m.sR 504 (x + 60) 0 (some (x + 2))) m2 (x + 76) (x + 79) := (o1.1.ag (by omega)).tr (o2.ag (by omega))
  refine RdC.pre O2 A2 ?_
  unfold f_X4_readTown g_X4_readTown_0 rdT
  rw [chk_t h.1.2.1.1, e1, cal_s, chk_t c1.1.1, ck_e c1.1.2.1 hT1.K, e2, cal_s, chk_t c2.1.1]
  rcases c_readSize c2 hT2 with ⟨m3, pl, a1, a2, a3⟩ | ⟨m3, q, a1, a2, a3, a4, a5, a6⟩
  · rw [a1, cal_s, a2]
    have k3 : m3.K (x + 60) = 5 := by rw [a3.1.1.1]; exact c2.1.1
    show RdC X x m2 (g_X4_readTown_19 (x + 60) (some (x + 2)) z (l_X4_readTown_19 (x + 60) (some (x + 2)) z (g_X4_readTown_66 (x + 60) (some (x + 2)) z) 1048575) (g_X4_readTown_66 (x + 60) (some (x + 2)) z) 1 m3) _
    unfold g_X4_readTown_19 g_X4_readTown_66
    rw [if_neg (by decide), chk_t k3, a3.2.1, if_pos rfl, chk_t k3, if_neg (by decide)]
    exact .inl ⟨m3, pl, rfl, rfl, a3.1.1, a3.1.2.sub (by omega) (by omega), a3.2.1, a3.2.2, _, hT2.kept (a3.1.2.sub (by omega) (by omega))⟩
  · rw [a1, cal_s, a2]
    exact RdC.pre a3 a4 (c_rdL 501 q 0 _ _ m3 (by omega) (by omega) a5 a6 FU (by unfold FU; omega))
end CBeg
/-! laws -/
def fmRule (X : Tx) (p : Nat) : Nat ⊕ Nat := bdT (nmT X (tkN X p) 3) (fun r => stT X (cond (wdT X r 3) (tkN X r) r))
def eRule (B : LW) (h : Nat) (v s : Nat → Nat) (E : Nat) : Nat := e2T (e2T (e2T (ncT E (decide (B.2.1 = 10)) (8 * h + 3)) (v 0) 0 5 (s 0)) (v 1) 0 5 (s 1)) (v 2) 1 12 (s 2)
def ruF (so : Int32) (v : Nat → Nat) (w : Bool) (c : Nat) : Int32 := if c = 0 then so else if c = 1 then nI (v 0) else if c = 2 then nI (v 1) else if c = 3 then nI (v 2) else cond w 1 0
def uRule (B : LW) (f : Nat → Int32) : LW := (B.1, B.2.1 + 1, fun r c => if r = B.2.1 then f c else B.2.2 r c)
def setL (B : LW) (k : Nat) (v : Int32) : LW := (fun i => if i = k then v else B.1 i, B.2)
section CLaw
variable {X : Tx} {x : Nat} {m : MM} {p E : Nat}
theorem CL.row {l : Nat} {B : LW} (h : CL m l B) (hs : B.2.1 < 10) (f : Nat → Int32) : CL ((((((m.sI 703 (l + 1) 0 (nI (B.2.1 + 1))).sI 22 (l + 1 + 1) (B.2.1 * 5 + 0) (f 0)).sI 22 (l + 1 + 1) (B.2.1 * 5 + 1) (f 1)).sI 22 (l + 1 + 1) (B.2.1 * 5 + 2) (f 2)).sI 22 (l + 1 + 1) (B.2.1 * 5 + 3) (f 3)).sI 22 (l + 1 + 1) (B.2.1 * 5 + 4) (f 4)) l (uRule B f) := by
  refine ⟨h.K, h.R, h.T.of rfl rfl rfl ?_ ?_ ?_ (by show B.2.1 + 1 ≤ 10; omega), ?_, ?_, ?_, fun r hr c hc => ?_, h.b⟩
  · rw [I_sI, if_neg (by omega), I_sI, if_neg (by omega), I_sI, if_neg (by omega), I_sI, if_neg (by omega), I_sI, if_neg (by omega), I_sI, if_neg (by omega)]
  · rw [I_sI, if_neg (by omega), I_sI, if_neg (by omega), I_sI, if_neg (by omega), I_sI, if_neg (by omega), I_sI, if_neg (by omega), I_sI, if_neg (by omega)]
  · rw [I_sI, if_neg (by omega), I_sI, if_neg (by omega), I_sI, if_neg (by omega), I_sI, if_neg (by omega), I_sI, if_neg (by omega), I_sI, if_pos ⟨rfl, rfl, rfl⟩]; rfl
  · rw [I_sI, if_neg (by omega), I_sI, if_neg (by omega), I_sI, if_neg (by omega), I_sI, if_neg (by omega), I_sI, if_neg (by omega), I_sI, if_neg (by omega)]; exact h.s0
  · rw [I_sI, if_neg (by omega), I_sI, if_neg (by omega), I_sI, if_neg (by omega), I_sI, if_neg (by omega), I_sI, if_neg (by omega), I_sI, if_neg (by omega)]; exact h.s1
  · rw [I_sI, if_neg (by omega), I_sI, if_neg (by omega), I_sI, if_neg (by omega), I_sI, if_neg (by omega), I_sI, if_neg (by omega), I_sI, if_neg (by omega)]; exact h.s2
  · show _ = if r = B.2.1 then f c else B.2.2 r c
    by_cases e : r = B.2.1
    · rw [if_pos e]
      subst e
      have : c = 0 ∨ c = 1 ∨ c = 2 ∨ c = 3 ∨ c = 4 := by omega
      rcases this with rfl | rfl | rfl | rfl | rfl
      · rw [I_sI, if_neg (by omega), I_sI, if_neg (by omega), I_sI, if_neg (by omega), I_sI, if_neg (by omega), I_sI, if_pos ⟨rfl, rfl, rfl⟩]
      · rw [I_sI, if_neg (by omega), I_sI, if_neg (by omega), I_sI, if_neg (by omega), I_sI, if_pos ⟨rfl, rfl, rfl⟩]
      · rw [I_sI, if_neg (by omega), I_sI, if_neg (by omega), I_sI, if_pos ⟨rfl, rfl, rfl⟩]
      · rw [I_sI, if_neg (by omega), I_sI, if_pos ⟨rfl, rfl, rfl⟩]
      · rw [I_sI, if_pos ⟨rfl, rfl, rfl⟩]
    · rw [if_neg e, I_sI, if_neg (by omega), I_sI, if_neg (by omega), I_sI, if_neg (by omega), I_sI, if_neg (by omega), I_sI, if_neg (by omega), I_sI, if_neg (by omega)]
      have hr' : r < B.2.1 + 1 := hr
      exact h.c r (by omega) c hc
theorem CL.set {l k : Nat} {B : LW} (h : CL m l B) (v : Int32) (hk : k < 3) (hv : k < 2 → v = 0 ∨ v = 1) : CL (m.sI (301 + k) l 0 v) l (setL B k v) := by
  have g : ∀ z, z < 3 → (m.sI (301 + k) l 0 v).I (301 + z) l 0 = if z = k then v else m.I (301 + z) l 0 := fun z hz => by
    rw [I_sI]
    by_cases c : z = k
    · rw [if_pos c, if_pos ⟨by omega, rfl, rfl⟩]
    · rw [if_neg c, if_neg (by omega)]
  refine ⟨h.K, h.R, h.T.of rfl rfl rfl (by rw [I_sI, if_neg (by omega)]) (by rw [I_sI, if_neg (by omega)]) (by rw [I_sI, if_neg (by omega)]; exact h.n.1) h.T.2.2.2.2.2.2.2.1, ?_, ?_, ?_, fun r hr c hc => by rw [I_sI, if_neg (by omega)]; exact h.c r hr c hc, ?_, ?_⟩
  · rw [g 0 (by omega), h.s0]; rfl
  · rw [g 1 (by omega), h.s1]; rfl
  · rw [g 2 (by omega), h.s2]; rfl
  · show (if 0 = k then v else B.1 0) = 0 ∨ (if 0 = k then v else B.1 0) = 1
    by_cases c : 0 = k
    · rw [if_pos c]; exact hv (by omega)
    · rw [if_neg c]; exact h.b.1
  · show (if 1 = k then v else B.1 1) = 0 ∨ (if 1 = k then v else B.1 1) = 1
    by_cases c : 1 = k
    · rw [if_pos c]; exact hv (by omega)
    · rw [if_neg c]; exact h.b.2
theorem LnL.pre {n : MM} {F : Option (Unit × MM)} {o : Nat ⊕ Nat} {e : Nat} {B : LW} (O : Cp x m n) (h : LnL X x n F o e B) : LnL X x m F o e B := by
  rcases h with ⟨n1, pl, a, b, c⟩ | ⟨n1, p', a, b, c, d, f, g⟩
  · exact .inl ⟨n1, pl, a, b, O.tr c.1, c.2⟩
  · exact .inr ⟨n1, p', a, b, O.1.tr c, (O.2.sub (by omega) (by omega)).tr d, f, g⟩
theorem LnL.un {F : Option (Unit × MM)} {o : Nat ⊕ Nat} {e : Nat} {B : LW} (h : LnL X x m F o e B) : LnL X x m (cal F (fun _ q => some ((), q))) o e B := by
  rcases h with ⟨n, pl, a, b⟩ | ⟨n, p', a, b⟩
  · rw [a, cal_s]; exact .inl ⟨n, pl, rfl, b⟩
  · rw [a, cal_s]; exact .inr ⟨n, p', rfl, b⟩
theorem c_dist29 {B : LW} {q : Nat} (w : Bool) {hd : Nat} {z so : Int32} (hz : z = nI hd) (hh : hd ≤ 500) (h : CC X x m p E) (hB : CL m (x + 76) B) (na : NS X x m q 3) : LnL X x m (g_X4_readDistance_29 (x + 60) so z (bI w) m) (stT X p) (eRule B hd (vT X q) (sT X q) E) (if eRule B hd (vT X q) (sT X q) E = 0 then uRule B (ruF so (vT X q) w) else B) := by
  unfold g_X4_readDistance_29
  rw [chk_t h.1.1]
  rcases c_stop h with ⟨n, e1, e2, e3⟩ | ⟨n, e1, e2, e3, e4, e5⟩
  · rw [e1, cal_s, if_pos rfl]
    exact .inl ⟨n, _, rfl, e2, e3⟩
  · have hB0 := hB.cs e4
    obtain ⟨n0, d1, d2, d3⟩ := c_room e5 hz hh hB0.T
    have d4 := (na.cs e4).cs d2
    obtain ⟨n1, a1, a2, a3, a4⟩ := c_ck d3 d4 (kk := 0) (i := 0) rfl (by omega) (by omega) 0 5
    obtain ⟨n2, b1, b2, b3, b4⟩ := c_ck a3 a4 (kk := 1) (i := 1) rfl (by omega) (by omega) 0 5
    obtain ⟨n3, g1, g2, g3, g4⟩ := c_ck b3 b4 (kk := 2) (i := 2) rfl (by omega) (by omega) 1 12
    have cs := ((d2.tr a2).tr b2).tr g2
    have hB3 := hB0.cs cs
    have O : Cp x m n3 := e4.cp.tr cs.cp
    rw [e1, cal_s, if_neg (by decide), chk_t e5.1.1, ck_e e5.1.2.2.1 hB0.K, hB0.R, d1, cal_s, chk_t d3.1.1, a1, cal_s, chk_t a3.1.1, b1, cal_s, chk_t b3.1.1, g1, cal_s, chk_t g3.1.1]
    by_cases z0 : eRule B hd (vT X q) (sT X q) E = 0
    · have zz : ¬ B.2.1 = 10 := by
        have := (ncT_0 (e2T_0 (e2T_0 (e2T_0 z0).1).1).1 (by omega)).2
        simpa using this
      have hl := hB3.n.2.2
      obtain ⟨s, es⟩ : ∃ s, s = B.2.1 := ⟨_, rfl⟩
      have hs : s < 10 := by omega
      have tb := hB3.T
      rw [← es] at tb
      obtain ⟨r1, r2⟩ := addRow_in tb hs
      obtain ⟨f, ef⟩ : ∃ f, f = ruF so (vT X q) w := ⟨_, rfl⟩
      have f0 : f 0 = so := by rw [ef]; rfl
      have f1 : f 1 = nI (vT X q 0) := by rw [ef]; rfl
      have f2 : f 2 = nI (vT X q 1) := by rw [ef]; rfl
      have f3 : f 3 = nI (vT X q 2) := by rw [ef]; rfl
      have f4 : f 4 = cond w 1 0 := by rw [ef]; rfl
      have P : ∀ (u : MM) (cc : Nat) (v : Int32), Tb u (x + 76 + 1) 10 5 (s + 1) → cc < 5 → f_X6_put (x + 76 + 1) (nI s) (nI cc) v u = some ((), u.sI 22 (x + 76 + 1 + 1) (s * 5 + cc) v) := fun u cc v hu hc => put_in hu (by omega) hc v
      have q0 := (Tq.rf (x + 76) (x + 79) n3).sI 703 (x + 76 + 1) 0 (nI (s + 1)) (by omega) (by omega)
      obtain ⟨m7, h7⟩ : ∃ u, u = n3.sI 703 (x + 76 + 1) 0 (nI (s + 1)) := ⟨_, rfl⟩
      rw [← h7] at r1 r2 q0
      obtain ⟨m8, h8⟩ : ∃ u, u = m7.sI 22 (x + 76 + 1 + 1) (s * 5 + 0) (f 0) := ⟨_, rfl⟩
      have q1 : Tq (x + 76) (x + 79) n3 m8 := by rw [h8]; exact q0.sI _ _ _ _ (by omega) (by omega)
      have t1 : Tb m8 (x + 76 + 1) 10 5 (s + 1) := by rw [h8]; exact r2.s22 _ _ _
      obtain ⟨m9, h9⟩ : ∃ u, u = m8.sI 22 (x + 76 + 1 + 1) (s * 5 + 1) (f 1) := ⟨_, rfl⟩
      have q2 : Tq (x + 76) (x + 79) n3 m9 := by rw [h9]; exact q1.sI _ _ _ _ (by omega) (by omega)
      have t2 : Tb m9 (x + 76 + 1) 10 5 (s + 1) := by rw [h9]; exact t1.s22 _ _ _
      obtain ⟨m10, h10⟩ : ∃ u, u = m9.sI 22 (x + 76 + 1 + 1) (s * 5 + 2) (f 2) := ⟨_, rfl⟩
      have q3 : Tq (x + 76) (x + 79) n3 m10 := by rw [h10]; exact q2.sI _ _ _ _ (by omega) (by omega)
      have t3 : Tb m10 (x + 76 + 1) 10 5 (s + 1) := by rw [h10]; exact t2.s22 _ _ _
      obtain ⟨m11, h11⟩ : ∃ u, u = m10.sI 22 (x + 76 + 1 + 1) (s * 5 + 3) (f 3) := ⟨_, rfl⟩
      have q4 : Tq (x + 76) (x + 79) n3 m11 := by rw [h11]; exact q3.sI _ _ _ _ (by omega) (by omega)
      have t4 : Tb m11 (x + 76 + 1) 10 5 (s + 1) := by rw [h11]; exact t3.s22 _ _ _
      obtain ⟨m12, h12⟩ : ∃ u, u = m11.sI 22 (x + 76 + 1 + 1) (s * 5 + 4) (f 4) := ⟨_, rfl⟩
      have q5 : Tq (x + 76) (x + 79) n3 m12 := by rw [h12]; exact q4.sI _ _ _ _ (by omega) (by omega)
      have p0 : f_X6_put (x + 76 + 1) (nI s) 0 so m7 = some ((), m8) := by rw [h8, f0]; exact P m7 0 so r2 (by omega)
      have p1 : f_X6_put (x + 76 + 1) (nI s) 1 (nI (vT X q 0)) m8 = some ((), m9) := by rw [h9, f1]; exact P m8 1 _ t1 (by omega)
      have p2 : f_X6_put (x + 76 + 1) (nI s) 2 (nI (vT X q 1)) m9 = some ((), m10) := by rw [h10, f2]; exact P m9 2 _ t2 (by omega)
      have p3 : f_X6_put (x + 76 + 1) (nI s) 3 (nI (vT X q 2)) m10 = some ((), m11) := by rw [h11, f3]; exact P m10 3 _ t3 (by omega)
      have p4 : f_X6_put (x + 76 + 1) (nI s) 4 (cond w 1 0) m11 = some ((), m12) := by rw [h12, f4]; exact P m11 4 _ t4 (by omega)
      have c7 := g3.on q0 (by omega) (by omega)
      have c8 := g3.on q1 (by omega) (by omega)
      have c9 := g3.on q2 (by omega) (by omega)
      have c10 := g3.on q3 (by omega) (by omega)
      have c11 := g3.on q4 (by omega) (by omega)
      have kB : ∀ {u : MM}, Tq (x + 76) (x + 79) n3 u → u.K (x + 76) = 3 ∧ u.R 300 (x + 76) 0 = some (x + 76 + 1) ∧ u.K (x + 76 + 1) = 7 := fun o => ⟨by rw [o.1]; exact hB3.K, by rw [o.2.2.2.1]; exact hB3.R, by rw [o.1]; exact hB3.n.2.1⟩
      have nn : ∀ {u : MM} (i : Nat), i < 3 → Tq (x + 76) (x + 79) n3 u → NA x u i (vT X q i) (sT X q i) := fun i hi o => (g4 i hi).1.on o (by omega)
      rw [if_pos (g3.f0 z0), ck_e g3.1.2.2.1 hB3.K, ck_e hB3.R hB3.n.2.1, r1, cal_s, chk_t c7.1.1, ck_e c7.1.2.2.1 (kB q0).1, ck_e (kB q0).2.1 (kB q0).2.2, p0, cal_s, chk_t c8.1.1, ck_e c8.1.2.2.1 (kB q1).1, na_n c8.1 (k := 0) (i := 0) rfl (by omega) (nn 0 (by omega) q1), cal_s, ck_e (kB q1).2.1 (kB q1).2.2, p1, cal_s, chk_t c9.1.1, ck_e c9.1.2.2.1 (kB q2).1, na_n c9.1 (k := 1) (i := 1) rfl (by omega) (nn 1 (by omega) q2), cal_s, ck_e (kB q2).2.1 (kB q2).2.2, p2, cal_s, chk_t c10.1.1, ck_e c10.1.2.2.1 (kB q3).1, na_n c10.1 (k := 2) (i := 2) rfl (by omega) (nn 2 (by omega) q3), cal_s, ck_e (kB q3).2.1 (kB q3).2.2, p3, cal_s, chk_t c11.1.1, ck_e c11.1.2.2.1 (kB q4).1, if_pos z0]
      have fin : CL m12 (x + 76) (uRule B (ruF so (vT X q) w)) := by
        rw [← ef, h12, h11, h10, h9, h8, h7, es]
        exact hB3.row (by omega) f
      have go : ∀ F, F = some ((), m12) → LnL X x m F (stT X p) (eRule B hd (vT X q) (sT X q) E) (uRule B (ruF so (vT X q) w)) := fun F hF => ll_ok e2 O hF q5 g3 fin
      unfold g_X4_readDistance_177
      cases w with
      | false =>
        rw [if_pos (show bI false = 0 by rfl)]
        refine go _ ?_
        rw [ck_e (kB q4).2.1 (kB q4).2.2]
        rw [show cond false (1 : Int32) 0 = 0 from rfl] at p4
        rw [p4, cal_s]
      | true =>
        rw [if_neg (show ¬ bI true = 0 by decide)]
        refine go _ ?_
        rw [ck_e (kB q4).2.1 (kB q4).2.2]
        rw [show cond true (1 : Int32) 0 = 1 from rfl] at p4
        rw [p4, cal_s]
    · rw [if_neg (g3.f1 z0), if_neg z0]
      exact ll_ok e2 O rfl (Tq.rf _ _ n3) g3 hB3
theorem c_readDistance {B : LW} (h : CC X x m p E) (hB : CL m (x + 76) B) {z so : Int32} {hd : Nat} (hz : z = nI hd) (hh : hd ≤ 500) : LnL X x m (f_X4_readDistance (x + 60) so z m) (fmRule X p) (eRule B hd (vT X (tkN X p)) (sT X (tkN X p)) E) (if eRule B hd (vT X (tkN X p)) (sT X (tkN X p)) E = 0 then uRule B (ruF so (vT X (tkN X p)) (wdT X (itN X (tkN X p) 3) 3)) else B) := by
  unfold f_X4_readDistance g_X4_readDistance_0
  obtain ⟨m1, e1, o1, h1⟩ := c_step h
  rw [chk_t h.1.1, e1, cal_s, chk_t h1.1.1]
  rcases c_numbers h1 (ka := 0) (kn := 3) (a := 0) (k := 3) rfl rfl (by omega) with ⟨m2, pl, e2, n2, f2⟩ | ⟨m2, e2, n2, o2, h2, v2, _⟩
  · rw [e2, cal_s, if_pos rfl]
    refine .inl ⟨m2, pl, rfl, ?_, o1.cp.tr f2.1, f2.2⟩
    unfold fmRule
    rw [n2]
    rfl
  · have N2 : NS X x m2 (tkN X p) 3 := fun i hi => ⟨by have := (v2 i hi).2; rw [Nat.zero_add] at this; exact this, (sT_le h1.2.2.2 h.l5 i).2, tkV_lt (v2 i hi).1⟩
    have hB2 : CL m2 (x + 76) B := (hB.cs o1).kept (o2.2.sub (by omega) (by omega))
    have O2 := o1.cp.tr o2
    have hfm : fmRule X p = stT X (cond (wdT X (itN X (tkN X p) 3) 3) (tkN X (itN X (tkN X p) 3)) (itN X (tkN X p) 3)) := by
      unfold fmRule
      rw [n2]
      rfl
    rw [hfm, e2, cal_s, if_neg (by decide), chk_t h2.1.1, c_isWord h2 (by omega), cal_s]
    cases hw : wdT X (itN X (tkN X p) 3) 3 with
    | false =>
      rw [if_pos (show bI false = 0 by rfl)]
      exact (c_dist29 false hz hh h2 hB2 N2).pre O2
    | true =>
      obtain ⟨m3, e3, o3, h3⟩ := c_step h2
      rw [if_neg (show ¬ bI true = 0 by decide), chk_t h2.1.1, e3, cal_s]
      exact (c_dist29 true hz hh h3 (hB2.cs o3) (N2.cs o3)).pre (O2.tr o3.cp)
def eSil (v s : Nat → Nat) (E : Nat) : Nat := e2T E (v 0) 1 99 (s 0)
theorem c_readSilence {B : LW} (h : CC X x m p E) (hB : CL m (x + 76) B) : LnL X x m (f_X4_readSilence (x + 60) m) (fmT X (tkN X p) 1) (eSil (vT X (tkN X p)) (sT X (tkN X p)) E) (if eSil (vT X (tkN X p)) (sT X (tkN X p)) E = 0 then setL B 2 (nI (vT X (tkN X p) 0)) else B) := by
  unfold f_X4_readSilence g_X4_readSilence_0
  rw [chk_t h.1.1]
  refine c_formE (k := 1) (P := fun F => LnL X x m F _ _ _) h rfl (by omega) (fun n pl e f => .inl ⟨n, pl, rfl, e, f⟩) (fun n e o c na => ?_)
  have hB0 : CL n (x + 76) B := hB.kept (o.2.sub (by omega) (by omega))
  obtain ⟨n1, a1, a2, a3, a4⟩ := c_ck c na (kk := 0) (i := 0) rfl (by omega) (by omega) 1 99
  have hB1 := hB0.cs a2
  rw [a1, cal_s, chk_t a3.1.1]
  by_cases z : eSil (vT X (tkN X p)) (sT X (tkN X p)) E = 0
  · rw [if_pos (a3.f0 z), na_n a3.1 (k := 0) (i := 0) rfl (by omega) (a4 0 (by omega)).1, cal_s, ck_e a3.1.2.2.1 hB1.K, bnd_e, if_pos z]
    exact ll_ok e (o.tr a2.cp) rfl ((Tq.rf _ _ n1).sI _ _ _ _ (by omega) (by omega)) a3 (hB1.set (k := 2) _ (by omega) (by omega))
  · rw [if_neg (a3.f1 z), if_neg z]
    exact ll_ok e (o.tr a2.cp) rfl (Tq.rf _ _ n1) a3 hB1
def soT (X : Tx) (p : Nat) : Int32 := cond (wdT X p 13) 0 (cond (wdT X p 5) 1 (cond (wdT X p 14) 2 (cond (wdT X p 15) 3 (-1))))
theorem c_wordSort (h : CC X x m p E) : f_X4_wordSort (x + 60) m = some (soT X p, m) := by
  unfold f_X4_wordSort g_X4_wordSort_0 soT
  rw [chk_t h.1.1, c_isWord h (by omega), cal_s]
  cases wdT X p 13 with
  | true => rfl
  | false =>
    rw [if_pos (show bI false = 0 by rfl), chk_t h.1.1, c_isWord h (by omega), cal_s]
    cases wdT X p 5 with
    | true => rfl
    | false =>
      rw [if_pos (show bI false = 0 by rfl), chk_t h.1.1, c_isWord h (by omega), cal_s]
      cases wdT X p 14 with
      | true => rfl
      | false =>
        rw [if_pos (show bI false = 0 by rfl), chk_t h.1.1, c_isWord h (by omega), cal_s]
        cases wdT X p 15 <;> rfl
def lfL (X : Tx) (p : Nat) : Nat ⊕ Nat := if soT X p = -1 then cond (wdT X p 16) (stT X (tkN X p)) (cond (wdT X p 17) (stT X (tkN X p)) (cond (wdT X p 9) (stT X (tkN X p)) (cond (wdT X p 18) (fmT X (tkN X p) 1) (.inl (tkS X p))))) else fmRule X p
def leL (X : Tx) (p : Nat) (B : LW) (E : Nat) : Nat := if soT X p = -1 then cond (wdT X p 16) E (cond (wdT X p 17) E (cond (wdT X p 9) E (cond (wdT X p 18) (eSil (vT X (tkN X p)) (sT X (tkN X p)) E) E))) else eRule B (tkS X p) (vT X (tkN X p)) (sT X (tkN X p)) E
def luL (X : Tx) (p : Nat) (B : LW) (e : Nat) : LW := if soT X p = -1 then cond (wdT X p 16) (setL B 0 (bI (wdT X p 17))) (cond (wdT X p 17) (setL B 0 (bI (wdT X p 17))) (cond (wdT X p 9) (setL B 1 1) (cond (wdT X p 18) (if e = 0 then setL B 2 (nI (vT X (tkN X p) 0)) else B) B))) else if e = 0 then uRule B (ruF (soT X p) (vT X (tkN X p)) (wdT X (itN X (tkN X p) 3) 3)) else B
theorem c_rule42 {B : LW} (h : CC X x m p E) (hB : CL m (x + 76) B) : LnL X x m (g_X4_readRule_42 (x + 60) m) (stT X (tkN X p)) E (setL B 0 (bI (wdT X p 17))) := by
  unfold g_X4_readRule_42 g_X4_readRule_68
  obtain ⟨m1, e1, o1, h1⟩ := c_step h
  rw [chk_t h.1.1, c_isWord h (by omega), cal_s, chk_t h.1.1, e1, cal_s, chk_t h1.1.1]
  rcases c_stop h1 with ⟨m2, e2, s2, f2⟩ | ⟨m2, e2, s2, k2, o2, h2⟩
  · rw [e2, cal_s, if_pos rfl]
    exact .inl ⟨m2, _, rfl, s2, o1.cp.tr f2.1, f2.2⟩
  · have hB2 := (hB.cs o1).cs o2
    rw [e2, cal_s, if_neg (by decide), chk_t h2.1.1, ck_e h2.1.2.2.1 hB2.K, chk_t (bI_01 _), bnd_e]
    exact ll_ok s2 (o1.cp.tr o2.cp) rfl ((Tq.rf _ _ m2).sI _ _ _ _ (by omega) (by omega)) h2 (hB2.set (k := 0) _ (by omega) (fun _ => bI_01 _))
theorem c_readRule {B : LW} (h : CC X x m p E) (hB : CL m (x + 76) B) : LnL X x m (f_X4_readRule (x + 60) m) (lfL X p) (leL X p B E) (luL X p B (leL X p B E)) := by
  have hh : tkS X p ≤ 500 := by have := tkS_le h.2.2.2; have := h.l5; omega
  unfold f_X4_readRule g_X4_readRule_0 lfL luL leL
  rw [chk_t h.1.1, bnd_e, h.2.1.2.1, c_wordSort h, cal_s]
  by_cases s0 : soT X p = -1
  · rw [if_pos s0, if_pos s0, if_pos s0, if_pos s0, chk_t h.1.1, c_isWord h (by omega), cal_s]
    cases h16 : wdT X p 16 with
    | true =>
      rw [if_neg (show ¬ bI true = 0 by decide)]
      exact c_rule42 h hB
    | false =>
      rw [if_pos (show bI false = 0 by rfl), chk_t h.1.1, c_isWord h (by omega), cal_s]
      cases h17 : wdT X p 17 with
      | true =>
        rw [if_neg (show ¬ bI true = 0 by decide)]
        have := c_rule42 h hB
        rw [h17] at this
        exact this
      | false =>
        rw [if_pos (show bI false = 0 by rfl), chk_t h.1.1, c_isWord h (by omega), cal_s]
        cases h9 : wdT X p 9 with
        | true =>
          obtain ⟨m1, e1, o1, h1⟩ := c_step h
          rw [if_neg (show ¬ bI true = 0 by decide), chk_t h.1.1, e1, cal_s, chk_t h1.1.1]
          rcases c_stop h1 with ⟨m2, e2, s2, f2⟩ | ⟨m2, e2, s2, k2, o2, h2⟩
          · rw [e2, cal_s, if_pos rfl]
            exact .inl ⟨m2, _, rfl, s2, o1.cp.tr f2.1, f2.2⟩
          · have hB2 := (hB.cs o1).cs o2
            rw [e2, cal_s, if_neg (by decide), chk_t h2.1.1, ck_e h2.1.2.2.1 hB2.K, bnd_e]
            exact ll_ok s2 (o1.cp.tr o2.cp) rfl ((Tq.rf _ _ m2).sI _ _ _ _ (by omega) (by omega)) h2 (hB2.set (k := 1) _ (by omega) (fun _ => .inr rfl))
        | false =>
          rw [if_pos (show bI false = 0 by rfl), chk_t h.1.1, c_isWord h (by omega), cal_s]
          cases h18 : wdT X p 18 with
          | true =>
            rw [if_neg (show ¬ bI true = 0 by decide), chk_t h.1.1]
            exact (c_readSilence h hB).un
          | false =>
            obtain ⟨n, b1, b2⟩ := c_break h
            rw [if_pos (show bI false = 0 by rfl), chk_t h.1.1, b1, cal_s]
            exact .inl ⟨n, _, rfl, rfl, b2⟩
  · rw [if_neg s0, if_neg s0, if_neg s0, if_neg s0, chk_t h.1.1]
    exact (c_readDistance h hB rfl hh).un
def rdR (X : Tx) : Nat → Nat → Nat → LW → Nat ⊕ (Nat × LW)
  | 0, _, E, B => .inr (E, B)
  | k + 1, p, E, B => if tkK X p = 0 then .inr (E, B) else match lfL X p with
    | .inl pl => .inl pl
    | .inr q => rdR X k q (leL X p B E) (luL X p B (leL X p B E))
/-- a law of which nothing is told yet -/
def BC : LW := (fun i => if i = 2 then -1 else 0, 0, fun _ _ => 0)
def rdW (X : Tx) : Nat ⊕ (Nat × LW) := rdR X 501 0 0 BC
theorem lfL_gt {q : Nat} (h : lfL X p = .inr q) : p < q ∧ (p ≤ X.2 → q ≤ X.2) := by
  have hN := tkN_ge' X p
  have key : stT X (tkN X p) = .inr q → p < q ∧ (p ≤ X.2 → q ≤ X.2) := fun g => by
    obtain ⟨a, b⟩ := stT_gt g
    exact ⟨by omega, fun u => b (tkN_le u)⟩
  unfold lfL at h
  by_cases s0 : soT X p = -1
  · rw [if_pos s0] at h
    cases h16 : wdT X p 16 with
    | true => rw [h16] at h; exact key h
    | false =>
      rw [h16] at h
      cases h17 : wdT X p 17 with
      | true => rw [h17] at h; exact key h
      | false =>
        rw [h17] at h
        cases h9 : wdT X p 9 with
        | true => rw [h9] at h; exact key h
        | false =>
          rw [h9] at h
          cases h18 : wdT X p 18 with
          | true =>
            rw [h18] at h
            obtain ⟨a, b⟩ := fmT_gt h
            exact ⟨by omega, fun u => b (tkN_le u)⟩
          | false => rw [h18] at h; cases h
  · rw [if_neg s0] at h
    obtain ⟨r, g1, g2⟩ := bdT_r h
    obtain ⟨a1, a2⟩ := nmT_ge g1
    obtain ⟨b1, b2⟩ := stT_gt g2
    have := tkN_ge' X r
    cases hw : wdT X r 3 with
    | true =>
      rw [hw] at b1 b2
      have b1' : tkN X r < q := b1
      exact ⟨by omega, fun u => b2 (tkN_le (a2 (tkN_le u)))⟩
    | false =>
      rw [hw] at b1 b2
      have b1' : r < q := b1
      exact ⟨by omega, fun u => b2 (a2 (tkN_le u))⟩
def RdW (X : Tx) (x : Nat) (m : MM) (F : Option (Int32 × MM)) (o : Nat ⊕ (Nat × LW)) : Prop := (∃ n pl, F = some (0, n) ∧ o = .inl pl ∧ Tq (x + 60) (x + 81) m n ∧ Ag m n (x + 61) (x + 76) ∧ n.I 510 (x + 60) 0 = 1 ∧ n.I 511 (x + 60) 0 = nI pl ∧ ∃ B, CL n (x + 76) B) ∨ ∃ n E B, F = some (bI (decide (E = 0)), n) ∧ o = .inr (E, B) ∧ Tq (x + 60) (x + 81) m n ∧ Ag m n (x + 61) (x + 76) ∧ FC n x E ∧ CL n (x + 76) B
theorem RdW.pre {n : MM} {F : Option (Int32 × MM)} {o : Nat ⊕ (Nat × LW)} (h1 : Tq (x + 60) (x + 81) m n) (h2 : Ag m n (x + 61) (x + 76)) (h : RdW X x n F o) : RdW X x m F o := by
  rcases h with ⟨a, pl, b1, b2, b3, b4, b5⟩ | ⟨a, E, T, b1, b2, b3, b4, b5⟩
  · exact .inl ⟨a, pl, b1, b2, h1.tr b3, h2.tr b4, b5⟩
  · exact .inr ⟨a, E, T, b1, b2, h1.tr b3, h2.tr b4, b5⟩
theorem c_end47 {B : LW} {P1 : Option Nat} {P2 : Int32} (h : CC X x m p E) (hB : CL m (x + 76) B) : RdW X x m (g_X4_readLaw_47 (x + 60) P1 P2 m) (.inr (E, B)) := by
  unfold g_X4_readLaw_47
  rw [chk_t h.1.1]
  by_cases z : E = 0
  · rw [if_pos (h.f0 z)]
    exact .inr ⟨m, E, B, by rw [decide_eq_true z]; rfl, rfl, Tq.rf _ _ m, Ag.rf _ _ _, h.2.2.1, hB⟩
  · rw [if_neg (h.f1 z)]
    exact .inr ⟨m, E, B, by rw [decide_eq_false z]; rfl, rfl, Tq.rf _ _ m, Ag.rf _ _ _, h.2.2.1, hB⟩
theorem c_rdR {P1 : Option Nat} {P2 : Int32} : ∀ (k p n E : Nat) (B : LW) (m : MM), n + k = 501 → n ≤ p → CC X x m p E → CL m (x + 76) B → ∀ f, k < f → RdW X x m (l_X4_readLaw_15 (x + 60) P1 P2 (g_X4_readLaw_47 (x + 60) P1 P2) f (nI (n + 1)) m) (rdR X k p E B) := by
  intro k
  induction k with
  | zero => intro p n E T m h1 h2 c; have := c.2.2.2; have := c.l5; omega
  | succ k ih =>
    intro p n E B m h1 h2 c hB f hf
    obtain ⟨f, rfl⟩ : ∃ q, f = q + 1 := ⟨f - 1, by omega⟩
    have l5 := c.l5
    have pl := c.2.2.2
    show RdW X x m (g_X4_readLaw_15 (x + 60) P1 P2 (l_X4_readLaw_15 (x + 60) P1 P2 (g_X4_readLaw_47 (x + 60) P1 P2) f) (g_X4_readLaw_47 (x + 60) P1 P2) (nI (n + 1)) m) (rdR X (k + 1) p E B)
    unfold g_X4_readLaw_15
    have n1 : ¬ m.I 510 (x + 60) 0 = 1 := by
      by_cases z : E = 0
      · rw [c.f0 z]; decide
      · obtain ⟨a, _, b, d⟩ := c.2.2.1.2 z
        rw [a]
        exact nl (k := 1) rfl (by omega) (by omega) (by omega)
    by_cases e0 : tkK X p = 0
    · have er : rdR X (k + 1) p E B = .inr (E, B) := by unfold rdR; rw [if_pos e0]
      rw [er]
      by_cases e5 : (500 : Int32) < nI (n + 1)
      · rw [if_pos e5]; exact c_end47 c hB
      · rw [if_neg e5, chk_t c.1.1, if_neg n1, c.2.1.1, e0, if_pos (show nI 0 = 0 from rfl)]
        exact c_end47 c hB
    · have hlt := tkS_lt e0
      have hge := tkS_ge X p
      have kl := tkK_lt X p
      have hn : n < 500 := by omega
      rw [if_neg (show ¬ (500 : Int32) < nI (n + 1) from nI_nlt (a := 500) (by omega) (by omega)), chk_t c.1.1, if_neg n1, c.2.1.1, if_neg (nl (v := 0) (k := 0) rfl e0 (by omega) (by omega))]
      unfold rdR
      rw [if_neg e0]
      rcases c_readRule c hB with ⟨m2, pl, a1, a2, a3⟩ | ⟨m2, q, a1, a2, a3, a4, a5, a6⟩
      · rw [a1, cal_s, a2]
        obtain ⟨f, rfl⟩ : ∃ q, f = q + 1 := ⟨f - 1, by omega⟩
        show RdW X x m (g_X4_readLaw_15 (x + 60) P1 P2 (l_X4_readLaw_15 (x + 60) P1 P2 (g_X4_readLaw_47 (x + 60) P1 P2) f) (g_X4_readLaw_47 (x + 60) P1 P2) (nI (n + 1) + 1) m2) _
        unfold g_X4_readLaw_15 g_X4_readLaw_47
        have k2 : m2.K (x + 60) = 5 := by rw [a3.1.1.1]; exact c.1.1
        have fin : RdW X x m (some (0, m2)) (.inl pl) := .inl ⟨m2, pl, rfl, rfl, a3.1.1, a3.1.2.sub (by omega) (by omega), a3.2.1, a3.2.2, B, hB.kept (a3.1.2.sub (by omega) (by omega))⟩
        by_cases e5 : (500 : Int32) < nI (n + 1) + 1
        · rw [if_pos e5, chk_t k2, a3.2.1, if_neg (by decide)]; exact fin
        · rw [if_neg e5, chk_t k2, a3.2.1, if_pos rfl, chk_t k2, if_neg (by decide)]; exact fin
      · rw [a1, cal_s, a2, nI_1]
        have hq := (lfL_gt a2).1
        exact RdW.pre a3 a4 (ih q (n + 1) _ _ m2 (by omega) (by omega) a5 a6 f (by omega))
theorem c_clearL {l : Nat} {B : LW} (h : CL m l B) : ∃ n, f_X2_clear l m = some ((), n) ∧ Tq l (l + 3) m n ∧ CL n l BC := by
  unfold f_X2_clear g_X2_clear_0
  rw [chk_t h.K, h.kr, bnd_e, bnd_e, bnd_e, bnd_e]
  refine ⟨_, rfl, ((((Tq.rf _ _ m).sI _ _ _ _ (by omega) (by omega)).sI _ _ _ _ (by omega) (by omega)).sI _ _ _ _ (by omega) (by omega)).sI _ _ _ _ (by omega) (by omega), h.K, h.R, h.T.of rfl rfl rfl ?_ ?_ ?_ (by show 0 ≤ 10; omega), ?_, ?_, ?_, fun r hr => absurd hr (Nat.not_lt_zero r), .inl rfl, .inl rfl⟩
  · rw [I_sI, if_neg (by omega), I_sI, if_neg (by omega), I_sI, if_neg (by omega), I_sI, if_neg (by omega)]
  · rw [I_sI, if_neg (by omega), I_sI, if_neg (by omega), I_sI, if_neg (by omega), I_sI, if_neg (by omega)]
  · rw [I_sI, if_neg (by omega), I_sI, if_neg (by omega), I_sI, if_neg (by omega), I_sI, if_pos ⟨rfl, rfl, rfl⟩]; rfl
  · rw [I_sI, if_neg (by omega), I_sI, if_neg (by omega), I_sI, if_pos ⟨rfl, rfl, rfl⟩]; rfl
  · rw [I_sI, if_neg (by omega), I_sI, if_pos ⟨rfl, rfl, rfl⟩]; rfl
  · rw [I_sI, if_pos ⟨rfl, rfl, rfl⟩]; rfl
theorem c_readLaw {B : LW} (h : C0 X x m) (hB : CL m (x + 76) B) {z : Int32} (hz : z = nI X.2) : RdW X x (m.sR 504 (x + 60) 0 (some (x + 2))) (f_X4_readLaw (x + 60) (some (x + 2)) z m) (rdW X) := by
  obtain ⟨m1, e1, o1, c1⟩ := c_begin h hz
  have hB0 : CL (m.sR 504 (x + 60) 0 (some (x + 2))) (x + 76) B := hB.kept ((Ag.rf m _ _).sR _ _ _ _ (by omega))
  have hB1 := hB0.cs o1
  obtain ⟨m2, e2, o2, hB2⟩ := c_clearL hB1
  have c2 := c1.on o2 (by omega) (by omega)
  have O2 : Tq (x + 60) (x + 81) (m.sR 504 (x + 60) 0 (some (x + 2))) m2 := (o1.1.up (by omega) (by omega)).tr (o2.up (by omega) (by omega))
  have A2 : Ag (m.sR 504 (x + 60) 0 (some (x + 2))) m2 (x + 61) (x + 76) := (o1.1.ag (by omega)).tr (o2.ag (by omega))
  refine RdW.pre O2 A2 ?_
  unfold f_X4_readLaw g_X4_readLaw_0 rdW
  rw [chk_t h.1.2.1.1, e1, cal_s, chk_t c1.1.1, ck_e c1.1.2.2.1 hB1.K, e2, cal_s]
  exact c_rdR 501 0 0 0 BC m2 (by omega) (by omega) c2 hB2 FU (by unfold FU; omega)
end CLaw
