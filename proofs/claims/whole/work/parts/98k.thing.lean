/-! things, slopes, sizes: the class -/
def tkB (T : TW) (a b : Int32) : Bool := (List.range (T.2.1 0)).any (thAt T a b)
def eThA (T : TW) (h : Nat) (v s : Nat → Nat) (E : Nat) : Nat := e2T (e2T (e2T (e2T (e2T (ncT E (decide (T.2.1 0 = 12)) (8 * h + 3)) (v 0) 0 5 (s 0)) (v 1) 0 (T.1 0 - 1) (s 1)) (v 2) 0 (T.1 1 - 1) (s 2)) (v 3) 0 7 (s 3)) (v 4) 0 999 (s 4)
def eThing (T : TW) (h : Nat) (v s : Nat → Nat) (fc : Bool) (v5 s5 E : Nat) : Nat := ncT (ncT (eThA T h v s E) (fc && !inR (nI v5) 0 3) (8 * s5 + 2)) (tkB T (nI (v 1)) (nI (v 2))) (8 * s 1 + 4)
def uThing (T : TW) (v : Nat → Nat) (fc : Bool) (v5 : Nat) : TW := addR T 0 (thF (nI (v 0)) (nI (v 1)) (nI (v 2)) (nI (v 3)) (nI (v 4)) (cond fc (nI v5) (-1)))
def fmThing (X : Tx) (p : Nat) : Nat ⊕ Nat := bdT (nmT X (tkN X p) 5) (fun r => cond (wdT X r 2) (bdT (nmT X (tkN X r) 1) (stT X)) (stT X r))
section CThing
variable {X : Tx} {x : Nat} {m : MM} {p E : Nat}
theorem eThA_0 {T : TW} {h : Nat} {v s : Nat → Nat} (z : eThA T h v s E = 0) : E = 0 ∧ T.2.1 0 ≠ 12 := by
  obtain ⟨a, b⟩ := ncT_0 (e2T_0 (e2T_0 (e2T_0 (e2T_0 (e2T_0 z).1).1).1).1).1 (by omega)
  exact ⟨a, by simpa using b⟩
theorem fill_n {t z : Nat} {T : TW} (c : CT m t T) (b0 : Tb m (t + 1) 12 8 (z + 1)) (k a b : Int32) : f_X8_fillThing t (nI z) k a b m = some ((), ((m.sI 22 (t + 1 + 1) (z * 8 + 0) k).sI 22 (t + 1 + 1) (z * 8 + 1) a).sI 22 (t + 1 + 1) (z * 8 + 2) b) := by
  have p : ∀ (q : MM) (cc : Nat) (v : Int32), Tb q (t + 1) 12 8 (z + 1) → cc < 8 → f_X6_put (t + 1) (nI z) (nI cc) v q = some ((), q.sI 22 (t + 1 + 1) (z * 8 + cc) v) := fun q cc v hq hc => put_in hq (by omega) hc v
  have b1 := b0.s22 (t + 1 + 1) (z * 8 + 0) k
  have b2 := b1.s22 (t + 1 + 1) (z * 8 + 1) a
  simp only [g_X8_fillThing_0, f_X8_fillThing, K_sI, R_sI, chk_t c.K, c.k0, chk_t, ck_sI, ck_sR, ck_sJ, cal_s, bnd_e, ifn_s, ifn_n, show f_X6_put (t + 1) (nI z) 0 k _ = _ from p _ 0 k b0 (by omega), show f_X6_put (t + 1) (nI z) 1 a _ = _ from p _ 1 a b1 (by omega), show f_X6_put (t + 1) (nI z) 2 b _ = _ from p _ 2 b b2 (by omega)]
theorem c_addTh {t : Nat} {T : TW} (c : CT m t T) (hz : T.2.1 0 < 12) (k a b h s f : Int32) : ∃ n1 n2 n, f_X6_addRow (t + 1) m = some (nI (T.2.1 0), n1) ∧ Tq t (t + 15) m n1 ∧ f_X8_fillThing t (nI (T.2.1 0)) k a b n1 = some ((), n2) ∧ Tq t (t + 15) m n2 ∧ f_X8_fillRest t (nI (T.2.1 0)) h s f n2 = some ((), n) ∧ CT n t (addR T 0 (thF k a b h s f)) ∧ Tq t (t + 15) m n := by
  obtain ⟨n1, n2, n, e1, _, e2, _, e3, e4, e5⟩ := c_addThing c hz k a b h s f
  obtain ⟨a1, a2⟩ := addRow_in c.T0 hz
  have q1 : m.sI 703 (t + 1) 0 (nI (T.2.1 0 + 1)) = n1 := by
    have := a1.symm.trans e1
    injection this with this
    injection this
  rw [← q1] at e2
  have c1 : CT (m.sI 703 (t + 1) 0 (nI (T.2.1 0 + 1))) t (addR T 0 (fun c => m.I 22 (t + 2) (T.2.1 0 * 8 + c))) := by
    unfold addR
    refine c.tab0 rfl rfl rfl (fun s a i h1 h2 h3 h4 => by rw [I_sI, if_neg (by omega)]) (by rw [I_sI, if_pos ⟨rfl, rfl, rfl⟩]) (by omega) (fun r hr q hq => ?_)
    rw [I_sI, if_neg (by omega)]
    by_cases u : r = T.2.1 0
    · rw [if_pos u, u]
    · rw [if_neg u]; exact c.c0 r (by omega) q hq
  have q2 := (fill_n c1 a2 k a b).symm.trans e2
  have q3 := (Prod.mk.inj (Option.some.inj q2)).2
  refine ⟨n1, n2, n, e1, ?_, by rw [← q1]; exact e2, ?_, e3, e4, ⟨e5.1, e5.2.1, e5.2.2.1, e5.2.2.2.1, e5.2.2.2.2.2⟩⟩
  · rw [← q1]; exact (Tq.rf _ _ m).sI _ _ _ _ (by omega) (by omega)
  · rw [← q3]; exact ((((Tq.rf _ _ m).sI _ _ _ _ (by omega) (by omega)).sI _ _ _ _ (by omega) (by omega)).sI _ _ _ _ (by omega) (by omega)).sI _ _ _ _ (by omega) (by omega)
theorem NA.on {n : MM} {lo hi i v q : Nat} (h : NA x m i v q) (o : Tq lo hi m n) (h2 : hi ≤ x + 79) : NA x n i v q := ⟨(o.2.2.2.2 _ _ _ (by omega)).trans h.1, (o.2.2.2.2 _ _ _ (by omega)).trans h.2⟩
/-- the row of a thing is written, if there was no fault -/
theorem c_thing130 {T : TW} {q : Nat} (fc : Bool) {v5 s5 : Nat} {z : Int32} (h : CC X x m p E) (hT : CT m (x + 61) T) (na : NS X x m q 5) (n5 : fc = true → NA x m 5 v5 s5) (hz : E = 0 → T.2.1 0 ≠ 12) : ∃ n, g_X4_readThing_130 (x + 60) z (bI fc) m = some ((), n) ∧ Tq (x + 61) (x + 76) m n ∧ CT n (x + 61) (if E = 0 then uThing T (vT X q) fc v5 else T) := by
  unfold g_X4_readThing_130
  rw [chk_t h.1.1]
  by_cases z0 : E = 0
  · have hl := hT.n0.2.2
    have hne := hz z0
    obtain ⟨n1, n2, n, e1, o1, e2, o2, e3, e4, o3⟩ := c_addTh hT (show T.2.1 0 < 12 by omega) (nI (vT X q 0)) (nI (vT X q 1)) (nI (vT X q 2)) (nI (vT X q 3)) (nI (vT X q 4)) (cond fc (nI v5) (-1))
    have b1 := h.on o1 (by omega) (by omega)
    have b2 := h.on o2 (by omega) (by omega)
    have k1 : n1.K (x + 61) = 9 := by rw [o1.1]; exact hT.K
    have k2 : n2.K (x + 61) = 9 := by rw [o2.1]; exact hT.K
    have N1 : ∀ i, i < 5 → NA x n1 i (vT X q i) (sT X q i) := fun i hi => (na i hi).1.on o1 (by omega)
    have N2 : ∀ i, i < 5 → NA x n2 i (vT X q i) (sT X q i) := fun i hi => (na i hi).1.on o2 (by omega)
    rw [if_pos (h.f0 z0), ck_e h.1.2.1 hT.K, hT.k0, e1, cal_s, chk_t b1.1.1, na_n b1.1 (k := 0) (i := 0) rfl (by omega) (N1 0 (by omega)), cal_s, chk_t b1.1.1, na_n b1.1 (k := 1) (i := 1) rfl (by omega) (N1 1 (by omega)), cal_s, chk_t b1.1.1, na_n b1.1 (k := 2) (i := 2) rfl (by omega) (N1 2 (by omega)), cal_s, ck_e b1.1.2.1 k1, e2, cal_s, chk_t b2.1.1, na_n b2.1 (k := 3) (i := 3) rfl (by omega) (N2 3 (by omega)), cal_s, chk_t b2.1.1, na_n b2.1 (k := 4) (i := 4) rfl (by omega) (N2 4 (by omega)), cal_s, if_pos z0]
    refine ⟨n, ?_, o3, e4⟩
    cases fc with
    | false =>
      rw [if_pos (show bI false = 0 by rfl)]
      unfold g_X4_readThing_199
      rw [ck_e b2.1.2.1 k2]
      rw [show cond false (nI v5) (-1) = (-1 : Int32) from rfl] at e3
      rw [e3, cal_s]
    | true =>
      rw [if_neg (show ¬ bI true = 0 by decide), chk_t b2.1.1, na_n b2.1 (k := 5) (i := 5) rfl (by omega) ((n5 rfl).on o2 (by omega)), cal_s]
      unfold g_X4_readThing_199
      rw [ck_e b2.1.2.1 k2]
      rw [show cond true (nI v5) (-1) = nI v5 from rfl] at e3
      rw [e3, cal_s]
  · rw [if_neg (h.f1 z0), if_neg z0]
    exact ⟨m, rfl, Tq.rf _ _ m, hT⟩
theorem c_thing99 {T : TW} {q : Nat} (fc : Bool) {v5 s5 : Nat} {z : Int32} (h : CC X x m p E) (hT : CT m (x + 61) T) (na : NS X x m q 5) (n5 : fc = true → NA x m 5 v5 s5) (hz : E = 0 → T.2.1 0 ≠ 12) : ∃ n n2, g_X4_readThing_99 (x + 60) z (bI fc) m = some ((), n) ∧ Cs x 510 512 m n2 ∧ CC X x n2 p (ncT E (tkB T (nI (vT X q 1)) (nI (vT X q 2))) (8 * sT X q 1 + 4)) ∧ Tq (x + 61) (x + 76) n2 n ∧ CT n (x + 61) (if ncT E (tkB T (nI (vT X q 1)) (nI (vT X q 2))) (8 * sT X q 1 + 4) = 0 then uThing T (vT X q) fc v5 else T) := by
  unfold g_X4_readThing_99
  rw [chk_t h.1.1, na_n h.1 (k := 1) (i := 1) rfl (by omega) (na 1 (by omega)).1, cal_s, chk_t h.1.1, na_n h.1 (k := 2) (i := 2) rfl (by omega) (na 2 (by omega)).1, cal_s, ck_e h.1.2.1 hT.K, c_thingAt hT]
  cases ht : tkB T (nI (vT X q 1)) (nI (vT X q 2)) with
  | false =>
    rw [fnd_none ht, cal_s, if_pos rfl]
    obtain ⟨n, e1, e2, e3⟩ := c_thing130 fc (z := z) h hT na n5 hz
    exact ⟨n, m, e1, Cs.rf x _ _ m, h, e2, e3⟩
  | true =>
    obtain ⟨j, hj, ej⟩ := fnd_some (F := fun i => some (nI i, m)) (e := some (-1, m)) ht
    have hl := hT.n0.2.2
    obtain ⟨n2, j1, j2, j3⟩ := c_note h (k := 4) (z := nI (sT X q 1)) (f := 4) rfl rfl (by omega) (by omega) (na 1 (by omega)).2.1
    rw [ej, cal_s, if_neg (nI_ne_m1 (by omega)), chk_t h.1.1, na_p h.1 (k := 1) (i := 1) rfl (by omega) (na 1 (by omega)).1, cal_s, chk_t h.1.1, j1, cal_s]
    obtain ⟨n, e1, e2, e3⟩ := c_thing130 fc (z := z) j3 (hT.cs j2) (na.cs j2) (fun u => (n5 u).cs j2) (fun u => hz (ncT_0 (b := true) u (by omega)).1)
    exact ⟨n, n2, e1, j2, j3, e2, e3⟩
theorem c_thing39 {T : TW} {q : Nat} (fc : Bool) {v5 s5 hd : Nat} {z : Int32} (hz : z = nI hd) (hh : hd ≤ 500) (h : CC X x m p E) (hT : CT m (x + 61) T) (na : NS X x m q 5) (n5 : fc = true → NA x m 5 v5 s5) (hs5 : fc = true → s5 ≤ 500) : LnC X x m (g_X4_readThing_39 (x + 60) z (bI fc) m) (stT X p) (eThing T hd (vT X q) (sT X q) fc v5 s5 E) (if eThing T hd (vT X q) (sT X q) fc v5 s5 E = 0 then uThing T (vT X q) fc v5 else T) := by
  unfold g_X4_readThing_39
  rw [chk_t h.1.1]
  rcases c_stop h with ⟨n, e1, e2, e3⟩ | ⟨n, e1, e2, e3, e4, e5⟩
  · rw [e1, cal_s, if_pos rfl]
    exact .inl ⟨n, _, rfl, e2, e3⟩
  · have hT0 := hT.cs e4
    have na0 := na.cs e4
    obtain ⟨n0, d1, d2, d3⟩ := c_room e5 hz hh hT0.T0
    have d4 := na0.cs d2
    have hT1 := hT0.cs d2
    obtain ⟨n1, a1, a2, a3, a4⟩ := c_ck d3 d4 (kk := 0) (i := 0) rfl (by omega) (by omega) 0 5
    obtain ⟨n2, b1, b2, b3, b4⟩ := c_pt a3 (hT1.cs a2) a4 (kk := 1) (i := 1) rfl (by omega) (by omega)
    obtain ⟨n3, f1, f2, f3, f4⟩ := c_ck b3 b4 (kk := 3) (i := 3) rfl (by omega) (by omega) 0 7
    obtain ⟨n4, g1, g2, g3, g4⟩ := c_ck f3 f4 (kk := 4) (i := 4) rfl (by omega) (by omega) 0 999
    have cs := (((d2.tr a2).tr b2).tr f2).tr g2
    have hT4 := hT0.cs cs
    have O : Cp x m n4 := e4.cp.tr cs.cp
    rw [e1, cal_s, if_neg (by decide), chk_t e5.1.1, ck_e e5.1.2.1 hT0.K, hT0.R4, d1, cal_s, chk_t d3.1.1, a1, cal_s, chk_t a3.1.1, b1, cal_s, chk_t b3.1.1, f1, cal_s, chk_t f3.1.1, g1, cal_s]
    cases fc with
    | false =>
      rw [if_pos (show bI false = 0 by rfl)]
      obtain ⟨n6, n7, w1, w2, w3, w4, w5⟩ := c_thing99 false (z := z) (v5 := v5) (s5 := s5) g3 hT4 g4 (fun u => by cases u) (fun u => (eThA_0 u).2)
      exact ln_ok e2 (O.tr w2.cp) w1 w4 w3 w5
    | true =>
      obtain ⟨n5', k1, k2, k3⟩ := c_check g3 (k := 5) (i := 5) rfl (by omega) (((n5 rfl).cs e4).cs cs) (hs5 rfl) 0 3
      rw [if_neg (show ¬ bI true = 0 by decide), chk_t g3.1.1, k1, cal_s]
      obtain ⟨n6, n7, w1, w2, w3, w4, w5⟩ := c_thing99 true (z := z) (v5 := v5) (s5 := s5) k3 (hT4.cs k2) (g4.cs k2) (fun u => (((n5 rfl).cs e4).cs cs).cs k2) (fun u => (eThA_0 (ncT_0 u (by omega)).1).2)
      exact ln_ok e2 ((O.tr k2.cp).tr w2.cp) w1 w4 w3 w5
theorem LnC.pre {n : MM} {F : Option (Unit × MM)} {o : Nat ⊕ Nat} {e : Nat} {T : TW} (O : Cp x m n) (h : LnC X x n F o e T) : LnC X x m F o e T := by
  rcases h with ⟨n1, pl, a, b, c⟩ | ⟨n1, p', a, b, c, d, f, g⟩
  · exact .inl ⟨n1, pl, a, b, O.tr c.1, c.2⟩
  · exact .inr ⟨n1, p', a, b, O.1.tr c, (O.2.sub (by omega) (by omega)).tr d, f, g⟩
theorem LnC.o {F : Option (Unit × MM)} {o o2 : Nat ⊕ Nat} {e e2 : Nat} {T T2 : TW} (h : LnC X x m F o e T) (eo : o2 = o) (ee : e2 = e) (et : T2 = T) : LnC X x m F o2 e2 T2 := by subst eo; subst ee; subst et; exact h
theorem c_readThing {T : TW} (h : CC X x m p E) (hT : CT m (x + 61) T) {z : Int32} {hd : Nat} (hz : z = nI hd) (hh : hd ≤ 500) : LnC X x m (f_X4_readThing (x + 60) z m) (fmThing X p) (eThing T hd (vT X (tkN X p)) (sT X (tkN X p)) (wdT X (itN X (tkN X p) 5) 2) (vT X (tkN X (itN X (tkN X p) 5)) 0) (sT X (tkN X (itN X (tkN X p) 5)) 0) E) (if eThing T hd (vT X (tkN X p)) (sT X (tkN X p)) (wdT X (itN X (tkN X p) 5) 2) (vT X (tkN X (itN X (tkN X p) 5)) 0) (sT X (tkN X (itN X (tkN X p) 5)) 0) E = 0 then uThing T (vT X (tkN X p)) (wdT X (itN X (tkN X p) 5) 2) (vT X (tkN X (itN X (tkN X p) 5)) 0) else T) := by
  unfold f_X4_readThing g_X4_readThing_0
  obtain ⟨m1, e1, o1, h1⟩ := c_step h
  rw [chk_t h.1.1, e1, cal_s, chk_t h1.1.1]
  have hp1 : tkN X p ≤ X.2 := h1.2.2.2
  rcases c_numbers h1 (ka := 0) (kn := 5) (a := 0) (k := 5) rfl rfl (by omega) with ⟨m2, pl, e2, n2, f2⟩ | ⟨m2, e2, n2, o2, h2, v2, _⟩
  · rw [e2, cal_s, if_pos rfl]
    refine .inl ⟨m2, pl, rfl, ?_, o1.cp.tr f2.1, f2.2⟩
    unfold fmThing
    rw [n2]
    rfl
  · have N2 : NS X x m2 (tkN X p) 5 := fun i hi => ⟨by have := (v2 i hi).2; rw [Nat.zero_add] at this; exact this, (sT_le hp1 h.l5 i).2, tkV_lt (v2 i hi).1⟩
    have hT2 : CT m2 (x + 61) T := (hT.cs o1).kept (o2.2.sub (by omega) (by omega))
    have O2 := o1.cp.tr o2
    rw [e2, cal_s, if_neg (by decide), chk_t h2.1.1, c_isWord h2 (by omega), cal_s]
    cases hw : wdT X (itN X (tkN X p) 5) 2 with
    | false =>
      rw [if_pos (show bI false = 0 by rfl)]
      refine ((c_thing39 false hz hh h2 hT2 N2 (fun u => by cases u) (fun u => by cases u)).pre O2).o ?_ rfl rfl
      unfold fmThing
      rw [n2]
      show cond (wdT X (itN X (tkN X p) 5) 2) _ _ = _
      rw [hw]
      rfl
    | true =>
      rw [if_neg (show ¬ bI true = 0 by decide), chk_t h2.1.1]
      obtain ⟨m3, e3, o3, h3⟩ := c_step h2
      rw [e3, cal_s, chk_t h3.1.1]
      have hfm : fmThing X p = bdT (nmT X (tkN X (itN X (tkN X p) 5)) 1) (stT X) := by
        unfold fmThing
        rw [n2]
        show cond (wdT X (itN X (tkN X p) 5) 2) _ _ = _
        rw [hw]
        rfl
      rcases c_numbers h3 (ka := 5) (kn := 1) (a := 5) (k := 1) rfl rfl (by omega) with ⟨m4, pl, e4, n4, f4⟩ | ⟨m4, e4, n4, o4, h4, v4, u4⟩
      · rw [e4, cal_s, if_pos rfl]
        refine .inl ⟨m4, pl, rfl, ?_, (O2.tr o3.cp).tr f4.1, f4.2⟩
        rw [hfm, n4]
        rfl
      · rw [e4, cal_s, if_neg (by decide)]
        have N4 : NS X x m4 (tkN X p) 5 := fun i hi => ⟨⟨(u4 i (by omega)).1.trans ((N2.cs o3) i hi).1.1, (u4 i (by omega)).2.trans ((N2.cs o3) i hi).1.2⟩, (N2 i hi).2⟩
        have hT4 : CT m4 (x + 61) T := (hT2.cs o3).kept (o4.2.sub (by omega) (by omega))
        refine ((c_thing39 true hz hh h4 hT4 N4 (v5 := vT X (tkN X (itN X (tkN X p) 5)) 0) (s5 := sT X (tkN X (itN X (tkN X p) 5)) 0) (fun _ => by have := (v4 0 (by omega)).2; exact this) (fun _ => (sT_le h3.2.2.2 h.l5 0).2)).pre ((O2.tr o3.cp).tr o4)).o ?_ rfl rfl
        rw [hfm, n4]
        rfl
/-! slopes -/
def sgT (X : Tx) (r : Nat) : Nat ⊕ Nat := if wdT X r 7 = true ∨ wdT X r 8 = true then .inr (tkN X r) else .inl (tkS X r)
def sgV (X : Tx) (r : Nat) : Int32 := if wdT X r 7 = true then 1 else -1
def fmSlope (X : Tx) (p : Nat) : Nat ⊕ Nat := bdT (sgT X (tkN X p)) (fun a => bdT (nmT X a 1) (fun b => bdT (sgT X b) (fun c => bdT (nmT X c 1) (stT X))))
theorem c_sign (h : CC X x m p E) : (∃ n, f_X4_readSign (x + 60) m = some (0, n) ∧ sgT X p = .inl (tkS X p) ∧ CF x m n (tkS X p)) ∨ ∃ n, f_X4_readSign (x + 60) m = some (sgV X p, n) ∧ sgV X p ≠ 0 ∧ sgT X p = .inr (tkN X p) ∧ Cs x 506 510 m n ∧ CC X x n (tkN X p) E := by
  unfold f_X4_readSign g_X4_readSign_0 g_X4_readSign_27 sgT sgV
  obtain ⟨n, e1, e2, e3⟩ := c_step h
  obtain ⟨n', b1, b2⟩ := c_break h
  rw [chk_t h.1.1, c_isWord h (by omega), cal_s]
  cases h7 : wdT X p 7 with
  | true =>
    right
    rw [if_neg (show ¬ bI true = 0 by decide), if_neg (show ¬ (1 : Int32) = 0 by decide), chk_t h.1.1, e1, cal_s, if_pos rfl, if_pos (.inl rfl)]
    exact ⟨n, rfl, by decide, rfl, e2, e3⟩
  | false =>
    rw [if_pos (show bI false = 0 by rfl), chk_t h.1.1, c_isWord h (by omega), cal_s]
    cases h8 : wdT X p 8 with
    | true =>
      right
      rw [if_neg (show ¬ bI true = 0 by decide), if_neg (show ¬ (-1 : Int32) = 0 by decide), chk_t h.1.1, e1, cal_s, if_neg (by decide), if_pos (.inr rfl)]
      exact ⟨n, rfl, by decide, rfl, e2, e3⟩
    | false =>
      left
      rw [if_pos (show bI false = 0 by rfl), if_pos rfl, chk_t h.1.1, b1, cal_s, if_neg (by decide)]
      exact ⟨n', rfl, rfl, b2⟩
/-- the place of a slope's second number -/
def slB (X : Tx) (p : Nat) : Nat := tkN X (tkN X (tkN X (tkN X p)))
def eSlope (X : Tx) (p E : Nat) : Nat := e2T (e2T E (tkV X (tkN X (tkN X p))) 0 9 (tkS X (tkN X (tkN X p)))) (tkV X (slB X p)) 0 9 (tkS X (slB X p))
def uSlope (X : Tx) (p : Nat) (T : TW) : TW := setV (setV T 2 (sgV X (tkN X p) * nI (tkV X (tkN X (tkN X p))))) 3 (sgV X (tkN X (tkN X (tkN X p))) * nI (tkV X (slB X p)))
theorem c_readSlope {T : TW} (h : CC X x m p E) (hT : CT m (x + 61) T) : LnC X x m (f_X4_readSlope (x + 60) m) (fmSlope X p) (eSlope X p E) (if eSlope X p E = 0 then uSlope X p T else T) := by
  unfold f_X4_readSlope g_X4_readSlope_0
  obtain ⟨m1, e1, o1, h1⟩ := c_step h
  rw [chk_t h.1.1, e1, cal_s, chk_t h1.1.1]
  rcases c_sign h1 with ⟨m2, e2, s2, f2⟩ | ⟨m2, e2, z2, s2, o2, h2⟩
  · rw [e2, cal_s, if_pos rfl]
    exact .inl ⟨m2, _, rfl, by unfold fmSlope; rw [s2]; rfl, o1.cp.tr f2.1, f2.2⟩
  rw [e2, cal_s, if_neg z2, chk_t h2.1.1]
  rcases c_numbers h2 (ka := 0) (kn := 1) (a := 0) (k := 1) rfl rfl (by omega) with ⟨m3, pl, e3, n3, f3⟩ | ⟨m3, e3, n3, o3, h3, v3, _⟩
  · rw [e3, cal_s, if_pos rfl]
    exact .inl ⟨m3, pl, rfl, by unfold fmSlope; rw [s2]; show bdT (nmT X _ 1) _ = _; rw [n3]; rfl, (o1.cp.tr o2.cp).tr f3.1, f3.2⟩
  rw [e3, cal_s, if_neg (by decide), chk_t h3.1.1]
  rcases c_sign h3 with ⟨m4, e4, s4, f4⟩ | ⟨m4, e4, z4, s4, o4, h4⟩
  · rw [e4, cal_s, if_pos rfl]
    exact .inl ⟨m4, _, rfl, by unfold fmSlope; rw [s2]; show bdT (nmT X _ 1) _ = _; rw [n3]; show bdT (sgT X _) _ = _; rw [s4]; rfl, ((o1.cp.tr o2.cp).tr o3).tr f4.1, f4.2⟩
  rw [e4, cal_s, if_neg z4, chk_t h4.1.1]
  rcases c_numbers h4 (ka := 1) (kn := 1) (a := 1) (k := 1) rfl rfl (by omega) with ⟨m5, pl, e5, n5, f5⟩ | ⟨m5, e5, n5, o5, h5, v5, u5⟩
  · rw [e5, cal_s, if_pos rfl]
    exact .inl ⟨m5, pl, rfl, by unfold fmSlope; rw [s2]; show bdT (nmT X _ 1) _ = _; rw [n3]; show bdT (sgT X _) _ = _; rw [s4]; show bdT (nmT X _ 1) _ = _; rw [n5]; rfl, (((o1.cp.tr o2.cp).tr o3).tr o4.cp).tr f5.1, f5.2⟩
  rw [e5, cal_s, if_neg (by decide), chk_t h5.1.1]
  have hfm : fmSlope X p = stT X (itN X (tkN X (itN X (tkN X (tkN X p)) 1)) 1) := by unfold fmSlope; rw [s2]; show bdT (nmT X _ 1) _ = _; rw [n3]; show bdT (sgT X _) _ = _; rw [s4]; show bdT (nmT X _ 1) _ = _; rw [n5]; rfl
  have O5 := (((o1.cp.tr o2.cp).tr o3).tr o4.cp).tr o5
  rcases c_stop h5 with ⟨m6, e6, s6, f6⟩ | ⟨m6, e6, s6, k6, o6, h6⟩
  · rw [e6, cal_s, if_pos rfl]
    exact .inl ⟨m6, _, rfl, by rw [hfm]; exact s6, O5.tr f6.1, f6.2⟩
  have l5 := h.l5
  have p2 := h2.2.2.2
  have p4 := h4.2.2.2
  have A0 : NA x m6 0 (tkV X (tkN X (tkN X p))) (tkS X (tkN X (tkN X p))) := by
    have a := (v3 0 (by omega)).2
    rw [Nat.zero_add] at a
    have b := a.cs o4
    exact NA.cs ⟨(u5 0 (by omega)).1.trans b.1, (u5 0 (by omega)).2.trans b.2⟩ o6
  have A1 : NA x m6 1 (tkV X (slB X p)) (tkS X (slB X p)) := (v5 0 (by omega)).2.cs o6
  obtain ⟨n1, a1, a2, a3⟩ := c_check h6 (k := 0) (i := 0) rfl (by omega) A0 (by have := tkS_le p2; omega) 0 9
  obtain ⟨n2, b1, b2, b3⟩ := c_check a3 (k := 1) (i := 1) rfl (by omega) (A1.cs a2) (by have := tkS_le p4; show tkS X (slB X p) ≤ 500; exact Nat.le_trans this l5) 0 9
  have cs := a2.tr b2
  have hT6 : CT n2 (x + 61) T := ((hT.kept (O5.2.sub (by omega) (by omega))).cs o6).cs cs
  have O := (O5.tr o6.cp).tr cs.cp
  have eo : fmSlope X p = .inr (tkN X (itN X (tkN X (itN X (tkN X (tkN X p)) 1)) 1)) := by rw [hfm]; exact s6
  rw [e6, cal_s, if_neg (by decide), chk_t h6.1.1, a1, cal_s, chk_t a3.1.1, b1, cal_s, chk_t b3.1.1]
  by_cases z : eSlope X p E = 0
  · have N0 := (A0.cs cs)
    have N1 := (A1.cs cs)
    have t1 : Tq (x + 61) (x + 76) n2 (n2.sI 902 (x + 61) 0 (sgV X (tkN X p) * nI (tkV X (tkN X (tkN X p))))) := (Tq.rf _ _ n2).sI _ _ _ _ (by omega) (by omega)
    have c1 := b3.on t1 (by omega) (by omega)
    have hT7 := hT6.set9 (k := 2) (by omega) (sgV X (tkN X p) * nI (tkV X (tkN X (tkN X p))))
    rw [if_pos (b3.f0 z), na_n b3.1 (k := 0) (i := 0) rfl (by omega) N0, cal_s, ck_e b3.1.2.1 hT6.K, bnd_e, chk_t c1.1.1, na_n c1.1 (k := 1) (i := 1) rfl (by omega) (N1.on t1 (by omega)), cal_s, ck_e c1.1.2.1 hT7.K, bnd_e, if_pos z]
    exact ln_ok eo O rfl (t1.sI _ _ _ _ (by omega) (by omega)) b3 (hT7.set9 (k := 3) (by omega) _)
  · rw [if_neg (b3.f1 z), if_neg z]
    exact ln_ok eo O rfl (Tq.rf _ _ n2) b3 hT6
end CThing
