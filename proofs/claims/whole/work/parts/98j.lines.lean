/-! a town's lines: the class -/
def vT (X : Tx) (q i : Nat) : Nat := tkV X (itN X q i)
def sT (X : Tx) (q i : Nat) : Nat := tkS X (itN X q i)
def e2T (E v : Nat) (lo hi : Int32) (s : Nat) : Nat := ncT E (!inR (nI v) lo hi) (8 * s + 2)
def setV (T : TW) (k : Nat) (v : Int32) : TW := (fun i => if i = k then v else T.1 i, T.2)
def LnC (X : Tx) (x : Nat) (m : MM) (F : Option (Unit × MM)) (o : Nat ⊕ Nat) (e : Nat) (T : TW) : Prop := (∃ n pl, F = some ((), n) ∧ o = .inl pl ∧ CF x m n pl) ∨ ∃ n p', F = some ((), n) ∧ o = .inr p' ∧ Tq (x + 60) (x + 81) m n ∧ Ag m n (x + 76) (x + 79) ∧ CC X x n p' e ∧ CT n (x + 61) T
def LnL (X : Tx) (x : Nat) (m : MM) (F : Option (Unit × MM)) (o : Nat ⊕ Nat) (e : Nat) (B : LW) : Prop := (∃ n pl, F = some ((), n) ∧ o = .inl pl ∧ CF x m n pl) ∨ ∃ n p', F = some ((), n) ∧ o = .inr p' ∧ Tq (x + 60) (x + 81) m n ∧ Ag m n (x + 61) (x + 76) ∧ CC X x n p' e ∧ CL n (x + 76) B
section CLine
variable {X : Tx} {x : Nat} {m : MM} {p E : Nat}
theorem sT_le {q : Nat} (h : q ≤ X.2) (hX : X.2 ≤ 500) : ∀ i, itN X q i ≤ X.2 ∧ sT X q i ≤ 500
  | 0 => ⟨h, by have := tkS_le h; show tkS X q ≤ 500; omega⟩
  | i + 1 => by
    have h1 := (sT_le h hX i).1
    have h2 : itN X q (i + 1) ≤ X.2 := tkN_le h1
    have h3 := tkS_le h2
    exact ⟨h2, by show tkS X (itN X q (i + 1)) ≤ 500; omega⟩
theorem CC.on {n : MM} {lo hi : Nat} (h : CC X x m p E) (o : Tq lo hi m n) (h1 : x + 61 ≤ lo) (h2 : hi ≤ x + 79) : CC X x n p E := by
  have s60 : ∀ q, n.I q (x + 60) 0 = m.I q (x + 60) 0 := fun q => o.2.2.2.2 _ _ _ (by omega)
  exact ⟨h.1.tq (o.up (by omega) (by omega)) (s60 _), h.2.1.tq (fun q _ _ => s60 q), ⟨fun z => ⟨(s60 _).trans (h.2.2.1.1 z).1, (s60 _).trans (h.2.2.1.1 z).2⟩, fun z => ⟨(s60 _).trans (h.2.2.1.2 z).1, (s60 _).trans (h.2.2.1.2 z).2.1, (h.2.2.1.2 z).2.2⟩⟩, h.2.2.2⟩
theorem CC.f0 (h : CC X x m p E) (e : E = 0) : m.I 510 (x + 60) 0 = 0 := (h.2.2.1.1 e).1
theorem CC.f1 (h : CC X x m p E) (e : E ≠ 0) : ¬ m.I 510 (x + 60) 0 = 0 := by
  obtain ⟨a, b, c, d⟩ := h.2.2.1.2 e
  rw [a]
  exact nI_ne0 (by omega) (by omega)
theorem CC.l5 (h : CC X x m p E) : X.2 ≤ 500 := h.1.2.2.2.2.2.2.2.2.2.2.2.2.2.2.1
/-- what is known of the numbers that were read -/
def NS (X : Tx) (x : Nat) (m : MM) (q k : Nat) : Prop := ∀ i, i < k → NA x m i (vT X q i) (sT X q i) ∧ sT X q i ≤ 500 ∧ vT X q i < 10000
theorem NS.cs {n : MM} {q k lo hi : Nat} (h : NS X x m q k) (o : Cs x lo hi m n) : NS X x n q k := fun i hi => ⟨(h i hi).1.cs o, (h i hi).2⟩
theorem c_formE (h : CC X x m p E) {kn : Int32} {k : Nat} (hn : kn = nI k) (hk : k ≤ 6) {REST : MM → Option (Unit × MM)} {P : Option (Unit × MM) → Prop} (hf : ∀ n pl, fmT X (tkN X p) k = .inl pl → CF x m n pl → P (some ((), n))) (hs : ∀ n, fmT X (tkN X p) k = .inr (tkN X (itN X (tkN X p) k)) → Cp x m n → CC X x n (tkN X (itN X (tkN X p) k)) E → NS X x n (tkN X p) k → P (REST n)) : P (cal (f_X4_step (x + 60) m) (fun _ m1 => chk (m1.K (x + 60) = 5) (cal (f_X4_readNumbers (x + 60) 0 kn m1) (fun r2 m2 => if r2 = 0 then some ((), m2) else chk (m2.K (x + 60) = 5) (cal (f_X4_readStop (x + 60) m2) (fun r3 m3 => if r3 = 0 then some ((), m3) else chk (m3.K (x + 60) = 5) (REST m3))))))) := by
  rcases c_form h hn hk REST with ⟨n, pl, e1, e2, e3⟩ | ⟨n, e1, e2, e3, e4, e5⟩
  · rw [e3]; exact hf n pl e1 e2
  · rw [e5]; exact hs n e1 e2 e3 (fun i hi => ⟨(e4 i hi).2, (sT_le (tkN_le h.2.2.2) h.l5 i).2, tkV_lt (e4 i hi).1⟩)
theorem CT.set {n : MM} {t : Nat} {T : TW} (h : CT m t T) {q w j k : Nat} {v : Int32} (e : n = m.sI q w j v) (hq : q ≠ 700 ∧ q ≠ 701 ∧ q ≠ 703) (hw : q = 22 → w = t + 13 ∨ w = t + 14) (g1 : ∀ z, z < 4 → n.I (900 + z) t 0 = if z = k then v else m.I (900 + z) t 0) (g2 : ∀ z, z < 8 → n.I 22 (t + 13) z = if 10 + z = k then v else m.I 22 (t + 13) z) (g3 : ∀ z, z < 6 → n.I 22 (t + 14) z = if 20 + z = k then v else m.I 22 (t + 14) z) : CT n t (setV T k v) := by
  subst e
  have hT : ∀ {a b c d : Nat}, Tb m a b c d → Tb (m.sI q w j v) a b c d := fun hb => hb.of rfl rfl rfl (by rw [I_sI, if_neg (by omega)]) (by rw [I_sI, if_neg (by omega)]) (by rw [I_sI, if_neg (by omega)]; exact hb.2.2.2.2.2.2.1) hb.2.2.2.2.2.2.2.1
  have hc : ∀ d i, 1 ≤ d → d < 13 → (m.sI q w j v).I 22 (t + d) i = m.I 22 (t + d) i := fun d i h1 h2 => by rw [I_sI, if_neg (by omega)]
  have o : ∀ z, z < 4 → (m.sI q w j v).I (900 + z) t 0 = (setV T k v).1 z := fun z hz => by
    rw [g1 z hz]
    show _ = if z = k then v else T.1 z
    rcases (show z = 0 ∨ z = 1 ∨ z = 2 ∨ z = 3 by omega) with rfl | rfl | rfl | rfl
    · rw [h.s0]
    · rw [h.s1]
    · rw [h.s2]
    · rw [h.s3]
  exact ⟨h.K, h.R4, h.R5, h.R6, h.R7, h.R8, h.R9, h.Rw, h.Rg, h.Kw, h.Nw, h.Kg, h.Ng, hT h.T0, hT h.T1, hT h.T2, hT h.T3, hT h.T4, hT h.T5, o 0 (by omega), o 1 (by omega), o 2 (by omega), o 3 (by omega), fun z hz => by rw [g2 z hz, h.wi z hz]; rfl, fun z hz => by rw [g3 z hz, h.gr z hz]; rfl, fun r hr c hc' => by rw [hc 2 _ (by omega) (by omega)]; exact h.c0 r hr c hc', fun r hr c hc' => by rw [hc 4 _ (by omega) (by omega)]; exact h.c1 r hr c hc', fun r hr c hc' => by rw [hc 6 _ (by omega) (by omega)]; exact h.c2 r hr c hc', fun r hr c hc' => by rw [hc 8 _ (by omega) (by omega)]; exact h.c3 r hr c hc', fun r hr c hc' => by rw [hc 10 _ (by omega) (by omega)]; exact h.c4 r hr c hc', fun r hr c hc' => by rw [hc 12 _ (by omega) (by omega)]; exact h.c5 r hr c hc'⟩
theorem CT.set9 {t : Nat} {T : TW} (h : CT m t T) {k : Nat} (hk : k < 4) (v : Int32) : CT (m.sI (900 + k) t 0 v) t (setV T k v) := by
  refine h.set rfl (by omega) (by omega) (fun z hz => ?_) (fun z hz => ?_) (fun z hz => ?_)
  · rw [I_sI]
    by_cases c : z = k
    · rw [if_pos c, if_pos ⟨by omega, rfl, rfl⟩]
    · rw [if_neg c, if_neg (by omega)]
  · rw [I_sI, if_neg (by omega), if_neg (by omega)]
  · rw [I_sI, if_neg (by omega), if_neg (by omega)]
theorem CT.setW {t : Nat} {T : TW} (h : CT m t T) {w : Nat} (hw : w < 8) (v : Int32) : CT (m.sI 22 (t + 13) w v) t (setV T (10 + w) v) := by
  refine h.set rfl (by omega) (by omega) (fun z hz => ?_) (fun z hz => ?_) (fun z hz => ?_)
  · rw [I_sI, if_neg (by omega), if_neg (by omega)]
  · rw [I_sI]
    by_cases c : z = w
    · rw [if_pos (by omega), if_pos (by omega)]
    · rw [if_neg (by omega), if_neg (by omega)]
  · rw [I_sI, if_neg (by omega), if_neg (by omega)]
theorem CT.setG {t : Nat} {T : TW} (h : CT m t T) {w : Nat} (hw : w < 6) (v : Int32) : CT (m.sI 22 (t + 14) w v) t (setV T (20 + w) v) := by
  refine h.set rfl (by omega) (by omega) (fun z hz => ?_) (fun z hz => ?_) (fun z hz => ?_)
  · rw [I_sI, if_neg (by omega), if_neg (by omega)]
  · rw [I_sI, if_neg (by omega), if_neg (by omega)]
  · rw [I_sI]
    by_cases c : z = w
    · rw [if_pos (by omega), if_pos (by omega)]
    · rw [if_neg (by omega), if_neg (by omega)]
theorem inR_lt {v n : Nat} {lo hi : Int32} (hv : v < 10000) (hh : hi = nI n) (h : inR (nI v) lo hi = true) (hn : n < 10000) : v ≤ n := by
  unfold inR at h
  rw [Bool.and_eq_true] at h
  have h2 := h.2
  rw [Bool.not_eq_true', decide_eq_false_iff_not, hh] at h2
  rcases Nat.lt_or_ge n v with q | q
  · exact absurd (nI_lt q (by omega)) h2
  · exact q
theorem e2T_0 {E v s : Nat} {lo hi : Int32} (h : e2T E v lo hi s = 0) : E = 0 ∧ inR (nI v) lo hi = true := by
  obtain ⟨a, b⟩ := ncT_0 h (by omega)
  exact ⟨a, by simpa using b⟩
theorem na_n {n : MM} {i v q : Nat} (b : CB X x n) {k : Int32} (hk : k = nI i) (hi : i < 6) (na : NA x n i v q) : f_X4_number (x + 60) k n = some (nI v, n) := by rw [c_number b hk hi, na.1]
theorem na_p {n : MM} {i v q : Nat} (b : CB X x n) {k : Int32} (hk : k = nI i) (hi : i < 6) (na : NA x n i v q) : f_X4_placeOf (x + 60) k n = some (nI q, n) := by rw [c_placeOf b hk hi, na.2]
theorem c_ck {q k : Nat} (h : CC X x m p E) (na : NS X x m q k) {kk : Int32} {i : Nat} (hk : kk = nI i) (hi : i < k) (h6 : i < 6) (lo hh : Int32) : ∃ n, f_X4_check (x + 60) kk lo hh m = some ((), n) ∧ Cs x 510 512 m n ∧ CC X x n p (e2T E (vT X q i) lo hh (sT X q i)) ∧ NS X x n q k := by
  obtain ⟨n, a, b, c⟩ := c_check h hk h6 (na i hi).1 (na i hi).2.1 lo hh
  exact ⟨n, a, b, c, na.cs b⟩
theorem c_pt {T : TW} {q k : Nat} (h : CC X x m p E) (hT : CT m (x + 61) T) (na : NS X x m q k) {kk : Int32} {i : Nat} (hk : kk = nI i) (hi : i + 1 < k) (h6 : i < 5) : ∃ n, f_X4_checkPoint (x + 60) kk m = some ((), n) ∧ Cs x 510 512 m n ∧ CC X x n p (e2T (e2T E (vT X q i) 0 (T.1 0 - 1) (sT X q i)) (vT X q (i + 1)) 0 (T.1 1 - 1) (sT X q (i + 1))) ∧ NS X x n q k := by
  obtain ⟨n, a, b, c⟩ := c_point h hT hk h6 (na i (by omega)).1 (na (i + 1) hi).1 (na i (by omega)).2.1 (na (i + 1) hi).2.1
  exact ⟨n, a, b, c, na.cs b⟩
theorem CT.cs {n : MM} {T : TW} {lo hi : Nat} (h : CT m (x + 61) T) (o : Cs x lo hi m n) : CT n (x + 61) T := h.kept (o.1.ag (by omega))
theorem CL.cs {n : MM} {B : LW} {lo hi : Nat} (h : CL m (x + 76) B) (o : Cs x lo hi m n) : CL n (x + 76) B := h.kept (o.1.ag (by omega))
/-- the end of a line: what was noted, what was written -/
theorem ln_ok {n n2 : MM} {T : TW} {F : Option (Unit × MM)} {o : Nat ⊕ Nat} {p' e : Nat} (eo : o = .inr p') (O : Cp x m n) (hF : F = some ((), n2)) (q : Tq (x + 61) (x + 76) n n2) (c : CC X x n p' e) (t : CT n2 (x + 61) T) : LnC X x m F o e T := .inr ⟨n2, p', hF, eo, O.1.tr (q.up (by omega) (by omega)), (O.2.sub (by omega) (by omega)).tr (q.ag (by omega)), c.on q (by omega) (by omega), t⟩
theorem ll_ok {n n2 : MM} {B : LW} {F : Option (Unit × MM)} {o : Nat ⊕ Nat} {p' e : Nat} (eo : o = .inr p') (O : Cp x m n) (hF : F = some ((), n2)) (q : Tq (x + 76) (x + 79) n n2) (c : CC X x n p' e) (t : CL n2 (x + 76) B) : LnL X x m F o e B := .inr ⟨n2, p', hF, eo, O.1.tr (q.up (by omega) (by omega)), (O.2.sub (by omega) (by omega)).tr (q.ag (by omega)), c.on q (by omega) (by omega), t⟩
/-! wind, grow -/
def eWind (v s : Nat → Nat) (E : Nat) : Nat := e2T (e2T E (v 0) 0 7 (s 0)) (v 1) 0 7 (s 1)
def uWind (T : TW) (v : Nat → Nat) : TW := setV T (10 + v 0) (nI (v 1))
def eGrow (v s : Nat → Nat) (E : Nat) : Nat := e2T (e2T E (v 0) 0 5 (s 0)) (v 1) 1 99 (s 1)
def uGrow (T : TW) (v : Nat → Nat) : TW := setV T (20 + v 0) (nI (v 1))
theorem c_readWind {T : TW} (h : CC X x m p E) (hT : CT m (x + 61) T) : LnC X x m (f_X4_readWind (x + 60) m) (fmT X (tkN X p) 2) (eWind (vT X (tkN X p)) (sT X (tkN X p)) E) (if eWind (vT X (tkN X p)) (sT X (tkN X p)) E = 0 then uWind T (vT X (tkN X p)) else T) := by
  unfold f_X4_readWind g_X4_readWind_0
  rw [chk_t h.1.1]
  refine c_formE (k := 2) (P := fun F => LnC X x m F _ _ _) h rfl (by omega) (fun n pl e f => .inl ⟨n, pl, rfl, e, f⟩) (fun n e o c na => ?_)
  have hT0 : CT n (x + 61) T := hT.kept (o.2.sub (by omega) (by omega))
  obtain ⟨n1, a1, a2, a3, a4⟩ := c_ck c na (kk := 0) (i := 0) rfl (by omega) (by omega) 0 7
  obtain ⟨n2, b1, b2, b3, b4⟩ := c_ck a3 a4 (kk := 1) (i := 1) rfl (by omega) (by omega) 0 7
  have hT2 : CT n2 (x + 61) T := (hT0.cs a2).cs b2
  have O := (o.tr a2.cp).tr b2.cp
  rw [a1, cal_s, chk_t a3.1.1, b1, cal_s, chk_t b3.1.1, na_n b3.1 (k := 0) (i := 0) rfl (by omega) (b4 0 (by omega)).1, cal_s, chk_t b3.1.1]
  by_cases z : eWind (vT X (tkN X p)) (sT X (tkN X p)) E = 0
  · obtain ⟨z1, z2⟩ := e2T_0 z
    obtain ⟨z3, z4⟩ := e2T_0 z1
    have w1 : vT X (tkN X p) 0 ≤ 7 := inR_lt (n := 7) (b4 0 (by omega)).2.2 rfl z4 (by omega)
    rw [if_pos (b3.f0 z), if_neg (nI_pos (by omega)), ck_e b3.1.2.1 hT2.K, hT2.kw, hT2.Nw, ofN, if_neg (nI_ge (show vT X (tkN X p) 0 < 8 by omega) (by decide)), na_n b3.1 (k := 1) (i := 1) rfl (by omega) (b4 1 (by omega)).1, cal_s, chk_t hT2.Kw, hT2.Nw, chk_t (inb_nI (show vT X (tkN X p) 0 < 8 by omega) (by decide)), bnd_e, cl_nI (by omega), if_pos z]
    exact ln_ok e O rfl ((Tq.rf _ _ n2).sI _ _ _ _ (by omega) (by omega)) b3 (hT2.setW (by omega) _)
  · rw [if_neg (b3.f1 z), if_neg z]
    exact ln_ok e O rfl (Tq.rf _ _ n2) b3 hT2
theorem c_readGrow {T : TW} (h : CC X x m p E) (hT : CT m (x + 61) T) : LnC X x m (f_X4_readGrow (x + 60) m) (fmT X (tkN X p) 2) (eGrow (vT X (tkN X p)) (sT X (tkN X p)) E) (if eGrow (vT X (tkN X p)) (sT X (tkN X p)) E = 0 then uGrow T (vT X (tkN X p)) else T) := by
  unfold f_X4_readGrow g_X4_readGrow_0
  rw [chk_t h.1.1]
  refine c_formE (k := 2) (P := fun F => LnC X x m F _ _ _) h rfl (by omega) (fun n pl e f => .inl ⟨n, pl, rfl, e, f⟩) (fun n e o c na => ?_)
  have hT0 : CT n (x + 61) T := hT.kept (o.2.sub (by omega) (by omega))
  obtain ⟨n1, a1, a2, a3, a4⟩ := c_ck c na (kk := 0) (i := 0) rfl (by omega) (by omega) 0 5
  obtain ⟨n2, b1, b2, b3, b4⟩ := c_ck a3 a4 (kk := 1) (i := 1) rfl (by omega) (by omega) 1 99
  have hT2 : CT n2 (x + 61) T := (hT0.cs a2).cs b2
  have O := (o.tr a2.cp).tr b2.cp
  rw [a1, cal_s, chk_t a3.1.1, b1, cal_s, chk_t b3.1.1, na_n b3.1 (k := 0) (i := 0) rfl (by omega) (b4 0 (by omega)).1, cal_s, chk_t b3.1.1]
  by_cases z : eGrow (vT X (tkN X p)) (sT X (tkN X p)) E = 0
  · obtain ⟨z1, z2⟩ := e2T_0 z
    obtain ⟨z3, z4⟩ := e2T_0 z1
    have w1 : vT X (tkN X p) 0 ≤ 5 := inR_lt (n := 5) (b4 0 (by omega)).2.2 rfl z4 (by omega)
    rw [if_pos (b3.f0 z), if_neg (nI_pos (by omega)), ck_e b3.1.2.1 hT2.K, hT2.kg, hT2.Ng, ofN, if_neg (nI_ge (show vT X (tkN X p) 0 < 6 by omega) (by decide)), na_n b3.1 (k := 1) (i := 1) rfl (by omega) (b4 1 (by omega)).1, cal_s, chk_t hT2.Kg, hT2.Ng, chk_t (inb_nI (show vT X (tkN X p) 0 < 6 by omega) (by decide)), bnd_e, cl_nI (by omega), if_pos z]
    exact ln_ok e O rfl ((Tq.rf _ _ n2).sI _ _ _ _ (by omega) (by omega)) b3 (hT2.setG (by omega) _)
  · rw [if_neg (b3.f1 z), if_neg z]
    exact ln_ok e O rfl (Tq.rf _ _ n2) b3 hT2
/-! cost -/
def eCost (T : TW) (v s : Nat → Nat) (E : Nat) : Nat := e2T (e2T E (v 0) 0 (nI (T.2.1 0) - 1) (s 0)) (v 1) 0 99 (s 1)
def uCost (T : TW) (v : Nat → Nat) : TW := tabW T 0 (T.2.1 0) (fun r c => if r = v 0 ∧ c = 6 then nI (v 1) else T.2.2 0 r c)
theorem inR_ltn {v n : Nat} (hv : v < 10000) (hn : n < 10000) (h : inR (nI v) 0 (nI n - 1) = true) : v < n := by
  rw [inR_isN (by omega)] at h
  obtain ⟨i, hi, e⟩ := (isN_iff (by omega)).mp h
  have := nI_inj (by omega) (by omega) e
  omega
theorem c_readCost {T : TW} (h : CC X x m p E) (hT : CT m (x + 61) T) : LnC X x m (f_X4_readCost (x + 60) m) (fmT X (tkN X p) 2) (eCost T (vT X (tkN X p)) (sT X (tkN X p)) E) (if eCost T (vT X (tkN X p)) (sT X (tkN X p)) E = 0 then uCost T (vT X (tkN X p)) else T) := by
  unfold f_X4_readCost g_X4_readCost_0
  rw [chk_t h.1.1]
  refine c_formE (k := 2) (P := fun F => LnC X x m F _ _ _) h rfl (by omega) (fun n pl e f => .inl ⟨n, pl, rfl, e, f⟩) (fun n e o c na => ?_)
  have hT0 : CT n (x + 61) T := hT.kept (o.2.sub (by omega) (by omega))
  obtain ⟨n1, a1, a2, a3, a4⟩ := c_ck c na (kk := 0) (i := 0) rfl (by omega) (by omega) 0 (nI (T.2.1 0) - 1)
  obtain ⟨n2, b1, b2, b3, b4⟩ := c_ck a3 a4 (kk := 1) (i := 1) rfl (by omega) (by omega) 0 99
  have hT2 : CT n2 (x + 61) T := (hT0.cs a2).cs b2
  have O := (o.tr a2.cp).tr b2.cp
  have hn := hT.n0.2.2
  rw [ck_e c.1.2.1 hT0.K, hT0.k0, hT0.n0.1, a1, cal_s, chk_t a3.1.1, b1, cal_s, chk_t b3.1.1]
  by_cases z : eCost T (vT X (tkN X p)) (sT X (tkN X p)) E = 0
  · obtain ⟨z1, z2⟩ := e2T_0 z
    obtain ⟨z3, z4⟩ := e2T_0 z1
    have w1 : vT X (tkN X p) 0 < T.2.1 0 := inR_ltn (b4 0 (by omega)).2.2 (by omega) z4
    have pu : f_X6_put (x + 61 + 1) (nI (vT X (tkN X p) 0)) 6 (nI (vT X (tkN X p) 1)) n2 = some ((), n2.sI 22 (x + 61 + 1 + 1) (vT X (tkN X p) 0 * 8 + 6) (nI (vT X (tkN X p) 1))) := put_in (c := 6) hT2.T0 w1 (by omega) _
    rw [if_pos (b3.f0 z), ck_e b3.1.2.1 hT2.K, na_n b3.1 (k := 0) (i := 0) rfl (by omega) (b4 0 (by omega)).1, cal_s, chk_t b3.1.1, na_n b3.1 (k := 1) (i := 1) rfl (by omega) (b4 1 (by omega)).1, cal_s, hT2.k0, pu, cal_s, if_pos z]
    refine ln_ok e O rfl ((Tq.rf _ _ n2).sI _ _ _ _ (by omega) (by omega)) b3 ?_
    refine hT2.tab0 rfl rfl rfl (fun s a i h1 h2 h3 h4 => by rw [I_sI, if_neg (by omega)]) (by rw [I_sI, if_neg (by omega)]; exact hT2.n0.1) hn (fun r hr c hc => ?_)
    rw [I_sI]
    by_cases q : r = vT X (tkN X p) 0 ∧ c = 6
    · rw [if_pos q, if_pos ⟨rfl, rfl, by rw [q.1, q.2]⟩]
    · rw [if_neg q, if_neg (fun u => q (by have := u.2.2; omega))]
      exact hT2.c0 r hr c hc
  · rw [if_neg (b3.f1 z), if_neg z]
    exact ln_ok e O rfl (Tq.rf _ _ n2) b3 hT2
/-! rows that are kept -/
theorem c_keep (h : CC X x m p 0) {a n w s k : Nat} (T : Tb m a n w s) (hs : s < n) (hk : k ≤ w) (hk6 : k ≤ 6) (ha : x + 61 ≤ a) (ha2 : a + 2 ≤ x + 79) {kk : Int32} (hkk : kk = nI k) : ∃ n', f_X4_keep (x + 60) (some a) kk m = some ((), n') ∧ Tq a (a + 2) m n' ∧ (∀ q b i, ¬ (q = 703 ∧ b = a ∧ i = 0) → ¬ (q = 22 ∧ b = a + 1) → n'.I q b i = m.I q b i) ∧ n'.I 703 a 0 = nI (s + 1) ∧ (∀ c, c < k → n'.I 22 (a + 1) (s * w + c) = m.I 22 (x + 79) c) ∧ ∀ j, (j < s * w ∨ s * w + k ≤ j) → n'.I 22 (a + 1) j = m.I 22 (a + 1) j := by
  subst hkk
  obtain ⟨r1, r2⟩ := addRow_in T hs
  obtain ⟨s0, hs0⟩ : ∃ q, q = m.sI 703 a 0 (nI (s + 1)) := ⟨_, rfl⟩
  rw [← hs0] at r1 r2
  have o0 : Tq a (a + 2) m s0 := by rw [hs0]; exact (Tq.rf _ _ m).sI _ _ _ _ (by omega) (by omega)
  obtain ⟨n', ⟨i1, i2, i3, i4, i5, i6⟩, e⟩ := lp_inv (fun n i (q : MM) => l_X4_keep_16 (x + 60) (some a) (nI k) n (nI s) i q) (fun i q => Tq a (a + 2) m q ∧ (∀ q' b j, ¬ (q' = 703 ∧ b = a ∧ j = 0) → ¬ (q' = 22 ∧ b = a + 1) → q.I q' b j = m.I q' b j) ∧ q.I 703 a 0 = nI (s + 1) ∧ Tb q a n w (s + 1) ∧ (∀ c, c < i → q.I 22 (a + 1) (s * w + c) = m.I 22 (x + 79) c) ∧ ∀ j, (j < s * w ∨ s * w + i ≤ j) → q.I 22 (a + 1) j = m.I 22 (a + 1) j) (fun q => some ((), q)) k (fun i hi q hI => by
    obtain ⟨j1, j2, j3, j4, j5, j6⟩ := hI
    have bq := h.on j1 (by omega) (by omega)
    have pu := put_in j4 (show s < s + 1 by omega) (show i < w by omega) (m.I 22 (x + 79) i)
    refine ⟨q.sI 22 (a + 1) (s * w + i) (m.I 22 (x + 79) i), ⟨j1.sI _ _ _ _ (by omega) (by omega), fun q' b j h1 h2 => by rw [I_sI, if_neg (by omega)]; exact j2 q' b j h1 h2, by rw [I_sI, if_neg (by omega)]; exact j3, j4.s22 _ _ _, fun c hc => ?_, fun j hj => ?_⟩, fun u => ?_⟩
    · rw [I_sI]
      by_cases z : c = i
      · rw [if_pos ⟨rfl, rfl, by rw [z]⟩, z]
      · rw [if_neg (by omega)]; exact j5 c (by omega)
    · rw [I_sI, if_neg (by omega)]; exact j6 j (by omega)
    · show g_X4_keep_16 (x + 60) (some a) (nI k) (l_X4_keep_16 (x + 60) (some a) (nI k) u) (nI s) (nI i) q = _
      unfold g_X4_keep_16
      rw [if_neg (nI_ge hi (by omega)), chk_t bq.1.1, c_number bq.1 rfl (show i < 6 by omega), cal_s, ck_s j4.1, j1.2.2.2.2 22 (x + 79) i (by omega), pu, cal_s, nI_1]) (fun q hI u => by
    show g_X4_keep_16 (x + 60) (some a) (nI k) (l_X4_keep_16 (x + 60) (some a) (nI k) u) (nI s) (nI k) q = _
    unfold g_X4_keep_16
    rw [if_pos (Int32.le_refl _)]) (s0 := s0) ⟨o0, fun q b j h1 h2 => by rw [hs0, I_sI, if_neg (by omega)], by rw [hs0, I_sI, if_pos ⟨rfl, rfl, rfl⟩], r2, fun c hc => by omega, fun j hj => by rw [hs0, I_sI, if_neg (by omega)]⟩
  refine ⟨n', ?_, i1, i2, i3, i5, i6⟩
  unfold f_X4_keep g_X4_keep_0
  rw [chk_t h.1.1, if_pos (h.f0 rfl), ck_s T.1, r1, cal_s]
  exact e FU (by unfold FU; omega)
theorem c_keep1 {T : TW} {q : Nat} (h : CC X x m p E) (hT : CT m (x + 61) T) (na : NS X x m q 5) (hz : E = 0 → T.2.1 1 ≠ 8) : ∃ n', f_X4_keep (x + 60) (some (x + 61 + 3)) 5 m = some ((), n') ∧ Tq (x + 61) (x + 76) m n' ∧ CT n' (x + 61) (if E = 0 then addR T 1 (fun c => nI (vT X q c)) else T) := by
  by_cases z : E = 0
  · subst z
    have hl : T.2.1 1 ≤ 8 := hT.T1.2.2.2.2.2.2.2.1
    have hz' := hz rfl
    obtain ⟨n', e1, e2, e3, e4, e5, e6⟩ := c_keep h hT.T1 (show T.2.1 1 < 8 by omega) (show 5 ≤ 5 by omega) (by omega) (by omega) (by omega) (kk := 5) rfl
    rw [if_pos rfl]
    refine ⟨n', e1, e2.up (by omega) (by omega), ?_⟩
    unfold addR
    refine hT.tab1 e2.1 e2.2.1 e2.2.2.2.1 (fun s a i h1 h2 h3 h4 => e3 s a i h3 h4) e4 (by omega) (fun r hr c hc => ?_)
    by_cases u : r = T.2.1 1
    · rw [if_pos u, u]
      exact (e5 c (by omega)).trans (na c (by omega)).1.1
    · rw [if_neg u]
      refine (e6 _ (Or.inl ?_)).trans (hT.c1 r (by omega) c hc)
      have : (r + 1) * 5 ≤ T.2.1 1 * 5 := Nat.mul_le_mul_right _ (by omega)
      omega
  · rw [if_neg z]
    refine ⟨m, ?_, Tq.rf _ _ m, hT⟩
    unfold f_X4_keep g_X4_keep_0
    rw [chk_t h.1.1, if_neg (h.f1 z)]
theorem c_keep2 {T : TW} {q : Nat} (h : CC X x m p E) (hT : CT m (x + 61) T) (na : NS X x m q 4) (hz : E = 0 → T.2.1 2 ≠ 6) : ∃ n', f_X4_keep (x + 60) (some (x + 61 + 5)) 4 m = some ((), n') ∧ Tq (x + 61) (x + 76) m n' ∧ CT n' (x + 61) (if E = 0 then addR T 2 (fun c => nI (vT X q c)) else T) := by
  by_cases z : E = 0
  · subst z
    have hl : T.2.1 2 ≤ 6 := hT.T2.2.2.2.2.2.2.2.1
    have hz' := hz rfl
    obtain ⟨n', e1, e2, e3, e4, e5, e6⟩ := c_keep h hT.T2 (show T.2.1 2 < 6 by omega) (show 4 ≤ 5 by omega) (by omega) (by omega) (by omega) (kk := 4) rfl
    rw [if_pos rfl]
    refine ⟨n', e1, e2.up (by omega) (by omega), ?_⟩
    unfold addR
    refine hT.tab2 e2.1 e2.2.1 e2.2.2.2.1 (fun s a i h1 h2 h3 h4 => e3 s a i h3 h4) e4 (by omega) (fun r hr c hc => ?_)
    by_cases u : r = T.2.1 2
    · rw [if_pos u, u]
      exact (e5 c (by omega)).trans (na c (by omega)).1.1
    · rw [if_neg u]
      refine (e6 _ (Or.inl ?_)).trans (hT.c2 r (by omega) c hc)
      have : (r + 1) * 5 ≤ T.2.1 2 * 5 := Nat.mul_le_mul_right _ (by omega)
      omega
  · rw [if_neg z]
    refine ⟨m, ?_, Tq.rf _ _ m, hT⟩
    unfold f_X4_keep g_X4_keep_0
    rw [chk_t h.1.1, if_neg (h.f1 z)]
theorem c_keep3 {T : TW} {q : Nat} (h : CC X x m p E) (hT : CT m (x + 61) T) (na : NS X x m q 3) (hz : E = 0 → T.2.1 3 ≠ 12) : ∃ n', f_X4_keep (x + 60) (some (x + 61 + 7)) 3 m = some ((), n') ∧ Tq (x + 61) (x + 76) m n' ∧ CT n' (x + 61) (if E = 0 then addR T 3 (fun c => nI (vT X q c)) else T) := by
  by_cases z : E = 0
  · subst z
    have hl : T.2.1 3 ≤ 12 := hT.T3.2.2.2.2.2.2.2.1
    have hz' := hz rfl
    obtain ⟨n', e1, e2, e3, e4, e5, e6⟩ := c_keep h hT.T3 (show T.2.1 3 < 12 by omega) (show 3 ≤ 3 by omega) (by omega) (by omega) (by omega) (kk := 3) rfl
    rw [if_pos rfl]
    refine ⟨n', e1, e2.up (by omega) (by omega), ?_⟩
    unfold addR
    refine hT.tab3 e2.1 e2.2.1 e2.2.2.2.1 (fun s a i h1 h2 h3 h4 => e3 s a i h3 h4) e4 (by omega) (fun r hr c hc => ?_)
    by_cases u : r = T.2.1 3
    · rw [if_pos u, u]
      exact (e5 c (by omega)).trans (na c (by omega)).1.1
    · rw [if_neg u]
      refine (e6 _ (Or.inl ?_)).trans (hT.c3 r (by omega) c hc)
      have : (r + 1) * 3 ≤ T.2.1 3 * 3 := Nat.mul_le_mul_right _ (by omega)
      omega
  · rw [if_neg z]
    refine ⟨m, ?_, Tq.rf _ _ m, hT⟩
    unfold f_X4_keep g_X4_keep_0
    rw [chk_t h.1.1, if_neg (h.f1 z)]
theorem c_keep4 {T : TW} {q : Nat} (h : CC X x m p E) (hT : CT m (x + 61) T) (na : NS X x m q 3) (hz : E = 0 → T.2.1 4 ≠ 12) : ∃ n', f_X4_keep (x + 60) (some (x + 61 + 9)) 3 m = some ((), n') ∧ Tq (x + 61) (x + 76) m n' ∧ CT n' (x + 61) (if E = 0 then addR T 4 (fun c => nI (vT X q c)) else T) := by
  by_cases z : E = 0
  · subst z
    have hl : T.2.1 4 ≤ 12 := hT.T4.2.2.2.2.2.2.2.1
    have hz' := hz rfl
    obtain ⟨n', e1, e2, e3, e4, e5, e6⟩ := c_keep h hT.T4 (show T.2.1 4 < 12 by omega) (show 3 ≤ 3 by omega) (by omega) (by omega) (by omega) (kk := 3) rfl
    rw [if_pos rfl]
    refine ⟨n', e1, e2.up (by omega) (by omega), ?_⟩
    unfold addR
    refine hT.tab4 e2.1 e2.2.1 e2.2.2.2.1 (fun s a i h1 h2 h3 h4 => e3 s a i h3 h4) e4 (by omega) (fun r hr c hc => ?_)
    by_cases u : r = T.2.1 4
    · rw [if_pos u, u]
      exact (e5 c (by omega)).trans (na c (by omega)).1.1
    · rw [if_neg u]
      refine (e6 _ (Or.inl ?_)).trans (hT.c4 r (by omega) c hc)
      have : (r + 1) * 3 ≤ T.2.1 4 * 3 := Nat.mul_le_mul_right _ (by omega)
      omega
  · rw [if_neg z]
    refine ⟨m, ?_, Tq.rf _ _ m, hT⟩
    unfold f_X4_keep g_X4_keep_0
    rw [chk_t h.1.1, if_neg (h.f1 z)]
/-! leave, object -/
def eLeave (T : TW) (h : Nat) (v s : Nat → Nat) (E : Nat) : Nat := e2T (e2T (e2T (ncT E (decide (T.2.1 3 = 12)) (8 * h + 3)) (v 0) 0 7 (s 0)) (v 1) 0 7 (s 1)) (v 2) 0 999 (s 2)
def eObj (T : TW) (h : Nat) (v s : Nat → Nat) (E : Nat) : Nat := e2T (ncT (e2T (e2T (ncT E (decide (T.2.1 4 = 12)) (8 * h + 3)) (v 0) 0 (nI (T.2.1 0) - 1) (s 0)) (v 1) 0 (nI (T.2.1 0) - 1) (s 1)) (decide (nI (v 0) = nI (v 1))) (8 * s 1 + 2)) (v 2) 0 999 (s 2)
theorem c_readLeave {T : TW} (h : CC X x m p E) (hT : CT m (x + 61) T) {z : Int32} {hd : Nat} (hz : z = nI hd) (hh : hd ≤ 500) : LnC X x m (f_X4_readLeave (x + 60) z m) (fmT X (tkN X p) 3) (eLeave T hd (vT X (tkN X p)) (sT X (tkN X p)) E) (if eLeave T hd (vT X (tkN X p)) (sT X (tkN X p)) E = 0 then addR T 3 (fun c => nI (vT X (tkN X p) c)) else T) := by
  unfold f_X4_readLeave g_X4_readLeave_0
  rw [chk_t h.1.1]
  refine c_formE (k := 3) (P := fun F => LnC X x m F _ _ _) h rfl (by omega) (fun n pl e f => .inl ⟨n, pl, rfl, e, f⟩) (fun n e o c na => ?_)
  have hT0 : CT n (x + 61) T := hT.kept (o.2.sub (by omega) (by omega))
  obtain ⟨n0, d1, d2, d3⟩ := c_room c hz hh hT0.T3
  have d4 := na.cs d2
  obtain ⟨n1, a1, a2, a3, a4⟩ := c_ck d3 d4 (kk := 0) (i := 0) rfl (by omega) (by omega) 0 7
  obtain ⟨n2, b1, b2, b3, b4⟩ := c_ck a3 a4 (kk := 1) (i := 1) rfl (by omega) (by omega) 0 7
  obtain ⟨n3, g1, g2, g3, g4⟩ := c_ck b3 b4 (kk := 2) (i := 2) rfl (by omega) (by omega) 0 999
  have hT3 : CT n3 (x + 61) T := (((hT0.cs d2).cs a2).cs b2).cs g2
  have O := (((o.tr d2.cp).tr a2.cp).tr b2.cp).tr g2.cp
  obtain ⟨n4, k1, k2, k3⟩ := c_keep3 g3 hT3 g4 (fun z => by
    obtain ⟨z1, _⟩ := e2T_0 z
    obtain ⟨z2, _⟩ := e2T_0 z1
    obtain ⟨z3, _⟩ := e2T_0 z2
    have := (ncT_0 z3 (by omega)).2
    simpa using this)
  rw [ck_e c.1.2.1 hT0.K, hT0.R7, d1, cal_s, chk_t d3.1.1, a1, cal_s, chk_t a3.1.1, b1, cal_s, chk_t b3.1.1, g1, cal_s, chk_t g3.1.1, ck_e g3.1.2.1 hT3.K, hT3.R7, k1, cal_s]
  exact ln_ok e O rfl k2 g3 k3
theorem c_readObjection {T : TW} (h : CC X x m p E) (hT : CT m (x + 61) T) {z : Int32} {hd : Nat} (hz : z = nI hd) (hh : hd ≤ 500) : LnC X x m (f_X4_readObjection (x + 60) z m) (fmT X (tkN X p) 3) (eObj T hd (vT X (tkN X p)) (sT X (tkN X p)) E) (if eObj T hd (vT X (tkN X p)) (sT X (tkN X p)) E = 0 then addR T 4 (fun c => nI (vT X (tkN X p) c)) else T) := by
  unfold f_X4_readObjection g_X4_readObjection_0
  rw [chk_t h.1.1]
  refine c_formE (k := 3) (P := fun F => LnC X x m F _ _ _) h rfl (by omega) (fun n pl e f => .inl ⟨n, pl, rfl, e, f⟩) (fun n e o c na => ?_)
  have hT0 : CT n (x + 61) T := hT.kept (o.2.sub (by omega) (by omega))
  obtain ⟨n0, d1, d2, d3⟩ := c_room c hz hh hT0.T4
  have d4 := na.cs d2
  have hT1 := hT0.cs d2
  obtain ⟨n1, a1, a2, a3, a4⟩ := c_ck d3 d4 (kk := 0) (i := 0) rfl (by omega) (by omega) 0 (nI (T.2.1 0) - 1)
  have hT2 := hT1.cs a2
  obtain ⟨n2, b1, b2, b3, b4⟩ := c_ck a3 a4 (kk := 1) (i := 1) rfl (by omega) (by omega) 0 (nI (T.2.1 0) - 1)
  have hT3 := hT2.cs b2
  have O3 := ((o.tr d2.cp).tr a2.cp).tr b2.cp
  have tail : ∀ (F : Nat) (n3 : MM), CC X x n3 (tkN X (itN X (tkN X p) 3)) F → NS X x n3 (tkN X p) 3 → CT n3 (x + 61) T → Cp x m n3 → (e2T F (vT X (tkN X p) 2) 0 999 (sT X (tkN X p) 2) = 0 → T.2.1 4 ≠ 12) → LnC X x m (g_X4_readObjection_92 (x + 60) z n3) (fmT X (tkN X p) 3) (e2T F (vT X (tkN X p) 2) 0 999 (sT X (tkN X p) 2)) (if e2T F (vT X (tkN X p) 2) 0 999 (sT X (tkN X p) 2) = 0 then addR T 4 (fun c => nI (vT X (tkN X p) c)) else T) := by
    intro F n3 f1 f2 f3 f4 f5
    obtain ⟨n4, g1, g2, g3, g4⟩ := c_ck f1 f2 (kk := 2) (i := 2) rfl (by omega) (by omega) 0 999
    have hT4 := f3.cs g2
    obtain ⟨n5, k1, k2, k3⟩ := c_keep4 g3 hT4 g4 f5
    unfold g_X4_readObjection_92
    rw [chk_t f1.1.1, g1, cal_s, chk_t g3.1.1, ck_e g3.1.2.1 hT4.K, hT4.R8, k1, cal_s]
    exact ln_ok e (f4.tr g2.cp) rfl k2 g3 k3
  have z12 : ∀ u, ncT (e2T (e2T (ncT E (decide (T.2.1 4 = 12)) (8 * hd + 3)) (vT X (tkN X p) 0) 0 (nI (T.2.1 0) - 1) (sT X (tkN X p) 0)) (vT X (tkN X p) 1) 0 (nI (T.2.1 0) - 1) (sT X (tkN X p) 1)) u (8 * sT X (tkN X p) 1 + 2) = 0 → T.2.1 4 ≠ 12 := fun u z0 => by
    obtain ⟨z1, _⟩ := ncT_0 z0 (by omega)
    obtain ⟨z2, _⟩ := e2T_0 z1
    obtain ⟨z3, _⟩ := e2T_0 z2
    have := (ncT_0 z3 (by omega)).2
    simpa using this
  rw [ck_e c.1.2.1 hT0.K, hT0.R8, d1, cal_s, chk_t d3.1.1, ck_e d3.1.2.1 hT1.K, hT1.k0, hT1.n0.1, a1, cal_s, chk_t a3.1.1, ck_e a3.1.2.1 hT2.K, hT2.k0, hT2.n0.1, b1, cal_s, chk_t b3.1.1, na_n b3.1 (k := 0) (i := 0) rfl (by omega) (b4 0 (by omega)).1, cal_s, chk_t b3.1.1, na_n b3.1 (k := 1) (i := 1) rfl (by omega) (b4 1 (by omega)).1, cal_s]
  unfold eObj
  by_cases q : nI (vT X (tkN X p) 0) = nI (vT X (tkN X p) 1)
  · obtain ⟨n3, j1, j2, j3⟩ := c_note b3 (k := 2) (z := nI (sT X (tkN X p) 1)) (f := 2) rfl rfl (by omega) (by omega) (b4 1 (by omega)).2.1
    rw [if_pos q, chk_t b3.1.1, na_p b3.1 (k := 1) (i := 1) rfl (by omega) (b4 1 (by omega)).1, cal_s, chk_t b3.1.1, j1, cal_s, decide_eq_true q]
    exact tail _ n3 j3 (b4.cs j2) (hT3.cs j2) (O3.tr j2.cp) (fun u => z12 true (e2T_0 u).1)
  · rw [if_neg q, decide_eq_false q]
    exact tail _ n2 b3 b4 hT3 O3 (fun u => z12 false (e2T_0 u).1)
/-! wall, fence -/
def ePts (T : TW) (v s : Nat → Nat) (E : Nat) : Nat := ncT (e2T (e2T (e2T (e2T E (v 0) 0 (T.1 0 - 1) (s 0)) (v 1) 0 (T.1 1 - 1) (s 1)) (v 2) 0 (T.1 0 - 1) (s 2)) (v 3) 0 (T.1 1 - 1) (s 3)) (decide (nI (v 0) = nI (v 2)) && decide (nI (v 1) = nI (v 3))) (8 * s 3 + 2)
def eWall (T : TW) (h : Nat) (v s : Nat → Nat) (E : Nat) : Nat := e2T (ePts T v s (ncT E (decide (T.2.1 1 = 8)) (8 * h + 3))) (v 4) 0 999 (s 4)
def eFence (T : TW) (h : Nat) (v s : Nat → Nat) (E : Nat) : Nat := ePts T v s (ncT E (decide (T.2.1 2 = 6)) (8 * h + 3))
theorem ePts_0 {T : TW} {v s : Nat → Nat} {E : Nat} (h : ePts T v s E = 0) : E = 0 := by
  obtain ⟨z1, _⟩ := ncT_0 h (by omega)
  exact (e2T_0 (e2T_0 (e2T_0 (e2T_0 z1).1).1).1).1
/-- the two points of a line, then what follows -/
theorem c_pts {T : TW} {q k : Nat} {z : Int32} {a : Option Nat} {kk : Int32} (h : CC X x m p E) (hT : CT m (x + 61) T) (na : NS X x m q k) (hk : 4 ≤ k) (P : Option (Unit × MM) → Prop) (hP : ∀ n, Cs x 510 512 m n → CC X x n p (ePts T (vT X q) (sT X q) E) → P (g_X4_readSpan_73 (x + 60) a z kk n)) : P (cal (f_X4_checkPoint (x + 60) 0 m) (fun r8 m8 => chk (m8.K (x + 60) = 5) (cal (f_X4_checkPoint (x + 60) 2 m8) (fun r9 m9 => chk (m9.K (x + 60) = 5) (cal (f_X4_number (x + 60) 0 m9) (fun r10 m10 => chk (m10.K (x + 60) = 5) (cal (f_X4_number (x + 60) 2 m10) (fun r11 m11 => if r10 = r11 then (chk (m11.K (x + 60) = 5) (cal (f_X4_number (x + 60) 1 m11) (fun r12 m12 => chk (m12.K (x + 60) = 5) (cal (f_X4_number (x + 60) 3 m12) (fun r13 m13 => if r12 = r13 then (chk (m13.K (x + 60) = 5) (cal (f_X4_placeOf (x + 60) 3 m13) (fun r14 m14 => chk (m14.K (x + 60) = 5) (cal (f_X4_note (x + 60) 2 r14 m14) (fun r15 m15 => g_X4_readSpan_73 (x + 60) a z kk m15))))) else (g_X4_readSpan_73 (x + 60) a z kk m13)))))) else (g_X4_readSpan_73 (x + 60) a z kk m11))))))))) := by
  obtain ⟨n1, a1, a2, a3, a4⟩ := c_pt h hT na (kk := 0) (i := 0) rfl (by omega) (by omega)
  obtain ⟨n2, b1, b2, b3, b4⟩ := c_pt a3 (hT.cs a2) a4 (kk := 2) (i := 2) rfl (by omega) (by omega)
  have cs := a2.tr b2
  rw [a1, cal_s, chk_t a3.1.1, b1, cal_s, chk_t b3.1.1, na_n b3.1 (k := 0) (i := 0) rfl (by omega) (b4 0 (by omega)).1, cal_s, chk_t b3.1.1, na_n b3.1 (k := 2) (i := 2) rfl (by omega) (b4 2 (by omega)).1, cal_s]
  unfold ePts at hP
  by_cases c1 : nI (vT X q 0) = nI (vT X q 2)
  · rw [if_pos c1, chk_t b3.1.1, na_n b3.1 (k := 1) (i := 1) rfl (by omega) (b4 1 (by omega)).1, cal_s, chk_t b3.1.1, na_n b3.1 (k := 3) (i := 3) rfl (by omega) (b4 3 (by omega)).1, cal_s]
    rw [decide_eq_true c1, Bool.true_and] at hP
    by_cases c2 : nI (vT X q 1) = nI (vT X q 3)
    · obtain ⟨n3, j1, j2, j3⟩ := c_note b3 (k := 2) (z := nI (sT X q 3)) (f := 2) rfl rfl (by omega) (by omega) (b4 3 (by omega)).2.1
      rw [if_pos c2, chk_t b3.1.1, na_p b3.1 (k := 3) (i := 3) rfl (by omega) (b4 3 (by omega)).1, cal_s, chk_t b3.1.1, j1, cal_s]
      rw [decide_eq_true c2] at hP
      exact hP n3 (cs.tr j2) j3
    · rw [if_neg c2]
      rw [decide_eq_false c2] at hP
      exact hP n2 cs b3
  · rw [if_neg c1]
    rw [decide_eq_false c1, Bool.false_and] at hP
    exact hP n2 cs b3
theorem c_readWall {T : TW} (h : CC X x m p E) (hT : CT m (x + 61) T) {z : Int32} {hd : Nat} (hz : z = nI hd) (hh : hd ≤ 500) : LnC X x m (f_X4_readSpan (x + 60) (some (x + 61 + 3)) z 5 m) (fmT X (tkN X p) 5) (eWall T hd (vT X (tkN X p)) (sT X (tkN X p)) E) (if eWall T hd (vT X (tkN X p)) (sT X (tkN X p)) E = 0 then addR T 1 (fun c => nI (vT X (tkN X p) c)) else T) := by
  unfold f_X4_readSpan g_X4_readSpan_0
  rw [chk_t h.1.1]
  refine c_formE (k := 5) (P := fun F => LnC X x m F _ _ _) h rfl (by omega) (fun n pl e f => .inl ⟨n, pl, rfl, e, f⟩) (fun n e o c na => ?_)
  have hT0 : CT n (x + 61) T := hT.kept (o.2.sub (by omega) (by omega))
  obtain ⟨n0, d1, d2, d3⟩ := c_room c hz hh hT0.T1
  have d4 := na.cs d2
  rw [d1, cal_s, chk_t d3.1.1]
  refine c_pts d3 (hT0.cs d2) d4 (by omega) (fun F => LnC X x m F _ _ _) (fun n2 f1 f2 => ?_)
  obtain ⟨n3, g1, g2, g3, g4⟩ := c_ck f2 (d4.cs f1) (kk := 4) (i := 4) rfl (by omega) (by omega) 0 999
  have hT3 : CT n3 (x + 61) T := ((hT0.cs d2).cs f1).cs g2
  obtain ⟨n4, k1, k2, k3⟩ := c_keep1 g3 hT3 g4 (fun z0 => by
    have := (ncT_0 (ePts_0 (e2T_0 z0).1) (by omega)).2
    simpa using this)
  unfold g_X4_readSpan_73
  rw [if_neg (by decide), chk_t f2.1.1, g1, cal_s, chk_t g3.1.1, k1, cal_s]
  exact ln_ok e (((o.tr d2.cp).tr f1.cp).tr g2.cp) rfl k2 g3 k3
theorem c_readFence {T : TW} (h : CC X x m p E) (hT : CT m (x + 61) T) {z : Int32} {hd : Nat} (hz : z = nI hd) (hh : hd ≤ 500) : LnC X x m (f_X4_readSpan (x + 60) (some (x + 61 + 5)) z 4 m) (fmT X (tkN X p) 4) (eFence T hd (vT X (tkN X p)) (sT X (tkN X p)) E) (if eFence T hd (vT X (tkN X p)) (sT X (tkN X p)) E = 0 then addR T 2 (fun c => nI (vT X (tkN X p) c)) else T) := by
  unfold f_X4_readSpan g_X4_readSpan_0
  rw [chk_t h.1.1]
  refine c_formE (k := 4) (P := fun F => LnC X x m F _ _ _) h rfl (by omega) (fun n pl e f => .inl ⟨n, pl, rfl, e, f⟩) (fun n e o c na => ?_)
  have hT0 : CT n (x + 61) T := hT.kept (o.2.sub (by omega) (by omega))
  obtain ⟨n0, d1, d2, d3⟩ := c_room c hz hh hT0.T2
  have d4 := na.cs d2
  rw [d1, cal_s, chk_t d3.1.1]
  refine c_pts d3 (hT0.cs d2) d4 (by omega) (fun F => LnC X x m F _ _ _) (fun n2 f1 f2 => ?_)
  have hT3 : CT n2 (x + 61) T := (hT0.cs d2).cs f1
  obtain ⟨n4, k1, k2, k3⟩ := c_keep2 f2 hT3 (d4.cs f1) (fun z0 => by
    have := (ncT_0 (ePts_0 z0) (by omega)).2
    simpa using this)
  unfold g_X4_readSpan_73
  rw [if_pos (by decide), chk_t f2.1.1, k1, cal_s]
  exact ln_ok e ((o.tr d2.cp).tr f1.cp) rfl k2 f2 k3
end CLine
