/-! who goes, who pays -/
def laB (T : TW) (a b : Nat) : Bool := decide (T.2.2 0 b 4 < T.2.2 0 a 4) || (decide (T.2.2 0 a 4 = T.2.2 0 b 4) && decide (b < a))
def lvB (T : TW) (g o : Nat) : Bool := (List.range (T.2.1 3)).any (fun k => decide (T.2.2 3 k 0 = T.2.2 0 o 3) && decide (T.2.2 3 k 1 = T.2.2 0 g 3) && !decide (T.2.2 0 g 4 < T.2.2 3 k 2))
def mxV (T : TW) (g o : Nat) : Int32 := if T.2.2 0 g 4 ≤ T.2.2 0 o 4 then T.2.2 0 o 4 else T.2.2 0 g 4
def obF (T : TW) (g o : Nat) (f e : Int32) : Bool := (List.range (T.2.1 4)).any (fun k => decide (T.2.2 4 k 0 = nI o) && decide (T.2.2 4 k 1 = nI g) && inR (T.2.2 4 k 2) f e)
def obB (T : TW) (g o : Nat) (s : Int32) : Bool := obF T g o (mxV T g o) (mxV T g o + s)
def siB (T : TW) (B : LW) (d g o : Nat) : Bool := !decide (B.1 2 = -1) && decide (mxV T g o + B.1 2 ≤ nI d) && !obB T g o (B.1 2)
def goG (T : TW) (B : LW) (a b : Nat) : Nat := cond (decide (B.1 0 = 1) || laB T a b) a b
def goO (T : TW) (B : LW) (a b : Nat) : Nat := cond (decide (B.1 0 = 1) || laB T a b) b a
def gwF (T : TW) (B : LW) (d g o : Nat) : Int32 := cond ((decide (B.1 1 = 1) && lvB T g o) || siB T B d g o) (-1) (nI g)
def gwV (T : TW) (B : LW) (d a b : Nat) : Int32 := gwF T B d (goG T B a b) (goO T B a b)
theorem inR_1 {v lo hi : Int32} (h : v < lo) : inR v lo hi = false := by unfold inR; rw [decide_eq_true h]; rfl
theorem inR_2 {v lo hi : Int32} (h : hi < v) : inR v lo hi = false := by unfold inR; rw [decide_eq_true h, Bool.not_true, Bool.and_false]
theorem inR_3 {v lo hi : Int32} (h : ¬ v < lo) (h2 : ¬ hi < v) : inR v lo hi = true := by unfold inR; rw [decide_eq_false h, decide_eq_false h2]; rfl
theorem cod_1 {a b r : Nat} (ha : a < 12) (hb : b < 12) (hr : r < 10) : nI (cod (a, b, r)) / 120 = nI a := by
  have e : cod (a, b, r) = (a * 12 + b) * 10 + r := rfl
  rw [e, show (120 : Int32) = nI 120 from rfl, pk_div (by omega) (by omega) (by omega)]
  congr 1; omega
theorem cod_2 {a b r : Nat} (ha : a < 12) (hb : b < 12) (hr : r < 10) : nI (cod (a, b, r)) / 10 - nI (cod (a, b, r)) / 10 / 12 * 12 = nI b := by
  have e : cod (a, b, r) = (a * 12 + b) * 10 + r := rfl
  rw [e, show (10 : Int32) = nI 10 from rfl, pk_div (by omega) (by omega) (by omega), show (12 : Int32) = nI 12 from rfl, pk_div (by omega) (by omega) (by omega), pk_mul, pk_sub (by omega)]
  congr 1; omega
theorem cod_3 {a b r : Nat} (ha : a < 12) (hb : b < 12) (hr : r < 10) : nI (cod (a, b, r)) - nI (cod (a, b, r)) / 10 * 10 = nI r := by
  have e : cod (a, b, r) = (a * 12 + b) * 10 + r := rfl
  rw [e, show (10 : Int32) = nI 10 from rfl, pk_div (by omega) (by omega) (by omega), pk_mul, pk_sub (by omega)]
  congr 1; omega
theorem j_max (p q : Int32) (m : MM) : f_J9_max_7cf53 p q m = some (if p ≤ q then q else p, m) := by
  simp only [f_J9_max_7cf53, g_J9_max_7cf53_0]
  by_cases h : p < q
  · rw [if_pos h, if_pos (Int32.le_of_lt h)]
  · rw [if_neg h]
    by_cases h2 : p ≤ q
    · have : p = q := Int32.le_antisymm h2 (Int32.not_lt.mp h)
      subst this
      simp
    · rw [if_neg h2]
section CRT
variable {m : MM} {x t l d w a b r k : Nat} {T : TW} {B : LW} {ho wo : Int32} {L : List B3}
theorem c_codeOf (hS : Sh m x) (F : FcL m x L) (hL : L.length ≤ 1320) (hk : k < L.length) : f_X1_codeOf (x + 96) (nI k) m = some (nI (cod (lat L k)), m) := by
  have e1 : ¬ nI k < 0 := nI_pos (by omega)
  have e2 : ¬ nI L.length ≤ nI k := nI_ge hk (by omega)
  have e3 : ¬ nI 1320 ≤ nI k := nI_ge (by omega) (by decide)
  simp only [g_X1_codeOf_30, g_X1_codeOf_0, f_X1_codeOf, if_neg e1, chk_t hS.2.2.2.1.1, F.1, if_neg e2, ck_e hS.2.2.2.1.2.2.1 hS.2.2.2.1.2.2.2.2.1, hS.2.2.2.1.2.2.2.2.2.1, ofN, if_neg e3, chk_t (inb_nI (show k < 1320 by omega) (by decide)), cl_nI (show k < 2 ^ 31 by omega), F.2 k hk]
theorem c_firstOf (hS : Sh m x) (F : FcL m x L) (hL : L.length ≤ 1320) (hk : k < L.length) (e : lat L k = (a, b, r)) (ha : a < 12) (hb : b < 12) (hr : r < 10) : f_X1_firstOf (x + 96) (nI k) m = some (nI a, m) := by
  simp only [g_X1_firstOf_0, f_X1_firstOf, chk_t hS.2.2.2.1.1, c_codeOf hS F hL hk, chk_t, ck_sI, ck_sR, ck_sJ, cal_s, bnd_e, ifn_s, ifn_n, e, cod_1 ha hb hr]
theorem c_secondOf (hS : Sh m x) (F : FcL m x L) (hL : L.length ≤ 1320) (hk : k < L.length) (e : lat L k = (a, b, r)) (ha : a < 12) (hb : b < 12) (hr : r < 10) : f_X1_secondOf (x + 96) (nI k) m = some (nI b, m) := by
  simp only [g_X1_secondOf_0, f_X1_secondOf, chk_t hS.2.2.2.1.1, c_codeOf hS F hL hk, chk_t, ck_sI, ck_sR, ck_sJ, cal_s, bnd_e, ifn_s, ifn_n, e, cod_2 ha hb hr]
theorem c_ruleOf (hS : Sh m x) (F : FcL m x L) (hL : L.length ≤ 1320) (hk : k < L.length) (e : lat L k = (a, b, r)) (ha : a < 12) (hb : b < 12) (hr : r < 10) : f_X1_ruleOf (x + 96) (nI k) m = some (nI r, m) := by
  simp only [g_X1_ruleOf_0, f_X1_ruleOf, chk_t hS.2.2.2.1.1, c_codeOf hS F hL hk, chk_t, ck_sI, ck_sR, ck_sJ, cal_s, bnd_e, ifn_s, ifn_n, e, cod_3 ha hb hr]
theorem c_ofThing (S : Sc m (x + 81) t l T B d w ho wo) {c : Nat} (ha : a < T.2.1 0) (hc : c < 8) : f_X5_ofThing (x + 81) (nI a) (nI c) m = some (T.2.2 0 a c, m) := by
  have h := S.2.2.2.1
  simp only [g_X5_ofThing_0, f_X5_ofThing, chk_t S.1, S.2.1, chk_t, ck_sI, ck_sR, ck_sJ, cal_s, bnd_e, ifn_s, ifn_n, chk_t h.K, h.k0, h.cell0 ha hc]
theorem c_isLater (hS : Sh m x) (S : Sc m (x + 81) t l T B d w ho wo) (ha : a < T.2.1 0) (hb : b < T.2.1 0) : f_X1_isLater (x + 96) (nI a) (nI b) m = some (bI (laB T a b), m) := by
  have hn := S.2.2.2.1.n0.2.2
  have le : (nI a ≤ nI b) ↔ ¬ b < a := by rw [nI_leI (by omega) (by omega)]; omega
  simp only [g_X1_isLater_38, g_X1_isLater_42, g_X1_isLater_0, f_X1_isLater, chk_t hS.2.2.2.1.1, hS.2.2.2.1.2.1, ck_s hS.th, show f_X5_ofThing (x + 81) (nI a) 4 m = _ from c_ofThing (c := 4) S ha (by omega), show f_X5_ofThing (x + 81) (nI b) 4 m = _ from c_ofThing (c := 4) S hb (by omega), chk_t, ck_sI, ck_sR, ck_sJ, cal_s, bnd_e, ifn_s, ifn_n, le, laB]
  by_cases k1 : T.2.2 0 b 4 < T.2.2 0 a 4
  · simp [k1, bI]
  · by_cases k2 : T.2.2 0 a 4 = T.2.2 0 b 4
    · by_cases k3 : b < a
      · simp [k2, k3, bI]
      · simp [k2, k3, bI]
    · simp [k1, k2, bI]
theorem c_gaveLeave (h : CT m t T) (g o : Nat) : f_X8_gaveLeave t (T.2.2 0 o 3) (T.2.2 0 g 3) (T.2.2 0 g 4) m = some (bI (lvB T g o), m) := by
  have hn := h.n3.2.2
  show l_X8_gaveLeave_3 t (T.2.2 0 o 3) (T.2.2 0 g 3) (T.2.2 0 g 4) FU 0 m = _
  have := lp_any (fun n i => l_X8_gaveLeave_3 t (T.2.2 0 o 3) (T.2.2 0 g 3) (T.2.2 0 g 4) n i m) (fun k => decide (T.2.2 3 k 0 = T.2.2 0 o 3) && decide (T.2.2 3 k 1 = T.2.2 0 g 3) && !decide (T.2.2 0 g 4 < T.2.2 3 k 2)) (some (1, m)) (some (0, m)) (T.2.1 3) (fun i hi n => ?_) (fun n => ?_) (n := FU) (by unfold FU; omega)
  · refine this.trans ?_
    unfold lvB
    cases (List.range (T.2.1 3)).any _ <;> rfl
  · show g_X8_gaveLeave_3 t (T.2.2 0 o 3) (T.2.2 0 g 3) (T.2.2 0 g 4) (l_X8_gaveLeave_3 t (T.2.2 0 o 3) (T.2.2 0 g 3) (T.2.2 0 g 4) n) (nI i) m = _
    have e1 : ¬ nI (T.2.1 3) ≤ nI i := nI_ge hi (by omega)
    simp only [g_X8_gaveLeave_3, g_X8_gaveLeave_47, g_X8_gaveLeave_48, g_X8_gaveLeave_71, h.kt, h.k3, h.n3.1, if_neg e1, h.cell3_0 hi, h.cell3_1 hi, h.cell3_2 hi, chk_t, ck_sI, ck_sR, ck_sJ, cal_s, bnd_e, ifn_s, ifn_n, nI_1]
    by_cases k1 : T.2.2 3 i 0 = T.2.2 0 o 3
    · by_cases k2 : T.2.2 3 i 1 = T.2.2 0 g 3
      · by_cases k3 : T.2.2 0 g 4 < T.2.2 3 i 2 <;> simp [k1, k2, k3]
      · simp [k1, k2]
    · simp [k1]
  · show g_X8_gaveLeave_3 t (T.2.2 0 o 3) (T.2.2 0 g 3) (T.2.2 0 g 4) (l_X8_gaveLeave_3 t (T.2.2 0 o 3) (T.2.2 0 g 3) (T.2.2 0 g 4) n) (nI (T.2.1 3)) m = _
    simp only [g_X8_gaveLeave_3, h.kt, h.k3, h.n3.1, if_pos (Int32.le_refl _)]
theorem c_objected (h : CT m t T) (g o : Nat) (f e : Int32) : f_X8_objected t (nI o) (nI g) f e m = some (bI (obF T g o f e), m) := by
  have hn := h.n4.2.2
  show l_X8_objected_3 t (nI o) (nI g) f e FU 0 m = _
  have := lp_any (fun n i => l_X8_objected_3 t (nI o) (nI g) f e n i m) (fun k => decide (T.2.2 4 k 0 = nI o) && decide (T.2.2 4 k 1 = nI g) && inR (T.2.2 4 k 2) f e) (some (1, m)) (some (0, m)) (T.2.1 4) (fun i hi n => ?_) (fun n => ?_) (n := FU) (by unfold FU; omega)
  · refine this.trans ?_
    unfold obF
    cases (List.range (T.2.1 4)).any _ <;> rfl
  · show g_X8_objected_3 t (nI o) (nI g) f e (l_X8_objected_3 t (nI o) (nI g) f e n) (nI i) m = _
    have e1 : ¬ nI (T.2.1 4) ≤ nI i := nI_ge hi (by omega)
    have n10 : ¬ (1 : Int32) = 0 := by decide
    have z0 : ∀ K : Int32 → MM → Option (Int32 × MM), g_X8_objected_48 t (nI o) (nI g) f e K (nI i) 0 m = K (nI (i + 1)) m := by
      intro K
      unfold g_X8_objected_48 g_X8_objected_82
      rw [h.kt, h.k4, h.cell4_2 hi, cal_s, if_pos rfl, nI_1]
    have z1 : ∀ K : Int32 → MM → Option (Int32 × MM), g_X8_objected_48 t (nI o) (nI g) f e K (nI i) 1 m = if T.2.2 4 i 2 < f then K (nI (i + 1)) m else if e < T.2.2 4 i 2 then K (nI (i + 1)) m else some (1, m) := by
      intro K
      unfold g_X8_objected_48 g_X8_objected_82
      rw [h.kt, h.k4, h.cell4_2 hi, cal_s, if_neg n10, nI_1]
    unfold g_X8_objected_3 g_X8_objected_47
    rw [h.kt, h.k4, h.n4.1, if_neg e1, h.cell4_0 hi, cal_s, h.kt, h.k4, h.cell4_1 hi, cal_s, z0, z1]
    by_cases k1 : T.2.2 4 i 0 = nI o
    · rw [if_pos k1, decide_eq_true k1]
      by_cases k2 : T.2.2 4 i 1 = nI g
      · rw [if_pos k2, decide_eq_true k2]
        by_cases k3 : T.2.2 4 i 2 < f
        · rw [if_pos k3, inR_1 k3]; rfl
        · rw [if_neg k3]
          by_cases k4 : e < T.2.2 4 i 2
          · rw [if_pos k4, inR_2 k4]; rfl
          · rw [if_neg k4, inR_3 k3 k4]; rfl
      · rw [if_neg k2, decide_eq_false k2]; rfl
    · rw [if_neg k1, decide_eq_false k1]; rfl
  · show g_X8_objected_3 t (nI o) (nI g) f e (l_X8_objected_3 t (nI o) (nI g) f e n) (nI (T.2.1 4)) m = _
    simp only [g_X8_objected_3, h.kt, h.k4, h.n4.1, if_pos (Int32.le_refl _)]
theorem c_goes81 (hS : Sh m x) (S : Sc m (x + 81) t l T B d w ho wo) (VB' : VL B) (p : Int32) {g o : Nat} (hg : g < T.2.1 0) (hh : o < T.2.1 0) : g_X1_whoGoes_81 (x + 96) p (some t) (some l) (nI g) (nI o) m = some (gwF T B d g o, m) := by
  have ht := S.2.2.2.1
  have hl := S.2.2.2.2.1
  have hs4 : ∀ q, q < T.2.1 0 → f_X5_ofThing (x + 81) (nI q) 4 m = some (T.2.2 0 q 4, m) := fun q hq => c_ofThing (c := 4) S hq (by omega)
  have hs3 : ∀ q, q < T.2.1 0 → f_X5_ofThing (x + 81) (nI q) 3 m = some (T.2.2 0 q 3, m) := fun q hq => c_ofThing (c := 3) S hq (by omega)
  have f137 : g_X1_whoGoes_137 (x + 96) p (some t) (some l) (nI g) (nI o) (T.2.2 0 g 4) m = some (cond (siB T B d g o) (-1) (nI g), m) := by
    simp only [g_X1_whoGoes_137, chk_t hS.2.2.2.1.1, hS.2.2.2.1.2.1, ck_s hS.th, hs4 o hh, j_max, chk_t, ck_sI, ck_sR, ck_sJ, cal_s, bnd_e, ifn_s, ifn_n, ck_s hl.K, hl.s2, S.2.2.2.2.2.1, ck_s ht.K]
    rw [show (if T.2.2 0 g 4 ≤ T.2.2 0 o 4 then T.2.2 0 o 4 else T.2.2 0 g 4) = mxV T g o from rfl]
    simp only [c_objected ht g o, chk_t, ck_sI, ck_sR, ck_sJ, cal_s, bnd_e, ifn_s, ifn_n, bI_0]
    show _ = some (cond (!decide (B.1 2 = -1) && decide (mxV T g o + B.1 2 ≤ nI d) && !obF T g o (mxV T g o) (mxV T g o + B.1 2)) (-1) (nI g), m)
    generalize mxV T g o = f
    rcases VB'.2.2.1 with q | ⟨s, s1, s2, q⟩
    · rw [q, if_pos (show (-1 : Int32) ≤ 0 by decide)]
      simp
    · rw [q, if_neg (nI_nle (by omega) (by omega)), decide_eq_false (show ¬ nI s = -1 from nI_ne_m1 (by omega))]
      generalize f + nI s = e
      by_cases k1 : nI d < e
      · have k2 : ¬ e ≤ nI d := Int32.not_le.mpr k1
        simp [k1, k2]
      · have k2 : e ≤ nI d := Int32.not_lt.mp k1
        rw [if_neg k1, decide_eq_true k2]
        cases obF T g o f e <;> simp
  simp only [g_X1_whoGoes_81, chk_t hS.2.2.2.1.1, hS.2.2.2.1.2.1, ck_s hS.th, hs4 g hg, hs3 o hh, hs3 g hg, chk_t, ck_sI, ck_sR, ck_sJ, cal_s, bnd_e, ifn_s, ifn_n, ck_s hl.K, hl.s1, ck_s ht.K, c_gaveLeave ht g o, bI_0, f137, gwF]
  rcases VB'.2.1 with q | q
  · rw [q]; simp
  · rw [q, if_neg (show ¬ (1 : Int32) = 0 by decide)]
    cases lvB T g o <;> simp
theorem c_whoGoes (hS : Sh m x) (S : Sc m (x + 81) t l T B d w ho wo) (VB' : VL B) (F : FcL m x L) (hL : L.length ≤ 1320) (hk : k < L.length) (e : lat L k = (a, b, r)) (ha : a < T.2.1 0) (hb : b < T.2.1 0) (hab : a ≠ b) (hr : r < 10) : f_X1_whoGoes (x + 96) (nI k) m = some (gwV T B d a b, m) := by
  have ht := S.2.2.2.1
  have hl := S.2.2.2.2.1
  have hn := ht.n0.2.2
  have ne : ¬ nI b = nI a := fun q => hab (nI_inj (by omega) (by omega) q).symm
  simp only [f_X1_whoGoes, g_X1_whoGoes_0, g_X1_whoGoes_58, g_X1_whoGoes_65, chk_t hS.2.2.2.1.1, hS.2.2.2.1.2.1, ck_s hS.th, chk_t, ck_sI, ck_sR, ck_sJ, cal_s, bnd_e, ifn_s, ifn_n, S.2.1, S.2.2.1, c_firstOf hS F hL hk e (by omega) (by omega) hr, c_secondOf hS F hL hk e (by omega) (by omega) hr, chk_t hl.K, hl.s0, c_isLater hS S ha hb, bI_0, if_true, if_neg ne, c_goes81 hS S VB' (nI k) ha hb, c_goes81 hS S VB' (nI k) hb ha, gwV, goG, goO]
  rcases VB'.1 with q | q
  · rw [q, if_pos rfl]
    cases laB T a b <;> simp
  · rw [q]; simp
end CRT
/-! the same of the reference -/
section RCT
variable {m : MM} {y i j d w a b r k : Nat} {T : TW} {B : LW} {oh F : Int32} {L : List B3}
theorem snc_e (V : VT T) (ha : a < T.2.1 0) : nI (snc T a) = T.2.2 0 a 4 := (nB_e (V.2.2.2.2.2.2.1 a ha).2.2.2.2.1 (by omega)).1.symm
theorem RS.fr (R : RS m y i j T B d w oh F) (ha : a < T.2.1 0) : m.I 22 (y + 49) a = T.2.2 0 a 4 := by rw [← snc_e R.2.1 ha]; exact (R.2.2.2.2.2.2.2.2 a ha).2.2.2.2
theorem r_isLater (R : RS m y i j T B d w oh F) (ha : a < T.2.1 0) (hb : b < T.2.1 0) : f_X10_isLater y (nI a) (nI b) m = some (bI (laB T a b), m) := by
  have hn := R.2.2.1.1
  have le : (nI a ≤ nI b) ↔ ¬ b < a := by rw [nI_leI (by omega) (by omega)]; omega
  simp only [g_X10_isLater_35, g_X10_isLater_39, g_X10_isLater_0, f_X10_isLater, chk_t R.1.1.1, R.1.1.c1164, R.1.1.n1164, chk_t (inb_nI (show a < 15 by omega) (by decide)), chk_t (inb_nI (show b < 15 by omega) (by decide)), cl_nI (show a < 2 ^ 31 by omega), cl_nI (show b < 2 ^ 31 by omega), R.fr ha, R.fr hb, le, laB]
  by_cases k1 : T.2.2 0 b 4 < T.2.2 0 a 4
  · simp [k1, bI]
  · by_cases k2 : T.2.2 0 a 4 = T.2.2 0 b 4
    · by_cases k3 : b < a
      · simp [k2, k3, bI]
      · simp [k2, k3, bI]
    · simp [k1, k2, bI]
theorem r_hasLeave (R : RS m y i j T B d w oh F) {g o : Nat} (hg : g < T.2.1 0) (ho : o < T.2.1 0) : f_X10_hasLeave y (nI g) (nI o) m = some (bI (lvB T g o), m) := by
  have hn := R.2.2.1.1
  have hn3 := R.2.2.1.2.2.2.1
  have hi := R.1.2.2.1
  have Q := R.1.2.2.2.1
  have o7 : f_X10_of y (nI i) 7 m = some (nI (T.2.1 3), m) := by rw [← Q.1.2.2.2.2.2.2.2.1]; exact r_of R.1.1 (w := 7) (by omega) (by omega)
  have e12 : (12 : Int32) * nI i = nI (12 * i) := pk_mul 12 i
  have h1 : m.I 22 (y + 10) (12 * i + o) = T.2.2 0 o 3 := Q.2.1 o ho 3 (by omega)
  have h2 : m.I 22 (y + 10) (12 * i + g) = T.2.2 0 g 3 := Q.2.1 g hg 3 (by omega)
  simp only [f_X10_hasLeave, g_X10_hasLeave_0, chk_t R.1.1.1, R.1.2.1, e12, chk_t, ck_sI, ck_sR, ck_sJ, cal_s, bnd_e, ifn_s, ifn_n]
  have := lp_off (fun n q => l_X10_hasLeave_8 y (nI g) (nI o) n q m) (12 * i) (fun k => decide (T.2.2 3 k 0 = T.2.2 0 o 3) && decide (T.2.2 3 k 1 = T.2.2 0 g 3) && !decide (T.2.2 0 g 4 < T.2.2 3 k 2)) (some (1, m)) (some (0, m)) (T.2.1 3) (fun k hk n => ?_) (fun n => ?_) (n := FU) (by unfold FU; omega)
  · refine this.trans ?_
    unfold lvB
    cases (List.range (T.2.1 3)).any _ <;> rfl
  · show g_X10_hasLeave_8 y (nI g) (nI o) (l_X10_hasLeave_8 y (nI g) (nI o) n) (nI (12 * i + k)) m = _
    have e1 : ¬ nI (12 * i + T.2.1 3) ≤ nI (12 * i + k) := nI_ge (by omega) (by omega)
    have e2 : nI (12 * i + k) + 1 = nI (12 * i + (k + 1)) := nI_add (12 * i + k) 1
    simp only [g_X10_hasLeave_8, g_X10_hasLeave_93, chk_t R.1.1.1, R.1.2.1, o7, chk_t, ck_sI, ck_sR, ck_sJ, cal_s, bnd_e, ifn_s, ifn_n, e12, nI_add, if_neg e1, R.1.1.c1120, R.1.1.n1120, R.1.1.c1121, R.1.1.n1121, R.1.1.c1122, R.1.1.n1122, R.1.1.c1110, R.1.1.n1110, R.1.1.c1164, R.1.1.n1164, chk_t (inb_nI (show 12 * i + k < 144 by omega) (by decide)), chk_t (inb_nI (show 12 * i + o < 144 by omega) (by decide)), chk_t (inb_nI (show 12 * i + g < 144 by omega) (by decide)), chk_t (inb_nI (show g < 15 by omega) (by decide)), cl_nI (show 12 * i + k < 2 ^ 31 by omega), cl_nI (show 12 * i + o < 2 ^ 31 by omega), cl_nI (show 12 * i + g < 2 ^ 31 by omega), cl_nI (show g < 2 ^ 31 by omega), h1, h2, R.fr hg, show m.I 22 (y + 20) (12 * i + k) = _ from Q.2.2.2.2.1 k hk 0 (by omega), show m.I 22 (y + 21) (12 * i + k) = _ from Q.2.2.2.2.1 k hk 1 (by omega), show m.I 22 (y + 22) (12 * i + k) = _ from Q.2.2.2.2.1 k hk 2 (by omega), e2]
    by_cases k1 : T.2.2 3 k 0 = T.2.2 0 o 3
    · by_cases k2 : T.2.2 3 k 1 = T.2.2 0 g 3
      · by_cases k3 : T.2.2 0 g 4 < T.2.2 3 k 2 <;> simp [k1, k2, k3]
      · simp [k1, k2]
    · simp [k1]
  · show g_X10_hasLeave_8 y (nI g) (nI o) (l_X10_hasLeave_8 y (nI g) (nI o) n) (nI (12 * i + T.2.1 3)) m = _
    simp only [g_X10_hasLeave_8, chk_t R.1.1.1, R.1.2.1, o7, chk_t, ck_sI, ck_sR, ck_sJ, cal_s, bnd_e, ifn_s, ifn_n, e12, nI_add, if_pos (Int32.le_refl _)]
theorem r_isSilent (R : RS m y i j T B d w oh F) {g o : Nat} (hg : g < T.2.1 0) (ho : o < T.2.1 0) (s : Int32) : f_X10_isSilent y s (nI g) (nI o) m = some (bI (decide (mxV T g o + s ≤ nI d) && !obB T g o s), m) := by
  have hn := R.2.2.1.1
  have hn4 := R.2.2.1.2.2.2.2.1
  have hi := R.1.2.2.1
  have Q := R.1.2.2.2.1
  have o8 : f_X10_of y (nI i) 8 m = some (nI (T.2.1 4), m) := by rw [← Q.1.2.2.2.2.2.2.2.2.1]; exact r_of R.1.1 (w := 8) (by omega) (by omega)
  have e12 : (12 : Int32) * nI i = nI (12 * i) := pk_mul 12 i
  have f54 : ∀ f e : Int32, f + s = e → l_X10_isSilent_54 y s (nI g) (nI o) FU f (nI (12 * i)) m = some (bI (!obF T g o f e), m) := by
    intro f e he
    have := lp_off (fun n q => l_X10_isSilent_54 y s (nI g) (nI o) n f q m) (12 * i) (fun k => decide (T.2.2 4 k 0 = nI o) && decide (T.2.2 4 k 1 = nI g) && inR (T.2.2 4 k 2) f e) (some (0, m)) (some (1, m)) (T.2.1 4) (fun k hk n => ?_) (fun n => ?_) (n := FU) (by unfold FU; omega)
    · refine this.trans ?_
      unfold obF
      cases (List.range (T.2.1 4)).any _ <;> rfl
    · show g_X10_isSilent_54 y s (nI g) (nI o) (l_X10_isSilent_54 y s (nI g) (nI o) n) f (nI (12 * i + k)) m = _
      have e1 : ¬ nI (12 * i + T.2.1 4) ≤ nI (12 * i + k) := nI_ge (by omega) (by omega)
      have e2 : nI (12 * i + k) + 1 = nI (12 * i + (k + 1)) := nI_add (12 * i + k) 1
      simp only [g_X10_isSilent_54, g_X10_isSilent_120, chk_t R.1.1.1, R.1.2.1, o8, chk_t, ck_sI, ck_sR, ck_sJ, cal_s, bnd_e, ifn_s, ifn_n, e12, nI_add, if_neg e1, R.1.1.c1123, R.1.1.n1123, R.1.1.c1124, R.1.1.n1124, R.1.1.c1125, R.1.1.n1125, chk_t (inb_nI (show 12 * i + k < 144 by omega) (by decide)), cl_nI (show 12 * i + k < 2 ^ 31 by omega), show m.I 22 (y + 23) (12 * i + k) = _ from Q.2.2.2.2.2.1 k hk 0 (by omega), show m.I 22 (y + 24) (12 * i + k) = _ from Q.2.2.2.2.2.1 k hk 1 (by omega), show m.I 22 (y + 25) (12 * i + k) = _ from Q.2.2.2.2.2.1 k hk 2 (by omega), e2, r_in, bI_0, he]
      by_cases k1 : T.2.2 4 k 0 = nI o
      · by_cases k2 : T.2.2 4 k 1 = nI g
        · cases inR (T.2.2 4 k 2) f e <;> simp [k1, k2]
        · simp [k1, k2]
      · simp [k1]
    · show g_X10_isSilent_54 y s (nI g) (nI o) (l_X10_isSilent_54 y s (nI g) (nI o) n) f (nI (12 * i + T.2.1 4)) m = _
      simp only [g_X10_isSilent_54, chk_t R.1.1.1, R.1.2.1, o8, chk_t, ck_sI, ck_sR, ck_sJ, cal_s, bnd_e, ifn_s, ifn_n, e12, nI_add, if_pos (Int32.le_refl _)]
  have f30 : ∀ f : Int32, g_X10_isSilent_30 y s (nI g) (nI o) f m = some (bI (decide (f + s ≤ nI d) && !obF T g o f (f + s)), m) := by
    intro f
    simp only [g_X10_isSilent_30, chk_t R.1.1.1, R.1.2.1, R.1.2.2.2.2.1, e12, chk_t, ck_sI, ck_sR, ck_sJ, cal_s, bnd_e, ifn_s, ifn_n, f54 f _ rfl]
    by_cases k0 : f + s ≤ nI d
    · rw [if_pos k0, decide_eq_true k0, Bool.true_and]
    · rw [if_neg k0, decide_eq_false k0]; rfl
  simp only [f_X10_isSilent, g_X10_isSilent_0, chk_t R.1.1.1, R.1.1.c1164, R.1.1.n1164, chk_t (inb_nI (show g < 15 by omega) (by decide)), chk_t (inb_nI (show o < 15 by omega) (by decide)), cl_nI (show g < 2 ^ 31 by omega), cl_nI (show o < 2 ^ 31 by omega), R.fr hg, R.fr ho, f30, obB, mxV]
  by_cases k1 : T.2.2 0 g 4 ≤ T.2.2 0 o 4
  · simp only [if_pos k1]
  · simp only [if_neg k1]
theorem r_goer (R : RS m y i j T B d w oh F) (G : FrL m y L) (hL : L.length ≤ 1320) (hk : k < L.length) (e : lat L k = (a, b, r)) (ha : a < T.2.1 0) (hb : b < T.2.1 0) (hab : a ≠ b) : f_X10_goer y (nI j) (nI k) m = some (gwV T B d a b, m) := by
  have hn := R.2.2.1.1
  have hj := R.1.2.2.2.2.2.2.2.2.2.1
  have RL := R.1.2.2.2.2.2.2.2.2.2.2
  have VB' := R.2.2.2.1
  obtain ⟨g1, g2, g3⟩ := G.2 k hk
  rw [e] at g1 g2 g3
  have ne : ¬ nI b = nI a := fun q => hab (nI_inj (by omega) (by omega) q).symm
  have f55 : ∀ g o, g < T.2.1 0 → o < T.2.1 0 → g_X10_goer_55 y (nI j) (nI k) (nI g) (nI o) m = some (gwF T B d g o, m) := by
    intro g o hg ho
    have f78 : g_X10_goer_78 y (nI j) (nI k) (nI g) (nI o) m = some (cond (siB T B d g o) (-1) (nI g), m) := by
      simp only [g_X10_goer_78, g_X10_goer_109, g_X10_goer_105, g_X10_goer_110, chk_t R.1.1.1, R.1.1.c1132, R.1.1.n1132, chk_t (inb_nI (show j < 12 by omega) (by decide)), cl_nI (show j < 2 ^ 31 by omega), RL.2.2.2.1, r_isSilent R hg ho, chk_t, ck_sI, ck_sR, ck_sJ, cal_s, bnd_e, ifn_s, ifn_n, bI_0, siB]
      by_cases k1 : B.1 2 = -1
      · simp [k1]
      · rw [if_neg k1, decide_eq_false k1]
        cases (decide (mxV T g o + B.1 2 ≤ nI d)) <;> cases obB T g o (B.1 2) <;> simp
    simp only [g_X10_goer_55, g_X10_goer_105, g_X10_goer_110, chk_t R.1.1.1, R.1.1.c1131, R.1.1.n1131, chk_t (inb_nI (show j < 12 by omega) (by decide)), cl_nI (show j < 2 ^ 31 by omega), RL.2.2.1, r_hasLeave R hg ho, chk_t, ck_sI, ck_sR, ck_sJ, cal_s, bnd_e, ifn_s, ifn_n, bI_0, f78, gwF]
    by_cases k1 : B.1 1 = 1
    · rw [if_pos k1, decide_eq_true k1]
      cases lvB T g o <;> simp
    · simp [k1]
  simp only [f_X10_goer, g_X10_goer_0, g_X10_goer_35, g_X10_goer_41, chk_t R.1.1.1, R.1.1.c1171, R.1.1.n1171, R.1.1.c1172, R.1.1.n1172, chk_t (inb_nI (show k < 1440 by omega) (by decide)), cl_nI (show k < 2 ^ 31 by omega), chk_t, ck_sI, ck_sR, ck_sJ, cal_s, bnd_e, ifn_s, ifn_n, R.1.1.c1130, R.1.1.n1130, chk_t (inb_nI (show j < 12 by omega) (by decide)), cl_nI (show j < 2 ^ 31 by omega), RL.2.1, g1, g2, r_isLater R ha hb, bI_0, if_true, if_neg ne, f55 a b ha hb, f55 b a hb ha, gwV, goG, goO]
  by_cases k1 : B.1 0 = 1
  · simp [k1]
  · rw [if_neg k1, decide_eq_false k1]
    cases laB T a b <;> simp
end RCT
