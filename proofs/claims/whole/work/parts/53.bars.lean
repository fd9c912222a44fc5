/-! whether a rule bars two -/
def soB (T : TW) (s : Int32) (H : Nat → Bool) (a b : BD) : Bool := if s = 0 then true else if s = 1 then decide (0 < cntB (fun h => H h && wdB T h ((b.x : Int) - a.x) ((b.y : Int) - a.y)) 8) else if s = 2 then flB T a b else if s = 3 then seB a b && seB b a else false
def rch (B : LW) (r w : Nat) (a b : BD) : Int := (((B.2.2 r 3).toNatClampNeg + w + a.g + b.g : Nat) : Int)
/-- L: whether lines stand between -/
def baR (T : TW) (B : LW) (w : Nat) (H : Nat → Bool) (L : BD → BD → Bool) (r : Nat) (a b : BD) : Bool := decide (nI a.k = B.2.2 r 1) && decide (nI b.k = B.2.2 r 2) && decide (dsq a b < rch B r w a b * rch B r w a b) && soB T (B.2.2 r 0) H a b && (decide (B.2.2 r 4 = 0) || !L a b)
def clL (T : TW) (d : Nat) (a b : BD) : Bool := (List.range (T.2.1 1)).any (wlB T d a b)
def rfL (T : TW) (d : Nat) (F : Int32) (a b : BD) : Bool := !decide (cntB (rwB T d F a b) 14 = 0)
/-- the class's scene -/
def Sc (m : MM) (th t l : Nat) (T : TW) (B : LW) (d w : Nat) (ho wo : Int32) : Prop := m.K th = 6 ∧ m.R 602 th 0 = some t ∧ m.R 603 th 0 = some l ∧ CT m t T ∧ CL m l B ∧ m.I 604 th 0 = nI d ∧ m.I 606 th 0 = nI w ∧ m.I 607 th 0 = ho ∧ m.I 608 th 0 = wo
section SCN
variable {m : MM} {th t l p q d w : Nat} {T : TW} {B : LW} {ho wo : Int32} {a b : BD}
theorem flB_bd (V : VT T) (va : VB a) (vb : VB b) : sm ((T.1 2).toInt * ((b.x : Int) - a.x) + (T.1 3).toInt * ((b.y : Int) - a.y)) := by
  obtain ⟨_, va2, va3, _⟩ := va
  obtain ⟨_, vb2, vb3, _⟩ := vb
  have q1 := z_bd (x := (T.1 2).toInt) (y := (b.x : Int) - a.x) 9 7 V.2.2.1 (by omega)
  have q2 := z_bd (x := (T.1 3).toInt) (y := (b.y : Int) - a.y) 9 7 V.2.2.2.1 (by omega)
  unfold sm
  omega
theorem c_sortHolds (hK : m.K th = 6) (h : CT m t T) (V : VT T) (hh : m.I 607 th 0 = ho) (ha : Bo m p a) (hb : Bo m q b) (va : VB a) (vb : VB b) (s : Int32) : f_X5_sortHolds th (some t) s (some p) (some q) m = some (bI (soB T s (bt ho) a b), m) := by
  have e1 : nI b.x - nI a.x = zI ((b.x : Int) - a.x) := by rw [zz, zz, zI_sub]
  have e2 : nI b.y - nI a.y = zI ((b.y : Int) - a.y) := by rw [zz, zz, zI_sub]
  have hx : s7 ((b.x : Int) - a.x) := by have := va.2.1; have := vb.2.1; unfold s7; omega
  have hy : s7 ((b.y : Int) - a.y) := by have := va.2.2.1; have := vb.2.2.1; unfold s7; omega
  simp only [g_X5_sortHolds_125, g_X5_sortHolds_0, f_X5_sortHolds, ck_s ha.1, ck_s hb.1, ck_s h.K, chk_t ha.1, chk_t hb.1, chk_t, ck_sI, ck_sR, ck_sJ, cal_s, bnd_e, ifn_s, ifn_n, hK, hh, ha.2.2.1, ha.2.2.2.1, hb.2.2.1, hb.2.2.2.1, e1, e2, c_hoursDownwind h V ho hx hy, c_seesAhead ha hb va vb, c_seesAhead hb ha vb va, h.s2, h.s3, bI_0, soB]
  by_cases s0 : s = 0
  · simp only [if_pos s0]; rfl
  simp only [if_neg s0]
  by_cases s1 : s = 1
  · simp only [if_pos s1]
    have hc := cntB_le (fun h => bt ho h && wdB T h ((b.x : Int) - a.x) ((b.y : Int) - a.y)) 8
    generalize cntB (fun h => bt ho h && wdB T h ((b.x : Int) - a.x) ((b.y : Int) - a.y)) 8 = c at hc ⊢
    by_cases k : 0 < c
    · rw [if_neg (nI_nle k (by omega)), decide_eq_true k]; rfl
    · have : c = 0 := by omega
      subst this
      rw [if_pos (by decide)]; rfl
  simp only [if_neg s1]
  by_cases s2 : s = 2
  · simp only [if_pos s2]
    rw [← zI_of (T.1 2), ← zI_of (T.1 3), zI_mul, zI_mul, zI_add]
    have z1 : (0 ≤ zI ((T.1 2).toInt * ((b.x : Int) - a.x) + (T.1 3).toInt * ((b.y : Int) - a.y))) ↔ 0 ≤ (T.1 2).toInt * ((b.x : Int) - a.x) + (T.1 3).toInt * ((b.y : Int) - a.y) := zI_le sm0 (flB_bd V va vb)
    simp only [zI_of, flB]
    by_cases k : (T.1 2).toInt * ((b.x : Int) - a.x) + (T.1 3).toInt * ((b.y : Int) - a.y) < 0
    · rw [if_neg (fun q => by have := z1.mp q; omega), decide_eq_true k]; rfl
    · rw [if_pos (z1.mpr (by omega)), decide_eq_false k]; rfl
  simp only [if_neg s2]
  by_cases s3 : s = 3
  · simp only [if_pos s3]
    cases seB a b <;> cases seB b a <;> rfl
  · simp only [if_neg s3]; rfl
theorem rch_b (V : VL B) {r : Nat} (hr : r < B.2.1) (hw : w ≤ 12) (va : VB a) (vb : VB b) : 0 ≤ rch B r w a b ∧ rch B r w a b ≤ 50 := by
  obtain ⟨f, f1, f2, e⟩ := (V.2.2.2 r hr).2.2.2.1
  have := va.2.2.2.2
  have := vb.2.2.2.2
  unfold rch
  rw [e, cl_nI (by omega)]
  omega
theorem c_barsTwo (S : Sc m th t l T B d w ho wo) (V : VT T) (VB' : VL B) (hw : w ≤ 12) (ha : Bo m p a) (hb : Bo m q b) (va : VB a) (vb : VB b) {r : Nat} (hr : r < B.2.1) : f_X5_barsTwo th (some p) (some q) (nI r) m = some (bI (!decide (nI r = wo) && baR T B w (bt ho) (clL T d) r a b), m) := by
  obtain ⟨hK, r1, r2, h, hl, hd, hx, hh, ho'⟩ := S
  have e1 : nI b.x - nI a.x = zI ((b.x : Int) - a.x) := by rw [zz, zz, zI_sub]
  have e2 : nI b.y - nI a.y = zI ((b.y : Int) - a.y) := by rw [zz, zz, zI_sub]
  obtain ⟨f, f1, f2, ef⟩ := (VB'.2.2.2 r hr).2.2.2.1
  have e3 : nI f + nI w + nI a.g + nI b.g = zI (rch B r w a b) := by unfold rch; rw [nI_add, nI_add, nI_add, ef, cl_nI (by omega)]; rfl
  have hrb := rch_b VB' hr hw va vb
  have hdb := dsq_b va vb
  have hsq := z_bd (x := rch B r w a b) (y := rch B r w a b) 50 50 (by omega) (by omega)
  have ed : zI (((b.x : Int) - a.x) * ((b.x : Int) - a.x)) + zI (((b.y : Int) - a.y) * ((b.y : Int) - a.y)) = zI (dsq a b) := zI_add _ _
  have z1 := zI_le (z_sm (a := rch B r w a b * rch B r w a b) (by omega)) (z_sm (a := dsq a b) (by omega))
  simp only [g_X5_barsTwo_187, g_X5_barsTwo_0, f_X5_barsTwo, chk_t hK, chk_t, ck_sI, ck_sR, ck_sJ, cal_s, bnd_e, ifn_s, ifn_n, r1, r2, ho', chk_t hl.K, hl.R, ck_s hl.n.2.1, chk_t hl.n.2.1, chk_t ha.1, chk_t hb.1, hl.cell_0 hr, hl.cell_1 hr, hl.cell_2 hr, hl.cell_3 hr, hl.cell_4 hr, ha.2.1, hb.2.1, ha.2.2.1, ha.2.2.2.1, hb.2.2.1, hb.2.2.2.1, ha.2.2.2.2.2, hb.2.2.2.2.2, hx, ef, e1, e2, e3, ed, zI_mul, z1, c_sortHolds hK h V hh ha hb va vb, chk_t h.K, h.R5, c_walls h V hK hd ha hb va vb, mks_0 (show T.2.1 1 ≤ 32 by have := h.n1.2.2; omega), bI_0, baR, clL]
  by_cases k0 : nI r = wo
  · rw [if_pos k0, decide_eq_true k0]; rfl
  rw [if_neg k0, decide_eq_false k0]
  by_cases k1 : nI a.k = B.2.2 r 1
  · rw [if_pos k1, decide_eq_true k1]
    by_cases k2 : nI b.k = B.2.2 r 2
    · rw [if_pos k2, decide_eq_true k2]
      by_cases k3 : rch B r w a b * rch B r w a b ≤ dsq a b
      · rw [if_pos k3, decide_eq_false (show ¬ dsq a b < rch B r w a b * rch B r w a b by omega)]; rfl
      · rw [if_neg k3, decide_eq_true (show dsq a b < rch B r w a b * rch B r w a b by omega)]
        cases soB T (B.2.2 r 0) (bt ho) a b
        · rfl
        · by_cases k4 : B.2.2 r 4 = 0
          · simp [k4, bI]
          · cases (List.range (T.2.1 1)).any (wlB T d a b) <;> simp [k4, bI]
    · rw [if_neg k2, decide_eq_false k2]; simp [bI]
  · rw [if_neg k1, decide_eq_false k1]; simp [bI]
/-- a law's rule is even -/
def evR (B : LW) (r : Nat) : Bool := decide (B.2.2 r 0 = 0) || decide (B.2.2 r 0 = 3)
end SCN
/-- the reference's scene -/
def Rc (m : MM) (y i j : Nat) (T : TW) (B : LW) (d w : Nat) (oh F : Int32) : Prop := Md m y ∧ m.I 1166 y 0 = nI i ∧ i < 3 ∧ RT m y i T ∧ m.I 1167 y 0 = nI d ∧ m.I 1168 y 0 = F ∧ (∀ k, k < 6 → bt F k = true → k < T.2.1 2) ∧ m.I 1169 y 0 = oh ∧ m.I 1170 y 0 = nI w ∧ j < 3 ∧ RLw m y j B
/-- a body of the reference that has grown as it should -/
def Rg (m : MM) (y p : Nat) (T : TW) (d : Nat) (a : BD) : Prop := ∃ s, s < 1000 ∧ Rb m y p a s ∧ VB a ∧ a.g = gN T a.k s d
section RFN
variable {m : MM} {y i j p q d w : Nat} {T : TW} {B : LW} {oh F : Int32} {a b : BD}
theorem r_barsBy (S : Rc m y i j T B d w oh F) (V : VT T) (N : NT T) (VB' : VL B) (hB : B.2.1 ≤ 10) (hd : d < 1000) (hw : w ≤ 12) (hp : p < 15) (hq : q < 15) (ha : Rg m y p T d a) (hb : Rg m y q T d b) {r : Nat} (hr : r < B.2.1) : f_X10_barsBy y (nI j) (nI r) (nI p) (nI q) m = some (bI (!decide (p = q) && !(evR B r && decide (a.k = b.k) && decide (q < p)) && baR T B w (ohB oh) (rfL T d F) r a b), m) := by
  obtain ⟨h, ht, hi, R, hd', hF, hFb, ho, hw', hj, RL⟩ := S
  obtain ⟨sa, hsa, ha, va, ga⟩ := ha
  obtain ⟨sb, hsb, hb, vb, gb⟩ := hb
  obtain ⟨f, f1, f2, ef⟩ := (VB'.2.2.2 r hr).2.2.2.1
  have hrb := rch_b VB' hr hw va vb
  have hdb := dsq_b va vb
  have hsq := z_bd (x := rch B r w a b) (y := rch B r w a b) 50 50 (by omega) (by omega)
  have e0 : (10 : Int32) * nI j + nI r = nI (10 * j + r) := by
    show nI 10 * nI j + nI r = _
    rw [pk_mul, nI_add]
  have c0 : m.I 22 (y + 33) (10 * j + r) = B.2.2 r 0 := RL.2.2.2.2 r hr 0 (by omega)
  have c1 : m.I 22 (y + 34) (10 * j + r) = B.2.2 r 1 := RL.2.2.2.2 r hr 1 (by omega)
  have c2 : m.I 22 (y + 35) (10 * j + r) = B.2.2 r 2 := RL.2.2.2.2 r hr 2 (by omega)
  have c3 : m.I 22 (y + 36) (10 * j + r) = B.2.2 r 3 := RL.2.2.2.2 r hr 3 (by omega)
  have c4 : m.I 22 (y + 37) (10 * j + r) = B.2.2 r 4 := RL.2.2.2.2 r hr 4 (by omega)
  have hk : 10 * j + r < 120 := by omega
  have e3 : nI (f + w + gN T a.k sa d + gN T b.k sb d) = zI (rch B r w a b) := by unfold rch; rw [← ga, ← gb, ef, cl_nI (by omega)]; rfl
  have z1 := zI_lt (z_sm (a := dsq a b) (by omega)) (z_sm (a := rch B r w a b * rch B r w a b) (by omega))
  have ep : (nI p = nI q) ↔ p = q := ⟨nI_inj (by omega) (by omega), fun q => by rw [q]⟩
  have ek : (nI a.k = nI b.k) ↔ a.k = b.k := ⟨nI_inj (by have := va.1; omega) (by have := vb.1; omega), fun q => by rw [q]⟩
  have ele : (nI p ≤ nI q) ↔ ¬ q < p := by rw [nI_leI (by omega) (by omega)]; omega
  have n10 : ¬ (1 : Int32) = 0 := by decide
  have fin0 : g_X10_barsBy_193 y (nI j) (nI r) (nI p) (nI q) (nI (10 * j + r)) 0 m = some (0, m) := by
    simp only [g_X10_barsBy_224, g_X10_barsBy_220, g_X10_barsBy_193, g_X10_barsBy_188, g_X10_barsBy_192, g_X10_barsBy_162, g_X10_barsBy_142, g_X10_barsBy_93, g_X10_barsBy_69, g_X10_barsBy_0, f_X10_barsBy, if_pos]
  have fin1 : g_X10_barsBy_193 y (nI j) (nI r) (nI p) (nI q) (nI (10 * j + r)) 1 m = some (bI (decide (B.2.2 r 4 = 0) || !rfL T d F a b), m) := by
    simp only [g_X10_barsBy_224, g_X10_barsBy_220, g_X10_barsBy_193, g_X10_barsBy_188, g_X10_barsBy_192, g_X10_barsBy_162, g_X10_barsBy_142, g_X10_barsBy_93, g_X10_barsBy_69, g_X10_barsBy_0, f_X10_barsBy, if_neg n10, chk_t h.1, h.c1137, h.n1137, chk_t (inb_nI hk (by decide)), cl_nI (show 10 * j + r < 2 ^ 31 by omega), c4, r_wallsBetween h ht hi R V N hd' hF hFb hp hq ha hb va vb, chk_t, ck_sI, ck_sR, ck_sJ, cal_s, bnd_e, ifn_s, ifn_n, rfL]
    by_cases k4 : B.2.2 r 4 = 0
    · simp [k4, bI]
    · have hc := cntB_le (rwB T d F a b) 14
      by_cases k5 : cntB (rwB T d F a b) 14 = 0
      · have k6 : nI 0 = 0 := rfl
        simp [k4, k5, k6, bI]
      · have k6 : ¬ nI (cntB (rwB T d F a b) 14) = 0 := nI_ne0 (by omega) (by omega)
        simp [k4, k5, k6, bI]
  have h5 : f_X10_smellHours y (nI p) (nI q) m = some (nI (cntB (fun k => ohB oh k && wdB T k ((b.x : Int) - a.x) ((b.y : Int) - a.y)) 8), m) := by rw [r_smellHours h ht hi R V hp hq (ha.p va) (hb.p vb), ho]
  have hgt : (zI ((T.1 2).toInt * b.x + (T.1 3).toInt * b.y) < zI ((T.1 2).toInt * a.x + (T.1 3).toInt * a.y)) ↔ flB T a b = true := by
    obtain ⟨_, va2, va3, _⟩ := va
    obtain ⟨_, vb2, vb3, _⟩ := vb
    have q1 := z_bd (x := (T.1 2).toInt) (y := (b.x : Int)) 9 7 V.2.2.1 (by omega)
    have q2 := z_bd (x := (T.1 3).toInt) (y := (b.y : Int)) 9 7 V.2.2.2.1 (by omega)
    have q3 := z_bd (x := (T.1 2).toInt) (y := (a.x : Int)) 9 7 V.2.2.1 (by omega)
    have q4 := z_bd (x := (T.1 3).toInt) (y := (a.y : Int)) 9 7 V.2.2.2.1 (by omega)
    rw [zI_lt (by unfold sm; omega) (by unfold sm; omega), flB, decide_eq_true_eq, Int.mul_sub, Int.mul_sub]
    omega
  have f93 : ∀ s : Int32, g_X10_barsBy_93 y (nI j) (nI r) (nI p) (nI q) (nI (10 * j + r)) s m = some (bI (decide (dsq a b < rch B r w a b * rch B r w a b) && soB T s (ohB oh) a b && (decide (B.2.2 r 4 = 0) || !rfL T d F a b)), m) := by
    intro s
    have k1 := r_farBy h ht hi R V hd' hd hp hq ha hb va vb hsa hsb hw' hk (by rw [c3]; exact ef)
    simp only [g_X10_barsBy_93, g_X10_barsBy_142, g_X10_barsBy_162, g_X10_barsBy_188, g_X10_barsBy_192, chk_t h.1, chk_t, ck_sI, ck_sR, ck_sJ, cal_s, bnd_e, ifn_s, ifn_n, k1, r_apartBy h hp hq ha hb, e3, zI_mul, z1, h5, r_height h ht hi R hp ha, r_height h ht hi R hq hb, hgt, r_looksAt h hp hq ha hb va vb, r_looksAt h hq hp hb ha vb va, fin0, fin1, bI_0, soB]
    by_cases k3 : dsq a b < rch B r w a b * rch B r w a b
    · rw [if_pos k3, decide_eq_true k3, Bool.true_and]
      by_cases s0 : s = 0
      · simp only [if_pos s0, Bool.true_and]
      simp only [if_neg s0]
      by_cases s1 : s = 1
      · have n2 : ¬ s = 2 := by rw [s1]; decide
        have n3 : ¬ s = 3 := by rw [s1]; decide
        simp only [if_pos s1, if_neg n2, if_neg n3]
        have hc := cntB_le (fun k => ohB oh k && wdB T k ((b.x : Int) - a.x) ((b.y : Int) - a.y)) 8
        generalize cntB (fun k => ohB oh k && wdB T k ((b.x : Int) - a.x) ((b.y : Int) - a.y)) 8 = c at hc ⊢
        by_cases k : 0 < c
        · rw [if_pos (show (0 : Int32) < nI c from nI_lt (a := 0) k (by omega)), decide_eq_true k, Bool.true_and]
        · have : c = 0 := by omega
          subst this
          rw [if_neg (by decide)]; rfl
      simp only [if_neg s1]
      by_cases s2 : s = 2
      · have n3 : ¬ s = 3 := by rw [s2]; decide
        simp only [if_pos s2, if_neg n3]
        cases flB T a b
        · rfl
        · simp
      simp only [if_neg s2]
      by_cases s3 : s = 3
      · simp only [if_pos s3]
        cases seB a b <;> cases seB b a <;> simp [bI]
      · simp only [if_neg s3]; rfl
    · rw [if_neg k3, decide_eq_false k3]; rfl
  have f69 : ∀ s : Int32, g_X10_barsBy_69 y (nI j) (nI r) (nI p) (nI q) (nI (10 * j + r)) s m = some (bI (!(decide (a.k = b.k) && decide (q < p)) && (decide (dsq a b < rch B r w a b * rch B r w a b) && soB T s (ohB oh) a b && (decide (B.2.2 r 4 = 0) || !rfL T d F a b))), m) := by
    intro s
    simp only [g_X10_barsBy_69, chk_t h.1, h.c1160, h.n1160, chk_t (inb_nI hp (by decide)), chk_t (inb_nI hq (by decide)), cl_nI (show p < 2 ^ 31 by omega), cl_nI (show q < 2 ^ 31 by omega), ha.1, hb.1, ek, ele, f93]
    by_cases k1 : a.k = b.k
    · by_cases k2 : q < p
      · simp [k1, k2, bI]
      · simp [k1, k2]
    · simp [k1]
  simp only [f_X10_barsBy, g_X10_barsBy_0, chk_t, ck_sI, ck_sR, ck_sJ, cal_s, bnd_e, ifn_s, ifn_n, e0, ep, chk_t h.1, h.c1160, h.n1160, h.c1134, h.n1134, h.c1135, h.n1135, h.c1133, h.n1133, chk_t (inb_nI hp (by decide)), chk_t (inb_nI hq (by decide)), chk_t (inb_nI hk (by decide)), cl_nI (show p < 2 ^ 31 by omega), cl_nI (show q < 2 ^ 31 by omega), cl_nI (show 10 * j + r < 2 ^ 31 by omega), ha.1, hb.1, c0, c1, c2, f93, f69, baR, evR]
  by_cases k0 : p = q
  · simp [k0, bI]
  rw [if_neg k0, decide_eq_false k0]
  by_cases k1 : nI a.k = B.2.2 r 1
  · rw [if_pos k1, decide_eq_true k1]
    by_cases k2 : nI b.k = B.2.2 r 2
    · rw [if_pos k2, decide_eq_true k2]
      by_cases s0 : B.2.2 r 0 = 0
      · simp [s0]
      · by_cases s3 : B.2.2 r 0 = 3
        · simp [s3]
        · simp [s0, s3]
    · rw [if_neg k2, decide_eq_false k2]; simp [bI]
  · rw [if_neg k1, decide_eq_false k1]; simp [bI]
end RFN
