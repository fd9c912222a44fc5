/-! the class's own workshop: x the FarTown, x + 1 its told, x + 60 reader, x + 81 scene, x + 96 court, x + 99 planner, x + 106 the reference -/
def Sh (m : MM) (x : Nat) : Prop := (m.K x = 10 ∧ m.R 1000 x 0 = some (x + 1) ∧ m.R 1001 x 0 = some (x + 59) ∧ m.R 1002 x 0 = some (x + 60) ∧ m.R 1003 x 0 = some (x + 81) ∧ m.R 1004 x 0 = some (x + 96) ∧ m.R 1005 x 0 = some (x + 99) ∧ m.K (x + 59) = 27 ∧ m.N (x + 59) = 3) ∧ (m.K (x + 60) = 5 ∧ m.R 500 (x + 60) 0 = some (x + 61) ∧ m.R 501 (x + 60) 0 = some (x + 76) ∧ m.R 502 (x + 60) 0 = some (x + 79) ∧ m.R 503 (x + 60) 0 = some (x + 80) ∧ m.K (x + 79) = 22 ∧ m.N (x + 79) = 6 ∧ m.K (x + 80) = 22 ∧ m.N (x + 80) = 6) ∧ (m.K (x + 81) = 6 ∧ m.R 600 (x + 81) 0 = some (x + 82) ∧ m.R 601 (x + 81) 0 = some (x + 95) ∧ m.K (x + 82) = 25 ∧ m.N (x + 82) = 12 ∧ m.K (x + 95) = 22 ∧ m.N (x + 95) = 12 ∧ (∀ i, i < 12 → m.R 25 (x + 82) i = some (x + 83 + i) ∧ m.K (x + 83 + i) = 1)) ∧ (m.K (x + 96) = 2 ∧ m.R 200 (x + 96) 0 = some (x + 81) ∧ m.R 201 (x + 96) 0 = some (x + 97) ∧ m.R 202 (x + 96) 0 = some (x + 98) ∧ m.K (x + 97) = 22 ∧ m.N (x + 97) = 1320 ∧ m.K (x + 98) = 24 ∧ m.N (x + 98) = 64) ∧ (m.K (x + 99) = 4 ∧ m.R 400 (x + 99) 0 = some (x + 81) ∧ m.R 401 (x + 99) 0 = some (x + 100) ∧ m.R 402 (x + 99) 0 = some (x + 104) ∧ m.R 403 (x + 99) 0 = some (x + 105) ∧ m.K (x + 100) = 25 ∧ m.N (x + 100) = 3 ∧ m.K (x + 104) = 23 ∧ m.N (x + 104) = 3 ∧ m.K (x + 105) = 23 ∧ m.N (x + 105) = 64 ∧ (∀ i, i < 3 → m.R 25 (x + 100) i = some (x + 101 + i) ∧ m.K (x + 101 + i) = 1))
theorem Sh.kept {m n : MM} {x : Nat} (hK : n.K = m.K) (hN : n.N = m.N) (hR : ∀ s a i, s ≠ 602 → s ≠ 603 → s ≠ 504 → n.R s a i = m.R s a i) (h : Sh m x) : Sh n x := by
  have r : ∀ s a i v, s ≠ 602 → s ≠ 603 → s ≠ 504 → m.R s a i = v → n.R s a i = v := fun s a i v h1 h2 h3 q => by rw [hR s a i h1 h2 h3]; exact q
  obtain ⟨⟨a1, a2, a3, a4, a5, a6, a7, a8, a9⟩, ⟨b1, b2, b3, b4, b5, b6, b7, b8, b9⟩, ⟨c1, c2, c3, c4, c5, c6, c7, c8⟩, ⟨d1, d2, d3, d4, d5, d6, d7, d8⟩, e1, e2, e3, e4, e5, e6, e7, e8, e9, e10, e11, e12⟩ := h
  unfold Sh
  rw [hK, hN]
  exact ⟨⟨a1, r _ _ _ _ (by decide) (by decide) (by decide) a2, r _ _ _ _ (by decide) (by decide) (by decide) a3, r _ _ _ _ (by decide) (by decide) (by decide) a4, r _ _ _ _ (by decide) (by decide) (by decide) a5, r _ _ _ _ (by decide) (by decide) (by decide) a6, r _ _ _ _ (by decide) (by decide) (by decide) a7, a8, a9⟩, ⟨b1, r _ _ _ _ (by decide) (by decide) (by decide) b2, r _ _ _ _ (by decide) (by decide) (by decide) b3, r _ _ _ _ (by decide) (by decide) (by decide) b4, r _ _ _ _ (by decide) (by decide) (by decide) b5, b6, b7, b8, b9⟩, ⟨c1, r _ _ _ _ (by decide) (by decide) (by decide) c2, r _ _ _ _ (by decide) (by decide) (by decide) c3, c4, c5, c6, c7, fun i hi => ⟨r _ _ _ _ (by decide) (by decide) (by decide) (c8 i hi).1, (c8 i hi).2⟩⟩, ⟨d1, r _ _ _ _ (by decide) (by decide) (by decide) d2, r _ _ _ _ (by decide) (by decide) (by decide) d3, r _ _ _ _ (by decide) (by decide) (by decide) d4, d5, d6, d7, d8⟩, e1, r _ _ _ _ (by decide) (by decide) (by decide) e2, r _ _ _ _ (by decide) (by decide) (by decide) e3, r _ _ _ _ (by decide) (by decide) (by decide) e4, r _ _ _ _ (by decide) (by decide) (by decide) e5, e6, e7, e8, e9, e10, e11, fun i hi => ⟨r _ _ _ _ (by decide) (by decide) (by decide) (e12 i hi).1, (e12 i hi).2⟩⟩
def VW (W : WD) : Prop := (∀ i, i < W.nt → VT (W.tn i)) ∧ ∀ i, i < W.nl → VL (W.lw i)
/-- the images: which there are, where, what they hold -/
def Im (m : MM) (x : Nat) (D : Nat → Option (Nat × WD)) : Prop := (∀ k, k < 3 → D k = none → m.R 27 (x + 59) k = none ∧ m.I 24 (x + 162) k = 0) ∧ (∀ k, k < 3 → ∀ d W, D k = some (d, W) → m.R 27 (x + 59) k = some d ∧ m.I 24 (x + 162) k = 1 ∧ x + 163 ≤ d ∧ d + 58 ≤ m.S ∧ TD m d W ∧ RW m (x + 106) (k + 1) W ∧ VW W) ∧ ∀ k j, k < 3 → j < 3 → k ≠ j → ∀ d W e V, D k = some (d, W) → D j = some (e, V) → d + 58 ≤ e ∨ e + 58 ≤ d
/-- class and reference hold the same -/
def Inv (m : MM) (x : Nat) (W : WD) (D : Nat → Option (Nat × WD)) : Prop := Sh m x ∧ Md m (x + 106) ∧ (∃ T, CT m (x + 61) T) ∧ (∃ B, CL m (x + 76) B) ∧ TD m (x + 1) W ∧ RW m (x + 106) 0 W ∧ VW W ∧ x + 163 ≤ m.S ∧ Im m x D
/-- only the workshop has changed -/
def Fq (x : Nat) (m n : MM) : Prop := n.K = m.K ∧ n.N = m.N ∧ n.S = m.S ∧ (∀ a, (a < x + 81 ∨ (x + 106 < a ∧ a < x + 151) ∨ x + 162 ≤ a) → ∀ s i, n.I s a i = m.I s a i ∧ n.R s a i = m.R s a i) ∧ ∀ s a i, s ≠ 602 → s ≠ 603 → n.R s a i = m.R s a i
def inW (x a : Nat) : Prop := (x + 81 ≤ a ∧ a ≤ x + 106) ∨ (x + 151 ≤ a ∧ a < x + 162)
theorem Fq.rf (x : Nat) (m : MM) : Fq x m m := ⟨rfl, rfl, rfl, fun _ _ _ _ => ⟨rfl, rfl⟩, fun _ _ _ _ _ => rfl⟩
theorem Fq.tr {x : Nat} {m n q : MM} (h1 : Fq x m n) (h2 : Fq x n q) : Fq x m q := ⟨h2.1.trans h1.1, h2.2.1.trans h1.2.1, h2.2.2.1.trans h1.2.2.1, fun a ha s i => ⟨((h2.2.2.2.1 a ha s i).1).trans (h1.2.2.2.1 a ha s i).1, ((h2.2.2.2.1 a ha s i).2).trans (h1.2.2.2.1 a ha s i).2⟩, fun s a i g1 g2 => (h2.2.2.2.2 s a i g1 g2).trans (h1.2.2.2.2 s a i g1 g2)⟩
theorem Fq.sI {x : Nat} {m n : MM} (h : Fq x m n) (s a i : Nat) (v : Int32) (ha : inW x a) : Fq x m (n.sI s a i v) := ⟨h.1, h.2.1, h.2.2.1, fun b hb s2 i2 => ⟨by rw [I_sI, if_neg (fun q => by unfold inW at ha; omega)]; exact (h.2.2.2.1 b hb s2 i2).1, (h.2.2.2.1 b hb s2 i2).2⟩, h.2.2.2.2⟩
theorem Fq.sR {x : Nat} {m n : MM} (h : Fq x m n) (s a i : Nat) (v : Option Nat) (ha : inW x a) (hs : s = 602 ∨ s = 603) : Fq x m (n.sR s a i v) := ⟨h.1, h.2.1, h.2.2.1, fun b hb s2 i2 => ⟨(h.2.2.2.1 b hb s2 i2).1, by rw [R_sR, if_neg (fun q => by unfold inW at ha; omega)]; exact (h.2.2.2.1 b hb s2 i2).2⟩, fun s2 a2 i2 g1 g2 => by rw [R_sR, if_neg (fun q => by omega)]; exact h.2.2.2.2 s2 a2 i2 g1 g2⟩
theorem Fq.sJ {x : Nat} {m n : MM} (h : Fq x m n) (s a i : Nat) (v : Int64) : Fq x m (n.sJ s a i v) := h
theorem Fq.ag {x : Nat} {m n : MM} (h : Fq x m n) {lo hi : Nat} (hh : hi ≤ x + 81 ∨ (x + 106 < lo ∧ hi ≤ x + 151) ∨ x + 162 ≤ lo) : Ag m n lo hi := fun a g1 g2 => ⟨by rw [h.1], by rw [h.2.1], fun s i => (h.2.2.2.1 a (by omega) s i).1, fun s i => (h.2.2.2.1 a (by omega) s i).2⟩
theorem Fq.ar {x : Nat} {m n : MM} (h : Fq x m n) : Ar m n (x + 106) := ⟨fun d h1 h2 i => (h.2.2.2.1 (x + 106 + d) (by omega) 22 i).1, fun i => (h.2.2.2.1 (x + 106 + 1) (by omega) 21 i).1, fun i => (h.2.2.2.1 (x + 106 + 56) (by omega) 24 i).1⟩
theorem Fq.sh {x : Nat} {m n : MM} (h : Fq x m n) (hs : Sh m x) : Sh n x := hs.kept h.1 h.2.1 (fun s a i g1 g2 _ => h.2.2.2.2 s a i g1 g2)
theorem Fq.md {x : Nat} {m n : MM} (h : Fq x m n) (hs : Md m (x + 106)) : Md n (x + 106) := by
  refine ⟨by rw [h.1]; exact hs.1, fun q hq => ⟨?_, by rw [h.1]; exact (hs.2 q hq).2.1, by rw [h.2.1]; exact (hs.2 q hq).2.2⟩⟩
  have hn : ∀ q ∈ mdL, q.1 ≠ 602 ∧ q.1 ≠ 603 := by decide
  rw [h.2.2.2.2 q.1 (x + 106) 0 (hn q hq).1 (hn q hq).2]
  exact (hs.2 q hq).1
theorem Inv.kept {m n : MM} {x : Nat} {W : WD} {D : Nat → Option (Nat × WD)} (hF : Fq x m n) (h : Inv m x W D) : Inv n x W D := by
  obtain ⟨h1, h2, ⟨T, h3⟩, ⟨B, h4⟩, h5, h6, h7, h8, i1, i2, i3⟩ := h
  refine ⟨hF.sh h1, hF.md h2, ⟨T, h3.kept (hF.ag (by omega))⟩, ⟨B, h4.kept (hF.ag (by omega))⟩, h5.kept (hF.ag (by omega)), h6.kept hF.ar, h7, by rw [hF.2.2.1]; exact h8, fun k hk hD => ?_, fun k hk d V hD => ?_, i3⟩
  · obtain ⟨g1, g2⟩ := i1 k hk hD
    exact ⟨by rw [(hF.2.2.2.1 (x + 59) (by omega) 27 k).2]; exact g1, by rw [(hF.2.2.2.1 (x + 162) (by omega) 24 k).1]; exact g2⟩
  · obtain ⟨g1, g2, g3, g4, g5, g6, g7⟩ := i2 k hk d V hD
    exact ⟨by rw [(hF.2.2.2.1 (x + 59) (by omega) 27 k).2]; exact g1, by rw [(hF.2.2.2.1 (x + 162) (by omega) 24 k).1]; exact g2, g3, by rw [hF.2.2.1]; exact g4, g5.kept (hF.ag (by omega)), g6.kept hF.ar, g7⟩
/-! the told's towns and laws by their numbers -/
section TDM
variable {m : MM} {t : Nat} {W : WD}
theorem c_townSeat (h : TD m t W) {i : Nat} (hi : i < 3) : f_X7_townSeat t (nI i) m = some (some (t + 4 + 18 * i), m) := by
  have e1 : ¬ nI i < 0 := nI_pos (by omega)
  have e2 : ¬ nI 3 ≤ nI i := nI_ge hi (by decide)
  simp only [g_X7_townSeat_22, g_X7_townSeat_0, f_X7_townSeat, if_neg e1, chk_t h.K, ck_e h.Rr h.K2, h.N2, ofN, if_neg e2, chk_t (inb_nI hi (by decide)), cl_nI (show i < 2 ^ 31 by omega), h.rT i hi]
theorem c_townSeat0 (h : TD m t W) {p : Int32} (hp : p < 0 ∨ 3 ≤ p) : f_X7_townSeat t p m = some (none, m) := by
  by_cases e1 : p < 0
  · simp only [g_X7_townSeat_22, g_X7_townSeat_0, f_X7_townSeat, if_pos e1]
  · have e2 : nI 3 ≤ p := hp.resolve_left e1
    simp only [g_X7_townSeat_22, g_X7_townSeat_0, f_X7_townSeat, if_neg e1, chk_t h.K, ck_e h.Rr h.K2, h.N2, ofN, if_pos e2]
theorem c_lawSeat (h : TD m t W) {i : Nat} (hi : i < 3) : f_X7_lawSeat t (nI i) m = some (some (t + 19 + 18 * i), m) := by
  have e1 : ¬ nI i < 0 := nI_pos (by omega)
  have e2 : ¬ nI 3 ≤ nI i := nI_ge hi (by decide)
  simp only [g_X7_lawSeat_22, g_X7_lawSeat_0, f_X7_lawSeat, if_neg e1, chk_t h.K, ck_e h.Rl h.K3, h.N3, ofN, if_neg e2, chk_t (inb_nI hi (by decide)), cl_nI (show i < 2 ^ 31 by omega), h.rL i hi]
theorem c_lawSeat0 (h : TD m t W) {p : Int32} (hp : p < 0 ∨ 3 ≤ p) : f_X7_lawSeat t p m = some (none, m) := by
  by_cases e1 : p < 0
  · simp only [g_X7_lawSeat_22, g_X7_lawSeat_0, f_X7_lawSeat, if_pos e1]
  · have e2 : nI 3 ≤ p := hp.resolve_left e1
    simp only [g_X7_lawSeat_22, g_X7_lawSeat_0, f_X7_lawSeat, if_neg e1, chk_t h.K, ck_e h.Rl h.K3, h.N3, ofN, if_pos e2]
/-- a number of n things from 0 on -/
def isN (n : Nat) (p : Int32) : Bool := !decide (p < 0) && !decide (nI n ≤ p)
theorem isN_iff {n : Nat} (hn : n < 2 ^ 31) {p : Int32} : isN n p = true ↔ ∃ i, i < n ∧ p = nI i := by
  simp only [isN, Bool.and_eq_true, Bool.not_eq_true', decide_eq_false_iff_not]
  constructor
  · intro ⟨h1, h2⟩
    obtain ⟨j, hj, e⟩ := nI_of h1
    refine ⟨j, ?_, e⟩
    rcases Nat.lt_or_ge j n with q | q
    · exact q
    · exact absurd (by rw [e]; exact nI_le q hj) h2
  · intro ⟨i, hi, e⟩
    subst e
    exact ⟨nI_pos (by omega), nI_ge hi (by omega)⟩
theorem isN_nI {n i : Nat} (hn : n < 2 ^ 31) (hi : i < n) : isN n (nI i) = true := (isN_iff hn).mpr ⟨i, hi, rfl⟩
theorem isN_f {n : Nat} {p : Int32} (h : isN n p = false) : p < 0 ∨ nI n ≤ p := by
  by_cases e1 : p < 0
  · exact Or.inl e1
  · by_cases e2 : nI n ≤ p
    · exact Or.inr e2
    · simp [isN, e1, e2] at h
theorem c_townAt (h : TD m t W) {i : Nat} (hi : i < W.nt) : f_X7_townAt t (nI i) m = some (some (t + 4 + 18 * i), m) := by
  have hn := h.ntle
  have e1 : ¬ nI W.nt ≤ nI i := nI_ge hi (by omega)
  simp only [g_X7_townAt_0, f_X7_townAt, chk_t h.K, h.nt, if_neg e1, c_townSeat h (show i < 3 by omega), chk_t, ck_sI, ck_sR, ck_sJ, cal_s, bnd_e, ifn_s, ifn_n]
theorem c_townAt0 (h : TD m t W) {p : Int32} (hp : isN W.nt p = false) : f_X7_townAt t p m = some (none, m) := by
  have hn := h.ntle
  by_cases e1 : nI W.nt ≤ p
  · simp only [g_X7_townAt_0, f_X7_townAt, chk_t h.K, h.nt, if_pos e1]
  · have e2 : p < 0 := (isN_f hp).resolve_right e1
    simp only [g_X7_townAt_0, f_X7_townAt, chk_t h.K, h.nt, if_neg e1, c_townSeat0 h (Or.inl e2), chk_t, ck_sI, ck_sR, ck_sJ, cal_s, bnd_e, ifn_s, ifn_n]
theorem c_lawAt (h : TD m t W) {i : Nat} (hi : i < W.nl) : f_X7_lawAt t (nI i) m = some (some (t + 19 + 18 * i), m) := by
  have hn := h.nlle
  have e1 : ¬ nI W.nl ≤ nI i := nI_ge hi (by omega)
  simp only [g_X7_lawAt_0, f_X7_lawAt, chk_t h.K, h.nl, if_neg e1, c_lawSeat h (show i < 3 by omega), chk_t, ck_sI, ck_sR, ck_sJ, cal_s, bnd_e, ifn_s, ifn_n]
theorem c_lawAt0 (h : TD m t W) {p : Int32} (hp : isN W.nl p = false) : f_X7_lawAt t p m = some (none, m) := by
  have hn := h.nlle
  by_cases e1 : nI W.nl ≤ p
  · simp only [g_X7_lawAt_0, f_X7_lawAt, chk_t h.K, h.nl, if_pos e1]
  · have e2 : p < 0 := (isN_f hp).resolve_right e1
    simp only [g_X7_lawAt_0, f_X7_lawAt, chk_t h.K, h.nl, if_neg e1, c_lawSeat0 h (Or.inl e2), chk_t, ck_sI, ck_sR, ck_sJ, cal_s, bnd_e, ifn_s, ifn_n]
end TDM
/-! the reference's questions -/
def inR (v lo hi : Int32) : Bool := !decide (v < lo) && !decide (hi < v)
theorem r_in (v lo hi : Int32) (m : MM) : f_X10_in v lo hi m = some (bI (inR v lo hi), m) := by
  simp only [g_X10_in_14, g_X10_in_0, f_X10_in, inR]
  by_cases e1 : v < lo
  · simp [e1, bI]
  · by_cases e2 : hi < v <;> simp [e1, e2, bI]
theorem inR_isN {n : Nat} (hn : n < 2 ^ 30) (p : Int32) : inR p 0 (nI n - 1) = isN n p := by
  have e : (nI n - 1).toInt = (n : Int) - 1 := by
    rw [i_sub (by rw [nI_toInt (by omega)]; omega) (by decide), nI_toInt (by omega)]
    rfl
  have key : (nI n - 1 < p) ↔ (nI n ≤ p) := by
    rw [i_lt, i_le, e, nI_toInt (by omega)]
    omega
  simp only [inR, isN, key]
section RM
variable {m : MM} {y : Nat} {W : WD}
theorem r_isTown (h : Md m y) (hw : RW m y 0 W) (hn : W.nt ≤ 3) (p : Int32) : f_X10_isTown y p m = some (bI (isN W.nt p), m) := by
  have e0 : m.I 22 (y + 5) (Int32.toNatClampNeg 0) = nI W.nt := hw.2.2.2.2.1
  simp only [g_X10_isTown_0, f_X10_isTown, chk_t h.1, h.c1105, h.n1105, chk_t (show inb 0 4 = true by decide), r_in, chk_t, ck_sI, ck_sR, ck_sJ, cal_s, bnd_e, ifn_s, ifn_n, e0, inR_isN (show W.nt < 2 ^ 30 by omega), chk_t (bI_01 _)]
theorem r_isLaw (h : Md m y) (hw : RW m y 0 W) (hn : W.nl ≤ 3) (p : Int32) : f_X10_isLaw y p m = some (bI (isN W.nl p), m) := by
  have e0 : m.I 22 (y + 28) (Int32.toNatClampNeg 0) = nI W.nl := hw.2.2.2.2.2.1
  simp only [g_X10_isLaw_0, f_X10_isLaw, chk_t h.1, h.c1128, h.n1128, chk_t (show inb 0 4 = true by decide), r_in, chk_t, ck_sI, ck_sR, ck_sJ, cal_s, bnd_e, ifn_s, ifn_n, e0, inR_isN (show W.nl < 2 ^ 30 by omega), chk_t (bI_01 _)]
theorem r_isDay (p : Int32) : f_X10_isDay p m = some (bI (isN 1000 p), m) := by
  have e : (999 : Int32) = nI 1000 - 1 := by decide
  simp only [g_X10_isDay_0, f_X10_isDay, r_in, chk_t, ck_sI, ck_sR, ck_sJ, cal_s, bnd_e, ifn_s, ifn_n, e, inR_isN (show 1000 < 2 ^ 30 by decide), chk_t (bI_01 _)]
theorem c_isDay (p : Int32) : f_X9_isDay p m = some (bI (isN 1000 p), m) := by
  have key : (999 : Int32) < p ↔ nI 1000 ≤ p := by
    rw [i_lt, i_le, nI_toInt (by decide)]
    have e : (999 : Int32).toInt = 999 := by decide
    omega
  have key2 : p ≤ (999 : Int32) ↔ ¬ nI 1000 ≤ p := by rw [← key]; exact Int32.not_lt.symm
  simp only [g_X9_isDay_15, g_X9_isDay_0, f_X9_isDay, isN]
  by_cases e1 : p < 0
  · simp [e1, bI]
  · by_cases e2 : nI 1000 ≤ p
    · simp [e1, e2, bI, key, key2]
    · simp [e1, e2, bI, key, key2]
/-- a number of a town -/
theorem r_of (h : Md m y) {k w : Nat} (hk : k < 12) (hw : w < 32) : f_X10_of y (nI k) (nI w) m = some (m.I 22 (y + 6) (32 * k + w), m) := by
  have e : (32 : Int32) * nI k + nI w = nI (32 * k + w) := by
    show nI 32 * nI k + nI w = _
    rw [pk_mul, nI_add]
  simp only [g_X10_of_0, f_X10_of, chk_t h.1, h.c1106, h.n1106, e, chk_t (inb_nI (show 32 * k + w < 384 by omega) (by decide)), cl_nI (show 32 * k + w < 2 ^ 31 by omega)]
end RM
