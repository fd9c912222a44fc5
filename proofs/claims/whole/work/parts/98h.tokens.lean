/-! the reference's reader -/
def RB (X : Tx) (y : Nat) (m : MM) : Prop := Md m y ∧ (∀ j, j < 500 → m.I 21 (y + 1) j &&& 255 = nI (X.1 j)) ∧ m.I 1139 y 0 = nI X.2 ∧ X.2 ≤ 500 ∧ ∀ j, X.1 j < 256
/-- only some numbers of the reference have changed -/
def Rs (y lo hi : Nat) (m n : MM) : Prop := n.K = m.K ∧ n.N = m.N ∧ n.S = m.S ∧ n.R = m.R ∧ (∀ s a i, a ≠ y → n.I s a i = m.I s a i) ∧ ∀ s i, (s < lo ∨ hi ≤ s ∨ s = 1139) → n.I s y i = m.I s y i
theorem Rs.rf (y lo hi : Nat) (m : MM) : Rs y lo hi m m := ⟨rfl, rfl, rfl, rfl, fun _ _ _ _ => rfl, fun _ _ _ => rfl⟩
theorem Rs.tr {y lo hi : Nat} {m n q : MM} (h1 : Rs y lo hi m n) (h2 : Rs y lo hi n q) : Rs y lo hi m q := ⟨h2.1.trans h1.1, h2.2.1.trans h1.2.1, h2.2.2.1.trans h1.2.2.1, h2.2.2.2.1.trans h1.2.2.2.1, fun s a i g => (h2.2.2.2.2.1 s a i g).trans (h1.2.2.2.2.1 s a i g), fun s i g => (h2.2.2.2.2.2 s i g).trans (h1.2.2.2.2.2 s i g)⟩
theorem Rs.up {y lo hi lo2 hi2 : Nat} {m n : MM} (h : Rs y lo hi m n) (h1 : lo2 ≤ lo) (h2 : hi ≤ hi2) : Rs y lo2 hi2 m n := ⟨h.1, h.2.1, h.2.2.1, h.2.2.2.1, h.2.2.2.2.1, fun s i g => h.2.2.2.2.2 s i (by omega)⟩
theorem Rs.sI {y lo hi : Nat} {m n : MM} (h : Rs y lo hi m n) (s i : Nat) (v : Int32) (h1 : lo ≤ s) (h2 : s < hi) (h3 : s ≠ 1139) : Rs y lo hi m (n.sI s y i v) := ⟨h.1, h.2.1, h.2.2.1, h.2.2.2.1, fun s2 a2 i2 g => by rw [I_sI, if_neg (fun q => g q.2.1)]; exact h.2.2.2.2.1 s2 a2 i2 g, fun s2 i2 g => by rw [I_sI, if_neg (by omega)]; exact h.2.2.2.2.2 s2 i2 g⟩
theorem Rs.sJ {y lo hi : Nat} {m n : MM} (h : Rs y lo hi m n) (s a i : Nat) (v : Int64) : Rs y lo hi m (n.sJ s a i v) := h
theorem RB.rs {X : Tx} {y lo hi : Nat} {m n : MM} (h : RB X y m) (o : Rs y lo hi m n) : RB X y n := ⟨h.1.kept o.1 o.2.1 (fun s => by rw [o.2.2.2.1]), fun j hj => by rw [o.2.2.2.2.1 _ _ _ (by omega)]; exact h.2.1 j hj, by rw [o.2.2.2.2.2 1139 0 (by omega)]; exact h.2.2.1, h.2.2.2.1, h.2.2.2.2⟩
section RTok
variable {X : Tx} {y : Nat} {m : MM}
theorem r_see (h : RB X y m) {p : Nat} (hp : p < X.2) (e : m.I 1138 y 0 = nI p) : f_X10_see y m = some (nI (X.1 p), m) := by
  obtain ⟨h1, h2, h3, h4, h5⟩ := h
  unfold f_X10_see g_X10_see_0
  rw [chk_t h1.1, h3, e, if_neg (nI_ge hp (by omega)), h1.c1101, h1.n1101, chk_t (inb_nI (show p < 2000 by omega) (by decide)), cl_nI (by omega), h2 p (by omega)]
theorem r_see0 (h : RB X y m) (e : m.I 1138 y 0 = nI X.2) : f_X10_see y m = some (-1, m) := by
  obtain ⟨h1, h2, h3, h4, h5⟩ := h
  unfold f_X10_see g_X10_see_0
  rw [chk_t h1.1, h3, e, if_pos (Int32.le_refl _)]
theorem r_blanks (h : RB X y m) {p : Nat} (hp : p ≤ X.2) (e : m.I 1138 y 0 = nI p) (K : MM → Option (Unit × MM)) : ∃ n, l_X10_token_0 y K FU m = K n ∧ Rs y 1138 1139 m n ∧ n.I 1138 y 0 = nI (tkS X p) := by
  obtain ⟨n, ⟨e1, e2⟩, e3⟩ := lp_sc (fun n (s : MM) => l_X10_token_0 y K n s) isBl X (fun j s => Rs y 1138 1139 m s ∧ s.I 1138 y 0 = nI j) (fun s => K s) (fun j s hj hP hI => by
    obtain ⟨g1, g2⟩ := hI
    have h' := h.rs g1
    have hb := h.2.2.2.2 j
    refine ⟨s.sI 1138 y 0 (nI (j + 1)), ⟨g1.sI _ _ _ (by omega) (by omega) (by omega), by rw [I_sI, if_pos ⟨rfl, rfl, rfl⟩]⟩, fun q => ?_⟩
    show g_X10_token_0 y (l_X10_token_0 y K q) K s = l_X10_token_0 y K q _
    unfold g_X10_token_0 g_X10_token_18
    rw [chk_t h'.1.1, r_see h' hj g2, cal_s]
    by_cases z : X.1 j = 10
    · rw [if_pos (show nI (X.1 j) = 10 by rw [z]; rfl), chk_t h'.1.1, bnd_e, g2, nI_1]
    · have z2 : X.1 j = 32 := by simpa [isBl, z] using hP
      rw [if_neg (nl (v := 10) (k := 10) rfl z (by omega) (by omega)), chk_t h'.1.1, r_see h' hj g2, cal_s, if_pos (show nI (X.1 j) = 32 by rw [z2]; rfl), chk_t h'.1.1, bnd_e, g2, nI_1]) (fun j s hj hP hI q => by
    obtain ⟨g1, g2⟩ := hI
    have h' := h.rs g1
    have hb := h.2.2.2.2 j
    show g_X10_token_0 y (l_X10_token_0 y K q) K s = K s
    unfold g_X10_token_0
    rcases hP with z | ⟨z1, z2⟩
    · have e0 : f_X10_see y s = some (-1, s) := r_see0 h' (by rw [g2, z])
      rw [chk_t h'.1.1, e0, cal_s, if_neg (by decide), chk_t h'.1.1, e0, cal_s, if_neg (by decide)]
    · have z3 : X.1 j ≠ 10 ∧ X.1 j ≠ 32 := by simpa [isBl] using z2
      rw [chk_t h'.1.1, r_see h' z1 g2, cal_s, if_neg (nl (v := 10) (k := 10) rfl z3.1 (by omega) (by omega)), chk_t h'.1.1, r_see h' z1 g2, cal_s, if_neg (nl (v := 32) (k := 32) rfl z3.2 (by omega) (by omega))]) (X.2 - p) p m (by omega) ⟨Rs.rf _ _ _ m, e⟩
  exact ⟨n, e3 FU (by unfold FU; have := h.2.2.2.1; omega), e1, e2⟩
theorem r_inL {c : Nat} (h : c < 256) (m : MM) : f_X10_in (nI c) 97 122 m = some (bI (isLe c), m) := by
  rw [r_in]
  congr 2
  unfold inR isLe
  by_cases e1 : 97 ≤ c
  · rw [decide_eq_false (show ¬ nI c < 97 from nI_nlt (b := 97) e1 (by omega)), decide_eq_true e1]
    by_cases e2 : c ≤ 122
    · rw [decide_eq_false (show ¬ (122 : Int32) < nI c from nI_nlt (a := 122) e2 (by decide)), decide_eq_true e2]; rfl
    · rw [decide_eq_true (show (122 : Int32) < nI c from nI_lt (a := 122) (by omega) (by omega)), decide_eq_false e2]; rfl
  · rw [decide_eq_true (show nI c < 97 from nI_lt (b := 97) (by omega) (by decide)), decide_eq_false e1]; rfl
theorem r_inD {c : Nat} (h : c < 256) (m : MM) : f_X10_in (nI c) 48 57 m = some (bI (isDi c), m) := by
  rw [r_in]
  congr 2
  unfold inR isDi
  by_cases e1 : 48 ≤ c
  · rw [decide_eq_false (show ¬ nI c < 48 from nI_nlt (b := 48) e1 (by omega)), decide_eq_true e1]
    by_cases e2 : c ≤ 57
    · rw [decide_eq_false (show ¬ (57 : Int32) < nI c from nI_nlt (a := 57) e2 (by decide)), decide_eq_true e2]; rfl
    · rw [decide_eq_true (show (57 : Int32) < nI c from nI_lt (a := 57) (by omega) (by omega)), decide_eq_false e2]; rfl
  · rw [decide_eq_true (show nI c < 48 from nI_lt (b := 48) (by omega) (by decide)), decide_eq_false e1]; rfl
theorem tN_shl8 (j : Int64) (c : Nat) (h : tN j < 2 ^ 56) (hc : c < 256) : tN ((j <<< (Int32.toInt64 8 &&& 63)) ||| (Int32.toInt64 (nI c))) = tN j * 256 + c := by
  have e8 : (Int32.toInt64 8 &&& 63) = 8 := by decide
  rw [e8]
  have e1 : tN (j <<< 8) = tN j * 256 := by
    unfold tN at *
    rw [Int64.toBitVec_shiftLeft]
    show (j.toBitVec <<< (8 : Nat)).toNat = _
    rw [BitVec.toNat_shiftLeft, Nat.shiftLeft_eq]
    omega
  have e2 : tN (Int32.toInt64 (nI c)) = c := by
    rw [nI_l (by omega)]
    unfold tN lN
    show (BitVec.ofNat 64 c).toNat = c
    rw [BitVec.toNat_ofNat]
    omega
  have e3 : tN ((j <<< 8) ||| (Int32.toInt64 (nI c))) = tN (j <<< 8) ||| tN (Int32.toInt64 (nI c)) := by
    unfold tN
    rw [Int64.toBitVec_or, BitVec.toNat_or]
  rw [e3, e1, e2, show tN j * 256 = tN j <<< 8 from by rw [Nat.shiftLeft_eq], ← Nat.shiftLeft_add_eq_or_of_lt (by omega : c < 2 ^ 8)]
theorem cdT_lw {b : Nat → Nat} {s n : Nat} (h : ∀ i, i < n → isLe (b (s + i)) = true) (hn : n ≤ 7) : cdT (lwT b s n) < 2 ^ 56 := by
  have h1 := cdT_lt (lwT b s n) (fun c hc => (lwT_in h c hc).2)
  rw [lwT_len] at h1
  have h2 : 256 ^ n ≤ 256 ^ 7 := Nat.pow_le_pow_right (by omega) hn
  have : (256 : Nat) ^ 7 = 2 ^ 56 := by decide
  omega
theorem r_letters (h : RB X y m) {p : Nat} (hp : p ≤ X.2) (e : m.I 1138 y 0 = nI p) (ej : m.J 1143 y 0 = 0) (K : Int32 → MM → Option (Unit × MM)) : ∃ n, l_X10_token_74 y K FU 0 m = K (nI (tkE isLe X p - p)) n ∧ Rs y 1138 1139 m n ∧ n.I 1138 y 0 = nI (tkE isLe X p) ∧ (tkE isLe X p - p ≤ 8 → tN (n.J 1143 y 0) = cdT (lwT X.1 p (tkE isLe X p - p))) := by
  obtain ⟨⟨i', n⟩, ⟨e1, e2, e3, e4, e6, e7⟩, e5⟩ := lp_sc (fun n (s : Int32 × MM) => l_X10_token_74 y K n s.1 s.2) isLe X (fun j s => s.1 = nI (j - p) ∧ p ≤ j ∧ Rs y 1138 1139 m s.2 ∧ s.2.I 1138 y 0 = nI j ∧ (∀ i, i < j - p → isLe (X.1 (p + i)) = true) ∧ (j - p ≤ 8 → tN (s.2.J 1143 y 0) = cdT (lwT X.1 p (j - p)))) (fun s => K s.1 s.2) (fun j s hj hP hI => by
    obtain ⟨i, n⟩ := s
    obtain ⟨g1, g2, g3, g4, g5, g6⟩ := hI
    dsimp only at g1 g2 g3 g4 g5 g6
    subst g1
    have h' := h.rs g3
    have hb := h.2.2.2.2 j
    refine ⟨(nI (j + 1 - p), (n.sJ 1143 y 0 ((n.J 1143 y 0 <<< (Int32.toInt64 8 &&& 63)) ||| (Int32.toInt64 (nI (X.1 j))))).sI 1138 y 0 (nI (j + 1))), ⟨rfl, by omega, (g3.sJ _ _ _ _).sI _ _ _ (by omega) (by omega) (by omega), by dsimp only; rw [I_sI, if_pos ⟨rfl, rfl, rfl⟩], fun i hi => ?_, fun hl => ?_⟩, fun q => ?_⟩
    · rcases Nat.lt_or_ge i (j - p) with u | u
      · exact g5 i u
      · rw [show p + i = j by omega]; exact hP
    · dsimp only
      rw [J_sI, J_sJ, if_pos ⟨rfl, rfl, rfl⟩]
      have k1 := g6 (by omega)
      have k2 := cdT_lw g5 (show j - p ≤ 7 by omega)
      rw [tN_shl8 _ _ (by rw [k1]; exact k2) hb, k1, show j + 1 - p = (j - p) + 1 by omega, lwT_s, cdT_app, show p + (j - p) = j by omega]
    · show g_X10_token_74 y (l_X10_token_74 y K q) K (nI (j - p)) n = l_X10_token_74 y K q (nI (j + 1 - p)) _
      unfold g_X10_token_74
      rw [chk_t h'.1.1, r_see h' hj g4, cal_s, r_inL hb, cal_s, hP, if_neg (show ¬ bI true = 0 by decide), chk_t h'.1.1, r_see h' hj g4, cal_s, chk_t h'.1.1, bnd_e, bnd_e, I_sJ, g4, nI_1, nI_1, show j - p + 1 = j + 1 - p by omega]) (fun j s hj hP hI q => by
    obtain ⟨i, n⟩ := s
    obtain ⟨g1, g2, g3, g4, g5, g6⟩ := hI
    dsimp only at g1 g2 g3 g4 g5 g6
    subst g1
    have h' := h.rs g3
    have hb := h.2.2.2.2 j
    show g_X10_token_74 y (l_X10_token_74 y K q) K (nI (j - p)) n = K (nI (j - p)) n
    unfold g_X10_token_74
    rcases hP with z | ⟨z1, z2⟩
    · have e0 : f_X10_see y n = some (-1, n) := r_see0 h' (by rw [g4, z])
      rw [chk_t h'.1.1, e0, cal_s, r_in, cal_s, if_pos (show bI (inR (-1) 97 122) = 0 by decide)]
    · rw [chk_t h'.1.1, r_see h' z1 g4, cal_s, r_inL hb, cal_s, z2, if_pos (show bI false = 0 by rfl)]) (X.2 - p) p (nI 0, m) (by omega) ⟨by rw [Nat.sub_self], Nat.le_refl _, Rs.rf _ _ _ m, e, fun i hi => by omega, fun _ => by dsimp only; rw [ej, Nat.sub_self]; rfl⟩
  dsimp only at e1 e2 e3 e4 e6 e7
  subst e1
  exact ⟨n, e5 FU (by unfold FU; have := h.2.2.2.1; omega), e3, e4, e7⟩
theorem r_digits (h : RB X y m) {p : Nat} (hp : p ≤ X.2) (e : m.I 1138 y 0 = nI p) (ev : m.I 1142 y 0 = 0) (K : Int32 → MM → Option (Unit × MM)) : ∃ n, l_X10_token_163 y K FU 0 m = K (nI (tkE isDi X p - p)) n ∧ Rs y 1138 1143 m n ∧ (∀ s, s = 1140 ∨ s = 1141 → n.I s y 0 = m.I s y 0) ∧ n.I 1138 y 0 = nI (tkE isDi X p) ∧ n.I 1142 y 0 = nI (dvN X.1 p (tkE isDi X p - p)) := by
  obtain ⟨⟨i', n⟩, ⟨e1, e2, e3, e4, e6, e7⟩, e5⟩ := lp_sc (fun n (s : Int32 × MM) => l_X10_token_163 y K n s.1 s.2) isDi X (fun j s => s.1 = nI (j - p) ∧ p ≤ j ∧ Rs y 1138 1143 m s.2 ∧ s.2.I 1138 y 0 = nI j ∧ (∀ t, t = 1140 ∨ t = 1141 → s.2.I t y 0 = m.I t y 0) ∧ s.2.I 1142 y 0 = nI (dvN X.1 p (j - p))) (fun s => K s.1 s.2) (fun j s hj hP hI => by
    obtain ⟨i, n⟩ := s
    obtain ⟨g1, g2, g3, g4, g5, g6⟩ := hI
    dsimp only at g1 g2 g3 g4 g5 g6
    subst g1
    have h' := h.rs g3
    have hb := h.2.2.2.2 j
    have hc := isDi_e hP
    have h15 := h.2.2.2.1
    refine ⟨(nI (j + 1 - p), (n.sI 1142 y 0 (nI (dvN X.1 p (j + 1 - p)))).sI 1138 y 0 (nI (j + 1))), ⟨rfl, by omega, (g3.sI _ _ _ (by omega) (by omega) (by omega)).sI _ _ _ (by omega) (by omega) (by omega), by dsimp only; rw [I_sI, if_pos ⟨rfl, rfl, rfl⟩], fun t ht => ?_, ?_⟩, fun q => ?_⟩
    · dsimp only
      rw [I_sI, if_neg (by omega), I_sI, if_neg (by omega)]; exact g5 t ht
    · dsimp only
      rw [I_sI, if_neg (by omega), I_sI, if_pos ⟨rfl, rfl, rfl⟩]
    · show g_X10_token_163 y (l_X10_token_163 y K q) K (nI (j - p)) n = l_X10_token_163 y K q (nI (j + 1 - p)) _
      have es : dvN X.1 p (j + 1 - p) = if j - p < 4 then dvN X.1 p (j - p) * 10 + X.1 j - 48 else dvN X.1 p (j - p) := by
        rw [show j + 1 - p = (j - p) + 1 by omega]
        show (if j - p < 4 then dvN X.1 p (j - p) * 10 + X.1 (p + (j - p)) - 48 else _) = _
        rw [show p + (j - p) = j by omega]
      unfold g_X10_token_163 g_X10_token_205
      rw [chk_t h'.1.1, r_see h' hj g4, cal_s, r_inD hb, cal_s, hP, if_neg (show ¬ bI true = 0 by decide)]
      have f8 : ∀ v, (n.sI 1142 y 0 v).I 1138 y 0 + 1 = nI (j + 1) := fun v => by rw [I_sI, if_neg (by omega), g4, nI_1]
      have kv : ∀ v, (n.sI 1142 y 0 v).K y = 11 := fun v => h'.1.1
      by_cases k : j - p < 4
      · rw [if_neg (show ¬ (4 : Int32) ≤ nI (j - p) from nI_ge (b := 4) k (by decide)), chk_t h'.1.1, r_see h' hj g4, cal_s, ck_s h'.1.1, bnd_e, chk_t (kv _), bnd_e, f8, nI_1, es, if_pos k, g6, show j - p + 1 = j + 1 - p by omega]
        have ev : 10 * nI (dvN X.1 p (j - p)) + nI (X.1 j) - 48 = nI (dvN X.1 p (j - p) * 10 + X.1 j - 48) := by
          show nI 10 * nI (dvN X.1 p (j - p)) + nI (X.1 j) - nI 48 = _
          rw [pk_mul, nI_add, nI_sb (by omega), Nat.mul_comm 10]
        rw [ev]
      · rw [if_pos (show (4 : Int32) ≤ nI (j - p) from nI_le (a := 4) (by omega) (by omega)), chk_t h'.1.1, ck_s h'.1.1, bnd_e, chk_t (kv _), bnd_e, f8, nI_1, es, if_neg k, g6, show j - p + 1 = j + 1 - p by omega]) (fun j s hj hP hI q => by
    obtain ⟨i, n⟩ := s
    obtain ⟨g1, g2, g3, g4, g5, g6⟩ := hI
    dsimp only at g1 g2 g3 g4 g5 g6
    subst g1
    have h' := h.rs g3
    have hb := h.2.2.2.2 j
    show g_X10_token_163 y (l_X10_token_163 y K q) K (nI (j - p)) n = K (nI (j - p)) n
    unfold g_X10_token_163
    rcases hP with z | ⟨z1, z2⟩
    · have e0 : f_X10_see y n = some (-1, n) := r_see0 h' (by rw [g4, z])
      rw [chk_t h'.1.1, e0, cal_s, r_in, cal_s, if_pos (show bI (inR (-1) 48 57) = 0 by decide)]
    · rw [chk_t h'.1.1, r_see h' z1 g4, cal_s, r_inD hb, cal_s, z2, if_pos (show bI false = 0 by rfl)]) (X.2 - p) p (nI 0, m) (by omega) ⟨by rw [Nat.sub_self], Nat.le_refl _, Rs.rf _ _ _ m, e, fun _ _ => rfl, by dsimp only; rw [ev, Nat.sub_self]; rfl⟩
  dsimp only at e1 e2 e3 e4 e6 e7
  subst e1
  exact ⟨n, e5 FU (by unfold FU; have := h.2.2.2.1; omega), e3, e6, e4, e7⟩
def rkT (k : Nat) : Nat := if k = 0 then 0 else if k = 1 then 2 else if k = 2 then 3 else if k = 3 then 4 else 1
def RTk (X : Tx) (y : Nat) (m : MM) (p : Nat) : Prop := m.I 1141 y 0 = nI (rkT (tkK X p)) ∧ m.I 1140 y 0 = nI (tkS X p) ∧ (tkK X p ≠ 4 → m.I 1138 y 0 = nI (tkN X p)) ∧ (tkK X p = 2 → m.I 1142 y 0 = nI (tkV X p)) ∧ (tkK X p = 1 → JW X p (m.J 1143 y 0))
theorem r_token0 (h : RB X y m) {p : Nat} (hp : p ≤ X.2) (e : m.I 1138 y 0 = nI p) : ∃ n, f_X10_token y m = some ((), n) ∧ Rs y 1138 1143 m n ∧ RTk X y n p := by
  have hs := tkS_le hp
  have h15 := h.2.2.2.1
  have h16 := h.2.2.2.2
  obtain ⟨n0, z1, z2, z3⟩ := r_blanks h hp e (g_X10_token_31 y)
  unfold f_X10_token
  rw [z1]
  have c0 : Rs y 1138 1143 m n0 := z2.up (by omega) (by omega)
  have b0 := h.rs c0
  unfold g_X10_token_31
  rw [chk_t b0.1.1, bnd_e, z3]
  have c1 : Rs y 1138 1143 m (n0.sI 1140 y 0 (nI (tkS X p))) := c0.sI _ _ _ (by omega) (by omega) (by omega)
  have a0 : (n0.sI 1140 y 0 (nI (tkS X p))).I 1140 y 0 = nI (tkS X p) := by rw [I_sI, if_pos ⟨rfl, rfl, rfl⟩]
  have a8 : (n0.sI 1140 y 0 (nI (tkS X p))).I 1138 y 0 = nI (tkS X p) := by rw [I_sI, if_neg (by omega)]; exact z3
  generalize n0.sI 1140 y 0 (nI (tkS X p)) = m1 at c1 a0 a8 ⊢
  have b1 := h.rs c1
  by_cases e1 : X.2 ≤ tkS X p
  · have ee : tkS X p = X.2 := by omega
    have hk : tkK X p = 0 := by unfold tkK; rw [if_pos e1]
    rw [r_see0 b1 (by rw [a8, ee]), cal_s, chk_t b1.1.1, bnd_e, if_neg (show ¬ (0 : Int32) ≤ -1 by decide), bnd_e]
    refine ⟨_, rfl, (c1.sJ _ _ _ _).sI _ _ _ (by omega) (by omega) (by omega), ?_, ?_, fun _ => ?_, fun k => by omega, fun k => by omega⟩
    · rw [I_sI, if_pos ⟨rfl, rfl, rfl⟩, hk]; rfl
    · rw [I_sI, if_neg (by omega)]; exact a0
    · rw [I_sI, if_neg (by omega)]; unfold tkN; rw [if_pos e1]; exact a8
  · have hlt : tkS X p < X.2 := by omega
    have hb := h16 (tkS X p)
    rw [r_see b1 hlt a8, cal_s, chk_t b1.1.1, bnd_e, if_pos (nI_pos' (by omega))]
    have c2 : Rs y 1138 1143 m (m1.sJ 1143 y 0 0) := c1.sJ _ _ _ _
    have b2 := h.rs c2
    have j2 : (m1.sJ 1143 y 0 0).J 1143 y 0 = 0 := by rw [J_sJ, if_pos ⟨rfl, rfl, rfl⟩]
    have a0' : (m1.sJ 1143 y 0 0).I 1140 y 0 = nI (tkS X p) := a0
    have a8' : (m1.sJ 1143 y 0 0).I 1138 y 0 = nI (tkS X p) := a8
    generalize m1.sJ 1143 y 0 0 = m2 at c2 b2 j2 a0' a8' ⊢
    rw [r_inL hb, cal_s]
    by_cases e3 : isLe (X.1 (tkS X p)) = true
    · have n59 : X.1 (tkS X p) ≠ 59 := by have := isLe_e e3; omega
      have hk : tkK X p = 1 := by unfold tkK; rw [if_neg e1, if_neg n59, if_pos e3]
      rw [e3, if_neg (show ¬ bI true = 0 by decide)]
      obtain ⟨n, d1, d2, d3, d4⟩ := r_letters b2 hs a8' j2 (g_X10_token_121 y)
      have c3 : Rs y 1138 1143 m n := c2.tr (d2.up (by omega) (by omega))
      have b3 := h.rs c3
      have hD : tkE isLe X (tkS X p) = tkL X p := rfl
      have hDl : tkL X p ≤ X.2 := tkE_le _ hs
      rw [hD] at d1 d3 d4
      rw [d1]
      have hW : tkW X p = lwT X.1 (tkS X p) (tkL X p - tkS X p) := rfl
      unfold g_X10_token_121 g_X10_token_136
      by_cases e5 : tkL X p - tkS X p ≤ 8
      · rw [if_pos (show nI (tkL X p - tkS X p) ≤ 8 from nI_le (b := 8) e5 (by decide)), chk_t b3.1.1, ck_s b3.1.1, bnd_e, chk_t (show (n.sJ 1143 y 0 (n.J 1143 y 0)).K y = 11 from b3.1.1), bnd_e]
        refine ⟨_, rfl, (c3.sJ _ _ _ _).sI _ _ _ (by omega) (by omega) (by omega), ?_, ?_, fun _ => ?_, fun k => by omega, fun k => ?_⟩
        · rw [I_sI, if_pos ⟨rfl, rfl, rfl⟩, hk]; rfl
        · rw [I_sI, if_neg (by omega), I_sJ, d2.2.2.2.2.2 1140 0 (by omega)]; exact a0'
        · rw [I_sI, if_neg (by omega), I_sJ, d3, tkN_1 hk]
        · unfold JW
          rw [if_pos (by rw [tkW_len]; exact e5), J_sI, J_sJ, if_pos ⟨rfl, rfl, rfl⟩, d4 e5, hW]
      · rw [if_neg (show ¬ nI (tkL X p - tkS X p) ≤ 8 from nI_ge (a := 8) (by omega) (by omega)), ck_s b3.1.1, bnd_e, chk_t (show (n.sJ 1143 y 0 0).K y = 11 from b3.1.1), bnd_e]
        refine ⟨_, rfl, (c3.sJ _ _ _ _).sI _ _ _ (by omega) (by omega) (by omega), ?_, ?_, fun _ => ?_, fun k => by omega, fun k => ?_⟩
        · rw [I_sI, if_pos ⟨rfl, rfl, rfl⟩, hk]; rfl
        · rw [I_sI, if_neg (by omega), I_sJ, d2.2.2.2.2.2 1140 0 (by omega)]; exact a0'
        · rw [I_sI, if_neg (by omega), I_sJ, d3, tkN_1 hk]
        · unfold JW
          rw [if_neg (by rw [tkW_len]; exact e5), J_sI, J_sJ, if_pos ⟨rfl, rfl, rfl⟩]
    · rw [Bool.not_eq_true _ |>.mp e3, if_pos (show bI false = 0 by rfl), r_inD hb, cal_s]
      by_cases e4 : isDi (X.1 (tkS X p)) = true
      · have n59 : X.1 (tkS X p) ≠ 59 := by have := isDi_e e4; omega
        rw [e4, if_neg (show ¬ bI true = 0 by decide), chk_t b2.1.1, bnd_e]
        have c3 : Rs y 1138 1143 m (m2.sI 1142 y 0 0) := c2.sI _ _ _ (by omega) (by omega) (by omega)
        have b3 := h.rs c3
        obtain ⟨n, d1, d2, d5, d3, d4⟩ := r_digits b3 hs (by rw [I_sI, if_neg (by omega)]; exact a8') (by rw [I_sI, if_pos ⟨rfl, rfl, rfl⟩]) (g_X10_token_224 y)
        have c4 : Rs y 1138 1143 m n := c3.tr d2
        have b4 := h.rs c4
        have hD : tkE isDi X (tkS X p) = tkD X p := rfl
        have hDl : tkD X p ≤ X.2 := tkE_le _ hs
        rw [hD] at d1 d3 d4
        rw [d1]
        have n0 : n.I 1140 y 0 = nI (tkS X p) := by rw [d5 1140 (.inl rfl), I_sI, if_neg (by omega)]; exact a0'
        have hN : tkN X p = tkD X p := by unfold tkN; rw [if_neg e1, if_neg n59, if_neg e3, if_pos e4]
        unfold g_X10_token_224 g_X10_token_235
        by_cases e5 : tkD X p - tkS X p ≤ 4
        · have hk : tkK X p = 2 := by unfold tkK; rw [if_neg e1, if_neg n59, if_neg e3, if_pos e4, if_pos e5]
          rw [if_pos (show nI (tkD X p - tkS X p) ≤ 4 from nI_le (b := 4) e5 (by decide)), ck_s b4.1.1, bnd_e]
          refine ⟨_, rfl, c4.sI _ _ _ (by omega) (by omega) (by omega), ?_, ?_, fun _ => ?_, fun k => ?_, fun k => by omega⟩
          · rw [I_sI, if_pos ⟨rfl, rfl, rfl⟩, hk]; rfl
          · rw [I_sI, if_neg (by omega)]; exact n0
          · rw [I_sI, if_neg (by omega), d3, hN]
          · rw [I_sI, if_neg (by omega), d4]; rfl
        · have hk : tkK X p = 4 := by unfold tkK; rw [if_neg e1, if_neg n59, if_neg e3, if_pos e4, if_neg e5]
          rw [if_neg (show ¬ nI (tkD X p - tkS X p) ≤ 4 from nI_ge (a := 4) (by omega) (by omega)), ck_s b4.1.1, bnd_e]
          refine ⟨_, rfl, c4.sI _ _ _ (by omega) (by omega) (by omega), ?_, ?_, fun k => absurd hk k, fun k => by omega, fun k => by omega⟩
          · rw [I_sI, if_pos ⟨rfl, rfl, rfl⟩, hk]; rfl
          · rw [I_sI, if_neg (by omega)]; exact n0
      · rw [Bool.not_eq_true _ |>.mp e4, if_pos (show bI false = 0 by rfl), chk_t b2.1.1, bnd_e, a8', nI_1]
        have c3 : Rs y 1138 1143 m (m2.sI 1138 y 0 (nI (tkS X p + 1))) := c2.sI _ _ _ (by omega) (by omega) (by omega)
        have b3 := h.rs c3
        unfold g_X10_token_263
        by_cases n59 : X.1 (tkS X p) = 59
        · have hk : tkK X p = 3 := by unfold tkK; rw [if_neg e1, if_pos n59]
          rw [if_pos (show nI (X.1 (tkS X p)) = 59 by rw [n59]; rfl), ck_s b3.1.1, bnd_e]
          refine ⟨_, rfl, c3.sI _ _ _ (by omega) (by omega) (by omega), ?_, ?_, fun _ => ?_, fun k => by omega, fun k => by omega⟩
          · rw [I_sI, if_pos ⟨rfl, rfl, rfl⟩, hk]; rfl
          · rw [I_sI, if_neg (by omega), I_sI, if_neg (by omega)]; exact a0'
          · rw [I_sI, if_neg (by omega), I_sI, if_pos ⟨rfl, rfl, rfl⟩]; unfold tkN; rw [if_neg e1, if_pos n59]
        · have hk : tkK X p = 4 := by unfold tkK; rw [if_neg e1, if_neg n59, if_neg e3, if_neg e4]
          rw [if_neg (nl (v := 59) (k := 59) rfl n59 (by omega) (by omega)), ck_s b3.1.1, bnd_e]
          refine ⟨_, rfl, c3.sI _ _ _ (by omega) (by omega) (by omega), ?_, ?_, fun k => absurd hk k, fun k => by omega, fun k => by omega⟩
          · rw [I_sI, if_pos ⟨rfl, rfl, rfl⟩, hk]; rfl
          · rw [I_sI, if_neg (by omega), I_sI, if_neg (by omega)]; exact a0'
end RTok
