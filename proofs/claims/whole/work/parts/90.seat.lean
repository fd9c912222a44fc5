/-! guests and their seats -/
def gst (k : Nat) (f : Int32) (p : Nat) : BD := (k, p % 8, p / 8, f, 0)
def samB (a b : BD) : Bool := decide (a.x = b.x) && decide (a.y = b.y)
def styB (T : TW) (B : LW) (d : Nat) (wo : Int32) (O : Nat → Bool) (G : BD) : Bool := !(List.range 12).any (fun i => O i && (samB (bdy T d i) G || clB T B 0 (bt 255) (clL T d) wo G (bdy T d i)))
def opP (T : TW) (B : LW) (d : Nat) (wo : Int32) (O : Nat → Bool) (k : Nat) (f : Int32) (p : Nat) : Bool := hasPt T (nI (p % 8)) (nI (p / 8)) && styB T B d wo O (gst k f p)
theorem gst_v {k p : Nat} {f : Int32} (hk : k < 6) (hf : f = -1 ∨ nB f 4) (hp : p < 64) : VB (gst k f p) := ⟨hk, show p % 8 < 8 by omega, show p / 8 < 8 by omega, hf, Nat.zero_le 9⟩
/-- only the seat of guest i has changed -/
def Gi (x i : Nat) (m n : MM) : Prop := n.K = m.K ∧ n.N = m.N ∧ n.S = m.S ∧ n.R = m.R ∧ n.J = m.J ∧ ∀ s a j, ¬ (a = x + 101 + i ∧ (s = 101 ∨ s = 102)) → n.I s a j = m.I s a j
theorem Gi.rf (x i : Nat) (m : MM) : Gi x i m m := ⟨rfl, rfl, rfl, rfl, rfl, fun _ _ _ _ => rfl⟩
theorem Gi.tr {x i : Nat} {m n q : MM} (h1 : Gi x i m n) (h2 : Gi x i n q) : Gi x i m q := ⟨h2.1.trans h1.1, h2.2.1.trans h1.2.1, h2.2.2.1.trans h1.2.2.1, h2.2.2.2.1.trans h1.2.2.2.1, h2.2.2.2.2.1.trans h1.2.2.2.2.1, fun s a j hh => (h2.2.2.2.2.2 s a j hh).trans (h1.2.2.2.2.2 s a j hh)⟩
/-- only the planner has changed -/
def Pn (x : Nat) (m n : MM) : Prop := n.K = m.K ∧ n.N = m.N ∧ n.S = m.S ∧ n.R = m.R ∧ ∀ s a j, a ≠ x + 99 → (a < x + 101 ∨ x + 104 ≤ a) → n.I s a j = m.I s a j
theorem Pn.rf (x : Nat) (m : MM) : Pn x m m := ⟨rfl, rfl, rfl, rfl, fun _ _ _ _ _ => rfl⟩
theorem Pn.tr {x : Nat} {m n q : MM} (h1 : Pn x m n) (h2 : Pn x n q) : Pn x m q := ⟨h2.1.trans h1.1, h2.2.1.trans h1.2.1, h2.2.2.1.trans h1.2.2.1, h2.2.2.2.1.trans h1.2.2.2.1, fun s a j g1 g2 => (h2.2.2.2.2 s a j g1 g2).trans (h1.2.2.2.2 s a j g1 g2)⟩
theorem Pn.sI {x : Nat} {m n : MM} (h : Pn x m n) (s a j : Nat) (v : Int32) (ha : a = x + 99 ∨ (x + 101 ≤ a ∧ a < x + 104)) : Pn x m (n.sI s a j v) := ⟨h.1, h.2.1, h.2.2.1, h.2.2.2.1, fun s2 a2 j2 g1 g2 => by rw [I_sI, if_neg (fun q => by omega)]; exact h.2.2.2.2 s2 a2 j2 g1 g2⟩
theorem Pn.sJ {x : Nat} {m n : MM} (h : Pn x m n) (s a j : Nat) (v : Int64) : Pn x m (n.sJ s a j v) := h
theorem Gi.p {x i : Nat} {m n : MM} (hi : i < 3) (h : Gi x i m n) : Pn x m n := ⟨h.1, h.2.1, h.2.2.1, h.2.2.2.1, fun s a j g1 g2 => h.2.2.2.2.2 s a j (by omega)⟩
theorem Pn.f {x : Nat} {m n : MM} (h : Pn x m n) : Fq x m n := ⟨h.1, h.2.1, h.2.2.1, fun a ha s i => ⟨h.2.2.2.2 s a i (by omega) (by omega), by rw [h.2.2.2.1]⟩, fun s a i _ _ => by rw [h.2.2.2.1]⟩
theorem CS.pn {m n : MM} {x t l d w : Nat} {T : TW} {B : LW} {ho wo : Int32} (h : CS m x t l T B d w ho wo) (o : Pn x m n) : CS n x t l T B d w ho wo := by
  obtain ⟨hS, ⟨k1, k2, k3, k4, k5, k6, k7, k8, k9⟩, V, VB', hw, h605, hb, ht, hl⟩ := h
  have e : ∀ s a i, a < x + 95 → n.I s a i = m.I s a i := fun s a i ha => o.2.2.2.2 s a i (by omega) (by omega)
  have ag : ∀ lo hi, hi ≤ x + 95 → Ag m n lo hi := fun lo hi hh a g1 g2 => ⟨by rw [o.1], by rw [o.2.1], fun s i => e s a i (by omega), fun s i => by rw [o.2.2.2.1]⟩
  have hn := k4.n0.2.2
  refine ⟨hS.kept o.1 o.2.1 (fun s a i _ _ _ => by rw [o.2.2.2.1]), ⟨by rw [o.1]; exact k1, by rw [o.2.2.2.1]; exact k2, by rw [o.2.2.2.1]; exact k3, k4.kept (ag _ _ (by omega)), k5.kept (ag _ _ (by omega)), by rw [e _ _ _ (by omega)]; exact k6, by rw [e _ _ _ (by omega)]; exact k7, by rw [e _ _ _ (by omega)]; exact k8, by rw [e _ _ _ (by omega)]; exact k9⟩, V, VB', hw, by rw [e _ _ _ (by omega)]; exact h605, fun k hk => (hb k hk).kept (by rw [o.1]) (fun s => e _ _ _ (by omega)), ht, hl⟩
/-- guest i is of this kind and faces so -/
def Wl (m : MM) (x i k : Nat) (f : Int32) : Prop := m.K (x + 101 + i) = 1 ∧ m.I 100 (x + 101 + i) 0 = nI k ∧ m.I 103 (x + 101 + i) 0 = f ∧ m.I 104 (x + 101 + i) 0 = nI 0
theorem Wl.gi {m n : MM} {x i k i2 : Nat} {f : Int32} (h : Wl m x i k f) (o : Gi x i2 m n) : Wl n x i k f := ⟨by rw [o.1]; exact h.1, by rw [o.2.2.2.2.2 _ _ _ (by omega)]; exact h.2.1, by rw [o.2.2.2.2.2 _ _ _ (by omega)]; exact h.2.2.1, by rw [o.2.2.2.2.2 _ _ _ (by omega)]; exact h.2.2.2⟩
section GST
variable {m : MM} {x t l d i k p : Nat} {T : TW} {B : LW} {ho wo f : Int32}
theorem c_guest (hS : Sh m x) (hi : i < 3) : f_X3_guest (x + 99) (nI i) m = some (some (x + 101 + i), m) := by
  have e1 : ¬ nI i < 0 := nI_pos (by omega)
  have e2 : ¬ nI 3 ≤ nI i := nI_ge hi (by decide)
  have g := hS.2.2.2.2
  simp only [g_X3_guest_22, g_X3_guest_0, f_X3_guest, if_neg e1, chk_t g.1, ck_e g.2.2.1 g.2.2.2.2.2.1, g.2.2.2.2.2.2.1, ofN, if_neg e2, chk_t (inb_nI hi (by decide)), cl_nI (show i < 2 ^ 31 by omega), (g.2.2.2.2.2.2.2.2.2.2.2 i hi).1]
theorem Sh.gk (hS : Sh m x) (hi : i < 3) : m.K (x + 101 + i) = 1 := (hS.2.2.2.2.2.2.2.2.2.2.2.2.2.2.2 i hi).2
theorem c_welcome (hS : Sh m x) (hi : i < 3) (k : Nat) (f : Int32) : ∃ n, f_X3_welcome (x + 99) (nI i) (nI k) f m = some ((), n) ∧ Pn x m n ∧ n.J = m.J ∧ Wl n x i k f ∧ ∀ s a j, a ≠ x + 101 + i → n.I s a j = m.I s a j := by
  have kb := hS.gk hi
  refine ⟨((m.sI 100 (x + 101 + i) 0 (nI k)).sI 103 (x + 101 + i) 0 f).sI 104 (x + 101 + i) 0 0, ?_, (((Pn.rf x m).sI _ _ _ _ (by omega)).sI _ _ _ _ (by omega)).sI _ _ _ _ (by omega), rfl, ⟨kb, ?_, ?_, ?_⟩, fun s a j ha => by rw [I_ne ha, I_ne ha, I_ne ha]⟩
  · simp only [g_X3_welcome_0, f_X3_welcome, chk_t hS.2.2.2.2.1, c_guest hS hi, chk_t, ck_sI, ck_sR, ck_sJ, cal_s, bnd_e, ifn_s, ifn_n, chk_t kb]
  · rw [I_sI, if_neg (by omega), I_sI, if_neg (by omega), I_sI, if_pos ⟨rfl, rfl, rfl⟩]
  · rw [I_sI, if_neg (by omega), I_sI, if_pos ⟨rfl, rfl, rfl⟩]
  · rw [I_sI, if_pos ⟨rfl, rfl, rfl⟩]; rfl
theorem md8 : ∀ p, p < 64 → nI p - nI (p / 8) * 8 = nI (p % 8) := by decide
theorem dv8 : ∀ p, p < 64 → nI p / 8 = nI (p / 8) := by decide
theorem c_seatAt (hS : Sh m x) (hi : i < 3) (hw : Wl m x i k f) (hp : p < 64) : ∃ n, f_X3_seatAt (x + 99) (nI i) (nI p) m = some ((), n) ∧ Gi x i m n ∧ Bo n (x + 101 + i) (gst k f p) := by
  have kb := hS.gk hi
  refine ⟨(m.sI 101 (x + 101 + i) 0 (nI (p % 8))).sI 102 (x + 101 + i) 0 (nI (p / 8)), ?_, ⟨rfl, rfl, rfl, rfl, rfl, fun s a j hh => ?_⟩, ⟨kb, ?_, ?_, ?_, ?_, ?_⟩⟩
  · simp only [g_X3_seatAt_0, f_X3_seatAt, chk_t hS.2.2.2.2.1, c_guest hS hi, chk_t, ck_sI, ck_sR, ck_sJ, cal_s, bnd_e, ifn_s, ifn_n, chk_t kb, dv8 p hp, md8 p hp]
  · rw [I_sI, if_neg (by omega), I_sI, if_neg (by omega)]
  · rw [I_sI, if_neg (by omega), I_sI, if_neg (by omega)]; exact hw.2.1
  · rw [I_sI, if_neg (by omega), I_sI, if_pos ⟨rfl, rfl, rfl⟩]; rfl
  · rw [I_sI, if_pos ⟨rfl, rfl, rfl⟩]; rfl
  · rw [I_sI, if_neg (by omega), I_sI, if_neg (by omega)]; exact hw.2.2.1
  · rw [I_sI, if_neg (by omega), I_sI, if_neg (by omega)]; exact hw.2.2.2
theorem c_mayStay {a : Nat} {G : BD} {O : Nat → Bool} {q : Int32} (C : CS m x t l T B d 0 255 wo) (hO : ∀ i, i < 12 → bt q i = O i) (hn : ∀ i, i < 12 → O i = true → i < T.2.1 0) (hG : Bo m a G) (vG : VB G) : f_X3_mayStay (x + 99) (some a) q m = some (bI (styB T B d wo O G), m) := by
  have := lp_any (fun n i => l_X3_mayStay_2 (x + 99) (some a) q n i m) (fun i => O i && (samB (bdy T d i) G || clB T B 0 (bt 255) (clL T d) wo G (bdy T d i))) (some (0, m)) (some (1, m)) 12 (fun i hi n => ?_) (fun n => ?_) (n := FU) (by unfold FU; omega)
  · refine this.trans ?_
    unfold styB
    cases (List.range 12).any _ <;> rfl
  · show g_X3_mayStay_2 (x + 99) (some a) q (l_X3_mayStay_2 (x + 99) (some a) q n) (nI i) m = _
    have e1 : ¬ (12 : Int32) ≤ nI i := nI_ge (b := 12) hi (by decide)
    cases hoi : O i with
    | false => simp only [g_X3_mayStay_2, g_X3_mayStay_77, if_neg e1, chk_t C.1.2.2.2.2.1, C.1.2.2.2.2.2.1, ck_s C.1.th, c_body C.1 hi, chk_t, ck_sI, ck_sR, ck_sJ, cal_s, bnd_e, ifn_s, ifn_n, bt_q _ (show i < 32 by omega), hO i hi, hoi, if_true, nI_1, Bool.false_and, Bool.false_eq_true, if_false]
    | true =>
      have hin := hn i hi hoi
      have bI' := C.2.2.2.2.2.2.1 i hin
      have vI := bdy_v C.2.2.1 hin d
      have cc := c_clash C.2.1 C.2.2.1 C.2.2.2.1 C.2.2.2.2.1 hG bI' vG vI
      have ex : (nI (bdy T d i).x = nI G.x) ↔ (bdy T d i).x = G.x := ⟨nI_inj (by have := vI.2.1; omega) (by have := vG.2.1; omega), fun q => by rw [q]⟩
      have ey : (nI (bdy T d i).y = nI G.y) ↔ (bdy T d i).y = G.y := ⟨nI_inj (by have := vI.2.2.1; omega) (by have := vG.2.2.1; omega), fun q => by rw [q]⟩
      simp only [g_X3_mayStay_2, g_X3_mayStay_62, g_X3_mayStay_77, if_neg e1, chk_t C.1.2.2.2.2.1, C.1.2.2.2.2.2.1, ck_s C.1.th, c_body C.1 hi, chk_t, ck_sI, ck_sR, ck_sJ, cal_s, bnd_e, ifn_s, ifn_n, bt_q _ (show i < 32 by omega), hO i hi, hoi, Bool.true_eq_false, if_false, chk_t bI'.1, chk_t hG.1, bI'.2.2.1, bI'.2.2.2.1, hG.2.2.1, hG.2.2.2.1, ex, ey, cc, bI_0, nI_1, Bool.true_and, samB]
      by_cases y1 : (bdy T d i).x = G.x
      · by_cases y2 : (bdy T d i).y = G.y
        · simp [y1, y2]
        · cases clB T B 0 (bt 255) (clL T d) wo G (bdy T d i) <;> simp [y1, y2]
      · cases clB T B 0 (bt 255) (clL T d) wo G (bdy T d i) <;> simp [y1]
  · show g_X3_mayStay_2 (x + 99) (some a) q (l_X3_mayStay_2 (x + 99) (some a) q n) (nI 12) m = _
    simp only [g_X3_mayStay_2, if_pos (show (12 : Int32) ≤ nI 12 by decide)]
theorem c_openPoints {O : Nat → Bool} {q : Int32} (C : CS m x t l T B d 0 255 wo) (hO : ∀ i, i < 12 → bt q i = O i) (hn : ∀ i, i < 12 → O i = true → i < T.2.1 0) (hi : i < 3) (hw : Wl m x i k f) (hk : k < 6) (hf : f = -1 ∨ nB f 4) : ∃ n, f_X3_openPoints (x + 99) (nI i) q m = some (mkL (opP T B d wo O k f) 64, n) ∧ Gi x i m n := by
  obtain ⟨s, ⟨q1, q2⟩, q3⟩ := lp_inv (fun n p (s : Int64 × MM) => l_X3_openPoints_14 (x + 99) (nI i) q n (some t) s.1 p s.2) (fun p s => s.1 = mkL (opP T B d wo O k f) p ∧ Gi x i m s.2) (fun s => some (s.1, s.2)) 64 (fun p hp s hI => by
    obtain ⟨a1, a2⟩ := hI
    have Cs := C.pn (a2.p hi)
    have ct := Cs.2.1.2.2.2.1
    have e1 : ¬ (64 : Int32) ≤ nI p := nI_ge (b := 64) hp (by decide)
    have hop : opP T B d wo O k f p = (hasPt T (nI (p % 8)) (nI (p / 8)) && styB T B d wo O (gst k f p)) := rfl
    cases hpt : hasPt T (nI (p % 8)) (nI (p / 8)) with
    | false =>
      rw [hpt, Bool.false_and] at hop
      refine ⟨s, ⟨by rw [mkL_s, hop]; exact a1, a2⟩, fun n => ?_⟩
      show g_X3_openPoints_14 (x + 99) (nI i) q (l_X3_openPoints_14 (x + 99) (nI i) q n) (some t) s.1 (nI p) s.2 = _
      simp only [g_X3_openPoints_14, g_X3_openPoints_74, chk_t, ck_sI, ck_sR, ck_sJ, cal_s, bnd_e, ifn_s, ifn_n, if_neg e1, chk_t ct.K, dv8 p hp, md8 p hp, c_hasPoint ct, hpt, bI_0, if_true, nI_1]
    | true =>
      rw [hpt, Bool.true_and] at hop
      obtain ⟨n1, u1, u2, u3⟩ := c_seatAt Cs.1 hi (hw.gi a2) hp
      have C1 := Cs.pn (u2.p hi)
      have ms := c_mayStay C1 hO hn u3 (gst_v hk hf hp)
      refine ⟨(mkL (opP T B d wo O k f) (p + 1), n1), ⟨rfl, a2.tr u2⟩, fun n => ?_⟩
      show g_X3_openPoints_14 (x + 99) (nI i) q (l_X3_openPoints_14 (x + 99) (nI i) q n) (some t) s.1 (nI p) s.2 = _
      simp only [g_X3_openPoints_14, g_X3_openPoints_74, chk_t, ck_sI, ck_sR, ck_sJ, cal_s, bnd_e, ifn_s, ifn_n, if_neg e1, chk_t ct.K, dv8 p hp, md8 p hp, c_hasPoint ct, hpt, bI_0, Bool.true_eq_false, if_false, chk_t Cs.1.2.2.2.2.1, u1, chk_t C1.1.2.2.2.2.1, c_guest C1.1 hi, ms, nI_1, a1, mkL_s]
      rw [hop]
      cases styB T B d wo O (gst k f p) <;> simp) (fun s hI n => by
    show g_X3_openPoints_14 (x + 99) (nI i) q (l_X3_openPoints_14 (x + 99) (nI i) q n) (some t) s.1 (nI 64) s.2 = _
    simp only [g_X3_openPoints_14, chk_t, ck_sI, ck_sR, ck_sJ, cal_s, bnd_e, ifn_s, ifn_n, if_pos (show (64 : Int32) ≤ nI 64 by decide)]) (s0 := (0, m)) ⟨rfl, Gi.rf x i m⟩
  refine ⟨s.2, ?_, q2⟩
  simp only [f_X3_openPoints, g_X3_openPoints_0, chk_t C.1.2.2.2.2.1, C.1.2.2.2.2.2.1, ck_s C.1.th, chk_t, ck_sI, ck_sR, ck_sJ, cal_s, bnd_e, ifn_s, ifn_n, C.2.1.2.1]
  refine (q3 FU (by unfold FU; omega)).trans ?_
  rw [q1]
end GST
/-! the reference's guests -/
def RO (m : MM) (y i j : Nat) (T : TW) (B : LW) (d : Nat) (O : Nat → Bool) : Prop := Rc m y i j T B d 0 (-1) 0 ∧ VT T ∧ NT T ∧ VL B ∧ B.2.1 ≤ 10 ∧ d < 1000 ∧ m.I 1165 y 0 = mks O 12 ∧ (∀ k, k < T.2.1 0 → Rb m y k (bdy T d k) (snc T k)) ∧ ∀ k, k < 12 → O k = true → k < T.2.1 0
theorem RS.o {m : MM} {y i j d : Nat} {T : TW} {B : LW} (h : RS m y i j T B d 0 (-1) 0) : RO m y i j T B d (sB T d) := ⟨h.1, h.2.1, h.2.2.1, h.2.2.2.1, h.2.2.2.2.1, h.2.2.2.2.2.1, h.2.2.2.2.2.2.2.1, h.2.2.2.2.2.2.2.2, fun k _ hk => sB_n hk⟩
def Ln (y : Nat) (m n : MM) : Prop := n.K = m.K ∧ n.N = m.N ∧ n.S = m.S ∧ n.R = m.R ∧ ∀ s a i, ¬ (a = y ∧ s = 1175) → ¬ (y + 45 ≤ a ∧ a < y + 50 ∧ 12 ≤ i) → a ≠ y + 53 → n.I s a i = m.I s a i
theorem Ln.rf (y : Nat) (m : MM) : Ln y m m := ⟨rfl, rfl, rfl, rfl, fun _ _ _ _ _ _ => rfl⟩
theorem Ln.tr {y : Nat} {m n q : MM} (h1 : Ln y m n) (h2 : Ln y n q) : Ln y m q := ⟨h2.1.trans h1.1, h2.2.1.trans h1.2.1, h2.2.2.1.trans h1.2.2.1, h2.2.2.2.1.trans h1.2.2.2.1, fun s a i g1 g2 g3 => (h2.2.2.2.2 s a i g1 g2 g3).trans (h1.2.2.2.2 s a i g1 g2 g3)⟩
theorem Ln.sI {y : Nat} {m n : MM} (h : Ln y m n) (s a i : Nat) (v : Int32) (ha : (a = y ∧ s = 1175) ∨ (y + 45 ≤ a ∧ a < y + 50 ∧ 12 ≤ i) ∨ a = y + 53) : Ln y m (n.sI s a i v) := ⟨h.1, h.2.1, h.2.2.1, h.2.2.2.1, fun s2 a2 i2 g1 g2 g3 => by rw [I_sI, if_neg (fun q => by omega)]; exact h.2.2.2.2 s2 a2 i2 g1 g2 g3⟩
theorem Ln.f {x : Nat} {m n : MM} (h : Ln (x + 106) m n) : Fq x m n := ⟨h.1, h.2.1, h.2.2.1, fun a ha s i => ⟨h.2.2.2.2 s a i (by omega) (by omega) (by omega), by rw [h.2.2.2.1]⟩, fun s a i _ _ => by rw [h.2.2.2.1]⟩
theorem Ln.ar {y : Nat} {m n : MM} (h : Ln y m n) : Ar m n y := ⟨fun d d1 d2 i => h.2.2.2.2 22 _ i (by omega) (by omega) (by omega), fun i => h.2.2.2.2 21 _ i (by omega) (by omega) (by omega), fun i => h.2.2.2.2 24 _ i (by omega) (by omega) (by omega)⟩
theorem RO.ln {m n : MM} {y i j d : Nat} {T : TW} {B : LW} {O : Nat → Bool} (h : RO m y i j T B d O) (o : Ln y m n) : RO n y i j T B d O := by
  obtain ⟨⟨h1, h2, h3, h4, h5, h6, h7, h8, h9, h10, h11⟩, V, N, VB', hB, hd, h65, hb, hO⟩ := h
  have e : ∀ s, s ≠ 1175 → n.I s y 0 = m.I s y 0 := fun s hs => o.2.2.2.2 s y 0 (by omega) (by omega) (by omega)
  have hn := N.1
  exact ⟨⟨h1.kept o.1 o.2.1 (fun s => by rw [o.2.2.2.1]), by rw [e _ (by decide)]; exact h2, h3, h4.kept o.ar, by rw [e _ (by decide)]; exact h5, by rw [e _ (by decide)]; exact h6, h7, by rw [e _ (by decide)]; exact h8, by rw [e _ (by decide)]; exact h9, h10, h11.kept o.ar⟩, V, N, VB', hB, hd, by rw [e _ (by decide)]; exact h65, fun k hk => (hb k hk).kept (fun a a1 a2 => o.2.2.2.2 _ _ _ (by omega) (by omega) (by omega)), hO⟩
theorem gN_0 (T : TW) (k d : Nat) : gN T k d d = 0 := by
  unfold gN
  rw [if_neg (by omega)]
  split
  · rfl
  · rw [Nat.sub_self, Nat.zero_div]; rfl
section RGS
variable {m : MM} {y i j d g k : Nat} {T : TW} {B : LW} {O : Nat → Bool} {f : Int32}
theorem RO.bd (h : RO m y i j T B d O) {k : Nat} (hk : k < T.2.1 0) : Rg m y k T d (bdy T d k) := ⟨snc T k, (nB_e (h.2.1.2.2.2.2.2.2.1 k hk).2.2.2.2.1 (by omega)).2, h.2.2.2.2.2.2.2.1 k hk, bdy_v h.2.1 hk d, rfl⟩
theorem r_lay (R : RO m y i j T B d O) (hg : g < 3) (hk : k < 6) (hf : f = -1 ∨ nB f 4) {u v : Nat} (hu : u < 8) (hv : v < 8) : ∃ n, f_X10_lay y (nI g) (nI k) (nI u) (nI v) f m = some ((), n) ∧ Ln y m n ∧ Rg n y (12 + g) T d (k, u, v, f, 0) ∧ (∀ s a c, (a < y + 45 ∨ y + 50 ≤ a ∨ c ≠ 12 + g) → n.I s a c = m.I s a c) := by
  have e12 : (12 : Int32) + nI g = nI (12 + g) := nI_add 12 g
  have hM := R.1.1
  have r1 : ((((m.sI 22 (y + 45) (12 + g) (nI k)).sI 22 (y + 46) (12 + g) (nI u)).sI 22 (y + 47) (12 + g) (nI v)).sI 22 (y + 48) (12 + g) f).I 1167 y 0 = nI d := by
    rw [I_sI, if_neg (by omega), I_sI, if_neg (by omega), I_sI, if_neg (by omega), I_sI, if_neg (by omega)]; exact R.1.2.2.2.2.1
  refine ⟨((((m.sI 22 (y + 45) (12 + g) (nI k)).sI 22 (y + 46) (12 + g) (nI u)).sI 22 (y + 47) (12 + g) (nI v)).sI 22 (y + 48) (12 + g) f).sI 22 (y + 49) (12 + g) (nI d), ?_, (((((Ln.rf y m).sI _ _ _ _ (by omega)).sI _ _ _ _ (by omega)).sI _ _ _ _ (by omega)).sI _ _ _ _ (by omega)).sI _ _ _ _ (by omega), ⟨d, R.2.2.2.2.2.1, ⟨?_, ?_, ?_, ?_, ?_⟩, ⟨hk, hu, hv, hf, Nat.zero_le 9⟩, (gN_0 T k d).symm⟩, fun s a c ha => ?_⟩
  · simp only [g_X10_lay_0, f_X10_lay, chk_t hM.1, R_sI, N_sI, hM.c1160, hM.n1160, hM.c1161, hM.n1161, hM.c1162, hM.n1162, hM.c1163, hM.n1163, hM.c1164, hM.n1164, e12, chk_t (inb_nI (show 12 + g < 15 by omega) (by decide)), cl_nI (show 12 + g < 2 ^ 31 by omega), chk_t, ck_sI, ck_sR, ck_sJ, cal_s, bnd_e, ifn_s, ifn_n, r1]
  · rw [I_sI, if_neg (by omega), I_sI, if_neg (by omega), I_sI, if_neg (by omega), I_sI, if_neg (by omega), I_sI, if_pos ⟨rfl, rfl, rfl⟩]
  · rw [I_sI, if_neg (by omega), I_sI, if_neg (by omega), I_sI, if_neg (by omega), I_sI, if_pos ⟨rfl, rfl, rfl⟩]
  · rw [I_sI, if_neg (by omega), I_sI, if_neg (by omega), I_sI, if_pos ⟨rfl, rfl, rfl⟩]
  · rw [I_sI, if_neg (by omega), I_sI, if_pos ⟨rfl, rfl, rfl⟩]
  · rw [I_sI, if_pos ⟨rfl, rfl, rfl⟩]
  · rw [I_sI, if_neg (by omega), I_sI, if_neg (by omega), I_sI, if_neg (by omega), I_sI, if_neg (by omega), I_sI, if_neg (by omega)]
theorem r_standsO (R : RO m y i j T B d O) {a : Nat} (ha : a < 12) : f_X10_stands y (nI a) m = some (bI (O a), m) := by
  simp only [g_X10_stands_0, f_X10_stands, chk_t R.1.1.1, R.2.2.2.2.2.2.1, bt_q _ (show a < 32 by omega), bt_mks (show 12 ≤ 32 by omega) a (by omega), decide_eq_true ha, Bool.true_and]
  cases O a <;> rfl
theorem dsq_0 {a b : BD} (va : VB a) (vb : VB b) : (zI (dsq a b) = 0) ↔ samB a b = true := by
  have h := dsq_b va vb
  have e : (zI (dsq a b) = zI 0) ↔ dsq a b = 0 := zI_eq (z_sm (by omega)) sm0
  have e0 : zI 0 = 0 := rfl
  rw [← e0, e]
  unfold samB dsq
  rw [Bool.and_eq_true, decide_eq_true_eq, decide_eq_true_eq]
  constructor
  · intro q
    have p1 : 0 ≤ ((b.x : Int) - a.x) * ((b.x : Int) - a.x) := by
      rcases Int.le_total 0 ((b.x : Int) - a.x) with z | z
      · exact Int.mul_nonneg z z
      · exact Int.mul_nonneg_of_nonpos_of_nonpos z z
    have p2 : 0 ≤ ((b.y : Int) - a.y) * ((b.y : Int) - a.y) := by
      rcases Int.le_total 0 ((b.y : Int) - a.y) with z | z
      · exact Int.mul_nonneg z z
      · exact Int.mul_nonneg_of_nonpos_of_nonpos z z
    have q1 : ((b.x : Int) - a.x) * ((b.x : Int) - a.x) = 0 := by omega
    have q2 : ((b.y : Int) - a.y) * ((b.y : Int) - a.y) = 0 := by omega
    rcases Int.mul_eq_zero.mp q1 with z1 | z1 <;> rcases Int.mul_eq_zero.mp q2 with z2 | z2 <;> exact ⟨by omega, by omega⟩
  · rintro ⟨q1, q2⟩
    rw [q1, q2]
    simp
theorem r_both (R : RO m y i j T B d O) {p q : Nat} {a b : BD} (hp : p < 15) (hq : q < 15) (hpq : p ≠ q) (ha : Rg m y p T d a) (hb : Rg m y q T d b) (but : Int32) : f_X10_barsBoth y (nI j) (nI p) (nI q) but m = some (bI (clB T B 0 (bt 255) (clL T d) but a b), m) := by
  rw [r_barsBoth R.1 R.2.1 R.2.2.1 R.2.2.2.1 R.2.2.2.2.1 R.2.2.2.2.2.1 (by omega) hp hq hpq ha hb but, clB_congr (H := ohB (-1)) (H' := bt 255) (L := rfL T d 0) (L' := clL T d) (fun h hh => by rw [ohB_m, bt_255 h hh]) (rfL_0 R.2.2.1 d _ _) (rfL_0 R.2.2.1 d _ _)]
theorem r_mayBy {G : BD} (R : RO m y i j T B d O) (hg : g < 3) (hG : Rg m y (12 + g) T d G) (but : Int32) : f_X10_mayBy y (nI j) (nI g) but m = some (bI (styB T B d but O G), m) := by
  have e12 : (12 : Int32) + nI g = nI (12 + g) := nI_add 12 g
  have vG : VB G := by obtain ⟨_, _, _, v, _⟩ := hG; exact v
  have := lp_any (fun n c => l_X10_mayBy_3 y (nI j) (nI g) but n c m) (fun c => O c && (samB (bdy T d c) G || clB T B 0 (bt 255) (clL T d) but G (bdy T d c))) (some (0, m)) (some (1, m)) 12 (fun c hc n => ?_) (fun n => ?_) (n := FU) (by unfold FU; omega)
  · refine this.trans ?_
    unfold styB
    cases (List.range 12).any _ <;> rfl
  · show g_X10_mayBy_3 y (nI j) (nI g) but (l_X10_mayBy_3 y (nI j) (nI g) but n) (nI c) m = _
    have e1 : ¬ (12 : Int32) ≤ nI c := nI_ge (b := 12) hc (by decide)
    cases hoc : O c with
    | false => simp only [g_X10_mayBy_3, g_X10_mayBy_49, if_neg e1, chk_t R.1.1.1, r_standsO R hc, hoc, chk_t, ck_sI, ck_sR, ck_sJ, cal_s, bnd_e, ifn_s, ifn_n, bI_0, if_true, nI_1, Bool.false_and, Bool.false_eq_true, if_false]
    | true =>
      have hcn := R.2.2.2.2.2.2.2.2 c hc hoc
      obtain ⟨sc, _, rc, vc, _⟩ := R.bd hcn
      have hG2 := hG
      obtain ⟨sg, _, rg, _, _⟩ := hG2
      have ap := r_apartBy R.1.1 (show c < 15 by omega) (show 12 + g < 15 by omega) rc rg
      have bb := r_both R (show c < 15 by omega) (show 12 + g < 15 by omega) (show c ≠ 12 + g by omega) (R.bd hcn) hG but
      rw [clB_sw] at bb
      simp only [g_X10_mayBy_3, g_X10_mayBy_49, if_neg e1, chk_t R.1.1.1, r_standsO R hc, hoc, chk_t, ck_sI, ck_sR, ck_sJ, cal_s, bnd_e, ifn_s, ifn_n, bI_0, Bool.true_eq_false, if_false, e12, ap, bb, dsq_0 vc vG, nI_1, Bool.true_and]
      cases samB (bdy T d c) G <;> cases clB T B 0 (bt 255) (clL T d) but G (bdy T d c) <;> simp
  · show g_X10_mayBy_3 y (nI j) (nI g) but (l_X10_mayBy_3 y (nI j) (nI g) but n) (nI 12) m = _
    simp only [g_X10_mayBy_3, if_pos (show (12 : Int32) ≤ nI 12 by decide)]
end RGS
