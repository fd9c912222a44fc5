/-! two memories alike on a stretch of addresses -/
def Ag (m n : MM) (lo hi : Nat) : Prop := ∀ a, lo ≤ a → a < hi → n.K a = m.K a ∧ n.N a = m.N a ∧ (∀ s i, n.I s a i = m.I s a i) ∧ ∀ s i, n.R s a i = m.R s a i
theorem Ag.sub {m n : MM} {lo hi lo2 hi2 : Nat} (h : Ag m n lo hi) (h1 : lo ≤ lo2) (h2 : hi2 ≤ hi) : Ag m n lo2 hi2 := fun a g1 g2 => h a (by omega) (by omega)
theorem Ag.rf (m : MM) (lo hi : Nat) : Ag m m lo hi := fun _ _ _ => ⟨rfl, rfl, fun _ _ => rfl, fun _ _ => rfl⟩
theorem Ag.tr {m n q : MM} {lo hi : Nat} (h1 : Ag m n lo hi) (h2 : Ag n q lo hi) : Ag m q lo hi := fun a g1 g2 => ⟨(h2 a g1 g2).1.trans (h1 a g1 g2).1, (h2 a g1 g2).2.1.trans (h1 a g1 g2).2.1, fun s i => ((h2 a g1 g2).2.2.1 s i).trans ((h1 a g1 g2).2.2.1 s i), fun s i => ((h2 a g1 g2).2.2.2 s i).trans ((h1 a g1 g2).2.2.2 s i)⟩
theorem Ag.sI {m n : MM} {lo hi : Nat} (h : Ag m n lo hi) (s a i : Nat) (v : Int32) (ha : a < lo ∨ hi ≤ a) : Ag m (n.sI s a i v) lo hi := fun b g1 g2 => ⟨(h b g1 g2).1, (h b g1 g2).2.1, fun s2 i2 => by rw [I_sI, if_neg (fun q => by omega)]; exact (h b g1 g2).2.2.1 s2 i2, (h b g1 g2).2.2.2⟩
theorem Ag.sR {m n : MM} {lo hi : Nat} (h : Ag m n lo hi) (s a i : Nat) (v : Option Nat) (ha : a < lo ∨ hi ≤ a) : Ag m (n.sR s a i v) lo hi := fun b g1 g2 => ⟨(h b g1 g2).1, (h b g1 g2).2.1, (h b g1 g2).2.2.1, fun s2 i2 => by rw [R_sR, if_neg (fun q => by omega)]; exact (h b g1 g2).2.2.2 s2 i2⟩
theorem Ag.sJ {m n : MM} {lo hi : Nat} (h : Ag m n lo hi) (s a i : Nat) (v : Int64) : Ag m (n.sJ s a i v) lo hi := h
theorem Tb.kept {m n : MM} {lo hi a k w s : Nat} (hA : Ag m n lo hi) (h1 : lo ≤ a) (h2 : a + 1 < hi) (h : Tb m a k w s) : Tb n a k w s := by
  obtain ⟨q1, q2, q3, q4, q5, q6, q7, q8⟩ := h
  obtain ⟨a1, a2, a3, a4⟩ := hA a h1 (by omega)
  obtain ⟨b1, b2, b3, b4⟩ := hA (a + 1) (by omega) h2
  exact ⟨by rw [a1]; exact q1, by rw [a3]; exact q2, by rw [a3]; exact q3, by rw [a4]; exact q4, by rw [b1]; exact q5, by rw [b2]; exact q6, by rw [a3]; exact q7, q8⟩
/-! a town: numbers (0 width, 1 height, 2, 3 slope, 10 + h winds, 20 + k grows), counts and cells (0 things, 1 walls, 2 fences, 3 leaves, 4 objections, 5 wishes) -/
abbrev TW : Type := (Nat → Int32) × (Nat → Nat) × (Nat → Nat → Nat → Int32)
/-! a law: numbers (0 harm, 1 leave, 2 silence), how many rules, rules by columns -/
abbrev LW : Type := (Nat → Int32) × Nat × (Nat → Nat → Int32)
def CT (m : MM) (t : Nat) (T : TW) : Prop := m.K t = 9 ∧ m.R 904 t 0 = some (t + 1) ∧ m.R 905 t 0 = some (t + 3) ∧ m.R 906 t 0 = some (t + 5) ∧ m.R 907 t 0 = some (t + 7) ∧ m.R 908 t 0 = some (t + 9) ∧ m.R 909 t 0 = some (t + 11) ∧ m.R 910 t 0 = some (t + 13) ∧ m.R 911 t 0 = some (t + 14) ∧ m.K (t + 13) = 22 ∧ m.N (t + 13) = 8 ∧ m.K (t + 14) = 22 ∧ m.N (t + 14) = 6 ∧ Tb m (t + 1) 12 8 (T.2.1 0) ∧ Tb m (t + 3) 8 5 (T.2.1 1) ∧ Tb m (t + 5) 6 5 (T.2.1 2) ∧ Tb m (t + 7) 12 3 (T.2.1 3) ∧ Tb m (t + 9) 12 3 (T.2.1 4) ∧ Tb m (t + 11) 3 2 (T.2.1 5) ∧ m.I 900 t 0 = T.1 0 ∧ m.I 901 t 0 = T.1 1 ∧ m.I 902 t 0 = T.1 2 ∧ m.I 903 t 0 = T.1 3 ∧ (∀ h, h < 8 → m.I 22 (t + 13) h = T.1 (10 + h)) ∧ (∀ k, k < 6 → m.I 22 (t + 14) k = T.1 (20 + k)) ∧ (∀ r, r < T.2.1 0 → ∀ c, c < 8 → m.I 22 (t + 2) (r * 8 + c) = T.2.2 0 r c) ∧ (∀ r, r < T.2.1 1 → ∀ c, c < 5 → m.I 22 (t + 4) (r * 5 + c) = T.2.2 1 r c) ∧ (∀ r, r < T.2.1 2 → ∀ c, c < 4 → m.I 22 (t + 6) (r * 5 + c) = T.2.2 2 r c) ∧ (∀ r, r < T.2.1 3 → ∀ c, c < 3 → m.I 22 (t + 8) (r * 3 + c) = T.2.2 3 r c) ∧ (∀ r, r < T.2.1 4 → ∀ c, c < 3 → m.I 22 (t + 10) (r * 3 + c) = T.2.2 4 r c) ∧ (∀ r, r < T.2.1 5 → ∀ c, c < 2 → m.I 22 (t + 12) (r * 2 + c) = T.2.2 5 r c)
theorem CT.K {m : MM} {t : Nat} {T : TW} (h : CT m t T) : m.K t = 9 := h.1
theorem CT.R4 {m : MM} {t : Nat} {T : TW} (h : CT m t T) : m.R 904 t 0 = some (t + 1) := h.2.1
theorem CT.R5 {m : MM} {t : Nat} {T : TW} (h : CT m t T) : m.R 905 t 0 = some (t + 3) := h.2.2.1
theorem CT.R6 {m : MM} {t : Nat} {T : TW} (h : CT m t T) : m.R 906 t 0 = some (t + 5) := h.2.2.2.1
theorem CT.R7 {m : MM} {t : Nat} {T : TW} (h : CT m t T) : m.R 907 t 0 = some (t + 7) := h.2.2.2.2.1
theorem CT.R8 {m : MM} {t : Nat} {T : TW} (h : CT m t T) : m.R 908 t 0 = some (t + 9) := h.2.2.2.2.2.1
theorem CT.R9 {m : MM} {t : Nat} {T : TW} (h : CT m t T) : m.R 909 t 0 = some (t + 11) := h.2.2.2.2.2.2.1
theorem CT.Rw {m : MM} {t : Nat} {T : TW} (h : CT m t T) : m.R 910 t 0 = some (t + 13) := h.2.2.2.2.2.2.2.1
theorem CT.Rg {m : MM} {t : Nat} {T : TW} (h : CT m t T) : m.R 911 t 0 = some (t + 14) := h.2.2.2.2.2.2.2.2.1
theorem CT.Kw {m : MM} {t : Nat} {T : TW} (h : CT m t T) : m.K (t + 13) = 22 := h.2.2.2.2.2.2.2.2.2.1
theorem CT.Nw {m : MM} {t : Nat} {T : TW} (h : CT m t T) : m.N (t + 13) = 8 := h.2.2.2.2.2.2.2.2.2.2.1
theorem CT.Kg {m : MM} {t : Nat} {T : TW} (h : CT m t T) : m.K (t + 14) = 22 := h.2.2.2.2.2.2.2.2.2.2.2.1
theorem CT.Ng {m : MM} {t : Nat} {T : TW} (h : CT m t T) : m.N (t + 14) = 6 := h.2.2.2.2.2.2.2.2.2.2.2.2.1
theorem CT.T0 {m : MM} {t : Nat} {T : TW} (h : CT m t T) : Tb m (t + 1) 12 8 (T.2.1 0) := h.2.2.2.2.2.2.2.2.2.2.2.2.2.1
theorem CT.T1 {m : MM} {t : Nat} {T : TW} (h : CT m t T) : Tb m (t + 3) 8 5 (T.2.1 1) := h.2.2.2.2.2.2.2.2.2.2.2.2.2.2.1
theorem CT.T2 {m : MM} {t : Nat} {T : TW} (h : CT m t T) : Tb m (t + 5) 6 5 (T.2.1 2) := h.2.2.2.2.2.2.2.2.2.2.2.2.2.2.2.1
theorem CT.T3 {m : MM} {t : Nat} {T : TW} (h : CT m t T) : Tb m (t + 7) 12 3 (T.2.1 3) := h.2.2.2.2.2.2.2.2.2.2.2.2.2.2.2.2.1
theorem CT.T4 {m : MM} {t : Nat} {T : TW} (h : CT m t T) : Tb m (t + 9) 12 3 (T.2.1 4) := h.2.2.2.2.2.2.2.2.2.2.2.2.2.2.2.2.2.1
theorem CT.T5 {m : MM} {t : Nat} {T : TW} (h : CT m t T) : Tb m (t + 11) 3 2 (T.2.1 5) := h.2.2.2.2.2.2.2.2.2.2.2.2.2.2.2.2.2.2.1
theorem CT.s0 {m : MM} {t : Nat} {T : TW} (h : CT m t T) : m.I 900 t 0 = T.1 0 := h.2.2.2.2.2.2.2.2.2.2.2.2.2.2.2.2.2.2.2.1
theorem CT.s1 {m : MM} {t : Nat} {T : TW} (h : CT m t T) : m.I 901 t 0 = T.1 1 := h.2.2.2.2.2.2.2.2.2.2.2.2.2.2.2.2.2.2.2.2.1
theorem CT.s2 {m : MM} {t : Nat} {T : TW} (h : CT m t T) : m.I 902 t 0 = T.1 2 := h.2.2.2.2.2.2.2.2.2.2.2.2.2.2.2.2.2.2.2.2.2.1
theorem CT.s3 {m : MM} {t : Nat} {T : TW} (h : CT m t T) : m.I 903 t 0 = T.1 3 := h.2.2.2.2.2.2.2.2.2.2.2.2.2.2.2.2.2.2.2.2.2.2.1
theorem CT.wi {m : MM} {t : Nat} {T : TW} (h : CT m t T) : (∀ h, h < 8 → m.I 22 (t + 13) h = T.1 (10 + h)) := h.2.2.2.2.2.2.2.2.2.2.2.2.2.2.2.2.2.2.2.2.2.2.2.1
theorem CT.gr {m : MM} {t : Nat} {T : TW} (h : CT m t T) : (∀ k, k < 6 → m.I 22 (t + 14) k = T.1 (20 + k)) := h.2.2.2.2.2.2.2.2.2.2.2.2.2.2.2.2.2.2.2.2.2.2.2.2.1
theorem CT.c0 {m : MM} {t : Nat} {T : TW} (h : CT m t T) : (∀ r, r < T.2.1 0 → ∀ c, c < 8 → m.I 22 (t + 2) (r * 8 + c) = T.2.2 0 r c) := h.2.2.2.2.2.2.2.2.2.2.2.2.2.2.2.2.2.2.2.2.2.2.2.2.2.1
theorem CT.c1 {m : MM} {t : Nat} {T : TW} (h : CT m t T) : (∀ r, r < T.2.1 1 → ∀ c, c < 5 → m.I 22 (t + 4) (r * 5 + c) = T.2.2 1 r c) := h.2.2.2.2.2.2.2.2.2.2.2.2.2.2.2.2.2.2.2.2.2.2.2.2.2.2.1
theorem CT.c2 {m : MM} {t : Nat} {T : TW} (h : CT m t T) : (∀ r, r < T.2.1 2 → ∀ c, c < 4 → m.I 22 (t + 6) (r * 5 + c) = T.2.2 2 r c) := h.2.2.2.2.2.2.2.2.2.2.2.2.2.2.2.2.2.2.2.2.2.2.2.2.2.2.2.1
theorem CT.c3 {m : MM} {t : Nat} {T : TW} (h : CT m t T) : (∀ r, r < T.2.1 3 → ∀ c, c < 3 → m.I 22 (t + 8) (r * 3 + c) = T.2.2 3 r c) := h.2.2.2.2.2.2.2.2.2.2.2.2.2.2.2.2.2.2.2.2.2.2.2.2.2.2.2.2.1
theorem CT.c4 {m : MM} {t : Nat} {T : TW} (h : CT m t T) : (∀ r, r < T.2.1 4 → ∀ c, c < 3 → m.I 22 (t + 10) (r * 3 + c) = T.2.2 4 r c) := h.2.2.2.2.2.2.2.2.2.2.2.2.2.2.2.2.2.2.2.2.2.2.2.2.2.2.2.2.2.1
theorem CT.c5 {m : MM} {t : Nat} {T : TW} (h : CT m t T) : (∀ r, r < T.2.1 5 → ∀ c, c < 2 → m.I 22 (t + 12) (r * 2 + c) = T.2.2 5 r c) := h.2.2.2.2.2.2.2.2.2.2.2.2.2.2.2.2.2.2.2.2.2.2.2.2.2.2.2.2.2.2
def CL (m : MM) (l : Nat) (B : LW) : Prop := m.K l = 3 ∧ m.R 300 l 0 = some (l + 1) ∧ Tb m (l + 1) 10 5 B.2.1 ∧ m.I 301 l 0 = B.1 0 ∧ m.I 302 l 0 = B.1 1 ∧ m.I 303 l 0 = B.1 2 ∧ (∀ r, r < B.2.1 → ∀ c, c < 5 → m.I 22 (l + 2) (r * 5 + c) = B.2.2 r c) ∧ ((B.1 0 = 0 ∨ B.1 0 = 1) ∧ (B.1 1 = 0 ∨ B.1 1 = 1))
theorem CL.K {m : MM} {l : Nat} {B : LW} (h : CL m l B) : m.K l = 3 := h.1
theorem CL.R {m : MM} {l : Nat} {B : LW} (h : CL m l B) : m.R 300 l 0 = some (l + 1) := h.2.1
theorem CL.T {m : MM} {l : Nat} {B : LW} (h : CL m l B) : Tb m (l + 1) 10 5 B.2.1 := h.2.2.1
theorem CL.s0 {m : MM} {l : Nat} {B : LW} (h : CL m l B) : m.I 301 l 0 = B.1 0 := h.2.2.2.1
theorem CL.s1 {m : MM} {l : Nat} {B : LW} (h : CL m l B) : m.I 302 l 0 = B.1 1 := h.2.2.2.2.1
theorem CL.s2 {m : MM} {l : Nat} {B : LW} (h : CL m l B) : m.I 303 l 0 = B.1 2 := h.2.2.2.2.2.1
theorem CL.c {m : MM} {l : Nat} {B : LW} (h : CL m l B) : (∀ r, r < B.2.1 → ∀ c, c < 5 → m.I 22 (l + 2) (r * 5 + c) = B.2.2 r c) := h.2.2.2.2.2.2.1
theorem CL.b {m : MM} {l : Nat} {B : LW} (h : CL m l B) : ((B.1 0 = 0 ∨ B.1 0 = 1) ∧ (B.1 1 = 0 ∨ B.1 1 = 1)) := h.2.2.2.2.2.2.2
theorem CT.kept {m n : MM} {t : Nat} {T : TW} (hA : Ag m n t (t + 15)) (h : CT m t T) : CT n t T := by
  have a0 := hA (t + 0) (by omega) (by omega)
  have a1 := hA (t + 1) (by omega) (by omega)
  have a2 := hA (t + 2) (by omega) (by omega)
  have a3 := hA (t + 3) (by omega) (by omega)
  have a4 := hA (t + 4) (by omega) (by omega)
  have a5 := hA (t + 5) (by omega) (by omega)
  have a6 := hA (t + 6) (by omega) (by omega)
  have a7 := hA (t + 7) (by omega) (by omega)
  have a8 := hA (t + 8) (by omega) (by omega)
  have a9 := hA (t + 9) (by omega) (by omega)
  have a10 := hA (t + 10) (by omega) (by omega)
  have a11 := hA (t + 11) (by omega) (by omega)
  have a12 := hA (t + 12) (by omega) (by omega)
  have a13 := hA (t + 13) (by omega) (by omega)
  have a14 := hA (t + 14) (by omega) (by omega)
  exact ⟨by rw [show n.K t = m.K t from a0.1]; exact h.K, by rw [show ∀ s i, n.R s t i = m.R s t i from a0.2.2.2]; exact h.R4, by rw [show ∀ s i, n.R s t i = m.R s t i from a0.2.2.2]; exact h.R5, by rw [show ∀ s i, n.R s t i = m.R s t i from a0.2.2.2]; exact h.R6, by rw [show ∀ s i, n.R s t i = m.R s t i from a0.2.2.2]; exact h.R7, by rw [show ∀ s i, n.R s t i = m.R s t i from a0.2.2.2]; exact h.R8, by rw [show ∀ s i, n.R s t i = m.R s t i from a0.2.2.2]; exact h.R9, by rw [show ∀ s i, n.R s t i = m.R s t i from a0.2.2.2]; exact h.Rw, by rw [show ∀ s i, n.R s t i = m.R s t i from a0.2.2.2]; exact h.Rg, by rw [a13.1]; exact h.Kw, by rw [a13.2.1]; exact h.Nw, by rw [a14.1]; exact h.Kg, by rw [a14.2.1]; exact h.Ng, h.T0.kept hA (by omega) (by omega), h.T1.kept hA (by omega) (by omega), h.T2.kept hA (by omega) (by omega), h.T3.kept hA (by omega) (by omega), h.T4.kept hA (by omega) (by omega), h.T5.kept hA (by omega) (by omega), by rw [show ∀ s i, n.I s t i = m.I s t i from a0.2.2.1]; exact h.s0, by rw [show ∀ s i, n.I s t i = m.I s t i from a0.2.2.1]; exact h.s1, by rw [show ∀ s i, n.I s t i = m.I s t i from a0.2.2.1]; exact h.s2, by rw [show ∀ s i, n.I s t i = m.I s t i from a0.2.2.1]; exact h.s3, fun x hx => by rw [a13.2.2.1]; exact h.wi x hx, fun x hx => by rw [a14.2.2.1]; exact h.gr x hx, fun r hr c hc => by rw [a2.2.2.1]; exact h.c0 r hr c hc, fun r hr c hc => by rw [a4.2.2.1]; exact h.c1 r hr c hc, fun r hr c hc => by rw [a6.2.2.1]; exact h.c2 r hr c hc, fun r hr c hc => by rw [a8.2.2.1]; exact h.c3 r hr c hc, fun r hr c hc => by rw [a10.2.2.1]; exact h.c4 r hr c hc, fun r hr c hc => by rw [a12.2.2.1]; exact h.c5 r hr c hc⟩
theorem CL.kept {m n : MM} {l : Nat} {B : LW} (hA : Ag m n l (l + 3)) (h : CL m l B) : CL n l B := by
  have a0 := hA l (by omega) (by omega)
  have a2 := hA (l + 2) (by omega) (by omega)
  exact ⟨by rw [a0.1]; exact h.K, by rw [a0.2.2.2]; exact h.R, h.T.kept hA (by omega) (by omega), by rw [a0.2.2.1]; exact h.s0, by rw [a0.2.2.1]; exact h.s1, by rw [a0.2.2.1]; exact h.s2, fun r hr c hc => by rw [a2.2.2.1]; exact h.c r hr c hc, h.b⟩
/-! all that is told: the tape, how long, the fault, its place, how many towns and laws, the towns, the laws -/
abbrev WD : Type := (Nat → Int32) × Nat × Int32 × Int32 × Nat × Nat × (Nat → TW) × (Nat → LW)
abbrev WD.tp (W : WD) := W.1
abbrev WD.ln (W : WD) := W.2.1
abbrev WD.fa (W : WD) := W.2.2.1
abbrev WD.pl (W : WD) := W.2.2.2.1
abbrev WD.nt (W : WD) := W.2.2.2.2.1
abbrev WD.nl (W : WD) := W.2.2.2.2.2.1
abbrev WD.tn (W : WD) := W.2.2.2.2.2.2.1
abbrev WD.lw (W : WD) := W.2.2.2.2.2.2.2
def TD (m : MM) (t : Nat) (W : WD) : Prop := m.K t = 8 ∧ m.R 800 t 0 = some (t + 1) ∧ m.R 806 t 0 = some (t + 2) ∧ m.R 807 t 0 = some (t + 3) ∧ m.K (t + 1) = 21 ∧ m.N (t + 1) = 500 ∧ m.K (t + 2) = 28 ∧ m.N (t + 2) = 3 ∧ m.K (t + 3) = 26 ∧ m.N (t + 3) = 3 ∧ (∀ i, i < 3 → m.R 28 (t + 2) i = some (t + 4 + 18 * i)) ∧ (∀ i, i < 3 → m.R 26 (t + 3) i = some (t + 19 + 18 * i)) ∧ (∀ j, j < 500 → m.I 21 (t + 1) j = W.tp j) ∧ m.I 801 t 0 = nI W.ln ∧ W.ln ≤ 500 ∧ m.I 802 t 0 = W.fa ∧ m.I 803 t 0 = W.pl ∧ m.I 804 t 0 = nI W.nt ∧ W.nt ≤ 3 ∧ m.I 805 t 0 = nI W.nl ∧ W.nl ≤ 3 ∧ (∀ i, i < 3 → CT m (t + 4 + 18 * i) (W.tn i)) ∧ (∀ i, i < 3 → CL m (t + 19 + 18 * i) (W.lw i))
theorem TD.K {m : MM} {t : Nat} {W : WD} (h : TD m t W) : m.K t = 8 := h.1
theorem TD.Rt {m : MM} {t : Nat} {W : WD} (h : TD m t W) : m.R 800 t 0 = some (t + 1) := h.2.1
theorem TD.Rr {m : MM} {t : Nat} {W : WD} (h : TD m t W) : m.R 806 t 0 = some (t + 2) := h.2.2.1
theorem TD.Rl {m : MM} {t : Nat} {W : WD} (h : TD m t W) : m.R 807 t 0 = some (t + 3) := h.2.2.2.1
theorem TD.K1 {m : MM} {t : Nat} {W : WD} (h : TD m t W) : m.K (t + 1) = 21 := h.2.2.2.2.1
theorem TD.N1 {m : MM} {t : Nat} {W : WD} (h : TD m t W) : m.N (t + 1) = 500 := h.2.2.2.2.2.1
theorem TD.K2 {m : MM} {t : Nat} {W : WD} (h : TD m t W) : m.K (t + 2) = 28 := h.2.2.2.2.2.2.1
theorem TD.N2 {m : MM} {t : Nat} {W : WD} (h : TD m t W) : m.N (t + 2) = 3 := h.2.2.2.2.2.2.2.1
theorem TD.K3 {m : MM} {t : Nat} {W : WD} (h : TD m t W) : m.K (t + 3) = 26 := h.2.2.2.2.2.2.2.2.1
theorem TD.N3 {m : MM} {t : Nat} {W : WD} (h : TD m t W) : m.N (t + 3) = 3 := h.2.2.2.2.2.2.2.2.2.1
theorem TD.rT {m : MM} {t : Nat} {W : WD} (h : TD m t W) : (∀ i, i < 3 → m.R 28 (t + 2) i = some (t + 4 + 18 * i)) := h.2.2.2.2.2.2.2.2.2.2.1
theorem TD.rL {m : MM} {t : Nat} {W : WD} (h : TD m t W) : (∀ i, i < 3 → m.R 26 (t + 3) i = some (t + 19 + 18 * i)) := h.2.2.2.2.2.2.2.2.2.2.2.1
theorem TD.tp {m : MM} {t : Nat} {W : WD} (h : TD m t W) : (∀ j, j < 500 → m.I 21 (t + 1) j = W.tp j) := h.2.2.2.2.2.2.2.2.2.2.2.2.1
theorem TD.ln {m : MM} {t : Nat} {W : WD} (h : TD m t W) : m.I 801 t 0 = nI W.ln := h.2.2.2.2.2.2.2.2.2.2.2.2.2.1
theorem TD.lnle {m : MM} {t : Nat} {W : WD} (h : TD m t W) : W.ln ≤ 500 := h.2.2.2.2.2.2.2.2.2.2.2.2.2.2.1
theorem TD.fa {m : MM} {t : Nat} {W : WD} (h : TD m t W) : m.I 802 t 0 = W.fa := h.2.2.2.2.2.2.2.2.2.2.2.2.2.2.2.1
theorem TD.pl {m : MM} {t : Nat} {W : WD} (h : TD m t W) : m.I 803 t 0 = W.pl := h.2.2.2.2.2.2.2.2.2.2.2.2.2.2.2.2.1
theorem TD.nt {m : MM} {t : Nat} {W : WD} (h : TD m t W) : m.I 804 t 0 = nI W.nt := h.2.2.2.2.2.2.2.2.2.2.2.2.2.2.2.2.2.1
theorem TD.ntle {m : MM} {t : Nat} {W : WD} (h : TD m t W) : W.nt ≤ 3 := h.2.2.2.2.2.2.2.2.2.2.2.2.2.2.2.2.2.2.1
theorem TD.nl {m : MM} {t : Nat} {W : WD} (h : TD m t W) : m.I 805 t 0 = nI W.nl := h.2.2.2.2.2.2.2.2.2.2.2.2.2.2.2.2.2.2.2.1
theorem TD.nlle {m : MM} {t : Nat} {W : WD} (h : TD m t W) : W.nl ≤ 3 := h.2.2.2.2.2.2.2.2.2.2.2.2.2.2.2.2.2.2.2.2.1
theorem TD.T {m : MM} {t : Nat} {W : WD} (h : TD m t W) : (∀ i, i < 3 → CT m (t + 4 + 18 * i) (W.tn i)) := h.2.2.2.2.2.2.2.2.2.2.2.2.2.2.2.2.2.2.2.2.2.1
theorem TD.L {m : MM} {t : Nat} {W : WD} (h : TD m t W) : (∀ i, i < 3 → CL m (t + 19 + 18 * i) (W.lw i)) := h.2.2.2.2.2.2.2.2.2.2.2.2.2.2.2.2.2.2.2.2.2.2
theorem TD.kept {m n : MM} {t : Nat} {W : WD} (hA : Ag m n t (t + 58)) (h : TD m t W) : TD n t W := by
  have a0 := hA (t + 0) (by omega) (by omega)
  have a1 := hA (t + 1) (by omega) (by omega)
  have a2 := hA (t + 2) (by omega) (by omega)
  have a3 := hA (t + 3) (by omega) (by omega)
  exact ⟨by rw [show n.K t = m.K t from a0.1]; exact h.K, by rw [show ∀ s i, n.R s t i = m.R s t i from a0.2.2.2]; exact h.Rt, by rw [show ∀ s i, n.R s t i = m.R s t i from a0.2.2.2]; exact h.Rr, by rw [show ∀ s i, n.R s t i = m.R s t i from a0.2.2.2]; exact h.Rl, by rw [a1.1]; exact h.K1, by rw [a1.2.1]; exact h.N1, by rw [a2.1]; exact h.K2, by rw [a2.2.1]; exact h.N2, by rw [a3.1]; exact h.K3, by rw [a3.2.1]; exact h.N3, fun i hi => by rw [a2.2.2.2]; exact h.rT i hi, fun i hi => by rw [a3.2.2.2]; exact h.rL i hi, fun j hj => by rw [a1.2.2.1]; exact h.tp j hj, by rw [show ∀ s i, n.I s t i = m.I s t i from a0.2.2.1]; exact h.ln, h.lnle, by rw [show ∀ s i, n.I s t i = m.I s t i from a0.2.2.1]; exact h.fa, by rw [show ∀ s i, n.I s t i = m.I s t i from a0.2.2.1]; exact h.pl, by rw [show ∀ s i, n.I s t i = m.I s t i from a0.2.2.1]; exact h.nt, h.ntle, by rw [show ∀ s i, n.I s t i = m.I s t i from a0.2.2.1]; exact h.nl, h.nlle, fun i hi => (h.T i hi).kept (hA.sub (by omega) (by omega)), fun i hi => (h.L i hi).kept (hA.sub (by omega) (by omega))⟩
def mdL : List (Nat × Nat × Nat × Nat) := [(1101, 1, 21, 2000), (1102, 2, 22, 4), (1103, 3, 22, 4), (1104, 4, 22, 4), (1105, 5, 22, 4), (1106, 6, 22, 384), (1107, 7, 22, 144), (1108, 8, 22, 144), (1109, 9, 22, 144), (1110, 10, 22, 144), (1111, 11, 22, 144), (1112, 12, 22, 144), (1113, 13, 22, 144), (1114, 14, 22, 144), (1115, 15, 22, 168), (1116, 16, 22, 168), (1117, 17, 22, 168), (1118, 18, 22, 168), (1119, 19, 22, 168), (1120, 20, 22, 144), (1121, 21, 22, 144), (1122, 22, 22, 144), (1123, 23, 22, 144), (1124, 24, 22, 144), (1125, 25, 22, 144), (1126, 26, 22, 36), (1127, 27, 22, 36), (1128, 28, 22, 4), (1129, 29, 22, 12), (1130, 30, 22, 12), (1131, 31, 22, 12), (1132, 32, 22, 12), (1133, 33, 22, 120), (1134, 34, 22, 120), (1135, 35, 22, 120), (1136, 36, 22, 120), (1137, 37, 22, 120), (1147, 38, 22, 6), (1150, 39, 22, 32), (1151, 40, 22, 91), (1152, 41, 22, 75), (1153, 42, 22, 39), (1154, 43, 22, 39), (1159, 44, 22, 55), (1160, 45, 22, 15), (1161, 46, 22, 15), (1162, 47, 22, 15), (1163, 48, 22, 15), (1164, 49, 22, 15), (1171, 50, 22, 1440), (1172, 51, 22, 1440), (1173, 52, 22, 1440), (1176, 53, 22, 3), (1181, 54, 24, 64), (1182, 55, 24, 64), (1183, 56, 24, 3)]
def Md (m : MM) (y : Nat) : Prop := m.K y = 11 ∧ ∀ q ∈ mdL, m.R q.1 y 0 = some (y + q.2.1) ∧ m.K (y + q.2.1) = q.2.2.1 ∧ m.N (y + q.2.1) = q.2.2.2
theorem Md.r1101 {m : MM} {y : Nat} (h : Md m y) : m.R 1101 y 0 = some (y + 1) := (h.2 (1101, 1, 21, 2000) (by decide)).1
theorem Md.c1101 {m : MM} {y : Nat} (h : Md m y) {α : Type} (K : Nat → Option α) : ck m (m.R 1101 y 0) 21 K = K (y + 1) := ck_e h.r1101 (h.2 (1101, 1, 21, 2000) (by decide)).2.1
theorem Md.n1101 {m : MM} {y : Nat} (h : Md m y) : m.N (y + 1) = 2000 := (h.2 (1101, 1, 21, 2000) (by decide)).2.2
theorem Md.r1102 {m : MM} {y : Nat} (h : Md m y) : m.R 1102 y 0 = some (y + 2) := (h.2 (1102, 2, 22, 4) (by decide)).1
theorem Md.c1102 {m : MM} {y : Nat} (h : Md m y) {α : Type} (K : Nat → Option α) : ck m (m.R 1102 y 0) 22 K = K (y + 2) := ck_e h.r1102 (h.2 (1102, 2, 22, 4) (by decide)).2.1
theorem Md.n1102 {m : MM} {y : Nat} (h : Md m y) : m.N (y + 2) = 4 := (h.2 (1102, 2, 22, 4) (by decide)).2.2
theorem Md.r1103 {m : MM} {y : Nat} (h : Md m y) : m.R 1103 y 0 = some (y + 3) := (h.2 (1103, 3, 22, 4) (by decide)).1
theorem Md.c1103 {m : MM} {y : Nat} (h : Md m y) {α : Type} (K : Nat → Option α) : ck m (m.R 1103 y 0) 22 K = K (y + 3) := ck_e h.r1103 (h.2 (1103, 3, 22, 4) (by decide)).2.1
theorem Md.n1103 {m : MM} {y : Nat} (h : Md m y) : m.N (y + 3) = 4 := (h.2 (1103, 3, 22, 4) (by decide)).2.2
theorem Md.r1104 {m : MM} {y : Nat} (h : Md m y) : m.R 1104 y 0 = some (y + 4) := (h.2 (1104, 4, 22, 4) (by decide)).1
theorem Md.c1104 {m : MM} {y : Nat} (h : Md m y) {α : Type} (K : Nat → Option α) : ck m (m.R 1104 y 0) 22 K = K (y + 4) := ck_e h.r1104 (h.2 (1104, 4, 22, 4) (by decide)).2.1
theorem Md.n1104 {m : MM} {y : Nat} (h : Md m y) : m.N (y + 4) = 4 := (h.2 (1104, 4, 22, 4) (by decide)).2.2
theorem Md.r1105 {m : MM} {y : Nat} (h : Md m y) : m.R 1105 y 0 = some (y + 5) := (h.2 (1105, 5, 22, 4) (by decide)).1
theorem Md.c1105 {m : MM} {y : Nat} (h : Md m y) {α : Type} (K : Nat → Option α) : ck m (m.R 1105 y 0) 22 K = K (y + 5) := ck_e h.r1105 (h.2 (1105, 5, 22, 4) (by decide)).2.1
theorem Md.n1105 {m : MM} {y : Nat} (h : Md m y) : m.N (y + 5) = 4 := (h.2 (1105, 5, 22, 4) (by decide)).2.2
theorem Md.r1106 {m : MM} {y : Nat} (h : Md m y) : m.R 1106 y 0 = some (y + 6) := (h.2 (1106, 6, 22, 384) (by decide)).1
theorem Md.c1106 {m : MM} {y : Nat} (h : Md m y) {α : Type} (K : Nat → Option α) : ck m (m.R 1106 y 0) 22 K = K (y + 6) := ck_e h.r1106 (h.2 (1106, 6, 22, 384) (by decide)).2.1
theorem Md.n1106 {m : MM} {y : Nat} (h : Md m y) : m.N (y + 6) = 384 := (h.2 (1106, 6, 22, 384) (by decide)).2.2
theorem Md.r1107 {m : MM} {y : Nat} (h : Md m y) : m.R 1107 y 0 = some (y + 7) := (h.2 (1107, 7, 22, 144) (by decide)).1
theorem Md.c1107 {m : MM} {y : Nat} (h : Md m y) {α : Type} (K : Nat → Option α) : ck m (m.R 1107 y 0) 22 K = K (y + 7) := ck_e h.r1107 (h.2 (1107, 7, 22, 144) (by decide)).2.1
theorem Md.n1107 {m : MM} {y : Nat} (h : Md m y) : m.N (y + 7) = 144 := (h.2 (1107, 7, 22, 144) (by decide)).2.2
theorem Md.r1108 {m : MM} {y : Nat} (h : Md m y) : m.R 1108 y 0 = some (y + 8) := (h.2 (1108, 8, 22, 144) (by decide)).1
theorem Md.c1108 {m : MM} {y : Nat} (h : Md m y) {α : Type} (K : Nat → Option α) : ck m (m.R 1108 y 0) 22 K = K (y + 8) := ck_e h.r1108 (h.2 (1108, 8, 22, 144) (by decide)).2.1
theorem Md.n1108 {m : MM} {y : Nat} (h : Md m y) : m.N (y + 8) = 144 := (h.2 (1108, 8, 22, 144) (by decide)).2.2
theorem Md.r1109 {m : MM} {y : Nat} (h : Md m y) : m.R 1109 y 0 = some (y + 9) := (h.2 (1109, 9, 22, 144) (by decide)).1
theorem Md.c1109 {m : MM} {y : Nat} (h : Md m y) {α : Type} (K : Nat → Option α) : ck m (m.R 1109 y 0) 22 K = K (y + 9) := ck_e h.r1109 (h.2 (1109, 9, 22, 144) (by decide)).2.1
theorem Md.n1109 {m : MM} {y : Nat} (h : Md m y) : m.N (y + 9) = 144 := (h.2 (1109, 9, 22, 144) (by decide)).2.2
theorem Md.r1110 {m : MM} {y : Nat} (h : Md m y) : m.R 1110 y 0 = some (y + 10) := (h.2 (1110, 10, 22, 144) (by decide)).1
theorem Md.c1110 {m : MM} {y : Nat} (h : Md m y) {α : Type} (K : Nat → Option α) : ck m (m.R 1110 y 0) 22 K = K (y + 10) := ck_e h.r1110 (h.2 (1110, 10, 22, 144) (by decide)).2.1
theorem Md.n1110 {m : MM} {y : Nat} (h : Md m y) : m.N (y + 10) = 144 := (h.2 (1110, 10, 22, 144) (by decide)).2.2
theorem Md.r1111 {m : MM} {y : Nat} (h : Md m y) : m.R 1111 y 0 = some (y + 11) := (h.2 (1111, 11, 22, 144) (by decide)).1
theorem Md.c1111 {m : MM} {y : Nat} (h : Md m y) {α : Type} (K : Nat → Option α) : ck m (m.R 1111 y 0) 22 K = K (y + 11) := ck_e h.r1111 (h.2 (1111, 11, 22, 144) (by decide)).2.1
theorem Md.n1111 {m : MM} {y : Nat} (h : Md m y) : m.N (y + 11) = 144 := (h.2 (1111, 11, 22, 144) (by decide)).2.2
theorem Md.r1112 {m : MM} {y : Nat} (h : Md m y) : m.R 1112 y 0 = some (y + 12) := (h.2 (1112, 12, 22, 144) (by decide)).1
theorem Md.c1112 {m : MM} {y : Nat} (h : Md m y) {α : Type} (K : Nat → Option α) : ck m (m.R 1112 y 0) 22 K = K (y + 12) := ck_e h.r1112 (h.2 (1112, 12, 22, 144) (by decide)).2.1
theorem Md.n1112 {m : MM} {y : Nat} (h : Md m y) : m.N (y + 12) = 144 := (h.2 (1112, 12, 22, 144) (by decide)).2.2
theorem Md.r1113 {m : MM} {y : Nat} (h : Md m y) : m.R 1113 y 0 = some (y + 13) := (h.2 (1113, 13, 22, 144) (by decide)).1
theorem Md.c1113 {m : MM} {y : Nat} (h : Md m y) {α : Type} (K : Nat → Option α) : ck m (m.R 1113 y 0) 22 K = K (y + 13) := ck_e h.r1113 (h.2 (1113, 13, 22, 144) (by decide)).2.1
theorem Md.n1113 {m : MM} {y : Nat} (h : Md m y) : m.N (y + 13) = 144 := (h.2 (1113, 13, 22, 144) (by decide)).2.2
theorem Md.r1114 {m : MM} {y : Nat} (h : Md m y) : m.R 1114 y 0 = some (y + 14) := (h.2 (1114, 14, 22, 144) (by decide)).1
theorem Md.c1114 {m : MM} {y : Nat} (h : Md m y) {α : Type} (K : Nat → Option α) : ck m (m.R 1114 y 0) 22 K = K (y + 14) := ck_e h.r1114 (h.2 (1114, 14, 22, 144) (by decide)).2.1
theorem Md.n1114 {m : MM} {y : Nat} (h : Md m y) : m.N (y + 14) = 144 := (h.2 (1114, 14, 22, 144) (by decide)).2.2
theorem Md.r1115 {m : MM} {y : Nat} (h : Md m y) : m.R 1115 y 0 = some (y + 15) := (h.2 (1115, 15, 22, 168) (by decide)).1
theorem Md.c1115 {m : MM} {y : Nat} (h : Md m y) {α : Type} (K : Nat → Option α) : ck m (m.R 1115 y 0) 22 K = K (y + 15) := ck_e h.r1115 (h.2 (1115, 15, 22, 168) (by decide)).2.1
theorem Md.n1115 {m : MM} {y : Nat} (h : Md m y) : m.N (y + 15) = 168 := (h.2 (1115, 15, 22, 168) (by decide)).2.2
theorem Md.r1116 {m : MM} {y : Nat} (h : Md m y) : m.R 1116 y 0 = some (y + 16) := (h.2 (1116, 16, 22, 168) (by decide)).1
theorem Md.c1116 {m : MM} {y : Nat} (h : Md m y) {α : Type} (K : Nat → Option α) : ck m (m.R 1116 y 0) 22 K = K (y + 16) := ck_e h.r1116 (h.2 (1116, 16, 22, 168) (by decide)).2.1
theorem Md.n1116 {m : MM} {y : Nat} (h : Md m y) : m.N (y + 16) = 168 := (h.2 (1116, 16, 22, 168) (by decide)).2.2
theorem Md.r1117 {m : MM} {y : Nat} (h : Md m y) : m.R 1117 y 0 = some (y + 17) := (h.2 (1117, 17, 22, 168) (by decide)).1
theorem Md.c1117 {m : MM} {y : Nat} (h : Md m y) {α : Type} (K : Nat → Option α) : ck m (m.R 1117 y 0) 22 K = K (y + 17) := ck_e h.r1117 (h.2 (1117, 17, 22, 168) (by decide)).2.1
theorem Md.n1117 {m : MM} {y : Nat} (h : Md m y) : m.N (y + 17) = 168 := (h.2 (1117, 17, 22, 168) (by decide)).2.2
theorem Md.r1118 {m : MM} {y : Nat} (h : Md m y) : m.R 1118 y 0 = some (y + 18) := (h.2 (1118, 18, 22, 168) (by decide)).1
theorem Md.c1118 {m : MM} {y : Nat} (h : Md m y) {α : Type} (K : Nat → Option α) : ck m (m.R 1118 y 0) 22 K = K (y + 18) := ck_e h.r1118 (h.2 (1118, 18, 22, 168) (by decide)).2.1
theorem Md.n1118 {m : MM} {y : Nat} (h : Md m y) : m.N (y + 18) = 168 := (h.2 (1118, 18, 22, 168) (by decide)).2.2
theorem Md.r1119 {m : MM} {y : Nat} (h : Md m y) : m.R 1119 y 0 = some (y + 19) := (h.2 (1119, 19, 22, 168) (by decide)).1
theorem Md.c1119 {m : MM} {y : Nat} (h : Md m y) {α : Type} (K : Nat → Option α) : ck m (m.R 1119 y 0) 22 K = K (y + 19) := ck_e h.r1119 (h.2 (1119, 19, 22, 168) (by decide)).2.1
theorem Md.n1119 {m : MM} {y : Nat} (h : Md m y) : m.N (y + 19) = 168 := (h.2 (1119, 19, 22, 168) (by decide)).2.2
theorem Md.r1120 {m : MM} {y : Nat} (h : Md m y) : m.R 1120 y 0 = some (y + 20) := (h.2 (1120, 20, 22, 144) (by decide)).1
theorem Md.c1120 {m : MM} {y : Nat} (h : Md m y) {α : Type} (K : Nat → Option α) : ck m (m.R 1120 y 0) 22 K = K (y + 20) := ck_e h.r1120 (h.2 (1120, 20, 22, 144) (by decide)).2.1
theorem Md.n1120 {m : MM} {y : Nat} (h : Md m y) : m.N (y + 20) = 144 := (h.2 (1120, 20, 22, 144) (by decide)).2.2
theorem Md.r1121 {m : MM} {y : Nat} (h : Md m y) : m.R 1121 y 0 = some (y + 21) := (h.2 (1121, 21, 22, 144) (by decide)).1
theorem Md.c1121 {m : MM} {y : Nat} (h : Md m y) {α : Type} (K : Nat → Option α) : ck m (m.R 1121 y 0) 22 K = K (y + 21) := ck_e h.r1121 (h.2 (1121, 21, 22, 144) (by decide)).2.1
theorem Md.n1121 {m : MM} {y : Nat} (h : Md m y) : m.N (y + 21) = 144 := (h.2 (1121, 21, 22, 144) (by decide)).2.2
theorem Md.r1122 {m : MM} {y : Nat} (h : Md m y) : m.R 1122 y 0 = some (y + 22) := (h.2 (1122, 22, 22, 144) (by decide)).1
theorem Md.c1122 {m : MM} {y : Nat} (h : Md m y) {α : Type} (K : Nat → Option α) : ck m (m.R 1122 y 0) 22 K = K (y + 22) := ck_e h.r1122 (h.2 (1122, 22, 22, 144) (by decide)).2.1
theorem Md.n1122 {m : MM} {y : Nat} (h : Md m y) : m.N (y + 22) = 144 := (h.2 (1122, 22, 22, 144) (by decide)).2.2
theorem Md.r1123 {m : MM} {y : Nat} (h : Md m y) : m.R 1123 y 0 = some (y + 23) := (h.2 (1123, 23, 22, 144) (by decide)).1
theorem Md.c1123 {m : MM} {y : Nat} (h : Md m y) {α : Type} (K : Nat → Option α) : ck m (m.R 1123 y 0) 22 K = K (y + 23) := ck_e h.r1123 (h.2 (1123, 23, 22, 144) (by decide)).2.1
theorem Md.n1123 {m : MM} {y : Nat} (h : Md m y) : m.N (y + 23) = 144 := (h.2 (1123, 23, 22, 144) (by decide)).2.2
theorem Md.r1124 {m : MM} {y : Nat} (h : Md m y) : m.R 1124 y 0 = some (y + 24) := (h.2 (1124, 24, 22, 144) (by decide)).1
theorem Md.c1124 {m : MM} {y : Nat} (h : Md m y) {α : Type} (K : Nat → Option α) : ck m (m.R 1124 y 0) 22 K = K (y + 24) := ck_e h.r1124 (h.2 (1124, 24, 22, 144) (by decide)).2.1
theorem Md.n1124 {m : MM} {y : Nat} (h : Md m y) : m.N (y + 24) = 144 := (h.2 (1124, 24, 22, 144) (by decide)).2.2
theorem Md.r1125 {m : MM} {y : Nat} (h : Md m y) : m.R 1125 y 0 = some (y + 25) := (h.2 (1125, 25, 22, 144) (by decide)).1
theorem Md.c1125 {m : MM} {y : Nat} (h : Md m y) {α : Type} (K : Nat → Option α) : ck m (m.R 1125 y 0) 22 K = K (y + 25) := ck_e h.r1125 (h.2 (1125, 25, 22, 144) (by decide)).2.1
theorem Md.n1125 {m : MM} {y : Nat} (h : Md m y) : m.N (y + 25) = 144 := (h.2 (1125, 25, 22, 144) (by decide)).2.2
theorem Md.r1126 {m : MM} {y : Nat} (h : Md m y) : m.R 1126 y 0 = some (y + 26) := (h.2 (1126, 26, 22, 36) (by decide)).1
theorem Md.c1126 {m : MM} {y : Nat} (h : Md m y) {α : Type} (K : Nat → Option α) : ck m (m.R 1126 y 0) 22 K = K (y + 26) := ck_e h.r1126 (h.2 (1126, 26, 22, 36) (by decide)).2.1
theorem Md.n1126 {m : MM} {y : Nat} (h : Md m y) : m.N (y + 26) = 36 := (h.2 (1126, 26, 22, 36) (by decide)).2.2
theorem Md.r1127 {m : MM} {y : Nat} (h : Md m y) : m.R 1127 y 0 = some (y + 27) := (h.2 (1127, 27, 22, 36) (by decide)).1
theorem Md.c1127 {m : MM} {y : Nat} (h : Md m y) {α : Type} (K : Nat → Option α) : ck m (m.R 1127 y 0) 22 K = K (y + 27) := ck_e h.r1127 (h.2 (1127, 27, 22, 36) (by decide)).2.1
theorem Md.n1127 {m : MM} {y : Nat} (h : Md m y) : m.N (y + 27) = 36 := (h.2 (1127, 27, 22, 36) (by decide)).2.2
theorem Md.r1128 {m : MM} {y : Nat} (h : Md m y) : m.R 1128 y 0 = some (y + 28) := (h.2 (1128, 28, 22, 4) (by decide)).1
theorem Md.c1128 {m : MM} {y : Nat} (h : Md m y) {α : Type} (K : Nat → Option α) : ck m (m.R 1128 y 0) 22 K = K (y + 28) := ck_e h.r1128 (h.2 (1128, 28, 22, 4) (by decide)).2.1
theorem Md.n1128 {m : MM} {y : Nat} (h : Md m y) : m.N (y + 28) = 4 := (h.2 (1128, 28, 22, 4) (by decide)).2.2
theorem Md.r1129 {m : MM} {y : Nat} (h : Md m y) : m.R 1129 y 0 = some (y + 29) := (h.2 (1129, 29, 22, 12) (by decide)).1
theorem Md.c1129 {m : MM} {y : Nat} (h : Md m y) {α : Type} (K : Nat → Option α) : ck m (m.R 1129 y 0) 22 K = K (y + 29) := ck_e h.r1129 (h.2 (1129, 29, 22, 12) (by decide)).2.1
theorem Md.n1129 {m : MM} {y : Nat} (h : Md m y) : m.N (y + 29) = 12 := (h.2 (1129, 29, 22, 12) (by decide)).2.2
theorem Md.r1130 {m : MM} {y : Nat} (h : Md m y) : m.R 1130 y 0 = some (y + 30) := (h.2 (1130, 30, 22, 12) (by decide)).1
theorem Md.c1130 {m : MM} {y : Nat} (h : Md m y) {α : Type} (K : Nat → Option α) : ck m (m.R 1130 y 0) 22 K = K (y + 30) := ck_e h.r1130 (h.2 (1130, 30, 22, 12) (by decide)).2.1
theorem Md.n1130 {m : MM} {y : Nat} (h : Md m y) : m.N (y + 30) = 12 := (h.2 (1130, 30, 22, 12) (by decide)).2.2
theorem Md.r1131 {m : MM} {y : Nat} (h : Md m y) : m.R 1131 y 0 = some (y + 31) := (h.2 (1131, 31, 22, 12) (by decide)).1
theorem Md.c1131 {m : MM} {y : Nat} (h : Md m y) {α : Type} (K : Nat → Option α) : ck m (m.R 1131 y 0) 22 K = K (y + 31) := ck_e h.r1131 (h.2 (1131, 31, 22, 12) (by decide)).2.1
theorem Md.n1131 {m : MM} {y : Nat} (h : Md m y) : m.N (y + 31) = 12 := (h.2 (1131, 31, 22, 12) (by decide)).2.2
theorem Md.r1132 {m : MM} {y : Nat} (h : Md m y) : m.R 1132 y 0 = some (y + 32) := (h.2 (1132, 32, 22, 12) (by decide)).1
theorem Md.c1132 {m : MM} {y : Nat} (h : Md m y) {α : Type} (K : Nat → Option α) : ck m (m.R 1132 y 0) 22 K = K (y + 32) := ck_e h.r1132 (h.2 (1132, 32, 22, 12) (by decide)).2.1
theorem Md.n1132 {m : MM} {y : Nat} (h : Md m y) : m.N (y + 32) = 12 := (h.2 (1132, 32, 22, 12) (by decide)).2.2
theorem Md.r1133 {m : MM} {y : Nat} (h : Md m y) : m.R 1133 y 0 = some (y + 33) := (h.2 (1133, 33, 22, 120) (by decide)).1
theorem Md.c1133 {m : MM} {y : Nat} (h : Md m y) {α : Type} (K : Nat → Option α) : ck m (m.R 1133 y 0) 22 K = K (y + 33) := ck_e h.r1133 (h.2 (1133, 33, 22, 120) (by decide)).2.1
theorem Md.n1133 {m : MM} {y : Nat} (h : Md m y) : m.N (y + 33) = 120 := (h.2 (1133, 33, 22, 120) (by decide)).2.2
theorem Md.r1134 {m : MM} {y : Nat} (h : Md m y) : m.R 1134 y 0 = some (y + 34) := (h.2 (1134, 34, 22, 120) (by decide)).1
theorem Md.c1134 {m : MM} {y : Nat} (h : Md m y) {α : Type} (K : Nat → Option α) : ck m (m.R 1134 y 0) 22 K = K (y + 34) := ck_e h.r1134 (h.2 (1134, 34, 22, 120) (by decide)).2.1
theorem Md.n1134 {m : MM} {y : Nat} (h : Md m y) : m.N (y + 34) = 120 := (h.2 (1134, 34, 22, 120) (by decide)).2.2
theorem Md.r1135 {m : MM} {y : Nat} (h : Md m y) : m.R 1135 y 0 = some (y + 35) := (h.2 (1135, 35, 22, 120) (by decide)).1
theorem Md.c1135 {m : MM} {y : Nat} (h : Md m y) {α : Type} (K : Nat → Option α) : ck m (m.R 1135 y 0) 22 K = K (y + 35) := ck_e h.r1135 (h.2 (1135, 35, 22, 120) (by decide)).2.1
theorem Md.n1135 {m : MM} {y : Nat} (h : Md m y) : m.N (y + 35) = 120 := (h.2 (1135, 35, 22, 120) (by decide)).2.2
theorem Md.r1136 {m : MM} {y : Nat} (h : Md m y) : m.R 1136 y 0 = some (y + 36) := (h.2 (1136, 36, 22, 120) (by decide)).1
theorem Md.c1136 {m : MM} {y : Nat} (h : Md m y) {α : Type} (K : Nat → Option α) : ck m (m.R 1136 y 0) 22 K = K (y + 36) := ck_e h.r1136 (h.2 (1136, 36, 22, 120) (by decide)).2.1
theorem Md.n1136 {m : MM} {y : Nat} (h : Md m y) : m.N (y + 36) = 120 := (h.2 (1136, 36, 22, 120) (by decide)).2.2
theorem Md.r1137 {m : MM} {y : Nat} (h : Md m y) : m.R 1137 y 0 = some (y + 37) := (h.2 (1137, 37, 22, 120) (by decide)).1
theorem Md.c1137 {m : MM} {y : Nat} (h : Md m y) {α : Type} (K : Nat → Option α) : ck m (m.R 1137 y 0) 22 K = K (y + 37) := ck_e h.r1137 (h.2 (1137, 37, 22, 120) (by decide)).2.1
theorem Md.n1137 {m : MM} {y : Nat} (h : Md m y) : m.N (y + 37) = 120 := (h.2 (1137, 37, 22, 120) (by decide)).2.2
theorem Md.r1147 {m : MM} {y : Nat} (h : Md m y) : m.R 1147 y 0 = some (y + 38) := (h.2 (1147, 38, 22, 6) (by decide)).1
theorem Md.c1147 {m : MM} {y : Nat} (h : Md m y) {α : Type} (K : Nat → Option α) : ck m (m.R 1147 y 0) 22 K = K (y + 38) := ck_e h.r1147 (h.2 (1147, 38, 22, 6) (by decide)).2.1
theorem Md.n1147 {m : MM} {y : Nat} (h : Md m y) : m.N (y + 38) = 6 := (h.2 (1147, 38, 22, 6) (by decide)).2.2
theorem Md.r1150 {m : MM} {y : Nat} (h : Md m y) : m.R 1150 y 0 = some (y + 39) := (h.2 (1150, 39, 22, 32) (by decide)).1
theorem Md.c1150 {m : MM} {y : Nat} (h : Md m y) {α : Type} (K : Nat → Option α) : ck m (m.R 1150 y 0) 22 K = K (y + 39) := ck_e h.r1150 (h.2 (1150, 39, 22, 32) (by decide)).2.1
theorem Md.n1150 {m : MM} {y : Nat} (h : Md m y) : m.N (y + 39) = 32 := (h.2 (1150, 39, 22, 32) (by decide)).2.2
theorem Md.r1151 {m : MM} {y : Nat} (h : Md m y) : m.R 1151 y 0 = some (y + 40) := (h.2 (1151, 40, 22, 91) (by decide)).1
theorem Md.c1151 {m : MM} {y : Nat} (h : Md m y) {α : Type} (K : Nat → Option α) : ck m (m.R 1151 y 0) 22 K = K (y + 40) := ck_e h.r1151 (h.2 (1151, 40, 22, 91) (by decide)).2.1
theorem Md.n1151 {m : MM} {y : Nat} (h : Md m y) : m.N (y + 40) = 91 := (h.2 (1151, 40, 22, 91) (by decide)).2.2
theorem Md.r1152 {m : MM} {y : Nat} (h : Md m y) : m.R 1152 y 0 = some (y + 41) := (h.2 (1152, 41, 22, 75) (by decide)).1
theorem Md.c1152 {m : MM} {y : Nat} (h : Md m y) {α : Type} (K : Nat → Option α) : ck m (m.R 1152 y 0) 22 K = K (y + 41) := ck_e h.r1152 (h.2 (1152, 41, 22, 75) (by decide)).2.1
theorem Md.n1152 {m : MM} {y : Nat} (h : Md m y) : m.N (y + 41) = 75 := (h.2 (1152, 41, 22, 75) (by decide)).2.2
theorem Md.r1153 {m : MM} {y : Nat} (h : Md m y) : m.R 1153 y 0 = some (y + 42) := (h.2 (1153, 42, 22, 39) (by decide)).1
theorem Md.c1153 {m : MM} {y : Nat} (h : Md m y) {α : Type} (K : Nat → Option α) : ck m (m.R 1153 y 0) 22 K = K (y + 42) := ck_e h.r1153 (h.2 (1153, 42, 22, 39) (by decide)).2.1
theorem Md.n1153 {m : MM} {y : Nat} (h : Md m y) : m.N (y + 42) = 39 := (h.2 (1153, 42, 22, 39) (by decide)).2.2
theorem Md.r1154 {m : MM} {y : Nat} (h : Md m y) : m.R 1154 y 0 = some (y + 43) := (h.2 (1154, 43, 22, 39) (by decide)).1
theorem Md.c1154 {m : MM} {y : Nat} (h : Md m y) {α : Type} (K : Nat → Option α) : ck m (m.R 1154 y 0) 22 K = K (y + 43) := ck_e h.r1154 (h.2 (1154, 43, 22, 39) (by decide)).2.1
theorem Md.n1154 {m : MM} {y : Nat} (h : Md m y) : m.N (y + 43) = 39 := (h.2 (1154, 43, 22, 39) (by decide)).2.2
theorem Md.r1159 {m : MM} {y : Nat} (h : Md m y) : m.R 1159 y 0 = some (y + 44) := (h.2 (1159, 44, 22, 55) (by decide)).1
theorem Md.c1159 {m : MM} {y : Nat} (h : Md m y) {α : Type} (K : Nat → Option α) : ck m (m.R 1159 y 0) 22 K = K (y + 44) := ck_e h.r1159 (h.2 (1159, 44, 22, 55) (by decide)).2.1
theorem Md.n1159 {m : MM} {y : Nat} (h : Md m y) : m.N (y + 44) = 55 := (h.2 (1159, 44, 22, 55) (by decide)).2.2
theorem Md.r1160 {m : MM} {y : Nat} (h : Md m y) : m.R 1160 y 0 = some (y + 45) := (h.2 (1160, 45, 22, 15) (by decide)).1
theorem Md.c1160 {m : MM} {y : Nat} (h : Md m y) {α : Type} (K : Nat → Option α) : ck m (m.R 1160 y 0) 22 K = K (y + 45) := ck_e h.r1160 (h.2 (1160, 45, 22, 15) (by decide)).2.1
theorem Md.n1160 {m : MM} {y : Nat} (h : Md m y) : m.N (y + 45) = 15 := (h.2 (1160, 45, 22, 15) (by decide)).2.2
theorem Md.r1161 {m : MM} {y : Nat} (h : Md m y) : m.R 1161 y 0 = some (y + 46) := (h.2 (1161, 46, 22, 15) (by decide)).1
theorem Md.c1161 {m : MM} {y : Nat} (h : Md m y) {α : Type} (K : Nat → Option α) : ck m (m.R 1161 y 0) 22 K = K (y + 46) := ck_e h.r1161 (h.2 (1161, 46, 22, 15) (by decide)).2.1
theorem Md.n1161 {m : MM} {y : Nat} (h : Md m y) : m.N (y + 46) = 15 := (h.2 (1161, 46, 22, 15) (by decide)).2.2
theorem Md.r1162 {m : MM} {y : Nat} (h : Md m y) : m.R 1162 y 0 = some (y + 47) := (h.2 (1162, 47, 22, 15) (by decide)).1
theorem Md.c1162 {m : MM} {y : Nat} (h : Md m y) {α : Type} (K : Nat → Option α) : ck m (m.R 1162 y 0) 22 K = K (y + 47) := ck_e h.r1162 (h.2 (1162, 47, 22, 15) (by decide)).2.1
theorem Md.n1162 {m : MM} {y : Nat} (h : Md m y) : m.N (y + 47) = 15 := (h.2 (1162, 47, 22, 15) (by decide)).2.2
theorem Md.r1163 {m : MM} {y : Nat} (h : Md m y) : m.R 1163 y 0 = some (y + 48) := (h.2 (1163, 48, 22, 15) (by decide)).1
theorem Md.c1163 {m : MM} {y : Nat} (h : Md m y) {α : Type} (K : Nat → Option α) : ck m (m.R 1163 y 0) 22 K = K (y + 48) := ck_e h.r1163 (h.2 (1163, 48, 22, 15) (by decide)).2.1
theorem Md.n1163 {m : MM} {y : Nat} (h : Md m y) : m.N (y + 48) = 15 := (h.2 (1163, 48, 22, 15) (by decide)).2.2
theorem Md.r1164 {m : MM} {y : Nat} (h : Md m y) : m.R 1164 y 0 = some (y + 49) := (h.2 (1164, 49, 22, 15) (by decide)).1
theorem Md.c1164 {m : MM} {y : Nat} (h : Md m y) {α : Type} (K : Nat → Option α) : ck m (m.R 1164 y 0) 22 K = K (y + 49) := ck_e h.r1164 (h.2 (1164, 49, 22, 15) (by decide)).2.1
theorem Md.n1164 {m : MM} {y : Nat} (h : Md m y) : m.N (y + 49) = 15 := (h.2 (1164, 49, 22, 15) (by decide)).2.2
theorem Md.r1171 {m : MM} {y : Nat} (h : Md m y) : m.R 1171 y 0 = some (y + 50) := (h.2 (1171, 50, 22, 1440) (by decide)).1
theorem Md.c1171 {m : MM} {y : Nat} (h : Md m y) {α : Type} (K : Nat → Option α) : ck m (m.R 1171 y 0) 22 K = K (y + 50) := ck_e h.r1171 (h.2 (1171, 50, 22, 1440) (by decide)).2.1
theorem Md.n1171 {m : MM} {y : Nat} (h : Md m y) : m.N (y + 50) = 1440 := (h.2 (1171, 50, 22, 1440) (by decide)).2.2
theorem Md.r1172 {m : MM} {y : Nat} (h : Md m y) : m.R 1172 y 0 = some (y + 51) := (h.2 (1172, 51, 22, 1440) (by decide)).1
theorem Md.c1172 {m : MM} {y : Nat} (h : Md m y) {α : Type} (K : Nat → Option α) : ck m (m.R 1172 y 0) 22 K = K (y + 51) := ck_e h.r1172 (h.2 (1172, 51, 22, 1440) (by decide)).2.1
theorem Md.n1172 {m : MM} {y : Nat} (h : Md m y) : m.N (y + 51) = 1440 := (h.2 (1172, 51, 22, 1440) (by decide)).2.2
theorem Md.r1173 {m : MM} {y : Nat} (h : Md m y) : m.R 1173 y 0 = some (y + 52) := (h.2 (1173, 52, 22, 1440) (by decide)).1
theorem Md.c1173 {m : MM} {y : Nat} (h : Md m y) {α : Type} (K : Nat → Option α) : ck m (m.R 1173 y 0) 22 K = K (y + 52) := ck_e h.r1173 (h.2 (1173, 52, 22, 1440) (by decide)).2.1
theorem Md.n1173 {m : MM} {y : Nat} (h : Md m y) : m.N (y + 52) = 1440 := (h.2 (1173, 52, 22, 1440) (by decide)).2.2
theorem Md.r1176 {m : MM} {y : Nat} (h : Md m y) : m.R 1176 y 0 = some (y + 53) := (h.2 (1176, 53, 22, 3) (by decide)).1
theorem Md.c1176 {m : MM} {y : Nat} (h : Md m y) {α : Type} (K : Nat → Option α) : ck m (m.R 1176 y 0) 22 K = K (y + 53) := ck_e h.r1176 (h.2 (1176, 53, 22, 3) (by decide)).2.1
theorem Md.n1176 {m : MM} {y : Nat} (h : Md m y) : m.N (y + 53) = 3 := (h.2 (1176, 53, 22, 3) (by decide)).2.2
theorem Md.r1181 {m : MM} {y : Nat} (h : Md m y) : m.R 1181 y 0 = some (y + 54) := (h.2 (1181, 54, 24, 64) (by decide)).1
theorem Md.c1181 {m : MM} {y : Nat} (h : Md m y) {α : Type} (K : Nat → Option α) : ck m (m.R 1181 y 0) 24 K = K (y + 54) := ck_e h.r1181 (h.2 (1181, 54, 24, 64) (by decide)).2.1
theorem Md.n1181 {m : MM} {y : Nat} (h : Md m y) : m.N (y + 54) = 64 := (h.2 (1181, 54, 24, 64) (by decide)).2.2
theorem Md.r1182 {m : MM} {y : Nat} (h : Md m y) : m.R 1182 y 0 = some (y + 55) := (h.2 (1182, 55, 24, 64) (by decide)).1
theorem Md.c1182 {m : MM} {y : Nat} (h : Md m y) {α : Type} (K : Nat → Option α) : ck m (m.R 1182 y 0) 24 K = K (y + 55) := ck_e h.r1182 (h.2 (1182, 55, 24, 64) (by decide)).2.1
theorem Md.n1182 {m : MM} {y : Nat} (h : Md m y) : m.N (y + 55) = 64 := (h.2 (1182, 55, 24, 64) (by decide)).2.2
theorem Md.r1183 {m : MM} {y : Nat} (h : Md m y) : m.R 1183 y 0 = some (y + 56) := (h.2 (1183, 56, 24, 3) (by decide)).1
theorem Md.c1183 {m : MM} {y : Nat} (h : Md m y) {α : Type} (K : Nat → Option α) : ck m (m.R 1183 y 0) 24 K = K (y + 56) := ck_e h.r1183 (h.2 (1183, 56, 24, 3) (by decide)).2.1
theorem Md.n1183 {m : MM} {y : Nat} (h : Md m y) : m.N (y + 56) = 3 := (h.2 (1183, 56, 24, 3) (by decide)).2.2
theorem Md.kept {m n : MM} {y : Nat} (h : Md m y) (hK : n.K = m.K) (hN : n.N = m.N) (hR : ∀ s, n.R s y 0 = m.R s y 0) : Md n y := ⟨by rw [hK]; exact h.1, fun q hq => ⟨by rw [hR]; exact (h.2 q hq).1, by rw [hK]; exact (h.2 q hq).2.1, by rw [hN]; exact (h.2 q hq).2.2⟩⟩
/-- the reference's town of a number -/
def RT (m : MM) (y k : Nat) (T : TW) : Prop := (m.I 22 (y + 6) (32 * k) = T.1 0 ∧ m.I 22 (y + 6) (32 * k + 1) = T.1 1 ∧ m.I 22 (y + 6) (32 * k + 2) = nI (T.2.1 0) ∧ m.I 22 (y + 6) (32 * k + 3) = nI (T.2.1 1) ∧ m.I 22 (y + 6) (32 * k + 4) = nI (T.2.1 2) ∧ m.I 22 (y + 6) (32 * k + 5) = T.1 2 ∧ m.I 22 (y + 6) (32 * k + 6) = T.1 3 ∧ m.I 22 (y + 6) (32 * k + 7) = nI (T.2.1 3) ∧ m.I 22 (y + 6) (32 * k + 8) = nI (T.2.1 4) ∧ m.I 22 (y + 6) (32 * k + 9) = nI (T.2.1 5) ∧ (∀ h, h < 8 → m.I 22 (y + 6) (32 * k + (10 + h)) = T.1 (10 + h)) ∧ (∀ g, g < 6 → m.I 22 (y + 6) (32 * k + (18 + g)) = T.1 (20 + g))) ∧ (∀ r, r < T.2.1 0 → ∀ c, c < 8 → m.I 22 (y + (7 + c)) (12 * k + r) = T.2.2 0 r c) ∧ (∀ r, r < T.2.1 1 → ∀ c, c < 5 → m.I 22 (y + (15 + c)) (14 * k + r) = T.2.2 1 r c) ∧ (∀ r, r < T.2.1 2 → ∀ c, c < 4 → m.I 22 (y + (15 + c)) (14 * k + (8 + r)) = T.2.2 2 r c) ∧ (∀ r, r < T.2.1 3 → ∀ c, c < 3 → m.I 22 (y + (20 + c)) (12 * k + r) = T.2.2 3 r c) ∧ (∀ r, r < T.2.1 4 → ∀ c, c < 3 → m.I 22 (y + (23 + c)) (12 * k + r) = T.2.2 4 r c) ∧ (∀ r, r < T.2.1 5 → ∀ c, c < 2 → m.I 22 (y + (26 + c)) (3 * k + r) = T.2.2 5 r c)
def RLw (m : MM) (y k : Nat) (B : LW) : Prop := m.I 22 (y + 29) k = nI B.2.1 ∧ m.I 22 (y + 30) k = B.1 0 ∧ m.I 22 (y + 31) k = B.1 1 ∧ m.I 22 (y + 32) k = B.1 2 ∧ ∀ r, r < B.2.1 → ∀ c, c < 5 → m.I 22 (y + (33 + c)) (10 * k + r) = B.2.2 r c
/-- two memories have the same in the reference's told arrays -/
def Ar (m n : MM) (y : Nat) : Prop := (∀ d, 1 ≤ d → d < 38 → ∀ i, n.I 22 (y + d) i = m.I 22 (y + d) i) ∧ (∀ i, n.I 21 (y + 1) i = m.I 21 (y + 1) i) ∧ ∀ i, n.I 24 (y + 56) i = m.I 24 (y + 56) i
theorem RT.kept {m n : MM} {y k : Nat} {T : TW} (hA : Ar m n y) (h : RT m y k T) : RT n y k T := by
  have e6 : ∀ i, n.I 22 (y + 6) i = m.I 22 (y + 6) i := hA.1 6 (by omega) (by omega)
  obtain ⟨⟨h0, h1, h2, h3, h4, h5, h6, h7, h8, h9, h10, h11⟩, g0, g1, g2, g3, g4, g5⟩ := h
  refine ⟨⟨by rw [e6]; exact h0, by rw [e6]; exact h1, by rw [e6]; exact h2, by rw [e6]; exact h3, by rw [e6]; exact h4, by rw [e6]; exact h5, by rw [e6]; exact h6, by rw [e6]; exact h7, by rw [e6]; exact h8, by rw [e6]; exact h9, fun h hh => by rw [e6]; exact h10 h hh, fun g hg => by rw [e6]; exact h11 g hg⟩, fun r hr c hc => ?_, fun r hr c hc => ?_, fun r hr c hc => ?_, fun r hr c hc => ?_, fun r hr c hc => ?_, fun r hr c hc => ?_⟩
  · rw [hA.1 (7 + c) (by omega) (by omega)]; exact g0 r hr c hc
  · rw [hA.1 (15 + c) (by omega) (by omega)]; exact g1 r hr c hc
  · rw [hA.1 (15 + c) (by omega) (by omega)]; exact g2 r hr c hc
  · rw [hA.1 (20 + c) (by omega) (by omega)]; exact g3 r hr c hc
  · rw [hA.1 (23 + c) (by omega) (by omega)]; exact g4 r hr c hc
  · rw [hA.1 (26 + c) (by omega) (by omega)]; exact g5 r hr c hc
theorem RLw.kept {m n : MM} {y k : Nat} {B : LW} (hA : Ar m n y) (h : RLw m y k B) : RLw n y k B := by
  obtain ⟨h0, h1, h2, h3, h4⟩ := h
  refine ⟨by rw [hA.1 29 (by omega) (by omega)]; exact h0, by rw [hA.1 30 (by omega) (by omega)]; exact h1, by rw [hA.1 31 (by omega) (by omega)]; exact h2, by rw [hA.1 32 (by omega) (by omega)]; exact h3, fun r hr c hc => by rw [hA.1 (33 + c) (by omega) (by omega)]; exact h4 r hr c hc⟩
/-- the reference's slot shows a world -/
def RW (m : MM) (y k : Nat) (W : WD) : Prop := (∀ j, j < 500 → m.I 21 (y + 1) (500 * k + j) = W.tp j) ∧ m.I 22 (y + 2) k = nI W.ln ∧ m.I 22 (y + 3) k = W.fa ∧ m.I 22 (y + 4) k = W.pl ∧ m.I 22 (y + 5) k = nI W.nt ∧ m.I 22 (y + 28) k = nI W.nl ∧ (∀ i, i < W.nt → RT m y (3 * k + i) (W.tn i)) ∧ ∀ i, i < W.nl → RLw m y (3 * k + i) (W.lw i)
theorem RW.kept {m n : MM} {y k : Nat} {W : WD} (hA : Ar m n y) (h : RW m y k W) : RW n y k W := by
  obtain ⟨h0, h1, h2, h3, h4, h5, h6, h7⟩ := h
  refine ⟨fun j hj => by rw [hA.2.1]; exact h0 j hj, by rw [hA.1 2 (by omega) (by omega)]; exact h1, by rw [hA.1 3 (by omega) (by omega)]; exact h2, by rw [hA.1 4 (by omega) (by omega)]; exact h3, by rw [hA.1 5 (by omega) (by omega)]; exact h4, by rw [hA.1 28 (by omega) (by omega)]; exact h5, fun i hi => (h6 i hi).kept hA, fun i hi => (h7 i hi).kept hA⟩
