/-! the reference's new town -/
def Rm (y : Nat) (m n : MM) : Prop := n.K = m.K ∧ n.N = m.N ∧ n.S = m.S ∧ n.R = m.R ∧ (∀ s a i, a ≠ y → (a < y + 38 ∨ y + 45 ≤ a) → n.I s a i = m.I s a i) ∧ ∀ s i, (s < 1138 ∨ 1159 ≤ s ∨ s = 1139) → n.I s y i = m.I s y i
theorem Rm.rf (y : Nat) (m : MM) : Rm y m m := ⟨rfl, rfl, rfl, rfl, fun _ _ _ _ _ => rfl, fun _ _ _ => rfl⟩
theorem Rm.tr {y : Nat} {m n q : MM} (h1 : Rm y m n) (h2 : Rm y n q) : Rm y m q := ⟨h2.1.trans h1.1, h2.2.1.trans h1.2.1, h2.2.2.1.trans h1.2.2.1, h2.2.2.2.1.trans h1.2.2.2.1, fun s a i g1 g2 => (h2.2.2.2.2.1 s a i g1 g2).trans (h1.2.2.2.2.1 s a i g1 g2), fun s i g => (h2.2.2.2.2.2 s i g).trans (h1.2.2.2.2.2 s i g)⟩
theorem Nq.rm {y : Nat} {m n : MM} (h : Nq y m n) : Rm y m n := ⟨h.1, h.2.1, h.2.2.1, h.2.2.2.1, fun s a i g1 g2 => h.2.2.2.2.1 s a i g1 (by omega), fun s i g => h.2.2.2.2.2 s i (by omega)⟩
/-- only a stretch of an array has changed -/
def Wr (y d b k : Nat) (m n : MM) : Prop := n.K = m.K ∧ n.N = m.N ∧ n.S = m.S ∧ n.R = m.R ∧ n.J = m.J ∧ ∀ s a i, ¬ (s = 22 ∧ a = y + d ∧ b ≤ i ∧ i < b + k) → n.I s a i = m.I s a i
theorem Wr.rf (y d b k : Nat) (m : MM) : Wr y d b k m m := ⟨rfl, rfl, rfl, rfl, rfl, fun _ _ _ _ => rfl⟩
theorem Wr.tr {y d b k : Nat} {m n q : MM} (h1 : Wr y d b k m n) (h2 : Wr y d b k n q) : Wr y d b k m q := ⟨h2.1.trans h1.1, h2.2.1.trans h1.2.1, h2.2.2.1.trans h1.2.2.1, h2.2.2.2.1.trans h1.2.2.2.1, h2.2.2.2.2.1.trans h1.2.2.2.2.1, fun s a i g => (h2.2.2.2.2.2 s a i g).trans (h1.2.2.2.2.2 s a i g)⟩
theorem Wr.sI {y d b k : Nat} {m n : MM} (h : Wr y d b k m n) (i : Nat) (v : Int32) (h1 : b ≤ i) (h2 : i < b + k) : Wr y d b k m (n.sI 22 (y + d) i v) := ⟨h.1, h.2.1, h.2.2.1, h.2.2.2.1, h.2.2.2.2.1, fun s a j g => by rw [I_sI, if_neg (by omega)]; exact h.2.2.2.2.2 s a j g⟩
theorem Wr.up {y d b k b2 k2 : Nat} {m n : MM} (h : Wr y d b k m n) (h1 : b2 ≤ b) (h2 : b + k ≤ b2 + k2) : Wr y d b2 k2 m n := ⟨h.1, h.2.1, h.2.2.1, h.2.2.2.1, h.2.2.2.2.1, fun s a i g => h.2.2.2.2.2 s a i (by omega)⟩
theorem Wr.rm {y d b k : Nat} {m n : MM} (h : Wr y d b k m n) (h1 : 38 ≤ d) (h2 : d < 45) : Rm y m n := ⟨h.1, h.2.1, h.2.2.1, h.2.2.2.1, fun s a i g1 g2 => h.2.2.2.2.2 s a i (by omega), fun s i g => h.2.2.2.2.2 s y i (by omega)⟩
def RN (m : MM) (y : Nat) (T : TW) : Prop := (m.I 22 (y + 39) 0 = T.1 0 ∧ m.I 22 (y + 39) 1 = T.1 1 ∧ m.I 22 (y + 39) 2 = nI (T.2.1 0) ∧ m.I 22 (y + 39) 3 = nI (T.2.1 1) ∧ m.I 22 (y + 39) 4 = nI (T.2.1 2) ∧ m.I 22 (y + 39) 5 = T.1 2 ∧ m.I 22 (y + 39) 6 = T.1 3 ∧ m.I 22 (y + 39) 7 = nI (T.2.1 3) ∧ m.I 22 (y + 39) 8 = nI (T.2.1 4) ∧ m.I 22 (y + 39) 9 = nI (T.2.1 5) ∧ (∀ h, h < 8 → m.I 22 (y + 39) (10 + h) = T.1 (10 + h)) ∧ (∀ g, g < 6 → m.I 22 (y + 39) (18 + g) = T.1 (20 + g))) ∧ (∀ r, r < T.2.1 0 → ∀ c, c < 7 → m.I 22 (y + 40) (7 * r + c) = T.2.2 0 r c) ∧ (∀ r, r < T.2.1 1 → ∀ c, c < 5 → m.I 22 (y + 41) (5 * r + c) = T.2.2 1 r c) ∧ (∀ r, r < T.2.1 2 → ∀ c, c < 4 → m.I 22 (y + 41) (5 * (8 + r) + c) = T.2.2 2 r c) ∧ (∀ r, r < T.2.1 3 → ∀ c, c < 3 → m.I 22 (y + 42) (3 * r + c) = T.2.2 3 r c) ∧ (∀ r, r < T.2.1 4 → ∀ c, c < 3 → m.I 22 (y + 43) (3 * r + c) = T.2.2 4 r c)
theorem RN.of {m n : MM} {y : Nat} {T : TW} (h : RN m y T) (e : ∀ d i, 39 ≤ d → d ≤ 43 → n.I 22 (y + d) i = m.I 22 (y + d) i) : RN n y T := by
  obtain ⟨⟨h0, h1, h2, h3, h4, h5, h6, h7, h8, h9, h10, h11⟩, g0, g1, g2, g3, g4⟩ := h
  have e9 : ∀ i, n.I 22 (y + 39) i = m.I 22 (y + 39) i := fun i => e 39 i (by omega) (by omega)
  exact ⟨⟨(e9 _).trans h0, (e9 _).trans h1, (e9 _).trans h2, (e9 _).trans h3, (e9 _).trans h4, (e9 _).trans h5, (e9 _).trans h6, (e9 _).trans h7, (e9 _).trans h8, (e9 _).trans h9, fun h hh => (e9 _).trans (h10 h hh), fun g hg => (e9 _).trans (h11 g hg)⟩, fun r hr c hc => (e 40 _ (by omega) (by omega)).trans (g0 r hr c hc), fun r hr c hc => (e 41 _ (by omega) (by omega)).trans (g1 r hr c hc), fun r hr c hc => (e 41 _ (by omega) (by omega)).trans (g2 r hr c hc), fun r hr c hc => (e 42 _ (by omega) (by omega)).trans (g3 r hr c hc), fun r hr c hc => (e 43 _ (by omega) (by omega)).trans (g4 r hr c hc)⟩
theorem RN.nq {m n : MM} {y : Nat} {T : TW} (h : RN m y T) (o : Nq y m n) : RN n y T := h.of (fun d i h1 h2 => o.2.2.2.2.1 _ _ _ (by omega) (by omega))
theorem RN.set {m n : MM} {y : Nat} {T : TW} (h : RN m y T) {k j : Nat} {v : Int32} (e : n = m.sI 22 (y + 39) j v) (hkj : (j < 2 ∧ k = j) ∨ (5 ≤ j ∧ j < 7 ∧ k + 3 = j) ∨ (10 ≤ j ∧ j < 18 ∧ k = j) ∨ (18 ≤ j ∧ j < 24 ∧ k = j + 2)) : RN n y (setV T k v) := by
  subst e
  obtain ⟨⟨h0, h1, h2, h3, h4, h5, h6, h7, h8, h9, h10, h11⟩, g0, g1, g2, g3, g4⟩ := h
  have key : ∀ i l, m.I 22 (y + 39) i = T.1 l → (i = j ↔ l = k) → (m.sI 22 (y + 39) j v).I 22 (y + 39) i = (setV T k v).1 l := fun i l a b => by
    rw [I_sI]
    show _ = if l = k then v else T.1 l
    by_cases c : i = j
    · rw [if_pos ⟨rfl, rfl, c⟩, if_pos (b.mp c)]
    · rw [if_neg (fun u => c u.2.2), if_neg (fun u => c (b.mpr u))]; exact a
  have kn : ∀ i z, m.I 22 (y + 39) i = z → i ≠ j → (m.sI 22 (y + 39) j v).I 22 (y + 39) i = z := fun i z a b => by rw [I_sI, if_neg (fun u => b u.2.2)]; exact a
  exact ⟨⟨key _ _ h0 (by omega), key _ _ h1 (by omega), kn _ _ h2 (by omega), kn _ _ h3 (by omega), kn _ _ h4 (by omega), key _ _ h5 (by omega), key _ _ h6 (by omega), kn _ _ h7 (by omega), kn _ _ h8 (by omega), kn _ _ h9 (by omega), fun h hh => key _ _ (h10 h hh) (by omega), fun g hg => key _ _ (h11 g hg) (by omega)⟩, fun r hr c hc => by rw [I_sI, if_neg (by omega)]; exact g0 r hr c hc, fun r hr c hc => by rw [I_sI, if_neg (by omega)]; exact g1 r hr c hc, fun r hr c hc => by rw [I_sI, if_neg (by omega)]; exact g2 r hr c hc, fun r hr c hc => by rw [I_sI, if_neg (by omega)]; exact g3 r hr c hc, fun r hr c hc => by rw [I_sI, if_neg (by omega)]; exact g4 r hr c hc⟩
theorem RN.tab0 {m n : MM} {y : Nat} {T : TW} (h : RN m y T) {z : Nat} {C : Nat → Nat → Int32} (e9 : ∀ i, i ≠ 2 → n.I 22 (y + 39) i = m.I 22 (y + 39) i) (ez : n.I 22 (y + 39) 2 = nI z) (eo : ∀ d i, 40 ≤ d → d ≤ 43 → d ≠ 40 → n.I 22 (y + d) i = m.I 22 (y + d) i) (hc : ∀ r, r < z → ∀ c, c < 7 → n.I 22 (y + 40) (7 * r + c) = C r c) : RN n y (tabW T 0 z C) := by
  obtain ⟨⟨h0, h1, h2, h3, h4, h5, h6, h7, h8, h9, h10, h11⟩, g0, g1, g2, g3, g4⟩ := h
  exact ⟨⟨(e9 0 (by omega)).trans h0, (e9 1 (by omega)).trans h1, ez, (e9 3 (by omega)).trans h3, (e9 4 (by omega)).trans h4, (e9 5 (by omega)).trans h5, (e9 6 (by omega)).trans h6, (e9 7 (by omega)).trans h7, (e9 8 (by omega)).trans h8, (e9 9 (by omega)).trans h9, fun h hh => (e9 _ (by omega)).trans (h10 h hh), fun g hg => (e9 _ (by omega)).trans (h11 g hg)⟩, hc, fun r hr c hc2 => (eo 41 _ (by omega) (by omega) (by omega)).trans (g1 r hr c hc2), fun r hr c hc2 => (eo 41 _ (by omega) (by omega) (by omega)).trans (g2 r hr c hc2), fun r hr c hc2 => (eo 42 _ (by omega) (by omega) (by omega)).trans (g3 r hr c hc2), fun r hr c hc2 => (eo 43 _ (by omega) (by omega) (by omega)).trans (g4 r hr c hc2)⟩
theorem RN.tab1 {m n : MM} {y : Nat} {T : TW} (h : RN m y T) {z : Nat} {C : Nat → Nat → Int32} (e9 : ∀ i, i ≠ 3 → n.I 22 (y + 39) i = m.I 22 (y + 39) i) (ez : n.I 22 (y + 39) 3 = nI z) (eo : ∀ d i, 40 ≤ d → d ≤ 43 → d ≠ 41 → n.I 22 (y + d) i = m.I 22 (y + d) i) (hc : ∀ r, r < z → ∀ c, c < 5 → n.I 22 (y + 41) (5 * r + c) = C r c) (ho : ∀ i, 40 ≤ i → i < 70 → n.I 22 (y + 41) i = m.I 22 (y + 41) i) (hb : T.2.1 2 ≤ 6) : RN n y (tabW T 1 z C) := by
  obtain ⟨⟨h0, h1, h2, h3, h4, h5, h6, h7, h8, h9, h10, h11⟩, g0, g1, g2, g3, g4⟩ := h
  exact ⟨⟨(e9 0 (by omega)).trans h0, (e9 1 (by omega)).trans h1, (e9 2 (by omega)).trans h2, ez, (e9 4 (by omega)).trans h4, (e9 5 (by omega)).trans h5, (e9 6 (by omega)).trans h6, (e9 7 (by omega)).trans h7, (e9 8 (by omega)).trans h8, (e9 9 (by omega)).trans h9, fun h hh => (e9 _ (by omega)).trans (h10 h hh), fun g hg => (e9 _ (by omega)).trans (h11 g hg)⟩, fun r hr c hc2 => (eo 40 _ (by omega) (by omega) (by omega)).trans (g0 r hr c hc2), hc, fun r hr c hc2 => by have hr2 : r < T.2.1 2 := hr; exact (ho _ (by omega) (by omega)).trans (g2 r hr2 c hc2), fun r hr c hc2 => (eo 42 _ (by omega) (by omega) (by omega)).trans (g3 r hr c hc2), fun r hr c hc2 => (eo 43 _ (by omega) (by omega) (by omega)).trans (g4 r hr c hc2)⟩
theorem RN.tab2 {m n : MM} {y : Nat} {T : TW} (h : RN m y T) {z : Nat} {C : Nat → Nat → Int32} (e9 : ∀ i, i ≠ 4 → n.I 22 (y + 39) i = m.I 22 (y + 39) i) (ez : n.I 22 (y + 39) 4 = nI z) (eo : ∀ d i, 40 ≤ d → d ≤ 43 → d ≠ 41 → n.I 22 (y + d) i = m.I 22 (y + d) i) (hc : ∀ r, r < z → ∀ c, c < 4 → n.I 22 (y + 41) (5 * (8 + r) + c) = C r c) (ho : ∀ i, i < 40 → n.I 22 (y + 41) i = m.I 22 (y + 41) i) (hb : T.2.1 1 ≤ 8) : RN n y (tabW T 2 z C) := by
  obtain ⟨⟨h0, h1, h2, h3, h4, h5, h6, h7, h8, h9, h10, h11⟩, g0, g1, g2, g3, g4⟩ := h
  exact ⟨⟨(e9 0 (by omega)).trans h0, (e9 1 (by omega)).trans h1, (e9 2 (by omega)).trans h2, (e9 3 (by omega)).trans h3, ez, (e9 5 (by omega)).trans h5, (e9 6 (by omega)).trans h6, (e9 7 (by omega)).trans h7, (e9 8 (by omega)).trans h8, (e9 9 (by omega)).trans h9, fun h hh => (e9 _ (by omega)).trans (h10 h hh), fun g hg => (e9 _ (by omega)).trans (h11 g hg)⟩, fun r hr c hc2 => (eo 40 _ (by omega) (by omega) (by omega)).trans (g0 r hr c hc2), fun r hr c hc2 => by have hr2 : r < T.2.1 1 := hr; exact (ho _ (by omega)).trans (g1 r hr2 c hc2), hc, fun r hr c hc2 => (eo 42 _ (by omega) (by omega) (by omega)).trans (g3 r hr c hc2), fun r hr c hc2 => (eo 43 _ (by omega) (by omega) (by omega)).trans (g4 r hr c hc2)⟩
theorem RN.tab3 {m n : MM} {y : Nat} {T : TW} (h : RN m y T) {z : Nat} {C : Nat → Nat → Int32} (e9 : ∀ i, i ≠ 7 → n.I 22 (y + 39) i = m.I 22 (y + 39) i) (ez : n.I 22 (y + 39) 7 = nI z) (eo : ∀ d i, 40 ≤ d → d ≤ 43 → d ≠ 42 → n.I 22 (y + d) i = m.I 22 (y + d) i) (hc : ∀ r, r < z → ∀ c, c < 3 → n.I 22 (y + 42) (3 * r + c) = C r c) : RN n y (tabW T 3 z C) := by
  obtain ⟨⟨h0, h1, h2, h3, h4, h5, h6, h7, h8, h9, h10, h11⟩, g0, g1, g2, g3, g4⟩ := h
  exact ⟨⟨(e9 0 (by omega)).trans h0, (e9 1 (by omega)).trans h1, (e9 2 (by omega)).trans h2, (e9 3 (by omega)).trans h3, (e9 4 (by omega)).trans h4, (e9 5 (by omega)).trans h5, (e9 6 (by omega)).trans h6, ez, (e9 8 (by omega)).trans h8, (e9 9 (by omega)).trans h9, fun h hh => (e9 _ (by omega)).trans (h10 h hh), fun g hg => (e9 _ (by omega)).trans (h11 g hg)⟩, fun r hr c hc2 => (eo 40 _ (by omega) (by omega) (by omega)).trans (g0 r hr c hc2), fun r hr c hc2 => (eo 41 _ (by omega) (by omega) (by omega)).trans (g1 r hr c hc2), fun r hr c hc2 => (eo 41 _ (by omega) (by omega) (by omega)).trans (g2 r hr c hc2), hc, fun r hr c hc2 => (eo 43 _ (by omega) (by omega) (by omega)).trans (g4 r hr c hc2)⟩
theorem RN.tab4 {m n : MM} {y : Nat} {T : TW} (h : RN m y T) {z : Nat} {C : Nat → Nat → Int32} (e9 : ∀ i, i ≠ 8 → n.I 22 (y + 39) i = m.I 22 (y + 39) i) (ez : n.I 22 (y + 39) 8 = nI z) (eo : ∀ d i, 40 ≤ d → d ≤ 43 → d ≠ 43 → n.I 22 (y + d) i = m.I 22 (y + d) i) (hc : ∀ r, r < z → ∀ c, c < 3 → n.I 22 (y + 43) (3 * r + c) = C r c) : RN n y (tabW T 4 z C) := by
  obtain ⟨⟨h0, h1, h2, h3, h4, h5, h6, h7, h8, h9, h10, h11⟩, g0, g1, g2, g3, g4⟩ := h
  exact ⟨⟨(e9 0 (by omega)).trans h0, (e9 1 (by omega)).trans h1, (e9 2 (by omega)).trans h2, (e9 3 (by omega)).trans h3, (e9 4 (by omega)).trans h4, (e9 5 (by omega)).trans h5, (e9 6 (by omega)).trans h6, (e9 7 (by omega)).trans h7, ez, (e9 9 (by omega)).trans h9, fun h hh => (e9 _ (by omega)).trans (h10 h hh), fun g hg => (e9 _ (by omega)).trans (h11 g hg)⟩, fun r hr c hc2 => (eo 40 _ (by omega) (by omega) (by omega)).trans (g0 r hr c hc2), fun r hr c hc2 => (eo 41 _ (by omega) (by omega) (by omega)).trans (g1 r hr c hc2), fun r hr c hc2 => (eo 41 _ (by omega) (by omega) (by omega)).trans (g2 r hr c hc2), fun r hr c hc2 => (eo 42 _ (by omega) (by omega) (by omega)).trans (g3 r hr c hc2), hc⟩
/-! the outcome of a line -/
def LnR (X : Tx) (y : Nat) (m : MM) (F : Option (Int32 × MM)) (o : Nat ⊕ Nat) (e : Nat) (C : MM → Prop) : Prop := (∃ n pl, F = some (0, n) ∧ o = .inl pl ∧ Rm y m n ∧ n.I 1144 y 0 = nI pl) ∨ ∃ n p' r g, F = some (1, n) ∧ o = .inr p' ∧ Rm y m n ∧ RC X y n p' e r g ∧ C n
section RLine
variable {X : Tx} {y : Nat} {m : MM} {p E n : Nat} {g : Int32}
theorem RC.wr {u : MM} {d b k : Nat} (h : RC X y m p E n g) (o : Wr y d b k m u) (h1 : 38 ≤ d) : RC X y u p E n g := by
  have s60 : ∀ s, u.I s y 0 = m.I s y 0 := fun s => o.2.2.2.2.2 _ _ _ (by omega)
  refine ⟨⟨h.1.1.kept o.1 o.2.1 (fun s => by rw [o.2.2.2.1]), fun j hj => by rw [o.2.2.2.2.2 _ _ _ (by omega)]; exact h.1.2.1 j hj, (s60 _).trans h.1.2.2.1, h.1.2.2.2⟩, h.2.1.of (fun s _ _ => s60 s) (by rw [o.2.2.2.2.1]), ⟨(s60 _).trans h.2.2.1.1, fun z => ⟨(s60 _).trans (h.2.2.1.2 z).1, (h.2.2.1.2 z).2⟩⟩, (s60 _).trans h.2.2.2.1, (s60 _).trans h.2.2.2.2.1, h.2.2.2.2.2⟩
theorem lr_f {u : MM} {F : Option (Int32 × MM)} {o : Nat ⊕ Nat} {e pl : Nat} {C : MM → Prop} (hF : F = some (0, u)) (ho : o = .inl pl) (O : Rm y m u) (h : u.I 1144 y 0 = nI pl) : LnR X y m F o e C := .inl ⟨u, pl, hF, ho, O, h⟩
theorem LnR.pre {u : MM} {F : Option (Int32 × MM)} {o : Nat ⊕ Nat} {e : Nat} {C : MM → Prop} (O : Rm y m u) (h : LnR X y u F o e C) : LnR X y m F o e C := by
  rcases h with ⟨a, pl, b1, b2, b3, b4⟩ | ⟨a, p', r, g, b1, b2, b3, b4⟩
  · exact .inl ⟨a, pl, b1, b2, O.tr b3, b4⟩
  · exact .inr ⟨a, p', r, g, b1, b2, O.tr b3, b4⟩
theorem LnR.o {F : Option (Int32 × MM)} {o o2 : Nat ⊕ Nat} {e e2 : Nat} {C : MM → Prop} (h : LnR X y m F o e C) (eo : o2 = o) (ee : e2 = e) : LnR X y m F o2 e2 C := by subst eo; subst ee; exact h
/-- the content after a line -/
def Ct (y e : Nat) (T : TW) (n : MM) : Prop := ∃ T', RN n y T' ∧ NT T' ∧ (e = 0 → T' = T)
theorem Ct.nq {e : Nat} {T : TW} {u : MM} (h : Ct y e T m) (o : Nq y m u) : Ct y e T u := by
  obtain ⟨T', a, b⟩ := h
  exact ⟨T', a.nq o, b⟩
theorem r_pt {T : TW} {q k : Nat} (h : RC X y m (itN X q k) E k g) (hk : k < 5) (ho : nmT X q k = .inr (itN X q k)) (hv : NR X y m q k) (hT : RN m y T) {P : Option (Int32 × MM) → Prop} (R : Option (Int32 × MM)) (hR : R = f_X10_point y m) (hf : ∀ u pl, nmT X q (k + 2) = .inl pl → Nq y m u → u.I 1144 y 0 = nI pl → P (some (0, u))) (hs : ∀ u, nmT X q (k + 2) = .inr (itN X q (k + 2)) → Nq y m u → RC X y u (itN X q (k + 2)) (e2T (e2T E (vT X q k) 0 (T.1 0 - 1) (sT X q k)) (vT X q (k + 1)) 0 (T.1 1 - 1) (sT X q (k + 1))) (k + 2) (cond (inR (nI (vT X q (k + 1))) 0 (T.1 1 - 1)) (cond (inR (nI (vT X q k)) 0 (T.1 0 - 1)) g 0) 0) → NR X y u q (k + 2) → P (some (1, u))) : P R := by
  subst hR
  unfold f_X10_point g_X10_point_0 g_X10_point_36
  have M := h.md
  rw [chk_t h.k, M.c1150, M.n1150, chk_t (show inb 0 32 = true by decide), show Int32.toNatClampNeg 0 = 0 from rfl, hT.1.1]
  refine r_num (P := fun R => P (cal R _)) h (by omega) ho hv 0 (T.1 0 - 1) _ rfl (fun u pl a1 a2 a3 => ?_) (fun u a1 a2 a3 a4 a5 => ?_)
  · rw [cal_s, if_pos rfl]
    exact hf u pl (nmT_l a1 1) a2 a3
  · have M2 := a3.md
    have hT2 := hT.nq a2
    rw [cal_s, if_neg (by decide), chk_t a3.k, M2.c1150, M2.n1150, chk_t (show inb 1 32 = true by decide), show Int32.toNatClampNeg 1 = 1 from rfl, hT2.1.2.1]
    refine r_num (P := fun R => P (cal R _)) a3 (by omega) a1 a4 0 (T.1 1 - 1) _ rfl (fun u2 pl b1 b2 b3 => ?_) (fun u2 b1 b2 b3 b4 b5 => ?_)
    · rw [cal_s, if_pos rfl]
      exact hf u2 pl b1 (a2.tr b2) b3
    · rw [cal_s, if_neg (by decide)]
      exact hs u2 b1 (a2.tr b2) b3 b4
theorem NR.nq {q k : Nat} {u : MM} (h : NR X y m q k) (o : ∀ j, u.I 22 (y + 38) j = m.I 22 (y + 38) j) : NR X y u q k := fun i hi => (o i).trans (h i hi)
theorem anyS (P : Nat → Bool) (i : Nat) : (List.range (i + 1)).any P = ((List.range i).any P || P i) := by
  rw [List.range_succ, List.any_append]
  simp
/-! rows written: what was read is copied -/
theorem cp_thingLine (p1 : Int32) (x4 : Int32) (K : Int32 → Int32 → MM → Option (Int32 × MM)) (h : RC X y m p E n g) {z : Nat} (hz : z ≤ 12) : ∃ u, l_X10_thingLine_196 y p1 K FU x4 (nI z) 0 m = K x4 (nI z) u ∧ Wr y 40 (7 * z) 5 m u ∧ ∀ c, c < 5 → u.I 22 (y + 40) (7 * z + c) = m.I 22 (y + 38) c := by
  obtain ⟨u, ⟨i1, i2⟩, e⟩ := lp_inv (fun n i (s : MM) => l_X10_thingLine_196 y p1 K n x4 (nI z) i s) (fun i s => Wr y 40 (7 * z) 5 m s ∧ ∀ c, c < i → s.I 22 (y + 40) (7 * z + c) = m.I 22 (y + 38) c) (fun s => K x4 (nI z) s) 5 (fun i hi s hI => by
    obtain ⟨a1, a2⟩ := hI
    have c1 := h.wr a1 (by omega)
    have M := c1.md
    have ea : (7 : Int32) * nI z + nI i = nI (7 * z + i) := by
      show nI 7 * nI z + nI i = _
      rw [pk_mul, nI_add]
    refine ⟨s.sI 22 (y + 40) (7 * z + i) (m.I 22 (y + 38) i), ⟨a1.sI _ _ (by omega) (by omega), fun c hc => ?_⟩, fun n => ?_⟩
    · rw [I_sI]
      by_cases q : c = i
      · rw [if_pos ⟨rfl, rfl, by rw [q]⟩, q]
      · rw [if_neg (by omega)]; exact a2 c (by omega)
    · show g_X10_thingLine_196 y p1 (l_X10_thingLine_196 y p1 K n) K x4 (nI z) (nI i) s = _
      unfold g_X10_thingLine_196
      rw [if_neg (show ¬ (5 : Int32) ≤ nI i from nI_ge (b := 5) hi (by decide)), chk_t c1.k, M.c1147, M.n1147, chk_t (inb_nI (show i < 6 by omega) (by decide)), M.c1151, M.n1151, ea, chk_t (inb_nI (show 7 * z + i < 91 by omega) (by decide)), bnd_e, cl_nI (by omega), cl_nI (by omega), a1.2.2.2.2.2 _ (y + 38) _ (by omega), nI_1]) (fun s hI n => by
    show g_X10_thingLine_196 y p1 (l_X10_thingLine_196 y p1 K n) K x4 (nI z) (nI 5) s = _
    unfold g_X10_thingLine_196
    rw [if_pos (show (5 : Int32) ≤ nI 5 by decide)]) (s0 := m) ⟨Wr.rf _ _ _ _ m, fun c hc => by omega⟩
  exact ⟨u, e FU (by unfold FU; omega), i1, i2⟩
theorem cp_leaveLine (p1 : Int32)  (K : Int32 → MM → Option (Int32 × MM)) (h : RC X y m p E n g) {z : Nat} (hz : z ≤ 12) : ∃ u, l_X10_leaveLine_61 y p1 K FU (nI z) 0 m = K (nI z) u ∧ Wr y 42 (3 * z) 3 m u ∧ ∀ c, c < 3 → u.I 22 (y + 42) (3 * z + c) = m.I 22 (y + 38) c := by
  obtain ⟨u, ⟨i1, i2⟩, e⟩ := lp_inv (fun n i (s : MM) => l_X10_leaveLine_61 y p1 K n (nI z) i s) (fun i s => Wr y 42 (3 * z) 3 m s ∧ ∀ c, c < i → s.I 22 (y + 42) (3 * z + c) = m.I 22 (y + 38) c) (fun s => K (nI z) s) 3 (fun i hi s hI => by
    obtain ⟨a1, a2⟩ := hI
    have c1 := h.wr a1 (by omega)
    have M := c1.md
    have ea : (3 : Int32) * nI z + nI i = nI (3 * z + i) := by
      show nI 3 * nI z + nI i = _
      rw [pk_mul, nI_add]
    refine ⟨s.sI 22 (y + 42) (3 * z + i) (m.I 22 (y + 38) i), ⟨a1.sI _ _ (by omega) (by omega), fun c hc => ?_⟩, fun n => ?_⟩
    · rw [I_sI]
      by_cases q : c = i
      · rw [if_pos ⟨rfl, rfl, by rw [q]⟩, q]
      · rw [if_neg (by omega)]; exact a2 c (by omega)
    · show g_X10_leaveLine_61 y p1 (l_X10_leaveLine_61 y p1 K n) K (nI z) (nI i) s = _
      unfold g_X10_leaveLine_61
      rw [if_neg (show ¬ (3 : Int32) ≤ nI i from nI_ge (b := 3) hi (by decide)), chk_t c1.k, M.c1147, M.n1147, chk_t (inb_nI (show i < 6 by omega) (by decide)), M.c1153, M.n1153, ea, chk_t (inb_nI (show 3 * z + i < 39 by omega) (by decide)), bnd_e, cl_nI (by omega), cl_nI (by omega), a1.2.2.2.2.2 _ (y + 38) _ (by omega), nI_1]) (fun s hI n => by
    show g_X10_leaveLine_61 y p1 (l_X10_leaveLine_61 y p1 K n) K (nI z) (nI 3) s = _
    unfold g_X10_leaveLine_61
    rw [if_pos (show (3 : Int32) ≤ nI 3 by decide)]) (s0 := m) ⟨Wr.rf _ _ _ _ m, fun c hc => by omega⟩
  exact ⟨u, e FU (by unfold FU; omega), i1, i2⟩
theorem cp_objectLine (p1 : Int32)  (K : Int32 → MM → Option (Int32 × MM)) (h : RC X y m p E n g) {z : Nat} (hz : z ≤ 12) : ∃ u, l_X10_objectLine_111 y p1 K FU (nI z) 0 m = K (nI z) u ∧ Wr y 43 (3 * z) 3 m u ∧ ∀ c, c < 3 → u.I 22 (y + 43) (3 * z + c) = m.I 22 (y + 38) c := by
  obtain ⟨u, ⟨i1, i2⟩, e⟩ := lp_inv (fun n i (s : MM) => l_X10_objectLine_111 y p1 K n (nI z) i s) (fun i s => Wr y 43 (3 * z) 3 m s ∧ ∀ c, c < i → s.I 22 (y + 43) (3 * z + c) = m.I 22 (y + 38) c) (fun s => K (nI z) s) 3 (fun i hi s hI => by
    obtain ⟨a1, a2⟩ := hI
    have c1 := h.wr a1 (by omega)
    have M := c1.md
    have ea : (3 : Int32) * nI z + nI i = nI (3 * z + i) := by
      show nI 3 * nI z + nI i = _
      rw [pk_mul, nI_add]
    refine ⟨s.sI 22 (y + 43) (3 * z + i) (m.I 22 (y + 38) i), ⟨a1.sI _ _ (by omega) (by omega), fun c hc => ?_⟩, fun n => ?_⟩
    · rw [I_sI]
      by_cases q : c = i
      · rw [if_pos ⟨rfl, rfl, by rw [q]⟩, q]
      · rw [if_neg (by omega)]; exact a2 c (by omega)
    · show g_X10_objectLine_111 y p1 (l_X10_objectLine_111 y p1 K n) K (nI z) (nI i) s = _
      unfold g_X10_objectLine_111
      rw [if_neg (show ¬ (3 : Int32) ≤ nI i from nI_ge (b := 3) hi (by decide)), chk_t c1.k, M.c1147, M.n1147, chk_t (inb_nI (show i < 6 by omega) (by decide)), M.c1154, M.n1154, ea, chk_t (inb_nI (show 3 * z + i < 39 by omega) (by decide)), bnd_e, cl_nI (by omega), cl_nI (by omega), a1.2.2.2.2.2 _ (y + 38) _ (by omega), nI_1]) (fun s hI n => by
    show g_X10_objectLine_111 y p1 (l_X10_objectLine_111 y p1 K n) K (nI z) (nI 3) s = _
    unfold g_X10_objectLine_111
    rw [if_pos (show (3 : Int32) ≤ nI 3 by decide)]) (s0 := m) ⟨Wr.rf _ _ _ _ m, fun c hc => by omega⟩
  exact ⟨u, e FU (by unfold FU; omega), i1, i2⟩
theorem cp_wallLine (p1 p2 : Int32) (x3 x4 : Int32) (K : Int32 → Int32 → Int32 → MM → Option (Int32 × MM)) (h : RC X y m p E n g) {z : Nat} (hz : z ≤ 14) : ∃ u, l_X10_wallLine_188 y p1 p2 K FU x3 x4 (nI z) 0 m = K x3 x4 (nI z) u ∧ Wr y 41 (5 * z) 4 m u ∧ ∀ c, c < 4 → u.I 22 (y + 41) (5 * z + c) = m.I 22 (y + 38) c := by
  obtain ⟨u, ⟨i1, i2⟩, e⟩ := lp_inv (fun n i (s : MM) => l_X10_wallLine_188 y p1 p2 K n x3 x4 (nI z) i s) (fun i s => Wr y 41 (5 * z) 4 m s ∧ ∀ c, c < i → s.I 22 (y + 41) (5 * z + c) = m.I 22 (y + 38) c) (fun s => K x3 x4 (nI z) s) 4 (fun i hi s hI => by
    obtain ⟨a1, a2⟩ := hI
    have c1 := h.wr a1 (by omega)
    have M := c1.md
    have ea : (5 : Int32) * nI z + nI i = nI (5 * z + i) := by
      show nI 5 * nI z + nI i = _
      rw [pk_mul, nI_add]
    refine ⟨s.sI 22 (y + 41) (5 * z + i) (m.I 22 (y + 38) i), ⟨a1.sI _ _ (by omega) (by omega), fun c hc => ?_⟩, fun n => ?_⟩
    · rw [I_sI]
      by_cases q : c = i
      · rw [if_pos ⟨rfl, rfl, by rw [q]⟩, q]
      · rw [if_neg (by omega)]; exact a2 c (by omega)
    · show g_X10_wallLine_188 y p1 p2 (l_X10_wallLine_188 y p1 p2 K n) K x3 x4 (nI z) (nI i) s = _
      unfold g_X10_wallLine_188
      rw [if_neg (show ¬ (4 : Int32) ≤ nI i from nI_ge (b := 4) hi (by decide)), chk_t c1.k, M.c1147, M.n1147, chk_t (inb_nI (show i < 6 by omega) (by decide)), M.c1152, M.n1152, ea, chk_t (inb_nI (show 5 * z + i < 75 by omega) (by decide)), bnd_e, cl_nI (by omega), cl_nI (by omega), a1.2.2.2.2.2 _ (y + 38) _ (by omega), nI_1]) (fun s hI n => by
    show g_X10_wallLine_188 y p1 p2 (l_X10_wallLine_188 y p1 p2 K n) K x3 x4 (nI z) (nI 4) s = _
    unfold g_X10_wallLine_188
    rw [if_pos (show (4 : Int32) ≤ nI 4 by decide)]) (s0 := m) ⟨Wr.rf _ _ _ _ m, fun c hc => by omega⟩
  exact ⟨u, e FU (by unfold FU; omega), i1, i2⟩
end RLine
