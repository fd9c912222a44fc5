theorem CT.cell0 {m : MM} {t : Nat} {T : TW} (h : CT m t T) {i c : Nat} (hi : i < T.2.1 0) (hc : c < 8) : f_X6_cell (t + 1) (nI i) (nI c) m = some (T.2.2 0 i c, m) := by rw [cell_in h.T0 hi (by omega), h.c0 i hi c hc]
theorem CT.cell0_0 {m : MM} {t : Nat} {T : TW} (h : CT m t T) {i : Nat} (hi : i < T.2.1 0) : f_X6_cell (t + 1) (nI i) 0 m = some (T.2.2 0 i 0, m) := h.cell0 (c := 0) hi (by decide)
theorem CT.cell0_1 {m : MM} {t : Nat} {T : TW} (h : CT m t T) {i : Nat} (hi : i < T.2.1 0) : f_X6_cell (t + 1) (nI i) 1 m = some (T.2.2 0 i 1, m) := h.cell0 (c := 1) hi (by decide)
theorem CT.cell0_2 {m : MM} {t : Nat} {T : TW} (h : CT m t T) {i : Nat} (hi : i < T.2.1 0) : f_X6_cell (t + 1) (nI i) 2 m = some (T.2.2 0 i 2, m) := h.cell0 (c := 2) hi (by decide)
theorem CT.cell0_3 {m : MM} {t : Nat} {T : TW} (h : CT m t T) {i : Nat} (hi : i < T.2.1 0) : f_X6_cell (t + 1) (nI i) 3 m = some (T.2.2 0 i 3, m) := h.cell0 (c := 3) hi (by decide)
theorem CT.cell0_4 {m : MM} {t : Nat} {T : TW} (h : CT m t T) {i : Nat} (hi : i < T.2.1 0) : f_X6_cell (t + 1) (nI i) 4 m = some (T.2.2 0 i 4, m) := h.cell0 (c := 4) hi (by decide)
theorem CT.cell0_5 {m : MM} {t : Nat} {T : TW} (h : CT m t T) {i : Nat} (hi : i < T.2.1 0) : f_X6_cell (t + 1) (nI i) 5 m = some (T.2.2 0 i 5, m) := h.cell0 (c := 5) hi (by decide)
theorem CT.cell0_6 {m : MM} {t : Nat} {T : TW} (h : CT m t T) {i : Nat} (hi : i < T.2.1 0) : f_X6_cell (t + 1) (nI i) 6 m = some (T.2.2 0 i 6, m) := h.cell0 (c := 6) hi (by decide)
theorem CT.cell0_7 {m : MM} {t : Nat} {T : TW} (h : CT m t T) {i : Nat} (hi : i < T.2.1 0) : f_X6_cell (t + 1) (nI i) 7 m = some (T.2.2 0 i 7, m) := h.cell0 (c := 7) hi (by decide)
theorem CT.out0 {m : MM} {t : Nat} {T : TW} (h : CT m t T) {r c : Int32} (hr : r < 0 ∨ nI (T.2.1 0) ≤ r) : f_X6_cell (t + 1) r c m = some (-1, m) := cell_out h.T0 hr
theorem CT.n0 {m : MM} {t : Nat} {T : TW} (h : CT m t T) : m.I 703 (t + 1) 0 = nI (T.2.1 0) ∧ m.K (t + 1) = 7 ∧ T.2.1 0 ≤ 12 := by have q := h.T0; exact ⟨q.2.2.2.2.2.2.1, q.1, by have := q.2.2.2.2.2.2.2.1; omega⟩
theorem CT.cell1 {m : MM} {t : Nat} {T : TW} (h : CT m t T) {i c : Nat} (hi : i < T.2.1 1) (hc : c < 5) : f_X6_cell (t + 3) (nI i) (nI c) m = some (T.2.2 1 i c, m) := by rw [cell_in h.T1 hi (by omega), h.c1 i hi c hc]
theorem CT.cell1_0 {m : MM} {t : Nat} {T : TW} (h : CT m t T) {i : Nat} (hi : i < T.2.1 1) : f_X6_cell (t + 3) (nI i) 0 m = some (T.2.2 1 i 0, m) := h.cell1 (c := 0) hi (by decide)
theorem CT.cell1_1 {m : MM} {t : Nat} {T : TW} (h : CT m t T) {i : Nat} (hi : i < T.2.1 1) : f_X6_cell (t + 3) (nI i) 1 m = some (T.2.2 1 i 1, m) := h.cell1 (c := 1) hi (by decide)
theorem CT.cell1_2 {m : MM} {t : Nat} {T : TW} (h : CT m t T) {i : Nat} (hi : i < T.2.1 1) : f_X6_cell (t + 3) (nI i) 2 m = some (T.2.2 1 i 2, m) := h.cell1 (c := 2) hi (by decide)
theorem CT.cell1_3 {m : MM} {t : Nat} {T : TW} (h : CT m t T) {i : Nat} (hi : i < T.2.1 1) : f_X6_cell (t + 3) (nI i) 3 m = some (T.2.2 1 i 3, m) := h.cell1 (c := 3) hi (by decide)
theorem CT.cell1_4 {m : MM} {t : Nat} {T : TW} (h : CT m t T) {i : Nat} (hi : i < T.2.1 1) : f_X6_cell (t + 3) (nI i) 4 m = some (T.2.2 1 i 4, m) := h.cell1 (c := 4) hi (by decide)
theorem CT.out1 {m : MM} {t : Nat} {T : TW} (h : CT m t T) {r c : Int32} (hr : r < 0 ∨ nI (T.2.1 1) ≤ r) : f_X6_cell (t + 3) r c m = some (-1, m) := cell_out h.T1 hr
theorem CT.n1 {m : MM} {t : Nat} {T : TW} (h : CT m t T) : m.I 703 (t + 3) 0 = nI (T.2.1 1) ∧ m.K (t + 3) = 7 ∧ T.2.1 1 ≤ 12 := by have q := h.T1; exact ⟨q.2.2.2.2.2.2.1, q.1, by have := q.2.2.2.2.2.2.2.1; omega⟩
theorem CT.cell2 {m : MM} {t : Nat} {T : TW} (h : CT m t T) {i c : Nat} (hi : i < T.2.1 2) (hc : c < 4) : f_X6_cell (t + 5) (nI i) (nI c) m = some (T.2.2 2 i c, m) := by rw [cell_in h.T2 hi (by omega), h.c2 i hi c hc]
theorem CT.cell2_0 {m : MM} {t : Nat} {T : TW} (h : CT m t T) {i : Nat} (hi : i < T.2.1 2) : f_X6_cell (t + 5) (nI i) 0 m = some (T.2.2 2 i 0, m) := h.cell2 (c := 0) hi (by decide)
theorem CT.cell2_1 {m : MM} {t : Nat} {T : TW} (h : CT m t T) {i : Nat} (hi : i < T.2.1 2) : f_X6_cell (t + 5) (nI i) 1 m = some (T.2.2 2 i 1, m) := h.cell2 (c := 1) hi (by decide)
theorem CT.cell2_2 {m : MM} {t : Nat} {T : TW} (h : CT m t T) {i : Nat} (hi : i < T.2.1 2) : f_X6_cell (t + 5) (nI i) 2 m = some (T.2.2 2 i 2, m) := h.cell2 (c := 2) hi (by decide)
theorem CT.cell2_3 {m : MM} {t : Nat} {T : TW} (h : CT m t T) {i : Nat} (hi : i < T.2.1 2) : f_X6_cell (t + 5) (nI i) 3 m = some (T.2.2 2 i 3, m) := h.cell2 (c := 3) hi (by decide)
theorem CT.out2 {m : MM} {t : Nat} {T : TW} (h : CT m t T) {r c : Int32} (hr : r < 0 ∨ nI (T.2.1 2) ≤ r) : f_X6_cell (t + 5) r c m = some (-1, m) := cell_out h.T2 hr
theorem CT.n2 {m : MM} {t : Nat} {T : TW} (h : CT m t T) : m.I 703 (t + 5) 0 = nI (T.2.1 2) ∧ m.K (t + 5) = 7 ∧ T.2.1 2 ≤ 12 := by have q := h.T2; exact ⟨q.2.2.2.2.2.2.1, q.1, by have := q.2.2.2.2.2.2.2.1; omega⟩
theorem CT.cell3 {m : MM} {t : Nat} {T : TW} (h : CT m t T) {i c : Nat} (hi : i < T.2.1 3) (hc : c < 3) : f_X6_cell (t + 7) (nI i) (nI c) m = some (T.2.2 3 i c, m) := by rw [cell_in h.T3 hi (by omega), h.c3 i hi c hc]
theorem CT.cell3_0 {m : MM} {t : Nat} {T : TW} (h : CT m t T) {i : Nat} (hi : i < T.2.1 3) : f_X6_cell (t + 7) (nI i) 0 m = some (T.2.2 3 i 0, m) := h.cell3 (c := 0) hi (by decide)
theorem CT.cell3_1 {m : MM} {t : Nat} {T : TW} (h : CT m t T) {i : Nat} (hi : i < T.2.1 3) : f_X6_cell (t + 7) (nI i) 1 m = some (T.2.2 3 i 1, m) := h.cell3 (c := 1) hi (by decide)
theorem CT.cell3_2 {m : MM} {t : Nat} {T : TW} (h : CT m t T) {i : Nat} (hi : i < T.2.1 3) : f_X6_cell (t + 7) (nI i) 2 m = some (T.2.2 3 i 2, m) := h.cell3 (c := 2) hi (by decide)
theorem CT.out3 {m : MM} {t : Nat} {T : TW} (h : CT m t T) {r c : Int32} (hr : r < 0 ∨ nI (T.2.1 3) ≤ r) : f_X6_cell (t + 7) r c m = some (-1, m) := cell_out h.T3 hr
theorem CT.n3 {m : MM} {t : Nat} {T : TW} (h : CT m t T) : m.I 703 (t + 7) 0 = nI (T.2.1 3) ∧ m.K (t + 7) = 7 ∧ T.2.1 3 ≤ 12 := by have q := h.T3; exact ⟨q.2.2.2.2.2.2.1, q.1, by have := q.2.2.2.2.2.2.2.1; omega⟩
theorem CT.cell4 {m : MM} {t : Nat} {T : TW} (h : CT m t T) {i c : Nat} (hi : i < T.2.1 4) (hc : c < 3) : f_X6_cell (t + 9) (nI i) (nI c) m = some (T.2.2 4 i c, m) := by rw [cell_in h.T4 hi (by omega), h.c4 i hi c hc]
theorem CT.cell4_0 {m : MM} {t : Nat} {T : TW} (h : CT m t T) {i : Nat} (hi : i < T.2.1 4) : f_X6_cell (t + 9) (nI i) 0 m = some (T.2.2 4 i 0, m) := h.cell4 (c := 0) hi (by decide)
theorem CT.cell4_1 {m : MM} {t : Nat} {T : TW} (h : CT m t T) {i : Nat} (hi : i < T.2.1 4) : f_X6_cell (t + 9) (nI i) 1 m = some (T.2.2 4 i 1, m) := h.cell4 (c := 1) hi (by decide)
theorem CT.cell4_2 {m : MM} {t : Nat} {T : TW} (h : CT m t T) {i : Nat} (hi : i < T.2.1 4) : f_X6_cell (t + 9) (nI i) 2 m = some (T.2.2 4 i 2, m) := h.cell4 (c := 2) hi (by decide)
theorem CT.out4 {m : MM} {t : Nat} {T : TW} (h : CT m t T) {r c : Int32} (hr : r < 0 ∨ nI (T.2.1 4) ≤ r) : f_X6_cell (t + 9) r c m = some (-1, m) := cell_out h.T4 hr
theorem CT.n4 {m : MM} {t : Nat} {T : TW} (h : CT m t T) : m.I 703 (t + 9) 0 = nI (T.2.1 4) ∧ m.K (t + 9) = 7 ∧ T.2.1 4 ≤ 12 := by have q := h.T4; exact ⟨q.2.2.2.2.2.2.1, q.1, by have := q.2.2.2.2.2.2.2.1; omega⟩
theorem CT.cell5 {m : MM} {t : Nat} {T : TW} (h : CT m t T) {i c : Nat} (hi : i < T.2.1 5) (hc : c < 2) : f_X6_cell (t + 11) (nI i) (nI c) m = some (T.2.2 5 i c, m) := by rw [cell_in h.T5 hi (by omega), h.c5 i hi c hc]
theorem CT.cell5_0 {m : MM} {t : Nat} {T : TW} (h : CT m t T) {i : Nat} (hi : i < T.2.1 5) : f_X6_cell (t + 11) (nI i) 0 m = some (T.2.2 5 i 0, m) := h.cell5 (c := 0) hi (by decide)
theorem CT.cell5_1 {m : MM} {t : Nat} {T : TW} (h : CT m t T) {i : Nat} (hi : i < T.2.1 5) : f_X6_cell (t + 11) (nI i) 1 m = some (T.2.2 5 i 1, m) := h.cell5 (c := 1) hi (by decide)
theorem CT.out5 {m : MM} {t : Nat} {T : TW} (h : CT m t T) {r c : Int32} (hr : r < 0 ∨ nI (T.2.1 5) ≤ r) : f_X6_cell (t + 11) r c m = some (-1, m) := cell_out h.T5 hr
theorem CT.n5 {m : MM} {t : Nat} {T : TW} (h : CT m t T) : m.I 703 (t + 11) 0 = nI (T.2.1 5) ∧ m.K (t + 11) = 7 ∧ T.2.1 5 ≤ 12 := by have q := h.T5; exact ⟨q.2.2.2.2.2.2.1, q.1, by have := q.2.2.2.2.2.2.2.1; omega⟩
theorem CT.k0 {m : MM} {t : Nat} {T : TW} (h : CT m t T) {α : Type} (K : Nat → Option α) : ck m (m.R 904 t 0) 7 K = K (t + 1) := ck_e h.R4 h.n0.2.1
theorem CT.k1 {m : MM} {t : Nat} {T : TW} (h : CT m t T) {α : Type} (K : Nat → Option α) : ck m (m.R 905 t 0) 7 K = K (t + 3) := ck_e h.R5 h.n1.2.1
theorem CT.k2 {m : MM} {t : Nat} {T : TW} (h : CT m t T) {α : Type} (K : Nat → Option α) : ck m (m.R 906 t 0) 7 K = K (t + 5) := ck_e h.R6 h.n2.2.1
theorem CT.k3 {m : MM} {t : Nat} {T : TW} (h : CT m t T) {α : Type} (K : Nat → Option α) : ck m (m.R 907 t 0) 7 K = K (t + 7) := ck_e h.R7 h.n3.2.1
theorem CT.k4 {m : MM} {t : Nat} {T : TW} (h : CT m t T) {α : Type} (K : Nat → Option α) : ck m (m.R 908 t 0) 7 K = K (t + 9) := ck_e h.R8 h.n4.2.1
theorem CT.k5 {m : MM} {t : Nat} {T : TW} (h : CT m t T) {α : Type} (K : Nat → Option α) : ck m (m.R 909 t 0) 7 K = K (t + 11) := ck_e h.R9 h.n5.2.1
theorem CT.kw {m : MM} {t : Nat} {T : TW} (h : CT m t T) {α : Type} (K : Nat → Option α) : ck m (m.R 910 t 0) 22 K = K (t + 13) := ck_e h.Rw h.Kw
theorem CT.kg {m : MM} {t : Nat} {T : TW} (h : CT m t T) {α : Type} (K : Nat → Option α) : ck m (m.R 911 t 0) 22 K = K (t + 14) := ck_e h.Rg h.Kg
theorem CT.kt {m : MM} {t : Nat} {T : TW} (h : CT m t T) {α : Type} (X : Option α) : chk (m.K t = 9) X = X := chk_t h.K
theorem CL.cell_0 {m : MM} {l : Nat} {B : LW} (h : CL m l B) {i : Nat} (hi : i < B.2.1) : f_X6_cell (l + 1) (nI i) 0 m = some (B.2.2 i 0, m) := by rw [← h.c i hi 0 (by decide)]; exact cell_in (c := 0) h.T hi (by decide)
theorem CL.cell_1 {m : MM} {l : Nat} {B : LW} (h : CL m l B) {i : Nat} (hi : i < B.2.1) : f_X6_cell (l + 1) (nI i) 1 m = some (B.2.2 i 1, m) := by rw [← h.c i hi 1 (by decide)]; exact cell_in (c := 1) h.T hi (by decide)
theorem CL.cell_2 {m : MM} {l : Nat} {B : LW} (h : CL m l B) {i : Nat} (hi : i < B.2.1) : f_X6_cell (l + 1) (nI i) 2 m = some (B.2.2 i 2, m) := by rw [← h.c i hi 2 (by decide)]; exact cell_in (c := 2) h.T hi (by decide)
theorem CL.cell_3 {m : MM} {l : Nat} {B : LW} (h : CL m l B) {i : Nat} (hi : i < B.2.1) : f_X6_cell (l + 1) (nI i) 3 m = some (B.2.2 i 3, m) := by rw [← h.c i hi 3 (by decide)]; exact cell_in (c := 3) h.T hi (by decide)
theorem CL.cell_4 {m : MM} {l : Nat} {B : LW} (h : CL m l B) {i : Nat} (hi : i < B.2.1) : f_X6_cell (l + 1) (nI i) 4 m = some (B.2.2 i 4, m) := by rw [← h.c i hi 4 (by decide)]; exact cell_in (c := 4) h.T hi (by decide)
theorem CL.out {m : MM} {l : Nat} {B : LW} (h : CL m l B) {r c : Int32} (hr : r < 0 ∨ nI B.2.1 ≤ r) : f_X6_cell (l + 1) r c m = some (-1, m) := cell_out h.T hr
theorem CL.n {m : MM} {l : Nat} {B : LW} (h : CL m l B) : m.I 703 (l + 1) 0 = nI B.2.1 ∧ m.K (l + 1) = 7 ∧ B.2.1 ≤ 10 := by have q := h.T; exact ⟨q.2.2.2.2.2.2.1, q.1, by have := q.2.2.2.2.2.2.2.1; omega⟩
theorem CL.kr {m : MM} {l : Nat} {B : LW} (h : CL m l B) {α : Type} (K : Nat → Option α) : ck m (m.R 300 l 0) 7 K = K (l + 1) := ck_e h.R h.n.2.1
/-- what a town that was taken can be -/
def VT (T : TW) : Prop := (∃ a, 1 ≤ a ∧ a ≤ 8 ∧ T.1 0 = nI a) ∧ (∃ a, 1 ≤ a ∧ a ≤ 8 ∧ T.1 1 = nI a) ∧ (-9 ≤ (T.1 2).toInt ∧ (T.1 2).toInt ≤ 9) ∧ (-9 ≤ (T.1 3).toInt ∧ (T.1 3).toInt ≤ 9) ∧ (∀ h, h < 8 → T.1 (10 + h) = -1 ∨ nB (T.1 (10 + h)) 8) ∧ (∀ k, k < 6 → T.1 (20 + k) = -1 ∨ ∃ g, 1 ≤ g ∧ g < 100 ∧ T.1 (20 + k) = nI g) ∧ (∀ r, r < T.2.1 0 → nB (T.2.2 0 r 0) 6 ∧ nB (T.2.2 0 r 1) 8 ∧ nB (T.2.2 0 r 2) 8 ∧ nB (T.2.2 0 r 3) 8 ∧ nB (T.2.2 0 r 4) 1000 ∧ (T.2.2 0 r 5 = -1 ∨ nB (T.2.2 0 r 5) 4) ∧ nB (T.2.2 0 r 6) 100 ∧ (T.2.2 0 r 7 = -1 ∨ nB (T.2.2 0 r 7) 1000)) ∧ (∀ r, r < T.2.1 1 → nB (T.2.2 1 r 0) 8 ∧ nB (T.2.2 1 r 1) 8 ∧ nB (T.2.2 1 r 2) 8 ∧ nB (T.2.2 1 r 3) 8 ∧ nB (T.2.2 1 r 4) 1000) ∧ (∀ r, r < T.2.1 2 → nB (T.2.2 2 r 0) 8 ∧ nB (T.2.2 2 r 1) 8 ∧ nB (T.2.2 2 r 2) 8 ∧ nB (T.2.2 2 r 3) 8) ∧ (∀ r, r < T.2.1 5 → nB (T.2.2 5 r 0) 6 ∧ (T.2.2 5 r 1 = -1 ∨ nB (T.2.2 5 r 1) 4))
def VL (B : LW) : Prop := (B.1 0 = 0 ∨ B.1 0 = 1) ∧ (B.1 1 = 0 ∨ B.1 1 = 1) ∧ (B.1 2 = -1 ∨ ∃ s, 1 ≤ s ∧ s < 100 ∧ B.1 2 = nI s) ∧ ∀ r, r < B.2.1 → nB (B.2.2 r 0) 4 ∧ nB (B.2.2 r 1) 6 ∧ nB (B.2.2 r 2) 6 ∧ (∃ d, 1 ≤ d ∧ d < 13 ∧ B.2.2 r 3 = nI d) ∧ (B.2.2 r 4 = 0 ∨ B.2.2 r 4 = 1)
/-! what a town's methods answer -/
def hasPt (T : TW) (x y : Int32) : Bool := !decide (x < 0) && !decide (T.1 0 ≤ x) && !decide (y < 0) && !decide (T.1 1 ≤ y)
def hasTh (T : TW) (p : Int32) : Bool := !decide (p < 0) && !decide (nI (T.2.1 0) ≤ p)
section TM
variable {m : MM} {t : Nat} {T : TW}
theorem c_hasPoint (h : CT m t T) (x y : Int32) : f_X8_hasPoint t x y m = some (bI (hasPt T x y), m) := by
  simp only [g_X8_hasPoint_28, g_X8_hasPoint_0, f_X8_hasPoint, h.kt, h.s0, h.s1, hasPt]
  by_cases e1 : x < 0
  · simp [e1, bI]
  · by_cases e2 : T.1 0 ≤ x
    · simp [e1, e2, bI]
    · by_cases e3 : y < 0
      · simp [e1, e2, e3, bI]
      · by_cases e4 : T.1 1 ≤ y <;> simp [e1, e2, e3, e4, bI]
theorem c_hasThing (h : CT m t T) (p : Int32) : f_X8_hasThing t p m = some (bI (hasTh T p), m) := by
  simp only [g_X8_hasThing_19, g_X8_hasThing_0, f_X8_hasThing, h.kt, h.k0, h.n0.1, hasTh]
  by_cases e1 : p < 0
  · simp [e1, bI]
  · by_cases e2 : nI (T.2.1 0) ≤ p <;> simp [e1, e2, bI]
theorem hasTh_iff {p : Int32} (hn : T.2.1 0 ≤ 12) : hasTh T p = true ↔ ∃ i, i < T.2.1 0 ∧ p = nI i := by
  simp only [hasTh, Bool.and_eq_true, Bool.not_eq_true', decide_eq_false_iff_not]
  constructor
  · intro ⟨h1, h2⟩
    obtain ⟨j, hj, e⟩ := nI_of h1
    refine ⟨j, ?_, e⟩
    rcases Nat.lt_or_ge j (T.2.1 0) with q | q
    · exact q
    · exact absurd (by rw [e]; exact nI_le q hj) h2
  · intro ⟨i, hi, e⟩
    subst e
    exact ⟨nI_pos (by omega), nI_ge hi (by omega)⟩
theorem hasTh_nI (hn : T.2.1 0 ≤ 12) {i : Nat} (hi : i < T.2.1 0) : hasTh T (nI i) = true := (hasTh_iff hn).mpr ⟨i, hi, rfl⟩
theorem hasTh_no (hn : T.2.1 0 ≤ 12) {i : Nat} (hi : T.2.1 0 ≤ i) (h2 : i < 2 ^ 31) : hasTh T (nI i) = false := by
  cases q : hasTh T (nI i) with
  | false => rfl
  | true =>
    obtain ⟨j, hj, e⟩ := (hasTh_iff hn).mp q
    have := nI_inj h2 (by omega) e
    omega
theorem c_hasTwo (h : CT m t T) (p q : Int32) : f_X8_hasTwo t p q m = some (bI (hasTh T p && hasTh T q && !decide (p = q)), m) := by
  simp only [g_X8_hasTwo_25, g_X8_hasTwo_0, f_X8_hasTwo, h.kt, c_hasThing h, chk_t, ck_sI, ck_sR, ck_sJ, cal_s, bnd_e, ifn_s, ifn_n, bI_0]
  cases hasTh T p
  · simp [bI]
  · cases hasTh T q
    · simp [bI]
    · by_cases e : p = q <;> simp [e, bI]
def thAt (T : TW) (x y : Int32) (i : Nat) : Bool := decide (T.2.2 0 i 1 = x) && decide (T.2.2 0 i 2 = y)
theorem c_thingAt (h : CT m t T) (x y : Int32) : f_X8_thingAt t x y m = fnd (thAt T x y) (fun i => some (nI i, m)) (some (-1, m)) (T.2.1 0) 0 := by
  have hn := h.n0.2.2
  show l_X8_thingAt_2 t x y FU 0 m = _
  refine lp_fnd (fun n i => l_X8_thingAt_2 t x y n i m) (thAt T x y) (fun i => some (nI i, m)) (some (-1, m)) (T.2.1 0) (fun i hi n => ?_) (fun n => ?_) (T.2.1 0) 0 (by omega) FU (by unfold FU; omega)
  · show g_X8_thingAt_2 t x y (l_X8_thingAt_2 t x y n) (nI i) m = _
    have e1 : ¬ nI (T.2.1 0) ≤ nI i := nI_ge hi (by omega)
    simp only [g_X8_thingAt_41, g_X8_thingAt_2, g_X8_thingAt_0, f_X8_thingAt, h.kt, h.k0, h.n0.1, if_neg e1, h.cell0_1 hi, h.cell0_2 hi, chk_t, ck_sI, ck_sR, ck_sJ, cal_s, bnd_e, ifn_s, ifn_n, nI_1, thAt]
    by_cases e2 : T.2.2 0 i 1 = x
    · by_cases e3 : T.2.2 0 i 2 = y <;> simp [e2, e3]
    · simp [e2]
  · show g_X8_thingAt_2 t x y (l_X8_thingAt_2 t x y n) (nI (T.2.1 0)) m = _
    simp only [g_X8_thingAt_41, g_X8_thingAt_2, g_X8_thingAt_0, f_X8_thingAt, h.kt, h.k0, h.n0.1, if_pos (Int32.le_refl _)]
def stB (T : TW) (i : Nat) (d : Int32) : Bool := !decide (d < T.2.2 0 i 4) && (decide (T.2.2 0 i 7 = -1) || !decide (T.2.2 0 i 7 ≤ d))
theorem c_stands (h : CT m t T) {i : Nat} (hi : i < T.2.1 0) (d : Int32) : f_X8_stands t (nI i) d m = some (bI (stB T i d), m) := by
  have hn := h.n0.2.2
  simp only [g_X8_stands_46, g_X8_stands_42, g_X8_stands_0, f_X8_stands, h.kt, h.k0, h.cell0_7 hi, h.cell0_4 hi, c_hasThing h, hasTh_nI hn hi, chk_t, ck_sI, ck_sR, ck_sJ, cal_s, bnd_e, ifn_s, ifn_n, stB, bI_0]
  by_cases e1 : d < T.2.2 0 i 4
  · simp [e1, bI]
  · by_cases e2 : T.2.2 0 i 7 = -1
    · simp [e1, e2, bI]
    · by_cases e3 : T.2.2 0 i 7 ≤ d <;> simp [e1, e2, e3, bI]
/-- how much a kind that stands since s has grown on a day -/
def gN (T : TW) (k s d : Nat) : Nat := if d < s then 0 else if T.1 (20 + k) = -1 then 0 else min 9 ((d - s) / (T.1 (20 + k)).toNatClampNeg)
theorem c_growsBy (h : CT m t T) {k : Nat} (hk : k < 6) : f_X8_growsBy t (nI k) m = some (T.1 (20 + k), m) := by
  have e1 : ¬ nI k < 0 := nI_pos (by omega)
  have e2 : ¬ nI 6 ≤ nI k := nI_ge hk (by decide)
  simp only [g_X8_growsBy_22, g_X8_growsBy_0, f_X8_growsBy, h.kt, h.kg, h.Ng, if_neg e1, ofN, if_neg e2, chk_t (inb_nI hk (by decide)), cl_nI (show k < 2 ^ 31 by omega), h.gr k hk]
theorem c_growth (h : CT m t T) (V : VT T) {i k s d : Nat} (hi : i < T.2.1 0) (hk : k < 6) (ek : T.2.2 0 i 0 = nI k) (es : T.2.2 0 i 4 = nI s) (hs : s < 1000) (hd : d < 1001) : f_X8_growth t (nI i) (nI d) m = some (nI (gN T k s d), m) := by
  simp only [g_X8_growth_0, f_X8_growth, h.kt, h.k0, h.cell0_0 hi, h.cell0_4 hi, ek, es, c_growsBy h hk, chk_t, ck_sI, ck_sR, ck_sJ, cal_s, bnd_e, ifn_s, ifn_n]
  rcases V.2.2.2.2.2.1 k hk with e | ⟨g, g1, g2, e⟩
  · have e1 : (-1 : Int32) ≤ 0 := by decide
    simp only [e, if_pos e1, gN]
    split <;> rfl
  · have e1 : ¬ nI g ≤ 0 := nI_nle (by omega) (by omega)
    have e0 : ¬ nI g = 0 := nI_ne0 (by omega) (by omega)
    have em : ¬ nI g = -1 := nI_ne_m1 (by omega)
    rw [e, if_neg e1]
    by_cases hds : d < s
    · have e2 : ¬ nI g ≤ nI d - nI s := fun q => by
        have := i_le.mp q
        rw [pk_sub_toInt (by omega) (by omega), nI_toInt (by omega)] at this
        omega
      rw [if_neg e2]
      simp only [gN, if_pos hds]
      rfl
    · rw [pk_sub (by omega)]
      by_cases e2 : nI g ≤ nI (d - s)
      · rw [if_pos e2, chk_t e0, pk_div (by omega) (by omega) (by omega)]
        by_cases e3 : (d - s) / g ≤ 9
        · rw [if_pos (show nI ((d - s) / g) ≤ 9 from nI_le e3 (by decide))]
          simp only [gN, if_neg hds, e, if_neg em, cl_nI (show g < 2 ^ 31 by omega), Nat.min_eq_right e3]
        · have hlt : (d - s) / g < 2 ^ 31 := Nat.lt_of_le_of_lt (Nat.div_le_self _ _) (by omega)
          rw [if_neg (show ¬ nI ((d - s) / g) ≤ 9 from fun q => e3 ((nI_leI hlt (by decide)).mp q))]
          simp only [gN, if_neg hds, e, if_neg em, cl_nI (show g < 2 ^ 31 by omega), Nat.min_eq_left (show 9 ≤ (d - s) / g by omega)]
          rfl
      · rw [if_neg e2]
        have e3 : d - s < g := by
          rcases Nat.lt_or_ge (d - s) g with q | q
          · exact q
          · exact absurd (nI_le q (by omega)) e2
        simp only [gN, if_neg hds, e, if_neg em, cl_nI (show g < 2 ^ 31 by omega), Nat.div_eq_of_lt e3]
        rfl
end TM
