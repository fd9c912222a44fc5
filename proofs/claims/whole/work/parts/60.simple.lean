/-! what it is for a method to answer alike -/
def Mq (x : Nat) (A B : MM → Option (Int32 × MM)) : Prop := ∀ m W D, Inv m x W D → ∃ r m1 m2 W' D', A m = some (r, m1) ∧ B m1 = some (r, m2) ∧ Inv m2 x W' D'
/-- a question: both answer by the world alone, and only the workshop changes -/
def Qa (x : Nat) (A : MM → Option (Int32 × MM)) (R : WD → Int32) : Prop := ∀ m W D, Inv m x W D → ∃ m1, A m = some (R W, m1) ∧ Fq x m m1
theorem Mq_q {x : Nat} {A B : MM → Option (Int32 × MM)} (R : WD → Int32) (hA : Qa x A R) (hB : Qa x B R) : Mq x A B := by
  intro m W D h
  obtain ⟨m1, e1, f1⟩ := hA m W D h
  have h1 := h.kept f1
  obtain ⟨m2, e2, f2⟩ := hB m1 W D h1
  exact ⟨R W, m1, m2, W, D, e1, e2, h1.kept f2⟩
section INV
variable {m : MM} {x : Nat} {W : WD} {D : Nat → Option (Nat × WD)}
theorem Inv.S (h : Inv m x W D) : Sh m x := h.1
theorem Inv.M (h : Inv m x W D) : Md m (x + 106) := h.2.1
theorem Inv.T (h : Inv m x W D) : TD m (x + 1) W := h.2.2.2.2.1
theorem Inv.R (h : Inv m x W D) : RW m (x + 106) 0 W := h.2.2.2.2.2.1
theorem Inv.V (h : Inv m x W D) : VW W := h.2.2.2.2.2.2.1
theorem Inv.kx (h : Inv m x W D) : m.K x = 10 := h.1.1.1
theorem Inv.now (h : Inv m x W D) {α : Type} (K : Nat → Option α) : ck m (m.R 1000 x 0) 8 K = K (x + 1) := ck_e h.1.1.2.1 h.T.K
theorem Inv.nt (h : Inv m x W D) : W.nt ≤ 3 := h.T.ntle
theorem Inv.nl (h : Inv m x W D) : W.nl ≤ 3 := h.T.nlle
theorem Inv.ct (h : Inv m x W D) {i : Nat} (hi : i < W.nt) : CT m (x + 1 + 4 + 18 * i) (W.tn i) := h.T.T i (by have := h.nt; omega)
theorem Inv.cl (h : Inv m x W D) {i : Nat} (hi : i < W.nl) : CL m (x + 1 + 19 + 18 * i) (W.lw i) := h.T.L i (by have := h.nl; omega)
theorem Inv.rt (h : Inv m x W D) {i : Nat} (hi : i < W.nt) : RT m (x + 106) i (W.tn i) := by have := h.R.2.2.2.2.2.2.1 i hi; rw [Nat.mul_zero, Nat.zero_add] at this; exact this
theorem Inv.rl (h : Inv m x W D) {i : Nat} (hi : i < W.nl) : RLw m (x + 106) i (W.lw i) := by have := h.R.2.2.2.2.2.2.2 i hi; rw [Nat.mul_zero, Nat.zero_add] at this; exact this
theorem Inv.nn (h : Inv m x W D) {i : Nat} (hi : i < W.nt) : NT (W.tn i) := (h.ct hi).nn
theorem Inv.code (h : Inv m x W D) : Inv (m.sI 1100 (x + 106) 0 0) x W D := h.kept ((Fq.rf x m).sI _ _ _ _ (by unfold inW; omega))
end INV
theorem fq_code (x : Nat) (m : MM) : Fq x m (m.sI 1100 (x + 106) 0 0) := (Fq.rf x m).sI _ _ _ _ (by unfold inW; omega)
/-! fault, count -/
theorem m_fault (x : Nat) (p : Int32) : Mq x (f_X9_fault x p) (f_X10_fault (x + 106) p) := by
  refine Mq_q (fun W => if p = 0 then W.fa else if p = 1 then W.pl else -1) (fun m W D h => ⟨m, ?_, Fq.rf x m⟩) (fun m W D h => ⟨_, ?_, fq_code x m⟩)
  · simp only [g_X9_fault_0, f_X9_fault, chk_t h.kx, h.now, h.T.fa, h.T.pl]
    by_cases k0 : p = 0
    · simp only [if_pos k0]
    · by_cases k1 : p = 1
      · simp only [if_neg k0, if_pos k1]
      · simp only [if_neg k0, if_neg k1]
  · have g := h.code
    have e1 : (m.sI 1100 (x + 106) 0 0).I 22 (x + 106 + 3) 0 = W.fa := g.R.2.2.1
    have e2 : (m.sI 1100 (x + 106) 0 0).I 22 (x + 106 + 4) 0 = W.pl := g.R.2.2.2.1
    simp only [g_X10_fault_0, f_X10_fault, chk_t h.M.1, chk_t, ck_sI, ck_sR, ck_sJ, cal_s, bnd_e, ifn_s, ifn_n]
    simp only [g.M.c1103, g.M.n1103, g.M.c1104, g.M.n1104, h.M.c1103, h.M.n1103, h.M.c1104, h.M.n1104, R_sI, N_sI, chk_t (show inb 0 4 = true by decide), show Int32.toNatClampNeg 0 = 0 from rfl, e1, e2]
    by_cases k0 : p = 0
    · simp only [if_pos k0]
    · by_cases k1 : p = 1
      · simp only [if_neg k0, if_pos k1]
      · simp only [if_neg k0, if_neg k1]
theorem m_count (x : Nat) (p : Int32) : Mq x (f_X9_count x p) (f_X10_count (x + 106) p) := by
  refine Mq_q (fun W => if p = 0 then nI W.nt else if p = 1 then nI W.nl else -2) (fun m W D h => ⟨m, ?_, Fq.rf x m⟩) (fun m W D h => ⟨_, ?_, fq_code x m⟩)
  · simp only [g_X9_count_0, f_X9_count, chk_t h.kx, h.now, h.T.nt, h.T.nl]
    by_cases k0 : p = 0
    · simp only [if_pos k0]
    · by_cases k1 : p = 1
      · simp only [if_neg k0, if_pos k1]
      · simp only [if_neg k0, if_neg k1]
  · have g := h.code
    have e1 : (m.sI 1100 (x + 106) 0 0).I 22 (x + 106 + 5) 0 = nI W.nt := g.R.2.2.2.2.1
    have e2 : (m.sI 1100 (x + 106) 0 0).I 22 (x + 106 + 28) 0 = nI W.nl := g.R.2.2.2.2.2.1
    simp only [g_X10_count_0, f_X10_count, chk_t h.M.1, chk_t, ck_sI, ck_sR, ck_sJ, cal_s, bnd_e, ifn_s, ifn_n]
    simp only [R_sI, N_sI, h.M.c1105, h.M.n1105, h.M.c1128, h.M.n1128, chk_t (show inb 0 4 = true by decide), show Int32.toNatClampNeg 0 = 0 from rfl, e1, e2]
    by_cases k0 : p = 0
    · simp only [if_pos k0]
    · by_cases k1 : p = 1
      · simp only [if_neg k0, if_pos k1]
      · simp only [if_neg k0, if_neg k1]
