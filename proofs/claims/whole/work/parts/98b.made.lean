/-! what is made anew -/
theorem I_nw (m : MM) (k n s a i : Nat) : (m.nw k n).I s a i = if a = m.S then 0 else m.I s a i := rfl
theorem R_nw (m : MM) (k n s a i : Nat) : (m.nw k n).R s a i = if a = m.S then none else m.R s a i := rfl
theorem K_nw (m : MM) (k n a : Nat) : (m.nw k n).K a = if a = m.S then k else m.K a := rfl
theorem N_nw (m : MM) (k n a : Nat) : (m.nw k n).N a = if a = m.S then n else m.N a := rfl
theorem S_nw (m : MM) (k n : Nat) : (m.nw k n).S = m.S + 1 := rfl
/-- the memory has grown; of the old only what P names has changed -/
def Gz (P : Nat → Nat → Nat → Prop) (m n : MM) : Prop := m.S ≤ n.S ∧ ∀ a, a < m.S → n.K a = m.K a ∧ n.N a = m.N a ∧ (∀ s i, ¬ P s a i → n.I s a i = m.I s a i) ∧ ∀ s i, ¬ P s a i → n.R s a i = m.R s a i
def nul (_ _ _ : Nat) : Prop := False
section GZ
variable {P Q : Nat → Nat → Nat → Prop} {m n q : MM}
theorem Gz.rf (P : Nat → Nat → Nat → Prop) (m : MM) : Gz P m m := ⟨Nat.le_refl _, fun _ _ => ⟨rfl, rfl, fun _ _ _ => rfl, fun _ _ _ => rfl⟩⟩
theorem Gz.tr (h1 : Gz P m n) (h2 : Gz P n q) : Gz P m q := ⟨Nat.le_trans h1.1 h2.1, fun a ha => by
  obtain ⟨a1, a2, a3, a4⟩ := h1.2 a ha
  obtain ⟨b1, b2, b3, b4⟩ := h2.2 a (Nat.lt_of_lt_of_le ha h1.1)
  exact ⟨b1.trans a1, b2.trans a2, fun s i hp => (b3 s i hp).trans (a3 s i hp), fun s i hp => (b4 s i hp).trans (a4 s i hp)⟩⟩
theorem Gz.up (h : Gz P m n) (hq : ∀ s a i, a < m.S → P s a i → Q s a i) : Gz Q m n := ⟨h.1, fun a ha => by
  obtain ⟨a1, a2, a3, a4⟩ := h.2 a ha
  exact ⟨a1, a2, fun s i hp => a3 s i (fun z => hp (hq s a i ha z)), fun s i hp => a4 s i (fun z => hp (hq s a i ha z))⟩⟩
theorem Gz.nn (h : Gz nul m n) : Gz Q m n := h.up (fun _ _ _ _ z => z.elim)
theorem Gz.nw (h : Gz P m n) (k c : Nat) : Gz P m (n.nw k c) := ⟨Nat.le_succ_of_le h.1, fun a ha => by
  have hn : a ≠ n.S := Nat.ne_of_lt (Nat.lt_of_lt_of_le ha h.1)
  obtain ⟨a1, a2, a3, a4⟩ := h.2 a ha
  exact ⟨by rw [K_nw, if_neg hn]; exact a1, by rw [N_nw, if_neg hn]; exact a2, fun s i hp => by rw [I_nw, if_neg hn]; exact a3 s i hp, fun s i hp => by rw [R_nw, if_neg hn]; exact a4 s i hp⟩⟩
theorem Gz.sR (h : Gz P m n) (s a i : Nat) (v : Option Nat) (hp : P s a i ∨ m.S ≤ a) : Gz P m (n.sR s a i v) := ⟨h.1, fun b hb => by
  obtain ⟨a1, a2, a3, a4⟩ := h.2 b hb
  refine ⟨a1, a2, a3, fun s2 i2 hq => ?_⟩
  rw [R_sR, if_neg (fun z => by
    obtain ⟨z1, z2, z3⟩ := z
    rcases hp with y | y
    · exact hq (by rw [z1, z2, z3]; exact y)
    · omega)]
  exact a4 s2 i2 hq⟩
theorem Gz.sI (h : Gz P m n) (s a i : Nat) (v : Int32) (hp : P s a i ∨ m.S ≤ a) : Gz P m (n.sI s a i v) := ⟨h.1, fun b hb => by
  obtain ⟨a1, a2, a3, a4⟩ := h.2 b hb
  refine ⟨a1, a2, fun s2 i2 hq => ?_, a4⟩
  rw [I_sI, if_neg (fun z => by
    obtain ⟨z1, z2, z3⟩ := z
    rcases hp with y | y
    · exact hq (by rw [z1, z2, z3]; exact y)
    · omega)]
  exact a3 s2 i2 hq⟩
theorem Gz.ag (h : Gz P m n) {lo hi : Nat} (hh : hi ≤ m.S) (hp : ∀ s a i, lo ≤ a → a < hi → ¬ P s a i) : Ag m n lo hi := fun a g1 g2 => by
  obtain ⟨a1, a2, a3, a4⟩ := h.2 a (by omega)
  exact ⟨a1, a2, fun s i => a3 s i (hp s a i g1 g2), fun s i => a4 s i (hp s a i g1 g2)⟩
theorem Gz.k (h : Gz P m n) {a : Nat} (ha : a < m.S) : n.K a = m.K a := (h.2 a ha).1
theorem Gz.l (h : Gz P m n) {a : Nat} (ha : a < m.S) : n.N a = m.N a := (h.2 a ha).2.1
theorem Gz.i (h : Gz P m n) {a s i : Nat} (ha : a < m.S) (hp : ¬ P s a i) : n.I s a i = m.I s a i := (h.2 a ha).2.2.1 s i hp
theorem Gz.r (h : Gz P m n) {a s i : Nat} (ha : a < m.S) (hp : ¬ P s a i) : n.R s a i = m.R s a i := (h.2 a ha).2.2.2 s i hp
end GZ
/-- an object's fields, freshly made -/
def frs (m : MM) (a k : Nat) : Prop := m.S = a + 1 ∧ m.K a = k ∧ ∀ s i, m.I s a i = 0
theorem frs_nw (m : MM) (k : Nat) : frs (m.nw k 0) m.S k := ⟨rfl, by rw [K_nw, if_pos rfl], fun s i => by rw [I_nw, if_pos rfl]⟩
/-- what a constructor does to an object that has just been made, seen from before -/
theorem Gz.mk {m n : MM} {k a : Nat} (ha : a = m.S) (h : Gz (fun _ b _ => b = a) (m.nw k 0) n) : Gz nul m n := ⟨Nat.le_of_lt (Nat.lt_of_lt_of_le (Nat.lt_succ_self _) h.1), fun b hb => by
  have hn : b ≠ m.S := Nat.ne_of_lt hb
  have hn2 : b ≠ a := by omega
  obtain ⟨a1, a2, a3, a4⟩ := h.2 b (by rw [S_nw]; omega)
  exact ⟨by rw [a1, K_nw, if_neg hn], by rw [a2, N_nw, if_neg hn], fun s i _ => by rw [a3 s i hn2, I_nw, if_neg hn], fun s i _ => by rw [a4 s i hn2, R_nw, if_neg hn]⟩⟩
theorem i_tab_12_8 {m : MM} {a : Nat} (h : frs m a 7) : ∃ n, f_X6_init_12_8 a m = some ((), n) ∧ n.S = a + 2 ∧ Gz (fun _ b _ => b = a) m n ∧ Tb n a 12 8 0 := by
  obtain ⟨hS, hK, h0⟩ := h
  obtain ⟨p, hp⟩ : ∃ p, p = (m.sI 700 a 0 12).sI 701 a 0 8 := ⟨_, rfl⟩
  have pS : p.S = a + 1 := by rw [hp]; exact hS
  have pK : p.K a = 7 := by rw [hp]; exact hK
  have p0 : p.I 700 a 0 = 12 := by rw [hp, I_sI, if_neg (by omega), I_sI, if_pos ⟨rfl, rfl, rfl⟩]
  have p1 : p.I 701 a 0 = 8 := by rw [hp, I_sI, if_pos ⟨rfl, rfl, rfl⟩]
  have p3 : p.I 703 a 0 = 0 := by rw [hp, I_sI, if_neg (by omega), I_sI, if_neg (by omega)]; exact h0 703 0
  have hn : a ≠ p.S := by omega
  have g : Gz (fun _ b _ => b = a) m p := by rw [hp]; exact ((Gz.rf _ m).sI _ _ _ _ (.inl rfl)).sI _ _ _ _ (.inl rfl)
  refine ⟨(p.nw 22 96).sR 702 a 0 (some (a + 1)), ?_, by rw [S_sR, S_nw, pS], (g.nw _ _).sR _ _ _ _ (.inl rfl), ?_, ?_, ?_, ?_, ?_, ?_, ?_, Nat.zero_le _, by omega, by omega⟩
  · unfold f_X6_init_12_8
    rw [chk_t hK, bnd_e, bnd_e, ← hp, p0, p1, chk_t (by decide), bnd_e, bnd_e, chk_t (show (p.nw 22 96).K a = 7 from by rw [K_nw, if_neg hn]; exact pK), bnd_e, pS]
  · rw [K_sR, K_nw, if_neg hn]; exact pK
  · rw [I_sR, I_nw, if_neg hn]; exact p0
  · rw [I_sR, I_nw, if_neg hn]; exact p1
  · rw [R_sR, if_pos ⟨rfl, rfl, rfl⟩]
  · rw [K_sR, K_nw, if_pos pS.symm]
  · rw [N_sR, N_nw, if_pos pS.symm]
  · rw [I_sR, I_nw, if_neg hn]; exact p3
theorem i_tab_8_5 {m : MM} {a : Nat} (h : frs m a 7) : ∃ n, f_X6_init_8_5 a m = some ((), n) ∧ n.S = a + 2 ∧ Gz (fun _ b _ => b = a) m n ∧ Tb n a 8 5 0 := by
  obtain ⟨hS, hK, h0⟩ := h
  obtain ⟨p, hp⟩ : ∃ p, p = (m.sI 700 a 0 8).sI 701 a 0 5 := ⟨_, rfl⟩
  have pS : p.S = a + 1 := by rw [hp]; exact hS
  have pK : p.K a = 7 := by rw [hp]; exact hK
  have p0 : p.I 700 a 0 = 8 := by rw [hp, I_sI, if_neg (by omega), I_sI, if_pos ⟨rfl, rfl, rfl⟩]
  have p1 : p.I 701 a 0 = 5 := by rw [hp, I_sI, if_pos ⟨rfl, rfl, rfl⟩]
  have p3 : p.I 703 a 0 = 0 := by rw [hp, I_sI, if_neg (by omega), I_sI, if_neg (by omega)]; exact h0 703 0
  have hn : a ≠ p.S := by omega
  have g : Gz (fun _ b _ => b = a) m p := by rw [hp]; exact ((Gz.rf _ m).sI _ _ _ _ (.inl rfl)).sI _ _ _ _ (.inl rfl)
  refine ⟨(p.nw 22 40).sR 702 a 0 (some (a + 1)), ?_, by rw [S_sR, S_nw, pS], (g.nw _ _).sR _ _ _ _ (.inl rfl), ?_, ?_, ?_, ?_, ?_, ?_, ?_, Nat.zero_le _, by omega, by omega⟩
  · unfold f_X6_init_8_5
    rw [chk_t hK, bnd_e, bnd_e, ← hp, p0, p1, chk_t (by decide), bnd_e, bnd_e, chk_t (show (p.nw 22 40).K a = 7 from by rw [K_nw, if_neg hn]; exact pK), bnd_e, pS]
  · rw [K_sR, K_nw, if_neg hn]; exact pK
  · rw [I_sR, I_nw, if_neg hn]; exact p0
  · rw [I_sR, I_nw, if_neg hn]; exact p1
  · rw [R_sR, if_pos ⟨rfl, rfl, rfl⟩]
  · rw [K_sR, K_nw, if_pos pS.symm]
  · rw [N_sR, N_nw, if_pos pS.symm]
  · rw [I_sR, I_nw, if_neg hn]; exact p3
theorem i_tab_6_5 {m : MM} {a : Nat} (h : frs m a 7) : ∃ n, f_X6_init_6_5 a m = some ((), n) ∧ n.S = a + 2 ∧ Gz (fun _ b _ => b = a) m n ∧ Tb n a 6 5 0 := by
  obtain ⟨hS, hK, h0⟩ := h
  obtain ⟨p, hp⟩ : ∃ p, p = (m.sI 700 a 0 6).sI 701 a 0 5 := ⟨_, rfl⟩
  have pS : p.S = a + 1 := by rw [hp]; exact hS
  have pK : p.K a = 7 := by rw [hp]; exact hK
  have p0 : p.I 700 a 0 = 6 := by rw [hp, I_sI, if_neg (by omega), I_sI, if_pos ⟨rfl, rfl, rfl⟩]
  have p1 : p.I 701 a 0 = 5 := by rw [hp, I_sI, if_pos ⟨rfl, rfl, rfl⟩]
  have p3 : p.I 703 a 0 = 0 := by rw [hp, I_sI, if_neg (by omega), I_sI, if_neg (by omega)]; exact h0 703 0
  have hn : a ≠ p.S := by omega
  have g : Gz (fun _ b _ => b = a) m p := by rw [hp]; exact ((Gz.rf _ m).sI _ _ _ _ (.inl rfl)).sI _ _ _ _ (.inl rfl)
  refine ⟨(p.nw 22 30).sR 702 a 0 (some (a + 1)), ?_, by rw [S_sR, S_nw, pS], (g.nw _ _).sR _ _ _ _ (.inl rfl), ?_, ?_, ?_, ?_, ?_, ?_, ?_, Nat.zero_le _, by omega, by omega⟩
  · unfold f_X6_init_6_5
    rw [chk_t hK, bnd_e, bnd_e, ← hp, p0, p1, chk_t (by decide), bnd_e, bnd_e, chk_t (show (p.nw 22 30).K a = 7 from by rw [K_nw, if_neg hn]; exact pK), bnd_e, pS]
  · rw [K_sR, K_nw, if_neg hn]; exact pK
  · rw [I_sR, I_nw, if_neg hn]; exact p0
  · rw [I_sR, I_nw, if_neg hn]; exact p1
  · rw [R_sR, if_pos ⟨rfl, rfl, rfl⟩]
  · rw [K_sR, K_nw, if_pos pS.symm]
  · rw [N_sR, N_nw, if_pos pS.symm]
  · rw [I_sR, I_nw, if_neg hn]; exact p3
theorem i_tab_12_3 {m : MM} {a : Nat} (h : frs m a 7) : ∃ n, f_X6_init_12_3 a m = some ((), n) ∧ n.S = a + 2 ∧ Gz (fun _ b _ => b = a) m n ∧ Tb n a 12 3 0 := by
  obtain ⟨hS, hK, h0⟩ := h
  obtain ⟨p, hp⟩ : ∃ p, p = (m.sI 700 a 0 12).sI 701 a 0 3 := ⟨_, rfl⟩
  have pS : p.S = a + 1 := by rw [hp]; exact hS
  have pK : p.K a = 7 := by rw [hp]; exact hK
  have p0 : p.I 700 a 0 = 12 := by rw [hp, I_sI, if_neg (by omega), I_sI, if_pos ⟨rfl, rfl, rfl⟩]
  have p1 : p.I 701 a 0 = 3 := by rw [hp, I_sI, if_pos ⟨rfl, rfl, rfl⟩]
  have p3 : p.I 703 a 0 = 0 := by rw [hp, I_sI, if_neg (by omega), I_sI, if_neg (by omega)]; exact h0 703 0
  have hn : a ≠ p.S := by omega
  have g : Gz (fun _ b _ => b = a) m p := by rw [hp]; exact ((Gz.rf _ m).sI _ _ _ _ (.inl rfl)).sI _ _ _ _ (.inl rfl)
  refine ⟨(p.nw 22 36).sR 702 a 0 (some (a + 1)), ?_, by rw [S_sR, S_nw, pS], (g.nw _ _).sR _ _ _ _ (.inl rfl), ?_, ?_, ?_, ?_, ?_, ?_, ?_, Nat.zero_le _, by omega, by omega⟩
  · unfold f_X6_init_12_3
    rw [chk_t hK, bnd_e, bnd_e, ← hp, p0, p1, chk_t (by decide), bnd_e, bnd_e, chk_t (show (p.nw 22 36).K a = 7 from by rw [K_nw, if_neg hn]; exact pK), bnd_e, pS]
  · rw [K_sR, K_nw, if_neg hn]; exact pK
  · rw [I_sR, I_nw, if_neg hn]; exact p0
  · rw [I_sR, I_nw, if_neg hn]; exact p1
  · rw [R_sR, if_pos ⟨rfl, rfl, rfl⟩]
  · rw [K_sR, K_nw, if_pos pS.symm]
  · rw [N_sR, N_nw, if_pos pS.symm]
  · rw [I_sR, I_nw, if_neg hn]; exact p3
theorem i_tab_3_2 {m : MM} {a : Nat} (h : frs m a 7) : ∃ n, f_X6_init_3_2 a m = some ((), n) ∧ n.S = a + 2 ∧ Gz (fun _ b _ => b = a) m n ∧ Tb n a 3 2 0 := by
  obtain ⟨hS, hK, h0⟩ := h
  obtain ⟨p, hp⟩ : ∃ p, p = (m.sI 700 a 0 3).sI 701 a 0 2 := ⟨_, rfl⟩
  have pS : p.S = a + 1 := by rw [hp]; exact hS
  have pK : p.K a = 7 := by rw [hp]; exact hK
  have p0 : p.I 700 a 0 = 3 := by rw [hp, I_sI, if_neg (by omega), I_sI, if_pos ⟨rfl, rfl, rfl⟩]
  have p1 : p.I 701 a 0 = 2 := by rw [hp, I_sI, if_pos ⟨rfl, rfl, rfl⟩]
  have p3 : p.I 703 a 0 = 0 := by rw [hp, I_sI, if_neg (by omega), I_sI, if_neg (by omega)]; exact h0 703 0
  have hn : a ≠ p.S := by omega
  have g : Gz (fun _ b _ => b = a) m p := by rw [hp]; exact ((Gz.rf _ m).sI _ _ _ _ (.inl rfl)).sI _ _ _ _ (.inl rfl)
  refine ⟨(p.nw 22 6).sR 702 a 0 (some (a + 1)), ?_, by rw [S_sR, S_nw, pS], (g.nw _ _).sR _ _ _ _ (.inl rfl), ?_, ?_, ?_, ?_, ?_, ?_, ?_, Nat.zero_le _, by omega, by omega⟩
  · unfold f_X6_init_3_2
    rw [chk_t hK, bnd_e, bnd_e, ← hp, p0, p1, chk_t (by decide), bnd_e, bnd_e, chk_t (show (p.nw 22 6).K a = 7 from by rw [K_nw, if_neg hn]; exact pK), bnd_e, pS]
  · rw [K_sR, K_nw, if_neg hn]; exact pK
  · rw [I_sR, I_nw, if_neg hn]; exact p0
  · rw [I_sR, I_nw, if_neg hn]; exact p1
  · rw [R_sR, if_pos ⟨rfl, rfl, rfl⟩]
  · rw [K_sR, K_nw, if_pos pS.symm]
  · rw [N_sR, N_nw, if_pos pS.symm]
  · rw [I_sR, I_nw, if_neg hn]; exact p3
theorem i_tab_10_5 {m : MM} {a : Nat} (h : frs m a 7) : ∃ n, f_X6_init_10_5 a m = some ((), n) ∧ n.S = a + 2 ∧ Gz (fun _ b _ => b = a) m n ∧ Tb n a 10 5 0 := by
  obtain ⟨hS, hK, h0⟩ := h
  obtain ⟨p, hp⟩ : ∃ p, p = (m.sI 700 a 0 10).sI 701 a 0 5 := ⟨_, rfl⟩
  have pS : p.S = a + 1 := by rw [hp]; exact hS
  have pK : p.K a = 7 := by rw [hp]; exact hK
  have p0 : p.I 700 a 0 = 10 := by rw [hp, I_sI, if_neg (by omega), I_sI, if_pos ⟨rfl, rfl, rfl⟩]
  have p1 : p.I 701 a 0 = 5 := by rw [hp, I_sI, if_pos ⟨rfl, rfl, rfl⟩]
  have p3 : p.I 703 a 0 = 0 := by rw [hp, I_sI, if_neg (by omega), I_sI, if_neg (by omega)]; exact h0 703 0
  have hn : a ≠ p.S := by omega
  have g : Gz (fun _ b _ => b = a) m p := by rw [hp]; exact ((Gz.rf _ m).sI _ _ _ _ (.inl rfl)).sI _ _ _ _ (.inl rfl)
  refine ⟨(p.nw 22 50).sR 702 a 0 (some (a + 1)), ?_, by rw [S_sR, S_nw, pS], (g.nw _ _).sR _ _ _ _ (.inl rfl), ?_, ?_, ?_, ?_, ?_, ?_, ?_, Nat.zero_le _, by omega, by omega⟩
  · unfold f_X6_init_10_5
    rw [chk_t hK, bnd_e, bnd_e, ← hp, p0, p1, chk_t (by decide), bnd_e, bnd_e, chk_t (show (p.nw 22 50).K a = 7 from by rw [K_nw, if_neg hn]; exact pK), bnd_e, pS]
  · rw [K_sR, K_nw, if_neg hn]; exact pK
  · rw [I_sR, I_nw, if_neg hn]; exact p0
  · rw [I_sR, I_nw, if_neg hn]; exact p1
  · rw [R_sR, if_pos ⟨rfl, rfl, rfl⟩]
  · rw [K_sR, K_nw, if_pos pS.symm]
  · rw [N_sR, N_nw, if_pos pS.symm]
  · rw [I_sR, I_nw, if_neg hn]; exact p3
def T0 : TW := (fun _ => 0, fun _ => 0, fun _ _ _ => 0)
def L0 : LW := (fun q => if q = 2 then -1 else 0, 0, fun _ _ => 0)
def W0 : WD := (fun _ => 0, 0, 0, -1, 0, 0, fun _ => T0, fun _ => L0)
def dn (k : Nat) : Nat := if k = 0 then 12 else if k = 1 then 8 else if k = 2 then 6 else if k = 5 then 3 else 12
def dw (k : Nat) : Nat := if k = 0 then 8 else if k = 1 then 5 else if k = 2 then 5 else if k = 5 then 2 else 3
/-- a town in the making: j tables stand -/
def PSt (m : MM) (t j : Nat) (q : MM) : Prop := q.S = t + 1 + 2 * j ∧ q.K t = 9 ∧ (∀ s i, q.I s t i = 0) ∧ Gz (fun _ b _ => b = t) m q ∧ ∀ k, k < j → q.R (904 + k) t 0 = some (t + 1 + 2 * k) ∧ Tb q (t + 1 + 2 * k) (dn k) (dw k) 0
theorem PSt.step {m q : MM} {t j N W : Nat} {f : Nat → MM → Option (Unit × MM)} (hf : ∀ {m a}, frs m a 7 → ∃ n, f a m = some ((), n) ∧ n.S = a + 2 ∧ Gz (fun _ b _ => b = a) m n ∧ Tb n a N W 0) (hN : N = dn j) (hW : W = dw j) (h : PSt m t j q) : ∃ n, f q.S (q.nw 7 0) = some ((), n) ∧ n.K t = 9 ∧ PSt m t (j + 1) (n.sR (904 + j) t 0 (some q.S)) := by
  obtain ⟨h1, h2, h3, h4, h5⟩ := h
  obtain ⟨n, e1, e2, e3, e4⟩ := hf (frs_nw q 7)
  have g : Gz nul q n := e3.mk rfl
  have ht : t < q.S := by omega
  have kn : n.K t = 9 := by rw [g.k ht]; exact h2
  refine ⟨n, e1, kn, by rw [S_sR, e2, h1]; omega, kn, fun s i => by rw [I_sR, g.i ht (fun z => z)]; exact h3 s i, (h4.tr g.nn).sR _ _ _ _ (.inl rfl), fun k hk => ?_⟩
  by_cases z : k = j
  · subst z
    refine ⟨by rw [R_sR, if_pos ⟨rfl, rfl, rfl⟩, h1], ?_⟩
    rw [← h1, ← hN, ← hW]
    exact e4.kept ((Ag.rf n (t + 1) (q.S + 2)).sR _ _ _ _ (by omega)) (by omega) (by omega)
  · obtain ⟨b1, b2⟩ := h5 k (by omega)
    refine ⟨by rw [R_sR, if_neg (by omega), g.r ht (fun z => z)]; exact b1, ?_⟩
    exact b2.kept (((g.ag (lo := t + 1) (hi := q.S) (Nat.le_refl _) (fun _ _ _ _ _ z => z)).sR _ _ _ _ (by omega))) (by omega) (by omega)
theorem i_town {m : MM} {t : Nat} (h : frs m t 9) : ∃ n, f_X8_init t m = some ((), n) ∧ n.S = t + 15 ∧ Gz (fun _ b _ => b = t) m n ∧ CT n t T0 := by
  have P0 : PSt m t 0 m := ⟨h.1, h.2.1, h.2.2, Gz.rf _ m, fun k hk => by omega⟩
  clear h
  obtain ⟨n0, e0, k0, P1⟩ := PSt.step (f := f_X6_init_12_8) i_tab_12_8 rfl rfl P0
  obtain ⟨n1, e1, k1, P2⟩ := PSt.step (f := f_X6_init_8_5) i_tab_8_5 rfl rfl P1
  obtain ⟨n2, e2, k2, P3⟩ := PSt.step (f := f_X6_init_6_5) i_tab_6_5 rfl rfl P2
  obtain ⟨n3, e3, k3, P4⟩ := PSt.step (f := f_X6_init_12_3) i_tab_12_3 rfl rfl P3
  obtain ⟨n4, e4, k4, P5⟩ := PSt.step (f := f_X6_init_12_3) i_tab_12_3 rfl rfl P4
  obtain ⟨n5, e5, k5, P6⟩ := PSt.step (f := f_X6_init_3_2) i_tab_3_2 rfl rfl P5
  have fin : ∃ q7 q8, (∀ X : MM → Option (Unit × MM), bnd (n5.sR (904 + 5) t 0 (some ((n4.sR (904 + 4) t 0 (some ((n3.sR (904 + 3) t 0 (some ((n2.sR (904 + 2) t 0 (some ((n1.sR (904 + 1) t 0 (some (n0.sR (904 + 0) t 0 (some m.S)).S))).S))).S))).S))).S)) (fun m18 => bnd m18.S (fun a7 => bnd (m18.nw 22 8) (fun m19 => chk (m19.K t = 9) (bnd (m19.sR 910 t 0 (some a7)) (fun m20 => bnd m20.S (fun a8 => bnd (m20.nw 22 6) (fun m21 => chk (m21.K t = 9) (bnd (m21.sR 911 t 0 (some a8)) X)))))))) = X q8) ∧ q8.S = t + 15 ∧ Gz (fun _ b _ => b = t) m q8 ∧ CT q8 t T0 ∧ q7 = q8 := by
    generalize (n5.sR (904 + 5) t 0 (some ((n4.sR (904 + 4) t 0 (some ((n3.sR (904 + 3) t 0 (some ((n2.sR (904 + 2) t 0 (some ((n1.sR (904 + 1) t 0 (some (n0.sR (904 + 0) t 0 (some m.S)).S))).S))).S))).S))).S)) = q at P6 ⊢
    clear e0 e1 e2 e3 e4 e5 k0 k1 k2 k3 k4 k5 P0 P1 P2 P3 P4 P5
    obtain ⟨h1, h2, h3, h4, h5⟩ := P6
    have t0 := h5 0 (by omega)
    have t1 := h5 1 (by omega)
    have t2 := h5 2 (by omega)
    have t3 := h5 3 (by omega)
    have t4 := h5 4 (by omega)
    have t5 := h5 5 (by omega)
    clear h5
    have s13 : q.S = t + 13 := by omega
    obtain ⟨q7, hq7⟩ : ∃ u, u = (q.nw 22 8).sR 910 t 0 (some (t + 13)) := ⟨_, rfl⟩
    have S7 : q7.S = t + 14 := by rw [hq7, S_sR, S_nw, s13]
    have k7 : (q.nw 22 8).K t = 9 := by rw [K_nw, if_neg (by omega)]; exact h2
    have G7 : Gz (fun s b _ => b = t ∧ s = 910) q q7 := by rw [hq7]; exact ((Gz.rf _ q).nw _ _).sR _ _ _ _ (.inl ⟨rfl, rfl⟩)
    have c13 : q7.K (t + 13) = 22 ∧ q7.N (t + 13) = 8 ∧ ∀ i, q7.I 22 (t + 13) i = 0 := by rw [hq7, K_sR, N_sR, I_sR]; exact ⟨by rw [K_nw, if_pos s13.symm], by rw [N_nw, if_pos s13.symm], fun i => by rw [I_nw, if_pos s13.symm]⟩
    have r7 : q7.R 910 t 0 = some (t + 13) := by rw [hq7, R_sR, if_pos ⟨rfl, rfl, rfl⟩]
    obtain ⟨q8, hq8⟩ : ∃ u, u = (q7.nw 22 6).sR 911 t 0 (some (t + 14)) := ⟨_, rfl⟩
    have S8 : q8.S = t + 15 := by rw [hq8, S_sR, S_nw, S7]
    have k8 : (q7.nw 22 6).K t = 9 := by rw [K_nw, if_neg (by omega), hq7]; exact k7
    have G8 : Gz (fun s b _ => b = t ∧ s = 911) q7 q8 := by rw [hq8]; exact ((Gz.rf _ q7).nw _ _).sR _ _ _ _ (.inl ⟨rfl, rfl⟩)
    have c14 : q8.K (t + 14) = 22 ∧ q8.N (t + 14) = 6 ∧ ∀ i, q8.I 22 (t + 14) i = 0 := by rw [hq8, K_sR, N_sR, I_sR]; exact ⟨by rw [K_nw, if_pos S7.symm], by rw [N_nw, if_pos S7.symm], fun i => by rw [I_nw, if_pos S7.symm]⟩
    have r8 : q8.R 911 t 0 = some (t + 14) := by rw [hq8, R_sR, if_pos ⟨rfl, rfl, rfl⟩]
    have G : Gz (fun s b _ => b = t ∧ (s = 910 ∨ s = 911)) q q8 := (G7.up (fun s b i _ z => ⟨z.1, .inl z.2⟩)).tr (G8.up (fun s b i _ z => ⟨z.1, .inr z.2⟩))
    have lt : t < q.S := by omega
    have lt7 : t < q7.S := by omega
    have A : Ag q q8 (t + 1) (t + 13) := G.ag (by omega) (fun s a i h1 h2 z => by omega)
    refine ⟨q8, q8, fun X => ?_, S8, (h4.tr (G.up (fun s b i _ z => z.1))), ⟨by rw [G.k lt]; exact h2, ?_, ?_, ?_, ?_, ?_, ?_, ?_, r8, ?_, ?_, c14.1, c14.2.1, ?_, ?_, ?_, ?_, ?_, ?_, ?_, ?_, ?_, ?_, ?_, fun h hh => c14.2.2 h, fun r hr => absurd hr (Nat.not_lt_zero r), fun r hr => absurd hr (Nat.not_lt_zero r), fun r hr => absurd hr (Nat.not_lt_zero r), fun r hr => absurd hr (Nat.not_lt_zero r), fun r hr => absurd hr (Nat.not_lt_zero r), fun r hr => absurd hr (Nat.not_lt_zero r)⟩, rfl⟩
    · rw [bnd_e, bnd_e, bnd_e, chk_t k7, bnd_e, s13, ← hq7, bnd_e, bnd_e, chk_t k8, S7, bnd_e, ← hq8]
    · rw [G.r lt (fun z => by omega)]; exact t0.1
    · rw [G.r lt (fun z => by omega)]; exact t1.1
    · rw [G.r lt (fun z => by omega)]; exact t2.1
    · rw [G.r lt (fun z => by omega)]; exact t3.1
    · rw [G.r lt (fun z => by omega)]; exact t4.1
    · rw [G.r lt (fun z => by omega)]; exact t5.1
    · rw [G8.r lt7 (fun z => by omega)]; exact r7
    · rw [G8.k (by omega)]; exact c13.1
    · rw [G8.l (by omega)]; exact c13.2.1
    · exact t0.2.kept A (by omega) (by omega)
    · exact t1.2.kept A (by omega) (by omega)
    · exact t2.2.kept A (by omega) (by omega)
    · exact t3.2.kept A (by omega) (by omega)
    · exact t4.2.kept A (by omega) (by omega)
    · exact t5.2.kept A (by omega) (by omega)
    · rw [G.i lt (fun z => by omega)]; exact h3 _ _
    · rw [G.i lt (fun z => by omega)]; exact h3 _ _
    · rw [G.i lt (fun z => by omega)]; exact h3 _ _
    · rw [G.i lt (fun z => by omega)]; exact h3 _ _
    · intro h hh
      rw [G8.i (by omega) (fun z => by omega)]; exact c13.2.2 h
  obtain ⟨q7, q8, f1, f2, f3, f4, _⟩ := fin
  refine ⟨q8, ?_, f2, f3, f4⟩
  unfold f_X8_init
  rw [bnd_e, bnd_e, e0, cal_s, chk_t k0, bnd_e, bnd_e, bnd_e, e1, cal_s, chk_t k1, bnd_e, bnd_e, bnd_e, e2, cal_s, chk_t k2, bnd_e, bnd_e, bnd_e, e3, cal_s, chk_t k3, bnd_e, bnd_e, bnd_e, e4, cal_s, chk_t k4, bnd_e, bnd_e, bnd_e, e5, cal_s, chk_t k5]
  exact f1 _
theorem i_law {m : MM} {t : Nat} (h : frs m t 3) : ∃ n, f_X2_init t m = some ((), n) ∧ n.S = t + 3 ∧ Gz (fun _ b _ => b = t) m n ∧ CL n t L0 := by
  obtain ⟨hS, hK, h0⟩ := h
  obtain ⟨n0, e0, s0, g0, b0⟩ := i_tab_10_5 (frs_nw m 7)
  have g0 : Gz nul m n0 := g0.mk rfl
  rw [hS] at s0 b0 e0
  obtain ⟨q1, hq1⟩ : ∃ q, q = (n0.sR 300 t 0 (some (t + 1))).sI 303 t 0 (-1) := ⟨_, rfl⟩
  have G : Gz (fun s b _ => b = t ∧ (s = 300 ∨ s = 303)) m q1 := by rw [hq1]; exact (g0.nn.sR _ _ _ _ (.inl ⟨rfl, .inl rfl⟩)).sI _ _ _ _ (.inl ⟨rfl, .inr rfl⟩)
  have k0 : n0.K t = 3 := by rw [g0.k (by omega)]; exact hK
  refine ⟨q1, ?_, by rw [hq1, S_sI, S_sR, s0], G.up (fun s b i _ z => z.1), by rw [hq1]; exact k0, by rw [hq1, R_sI, R_sR, if_pos ⟨rfl, rfl, rfl⟩], ?_, ?_, ?_, ?_, fun r hr => absurd hr (Nat.not_lt_zero r), .inl rfl, .inl rfl⟩
  · unfold f_X2_init
    rw [bnd_e, bnd_e, hS, e0, cal_s, chk_t k0, bnd_e, bnd_e, ← hq1]
  · rw [hq1]; exact b0.kept (((Ag.rf n0 (t + 1) (t + 3)).sR _ _ _ _ (by omega)).sI _ _ _ _ (by omega)) (by omega) (by omega)
  · rw [G.i (by omega) (by omega)]; exact h0 _ _
  · rw [G.i (by omega) (by omega)]; exact h0 _ _
  · rw [hq1, I_sI, if_pos ⟨rfl, rfl, rfl⟩]; rfl
