/-! a body: kind, x, y, faces, grown -/
abbrev BD : Type := Nat × Nat × Nat × Int32 × Nat
abbrev BD.k (b : BD) := b.1
abbrev BD.x (b : BD) := b.2.1
abbrev BD.y (b : BD) := b.2.2.1
abbrev BD.f (b : BD) := b.2.2.2.1
abbrev BD.g (b : BD) := b.2.2.2.2
def Bo (m : MM) (a : Nat) (b : BD) : Prop := m.K a = 1 ∧ m.I 100 a 0 = nI b.k ∧ m.I 101 a 0 = nI b.x ∧ m.I 102 a 0 = nI b.y ∧ m.I 103 a 0 = b.f ∧ m.I 104 a 0 = nI b.g
def VB (b : BD) : Prop := b.k < 6 ∧ b.x < 8 ∧ b.y < 8 ∧ (b.f = -1 ∨ nB b.f 4) ∧ b.g ≤ 9
theorem z_smp {a b : Int} (ha : -98 ≤ a ∧ a ≤ 98) (hb : -98 ≤ b ∧ b ≤ 98) : sm (a * b) := by
  have := z_bd 98 98 ha hb
  unfold sm
  omega
theorem sm0 : sm 0 := by unfold sm; omega
theorem z_sm {a : Int} (h : -9604 ≤ a ∧ a ≤ 9604) : sm a := by unfold sm; omega
def cutN (a b : BD) (fx fy tx ty : Nat) : Bool := cutB a.x a.y b.x b.y fx fy tx ty
theorem c_cuts {m : MM} {p q : Nat} {a b : BD} (ha : Bo m p a) (hb : Bo m q b) (va : VB a) (vb : VB b) {fx fy tx ty : Nat} (h1 : fx < 8) (h2 : fy < 8) (h3 : tx < 8) (h4 : ty < 8) : f_X5_cuts (some p) (some q) (nI fx) (nI fy) (nI tx) (nI ty) m = some (bI (cutN a b fx fy tx ty), m) := by
  obtain ⟨_, va2, va3, _⟩ := va
  obtain ⟨_, vb2, vb3, _⟩ := vb
  have d1 := sdz_bd va2 va3 vb2 vb3 h1 h2
  have d2 := sdz_bd va2 va3 vb2 vb3 h3 h4
  have d3 := sdz_bd h1 h2 h3 h4 va2 va3
  have d4 := sdz_bd h1 h2 h3 h4 vb2 vb3
  have e1 : (nI b.x - nI a.x) * (nI fy - nI a.y) - (nI b.y - nI a.y) * (nI fx - nI a.x) = zI (sdz a.x a.y b.x b.y fx fy) := by simp only [zz, zI_sub, zI_mul, sdz]
  have e2 : (nI b.x - nI a.x) * (nI ty - nI a.y) - (nI b.y - nI a.y) * (nI tx - nI a.x) = zI (sdz a.x a.y b.x b.y tx ty) := by simp only [zz, zI_sub, zI_mul, sdz]
  have e3 : (nI tx - nI fx) * (nI a.y - nI fy) - (nI ty - nI fy) * (nI a.x - nI fx) = zI (sdz fx fy tx ty a.x a.y) := by simp only [zz, zI_sub, zI_mul, sdz]
  have e4 : (nI tx - nI fx) * (nI b.y - nI fy) - (nI ty - nI fy) * (nI b.x - nI fx) = zI (sdz fx fy tx ty b.x b.y) := by simp only [zz, zI_sub, zI_mul, sdz]
  have bt : ∀ u v w : Nat, u < 8 → v < 8 → w < 8 → ((0 < (nI w - nI u) * (nI w - nI v)) ↔ btB u v w = false) := by
    intro u v w hu hv hw
    simp only [zz, zI_sub, zI_mul]
    have := z_bd (x := (w : Int) - u) (y := (w : Int) - v) 7 7 (by omega) (by omega)
    rw [z0, zI_lt sm0 (z_sm (by omega)), btB, decide_eq_false_iff_not]
    omega
  simp only [g_X5_cuts_296, g_X5_cuts_279, g_X5_cuts_278, g_X5_cuts_240, g_X5_cuts_239, g_X5_cuts_199, g_X5_cuts_198, g_X5_cuts_0, f_X5_cuts, ck_s ha.1, ck_s hb.1, chk_t, ck_sI, ck_sR, ck_sJ, cal_s, bnd_e, ifn_s, ifn_n, ha.2.2.1, ha.2.2.2.1, hb.2.2.1, hb.2.2.2.1, e1, e2, e3, e4, zI_mul, z0]
  simp only [zI_lt sm0 (z_smp d1 d2), zI_le (z_smp d3 d4) sm0, zI_eq (z_sm (show _ ∧ _ by omega : -9604 ≤ sdz a.x a.y b.x b.y fx fy ∧ sdz a.x a.y b.x b.y fx fy ≤ 9604)) sm0, zI_eq (z_sm (show _ ∧ _ by omega : -9604 ≤ sdz a.x a.y b.x b.y tx ty ∧ sdz a.x a.y b.x b.y tx ty ≤ 9604)) sm0, zI_eq (z_sm (show _ ∧ _ by omega : -9604 ≤ sdz fx fy tx ty a.x a.y ∧ sdz fx fy tx ty a.x a.y ≤ 9604)) sm0, zI_eq (z_sm (show _ ∧ _ by omega : -9604 ≤ sdz fx fy tx ty b.x b.y ∧ sdz fx fy tx ty b.x b.y ≤ 9604)) sm0]
  simp only [← z0]
  simp only [bt fx tx a.x h1 h3 va2, bt fy ty a.y h2 h4 va3, bt fx tx b.x h1 h3 vb2, bt fy ty b.y h2 h4 vb3, bt a.x b.x fx va2 vb2 h1, bt a.y b.y fy va3 vb3 h2, cutN, cutB]
  by_cases k1 : 0 < sdz a.x a.y b.x b.y fx fy * sdz a.x a.y b.x b.y tx ty
  · simp [k1, bI]
  by_cases k2 : sdz fx fy tx ty a.x a.y * sdz fx fy tx ty b.x b.y ≤ 0
  · have k2' : ¬ 0 < sdz fx fy tx ty a.x a.y * sdz fx fy tx ty b.x b.y := by omega
    simp only [if_neg k1, if_pos k2, decide_eq_false k1, decide_eq_false k2']
    by_cases g1 : sdz a.x a.y b.x b.y fx fy = 0
    · by_cases g2 : sdz a.x a.y b.x b.y tx ty = 0
      · by_cases g3 : sdz fx fy tx ty a.x a.y = 0
        · by_cases g4 : sdz fx fy tx ty b.x b.y = 0
          · simp only [g1, g2, g3, g4]
            cases btB fx tx a.x <;> cases btB fy ty a.y <;> cases btB fx tx b.x <;> cases btB fy ty b.y <;> cases btB a.x b.x fx <;> cases btB a.y b.y fy <;> rfl
          · simp [g4, bI]
        · simp [g3, bI]
      · simp [g2, bI]
    · simp [g1, bI]
  · have k2' : 0 < sdz fx fy tx ty a.x a.y * sdz fx fy tx ty b.x b.y := by omega
    simp [k1, k2, k2', bI]
