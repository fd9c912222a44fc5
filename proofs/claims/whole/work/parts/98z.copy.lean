/-! the reference's town, law are put in their places -/
def Cw (P : Nat → Nat → Nat → Prop) (m n : MM) : Prop := n.K = m.K ∧ n.N = m.N ∧ n.S = m.S ∧ n.R = m.R ∧ ∀ q a i, ¬ P q a i → n.I q a i = m.I q a i
theorem Cw.rf (P : Nat → Nat → Nat → Prop) (m : MM) : Cw P m m := ⟨rfl, rfl, rfl, rfl, fun _ _ _ _ => rfl⟩
theorem Cw.tr {P : Nat → Nat → Nat → Prop} {m n q : MM} (h1 : Cw P m n) (h2 : Cw P n q) : Cw P m q := ⟨h2.1.trans h1.1, h2.2.1.trans h1.2.1, h2.2.2.1.trans h1.2.2.1, h2.2.2.2.1.trans h1.2.2.2.1, fun s a i g => (h2.2.2.2.2 s a i g).trans (h1.2.2.2.2 s a i g)⟩
theorem Cw.sI {P : Nat → Nat → Nat → Prop} {m n : MM} (h : Cw P m n) (s a i : Nat) (v : Int32) (hP : P s a i) : Cw P m (n.sI s a i v) := ⟨h.1, h.2.1, h.2.2.1, h.2.2.2.1, fun s2 a2 i2 g => by rw [I_sI, if_neg (fun q => g (by rw [q.1, q.2.1, q.2.2]; exact hP))]; exact h.2.2.2.2 s2 a2 i2 g⟩
theorem Cw.up {P Q : Nat → Nat → Nat → Prop} {m n : MM} (h : Cw P m n) (hh : ∀ s a i, P s a i → Q s a i) : Cw Q m n := ⟨h.1, h.2.1, h.2.2.1, h.2.2.2.1, fun s a i g => h.2.2.2.2 s a i (fun q => g (hh s a i q))⟩
theorem Cw.md {P : Nat → Nat → Nat → Prop} {m n : MM} {y : Nat} (h : Cw P m n) (M : Md m y) : Md n y := M.kept h.1 h.2.1 (fun s => by rw [h.2.2.2.1])
def P84 (y t q a i : Nat) : Prop := q = 22 ∧ a = y + 6 ∧ 32 * t ≤ i ∧ i < 32 * t + 32
def P115 (y t q a i : Nat) : Prop := q = 22 ∧ ((y + 7 ≤ a ∧ a < y + 15) ∨ (y + 20 ≤ a ∧ a < y + 26)) ∧ 12 * t ≤ i ∧ i < 12 * t + 12
def P368 (y t q a i : Nat) : Prop := q = 22 ∧ (y + 15 ≤ a ∧ a < y + 20) ∧ 14 * t ≤ i ∧ i < 14 * t + 14
def PTw (y t q a i : Nat) : Prop := P84 y t q a i ∨ P115 y t q a i ∨ P368 y t q a i
section Cpy
variable {y : Nat} {m : MM}
theorem cp_84 (M : Md m y) (p1 : Int32) {t : Nat} (ht : t < 3) (K : Int32 → MM → Option (Int32 × MM)) : ∃ u, l_X10_town_84 y p1 K FU (nI t) 0 m = K (nI t) u ∧ Cw (P84 y t) m u ∧ ∀ k, k < 32 → u.I 22 (y + 6) (32 * t + k) = m.I 22 (y + 39) k := by
  obtain ⟨u, ⟨i1, i2⟩, e⟩ := lp_inv (fun n i (s : MM) => l_X10_town_84 y p1 K n (nI t) i s) (fun i s => Cw (P84 y t) m s ∧ ∀ k, k < i → s.I 22 (y + 6) (32 * t + k) = m.I 22 (y + 39) k) (fun s => K (nI t) s) 32 (fun i hi s hI => by
    obtain ⟨a1, a2⟩ := hI
    have M1 := a1.md M
    have ea : (32 : Int32) * nI t + nI i = nI (32 * t + i) := by
      show nI 32 * nI t + nI i = _
      rw [pk_mul, nI_add]
    refine ⟨s.sI 22 (y + 6) (32 * t + i) (m.I 22 (y + 39) i), ⟨a1.sI _ _ _ _ ⟨rfl, rfl, by omega, by omega⟩, fun c hc => ?_⟩, fun n => ?_⟩
    · rw [I_sI]
      by_cases q : c = i
      · rw [if_pos ⟨rfl, rfl, by rw [q]⟩, q]
      · rw [if_neg (by omega)]; exact a2 c (by omega)
    · show g_X10_town_84 y p1 (l_X10_town_84 y p1 K n) K (nI t) (nI i) s = _
      unfold g_X10_town_84
      rw [if_neg (show ¬ (32 : Int32) ≤ nI i from nI_ge (b := 32) hi (by decide)), chk_t M1.1, M1.c1150, M1.n1150, chk_t (inb_nI hi (by decide)), M1.c1106, M1.n1106, ea, chk_t (inb_nI (show 32 * t + i < 384 by omega) (by decide)), bnd_e, cl_nI (by omega), cl_nI (by omega), a1.2.2.2.2 22 (y + 39) i (by unfold P84; omega), nI_1]) (fun s hI n => by
    show g_X10_town_84 y p1 (l_X10_town_84 y p1 K n) K (nI t) (nI 32) s = _
    unfold g_X10_town_84
    rw [if_pos (show (32 : Int32) ≤ nI 32 by decide)]) (s0 := m) ⟨Cw.rf _ m, fun c hc => by omega⟩
  exact ⟨u, e FU (by unfold FU; omega), i1, i2⟩
theorem cp_115 (M : Md m y) (p1 : Int32) {t : Nat} (ht : t < 3) (K : Int32 → MM → Option (Int32 × MM)) : ∃ u, l_X10_town_115 y p1 K FU (nI t) 0 m = K (nI t) u ∧ Cw (P115 y t) m u ∧ ∀ k, k < 12 → u.I 22 (y + 7) (12 * t + k) = m.I 22 (y + 40) (7 * k) ∧ u.I 22 (y + 8) (12 * t + k) = m.I 22 (y + 40) (7 * k + 1) ∧ u.I 22 (y + 9) (12 * t + k) = m.I 22 (y + 40) (7 * k + 2) ∧ u.I 22 (y + 10) (12 * t + k) = m.I 22 (y + 40) (7 * k + 3) ∧ u.I 22 (y + 11) (12 * t + k) = m.I 22 (y + 40) (7 * k + 4) ∧ u.I 22 (y + 12) (12 * t + k) = m.I 22 (y + 40) (7 * k + 5) ∧ u.I 22 (y + 13) (12 * t + k) = m.I 22 (y + 40) (7 * k + 6) ∧ u.I 22 (y + 14) (12 * t + k) = -1 ∧ u.I 22 (y + 20) (12 * t + k) = m.I 22 (y + 42) (3 * k) ∧ u.I 22 (y + 21) (12 * t + k) = m.I 22 (y + 42) (3 * k + 1) ∧ u.I 22 (y + 22) (12 * t + k) = m.I 22 (y + 42) (3 * k + 2) ∧ u.I 22 (y + 23) (12 * t + k) = m.I 22 (y + 43) (3 * k) ∧ u.I 22 (y + 24) (12 * t + k) = m.I 22 (y + 43) (3 * k + 1) ∧ u.I 22 (y + 25) (12 * t + k) = m.I 22 (y + 43) (3 * k + 2) := by
  obtain ⟨u, ⟨i1, i2⟩, e⟩ := lp_inv (fun n i (s : MM) => l_X10_town_115 y p1 K n (nI t) i s) (fun i s => Cw (P115 y t) m s ∧ ∀ k, k < i → s.I 22 (y + 7) (12 * t + k) = m.I 22 (y + 40) (7 * k) ∧ s.I 22 (y + 8) (12 * t + k) = m.I 22 (y + 40) (7 * k + 1) ∧ s.I 22 (y + 9) (12 * t + k) = m.I 22 (y + 40) (7 * k + 2) ∧ s.I 22 (y + 10) (12 * t + k) = m.I 22 (y + 40) (7 * k + 3) ∧ s.I 22 (y + 11) (12 * t + k) = m.I 22 (y + 40) (7 * k + 4) ∧ s.I 22 (y + 12) (12 * t + k) = m.I 22 (y + 40) (7 * k + 5) ∧ s.I 22 (y + 13) (12 * t + k) = m.I 22 (y + 40) (7 * k + 6) ∧ s.I 22 (y + 14) (12 * t + k) = -1 ∧ s.I 22 (y + 20) (12 * t + k) = m.I 22 (y + 42) (3 * k) ∧ s.I 22 (y + 21) (12 * t + k) = m.I 22 (y + 42) (3 * k + 1) ∧ s.I 22 (y + 22) (12 * t + k) = m.I 22 (y + 42) (3 * k + 2) ∧ s.I 22 (y + 23) (12 * t + k) = m.I 22 (y + 43) (3 * k) ∧ s.I 22 (y + 24) (12 * t + k) = m.I 22 (y + 43) (3 * k + 1) ∧ s.I 22 (y + 25) (12 * t + k) = m.I 22 (y + 43) (3 * k + 2)) (fun s => K (nI t) s) 12 (fun i hi s hI => by
    obtain ⟨a1, a2⟩ := hI
    have M0 := a1.md M
    have ea : (12 : Int32) * nI t + nI i = nI (12 * t + i) := by
      show nI 12 * nI t + nI i = _
      rw [pk_mul, nI_add]
    have m3 : (3 : Int32) * nI i = nI (3 * i) := by
      show nI 3 * nI i = _
      rw [pk_mul]
    have m3_1 : nI (3 * i) + 1 = nI (3 * i + 1) := nI_add _ 1
    have m3_2 : nI (3 * i) + 2 = nI (3 * i + 2) := nI_add _ 2
    have m7 : (7 : Int32) * nI i = nI (7 * i) := by
      show nI 7 * nI i = _
      rw [pk_mul]
    have m7_1 : nI (7 * i) + 1 = nI (7 * i + 1) := nI_add _ 1
    have m7_2 : nI (7 * i) + 2 = nI (7 * i + 2) := nI_add _ 2
    have m7_3 : nI (7 * i) + 3 = nI (7 * i + 3) := nI_add _ 3
    have m7_4 : nI (7 * i) + 4 = nI (7 * i + 4) := nI_add _ 4
    have m7_5 : nI (7 * i) + 5 = nI (7 * i + 5) := nI_add _ 5
    have m7_6 : nI (7 * i) + 6 = nI (7 * i + 6) := nI_add _ 6
    obtain ⟨w0, g0⟩ : ∃ q, q = s.sI 22 (y + 7) (12 * t + i) (m.I 22 (y + 40) (7 * i)) := ⟨_, rfl⟩
    have o0 : Cw (P115 y t) m w0 := by rw [g0]; exact a1.sI _ _ _ _ ⟨rfl, by omega, by omega, by omega⟩
    have N0 := o0.md M
    obtain ⟨w1, g1⟩ : ∃ q, q = w0.sI 22 (y + 8) (12 * t + i) (m.I 22 (y + 40) (7 * i + 1)) := ⟨_, rfl⟩
    have o1 : Cw (P115 y t) m w1 := by rw [g1]; exact o0.sI _ _ _ _ ⟨rfl, by omega, by omega, by omega⟩
    have N1 := o1.md M
    obtain ⟨w2, g2⟩ : ∃ q, q = w1.sI 22 (y + 9) (12 * t + i) (m.I 22 (y + 40) (7 * i + 2)) := ⟨_, rfl⟩
    have o2 : Cw (P115 y t) m w2 := by rw [g2]; exact o1.sI _ _ _ _ ⟨rfl, by omega, by omega, by omega⟩
    have N2 := o2.md M
    obtain ⟨w3, g3⟩ : ∃ q, q = w2.sI 22 (y + 10) (12 * t + i) (m.I 22 (y + 40) (7 * i + 3)) := ⟨_, rfl⟩
    have o3 : Cw (P115 y t) m w3 := by rw [g3]; exact o2.sI _ _ _ _ ⟨rfl, by omega, by omega, by omega⟩
    have N3 := o3.md M
    obtain ⟨w4, g4⟩ : ∃ q, q = w3.sI 22 (y + 11) (12 * t + i) (m.I 22 (y + 40) (7 * i + 4)) := ⟨_, rfl⟩
    have o4 : Cw (P115 y t) m w4 := by rw [g4]; exact o3.sI _ _ _ _ ⟨rfl, by omega, by omega, by omega⟩
    have N4 := o4.md M
    obtain ⟨w5, g5⟩ : ∃ q, q = w4.sI 22 (y + 12) (12 * t + i) (m.I 22 (y + 40) (7 * i + 5)) := ⟨_, rfl⟩
    have o5 : Cw (P115 y t) m w5 := by rw [g5]; exact o4.sI _ _ _ _ ⟨rfl, by omega, by omega, by omega⟩
    have N5 := o5.md M
    obtain ⟨w6, g6⟩ : ∃ q, q = w5.sI 22 (y + 13) (12 * t + i) (m.I 22 (y + 40) (7 * i + 6)) := ⟨_, rfl⟩
    have o6 : Cw (P115 y t) m w6 := by rw [g6]; exact o5.sI _ _ _ _ ⟨rfl, by omega, by omega, by omega⟩
    have N6 := o6.md M
    obtain ⟨w7, g7⟩ : ∃ q, q = w6.sI 22 (y + 14) (12 * t + i) (-1) := ⟨_, rfl⟩
    have o7 : Cw (P115 y t) m w7 := by rw [g7]; exact o6.sI _ _ _ _ ⟨rfl, by omega, by omega, by omega⟩
    have N7 := o7.md M
    obtain ⟨w8, g8⟩ : ∃ q, q = w7.sI 22 (y + 20) (12 * t + i) (m.I 22 (y + 42) (3 * i)) := ⟨_, rfl⟩
    have o8 : Cw (P115 y t) m w8 := by rw [g8]; exact o7.sI _ _ _ _ ⟨rfl, by omega, by omega, by omega⟩
    have N8 := o8.md M
    obtain ⟨w9, g9⟩ : ∃ q, q = w8.sI 22 (y + 21) (12 * t + i) (m.I 22 (y + 42) (3 * i + 1)) := ⟨_, rfl⟩
    have o9 : Cw (P115 y t) m w9 := by rw [g9]; exact o8.sI _ _ _ _ ⟨rfl, by omega, by omega, by omega⟩
    have N9 := o9.md M
    obtain ⟨w10, g10⟩ : ∃ q, q = w9.sI 22 (y + 22) (12 * t + i) (m.I 22 (y + 42) (3 * i + 2)) := ⟨_, rfl⟩
    have o10 : Cw (P115 y t) m w10 := by rw [g10]; exact o9.sI _ _ _ _ ⟨rfl, by omega, by omega, by omega⟩
    have N10 := o10.md M
    obtain ⟨w11, g11⟩ : ∃ q, q = w10.sI 22 (y + 23) (12 * t + i) (m.I 22 (y + 43) (3 * i)) := ⟨_, rfl⟩
    have o11 : Cw (P115 y t) m w11 := by rw [g11]; exact o10.sI _ _ _ _ ⟨rfl, by omega, by omega, by omega⟩
    have N11 := o11.md M
    obtain ⟨w12, g12⟩ : ∃ q, q = w11.sI 22 (y + 24) (12 * t + i) (m.I 22 (y + 43) (3 * i + 1)) := ⟨_, rfl⟩
    have o12 : Cw (P115 y t) m w12 := by rw [g12]; exact o11.sI _ _ _ _ ⟨rfl, by omega, by omega, by omega⟩
    have N12 := o12.md M
    obtain ⟨w13, g13⟩ : ∃ q, q = w12.sI 22 (y + 25) (12 * t + i) (m.I 22 (y + 43) (3 * i + 2)) := ⟨_, rfl⟩
    have o13 : Cw (P115 y t) m w13 := by rw [g13]; exact o12.sI _ _ _ _ ⟨rfl, by omega, by omega, by omega⟩
    have N13 := o13.md M
    have vs : w13.I 22 (y + 7) (12 * t + i) = m.I 22 (y + 40) (7 * i) ∧ w13.I 22 (y + 8) (12 * t + i) = m.I 22 (y + 40) (7 * i + 1) ∧ w13.I 22 (y + 9) (12 * t + i) = m.I 22 (y + 40) (7 * i + 2) ∧ w13.I 22 (y + 10) (12 * t + i) = m.I 22 (y + 40) (7 * i + 3) ∧ w13.I 22 (y + 11) (12 * t + i) = m.I 22 (y + 40) (7 * i + 4) ∧ w13.I 22 (y + 12) (12 * t + i) = m.I 22 (y + 40) (7 * i + 5) ∧ w13.I 22 (y + 13) (12 * t + i) = m.I 22 (y + 40) (7 * i + 6) ∧ w13.I 22 (y + 14) (12 * t + i) = -1 ∧ w13.I 22 (y + 20) (12 * t + i) = m.I 22 (y + 42) (3 * i) ∧ w13.I 22 (y + 21) (12 * t + i) = m.I 22 (y + 42) (3 * i + 1) ∧ w13.I 22 (y + 22) (12 * t + i) = m.I 22 (y + 42) (3 * i + 2) ∧ w13.I 22 (y + 23) (12 * t + i) = m.I 22 (y + 43) (3 * i) ∧ w13.I 22 (y + 24) (12 * t + i) = m.I 22 (y + 43) (3 * i + 1) ∧ w13.I 22 (y + 25) (12 * t + i) = m.I 22 (y + 43) (3 * i + 2) := ⟨by rw [g13, I_sI, if_neg (by omega), g12, I_sI, if_neg (by omega), g11, I_sI, if_neg (by omega), g10, I_sI, if_neg (by omega), g9, I_sI, if_neg (by omega), g8, I_sI, if_neg (by omega), g7, I_sI, if_neg (by omega), g6, I_sI, if_neg (by omega), g5, I_sI, if_neg (by omega), g4, I_sI, if_neg (by omega), g3, I_sI, if_neg (by omega), g2, I_sI, if_neg (by omega), g1, I_sI, if_neg (by omega), g0, I_sI, if_pos ⟨rfl, rfl, rfl⟩], by rw [g13, I_sI, if_neg (by omega), g12, I_sI, if_neg (by omega), g11, I_sI, if_neg (by omega), g10, I_sI, if_neg (by omega), g9, I_sI, if_neg (by omega), g8, I_sI, if_neg (by omega), g7, I_sI, if_neg (by omega), g6, I_sI, if_neg (by omega), g5, I_sI, if_neg (by omega), g4, I_sI, if_neg (by omega), g3, I_sI, if_neg (by omega), g2, I_sI, if_neg (by omega), g1, I_sI, if_pos ⟨rfl, rfl, rfl⟩], by rw [g13, I_sI, if_neg (by omega), g12, I_sI, if_neg (by omega), g11, I_sI, if_neg (by omega), g10, I_sI, if_neg (by omega), g9, I_sI, if_neg (by omega), g8, I_sI, if_neg (by omega), g7, I_sI, if_neg (by omega), g6, I_sI, if_neg (by omega), g5, I_sI, if_neg (by omega), g4, I_sI, if_neg (by omega), g3, I_sI, if_neg (by omega), g2, I_sI, if_pos ⟨rfl, rfl, rfl⟩], by rw [g13, I_sI, if_neg (by omega), g12, I_sI, if_neg (by omega), g11, I_sI, if_neg (by omega), g10, I_sI, if_neg (by omega), g9, I_sI, if_neg (by omega), g8, I_sI, if_neg (by omega), g7, I_sI, if_neg (by omega), g6, I_sI, if_neg (by omega), g5, I_sI, if_neg (by omega), g4, I_sI, if_neg (by omega), g3, I_sI, if_pos ⟨rfl, rfl, rfl⟩], by rw [g13, I_sI, if_neg (by omega), g12, I_sI, if_neg (by omega), g11, I_sI, if_neg (by omega), g10, I_sI, if_neg (by omega), g9, I_sI, if_neg (by omega), g8, I_sI, if_neg (by omega), g7, I_sI, if_neg (by omega), g6, I_sI, if_neg (by omega), g5, I_sI, if_neg (by omega), g4, I_sI, if_pos ⟨rfl, rfl, rfl⟩], by rw [g13, I_sI, if_neg (by omega), g12, I_sI, if_neg (by omega), g11, I_sI, if_neg (by omega), g10, I_sI, if_neg (by omega), g9, I_sI, if_neg (by omega), g8, I_sI, if_neg (by omega), g7, I_sI, if_neg (by omega), g6, I_sI, if_neg (by omega), g5, I_sI, if_pos ⟨rfl, rfl, rfl⟩], by rw [g13, I_sI, if_neg (by omega), g12, I_sI, if_neg (by omega), g11, I_sI, if_neg (by omega), g10, I_sI, if_neg (by omega), g9, I_sI, if_neg (by omega), g8, I_sI, if_neg (by omega), g7, I_sI, if_neg (by omega), g6, I_sI, if_pos ⟨rfl, rfl, rfl⟩], by rw [g13, I_sI, if_neg (by omega), g12, I_sI, if_neg (by omega), g11, I_sI, if_neg (by omega), g10, I_sI, if_neg (by omega), g9, I_sI, if_neg (by omega), g8, I_sI, if_neg (by omega), g7, I_sI, if_pos ⟨rfl, rfl, rfl⟩], by rw [g13, I_sI, if_neg (by omega), g12, I_sI, if_neg (by omega), g11, I_sI, if_neg (by omega), g10, I_sI, if_neg (by omega), g9, I_sI, if_neg (by omega), g8, I_sI, if_pos ⟨rfl, rfl, rfl⟩], by rw [g13, I_sI, if_neg (by omega), g12, I_sI, if_neg (by omega), g11, I_sI, if_neg (by omega), g10, I_sI, if_neg (by omega), g9, I_sI, if_pos ⟨rfl, rfl, rfl⟩], by rw [g13, I_sI, if_neg (by omega), g12, I_sI, if_neg (by omega), g11, I_sI, if_neg (by omega), g10, I_sI, if_pos ⟨rfl, rfl, rfl⟩], by rw [g13, I_sI, if_neg (by omega), g12, I_sI, if_neg (by omega), g11, I_sI, if_pos ⟨rfl, rfl, rfl⟩], by rw [g13, I_sI, if_neg (by omega), g12, I_sI, if_pos ⟨rfl, rfl, rfl⟩], by rw [g13, I_sI, if_pos ⟨rfl, rfl, rfl⟩]⟩
    have os : ∀ q a j, ¬ (q = 22 ∧ j = 12 * t + i) → w13.I q a j = s.I q a j := fun q a j hq => by
      rw [g13, I_sI, if_neg (by omega), g12, I_sI, if_neg (by omega), g11, I_sI, if_neg (by omega), g10, I_sI, if_neg (by omega), g9, I_sI, if_neg (by omega), g8, I_sI, if_neg (by omega), g7, I_sI, if_neg (by omega), g6, I_sI, if_neg (by omega), g5, I_sI, if_neg (by omega), g4, I_sI, if_neg (by omega), g3, I_sI, if_neg (by omega), g2, I_sI, if_neg (by omega), g1, I_sI, if_neg (by omega), g0, I_sI, if_neg (by omega)]
    refine ⟨w13, ⟨o13, fun k hk => ?_⟩, fun n => ?_⟩
    · by_cases q : k = i
      · subst q; exact vs
      · have := a2 k (by omega)
        have e : ∀ a, w13.I 22 a (12 * t + k) = s.I 22 a (12 * t + k) := fun a => os _ _ _ (by omega)
        simp only [e]
        exact this
    · show g_X10_town_115 y p1 (l_X10_town_115 y p1 K n) K (nI t) (nI i) s = _
      unfold g_X10_town_115
      rw [if_neg (show ¬ (12 : Int32) ≤ nI i from nI_ge (b := 12) hi (by decide)), ea, bnd_e, m3, m7, m3_1, m3_2, m7_1, m7_2, m7_3, m7_4, m7_5, m7_6, chk_t M0.1]
      rw [M0.c1151, M0.n1151, chk_t (inb_nI (show 7 * i < 91 by omega) (by decide)), M0.c1107, M0.n1107, chk_t (inb_nI (show 12 * t + i < 144 by omega) (by decide)), bnd_e, cl_nI (show 12 * t + i < 2 ^ 31 by omega), cl_nI (show 7 * i < 2 ^ 31 by omega), a1.2.2.2.2 22 (y + 40) (7 * i) (by unfold P115; omega), ← g0]
      rw [N0.c1151, N0.n1151, chk_t (inb_nI (show 7 * i + 1 < 91 by omega) (by decide)), N0.c1108, N0.n1108, chk_t (inb_nI (show 12 * t + i < 144 by omega) (by decide)), bnd_e, cl_nI (show 7 * i + 1 < 2 ^ 31 by omega), o0.2.2.2.2 22 (y + 40) (7 * i + 1) (by unfold P115; omega), ← g1]
      rw [N1.c1151, N1.n1151, chk_t (inb_nI (show 7 * i + 2 < 91 by omega) (by decide)), N1.c1109, N1.n1109, chk_t (inb_nI (show 12 * t + i < 144 by omega) (by decide)), bnd_e, cl_nI (show 7 * i + 2 < 2 ^ 31 by omega), o1.2.2.2.2 22 (y + 40) (7 * i + 2) (by unfold P115; omega), ← g2]
      rw [N2.c1151, N2.n1151, chk_t (inb_nI (show 7 * i + 3 < 91 by omega) (by decide)), N2.c1110, N2.n1110, chk_t (inb_nI (show 12 * t + i < 144 by omega) (by decide)), bnd_e, cl_nI (show 7 * i + 3 < 2 ^ 31 by omega), o2.2.2.2.2 22 (y + 40) (7 * i + 3) (by unfold P115; omega), ← g3]
      rw [N3.c1151, N3.n1151, chk_t (inb_nI (show 7 * i + 4 < 91 by omega) (by decide)), N3.c1111, N3.n1111, chk_t (inb_nI (show 12 * t + i < 144 by omega) (by decide)), bnd_e, cl_nI (show 7 * i + 4 < 2 ^ 31 by omega), o3.2.2.2.2 22 (y + 40) (7 * i + 4) (by unfold P115; omega), ← g4]
      rw [N4.c1151, N4.n1151, chk_t (inb_nI (show 7 * i + 5 < 91 by omega) (by decide)), N4.c1112, N4.n1112, chk_t (inb_nI (show 12 * t + i < 144 by omega) (by decide)), bnd_e, cl_nI (show 7 * i + 5 < 2 ^ 31 by omega), o4.2.2.2.2 22 (y + 40) (7 * i + 5) (by unfold P115; omega), ← g5]
      rw [N5.c1151, N5.n1151, chk_t (inb_nI (show 7 * i + 6 < 91 by omega) (by decide)), N5.c1113, N5.n1113, chk_t (inb_nI (show 12 * t + i < 144 by omega) (by decide)), bnd_e, cl_nI (show 7 * i + 6 < 2 ^ 31 by omega), o5.2.2.2.2 22 (y + 40) (7 * i + 6) (by unfold P115; omega), ← g6]
      rw [N6.c1114, N6.n1114, chk_t (inb_nI (show 12 * t + i < 144 by omega) (by decide)), bnd_e, ← g7]
      rw [N7.c1153, N7.n1153, chk_t (inb_nI (show 3 * i < 39 by omega) (by decide)), N7.c1120, N7.n1120, chk_t (inb_nI (show 12 * t + i < 144 by omega) (by decide)), bnd_e, cl_nI (show 3 * i < 2 ^ 31 by omega), o7.2.2.2.2 22 (y + 42) (3 * i) (by unfold P115; omega), ← g8]
      rw [N8.c1153, N8.n1153, chk_t (inb_nI (show 3 * i + 1 < 39 by omega) (by decide)), N8.c1121, N8.n1121, chk_t (inb_nI (show 12 * t + i < 144 by omega) (by decide)), bnd_e, cl_nI (show 3 * i + 1 < 2 ^ 31 by omega), o8.2.2.2.2 22 (y + 42) (3 * i + 1) (by unfold P115; omega), ← g9]
      rw [N9.c1153, N9.n1153, chk_t (inb_nI (show 3 * i + 2 < 39 by omega) (by decide)), N9.c1122, N9.n1122, chk_t (inb_nI (show 12 * t + i < 144 by omega) (by decide)), bnd_e, cl_nI (show 3 * i + 2 < 2 ^ 31 by omega), o9.2.2.2.2 22 (y + 42) (3 * i + 2) (by unfold P115; omega), ← g10]
      rw [N10.c1154, N10.n1154, chk_t (inb_nI (show 3 * i < 39 by omega) (by decide)), N10.c1123, N10.n1123, chk_t (inb_nI (show 12 * t + i < 144 by omega) (by decide)), bnd_e, o10.2.2.2.2 22 (y + 43) (3 * i) (by unfold P115; omega), ← g11]
      rw [N11.c1154, N11.n1154, chk_t (inb_nI (show 3 * i + 1 < 39 by omega) (by decide)), N11.c1124, N11.n1124, chk_t (inb_nI (show 12 * t + i < 144 by omega) (by decide)), bnd_e, o11.2.2.2.2 22 (y + 43) (3 * i + 1) (by unfold P115; omega), ← g12]
      rw [N12.c1154, N12.n1154, chk_t (inb_nI (show 3 * i + 2 < 39 by omega) (by decide)), N12.c1125, N12.n1125, chk_t (inb_nI (show 12 * t + i < 144 by omega) (by decide)), bnd_e, o12.2.2.2.2 22 (y + 43) (3 * i + 2) (by unfold P115; omega), ← g13]
      rw [nI_1]) (fun s hI n => by
    show g_X10_town_115 y p1 (l_X10_town_115 y p1 K n) K (nI t) (nI 12) s = _
    unfold g_X10_town_115
    rw [if_pos (show (12 : Int32) ≤ nI 12 by decide)]) (s0 := m) ⟨Cw.rf _ m, fun k hk => by omega⟩
  exact ⟨u, e FU (by unfold FU; omega), i1, i2⟩
theorem cp_368 (M : Md m y) (p1 : Int32) {t : Nat} (ht : t < 3) : ∃ u, l_X10_town_368 y p1 FU (nI t) 0 m = some (nI t, u) ∧ Cw (P368 y t) m u ∧ ∀ k, k < 14 → u.I 22 (y + 15) (14 * t + k) = m.I 22 (y + 41) (5 * k) ∧ u.I 22 (y + 16) (14 * t + k) = m.I 22 (y + 41) (5 * k + 1) ∧ u.I 22 (y + 17) (14 * t + k) = m.I 22 (y + 41) (5 * k + 2) ∧ u.I 22 (y + 18) (14 * t + k) = m.I 22 (y + 41) (5 * k + 3) ∧ u.I 22 (y + 19) (14 * t + k) = m.I 22 (y + 41) (5 * k + 4) := by
  obtain ⟨u, ⟨i1, i2⟩, e⟩ := lp_inv (fun n i (s : MM) => l_X10_town_368 y p1 n (nI t) i s) (fun i s => Cw (P368 y t) m s ∧ ∀ k, k < i → s.I 22 (y + 15) (14 * t + k) = m.I 22 (y + 41) (5 * k) ∧ s.I 22 (y + 16) (14 * t + k) = m.I 22 (y + 41) (5 * k + 1) ∧ s.I 22 (y + 17) (14 * t + k) = m.I 22 (y + 41) (5 * k + 2) ∧ s.I 22 (y + 18) (14 * t + k) = m.I 22 (y + 41) (5 * k + 3) ∧ s.I 22 (y + 19) (14 * t + k) = m.I 22 (y + 41) (5 * k + 4)) (fun s => some (nI t, s)) 14 (fun i hi s hI => by
    obtain ⟨a1, a2⟩ := hI
    have M0 := a1.md M
    have ea : (14 : Int32) * nI t + nI i = nI (14 * t + i) := by
      show nI 14 * nI t + nI i = _
      rw [pk_mul, nI_add]
    have m5 : (5 : Int32) * nI i = nI (5 * i) := by
      show nI 5 * nI i = _
      rw [pk_mul]
    have m5_1 : nI (5 * i) + 1 = nI (5 * i + 1) := nI_add _ 1
    have m5_2 : nI (5 * i) + 2 = nI (5 * i + 2) := nI_add _ 2
    have m5_3 : nI (5 * i) + 3 = nI (5 * i + 3) := nI_add _ 3
    have m5_4 : nI (5 * i) + 4 = nI (5 * i + 4) := nI_add _ 4
    obtain ⟨w0, g0⟩ : ∃ q, q = s.sI 22 (y + 15) (14 * t + i) (m.I 22 (y + 41) (5 * i)) := ⟨_, rfl⟩
    have o0 : Cw (P368 y t) m w0 := by rw [g0]; exact a1.sI _ _ _ _ ⟨rfl, by omega, by omega, by omega⟩
    have N0 := o0.md M
    obtain ⟨w1, g1⟩ : ∃ q, q = w0.sI 22 (y + 16) (14 * t + i) (m.I 22 (y + 41) (5 * i + 1)) := ⟨_, rfl⟩
    have o1 : Cw (P368 y t) m w1 := by rw [g1]; exact o0.sI _ _ _ _ ⟨rfl, by omega, by omega, by omega⟩
    have N1 := o1.md M
    obtain ⟨w2, g2⟩ : ∃ q, q = w1.sI 22 (y + 17) (14 * t + i) (m.I 22 (y + 41) (5 * i + 2)) := ⟨_, rfl⟩
    have o2 : Cw (P368 y t) m w2 := by rw [g2]; exact o1.sI _ _ _ _ ⟨rfl, by omega, by omega, by omega⟩
    have N2 := o2.md M
    obtain ⟨w3, g3⟩ : ∃ q, q = w2.sI 22 (y + 18) (14 * t + i) (m.I 22 (y + 41) (5 * i + 3)) := ⟨_, rfl⟩
    have o3 : Cw (P368 y t) m w3 := by rw [g3]; exact o2.sI _ _ _ _ ⟨rfl, by omega, by omega, by omega⟩
    have N3 := o3.md M
    obtain ⟨w4, g4⟩ : ∃ q, q = w3.sI 22 (y + 19) (14 * t + i) (m.I 22 (y + 41) (5 * i + 4)) := ⟨_, rfl⟩
    have o4 : Cw (P368 y t) m w4 := by rw [g4]; exact o3.sI _ _ _ _ ⟨rfl, by omega, by omega, by omega⟩
    have N4 := o4.md M
    have vs : w4.I 22 (y + 15) (14 * t + i) = m.I 22 (y + 41) (5 * i) ∧ w4.I 22 (y + 16) (14 * t + i) = m.I 22 (y + 41) (5 * i + 1) ∧ w4.I 22 (y + 17) (14 * t + i) = m.I 22 (y + 41) (5 * i + 2) ∧ w4.I 22 (y + 18) (14 * t + i) = m.I 22 (y + 41) (5 * i + 3) ∧ w4.I 22 (y + 19) (14 * t + i) = m.I 22 (y + 41) (5 * i + 4) := ⟨by rw [g4, I_sI, if_neg (by omega), g3, I_sI, if_neg (by omega), g2, I_sI, if_neg (by omega), g1, I_sI, if_neg (by omega), g0, I_sI, if_pos ⟨rfl, rfl, rfl⟩], by rw [g4, I_sI, if_neg (by omega), g3, I_sI, if_neg (by omega), g2, I_sI, if_neg (by omega), g1, I_sI, if_pos ⟨rfl, rfl, rfl⟩], by rw [g4, I_sI, if_neg (by omega), g3, I_sI, if_neg (by omega), g2, I_sI, if_pos ⟨rfl, rfl, rfl⟩], by rw [g4, I_sI, if_neg (by omega), g3, I_sI, if_pos ⟨rfl, rfl, rfl⟩], by rw [g4, I_sI, if_pos ⟨rfl, rfl, rfl⟩]⟩
    have os : ∀ q a j, ¬ (q = 22 ∧ j = 14 * t + i) → w4.I q a j = s.I q a j := fun q a j hq => by
      rw [g4, I_sI, if_neg (by omega), g3, I_sI, if_neg (by omega), g2, I_sI, if_neg (by omega), g1, I_sI, if_neg (by omega), g0, I_sI, if_neg (by omega)]
    refine ⟨w4, ⟨o4, fun k hk => ?_⟩, fun n => ?_⟩
    · by_cases q : k = i
      · subst q; exact vs
      · have := a2 k (by omega)
        have e : ∀ a, w4.I 22 a (14 * t + k) = s.I 22 a (14 * t + k) := fun a => os _ _ _ (by omega)
        simp only [e]
        exact this
    · show g_X10_town_368 y p1 (l_X10_town_368 y p1 n) (nI t) (nI i) s = _
      unfold g_X10_town_368
      rw [if_neg (show ¬ (14 : Int32) ≤ nI i from nI_ge (b := 14) hi (by decide)), ea, bnd_e, m5, m5_1, m5_2, m5_3, m5_4, chk_t M0.1]
      rw [M0.c1152, M0.n1152, chk_t (inb_nI (show 5 * i < 75 by omega) (by decide)), M0.c1115, M0.n1115, chk_t (inb_nI (show 14 * t + i < 168 by omega) (by decide)), bnd_e, cl_nI (show 14 * t + i < 2 ^ 31 by omega), cl_nI (show 5 * i < 2 ^ 31 by omega), a1.2.2.2.2 22 (y + 41) (5 * i) (by unfold P368; omega), ← g0]
      rw [N0.c1152, N0.n1152, chk_t (inb_nI (show 5 * i + 1 < 75 by omega) (by decide)), N0.c1116, N0.n1116, chk_t (inb_nI (show 14 * t + i < 168 by omega) (by decide)), bnd_e, cl_nI (show 5 * i + 1 < 2 ^ 31 by omega), o0.2.2.2.2 22 (y + 41) (5 * i + 1) (by unfold P368; omega), ← g1]
      rw [N1.c1152, N1.n1152, chk_t (inb_nI (show 5 * i + 2 < 75 by omega) (by decide)), N1.c1117, N1.n1117, chk_t (inb_nI (show 14 * t + i < 168 by omega) (by decide)), bnd_e, cl_nI (show 5 * i + 2 < 2 ^ 31 by omega), o1.2.2.2.2 22 (y + 41) (5 * i + 2) (by unfold P368; omega), ← g2]
      rw [N2.c1152, N2.n1152, chk_t (inb_nI (show 5 * i + 3 < 75 by omega) (by decide)), N2.c1118, N2.n1118, chk_t (inb_nI (show 14 * t + i < 168 by omega) (by decide)), bnd_e, cl_nI (show 5 * i + 3 < 2 ^ 31 by omega), o2.2.2.2.2 22 (y + 41) (5 * i + 3) (by unfold P368; omega), ← g3]
      rw [N3.c1152, N3.n1152, chk_t (inb_nI (show 5 * i + 4 < 75 by omega) (by decide)), N3.c1119, N3.n1119, chk_t (inb_nI (show 14 * t + i < 168 by omega) (by decide)), bnd_e, cl_nI (show 5 * i + 4 < 2 ^ 31 by omega), o3.2.2.2.2 22 (y + 41) (5 * i + 4) (by unfold P368; omega), ← g4]
      rw [nI_1]) (fun s hI n => by
    show g_X10_town_368 y p1 (l_X10_town_368 y p1 n) (nI t) (nI 14) s = _
    unfold g_X10_town_368
    rw [if_pos (show (14 : Int32) ≤ nI 14 by decide)]) (s0 := m) ⟨Cw.rf _ m, fun k hk => by omega⟩
  exact ⟨u, e FU (by unfold FU; omega), i1, i2⟩
theorem ptw_no {y t q a i : Nat} (h : q ≠ 22 ∨ a ≤ y + 5 ∨ y + 26 ≤ a) : ¬ PTw y t q a i := by
  unfold PTw P84 P115 P368
  omega
/-- the whole of a town is copied -/
theorem cp_town {T : TW} (M : Md m y) (p1 : Int32) {t : Nat} (ht : t < 3) (hT : RN m y T) (hN : NT T) (hV : VN T) : ∃ u, l_X10_town_84 y p1 (g_X10_town_113 y p1) FU (nI t) 0 m = some (nI t, u) ∧ Cw (PTw y t) m u ∧ RT u y t T := by
  obtain ⟨u1, e1, o1, v1⟩ := cp_84 M p1 ht (g_X10_town_113 y p1)
  obtain ⟨u2, e2, o2, v2⟩ := cp_115 (o1.md M) p1 ht (g_X10_town_366 y p1)
  obtain ⟨u3, e3, o3, v3⟩ := cp_368 (o2.md (o1.md M)) p1 ht
  have hl := hN.le0
  refine ⟨u3, ?_, ((o1.up (fun _ _ _ h => .inl h)).tr (o2.up (fun _ _ _ h => .inr (.inl h)))).tr (o3.up (fun _ _ _ h => .inr (.inr h))), ?_⟩
  · rw [e1]
    unfold g_X10_town_113
    rw [e2]
    unfold g_X10_town_366
    exact e3
  · have a6 : ∀ k, k < 32 → u3.I 22 (y + 6) (32 * t + k) = m.I 22 (y + 39) k := fun k hk => by
      rw [o3.2.2.2.2 _ _ _ (by unfold P368; omega), o2.2.2.2.2 _ _ _ (by unfold P115; omega)]
      exact v1 k hk
    have s40 : ∀ d i, 38 ≤ d → u1.I 22 (y + d) i = m.I 22 (y + d) i := fun d i hd => o1.2.2.2.2 _ _ _ (by unfold P84; omega)
    have s41 : ∀ d i, 38 ≤ d → u2.I 22 (y + d) i = m.I 22 (y + d) i := fun d i hd => (o2.2.2.2.2 _ _ _ (by unfold P115; omega)).trans (s40 d i hd)
    have b : ∀ d i, (7 ≤ d ∧ d < 15) ∨ (20 ≤ d ∧ d < 26) → u3.I 22 (y + d) i = u2.I 22 (y + d) i := fun d i hd => o3.2.2.2.2 _ _ _ (by unfold P368; omega)
    obtain ⟨⟨h0, h1, h2, h3, h4, h5, h6, h7, h8, h9, h10, h11⟩, g0, g1, g2, g3, g4⟩ := hT
    refine ⟨⟨(a6 0 (by omega)).trans h0, (a6 1 (by omega)).trans h1, (a6 2 (by omega)).trans h2, (a6 3 (by omega)).trans h3, (a6 4 (by omega)).trans h4, (a6 5 (by omega)).trans h5, (a6 6 (by omega)).trans h6, (a6 7 (by omega)).trans h7, (a6 8 (by omega)).trans h8, (a6 9 (by omega)).trans h9, fun h hh => (a6 _ (by omega)).trans (h10 h hh), fun g hg => (a6 _ (by omega)).trans (h11 g hg)⟩, fun r hr c hc => ?_, fun r hr c hc => ?_, fun r hr c hc => ?_, fun r hr c hc => ?_, fun r hr c hc => ?_, fun r hr c hc => ?_⟩
    · obtain ⟨q0, q1, q2, q3, q4, q5, q6, q7, q8, q9, q10, q11, q12, q13⟩ := v2 r (by omega)
      rw [b _ _ (by omega)]
      have : c = 0 ∨ c = 1 ∨ c = 2 ∨ c = 3 ∨ c = 4 ∨ c = 5 ∨ c = 6 ∨ c = 7 := by omega
      rcases this with rfl | rfl | rfl | rfl | rfl | rfl | rfl | rfl
      · exact q0.trans ((s40 40 _ (by omega)).trans (g0 r hr 0 (by omega)))
      · exact q1.trans ((s40 40 _ (by omega)).trans (g0 r hr 1 (by omega)))
      · exact q2.trans ((s40 40 _ (by omega)).trans (g0 r hr 2 (by omega)))
      · exact q3.trans ((s40 40 _ (by omega)).trans (g0 r hr 3 (by omega)))
      · exact q4.trans ((s40 40 _ (by omega)).trans (g0 r hr 4 (by omega)))
      · exact q5.trans ((s40 40 _ (by omega)).trans (g0 r hr 5 (by omega)))
      · exact q6.trans ((s40 40 _ (by omega)).trans (g0 r hr 6 (by omega)))
      · exact q7.trans (hV.2.1 r hr).symm
    · obtain ⟨q0, q1, q2, q3, q4⟩ := v3 r (by omega)
      have : c = 0 ∨ c = 1 ∨ c = 2 ∨ c = 3 ∨ c = 4 := by omega
      rcases this with rfl | rfl | rfl | rfl | rfl
      · exact q0.trans ((s41 41 _ (by omega)).trans (g1 r hr 0 (by omega)))
      · exact q1.trans ((s41 41 _ (by omega)).trans (g1 r hr 1 (by omega)))
      · exact q2.trans ((s41 41 _ (by omega)).trans (g1 r hr 2 (by omega)))
      · exact q3.trans ((s41 41 _ (by omega)).trans (g1 r hr 3 (by omega)))
      · exact q4.trans ((s41 41 _ (by omega)).trans (g1 r hr 4 (by omega)))
    · obtain ⟨q0, q1, q2, q3, q4⟩ := v3 (8 + r) (by omega)
      have : c = 0 ∨ c = 1 ∨ c = 2 ∨ c = 3 := by omega
      rcases this with rfl | rfl | rfl | rfl
      · exact q0.trans ((s41 41 _ (by omega)).trans (g2 r hr 0 (by omega)))
      · exact q1.trans ((s41 41 _ (by omega)).trans (g2 r hr 1 (by omega)))
      · exact q2.trans ((s41 41 _ (by omega)).trans (g2 r hr 2 (by omega)))
      · exact q3.trans ((s41 41 _ (by omega)).trans (g2 r hr 3 (by omega)))
    · obtain ⟨q0, q1, q2, q3, q4, q5, q6, q7, q8, q9, q10, q11, q12, q13⟩ := v2 r (by omega)
      rw [b _ _ (by omega)]
      have : c = 0 ∨ c = 1 ∨ c = 2 := by omega
      rcases this with rfl | rfl | rfl
      · exact q8.trans ((s40 42 _ (by omega)).trans (g3 r hr 0 (by omega)))
      · exact q9.trans ((s40 42 _ (by omega)).trans (g3 r hr 1 (by omega)))
      · exact q10.trans ((s40 42 _ (by omega)).trans (g3 r hr 2 (by omega)))
    · obtain ⟨q0, q1, q2, q3, q4, q5, q6, q7, q8, q9, q10, q11, q12, q13⟩ := v2 r (by omega)
      rw [b _ _ (by omega)]
      have : c = 0 ∨ c = 1 ∨ c = 2 := by omega
      rcases this with rfl | rfl | rfl
      · exact q11.trans ((s40 43 _ (by omega)).trans (g4 r hr 0 (by omega)))
      · exact q12.trans ((s40 43 _ (by omega)).trans (g4 r hr 1 (by omega)))
      · exact q13.trans ((s40 43 _ (by omega)).trans (g4 r hr 2 (by omega)))
    · rw [hV.2.2] at hr; omega
end Cpy
