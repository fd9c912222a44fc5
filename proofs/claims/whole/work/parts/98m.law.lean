/-! clearing, beginning -/
section CClear
variable {X : Tx} {x : Nat} {m : MM} {p E : Nat}
theorem c_clear {t : Nat} {T : TW} (h : CT m t T) : ∃ n, f_X8_clear t m = some ((), n) ∧ Tq t (t + 15) m n ∧ CT n t TC := by
  obtain ⟨m0, hm0⟩ : ∃ q, q = (((((((((m.sI 900 t 0 0).sI 901 t 0 0).sI 902 t 0 0).sI 903 t 0 0).sI 703 (t + 1) 0 0).sI 703 (t + 3) 0 0).sI 703 (t + 5) 0 0).sI 703 (t + 7) 0 0).sI 703 (t + 9) 0 0).sI 703 (t + 11) 0 0 := ⟨_, rfl⟩
  have o0 : Tq t (t + 13) m m0 := by
    rw [hm0]
    exact ((((((((((Tq.rf _ _ m).sI _ _ _ _ (by omega) (by omega)).sI _ _ _ _ (by omega) (by omega)).sI _ _ _ _ (by omega) (by omega)).sI _ _ _ _ (by omega) (by omega)).sI _ _ _ _ (by omega) (by omega)).sI _ _ _ _ (by omega) (by omega)).sI _ _ _ _ (by omega) (by omega)).sI _ _ _ _ (by omega) (by omega)).sI _ _ _ _ (by omega) (by omega)).sI _ _ _ _ (by omega) (by omega)
  have s0 : ∀ z, z < 4 → m0.I (900 + z) t 0 = 0 := fun z hz => by
    rw [hm0]
    simp only [I_sI]
    rcases (show z = 0 ∨ z = 1 ∨ z = 2 ∨ z = 3 by omega) with rfl | rfl | rfl | rfl <;> simp
  have s7 : ∀ d, d = 1 ∨ d = 3 ∨ d = 5 ∨ d = 7 ∨ d = 9 ∨ d = 11 → m0.I 703 (t + d) 0 = 0 := fun d hd => by
    rw [hm0]
    simp only [I_sI]
    rcases hd with rfl | rfl | rfl | rfl | rfl | rfl <;> simp
  have s1 : ∀ q a i, q = 700 ∨ q = 701 → m0.I q a i = m.I q a i := fun q a i hq => by
    rw [hm0]
    simp only [I_sI]
    rcases hq with rfl | rfl <;> simp
  have H : ∀ n, Tq t (t + 15) m n → (∀ z, z < 4 → n.I (900 + z) t 0 = 0) → (∀ d, d = 1 ∨ d = 3 ∨ d = 5 ∨ d = 7 ∨ d = 9 ∨ d = 11 → n.I 703 (t + d) 0 = 0) → (∀ q a i, a < t + 13 → q = 700 ∨ q = 701 → n.I q a i = m.I q a i) → (∀ z, z < 8 → n.I 22 (t + 13) z = -1) → (∀ z, z < 6 → n.I 22 (t + 14) z = -1) → CT n t TC := fun n o a1 a2 a3 a4 a5 => by
    have hb : ∀ {d k w s : Nat}, (d = 1 ∨ d = 3 ∨ d = 5 ∨ d = 7 ∨ d = 9 ∨ d = 11) → Tb m (t + d) k w s → Tb n (t + d) k w 0 := fun hd b => b.of o.1 o.2.1 (by rw [o.2.2.2.1]) (a3 _ _ _ (by omega) (.inl rfl)) (a3 _ _ _ (by omega) (.inr rfl)) (a2 _ hd) (by omega)
    refine ⟨by rw [o.1]; exact h.K, by rw [o.2.2.2.1]; exact h.R4, by rw [o.2.2.2.1]; exact h.R5, by rw [o.2.2.2.1]; exact h.R6, by rw [o.2.2.2.1]; exact h.R7, by rw [o.2.2.2.1]; exact h.R8, by rw [o.2.2.2.1]; exact h.R9, by rw [o.2.2.2.1]; exact h.Rw, by rw [o.2.2.2.1]; exact h.Rg, by rw [o.1]; exact h.Kw, by rw [o.2.1]; exact h.Nw, by rw [o.1]; exact h.Kg, by rw [o.2.1]; exact h.Ng, hb (by omega) h.T0, hb (by omega) h.T1, hb (by omega) h.T2, hb (by omega) h.T3, hb (by omega) h.T4, hb (by omega) h.T5, a1 0 (by omega), a1 1 (by omega), a1 2 (by omega), a1 3 (by omega), fun z hz => ?_, fun z hz => ?_, fun r hr => absurd hr (Nat.not_lt_zero r), fun r hr => absurd hr (Nat.not_lt_zero r), fun r hr => absurd hr (Nat.not_lt_zero r), fun r hr => absurd hr (Nat.not_lt_zero r), fun r hr => absurd hr (Nat.not_lt_zero r), fun r hr => absurd hr (Nat.not_lt_zero r)⟩
    · rw [a4 z hz]; show _ = if 10 + z < 10 then 0 else -1; rw [if_neg (by omega)]
    · rw [a5 z hz]; show _ = if 20 + z < 10 then 0 else -1; rw [if_neg (by omega)]
  obtain ⟨m1, ⟨o1, w1⟩, e1⟩ := lp_inv (fun n i (s : MM) => fun (K : MM → Option (Unit × MM)) => l_X8_clear_70 t K n i s) (fun i s => Tq (t + 13) (t + 14) m0 s ∧ ∀ z, z < i → s.I 22 (t + 13) z = -1) (fun s => fun K => K s) 8 (fun i hi s hI => by
    obtain ⟨a1, a2⟩ := hI
    have k1 : s.K t = 9 := by rw [a1.1, o0.1]; exact h.K
    have r1 : s.R 910 t 0 = some (t + 13) := by rw [a1.2.2.2.1, o0.2.2.2.1]; exact h.Rw
    have k2 : s.K (t + 13) = 22 := by rw [a1.1, o0.1]; exact h.Kw
    have n2 : s.N (t + 13) = 8 := by rw [a1.2.1, o0.2.1]; exact h.Nw
    refine ⟨s.sI 22 (t + 13) i (-1), ⟨a1.sI _ _ _ _ (by omega) (by omega), fun z hz => ?_⟩, fun n => ?_⟩
    · rw [I_sI]
      by_cases u : z = i
      · rw [if_pos ⟨rfl, rfl, u⟩]
      · rw [if_neg (by omega)]; exact a2 z (by omega)
    · funext K
      show g_X8_clear_70 t (l_X8_clear_70 t K n) K (nI i) s = _
      unfold g_X8_clear_70
      rw [chk_t k1, ck_e r1 k2, n2, ofN, if_neg (nI_ge hi (by decide)), chk_t (inb_nI hi (by decide)), bnd_e, cl_nI (by omega), nI_1]) (fun s hI n => by
    obtain ⟨a1, a2⟩ := hI
    have k1 : s.K t = 9 := by rw [a1.1, o0.1]; exact h.K
    have r1 : s.R 910 t 0 = some (t + 13) := by rw [a1.2.2.2.1, o0.2.2.2.1]; exact h.Rw
    have k2 : s.K (t + 13) = 22 := by rw [a1.1, o0.1]; exact h.Kw
    have n2 : s.N (t + 13) = 8 := by rw [a1.2.1, o0.2.1]; exact h.Nw
    funext K
    show g_X8_clear_70 t (l_X8_clear_70 t K n) K (nI 8) s = _
    unfold g_X8_clear_70
    rw [chk_t k1, ck_e r1 k2, n2, ofN, if_pos (Int32.le_refl _)]) (s0 := m0) ⟨Tq.rf _ _ m0, fun z hz => by omega⟩
  obtain ⟨m2, ⟨o2, w2⟩, e2⟩ := lp_inv (fun n i (s : MM) => l_X8_clear_94 t n i s) (fun i s => Tq (t + 14) (t + 15) m1 s ∧ ∀ z, z < i → s.I 22 (t + 14) z = -1) (fun s => some ((), s)) 6 (fun i hi s hI => by
    obtain ⟨a1, a2⟩ := hI
    have k1 : s.K t = 9 := by rw [a1.1, o1.1, o0.1]; exact h.K
    have r1 : s.R 911 t 0 = some (t + 14) := by rw [a1.2.2.2.1, o1.2.2.2.1, o0.2.2.2.1]; exact h.Rg
    have k2 : s.K (t + 14) = 22 := by rw [a1.1, o1.1, o0.1]; exact h.Kg
    have n2 : s.N (t + 14) = 6 := by rw [a1.2.1, o1.2.1, o0.2.1]; exact h.Ng
    refine ⟨s.sI 22 (t + 14) i (-1), ⟨a1.sI _ _ _ _ (by omega) (by omega), fun z hz => ?_⟩, fun n => ?_⟩
    · rw [I_sI]
      by_cases u : z = i
      · rw [if_pos ⟨rfl, rfl, u⟩]
      · rw [if_neg (by omega)]; exact a2 z (by omega)
    · show g_X8_clear_94 t (l_X8_clear_94 t n) (nI i) s = _
      unfold g_X8_clear_94
      rw [chk_t k1, ck_e r1 k2, n2, ofN, if_neg (nI_ge hi (by decide)), chk_t (inb_nI hi (by decide)), bnd_e, cl_nI (by omega), nI_1]) (fun s hI n => by
    obtain ⟨a1, a2⟩ := hI
    have k1 : s.K t = 9 := by rw [a1.1, o1.1, o0.1]; exact h.K
    have r1 : s.R 911 t 0 = some (t + 14) := by rw [a1.2.2.2.1, o1.2.2.2.1, o0.2.2.2.1]; exact h.Rg
    have k2 : s.K (t + 14) = 22 := by rw [a1.1, o1.1, o0.1]; exact h.Kg
    have n2 : s.N (t + 14) = 6 := by rw [a1.2.1, o1.2.1, o0.2.1]; exact h.Ng
    show g_X8_clear_94 t (l_X8_clear_94 t n) (nI 6) s = _
    unfold g_X8_clear_94
    rw [chk_t k1, ck_e r1 k2, n2, ofN, if_pos (Int32.le_refl _)]) (s0 := m1) ⟨Tq.rf _ _ m1, fun z hz => by omega⟩
  have O : Tq t (t + 15) m m2 := ((o0.up (by omega) (by omega)).tr (o1.up (by omega) (by omega))).tr (o2.up (by omega) (by omega))
  have ef : ∀ q a i, a < t + 13 → m2.I q a i = m0.I q a i := fun q a i ha => (o2.2.2.2.2 q a i (by omega)).trans (o1.2.2.2.2 q a i (by omega))
  refine ⟨m2, ?_, O, H m2 O (fun z hz => by rw [ef _ _ _ (by omega)]; exact s0 z hz) (fun d hd => by rw [ef _ _ _ (by omega)]; exact s7 d hd) (fun q a i ha hq => by rw [ef _ _ _ ha]; exact s1 q a i hq) (fun z hz => ?_) w2⟩
  · have ex := e1 FU (by unfold FU; omega)
    have ey := e2 FU (by unfold FU; omega)
    unfold f_X8_clear g_X8_clear_0
    simp only [chk_t h.K, bnd_e, ck_sI, R_sI, h.k0, h.k1, h.k2, h.k3, h.k4, h.k5]
    rw [← hm0]
    have ex' := congrFun ex (g_X8_clear_92 t)
    rw [show (nI 0 : Int32) = 0 from rfl] at ex'
    rw [ex']
    exact ey
  · rw [o2.2.2.2.2 _ _ _ (by omega)]; exact w1 z hz
end CClear
