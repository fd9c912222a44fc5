/-! steps that change the world -/
def zsz (d : Nat) : Nat := if d < 2 then 500 else if d < 6 then 1 else if d < 7 then 96 else if d < 15 then 36 else if d < 20 then 42 else if d < 26 then 36 else if d < 28 then 9 else if d < 29 then 1 else if d < 33 then 3 else 30
/-- only told, slot 0 of the reference, the reader and the workshop have changed -/
def Gq (x : Nat) (m n : MM) : Prop := n.K = m.K ∧ n.N = m.N ∧ n.S = m.S ∧ (∀ a, (a < x + 1 ∨ a = x + 59 ∨ x + 162 ≤ a) → ∀ s i, n.I s a i = m.I s a i) ∧ (∀ s a i, s ≠ 602 → s ≠ 603 → s ≠ 504 → n.R s a i = m.R s a i) ∧ (∀ s a i, (a < x + 60 ∨ (x + 60 < a ∧ a < x + 81) ∨ x + 162 ≤ a) → n.R s a i = m.R s a i) ∧ (∀ d, 1 ≤ d → d < 38 → ∀ s i, zsz d ≤ i → n.I s (x + 106 + d) i = m.I s (x + 106 + d) i)
theorem Gq.rf (x : Nat) (m : MM) : Gq x m m := ⟨rfl, rfl, rfl, fun _ _ _ _ => rfl, fun _ _ _ _ _ _ => rfl, fun _ _ _ _ => rfl, fun _ _ _ _ _ _ => rfl⟩
theorem Gq.tr {x : Nat} {m n q : MM} (h1 : Gq x m n) (h2 : Gq x n q) : Gq x m q := ⟨h2.1.trans h1.1, h2.2.1.trans h1.2.1, h2.2.2.1.trans h1.2.2.1, fun a ha s i => (h2.2.2.2.1 a ha s i).trans (h1.2.2.2.1 a ha s i), fun s a i g1 g2 g3 => (h2.2.2.2.2.1 s a i g1 g2 g3).trans (h1.2.2.2.2.1 s a i g1 g2 g3), fun s a i ha => (h2.2.2.2.2.2.1 s a i ha).trans (h1.2.2.2.2.2.1 s a i ha), fun d d1 d2 s i hi => (h2.2.2.2.2.2.2 d d1 d2 s i hi).trans (h1.2.2.2.2.2.2 d d1 d2 s i hi)⟩
theorem Fq.g {x : Nat} {m n : MM} (h : Fq x m n) : Gq x m n := ⟨h.1, h.2.1, h.2.2.1, fun a ha s i => (h.2.2.2.1 a (by omega) s i).1, fun s a i g1 g2 _ => h.2.2.2.2 s a i g1 g2, fun s a i ha => (h.2.2.2.1 a (by omega) s i).2, fun d d1 d2 s i _ => (h.2.2.2.1 (x + 106 + d) (by omega) s i).1⟩
theorem Gq.sI {x : Nat} {m n : MM} (h : Gq x m n) (s a i : Nat) (v : Int32) (ha : (x + 1 ≤ a ∧ a < x + 59) ∨ (x + 60 ≤ a ∧ a ≤ x + 106) ∨ (x + 144 ≤ a ∧ a < x + 162) ∨ ∃ d, 1 ≤ d ∧ d < 38 ∧ a = x + 106 + d ∧ i < zsz d) : Gq x m (n.sI s a i v) := by
  refine ⟨h.1, h.2.1, h.2.2.1, fun b hb s2 i2 => ?_, h.2.2.2.2.1, h.2.2.2.2.2.1, fun d d1 d2 s2 i2 hi => ?_⟩
  · rw [I_sI, if_neg (fun q => ?_)]
    · exact h.2.2.2.1 b hb s2 i2
    · rcases ha with r | r | r | ⟨d, d1, d2, e, _⟩ <;> omega
  · rw [I_sI, if_neg (fun q => ?_)]
    · exact h.2.2.2.2.2.2 d d1 d2 s2 i2 hi
    · rcases ha with r | r | r | ⟨d', d1', d2', e, hi'⟩
      · omega
      · omega
      · omega
      · have : d' = d := by omega
        subst this
        omega
theorem Gq.sJ {x : Nat} {m n : MM} (h : Gq x m n) (s a i : Nat) (v : Int64) : Gq x m (n.sJ s a i v) := h
theorem RW.slot {x k : Nat} {m n : MM} {W : WD} (h : Gq x m n) (hk : 1 ≤ k) (hn : W.nt ≤ 3) (hl : W.nl ≤ 3) (hN : ∀ i, i < W.nt → NT (W.tn i)) (r : RW m (x + 106) k W) : RW n (x + 106) k W := by
  have z := h.2.2.2.2.2.2
  obtain ⟨h0, h1, h2, h3, h4, h5, h6, h7⟩ := r
  refine ⟨fun j hj => ?_, ?_, ?_, ?_, ?_, ?_, fun i hi => ?_, fun i hi => ?_⟩
  · rw [z 1 (by omega) (by omega) 21 _ (by show 500 ≤ _; omega)]; exact h0 j hj
  · rw [z 2 (by omega) (by omega) 22 _ (by show 1 ≤ _; omega)]; exact h1
  · rw [z 3 (by omega) (by omega) 22 _ (by show 1 ≤ _; omega)]; exact h2
  · rw [z 4 (by omega) (by omega) 22 _ (by show 1 ≤ _; omega)]; exact h3
  · rw [z 5 (by omega) (by omega) 22 _ (by show 1 ≤ _; omega)]; exact h4
  · rw [z 28 (by omega) (by omega) 22 _ (by show 1 ≤ _; omega)]; exact h5
  · have e6 : ∀ j, 96 ≤ j → n.I 22 (x + 106 + 6) j = m.I 22 (x + 106 + 6) j := fun j hj => z 6 (by omega) (by omega) 22 j hj
    obtain ⟨⟨a0, a1, a2, a3, a4, a5, a6, a7, a8, a9, a10, a11⟩, g0, g1, g2, g3, g4, g5⟩ := h6 i hi
    refine ⟨⟨by rw [e6 _ (by omega)]; exact a0, by rw [e6 _ (by omega)]; exact a1, by rw [e6 _ (by omega)]; exact a2, by rw [e6 _ (by omega)]; exact a3, by rw [e6 _ (by omega)]; exact a4, by rw [e6 _ (by omega)]; exact a5, by rw [e6 _ (by omega)]; exact a6, by rw [e6 _ (by omega)]; exact a7, by rw [e6 _ (by omega)]; exact a8, by rw [e6 _ (by omega)]; exact a9, fun h hh => by rw [e6 _ (by omega)]; exact a10 h hh, fun g hg => by rw [e6 _ (by omega)]; exact a11 g hg⟩, fun r hr c hc => ?_, fun r hr c hc => ?_, fun r hr c hc => ?_, fun r hr c hc => ?_, fun r hr c hc => ?_, fun r hr c hc => ?_⟩
    · rw [z (7 + c) (by omega) (by omega) 22 _ (by have : zsz (7 + c) = 36 := by unfold zsz; split <;> (try split) <;> (try split) <;> (try split) <;> omega
                                                   omega)]; exact g0 r hr c hc
    · rw [z (15 + c) (by omega) (by omega) 22 _ (by have : zsz (15 + c) = 42 := by unfold zsz; repeat' (split <;> try omega)
                                                    omega)]; exact g1 r hr c hc
    · rw [z (15 + c) (by omega) (by omega) 22 _ (by have : zsz (15 + c) = 42 := by unfold zsz; repeat' (split <;> try omega)
                                                    omega)]; exact g2 r hr c hc
    · rw [z (20 + c) (by omega) (by omega) 22 _ (by have : zsz (20 + c) = 36 := by unfold zsz; repeat' (split <;> try omega)
                                                    omega)]; exact g3 r hr c hc
    · rw [z (23 + c) (by omega) (by omega) 22 _ (by have : zsz (23 + c) = 36 := by unfold zsz; repeat' (split <;> try omega)
                                                    omega)]; exact g4 r hr c hc
    · rw [z (26 + c) (by omega) (by omega) 22 _ (by have : zsz (26 + c) = 9 := by unfold zsz; repeat' (split <;> try omega)
                                                    omega)]; exact g5 r hr c hc
  · obtain ⟨a0, a1, a2, a3, a4⟩ := h7 i hi
    refine ⟨by rw [z 29 (by omega) (by omega) 22 _ (by show 3 ≤ _; omega)]; exact a0, by rw [z 30 (by omega) (by omega) 22 _ (by show 3 ≤ _; omega)]; exact a1, by rw [z 31 (by omega) (by omega) 22 _ (by show 3 ≤ _; omega)]; exact a2, by rw [z 32 (by omega) (by omega) 22 _ (by show 3 ≤ _; omega)]; exact a3, fun r hr c hc => ?_⟩
    rw [z (33 + c) (by omega) (by omega) 22 _ (by have : zsz (33 + c) = 30 := by unfold zsz; repeat' (split <;> try omega)
                                                  omega)]; exact a4 r hr c hc
theorem Gq.md {x : Nat} {m n : MM} (h : Gq x m n) (hs : Md m (x + 106)) : Md n (x + 106) := by
  refine ⟨by rw [h.1]; exact hs.1, fun q hq => ⟨?_, by rw [h.1]; exact (hs.2 q hq).2.1, by rw [h.2.1]; exact (hs.2 q hq).2.2⟩⟩
  have hn : ∀ q ∈ mdL, q.1 ≠ 602 ∧ q.1 ≠ 603 ∧ q.1 ≠ 504 := by decide
  rw [h.2.2.2.2.1 q.1 (x + 106) 0 (hn q hq).1 (hn q hq).2.1 (hn q hq).2.2]
  exact (hs.2 q hq).1
theorem Inv.step {m n : MM} {x : Nat} {W V : WD} {D : Nat → Option (Nat × WD)} (h : Inv m x W D) (g : Gq x m n) (ht : ∃ T, CT n (x + 61) T) (hl : ∃ B, CL n (x + 76) B) (hT : TD n (x + 1) V) (hR : RW n (x + 106) 0 V) (hV : VW V) : Inv n x V D := by
  obtain ⟨h1, h2, _, _, h5, h6, h7, h8, i1, i2, i3⟩ := h
  refine ⟨h1.kept g.1 g.2.1 g.2.2.2.2.1, g.md h2, ht, hl, hT, hR, hV, by rw [g.2.2.1]; exact h8, fun k hk hD => ?_, fun k hk d U hD => ?_, i3⟩
  · obtain ⟨g1, g2⟩ := i1 k hk hD
    exact ⟨by rw [g.2.2.2.2.2.1 27 (x + 59) k (by omega)]; exact g1, by rw [g.2.2.2.1 (x + 162) (by omega) 24 k]; exact g2⟩
  · obtain ⟨g1, g2, g3, g4, g5, g6, g7⟩ := i2 k hk d U hD
    refine ⟨by rw [g.2.2.2.2.2.1 27 (x + 59) k (by omega)]; exact g1, by rw [g.2.2.2.1 (x + 162) (by omega) 24 k]; exact g2, g3, by rw [g.2.2.1]; exact g4, ?_, ?_, g7⟩
    · exact g5.kept (fun a a1 a2 => ⟨by rw [g.1], by rw [g.2.1], fun s i => g.2.2.2.1 a (by omega) s i, fun s i => g.2.2.2.2.2.1 s a i (by omega)⟩)
    · exact g6.slot g (by omega) g5.ntle g5.nlle (fun i hi => (g5.T i (by have := g5.ntle; omega)).nn)
