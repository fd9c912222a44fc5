/-! what was read is sound -/
def VN (T : TW) : Prop := VT T ∧ (∀ r, r < T.2.1 0 → T.2.2 0 r 7 = -1) ∧ T.2.1 5 = 0
section Valid
variable {X : Tx} {p E : Nat} {T : TW}
theorem nm_k {q r : Nat} : ∀ {k : Nat}, nmT X q k = .inr r → ∀ i, i < k → vT X q i < 10000
  | 0, h => fun i hi => by omega
  | k + 1, h => by
    cases hk : nmT X q k with
    | inl a => rw [nmT_l hk 1] at h; cases h
    | inr r2 =>
      intro i hi
      obtain ⟨e, f⟩ := nm_lt hk
      by_cases c : tkK X r2 = 2
      · rcases Nat.lt_succ_iff_lt_or_eq.mp hi with u | u
        · exact nm_k hk i u
        · subst u
          rw [e] at c
          exact tkV_lt c
      · rw [nmT_f hk c] at h; cases h
theorem fm_k {q r k : Nat} (h : fmT X q k = .inr r) : ∀ i, i < k → vT X q i < 10000 := by
  obtain ⟨a, h1, h2⟩ := bdT_r h
  exact nm_k h1
theorem inR_ge {v : Nat} {hi : Int32} (hv : v < 10000) (h : inR (nI v) 1 hi = true) : 1 ≤ v := by
  unfold inR at h
  rw [Bool.and_eq_true] at h
  have h2 := h.1
  rw [Bool.not_eq_true', decide_eq_false_iff_not] at h2
  rcases Nat.lt_or_ge v 1 with q | q
  · exact absurd (nI_lt (b := 1) q (by decide)) h2
  · exact q
theorem nB_lt {v n : Nat} (h : v < n) : nB (nI v) n := ⟨v, h, rfl⟩
theorem VT.sv (V : VT T) {k : Nat} {v : Int32} (c0 : k = 0 ∨ k = 1 → ∃ a, 1 ≤ a ∧ a ≤ 8 ∧ v = nI a) (c2 : k = 2 ∨ k = 3 → -9 ≤ v.toInt ∧ v.toInt ≤ 9) (cw : 10 ≤ k → k < 18 → v = -1 ∨ nB v 8) (cg : 20 ≤ k → k < 26 → v = -1 ∨ ∃ g, 1 ≤ g ∧ g < 100 ∧ v = nI g) : VT (setV T k v) := by
  obtain ⟨v0, v1, v2, v3, v4, v5, v6⟩ := V
  refine ⟨?_, ?_, ?_, ?_, fun h hh => ?_, fun q hq => ?_, v6⟩
  · show ∃ a, 1 ≤ a ∧ a ≤ 8 ∧ (if 0 = k then v else T.1 0) = nI a
    by_cases e : 0 = k
    · rw [if_pos e]; exact c0 (.inl e.symm)
    · rw [if_neg e]; exact v0
  · show ∃ a, 1 ≤ a ∧ a ≤ 8 ∧ (if 1 = k then v else T.1 1) = nI a
    by_cases e : 1 = k
    · rw [if_pos e]; exact c0 (.inr e.symm)
    · rw [if_neg e]; exact v1
  · show -9 ≤ (if 2 = k then v else T.1 2).toInt ∧ (if 2 = k then v else T.1 2).toInt ≤ 9
    by_cases e : 2 = k
    · rw [if_pos e]; exact c2 (.inl e.symm)
    · rw [if_neg e]; exact v2
  · show -9 ≤ (if 3 = k then v else T.1 3).toInt ∧ (if 3 = k then v else T.1 3).toInt ≤ 9
    by_cases e : 3 = k
    · rw [if_pos e]; exact c2 (.inr e.symm)
    · rw [if_neg e]; exact v3
  · show (if 10 + h = k then v else T.1 (10 + h)) = -1 ∨ nB (if 10 + h = k then v else T.1 (10 + h)) 8
    by_cases e : 10 + h = k
    · rw [if_pos e]; exact cw (by omega) (by omega)
    · rw [if_neg e]; exact v4 h hh
  · show (if 20 + q = k then v else T.1 (20 + q)) = -1 ∨ ∃ g, 1 ≤ g ∧ g < 100 ∧ (if 20 + q = k then v else T.1 (20 + q)) = nI g
    by_cases e : 20 + q = k
    · rw [if_pos e]; exact cg (by omega) (by omega)
    · rw [if_neg e]; exact v5 q hq
theorem VT.tab1 (V : VT T) {z : Nat} {C : Nat → Nat → Int32} (hc : ∀ r, r < z → nB (C r 0) 8 ∧ nB (C r 1) 8 ∧ nB (C r 2) 8 ∧ nB (C r 3) 8 ∧ nB (C r 4) 1000) : VT (tabW T 1 z C) := by
  obtain ⟨v0, v1, v2, v3, v4, v5, v6, v7, v8, v9⟩ := V
  exact ⟨v0, v1, v2, v3, v4, v5, v6, hc, v8, v9⟩
theorem VT.tab2 (V : VT T) {z : Nat} {C : Nat → Nat → Int32} (hc : ∀ r, r < z → nB (C r 0) 8 ∧ nB (C r 1) 8 ∧ nB (C r 2) 8 ∧ nB (C r 3) 8) : VT (tabW T 2 z C) := by
  obtain ⟨v0, v1, v2, v3, v4, v5, v6, v7, v8, v9⟩ := V
  exact ⟨v0, v1, v2, v3, v4, v5, v6, v7, hc, v9⟩
theorem VT.tab34 (V : VT T) {j z : Nat} {C : Nat → Nat → Int32} (hj : j = 3 ∨ j = 4) : VT (tabW T j z C) := by
  obtain ⟨v0, v1, v2, v3, v4, v5, v6, v7, v8, v9⟩ := V
  rcases hj with rfl | rfl
  · exact ⟨v0, v1, v2, v3, v4, v5, v6, v7, v8, v9⟩
  · exact ⟨v0, v1, v2, v3, v4, v5, v6, v7, v8, v9⟩
theorem VN.pt (V : VN T) {v w : Nat} (hv : v < 10000) (hw : w < 10000) (h1 : inR (nI v) 0 (T.1 0 - 1) = true) (h2 : inR (nI w) 0 (T.1 1 - 1) = true) : v < 8 ∧ w < 8 := by
  obtain ⟨⟨⟨a, a1, a2, ea⟩, ⟨b, b1, b2, eb⟩, _⟩, _⟩ := V
  rw [ea] at h1
  rw [eb] at h2
  have := inR_ltn hv (by omega) h1
  have := inR_ltn hw (by omega) h2
  omega
theorem VN.thing (V : VN T) {h : Nat} {v s : Nat → Nat} {fc : Bool} {v5 s5 : Nat} (hv : ∀ i, i < 5 → v i < 10000) (hv5 : fc = true → v5 < 10000) (z : eThing T h v s fc v5 s5 0 = 0) : VN (uThing T v fc v5) := by
  obtain ⟨z1, _⟩ := ncT_0 z (by omega)
  obtain ⟨z2, zf⟩ := ncT_0 z1 (by omega)
  obtain ⟨z3, y4⟩ := e2T_0 z2
  obtain ⟨z4, y3⟩ := e2T_0 z3
  obtain ⟨z5, y2⟩ := e2T_0 z4
  obtain ⟨z6, y1⟩ := e2T_0 z5
  obtain ⟨z7, y0⟩ := e2T_0 z6
  obtain ⟨p1, p2⟩ := V.pt (hv 1 (by omega)) (hv 2 (by omega)) y1 y2
  have p0 : v 0 ≤ 5 := inR_lt (n := 5) (hv 0 (by omega)) rfl y0 (by omega)
  have p3 : v 3 ≤ 7 := inR_lt (n := 7) (hv 3 (by omega)) rfl y3 (by omega)
  have p4 : v 4 ≤ 999 := inR_lt (n := 999) (hv 4 (by omega)) rfl y4 (by omega)
  have p5 : cond fc (nI v5) (-1) = -1 ∨ nB (cond fc (nI v5) (-1)) 4 := by
    cases fc with
    | false => exact .inl rfl
    | true =>
      right
      have : inR (nI v5) 0 3 = true := by simpa using zf
      exact nB_lt (show v5 < 4 by have := inR_lt (n := 3) (hv5 rfl) rfl this (by omega); omega)
  refine ⟨V.1.tab0 (fun r hr => ?_), fun r hr => ?_, V.2.2⟩
  · by_cases e : r = T.2.1 0
    · simp only [if_pos e]
      exact ⟨nB_lt (by omega), nB_lt p1, nB_lt p2, nB_lt (by omega), nB_lt (by omega), p5, nB_lt (v := 1) (by omega), .inl rfl⟩
    · simp only [if_neg e]
      exact V.1.2.2.2.2.2.2.1 r (by omega)
  · show (if r = T.2.1 0 then _ else T.2.2 0 r 7) = -1
    have hr' : r < T.2.1 0 + 1 := hr
    by_cases e : r = T.2.1 0
    · rw [if_pos e]; rfl
    · rw [if_neg e]; exact V.2.1 r (by omega)
theorem VN.pts (V : VN T) {v s : Nat → Nat} (hv : ∀ i, i < 4 → v i < 10000) (z : ePts T v s E = 0) : v 0 < 8 ∧ v 1 < 8 ∧ v 2 < 8 ∧ v 3 < 8 := by
  obtain ⟨z1, _⟩ := ncT_0 z (by omega)
  obtain ⟨z2, y3⟩ := e2T_0 z1
  obtain ⟨z3, y2⟩ := e2T_0 z2
  obtain ⟨z4, y1⟩ := e2T_0 z3
  obtain ⟨z5, y0⟩ := e2T_0 z4
  obtain ⟨p0, p1⟩ := V.pt (hv 0 (by omega)) (hv 1 (by omega)) y0 y1
  obtain ⟨p2, p3⟩ := V.pt (hv 2 (by omega)) (hv 3 (by omega)) y2 y3
  exact ⟨p0, p1, p2, p3⟩
theorem VN.wall (V : VN T) {h : Nat} {v s : Nat → Nat} (hv : ∀ i, i < 5 → v i < 10000) (z : eWall T h v s 0 = 0) : VN (addR T 1 (fun c => nI (v c))) := by
  obtain ⟨z1, y4⟩ := e2T_0 z
  obtain ⟨p0, p1, p2, p3⟩ := V.pts (fun i hi => hv i (by omega)) z1
  have p4 : v 4 ≤ 999 := inR_lt (n := 999) (hv 4 (by omega)) rfl y4 (by omega)
  refine ⟨V.1.tab1 (fun r hr => ?_), V.2.1, V.2.2⟩
  by_cases e : r = T.2.1 1
  · simp only [if_pos e]
    exact ⟨nB_lt p0, nB_lt p1, nB_lt p2, nB_lt p3, nB_lt (by omega)⟩
  · simp only [if_neg e]
    exact V.1.2.2.2.2.2.2.2.1 r (by omega)
theorem VN.fence (V : VN T) {h : Nat} {v s : Nat → Nat} (hv : ∀ i, i < 4 → v i < 10000) (z : eFence T h v s 0 = 0) : VN (addR T 2 (fun c => nI (v c))) := by
  obtain ⟨p0, p1, p2, p3⟩ := V.pts hv z
  refine ⟨V.1.tab2 (fun r hr => ?_), V.2.1, V.2.2⟩
  by_cases e : r = T.2.1 2
  · simp only [if_pos e]
    exact ⟨nB_lt p0, nB_lt p1, nB_lt p2, nB_lt p3⟩
  · simp only [if_neg e]
    exact V.1.2.2.2.2.2.2.2.2.1 r (by omega)
theorem VN.wind (V : VN T) {v s : Nat → Nat} (hv : ∀ i, i < 2 → v i < 10000) (z : eWind v s 0 = 0) : VN (uWind T v) := by
  obtain ⟨z1, y1⟩ := e2T_0 z
  obtain ⟨z2, y0⟩ := e2T_0 z1
  have p0 : v 0 ≤ 7 := inR_lt (n := 7) (hv 0 (by omega)) rfl y0 (by omega)
  have p1 : v 1 ≤ 7 := inR_lt (n := 7) (hv 1 (by omega)) rfl y1 (by omega)
  exact ⟨V.1.sv (fun q => by omega) (fun q => by omega) (fun _ _ => .inr (nB_lt (by omega))) (fun q => by omega), V.2.1, V.2.2⟩
theorem VN.grow (V : VN T) {v s : Nat → Nat} (hv : ∀ i, i < 2 → v i < 10000) (z : eGrow v s 0 = 0) : VN (uGrow T v) := by
  obtain ⟨z1, y1⟩ := e2T_0 z
  obtain ⟨z2, y0⟩ := e2T_0 z1
  have p0 : v 0 ≤ 5 := inR_lt (n := 5) (hv 0 (by omega)) rfl y0 (by omega)
  have p1 : v 1 ≤ 99 := inR_lt (n := 99) (hv 1 (by omega)) rfl y1 (by omega)
  have p2 := inR_ge (hv 1 (by omega)) y1
  exact ⟨V.1.sv (fun q => by omega) (fun q => by omega) (fun q _ => by omega) (fun _ _ => .inr ⟨v 1, p2, by omega, rfl⟩), V.2.1, V.2.2⟩
theorem VN.cost (V : VN T) (hN : T.2.1 0 ≤ 12) {v s : Nat → Nat} (hv : ∀ i, i < 2 → v i < 10000) (z : eCost T v s 0 = 0) : VN (uCost T v) := by
  obtain ⟨z1, y1⟩ := e2T_0 z
  obtain ⟨z2, y0⟩ := e2T_0 z1
  have p1 : v 1 ≤ 99 := inR_lt (n := 99) (hv 1 (by omega)) rfl y1 (by omega)
  refine ⟨V.1.tab0 (fun r hr => ?_), fun r hr => ?_, V.2.2⟩
  · obtain ⟨b0, b1, b2, b3, b4, b5, b6, b7⟩ := V.1.2.2.2.2.2.2.1 r hr
    refine ⟨?_, ?_, ?_, ?_, ?_, ?_, ?_, ?_⟩
    · rw [if_neg (by omega)]; exact b0
    · rw [if_neg (by omega)]; exact b1
    · rw [if_neg (by omega)]; exact b2
    · rw [if_neg (by omega)]; exact b3
    · rw [if_neg (by omega)]; exact b4
    · rw [if_neg (by omega)]; exact b5
    · by_cases e : r = v 0 ∧ 6 = 6
      · rw [if_pos e]; exact nB_lt (by omega)
      · rw [if_neg e]; exact b6
    · rw [if_neg (by omega)]; exact b7
  · show (if r = v 0 ∧ 7 = 6 then _ else T.2.2 0 r 7) = -1
    rw [if_neg (by omega)]
    exact V.2.1 r hr
theorem sg_ti (r v : Nat) (hv : v ≤ 9) : -9 ≤ (sgV X r * nI v).toInt ∧ (sgV X r * nI v).toInt ≤ 9 := by
  have h1 : (nI v).toInt = v := ti_nI (by omega)
  unfold sgV
  split
  · rw [Int32.one_mul, h1]; omega
  · rw [Int32.neg_mul, Int32.one_mul, i_neg (by omega), h1]; omega
theorem VN.slope (V : VN T) (h1 : tkV X (tkN X (tkN X p)) < 10000) (h2 : tkV X (slB X p) < 10000) (z : eSlope X p 0 = 0) : VN (uSlope X p T) := by
  obtain ⟨z1, y1⟩ := e2T_0 z
  obtain ⟨z2, y0⟩ := e2T_0 z1
  have p0 := inR_lt (n := 9) h1 rfl y0 (by omega)
  have p1 := inR_lt (n := 9) h2 rfl y1 (by omega)
  refine ⟨VT.sv (VT.sv V.1 (fun q => by omega) (fun _ => sg_ti _ _ p0) (fun q => by omega) (fun q => by omega)) (fun q => by omega) (fun _ => sg_ti _ _ p1) (fun q => by omega) (fun q => by omega), V.2.1, V.2.2⟩
theorem VN.line {r : Nat} (V : VN T) (hN : NT T) (hr : lfT X p = .inr r) (z : leT X p T 0 = 0) : VN (luT X p T) ∧ NT (luT X p T) := by
  have hl := hN.le0
  unfold lfT at hr
  unfold leT at z
  unfold luT
  cases w1 : wdT X p 1 with
  | true =>
    rw [w1] at hr z
    have hr' : fmThing X p = .inr r := hr
    have z' : eThing T (tkS X p) (vT X (tkN X p)) (sT X (tkN X p)) (wdT X (itN X (tkN X p) 5) 2) (vT X (tkN X (itN X (tkN X p) 5)) 0) (sT X (tkN X (itN X (tkN X p) 5)) 0) 0 = 0 := z
    obtain ⟨a, g1, g2⟩ := bdT_r hr'
    obtain ⟨ea, _⟩ := nm_lt g1
    have hne := (eThA_0 (ncT_0 (ncT_0 z' (by omega)).1 (by omega)).1).2
    refine ⟨V.thing (nm_k g1) (fun hw => ?_) z', (show T.2.1 0 + 1 ≤ 12 by omega), hN.2⟩
    rw [← ea] at hw ⊢
    rw [hw] at g2
    have g2' : fmT X (tkN X a) 1 = .inr r := g2
    exact fm_k g2' 0 (by omega)
  | false =>
  rw [w1] at hr z
  cases w3 : wdT X p 3 with
  | true =>
    rw [w3] at hr z
    have z' : eWall T (tkS X p) (vT X (tkN X p)) (sT X (tkN X p)) 0 = 0 := z
    have hne := (ncT_0 (ePts_0 (e2T_0 z').1) (by omega)).2
    have hne' : T.2.1 1 ≠ 8 := by simpa using hne
    exact ⟨V.wall (fm_k hr) z', hN.1, (show T.2.1 1 + 1 ≤ 8 by omega), hN.2.2⟩
  | false =>
  rw [w3] at hr z
  cases w4 : wdT X p 4 with
  | true =>
    rw [w4] at hr z
    have z' : eFence T (tkS X p) (vT X (tkN X p)) (sT X (tkN X p)) 0 = 0 := z
    have hne := (ncT_0 (ePts_0 z') (by omega)).2
    have hne' : T.2.1 2 ≠ 6 := by simpa using hne
    exact ⟨V.fence (fm_k hr) z', hN.1, hN.2.1, (show T.2.1 2 + 1 ≤ 6 by omega), hN.2.2.2⟩
  | false =>
  rw [w4] at hr z
  cases w5 : wdT X p 5 with
  | true =>
    rw [w5] at hr z
    exact ⟨V.wind (fm_k hr) z, hN⟩
  | false =>
  rw [w5] at hr z
  cases w6 : wdT X p 6 with
  | true =>
    rw [w6] at hr z
    have hr' : fmSlope X p = .inr r := hr
    obtain ⟨a, g1, g2⟩ := bdT_r hr'
    obtain ⟨b, g3, g4⟩ := bdT_r g2
    obtain ⟨c, g5, g6⟩ := bdT_r g4
    have sg : ∀ {u v : Nat}, sgT X u = .inr v → v = tkN X u := fun {u v} q => by
      unfold sgT at q
      split at q
      · injection q with q; exact q.symm
      · cases q
    have ea := sg g1
    obtain ⟨eb, _⟩ := nm_lt g3
    have ec := sg g5
    have hc : fmT X c 1 = .inr r := g6
    have i2 := fm_k hc 0 (by omega)
    have i1 := nm_k g3 0 (by omega)
    subst ea
    have eb' : b = tkN X (tkN X (tkN X p)) := eb
    rw [ec, eb'] at i2
    exact ⟨V.slope i1 i2 z, hN⟩
  | false =>
  rw [w6] at hr z
  cases w9 : wdT X p 9 with
  | true =>
    rw [w9] at hr z
    have z' : eLeave T (tkS X p) (vT X (tkN X p)) (sT X (tkN X p)) 0 = 0 := z
    have hne := (ncT_0 (e2T_0 (e2T_0 (e2T_0 z').1).1).1 (by omega)).2
    have hne' : T.2.1 3 ≠ 12 := by simpa using hne
    exact ⟨⟨V.1.tab34 (.inl rfl), V.2.1, V.2.2⟩, hN.1, hN.2.1, hN.2.2.1, (show T.2.1 3 + 1 ≤ 12 by omega), hN.2.2.2.2⟩
  | false =>
  rw [w9] at hr z
  cases w10 : wdT X p 10 with
  | true =>
    rw [w10] at hr z
    have z' : eObj T (tkS X p) (vT X (tkN X p)) (sT X (tkN X p)) 0 = 0 := z
    have hne := (ncT_0 (e2T_0 (e2T_0 (ncT_0 (e2T_0 z').1 (by omega)).1).1).1 (by omega)).2
    have hne' : T.2.1 4 ≠ 12 := by simpa using hne
    exact ⟨⟨V.1.tab34 (.inr rfl), V.2.1, V.2.2⟩, hN.1, hN.2.1, hN.2.2.1, hN.2.2.2.1, (show T.2.1 4 + 1 ≤ 12 by omega), hN.2.2.2.2.2⟩
  | false =>
  rw [w10] at hr z
  cases w11 : wdT X p 11 with
  | true =>
    rw [w11] at hr z
    exact ⟨V.cost hl.1 (fm_k hr) z, hN⟩
  | false =>
  rw [w11] at hr z
  cases w12 : wdT X p 12 with
  | true =>
    rw [w12] at hr z
    exact ⟨V.grow (fm_k hr) z, hN⟩
  | false => rw [w12] at hr; cases hr
theorem rdL_0 : ∀ (k p n E : Nat) (T T' : TW), (E ≠ 0 → E < 8 * p) → (E = 0 → VN T ∧ NT T) → rdL X k p n E T = .inr (0, T') → E = 0 ∧ VN T' ∧ NT T' := by
  intro k
  induction k with
  | zero =>
    intro p n E T T' hb hV h
    injection h with h
    injection h with h1 h2
    subst h2
    exact ⟨h1, hV h1⟩
  | succ k ih =>
    intro p n E T T' hb hV h
    unfold rdL at h
    by_cases e0 : tkK X p = 0
    · rw [if_pos e0] at h
      injection h with h
      injection h with h1 h2
      subst h2
      exact ⟨h1, hV h1⟩
    · rw [if_neg e0] at h
      cases hl : lfT X p with
      | inl pl => rw [hl] at h; cases h
      | inr q =>
        rw [hl] at h
        dsimp only at h
        obtain ⟨E1, hE1⟩ : ∃ q, q = ncT E (decide (40 ≤ n)) (8 * tkS X p + 3) := ⟨_, rfl⟩
        rw [← hE1] at h
        have hge := tkS_ge X p
        have hnx := lfT_nx hl
        have hsn := tkN_ge X p
        have b1 : E1 ≠ 0 → E1 ≤ 8 * tkS X p + 3 := fun z => by
          rw [hE1] at z ⊢
          revert z
          cases decide (40 ≤ n) with
          | false =>
            intro z
            have z' : E ≠ 0 := z
            have b := hb z'
            show E ≤ _
            omega
          | true =>
            intro z
            show ntT E _ ≤ _
            unfold ntT
            split
            · exact Nat.le_refl _
            · omega
        have z1 : E1 = 0 → E = 0 := fun z => by
          by_cases q : E = 0
          · exact q
          · rw [hE1, ncT_keep q (by have := hb q; omega)] at z; exact z
        have zl : leT X p T E1 = 0 → E1 = 0 := fun z => by
          by_cases q : E1 = 0
          · exact q
          · rw [leT_keep q (b1 q)] at z; exact absurd z q
        obtain ⟨r1, r2⟩ := ih q (n + 1) _ _ T' (fun z => leT_lt hl (by
          by_cases w : E1 = 0
          · omega
          · have := b1 w; omega)) (fun z => by
          rw [if_pos z]
          have z0 := zl z
          obtain ⟨v1, v2⟩ := hV (z1 z0)
          rw [z0] at z
          exact v1.line v2 hl z) h
        exact ⟨z1 (zl r1), r2⟩
theorem rdT_0 {T' : TW} (h : rdT X = .inr (0, T')) : VN T' ∧ NT T' := by
  unfold rdT at h
  cases hf : fmSize X 0 with
  | inl pl => rw [hf] at h; cases h
  | inr q =>
    rw [hf] at h
    dsimp only at h
    unfold fmSize at hf
    cases hw : wdT X 0 0 with
    | false => rw [hw] at hf; cases hf
    | true =>
      rw [hw] at hf
      have hf' : fmT X (tkN X 0) 2 = .inr q := hf
      have hv := fm_k hf'
      refine (rdL_0 501 q 0 _ _ T' (fun z => e2_lt (e2_lt (by have := (fmT_gt hf').1; omega) (fmS_lt hf' 0 (by omega))) (fmS_lt hf' 1 (by omega))) (fun z => ?_) h).2
      obtain ⟨z1, y1⟩ := e2T_0 z
      obtain ⟨z2, y0⟩ := e2T_0 z1
      have a0 : vT X (tkN X 0) 0 ≤ 8 := inR_lt (n := 8) (hv 0 (by omega)) rfl y0 (by omega)
      have a1 : vT X (tkN X 0) 1 ≤ 8 := inR_lt (n := 8) (hv 1 (by omega)) rfl y1 (by omega)
      have b0 := inR_ge (hv 0 (by omega)) y0
      have b1 := inR_ge (hv 1 (by omega)) y1
      refine ⟨⟨⟨⟨vT X (tkN X 0) 0, b0, a0, rfl⟩, ⟨vT X (tkN X 0) 1, b1, a1, rfl⟩, ⟨show -9 ≤ (0 : Int32).toInt by decide, show (0 : Int32).toInt ≤ 9 by decide⟩, ⟨show -9 ≤ (0 : Int32).toInt by decide, show (0 : Int32).toInt ≤ 9 by decide⟩, fun h hh => .inl ?_, fun k hk => .inl ?_, fun r hr => absurd hr (Nat.not_lt_zero r), fun r hr => absurd hr (Nat.not_lt_zero r), fun r hr => absurd hr (Nat.not_lt_zero r), fun r hr => absurd hr (Nat.not_lt_zero r)⟩, fun r hr => absurd hr (Nat.not_lt_zero r), rfl⟩, NT_TC⟩
      · show (if 10 + h = 1 then _ else if 10 + h = 0 then _ else if 10 + h < 10 then (0 : Int32) else -1) = -1
        rw [if_neg (by omega), if_neg (by omega), if_neg (by omega)]
      · show (if 20 + k = 1 then _ else if 20 + k = 0 then _ else if 20 + k < 10 then (0 : Int32) else -1) = -1
        rw [if_neg (by omega), if_neg (by omega), if_neg (by omega)]
theorem VL.line {B : LW} {r : Nat} (V : VL B) (hr : lfL X p = .inr r) (z : leL X p B E = 0) (hE : E = 0) : VL (luL X p B (leL X p B E)) := by
  obtain ⟨v0, v1, v2, v3⟩ := V
  rw [z]
  subst hE
  unfold lfL at hr
  unfold leL at z
  unfold luL
  by_cases s0 : soT X p = -1
  · rw [if_pos s0] at hr z ⊢
    have hh : VL (setL B 0 (bI (wdT X p 17))) := ⟨bI_01 _, v1, v2, v3⟩
    cases w16 : wdT X p 16 with
    | true => exact hh
    | false =>
    rw [w16] at hr z
    cases w17 : wdT X p 17 with
    | true => rw [w17] at hh; exact hh
    | false =>
    rw [w17] at hr z
    cases w9 : wdT X p 9 with
    | true => exact ⟨v0, .inr rfl, v2, v3⟩
    | false =>
    rw [w9] at hr z
    cases w18 : wdT X p 18 with
    | true =>
      rw [w18] at hr z
      have hr' : fmT X (tkN X p) 1 = .inr r := hr
      have hv := fm_k hr' 0 (by omega)
      obtain ⟨_, y0⟩ := e2T_0 z
      have a0 : vT X (tkN X p) 0 ≤ 99 := inR_lt (n := 99) hv rfl y0 (by omega)
      show VL (if 0 = 0 then setL B 2 (nI (vT X (tkN X p) 0)) else B)
      rw [if_pos rfl]
      exact ⟨v0, v1, .inr ⟨_, inR_ge hv y0, by omega, rfl⟩, v3⟩
    | false => exact ⟨v0, v1, v2, v3⟩
  · rw [if_neg s0] at hr z ⊢
    rw [if_pos rfl]
    obtain ⟨a, g1, g2⟩ := bdT_r hr
    have hv := nm_k g1
    obtain ⟨z1, y2⟩ := e2T_0 z
    obtain ⟨z2, y1⟩ := e2T_0 z1
    obtain ⟨z3, y0⟩ := e2T_0 z2
    have a0 : vT X (tkN X p) 0 ≤ 5 := inR_lt (n := 5) (hv 0 (by omega)) rfl y0 (by omega)
    have a1 : vT X (tkN X p) 1 ≤ 5 := inR_lt (n := 5) (hv 1 (by omega)) rfl y1 (by omega)
    have a2 : vT X (tkN X p) 2 ≤ 12 := inR_lt (n := 12) (hv 2 (by omega)) rfl y2 (by omega)
    have a3 := inR_ge (hv 2 (by omega)) y2
    have hs : nB (soT X p) 4 := by
      unfold soT at s0 ⊢
      cases w13 : wdT X p 13 with
      | true => exact ⟨0, by omega, rfl⟩
      | false =>
      cases w5 : wdT X p 5 with
      | true => exact ⟨1, by omega, rfl⟩
      | false =>
      cases w14 : wdT X p 14 with
      | true => exact ⟨2, by omega, rfl⟩
      | false =>
      cases w15 : wdT X p 15 with
      | true => exact ⟨3, by omega, rfl⟩
      | false => rw [w13, w5, w14, w15] at s0; exact absurd rfl s0
    refine ⟨v0, v1, v2, fun q hq => ?_⟩
    have hq' : q < B.2.1 + 1 := hq
    show nB (if q = B.2.1 then _ else B.2.2 q 0) 4 ∧ nB (if q = B.2.1 then _ else B.2.2 q 1) 6 ∧ nB (if q = B.2.1 then _ else B.2.2 q 2) 6 ∧ (∃ d, 1 ≤ d ∧ d < 13 ∧ (if q = B.2.1 then _ else B.2.2 q 3) = nI d) ∧ ((if q = B.2.1 then _ else B.2.2 q 4) = 0 ∨ (if q = B.2.1 then _ else B.2.2 q 4) = 1)
    by_cases e : q = B.2.1
    · simp only [if_pos e]
      refine ⟨hs, nB_lt (by omega), nB_lt (by omega), ⟨_, a3, by omega, rfl⟩, ?_⟩
      show cond _ (1 : Int32) 0 = 0 ∨ cond _ (1 : Int32) 0 = 1
      cases wdT X (itN X (tkN X p) 3) 3 with
      | true => exact .inr rfl
      | false => exact .inl rfl
    · simp only [if_neg e]
      exact v3 q (by omega)
theorem rdR_0 : ∀ (k p E : Nat) (B B' : LW), (E ≠ 0 → E < 8 * p) → (E = 0 → VL B) → rdR X k p E B = .inr (0, B') → E = 0 ∧ VL B' := by
  intro k
  induction k with
  | zero =>
    intro p E B B' hb hV h
    injection h with h
    injection h with h1 h2
    subst h2
    exact ⟨h1, hV h1⟩
  | succ k ih =>
    intro p E B B' hb hV h
    unfold rdR at h
    by_cases e0 : tkK X p = 0
    · rw [if_pos e0] at h
      injection h with h
      injection h with h1 h2
      subst h2
      exact ⟨h1, hV h1⟩
    · rw [if_neg e0] at h
      cases hl : lfL X p with
      | inl pl => rw [hl] at h; cases h
      | inr q =>
        rw [hl] at h
        dsimp only at h
        have hge := tkS_ge X p
        have hnx := lfL_nx hl
        have zl : leL X p B E = 0 → E = 0 := fun z => by
          by_cases q : E = 0
          · exact q
          · have := hb q
            rw [leL_keep q (by omega)] at z; exact z
        obtain ⟨r1, r2⟩ := ih q _ _ B' (fun z => leL_lt hl (by
          by_cases w : E = 0
          · omega
          · have := hb w; omega)) (fun z => (hV (zl z)).line hl z (zl z)) h
        exact ⟨zl r1, r2⟩
theorem rdW_0 {B' : LW} (h : rdW X = .inr (0, B')) : VL B' := by
  unfold rdW at h
  exact (rdR_0 501 0 0 BC B' (fun z => absurd rfl z) (fun _ => ⟨.inl rfl, .inl rfl, .inl rfl, fun r hr => absurd hr (Nat.not_lt_zero r)⟩) h).2
end Valid
