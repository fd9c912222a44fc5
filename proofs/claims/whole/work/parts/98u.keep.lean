/-! a fault that was found stays; where faults lie -/
section Keep
variable {X : Tx} {p E : Nat} {T : TW}
theorem e2_keep {E v s : Nat} {lo hi : Int32} (h0 : E ≠ 0) (h : E ≤ 8 * s + 2) : e2T E v lo hi s = E := ncT_keep h0 h
theorem hd_lt (hk : tkK X p = 1) (i : Nat) : tkS X p < sT X (tkN X p) i := by
  have h1 := tkN_gt (X := X) (p := p) (by omega) (by omega)
  have h2 : sT X (tkN X p) 0 ≤ sT X (tkN X p) (0 + i) := sT_mono _ i 0
  rw [Nat.zero_add] at h2
  have h3 : tkN X p ≤ sT X (tkN X p) 0 := tkS_ge X _
  omega
theorem hd_lt2 (hk : tkK X p = 1) (i j : Nat) : tkS X p < sT X (tkN X (itN X (tkN X p) i)) j := by
  have h1 := hd_lt hk i
  have h2 : sT X (tkN X (itN X (tkN X p) i)) 0 ≤ sT X (tkN X (itN X (tkN X p) i)) (0 + j) := sT_mono _ j 0
  rw [Nat.zero_add] at h2
  have h3 := tkN_ge X (itN X (tkN X p) i)
  have h4 : tkN X (itN X (tkN X p) i) ≤ sT X (tkN X (itN X (tkN X p) i)) 0 := tkS_ge X _
  have h5 : sT X (tkN X p) i = tkS X (itN X (tkN X p) i) := rfl
  omega
theorem leT_keep (h0 : E ≠ 0) (h : E ≤ 8 * tkS X p + 3) : leT X p T E = E := by
  unfold leT
  cases w1 : wdT X p 1 with
  | true =>
    have hl := hd_lt (wdk1 w1)
    have hl2 := hd_lt2 (wdk1 w1) 5 0
    have a0 := hl 0
    have a1 := hl 1
    have a2 := hl 2
    have a3 := hl 3
    have a4 := hl 4
    show eThing T _ _ _ _ _ _ E = E
    unfold eThing eThA
    rw [ncT_keep h0 h, e2_keep h0 (by omega), e2_keep h0 (by omega), e2_keep h0 (by omega), e2_keep h0 (by omega), e2_keep h0 (by omega), ncT_keep h0 (by omega), ncT_keep h0 (by omega)]
  | false =>
  cases w3 : wdT X p 3 with
  | true =>
    have hl := hd_lt (wdk1 w3)
    have a0 := hl 0
    have a1 := hl 1
    have a2 := hl 2
    have a3 := hl 3
    have a4 := hl 4
    show eWall T _ _ _ E = E
    unfold eWall ePts
    rw [ncT_keep h0 h, e2_keep h0 (by omega), e2_keep h0 (by omega), e2_keep h0 (by omega), e2_keep h0 (by omega), ncT_keep h0 (by omega), e2_keep h0 (by omega)]
  | false =>
  cases w4 : wdT X p 4 with
  | true =>
    have hl := hd_lt (wdk1 w4)
    have a0 := hl 0
    have a1 := hl 1
    have a2 := hl 2
    have a3 := hl 3
    show eFence T _ _ _ E = E
    unfold eFence ePts
    rw [ncT_keep h0 h, e2_keep h0 (by omega), e2_keep h0 (by omega), e2_keep h0 (by omega), e2_keep h0 (by omega), ncT_keep h0 (by omega)]
  | false =>
  cases w5 : wdT X p 5 with
  | true =>
    have hl := hd_lt (wdk1 w5)
    have a0 := hl 0
    have a1 := hl 1
    show eWind _ _ E = E
    unfold eWind
    rw [e2_keep h0 (by omega), e2_keep h0 (by omega)]
  | false =>
  cases w6 : wdT X p 6 with
  | true =>
    have h1 := tkN_gt (X := X) (p := p) (by have := wdk1 w6; omega) (by have := wdk1 w6; omega)
    have h2 := tkS_ge X (tkN X p)
    have h3 := tkN_ge X (tkN X p)
    have h4 := tkS_ge X (tkN X (tkN X p))
    have h5 := tkN_ge X (tkN X (tkN X p))
    have h6 := tkS_ge X (tkN X (tkN X (tkN X p)))
    have h7 := tkN_ge X (tkN X (tkN X (tkN X p)))
    have h8 := tkS_ge X (tkN X (tkN X (tkN X (tkN X p))))
    show eSlope X p E = E
    unfold eSlope slB
    rw [e2_keep h0 (by omega), e2_keep h0 (by omega)]
  | false =>
  cases w9 : wdT X p 9 with
  | true =>
    have hl := hd_lt (wdk1 w9)
    have a0 := hl 0
    have a1 := hl 1
    have a2 := hl 2
    show eLeave T _ _ _ E = E
    unfold eLeave
    rw [ncT_keep h0 h, e2_keep h0 (by omega), e2_keep h0 (by omega), e2_keep h0 (by omega)]
  | false =>
  cases w10 : wdT X p 10 with
  | true =>
    have hl := hd_lt (wdk1 w10)
    have a0 := hl 0
    have a1 := hl 1
    have a2 := hl 2
    show eObj T _ _ _ E = E
    unfold eObj
    rw [ncT_keep h0 h, e2_keep h0 (by omega), e2_keep h0 (by omega), ncT_keep h0 (by omega), e2_keep h0 (by omega)]
  | false =>
  cases w11 : wdT X p 11 with
  | true =>
    have hl := hd_lt (wdk1 w11)
    have a0 := hl 0
    have a1 := hl 1
    show eCost T _ _ E = E
    unfold eCost
    rw [e2_keep h0 (by omega), e2_keep h0 (by omega)]
  | false =>
  cases w12 : wdT X p 12 with
  | true =>
    have hl := hd_lt (wdk1 w12)
    have a0 := hl 0
    have a1 := hl 1
    show eGrow _ _ E = E
    unfold eGrow
    rw [e2_keep h0 (by omega), e2_keep h0 (by omega)]
  | false => rfl
theorem e2_lt {E v s B : Nat} {lo hi : Int32} (h : E < 8 * B) (hs : s < B) : e2T E v lo hi s < 8 * B := ncT_lt h (by omega)
theorem nm_lt {q r : Nat} : ∀ {k : Nat}, nmT X q k = .inr r → r = itN X q k ∧ ∀ i, i < k → sT X q i < r
  | 0, h => by injection h with h; exact ⟨h.symm, fun i hi => by omega⟩
  | k + 1, h => by
    cases hk : nmT X q k with
    | inl a => rw [nmT_l hk 1] at h; cases h
    | inr r2 =>
      obtain ⟨e, f⟩ := nm_lt hk
      by_cases c : tkK X r2 = 2
      · rw [nmT_s hk c] at h
        injection h with h
        have g1 := tkN_gt (X := X) (p := r2) (by omega) (by omega)
        have g2 := tkS_ge X r2
        refine ⟨by rw [← h, e]; rfl, fun i hi => ?_⟩
        rcases Nat.lt_succ_iff_lt_or_eq.mp hi with u | u
        · have := f i u; omega
        · subst u
          have : sT X q i = tkS X r2 := by rw [e]; rfl
          omega
      · rw [nmT_f hk c] at h; cases h
theorem fmS_lt {q r k : Nat} (h : fmT X q k = .inr r) : ∀ i, i < k → sT X q i < r := by
  intro i hi
  obtain ⟨a, h1, h2⟩ := bdT_r h
  have := (nm_lt h1).2 i hi
  have := (stT_gt h2).1
  omega
theorem hd_p {r : Nat} (hk : tkK X p = 1) (h : tkN X p < r) : tkS X p < r := by
  have := tkN_gt (X := X) (p := p) (by omega) (by omega)
  omega
theorem leT_lt {r : Nat} (hr : lfT X p = .inr r) (hE : E < 8 * r) : leT X p T E < 8 * r := by
  unfold lfT at hr
  unfold leT
  cases w1 : wdT X p 1 with
  | true =>
    rw [w1] at hr
    have hr' : fmThing X p = .inr r := hr
    obtain ⟨a, g1, g2⟩ := bdT_r hr'
    obtain ⟨ea, hs⟩ := nm_lt g1
    have hg := nmT_ge g1
    have har : a < r ∧ (wdT X (itN X (tkN X p) 5) 2 = true → sT X (tkN X (itN X (tkN X p) 5)) 0 < r) := by
      cases hw : wdT X a 2 with
      | true =>
        rw [hw] at g2
        have g2' : fmT X (tkN X a) 1 = .inr r := g2
        have := (fmT_gt g2').1
        have := tkN_ge' X a
        refine ⟨by omega, fun _ => ?_⟩
        rw [← ea]
        exact fmS_lt g2' 0 (by omega)
      | false =>
        rw [hw] at g2
        refine ⟨(stT_gt g2).1, fun u => ?_⟩
        rw [← ea, hw] at u
        cases u
    have hh := hd_p (r := r) (wdk1 w1) (by omega)
    have s0 := hs 0 (by omega)
    have s1 := hs 1 (by omega)
    have s2 := hs 2 (by omega)
    have s3 := hs 3 (by omega)
    have s4 := hs 4 (by omega)
    have hA : eThA T (tkS X p) (vT X (tkN X p)) (sT X (tkN X p)) E < 8 * r := e2_lt (e2_lt (e2_lt (e2_lt (e2_lt (ncT_lt hE (by omega)) (by omega)) (by omega)) (by omega)) (by omega)) (by omega)
    show eThing T _ _ _ _ _ _ E < 8 * r
    unfold eThing
    refine ncT_lt ?_ (by omega)
    cases hw : wdT X (itN X (tkN X p) 5) 2 with
    | true => exact ncT_lt hA (by have := har.2 hw; omega)
    | false => exact hA
  | false =>
  rw [w1] at hr
  have key : ∀ k, fmT X (tkN X p) k = .inr r → tkN X p < r ∧ ∀ i, i < k → sT X (tkN X p) i < r := fun k g => ⟨(fmT_gt g).1, fmS_lt g⟩
  cases w3 : wdT X p 3 with
  | true =>
    rw [w3] at hr
    obtain ⟨h1, hs⟩ := key 5 hr
    have hh := hd_p (r := r) (wdk1 w3) h1
    have s3 := hs 3 (by omega)
    exact e2_lt (ncT_lt (e2_lt (e2_lt (e2_lt (e2_lt (ncT_lt hE (by omega)) (hs 0 (by omega))) (hs 1 (by omega))) (hs 2 (by omega))) (hs 3 (by omega))) (by omega)) (hs 4 (by omega))
  | false =>
  rw [w3] at hr
  cases w4 : wdT X p 4 with
  | true =>
    rw [w4] at hr
    obtain ⟨h1, hs⟩ := key 4 hr
    have hh := hd_p (r := r) (wdk1 w4) h1
    have s3 := hs 3 (by omega)
    exact ncT_lt (e2_lt (e2_lt (e2_lt (e2_lt (ncT_lt hE (by omega)) (hs 0 (by omega))) (hs 1 (by omega))) (hs 2 (by omega))) (hs 3 (by omega))) (by omega)
  | false =>
  rw [w4] at hr
  cases w5 : wdT X p 5 with
  | true =>
    rw [w5] at hr
    obtain ⟨h1, hs⟩ := key 2 hr
    exact e2_lt (e2_lt hE (hs 0 (by omega))) (hs 1 (by omega))
  | false =>
  rw [w5] at hr
  cases w6 : wdT X p 6 with
  | true =>
    rw [w6] at hr
    have hr' : fmSlope X p = .inr r := hr
    obtain ⟨a, g1, g2⟩ := bdT_r hr'
    obtain ⟨b, g3, g4⟩ := bdT_r g2
    obtain ⟨c, g5, g6⟩ := bdT_r g4
    have sg : ∀ {u v : Nat}, sgT X u = .inr v → v = tkN X u := fun {u v} q => by
      unfold sgT at q
      split at q
      · injection q with q; exact q.symm
      · cases q
    have ea := sg g1
    obtain ⟨eb, hb⟩ := nm_lt g3
    have ec := sg g5
    have hc : fmT X c 1 = .inr r := g6
    have i2 := fmS_lt hc 0 (by omega)
    have i1 := hb 0 (by omega)
    have f1 := (fmT_gt hc).1
    have f2 := tkN_ge' X b
    subst ea
    have eb' : b = tkN X (tkN X (tkN X p)) := eb
    rw [ec, eb'] at i2
    exact e2_lt (e2_lt hE (show tkS X (tkN X (tkN X p)) < r by have : sT X (tkN X (tkN X p)) 0 = tkS X (tkN X (tkN X p)) := rfl; omega)) i2
  | false =>
  rw [w6] at hr
  cases w9 : wdT X p 9 with
  | true =>
    rw [w9] at hr
    obtain ⟨h1, hs⟩ := key 3 hr
    have hh := hd_p (r := r) (wdk1 w9) h1
    exact e2_lt (e2_lt (e2_lt (ncT_lt hE (by omega)) (hs 0 (by omega))) (hs 1 (by omega))) (hs 2 (by omega))
  | false =>
  rw [w9] at hr
  cases w10 : wdT X p 10 with
  | true =>
    rw [w10] at hr
    obtain ⟨h1, hs⟩ := key 3 hr
    have hh := hd_p (r := r) (wdk1 w10) h1
    have s1 := hs 1 (by omega)
    exact e2_lt (ncT_lt (e2_lt (e2_lt (ncT_lt hE (by omega)) (hs 0 (by omega))) (hs 1 (by omega))) (by omega)) (hs 2 (by omega))
  | false =>
  rw [w10] at hr
  cases w11 : wdT X p 11 with
  | true =>
    rw [w11] at hr
    obtain ⟨h1, hs⟩ := key 2 hr
    exact e2_lt (e2_lt hE (hs 0 (by omega))) (hs 1 (by omega))
  | false =>
  rw [w11] at hr
  cases w12 : wdT X p 12 with
  | true =>
    rw [w12] at hr
    obtain ⟨h1, hs⟩ := key 2 hr
    exact e2_lt (e2_lt hE (hs 0 (by omega))) (hs 1 (by omega))
  | false => exact hE
end Keep
theorem lfT_nx {X : Tx} {p q : Nat} (h : lfT X p = .inr q) : tkN X p < q := by
  have key : ∀ k, fmT X (tkN X p) k = .inr q → tkN X p < q := fun k g => (fmT_gt g).1
  unfold lfT at h
  cases h1 : wdT X p 1 with
  | true =>
    rw [h1] at h
    obtain ⟨r, g1, g2⟩ := bdT_r h
    obtain ⟨a1, a2⟩ := nmT_ge g1
    cases hw : wdT X r 2 with
    | true =>
      rw [hw] at g2
      obtain ⟨b1, b2⟩ := fmT_gt (k := 1) g2
      have := tkN_ge' X r
      omega
    | false =>
      rw [hw] at g2
      obtain ⟨b1, b2⟩ := stT_gt g2
      omega
  | false =>
  rw [h1] at h
  cases h3 : wdT X p 3 with
  | true => rw [h3] at h; exact key _ h
  | false =>
  rw [h3] at h
  cases h4 : wdT X p 4 with
  | true => rw [h4] at h; exact key _ h
  | false =>
  rw [h4] at h
  cases h5 : wdT X p 5 with
  | true => rw [h5] at h; exact key _ h
  | false =>
  rw [h5] at h
  cases h6 : wdT X p 6 with
  | true =>
    rw [h6] at h
    obtain ⟨a, g1, g2⟩ := bdT_r h
    obtain ⟨b, g3, g4⟩ := bdT_r g2
    obtain ⟨c, g5, g6⟩ := bdT_r g4
    obtain ⟨a1, a2⟩ := sgT_ge g1
    obtain ⟨b1, b2⟩ := nmT_ge g3
    obtain ⟨c1, c2⟩ := sgT_ge g5
    obtain ⟨d1, d2⟩ := fmT_gt (k := 1) g6
    omega
  | false =>
  rw [h6] at h
  cases h9 : wdT X p 9 with
  | true => rw [h9] at h; exact key _ h
  | false =>
  rw [h9] at h
  cases h10 : wdT X p 10 with
  | true => rw [h10] at h; exact key _ h
  | false =>
  rw [h10] at h
  cases h11 : wdT X p 11 with
  | true => rw [h11] at h; exact key _ h
  | false =>
  rw [h11] at h
  cases h12 : wdT X p 12 with
  | true => rw [h12] at h; exact key _ h
  | false => rw [h12] at h; cases h
/-! the end of the reference's reading -/
def Rz (y : Nat) (m n : MM) : Prop := n.K = m.K ∧ n.N = m.N ∧ n.S = m.S ∧ n.R = m.R ∧ (∀ s a i, a ≠ y → (a < y + 38 ∨ y + 45 ≤ a) → ¬ ((a = y + 3 ∨ a = y + 4) ∧ i = 0 ∧ s = 22) → n.I s a i = m.I s a i) ∧ ∀ s i, (s < 1138 ∨ 1159 ≤ s) → n.I s y i = m.I s y i
theorem Rm.rz {y : Nat} {m n : MM} (h : Rm y m n) : Rz y m n := ⟨h.1, h.2.1, h.2.2.1, h.2.2.2.1, fun s a i g1 g2 _ => h.2.2.2.2.1 s a i g1 g2, fun s i g => h.2.2.2.2.2 s i (by omega)⟩
theorem Rz.tr {y : Nat} {m n q : MM} (h1 : Rz y m n) (h2 : Rz y n q) : Rz y m q := ⟨h2.1.trans h1.1, h2.2.1.trans h1.2.1, h2.2.2.1.trans h1.2.2.1, h2.2.2.2.1.trans h1.2.2.2.1, fun s a i g1 g2 g3 => (h2.2.2.2.2.1 s a i g1 g2 g3).trans (h1.2.2.2.2.1 s a i g1 g2 g3), fun s i g => (h2.2.2.2.2.2 s i g).trans (h1.2.2.2.2.2 s i g)⟩
/-- what the fault and its place are at the end -/
def plE (E : Nat) : Int32 := if E = 0 then -1 else nI (E / 8)
section RGood
variable {X : Tx} {y : Nat} {m : MM} {p E n : Nat} {g : Int32}
theorem rz_2 (a b : Int32) : Rz y m ((m.sI 22 (y + 3) 0 a).sI 22 (y + 4) 0 b) := ⟨rfl, rfl, rfl, rfl, fun s c i g1 g2 g3 => by rw [I_sI, if_neg (by omega), I_sI, if_neg (by omega)], fun s i g => by rw [I_sI, if_neg (by omega), I_sI, if_neg (by omega)]⟩
theorem r_good0 (M : Md m y) {pl : Nat} (h : m.I 1144 y 0 = nI pl) : f_X10_isGood y 0 m = some (0, (m.sI 22 (y + 3) 0 1).sI 22 (y + 4) 0 (nI pl)) := by
  unfold f_X10_isGood g_X10_isGood_0 g_X10_isGood_17 g_X10_isGood_49
  have M1 : Md (m.sI 22 (y + 3) 0 1) y := M
  have M2 : Md ((m.sI 22 (y + 3) 0 1).sI 22 (y + 4) 0 (nI pl)) y := M
  have e1 : (m.sI 22 (y + 3) 0 1).I 1144 y 0 = nI pl := by rw [I_sI, if_neg (by omega)]; exact h
  have e2 : ((m.sI 22 (y + 3) 0 1).sI 22 (y + 4) 0 (nI pl)).I 22 (y + 3) 0 = 1 := by rw [I_sI, if_neg (by omega), I_sI, if_pos ⟨rfl, rfl, rfl⟩]
  rw [chk_t M.1, if_pos rfl, M.c1103, M.n1103, chk_t (show inb 0 4 = true by decide), bnd_e, show Int32.toNatClampNeg 0 = 0 from rfl, chk_t M1.1, if_pos rfl, e1, M1.c1104, M1.n1104, chk_t (show inb 0 4 = true by decide), bnd_e, chk_t M2.1, M2.c1103, M2.n1103, chk_t (show inb 0 4 = true by decide), e2, if_neg (by decide)]
theorem r_good1 (h : RC X y m p E n g) : f_X10_isGood y 1 m = some (bI (decide (E = 0)), (m.sI 22 (y + 3) 0 (nI (E % 8))).sI 22 (y + 4) 0 (plE E)) := by
  have M := h.md
  unfold f_X10_isGood g_X10_isGood_0 g_X10_isGood_17 g_X10_isGood_49
  have M1 : Md (m.sI 22 (y + 3) 0 (nI (E % 8))) y := M
  have M2 : Md ((m.sI 22 (y + 3) 0 (nI (E % 8))).sI 22 (y + 4) 0 (plE E)) y := M
  have e1 : ∀ s, s ≠ 22 → (m.sI 22 (y + 3) 0 (nI (E % 8))).I s y 0 = m.I s y 0 := fun s hs => by rw [I_sI, if_neg (by omega)]
  have e2 : ((m.sI 22 (y + 3) 0 (nI (E % 8))).sI 22 (y + 4) 0 (plE E)).I 22 (y + 3) 0 = nI (E % 8) := by rw [I_sI, if_neg (by omega), I_sI, if_pos ⟨rfl, rfl, rfl⟩]
  rw [chk_t M.1, if_neg (show ¬ (1 : Int32) = 0 by decide), h.2.2.1.1, M.c1103, M.n1103, chk_t (show inb 0 4 = true by decide), bnd_e, show Int32.toNatClampNeg 0 = 0 from rfl, chk_t M1.1, if_neg (show ¬ (1 : Int32) = 0 by decide), e1 1145 (by omega), h.2.2.1.1]
  by_cases z : E = 0
  · have ep : plE E = -1 := if_pos z
    rw [ep] at e2 M2
    rw [z] at e2 M1 M2 ⊢
    rw [if_pos (show nI (0 % 8) ≤ 0 by decide), M1.c1104, M1.n1104, chk_t (show inb 0 4 = true by decide), bnd_e, chk_t M2.1, M2.c1103, M2.n1103, chk_t (show inb 0 4 = true by decide), e2, if_pos (show nI (0 % 8) = 0 by decide)]
    rfl
  · obtain ⟨f1, f2, f3⟩ := h.2.2.1.2 z
    have ep : plE E = nI (E / 8) := if_neg z
    rw [ep] at e2 M2 ⊢
    rw [if_neg (nI_nle (by omega) (by omega)), e1 1146 (by omega), f1, M1.c1104, M1.n1104, chk_t (show inb 0 4 = true by decide), bnd_e, chk_t M2.1, M2.c1103, M2.n1103, chk_t (show inb 0 4 = true by decide), e2, if_neg (nI_ne0 (by omega) (by omega)), decide_eq_false z]
    rfl
def RdR (y : Nat) (m : MM) (F : Option (Int32 × MM)) (o : Nat ⊕ (Nat × TW)) : Prop := (∃ n pl, F = some (0, n) ∧ o = .inl pl ∧ Rz y m n ∧ n.I 22 (y + 3) 0 = 1 ∧ n.I 22 (y + 4) 0 = nI pl) ∨ ∃ n E T, F = some (bI (decide (E = 0)), n) ∧ o = .inr (E, T) ∧ Rz y m n ∧ n.I 22 (y + 3) 0 = nI (E % 8) ∧ n.I 22 (y + 4) 0 = plE E ∧ (E = 0 → RN n y T ∧ NT T)
theorem RdR.pre {u : MM} {F : Option (Int32 × MM)} {o : Nat ⊕ (Nat × TW)} (O : Rz y m u) (h : RdR y u F o) : RdR y m F o := by
  rcases h with ⟨a, pl, b1, b2, b3, b4⟩ | ⟨a, E, T, b1, b2, b3, b4⟩
  · exact .inl ⟨a, pl, b1, b2, O.tr b3, b4⟩
  · exact .inr ⟨a, E, T, b1, b2, O.tr b3, b4⟩
theorem rd_bad {pl : Nat} (M : Md m y) (h : m.I 1144 y 0 = nI pl) (f : Nat) (z : Int32) : RdR y m (l_X10_readTown_42 y (f + 1) 0 z m) (.inl pl) := by
  show RdR y m (g_X10_readTown_42 y (l_X10_readTown_42 y f) 0 z m) _
  unfold g_X10_readTown_42
  rw [if_pos rfl, chk_t M.1, r_good0 M h, cal_s, chk_t (.inl rfl)]
  exact .inl ⟨_, pl, rfl, rfl, rz_2 _ _, by rw [I_sI, if_neg (by omega), I_sI, if_pos ⟨rfl, rfl, rfl⟩], by rw [I_sI, if_pos ⟨rfl, rfl, rfl⟩]⟩
theorem r_rdL : ∀ (k p n E : Nat) (T Tr : TW) (m : MM) (r : Nat) (g : Int32), n + k = 501 → n ≤ p → RC X y m p E r g → RN m y Tr → NT Tr → (E = 0 → Tr = T) → (E ≠ 0 → E < 8 * p) → (40 < n → E ≠ 0) → ∀ f, k < f → RdR y m (l_X10_readTown_42 y f 1 (nI n) m) (rdL X k p n E T) := by
  intro k
  induction k with
  | zero => intro p n E T Tr m r g h1 h2 c; have := c.2.2.2.2.2; have := c.l5; omega
  | succ k ih =>
    intro p n E T Tr m r g h1 h2 c hT N hE hB h40 f hf
    obtain ⟨f, rfl⟩ : ∃ q, f = q + 1 := ⟨f - 1, by omega⟩
    have l5 := c.l5
    have pl := c.2.2.2.2.2
    have kl := tkK_lt X p
    show RdR y m (g_X10_readTown_42 y (l_X10_readTown_42 y f) 1 (nI n) m) (rdL X (k + 1) p n E T)
    unfold g_X10_readTown_42
    rw [if_neg (show ¬ (1 : Int32) = 0 by decide), chk_t c.k, c.2.1.1]
    by_cases e0 : tkK X p = 0
    · have er : rdL X (k + 1) p n E T = .inr (E, T) := by unfold rdL; rw [if_pos e0]
      rw [er, e0, if_pos (show nI (rkT 0) = 0 from rfl), r_good1 c, cal_s, chk_t (bI_01 _)]
      refine .inr ⟨_, E, T, rfl, rfl, rz_2 _ _, by rw [I_sI, if_neg (by omega), I_sI, if_pos ⟨rfl, rfl, rfl⟩], by rw [I_sI, if_pos ⟨rfl, rfl, rfl⟩], fun z => ?_⟩
      rw [← hE z]
      exact ⟨hT.of (fun d i h1 h2 => by rw [I_sI, if_neg (by omega), I_sI, if_neg (by omega)]), N⟩
    · have hlt := tkS_lt e0
      have hge := tkS_ge X p
      have rk : rkT (tkK X p) ≠ 0 ∧ rkT (tkK X p) < 5 := by unfold rkT; repeat' (split <;> try omega)
      rw [if_neg (nl (v := 0) (k := 0) rfl rk.1 (by omega) (by omega)), c.2.1.2.1]
      obtain ⟨u, e1, o1, c1⟩ := r_note c (k := 3) (z := nI (tkS X p)) (f := 3) rfl rfl (by omega) (by omega) (show tkS X p ≤ 500 by omega) (nIk (a := n) (k := 40) (v := 40) rfl (by omega) (by omega)) (g_X10_readTown_68 y (l_X10_readTown_42 y f) (nI n))
      rw [e1]
      have q1 := o1.nq (by omega) (by omega)
      have T1 := hT.nq q1
      have eE : ncT E (decide (n = 40)) (8 * tkS X p + 3) = ncT E (decide (40 ≤ n)) (8 * tkS X p + 3) := by
        rcases Nat.lt_trichotomy n 40 with q | q | q
        · rw [decide_eq_false (show ¬ n = 40 by omega), decide_eq_false (show ¬ 40 ≤ n by omega)]
        · rw [decide_eq_true q, decide_eq_true (show 40 ≤ n by omega)]
        · have z := h40 q
          have b := hB z
          rw [ncT_keep z (by omega), ncT_keep z (by omega)]
      rw [eE] at c1
      obtain ⟨E1, hE1⟩ : ∃ q, q = ncT E (decide (40 ≤ n)) (8 * tkS X p + 3) := ⟨_, rfl⟩
      rw [← hE1] at c1
      have b1 : E1 ≠ 0 → E1 ≤ 8 * tkS X p + 3 := fun z => by
        rw [hE1] at z ⊢
        revert z
        cases decide (40 ≤ n) with
        | false =>
          intro z
          have z' : E ≠ 0 := z
          have b := hB z'
          show E ≤ _
          omega
        | true =>
          intro z
          show ntT E _ ≤ _
          unfold ntT
          split
          · exact Nat.le_refl _
          · omega
      have z1 : E1 = 0 → E = 0 := fun z => by
        by_cases q : E = 0
        · exact q
        · rw [hE1, ncT_keep q (by have := hB q; omega)] at z; exact z
      have same : leT X p Tr E1 = leT X p T E1 := by
        by_cases z : E1 = 0
        · rw [hE (z1 z)]
        · rw [leT_keep z (b1 z), leT_keep z (b1 z)]
      unfold g_X10_readTown_68 rdL
      rw [if_neg e0, ← hE1, chk_t c1.k]
      refine RdR.pre q1.rm.rz ?_
      rcases r_townLine c1 T1 N with ⟨u2, pl, a1, a2, a3, a4⟩ | ⟨u2, q, r2, g2, a1, a2, a3, a4, T', a5, a6, a7⟩
      · rw [a1, cal_s, a2]
        obtain ⟨f, rfl⟩ : ∃ q, f = q + 1 := ⟨f - 1, by omega⟩
        exact RdR.pre a3.rz (rd_bad (c1.md.kept a3.1 a3.2.1 (fun s => by rw [a3.2.2.2.1])) a4 f _)
      · rw [a1, cal_s, a2, nI_1]
        obtain ⟨g1, g2'⟩ := lfT_gt a2
        rw [same] at a4 a7
        refine RdR.pre a3.rz (ih q (n + 1) _ _ T' u2 r2 g2 (by omega) (by omega) a4 a5 a6 (fun z => ?_) (fun z => ?_) (fun z w => ?_) f (by omega))
        · have zE : E1 = 0 := by
            by_cases q : E1 = 0
            · exact q
            · rw [leT_keep q (b1 q)] at z; exact absurd z q
          rw [if_pos z, a7 z, hE (z1 zE)]
        · have h1 := lfT_nx a2
          have h2 := tkN_ge X p
          refine leT_lt a2 ?_
          by_cases w : E1 = 0
          · omega
          · have := b1 w; omega
        · have : E1 ≠ 0 := fun v => by
            rw [hE1, decide_eq_true (show 40 ≤ n by omega)] at v
            have := (ncT_0 v (by omega)).2
            cases this
          rw [leT_keep this (b1 this)] at w
          exact this w
end RGood
