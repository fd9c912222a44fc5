/-! a law's line, a law's text: the reference -/
section RLaw2
variable {X : Tx} {y : Nat} {m : MM} {p E n : Nat} {g : Int32}
theorem ruO_fm (X : Tx) (p : Nat) : bdT (ruO X (tkN X p)) (stT X) = fmRule X p := by
  unfold ruO fmRule
  rw [bdT_as]
  congr 1
theorem r_law204 {B : LW} {F : LW} (v : Int32) (h : RC X y m p E n g) (hk : tkK X p = 1) (hB : RNw m y B) (hN : B.2.1 ≤ 10) (hF : F = cond (wdT X p 9) (setL (setL B 0 v) 1 1) (setL B 0 v)) : LnR X y m (g_X10_lawLine_204 y (some y) v m) (stT X (tkN X p)) E (CtL y E F) := by
  unfold g_X10_lawLine_204
  obtain ⟨m1, hm1⟩ : ∃ q, q = m.sI 1156 y 0 v := ⟨_, rfl⟩
  have c1 : RC X y m1 p E n g := by rw [hm1]; exact h.sI (by omega)
  have o1 : Rm y m m1 := by rw [hm1]; exact rm_sI (by omega) (by omega)
  have i1 : ∀ t, t ≠ 1156 → m1.I t y 0 = m.I t y 0 := fun t ht => by rw [hm1, I_sI, if_neg (by omega)]
  have B1 : RNw m1 y (setL B 0 v) := ⟨(i1 _ (by omega)).trans hB.1, by rw [hm1, I_sI, if_pos ⟨rfl, rfl, rfl⟩]; rfl, (i1 _ (by omega)).trans hB.2.2.1, (i1 _ (by omega)).trans hB.2.2.2.1, fun r hr c hc => by rw [hm1, I_sI, if_neg (by omega)]; exact hB.2.2.2.2 r hr c hc⟩
  rw [ck_s h.k, bnd_e, ← hm1, chk_t c1.k, r_isWord c1 (k := 9) (by decide) (by omega), cal_s]
  have go : ∀ (w : Int32) (G : LW), w = G.1 1 → G.1 0 = (setL B 0 v).1 0 → G.1 2 = (setL B 0 v).1 2 → G.2 = (setL B 0 v).2 → LnR X y m (cal (f_X10_token y (m1.sI 1157 y 0 w)) (fun r2 m4 => chk (m4.K y = 11) (cal (f_X10_passes y m4) (fun r3 m5 => chk (r3 = 0 ∨ r3 = 1) (some (r3, m5)))))) (stT X (tkN X p)) E (CtL y E G) := by
    intro w G g1 g0 g2 g3
    have c2 : RC X y (m1.sI 1157 y 0 w) p E n g := c1.sI (by omega)
    have o2 : Rm y m1 (m1.sI 1157 y 0 w) := rm_sI (by omega) (by omega)
    have B2 : RNw (m1.sI 1157 y 0 w) y G := ⟨by rw [I_sI, if_neg (by omega), g3]; exact B1.1, by rw [I_sI, if_neg (by omega), g0]; exact B1.2.1, by rw [I_sI, if_pos ⟨rfl, rfl, rfl⟩, g1], by rw [I_sI, if_neg (by omega), g2]; exact B1.2.2.2.1, fun r hr c hc => by rw [I_sI, if_neg (by omega)]; rw [g3] at hr ⊢; exact B1.2.2.2.2 r hr c hc⟩
    obtain ⟨u, t1, t2, t3⟩ := r_token c2 (by omega)
    have q := t2.nq (by omega) (by omega)
    rw [t1, cal_s, chk_t t3.k]
    rcases r_passes t3 with ⟨d1, u5, d2, d3, d4⟩ | ⟨d1, u5, d2, d3, d4⟩
    · rw [d2, cal_s, chk_t (.inl rfl)]
      exact lr_f rfl d1 (((o1.tr o2).tr q.rm).tr d3.rm) d4
    · rw [d2, cal_s, chk_t (.inr rfl)]
      refine .inr ⟨u5, _, _, _, rfl, d1, ((o1.tr o2).tr q.rm).tr d3.rm, d4, G, (B2.nq q).nq d3, ?_, fun _ => rfl⟩
      rw [g3]
      exact hN
  cases hw : wdT X p 9 with
  | false =>
    rw [hw] at hF
    rw [if_pos (show bI false = 0 by rfl), chk_t c1.k, bnd_e, hF]
    exact go _ _ B1.2.2.1 rfl rfl rfl
  | true =>
    rw [hw] at hF
    rw [if_neg (show ¬ bI true = 0 by decide), chk_t c1.k, bnd_e, hF]
    exact go 1 _ rfl rfl rfl rfl
theorem setL_id (B : LW) (k : Nat) : setL B k (B.1 k) = B := by
  obtain ⟨a, b⟩ := B
  show ((fun i => if i = k then a k else a i), b) = (a, b)
  congr 1
  funext i
  by_cases q : i = k
  · rw [if_pos q, q]
  · rw [if_neg q]
theorem r_law171 {B : LW} (h : RC X y m p E n g) (hB : RNw m y B) (hN : B.2.1 ≤ 10) (hw : wdT X p 16 = true ∨ wdT X p 17 = true ∨ wdT X p 9 = true) : LnR X y m (g_X10_lawLine_171 y m) (stT X (tkN X p)) E (CtL y E (cond (wdT X p 16) (setL B 0 (bI (wdT X p 17))) (cond (wdT X p 17) (setL B 0 (bI (wdT X p 17))) (setL B 1 1)))) := by
  have hk : tkK X p = 1 := by rcases hw with q | q | q <;> exact wdk1 q
  unfold g_X10_lawLine_171
  rw [chk_t h.k, r_isWord h (k := 16) (by decide) (by omega), cal_s]
  cases w16 : wdT X p 16 with
  | true =>
    have w17 : wdT X p 17 = false := wd_ex w16 (by omega) (by omega) (by omega)
    have w9 : wdT X p 9 = false := wd_ex w16 (by omega) (by omega) (by omega)
    rw [if_neg (show ¬ bI true = 0 by decide)]
    exact r_law204 0 h hk hB hN (by rw [w17, w9]; rfl)
  | false =>
    rw [if_pos (show bI false = 0 by rfl), chk_t h.k, r_isWord h (k := 17) (by decide) (by omega), cal_s]
    cases w17 : wdT X p 17 with
    | true =>
      have w9 : wdT X p 9 = false := wd_ex w17 (by omega) (by omega) (by omega)
      rw [if_neg (show ¬ bI true = 0 by decide)]
      exact r_law204 1 h hk hB hN (by rw [w9]; rfl)
    | false =>
      have w9 : wdT X p 9 = true := by
        rcases hw with q | q | q
        · rw [w16] at q; cases q
        · rw [w17] at q; cases q
        · exact q
      rw [if_pos (show bI false = 0 by rfl), chk_t h.k]
      refine r_law204 _ h hk hB hN ?_
      rw [w9, hB.2.1, setL_id]
      rfl
theorem r_lawLine {B : LW} (h : RC X y m p E n g) (hB : RNw m y B) (hN : B.2.1 ≤ 10) : LnR X y m (f_X10_lawLine y m) (lfL X p) (leL X p B E) (CtL y (leL X p B E) (luL X p B (leL X p B E))) := by
  have l5 := h.l5
  have hp := h.2.2.2.2.2
  have hh : tkS X p ≤ 500 := by have := tkS_le hp; omega
  unfold f_X10_lawLine g_X10_lawLine_0
  rw [chk_t h.k, bnd_e, h.2.1.2.1, bnd_e]
  obtain ⟨m1, hm1⟩ : ∃ q, q = m.sI 1148 y 0 0 := ⟨_, rfl⟩
  rw [← hm1]
  have o1 : Rs y 1148 1149 m m1 := by rw [hm1]; exact (Rs.rf y _ _ m).sI _ _ _ (by omega) (by omega) (by omega)
  have i1 : ∀ s, s ≠ 1148 → m1.I s y 0 = m.I s y 0 := fun s h1 => by rw [hm1, I_sI, if_neg (by omega)]
  have c1 : RC X y m1 p E 0 g := ⟨h.1.rs o1, h.2.1.of (fun s _ _ => i1 s (by omega)) (by rw [hm1]; rfl), ⟨(i1 _ (by omega)).trans h.2.2.1.1, fun z => ⟨(i1 _ (by omega)).trans (h.2.2.1.2 z).1, (h.2.2.1.2 z).2⟩⟩, by rw [hm1, I_sI, if_pos ⟨rfl, rfl, rfl⟩]; rfl, (i1 _ (by omega)).trans h.2.2.2.2.1, hp⟩
  have q1 := o1.nq (by omega) (by omega)
  have B1 := hB.nq q1
  refine LnR.pre q1.rm ?_
  have sort : ∀ (F : Int32 → MM → Option (Int32 × MM)) , (cal (f_X10_isWord y 6709618 m1) (fun r18 m23 => if r18 = 0 then (chk (m23.K y = 11) (cal (f_X10_isWord y 2003398244 m23) (fun r19 m24 => if r19 = 0 then (chk (m24.K y = 11) (cal (f_X10_isWord y 1718382455 m24) (fun r20 m25 => if r20 = 0 then (chk (m25.K y = 11) (cal (f_X10_isWord y 1717658469 m25) (fun r21 m26 => if r21 = 0 then (F (-1) m26) else (F 3 m26)))) else (F 2 m25)))) else (F 1 m24)))) else (F 0 m23))) = F (soT X p) m1 := by
    intro F
    unfold soT
    rw [r_isWord c1 (k := 13) (by decide) (by omega), cal_s]
    cases wdT X p 13 with
    | true => rfl
    | false =>
      rw [if_pos (show bI false = 0 by rfl), chk_t c1.k, r_isWord c1 (k := 5) (by decide) (by omega), cal_s]
      cases wdT X p 5 with
      | true => rfl
      | false =>
        rw [if_pos (show bI false = 0 by rfl), chk_t c1.k, r_isWord c1 (k := 14) (by decide) (by omega), cal_s]
        cases wdT X p 14 with
        | true => rfl
        | false =>
          rw [if_pos (show bI false = 0 by rfl), chk_t c1.k, r_isWord c1 (k := 15) (by decide) (by omega), cal_s]
          cases wdT X p 15 <;> rfl
  rw [sort (fun s q => g_X10_lawLine_67 y (nI (tkS X p)) s q)]
  show LnR X y m1 (g_X10_lawLine_67 y (nI (tkS X p)) (soT X p) m1) _ _ _
  unfold g_X10_lawLine_67 lfL luL leL
  by_cases s0 : soT X p = -1
  · rw [if_pos s0, if_pos s0, if_pos s0, if_pos s0, chk_t c1.k, r_isWord c1 (k := 18) (by decide) (by omega), cal_s]
    cases w18 : wdT X p 18 with
    | true =>
      have w16 : wdT X p 16 = false := wd_ex w18 (by omega) (by omega) (by omega)
      have w17 : wdT X p 17 = false := wd_ex w18 (by omega) (by omega) (by omega)
      have w9 : wdT X p 9 = false := wd_ex w18 (by omega) (by omega) (by omega)
      rw [w16, w17, w9]
      obtain ⟨u1, t1, t2, t3⟩ := r_token c1 (by have := wdk1 w18; omega)
      have q2 := t2.nq (by omega) (by omega)
      rw [if_neg (show ¬ bI true = 0 by decide), chk_t c1.k, t1, cal_s, chk_t t3.k]
      show LnR X y m1 _ (fmT X (tkN X p) 1) (eSil (vT X (tkN X p)) (sT X (tkN X p)) E) (CtL y (eSil (vT X (tkN X p)) (sT X (tkN X p)) E) (if eSil (vT X (tkN X p)) (sT X (tkN X p)) E = 0 then setL B 2 (nI (vT X (tkN X p) 0)) else B))
      refine r_num (q := tkN X p) (k := 0) (P := fun R => LnR X y m1 (cal R _) _ _ _) t3 (by omega) rfl (fun i hi => by omega) 1 99 _ rfl (fun u pl a1 a2 a3 => ?_) (fun u2 a1 a2 a3 a4 a5 => ?_)
      · rw [cal_s, if_pos rfl]; exact lr_f rfl (by unfold fmT; rw [a1]; rfl) (q2.tr a2).rm a3
      have M2 := a3.md
      rw [cal_s, if_neg (by decide), chk_t a3.k, M2.c1147, M2.n1147, chk_t (show inb 0 6 = true by decide), show Int32.toNatClampNeg 0 = 0 from rfl, a4 0 (by omega), bnd_e]
      obtain ⟨u3, hu3⟩ : ∃ q, q = u2.sI 1158 y 0 (nI (vT X (tkN X p) 0)) := ⟨_, rfl⟩
      rw [← hu3]
      have c3 := a3.sI (s := 1158) (v := nI (vT X (tkN X p) 0)) (by omega)
      rw [← hu3] at c3
      have o3 : Rm y u2 u3 := by rw [hu3]; exact rm_sI (by omega) (by omega)
      have B2 := (B1.nq q2).nq a2
      have B3 : RNw u3 y (setL B 2 (nI (vT X (tkN X p) 0))) := by
        rw [hu3]
        exact ⟨by rw [I_sI, if_neg (by omega)]; exact B2.1, by rw [I_sI, if_neg (by omega)]; exact B2.2.1, by rw [I_sI, if_neg (by omega)]; exact B2.2.2.1, by rw [I_sI, if_pos ⟨rfl, rfl, rfl⟩]; rfl, fun r hr c hc => by rw [I_sI, if_neg (by omega)]; exact B2.2.2.2.2 r hr c hc⟩
      have ho : ∀ q, stT X (itN X (tkN X p) 1) = q → fmT X (tkN X p) 1 = q := fun q hq => by unfold fmT; rw [a1]; exact hq
      rcases r_passes c3 with ⟨d1, u5, d2, d3, d4⟩ | ⟨d1, u5, d2, d3, d4⟩
      · rw [d2, cal_s, chk_t (.inl rfl)]
        exact lr_f rfl (ho _ d1) (((q2.tr a2).rm.tr o3).tr d3.rm) d4
      · rw [d2, cal_s, chk_t (.inr rfl)]
        exact .inr ⟨u5, _, _, _, rfl, ho _ d1, ((q2.tr a2).rm.tr o3).tr d3.rm, d4, _, B3.nq d3, hN, fun z0 => by rw [if_pos z0]⟩
    | false =>
      rw [if_pos (show bI false = 0 by rfl), chk_t c1.k, r_isWord c1 (k := 16) (by decide) (by omega), cal_s]
      cases w16 : wdT X p 16 with
      | true =>
        have := r_law171 c1 B1 hN (.inl w16)
        rw [w16] at this
        rw [if_neg (show ¬ bI true = 0 by decide)]
        exact this
      | false =>
        rw [if_pos (show bI false = 0 by rfl), chk_t c1.k, r_isWord c1 (k := 17) (by decide) (by omega), cal_s]
        cases w17 : wdT X p 17 with
        | true =>
          have := r_law171 c1 B1 hN (.inr (.inl w17))
          rw [w16, w17] at this
          rw [if_neg (show ¬ bI true = 0 by decide)]
          exact this
        | false =>
          rw [if_pos (show bI false = 0 by rfl), chk_t c1.k, r_isWord c1 (k := 9) (by decide) (by omega), cal_s]
          cases w9 : wdT X p 9 with
          | true =>
            have := r_law171 c1 B1 hN (.inr (.inr w9))
            rw [w16, w17] at this
            rw [if_neg (show ¬ bI true = 0 by decide)]
            exact this
          | false =>
            obtain ⟨u, s1, s2, s3⟩ := r_stops c1
            rw [if_pos (show bI false = 0 by rfl), chk_t c1.k, s1, cal_s, chk_t (.inl rfl)]
            exact lr_f rfl rfl s2.rm s3
  · have hk : tkK X p = 1 := by
      unfold soT at s0
      cases w13 : wdT X p 13 with
      | true => exact wdk1 w13
      | false =>
        cases w5 : wdT X p 5 with
        | true => exact wdk1 w5
        | false =>
          cases w14 : wdT X p 14 with
          | true => exact wdk1 w14
          | false =>
            cases w15 : wdT X p 15 with
            | true => exact wdk1 w15
            | false => rw [w13, w5, w14, w15] at s0; exact absurd rfl s0
    unfold g_X10_lawLine_93
    rw [if_neg s0, if_neg s0, if_neg s0, if_neg s0, chk_t c1.k]
    rcases r_ruleLine (soT X p) c1 hk B1 hN (z := nI (tkS X p)) rfl hh with ⟨u, pl, a1, a2, a3, a4⟩ | ⟨u, p', r, g', a1, a2, a3, a4, B', a5, a6, a7⟩
    · rw [a1, cal_s, if_pos rfl]
      exact lr_f rfl (by rw [← ruO_fm, a2]; rfl) a3 a4
    · rw [a1, cal_s, if_neg (by decide), chk_t a4.k]
      rcases r_passes a4 with ⟨d1, u5, d2, d3, d4⟩ | ⟨d1, u5, d2, d3, d4⟩
      · rw [d2, cal_s, if_pos rfl]
        exact lr_f rfl (by rw [← ruO_fm, a2]; exact d1) (a3.tr d3.rm) d4
      · rw [d2, cal_s, if_neg (by decide)]
        exact .inr ⟨u5, _, _, _, rfl, by rw [← ruO_fm, a2]; exact d1, a3.tr d3.rm, d4, B', a5.nq d3, a6, fun z0 => by rw [if_pos z0]; exact a7 z0⟩
theorem soT_k (s0 : ¬ soT X p = -1) : tkK X p = 1 := by
  unfold soT at s0
  cases w13 : wdT X p 13 with
  | true => exact wdk1 w13
  | false =>
    cases w5 : wdT X p 5 with
    | true => exact wdk1 w5
    | false =>
      cases w14 : wdT X p 14 with
      | true => exact wdk1 w14
      | false =>
        cases w15 : wdT X p 15 with
        | true => exact wdk1 w15
        | false => rw [w13, w5, w14, w15] at s0; exact absurd rfl s0
theorem leL_keep {B : LW} (h0 : E ≠ 0) (h : E ≤ 8 * tkS X p + 3) : leL X p B E = E := by
  unfold leL
  by_cases s0 : soT X p = -1
  · rw [if_pos s0]
    cases w16 : wdT X p 16 with
    | true => rfl
    | false =>
    cases w17 : wdT X p 17 with
    | true => rfl
    | false =>
    cases w9 : wdT X p 9 with
    | true => rfl
    | false =>
    cases w18 : wdT X p 18 with
    | true =>
      have a0 := hd_lt (wdk1 w18) 0
      exact e2_keep h0 (by omega)
    | false => rfl
  · rw [if_neg s0]
    have hl := hd_lt (soT_k s0)
    have a0 := hl 0
    have a1 := hl 1
    have a2 := hl 2
    unfold eRule
    rw [ncT_keep h0 h, e2_keep h0 (by omega), e2_keep h0 (by omega), e2_keep h0 (by omega)]
theorem leL_lt {B : LW} {r : Nat} (hr : lfL X p = .inr r) (hE : E < 8 * r) : leL X p B E < 8 * r := by
  unfold lfL at hr
  unfold leL
  by_cases s0 : soT X p = -1
  · rw [if_pos s0] at hr ⊢
    cases w16 : wdT X p 16 with
    | true => exact hE
    | false =>
    rw [w16] at hr
    cases w17 : wdT X p 17 with
    | true => exact hE
    | false =>
    rw [w17] at hr
    cases w9 : wdT X p 9 with
    | true => exact hE
    | false =>
    rw [w9] at hr
    cases w18 : wdT X p 18 with
    | true =>
      rw [w18] at hr
      have hr' : fmT X (tkN X p) 1 = .inr r := hr
      exact e2_lt hE (fmS_lt hr' 0 (by omega))
    | false => exact hE
  · rw [if_neg s0] at hr ⊢
    obtain ⟨a, g1, g2⟩ := bdT_r hr
    obtain ⟨ea, hs⟩ := nm_lt g1
    have hg := nmT_ge g1
    have har : a < r := by
      have b1 := (stT_gt g2).1
      have := tkN_ge' X a
      revert b1
      cases wdT X a 3 with
      | true => intro b1; have b1' : tkN X a < r := b1; omega
      | false => intro b1; exact b1
    have hh := hd_p (r := r) (soT_k s0) (by omega)
    have s0 := hs 0 (by omega)
    have s1 := hs 1 (by omega)
    have s2 := hs 2 (by omega)
    exact e2_lt (e2_lt (e2_lt (ncT_lt hE (by omega)) (by omega)) (by omega)) (by omega)
theorem lfL_nx {q : Nat} (h : lfL X p = .inr q) : tkS X p < q := by
  have key : stT X (tkN X p) = .inr q → tkS X p < q := fun g => by
    have := (stT_gt g).1
    have := tkN_ge X p
    omega
  unfold lfL at h
  by_cases s0 : soT X p = -1
  · rw [if_pos s0] at h
    cases h16 : wdT X p 16 with
    | true => rw [h16] at h; exact key h
    | false =>
    rw [h16] at h
    cases h17 : wdT X p 17 with
    | true => rw [h17] at h; exact key h
    | false =>
    rw [h17] at h
    cases h9 : wdT X p 9 with
    | true => rw [h9] at h; exact key h
    | false =>
    rw [h9] at h
    cases h18 : wdT X p 18 with
    | true =>
      rw [h18] at h
      have := (fmT_gt h).1
      have := tkN_ge X p
      omega
    | false => rw [h18] at h; cases h
  · rw [if_neg s0] at h
    obtain ⟨r, g1, g2⟩ := bdT_r h
    have a1 := (nmT_ge g1).1
    have b1 := (stT_gt g2).1
    have b2 := tkN_ge' X r
    have b3 := tkN_ge X p
    revert b1
    cases wdT X r 3 with
    | true => intro b1; have b1' : tkN X r < q := b1; omega
    | false => intro b1; have b1' : r < q := b1; omega
/-- the reference's law, read to its end -/
theorem r_rdR (p1 : Int32) (K : Int32 → MM → Option (Int32 × MM)) : ∀ (k p n E : Nat) (B Br : LW) (m : MM) (r : Nat) (g : Int32), n + k = 501 → n ≤ p → RC X y m p E r g → RNw m y Br → Br.2.1 ≤ 10 → (E = 0 → Br = B) → (E ≠ 0 → E < 8 * p) → ∀ f, k < f → (∃ u pl, l_X10_law_64 y p1 K f 1 m = K 0 u ∧ rdR X k p E B = .inl pl ∧ Rm y m u ∧ u.I 1144 y 0 = nI pl) ∨ ∃ u E' B' p' r' g', l_X10_law_64 y p1 K f 1 m = K 1 u ∧ rdR X k p E B = .inr (E', B') ∧ Rm y m u ∧ RC X y u p' E' r' g' ∧ (E' = 0 → RNw u y B' ∧ B'.2.1 ≤ 10) := by
  intro k
  induction k with
  | zero => intro p n E T Tr m r g h1 h2 c; have := c.2.2.2.2.2; have := c.l5; omega
  | succ k ih =>
    intro p n E B Br m r g h1 h2 c hB hN hE hb f hf
    obtain ⟨f, rfl⟩ : ∃ q, f = q + 1 := ⟨f - 1, by omega⟩
    have l5 := c.l5
    have pl := c.2.2.2.2.2
    have kl := tkK_lt X p
    have e1 : l_X10_law_64 y p1 K (f + 1) 1 m = g_X10_law_64 y p1 (l_X10_law_64 y p1 K f) K 1 m := rfl
    rw [e1]
    unfold g_X10_law_64
    rw [if_neg (show ¬ (1 : Int32) = 0 by decide), chk_t c.k, c.2.1.1]
    by_cases e0 : tkK X p = 0
    · have er : rdR X (k + 1) p E B = .inr (E, B) := by unfold rdR; rw [if_pos e0]
      right
      rw [er, e0, if_pos (show nI (rkT 0) = 0 from rfl)]
      exact ⟨m, E, B, p, r, g, rfl, rfl, Rm.rf y m, c, fun z => by rw [← hE z]; exact ⟨hB, hN⟩⟩
    · have hlt := tkS_lt e0
      have hge := tkS_ge X p
      have rk : rkT (tkK X p) ≠ 0 ∧ rkT (tkK X p) < 5 := by unfold rkT; repeat' (split <;> try omega)
      rw [if_neg (nl (v := 0) (k := 0) rfl rk.1 (by omega) (by omega))]
      have same : leL X p Br E = leL X p B E := by
        by_cases z : E = 0
        · rw [hE z]
        · have := hb z
          rw [leL_keep z (by omega), leL_keep z (by omega)]
      unfold rdR
      rw [if_neg e0]
      rcases r_lawLine c hB hN with ⟨u2, pl, a1, a2, a3, a4⟩ | ⟨u2, q, r2, g2, a1, a2, a3, a4, B', a5, a6, a7⟩
      · left
        rw [a1, cal_s, a2]
        obtain ⟨f, rfl⟩ : ∃ q, f = q + 1 := ⟨f - 1, by omega⟩
        refine ⟨u2, pl, ?_, rfl, a3, a4⟩
        show g_X10_law_64 y p1 (l_X10_law_64 y p1 K f) K 0 u2 = _
        unfold g_X10_law_64
        rw [if_pos rfl]
      · rw [a1, cal_s, a2]
        obtain ⟨g1, g2'⟩ := lfL_gt a2
        have g3 := lfL_nx a2
        rw [same] at a4 a7
        have k1 : leL X p B E = 0 → B' = luL X p B (leL X p B E) := fun z => by
          have zE : E = 0 := by
            by_cases q : E = 0
            · exact q
            · have := hb q
              rw [leL_keep q (by omega)] at z; exact z
          rw [a7 z, hE zE]
        have k2 : leL X p B E ≠ 0 → leL X p B E < 8 * q := fun z => by
          refine leL_lt a2 ?_
          by_cases w : E = 0
          · omega
          · have := hb w; omega
        rcases ih q (n + 1) (leL X p B E) (luL X p B (leL X p B E)) B' u2 r2 g2 (by omega) (by omega) a4 a5 a6 k1 k2 f (by omega) with ⟨u, pl, b1, b2, b3, b4⟩ | ⟨u, E', B'', p', r', g', b1, b2, b3, b4⟩
        · exact .inl ⟨u, pl, b1, b2, a3.tr b3, b4⟩
        · exact .inr ⟨u, E', B'', p', r', g', b1, b2, a3.tr b3, b4⟩
end RLaw2
