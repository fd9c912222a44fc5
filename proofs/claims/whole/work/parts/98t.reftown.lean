/-! a town's line, its size: the reference -/
section RTown
variable {X : Tx} {y : Nat} {m : MM} {p E n : Nat} {g : Int32}
theorem ws_inj : ∀ j, j < 19 → ∀ k, k < 19 → wsT j = wsT k → j = k := by decide +kernel
theorem wd_ex {j k : Nat} (h : wdT X p k = true) (hj : j < 19) (hk : k < 19) (hne : j ≠ k) : wdT X p j = false := decide_eq_false (fun q => hne (ws_inj j hj k hk (q.2.symm.trans (of_decide_eq_true h).2)))
theorem bdT_as (o : Nat ⊕ Nat) (f h : Nat → Nat ⊕ Nat) : bdT (bdT o f) h = bdT o (fun r => bdT (f r) h) := by cases o <;> rfl
theorem thO_fm (X : Tx) (p : Nat) : bdT (thO X (tkN X p)) (stT X) = fmThing X p := by
  unfold thO fmThing
  rw [bdT_as]
  congr 1
  funext r
  cases wdT X r 2 <;> rfl
theorem slT_fm (X : Tx) (p : Nat) : bdT (slT X (tkN X p)) (fun b => bdT (slT X b) (stT X)) = fmSlope X p := by
  unfold slT fmSlope
  rw [bdT_as]
  congr 1
  funext r
  congr 1
  funext b
  rw [bdT_as]
theorem ln_pass {F : Option (Int32 × MM)} {o : Nat ⊕ Nat} {e : Nat} {T : TW} {e' : Nat} (h : LnR X y m F o e (Ct y e' T)) : LnR X y m (cal F (fun r q => g_X10_townLine_325 y r q)) (bdT o (stT X)) e (Ct y e' T) := by
  rcases h with ⟨u, pl, a1, a2, a3, a4⟩ | ⟨u, p', r, g', a1, a2, a3, a4, a5⟩
  · rw [a1, cal_s]
    unfold g_X10_townLine_325 g_X10_townLine_341
    rw [if_pos rfl]
    exact lr_f rfl (by rw [a2]; rfl) a3 a4
  · rw [a1, cal_s]
    unfold g_X10_townLine_325 g_X10_townLine_341
    rw [if_neg (by decide), chk_t a4.k]
    rcases r_passes a4 with ⟨d1, u5, d2, d3, d4⟩ | ⟨d1, u5, d2, d3, d4⟩
    · rw [d2, cal_s, if_pos rfl]
      exact lr_f rfl (by rw [a2]; exact d1) (a3.tr d3.rm) d4
    · rw [d2, cal_s, if_neg (by decide)]
      exact .inr ⟨u5, _, _, _, rfl, by rw [a2]; exact d1, a3.tr d3.rm, d4, a5.nq d3⟩
/-- the word that the reference compares -/
theorem jword (h : RC X y m p E n g) {j : Int64} (hj : j = if m.I 1141 y 0 = 2 then m.J 1143 y 0 else 0) {k : Nat} {c : Int64} (hc : c = wcT k) (hk : k < 19) : (lg_cmp j c = 0) ↔ wdT X p k = true := by
  subst hc
  have kl := tkK_lt X p
  by_cases e1 : tkK X p = 1
  · rw [if_pos (by rw [h.2.1.1, e1]; rfl)] at hj
    rw [hj, jw_eq (h.2.1.2.2.2.2 e1) hk]
    exact ⟨fun q => decide_eq_true ⟨e1, q⟩, fun q => (of_decide_eq_true q).2⟩
  · have : rkT (tkK X p) ≠ 2 ∧ rkT (tkK X p) < 5 := by unfold rkT; repeat' (split <;> try omega)
    rw [if_neg (by rw [h.2.1.1]; exact nl (v := 2) (k := 2) rfl this.1 (by omega) (by omega))] at hj
    rw [hj, lg_eq]
    exact ⟨fun q => absurd q.symm (wc_n k hk).2, fun q => absurd (of_decide_eq_true q).1 e1⟩
theorem r_townLine {T : TW} (h : RC X y m p E n g) (hT : RN m y T) (N : NT T) : LnR X y m (f_X10_townLine y m) (lfT X p) (leT X p T E) (Ct y (leT X p T E) (luT X p T)) := by
  have l5 := h.l5
  have hp := h.2.2.2.2.2
  have hh : tkS X p ≤ 500 := by have := tkS_le hp; omega
  unfold f_X10_townLine g_X10_townLine_0
  rw [chk_t h.k, bnd_e, h.2.1.2.1, bnd_e, bnd_e]
  obtain ⟨m1, hm1⟩ : ∃ q, q = (m.sI 1148 y 0 0).sI 1149 y 0 1 := ⟨_, rfl⟩
  rw [← hm1]
  have o1 : Rs y 1148 1150 m m1 := by rw [hm1]; exact ((Rs.rf y _ _ m).sI _ _ _ (by omega) (by omega) (by omega)).sI _ _ _ (by omega) (by omega) (by omega)
  have i1 : ∀ s, s ≠ 1148 → s ≠ 1149 → m1.I s y 0 = m.I s y 0 := fun s h1 h2 => by rw [hm1, I_sI, if_neg (by omega), I_sI, if_neg (by omega)]
  have c1 : RC X y m1 p E 0 1 := ⟨h.1.rs o1, h.2.1.of (fun s _ _ => i1 s (by omega) (by omega)) (by rw [hm1]; rfl), ⟨(i1 _ (by omega) (by omega)).trans h.2.2.1.1, fun z => ⟨(i1 _ (by omega) (by omega)).trans (h.2.2.1.2 z).1, (h.2.2.1.2 z).2⟩⟩, by rw [hm1, I_sI, if_neg (by omega), I_sI, if_pos ⟨rfl, rfl, rfl⟩]; rfl, by rw [hm1, I_sI, if_pos ⟨rfl, rfl, rfl⟩], hp⟩
  have q1 := o1.nq (by omega) (by omega)
  have T1 := hT.nq q1
  obtain ⟨j, hj⟩ : ∃ j : Int64, j = if m1.I 1141 y 0 = 2 then m1.J 1143 y 0 else 0 := ⟨_, rfl⟩
  have H : ∀ (k : Nat) (c : Int64), c = wcT k → k < 19 → ((lg_cmp j c = 0) ↔ wdT X p k = true) := fun k c hc hk => jword c1 hj hc hk
  have st : (if m1.I 1141 y 0 = 2 then g_X10_townLine_31 y (nI (tkS X p)) (m1.J 1143 y 0) m1 else g_X10_townLine_31 y (nI (tkS X p)) 0 m1) = g_X10_townLine_31 y (nI (tkS X p)) j m1 := by
    by_cases q : m1.I 1141 y 0 = 2
    · rw [if_pos q] at hj; rw [if_pos q, hj]
    · rw [if_neg q] at hj; rw [if_neg q, hj]
  rw [st]
  refine LnR.pre q1.rm ?_
  have neg : ∀ (k : Nat) (c : Int64), c = wcT k → k < 19 → wdT X p k = false → ¬ lg_cmp j c = 0 := fun k c hc hk hw q => by
    have := (H k c hc hk).mp q
    rw [hw] at this
    cases this
  have pos : ∀ (k : Nat) (c : Int64), c = wcT k → k < 19 → wdT X p k = true → lg_cmp j c = 0 := fun k c hc hk hw => (H k c hc hk).mpr hw
  have tok : tkK X p = 1 → ∃ u, f_X10_token y m1 = some ((), u) ∧ Nq y m1 u ∧ RC X y u (tkN X p) E 0 1 ∧ RN u y T := fun hk => by
    obtain ⟨u, t1, t2, t3⟩ := r_token c1 (by omega)
    exact ⟨u, t1, t2.nq (by omega) (by omega), t3, T1.nq (t2.nq (by omega) (by omega))⟩
  cases w1 : wdT X p 1 with
  | true =>
    have w3 : wdT X p 3 = false := wd_ex w1 (by omega) (by omega) (by omega)
    have w4 : wdT X p 4 = false := wd_ex w1 (by omega) (by omega) (by omega)
    have w5 : wdT X p 5 = false := wd_ex w1 (by omega) (by omega) (by omega)
    have w6 : wdT X p 6 = false := wd_ex w1 (by omega) (by omega) (by omega)
    have w9 : wdT X p 9 = false := wd_ex w1 (by omega) (by omega) (by omega)
    have w10 : wdT X p 10 = false := wd_ex w1 (by omega) (by omega) (by omega)
    have w11 : wdT X p 11 = false := wd_ex w1 (by omega) (by omega) (by omega)
    have w12 : wdT X p 12 = false := wd_ex w1 (by omega) (by omega) (by omega)
    obtain ⟨u, t1, t2, t3, t4⟩ := tok (wdk1 w1)
    have ef : lfT X p = fmThing X p := by unfold lfT; rw [w1]; rfl
    have ee : leT X p T E = eThing T (tkS X p) (vT X (tkN X p)) (sT X (tkN X p)) (wdT X (itN X (tkN X p) 5) 2) (vT X (tkN X (itN X (tkN X p) 5)) 0) (sT X (tkN X (itN X (tkN X p) 5)) 0) E := by unfold leT; rw [w1]; rfl
    have eu : luT X p T = uThing T (vT X (tkN X p)) (wdT X (itN X (tkN X p) 5) 2) (vT X (tkN X (itN X (tkN X p) 5)) 0) := by unfold luT; rw [w1]; rfl
    rw [ef, ee, eu]
    unfold g_X10_townLine_31
    rw [if_pos (pos 1 499967946343 (by decide) (by omega) w1)]
    unfold g_X10_townLine_104 g_X10_townLine_109
    rw [if_neg (show ¬ (1 : Int32) = 0 by decide), chk_t c1.k, t1, cal_s, if_pos (pos 1 499967946343 (by decide) (by omega) w1)]
    refine LnR.pre t2.rm ?_
    rw [chk_t t3.k]
    exact (ln_pass (r_thing t3 t4 N rfl hh)).o (thO_fm X p).symm rfl
  | false =>
    cases w3 : wdT X p 3 with
    | true =>
      have w4 : wdT X p 4 = false := wd_ex w3 (by omega) (by omega) (by omega)
      have w5 : wdT X p 5 = false := wd_ex w3 (by omega) (by omega) (by omega)
      have w6 : wdT X p 6 = false := wd_ex w3 (by omega) (by omega) (by omega)
      have w9 : wdT X p 9 = false := wd_ex w3 (by omega) (by omega) (by omega)
      have w10 : wdT X p 10 = false := wd_ex w3 (by omega) (by omega) (by omega)
      have w11 : wdT X p 11 = false := wd_ex w3 (by omega) (by omega) (by omega)
      have w12 : wdT X p 12 = false := wd_ex w3 (by omega) (by omega) (by omega)
      obtain ⟨u, t1, t2, t3, t4⟩ := tok (wdk1 w3)
      have ef : lfT X p = fmT X (tkN X p) 5 := by unfold lfT; rw [w1, w3]; rfl
      have ee : leT X p T E = eWall T (tkS X p) (vT X (tkN X p)) (sT X (tkN X p)) E := by unfold leT; rw [w1, w3]; rfl
      have eu : luT X p T = addR T 1 (fun c => nI (vT X (tkN X p) c)) := by unfold luT; rw [w1, w3]; rfl
      rw [ef, ee, eu]
      unfold g_X10_townLine_31
      rw [if_neg (neg 1 499967946343 (by decide) (by omega) w1), if_pos (pos 3 2002873452 (by decide) (by omega) w3)]
      unfold g_X10_townLine_104 g_X10_townLine_109
      rw [if_neg (show ¬ (1 : Int32) = 0 by decide), chk_t c1.k, t1, cal_s, if_neg (neg 1 499967946343 (by decide) (by omega) w1), if_pos (pos 3 2002873452 (by decide) (by omega) w3)]
      refine LnR.pre t2.rm ?_
      unfold g_X10_townLine_159 g_X10_townLine_174
      rw [if_neg (neg 4 439788397413 (by decide) (by omega) w4), ck_s t3.k]
      exact ln_pass (r_wall t3 t4 N rfl hh)
    | false =>
      cases w4 : wdT X p 4 with
      | true =>
        have w5 : wdT X p 5 = false := wd_ex w4 (by omega) (by omega) (by omega)
        have w6 : wdT X p 6 = false := wd_ex w4 (by omega) (by omega) (by omega)
        have w9 : wdT X p 9 = false := wd_ex w4 (by omega) (by omega) (by omega)
        have w10 : wdT X p 10 = false := wd_ex w4 (by omega) (by omega) (by omega)
        have w11 : wdT X p 11 = false := wd_ex w4 (by omega) (by omega) (by omega)
        have w12 : wdT X p 12 = false := wd_ex w4 (by omega) (by omega) (by omega)
        obtain ⟨u, t1, t2, t3, t4⟩ := tok (wdk1 w4)
        have ef : lfT X p = fmT X (tkN X p) 4 := by unfold lfT; rw [w1, w3, w4]; rfl
        have ee : leT X p T E = eFence T (tkS X p) (vT X (tkN X p)) (sT X (tkN X p)) E := by unfold leT; rw [w1, w3, w4]; rfl
        have eu : luT X p T = addR T 2 (fun c => nI (vT X (tkN X p) c)) := by unfold luT; rw [w1, w3, w4]; rfl
        rw [ef, ee, eu]
        unfold g_X10_townLine_31
        rw [if_neg (neg 1 499967946343 (by decide) (by omega) w1), if_neg (neg 3 2002873452 (by decide) (by omega) w3), if_pos (pos 4 439788397413 (by decide) (by omega) w4)]
        unfold g_X10_townLine_104 g_X10_townLine_109
        rw [if_neg (show ¬ (1 : Int32) = 0 by decide), chk_t c1.k, t1, cal_s, if_neg (neg 1 499967946343 (by decide) (by omega) w1), if_neg (neg 3 2002873452 (by decide) (by omega) w3), if_pos (pos 4 439788397413 (by decide) (by omega) w4)]
        refine LnR.pre t2.rm ?_
        unfold g_X10_townLine_159 g_X10_townLine_174
        rw [if_pos (pos 4 439788397413 (by decide) (by omega) w4), ck_s t3.k]
        exact ln_pass (r_fence t3 t4 N rfl hh)
      | false =>
        cases w5 : wdT X p 5 with
        | true =>
          have w6 : wdT X p 6 = false := wd_ex w5 (by omega) (by omega) (by omega)
          have w9 : wdT X p 9 = false := wd_ex w5 (by omega) (by omega) (by omega)
          have w10 : wdT X p 10 = false := wd_ex w5 (by omega) (by omega) (by omega)
          have w11 : wdT X p 11 = false := wd_ex w5 (by omega) (by omega) (by omega)
          have w12 : wdT X p 12 = false := wd_ex w5 (by omega) (by omega) (by omega)
          obtain ⟨u, t1, t2, t3, t4⟩ := tok (wdk1 w5)
          have ef : lfT X p = fmT X (tkN X p) 2 := by unfold lfT; rw [w1, w3, w4, w5]; rfl
          have ee : leT X p T E = eWind (vT X (tkN X p)) (sT X (tkN X p)) E := by unfold leT; rw [w1, w3, w4, w5]; rfl
          have eu : luT X p T = uWind T (vT X (tkN X p)) := by unfold luT; rw [w1, w3, w4, w5]; rfl
          rw [ef, ee, eu]
          unfold g_X10_townLine_31
          rw [if_neg (neg 1 499967946343 (by decide) (by omega) w1), if_neg (neg 3 2002873452 (by decide) (by omega) w3), if_neg (neg 4 439788397413 (by decide) (by omega) w4), if_pos (pos 5 2003398244 (by decide) (by omega) w5)]
          unfold g_X10_townLine_104 g_X10_townLine_109
          rw [if_neg (show ¬ (1 : Int32) = 0 by decide), chk_t c1.k, t1, cal_s, if_neg (neg 1 499967946343 (by decide) (by omega) w1), if_neg (neg 3 2002873452 (by decide) (by omega) w3), if_neg (neg 4 439788397413 (by decide) (by omega) w4), if_neg (neg 6 495740481637 (by decide) (by omega) w6), if_neg (neg 9 465557354085 (by decide) (by omega) w9), if_neg (neg 10 122468482507636 (by decide) (by omega) w10), if_pos (pos 5 2003398244 (by decide) (by omega) w5)]
          refine LnR.pre t2.rm ?_
          unfold g_X10_townLine_307 g_X10_townLine_320
          rw [if_neg (neg 11 1668248436 (by decide) (by omega) w11), ck_s t3.k]
          exact ln_pass (r_wind t3 t4 N)
        | false =>
          cases w6 : wdT X p 6 with
          | true =>
            have w9 : wdT X p 9 = false := wd_ex w6 (by omega) (by omega) (by omega)
            have w10 : wdT X p 10 = false := wd_ex w6 (by omega) (by omega) (by omega)
            have w11 : wdT X p 11 = false := wd_ex w6 (by omega) (by omega) (by omega)
            have w12 : wdT X p 12 = false := wd_ex w6 (by omega) (by omega) (by omega)
            obtain ⟨u, t1, t2, t3, t4⟩ := tok (wdk1 w6)
            have ef : lfT X p = fmSlope X p := by unfold lfT; rw [w1, w3, w4, w5, w6]; rfl
            have ee : leT X p T E = eSlope X p E := by unfold leT; rw [w1, w3, w4, w5, w6]; rfl
            have eu : luT X p T = uSlope X p T := by unfold luT; rw [w1, w3, w4, w5, w6]; rfl
            rw [ef, ee, eu]
            unfold g_X10_townLine_31
            rw [if_neg (neg 1 499967946343 (by decide) (by omega) w1), if_neg (neg 3 2002873452 (by decide) (by omega) w3), if_neg (neg 4 439788397413 (by decide) (by omega) w4), if_neg (neg 5 2003398244 (by decide) (by omega) w5), if_pos (pos 6 495740481637 (by decide) (by omega) w6)]
            unfold g_X10_townLine_104 g_X10_townLine_109
            rw [if_neg (show ¬ (1 : Int32) = 0 by decide), chk_t c1.k, t1, cal_s, if_neg (neg 1 499967946343 (by decide) (by omega) w1), if_neg (neg 3 2002873452 (by decide) (by omega) w3), if_neg (neg 4 439788397413 (by decide) (by omega) w4), if_pos (pos 6 495740481637 (by decide) (by omega) w6)]
            refine LnR.pre t2.rm ?_
            rw [chk_t t3.k]
            exact (r_slopes t3 t4 N).o (slT_fm X p).symm rfl
          | false =>
            cases w9 : wdT X p 9 with
            | true =>
              have w10 : wdT X p 10 = false := wd_ex w9 (by omega) (by omega) (by omega)
              have w11 : wdT X p 11 = false := wd_ex w9 (by omega) (by omega) (by omega)
              have w12 : wdT X p 12 = false := wd_ex w9 (by omega) (by omega) (by omega)
              obtain ⟨u, t1, t2, t3, t4⟩ := tok (wdk1 w9)
              have ef : lfT X p = fmT X (tkN X p) 3 := by unfold lfT; rw [w1, w3, w4, w5, w6, w9]; rfl
              have ee : leT X p T E = eLeave T (tkS X p) (vT X (tkN X p)) (sT X (tkN X p)) E := by unfold leT; rw [w1, w3, w4, w5, w6, w9]; rfl
              have eu : luT X p T = addR T 3 (fun c => nI (vT X (tkN X p) c)) := by unfold luT; rw [w1, w3, w4, w5, w6, w9]; rfl
              rw [ef, ee, eu]
              unfold g_X10_townLine_31
              rw [if_neg (neg 1 499967946343 (by decide) (by omega) w1), if_neg (neg 3 2002873452 (by decide) (by omega) w3), if_neg (neg 4 439788397413 (by decide) (by omega) w4), if_neg (neg 5 2003398244 (by decide) (by omega) w5), if_neg (neg 6 495740481637 (by decide) (by omega) w6), if_pos (pos 9 465557354085 (by decide) (by omega) w9)]
              unfold g_X10_townLine_104 g_X10_townLine_109
              rw [if_neg (show ¬ (1 : Int32) = 0 by decide), chk_t c1.k, t1, cal_s, if_neg (neg 1 499967946343 (by decide) (by omega) w1), if_neg (neg 3 2002873452 (by decide) (by omega) w3), if_neg (neg 4 439788397413 (by decide) (by omega) w4), if_neg (neg 6 495740481637 (by decide) (by omega) w6), if_pos (pos 9 465557354085 (by decide) (by omega) w9)]
              refine LnR.pre t2.rm ?_
              rw [chk_t t3.k]
              exact ln_pass (r_leaveLine t3 t4 N rfl hh)
            | false =>
              cases w10 : wdT X p 10 with
              | true =>
                have w11 : wdT X p 11 = false := wd_ex w10 (by omega) (by omega) (by omega)
                have w12 : wdT X p 12 = false := wd_ex w10 (by omega) (by omega) (by omega)
                obtain ⟨u, t1, t2, t3, t4⟩ := tok (wdk1 w10)
                have ef : lfT X p = fmT X (tkN X p) 3 := by unfold lfT; rw [w1, w3, w4, w5, w6, w9, w10]; rfl
                have ee : leT X p T E = eObj T (tkS X p) (vT X (tkN X p)) (sT X (tkN X p)) E := by unfold leT; rw [w1, w3, w4, w5, w6, w9, w10]; rfl
                have eu : luT X p T = addR T 4 (fun c => nI (vT X (tkN X p) c)) := by unfold luT; rw [w1, w3, w4, w5, w6, w9, w10]; rfl
                rw [ef, ee, eu]
                unfold g_X10_townLine_31
                rw [if_neg (neg 1 499967946343 (by decide) (by omega) w1), if_neg (neg 3 2002873452 (by decide) (by omega) w3), if_neg (neg 4 439788397413 (by decide) (by omega) w4), if_neg (neg 5 2003398244 (by decide) (by omega) w5), if_neg (neg 6 495740481637 (by decide) (by omega) w6), if_neg (neg 9 465557354085 (by decide) (by omega) w9), if_pos (pos 10 122468482507636 (by decide) (by omega) w10)]
                unfold g_X10_townLine_104 g_X10_townLine_109
                rw [if_neg (show ¬ (1 : Int32) = 0 by decide), chk_t c1.k, t1, cal_s, if_neg (neg 1 499967946343 (by decide) (by omega) w1), if_neg (neg 3 2002873452 (by decide) (by omega) w3), if_neg (neg 4 439788397413 (by decide) (by omega) w4), if_neg (neg 6 495740481637 (by decide) (by omega) w6), if_neg (neg 9 465557354085 (by decide) (by omega) w9), if_pos (pos 10 122468482507636 (by decide) (by omega) w10)]
                refine LnR.pre t2.rm ?_
                rw [chk_t t3.k]
                exact ln_pass (r_objectLine t3 t4 N rfl hh)
              | false =>
                cases w11 : wdT X p 11 with
                | true =>
                  have w12 : wdT X p 12 = false := wd_ex w11 (by omega) (by omega) (by omega)
                  obtain ⟨u, t1, t2, t3, t4⟩ := tok (wdk1 w11)
                  have ef : lfT X p = fmT X (tkN X p) 2 := by unfold lfT; rw [w1, w3, w4, w5, w6, w9, w10, w11]; rfl
                  have ee : leT X p T E = eCost T (vT X (tkN X p)) (sT X (tkN X p)) E := by unfold leT; rw [w1, w3, w4, w5, w6, w9, w10, w11]; rfl
                  have eu : luT X p T = uCost T (vT X (tkN X p)) := by unfold luT; rw [w1, w3, w4, w5, w6, w9, w10, w11]; rfl
                  rw [ef, ee, eu]
                  unfold g_X10_townLine_31
                  rw [if_neg (neg 1 499967946343 (by decide) (by omega) w1), if_neg (neg 3 2002873452 (by decide) (by omega) w3), if_neg (neg 4 439788397413 (by decide) (by omega) w4), if_neg (neg 5 2003398244 (by decide) (by omega) w5), if_neg (neg 6 495740481637 (by decide) (by omega) w6), if_neg (neg 9 465557354085 (by decide) (by omega) w9), if_neg (neg 10 122468482507636 (by decide) (by omega) w10), if_pos (pos 11 1668248436 (by decide) (by omega) w11)]
                  unfold g_X10_townLine_104 g_X10_townLine_109
                  rw [if_neg (show ¬ (1 : Int32) = 0 by decide), chk_t c1.k, t1, cal_s, if_neg (neg 1 499967946343 (by decide) (by omega) w1), if_neg (neg 3 2002873452 (by decide) (by omega) w3), if_neg (neg 4 439788397413 (by decide) (by omega) w4), if_neg (neg 6 495740481637 (by decide) (by omega) w6), if_neg (neg 9 465557354085 (by decide) (by omega) w9), if_neg (neg 10 122468482507636 (by decide) (by omega) w10), if_neg (neg 5 2003398244 (by decide) (by omega) w5)]
                  refine LnR.pre t2.rm ?_
                  unfold g_X10_townLine_307 g_X10_townLine_320
                  rw [if_pos (pos 11 1668248436 (by decide) (by omega) w11), ck_s t3.k]
                  exact ln_pass (r_cost t3 t4 N)
                | false =>
                  cases w12 : wdT X p 12 with
                  | true =>
                    obtain ⟨u, t1, t2, t3, t4⟩ := tok (wdk1 w12)
                    have ef : lfT X p = fmT X (tkN X p) 2 := by unfold lfT; rw [w1, w3, w4, w5, w6, w9, w10, w11, w12]; rfl
                    have ee : leT X p T E = eGrow (vT X (tkN X p)) (sT X (tkN X p)) E := by unfold leT; rw [w1, w3, w4, w5, w6, w9, w10, w11, w12]; rfl
                    have eu : luT X p T = uGrow T (vT X (tkN X p)) := by unfold luT; rw [w1, w3, w4, w5, w6, w9, w10, w11, w12]; rfl
                    rw [ef, ee, eu]
                    unfold g_X10_townLine_31
                    rw [if_neg (neg 1 499967946343 (by decide) (by omega) w1), if_neg (neg 3 2002873452 (by decide) (by omega) w3), if_neg (neg 4 439788397413 (by decide) (by omega) w4), if_neg (neg 5 2003398244 (by decide) (by omega) w5), if_neg (neg 6 495740481637 (by decide) (by omega) w6), if_neg (neg 9 465557354085 (by decide) (by omega) w9), if_neg (neg 10 122468482507636 (by decide) (by omega) w10), if_neg (neg 11 1668248436 (by decide) (by omega) w11), if_pos (pos 12 1735552887 (by decide) (by omega) w12)]
                    unfold g_X10_townLine_104 g_X10_townLine_109
                    rw [if_neg (show ¬ (1 : Int32) = 0 by decide), chk_t c1.k, t1, cal_s, if_neg (neg 1 499967946343 (by decide) (by omega) w1), if_neg (neg 3 2002873452 (by decide) (by omega) w3), if_neg (neg 4 439788397413 (by decide) (by omega) w4), if_neg (neg 6 495740481637 (by decide) (by omega) w6), if_neg (neg 9 465557354085 (by decide) (by omega) w9), if_neg (neg 10 122468482507636 (by decide) (by omega) w10), if_neg (neg 5 2003398244 (by decide) (by omega) w5)]
                    refine LnR.pre t2.rm ?_
                    unfold g_X10_townLine_307 g_X10_townLine_320
                    rw [if_neg (neg 11 1668248436 (by decide) (by omega) w11), ck_s t3.k]
                    exact ln_pass (r_grow t3 t4 N)
                  | false =>
                    obtain ⟨u, s1, s2, s3⟩ := r_stops c1
                    have ef : lfT X p = .inl (tkS X p) := by unfold lfT; rw [w1, w3, w4, w5, w6, w9, w10, w11, w12]; rfl
                    unfold g_X10_townLine_31
                    rw [if_neg (neg 1 499967946343 (by decide) (by omega) w1), if_neg (neg 3 2002873452 (by decide) (by omega) w3), if_neg (neg 4 439788397413 (by decide) (by omega) w4), if_neg (neg 5 2003398244 (by decide) (by omega) w5), if_neg (neg 6 495740481637 (by decide) (by omega) w6), if_neg (neg 9 465557354085 (by decide) (by omega) w9), if_neg (neg 10 122468482507636 (by decide) (by omega) w10), if_neg (neg 11 1668248436 (by decide) (by omega) w11), if_neg (neg 12 1735552887 (by decide) (by omega) w12)]
                    unfold g_X10_townLine_109
                    rw [if_pos rfl, chk_t c1.k, s1, cal_s, chk_t (.inl rfl), ef]
                    exact lr_f rfl rfl s2.rm s3
theorem r_sane (v : Int32) : f_X10_sane y v 8 m = some (cond (inR v 0 8) v 0, m) := by
  unfold f_X10_sane g_X10_sane_0
  rw [r_in, cal_s]
  cases inR v 0 8 <;> rfl
theorem inR_18 {v : Int32} (h : inR v 1 8 = true) : inR v 0 8 = true := by
  unfold inR at *
  simp only [Bool.and_eq_true, Bool.not_eq_true', decide_eq_false_iff_not, i_lt] at *
  have a1 : (1 : Int32).toInt = 1 := rfl
  have a0 : (0 : Int32).toInt = 0 := rfl
  omega
theorem r_sizeLine {T : TW} (h : RC X y m p E n g) (hT : RN m y T) (N : NT T) : LnR X y m (f_X10_sizeLine y m) (fmSize X p) (eSize (vT X (tkN X p)) (sT X (tkN X p)) E) (Ct y (eSize (vT X (tkN X p)) (sT X (tkN X p)) E) (uSize T (vT X (tkN X p)))) := by
  have hp := h.2.2.2.2.2
  unfold f_X10_sizeLine g_X10_sizeLine_0 fmSize
  rw [chk_t h.k, r_isWord h (k := 0) (by decide) (by omega), cal_s]
  cases hw : wdT X p 0 with
  | false =>
    obtain ⟨u, s1, s2, s3⟩ := r_stops h
    rw [if_pos (show bI false = 0 by rfl), chk_t h.k, s1, cal_s, chk_t (.inl rfl)]
    exact lr_f rfl rfl s2.rm s3
  | true =>
    obtain ⟨u1, t1, t2, t3⟩ := r_token h (by have := wdk1 hw; omega)
    have q1 := t2.nq (by omega) (by omega)
    rw [if_neg (show ¬ bI true = 0 by decide), chk_t h.k, t1, cal_s, chk_t t3.k, bnd_e]
    obtain ⟨m1, hm1⟩ : ∃ q, q = u1.sI 1148 y 0 0 := ⟨_, rfl⟩
    rw [← hm1]
    have o1 : Rs y 1148 1149 u1 m1 := by rw [hm1]; exact (Rs.rf y _ _ u1).sI _ _ _ (by omega) (by omega) (by omega)
    have i1 : ∀ s, s ≠ 1148 → m1.I s y 0 = u1.I s y 0 := fun s h1 => by rw [hm1, I_sI, if_neg (by omega)]
    have c1 : RC X y m1 (tkN X p) E 0 g := ⟨t3.1.rs o1, t3.2.1.of (fun s _ _ => i1 s (by omega)) (by rw [hm1]; rfl), ⟨(i1 _ (by omega)).trans t3.2.2.1.1, fun z => ⟨(i1 _ (by omega)).trans (t3.2.2.1.2 z).1, (t3.2.2.1.2 z).2⟩⟩, by rw [hm1, I_sI, if_pos ⟨rfl, rfl, rfl⟩]; rfl, (i1 _ (by omega)).trans t3.2.2.2.2.1, t3.2.2.2.2.2⟩
    have Q1 := q1.tr (o1.nq (by omega) (by omega))
    have T1 := hT.nq Q1
    show LnR X y m _ (fmT X (tkN X p) 2) _ _
    refine r_num (q := tkN X p) (k := 0) (P := fun R => LnR X y m (cal R _) _ _ _) c1 (by omega) rfl (fun i hi => by omega) 1 8 _ rfl (fun u pl a1 a2 a3 => ?_) (fun u2 a1 a2 a3 a4 a5 => ?_)
    · rw [cal_s, if_pos rfl]
      exact lr_f rfl (by unfold fmT; rw [nmT_l a1 1]; rfl) (Q1.tr a2).rm a3
    rw [cal_s, if_neg (by decide), chk_t a3.k]
    refine r_num (P := fun R => LnR X y m (cal R _) _ _ _) a3 (by omega) a1 a4 1 8 _ rfl (fun u pl b1 b2 b3 => ?_) (fun u3 b1 b2 b3 b4 b5 => ?_)
    · rw [cal_s, if_pos rfl]
      exact lr_f rfl (by unfold fmT; rw [b1]; rfl) ((Q1.tr a2).tr b2).rm b3
    have O := (Q1.tr a2).tr b2
    have T3 := hT.nq O
    have M3 := b3.md
    obtain ⟨u4, hu4⟩ : ∃ q, q = u3.sI 22 (y + 39) 0 (cond (inR (nI (vT X (tkN X p) 0)) 0 8) (nI (vT X (tkN X p) 0)) 0) := ⟨_, rfl⟩
    have o4 : Wr y 39 0 32 u3 u4 := by rw [hu4]; exact (Wr.rf _ _ _ _ u3).sI _ _ (by omega) (by omega)
    have c4 := b3.wr o4 (by omega)
    have M4 := c4.md
    have T4 := T3.set (j := 0) (k := 0) hu4 (by omega)
    have r1 : u4.I 22 (y + 38) 1 = nI (vT X (tkN X p) 1) := (o4.2.2.2.2.2 _ _ _ (by omega)).trans (b4 1 (by omega))
    obtain ⟨u5, hu5⟩ : ∃ q, q = u4.sI 22 (y + 39) 1 (cond (inR (nI (vT X (tkN X p) 1)) 0 8) (nI (vT X (tkN X p) 1)) 0) := ⟨_, rfl⟩
    have o5 : Wr y 39 0 32 u4 u5 := by rw [hu5]; exact (Wr.rf _ _ _ _ u4).sI _ _ (by omega) (by omega)
    have c5 := c4.wr o5 (by omega)
    have T5 := T4.set (j := 1) (k := 1) hu5 (by omega)
    have O5 := (O.rm.tr (o4.rm (by omega) (by omega))).tr (o5.rm (by omega) (by omega))
    rw [cal_s, if_neg (by decide), chk_t b3.k, M3.c1147, M3.n1147, chk_t (show inb 0 6 = true by decide), show Int32.toNatClampNeg 0 = 0 from rfl, b4 0 (by omega), r_sane, cal_s, M3.c1150, M3.n1150, chk_t (show inb 0 32 = true by decide), bnd_e, ← hu4, chk_t c4.k, M4.c1147, M4.n1147, chk_t (show inb 1 6 = true by decide), show Int32.toNatClampNeg 1 = 1 from rfl, r1, r_sane, cal_s, M4.c1150, M4.n1150, chk_t (show inb 1 32 = true by decide), bnd_e, ← hu5, chk_t c5.k]
    have ho : ∀ q, stT X (itN X (tkN X p) 2) = q → fmT X (tkN X p) 2 = q := fun q hq => by unfold fmT; rw [b1]; exact hq
    rcases r_passes c5 with ⟨d1, u6, d2, d3, d4⟩ | ⟨d1, u6, d2, d3, d4⟩
    · rw [d2, cal_s, chk_t (.inl rfl)]
      exact lr_f rfl (ho _ d1) (O5.tr d3.rm) d4
    · rw [d2, cal_s, chk_t (.inr rfl)]
      refine .inr ⟨u6, _, _, _, rfl, ho _ d1, O5.tr d3.rm, d4, _, T5.nq d3, N, fun z0 => ?_⟩
      obtain ⟨z1, z2⟩ := e2T_0 z0
      obtain ⟨z3, z4⟩ := e2T_0 z1
      rw [inR_18 z2, inR_18 z4]
      rfl
end RTown
