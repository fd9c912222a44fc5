/-! the reference is made -/
def bldX (y : Nat) : List (Nat × Nat × Nat × Nat) → (MM → Option (Unit × MM)) → MM → Option (Unit × MM)
  | [], X, q => X q
  | e :: L, X, q => bnd q.S (fun a => bnd (q.nw e.2.2.1 e.2.2.2) (fun m1 => chk (m1.K y = 11) (bnd (m1.sR e.1 y 0 (some a)) (fun m2 => bldX y L X m2))))
/-- what stands of it after some arrays -/
def PMo (m : MM) (y : Nat) (L : List (Nat × Nat × Nat × Nat)) (q : MM) : Prop := q.S = y + 1 + L.length ∧ q.K y = 11 ∧ (∀ e, e ∈ L → q.R e.1 y 0 = some (y + e.2.1) ∧ q.K (y + e.2.1) = e.2.2.1 ∧ q.N (y + e.2.1) = e.2.2.2 ∧ 0 < e.2.1 ∧ e.2.1 ≤ L.length) ∧ (∀ s a i, y < a → a < q.S → q.I s a i = 0) ∧ Gz (fun _ b _ => b = y) m q
/-- fields that go up, offsets one by one -/
def ascL : List (Nat × Nat × Nat × Nat) → Nat → Nat → Bool
  | [], _, _ => true
  | e :: L, f, o => decide (f < e.1) && decide (e.2.1 = o + 1) && ascL L e.1 (o + 1)
theorem bld_ok {m : MM} {y : Nat} : ∀ (L : List (Nat × Nat × Nat × Nat)) (D : List (Nat × Nat × Nat × Nat)) (f : Nat) (q : MM) (X : MM → Option (Unit × MM)), ascL L f D.length = true → (∀ e, e ∈ D → e.1 ≤ f) → PMo m y D q → ∃ n, PMo m y (D ++ L) n ∧ bldX y L X q = X n
  | [], D, f, q, X, _, _, h => ⟨q, by rw [List.append_nil]; exact h, rfl⟩
  | e :: L, D, f, q, X, ha, hf, h => by
    obtain ⟨h1, h2, h3, h4, h5⟩ := h
    have ha' : (decide (f < e.1) && decide (e.2.1 = D.length + 1) && ascL L e.1 (D.length + 1)) = true := ha
    rw [Bool.and_eq_true, Bool.and_eq_true] at ha'
    obtain ⟨⟨a1, a2⟩, a3⟩ := ha'
    have a1 : f < e.1 := of_decide_eq_true a1
    have a2 : e.2.1 = D.length + 1 := of_decide_eq_true a2
    have hy : y ≠ q.S := by omega
    have eS : q.S = y + e.2.1 := by omega
    have kq : (q.nw e.2.2.1 e.2.2.2).K y = 11 := by rw [K_nw, if_neg hy]; exact h2
    have P1 : PMo m y (D ++ [e]) ((q.nw e.2.2.1 e.2.2.2).sR e.1 y 0 (some q.S)) := by
      refine ⟨?_, kq, fun d hd => ?_, fun s a i ha hb => ?_, (h5.nw _ _).sR _ _ _ _ (.inl rfl)⟩
      · rw [S_sR, S_nw, List.length_append, h1]; rfl
      · rw [List.length_append]
        rcases List.mem_append.mp hd with u | u
        · obtain ⟨b1, b2, b3, b4, b5⟩ := h3 d u
          have hfd := hf d u
          refine ⟨?_, ?_, ?_, b4, Nat.le_trans b5 (Nat.le_add_right _ _)⟩
          · rw [R_sR, if_neg (by omega), R_nw, if_neg hy]; exact b1
          · rw [K_sR, K_nw, if_neg (by omega)]; exact b2
          · rw [N_sR, N_nw, if_neg (by omega)]; exact b3
        · have : d = e := by simpa using u
          subst this
          refine ⟨?_, ?_, ?_, by omega, ?_⟩
          · rw [R_sR, if_pos ⟨rfl, rfl, rfl⟩, eS]
          · rw [K_sR, K_nw, if_pos eS.symm]
          · rw [N_sR, N_nw, if_pos eS.symm]
          · show d.2.1 ≤ D.length + 1; omega
      · rw [I_sR, I_nw]
        by_cases z : a = q.S
        · rw [if_pos z]
        · rw [S_sR, S_nw] at hb
          rw [if_neg z]; exact h4 s a i ha (by omega)
    obtain ⟨n, e1, e2⟩ := bld_ok L (D ++ [e]) e.1 _ X (by rw [List.length_append]; exact a3) (fun d hd => by
      rcases List.mem_append.mp hd with u | u
      · have := hf d u; omega
      · have : d = e := by simpa using u
        rw [this]; exact Nat.le_refl _) P1
    refine ⟨n, ?_, ?_⟩
    · rw [List.append_assoc] at e1; exact e1
    · show bnd q.S (fun a => bnd (q.nw e.2.2.1 e.2.2.2) (fun m1 => chk (m1.K y = 11) (bnd (m1.sR e.1 y 0 (some a)) (fun m2 => bldX y L X m2)))) = X n
      rw [bnd_e, bnd_e, chk_t kq, bnd_e]
      exact e2
theorem asc_md : ascL mdL 0 0 = true := by decide +kernel
set_option maxRecDepth 20000 in
theorem init_bld (y : Nat) (m : MM) : f_X10_init y m = bldX y mdL (fun m112 => ck m112 (m112.R 1104 y 0) 22 (fun a57 => chk (inb 0 (m112.N a57) = true) (bnd (m112.sI 22 a57 (Int32.toNatClampNeg 0) (-1)) (fun m113 => some ((), m113))))) m := rfl
theorem i_model {m : MM} {y : Nat} (h : frs m y 11) : ∃ n, f_X10_init y m = some ((), n) ∧ n.S = y + 57 ∧ Gz (fun _ b _ => b = y) m n ∧ Md n y ∧ (∀ s a i, y < a → a < y + 57 → ¬ (s = 22 ∧ a = y + 4 ∧ i = 0) → n.I s a i = 0) ∧ n.I 22 (y + 4) 0 = -1 := by
  obtain ⟨hS, hK, h00⟩ := h
  have P0 : PMo m y [] m := ⟨hS, hK, fun e he => absurd he (by simp), fun s a i h1 h2 => by omega, Gz.rf _ m⟩
  obtain ⟨q, ⟨p1, p2, p3, p4, p5⟩, e⟩ := bld_ok mdL [] 0 m (fun m112 => ck m112 (m112.R 1104 y 0) 22 (fun a57 => chk (inb 0 (m112.N a57) = true) (bnd (m112.sI 22 a57 (Int32.toNatClampNeg 0) (-1)) (fun m113 => some ((), m113))))) asc_md (fun e he => absurd he (by simp)) P0
  rw [List.nil_append] at p1 p3
  have hl : mdL.length = 56 := by decide
  have M : Md q y := ⟨p2, fun e he => ⟨(p3 e he).1, (p3 e he).2.1, (p3 e he).2.2.1⟩⟩
  refine ⟨q.sI 22 (y + 4) 0 (-1), ?_, by rw [S_sI, p1, hl], p5.sI _ _ _ _ (.inr (by omega)), M, fun s a i ha hb hn => by rw [I_sI, if_neg hn]; exact p4 s a i ha (by omega), by rw [I_sI, if_pos ⟨rfl, rfl, rfl⟩]⟩
  rw [init_bld, e, M.c1104, M.n1104, chk_t (show inb 0 4 = true by decide), bnd_e]
  rfl
/-! the class is made -/
/-- an array of bodies in the making -/
def PBo (m : MM) (th fld kd arr N j : Nat) (q : MM) : Prop := q.S = arr + 1 + j ∧ q.K th = kd ∧ q.R fld th 0 = some arr ∧ q.K arr = 25 ∧ q.N arr = N ∧ (∀ i, i < j → q.R 25 arr i = some (arr + 1 + i) ∧ q.K (arr + 1 + i) = 1) ∧ Gz (fun _ b _ => b = th) m q ∧ ∀ s, s ≠ fld → q.R s th 0 = m.R s th 0
theorem PBo.step {m q : MM} {th fld kd arr N j : Nat} {ji : Int32} (h : PBo m th fld kd arr N j q) (hm : m.S ≤ arr) (ht : th < arr) (hf : fld ≠ 25) (hj : ji = nI j) (hN : j < N) (hN2 : N ≤ 12) : ∃ n, PBo m th fld kd arr N (j + 1) n ∧ ∀ X : MM → Option (Unit × MM), (bnd q.S (fun a2 => bnd (q.nw 1 0) (fun m3 => cal (f_X0_init a2 m3) (fun r1 m4 => ck m4 (q.R fld th 0) 25 (fun a3 => chk (m4.K a2 = 1) (chk (inb ji (m4.N a3) = true) (bnd (m4.sR 25 a3 (Int32.toNatClampNeg ji) (some a2)) X))))))) = X n := by
  subst hj
  obtain ⟨h1, h2, h3, h4, h5, h6, h7, h8⟩ := h
  have k1 : (q.nw 1 0).K arr = 25 := by rw [K_nw, if_neg (by omega)]; exact h4
  have k2 : (q.nw 1 0).K q.S = 1 := by rw [K_nw, if_pos rfl]
  have n1 : (q.nw 1 0).N arr = N := by rw [N_nw, if_neg (by omega)]; exact h5
  refine ⟨(q.nw 1 0).sR 25 arr j (some q.S), ⟨by rw [S_sR, S_nw, h1]; omega, by rw [K_sR, K_nw, if_neg (by omega)]; exact h2, by rw [R_sR, if_neg (by omega), R_nw, if_neg (by omega)]; exact h3, k1, n1, fun i hi => ?_, (h7.nw _ _).sR _ _ _ _ (.inr hm), fun s hs => by rw [R_sR, if_neg (by omega), R_nw, if_neg (by omega)]; exact h8 s hs⟩, fun X => ?_⟩
  · by_cases z : i = j
    · subst z
      exact ⟨by rw [R_sR, if_pos ⟨rfl, rfl, rfl⟩, h1], by rw [K_sR, K_nw, if_pos h1.symm]⟩
    · obtain ⟨b1, b2⟩ := h6 i (by omega)
      exact ⟨by rw [R_sR, if_neg (by omega), R_nw, if_neg (by omega)]; exact b1, by rw [K_sR, K_nw, if_neg (by omega)]; exact b2⟩
  · unfold f_X0_init
    rw [bnd_e, bnd_e, cal_s, ck_e h3 k1, chk_t k2, n1, chk_t (inb_nI hN (by omega)), bnd_e, cl_nI (by omega)]
/-- a scene -/
def ShS (n : MM) (t : Nat) : Prop := n.K t = 6 ∧ n.R 600 t 0 = some (t + 1) ∧ n.R 601 t 0 = some (t + 14) ∧ n.K (t + 1) = 25 ∧ n.N (t + 1) = 12 ∧ n.K (t + 14) = 22 ∧ n.N (t + 14) = 12 ∧ ∀ i, i < 12 → n.R 25 (t + 1) i = some (t + 2 + i) ∧ n.K (t + 2 + i) = 1
theorem i_scene {m : MM} {t : Nat} (h : frs m t 6) : ∃ n, f_X5_init t m = some ((), n) ∧ n.S = t + 15 ∧ Gz (fun _ b _ => b = t) m n ∧ ShS n t := by
  obtain ⟨hS, hK, h0⟩ := h
  have k1 : (m.nw 25 12).K t = 6 := by rw [K_nw, if_neg (by omega)]; exact hK
  have P0 : PBo m t 600 6 (t + 1) 12 0 ((m.nw 25 12).sR 600 t 0 (some (t + 1))) := ⟨by rw [S_sR, S_nw, hS], k1, by rw [R_sR, if_pos ⟨rfl, rfl, rfl⟩], by rw [K_sR, K_nw, if_pos hS.symm], by rw [N_sR, N_nw, if_pos hS.symm], fun i hi => by omega, ((Gz.rf _ m).nw _ _).sR _ _ _ _ (.inl rfl), fun s hs => by rw [R_sR, if_neg (by omega), R_nw, if_neg (by omega)]⟩
  obtain ⟨q1, P1, x1⟩ := P0.step (ji := 0) (by omega) (by omega) (by omega) rfl (by omega) (by omega)
  obtain ⟨q2, P2, x2⟩ := P1.step (ji := 1) (by omega) (by omega) (by omega) rfl (by omega) (by omega)
  obtain ⟨q3, P3, x3⟩ := P2.step (ji := 2) (by omega) (by omega) (by omega) rfl (by omega) (by omega)
  obtain ⟨q4, P4, x4⟩ := P3.step (ji := 3) (by omega) (by omega) (by omega) rfl (by omega) (by omega)
  obtain ⟨q5, P5, x5⟩ := P4.step (ji := 4) (by omega) (by omega) (by omega) rfl (by omega) (by omega)
  obtain ⟨q6, P6, x6⟩ := P5.step (ji := 5) (by omega) (by omega) (by omega) rfl (by omega) (by omega)
  obtain ⟨q7, P7, x7⟩ := P6.step (ji := 6) (by omega) (by omega) (by omega) rfl (by omega) (by omega)
  obtain ⟨q8, P8, x8⟩ := P7.step (ji := 7) (by omega) (by omega) (by omega) rfl (by omega) (by omega)
  obtain ⟨q9, P9, x9⟩ := P8.step (ji := 8) (by omega) (by omega) (by omega) rfl (by omega) (by omega)
  obtain ⟨q10, P10, x10⟩ := P9.step (ji := 9) (by omega) (by omega) (by omega) rfl (by omega) (by omega)
  obtain ⟨q11, P11, x11⟩ := P10.step (ji := 10) (by omega) (by omega) (by omega) rfl (by omega) (by omega)
  obtain ⟨q12, P12, x12⟩ := P11.step (ji := 11) (by omega) (by omega) (by omega) rfl (by omega) (by omega)
  have hy : t ≠ q12.S := by have := P12.1; omega
  have k12 : (q12.nw 22 12).K t = 6 := by rw [K_nw, if_neg hy]; exact P12.2.1
  have e : f_X5_init t m = some ((), (q12.nw 22 12).sR 601 t 0 (some q12.S)) := by
    unfold f_X5_init
    rw [bnd_e, bnd_e, chk_t k1, hS, bnd_e]
    refine (x1 _).trans ?_
    rw [chk_t P1.2.1]
    refine (x2 _).trans ?_
    rw [chk_t P2.2.1]
    refine (x3 _).trans ?_
    rw [chk_t P3.2.1]
    refine (x4 _).trans ?_
    rw [chk_t P4.2.1]
    refine (x5 _).trans ?_
    rw [chk_t P5.2.1]
    refine (x6 _).trans ?_
    rw [chk_t P6.2.1]
    refine (x7 _).trans ?_
    rw [chk_t P7.2.1]
    refine (x8 _).trans ?_
    rw [chk_t P8.2.1]
    refine (x9 _).trans ?_
    rw [chk_t P9.2.1]
    refine (x10 _).trans ?_
    rw [chk_t P10.2.1]
    refine (x11 _).trans ?_
    rw [chk_t P11.2.1]
    refine (x12 _).trans ?_
    rw [bnd_e, bnd_e, chk_t k12, bnd_e]
  obtain ⟨p1, p2, p3, p4, p5, p6, p7, _⟩ := P12
  refine ⟨_, e, by rw [S_sR, S_nw, p1], (p7.nw _ _).sR _ _ _ _ (.inl rfl), k12, ?_, ?_, ?_, ?_, ?_, ?_, fun i hi => ⟨?_, ?_⟩⟩
  · rw [R_sR, if_neg (by omega), R_nw, if_neg hy]; exact p3
  · rw [R_sR, if_pos ⟨rfl, rfl, rfl⟩, p1]
  · rw [K_sR, K_nw, if_neg (by omega)]; exact p4
  · rw [N_sR, N_nw, if_neg (by omega)]; exact p5
  · rw [K_sR, K_nw, if_pos (by omega)]
  · rw [N_sR, N_nw, if_pos (by omega)]
  · rw [R_sR, if_neg (by omega), R_nw, if_neg (by omega)]; exact (p6 i hi).1
  · rw [K_sR, K_nw, if_neg (by omega)]; exact (p6 i hi).2
/-- a planner -/
def ShP (n : MM) (t c : Nat) : Prop := n.K t = 4 ∧ n.R 400 t 0 = some c ∧ n.R 401 t 0 = some (t + 1) ∧ n.R 402 t 0 = some (t + 5) ∧ n.R 403 t 0 = some (t + 6) ∧ n.K (t + 1) = 25 ∧ n.N (t + 1) = 3 ∧ n.K (t + 5) = 23 ∧ n.N (t + 5) = 3 ∧ n.K (t + 6) = 23 ∧ n.N (t + 6) = 64 ∧ ∀ i, i < 3 → n.R 25 (t + 1) i = some (t + 2 + i) ∧ n.K (t + 2 + i) = 1
theorem i_planner {m : MM} {t : Nat} (c : Nat) (h : frs m t 4) : ∃ n, f_X3_init t (some c) m = some ((), n) ∧ n.S = t + 7 ∧ Gz (fun _ b _ => b = t) m n ∧ ShP n t c := by
  obtain ⟨hS, hK, h0⟩ := h
  obtain ⟨m1, hm1⟩ : ∃ q, q = m.sR 400 t 0 (some c) := ⟨_, rfl⟩
  have S1 : m1.S = t + 1 := by rw [hm1, S_sR]; exact hS
  have K1 : m1.K t = 4 := by rw [hm1, K_sR]; exact hK
  have r4 : m1.R 400 t 0 = some c := by rw [hm1, R_sR, if_pos ⟨rfl, rfl, rfl⟩]
  have g1 : Gz (fun _ b _ => b = t) m m1 := by rw [hm1]; exact (Gz.rf _ m).sR _ _ _ _ (.inl rfl)
  have k2 : (m1.nw 25 3).K t = 4 := by rw [K_nw, if_neg (by omega)]; exact K1
  have P0 : PBo m1 t 401 4 (t + 1) 3 0 ((m1.nw 25 3).sR 401 t 0 (some (t + 1))) := ⟨by rw [S_sR, S_nw, S1], k2, by rw [R_sR, if_pos ⟨rfl, rfl, rfl⟩], by rw [K_sR, K_nw, if_pos S1.symm], by rw [N_sR, N_nw, if_pos S1.symm], fun i hi => by omega, ((Gz.rf _ m1).nw _ _).sR _ _ _ _ (.inl rfl), fun s hs => by rw [R_sR, if_neg (by omega), R_nw, if_neg (by omega)]⟩
  obtain ⟨q1, P1, x1⟩ := P0.step (ji := 0) (by omega) (by omega) (by omega) rfl (by omega) (by omega)
  obtain ⟨q2, P2, x2⟩ := P1.step (ji := 1) (by omega) (by omega) (by omega) rfl (by omega) (by omega)
  obtain ⟨q3, P3, x3⟩ := P2.step (ji := 2) (by omega) (by omega) (by omega) rfl (by omega) (by omega)
  have hS3 : q3.S = t + 5 := by have := P3.1; omega
  have k3 : (q3.nw 23 3).K t = 4 := by rw [K_nw, if_neg (by omega)]; exact P3.2.1
  obtain ⟨q4, hq4⟩ : ∃ q, q = (q3.nw 23 3).sR 402 t 0 (some (t + 5)) := ⟨_, rfl⟩
  have hS4 : q4.S = t + 6 := by rw [hq4, S_sR, S_nw, hS3]
  have K4 : q4.K t = 4 := by rw [hq4, K_sR]; exact k3
  have k5 : (q4.nw 23 64).K t = 4 := by rw [K_nw, if_neg (by omega)]; exact K4
  have e : f_X3_init t (some c) m = some ((), (q4.nw 23 64).sR 403 t 0 (some (t + 6))) := by
    unfold f_X3_init
    rw [chk_t hK, bnd_e, ← hm1, bnd_e, bnd_e, chk_t k2, S1, bnd_e]
    refine (x1 _).trans ?_
    rw [chk_t P1.2.1]
    refine (x2 _).trans ?_
    rw [chk_t P2.2.1]
    refine (x3 _).trans ?_
    rw [bnd_e, bnd_e, chk_t k3, hS3, bnd_e, ← hq4, bnd_e, bnd_e, chk_t k5, hS4, bnd_e]
  clear x1 x2 x3
  obtain ⟨p1, p2, p3, p4, p5, p6, p7, p8⟩ := P3
  have R4 : ∀ s a i, a < q3.S → ¬ (s = 402 ∧ a = t ∧ i = 0) → q4.R s a i = q3.R s a i := fun s a i ha hn => by rw [hq4, R_sR, if_neg hn, R_nw, if_neg (by omega)]
  have g4 : Gz (fun _ b _ => b = t) m q4 := by rw [hq4]; exact (((g1.tr p7).nw _ _).sR _ _ _ _ (.inl rfl))
  have R5 : ∀ s a i, a < q4.S → ¬ (s = 403 ∧ a = t ∧ i = 0) → ((q4.nw 23 64).sR 403 t 0 (some (t + 6))).R s a i = q4.R s a i := fun s a i ha hn => by rw [R_sR, if_neg hn, R_nw, if_neg (by omega)]
  have KK : ∀ a, a < q3.S → ((q4.nw 23 64).sR 403 t 0 (some (t + 6))).K a = q3.K a ∧ ((q4.nw 23 64).sR 403 t 0 (some (t + 6))).N a = q3.N a := fun a ha => ⟨by rw [K_sR, K_nw, if_neg (by omega), hq4, K_sR, K_nw, if_neg (by omega)], by rw [N_sR, N_nw, if_neg (by omega), hq4, N_sR, N_nw, if_neg (by omega)]⟩
  refine ⟨_, e, by rw [S_sR, S_nw, hS4], (g4.nw _ _).sR _ _ _ _ (.inl rfl), k5, ?_, ?_, ?_, ?_, ?_, ?_, ?_, ?_, ?_, ?_, fun i hi => ⟨?_, ?_⟩⟩
  · rw [R5 _ _ _ (by omega) (by omega), R4 _ _ _ (by omega) (by omega), p8 400 (by omega)]; exact r4
  · rw [R5 _ _ _ (by omega) (by omega), R4 _ _ _ (by omega) (by omega)]; exact p3
  · rw [R5 _ _ _ (by omega) (by omega), hq4, R_sR, if_pos ⟨rfl, rfl, rfl⟩]
  · rw [R_sR, if_pos ⟨rfl, rfl, rfl⟩]
  · rw [(KK _ (by omega)).1]; exact p4
  · rw [(KK _ (by omega)).2]; exact p5
  · rw [K_sR, K_nw, if_neg (by omega), hq4, K_sR, K_nw, if_pos hS3.symm]
  · rw [N_sR, N_nw, if_neg (by omega), hq4, N_sR, N_nw, if_pos hS3.symm]
  · rw [K_sR, K_nw, if_pos hS4.symm]
  · rw [N_sR, N_nw, if_pos hS4.symm]
  · rw [R5 _ _ _ (by omega) (by omega), R4 _ _ _ (by omega) (by omega)]; exact (p6 i hi).1
  · rw [(KK _ (by omega)).1]; exact (p6 i hi).2
/-- a court -/
def ShC (n : MM) (t c : Nat) : Prop := n.K t = 2 ∧ n.R 200 t 0 = some c ∧ n.R 201 t 0 = some (t + 1) ∧ n.R 202 t 0 = some (t + 2) ∧ n.K (t + 1) = 22 ∧ n.N (t + 1) = 1320 ∧ n.K (t + 2) = 24 ∧ n.N (t + 2) = 64
theorem i_court {m : MM} {t : Nat} (c : Nat) (h : frs m t 2) : ∃ n, f_X1_init t (some c) m = some ((), n) ∧ n.S = t + 3 ∧ Gz (fun _ b _ => b = t) m n ∧ ShC n t c := by
  obtain ⟨hS, hK, h0⟩ := h
  obtain ⟨m1, hm1⟩ : ∃ q, q = m.sR 200 t 0 (some c) := ⟨_, rfl⟩
  have S1 : m1.S = t + 1 := by rw [hm1, S_sR]; exact hS
  have K1 : m1.K t = 2 := by rw [hm1, K_sR]; exact hK
  have g1 : Gz (fun _ b _ => b = t) m m1 := by rw [hm1]; exact (Gz.rf _ m).sR _ _ _ _ (.inl rfl)
  obtain ⟨m2, hm2⟩ : ∃ q, q = (m1.nw 22 1320).sR 201 t 0 (some (t + 1)) := ⟨_, rfl⟩
  have k1 : (m1.nw 22 1320).K t = 2 := by rw [K_nw, if_neg (by omega)]; exact K1
  have S2 : m2.S = t + 2 := by rw [hm2, S_sR, S_nw, S1]
  have K2 : m2.K t = 2 := by rw [hm2, K_sR]; exact k1
  have g2 : Gz (fun _ b _ => b = t) m m2 := by rw [hm2]; exact (g1.nw _ _).sR _ _ _ _ (.inl rfl)
  have k2 : (m2.nw 24 64).K t = 2 := by rw [K_nw, if_neg (by omega)]; exact K2
  refine ⟨(m2.nw 24 64).sR 202 t 0 (some (t + 2)), ?_, by rw [S_sR, S_nw, S2], (g2.nw _ _).sR _ _ _ _ (.inl rfl), k2, ?_, ?_, ?_, ?_, ?_, ?_, ?_⟩
  · unfold f_X1_init
    rw [chk_t hK, bnd_e, ← hm1, bnd_e, bnd_e, chk_t k1, S1, bnd_e, ← hm2, bnd_e, bnd_e, chk_t k2, S2, bnd_e]
  · rw [R_sR, if_neg (by omega), R_nw, if_neg (by omega), hm2, R_sR, if_neg (by omega), R_nw, if_neg (by omega), hm1, R_sR, if_pos ⟨rfl, rfl, rfl⟩]
  · rw [R_sR, if_neg (by omega), R_nw, if_neg (by omega), hm2, R_sR, if_pos ⟨rfl, rfl, rfl⟩]
  · rw [R_sR, if_pos ⟨rfl, rfl, rfl⟩]
  · rw [K_sR, K_nw, if_neg (by omega), hm2, K_sR, K_nw, if_pos S1.symm]
  · rw [N_sR, N_nw, if_neg (by omega), hm2, N_sR, N_nw, if_pos S1.symm]
  · rw [K_sR, K_nw, if_pos S2.symm]
  · rw [N_sR, N_nw, if_pos S2.symm]
/-- a reader -/
def ShR (n : MM) (t : Nat) : Prop := n.K t = 5 ∧ n.R 500 t 0 = some (t + 1) ∧ n.R 501 t 0 = some (t + 16) ∧ n.R 502 t 0 = some (t + 19) ∧ n.R 503 t 0 = some (t + 20) ∧ n.K (t + 19) = 22 ∧ n.N (t + 19) = 6 ∧ n.K (t + 20) = 22 ∧ n.N (t + 20) = 6
theorem i_reader {m : MM} {t : Nat} (h : frs m t 5) : ∃ n, f_X4_init t m = some ((), n) ∧ n.S = t + 21 ∧ Gz (fun _ b _ => b = t) m n ∧ ShR n t ∧ CT n (t + 1) T0 ∧ CL n (t + 16) L0 := by
  obtain ⟨hS, hK, h0⟩ := h
  obtain ⟨n1, e1, s1, g1, c1⟩ := i_town (frs_nw m 9)
  rw [hS] at e1 s1 g1 c1
  have g1' : Gz nul m n1 := g1.mk hS.symm
  have k1 : n1.K t = 5 := by rw [g1'.k (by omega)]; exact hK
  obtain ⟨m2, hm2⟩ : ∃ q, q = n1.sR 500 t 0 (some (t + 1)) := ⟨_, rfl⟩
  have S2 : m2.S = t + 16 := by rw [hm2, S_sR, s1]
  have G2 : Gz (fun _ b _ => b = t) m m2 := by rw [hm2]; exact g1'.nn.sR _ _ _ _ (.inl rfl)
  have T2 : CT m2 (t + 1) T0 := by rw [hm2]; exact c1.kept ((Ag.rf n1 _ _).sR _ _ _ _ (by omega))
  obtain ⟨n2, e2, s2, g2, c2⟩ := i_law (frs_nw m2 3)
  rw [S2] at e2 s2 g2 c2
  have g2' : Gz nul m2 n2 := g2.mk S2.symm
  have K2 : m2.K t = 5 := by rw [hm2, K_sR]; exact k1
  have k2 : n2.K t = 5 := by rw [g2'.k (by omega)]; exact K2
  have r2 : n2.R 500 t 0 = some (t + 1) := by rw [g2'.r (by omega) (fun z => z), hm2, R_sR, if_pos ⟨rfl, rfl, rfl⟩]
  have T3 : CT n2 (t + 1) T0 := T2.kept (g2'.ag (by omega) (fun _ _ _ _ _ z => z))
  obtain ⟨m3, hm3⟩ : ∃ q, q = n2.sR 501 t 0 (some (t + 16)) := ⟨_, rfl⟩
  have S3 : m3.S = t + 19 := by rw [hm3, S_sR, s2]
  have G3 : Gz (fun _ b _ => b = t) m m3 := by rw [hm3]; exact (G2.tr g2'.nn).sR _ _ _ _ (.inl rfl)
  have K3 : m3.K t = 5 := by rw [hm3, K_sR]; exact k2
  have k3 : (m3.nw 22 6).K t = 5 := by rw [K_nw, if_neg (by omega)]; exact K3
  obtain ⟨m4, hm4⟩ : ∃ q, q = (m3.nw 22 6).sR 502 t 0 (some (t + 19)) := ⟨_, rfl⟩
  have S4 : m4.S = t + 20 := by rw [hm4, S_sR, S_nw, S3]
  have K4 : m4.K t = 5 := by rw [hm4, K_sR]; exact k3
  have k4 : (m4.nw 22 6).K t = 5 := by rw [K_nw, if_neg (by omega)]; exact K4
  have G4 : Gz (fun _ b _ => b = t) m m4 := by rw [hm4]; exact (G3.nw _ _).sR _ _ _ _ (.inl rfl)
  obtain ⟨m5, hm5⟩ : ∃ q, q = (m4.nw 22 6).sR 503 t 0 (some (t + 20)) := ⟨_, rfl⟩
  have A : Ag n2 m5 (t + 1) (t + 19) := fun a h1 h2 => ⟨by rw [hm5, K_sR, K_nw, if_neg (by omega), hm4, K_sR, K_nw, if_neg (by omega), hm3, K_sR], by rw [hm5, N_sR, N_nw, if_neg (by omega), hm4, N_sR, N_nw, if_neg (by omega), hm3, N_sR], fun s i => by rw [hm5, I_sR, I_nw, if_neg (by omega), hm4, I_sR, I_nw, if_neg (by omega), hm3, I_sR], fun s i => by rw [hm5, R_sR, if_neg (by omega), R_nw, if_neg (by omega), hm4, R_sR, if_neg (by omega), R_nw, if_neg (by omega), hm3, R_sR, if_neg (by omega)]⟩
  refine ⟨m5, ?_, by rw [hm5, S_sR, S_nw, S4], by rw [hm5]; exact (G4.nw _ _).sR _ _ _ _ (.inl rfl), ⟨by rw [hm5, K_sR]; exact k4, ?_, ?_, ?_, ?_, ?_, ?_, ?_, ?_⟩, T3.kept (A.sub (by omega) (by omega)), c2.kept (A.sub (by omega) (by omega))⟩
  · unfold f_X4_init
    rw [bnd_e, hS, bnd_e, e1, cal_s, chk_t k1, bnd_e, ← hm2, S2, bnd_e, bnd_e, e2, cal_s, chk_t k2, bnd_e, ← hm3, S3, bnd_e, bnd_e, chk_t k3, bnd_e, ← hm4, S4, bnd_e, bnd_e, chk_t k4, bnd_e, ← hm5]
  · rw [hm5, R_sR, if_neg (by omega), R_nw, if_neg (by omega), hm4, R_sR, if_neg (by omega), R_nw, if_neg (by omega), hm3, R_sR, if_neg (by omega)]; exact r2
  · rw [hm5, R_sR, if_neg (by omega), R_nw, if_neg (by omega), hm4, R_sR, if_neg (by omega), R_nw, if_neg (by omega), hm3, R_sR, if_pos ⟨rfl, rfl, rfl⟩]
  · rw [hm5, R_sR, if_neg (by omega), R_nw, if_neg (by omega), hm4, R_sR, if_pos ⟨rfl, rfl, rfl⟩]
  · rw [hm5, R_sR, if_pos ⟨rfl, rfl, rfl⟩]
  · rw [hm5, K_sR, K_nw, if_neg (by omega), hm4, K_sR, K_nw, if_pos S3.symm]
  · rw [hm5, N_sR, N_nw, if_neg (by omega), hm4, N_sR, N_nw, if_pos S3.symm]
  · rw [hm5, K_sR, K_nw, if_pos S4.symm]
  · rw [hm5, N_sR, N_nw, if_pos S4.symm]
