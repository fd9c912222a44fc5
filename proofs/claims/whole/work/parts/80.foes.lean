/-! who is barred with whom -/
theorem lp_invF {σ ρ : Type} (L : Nat → Int32 → σ → ρ) (I : Nat → σ → Prop) (e : σ → ρ) (N k0 : Nat) (hk : k0 ≤ N) (hs : ∀ i, k0 ≤ i → i < N → ∀ s, I i s → ∃ s', I (i + 1) s' ∧ ∀ n, L (n + 1) (nI i) s = L n (nI (i + 1)) s') (he : ∀ s, I N s → ∀ n, L (n + 1) (nI N) s = e s) {s0 : σ} (h0 : I k0 s0) : ∃ s, I N s ∧ ∀ n, N < n → L n (nI k0) s0 = e s := by
  have key : ∀ k i, i + k = N → k0 ≤ i → ∀ s, I i s → ∃ s', I N s' ∧ ∀ n, k < n → L n (nI i) s = e s' := by
    intro k
    induction k with
    | zero =>
      intro i hi _ s hI
      have : i = N := by omega
      subst this
      refine ⟨s, hI, fun n hn => ?_⟩
      obtain ⟨q, rfl⟩ : ∃ q, n = q + 1 := ⟨n - 1, by omega⟩
      exact he s hI q
    | succ k ih =>
      intro i hi hk s hI
      obtain ⟨s1, h1, e1⟩ := hs i hk (by omega) s hI
      obtain ⟨s2, h2, e2⟩ := ih (i + 1) (by omega) (by omega) s1 h1
      refine ⟨s2, h2, fun n hn => ?_⟩
      obtain ⟨q, rfl⟩ : ∃ q, n = q + 1 := ⟨n - 1, by omega⟩
      rw [e1 q]
      exact e2 q (by omega)
  obtain ⟨s, h1, h2⟩ := key (N - k0) k0 (by omega) (Nat.le_refl _) s0 h0
  exact ⟨s, h1, fun n hn => h2 n (by omega)⟩
def foe (T : TW) (B : LW) (d w : Nat) (H : Nat → Bool) (L : BD → BD → Bool) (i j : Nat) : Bool := !decide (i = j) && (sB T d i && sB T d j) && clB T B w H L (-1) (bdy T d i) (bdy T d j)
def foA (P : Nat → Nat → Bool) : Bool := (List.range 12).any (fun i => (List.range 12).any (fun j => decide (i < j) && P i j))
theorem foA_iff {P : Nat → Nat → Bool} : foA P = true ↔ ∃ a b, a < b ∧ b < 12 ∧ P a b = true := by
  unfold foA
  rw [anyT]
  constructor
  · rintro ⟨i, hi, h⟩
    obtain ⟨j, hj, h2⟩ := anyT.mp h
    rw [Bool.and_eq_true, decide_eq_true_eq] at h2
    exact ⟨i, j, h2.1, hj, h2.2⟩
  · rintro ⟨a, b, h1, h2, h3⟩
    exact ⟨a, by omega, anyT.mpr ⟨b, h2, by rw [Bool.and_eq_true, decide_eq_true_eq]; exact ⟨h1, h3⟩⟩⟩
theorem foe_sw (T : TW) (B : LW) (d w : Nat) (H : Nat → Bool) (L : BD → BD → Bool) (i j : Nat) : foe T B d w H L i j = foe T B d w H L j i := by
  unfold foe
  rw [clB_sw, Bool.and_comm (sB T d i)]
  congr 3
  by_cases h : i = j
  · rw [h]
  · rw [decide_eq_false h, decide_eq_false (fun q => h q.symm)]
theorem foe_d (T : TW) (B : LW) (d w : Nat) (H : Nat → Bool) (L : BD → BD → Bool) (i : Nat) : foe T B d w H L i i = false := by simp [foe]
theorem clB_m1 {T : TW} {B : LW} {w : Nat} {H : Nat → Bool} {L : BD → BD → Bool} {a b : BD} (hB : B.2.1 ≤ 10) : clB T B w H L (-1) a b = true ↔ ∃ r, r < B.2.1 ∧ (baR T B w H L r a b = true ∨ baR T B w H L r b a = true) := by
  unfold clB
  rw [anyT]
  constructor
  · rintro ⟨r, hr, h⟩
    rw [Bool.and_eq_true, Bool.or_eq_true] at h
    exact ⟨r, hr, h.2⟩
  · rintro ⟨r, hr, h⟩
    refine ⟨r, hr, ?_⟩
    rw [decide_eq_false (show ¬ nI r = -1 from nI_ne_m1 (by omega)), Bool.not_false, Bool.true_and, Bool.or_eq_true]
    exact h
theorem foe_bar {T : TW} {B : LW} {d w : Nat} {H : Nat → Bool} {L : BD → BD → Bool} (hB : B.2.1 ≤ 10) (hL : ∀ a b, L a b = L b a) (i j : Nat) : foe T B d w H L i j = true ↔ ∃ r, r < B.2.1 ∧ (barP T B d w H L i j r = true ∨ barP T B d w H L j i r = true) := by
  unfold foe
  rw [Bool.and_eq_true, Bool.and_eq_true, Bool.and_eq_true, clB_m1 hB, Bool.not_eq_true', decide_eq_false_iff_not]
  constructor
  · rintro ⟨⟨hne, si, sj⟩, r, hr, h⟩
    have one : ∀ a b, a ≠ b → sB T d a = true → sB T d b = true → baR T B w H L r (bdy T d a) (bdy T d b) = true → barP T B d w H L a b r = true ∨ barP T B d w H L b a r = true := by
      intro a b hab sa sb h
      cases hx : (evR B r && decide (B.2.2 r 1 = B.2.2 r 2) && decide (b < a)) with
      | false => exact .inl (by unfold barP; rw [sa, sb, decide_eq_false hab, hx, h]; rfl)
      | true =>
        rw [Bool.and_eq_true, Bool.and_eq_true, decide_eq_true_eq, decide_eq_true_eq] at hx
        have q : nI (bdy T d a).k = B.2.2 r 1 ∧ nI (bdy T d b).k = B.2.2 r 2 := by
          unfold baR at h
          simp only [Bool.and_eq_true, decide_eq_true_eq] at h
          exact ⟨h.1.1.1.1, h.1.1.1.2⟩
        have hk : B.2.2 r 1 = nI (bdy T d b).k := by rw [q.2]; exact hx.1.2
        have h' : baR T B w H L r (bdy T d b) (bdy T d a) = true := by
          have e1 : rch B r w (bdy T d a) (bdy T d b) = rch B r w (bdy T d b) (bdy T d a) := by unfold rch; congr 1; omega
          have e2 : soB T (B.2.2 r 0) H (bdy T d a) (bdy T d b) = soB T (B.2.2 r 0) H (bdy T d b) (bdy T d a) := by
            have he := hx.1.1
            unfold evR at he
            rw [Bool.or_eq_true, decide_eq_true_eq, decide_eq_true_eq] at he
            unfold soB
            rcases he with q | q
            · rw [if_pos q, if_pos q]
            · have n0 : ¬ B.2.2 r 0 = 0 := by rw [q]; decide
              have n1 : ¬ B.2.2 r 0 = 1 := by rw [q]; decide
              have n2 : ¬ B.2.2 r 0 = 2 := by rw [q]; decide
              rw [if_neg n0, if_neg n1, if_neg n2, if_pos q, if_neg n0, if_neg n1, if_neg n2, if_pos q, Bool.and_comm]
          unfold baR at h ⊢
          rw [e1, e2, hL, dsq_c, q.1, q.2] at h
          rw [← hk]
          have q1' : nI (bdy T d a).k = B.2.2 r 2 := by rw [q.1]; exact hx.1.2
          rw [q1']
          simpa using h
        refine .inr ?_
        unfold barP
        rw [sa, sb, decide_eq_false (Ne.symm hab), decide_eq_false (show ¬ a < b by omega), h', Bool.and_false]
        rfl
    rcases h with h | h
    · exact ⟨r, hr, one i j hne si sj h⟩
    · rcases one j i (Ne.symm hne) sj si h with q | q
      · exact ⟨r, hr, .inr q⟩
      · exact ⟨r, hr, .inl q⟩
  · have two : ∀ a b r, barP T B d w H L a b r = true → a ≠ b ∧ sB T d a = true ∧ sB T d b = true ∧ baR T B w H L r (bdy T d a) (bdy T d b) = true := by
      intro a b r h
      unfold barP at h
      simp only [Bool.and_eq_true, Bool.not_eq_true', decide_eq_false_iff_not] at h
      exact ⟨h.1.1.2, h.1.1.1.1, h.1.1.1.2, h.2⟩
    rintro ⟨r, hr, h | h⟩
    · obtain ⟨h1, h2, h3, h4⟩ := two i j r h
      exact ⟨⟨h1, h2, h3⟩, r, hr, .inl h4⟩
    · obtain ⟨h1, h2, h3, h4⟩ := two j i r h
      exact ⟨⟨Ne.symm h1, h3, h2⟩, r, hr, .inr h4⟩
theorem foA_bar {T : TW} {B : LW} {d w : Nat} {H : Nat → Bool} {L : BD → BD → Bool} (hB : B.2.1 ≤ 10) (hL : ∀ a b, L a b = L b a) (hn : T.2.1 0 ≤ 12) : foA (foe T B d w H L) = !decide ((barL T B d w H L).length = 0) := by
  rw [Bool.eq_iff_iff, foA_iff, Bool.not_eq_true', decide_eq_false_iff_not]
  unfold barL
  rw [aL_len0]
  constructor
  · rintro ⟨a, b, h1, h2, h3⟩ h
    obtain ⟨r, hr, q⟩ := (foe_bar hB hL a b).mp h3
    rw [h a b r (by omega) h2 hr, h b a r h2 (by omega) hr] at q
    simp at q
  · intro h
    refine Classical.byContradiction (fun q => h (fun a b r ha hb hr => ?_))
    cases hP : barP T B d w H L a b r with
    | false => rfl
    | true =>
      have hf := (foe_bar hB hL a b).mpr ⟨r, hr, .inl hP⟩
      have hab : a ≠ b := fun e => by subst e; rw [foe_d] at hf; cases hf
      rcases Nat.lt_or_gt_of_ne hab with z | z
      · exact absurd ⟨a, b, z, hb, hf⟩ q
      · exact absurd ⟨b, a, z, ha, by rw [foe_sw]; exact hf⟩ q
section FOE
variable {m s : MM} {x t l d w a b : Nat} {T : TW} {B : LW} {ho : Int32}
theorem c_foes (C : CS m x t l T B d w ho (-1)) (ha : a < 12) (hb : b < 12) : f_X5_foes (x + 81) (nI a) (nI b) m = some (bI (foe T B d w (bt ho) (clL T d) a b), m) := by
  by_cases hab : a = b
  · subst hab
    simp only [f_X5_foes, g_X5_foes_0, g_X5_foes_35, if_true, foe_d]; rfl
  · have e2 : ¬ nI a = nI b := fun q => hab (nI_inj (by omega) (by omega) q)
    cases hst : (sB T d a && sB T d b) with
    | false =>
      have : foe T B d w (bt ho) (clL T d) a b = false := by unfold foe; rw [hst, Bool.and_false]; rfl
      rw [this]
      simp only [f_X5_foes, g_X5_foes_0, g_X5_foes_35, if_neg e2, chk_t C.1.th, c_bothStand C.1.th C.2.2.2.2.2.1 ha hb, hst, chk_t, ck_sI, ck_sR, ck_sJ, cal_s, bnd_e, ifn_s, ifn_n, bI_0, if_true, bI_f]
    | true =>
      have hst2 := hst
      rw [Bool.and_eq_true] at hst2
      obtain ⟨sa, sb⟩ := hst2
      have e3 : foe T B d w (bt ho) (clL T d) a b = clB T B w (bt ho) (clL T d) (-1) (bdy T d a) (bdy T d b) := by unfold foe; rw [hst, decide_eq_false hab]; rfl
      rw [e3]
      have cc := c_clash C.2.1 C.2.2.1 C.2.2.2.1 C.2.2.2.2.1 (C.2.2.2.2.2.2.1 a (sB_n sa)) (C.2.2.2.2.2.2.1 b (sB_n sb)) (bdy_v C.2.2.1 (sB_n sa) d) (bdy_v C.2.2.1 (sB_n sb) d)
      simp only [f_X5_foes, g_X5_foes_0, g_X5_foes_35, if_neg e2, chk_t C.1.th, c_bothStand C.1.th C.2.2.2.2.2.1 ha hb, hst, chk_t, ck_sI, ck_sR, ck_sJ, cal_s, bnd_e, ifn_s, ifn_n, bI_0, Bool.true_eq_false, if_false, c_body C.1 ha, c_body C.1 hb, cc]
      cases clB T B w (bt ho) (clL T d) (-1) (bdy T d a) (bdy T d b) <;> simp [bI]
def FoR (m : MM) (x : Nat) (P : Nat → Nat → Bool) (Pr : Nat → Nat → Prop) : Prop := ∀ a, a < 12 → ∀ b, b < 32 → (bt (m.I 22 (x + 95) a) b = true ↔ b < 12 ∧ P a b = true ∧ Pr a b)
def FoF (v : Int32) (P : Nat → Nat → Bool) (Pr : Nat → Nat → Prop) : Prop := (v = 0 ∨ v = 1) ∧ (v = 1 ↔ ∃ a b, a < b ∧ b < 12 ∧ P a b = true ∧ Pr a b)
theorem FoR.cg {m : MM} {x : Nat} {P : Nat → Nat → Bool} {Pr Pr' : Nat → Nat → Prop} (h : FoR m x P Pr) (he : ∀ a b, a < 12 → b < 12 → P a b = true → (Pr a b ↔ Pr' a b)) : FoR m x P Pr' := by
  intro a ha b hb
  rw [h a ha b hb]
  constructor
  · rintro ⟨h1, h2, h3⟩; exact ⟨h1, h2, (he a b ha h1 h2).mp h3⟩
  · rintro ⟨h1, h2, h3⟩; exact ⟨h1, h2, (he a b ha h1 h2).mpr h3⟩
theorem FoF.cg {v : Int32} {P : Nat → Nat → Bool} {Pr Pr' : Nat → Nat → Prop} (h : FoF v P Pr) (he : ∀ a b, a < 12 → b < 12 → P a b = true → (Pr a b ↔ Pr' a b)) : FoF v P Pr' := by
  refine ⟨h.1, h.2.trans ?_⟩
  constructor
  · rintro ⟨a, b, h1, h2, h3, h4⟩; exact ⟨a, b, h1, h2, h3, (he a b (by omega) h2 h3).mp h4⟩
  · rintro ⟨a, b, h1, h2, h3, h4⟩; exact ⟨a, b, h1, h2, h3, (he a b (by omega) h2 h3).mpr h4⟩
def prc (i j a b : Nat) : Prop := min a b < i ∨ (min a b = i ∧ max a b < j)
theorem c_findFoes (C : CS m x t l T B d w ho (-1)) : ∃ s', f_X5_findFoes (x + 81) m = some (bI (foA (foe T B d w (bt ho) (clL T d))), s') ∧ On m s' (x + 95) (x + 96) ∧ FoR s' x (foe T B d w (bt ho) (clL T d)) (fun _ _ => True) := by
  obtain ⟨P, hP⟩ : ∃ P, P = foe T B d w (bt ho) (clL T d) := ⟨_, rfl⟩
  have sw : ∀ a b, P a b = P b a := fun a b => by rw [hP]; exact foe_sw _ _ _ _ _ _ a b
  have dg : ∀ a, P a a = false := fun a => by rw [hP]; exact foe_d _ _ _ _ _ _ a
  have r0 : m.R 601 (x + 81) 0 = some (x + 95) ∧ m.K (x + 95) = 22 ∧ m.N (x + 95) = 12 := ⟨C.1.2.2.1.2.2.1, C.1.2.2.1.2.2.2.2.2.1, C.1.2.2.1.2.2.2.2.2.2.1⟩
  -- the rows are emptied
  obtain ⟨s1, ⟨o1, z1⟩, q1⟩ := lp_inv (fun n i (s : MM) => fun (K : Int32 → MM → Option (Int32 × MM)) => l_X5_findFoes_4 (x + 81) K n 0 i s) (fun i s => On m s (x + 95) (x + 96) ∧ ∀ a, a < i → s.I 22 (x + 95) a = 0) (fun s => fun K => K 0 s) 12 (fun i hi s hI => by
    obtain ⟨o, z⟩ := hI
    have Cs := C.on o (by omega)
    have e1 : ¬ nI 12 ≤ nI i := nI_ge hi (by decide)
    refine ⟨s.sI 22 (x + 95) i 0, ⟨o.sI _ _ _ _ (by omega) (by omega), fun a ha => ?_⟩, fun n => ?_⟩
    · rw [I_sI]
      by_cases q : a = i
      · rw [if_pos ⟨rfl, rfl, q⟩]
      · rw [if_neg (fun z => q z.2.2)]; exact z a (by omega)
    · funext K
      show g_X5_findFoes_4 (x + 81) (l_X5_findFoes_4 (x + 81) K n) K 0 (nI i) s = _
      simp only [g_X5_findFoes_4, chk_t Cs.1.th, o.2.2.2.1, r0.1, ck_s (show s.K (x + 95) = 22 from by rw [o.1]; exact r0.2.1), o.2.1, r0.2.2, ofN, if_neg e1, chk_t (inb_nI hi (by decide)), cl_nI (show i < 2 ^ 31 by omega), chk_t, ck_sI, ck_sR, ck_sJ, cal_s, bnd_e, ifn_s, ifn_n, nI_1]) (fun s hI n => by
    obtain ⟨o, z⟩ := hI
    have Cs := C.on o (by omega)
    funext K
    show g_X5_findFoes_4 (x + 81) (l_X5_findFoes_4 (x + 81) K n) K 0 (nI 12) s = _
    simp only [g_X5_findFoes_4, chk_t Cs.1.th, o.2.2.2.1, r0.1, ck_s (show s.K (x + 95) = 22 from by rw [o.1]; exact r0.2.1), o.2.1, r0.2.2, ofN, if_pos (Int32.le_refl _)]) (s0 := m) ⟨On.rf m _ _, fun a ha => by omega⟩
  have inner : ∀ i, i < 12 → ∀ (s : Int32 × MM), On m s.2 (x + 95) (x + 96) ∧ FoR s.2 x P (fun a b => min a b < i) ∧ FoF s.1 P (fun a b => min a b < i) → ∃ s' : Int32 × MM, (On m s'.2 (x + 95) (x + 96) ∧ FoR s'.2 x P (prc i 12) ∧ FoF s'.1 P (prc i 12)) ∧ ∀ n, 12 < n → (fun (K : Int32 → Int32 → MM → Option (Int32 × MM)) => l_X5_findFoes_41 (x + 81) K n s.1 (nI i) (nI (i + 1)) s.2) = fun K => K s'.1 (nI i) s'.2 := by
    intro i hi s hs
    refine lp_invF (fun n j (s : Int32 × MM) => fun (K : Int32 → Int32 → MM → Option (Int32 × MM)) => l_X5_findFoes_41 (x + 81) K n s.1 (nI i) j s.2) (fun j s => On m s.2 (x + 95) (x + 96) ∧ FoR s.2 x P (prc i j) ∧ FoF s.1 P (prc i j)) (fun s => fun K => K s.1 (nI i) s.2) 12 (i + 1) (by omega) (fun j hij hj s hI => ?_) (fun s hI n => ?_) (s0 := s) ?_
    · obtain ⟨o, hr, hf⟩ := hI
      have Cs := C.on o (by omega)
      have e1 : ¬ nI 12 ≤ nI j := nI_ge hj (by decide)
      have cf := c_foes Cs hi hj
      rw [← hP] at cf
      cases hPij : P i j with
      | false =>
        have hc : ∀ a b, a < 12 → b < 12 → P a b = true → (prc i j a b ↔ prc i (j + 1) a b) := by
          intro a b ha hb hab
          unfold prc
          constructor
          · intro q; omega
          · intro q
            by_cases z : min a b = i ∧ max a b = j
            · rcases Nat.le_total a b with w | w
              · have : a = i ∧ b = j := by omega
                rw [this.1, this.2, hPij] at hab; cases hab
              · have : a = j ∧ b = i := by omega
                rw [this.1, this.2, sw, hPij] at hab; cases hab
            · omega
        refine ⟨s, ⟨o, hr.cg hc, hf.cg hc⟩, fun n => ?_⟩
        funext K
        show g_X5_findFoes_41 (x + 81) (l_X5_findFoes_41 (x + 81) K n) K s.1 (nI i) (nI j) s.2 = _
        simp only [g_X5_findFoes_41, g_X5_findFoes_85, chk_t Cs.1.th, o.2.2.2.1, r0.1, ck_s (show s.2.K (x + 95) = 22 from by rw [o.1]; exact r0.2.1), o.2.1, r0.2.2, ofN, if_neg e1, cf, hPij, chk_t, ck_sI, ck_sR, ck_sJ, cal_s, bnd_e, ifn_s, ifn_n, bI_0, if_true, nI_1]
      | true =>
        obtain ⟨u, hu⟩ : ∃ u, u = s.2.I 22 (x + 95) i ||| (1 <<< (nI j &&& 31)) := ⟨_, rfl⟩
        obtain ⟨v, hv⟩ : ∃ v, v = s.2.I 22 (x + 95) j ||| (1 <<< (nI i &&& 31)) := ⟨_, rfl⟩
        have rd : (s.2.sI 22 (x + 95) i u).I 22 (x + 95) j = s.2.I 22 (x + 95) j := by rw [I_sI, if_neg (by omega)]
        refine ⟨(1, (s.2.sI 22 (x + 95) i u).sI 22 (x + 95) j v), ⟨(o.sI _ _ _ _ (by omega) (by omega)).sI _ _ _ _ (by omega) (by omega), ?_, ?_⟩, fun n => ?_⟩
        · intro a ha b hb
          show bt (((s.2.sI 22 (x + 95) i u).sI 22 (x + 95) j v).I 22 (x + 95) a) b = true ↔ _
          rw [I_sI]
          by_cases qj : a = j
          · rw [if_pos ⟨rfl, rfl, qj⟩, hv, bt_or, bt_1 (by omega) hb, Bool.or_eq_true, hr j hj b hb, decide_eq_true_eq]
            subst qj
            unfold prc
            constructor
            · rintro (⟨h1, h2, h3⟩ | h3)
              · exact ⟨h1, h2, by omega⟩
              · subst h3
                exact ⟨by omega, by rw [sw]; exact hPij, by omega⟩
            · rintro ⟨h1, h2, h3⟩
              by_cases z : b = i
              · exact .inr z
              · exact .inl ⟨h1, h2, by omega⟩
          · rw [if_neg (fun z => qj z.2.2), I_sI]
            by_cases qi : a = i
            · rw [if_pos ⟨rfl, rfl, qi⟩, hu, bt_or, bt_1 (by omega) hb, Bool.or_eq_true, hr i hi b hb, decide_eq_true_eq]
              subst qi
              unfold prc
              constructor
              · rintro (⟨h1, h2, h3⟩ | h3)
                · exact ⟨h1, h2, by omega⟩
                · subst h3
                  exact ⟨by omega, hPij, by omega⟩
              · rintro ⟨h1, h2, h3⟩
                by_cases z : b = j
                · exact .inr z
                · exact .inl ⟨h1, h2, by omega⟩
            · rw [if_neg (fun z => qi z.2.2), hr a ha b hb]
              unfold prc
              constructor
              · rintro ⟨h1, h2, h3⟩; exact ⟨h1, h2, by omega⟩
              · rintro ⟨h1, h2, h3⟩; exact ⟨h1, h2, by omega⟩
        · refine ⟨.inr rfl, ⟨fun _ => ⟨i, j, by omega, hj, hPij, by unfold prc; omega⟩, fun _ => rfl⟩⟩
        · funext K
          show g_X5_findFoes_41 (x + 81) (l_X5_findFoes_41 (x + 81) K n) K s.1 (nI i) (nI j) s.2 = _
          simp only [g_X5_findFoes_41, g_X5_findFoes_85, chk_t Cs.1.th, o.2.2.2.1, r0.1, ck_s (show s.2.K (x + 95) = 22 from by rw [o.1]; exact r0.2.1), o.2.1, r0.2.2, ofN, if_neg e1, cf, hPij, chk_t, ck_sI, ck_sR, ck_sJ, cal_s, bnd_e, ifn_s, ifn_n, bI_0, Bool.true_eq_false, if_false, R_sI, N_sI, chk_t (inb_nI hi (by decide)), chk_t (inb_nI hj (by decide)), cl_nI (show i < 2 ^ 31 by omega), cl_nI (show j < 2 ^ 31 by omega), ← hu, rd, ← hv, nI_1]
    · obtain ⟨o, hr, hf⟩ := hI
      have Cs := C.on o (by omega)
      funext K
      show g_X5_findFoes_41 (x + 81) (l_X5_findFoes_41 (x + 81) K n) K s.1 (nI i) (nI 12) s.2 = _
      simp only [g_X5_findFoes_41, chk_t Cs.1.th, o.2.2.2.1, r0.1, ck_s (show s.2.K (x + 95) = 22 from by rw [o.1]; exact r0.2.1), o.2.1, r0.2.2, ofN, if_pos (Int32.le_refl _)]
    · have hc : ∀ a b, a < 12 → b < 12 → P a b = true → (min a b < i ↔ prc i (i + 1) a b) := by
        intro a b ha hb hab
        unfold prc
        constructor
        · intro q; omega
        · intro q
          by_cases z : a = b
          · subst z; rw [dg] at hab; cases hab
          · omega
      exact ⟨hs.1, hs.2.1.cg hc, hs.2.2.cg hc⟩
  obtain ⟨s2, ⟨o2, r2, f2⟩, q2⟩ := lp_inv (fun n i (s : Int32 × MM) => l_X5_findFoes_28 (x + 81) n s.1 i s.2) (fun i s => On m s.2 (x + 95) (x + 96) ∧ FoR s.2 x P (fun a b => min a b < i) ∧ FoF s.1 P (fun a b => min a b < i)) (fun s => some (s.1, s.2)) 12 (fun i hi s hI => by
    obtain ⟨s', ⟨q1, q2, q3⟩, q4⟩ := inner i hi s hI
    have Cs := C.on hI.1 (by omega)
    have e1 : ¬ nI 12 ≤ nI i := nI_ge hi (by decide)
    have hc : ∀ a b, a < 12 → b < 12 → P a b = true → (prc i 12 a b ↔ min a b < i + 1) := by
      intro a b ha hb hab
      unfold prc
      omega
    refine ⟨s', ⟨q1, q2.cg hc, q3.cg hc⟩, fun n => ?_⟩
    show g_X5_findFoes_28 (x + 81) (l_X5_findFoes_28 (x + 81) n) s.1 (nI i) s.2 = _
    simp only [g_X5_findFoes_28, chk_t Cs.1.th, hI.1.2.2.2.1, r0.1, ck_s (show s.2.K (x + 95) = 22 from by rw [hI.1.1]; exact r0.2.1), hI.1.2.1, r0.2.2, ofN, if_neg e1, chk_t, ck_sI, ck_sR, ck_sJ, cal_s, bnd_e, ifn_s, ifn_n, nI_1]
    refine (congrFun (q4 FU (by unfold FU; omega)) (g_X5_findFoes_91 (x + 81) (l_X5_findFoes_28 (x + 81) n))).trans ?_
    simp only [g_X5_findFoes_91, nI_1]) (fun s hI n => by
    have Cs := C.on hI.1 (by omega)
    show g_X5_findFoes_28 (x + 81) (l_X5_findFoes_28 (x + 81) n) s.1 (nI 12) s.2 = _
    simp only [g_X5_findFoes_28, chk_t Cs.1.th, hI.1.2.2.2.1, r0.1, ck_s (show s.2.K (x + 95) = 22 from by rw [hI.1.1]; exact r0.2.1), hI.1.2.1, r0.2.2, ofN, if_pos (Int32.le_refl _), chk_t hI.2.2.1]) (s0 := (0, s1)) ⟨o1, fun a ha b hb => by
      show bt (s1.I 22 (x + 95) a) b = true ↔ _
      rw [z1 a ha, bt_0]
      constructor
      · intro q; cases q
      · rintro ⟨_, _, q⟩; omega, .inl rfl, ⟨fun q => absurd (show (0 : Int32) = 1 from q) (by decide), fun ⟨a, b, _, _, _, q⟩ => by omega⟩⟩
  have hv : s2.1 = bI (foA P) := by
    cases hA : foA P with
    | true =>
      obtain ⟨a, b, h1, h2, h3⟩ := foA_iff.mp hA
      exact f2.2.mpr ⟨a, b, h1, h2, h3, by omega⟩
    | false =>
      rcases f2.1 with q | q
      · exact q
      · obtain ⟨a, b, h1, h2, h3, _⟩ := f2.2.mp q
        rw [foA_iff.mpr ⟨a, b, h1, h2, h3⟩] at hA
        cases hA
  rw [← hP]
  refine ⟨s2.2, ?_, o2, r2.cg (fun a b ha hb _ => ⟨fun _ => trivial, fun _ => by omega⟩)⟩
  show l_X5_findFoes_4 (x + 81) (g_X5_findFoes_26 (x + 81)) FU 0 0 m = _
  refine (congrFun (q1 FU (by unfold FU; omega)) (g_X5_findFoes_26 (x + 81))).trans ?_
  show l_X5_findFoes_28 (x + 81) FU 0 0 s1 = _
  refine (q2 FU (by unfold FU; omega)).trans ?_
  rw [hv]
end FOE
