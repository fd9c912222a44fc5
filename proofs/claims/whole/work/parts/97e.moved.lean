/-! one or two move -/
theorem ft_0 {A : Nat → Nat → Bool} {cl : Nat → Nat → Nat → Nat → Bool} (ps : Nat → Nat) (p : Nat) : ftB A cl 0 (upN ps 0 p) = A 0 p := by
  unfold ftB
  rw [show upN ps 0 p 0 = p from if_pos rfl]
  simp
theorem ft_1 {A : Nat → Nat → Bool} {cl : Nat → Nat → Nat → Nat → Bool} (ps : Nat → Nat) (p q : Nat) : ftB A cl 1 (upN (upN ps 0 p) 1 q) = (A 1 q && (!decide (p = q) && !cl 0 p 1 q)) := by
  unfold ftB
  rw [show upN (upN ps 0 p) 1 q 1 = q from if_pos rfl]
  simp [List.range_succ, upN]
def sq2 (A : Nat → Nat → Bool) (cl : Nat → Nat → Nat → Nat → Bool) (p q : Nat) : Option (Nat → Nat) := if A 1 q && (!decide (p = q) && !cl 0 p 1 q) then some (upN (upN (fun _ => 0) 0 p) 1 q) else none
def sp2 (A : Nat → Nat → Bool) (cl : Nat → Nat → Nat → Nat → Bool) (p : Nat) : Option (Nat → Nat) := if A 0 p then fo (sq2 A cl p) 64 0 else none
theorem sf_1 (A : Nat → Nat → Bool) (cl : Nat → Nat → Nat → Nat → Bool) : se A cl 1 0 (fun _ => 0) = fo (fun p => if A 0 p then some (upN (fun _ => 0) 0 p) else none) 64 0 := by
  rw [se_s]
  congr 1
  funext p
  rw [ft_0]
  rfl
theorem sf_2 (A : Nat → Nat → Bool) (cl : Nat → Nat → Nat → Nat → Bool) : se A cl 2 0 (fun _ => 0) = fo (sp2 A cl) 64 0 := by
  rw [se_s]
  congr 1
  funext p
  rw [ft_0]
  unfold sp2
  congr 1
  rw [se_s]
  congr 1
  funext q
  unfold sq2
  rw [ft_1]
  rfl
section RON
variable {m : MM} {y i j d a b : Nat} {T : TW} {B : LW}
theorem r_movesOne (R : RS m y i j T B d 0 (-1) 0) (ha : a < T.2.1 0) : ∃ n, Mw y a a m n ∧ RS n y i j T B d 0 (-1) 0 ∧ ((∃ ps, mvS T B d a a 1 = some ps ∧ f_X10_movesOne y (nI j) (nI a) m = some (1, n) ∧ n.I 1178 y 0 = -1 ∧ n.I 1179 y 0 = nI (ps 0)) ∨ (mvS T B d a a 1 = none ∧ f_X10_movesOne y (nI j) (nI a) m = some (0, n))) := by
  have hn := R.2.2.1.1
  have R0 := R.x a a
  obtain ⟨n1, u1, u2, u3, _⟩ := r_findPoints (A := y + 54) (o := -1) R0 (.inl rfl) ha (.inl rfl) (fun c hc => by
    constructor
    · rintro (e | e)
      · exact .inl (nI_inj (by omega) (by omega) e)
      · exact absurd e (nI_ne_m1 (by omega))
    · rintro (e | e) <;> exact .inl (by rw [e]))
  have R1 := R0.mw u2
  obtain ⟨n2, v1, v2, v3, v4⟩ := r_putBack R1 ha (.inl rfl)
  have R2 := R1.mw v2
  have S2 : RS n2 y i j T B d 0 (-1) 0 := R2.s (fun _ => v3) (fun _ => v3)
  have may : ∀ p, p < 64 → n2.I 24 (y + 54) p = bI (mvA T B d a a 0 p) := fun p hp => by rw [v4 _ _ _ (by omega)]; exact u3 p hp
  have hmv : mvS T B d a a 1 = fo (fun p => if mvA T B d a a 0 p then some (upN (fun _ => 0) 0 p) else none) 64 0 := sf_1 _ _
  have pre : f_X10_movesOne y (nI j) (nI a) m = l_X10_movesOne_18 y (nI j) (nI a) (g_X10_movesOne_33 y (nI j) (nI a)) FU 0 n2 := by
    unfold f_X10_movesOne g_X10_movesOne_0
    rw [chk_t R0.1.1.1, R0.1.1.r1181, u1, cal_s, chk_t R1.1.1.1, v1, cal_s]
  obtain ⟨r, hQ, hr⟩ := lp_ex (fun n p (s : Unit) => l_X10_movesOne_18 y (nI j) (nI a) (g_X10_movesOne_33 y (nI j) (nI a)) n p n2) (fun p _ => fo (fun p => if mvA T B d a a 0 p then some (upN (fun _ => 0) 0 p) else none) (64 - p) p = mvS T B d a a 1) (fun r => (∃ p, p < 64 ∧ mvS T B d a a 1 = some (upN (fun _ => 0) 0 p) ∧ r = g_X10_movesOne_33 y (nI j) (nI a) (nI p) n2) ∨ (mvS T B d a a 1 = none ∧ r = some (0, n2))) 64 0 (by omega) (fun p _ hp s hI => by
    have e1 : ¬ (64 : Int32) ≤ nI p := nI_ge (b := 64) hp (by decide)
    obtain ⟨fs, fn⟩ := fo_st (f := fun p => if mvA T B d a a 0 p then some (upN (fun _ => 0) 0 p) else none) hp
    have st : ∀ n, l_X10_movesOne_18 y (nI j) (nI a) (g_X10_movesOne_33 y (nI j) (nI a)) (n + 1) (nI p) n2 = if bI (mvA T B d a a 0 p) = 0 then l_X10_movesOne_18 y (nI j) (nI a) (g_X10_movesOne_33 y (nI j) (nI a)) n (nI (p + 1)) n2 else g_X10_movesOne_33 y (nI j) (nI a) (nI p) n2 := by
      intro n
      show g_X10_movesOne_18 y (nI j) (nI a) (l_X10_movesOne_18 y (nI j) (nI a) (g_X10_movesOne_33 y (nI j) (nI a)) n) (g_X10_movesOne_33 y (nI j) (nI a)) (nI p) n2 = _
      unfold g_X10_movesOne_18
      rw [if_neg e1, chk_t R2.1.1.1, R2.1.1.c1181, R2.1.1.n1181, chk_t (inb_nI hp (by decide)), cl_nI (show p < 2 ^ 31 by omega), may p hp, nI_1]
    cases hA : mvA T B d a a 0 p with
    | true =>
      refine .inl ⟨_, .inl ⟨p, hp, ?_, rfl⟩, fun n => ?_⟩
      · rw [← hI]; exact fs _ (by rw [hA]; rfl)
      · rw [st n, hA, if_neg (show ¬ bI true = 0 by decide)]
    | false =>
      refine .inr ⟨s, ?_, fun n => ?_⟩
      · rw [← hI]; exact (fn (by rw [hA]; rfl)).symm
      · rw [st n, hA, bI_f, if_pos rfl]) (fun s hI => by
    refine ⟨_, .inr ⟨by rw [← hI]; rfl, rfl⟩, fun n => ?_⟩
    show g_X10_movesOne_18 y (nI j) (nI a) (l_X10_movesOne_18 y (nI j) (nI a) (g_X10_movesOne_33 y (nI j) (nI a)) n) (g_X10_movesOne_33 y (nI j) (nI a)) (nI 64) n2 = _
    unfold g_X10_movesOne_18
    rw [if_pos (show (64 : Int32) ≤ nI 64 by decide)]) (s0 := ()) hmv.symm
  have hr2 := hr FU (by unfold FU; omega)
  rcases hQ with ⟨p, hp, h1, h2⟩ | ⟨h1, h2⟩
  · have o3 : Mw y a a n2 (((n2.sI 1177 y 0 (nI a)).sI 1178 y 0 (-1)).sI 1179 y 0 (nI p)) := (((Mw.rf y a a n2).sI _ _ _ _ (by omega)).sI _ _ _ _ (by omega)).sI _ _ _ _ (by omega)
    have R3 := R2.mw o3
    have b3 : Rb (((n2.sI 1177 y 0 (nI a)).sI 1178 y 0 (-1)).sI 1179 y 0 (nI p)) y a (bdy T d a) (snc T a) := v3.kept (fun q q1 q2 => by rw [I_sI, if_neg (by omega), I_sI, if_neg (by omega), I_sI, if_neg (by omega)])
    refine ⟨_, (u2.tr v2).tr o3, R3.s (fun _ => b3) (fun _ => b3), .inl ⟨_, h1, ?_, ?_, ?_⟩⟩
    · rw [pre]
      refine hr2.trans ?_
      rw [h2]
      unfold g_X10_movesOne_33
      rw [chk_t R2.1.1.1, bnd_e, bnd_e, bnd_e]
    · rw [I_sI, if_neg (by omega), I_sI, if_pos ⟨rfl, rfl, rfl⟩]
    · rw [I_sI, if_pos ⟨rfl, rfl, rfl⟩, show upN (fun _ => 0) 0 p 0 = p from if_pos rfl]
  · exact ⟨n2, u2.tr v2, S2, .inr ⟨h1, by rw [pre]; exact hr2.trans h2⟩⟩
def FDm (s : MM) (y b : Nat) (ps : Nat → Nat) : Prop := s.I 1178 y 0 = nI b ∧ s.I 1179 y 0 = nI (ps 0) ∧ s.I 1180 y 0 = nI (ps 1)
def MAm (s : MM) (y : Nat) (A : Nat → Nat → Bool) : Prop := ∀ p, p < 64 → s.I 24 (y + 54) p = bI (A 0 p) ∧ s.I 24 (y + 55) p = bI (A 1 p)
theorem ie_self (K : Int32 → Int32 → MM → Option (Int32 × MM)) (x4 : Int32) (p : Nat) (s : MM) (c : Prop) [Decidable c] : (if c then K x4 (nI p) s else K x4 (nI p) s) = K x4 (nI p) s := by split <;> rfl
theorem r_mt50 (R : RX m y i j T B d a b) (ha : a < T.2.1 0) (hb : b < T.2.1 0) (hab : a ≠ b) {p : Nat} (hp : p < 64) (hM : MAm m y (mvA T B d a b)) (hG : Rg m y a T d (gst (bdy T d a).k (bdy T d a).f p)) : ∃ x4 s, Mw y a b m s ∧ MAm s y (mvA T B d a b) ∧ ((x4 = (0 : Int32) ∧ sp2 (mvA T B d a b) (gsC T B d (-1) (mkk T a b) (mff T a b)) p = none) ∨ (x4 = 1 ∧ ∃ ps, sp2 (mvA T B d a b) (gsC T B d (-1) (mkk T a b) (mff T a b)) p = some ps ∧ FDm s y b ps)) ∧ ∀ K, l_X10_movesTwo_50 y (nI j) (nI a) (nI b) K FU 0 (nI p) 0 m = K x4 (nI p) s := by
  have hn := R.2.2.1.1
  obtain ⟨cl, hcl⟩ : ∃ cl, cl = gsC T B d (-1) (mkk T a b) (mff T a b) := ⟨_, rfl⟩
  obtain ⟨A, hA⟩ : ∃ A, A = mvA T B d a b := ⟨_, rfl⟩
  rw [← hcl, ← hA]
  rw [← hA] at hM
  cases hAp : A 0 p with
  | false =>
    have hs : sp2 A cl p = none := by unfold sp2; rw [hAp]; rfl
    refine ⟨0, m, Mw.rf y a b m, hM, .inl ⟨rfl, hs⟩, fun K => ?_⟩
    obtain ⟨k, hk⟩ := FU3
    rw [hk]
    show g_X10_movesTwo_50 y (nI j) (nI a) (nI b) (l_X10_movesTwo_50 y (nI j) (nI a) (nI b) K (k + 1 + 1)) K 0 (nI p) 0 m = _
    unfold g_X10_movesTwo_50
    rw [if_neg (show ¬ (64 : Int32) ≤ 0 by decide), chk_t R.1.1.1, R.1.1.c1181, R.1.1.n1181, chk_t (inb_nI hp (by decide)), cl_nI (show p < 2 ^ 31 by omega), (hM p hp).1, hAp, bI_f, if_pos rfl]
  | true =>
  have hs : sp2 A cl p = fo (sq2 A cl p) 64 0 := by unfold sp2; rw [hAp]; rfl
  rw [hs]
  obtain ⟨r, ⟨x4, s, q1, q2, q3, q4⟩, hr⟩ := lp_ex (fun n q (s : Int32 × MM) => fun (K : Int32 → Int32 → MM → Option (Int32 × MM)) => l_X10_movesTwo_50 y (nI j) (nI a) (nI b) K n s.1 (nI p) q s.2) (fun q s => Mw y a b m s.2 ∧ MAm s.2 y A ∧ Rg s.2 y a T d (gst (bdy T d a).k (bdy T d a).f p) ∧ ((s.1 = 0 ∧ fo (sq2 A cl p) (64 - q) q = fo (sq2 A cl p) 64 0) ∨ (s.1 = 1 ∧ ∃ ps, fo (sq2 A cl p) 64 0 = some ps ∧ FDm s.2 y b ps))) (fun r => ∃ x4 s, Mw y a b m s ∧ MAm s y A ∧ ((x4 = (0 : Int32) ∧ fo (sq2 A cl p) 64 0 = none) ∨ (x4 = 1 ∧ ∃ ps, fo (sq2 A cl p) 64 0 = some ps ∧ FDm s y b ps)) ∧ r = fun K => K x4 (nI p) s) 64 0 (by omega) (fun q _ hq s hI => by
    obtain ⟨x4, s⟩ := s
    obtain ⟨a1, a2, a3, a4⟩ := hI
    have Rs := R.mw a1
    have e1 : ¬ (64 : Int32) ≤ nI q := nI_ge (b := 64) hq (by decide)
    have ap : s.I 24 (y + 54) p = bI true := by rw [(a2 p hp).1, hAp]
    rcases a4 with ⟨h0, a5⟩ | ⟨h1, ps, a5, a6⟩
    · have h0 : x4 = 0 := h0
      subst h0
      obtain ⟨n1, u1, u2, u3, u4⟩ := r_put Rs hb (.inr rfl) hq
      have R1 := Rs.mw u2
      have M1 : MAm n1 y A := fun p' hp' => ⟨by rw [u4 _ _ _ (by omega)]; exact (a2 p' hp').1, by rw [u4 _ _ _ (by omega)]; exact (a2 p' hp').2⟩
      have G1 : Rg n1 y a T d (gst (bdy T d a).k (bdy T d a).f p) := Rb.of a3 (fun b' _ _ => u4 _ _ _ (by omega))
      have bb := R1.both (show a < 15 by omega) (show b < 15 by omega) hab G1 u3 (-1)
      have ecl : clB T B 0 (bt 255) (clL T d) (-1) (gst (bdy T d a).k (bdy T d a).f p) (gst (bdy T d b).k (bdy T d b).f q) = cl 0 p 1 q := by rw [hcl]; rfl
      rw [ecl] at bb
      have epq : (nI p = nI q) ↔ p = q := ⟨nI_inj (by omega) (by omega), fun z => by rw [z]⟩
      obtain ⟨n2, hn2⟩ : ∃ n2, n2 = (((n1.sI 1177 y 0 (nI a)).sI 1178 y 0 (nI b)).sI 1179 y 0 (nI p)).sI 1180 y 0 (nI q) := ⟨_, rfl⟩
      have pre : ∀ n (K : Int32 → Int32 → MM → Option (Int32 × MM)), l_X10_movesTwo_50 y (nI j) (nI a) (nI b) K (n + 1) 0 (nI p) (nI q) s = if A 1 q = false then l_X10_movesTwo_50 y (nI j) (nI a) (nI b) K n 0 (nI p) (nI (q + 1)) n1 else if p = q then l_X10_movesTwo_50 y (nI j) (nI a) (nI b) K n 0 (nI p) (nI (q + 1)) n1 else if cl 0 p 1 q = false then l_X10_movesTwo_50 y (nI j) (nI a) (nI b) K n 1 (nI p) (nI (q + 1)) n2 else l_X10_movesTwo_50 y (nI j) (nI a) (nI b) K n 0 (nI p) (nI (q + 1)) n1 := by
        intro n K
        show g_X10_movesTwo_50 y (nI j) (nI a) (nI b) (l_X10_movesTwo_50 y (nI j) (nI a) (nI b) K n) K 0 (nI p) (nI q) s = _
        unfold g_X10_movesTwo_50 g_X10_movesTwo_132
        rw [if_neg e1, chk_t Rs.1.1.1, Rs.1.1.c1181, Rs.1.1.n1181, chk_t (inb_nI hp (by decide)), cl_nI (show p < 2 ^ 31 by omega), ap, if_neg (show ¬ bI true = 0 by decide), if_pos rfl, u1, cal_s, chk_t R1.1.1.1, R1.1.1.c1182, R1.1.1.n1182, chk_t (inb_nI hq (by decide)), cl_nI (show q < 2 ^ 31 by omega), (M1 q hq).2, nI_1]
        cases A 1 q with
        | false => rw [bI_f, if_pos rfl, if_pos rfl]
        | true =>
          rw [if_neg (show ¬ bI true = 0 by decide), if_neg (show ¬ true = false by decide)]
          by_cases z : p = q
          · rw [if_pos (epq.mpr z), if_pos z]
          · rw [if_neg (fun w => z (epq.mp w)), if_neg z, bb, cal_s]
            cases cl 0 p 1 q with
            | false => rw [bI_f, if_pos rfl, if_pos rfl, chk_t R1.1.1.1, bnd_e, bnd_e, bnd_e, bnd_e, ← hn2]
            | true => rw [if_neg (show ¬ bI true = 0 by decide), if_neg (show ¬ true = false by decide)]
      obtain ⟨fs, fn⟩ := fo_st (f := sq2 A cl p) hq
      cases hok : (A 1 q && (!decide (p = q) && !cl 0 p 1 q)) with
      | false =>
        have hin : sq2 A cl p q = none := by unfold sq2; rw [hok]; rfl
        refine .inr ⟨(0, n1), ⟨a1.tr u2, M1, G1, .inl ⟨rfl, by rw [← a5]; exact (fn hin).symm⟩⟩, fun n => ?_⟩
        funext K
        show l_X10_movesTwo_50 y (nI j) (nI a) (nI b) K (n + 1) 0 (nI p) (nI q) s = _
        rw [pre n K]
        cases h1 : A 1 q with
        | false => rw [if_pos rfl]
        | true =>
          rw [if_neg (show ¬ true = false by decide)]
          by_cases z : p = q
          · rw [if_pos z]
          · rw [if_neg z]
            rw [h1, decide_eq_false z] at hok
            have h2 : cl 0 p 1 q = true := by simpa using hok
            rw [h2, if_neg (show ¬ true = false by decide)]
      | true =>
        have hin : sq2 A cl p q = some (upN (upN (fun _ => 0) 0 p) 1 q) := by unfold sq2; rw [hok]; rfl
        rw [Bool.and_eq_true, Bool.and_eq_true] at hok
        obtain ⟨h1, h2, h3⟩ := hok
        have z : ¬ p = q := by simpa using h2
        have h3 : cl 0 p 1 q = false := by simpa using h3
        have o2 : Mw y a b n1 n2 := by rw [hn2]; exact ((((Mw.rf y a b n1).sI _ _ _ _ (by omega)).sI _ _ _ _ (by omega)).sI _ _ _ _ (by omega)).sI _ _ _ _ (by omega)
        have k2 : ∀ s q' c, q' ≠ y → n2.I s q' c = n1.I s q' c := fun s q' c hq' => by rw [hn2, I_sI, if_neg (by omega), I_sI, if_neg (by omega), I_sI, if_neg (by omega), I_sI, if_neg (by omega)]
        refine .inr ⟨(1, n2), ⟨(a1.tr u2).tr o2, fun p' hp' => ⟨by rw [k2 _ _ _ (by omega)]; exact (M1 p' hp').1, by rw [k2 _ _ _ (by omega)]; exact (M1 p' hp').2⟩, Rb.of G1 (fun b' _ _ => k2 _ _ _ (by omega)), .inr ⟨rfl, _, (by rw [← a5]; exact fs _ hin), ?_, ?_, ?_⟩⟩, fun n => ?_⟩
        · show n2.I 1178 y 0 = _
          rw [hn2, I_sI, if_neg (by omega), I_sI, if_neg (by omega), I_sI, if_pos ⟨rfl, rfl, rfl⟩]
        · show n2.I 1179 y 0 = _
          rw [hn2, I_sI, if_neg (by omega), I_sI, if_pos ⟨rfl, rfl, rfl⟩]; rfl
        · show n2.I 1180 y 0 = _
          rw [hn2, I_sI, if_pos ⟨rfl, rfl, rfl⟩]; rfl
        · funext K
          show l_X10_movesTwo_50 y (nI j) (nI a) (nI b) K (n + 1) 0 (nI p) (nI q) s = _
          rw [pre n K, h1, if_neg (show ¬ true = false by decide), if_neg z, h3, if_pos rfl]
    · have h1 : x4 = 1 := h1
      subst h1
      refine .inl ⟨fun K => K 1 (nI p) s, ⟨1, s, a1, a2, .inr ⟨rfl, ps, a5, a6⟩, rfl⟩, fun n => ?_⟩
      funext K
      show g_X10_movesTwo_50 y (nI j) (nI a) (nI b) (l_X10_movesTwo_50 y (nI j) (nI a) (nI b) K n) K 1 (nI p) (nI q) s = _
      unfold g_X10_movesTwo_50
      rw [if_neg e1, chk_t Rs.1.1.1, Rs.1.1.c1181, Rs.1.1.n1181, chk_t (inb_nI hp (by decide)), cl_nI (show p < 2 ^ 31 by omega), ap, if_neg (show ¬ bI true = 0 by decide), if_neg ne10]) (fun s hI => by
    obtain ⟨x4, s⟩ := s
    obtain ⟨a1, a2, a3, a4⟩ := hI
    refine ⟨fun K => K x4 (nI p) s, ⟨x4, s, a1, a2, ?_, rfl⟩, fun n => ?_⟩
    · rcases a4 with ⟨h0, a5⟩ | h
      · exact .inl ⟨h0, by rw [← a5, Nat.sub_self]; rfl⟩
      · exact .inr h
    · funext K
      show g_X10_movesTwo_50 y (nI j) (nI a) (nI b) (l_X10_movesTwo_50 y (nI j) (nI a) (nI b) K n) K x4 (nI p) (nI 64) s = _
      unfold g_X10_movesTwo_50
      rw [if_pos (show (64 : Int32) ≤ nI 64 by decide)]) (s0 := (0, m)) ⟨Mw.rf y a b m, hM, hG, .inl ⟨rfl, rfl⟩⟩
  refine ⟨x4, s, q1, q2, q3, fun K => ?_⟩
  have := congrFun (hr FU (by unfold FU; omega)) K
  rw [q4] at this
  exact this
theorem r_movesTwo (R : RS m y i j T B d 0 (-1) 0) (ha : a < T.2.1 0) (hb : b < T.2.1 0) (hab : a ≠ b) : ∃ n, Mw y a b m n ∧ RS n y i j T B d 0 (-1) 0 ∧ ((∃ ps, mvS T B d a b 2 = some ps ∧ f_X10_movesTwo y (nI j) (nI a) (nI b) m = some (1, n) ∧ FDm n y b ps) ∨ (mvS T B d a b 2 = none ∧ f_X10_movesTwo y (nI j) (nI a) (nI b) m = some (0, n))) := by
  have hn := R.2.2.1.1
  have R0 := R.x a b
  obtain ⟨n1, u1, u2, u3, _⟩ := r_findPoints (A := y + 54) (o := nI b) R0 (.inl rfl) ha (.inl rfl) (fun c hc => by
    constructor
    · rintro (e | e)
      · exact .inl (nI_inj (by omega) (by omega) e)
      · exact .inr (nI_inj (by omega) (by omega) e)
    · rintro (e | e)
      · exact .inl (by rw [e])
      · exact .inr (by rw [e]))
  have R1 := R0.mw u2
  obtain ⟨n2, v1, v2, v3, v4⟩ := r_findPoints (A := y + 55) (o := nI a) R1 (.inr rfl) hb (.inr rfl) (fun c hc => by
    constructor
    · rintro (e | e)
      · exact .inr (nI_inj (by omega) (by omega) e)
      · exact .inl (nI_inj (by omega) (by omega) e)
    · rintro (e | e)
      · exact .inr (by rw [e])
      · exact .inl (by rw [e]))
  have R2 := R1.mw v2
  have M2 : MAm n2 y (mvA T B d a b) := fun p hp => ⟨by rw [v4 _ _ (by omega) (.inl rfl)]; exact u3 p hp, v3 p hp⟩
  have hmv : mvS T B d a b 2 = fo (sp2 (mvA T B d a b) (gsC T B d (-1) (mkk T a b) (mff T a b))) 64 0 := sf_2 _ _
  have pre : f_X10_movesTwo y (nI j) (nI a) (nI b) m = l_X10_movesTwo_28 y (nI j) (nI a) (nI b) (g_X10_movesTwo_144 y (nI j) (nI a) (nI b)) FU 0 0 n2 := by
    unfold f_X10_movesTwo g_X10_movesTwo_0
    rw [chk_t R0.1.1.1, R0.1.1.r1181, u1, cal_s, chk_t R1.1.1.1, R1.1.1.r1182, v1, cal_s]
  obtain ⟨r, ⟨x4, s, q1, q3, q4⟩, hr⟩ := lp_ex (fun n p (s : Int32 × MM) => l_X10_movesTwo_28 y (nI j) (nI a) (nI b) (g_X10_movesTwo_144 y (nI j) (nI a) (nI b)) n s.1 p s.2) (fun p s => Mw y a b m s.2 ∧ MAm s.2 y (mvA T B d a b) ∧ ((s.1 = 0 ∧ fo (sp2 (mvA T B d a b) (gsC T B d (-1) (mkk T a b) (mff T a b))) (64 - p) p = mvS T B d a b 2) ∨ (s.1 = 1 ∧ ∃ ps, mvS T B d a b 2 = some ps ∧ FDm s.2 y b ps))) (fun r => ∃ x4 s, Mw y a b m s ∧ ((x4 = (0 : Int32) ∧ mvS T B d a b 2 = none) ∨ (x4 = 1 ∧ ∃ ps, mvS T B d a b 2 = some ps ∧ FDm s y b ps)) ∧ r = g_X10_movesTwo_144 y (nI j) (nI a) (nI b) x4 s) 64 0 (by omega) (fun p _ hp s hI => by
    obtain ⟨x4, s⟩ := s
    obtain ⟨a1, a2, a4⟩ := hI
    have Rs := R0.mw a1
    have e1 : ¬ (64 : Int32) ≤ nI p := nI_ge (b := 64) hp (by decide)
    rcases a4 with ⟨h0, a5⟩ | ⟨h1, ps, a5, a6⟩
    · have h0 : x4 = 0 := h0
      subst h0
      obtain ⟨n1, u1, u2, u3, u4⟩ := r_put Rs ha (.inl rfl) hp
      have R1 := Rs.mw u2
      have M1 : MAm n1 y (mvA T B d a b) := fun p' hp' => ⟨by rw [u4 _ _ _ (by omega)]; exact (a2 p' hp').1, by rw [u4 _ _ _ (by omega)]; exact (a2 p' hp').2⟩
      obtain ⟨x4, s', w1, w2, w3, w4⟩ := r_mt50 R1 ha hb hab hp M1 u3
      obtain ⟨fs, fn⟩ := fo_st (f := sp2 (mvA T B d a b) (gsC T B d (-1) (mkk T a b) (mff T a b))) hp
      refine .inr ⟨(x4, s'), ⟨(a1.tr u2).tr w1, w2, ?_⟩, fun n => ?_⟩
      · rcases w3 with ⟨y1, y2⟩ | ⟨y1, ps, y2, y3⟩
        · exact .inl ⟨y1, by rw [← a5]; exact (fn y2).symm⟩
        · exact .inr ⟨y1, ps, by rw [← a5]; exact fs _ y2, y3⟩
      · show g_X10_movesTwo_28 y (nI j) (nI a) (nI b) (l_X10_movesTwo_28 y (nI j) (nI a) (nI b) (g_X10_movesTwo_144 y (nI j) (nI a) (nI b)) n) (g_X10_movesTwo_144 y (nI j) (nI a) (nI b)) 0 (nI p) s = _
        unfold g_X10_movesTwo_28
        rw [if_neg e1, if_pos rfl, chk_t Rs.1.1.1, u1, cal_s, w4]
        unfold g_X10_movesTwo_138
        rw [nI_1]
    · have h1 : x4 = 1 := h1
      subst h1
      refine .inl ⟨_, ⟨1, s, a1, .inr ⟨rfl, ps, a5, a6⟩, rfl⟩, fun n => ?_⟩
      show g_X10_movesTwo_28 y (nI j) (nI a) (nI b) (l_X10_movesTwo_28 y (nI j) (nI a) (nI b) (g_X10_movesTwo_144 y (nI j) (nI a) (nI b)) n) (g_X10_movesTwo_144 y (nI j) (nI a) (nI b)) 1 (nI p) s = _
      unfold g_X10_movesTwo_28
      rw [if_neg e1, if_neg ne10]) (fun s hI => by
    obtain ⟨x4, s⟩ := s
    obtain ⟨a1, a2, a4⟩ := hI
    refine ⟨_, ⟨x4, s, a1, ?_, rfl⟩, fun n => ?_⟩
    · rcases a4 with ⟨h0, a5⟩ | h
      · exact .inl ⟨h0, by rw [← a5, Nat.sub_self]; rfl⟩
      · exact .inr h
    · show g_X10_movesTwo_28 y (nI j) (nI a) (nI b) (l_X10_movesTwo_28 y (nI j) (nI a) (nI b) (g_X10_movesTwo_144 y (nI j) (nI a) (nI b)) n) (g_X10_movesTwo_144 y (nI j) (nI a) (nI b)) x4 (nI 64) s = _
      unfold g_X10_movesTwo_28
      rw [if_pos (show (64 : Int32) ≤ nI 64 by decide)]) (s0 := (0, n2)) ⟨u2.tr v2, M2, .inl ⟨rfl, hmv.symm⟩⟩
  have hr2 := hr FU (by unfold FU; omega)
  have Rs := R0.mw q1
  obtain ⟨n3, w1, w2, w3, w4⟩ := r_putBack Rs ha (.inl rfl)
  have R3 := Rs.mw w2
  obtain ⟨n4, y1, y2, y3, y4⟩ := r_putBack R3 hb (.inr rfl)
  have R4 := R3.mw y2
  have b4 : Rb n4 y a (bdy T d a) (snc T a) := w3.kept (fun q _ _ => y4 _ _ _ (.inl hab))
  have S4 : RS n4 y i j T B d 0 (-1) 0 := R4.s (fun _ => b4) (fun _ => y3)
  have h01 : x4 = 0 ∨ x4 = 1 := by rcases q3 with h | h; exact .inl h.1; exact .inr h.1
  have fin : f_X10_movesTwo y (nI j) (nI a) (nI b) m = some (x4, n4) := by
    rw [pre]
    refine hr2.trans ?_
    rw [q4]
    unfold g_X10_movesTwo_144
    rw [chk_t Rs.1.1.1, w1, cal_s, chk_t R3.1.1.1, y1, cal_s, chk_t h01]
  refine ⟨n4, q1.tr (w2.tr y2), S4, ?_⟩
  rcases q3 with ⟨h1, h2⟩ | ⟨h1, ps, h2, h3⟩
  · subst h1; exact .inr ⟨h2, fin⟩
  · subst h1
    have k4 : ∀ s, n4.I s y 0 = (n3.I s y 0) := fun s => y4 _ _ _ (.inr (by omega))
    exact .inl ⟨ps, h2, fin, by rw [k4, w4 _ _ _ (.inr (by omega))]; exact h3.1, by rw [k4, w4 _ _ _ (.inr (by omega))]; exact h3.2.1, by rw [k4, w4 _ _ _ (.inr (by omega))]; exact h3.2.2⟩
end RON
