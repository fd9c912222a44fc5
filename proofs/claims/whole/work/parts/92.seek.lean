/-! a row of points is sought -/
def upN (ps : Nat → Nat) (k p : Nat) : Nat → Nat := fun i => if i = k then p else ps i
def fo {α : Type} (f : Nat → Option α) : Nat → Nat → Option α
  | 0, _ => none
  | c + 1, i => match f i with
    | some v => some v
    | none => fo f c (i + 1)
theorem fo_t {α : Type} {f : Nat → Option α} {c i : Nat} {v : α} (h : f i = some v) : fo f (c + 1) i = some v := by
  show (match f i with | some v => some v | none => fo f c (i + 1)) = some v
  rw [h]
theorem fo_f {α : Type} {f : Nat → Option α} {c i : Nat} (h : f i = none) : fo f (c + 1) i = fo f c (i + 1) := by
  show (match f i with | some v => some v | none => fo f c (i + 1)) = _
  rw [h]
def ftB (A : Nat → Nat → Bool) (cl : Nat → Nat → Nat → Nat → Bool) (k : Nat) (ps : Nat → Nat) : Bool := A k (ps k) && !(List.range k).any (fun i => decide (ps i = ps k) || cl i (ps i) k (ps k))
def se (A : Nat → Nat → Bool) (cl : Nat → Nat → Nat → Nat → Bool) : Nat → Nat → (Nat → Nat) → Option (Nat → Nat)
  | 0, _, ps => some ps
  | c + 1, k, ps => fo (fun p => if ftB A cl k (upN ps k p) then se A cl c (k + 1) (upN ps k p) else none) 64 0
theorem se_s (A : Nat → Nat → Bool) (cl : Nat → Nat → Nat → Nat → Bool) (c k : Nat) (ps : Nat → Nat) : se A cl (c + 1) k ps = fo (fun p => if ftB A cl k (upN ps k p) then se A cl c (k + 1) (upN ps k p) else none) 64 0 := rfl
def bdS : Nat → Nat
  | 0 => 1
  | c + 1 => 64 * (1 + bdS c) + 1
theorem bdS_s (c : Nat) : bdS (c + 1) = 64 * (1 + bdS c) + 1 := rfl
def wkN (T : TW) (i : Nat) : Nat := (T.2.2 5 i 0).toNatClampNeg
def wfV (T : TW) (i : Nat) : Int32 := T.2.2 5 i 1
def wsA (T : TW) (B : LW) (d : Nat) (wo : Int32) (O : Nat → Bool) (i p : Nat) : Bool := opP T B d wo O (wkN T i) (wfV T i) p
def wsC (T : TW) (B : LW) (d : Nat) (wo : Int32) (i p k q : Nat) : Bool := clB T B 0 (bt 255) (clL T d) wo (gst (wkN T i) (wfV T i) p) (gst (wkN T k) (wfV T k) q)
/-- the reference's search, at level k -/
def SR (m : MM) (y i j : Nat) (T : TW) (B : LW) (d : Nat) (O : Nat → Bool) (k : Nat) (ps : Nat → Nat) : Prop := RO m y i j T B d O ∧ ∀ c, c < k → ps c < 64 ∧ Rg m y (12 + c) T d (gst (wkN T c) (wfV T c) (ps c)) ∧ m.I 22 (y + 53) c = nI (ps c)
section SRC
variable {m : MM} {y i j d k : Nat} {T : TW} {B : LW} {O : Nat → Bool} {ps : Nat → Nat} {but : Int32}
theorem Rb.of {m n : MM} {y p : Nat} {T : TW} {d : Nat} {a : BD} (h : Rg m y p T d a) (hI : ∀ b, y + 45 ≤ b → b < y + 50 → n.I 22 b p = m.I 22 b p) : Rg n y p T d a := by
  obtain ⟨s, h1, h2, h3, h4⟩ := h
  exact ⟨s, h1, h2.kept hI, h3, h4⟩
theorem SR.pl (S : SR m y i j T B d O k ps) {c : Nat} (hc : k ≤ c) (v : Int32) : SR (m.sI 22 (y + 53) c v) y i j T B d O k ps := by
  have l : Ln y m (m.sI 22 (y + 53) c v) := (Ln.rf y m).sI _ _ _ _ (.inr (.inr rfl))
  refine ⟨S.1.ln l, fun e he => ?_⟩
  obtain ⟨s1, s2, s3⟩ := S.2 e he
  exact ⟨s1, Rb.of s2 (fun b b1 b2 => by rw [I_sI, if_neg (by omega)]), by rw [I_sI, if_neg (by omega)]; exact s3⟩
theorem r_fits (S : SR m y i j T B d O (k + 1) ps) (hk : k < 3) : f_X10_fits y (nI j) (nI k) but m = some (bI (styB T B d but O (gst (wkN T k) (wfV T k) (ps k)) && !(List.range k).any (fun c => decide (ps c = ps k) || wsC T B d but c (ps c) k (ps k))), m) := by
  have R := S.1
  obtain ⟨p1, p2, p3⟩ := S.2 k (by omega)
  have mb := r_mayBy R hk p2 but
  have := lp_any (fun n c => l_X10_fits_3 y (nI j) (nI k) but n c m) (fun c => decide (ps c = ps k) || wsC T B d but c (ps c) k (ps k)) (some (0, m)) (some (bI (styB T B d but O (gst (wkN T k) (wfV T k) (ps k))), m)) k (fun c hc n => ?_) (fun n => ?_) (n := FU) (by unfold FU; omega)
  · refine this.trans ?_
    cases (List.range k).any _ <;> cases styB T B d but O (gst (wkN T k) (wfV T k) (ps k)) <;> rfl
  · show g_X10_fits_3 y (nI j) (nI k) but (l_X10_fits_3 y (nI j) (nI k) but n) (nI c) m = _
    obtain ⟨c1, c2, c3⟩ := S.2 c (by omega)
    have e1 : ¬ nI k ≤ nI c := nI_ge hc (by omega)
    have e12 : (12 : Int32) + nI c = nI (12 + c) := nI_add 12 c
    have e12k : (12 : Int32) + nI k = nI (12 + k) := nI_add 12 k
    have ee : (nI (ps c) = nI (ps k)) ↔ ps c = ps k := ⟨nI_inj (by omega) (by omega), fun q => by rw [q]⟩
    have bb := r_both R (show 12 + c < 15 by omega) (show 12 + k < 15 by omega) (show 12 + c ≠ 12 + k by omega) c2 p2 but
    have bb : f_X10_barsBoth y (nI j) (nI (12 + c)) (nI (12 + k)) but m = some (bI (wsC T B d but c (ps c) k (ps k)), m) := bb
    simp only [g_X10_fits_3, if_neg e1, chk_t R.1.1.1, R.1.1.c1176, R.1.1.n1176, chk_t (inb_nI (show c < 3 by omega) (by decide)), chk_t (inb_nI hk (by decide)), cl_nI (show c < 2 ^ 31 by omega), cl_nI (show k < 2 ^ 31 by omega), c3, p3, ee, e12, e12k, bb, chk_t, ck_sI, ck_sR, ck_sJ, cal_s, bnd_e, ifn_s, ifn_n, bI_0, nI_1]
    by_cases z : ps c = ps k
    · rw [if_pos z, decide_eq_true z]; rfl
    · rw [if_neg z, decide_eq_false z, Bool.false_or]
      cases wsC T B d but c (ps c) k (ps k) <;> simp
  · show g_X10_fits_3 y (nI j) (nI k) but (l_X10_fits_3 y (nI j) (nI k) but n) (nI k) m = _
    unfold g_X10_fits_3
    rw [if_pos (Int32.le_refl _), chk_t R.1.1.1, mb, cal_s, chk_t (bI_01 _)]
theorem dn1 (k : Nat) (hk : k < 100) : nI (k + 1) + (-1) = nI k := by
  have e : nI (k + 1) + (-1) = nI (k + 1) - 1 := by rw [Int32.sub_eq_add_neg]
  rw [e]
  exact pk_sub (a := k + 1) (b := 1) (by omega)
/-- how the search goes on from a level -/
def OC (y i j : Nat) (T : TW) (B : LW) (d : Nat) (O : Nat → Bool) (n : Nat) (bare but : Int32) (k : Nat) (ps : Nat → Nat) (m : MM) (res : Option (Nat → Nat)) (bd : Nat) : Prop := ∃ s m', s ≤ bd ∧ Ln y m m' ∧ ((∃ ps', res = some ps' ∧ (∀ e, e < n → ps' e < 64 ∧ m'.I 22 (y + 53) e = nI (ps' e)) ∧ ∀ N, l_X10_findPlan_35 y (nI i) (nI j) bare but (g_X10_findPlan_169 y (nI i) (nI j) bare but) (N + s) (nI n) (nI k) m = some (1, m')) ∨ (res = none ∧ SR m' y i j T B d O k ps ∧ ∀ N, l_X10_findPlan_35 y (nI i) (nI j) bare but (g_X10_findPlan_169 y (nI i) (nI j) bare but) (N + s) (nI n) (nI k) m = l_X10_findPlan_35 y (nI i) (nI j) bare but (g_X10_findPlan_169 y (nI i) (nI j) bare but) N (nI n) (nI k + (-1)) m'))
theorem r_step {n p : Nat} (hn : n = T.2.1 5) (bare : Int32) (hk : k < n) (hp : p < 64) (S : SR m y i j T B d O k ps) (hpl : m.I 22 (y + 53) k + 1 = nI p) : ∃ m1, Ln y m m1 ∧ SR m1 y i j T B d O k ps ∧ m1.I 22 (y + 53) k = nI p ∧ ((ftB (wsA T B d but O) (wsC T B d but) k (upN ps k p) = false ∧ ∀ N, l_X10_findPlan_35 y (nI i) (nI j) bare but (g_X10_findPlan_169 y (nI i) (nI j) bare but) (N + 1) (nI n) (nI k) m = l_X10_findPlan_35 y (nI i) (nI j) bare but (g_X10_findPlan_169 y (nI i) (nI j) bare but) N (nI n) (nI k) m1) ∨ (ftB (wsA T B d but O) (wsC T B d but) k (upN ps k p) = true ∧ SR m1 y i j T B d O (k + 1) (upN ps k p) ∧ (k + 1 < n → m1.I 22 (y + 53) (k + 1) = -1) ∧ ∀ N, l_X10_findPlan_35 y (nI i) (nI j) bare but (g_X10_findPlan_169 y (nI i) (nI j) bare but) (N + 1) (nI n) (nI k) m = l_X10_findPlan_35 y (nI i) (nI j) bare but (g_X10_findPlan_169 y (nI i) (nI j) bare but) N (nI n) (nI (k + 1)) m1)) := by
  have R := S.1
  have hn3 : n ≤ 3 := by rw [hn]; exact R.2.2.1.2.2.2.2.2
  have hi := R.1.2.2.1
  have M := R.1.1
  have e1 : ¬ nI n ≤ nI k := nI_ge hk (by omega)
  have e2 : ¬ nI k < 0 := nI_pos (by omega)
  have e3 : ¬ nI p = 64 := fun q => by have := nI_inj (b := 64) (by omega) (by decide) q; omega
  have S1 := S.pl (Nat.le_refl k) (nI p)
  have l1 : Ln y m (m.sI 22 (y + 53) k (nI p)) := (Ln.rf y m).sI _ _ _ _ (.inr (.inr rfl))
  have i1 : (m.sI 22 (y + 53) k (nI p)).I 22 (y + 53) k = nI p := by rw [I_sI, if_pos ⟨rfl, rfl, rfl⟩]
  have R1 := S1.1
  have M1 : Md (m.sI 22 (y + 53) k (nI p)) y := M
  obtain ⟨w1, w2⟩ := R.2.1.2.2.2.2.2.2.2.2.2 k (by omega)
  have w2 : wfV T k = -1 ∨ nB (wfV T k) 4 := w2
  have wk := nB_e w1 (by omega)
  have hwk : wkN T k < 6 := wk.2
  have ek : (3 : Int32) * nI i = nI (3 * i) := pk_mul 3 i
  have q0 : (m.sI 22 (y + 53) k (nI p)).I 22 (y + 26) (3 * i + k) = nI (wkN T k) := by rw [I_sI, if_neg (by omega)]; exact (R.1.2.2.2.1.2.2.2.2.2.2 k (by omega) 0 (by omega)).trans wk.1
  have q1 : (m.sI 22 (y + 53) k (nI p)).I 22 (y + 27) (3 * i + k) = wfV T k := by rw [I_sI, if_neg (by omega)]; exact R.1.2.2.2.1.2.2.2.2.2.2 k (by omega) 1 (by omega)
  have ip := r_isPoint M1 (show i < 12 by omega) R1.1.2.2.2.1.1.1 R1.1.2.2.2.1.1.2.1 R.2.1 (nI (p % 8)) (nI (p / 8))
  obtain ⟨m2, u1, u2, u3, u4⟩ := r_lay R1 (g := k) (by omega) hwk w2 (show p % 8 < 8 by omega) (show p / 8 < 8 by omega)
  have hupk : upN ps k p k = p := if_pos rfl
  have hupc : ∀ c, c < k → upN ps k p c = ps c := fun c hc => if_neg (by omega)
  have ik2 : m2.I 22 (y + 53) k = nI p := by rw [u4 _ _ _ (by omega)]; exact i1
  have S2 : SR m2 y i j T B d O (k + 1) (upN ps k p) := by
    refine ⟨R1.ln u2, fun c hc => ?_⟩
    by_cases z : c = k
    · subst z
      rw [hupk]
      exact ⟨hp, u3, ik2⟩
    · rw [hupc c (by omega)]
      obtain ⟨s1, s2, s3⟩ := S1.2 c (by omega)
      exact ⟨s1, Rb.of s2 (fun b b1 b2 => u4 _ _ _ (by omega)), by rw [u4 _ _ _ (by omega)]; exact s3⟩
  have S2k : SR m2 y i j T B d O k ps := ⟨S2.1, fun c hc => by have := S2.2 c (by omega); rw [hupc c hc] at this; exact this⟩
  have M2 := S2.1.1.1
  have fi := r_fits (but := but) S2 (by omega)
  rw [hupk] at fi
  have hft : ftB (wsA T B d but O) (wsC T B d but) k (upN ps k p) = (hasPt T (nI (p % 8)) (nI (p / 8)) && (styB T B d but O (gst (wkN T k) (wfV T k) p) && !(List.range k).any (fun c => decide (upN ps k p c = p) || wsC T B d but c (upN ps k p c) k p))) := by
    unfold ftB
    rw [hupk]
    show ((hasPt T (nI (p % 8)) (nI (p / 8)) && styB T B d but O (gst (wkN T k) (wfV T k) p)) && _) = _
    rw [Bool.and_assoc]
  generalize hfv : (styB T B d but O (gst (wkN T k) (wfV T k) p) && !(List.range k).any (fun c => decide (upN ps k p c = p) || wsC T B d but c (upN ps k p c) k p)) = fv at *
  have pre : ∀ N, l_X10_findPlan_35 y (nI i) (nI j) bare but (g_X10_findPlan_169 y (nI i) (nI j) bare but) (N + 1) (nI n) (nI k) m = if hasPt T (nI (p % 8)) (nI (p / 8)) = false then l_X10_findPlan_35 y (nI i) (nI j) bare but (g_X10_findPlan_169 y (nI i) (nI j) bare but) N (nI n) (nI k) (m.sI 22 (y + 53) k (nI p)) else if fv = false then l_X10_findPlan_35 y (nI i) (nI j) bare but (g_X10_findPlan_169 y (nI i) (nI j) bare but) N (nI n) (nI k) m2 else if nI n ≤ nI (k + 1) then l_X10_findPlan_35 y (nI i) (nI j) bare but (g_X10_findPlan_169 y (nI i) (nI j) bare but) N (nI n) (nI (k + 1)) m2 else chk (inb (nI (k + 1)) 3 = true) (l_X10_findPlan_35 y (nI i) (nI j) bare but (g_X10_findPlan_169 y (nI i) (nI j) bare but) N (nI n) (nI (k + 1)) (m2.sI 22 (y + 53) (Int32.toNatClampNeg (nI (k + 1))) (-1))) := by
    intro N
    show g_X10_findPlan_35 y (nI i) (nI j) bare but (l_X10_findPlan_35 y (nI i) (nI j) bare but (g_X10_findPlan_169 y (nI i) (nI j) bare but) N) (g_X10_findPlan_169 y (nI i) (nI j) bare but) (nI n) (nI k) m = _
    unfold g_X10_findPlan_35 g_X10_findPlan_166
    rw [if_neg e1, if_neg e2, chk_t M.1, M.c1176, M.n1176, chk_t (inb_nI (show k < 3 by omega) (by decide)), chk_t (inb_nI (show k < 3 by omega) (by decide)), bnd_e, cl_nI (show k < 2 ^ 31 by omega), hpl, ck_sI, R_sI, M.c1176, N_sI, M.n1176, chk_t (inb_nI (show k < 3 by omega) (by decide)), bnd_e, i1, if_neg e3, dv8 p hp, md8 p hp, ip, cal_s]
    cases hasPt T (nI (p % 8)) (nI (p / 8)) with
    | false => rw [bI_f, if_pos rfl, if_pos rfl]
    | true =>
      rw [if_neg (show ¬ bI true = 0 by decide), if_neg (show ¬ true = false by decide), chk_t M1.1, M1.c1126, M1.n1126, ek, nI_add, chk_t (inb_nI (show 3 * i + k < 36 by omega) (by decide)), M1.c1127, M1.n1127, chk_t (inb_nI (show 3 * i + k < 36 by omega) (by decide)), cl_nI (show 3 * i + k < 2 ^ 31 by omega), q0, q1, u1, cal_s, chk_t M2.1, fi, cal_s, nI_1]
      cases fv with
      | false => rw [bI_f, if_pos rfl, if_pos rfl]
      | true => rw [if_neg (show ¬ bI true = 0 by decide), if_neg (show ¬ true = false by decide), chk_t M2.1, M2.c1176, M2.n1176, bnd_e]
  cases hpt : hasPt T (nI (p % 8)) (nI (p / 8)) with
  | false =>
    rw [hpt, Bool.false_and] at hft
    exact ⟨_, l1, S1, i1, .inl ⟨hft, fun N => by rw [pre N, hpt, if_pos rfl]⟩⟩
  | true =>
    rw [hpt, Bool.true_and] at hft
    cases hfv2 : fv with
    | false =>
      rw [hfv2] at hft
      exact ⟨m2, l1.tr u2, S2k, ik2, .inl ⟨hft, fun N => by rw [pre N, hpt, if_neg (by decide), hfv2, if_pos rfl]⟩⟩
    | true =>
      rw [hfv2] at hft
      by_cases z : k + 1 < n
      · have z1 : ¬ nI n ≤ nI (k + 1) := nI_ge z (by omega)
        refine ⟨m2.sI 22 (y + 53) (k + 1) (-1), (l1.tr u2).sI _ _ _ _ (.inr (.inr rfl)), S2k.pl (by omega) _, by rw [I_sI, if_neg (by omega)]; exact ik2, .inr ⟨hft, S2.pl (Nat.le_refl _) _, fun _ => by rw [I_sI, if_pos ⟨rfl, rfl, rfl⟩], fun N => ?_⟩⟩
        rw [pre N, hpt, if_neg (by decide), hfv2, if_neg (by decide), if_neg z1, chk_t (inb_nI (show k + 1 < 3 by omega) (by decide)), cl_nI (show k + 1 < 2 ^ 31 by omega)]
      · have z1 : nI n ≤ nI (k + 1) := nI_le (by omega) (by omega)
        refine ⟨m2, l1.tr u2, S2k, ik2, .inr ⟨hft, S2, fun q => absurd q z, fun N => ?_⟩⟩
        rw [pre N, hpt, if_neg (by decide), hfv2, if_neg (by decide), if_pos z1]
theorem r_level {n : Nat} (hn : n = T.2.1 5) (bare : Int32) : ∀ c k, k + c = n → ∀ ps m, SR m y i j T B d O k ps → (0 < c → m.I 22 (y + 53) k = -1) → OC y i j T B d O n bare but k ps m (se (wsA T B d but O) (wsC T B d but) c k ps) (bdS c) := by
  intro c
  induction c with
  | zero =>
    intro k hk ps m S _
    have hk : k = n := by omega
    subst hk
    refine ⟨1, m, Nat.le_refl 1, Ln.rf y m, .inl ⟨ps, rfl, fun e he => ⟨(S.2 e he).1, (S.2 e he).2.2⟩, fun N => ?_⟩⟩
    show g_X10_findPlan_35 y (nI i) (nI j) bare but (l_X10_findPlan_35 y (nI i) (nI j) bare but (g_X10_findPlan_169 y (nI i) (nI j) bare but) N) (g_X10_findPlan_169 y (nI i) (nI j) bare but) (nI k) (nI k) m = _
    unfold g_X10_findPlan_35 g_X10_findPlan_169
    rw [if_pos (Int32.le_refl _), if_pos rfl]
  | succ c ihc =>
    have inner : ∀ k, k + (c + 1) = n → ∀ q p, p + q = 64 → ∀ ps m, SR m y i j T B d O k ps → m.I 22 (y + 53) k + 1 = nI p → OC y i j T B d O n bare but k ps m (fo (fun p => if ftB (wsA T B d but O) (wsC T B d but) k (upN ps k p) then se (wsA T B d but O) (wsC T B d but) c (k + 1) (upN ps k p) else none) q p) (q * (1 + bdS c) + 1) := by
      intro k hkn q
      induction q with
      | zero =>
        intro p hp ps m S hpl
        have hp : p = 64 := by omega
        subst hp
        have R := S.1
        have hn3 : n ≤ 3 := by rw [hn]; exact R.2.2.1.2.2.2.2.2
        refine ⟨1, m.sI 22 (y + 53) k (nI 64), by omega, (Ln.rf y m).sI _ _ _ _ (.inr (.inr rfl)), .inr ⟨rfl, S.pl (Nat.le_refl k) _, fun N => ?_⟩⟩
        show g_X10_findPlan_35 y (nI i) (nI j) bare but (l_X10_findPlan_35 y (nI i) (nI j) bare but (g_X10_findPlan_169 y (nI i) (nI j) bare but) N) (g_X10_findPlan_169 y (nI i) (nI j) bare but) (nI n) (nI k) m = _
        have e1 : ¬ nI n ≤ nI k := nI_ge (by omega) (by omega)
        have e2 : ¬ nI k < 0 := nI_pos (by omega)
        have M := S.1.1.1
        have i64 : (m.sI 22 (y + 53) k (nI 64)).I 22 (y + 53) k = nI 64 := by rw [I_sI, if_pos ⟨rfl, rfl, rfl⟩]
        unfold g_X10_findPlan_35 g_X10_findPlan_166
        rw [if_neg e1, if_neg e2, chk_t M.1, M.c1176, M.n1176, chk_t (inb_nI (show k < 3 by omega) (by decide)), chk_t (inb_nI (show k < 3 by omega) (by decide)), bnd_e, cl_nI (show k < 2 ^ 31 by omega), hpl, ck_sI, R_sI, M.c1176, N_sI, M.n1176, chk_t (inb_nI (show k < 3 by omega) (by decide)), bnd_e, i64, if_pos (show nI 64 = (64 : Int32) from rfl)]
      | succ q ihq =>
        intro p hp ps m S hpl
        obtain ⟨m1, l1, S1, i1, hst⟩ := r_step (but := but) hn bare (show k < n by omega) (show p < 64 by omega) S hpl
        have hnx : m1.I 22 (y + 53) k + 1 = nI (p + 1) := by rw [i1]; exact nI_add p 1
        have bmul : (q + 1) * (1 + bdS c) = q * (1 + bdS c) + (1 + bdS c) := Nat.succ_mul _ _
        rcases hst with ⟨hft, st⟩ | ⟨hft, S2, hpl2, st⟩
        · obtain ⟨s, m', hs, l', ho⟩ := ihq (p + 1) (by omega) ps m1 S1 hnx
          have hff : fo (fun p => if ftB (wsA T B d but O) (wsC T B d but) k (upN ps k p) then se (wsA T B d but O) (wsC T B d but) c (k + 1) (upN ps k p) else none) (q + 1) p = fo (fun p => if ftB (wsA T B d but O) (wsC T B d but) k (upN ps k p) then se (wsA T B d but O) (wsC T B d but) c (k + 1) (upN ps k p) else none) q (p + 1) := fo_f (by simp only [hft]; rfl)
          rw [hff]
          refine ⟨s + 1, m', by omega, l1.tr l', ?_⟩
          rcases ho with ⟨ps', o1, o2, o3⟩ | ⟨o1, o2, o3⟩
          · exact .inl ⟨ps', o1, o2, fun N => by rw [← Nat.add_assoc, st (N + s)]; exact o3 N⟩
          · exact .inr ⟨o1, o2, fun N => by rw [← Nat.add_assoc, st (N + s)]; exact o3 N⟩
        · obtain ⟨s2, m2, hs2, l2, ho2⟩ := ihc (k + 1) (by omega) (upN ps k p) m1 S2 (fun hc => hpl2 (by omega))
          rcases ho2 with ⟨ps', o1, o2, o3⟩ | ⟨o1, o2, o3⟩
          · have hff : fo (fun p => if ftB (wsA T B d but O) (wsC T B d but) k (upN ps k p) then se (wsA T B d but O) (wsC T B d but) c (k + 1) (upN ps k p) else none) (q + 1) p = some ps' := fo_t (by simp only [hft]; exact o1)
            rw [hff]
            exact ⟨s2 + 1, m2, by omega, l1.tr l2, .inl ⟨ps', rfl, o2, fun N => by rw [← Nat.add_assoc, st (N + s2)]; exact o3 N⟩⟩
          · have hff : fo (fun p => if ftB (wsA T B d but O) (wsC T B d but) k (upN ps k p) then se (wsA T B d but O) (wsC T B d but) c (k + 1) (upN ps k p) else none) (q + 1) p = fo (fun p => if ftB (wsA T B d but O) (wsC T B d but) k (upN ps k p) then se (wsA T B d but O) (wsC T B d but) c (k + 1) (upN ps k p) else none) q (p + 1) := fo_f (by simp only [hft]; exact o1)
            rw [hff]
            have hn3 : n ≤ 3 := by rw [hn]; exact S.1.2.2.1.2.2.2.2.2
            have hupk : upN ps k p k = p := if_pos rfl
            have hupc : ∀ c, c < k → upN ps k p c = ps c := fun c hc => if_neg (by omega)
            have S3 : SR m2 y i j T B d O k ps := ⟨o2.1, fun e he => by have := o2.2 e (by omega); rw [hupc e he] at this; exact this⟩
            have i3 : m2.I 22 (y + 53) k + 1 = nI (p + 1) := by
              have := (o2.2 k (by omega)).2.2
              rw [hupk] at this
              rw [this]; exact nI_add p 1
            obtain ⟨s, m', hs, l', ho⟩ := ihq (p + 1) (by omega) ps m2 S3 i3
            have bk : ∀ N, l_X10_findPlan_35 y (nI i) (nI j) bare but (g_X10_findPlan_169 y (nI i) (nI j) bare but) (N + s + s2 + 1) (nI n) (nI k) m = l_X10_findPlan_35 y (nI i) (nI j) bare but (g_X10_findPlan_169 y (nI i) (nI j) bare but) (N + s) (nI n) (nI k) m2 := fun N => by rw [st (N + s + s2), o3 (N + s), dn1 k (by omega)]
            refine ⟨s + s2 + 1, m', by omega, (l1.tr l2).tr l', ?_⟩
            rcases ho with ⟨ps', p1, p2, p3⟩ | ⟨p1, p2, p3⟩
            · exact .inl ⟨ps', p1, p2, fun N => by rw [show N + (s + s2 + 1) = N + s + s2 + 1 by omega, bk N]; exact p3 N⟩
            · exact .inr ⟨p1, p2, fun N => by rw [show N + (s + s2 + 1) = N + s + s2 + 1 by omega, bk N]; exact p3 N⟩
    intro k hk ps m S hpl
    have := inner k hk 64 0 (by omega) ps m S (by rw [hpl (by omega)]; decide)
    exact this
end SRC
