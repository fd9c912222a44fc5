/-! texts: the bytes, how many -/
abbrev Tx : Type := (Nat → Nat) × Nat
def isBl (c : Nat) : Bool := decide (c = 10) || decide (c = 32)
def isLe (c : Nat) : Bool := decide (97 ≤ c) && decide (c ≤ 122)
def isDi (c : Nat) : Bool := decide (48 ≤ c) && decide (c ≤ 57)
def tkR (P : Nat → Bool) (b : Nat → Nat) : Nat → Nat → Nat
  | 0, p => p
  | k + 1, p => cond (P (b p)) (tkR P b k (p + 1)) p
def tkE (P : Nat → Bool) (X : Tx) (p : Nat) : Nat := tkR P X.1 (X.2 - p) p
theorem tkE_s {P : Nat → Bool} {X : Tx} {p : Nat} (h : p < X.2) (hP : P (X.1 p) = true) : tkE P X p = tkE P X (p + 1) := by
  unfold tkE
  obtain ⟨k, hk⟩ : ∃ k, X.2 - p = k + 1 := ⟨X.2 - p - 1, by omega⟩
  rw [hk, show X.2 - (p + 1) = k by omega]
  show cond (P (X.1 p)) _ _ = _
  rw [hP]
  rfl
theorem tkE_n {P : Nat → Bool} {X : Tx} {p : Nat} (hP : P (X.1 p) = false) : tkE P X p = p := by
  unfold tkE
  cases X.2 - p with
  | zero => rfl
  | succ k => show cond (P (X.1 p)) _ _ = _; rw [hP]; rfl
theorem tkE_L {P : Nat → Bool} {X : Tx} {p : Nat} (h : X.2 ≤ p) : tkE P X p = p := by
  unfold tkE
  rw [show X.2 - p = 0 by omega]
  rfl
theorem tkE_b (P : Nat → Bool) (X : Tx) : ∀ k p, X.2 - p = k → p ≤ tkE P X p ∧ (p ≤ X.2 → tkE P X p ≤ X.2) ∧ ∀ i, p ≤ i → i < tkE P X p → P (X.1 i) = true := by
  intro k
  induction k with
  | zero =>
    intro p h
    rw [tkE_L (by omega)]
    exact ⟨Nat.le_refl _, fun q => q, fun i h1 h2 => by omega⟩
  | succ k ih =>
    intro p h
    cases hP : P (X.1 p) with
    | false =>
      rw [tkE_n hP]
      exact ⟨Nat.le_refl _, fun q => q, fun i h1 h2 => by omega⟩
    | true =>
      rw [tkE_s (by omega) hP]
      obtain ⟨a, b, c⟩ := ih (p + 1) (by omega)
      refine ⟨by omega, fun _ => b (by omega), fun i h1 h2 => ?_⟩
      rcases Nat.eq_or_lt_of_le h1 with q | q
      · rw [← q]; exact hP
      · exact c i (by omega) h2
theorem tkE_ge (P : Nat → Bool) (X : Tx) (p : Nat) : p ≤ tkE P X p := (tkE_b P X _ p rfl).1
theorem tkE_le (P : Nat → Bool) {X : Tx} {p : Nat} (h : p ≤ X.2) : tkE P X p ≤ X.2 := (tkE_b P X _ p rfl).2.1 h
theorem tkE_in (P : Nat → Bool) (X : Tx) (p : Nat) {i : Nat} (h1 : p ≤ i) (h2 : i < tkE P X p) : P (X.1 i) = true := (tkE_b P X _ p rfl).2.2 i h1 h2
/-- a loop that goes over what has P -/
theorem lp_sc {σ ρ : Type} (Lp : Nat → σ → ρ) (P : Nat → Bool) (X : Tx) (I : Nat → σ → Prop) (F : σ → ρ) (hs : ∀ p s, p < X.2 → P (X.1 p) = true → I p s → ∃ s', I (p + 1) s' ∧ ∀ n, Lp (n + 1) s = Lp n s') (he : ∀ p s, p ≤ X.2 → (p = X.2 ∨ (p < X.2 ∧ P (X.1 p) = false)) → I p s → ∀ n, Lp (n + 1) s = F s) : ∀ k p s, p + k = X.2 → I p s → ∃ s', I (tkE P X p) s' ∧ ∀ n, k < n → Lp n s = F s' := by
  intro k
  induction k with
  | zero =>
    intro p s hp hI
    refine ⟨s, by rw [tkE_L (by omega)]; exact hI, fun n hn => ?_⟩
    obtain ⟨q, rfl⟩ : ∃ q, n = q + 1 := ⟨n - 1, by omega⟩
    exact he p s (by omega) (.inl (by omega)) hI q
  | succ k ih =>
    intro p s hp hI
    cases hP : P (X.1 p) with
    | false =>
      refine ⟨s, by rw [tkE_n hP]; exact hI, fun n hn => ?_⟩
      obtain ⟨q, rfl⟩ : ∃ q, n = q + 1 := ⟨n - 1, by omega⟩
      exact he p s (by omega) (.inr ⟨by omega, hP⟩) hI q
    | true =>
      obtain ⟨s1, h1, e1⟩ := hs p s (by omega) hP hI
      obtain ⟨s2, h2, e2⟩ := ih (p + 1) s1 (by omega) h1
      refine ⟨s2, by rw [tkE_s (by omega) hP]; exact h2, fun n hn => ?_⟩
      obtain ⟨q, rfl⟩ : ∃ q, n = q + 1 := ⟨n - 1, by omega⟩
      rw [e1 q]
      exact e2 q (by omega)
/-! the token at a place: where it begins, its kind (0 end, 1 word, 2 number, 3 stop, 4 none), where the next is looked for, its value, its letters -/
def tkS (X : Tx) (p : Nat) : Nat := tkE isBl X p
def tkL (X : Tx) (p : Nat) : Nat := tkE isLe X (tkS X p)
def tkD (X : Tx) (p : Nat) : Nat := tkE isDi X (tkS X p)
def tkK (X : Tx) (p : Nat) : Nat := if X.2 ≤ tkS X p then 0 else if X.1 (tkS X p) = 59 then 3 else if isLe (X.1 (tkS X p)) = true then 1 else if isDi (X.1 (tkS X p)) = true then (if tkD X p - tkS X p ≤ 4 then 2 else 4) else 4
def tkN (X : Tx) (p : Nat) : Nat := if X.2 ≤ tkS X p then tkS X p else if X.1 (tkS X p) = 59 then tkS X p + 1 else if isLe (X.1 (tkS X p)) = true then tkL X p else if isDi (X.1 (tkS X p)) = true then tkD X p else tkS X p
def dvN (b : Nat → Nat) (s : Nat) : Nat → Nat
  | 0 => 0
  | j + 1 => if j < 4 then dvN b s j * 10 + b (s + j) - 48 else dvN b s j
def tkV (X : Tx) (p : Nat) : Nat := dvN X.1 (tkS X p) (tkD X p - tkS X p)
def tkW (X : Tx) (p : Nat) : List Nat := (List.range (tkL X p - tkS X p)).map (fun i => X.1 (tkS X p + i))
theorem tkS_ge (X : Tx) (p : Nat) : p ≤ tkS X p := tkE_ge _ _ _
theorem tkS_le {X : Tx} {p : Nat} (h : p ≤ X.2) : tkS X p ≤ X.2 := tkE_le _ h
theorem tkN_le {X : Tx} {p : Nat} (h : p ≤ X.2) : tkN X p ≤ X.2 := by
  have h1 := tkS_le h
  have h2 : tkL X p ≤ X.2 := tkE_le _ h1
  have h3 : tkD X p ≤ X.2 := tkE_le _ h1
  unfold tkN
  split
  · exact h1
  · split
    · omega
    · split
      · exact h2
      · split
        · exact h3
        · exact h1
theorem tkN_ge (X : Tx) (p : Nat) : tkS X p ≤ tkN X p := by
  have h2 : tkS X p ≤ tkL X p := tkE_ge _ _ _
  have h3 : tkS X p ≤ tkD X p := tkE_ge _ _ _
  unfold tkN
  split
  · exact Nat.le_refl _
  · split
    · omega
    · split
      · exact h2
      · split
        · exact h3
        · exact Nat.le_refl _
theorem tkN_gt {X : Tx} {p : Nat} (h0 : tkK X p ≠ 0) (h4 : tkK X p ≠ 4) : tkS X p < tkN X p := by
  unfold tkK at h0 h4
  unfold tkN
  by_cases e1 : X.2 ≤ tkS X p
  · rw [if_pos e1] at h0; exact absurd rfl h0
  · rw [if_neg e1] at h0 h4 ⊢
    by_cases e2 : X.1 (tkS X p) = 59
    · rw [if_pos e2]; omega
    · rw [if_neg e2] at h0 h4 ⊢
      by_cases e3 : isLe (X.1 (tkS X p)) = true
      · rw [if_pos e3]
        have : tkL X p = tkE isLe X (tkS X p + 1) := tkE_s (by omega) e3
        have := tkE_ge isLe X (tkS X p + 1)
        omega
      · rw [if_neg e3] at h0 h4 ⊢
        by_cases e4 : isDi (X.1 (tkS X p)) = true
        · rw [if_pos e4]
          have : tkD X p = tkE isDi X (tkS X p + 1) := tkE_s (by omega) e4
          have := tkE_ge isDi X (tkS X p + 1)
          omega
        · rw [if_neg e4] at h4; exact absurd rfl h4
theorem tkS_lt {X : Tx} {p : Nat} (h0 : tkK X p ≠ 0) : tkS X p < X.2 := by
  unfold tkK at h0
  by_cases e1 : X.2 ≤ tkS X p
  · rw [if_pos e1] at h0; exact absurd rfl h0
  · omega
theorem isDi_e {c : Nat} (h : isDi c = true) : 48 ≤ c ∧ c ≤ 57 := by simpa [isDi] using h
theorem dvN_b {b : Nat → Nat} {s : Nat} : ∀ j, j ≤ 4 → (∀ i, i < j → isDi (b (s + i)) = true) → dvN b s j < 10 ^ j
  | 0, _, _ => by show 0 < 1; omega
  | j + 1, hj, h => by
    have h1 := dvN_b (b := b) (s := s) j (by omega) (fun i hi => h i (by omega))
    have h2 := isDi_e (h j (by omega))
    show (if j < 4 then dvN b s j * 10 + b (s + j) - 48 else dvN b s j) < _
    rw [if_pos (by omega), Nat.pow_succ]
    omega
theorem tkV_lt {X : Tx} {p : Nat} (h : tkK X p = 2) : tkV X p < 10000 := by
  have hd : tkD X p - tkS X p ≤ 4 := by
    unfold tkK at h
    split at h
    · cases h
    · split at h
      · cases h
      · split at h
        · cases h
        · split at h
          · split at h
            · assumption
            · cases h
          · cases h
  have h1 := dvN_b (b := X.1) (s := tkS X p) (tkD X p - tkS X p) hd (fun i hi => tkE_in isDi X (tkS X p) (by omega) (show tkS X p + i < tkD X p by omega))
  have h2 : 10 ^ (tkD X p - tkS X p) ≤ 10 ^ 4 := Nat.pow_le_pow_right (by omega) hd
  show dvN X.1 (tkS X p) (tkD X p - tkS X p) < 10000
  omega
theorem nI_sb {a b : Nat} (h : b ≤ a) : nI a - nI b = nI (a - b) := by
  have e : nI a = nI (a - b) + nI b := by rw [nI_add, Nat.sub_add_cancel h]
  rw [e, Int32.add_sub_cancel]
theorem nl {c k : Nat} {v : Int32} (hv : v = nI k) (h : c ≠ k) (hc : c < 2 ^ 31) (hk : k < 2 ^ 31) : ¬ nI c = v := by subst hv; exact fun q => h (nI_inj hc hk q)
theorem c_isBlank {c : Nat} (h : c < 256) (m : MM) : f_X4_isBlank (nI c) m = some (bI (isBl c), m) := by
  unfold f_X4_isBlank g_X4_isBlank_0 g_X4_isBlank_12
  by_cases e1 : c = 10
  · rw [if_pos (show nI c = 10 by rw [e1]; rfl), isBl, e1]; rfl
  · rw [if_neg (nl (v := 10) (k := 10) rfl e1 (by omega) (by omega))]
    by_cases e2 : c = 32
    · rw [if_pos (show nI c = 32 by rw [e2]; rfl), isBl, e2]; rfl
    · rw [if_neg (nl (v := 32) (k := 32) rfl e2 (by omega) (by omega)), isBl, decide_eq_false e1, decide_eq_false e2]; rfl
theorem c_isLetter {c : Nat} (h : c < 256) (m : MM) : f_X4_isLetter (nI c) m = some (bI (isLe c), m) := by
  unfold f_X4_isLetter g_X4_isLetter_0 g_X4_isLetter_16
  by_cases e1 : 97 ≤ c
  · rw [if_neg (show ¬ nI c < 97 from nI_nlt (b := 97) e1 (by omega))]
    by_cases e2 : c ≤ 122
    · rw [if_neg (show ¬ (122 : Int32) < nI c from nI_nlt (a := 122) e2 (by decide)), isLe, decide_eq_true e1, decide_eq_true e2]; rfl
    · rw [if_pos (show (122 : Int32) < nI c from nI_lt (a := 122) (by omega) (by omega)), isLe, decide_eq_true e1, decide_eq_false e2]; rfl
  · rw [if_pos (show nI c < 97 from nI_lt (b := 97) (by omega) (by decide)), isLe, decide_eq_false e1]; rfl
theorem c_isDigit {c : Nat} (h : c < 256) (m : MM) : f_X4_isDigit (nI c) m = some (bI (isDi c), m) := by
  unfold f_X4_isDigit g_X4_isDigit_0 g_X4_isDigit_16
  by_cases e1 : 48 ≤ c
  · rw [if_neg (show ¬ nI c < 48 from nI_nlt (b := 48) e1 (by omega))]
    by_cases e2 : c ≤ 57
    · rw [if_neg (show ¬ (57 : Int32) < nI c from nI_nlt (a := 57) e2 (by decide)), isDi, decide_eq_true e1, decide_eq_true e2]; rfl
    · rw [if_pos (show (57 : Int32) < nI c from nI_lt (a := 57) (by omega) (by omega)), isDi, decide_eq_true e1, decide_eq_false e2]; rfl
  · rw [if_pos (show nI c < 48 from nI_lt (b := 48) (by omega) (by decide)), isDi, decide_eq_false e1]; rfl
/-! the class's reader -/
def CB (X : Tx) (x : Nat) (m : MM) : Prop := m.K (x + 60) = 5 ∧ m.R 500 (x + 60) 0 = some (x + 61) ∧ m.R 501 (x + 60) 0 = some (x + 76) ∧ m.R 502 (x + 60) 0 = some (x + 79) ∧ m.R 503 (x + 60) 0 = some (x + 80) ∧ m.R 504 (x + 60) 0 = some (x + 2) ∧ m.K (x + 79) = 22 ∧ m.N (x + 79) = 6 ∧ m.K (x + 80) = 22 ∧ m.N (x + 80) = 6 ∧ m.K (x + 2) = 21 ∧ m.N (x + 2) = 500 ∧ (∀ j, j < 500 → m.I 21 (x + 2) j &&& 255 = nI (X.1 j)) ∧ m.I 505 (x + 60) 0 = nI X.2 ∧ X.2 ≤ 500 ∧ ∀ j, X.1 j < 256
theorem CB.tq {X : Tx} {x : Nat} {m n : MM} (h : CB X x m) (o : Tq (x + 60) (x + 81) m n) (e : n.I 505 (x + 60) 0 = m.I 505 (x + 60) 0) : CB X x n := by
  obtain ⟨h1, h2, h3, h4, h5, h6, h7, h8, h9, h10, h11, h12, h13, h14, h15, h16⟩ := h
  unfold CB
  rw [o.1, o.2.1, o.2.2.2.1, e]
  exact ⟨h1, h2, h3, h4, h5, h6, h7, h8, h9, h10, h11, h12, fun j hj => by rw [o.2.2.2.2 _ _ _ (by omega)]; exact h13 j hj, h14, h15, h16⟩
/-- only some numbers of the reader have changed -/
def Cs (x lo hi : Nat) (m n : MM) : Prop := Tq (x + 60) (x + 61) m n ∧ ∀ s, (s < lo ∨ hi ≤ s) → n.I s (x + 60) 0 = m.I s (x + 60) 0
theorem Cs.rf (x lo hi : Nat) (m : MM) : Cs x lo hi m m := ⟨Tq.rf _ _ m, fun _ _ => rfl⟩
theorem Cs.tr {x lo hi : Nat} {m n q : MM} (h1 : Cs x lo hi m n) (h2 : Cs x lo hi n q) : Cs x lo hi m q := ⟨h1.1.tr h2.1, fun s hs => (h2.2 s hs).trans (h1.2 s hs)⟩
theorem Cs.up {x lo hi lo2 hi2 : Nat} {m n : MM} (h : Cs x lo hi m n) (h1 : lo2 ≤ lo) (h2 : hi ≤ hi2) : Cs x lo2 hi2 m n := ⟨h.1, fun s hs => h.2 s (by omega)⟩
theorem Cs.sI {x lo hi : Nat} {m n : MM} (h : Cs x lo hi m n) (s : Nat) (v : Int32) (h1 : lo ≤ s) (h2 : s < hi) : Cs x lo hi m (n.sI s (x + 60) 0 v) := ⟨h.1.sI _ _ _ _ (by omega) (by omega), fun s2 g => by rw [I_sI, if_neg (by omega)]; exact h.2 s2 g⟩
theorem CB.cs {X : Tx} {x lo hi : Nat} {m n : MM} (h : CB X x m) (o : Cs x lo hi m n) (hl : 506 ≤ lo) : CB X x n := h.tq (o.1.up (by omega) (by omega)) (o.2 505 (by omega))
section CTok
variable {X : Tx} {x : Nat} {m : MM}
theorem c_byteAt (h : CB X x m) {p : Nat} (hp : p < X.2) : f_X4_byteAt (x + 60) (nI p) m = some (nI (X.1 p), m) := by
  obtain ⟨h1, h2, h3, h4, h5, h6, h7, h8, h9, h10, h11, h12, h13, h14, h15, h16⟩ := h
  unfold f_X4_byteAt g_X4_byteAt_0
  rw [chk_t h1, h6, ifn_s, if_neg (nI_pos (by omega)), chk_t h11, h12, ofN, if_neg (nI_ge (show p < 500 by omega) (by decide)), chk_t (inb_nI (show p < 500 by omega) (by decide)), cl_nI (by omega), h13 p (by omega)]
theorem c_blanks (h : CB X x m) {p : Nat} (hp : p ≤ X.2) (K : Int32 → MM → Option (Unit × MM)) : l_X4_step_5 (x + 60) K FU (nI p) m = K (nI (tkS X p)) m := by
  have h14 := h.2.2.2.2.2.2.2.2.2.2.2.2.2.1
  have h15 := h.2.2.2.2.2.2.2.2.2.2.2.2.2.2.1
  have h16 := h.2.2.2.2.2.2.2.2.2.2.2.2.2.2.2
  obtain ⟨s', e1, e2⟩ := lp_sc (fun n (i : Int32) => l_X4_step_5 (x + 60) K n i m) isBl X (fun p i => i = nI p) (fun i => K i m) (fun p s hp hP hI => by
    subst hI
    refine ⟨_, rfl, fun n => ?_⟩
    show g_X4_step_5 (x + 60) (l_X4_step_5 (x + 60) K n) K (nI p) m = _
    unfold g_X4_step_5
    rw [chk_t h.1, h14, if_neg (nI_ge hp (by omega)), c_byteAt h hp, cal_s, c_isBlank (h16 p), cal_s, hP, if_neg (show ¬ bI true = 0 by decide), nI_1]) (fun p s hp hP hI n => by
    subst hI
    show g_X4_step_5 (x + 60) (l_X4_step_5 (x + 60) K n) K (nI p) m = _
    unfold g_X4_step_5
    rw [chk_t h.1, h14]
    rcases hP with q | ⟨q1, q2⟩
    · rw [if_pos (nI_le (by omega) (by omega))]
    · rw [if_neg (nI_ge q1 (by omega)), c_byteAt h q1, cal_s, c_isBlank (h16 p), cal_s, q2, if_pos (show bI false = 0 by rfl)]) (X.2 - p) p (nI p) (by omega) rfl
  have := e2 FU (by unfold FU; omega)
  rw [e1] at this
  exact this
theorem c_letters (h : CB X x m) {p : Nat} (hp : p ≤ X.2) : l_X4_step_88 (x + 60) FU (nI p) m = some ((), m.sI 506 (x + 60) 0 (nI (tkE isLe X p))) := by
  have h14 := h.2.2.2.2.2.2.2.2.2.2.2.2.2.1
  have h15 := h.2.2.2.2.2.2.2.2.2.2.2.2.2.2.1
  have h16 := h.2.2.2.2.2.2.2.2.2.2.2.2.2.2.2
  obtain ⟨s', e1, e2⟩ := lp_sc (fun n (i : Int32) => l_X4_step_88 (x + 60) n i m) isLe X (fun p i => i = nI p) (fun i => some ((), m.sI 506 (x + 60) 0 i)) (fun p s hp hP hI => by
    subst hI
    refine ⟨_, rfl, fun n => ?_⟩
    show g_X4_step_88 (x + 60) (l_X4_step_88 (x + 60) n) (nI p) m = _
    unfold g_X4_step_88
    rw [chk_t h.1, h14, if_neg (nI_ge hp (by omega)), c_byteAt h hp, cal_s, c_isLetter (h16 p), cal_s, hP, if_neg (show ¬ bI true = 0 by decide), nI_1]) (fun p s hp hP hI n => by
    subst hI
    show g_X4_step_88 (x + 60) (l_X4_step_88 (x + 60) n) (nI p) m = _
    unfold g_X4_step_88
    rw [chk_t h.1, h14]
    rcases hP with q | ⟨q1, q2⟩
    · rw [if_pos (nI_le (by omega) (by omega)), bnd_e]
    · rw [if_neg (nI_ge q1 (by omega)), c_byteAt h q1, cal_s, c_isLetter (h16 p), cal_s, q2, if_pos (show bI false = 0 by rfl), chk_t h.1, bnd_e]) (X.2 - p) p (nI p) (by omega) rfl
  have := e2 FU (by unfold FU; omega)
  rw [e1] at this
  exact this
theorem c_digits (h : CB X x m) {p : Nat} (hp : p ≤ X.2) (h8 : m.I 508 (x + 60) 0 = nI p) (h9 : m.I 509 (x + 60) 0 = 0) (K : Int32 → MM → Option (Unit × MM)) : ∃ n, l_X4_step_129 (x + 60) K FU (nI p) m = K (nI (tkE isDi X p)) n ∧ Cs x 509 510 m n ∧ n.I 509 (x + 60) 0 = nI (dvN X.1 p (tkE isDi X p - p)) := by
  obtain ⟨⟨i', n⟩, ⟨e1, e2, e3, e4⟩, e5⟩ := lp_sc (fun n (s : Int32 × MM) => l_X4_step_129 (x + 60) K n s.1 s.2) isDi X (fun j s => s.1 = nI j ∧ p ≤ j ∧ Cs x 509 510 m s.2 ∧ s.2.I 509 (x + 60) 0 = nI (dvN X.1 p (j - p))) (fun s => K s.1 s.2) (fun j s hj hP hI => by
    obtain ⟨i, n⟩ := s
    obtain ⟨g1, g2, g3, g4⟩ := hI
    dsimp only at g1 g2 g3 g4
    subst g1
    have h' := h.cs g3 (by omega)
    have h14 := h'.2.2.2.2.2.2.2.2.2.2.2.2.2.1
    have h15 := h'.2.2.2.2.2.2.2.2.2.2.2.2.2.2.1
    have h16 := h'.2.2.2.2.2.2.2.2.2.2.2.2.2.2.2
    have h8' : n.I 508 (x + 60) 0 = nI p := (g3.2 508 (by omega)).trans h8
    have hc := isDi_e hP
    have ed : nI j - nI p = nI (j - p) := nI_sb g2
    refine ⟨(nI (j + 1), n.sI 509 (x + 60) 0 (nI (dvN X.1 p (j + 1 - p)))), ⟨rfl, by omega, g3.sI _ _ (by omega) (by omega), by dsimp only; rw [I_sI, if_pos ⟨rfl, rfl, rfl⟩]⟩, fun q => ?_⟩
    show g_X4_step_129 (x + 60) (l_X4_step_129 (x + 60) K q) K (nI j) n = l_X4_step_129 (x + 60) K q (nI (j + 1)) _
    have es : dvN X.1 p (j + 1 - p) = if j - p < 4 then dvN X.1 p (j - p) * 10 + X.1 j - 48 else dvN X.1 p (j - p) := by
      rw [show j + 1 - p = (j - p) + 1 by omega]
      show (if j - p < 4 then dvN X.1 p (j - p) * 10 + X.1 (p + (j - p)) - 48 else _) = _
      rw [show p + (j - p) = j by omega]
    unfold g_X4_step_129 g_X4_step_182
    rw [chk_t h'.1, h14, if_neg (nI_ge hj (by omega)), c_byteAt h' hj, cal_s, c_isDigit (h16 j), cal_s, hP, if_neg (show ¬ bI true = 0 by decide), chk_t h'.1, h8', ed, g4]
    by_cases k : j - p < 4
    · rw [if_neg (show ¬ (4 : Int32) ≤ nI (j - p) from nI_ge (b := 4) k (by decide)), c_byteAt h' hj, cal_s, ck_s h'.1, bnd_e, nI_1, es, if_pos k]
      have ev : nI (dvN X.1 p (j - p)) * 10 + nI (X.1 j) - 48 = nI (dvN X.1 p (j - p) * 10 + X.1 j - 48) := by
        show nI (dvN X.1 p (j - p)) * nI 10 + nI (X.1 j) - nI 48 = _
        rw [pk_mul, nI_add, nI_sb (by omega)]
      rw [ev]
    · rw [if_pos (show (4 : Int32) ≤ nI (j - p) from nI_le (a := 4) (by omega) (by omega)), ck_s h'.1, bnd_e, nI_1, es, if_neg k]) (fun j s hj hP hI q => by
    obtain ⟨i, n⟩ := s
    obtain ⟨g1, g2, g3, g4⟩ := hI
    dsimp only at g1 g2 g3 g4
    subst g1
    have h' := h.cs g3 (by omega)
    have h14 := h'.2.2.2.2.2.2.2.2.2.2.2.2.2.1
    have h15 := h'.2.2.2.2.2.2.2.2.2.2.2.2.2.2.1
    have h16 := h'.2.2.2.2.2.2.2.2.2.2.2.2.2.2.2
    show g_X4_step_129 (x + 60) (l_X4_step_129 (x + 60) K q) K (nI j) n = K (nI j) n
    unfold g_X4_step_129
    rw [chk_t h'.1, h14]
    rcases hP with z | ⟨q1, q2⟩
    · rw [if_pos (nI_le (by omega) (by omega))]
    · rw [if_neg (nI_ge q1 (by omega)), c_byteAt h' q1, cal_s, c_isDigit (h16 j), cal_s, q2, if_pos (show bI false = 0 by rfl)]) (X.2 - p) p (nI p, m) (by omega) ⟨rfl, Nat.le_refl _, Cs.rf _ _ _ m, by dsimp only; rw [h9, Nat.sub_self]; rfl⟩
  dsimp only at e1 e2 e3 e4
  subst e1
  have h15 := h.2.2.2.2.2.2.2.2.2.2.2.2.2.2.1
  exact ⟨n, e5 FU (by unfold FU; omega), e3, e4⟩
def CTk (X : Tx) (x : Nat) (m : MM) (p : Nat) : Prop := m.I 507 (x + 60) 0 = nI (tkK X p) ∧ m.I 508 (x + 60) 0 = nI (tkS X p) ∧ m.I 506 (x + 60) 0 = nI (tkN X p) ∧ (tkK X p = 2 → m.I 509 (x + 60) 0 = nI (tkV X p))
theorem CTk.tq {X : Tx} {x p : Nat} {m n : MM} (h : CTk X x m p) (e : ∀ s, 506 ≤ s → s < 510 → n.I s (x + 60) 0 = m.I s (x + 60) 0) : CTk X x n p := ⟨(e _ (by omega) (by omega)).trans h.1, (e _ (by omega) (by omega)).trans h.2.1, (e _ (by omega) (by omega)).trans h.2.2.1, fun q => (e _ (by omega) (by omega)).trans (h.2.2.2 q)⟩
theorem c_step0 (h : CB X x m) {p : Nat} (hp : p ≤ X.2) (h6 : m.I 506 (x + 60) 0 = nI p) : ∃ n, f_X4_step (x + 60) m = some ((), n) ∧ Cs x 506 510 m n ∧ CTk X x n p := by
  have hs := tkS_le hp
  have h15 := h.2.2.2.2.2.2.2.2.2.2.2.2.2.2.1
  have h16 := h.2.2.2.2.2.2.2.2.2.2.2.2.2.2.2
  unfold f_X4_step g_X4_step_0
  rw [chk_t h.1, bnd_e, h6, c_blanks h hp]
  unfold g_X4_step_30
  rw [chk_t h.1, bnd_e]
  have c1 : Cs x 506 510 m (m.sI 508 (x + 60) 0 (nI (tkS X p))) := (Cs.rf x _ _ m).sI _ _ (by omega) (by omega)
  have b8 : (m.sI 508 (x + 60) 0 (nI (tkS X p))).I 508 (x + 60) 0 = nI (tkS X p) := by rw [I_sI, if_pos ⟨rfl, rfl, rfl⟩]
  generalize m.sI 508 (x + 60) 0 (nI (tkS X p)) = m1 at c1 b8 ⊢
  have b1 := h.cs c1 (by omega)
  have b14 := b1.2.2.2.2.2.2.2.2.2.2.2.2.2.1
  rw [b14]
  by_cases e1 : X.2 ≤ tkS X p
  · rw [if_neg (nI_nlt e1 (by omega)), bnd_e, bnd_e]
    refine ⟨_, rfl, (c1.sI _ _ (by omega) (by omega)).sI _ _ (by omega) (by omega), ?_, ?_, ?_, fun k => ?_⟩
    · rw [I_sI, if_neg (by omega), I_sI, if_pos ⟨rfl, rfl, rfl⟩]; unfold tkK; rw [if_pos e1]; rfl
    · rw [I_sI, if_neg (by omega), I_sI, if_neg (by omega)]; exact b8
    · rw [I_sI, if_pos ⟨rfl, rfl, rfl⟩]; unfold tkN; rw [if_pos e1]
    · unfold tkK at k; rw [if_pos e1] at k; cases k
  · have hlt : tkS X p < X.2 := by omega
    rw [if_pos (nI_lt hlt (by omega)), c_byteAt b1 hlt, cal_s]
    by_cases e2 : X.1 (tkS X p) = 59
    · rw [if_pos (show nI (X.1 (tkS X p)) = 59 by rw [e2]; rfl), chk_t b1.1, bnd_e, bnd_e, nI_1]
      refine ⟨_, rfl, (c1.sI _ _ (by omega) (by omega)).sI _ _ (by omega) (by omega), ?_, ?_, ?_, fun k => ?_⟩
      · rw [I_sI, if_neg (by omega), I_sI, if_pos ⟨rfl, rfl, rfl⟩]; unfold tkK; rw [if_neg e1, if_pos e2]; rfl
      · rw [I_sI, if_neg (by omega), I_sI, if_neg (by omega)]; exact b8
      · rw [I_sI, if_pos ⟨rfl, rfl, rfl⟩]; unfold tkN; rw [if_neg e1, if_pos e2]
      · unfold tkK at k; rw [if_neg e1, if_pos e2] at k; cases k
    · rw [if_neg (nl (v := 59) (k := 59) rfl e2 (by have := h16 (tkS X p); omega) (by omega)), chk_t b1.1, c_byteAt b1 hlt, cal_s, c_isLetter (h16 _), cal_s]
      by_cases e3 : isLe (X.1 (tkS X p)) = true
      · rw [e3, if_neg (show ¬ bI true = 0 by decide), chk_t b1.1, bnd_e]
        have c2 : Cs x 506 510 m (m1.sI 507 (x + 60) 0 1) := c1.sI _ _ (by omega) (by omega)
        have b2 := h.cs c2 (by omega)
        rw [c_letters b2 hs]
        refine ⟨_, rfl, c2.sI _ _ (by omega) (by omega), ?_, ?_, ?_, fun k => ?_⟩
        · rw [I_sI, if_neg (by omega), I_sI, if_pos ⟨rfl, rfl, rfl⟩]; unfold tkK; rw [if_neg e1, if_neg e2, if_pos e3]; rfl
        · rw [I_sI, if_neg (by omega), I_sI, if_neg (by omega)]; exact b8
        · rw [I_sI, if_pos ⟨rfl, rfl, rfl⟩]; unfold tkN; rw [if_neg e1, if_neg e2, if_pos e3]; rfl
        · unfold tkK at k; rw [if_neg e1, if_neg e2, if_pos e3] at k; cases k
      · rw [Bool.not_eq_true _ |>.mp e3, if_pos (show bI false = 0 by rfl), chk_t b1.1, c_byteAt b1 hlt, cal_s, c_isDigit (h16 _), cal_s]
        by_cases e4 : isDi (X.1 (tkS X p)) = true
        · rw [e4, if_neg (show ¬ bI true = 0 by decide), chk_t b1.1, bnd_e]
          have c2 : Cs x 506 510 m (m1.sI 509 (x + 60) 0 0) := c1.sI _ _ (by omega) (by omega)
          have b2 := h.cs c2 (by omega)
          obtain ⟨n, d1, d2, d3⟩ := c_digits b2 hs (by rw [I_sI, if_neg (by omega)]; exact b8) (by rw [I_sI, if_pos ⟨rfl, rfl, rfl⟩]) (g_X4_step_191 (x + 60))
          have c3 : Cs x 506 510 m n := c2.tr (d2.up (by omega) (by omega))
          have b3 := h.cs c3 (by omega)
          have n8 : n.I 508 (x + 60) 0 = nI (tkS X p) := by rw [d2.2 508 (by omega), I_sI, if_neg (by omega)]; exact b8
          have hD : tkE isDi X (tkS X p) = tkD X p := rfl
          have hDl : tkD X p ≤ X.2 := tkE_le _ hs
          have hDg : tkS X p ≤ tkD X p := tkE_ge _ _ _
          rw [d1, hD]
          rw [hD] at d3
          unfold g_X4_step_191 g_X4_step_207
          rw [chk_t b3.1, n8, nI_sb hDg]
          by_cases e5 : tkD X p - tkS X p ≤ 4
          · rw [if_pos (show nI (tkD X p - tkS X p) ≤ 4 from nI_le (b := 4) e5 (by decide)), ck_s b3.1, bnd_e, chk_t (show (n.sI 507 (x + 60) 0 2).K (x + 60) = 5 from b3.1), bnd_e]
            refine ⟨_, rfl, (c3.sI _ _ (by omega) (by omega)).sI _ _ (by omega) (by omega), ?_, ?_, ?_, fun k => ?_⟩
            · rw [I_sI, if_neg (by omega), I_sI, if_pos ⟨rfl, rfl, rfl⟩]; unfold tkK; rw [if_neg e1, if_neg e2, if_neg e3, if_pos e4, if_pos e5]; rfl
            · rw [I_sI, if_neg (by omega), I_sI, if_neg (by omega)]; exact n8
            · rw [I_sI, if_pos ⟨rfl, rfl, rfl⟩]; unfold tkN; rw [if_neg e1, if_neg e2, if_neg e3, if_pos e4]
            · rw [I_sI, if_neg (by omega), I_sI, if_neg (by omega), d3]; rfl
          · rw [if_neg (show ¬ nI (tkD X p - tkS X p) ≤ 4 from nI_ge (a := 4) (by omega) (by omega)), ck_s b3.1, bnd_e, chk_t (show (n.sI 507 (x + 60) 0 4).K (x + 60) = 5 from b3.1), bnd_e]
            have hk : tkK X p = 4 := by unfold tkK; rw [if_neg e1, if_neg e2, if_neg e3, if_pos e4, if_neg e5]
            refine ⟨_, rfl, (c3.sI _ _ (by omega) (by omega)).sI _ _ (by omega) (by omega), ?_, ?_, ?_, fun k => ?_⟩
            · rw [I_sI, if_neg (by omega), I_sI, if_pos ⟨rfl, rfl, rfl⟩, hk]; rfl
            · rw [I_sI, if_neg (by omega), I_sI, if_neg (by omega)]; exact n8
            · rw [I_sI, if_pos ⟨rfl, rfl, rfl⟩]; unfold tkN; rw [if_neg e1, if_neg e2, if_neg e3, if_pos e4]
            · omega
        · rw [Bool.not_eq_true _ |>.mp e4, if_pos (show bI false = 0 by rfl), chk_t b1.1, bnd_e, bnd_e]
          have hk : tkK X p = 4 := by unfold tkK; rw [if_neg e1, if_neg e2, if_neg e3, if_neg e4]
          refine ⟨_, rfl, (c1.sI _ _ (by omega) (by omega)).sI _ _ (by omega) (by omega), ?_, ?_, ?_, fun k => ?_⟩
          · rw [I_sI, if_neg (by omega), I_sI, if_pos ⟨rfl, rfl, rfl⟩, hk]; rfl
          · rw [I_sI, if_neg (by omega), I_sI, if_neg (by omega)]; exact b8
          · rw [I_sI, if_pos ⟨rfl, rfl, rfl⟩]; unfold tkN; rw [if_neg e1, if_neg e2, if_neg e3, if_neg e4]
          · omega
end CTok
