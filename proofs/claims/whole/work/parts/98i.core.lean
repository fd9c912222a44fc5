/-! faults: 0 none, else 8 * place + fault -/
def ntT (E e : Nat) : Nat := if E = 0 ∨ e < E then e else E
def ncT (E : Nat) (b : Bool) (e : Nat) : Nat := cond b (ntT E e) E
theorem ntT_cm {E a b : Nat} (ha : a ≠ 0) (hb : b ≠ 0) : ntT (ntT E a) b = ntT (ntT E b) a := by
  unfold ntT
  by_cases h1 : E = 0 ∨ a < E
  · rw [if_pos h1]
    by_cases h2 : E = 0 ∨ b < E
    · rw [if_pos h2]
      by_cases h3 : b < a
      · rw [if_pos (.inr h3), if_neg (by omega)]
      · rw [if_neg (by omega)]
        by_cases h4 : a < b
        · rw [if_pos (.inr h4)]
        · rw [if_neg (by omega)]; omega
    · rw [if_neg h2, if_neg (by omega), if_pos h1]
  · rw [if_neg h1]
    by_cases h2 : E = 0 ∨ b < E
    · rw [if_pos h2, if_neg (by omega)]
    · rw [if_neg h2, if_neg h1]
theorem ncT_cm {E a b : Nat} {u v : Bool} (ha : a ≠ 0) (hb : b ≠ 0) : ncT (ncT E u a) v b = ncT (ncT E v b) u a := by
  cases u <;> cases v
  · rfl
  · rfl
  · rfl
  · exact ntT_cm ha hb
theorem ntT_keep {E e : Nat} (h0 : E ≠ 0) (h : E ≤ e) : ntT E e = E := if_neg (by omega)
theorem ncT_keep {E e : Nat} {b : Bool} (h0 : E ≠ 0) (h : E ≤ e) : ncT E b e = E := by
  cases b
  · rfl
  · exact ntT_keep h0 h
theorem ncT_0 {E e : Nat} {b : Bool} (h : ncT E b e = 0) (he : e ≠ 0) : E = 0 ∧ b = false := by
  cases b
  · exact ⟨h, rfl⟩
  · exfalso
    unfold ncT ntT at h
    simp only [cond_true] at h
    split at h <;> omega
theorem ncT_z {E e : Nat} {b : Bool} (h0 : E = 0) (hb : b = false) : ncT E b e = 0 := by subst hb; exact h0
theorem ncT_lt {E e B : Nat} {b : Bool} (h : E < B) (he : e < B) : ncT E b e < B := by
  cases b
  · exact h
  · show ntT E e < B
    unfold ntT
    split <;> omega
def FC (m : MM) (x E : Nat) : Prop := (E = 0 → m.I 510 (x + 60) 0 = 0 ∧ m.I 511 (x + 60) 0 = -1) ∧ (E ≠ 0 → m.I 510 (x + 60) 0 = nI (E % 8) ∧ m.I 511 (x + 60) 0 = nI (E / 8) ∧ 2 ≤ E % 8 ∧ E < 8192)
def CC (X : Tx) (x : Nat) (m : MM) (p E : Nat) : Prop := CB X x m ∧ CTk X x m p ∧ FC m x E ∧ p ≤ X.2
/-- the numbers that were read -/
def NA (x : Nat) (m : MM) (i v q : Nat) : Prop := m.I 22 (x + 79) i = nI v ∧ m.I 22 (x + 80) i = nI q
theorem NA.cs {x lo hi i v q : Nat} {m n : MM} (h : NA x m i v q) (o : Cs x lo hi m n) : NA x n i v q := ⟨(o.1.2.2.2.2 _ _ _ (by omega)).trans h.1, (o.1.2.2.2.2 _ _ _ (by omega)).trans h.2⟩
def Cp (x : Nat) (m n : MM) : Prop := Tq (x + 60) (x + 81) m n ∧ Ag m n (x + 61) (x + 79)
theorem Cp.rf (x : Nat) (m : MM) : Cp x m m := ⟨Tq.rf _ _ m, Ag.rf _ _ _⟩
theorem Cp.tr {x : Nat} {m n q : MM} (h1 : Cp x m n) (h2 : Cp x n q) : Cp x m q := ⟨h1.1.tr h2.1, h1.2.tr h2.2⟩
theorem Cs.cp {x lo hi : Nat} {m n : MM} (h : Cs x lo hi m n) : Cp x m n := ⟨h.1.up (by omega) (by omega), h.1.ag (by omega)⟩
theorem Cp.sI {x : Nat} {m n : MM} (h : Cp x m n) (s a i : Nat) (v : Int32) (ha : a = x + 60 ∨ (x + 79 ≤ a ∧ a < x + 81)) : Cp x m (n.sI s a i v) := ⟨h.1.sI _ _ _ _ (by omega) (by omega), h.2.sI _ _ _ _ (by omega)⟩
section CCore
variable {X : Tx} {x : Nat} {m : MM} {p E : Nat}
theorem c_note (h : CC X x m p E) {k z : Int32} {f q : Nat} (hk : k = nI f) (hz : z = nI q) (h2 : 2 ≤ f) (h7 : f < 8) (hq : q ≤ 500) : ∃ n, f_X4_note (x + 60) k z m = some ((), n) ∧ Cs x 510 512 m n ∧ CC X x n p (ntT E (8 * q + f)) := by
  subst hk
  subst hz
  obtain ⟨b, t, F, hp⟩ := h
  have key : ∀ n, Cs x 510 512 m n → FC n x (ntT E (8 * q + f)) → CC X x n p (ntT E (8 * q + f)) := fun n c g => ⟨b.cs c (by omega), t.tq (fun s s1 s2 => c.2 s (by omega)), g, hp⟩
  have cs1 : Cs x 510 512 m ((m.sI 510 (x + 60) 0 (nI f)).sI 511 (x + 60) 0 (nI q)) := ((Cs.rf x _ _ m).sI _ _ (by omega) (by omega)).sI _ _ (by omega) (by omega)
  have fc1 : FC ((m.sI 510 (x + 60) 0 (nI f)).sI 511 (x + 60) 0 (nI q)) x (8 * q + f) := ⟨fun z => by omega, fun _ => ⟨by rw [I_sI, if_neg (by omega), I_sI, if_pos ⟨rfl, rfl, rfl⟩, show (8 * q + f) % 8 = f by omega], by rw [I_sI, if_pos ⟨rfl, rfl, rfl⟩, show (8 * q + f) / 8 = q by omega], by omega, by omega⟩⟩
  unfold f_X4_note g_X4_note_0 g_X4_note_40
  rw [chk_t b.1]
  by_cases e0 : E = 0
  · obtain ⟨f0, f1⟩ := F.1 e0
    have en : ntT E (8 * q + f) = 8 * q + f := if_pos (.inl e0)
    rw [f0, if_neg (by decide), if_pos rfl, chk_t b.1, bnd_e, bnd_e]
    refine ⟨_, rfl, cs1, key _ cs1 ?_⟩
    rw [en]
    exact fc1
  · obtain ⟨f0, f1, f2, f3⟩ := F.2 e0
    rw [f0, if_neg (nl (v := 1) (k := 1) rfl (show E % 8 ≠ 1 by omega) (by omega) (by omega)), if_neg (nI_ne0 (by omega) (by omega)), f1]
    by_cases c1 : q < E / 8
    · rw [if_pos (nI_lt c1 (by omega)), chk_t b.1, bnd_e, bnd_e]
      refine ⟨_, rfl, cs1, key _ cs1 ?_⟩
      rw [show ntT E (8 * q + f) = 8 * q + f from if_pos (.inr (by omega))]
      exact fc1
    · rw [if_neg (nI_nlt (by omega) (by omega))]
      by_cases c2 : q = E / 8
      · rw [if_pos (by rw [c2])]
        by_cases c3 : E % 8 ≤ f
        · rw [if_pos (nI_le c3 (by omega))]
          refine ⟨_, rfl, Cs.rf x _ _ m, key _ (Cs.rf x _ _ m) ?_⟩
          rw [ntT_keep e0 (by omega)]
          exact F
        · rw [if_neg (nI_ge (by omega) (by omega)), chk_t b.1, bnd_e, bnd_e]
          refine ⟨_, rfl, cs1, key _ cs1 ?_⟩
          rw [show ntT E (8 * q + f) = 8 * q + f from if_pos (.inr (by omega))]
          exact fc1
      · rw [if_neg (fun u => c2 (nI_inj (by omega) (by omega) u))]
        refine ⟨_, rfl, Cs.rf x _ _ m, key _ (Cs.rf x _ _ m) ?_⟩
        rw [ntT_keep e0 (by omega)]
        exact F
theorem c_step (h : CC X x m p E) : ∃ n, f_X4_step (x + 60) m = some ((), n) ∧ Cs x 506 510 m n ∧ CC X x n (tkN X p) E := by
  obtain ⟨b, t, F, hp⟩ := h
  obtain ⟨n, e1, e2, e3⟩ := c_step0 b (tkN_le hp) t.2.2.1
  exact ⟨n, e1, e2, b.cs e2 (by omega), e3, ⟨fun z => ⟨(e2.2 _ (by omega)).trans (F.1 z).1, (e2.2 _ (by omega)).trans (F.1 z).2⟩, fun z => ⟨(e2.2 _ (by omega)).trans (F.2 z).1, (e2.2 _ (by omega)).trans (F.2 z).2.1, (F.2 z).2.2⟩⟩, tkN_le hp⟩
theorem c_isWord (h : CC X x m p E) {k : Nat} (hk : k < 19) : f_X4_isWord (x + 60) k m = some (bI (wdT X p k), m) := c_isWord0 h.1 h.2.2.2 h.2.1 hk
theorem c_number (b : CB X x m) {k : Int32} {i : Nat} (hk : k = nI i) (hi : i < 6) : f_X4_number (x + 60) k m = some (m.I 22 (x + 79) i, m) := by
  subst hk
  unfold f_X4_number g_X4_number_0
  obtain ⟨h1, h2, h3, h4, h5, h6, h7, h8, h9, h10, _⟩ := b
  rw [if_neg (nI_pos (by omega)), chk_t h1, ck_e h4 h7, h8, ofN, if_neg (nI_ge hi (by decide)), chk_t (inb_nI hi (by decide)), cl_nI (by omega)]
theorem c_placeOf (b : CB X x m) {k : Int32} {i : Nat} (hk : k = nI i) (hi : i < 6) : f_X4_placeOf (x + 60) k m = some (m.I 22 (x + 80) i, m) := by
  subst hk
  unfold f_X4_placeOf g_X4_placeOf_0
  obtain ⟨h1, h2, h3, h4, h5, h6, h7, h8, h9, h10, _⟩ := b
  rw [if_neg (nI_pos (by omega)), chk_t h1, ck_e h5 h9, h10, ofN, if_neg (nI_ge hi (by decide)), chk_t (inb_nI hi (by decide)), cl_nI (by omega)]
theorem c_check (h : CC X x m p E) {k : Int32} {i v q : Nat} (hk : k = nI i) (hi : i < 6) (na : NA x m i v q) (hq : q ≤ 500) (lo hh : Int32) : ∃ n, f_X4_check (x + 60) k lo hh m = some ((), n) ∧ Cs x 510 512 m n ∧ CC X x n p (ncT E (!inR (nI v) lo hh) (8 * q + 2)) := by
  have k5 := h.1.1
  unfold f_X4_check g_X4_check_0 g_X4_check_18
  obtain ⟨n, e1, e2, e3⟩ := c_note h (k := 2) (z := nI q) (f := 2) rfl rfl (by omega) (by omega) hq
  rw [chk_t k5, c_number h.1 hk hi, cal_s, na.1]
  by_cases c1 : nI v < lo
  · rw [if_pos c1, chk_t k5, c_placeOf h.1 hk hi, cal_s, chk_t k5, na.2, e1, cal_s]
    refine ⟨n, rfl, e2, ?_⟩
    rw [show inR (nI v) lo hh = false from by unfold inR; rw [decide_eq_true c1]; rfl]
    exact e3
  · rw [if_neg c1, chk_t k5, c_number h.1 hk hi, cal_s, na.1]
    by_cases c2 : hh < nI v
    · rw [if_neg (Int32.not_le.mpr c2), chk_t k5, c_placeOf h.1 hk hi, cal_s, chk_t k5, na.2, e1, cal_s]
      refine ⟨n, rfl, e2, ?_⟩
      rw [show inR (nI v) lo hh = false from by unfold inR; rw [decide_eq_true c2, decide_eq_false c1]; rfl]
      exact e3
    · rw [if_pos (Int32.not_lt.mp c2)]
      refine ⟨m, rfl, Cs.rf x _ _ m, ?_⟩
      rw [show inR (nI v) lo hh = true from by unfold inR; rw [decide_eq_false c2, decide_eq_false c1]; rfl]
      exact h
theorem c_room (h : CC X x m p E) {a n w s : Nat} {z : Int32} {q : Nat} (hz : z = nI q) (hq : q ≤ 500) (T : Tb m a n w s) : ∃ n', f_X4_checkPlaceFor (x + 60) (some a) z m = some ((), n') ∧ Cs x 510 512 m n' ∧ CC X x n' p (ncT E (decide (s = n)) (8 * q + 3)) := by
  obtain ⟨t1, t2, t3, t4, t5, t6, t7, t8, t9, t10⟩ := T
  unfold f_X4_checkPlaceFor g_X4_checkPlaceFor_0
  rw [ck_s t1, t7, t2]
  by_cases c : s = n
  · obtain ⟨n', e1, e2, e3⟩ := c_note h (k := 3) (f := 3) rfl hz (by omega) (by omega) hq
    rw [if_neg (nI_nlt (by omega) (by omega)), chk_t h.1.1, e1, cal_s, decide_eq_true c]
    exact ⟨n', rfl, e2, e3⟩
  · rw [if_pos (nI_lt (by omega) (by omega)), decide_eq_false c]
    exact ⟨m, rfl, Cs.rf x _ _ m, h⟩
theorem c_point {T : TW} (h : CC X x m p E) (hT : CT m (x + 61) T) {k : Int32} {i v q v2 q2 : Nat} (hk : k = nI i) (hi : i < 5) (na : NA x m i v q) (na2 : NA x m (i + 1) v2 q2) (hq : q ≤ 500) (hq2 : q2 ≤ 500) : ∃ n, f_X4_checkPoint (x + 60) k m = some ((), n) ∧ Cs x 510 512 m n ∧ CC X x n p (ncT (ncT E (!inR (nI v) 0 (T.1 0 - 1)) (8 * q + 2)) (!inR (nI v2) 0 (T.1 1 - 1)) (8 * q2 + 2)) := by
  obtain ⟨n1, e1, e2, e3⟩ := c_check h hk (by omega) na hq 0 (T.1 0 - 1)
  have hT1 : CT n1 (x + 61) T := hT.kept (e2.1.ag (by omega))
  obtain ⟨n2, g1, g2, g3⟩ := c_check e3 (k := k + 1) (i := i + 1) (by rw [hk, nI_1]) (by omega) (na2.cs e2) hq2 0 (T.1 1 - 1)
  refine ⟨n2, ?_, e2.tr g2, g3⟩
  unfold f_X4_checkPoint g_X4_checkPoint_0
  rw [chk_t h.1.1, ck_e h.1.2.1 hT.K, hT.s0, e1, cal_s, chk_t e3.1.1, ck_e e3.1.2.1 hT1.K, hT1.s1, g1, cal_s]
/-- a text that is not of the form: the fault and its place -/
def CF (x : Nat) (m n : MM) (pl : Nat) : Prop := Cp x m n ∧ n.I 510 (x + 60) 0 = 1 ∧ n.I 511 (x + 60) 0 = nI pl
theorem c_break (h : CC X x m p E) : ∃ n, f_X4_breakOff (x + 60) m = some ((), n) ∧ CF x m n (tkS X p) := by
  unfold f_X4_breakOff g_X4_breakOff_0
  rw [chk_t h.1.1, bnd_e, bnd_e]
  refine ⟨_, rfl, ((Cp.rf x m).sI _ _ _ _ (.inl rfl)).sI _ _ _ _ (.inl rfl), ?_, ?_⟩
  · rw [I_sI, if_neg (by omega), I_sI, if_pos ⟨rfl, rfl, rfl⟩]
  · rw [I_sI, if_pos ⟨rfl, rfl, rfl⟩, I_sI, if_neg (by omega)]; exact h.2.1.2.1
/-! numbers, one after another -/
def itN (X : Tx) (q : Nat) : Nat → Nat
  | 0 => q
  | i + 1 => tkN X (itN X q i)
def nmT (X : Tx) (q : Nat) : Nat → Nat ⊕ Nat
  | 0 => .inr q
  | k + 1 => match nmT X q k with
    | .inl a => .inl a
    | .inr r => if tkK X r = 2 then .inr (tkN X r) else .inl (tkS X r)
theorem nmT_s {q k r : Nat} (h : nmT X q k = .inr r) (h2 : tkK X r = 2) : nmT X q (k + 1) = .inr (tkN X r) := by
  show (match nmT X q k with | .inl a => Sum.inl a | .inr r => if tkK X r = 2 then .inr (tkN X r) else .inl (tkS X r)) = _
  rw [h]
  exact if_pos h2
theorem nmT_f {q k r : Nat} (h : nmT X q k = .inr r) (h2 : tkK X r ≠ 2) : nmT X q (k + 1) = .inl (tkS X r) := by
  show (match nmT X q k with | .inl a => Sum.inl a | .inr r => if tkK X r = 2 then .inr (tkN X r) else .inl (tkS X r)) = _
  rw [h]
  exact if_neg h2
theorem nmT_l {q k a : Nat} (h : nmT X q k = .inl a) : ∀ d, nmT X q (k + d) = .inl a
  | 0 => h
  | d + 1 => by
    show (match nmT X q (k + d) with | .inl a => Sum.inl a | .inr r => if tkK X r = 2 then .inr (tkN X r) else .inl (tkS X r)) = _
    rw [nmT_l h d]
def stT (X : Tx) (r : Nat) : Nat ⊕ Nat := if tkK X r = 3 then .inr (tkN X r) else .inl (tkS X r)
def bdT (o : Nat ⊕ Nat) (f : Nat → Nat ⊕ Nat) : Nat ⊕ Nat := match o with
  | .inl a => .inl a
  | .inr r => f r
theorem c_numbers (h : CC X x m p E) {ka kn : Int32} {a k : Nat} (ha : ka = nI a) (hn : kn = nI k) (hk : a + k ≤ 6) : (∃ n pl, f_X4_readNumbers (x + 60) ka kn m = some (0, n) ∧ nmT X p k = .inl pl ∧ CF x m n pl) ∨ ∃ n, f_X4_readNumbers (x + 60) ka kn m = some (1, n) ∧ nmT X p k = .inr (itN X p k) ∧ Cp x m n ∧ CC X x n (itN X p k) E ∧ (∀ i, i < k → tkK X (itN X p i) = 2 ∧ NA x n (a + i) (tkV X (itN X p i)) (tkS X (itN X p i))) ∧ ∀ j, (j < a ∨ a + k ≤ j) → n.I 22 (x + 79) j = m.I 22 (x + 79) j ∧ n.I 22 (x + 80) j = m.I 22 (x + 80) j := by
  subst ha
  subst hn
  obtain ⟨r, hr, e⟩ := lp_ex (fun n i (s : MM) => l_X4_readNumbers_2 (x + 60) (nI a) (nI k) n i s) (fun j s => nmT X p (j - a) = .inr (itN X p (j - a)) ∧ Cp x m s ∧ CC X x s (itN X p (j - a)) E ∧ (∀ i, i < j - a → tkK X (itN X p i) = 2 ∧ NA x s (a + i) (tkV X (itN X p i)) (tkS X (itN X p i))) ∧ ∀ i, (i < a ∨ j ≤ i) → s.I 22 (x + 79) i = m.I 22 (x + 79) i ∧ s.I 22 (x + 80) i = m.I 22 (x + 80) i) (fun r => (∃ n pl, r = some (0, n) ∧ nmT X p k = .inl pl ∧ CF x m n pl) ∨ ∃ n, r = some (1, n) ∧ nmT X p k = .inr (itN X p k) ∧ Cp x m n ∧ CC X x n (itN X p k) E ∧ (∀ i, i < k → tkK X (itN X p i) = 2 ∧ NA x n (a + i) (tkV X (itN X p i)) (tkS X (itN X p i))) ∧ ∀ j, (j < a ∨ a + k ≤ j) → n.I 22 (x + 79) j = m.I 22 (x + 79) j ∧ n.I 22 (x + 80) j = m.I 22 (x + 80) j) (a + k) a (by omega) (fun j hj1 hj2 s hI => by
    obtain ⟨i1, i2, i3, i4, i5⟩ := hI
    have kl := tkK_lt X (itN X p (j - a))
    by_cases c : tkK X (itN X p (j - a)) = 2
    · right
      obtain ⟨h1, h2, h3, h4, h5, h6, h7, h8, h9, h10, h11⟩ := i3.1
      have hv := i3.2.1.2.2.2 c
      have hS := i3.2.1.2.1
      obtain ⟨s1, hs1⟩ : ∃ q, q = (s.sI 22 (x + 79) j (nI (tkV X (itN X p (j - a))))).sI 22 (x + 80) j (nI (tkS X (itN X p (j - a)))) := ⟨_, rfl⟩
      have f1 : Tq (x + 79) (x + 81) s s1 := by rw [hs1]; exact ((Tq.rf _ _ s).sI _ _ _ _ (by omega) (by omega)).sI _ _ _ _ (by omega) (by omega)
      have f2 : Cp x m s1 := i2.tr ⟨f1.up (by omega) (by omega), f1.ag (by omega)⟩
      have s60 : ∀ q, s1.I q (x + 60) 0 = s.I q (x + 60) 0 := fun q => f1.2.2.2.2 _ _ _ (by omega)
      have b1 : CC X x s1 (itN X p (j - a)) E := ⟨i3.1.tq (f1.up (by omega) (by omega)) (s60 _), i3.2.1.tq (fun q _ _ => s60 q), ⟨fun z => ⟨(s60 _).trans (i3.2.2.1.1 z).1, (s60 _).trans (i3.2.2.1.1 z).2⟩, fun z => ⟨(s60 _).trans (i3.2.2.1.2 z).1, (s60 _).trans (i3.2.2.1.2 z).2.1, (i3.2.2.1.2 z).2.2⟩⟩, i3.2.2.2⟩
      obtain ⟨s2, g1, g2, g3⟩ := c_step b1
      have ej : j + 1 - a = (j - a) + 1 := by omega
      have n79 : ∀ i, s2.I 22 (x + 79) i = s1.I 22 (x + 79) i := fun i => g2.1.2.2.2.2 _ _ _ (by omega)
      have n80 : ∀ i, s2.I 22 (x + 80) i = s1.I 22 (x + 80) i := fun i => g2.1.2.2.2.2 _ _ _ (by omega)
      refine ⟨s2, ⟨?_, f2.tr g2.cp, ?_, fun i hi => ?_, fun i hi => ?_⟩, fun n => ?_⟩
      · rw [ej]; exact nmT_s i1 c
      · rw [ej]; exact g3
      · rcases Nat.lt_or_ge i (j - a) with q | q
        · refine ⟨(i4 i q).1, ?_, ?_⟩
          · rw [n79, hs1, I_sI, if_neg (by omega), I_sI, if_neg (by omega)]; exact (i4 i q).2.1
          · rw [n80, hs1, I_sI, if_neg (by omega), I_sI, if_neg (by omega)]; exact (i4 i q).2.2
        · have ei : i = j - a := by omega
          subst ei
          refine ⟨c, ?_, ?_⟩
          · rw [n79, hs1, I_sI, if_neg (by omega), I_sI, if_pos ⟨rfl, rfl, by omega⟩]
          · rw [n80, hs1, I_sI, if_pos ⟨rfl, rfl, by omega⟩]
      · refine ⟨?_, ?_⟩
        · rw [n79, hs1, I_sI, if_neg (by omega), I_sI, if_neg (by omega)]; exact (i5 i (by omega)).1
        · rw [n80, hs1, I_sI, if_neg (by omega), I_sI, if_neg (by omega)]; exact (i5 i (by omega)).2
      · show g_X4_readNumbers_2 (x + 60) (nI a) (nI k) (l_X4_readNumbers_2 (x + 60) (nI a) (nI k) n) (nI j) s = _
        unfold g_X4_readNumbers_2
        have r5 : (s.sI 22 (x + 79) j (nI (tkV X (itN X p (j - a))))).R 503 (x + 60) 0 = some (x + 80) := h5
        have k5 : (s.sI 22 (x + 79) j (nI (tkV X (itN X p (j - a))))).K (x + 80) = 22 := h9
        have n5 : (s.sI 22 (x + 79) j (nI (tkV X (itN X p (j - a))))).N (x + 80) = 6 := h10
        have s5 : (s.sI 22 (x + 79) j (nI (tkV X (itN X p (j - a))))).I 508 (x + 60) 0 = nI (tkS X (itN X p (j - a))) := by rw [I_sI, if_neg (by omega)]; exact hS
        rw [nI_add, if_neg (nI_ge hj2 (by omega)), chk_t h1, i3.2.1.1, c, if_pos (show nI 2 = 2 from rfl), if_neg (nI_pos (by omega)), ck_e h4 h7, h8, ofN, if_neg (nI_ge (show j < 6 by omega) (by decide)), ck_e h5 h9, h10, ofN, if_pos (nI_lt (show j < 6 by omega) (by decide)), chk_t (inb_nI (show j < 6 by omega) (by decide)), bnd_e, cl_nI (by omega), hv, ck_e r5 k5, n5, chk_t (inb_nI (show j < 6 by omega) (by decide)), bnd_e, s5, ← hs1, g1, cal_s, nI_1]
    · left
      obtain ⟨n, b1, b2⟩ := c_break i3
      refine ⟨some (0, n), .inl ⟨n, _, rfl, ?_, i2.tr b2.1, b2.2⟩, fun q => ?_⟩
      · rw [show k = (j - a + 1) + (k - (j - a + 1)) by omega]
        exact nmT_l (nmT_f i1 c) _
      · show g_X4_readNumbers_2 (x + 60) (nI a) (nI k) (l_X4_readNumbers_2 (x + 60) (nI a) (nI k) q) (nI j) s = _
        unfold g_X4_readNumbers_2
        rw [nI_add, if_neg (nI_ge hj2 (by omega)), chk_t i3.1.1, i3.2.1.1, if_neg (nl (v := 2) (k := 2) rfl c (by omega) (by omega)), b1, cal_s]) (fun s hI => by
    obtain ⟨i1, i2, i3, i4, i5⟩ := hI
    rw [show a + k - a = k by omega] at i1 i3 i4
    refine ⟨some (1, s), .inr ⟨s, rfl, i1, i2, i3, i4, i5⟩, fun q => ?_⟩
    show g_X4_readNumbers_2 (x + 60) (nI a) (nI k) (l_X4_readNumbers_2 (x + 60) (nI a) (nI k) q) (nI (a + k)) s = _
    unfold g_X4_readNumbers_2
    rw [nI_add, if_pos (Int32.le_refl _)]) (s0 := m) ⟨by rw [Nat.sub_self]; rfl, Cp.rf x m, by rw [Nat.sub_self]; exact h, fun i hi => by omega, fun i _ => ⟨rfl, rfl⟩⟩
  have e' := e FU (by unfold FU; omega)
  show _ ∨ _
  unfold f_X4_readNumbers g_X4_readNumbers_0
  rw [e']
  exact hr
theorem c_stop (h : CC X x m p E) : (∃ n, f_X4_readStop (x + 60) m = some (0, n) ∧ stT X p = .inl (tkS X p) ∧ CF x m n (tkS X p)) ∨ ∃ n, f_X4_readStop (x + 60) m = some (1, n) ∧ stT X p = .inr (tkN X p) ∧ tkK X p = 3 ∧ Cs x 506 510 m n ∧ CC X x n (tkN X p) E := by
  unfold f_X4_readStop g_X4_readStop_0 stT
  have kl := tkK_lt X p
  rw [chk_t h.1.1, h.2.1.1]
  by_cases c : tkK X p = 3
  · right
    obtain ⟨n, e1, e2, e3⟩ := c_step h
    rw [c, if_pos (show nI 3 = 3 from rfl), e1, cal_s]
    exact ⟨n, rfl, if_pos rfl, rfl, e2, e3⟩
  · left
    obtain ⟨n, e1, e2⟩ := c_break h
    rw [if_neg (nl (v := 3) (k := 3) rfl c (by omega) (by omega)), e1, cal_s]
    exact ⟨n, rfl, if_neg c, e2⟩
/-- numbers and a stop -/
def fmT (X : Tx) (q k : Nat) : Nat ⊕ Nat := bdT (nmT X q k) (stT X)
theorem c_form (h : CC X x m p E) {kn : Int32} {k : Nat} (hn : kn = nI k) (hk : k ≤ 6) (REST : MM → Option (Unit × MM)) : (∃ n pl, fmT X (tkN X p) k = .inl pl ∧ CF x m n pl ∧ cal (f_X4_step (x + 60) m) (fun _ m1 => chk (m1.K (x + 60) = 5) (cal (f_X4_readNumbers (x + 60) 0 kn m1) (fun r2 m2 => if r2 = 0 then some ((), m2) else chk (m2.K (x + 60) = 5) (cal (f_X4_readStop (x + 60) m2) (fun r3 m3 => if r3 = 0 then some ((), m3) else chk (m3.K (x + 60) = 5) (REST m3)))))) = some ((), n)) ∨ ∃ n, fmT X (tkN X p) k = .inr (tkN X (itN X (tkN X p) k)) ∧ Cp x m n ∧ CC X x n (tkN X (itN X (tkN X p) k)) E ∧ (∀ i, i < k → tkK X (itN X (tkN X p) i) = 2 ∧ NA x n i (tkV X (itN X (tkN X p) i)) (tkS X (itN X (tkN X p) i))) ∧ cal (f_X4_step (x + 60) m) (fun _ m1 => chk (m1.K (x + 60) = 5) (cal (f_X4_readNumbers (x + 60) 0 kn m1) (fun r2 m2 => if r2 = 0 then some ((), m2) else chk (m2.K (x + 60) = 5) (cal (f_X4_readStop (x + 60) m2) (fun r3 m3 => if r3 = 0 then some ((), m3) else chk (m3.K (x + 60) = 5) (REST m3)))))) = REST n := by
  obtain ⟨m1, e1, o1, h1⟩ := c_step h
  rw [e1, cal_s, chk_t h1.1.1]
  rcases c_numbers h1 (ka := 0) (a := 0) rfl hn (by omega) with ⟨m2, pl, e2, n2, f2⟩ | ⟨m2, e2, n2, o2, h2, v2, _⟩
  · left
    rw [e2, cal_s, if_pos rfl]
    refine ⟨m2, pl, ?_, ⟨o1.cp.tr f2.1, f2.2⟩, rfl⟩
    unfold fmT
    rw [n2]
    rfl
  · rw [e2, cal_s, if_neg (by decide), chk_t h2.1.1]
    rcases c_stop h2 with ⟨m3, e3, s3, f3⟩ | ⟨m3, e3, s3, k3, o3, h3⟩
    · left
      rw [e3, cal_s, if_pos rfl]
      refine ⟨m3, tkS X (itN X (tkN X p) k), ?_, ⟨(o1.cp.tr o2).tr f3.1, f3.2⟩, rfl⟩
      unfold fmT
      rw [n2]
      exact s3
    · right
      rw [e3, cal_s, if_neg (by decide), chk_t h3.1.1]
      refine ⟨m3, ?_, (o1.cp.tr o2).tr o3.cp, h3, fun i hi => ?_, rfl⟩
      · unfold fmT
        rw [n2]
        exact s3
      · obtain ⟨a1, a2⟩ := v2 i hi
        rw [Nat.zero_add] at a2
        exact ⟨a1, a2.cs o3⟩
end CCore
