/-! the reference's reader: numbers, words, faults -/
def FR (m : MM) (y E : Nat) : Prop := m.I 1145 y 0 = nI (E % 8) ∧ (E ≠ 0 → m.I 1146 y 0 = nI (E / 8) ∧ 2 ≤ E % 8 ∧ E < 8192)
def RC (X : Tx) (y : Nat) (m : MM) (p E n : Nat) (g : Int32) : Prop := RB X y m ∧ RTk X y m p ∧ FR m y E ∧ m.I 1148 y 0 = nI n ∧ m.I 1149 y 0 = g ∧ p ≤ X.2
def Nq (y : Nat) (m n : MM) : Prop := n.K = m.K ∧ n.N = m.N ∧ n.S = m.S ∧ n.R = m.R ∧ (∀ s a i, a ≠ y → a ≠ y + 38 → n.I s a i = m.I s a i) ∧ ∀ s i, (s < 1138 ∨ 1150 ≤ s ∨ s = 1139) → n.I s y i = m.I s y i
theorem Nq.rf (y : Nat) (m : MM) : Nq y m m := ⟨rfl, rfl, rfl, rfl, fun _ _ _ _ _ => rfl, fun _ _ _ => rfl⟩
theorem Nq.tr {y : Nat} {m n q : MM} (h1 : Nq y m n) (h2 : Nq y n q) : Nq y m q := ⟨h2.1.trans h1.1, h2.2.1.trans h1.2.1, h2.2.2.1.trans h1.2.2.1, h2.2.2.2.1.trans h1.2.2.2.1, fun s a i g1 g2 => (h2.2.2.2.2.1 s a i g1 g2).trans (h1.2.2.2.2.1 s a i g1 g2), fun s i g => (h2.2.2.2.2.2 s i g).trans (h1.2.2.2.2.2 s i g)⟩
theorem Rs.nq {y lo hi : Nat} {m n : MM} (h : Rs y lo hi m n) (h1 : 1138 ≤ lo) (h2 : hi ≤ 1150) : Nq y m n := ⟨h.1, h.2.1, h.2.2.1, h.2.2.2.1, fun s a i g _ => h.2.2.2.2.1 s a i g, fun s i g => h.2.2.2.2.2 s i (by omega)⟩
theorem Nq.sI {y : Nat} {m n : MM} (h : Nq y m n) (s i : Nat) (v : Int32) (h1 : 1138 ≤ s) (h2 : s < 1150) (h3 : s ≠ 1139) : Nq y m (n.sI s y i v) := ⟨h.1, h.2.1, h.2.2.1, h.2.2.2.1, fun s2 a2 i2 g g2 => by rw [I_sI, if_neg (fun q => g q.2.1)]; exact h.2.2.2.2.1 s2 a2 i2 g g2, fun s2 i2 g => by rw [I_sI, if_neg (by omega)]; exact h.2.2.2.2.2 s2 i2 g⟩
theorem Nq.s38 {y : Nat} {m n : MM} (h : Nq y m n) (s i : Nat) (v : Int32) : Nq y m (n.sI s (y + 38) i v) := ⟨h.1, h.2.1, h.2.2.1, h.2.2.2.1, fun s2 a2 i2 g g2 => by rw [I_sI, if_neg (fun q => g2 q.2.1)]; exact h.2.2.2.2.1 s2 a2 i2 g g2, fun s2 i2 g => by rw [I_sI, if_neg (by omega)]; exact h.2.2.2.2.2 s2 i2 g⟩
theorem RB.nq {X : Tx} {y : Nat} {m n : MM} (h : RB X y m) (o : Nq y m n) : RB X y n := ⟨h.1.kept o.1 o.2.1 (fun s => by rw [o.2.2.2.1]), fun j hj => by rw [o.2.2.2.2.1 _ _ _ (by omega) (by omega)]; exact h.2.1 j hj, by rw [o.2.2.2.2.2 1139 0 (by omega)]; exact h.2.2.1, h.2.2.2.1, h.2.2.2.2⟩
theorem RTk.of {X : Tx} {y p : Nat} {m n : MM} (h : RTk X y m p) (e : ∀ s, 1138 ≤ s → s < 1143 → n.I s y 0 = m.I s y 0) (ej : n.J 1143 y 0 = m.J 1143 y 0) : RTk X y n p := ⟨(e _ (by omega) (by omega)).trans h.1, (e _ (by omega) (by omega)).trans h.2.1, fun k => (e _ (by omega) (by omega)).trans (h.2.2.1 k), fun k => (e _ (by omega) (by omega)).trans (h.2.2.2.1 k), fun k => by rw [ej]; exact h.2.2.2.2 k⟩
section RCore
variable {X : Tx} {y : Nat} {m : MM} {p E n : Nat} {g : Int32}
theorem RC.l5 (h : RC X y m p E n g) : X.2 ≤ 500 := h.1.2.2.2.1
theorem RC.k (h : RC X y m p E n g) : m.K y = 11 := h.1.1.1
theorem RC.md (h : RC X y m p E n g) : Md m y := h.1.1
theorem r_token (h : RC X y m p E n g) (h4 : tkK X p ≠ 4) : ∃ q, f_X10_token y m = some ((), q) ∧ Rs y 1138 1143 m q ∧ RC X y q (tkN X p) E n g := by
  obtain ⟨b, t, F, r, gg, hp⟩ := h
  obtain ⟨q, e1, e2, e3⟩ := r_token0 b (tkN_le hp) (t.2.2.1 h4)
  exact ⟨q, e1, e2, b.rs e2, e3, ⟨(e2.2.2.2.2.2 _ _ (by omega)).trans F.1, fun z => ⟨(e2.2.2.2.2.2 _ _ (by omega)).trans (F.2 z).1, (F.2 z).2⟩⟩, (e2.2.2.2.2.2 _ _ (by omega)).trans r, (e2.2.2.2.2.2 _ _ (by omega)).trans gg, tkN_le hp⟩
theorem r_isWord (h : RC X y m p E n g) {c : Int64} {k : Nat} (hc : c = wcT k) (hk : k < 19) : f_X10_isWord y c m = some (bI (wdT X p k), m) := by
  subst hc
  unfold f_X10_isWord g_X10_isWord_0 g_X10_isWord_21
  rw [chk_t h.k, h.2.1.1]
  have kl := tkK_lt X p
  by_cases e1 : tkK X p = 1
  · rw [e1, if_pos (show nI (rkT 1) = 2 from rfl)]
    have jw := jw_eq (h.2.1.2.2.2.2 e1) hk
    by_cases e2 : tkW X p = wsT k
    · rw [if_pos (jw.mpr e2), show wdT X p k = true from decide_eq_true ⟨e1, e2⟩]; rfl
    · rw [if_neg (fun u => e2 (jw.mp u)), show wdT X p k = false from decide_eq_false (fun u => e2 u.2)]; rfl
  · have : rkT (tkK X p) ≠ 2 ∧ rkT (tkK X p) < 5 := by unfold rkT; repeat' (split <;> try omega)
    rw [if_neg (nl (v := 2) (k := 2) rfl this.1 (by omega) (by omega)), show wdT X p k = false from decide_eq_false (fun u => e1 u.1)]; rfl
theorem r_stops (h : RC X y m p E n g) : ∃ q, f_X10_stops y m = some (0, q) ∧ Nq y m q ∧ q.I 1144 y 0 = nI (tkS X p) := by
  unfold f_X10_stops g_X10_stops_0
  rw [chk_t h.k, bnd_e]
  exact ⟨_, rfl, (Nq.rf y m).sI _ _ _ (by omega) (by omega) (by omega), by rw [I_sI, if_pos ⟨rfl, rfl, rfl⟩]; exact h.2.1.2.1⟩
theorem r_later (h : RC X y m p E n g) {k z : Int32} {f q : Nat} (hk : k = nI f) (hz : z = nI q) (h2 : 2 ≤ f) (h7 : f < 8) (hq : q ≤ 500) : ∃ u, f_X10_later y k z m = some ((), u) ∧ Rs y 1145 1147 m u ∧ RC X y u p (ntT E (8 * q + f)) n g := by
  subst hk
  subst hz
  obtain ⟨b, t, F, r, gg, hp⟩ := h
  have key : ∀ u, Rs y 1145 1147 m u → u.J 1143 y 0 = m.J 1143 y 0 → FR u y (ntT E (8 * q + f)) → RC X y u p (ntT E (8 * q + f)) n g := fun u c ej fr => ⟨b.rs c, t.of (fun s s1 s2 => c.2.2.2.2.2 s 0 (by omega)) ej, fr, (c.2.2.2.2.2 _ _ (by omega)).trans r, (c.2.2.2.2.2 _ _ (by omega)).trans gg, hp⟩
  have cs1 : Rs y 1145 1147 m ((m.sI 1145 y 0 (nI f)).sI 1146 y 0 (nI q)) := ((Rs.rf y _ _ m).sI _ _ _ (by omega) (by omega) (by omega)).sI _ _ _ (by omega) (by omega) (by omega)
  have fc1 : FR ((m.sI 1145 y 0 (nI f)).sI 1146 y 0 (nI q)) y (8 * q + f) := ⟨by rw [I_sI, if_neg (by omega), I_sI, if_pos ⟨rfl, rfl, rfl⟩, show (8 * q + f) % 8 = f by omega], fun _ => ⟨by rw [I_sI, if_pos ⟨rfl, rfl, rfl⟩, show (8 * q + f) / 8 = q by omega], by omega, by omega⟩⟩
  unfold f_X10_later g_X10_later_0 g_X10_later_31
  rw [chk_t b.1.1]
  by_cases e0 : E = 0
  · have en : ntT E (8 * q + f) = 8 * q + f := if_pos (.inl e0)
    rw [F.1, e0, if_pos (show nI (0 % 8) = 0 from rfl), chk_t b.1.1, bnd_e, bnd_e]
    rw [e0] at key en
    refine ⟨_, rfl, cs1, key _ cs1 rfl ?_⟩
    rw [en]
    exact fc1
  · obtain ⟨f1, f2, f3⟩ := F.2 e0
    rw [F.1, if_neg (nI_ne0 (by omega) (by omega)), f1]
    by_cases c1 : q < E / 8
    · rw [if_pos (nI_lt c1 (by omega)), chk_t b.1.1, bnd_e, bnd_e]
      refine ⟨_, rfl, cs1, key _ cs1 rfl ?_⟩
      rw [show ntT E (8 * q + f) = 8 * q + f from if_pos (.inr (by omega))]
      exact fc1
    · rw [if_neg (nI_nlt (by omega) (by omega))]
      by_cases c2 : q = E / 8
      · rw [if_pos (by rw [c2])]
        by_cases c3 : E % 8 ≤ f
        · rw [if_pos (nI_le c3 (by omega))]
          refine ⟨_, rfl, Rs.rf y _ _ m, key _ (Rs.rf y _ _ m) rfl ?_⟩
          rw [ntT_keep e0 (by omega)]
          exact F
        · rw [if_neg (nI_ge (by omega) (by omega)), chk_t b.1.1, bnd_e, bnd_e]
          refine ⟨_, rfl, cs1, key _ cs1 rfl ?_⟩
          rw [show ntT E (8 * q + f) = 8 * q + f from if_pos (.inr (by omega))]
          exact fc1
      · rw [if_neg (fun u => c2 (nI_inj (by omega) (by omega) u))]
        refine ⟨_, rfl, Rs.rf y _ _ m, key _ (Rs.rf y _ _ m) rfl ?_⟩
        rw [ntT_keep e0 (by omega)]
        exact F
/-- a note under a condition -/
theorem r_note (h : RC X y m p E n g) {k z : Int32} {f q : Nat} (hk : k = nI f) (hz : z = nI q) (h2 : 2 ≤ f) (h7 : f < 8) (hq : q ≤ 500) {c : Prop} [Decidable c] {b : Bool} (hb : c ↔ b = true) {α : Type} (K : MM → Option α) : ∃ u, (if c then cal (f_X10_later y k z m) (fun _ v => K v) else K m) = K u ∧ Rs y 1145 1147 m u ∧ RC X y u p (ncT E b (8 * q + f)) n g := by
  cases b with
  | true =>
    obtain ⟨u, a1, a2, a3⟩ := r_later h hk hz h2 h7 hq
    exact ⟨u, by rw [if_pos (hb.mpr rfl), a1, cal_s], a2, a3⟩
  | false => exact ⟨m, by rw [if_neg (fun u => by have := hb.mp u; cases this)], Rs.rf y _ _ m, h⟩
def NR (X : Tx) (y : Nat) (m : MM) (q k : Nat) : Prop := ∀ i, i < k → m.I 22 (y + 38) i = nI (vT X q i)
theorem r_num1 (h : RC X y m p E n g) (hn : n < 6) (lo hh : Int32) : (tkK X p ≠ 2 ∧ ∃ q, f_X10_number y lo hh m = some (0, q) ∧ Nq y m q ∧ q.I 1144 y 0 = nI (tkS X p)) ∨ (tkK X p = 2 ∧ ∃ q, f_X10_number y lo hh m = some (1, q) ∧ Nq y m q ∧ RC X y q (tkN X p) (e2T E (tkV X p) lo hh (tkS X p)) (n + 1) (cond (inR (nI (tkV X p)) lo hh) g 0) ∧ q.I 22 (y + 38) n = nI (tkV X p) ∧ ∀ j, j ≠ n → q.I 22 (y + 38) j = m.I 22 (y + 38) j) := by
  have M := h.md
  have k11 := h.k
  have kl := tkK_lt X p
  have l5 := h.l5
  have hS := tkS_le h.2.2.2.2.2
  unfold f_X10_number g_X10_number_0
  rw [chk_t k11, h.2.1.1]
  by_cases c : tkK X p = 2
  · right
    refine ⟨c, ?_⟩
    have hv := h.2.1.2.2.2.1 c
    rw [c, if_pos (show nI (rkT 2) = 3 from rfl), M.c1147, M.n1147, h.2.2.2.1, chk_t (inb_nI hn (by decide)), bnd_e, cl_nI (by omega), hv]
    have a1 : (m.sI 22 (y + 38) n (nI (tkV X p))).I 1148 y 0 = nI n := by rw [I_sI, if_neg (by omega)]; exact h.2.2.2.1
    rw [a1, nI_1, bnd_e]
    obtain ⟨m2, hm2⟩ : ∃ q, q = (m.sI 22 (y + 38) n (nI (tkV X p))).sI 1148 y 0 (nI (n + 1)) := ⟨_, rfl⟩
    rw [← hm2]
    have o2 : Nq y m m2 := by rw [hm2]; exact ((Nq.rf y m).s38 _ _ _).sI _ _ _ (by omega) (by omega) (by omega)
    have i2 : ∀ s, s ≠ 1148 → m2.I s y 0 = m.I s y 0 := fun s hs => by rw [hm2, I_sI, if_neg (by omega), I_sI, if_neg (by omega)]
    have j2 : m2.J 1143 y 0 = m.J 1143 y 0 := by rw [hm2]; rfl
    have c2 : RC X y m2 p E (n + 1) g := ⟨h.1.nq o2, h.2.1.of (fun s _ _ => i2 s (by omega)) j2, ⟨(i2 _ (by omega)).trans h.2.2.1.1, fun z => ⟨(i2 _ (by omega)).trans (h.2.2.1.2 z).1, (h.2.2.1.2 z).2⟩⟩, by rw [hm2, I_sI, if_pos ⟨rfl, rfl, rfl⟩], (i2 _ (by omega)).trans h.2.2.2.2.1, h.2.2.2.2.2⟩
    have v38 : m2.I 22 (y + 38) n = nI (tkV X p) := by rw [hm2, I_sI, if_neg (by omega), I_sI, if_pos ⟨rfl, rfl, rfl⟩]
    have w38 : ∀ j, j ≠ n → m2.I 22 (y + 38) j = m.I 22 (y + 38) j := fun j hj => by rw [hm2, I_sI, if_neg (by omega), I_sI, if_neg (by omega)]
    rw [i2 1142 (by omega), hv, r_in, cal_s]
    cases hi : inR (nI (tkV X p)) lo hh with
    | true =>
      obtain ⟨q, t1, t2, t3⟩ := r_token c2 (by omega)
      rw [if_neg (show ¬ bI true = 0 by decide), chk_t c2.k, t1, cal_s]
      refine ⟨q, rfl, o2.tr (t2.nq (by omega) (by omega)), ?_, (t2.2.2.2.2.1 _ _ _ (by omega)).trans v38, fun j hj => (t2.2.2.2.2.1 _ _ _ (by omega)).trans (w38 j hj)⟩
      unfold e2T
      rw [hi]
      exact t3
    | false =>
      obtain ⟨m3, l1, l2, l3⟩ := r_later c2 (k := 2) (z := nI (tkS X p)) (f := 2) rfl rfl (by omega) (by omega) (by omega)
      rw [if_pos (show bI false = 0 by rfl), chk_t c2.k, c2.2.1.2.1, l1, cal_s, chk_t l3.k, bnd_e]
      obtain ⟨m4, hm4⟩ : ∃ q, q = m3.sI 1149 y 0 0 := ⟨_, rfl⟩
      have o4 : Rs y 1149 1150 m3 m4 := by rw [hm4]; exact (Rs.rf y _ _ m3).sI _ _ _ (by omega) (by omega) (by omega)
      have i4 : ∀ s, s ≠ 1149 → m4.I s y 0 = m3.I s y 0 := fun s hs => by rw [hm4, I_sI, if_neg (by omega)]
      have j4 : m4.J 1143 y 0 = m3.J 1143 y 0 := by rw [hm4]; rfl
      have c4 : RC X y m4 p (ntT E (8 * tkS X p + 2)) (n + 1) 0 := ⟨l3.1.rs o4, l3.2.1.of (fun s _ _ => i4 s (by omega)) j4, ⟨(i4 _ (by omega)).trans l3.2.2.1.1, fun z => ⟨(i4 _ (by omega)).trans (l3.2.2.1.2 z).1, (l3.2.2.1.2 z).2⟩⟩, (i4 _ (by omega)).trans l3.2.2.2.1, by rw [hm4, I_sI, if_pos ⟨rfl, rfl, rfl⟩], l3.2.2.2.2.2⟩
      obtain ⟨q, t1, t2, t3⟩ := r_token c4 (by omega)
      rw [← hm4, t1, cal_s]
      have w : ∀ j, q.I 22 (y + 38) j = m2.I 22 (y + 38) j := fun j => ((t2.2.2.2.2.1 _ _ _ (by omega)).trans (o4.2.2.2.2.1 _ _ _ (by omega))).trans (l2.2.2.2.2.1 _ _ _ (by omega))
      refine ⟨q, rfl, ((o2.tr (l2.nq (by omega) (by omega))).tr (o4.nq (by omega) (by omega))).tr (t2.nq (by omega) (by omega)), ?_, (w n).trans v38, fun j hj => (w j).trans (w38 j hj)⟩
      unfold e2T
      rw [hi]
      exact t3
  · left
    refine ⟨c, ?_⟩
    have : rkT (tkK X p) ≠ 3 ∧ rkT (tkK X p) < 5 := by unfold rkT; repeat' (split <;> try omega)
    obtain ⟨q, s1, s2, s3⟩ := r_stops h
    rw [if_neg (nl (v := 3) (k := 3) rfl this.1 (by omega) (by omega)), s1, cal_s, chk_t (.inl rfl)]
    exact ⟨q, rfl, s2, s3⟩
theorem r_passes (h : RC X y m p E n g) : (stT X p = .inl (tkS X p) ∧ ∃ q, f_X10_passes y m = some (0, q) ∧ Nq y m q ∧ q.I 1144 y 0 = nI (tkS X p)) ∨ (stT X p = .inr (tkN X p) ∧ ∃ q, f_X10_passes y m = some (1, q) ∧ Nq y m q ∧ RC X y q (tkN X p) E n g) := by
  unfold f_X10_passes g_X10_passes_0 stT
  rw [chk_t h.k, h.2.1.1]
  have kl := tkK_lt X p
  by_cases c : tkK X p = 3
  · right
    obtain ⟨q, t1, t2, t3⟩ := r_token h (by omega)
    rw [c, if_pos rfl, if_pos (show nI (rkT 3) = 4 from rfl), t1, cal_s]
    exact ⟨rfl, q, rfl, t2.nq (by omega) (by omega), t3⟩
  · left
    have : rkT (tkK X p) ≠ 4 ∧ rkT (tkK X p) < 5 := by unfold rkT; repeat' (split <;> try omega)
    obtain ⟨q, s1, s2, s3⟩ := r_stops h
    rw [if_neg c, if_neg (nl (v := 4) (k := 4) rfl this.1 (by omega) (by omega)), s1, cal_s, chk_t (.inl rfl)]
    exact ⟨rfl, q, rfl, s2, s3⟩
/-- the k-th number -/
theorem r_num {q k : Nat} (h : RC X y m (itN X q k) E k g) (hk : k < 6) (ho : nmT X q k = .inr (itN X q k)) (hv : NR X y m q k) (lo hh : Int32) {P : Option (Int32 × MM) → Prop} (R : Option (Int32 × MM)) (hR : R = f_X10_number y lo hh m) (hf : ∀ u pl, nmT X q (k + 1) = .inl pl → Nq y m u → u.I 1144 y 0 = nI pl → P (some (0, u))) (hs : ∀ u, nmT X q (k + 1) = .inr (itN X q (k + 1)) → Nq y m u → RC X y u (itN X q (k + 1)) (e2T E (vT X q k) lo hh (sT X q k)) (k + 1) (cond (inR (nI (vT X q k)) lo hh) g 0) → NR X y u q (k + 1) → vT X q k < 10000 → P (some (1, u))) : P R := by
  subst hR
  rcases r_num1 h hk lo hh with ⟨a, u, b1, b2, b3⟩ | ⟨a, u, b1, b2, b3, b4, b5⟩
  · rw [b1]
    exact hf u _ (nmT_f ho a) b2 b3
  · rw [b1]
    refine hs u (nmT_s ho a) b2 b3 (fun i hi => ?_) (tkV_lt a)
    by_cases e : i = k
    · subst e; exact b4
    · rw [b5 i e]; exact hv i (by omega)
end RCore
