/-! all bars in their order -/
abbrev B3 : Type := Nat × Nat × Nat
def rowL (P : Nat → Nat → Nat → Bool) (n a b : Nat) : List B3 := ((List.range n).filter (P a b)).map (fun r => (a, b, r))
def bL (P : Nat → Nat → Nat → Bool) (n a j : Nat) : List B3 := (List.range j).flatMap (rowL P n a)
def aL (P : Nat → Nat → Nat → Bool) (n i : Nat) : List B3 := (List.range i).flatMap (fun a => bL P n a 12)
section LST
variable {P : Nat → Nat → Nat → Bool} {n a b j i : Nat}
theorem rowL_s : rowL P (n + 1) a b = rowL P n a b ++ (if P a b n then [(a, b, n)] else []) := by
  unfold rowL
  rw [List.range_succ, List.filter_append, List.map_append]
  congr 1
  cases h : P a b n <;> simp [h]
theorem rowL_0 : rowL P 0 a b = [] := rfl
theorem bL_s : bL P n a (j + 1) = bL P n a j ++ rowL P n a j := by
  unfold bL
  rw [List.range_succ, List.flatMap_append]
  simp
theorem aL_s : aL P n (i + 1) = aL P n i ++ bL P n i 12 := by
  unfold aL
  rw [List.range_succ, List.flatMap_append]
  simp
theorem rowL_le : (rowL P n a b).length ≤ n := by
  unfold rowL
  rw [List.length_map]
  exact Nat.le_trans (List.length_filter_le _ _) (by rw [List.length_range]; exact Nat.le_refl n)
theorem rowL_nil (h : ∀ r, r < n → P a b r = false) : rowL P n a b = [] := by
  unfold rowL
  rw [List.map_eq_nil_iff, List.filter_eq_nil_iff]
  intro r hr
  rw [h r (List.mem_range.mp hr)]
  decide
theorem bL_le (hP : ∀ a r, P a a r = false) (hn : n ≤ 10) : ∀ j, (bL P n a j).length + (if a < j then 10 else 0) ≤ 10 * j
  | 0 => by show 0 + _ ≤ _; split <;> omega
  | j + 1 => by
    have ih := bL_le hP hn j
    rw [bL_s, List.length_append]
    by_cases e : j = a
    · subst e
      rw [rowL_nil (fun r _ => hP j r)]
      rw [if_neg (by omega)] at ih
      rw [if_pos (by omega)]
      simp only [List.length_nil]
      omega
    · have := rowL_le (P := P) (n := n) (a := a) (b := j)
      by_cases q : a < j
      · rw [if_pos q] at ih
        rw [if_pos (by omega)]
        omega
      · rw [if_neg q] at ih
        rw [if_neg (by omega)]
        omega
theorem aL_le (hP : ∀ a r, P a a r = false) (hn : n ≤ 10) : ∀ i, i ≤ 12 → (aL P n i).length ≤ 110 * i
  | 0, _ => Nat.le_refl 0
  | i + 1, h => by
    have ih := aL_le hP hn i (by omega)
    have := bL_le (a := i) hP hn 12
    rw [if_pos (by omega)] at this
    rw [aL_s, List.length_append]
    omega
theorem ab_le (hP : ∀ a r, P a a r = false) (hn : n ≤ 10) (ha : a < 12) (hb : b < 12) (hab : a ≠ b) : (aL P n a ++ bL P n a b).length + 10 ≤ 1320 := by
  have h1 := aL_le hP hn a (by omega)
  have h2 := bL_le (a := a) hP hn b
  rw [List.length_append]
  by_cases q : a < b
  · rw [if_pos q] at h2; omega
  · rw [if_neg q] at h2; omega
end LST
def lat (L : List B3) (k : Nat) : B3 := (L[k]?).getD (0, 0, 0)
def cod (e : B3) : Nat := (e.1 * 12 + e.2.1) * 10 + e.2.2
theorem lat_1 {L M : List B3} {k : Nat} (h : k < L.length) : lat (L ++ M) k = lat L k := by
  unfold lat
  rw [List.getElem?_append_left h]
theorem lat_e {L : List B3} {e : B3} : lat (L ++ [e]) L.length = e := by
  unfold lat
  rw [List.getElem?_append_right (Nat.le_refl _)]
  simp
theorem lat_mem {L : List B3} {k : Nat} (h : k < L.length) : lat L k ∈ L := by
  unfold lat
  rw [List.getElem?_eq_getElem h]
  exact List.getElem_mem h
theorem aL_mem {P : Nat → Nat → Nat → Bool} {n i : Nat} {e : B3} : e ∈ aL P n i ↔ e.1 < i ∧ e.2.1 < 12 ∧ e.2.2 < n ∧ P e.1 e.2.1 e.2.2 = true := by
  obtain ⟨a, b, r⟩ := e
  unfold aL bL rowL
  simp only [List.mem_flatMap, List.mem_range, List.mem_map, List.mem_filter, Prod.mk.injEq]
  constructor
  · rintro ⟨a', h1, b', h2, r', ⟨h3, h4⟩, rfl, rfl, rfl⟩
    exact ⟨h1, h2, h3, h4⟩
  · rintro ⟨h1, h2, h3, h4⟩
    exact ⟨a, h1, b, h2, r, ⟨h3, h4⟩, rfl, rfl, rfl⟩
/-- two loops with the same bars -/
theorem aL_congr {P Q : Nat → Nat → Nat → Bool} {n i : Nat} (h : ∀ a b r, a < i → b < 12 → r < n → P a b r = Q a b r) : aL P n i = aL Q n i := by
  have e : ∀ a b, a < i → b < 12 → rowL P n a b = rowL Q n a b := by
    intro a b ha hb
    unfold rowL
    rw [List.filter_congr (fun r hr => h a b r ha hb (List.mem_range.mp hr))]
  have e2 : ∀ a, a < i → ∀ j, j ≤ 12 → bL P n a j = bL Q n a j := by
    intro a ha j
    induction j with
    | zero => intro _; rfl
    | succ j ih => intro hj; rw [bL_s, bL_s, ih (by omega), e a j ha (by omega)]
  have e3 : ∀ k, k ≤ i → aL P n k = aL Q n k := by
    intro k
    induction k with
    | zero => intro _; rfl
    | succ k ih => intro hk; rw [aL_s, aL_s, ih (by omega), e2 k (by omega) 12 (by omega)]
  exact e3 i (Nat.le_refl i)
theorem aL_len0 {P : Nat → Nat → Nat → Bool} {n i : Nat} : (aL P n i).length = 0 ↔ ∀ a b r, a < i → b < 12 → r < n → P a b r = false := by
  rw [List.length_eq_zero_iff, List.eq_nil_iff_forall_not_mem]
  constructor
  · intro h a b r h1 h2 h3
    cases q : P a b r with
    | false => rfl
    | true => exact absurd (aL_mem.mpr ⟨h1, h2, h3, q⟩) (h (a, b, r))
  · intro h e he
    obtain ⟨h1, h2, h3, h4⟩ := aL_mem.mp he
    rw [h _ _ _ h1 h2 h3] at h4
    cases h4
/-- which two by which rule -/
def barP (T : TW) (B : LW) (d w : Nat) (H : Nat → Bool) (L : BD → BD → Bool) (a b r : Nat) : Bool := sB T d a && sB T d b && !decide (a = b) && !(evR B r && decide (B.2.2 r 1 = B.2.2 r 2) && decide (b < a)) && baR T B w H L r (bdy T d a) (bdy T d b)
def barL (T : TW) (B : LW) (d w : Nat) (H : Nat → Bool) (L : BD → BD → Bool) : List B3 := aL (barP T B d w H L) B.2.1 12
theorem barP_d (T : TW) (B : LW) (d w : Nat) (H : Nat → Bool) (L : BD → BD → Bool) (a r : Nat) : barP T B d w H L a a r = false := by simp [barP]
/-! the class's scene with its bodies -/
def CS (m : MM) (x t l : Nat) (T : TW) (B : LW) (d w : Nat) (ho wo : Int32) : Prop := Sh m x ∧ Sc m (x + 81) t l T B d w ho wo ∧ VT T ∧ VL B ∧ w ≤ 12 ∧ m.I 605 (x + 81) 0 = mks (sB T d) 12 ∧ (∀ k, k < T.2.1 0 → Bo m (x + 83 + k) (bdy T d k)) ∧ t + 15 ≤ x + 60 ∧ l + 3 ≤ x + 60
theorem Sh.on {m n : MM} {x lo hi : Nat} (o : On m n lo hi) (h : Sh m x) : Sh n x := h.kept o.1 o.2.1 (fun s a i _ _ _ => by rw [o.2.2.2.1])
theorem CT.on {m n : MM} {t lo hi : Nat} {T : TW} (o : On m n lo hi) (h1 : t + 15 ≤ lo ∨ hi ≤ t) (h : CT m t T) : CT n t T := h.kept (o.ag (by omega))
theorem CL.on {m n : MM} {t lo hi : Nat} {B : LW} (o : On m n lo hi) (h1 : t + 3 ≤ lo ∨ hi ≤ t) (h : CL m t B) : CL n t B := h.kept (o.ag (by omega))
theorem CS.on {m n : MM} {x t l d w lo hi : Nat} {T : TW} {B : LW} {ho wo : Int32} (h : CS m x t l T B d w ho wo) (o : On m n lo hi) (hlo : x + 95 ≤ lo) : CS n x t l T B d w ho wo := by
  obtain ⟨hS, ⟨k1, k2, k3, k4, k5, k6, k7, k8, k9⟩, V, VB', hw, h605, hb, ht, hl⟩ := h
  have e : ∀ s a i, a < x + 95 → n.I s a i = m.I s a i := fun s a i ha => o.2.2.2.2.2 s a i (by omega)
  refine ⟨hS.on o, ⟨by rw [o.1]; exact k1, by rw [o.2.2.2.1]; exact k2, by rw [o.2.2.2.1]; exact k3, k4.on o (by omega), k5.on o (by omega), by rw [e _ _ _ (by omega)]; exact k6, by rw [e _ _ _ (by omega)]; exact k7, by rw [e _ _ _ (by omega)]; exact k8, by rw [e _ _ _ (by omega)]; exact k9⟩, V, VB', hw, by rw [e _ _ _ (by omega)]; exact h605, fun k hk => ?_, ht, hl⟩
  have hn := k4.n0.2.2
  exact (hb k hk).kept (by rw [o.1]) (fun s => e _ _ _ (by omega))
theorem sB_n {T : TW} {d k : Nat} (h : sB T d k = true) : k < T.2.1 0 := by
  unfold sB at h
  rw [Bool.and_eq_true, decide_eq_true_eq] at h
  exact h.1
/-! the class's list -/
def FcL (m : MM) (x : Nat) (L : List B3) : Prop := m.I 203 (x + 96) 0 = nI L.length ∧ ∀ k, k < L.length → m.I 22 (x + 97) k = nI (cod (lat L k))
theorem FcL.push {m : MM} {x : Nat} {L : List B3} (h : FcL m x L) (e : B3) : FcL ((m.sI 22 (x + 97) L.length (nI (cod e))).sI 203 (x + 96) 0 (nI (L.length + 1))) x (L ++ [e]) := by
  refine ⟨by rw [I_sI, if_pos ⟨rfl, rfl, rfl⟩, List.length_append]; rfl, fun k hk => ?_⟩
  rw [List.length_append] at hk
  have hk : k < L.length + 1 := hk
  rw [I_sI, if_neg (by omega), I_sI]
  by_cases q : k = L.length
  · subst q
    rw [if_pos ⟨rfl, rfl, rfl⟩, lat_e]
  · rw [if_neg (fun z => q z.2.2), lat_1 (by omega)]
    exact h.2 k (by omega)
theorem an_2 (p : Int32) {a b : Nat} (ha : a < 32) (hb : b < 32) : ((((p >>> (nI a &&& 31)) &&& (p >>> (nI b &&& 31))) &&& 1) = 0) ↔ (bt p a && bt p b) = false := by
  have h1 := bt_q p ha
  have h2 := bt_q p hb
  rw [an_1] at h1 h2 ⊢
  rw [bt_and]
  generalize bt (p >>> (nI a &&& 31)) 0 = u at *
  generalize bt (p >>> (nI b &&& 31)) 0 = v at *
  generalize bt p a = u' at *
  generalize bt p b = v' at *
  revert h1 h2
  cases u <;> cases v <;> cases u' <;> cases v' <;> simp
section CSM
variable {m s : MM} {x t l d w a b : Nat} {T : TW} {B : LW} {ho wo : Int32} {L : List B3}
theorem c_bothStand (hK : m.K (x + 81) = 6) (h : m.I 605 (x + 81) 0 = mks (sB T d) 12) (ha : a < 12) (hb : b < 12) : f_X5_bothStand (x + 81) (nI a) (nI b) m = some (bI (sB T d a && sB T d b), m) := by
  have e1 : ¬ nI a < 0 := nI_pos (by omega)
  have e2 : ¬ (12 : Int32) ≤ nI a := nI_ge (b := 12) ha (by decide)
  have e3 : ¬ nI b < 0 := nI_pos (by omega)
  have e4 : nI b < (12 : Int32) := nI_lt (b := 12) hb (by decide)
  simp only [g_X5_bothStand_0, f_X5_bothStand, if_neg e1, if_neg e2, if_neg e3, if_pos e4, chk_t hK, h, an_2 _ (show a < 32 by omega) (show b < 32 by omega), bt_mks (show 12 ≤ 32 by omega) a (by omega), bt_mks (show 12 ≤ 32 by omega) b (by omega), decide_eq_true ha, decide_eq_true hb, Bool.true_and]
  cases (sB T d a && sB T d b) <;> rfl
theorem c_isEven (h : CL m l B) {r : Nat} (hr : r < B.2.1) : f_X1_isEven (some (l + 1)) (nI r) m = some (bI (evR B r && decide (B.2.2 r 1 = B.2.2 r 2)), m) := by
  simp only [g_X1_isEven_45, g_X1_isEven_41, g_X1_isEven_27, g_X1_isEven_0, f_X1_isEven, ck_s h.n.2.1, chk_t h.n.2.1, h.cell_0 hr, h.cell_1 hr, h.cell_2 hr, chk_t, ck_sI, ck_sR, ck_sJ, cal_s, bnd_e, ifn_s, ifn_n, evR]
  by_cases k1 : B.2.2 r 1 = B.2.2 r 2
  · by_cases k2 : B.2.2 r 0 = 0
    · simp [k1, k2, bI]
    · by_cases k3 : B.2.2 r 0 = 3 <;> simp [k1, k2, k3, bI]
  · simp [k1, bI]
theorem c_collectOf (C : CS m x t l T B d w ho (-1)) (ha : a < 12) (hb : b < 12) (hab : a ≠ b) (sa : sB T d a = true) (sb : sB T d b = true) (o : On m s (x + 96) (x + 98)) (F : FcL s x L) (hl : L.length + 10 ≤ 1320) : ∃ s', f_X1_collectOf (x + 96) (nI a) (nI b) s = some ((), s') ∧ On m s' (x + 96) (x + 98) ∧ FcL s' x (L ++ rowL (barP T B d w (bt ho) (clL T d)) B.2.1 a b) := by
  have hB := C.2.1.2.2.2.2.1.n.2.2
  have P : ∀ r, barP T B d w (bt ho) (clL T d) a b r = (!(evR B r && decide (B.2.2 r 1 = B.2.2 r 2) && decide (b < a)) && baR T B w (bt ho) (clL T d) r (bdy T d a) (bdy T d b)) := fun r => by simp [barP, sa, sb, hab]
  have key := lp_inv (fun n i s => l_X1_collectOf_16 (x + 96) (nI a) (nI b) n (some l) i s) (fun i s => On m s (x + 96) (x + 98) ∧ FcL s x (L ++ rowL (barP T B d w (bt ho) (clL T d)) i a b)) (fun s => some ((), s)) B.2.1 (fun i hi s hI => ?_) (fun s hI n => ?_) (s0 := s) ⟨o, by rw [rowL_0, List.append_nil]; exact F⟩
  · obtain ⟨s', h1, h2⟩ := key
    have Cs := C.on o (by omega)
    refine ⟨s', ?_, h1⟩
    simp only [f_X1_collectOf, g_X1_collectOf_0, chk_t Cs.1.2.2.2.1.1, Cs.1.2.2.2.1.2.1, ck_s Cs.1.th, chk_t, ck_sI, ck_sR, ck_sJ, cal_s, bnd_e, ifn_s, ifn_n, Cs.2.1.2.2.1]
    exact h2 FU (by unfold FU; omega)
  · obtain ⟨o, F⟩ := hI
    have Cs := C.on o (by omega)
    have cl := Cs.2.1.2.2.2.2.1
    have bA := Cs.2.2.2.2.2.2.1 a (sB_n sa)
    have bB := Cs.2.2.2.2.2.2.1 b (sB_n sb)
    have vA := bdy_v Cs.2.2.1 (sB_n sa) d
    have vB := bdy_v Cs.2.2.1 (sB_n sb) d
    have bt2 := c_barsTwo Cs.2.1 Cs.2.2.1 Cs.2.2.2.1 Cs.2.2.2.2.1 bA bB vA vB hi
    have nw : ¬ nI i = -1 := nI_ne_m1 (by omega)
    rw [decide_eq_false nw, Bool.not_false, Bool.true_and] at bt2
    have e1 : ¬ nI B.2.1 ≤ nI i := nI_ge hi (by omega)
    obtain ⟨M, hM⟩ : ∃ M, M = L ++ rowL (barP T B d w (bt ho) (clL T d)) i a b := ⟨_, rfl⟩
    have hML : M.length < 1320 := by
      have := rowL_le (P := barP T B d w (bt ho) (clL T d)) (n := i) (a := a) (b := b)
      rw [hM, List.length_append]
      omega
    have f0 : ¬ nI M.length < 0 := nI_pos (by omega)
    have f1 : ¬ nI 1320 ≤ nI M.length := nI_ge hML (by decide)
    have f2 : (((nI a * 12) + nI b) * 10) + nI i = nI (cod (a, b, i)) := by
      show ((nI a * nI 12) + nI b) * nI 10 + nI i = _
      rw [pk_mul, nI_add, pk_mul, nI_add]
      rfl
    have f3 : nI M.length + 1 = nI (M.length + 1) := nI_add _ 1
    rw [← hM] at F
    have f4 : (s.sI 22 (x + 97) M.length (nI (cod (a, b, i)))).I 203 (x + 96) 0 = nI M.length := by rw [I_sI, if_neg (by omega)]; exact F.1
    have st : ∀ n, g_X1_collectOf_45 (x + 96) (nI a) (nI b) (l_X1_collectOf_16 (x + 96) (nI a) (nI b) n) (some l) (nI i) s = l_X1_collectOf_16 (x + 96) (nI a) (nI b) n (some l) (nI (i + 1)) (if baR T B w (bt ho) (clL T d) i (bdy T d a) (bdy T d b) then (s.sI 22 (x + 97) M.length (nI (cod (a, b, i)))).sI 203 (x + 96) 0 (nI (M.length + 1)) else s) := by
      intro n
      simp only [g_X1_collectOf_45, g_X1_collectOf_126, chk_t Cs.1.2.2.2.1.1, Cs.1.2.2.2.1.2.1, ck_s Cs.1.th, chk_t Cs.1.th, chk_t, ck_sI, ck_sR, ck_sJ, cal_s, bnd_e, ifn_s, ifn_n, c_body Cs.1 ha, c_body Cs.1 hb, bt2, bI_0, F.1, if_neg f0, ck_e Cs.1.2.2.2.1.2.2.1 Cs.1.2.2.2.1.2.2.2.2.1, Cs.1.2.2.2.1.2.2.2.2.2.1, ofN, if_neg f1, chk_t (inb_nI hML (by decide)), cl_nI (show M.length < 2 ^ 31 by omega), f2, f4, f3, nI_1]
      cases baR T B w (bt ho) (clL T d) i (bdy T d a) (bdy T d b) <;> simp
    have fin : ∀ n, l_X1_collectOf_16 (x + 96) (nI a) (nI b) (n + 1) (some l) (nI i) s = l_X1_collectOf_16 (x + 96) (nI a) (nI b) n (some l) (nI (i + 1)) (if barP T B d w (bt ho) (clL T d) a b i then (s.sI 22 (x + 97) M.length (nI (cod (a, b, i)))).sI 203 (x + 96) 0 (nI (M.length + 1)) else s) := by
      intro n
      show g_X1_collectOf_16 (x + 96) (nI a) (nI b) (l_X1_collectOf_16 (x + 96) (nI a) (nI b) n) (some l) (nI i) s = _
      rw [P]
      by_cases q : b < a
      · have q1 : ¬ nI a ≤ nI b := fun z => by have := (nI_leI (by omega) (by omega)).mp z; omega
        simp only [g_X1_collectOf_16, ck_s cl.K, cl.R, ck_s cl.n.2.1, cl.n.1, if_neg e1, if_neg q1, c_isEven cl hi, chk_t, ck_sI, ck_sR, ck_sJ, cal_s, bnd_e, ifn_s, ifn_n, bI_0, st, g_X1_collectOf_126, nI_1, decide_eq_true q, Bool.and_true]
        cases (evR B i && decide (B.2.2 i 1 = B.2.2 i 2)) <;> simp
      · have q1 : nI a ≤ nI b := nI_le (by omega) (by omega)
        simp only [g_X1_collectOf_16, ck_s cl.K, cl.R, ck_s cl.n.2.1, cl.n.1, if_neg e1, if_pos q1, st, decide_eq_false q, Bool.and_false, Bool.not_false, Bool.true_and]
    refine ⟨_, ?_, fin⟩
    rw [rowL_s, ← List.append_assoc, ← hM]
    cases barP T B d w (bt ho) (clL T d) a b i with
    | true =>
      simp only [if_true]
      exact ⟨(o.sI _ _ _ _ (by omega) (by omega)).sI _ _ _ _ (by omega) (by omega), F.push _⟩
    | false =>
      simp only [Bool.false_eq_true, if_false, List.append_nil]
      exact ⟨o, F⟩
  · obtain ⟨o, F⟩ := hI
    have Cs := C.on o (by omega)
    have cl := Cs.2.1.2.2.2.2.1
    show g_X1_collectOf_16 (x + 96) (nI a) (nI b) (l_X1_collectOf_16 (x + 96) (nI a) (nI b) n) (some l) (nI B.2.1) s = _
    simp only [g_X1_collectOf_16, ck_s cl.K, cl.R, ck_s cl.n.2.1, cl.n.1, if_pos (Int32.le_refl _)]
theorem c_collect (C : CS m x t l T B d w ho (-1)) : ∃ s', f_X1_collect (x + 96) m = some ((), s') ∧ On m s' (x + 96) (x + 98) ∧ FcL s' x (barL T B d w (bt ho) (clL T d)) := by
  have hB := C.2.1.2.2.2.2.1.n.2.2
  have hP := barP_d T B d w (bt ho) (clL T d)
  have inner : ∀ a, a < 12 → ∀ s, On m s (x + 96) (x + 98) ∧ FcL s x (aL (barP T B d w (bt ho) (clL T d)) B.2.1 a) → ∃ s', (On m s' (x + 96) (x + 98) ∧ FcL s' x (aL (barP T B d w (bt ho) (clL T d)) B.2.1 a ++ bL (barP T B d w (bt ho) (clL T d)) B.2.1 a 12)) ∧ ∀ n, 12 < n → (fun (K : Int32 → MM → Option (Unit × MM)) => l_X1_collect_15 (x + 96) K n (nI a) (nI 0) s) = fun K => K (nI a) s' := by
    intro a ha s hs
    refine lp_inv (fun n i s => fun (K : Int32 → MM → Option (Unit × MM)) => l_X1_collect_15 (x + 96) K n (nI a) i s) (fun j s => On m s (x + 96) (x + 98) ∧ FcL s x (aL (barP T B d w (bt ho) (clL T d)) B.2.1 a ++ bL (barP T B d w (bt ho) (clL T d)) B.2.1 a j)) (fun s => fun K => K (nI a) s) 12 (fun b hb s hI => ?_) (fun s hI n => ?_) (s0 := s) ⟨hs.1, by rw [show bL (barP T B d w (bt ho) (clL T d)) B.2.1 a 0 = [] from rfl, List.append_nil]; exact hs.2⟩
    · obtain ⟨o, F⟩ := hI
      have Cs := C.on o (by omega)
      have e1 : ¬ (12 : Int32) ≤ nI b := nI_ge (b := 12) hb (by decide)
      by_cases hab : a = b
      · refine ⟨s, ⟨o, by rw [bL_s, ← hab, rowL_nil (fun r _ => hP a r), List.append_nil]; rw [← hab] at F; exact F⟩, fun n => ?_⟩
        funext K
        show g_X1_collect_15 (x + 96) (l_X1_collect_15 (x + 96) K n) K (nI a) (nI b) s = _
        simp only [g_X1_collect_15, g_X1_collect_44, if_neg e1, hab, if_true, nI_1]
      · have e2 : ¬ nI a = nI b := fun q => hab (nI_inj (by omega) (by omega) q)
        cases hst : (sB T d a && sB T d b) with
        | false =>
          refine ⟨s, ⟨o, ?_⟩, fun n => ?_⟩
          · rw [bL_s, rowL_nil (fun r _ => by unfold barP; rw [hst]; rfl), List.append_nil]; exact F
          · funext K
            show g_X1_collect_15 (x + 96) (l_X1_collect_15 (x + 96) K n) K (nI a) (nI b) s = _
            simp only [g_X1_collect_15, g_X1_collect_44, if_neg e1, if_neg e2, nI_1, chk_t Cs.1.2.2.2.1.1, Cs.1.2.2.2.1.2.1, ck_s Cs.1.th, c_bothStand Cs.1.th Cs.2.2.2.2.2.1 ha hb, hst, chk_t, ck_sI, ck_sR, ck_sJ, cal_s, bnd_e, ifn_s, ifn_n, bI_0, if_true]
        | true =>
          rw [Bool.and_eq_true] at hst
          have hlen : (aL (barP T B d w (bt ho) (clL T d)) B.2.1 a ++ bL (barP T B d w (bt ho) (clL T d)) B.2.1 a b).length + 10 ≤ 1320 := ab_le hP hB ha hb hab
          obtain ⟨s', q1, q2, q3⟩ := c_collectOf C ha hb hab hst.1 hst.2 o F hlen
          refine ⟨s', ⟨q2, by rw [bL_s, ← List.append_assoc]; exact q3⟩, fun n => ?_⟩
          funext K
          show g_X1_collect_15 (x + 96) (l_X1_collect_15 (x + 96) K n) K (nI a) (nI b) s = _
          simp only [g_X1_collect_15, g_X1_collect_44, if_neg e1, if_neg e2, nI_1, chk_t Cs.1.2.2.2.1.1, Cs.1.2.2.2.1.2.1, ck_s Cs.1.th, c_bothStand Cs.1.th Cs.2.2.2.2.2.1 ha hb, hst.1, hst.2, Bool.and_true, chk_t, ck_sI, ck_sR, ck_sJ, cal_s, bnd_e, ifn_s, ifn_n, bI_0, Bool.true_eq_false, if_false, q1]
    · funext K
      show g_X1_collect_15 (x + 96) (l_X1_collect_15 (x + 96) K n) K (nI a) (nI 12) s = _
      simp only [g_X1_collect_15, if_pos (show (12 : Int32) ≤ nI 12 by decide)]
  obtain ⟨m1, hm1⟩ : ∃ q, q = m.sI 203 (x + 96) 0 0 := ⟨_, rfl⟩
  have o1 : On m m1 (x + 96) (x + 98) := by rw [hm1]; exact (On.rf m _ _).sI _ _ _ _ (by omega) (by omega)
  have F1 : FcL m1 x [] := ⟨by rw [hm1, I_sI, if_pos ⟨rfl, rfl, rfl⟩]; rfl, fun k hk => by simp at hk⟩
  obtain ⟨s', h1, h2⟩ := lp_inv (fun n i s => l_X1_collect_7 (x + 96) n i s) (fun a s => On m s (x + 96) (x + 98) ∧ FcL s x (aL (barP T B d w (bt ho) (clL T d)) B.2.1 a)) (fun s => some ((), s)) 12 (fun a ha s hI => by
    have e1 : ¬ (12 : Int32) ≤ nI a := nI_ge (b := 12) ha (by decide)
    obtain ⟨s', q1, q2⟩ := inner a ha s hI
    refine ⟨s', by rw [aL_s]; exact q1, fun n => ?_⟩
    show g_X1_collect_7 (x + 96) (l_X1_collect_7 (x + 96) n) (nI a) s = _
    simp only [g_X1_collect_7, if_neg e1]
    refine (congrFun (q2 FU (by unfold FU; omega)) (g_X1_collect_50 (x + 96) (l_X1_collect_7 (x + 96) n))).trans ?_
    simp only [g_X1_collect_50, nI_1]) (fun s hI n => by
    show g_X1_collect_7 (x + 96) (l_X1_collect_7 (x + 96) n) (nI 12) s = _
    simp only [g_X1_collect_7, if_pos (show (12 : Int32) ≤ nI 12 by decide)]) (s0 := m1) ⟨o1, F1⟩
  refine ⟨s', ?_, h1.1, h1.2⟩
  simp only [f_X1_collect, g_X1_collect_0, chk_t C.1.2.2.2.1.1, chk_t, ck_sI, ck_sR, ck_sJ, cal_s, bnd_e, ifn_s, ifn_n]
  rw [← hm1]
  exact h2 FU (by unfold FU; omega)
end CSM
