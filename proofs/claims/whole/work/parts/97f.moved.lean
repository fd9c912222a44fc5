/-! who moves, and whither -/
theorem fo_cg {α : Type} {f g : Nat → Option α} : ∀ {c i : Nat}, (∀ j, i ≤ j → j < i + c → f j = g j) → fo f c i = fo g c i
  | 0, _, _ => rfl
  | c + 1, i, h => by
    have e := h i (Nat.le_refl i) (by omega)
    have t : fo f c (i + 1) = fo g c (i + 1) := fo_cg (fun j h1 h2 => h j (by omega) (by omega))
    cases hf : f i with
    | some v => rw [fo_t hf, fo_t (e ▸ hf)]
    | none => rw [fo_f hf, fo_f (e ▸ hf), t]
theorem mvF_1 (T : TW) (B : LW) (d : Nat) : mvF T B d 1 = fo (fun a => mvI T B d 1 a a) 12 0 := by
  unfold mvF
  refine fo_cg (fun a _ ha => ?_)
  have ha : a < 12 := by omega
  obtain ⟨fs, fn⟩ := fo_st (f := mvI T B d 1 a) ha
  cases h : mvI T B d 1 a a with
  | some v => exact fs v h
  | none =>
    rw [fn h]
    exact fo_none (fun b b1 b2 => by
      unfold mvI
      rw [if_neg (fun z => by have := (st2_e a ha b (by omega)).2.2; rw [if_neg (by omega)] at this; omega)])
theorem mvF_2 (T : TW) (B : LW) (d : Nat) : mvF T B d 2 = fo (fun a => fo (mvI T B d 2 a) (12 - (a + 1)) (a + 1)) 12 0 := by
  unfold mvF
  refine fo_cg (fun a _ ha => ?_)
  have ha : a < 12 := by omega
  obtain ⟨fs, fn⟩ := fo_st (f := mvI T B d 2 a) ha
  exact fn (by
    unfold mvI
    rw [if_neg (fun z => by have := (st2_e a ha a ha).2.2; rw [if_pos rfl] at this; omega)])
theorem st2_1 {a : Nat} (ha : a < 12) : (1 : Int32) <<< (nI a &&& 31) = nI (st2 a a) := by
  rw [← (st2_e a ha a ha).1, Int32.or_self]
theorem FrL.mw {m n : MM} {y a b : Nat} {L : List B3} (h : FrL m y L) (o : Mw y a b m n) : FrL n y L := ⟨by rw [o.2.2.2.2 _ _ _ (by omega) (by omega) (by omega) (by omega)]; exact h.1, fun k hk => ⟨by rw [o.2.2.2.2 _ _ _ (by omega) (by omega) (by omega) (by omega)]; exact (h.2 k hk).1, by rw [o.2.2.2.2 _ _ _ (by omega) (by omega) (by omega) (by omega)]; exact (h.2 k hk).2.1, by rw [o.2.2.2.2 _ _ _ (by omega) (by omega) (by omega) (by omega)]; exact (h.2 k hk).2.2⟩⟩
/-- what the reference keeps of those that move -/
def Mvd (s : MM) (y : Nat) (v : Nat × Nat × (Nat → Nat)) : Prop := s.I 1179 y 0 = nI (v.2.2 0) ∧ ((v.1 = v.2.1 ∧ s.I 1178 y 0 = -1) ∨ (v.1 < v.2.1 ∧ s.I 1178 y 0 = nI v.2.1 ∧ s.I 1180 y 0 = nI (v.2.2 1))) ∧ v.1 < 12 ∧ v.2.1 < 12
section RFM
variable {m : MM} {x i j d a : Nat} {T : TW} {B : LW}
theorem r_fr (R : RS m (x + 106) i j T B d 0 (-1) 0) (G : FrL m (x + 106) (br0 T B d)) (k : Nat) : f_X10_frees (x + 106) (nI k) m = some (bI (ridB (foe T B d 0 (bt 255) (clL T d)) k), m) := by
  have hB := R.2.2.2.2.1
  have hn := R.2.2.1.1
  have hfr := r_frees (k := k) R.1.1 G (barL_le hB) (fun z hz => by
    obtain ⟨a, b, r, el, ha, hb, _⟩ := bar_ok hz
    have el' : lat (br0 T B d) z = (a, b, r) := el
    rw [el']
    exact ⟨show a < 12 by omega, show b < 12 by omega⟩)
  rw [fr_rid hB hn] at hfr
  exact hfr
theorem r_mv11 (R : RS m (x + 106) i j T B d 0 (-1) 0) (G : FrL m (x + 106) (br0 T B d)) : (∃ v s, mvF T B d 1 = some v ∧ Fq x m s ∧ RS s (x + 106) i j T B d 0 (-1) 0 ∧ Mvd s (x + 106) v ∧ ∀ K, l_X10_findMoved_11 (x + 106) (nI j) K FU 0 m = some (nI (st2 v.1 v.2.1), s)) ∨ (∃ s, mvF T B d 1 = none ∧ Fq x m s ∧ RS s (x + 106) i j T B d 0 (-1) 0 ∧ FrL s (x + 106) (br0 T B d) ∧ ∀ K, l_X10_findMoved_11 (x + 106) (nI j) K FU 0 m = K s) := by
  rw [mvF_1]
  obtain ⟨r, hQ, hr⟩ := lp_ex (fun n a (s : MM) => fun (K : MM → Option (Int32 × MM)) => l_X10_findMoved_11 (x + 106) (nI j) K n a s) (fun a s => fo (fun a => mvI T B d 1 a a) (12 - a) a = fo (fun a => mvI T B d 1 a a) 12 0 ∧ Fq x m s ∧ RS s (x + 106) i j T B d 0 (-1) 0 ∧ FrL s (x + 106) (br0 T B d)) (fun r => (∃ v s, fo (fun a => mvI T B d 1 a a) 12 0 = some v ∧ Fq x m s ∧ RS s (x + 106) i j T B d 0 (-1) 0 ∧ Mvd s (x + 106) v ∧ r = fun _ => some (nI (st2 v.1 v.2.1), s)) ∨ (∃ s, fo (fun a => mvI T B d 1 a a) 12 0 = none ∧ Fq x m s ∧ RS s (x + 106) i j T B d 0 (-1) 0 ∧ FrL s (x + 106) (br0 T B d) ∧ r = fun K => K s)) 12 0 (by omega) (fun a _ ha s hI => by
    obtain ⟨a1, a2, Rs, Gs⟩ := hI
    have z1 : ¬ (12 : Int32) ≤ nI a := nI_ge (b := 12) ha (by decide)
    obtain ⟨fs, fn⟩ := fo_st (f := fun a => mvI T B d 1 a a) ha
    have on1 : onN (st2 a a) = 1 := by have := (st2_e a ha a ha).2.2; rw [if_pos rfl] at this; exact this
    have pre : ∀ n (K : MM → Option (Int32 × MM)), l_X10_findMoved_11 (x + 106) (nI j) K (n + 1) (nI a) s = if cnd T B d a a = false then l_X10_findMoved_11 (x + 106) (nI j) K n (nI (a + 1)) s else cal (f_X10_movesOne (x + 106) (nI j) (nI a) s) (fun r3 m3 => if r3 = 0 then (l_X10_findMoved_11 (x + 106) (nI j) K n (nI (a + 1)) m3) else (some (nI (st2 a a), m3))) := by
      intro n K
      show g_X10_findMoved_11 (x + 106) (nI j) (l_X10_findMoved_11 (x + 106) (nI j) K n) K (nI a) s = _
      unfold g_X10_findMoved_11 g_X10_findMoved_48
      rw [if_neg z1, chk_t Rs.1.1.1, r_stands Rs.1.1 Rs.2.2.2.2.2.2.2.1 ha, cal_s, chk_t Rs.1.1.1, st2_1 ha, r_fr Rs Gs, cal_s, chk_t Rs.1.1.1, nI_1]
      have hc : cnd T B d a a = (sB T d a && sB T d a && ridB (foe T B d 0 (bt 255) (clL T d)) (st2 a a)) := rfl
      rw [hc]
      cases sB T d a with
      | false => rw [bI_f, if_pos rfl, Bool.and_self, Bool.false_and, if_pos rfl]
      | true =>
        rw [if_neg (show ¬ bI true = 0 by decide), Bool.and_self, Bool.true_and]
        cases ridB (foe T B d 0 (bt 255) (clL T d)) (st2 a a) with
        | false => rw [bI_f, if_pos rfl, if_pos rfl]
        | true => rw [if_neg (show ¬ bI true = 0 by decide), if_neg (show ¬ true = false by decide)]
    cases hc : cnd T B d a a with
    | false =>
      have hin : mvI T B d 1 a a = none := by unfold mvI; rw [if_neg (fun z => by rw [hc] at z; exact absurd z.2 (by decide))]
      refine .inr ⟨s, ⟨by rw [← a1]; exact (fn hin).symm, a2, Rs, Gs⟩, fun n => ?_⟩
      funext K
      show l_X10_findMoved_11 (x + 106) (nI j) K (n + 1) (nI a) s = _
      rw [pre n K, hc, if_pos rfl]
    | true =>
      have hsa : sB T d a = true := by
        unfold cnd at hc
        rw [Bool.and_eq_true, Bool.and_eq_true] at hc
        exact hc.1.1
      obtain ⟨n1, o1, S1, h1⟩ := r_movesOne Rs (sB_n hsa)
      rcases h1 with ⟨ps, b1, b2, b3, b4⟩ | ⟨b1, b2⟩
      · have hin : mvI T B d 1 a a = some (a, a, ps) := by unfold mvI; rw [if_pos ⟨on1, hc⟩, b1]; rfl
        refine .inl ⟨_, .inl ⟨(a, a, ps), n1, by rw [← a1]; exact fs _ hin, a2.tr o1.f, S1, ⟨b4, .inl ⟨rfl, b3⟩, ha, ha⟩, rfl⟩, fun n => ?_⟩
        funext K
        show l_X10_findMoved_11 (x + 106) (nI j) K (n + 1) (nI a) s = _
        rw [pre n K, hc, if_neg (show ¬ true = false by decide), b2, cal_s, if_neg ne10]
      · have hin : mvI T B d 1 a a = none := by unfold mvI; rw [if_pos ⟨on1, hc⟩, b1]; rfl
        refine .inr ⟨n1, ⟨by rw [← a1]; exact (fn hin).symm, a2.tr o1.f, S1, Gs.mw o1⟩, fun n => ?_⟩
        funext K
        show l_X10_findMoved_11 (x + 106) (nI j) K (n + 1) (nI a) s = _
        rw [pre n K, hc, if_neg (show ¬ true = false by decide), b2, cal_s, if_pos rfl]) (fun s hI => by
    obtain ⟨a1, a2, Rs, Gs⟩ := hI
    refine ⟨_, .inr ⟨s, by rw [← a1]; rfl, a2, Rs, Gs, rfl⟩, fun n => ?_⟩
    funext K
    show g_X10_findMoved_11 (x + 106) (nI j) (l_X10_findMoved_11 (x + 106) (nI j) K n) K (nI 12) s = _
    unfold g_X10_findMoved_11
    rw [if_pos (show (12 : Int32) ≤ nI 12 by decide)]) (s0 := m) ⟨rfl, Fq.rf x m, R, G⟩
  have hr2 := hr FU (by unfold FU; omega)
  rcases hQ with ⟨v, s, h1, h2, h3, h4, h5⟩ | ⟨s, h1, h2, h3, h4, h5⟩
  · exact .inl ⟨v, s, h1, h2, h3, h4, fun K => by have := congrFun hr2 K; rw [h5] at this; exact this⟩
  · exact .inr ⟨s, h1, h2, h3, h4, fun K => by have := congrFun hr2 K; rw [h5] at this; exact this⟩
theorem r_mv66 (R : RS m (x + 106) i j T B d 0 (-1) 0) (G : FrL m (x + 106) (br0 T B d)) (ha : a < 12) : (∃ v s, fo (mvI T B d 2 a) (12 - (a + 1)) (a + 1) = some v ∧ Fq x m s ∧ RS s (x + 106) i j T B d 0 (-1) 0 ∧ Mvd s (x + 106) v ∧ ∀ J K, l_X10_findMoved_66 (x + 106) (nI j) J K FU (nI a) (nI (a + 1)) m = J (nI v.1) (nI v.2.1) s) ∨ (∃ s, fo (mvI T B d 2 a) (12 - (a + 1)) (a + 1) = none ∧ Fq x m s ∧ RS s (x + 106) i j T B d 0 (-1) 0 ∧ FrL s (x + 106) (br0 T B d) ∧ ∀ J K, l_X10_findMoved_66 (x + 106) (nI j) J K FU (nI a) (nI (a + 1)) m = K (nI a) s) := by
  obtain ⟨r, hQ, hr⟩ := lp_ex (fun n b (s : MM) => fun (J : Int32 → Int32 → MM → Option (Int32 × MM)) (K : Int32 → MM → Option (Int32 × MM)) => l_X10_findMoved_66 (x + 106) (nI j) J K n (nI a) b s) (fun b s => fo (mvI T B d 2 a) (12 - b) b = fo (mvI T B d 2 a) (12 - (a + 1)) (a + 1) ∧ Fq x m s ∧ RS s (x + 106) i j T B d 0 (-1) 0 ∧ FrL s (x + 106) (br0 T B d)) (fun r => (∃ v s, fo (mvI T B d 2 a) (12 - (a + 1)) (a + 1) = some v ∧ Fq x m s ∧ RS s (x + 106) i j T B d 0 (-1) 0 ∧ Mvd s (x + 106) v ∧ r = fun J _ => J (nI v.1) (nI v.2.1) s) ∨ (∃ s, fo (mvI T B d 2 a) (12 - (a + 1)) (a + 1) = none ∧ Fq x m s ∧ RS s (x + 106) i j T B d 0 (-1) 0 ∧ FrL s (x + 106) (br0 T B d) ∧ r = fun _ K => K (nI a) s)) 12 (a + 1) (by omega) (fun b hab hb s hI => by
    obtain ⟨a1, a2, Rs, Gs⟩ := hI
    have z1 : ¬ (12 : Int32) ≤ nI b := nI_ge (b := 12) hb (by decide)
    obtain ⟨fs, fn⟩ := fo_st (f := mvI T B d 2 a) hb
    have on2 : onN (st2 a b) = 2 := by have := (st2_e a ha b hb).2.2; rw [if_neg (by omega)] at this; exact this
    have pre : ∀ n J (K : Int32 → MM → Option (Int32 × MM)), l_X10_findMoved_66 (x + 106) (nI j) J K (n + 1) (nI a) (nI b) s = if cnd T B d a b = false then l_X10_findMoved_66 (x + 106) (nI j) J K n (nI a) (nI (b + 1)) s else cal (f_X10_movesTwo (x + 106) (nI j) (nI a) (nI b) s) (fun r7 m7 => if r7 = 0 then (l_X10_findMoved_66 (x + 106) (nI j) J K n (nI a) (nI (b + 1)) m7) else (J (nI a) (nI b) m7)) := by
      intro n J K
      show g_X10_findMoved_66 (x + 106) (nI j) (l_X10_findMoved_66 (x + 106) (nI j) J K n) J K (nI a) (nI b) s = _
      unfold g_X10_findMoved_66 g_X10_findMoved_120
      rw [if_neg z1, chk_t Rs.1.1.1, r_stands Rs.1.1 Rs.2.2.2.2.2.2.2.1 ha, cal_s, chk_t Rs.1.1.1, r_stands Rs.1.1 Rs.2.2.2.2.2.2.2.1 hb, cal_s, chk_t Rs.1.1.1, (st2_e a ha b hb).1, r_fr Rs Gs, cal_s, chk_t Rs.1.1.1, nI_1]
      have hc : cnd T B d a b = (sB T d a && sB T d b && ridB (foe T B d 0 (bt 255) (clL T d)) (st2 a b)) := rfl
      rw [hc]
      cases sB T d a with
      | false => rw [bI_f, if_pos rfl, Bool.false_and, Bool.false_and, if_pos rfl]
      | true =>
        rw [if_neg (show ¬ bI true = 0 by decide), Bool.true_and]
        cases sB T d b with
        | false => rw [bI_f, if_pos rfl, Bool.false_and, if_pos rfl]
        | true =>
          rw [if_neg (show ¬ bI true = 0 by decide), Bool.true_and]
          cases ridB (foe T B d 0 (bt 255) (clL T d)) (st2 a b) with
          | false => rw [bI_f, if_pos rfl, if_pos rfl]
          | true => rw [if_neg (show ¬ bI true = 0 by decide), if_neg (show ¬ true = false by decide)]
    cases hc : cnd T B d a b with
    | false =>
      have hin : mvI T B d 2 a b = none := by unfold mvI; rw [if_neg (fun z => by rw [hc] at z; exact absurd z.2 (by decide))]
      refine .inr ⟨s, ⟨by rw [← a1]; exact (fn hin).symm, a2, Rs, Gs⟩, fun n => ?_⟩
      funext J K
      show l_X10_findMoved_66 (x + 106) (nI j) J K (n + 1) (nI a) (nI b) s = _
      rw [pre n J K, hc, if_pos rfl]
    | true =>
      have hs2 : sB T d a = true ∧ sB T d b = true := by
        unfold cnd at hc
        rw [Bool.and_eq_true, Bool.and_eq_true] at hc
        exact hc.1
      obtain ⟨n1, o1, S1, h1⟩ := r_movesTwo Rs (sB_n hs2.1) (sB_n hs2.2) (show a ≠ b by omega)
      rcases h1 with ⟨ps, b1, b2, b3⟩ | ⟨b1, b2⟩
      · have hin : mvI T B d 2 a b = some (a, b, ps) := by unfold mvI; rw [if_pos ⟨on2, hc⟩, b1]; rfl
        refine .inl ⟨_, .inl ⟨(a, b, ps), n1, by rw [← a1]; exact fs _ hin, a2.tr o1.f, S1, ⟨b3.2.1, .inr ⟨show a < b by omega, b3.1, b3.2.2⟩, ha, hb⟩, rfl⟩, fun n => ?_⟩
        funext J K
        show l_X10_findMoved_66 (x + 106) (nI j) J K (n + 1) (nI a) (nI b) s = _
        rw [pre n J K, hc, if_neg (show ¬ true = false by decide), b2, cal_s, if_neg ne10]
      · have hin : mvI T B d 2 a b = none := by unfold mvI; rw [if_pos ⟨on2, hc⟩, b1]; rfl
        refine .inr ⟨n1, ⟨by rw [← a1]; exact (fn hin).symm, a2.tr o1.f, S1, Gs.mw o1⟩, fun n => ?_⟩
        funext J K
        show l_X10_findMoved_66 (x + 106) (nI j) J K (n + 1) (nI a) (nI b) s = _
        rw [pre n J K, hc, if_neg (show ¬ true = false by decide), b2, cal_s, if_pos rfl]) (fun s hI => by
    obtain ⟨a1, a2, Rs, Gs⟩ := hI
    refine ⟨_, .inr ⟨s, by rw [← a1]; rfl, a2, Rs, Gs, rfl⟩, fun n => ?_⟩
    funext J K
    show g_X10_findMoved_66 (x + 106) (nI j) (l_X10_findMoved_66 (x + 106) (nI j) J K n) J K (nI a) (nI 12) s = _
    unfold g_X10_findMoved_66
    rw [if_pos (show (12 : Int32) ≤ nI 12 by decide)]) (s0 := m) ⟨rfl, Fq.rf x m, R, G⟩
  have hr2 := hr FU (by unfold FU; omega)
  rcases hQ with ⟨v, s, h1, h2, h3, h4, h5⟩ | ⟨s, h1, h2, h3, h4, h5⟩
  · exact .inl ⟨v, s, h1, h2, h3, h4, fun J K => by have := congrFun (congrFun hr2 J) K; rw [h5] at this; exact this⟩
  · exact .inr ⟨s, h1, h2, h3, h4, fun J K => by have := congrFun (congrFun hr2 J) K; rw [h5] at this; exact this⟩
theorem r_mv56 (R : RS m (x + 106) i j T B d 0 (-1) 0) (G : FrL m (x + 106) (br0 T B d)) : (∃ v s, mvF T B d 2 = some v ∧ Fq x m s ∧ RS s (x + 106) i j T B d 0 (-1) 0 ∧ Mvd s (x + 106) v ∧ l_X10_findMoved_56 (x + 106) (nI j) (g_X10_findMoved_112 (x + 106) (nI j)) FU 0 m = some (nI (st2 v.1 v.2.1), s)) ∨ (∃ s, mvF T B d 2 = none ∧ Fq x m s ∧ RS s (x + 106) i j T B d 0 (-1) 0 ∧ l_X10_findMoved_56 (x + 106) (nI j) (g_X10_findMoved_112 (x + 106) (nI j)) FU 0 m = some (-1, s)) := by
  rw [mvF_2]
  obtain ⟨F, hF⟩ : ∃ F, F = fun a => fo (mvI T B d 2 a) (12 - (a + 1)) (a + 1) := ⟨_, rfl⟩
  rw [← hF]
  obtain ⟨r, hQ, hr⟩ := lp_ex (fun n a (s : MM) => l_X10_findMoved_56 (x + 106) (nI j) (g_X10_findMoved_112 (x + 106) (nI j)) n a s) (fun a s => fo F (12 - a) a = fo F 12 0 ∧ Fq x m s ∧ RS s (x + 106) i j T B d 0 (-1) 0 ∧ FrL s (x + 106) (br0 T B d)) (fun r => (∃ v s, fo F 12 0 = some v ∧ Fq x m s ∧ RS s (x + 106) i j T B d 0 (-1) 0 ∧ Mvd s (x + 106) v ∧ r = some (nI (st2 v.1 v.2.1), s)) ∨ (∃ s, fo F 12 0 = none ∧ Fq x m s ∧ RS s (x + 106) i j T B d 0 (-1) 0 ∧ r = some (-1, s))) 12 0 (by omega) (fun a _ ha s hI => by
    obtain ⟨a1, a2, Rs, Gs⟩ := hI
    have z1 : ¬ (12 : Int32) ≤ nI a := nI_ge (b := 12) ha (by decide)
    obtain ⟨fs, fn⟩ := fo_st (f := F) ha
    have hFa : F a = fo (mvI T B d 2 a) (12 - (a + 1)) (a + 1) := by rw [hF]
    rcases r_mv66 Rs Gs ha with ⟨v, s', h1, h2, h3, h4, h5⟩ | ⟨s', h1, h2, h3, h4, h5⟩
    · refine .inl ⟨_, .inl ⟨v, s', by rw [← a1]; exact fs _ (hFa.trans h1), a2.tr h2, h3, h4, rfl⟩, fun n => ?_⟩
      show g_X10_findMoved_56 (x + 106) (nI j) (l_X10_findMoved_56 (x + 106) (nI j) (g_X10_findMoved_112 (x + 106) (nI j)) n) (g_X10_findMoved_112 (x + 106) (nI j)) (nI a) s = _
      unfold g_X10_findMoved_56
      rw [if_neg z1, bnd_e, nI_1, h5]
      unfold g_X10_findMoved_112
      rw [(st2_e _ h4.2.2.1 _ h4.2.2.2).1]
    · refine .inr ⟨s', ⟨by rw [← a1]; exact (fn (hFa.trans h1)).symm, a2.tr h2, h3, h4⟩, fun n => ?_⟩
      show g_X10_findMoved_56 (x + 106) (nI j) (l_X10_findMoved_56 (x + 106) (nI j) (g_X10_findMoved_112 (x + 106) (nI j)) n) (g_X10_findMoved_112 (x + 106) (nI j)) (nI a) s = _
      unfold g_X10_findMoved_56
      rw [if_neg z1, bnd_e, nI_1, h5]
      unfold g_X10_findMoved_126
      rw [nI_1]) (fun s hI => by
    obtain ⟨a1, a2, Rs, Gs⟩ := hI
    refine ⟨_, .inr ⟨s, by rw [← a1]; rfl, a2, Rs, rfl⟩, fun n => ?_⟩
    show g_X10_findMoved_56 (x + 106) (nI j) (l_X10_findMoved_56 (x + 106) (nI j) (g_X10_findMoved_112 (x + 106) (nI j)) n) (g_X10_findMoved_112 (x + 106) (nI j)) (nI 12) s = _
    unfold g_X10_findMoved_56
    rw [if_pos (show (12 : Int32) ≤ nI 12 by decide)]) (s0 := m) ⟨rfl, Fq.rf x m, R, G⟩
  have hr2 := hr FU (by unfold FU; omega)
  rcases hQ with ⟨v, s, h1, h2, h3, h4, h5⟩ | ⟨s, h1, h2, h3, h5⟩
  · exact .inl ⟨v, s, h1, h2, h3, h4, hr2.trans h5⟩
  · exact .inr ⟨s, h1, h2, h3, hr2.trans h5⟩
theorem r_findMoved (R : RS m (x + 106) i j T B d 0 (-1) 0) (G : FrL m (x + 106) (br0 T B d)) : (m.I 1174 (x + 106) 0 = 0 ∧ foA (foe T B d 0 (bt 255) (clL T d)) = false ∧ f_X10_findMoved (x + 106) (nI j) m = some (0, m)) ∨ (¬ m.I 1174 (x + 106) 0 = 0 ∧ foA (foe T B d 0 (bt 255) (clL T d)) = true ∧ ∃ s, Fq x m s ∧ s.K (x + 106) = 11 ∧ ((∃ v, mvR T B d = some v ∧ Mvd s (x + 106) v ∧ f_X10_findMoved (x + 106) (nI j) m = some (nI (st2 v.1 v.2.1), s)) ∨ (mvR T B d = none ∧ f_X10_findMoved (x + 106) (nI j) m = some (-1, s)))) := by
  have hB := R.2.2.2.2.1
  have hn := R.2.2.1.1
  have hfo := foA_bar (T := T) (B := B) (d := d) (w := 0) (H := bt 255) (L := clL T d) hB (clL_sw T d) hn
  have hL : (br0 T B d).length ≤ 1320 := barL_le hB
  by_cases z : (br0 T B d).length = 0
  · have h0 : m.I 1174 (x + 106) 0 = 0 := by rw [G.1, z]; rfl
    refine .inl ⟨h0, by rw [hfo, decide_eq_true (show (barL T B d 0 (bt 255) (clL T d)).length = 0 from z)]; rfl, ?_⟩
    unfold f_X10_findMoved g_X10_findMoved_0
    rw [chk_t R.1.1.1, if_pos h0]
  · have h0 : ¬ m.I 1174 (x + 106) 0 = 0 := by rw [G.1]; exact nI_ne0 (by omega) (by omega)
    refine .inr ⟨h0, by rw [hfo, decide_eq_false (show ¬ (barL T B d 0 (bt 255) (clL T d)).length = 0 from z)]; rfl, ?_⟩
    have pre : f_X10_findMoved (x + 106) (nI j) m = l_X10_findMoved_11 (x + 106) (nI j) (g_X10_findMoved_54 (x + 106) (nI j)) FU 0 m := by
      unfold f_X10_findMoved g_X10_findMoved_0
      rw [chk_t R.1.1.1, if_neg h0]
    rcases r_mv11 R G with ⟨v, s, h1, h2, h3, h4, h5⟩ | ⟨s, h1, h2, h3, h4, h5⟩
    · exact ⟨s, h2, h3.1.1.1, .inl ⟨v, by unfold mvR; rw [h1], h4, pre.trans (h5 _)⟩⟩
    · rw [h5] at pre
      rcases r_mv56 h3 h4 with ⟨v, s2, k1, k2, k3, k4, k5⟩ | ⟨s2, k1, k2, k3, k5⟩
      · exact ⟨s2, h2.tr k2, k3.1.1.1, .inl ⟨v, by unfold mvR; rw [h1]; exact k1, k4, pre.trans k5⟩⟩
      · exact ⟨s2, h2.tr k2, k3.1.1.1, .inr ⟨by unfold mvR; rw [h1]; exact k1, pre.trans k5⟩⟩
end RFM
def mvV (T : TW) (B : LW) (d : Nat) : Int32 := cond (foA (foe T B d 0 (bt 255) (clL T d))) (match mvR T B d with | some v => nI (st2 v.1 v.2.1) | none => -1) 0
theorem m_moved (x : Nat) (p q d : Int32) : Mq x (f_X9_moved x p q d) (f_X10_moved (x + 106) p q d) := by
  refine Mq_o p q d (-1) (fun T B e => mvV T B e) (fun m W D h ho => ⟨m, ?_, Fq.rf x m⟩) (fun m W D i j e h hi hj hk e1 e2 e3 => ?_) (fun m W D h ho => ⟨_, ?_, fq_code x m⟩) (fun m W D i j e h hi hj hk e1 e2 e3 => ?_)
  · unfold f_X9_moved g_X9_moved_0 g_X9_moved_30
    rw [chk_t h.kx, c_opened0 h ho, cal_s, if_pos rfl]
  · subst e1; subst e2; subst e3
    obtain ⟨m1, o1, f1, C1⟩ := c_opened1 h hi hj hk
    obtain ⟨m2, f2, C2, hc⟩ := c_findMoves C1
    refine ⟨m2, ?_, f1.tr f2⟩
    unfold f_X9_moved g_X9_moved_0 g_X9_moved_30
    rw [chk_t h.kx, o1, cal_s, if_neg ne10, chk_t C1.1.1.1, C1.1.pn]
    unfold mvV
    rcases hc with ⟨h1, h2, h3⟩ | ⟨h1, ⟨v, h2, h3, h4⟩ | ⟨h2, h3⟩⟩
    · rw [h2, cal_s, if_neg ne10, chk_t C2.1.1.1, C2.1.pn, h3, h1, cond_false]
    · rw [h3, cal_s, if_neg ne10, chk_t C2.1.1.1, C2.1.pn, h4.2.1, h1, cond_true, h2]
    · rw [h3, cal_s, if_pos rfl, h1, cond_true, h2]
  · unfold f_X10_moved g_X10_moved_0
    rw [chk_t h.M.1, bnd_e, r_bring0 h.code ho, cal_s, if_pos rfl]
  · subst e1; subst e2; subst e3
    obtain ⟨m2, o2, f2, R, G, g⟩ := r_bb h.code hi hj hk
    unfold f_X10_moved g_X10_moved_0
    rw [chk_t h.M.1, bnd_e, o2, cal_s, if_neg ne10, chk_t g.M.1]
    unfold mvV
    rcases r_findMoved R G with ⟨h1, h2, h3⟩ | ⟨h1, h2, s, fs, _, ⟨v, h3, h4, h5⟩ | ⟨h3, h4⟩⟩
    · exact ⟨m2, by rw [h3, cal_s, h2, cond_false], (fq_code x m).tr f2⟩
    · exact ⟨s, by rw [h5, cal_s, h2, cond_true, h3], (fq_code x m).tr (f2.tr fs)⟩
    · exact ⟨s, by rw [h4, cal_s, h2, cond_true, h3], (fq_code x m).tr (f2.tr fs)⟩
def mtW (v : Nat × Nat × (Nat → Nat)) (k : Int32) : Int32 := if k = 0 then nI (v.2.2 0) else if v.1 = v.2.1 then -1 else nI (v.2.2 1)
def mtV (T : TW) (B : LW) (d : Nat) (k : Int32) : Int32 := cond (foA (foe T B d 0 (bt 255) (clL T d)) && inR k 0 1) (match mvR T B d with | some v => mtW v k | none => -1) (-1)
theorem k01 (k : Int32) : (k < 0 ∧ inR k 0 1 = false) ∨ (1 < k ∧ ¬ k < 0 ∧ inR k 0 1 = false) ∨ (k = 0 ∧ inR k 0 1 = true) ∨ (k = 1 ∧ inR k 0 1 = true) := by
  by_cases h1 : k < 0
  · exact .inl ⟨h1, by unfold inR; rw [decide_eq_true h1]; rfl⟩
  · by_cases h2 : (1 : Int32) < k
    · exact .inr (.inl ⟨h2, h1, by unfold inR; rw [decide_eq_true h2]; simp⟩)
    · have hr : inR k 0 1 = true := by unfold inR; rw [decide_eq_false h1, decide_eq_false h2]; rfl
      have t0 : (0 : Int32).toInt = 0 := rfl
      have t1 : (1 : Int32).toInt = 1 := rfl
      rw [i_lt, t0] at h1
      rw [i_lt, t1] at h2
      have : k.toInt = 0 ∨ k.toInt = 1 := by omega
      rcases this with e | e
      · exact .inr (.inr (.inl ⟨i_eq.mpr (by rw [e, t0]), hr⟩))
      · exact .inr (.inr (.inr ⟨i_eq.mpr (by rw [e, t1]), hr⟩))
theorem m_movedTo (x : Nat) (p q d k : Int32) : Mq x (f_X9_movedTo x p q d k) (f_X10_movedTo (x + 106) p q d k) := by
  refine Mq_o p q d (-1) (fun T B e => mtV T B e k) (fun m W D h ho => ⟨m, ?_, Fq.rf x m⟩) (fun m W D i j e h hi hj hk e1 e2 e3 => ?_) (fun m W D h ho => ⟨_, ?_, fq_code x m⟩) (fun m W D i j e h hi hj hk e1 e2 e3 => ?_)
  · unfold f_X9_movedTo g_X9_movedTo_0
    rw [chk_t h.kx, c_opened0 h ho, cal_s, if_pos rfl]
  · subst e1; subst e2; subst e3
    obtain ⟨m1, o1, f1, C1⟩ := c_opened1 h hi hj hk
    obtain ⟨m2, f2, C2, hc⟩ := c_findMoves C1
    refine ⟨m2, ?_, f1.tr f2⟩
    unfold f_X9_movedTo g_X9_movedTo_0 g_X9_movedTo_42
    rw [chk_t h.kx, o1, cal_s, if_neg ne10, chk_t C1.1.1.1, C1.1.pn]
    unfold mtV
    rcases hc with ⟨h1, h2, h3⟩ | ⟨h1, ⟨v, h2, h3, h4⟩ | ⟨h2, h3⟩⟩
    · rw [h2, cal_s, if_neg ne10, chk_t C2.1.1.1, C2.1.pn, h3, h1, Bool.false_and, cond_false, j_bitCount, cal_s, show bcv 0 = 0 from by decide]
      by_cases z : k < 0
      · rw [if_pos z]
      · rw [if_neg z, if_neg z]
    · obtain ⟨g1, g2, g3, g4, g5, g6⟩ := h4
      obtain ⟨e1, e2, e3⟩ := st2_e v.1 g4 v.2.1 g5
      rw [h3, cal_s, if_neg ne10, chk_t C2.1.1.1, C2.1.pn, g2, h1, Bool.true_and, h2, j_bitCount, cal_s, bc_n e2]
      show _ = some (cond (inR k 0 1) (mtW v k) (-1), m2)
      rcases k01 k with ⟨z1, z2⟩ | ⟨z1, z2, z3⟩ | ⟨z1, z2⟩ | ⟨z1, z2⟩
      · rw [if_pos z1, z2, cond_false]
      · have hno : ¬ k < nI (onN (st2 v.1 v.2.1)) := by
          have : onN (st2 v.1 v.2.1) ≤ 2 := by rw [e3]; split <;> omega
          intro z
          have t1 : (1 : Int32).toInt = 1 := rfl
          rw [i_lt, nI_toInt (by omega)] at z
          rw [i_lt, t1] at z1
          omega
        rw [if_neg z2, if_neg hno, z3, cond_false]
      · subst z1
        have hlt : (0 : Int32) < nI (onN (st2 v.1 v.2.1)) := by rw [e3]; split <;> decide
        have hon : 0 < onN (st2 v.1 v.2.1) := by rw [e3]; split <;> omega
        obtain ⟨b1, b2⟩ := g3 0 hon
        rw [if_neg (by decide), if_pos hlt, chk_t C2.1.1.1, C2.1.pn, show f_X3_pointOf (x + 99) 0 m2 = _ from c_pointOf C2.1 (e := 0) (by omega) b2 b1, cal_s, z2, cond_true]
        unfold mtW
        rw [if_pos rfl]
      · subst z1
        rw [if_neg (by decide), z2, cond_true]
        unfold mtW
        rw [if_neg ne10]
        by_cases y : v.1 = v.2.1
        · rw [if_pos y] at e3
          rw [e3, if_neg (by decide), if_pos y]
        · rw [if_neg y] at e3
          obtain ⟨b1, b2⟩ := g3 1 (by omega)
          rw [e3, if_pos (by decide), chk_t C2.1.1.1, C2.1.pn, show f_X3_pointOf (x + 99) 1 m2 = _ from c_pointOf C2.1 (e := 1) (by omega) b2 b1, cal_s, if_neg y]
    · rw [h3, cal_s, if_pos rfl, h1, Bool.true_and, h2]
      cases inR k 0 1 <;> rfl
  · unfold f_X10_movedTo g_X10_movedTo_0
    rw [chk_t h.M.1, bnd_e, r_in, cal_s, chk_t h.code.M.1, r_bring0 h.code ho, cal_s, if_pos rfl, ite_self]
  · subst e1; subst e2; subst e3
    obtain ⟨m2, o2, f2, R, G, g⟩ := r_bb h.code hi hj hk
    unfold f_X10_movedTo g_X10_movedTo_0
    rw [chk_t h.M.1, bnd_e, r_in, cal_s, chk_t h.code.M.1, o2, cal_s, if_neg ne10, chk_t g.M.1]
    unfold mtV
    cases hir : inR k 0 1 with
    | false => exact ⟨_, by rw [bI_f, if_pos rfl, Bool.and_false, cond_false], fq_code x m⟩
    | true =>
      rw [if_neg (show ¬ bI true = 0 by decide), Bool.and_true]
      rcases r_findMoved R G with ⟨h1, h2, h3⟩ | ⟨h1, h2, s, fs, ks, ⟨v, h3, h4, h5⟩ | ⟨h3, h4⟩⟩
      · exact ⟨m2, by rw [if_pos h1, h2, cond_false], (fq_code x m).tr f2⟩
      · obtain ⟨q1, q2, q3, q4⟩ := h4
        obtain ⟨e1, e2, e3⟩ := st2_e v.1 q3 v.2.1 q4
        refine ⟨s, ?_, (fq_code x m).tr (f2.tr fs)⟩
        rw [if_neg h1, h5, cal_s, if_neg (nI_ne_m1 (show st2 v.1 v.2.1 < 2 ^ 31 by omega)), h2, cond_true, h3]
        show _ = some (mtW v k, s)
        unfold mtW
        by_cases z : k = 0
        · rw [if_pos z, if_pos z, chk_t ks, q1]
        · rw [if_neg z, if_neg z, chk_t ks]
          rcases q2 with ⟨y1, y2⟩ | ⟨y1, y2, y3⟩
          · rw [if_pos y2, if_pos y1]
          · rw [y2, if_neg (nI_ne_m1 (by omega)), if_neg (by omega), y3]
      · refine ⟨s, ?_, (fq_code x m).tr (f2.tr fs)⟩
        rw [if_neg h1, h4, cal_s, if_pos rfl, h2, cond_true, h3]
