/-! the class's search for those that move -/
def MVg (m m' : MM) (x : Nat) (T : TW) (v : Nat × Nat × (Nat → Nat)) : Prop := Pn x m m' ∧ m'.I 404 (x + 99) 0 = nI (st2 v.1 v.2.1) ∧ Gsd m' x (onN (st2 v.1 v.2.1)) (mkk T v.1 v.2.1) (mff T v.1 v.2.1) v.2.2 ∧ v.1 < 12 ∧ v.2.1 < 12 ∧ (v.1 = v.2.1 ∨ v.1 < v.2.1)
section MV2
variable {m : MM} {x t l d a N : Nat} {T : TW} {B : LW}
theorem c_mv34 (C : CS m x t l T B d 0 255 (-1)) (F : FoR m x (foe T B d 0 (bt 255) (clL T d)) (fun _ _ => True)) (hN : N = 1 ∨ N = 2) (ha : a < 12) : (∃ v m', fo (mvI T B d N a) (12 - a) a = some v ∧ MVg m m' x T v ∧ ∀ K, l_X3_findMoves_34 (x + 99) K FU (nI N) (nI a) (nI a) m = some (1, m')) ∨ (∃ m', fo (mvI T B d N a) (12 - a) a = none ∧ Pn x m m' ∧ ∀ K, l_X3_findMoves_34 (x + 99) K FU (nI N) (nI a) (nI a) m = K (nI N) (nI a) m') := by
  obtain ⟨r, hQ, hr⟩ := lp_ex (fun n b (s : MM) => fun (K : Int32 → Int32 → MM → Option (Int32 × MM)) => l_X3_findMoves_34 (x + 99) K n (nI N) (nI a) b s) (fun b s => fo (mvI T B d N a) (12 - b) b = fo (mvI T B d N a) (12 - a) a ∧ Pn x m s) (fun r => (∃ v m', fo (mvI T B d N a) (12 - a) a = some v ∧ MVg m m' x T v ∧ r = fun _ => some (1, m')) ∨ (∃ m', fo (mvI T B d N a) (12 - a) a = none ∧ Pn x m m' ∧ r = fun K => K (nI N) (nI a) m')) 12 a (by omega) (fun b hab hb s hI => by
    obtain ⟨a1, a2⟩ := hI
    have Cs := C.pn a2
    have Fs := F.pn a2
    have gs := Cs.1.2.2.2.2
    obtain ⟨e1, e2, e3⟩ := st2_e a ha b hb
    have z1 : ¬ (12 : Int32) ≤ nI b := nI_ge (b := 12) hb (by decide)
    obtain ⟨fs, fn⟩ := fo_st (f := mvI T B d N a) hb
    have hon : (nI (onN (st2 a b)) = nI N) ↔ onN (st2 a b) = N := ⟨nI_inj (by have := onN_le (st2 a b); omega) (by omega), fun q => by rw [q]⟩
    have pre : ∀ n (K : Int32 → Int32 → MM → Option (Int32 × MM)), l_X3_findMoves_34 (x + 99) K (n + 1) (nI N) (nI a) (nI b) s = if onN (st2 a b) = N ∧ subB T d (st2 a b) = true then g_X3_findMoves_78 (x + 99) (l_X3_findMoves_34 (x + 99) K n) K (nI N) (nI a) (nI b) (nI (st2 a b)) 1 s else l_X3_findMoves_34 (x + 99) K n (nI N) (nI a) (nI (b + 1)) s := by
      intro n K
      show g_X3_findMoves_34 (x + 99) (l_X3_findMoves_34 (x + 99) K n) K (nI N) (nI a) (nI b) s = _
      have f77 : g_X3_findMoves_77 (x + 99) (l_X3_findMoves_34 (x + 99) K n) K (nI N) (nI a) (nI b) (nI (st2 a b)) s = l_X3_findMoves_34 (x + 99) K n (nI N) (nI a) (nI (b + 1)) s := by
        unfold g_X3_findMoves_77 g_X3_findMoves_78 g_X3_findMoves_186
        rw [if_pos rfl, nI_1]
      unfold g_X3_findMoves_34
      rw [if_neg z1, bnd_e, e1, j_bitCount, cal_s, bc_n e2]
      by_cases y1 : onN (st2 a b) = N
      · rw [if_pos (hon.mpr y1), chk_t gs.1, show s.R 400 (x + 99) 0 = some (x + 81) from gs.2.1, ck_s Cs.1.th, Cs.2.2.2.2.2.1]
        by_cases y2 : subB T d (st2 a b) = true
        · rw [if_pos ((sub_iff e2).mpr y2), if_pos ⟨y1, y2⟩]
        · rw [if_neg (fun z => y2 ((sub_iff e2).mp z)), if_neg (fun z => y2 z.2), f77]
      · rw [if_neg (fun z => y1 (hon.mp z)), if_neg (fun z => y1 z.1), f77]
    by_cases hcc : onN (st2 a b) = N ∧ cnd T B d a b = true
    · have hsub : subB T d (st2 a b) = true := by
        rw [st2_sub ha hb]
        have := hcc.2
        unfold cnd at this
        rw [Bool.and_eq_true] at this
        exact this.1
      obtain ⟨m', y1, y2, y3⟩ := c_try Cs hN ha hb hcc.1 hcc.2 Fs
      cases hms : mvS T B d a b N with
      | none =>
        have hin : mvI T B d N a b = none := by unfold mvI; rw [if_pos hcc, hms]; rfl
        refine .inr ⟨m', ⟨by rw [← a1, fn hin], a2.tr y1⟩, fun n => ?_⟩
        funext K
        show l_X3_findMoves_34 (x + 99) K (n + 1) (nI N) (nI a) (nI b) s = _
        rw [pre n K, if_pos ⟨hcc.1, hsub⟩, y3, hms, if_pos (show (none : Option (Nat → Nat)).isSome = false from rfl)]
      | some ps =>
        have hin : mvI T B d N a b = some (a, b, ps) := by unfold mvI; rw [if_pos hcc, hms]; rfl
        refine .inl ⟨fun _ => some (1, m'.sI 404 (x + 99) 0 (nI (st2 a b))), .inl ⟨(a, b, ps), m'.sI 404 (x + 99) 0 (nI (st2 a b)), by rw [← a1, fs _ hin], ⟨(a2.tr y1).sI _ _ _ _ (.inl rfl), by rw [I_sI, if_pos ⟨rfl, rfl, rfl⟩], ?_, ha, hb, by show a = b ∨ a < b; omega⟩, rfl⟩, fun n => ?_⟩
        · intro e he
          have he : e < onN (st2 a b) := he
          obtain ⟨g1, g2⟩ := y2 ps hms e (by omega)
          exact ⟨g1, g2.kept rfl (fun z => by rw [I_sI, if_neg (by omega)])⟩
        · funext K
          show l_X3_findMoves_34 (x + 99) K (n + 1) (nI N) (nI a) (nI b) s = _
          rw [pre n K, if_pos ⟨hcc.1, hsub⟩, y3, hms, if_neg (show ¬ (some ps).isSome = false from (by decide : ¬ true = false))]
    · have hin : mvI T B d N a b = none := by unfold mvI; rw [if_neg hcc]
      refine .inr ⟨s, ⟨by rw [← a1, fn hin], a2⟩, fun n => ?_⟩
      funext K
      show l_X3_findMoves_34 (x + 99) K (n + 1) (nI N) (nI a) (nI b) s = _
      rw [pre n K]
      by_cases y : onN (st2 a b) = N ∧ subB T d (st2 a b) = true
      · rw [if_pos y]
        have hrid : ridB (foe T B d 0 (bt 255) (clL T d)) (st2 a b) = false := by
          cases q : ridB (foe T B d 0 (bt 255) (clL T d)) (st2 a b) with
          | false => rfl
          | true =>
            refine absurd ⟨y.1, ?_⟩ hcc
            unfold cnd
            rw [← st2_sub ha hb, y.2, q]
            rfl
        have rd := c_rids Cs.1 Fs e2
        rw [hrid] at rd
        unfold g_X3_findMoves_78 g_X3_findMoves_186
        rw [if_neg ne10, chk_t gs.1, show s.R 400 (x + 99) 0 = some (x + 81) from gs.2.1, ck_s Cs.1.th, rd, cal_s, bI_f, if_pos rfl, nI_1]
      · rw [if_neg y]) (fun s hI => by
    obtain ⟨a1, a2⟩ := hI
    refine ⟨fun K => K (nI N) (nI a) s, .inr ⟨s, by rw [← a1, Nat.sub_self]; rfl, a2, rfl⟩, fun n => ?_⟩
    funext K
    show g_X3_findMoves_34 (x + 99) (l_X3_findMoves_34 (x + 99) K n) K (nI N) (nI a) (nI 12) s = _
    unfold g_X3_findMoves_34
    rw [if_pos (show (12 : Int32) ≤ nI 12 by decide)]) (s0 := m) ⟨rfl, Pn.rf x m⟩
  have hr2 := hr FU (by unfold FU; omega)
  rcases hQ with ⟨v, m', h1, h2, h3⟩ | ⟨m', h1, h2, h3⟩
  · exact .inl ⟨v, m', h1, h2, fun K => by have := congrFun hr2 K; rw [h3] at this; exact this⟩
  · exact .inr ⟨m', h1, h2, fun K => by have := congrFun hr2 K; rw [h3] at this; exact this⟩
theorem MVg.tr {m n m' : MM} {x : Nat} {T : TW} {v : Nat × Nat × (Nat → Nat)} (h : MVg n m' x T v) (o : Pn x m n) : MVg m m' x T v := ⟨o.tr h.1, h.2⟩
theorem c_mv26 (C : CS m x t l T B d 0 255 (-1)) (F : FoR m x (foe T B d 0 (bt 255) (clL T d)) (fun _ _ => True)) (hN : N = 1 ∨ N = 2) : (∃ v m', mvF T B d N = some v ∧ MVg m m' x T v ∧ ∀ K, l_X3_findMoves_26 (x + 99) K FU (nI N) 0 m = some (1, m')) ∨ (∃ m', mvF T B d N = none ∧ Pn x m m' ∧ ∀ K, l_X3_findMoves_26 (x + 99) K FU (nI N) 0 m = K (nI N) m') := by
  obtain ⟨r, hQ, hr⟩ := lp_ex (fun n a (s : MM) => fun (K : Int32 → MM → Option (Int32 × MM)) => l_X3_findMoves_26 (x + 99) K n (nI N) a s) (fun a s => fo (fun a => fo (mvI T B d N a) (12 - a) a) (12 - a) a = mvF T B d N ∧ Pn x m s) (fun r => (∃ v m', mvF T B d N = some v ∧ MVg m m' x T v ∧ r = fun _ => some (1, m')) ∨ (∃ m', mvF T B d N = none ∧ Pn x m m' ∧ r = fun K => K (nI N) m')) 12 0 (by omega) (fun a _ ha s hI => by
    obtain ⟨a1, a2⟩ := hI
    have Cs := C.pn a2
    have Fs := F.pn a2
    have z1 : ¬ (12 : Int32) ≤ nI a := nI_ge (b := 12) ha (by decide)
    obtain ⟨fs, fn⟩ := fo_st (f := fun a => fo (mvI T B d N a) (12 - a) a) ha
    rcases c_mv34 Cs Fs hN ha with ⟨v, m', h1, h2, h3⟩ | ⟨m', h1, h2, h3⟩
    · refine .inl ⟨fun _ => some (1, m'), .inl ⟨v, m', by rw [← a1]; exact fs _ h1, h2.tr a2, rfl⟩, fun n => ?_⟩
      funext K
      show g_X3_findMoves_26 (x + 99) (l_X3_findMoves_26 (x + 99) K n) K (nI N) (nI a) s = _
      unfold g_X3_findMoves_26
      rw [if_neg z1, h3]
    · refine .inr ⟨m', ⟨by rw [← a1]; exact (fn h1).symm, a2.tr h2⟩, fun n => ?_⟩
      funext K
      show g_X3_findMoves_26 (x + 99) (l_X3_findMoves_26 (x + 99) K n) K (nI N) (nI a) s = _
      unfold g_X3_findMoves_26
      rw [if_neg z1, h3]
      unfold g_X3_findMoves_192
      rw [nI_1]) (fun s hI => by
    obtain ⟨a1, a2⟩ := hI
    refine ⟨fun K => K (nI N) s, .inr ⟨s, by rw [← a1]; rfl, a2, rfl⟩, fun n => ?_⟩
    funext K
    show g_X3_findMoves_26 (x + 99) (l_X3_findMoves_26 (x + 99) K n) K (nI N) (nI 12) s = _
    unfold g_X3_findMoves_26
    rw [if_pos (show (12 : Int32) ≤ nI 12 by decide)]) (s0 := m) ⟨rfl, Pn.rf x m⟩
  have hr2 := hr FU (by unfold FU; omega)
  rcases hQ with ⟨v, m', h1, h2, h3⟩ | ⟨m', h1, h2, h3⟩
  · exact .inl ⟨v, m', h1, h2, fun K => by have := congrFun hr2 K; rw [h3] at this; exact this⟩
  · exact .inr ⟨m', h1, h2, fun K => by have := congrFun hr2 K; rw [h3] at this; exact this⟩
theorem FU3 : ∃ k, FU = k + 1 + 1 + 1 := ⟨FU - 3, by unfold FU; omega⟩
theorem mv19 {N : Nat} (hN : N = 1 ∨ N = 2) (n : Nat) (s : MM) : l_X3_findMoves_19 (x + 99) (n + 1) (nI N) s = l_X3_findMoves_26 (x + 99) (g_X3_findMoves_198 (x + 99) (l_X3_findMoves_19 (x + 99) n)) FU (nI N) 0 s := by
  show g_X3_findMoves_19 (x + 99) (l_X3_findMoves_19 (x + 99) n) (nI N) s = _
  have h : ¬ (2 : Int32) < nI N := by rcases hN with rfl | rfl <;> decide
  unfold g_X3_findMoves_19
  rw [if_neg h]
theorem mv19z (n : Nat) (s : MM) : l_X3_findMoves_19 (x + 99) (n + 1) (nI 3) s = some (0, s) := by
  show g_X3_findMoves_19 (x + 99) (l_X3_findMoves_19 (x + 99) n) (nI 3) s = _
  unfold g_X3_findMoves_19
  rw [if_pos (show (2 : Int32) < nI 3 by decide)]
theorem c_findMoves (C : CS m x t l T B d 0 255 (-1)) : ∃ m', Fq x m m' ∧ CS m' x t l T B d 0 255 (-1) ∧ ((foA (foe T B d 0 (bt 255) (clL T d)) = false ∧ f_X3_findMoves (x + 99) m = some (1, m') ∧ m'.I 404 (x + 99) 0 = 0) ∨ (foA (foe T B d 0 (bt 255) (clL T d)) = true ∧ ((∃ v, mvR T B d = some v ∧ f_X3_findMoves (x + 99) m = some (1, m') ∧ MVg m' m' x T v) ∨ (mvR T B d = none ∧ f_X3_findMoves (x + 99) m = some (0, m'))))) := by
  obtain ⟨m0, hm0⟩ : ∃ q, q = m.sI 404 (x + 99) 0 0 := ⟨_, rfl⟩
  have P0 : Pn x m m0 := by rw [hm0]; exact (Pn.rf x m).sI _ _ _ _ (.inl rfl)
  have C0 := C.pn P0
  have g := C.1.2.2.2.2
  obtain ⟨m1, e1, o1, F1⟩ := c_findFoes C0
  have C1 := C0.on o1 (by omega)
  have f1 : Fq x m m1 := P0.f.tr (o1.f (by omega) (by omega))
  have pre : f_X3_findMoves (x + 99) m = if foA (foe T B d 0 (bt 255) (clL T d)) = false then some (1, m1) else l_X3_findMoves_19 (x + 99) FU 1 m1 := by
    unfold f_X3_findMoves g_X3_findMoves_0
    rw [chk_t g.1, bnd_e, ← hm0, show m0.R 400 (x + 99) 0 = some (x + 81) from C0.1.2.2.2.2.2.1, ck_s C0.1.th, e1, cal_s]
    cases foA (foe T B d 0 (bt 255) (clL T d)) with
    | false => rw [bI_f, if_pos rfl, if_pos rfl]
    | true => rw [if_neg (show ¬ bI true = 0 by decide), if_neg (show ¬ true = false by decide)]
  cases hfo : foA (foe T B d 0 (bt 255) (clL T d)) with
  | false =>
    rw [hfo, if_pos rfl] at pre
    refine ⟨m1, f1, C1, .inl ⟨rfl, pre, ?_⟩⟩
    rw [o1.2.2.2.2.2 _ _ _ (by omega), hm0, I_sI, if_pos ⟨rfl, rfl, rfl⟩]
  | true =>
    rw [hfo, if_neg (by decide)] at pre
    obtain ⟨k, hk⟩ := FU3
    have pre2 : f_X3_findMoves (x + 99) m = l_X3_findMoves_19 (x + 99) (k + 1 + 1 + 1) (nI 1) m1 := by rw [← hk]; exact pre
    rw [mv19 (.inl rfl)] at pre2
    clear pre
    have pre := pre2
    clear pre2
    rcases c_mv26 C1 F1 (.inl rfl) with ⟨v, m', h1, h2, h3⟩ | ⟨m', h1, h2, h3⟩
    · rw [h3] at pre
      refine ⟨m', f1.tr h2.1.f, C1.pn h2.1, .inr ⟨rfl, .inl ⟨v, by unfold mvR; rw [h1], pre, ⟨Pn.rf x m', h2.2⟩⟩⟩⟩
    · rw [h3] at pre
      unfold g_X3_findMoves_198 at pre
      rw [nI_1, mv19 (.inr rfl)] at pre
      have C2 := C1.pn h2
      rcases c_mv26 C2 (F1.pn h2) (.inr rfl) with ⟨v, m2, k1, k2, k3⟩ | ⟨m2, k1, k2, k3⟩
      · rw [k3] at pre
        refine ⟨m2, f1.tr (h2.f.tr k2.1.f), C2.pn k2.1, .inr ⟨rfl, .inl ⟨v, by unfold mvR; rw [h1]; exact k1, pre, ⟨Pn.rf x m2, k2.2⟩⟩⟩⟩
      · rw [k3] at pre
        unfold g_X3_findMoves_198 at pre
        rw [nI_1, mv19z] at pre
        exact ⟨m2, f1.tr (h2.f.tr k2.f), C2.pn k2, .inr ⟨rfl, .inr ⟨by unfold mvR; rw [h1]; exact k1, pre⟩⟩⟩
end MV2
