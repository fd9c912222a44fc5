/-! all guests are seated -/
def SF (m : MM) (x N : Nat) (kk : Nat → Nat) (ff : Nat → Int32) (A : Nat → Nat → Bool) : Prop := ∀ c, c < N → Wl m x c (kk c) (ff c) ∧ m.J 23 (x + 104) c = mkL (A c) 64
theorem SF.gi {m n : MM} {x N i : Nat} {kk : Nat → Nat} {ff : Nat → Int32} {A : Nat → Nat → Bool} (h : SF m x N kk ff A) (o : Gi x i m n) : SF n x N kk ff A := fun c hc => ⟨(h c hc).1.gi o, by rw [o.2.2.2.2.1]; exact (h c hc).2⟩
theorem SF.rw {m : MM} {x N q : Nat} {kk : Nat → Nat} {ff : Nat → Int32} {A : Nat → Nat → Bool} (h : SF m x N kk ff A) (v : Int64) : SF (m.sJ 23 (x + 105) q v) x N kk ff A := fun c hc => ⟨(h c hc).1, by rw [J_sJ, if_neg (by omega)]; exact (h c hc).2⟩
section FTS
variable {A : Nat → Nat → Bool} {cl : Nat → Nat → Nat → Nat → Bool} {ps : Nat → Nat} {p q r : Nat}
theorem ft0 : ftB A cl 0 (upN ps 0 p) = A 0 p := by
  show (A 0 p && !(List.range 0).any _) = A 0 p
  simp
theorem ft1 : ftB A cl 1 (upN (upN ps 0 p) 1 q) = pwB A cl 0 1 p q := by
  show (A 1 q && !(List.range 1).any (fun i => decide (upN (upN ps 0 p) 1 q i = q) || cl i (upN (upN ps 0 p) 1 q i) 1 q)) = _
  rw [any_s]
  show (A 1 q && !((List.range 0).any _ || (decide (p = q) || cl 0 p 1 q))) = (A 1 q && (!decide (p = q) && !cl 0 p 1 q))
  simp
theorem ft2 : ftB A cl 2 (upN (upN (upN ps 0 p) 1 q) 2 r) = (pwB A cl 0 2 p r && pwB A cl 1 2 q r) := by
  show (A 2 r && !(List.range 2).any (fun i => decide (upN (upN (upN ps 0 p) 1 q) 2 r i = r) || cl i (upN (upN (upN ps 0 p) 1 q) 2 r i) 2 r)) = _
  rw [any_s, any_s]
  show (A 2 r && !((List.range 0).any _ || (decide (p = r) || cl 0 p 2 r) || (decide (q = r) || cl 1 q 2 r))) = ((A 2 r && (!decide (p = r) && !cl 0 p 2 r)) && (A 2 r && (!decide (q = r) && !cl 1 q 2 r)))
  simp only [List.range_zero, List.any_nil, Bool.false_or]
  cases A 2 r <;> cases decide (p = r) <;> cases cl 0 p 2 r <;> cases decide (q = r) <;> cases cl 1 q 2 r <;> rfl
/-- what is found behind the first one -/
def rs2 (A : Nat → Nat → Bool) (cl : Nat → Nat → Nat → Nat → Bool) (N : Nat) (ps : Nat → Nat) (p q : Nat) : Option (Nat → Nat) := if pwB A cl 0 1 p q then (if N = 2 then some (upN (upN ps 0 p) 1 q) else fo (fun r => if pwB A cl 0 2 p r && pwB A cl 1 2 q r then some (upN (upN (upN ps 0 p) 1 q) 2 r) else none) 64 0) else none
def rs1 (A : Nat → Nat → Bool) (cl : Nat → Nat → Nat → Nat → Bool) (N : Nat) (ps : Nat → Nat) (p : Nat) : Option (Nat → Nat) := if A 0 p then (if N = 1 then some (upN ps 0 p) else fo (rs2 A cl N ps p) 64 0) else none
theorem se_1 : se A cl 1 0 ps = fo (rs1 A cl 1 ps) 64 0 := by
  rw [se_s]
  congr 1
  funext p
  rw [ft0]
  rfl
theorem se_2 : se A cl 2 0 ps = fo (rs1 A cl 2 ps) 64 0 := by
  rw [se_s]
  congr 1
  funext p
  rw [ft0, se_s]
  unfold rs1
  rw [if_neg (show ¬ 2 = 1 by decide)]
  congr 2
  funext q
  rw [show (0 + 1 : Nat) = 1 from rfl, ft1]
  unfold rs2
  rw [if_pos rfl]
  rfl
theorem se_3 : se A cl 3 0 ps = fo (rs1 A cl 3 ps) 64 0 := by
  rw [se_s]
  congr 1
  funext p
  rw [ft0, se_s]
  unfold rs1
  rw [if_neg (show ¬ 3 = 1 by decide)]
  congr 2
  funext q
  rw [show (0 + 1 : Nat) = 1 from rfl, ft1, se_s]
  unfold rs2
  rw [if_neg (show ¬ 3 = 2 by decide)]
  congr 2
  funext r
  rw [show (1 + 1 : Nat) = 2 from rfl, ft2]
  rfl
end FTS
/-- what was reckoned before is kept -/
def CI (m : MM) (x : Nat) (A : Nat → Nat → Bool) (cl : Nat → Nat → Nat → Nat → Bool) (known : Int64) : Prop := ∀ q, q < 64 → btL known q = true → m.J 23 (x + 105) q = mkL (pwB A cl 1 2 q) 64
def Gsd (m : MM) (x N : Nat) (kk : Nat → Nat) (ff : Nat → Int32) (ps : Nat → Nat) : Prop := ∀ e, e < N → ps e < 64 ∧ Bo m (x + 101 + e) (gst (kk e) (ff e) (ps e))
theorem fo_64 {α : Type} {f : Nat → Option α} {q : Nat} (hq : q < 64) : (∀ v, f q = some v → fo f (64 - q) q = some v) ∧ (f q = none → fo f (64 - q) q = fo f (64 - (q + 1)) (q + 1)) := by
  obtain ⟨k, hk⟩ : ∃ k, 64 - q = k + 1 := ⟨64 - q - 1, by omega⟩
  rw [hk, show 64 - (q + 1) = k by omega]
  exact ⟨fun v h => fo_t h, fun h => fo_f h⟩
section SAL
variable {m : MM} {x t l d p N : Nat} {T : TW} {B : LW} {wo : Int32} {A : Nat → Nat → Bool} {kk : Nat → Nat} {ff : Nat → Int32} {ps : Nat → Nat}
theorem c_187 (C : CS m x t l T B d 0 255 wo) (hW : Wl m x 2 (kk 2) (ff 2)) {P : Nat → Bool} {M : Int64} (hM : ∀ r, r < 64 → btL M r = P r) (h0 : M ≠ 0) (p1 : Int32) : ∃ r n, r < 64 ∧ P r = true ∧ (∀ j, j < r → P j = false) ∧ g_X3_seatAll_187 (x + 99) p1 M m = some (1, n) ∧ Gi x 2 m n ∧ Bo n (x + 101 + 2) (gst (kk 2) (ff 2) r) := by
  obtain ⟨r, hr, h1, h2⟩ := low_ex M h0
  obtain ⟨n, u1, u2, u3⟩ := c_seatAt C.1 (i := 2) (by omega) hW hr
  refine ⟨r, n, hr, by rw [← hM r hr]; exact h1, fun j hj => by rw [← hM j (by omega)]; exact h2 j hj, ?_, u2, u3⟩
  unfold g_X3_seatAll_187
  rw [j_bitCountL, cal_s, lowL M hr h1 h2, chk_t C.1.2.2.2.2.1, show f_X3_seatAt (x + 99) 2 (nI r) m = _ from u1, cal_s]
/-- the second loop -/
theorem c_inner (C : CS m x t l T B d 0 255 wo) (hN : N = 2 ∨ N = 3) (hkk : ∀ e, e < N → kk e < 6) (hff : ∀ e, e < N → ff e = -1 ∨ nB (ff e) 4) (F : SF m x N kk ff A) (hp : p < 64) (hS : Bo m (x + 101 + 0) (gst (kk 0) (ff 0) p)) {known : Int64} (hC : CI m x A (gsC T B d wo kk ff) known) (x7 : Int64) (h7 : N = 3 → x7 = mkL (pwB A (gsC T B d wo kk ff) 0 2 p) 64) : (∃ ps' m', fo (rs2 A (gsC T B d wo kk ff) N ps p) 64 0 = some ps' ∧ Pn x m m' ∧ Gsd m' x N kk ff ps' ∧ ∀ K, l_X3_seatAll_101 (x + 99) (nI N) (g_X3_seatAll_187 (x + 99) (nI N)) K FU known (nI p) (mkL (pwB A (gsC T B d wo kk ff) 0 1 p) 64) x7 0 m = some (1, m')) ∨ (∃ known' m', fo (rs2 A (gsC T B d wo kk ff) N ps p) 64 0 = none ∧ Pn x m m' ∧ SF m' x N kk ff A ∧ CI m' x A (gsC T B d wo kk ff) known' ∧ ∀ K, l_X3_seatAll_101 (x + 99) (nI N) (g_X3_seatAll_187 (x + 99) (nI N)) K FU known (nI p) (mkL (pwB A (gsC T B d wo kk ff) 0 1 p) 64) x7 0 m = K known' (nI p) m') := by
  obtain ⟨M1, hM1⟩ : ∃ M1, M1 = mkL (pwB A (gsC T B d wo kk ff) 0 1 p) 64 := ⟨_, rfl⟩
  have bM1 : ∀ q, q < 64 → btL M1 q = pwB A (gsC T B d wo kk ff) 0 1 p q := fun q hq => by rw [hM1, btL_mk (by omega) q hq, decide_eq_true hq, Bool.true_and]
  rw [← hM1]
  obtain ⟨r, hQ, hr⟩ := lp_ex (fun n q (s : Int64 × MM) => fun (K : Int64 → Int32 → MM → Option (Int32 × MM)) => l_X3_seatAll_101 (x + 99) (nI N) (g_X3_seatAll_187 (x + 99) (nI N)) K n s.1 (nI p) M1 x7 q s.2) (fun q s => fo (rs2 A (gsC T B d wo kk ff) N ps p) (64 - q) q = fo (rs2 A (gsC T B d wo kk ff) N ps p) 64 0 ∧ Pn x m s.2 ∧ SF s.2 x N kk ff A ∧ Bo s.2 (x + 101 + 0) (gst (kk 0) (ff 0) p) ∧ CI s.2 x A (gsC T B d wo kk ff) s.1) (fun r => (∃ ps' m', fo (rs2 A (gsC T B d wo kk ff) N ps p) 64 0 = some ps' ∧ Pn x m m' ∧ Gsd m' x N kk ff ps' ∧ r = fun _ => some (1, m')) ∨ (∃ known' m', fo (rs2 A (gsC T B d wo kk ff) N ps p) 64 0 = none ∧ Pn x m m' ∧ SF m' x N kk ff A ∧ CI m' x A (gsC T B d wo kk ff) known' ∧ r = fun K => K known' (nI p) m')) 64 0 (by omega) (fun q _ hq s hI => by
    obtain ⟨a1, a2, a3, a4, a5⟩ := hI
    have Cs := C.pn a2
    have gs := Cs.1.2.2.2.2
    have z1 : ¬ (64 : Int32) ≤ nI q := nI_ge (b := 64) hq (by decide)
    obtain ⟨fs, fn⟩ := fo_64 (f := rs2 A (gsC T B d wo kk ff) N ps p) hq
    cases hw : pwB A (gsC T B d wo kk ff) 0 1 p q with
    | false =>
      have hrn : rs2 A (gsC T B d wo kk ff) N ps p q = none := by unfold rs2; rw [hw, if_neg (by decide)]
      refine .inr ⟨s, ⟨by rw [← a1, fn hrn], a2, a3, a4, a5⟩, fun n => ?_⟩
      funext K
      show g_X3_seatAll_101 (x + 99) (nI N) (l_X3_seatAll_101 (x + 99) (nI N) (g_X3_seatAll_187 (x + 99) (nI N)) K n) (g_X3_seatAll_187 (x + 99) (nI N)) K s.1 (nI p) M1 x7 (nI q) s.2 = _
      unfold g_X3_seatAll_101 g_X3_seatAll_205
      rw [if_neg z1, if_pos ((btL_q M1 hq).mpr (by rw [bM1 q hq]; exact hw)), nI_1]
    | true =>
      have hb : ¬ lg_cmp ((M1 >>> (Int32.toInt64 (nI q) &&& 63)) &&& 1) 0 = 0 := fun z => by
        have := (btL_q M1 hq).mp z
        rw [bM1 q hq, hw] at this; cases this
      obtain ⟨n1, u1, u2, u3⟩ := c_seatAt Cs.1 (i := 1) (by omega) (a3 1 (by omega)).1 hq
      have C1 := Cs.pn (u2.p (by omega))
      have g1 := C1.1.2.2.2.2
      have F1 := a3.gi u2
      have s0 : Bo n1 (x + 101 + 0) (gst (kk 0) (ff 0) p) := a4.gi u2 (by omega)
      have CI1 : CI n1 x A (gsC T B d wo kk ff) s.1 := fun e he hb => by rw [u2.2.2.2.2.1]; exact a5 e he hb
      rcases hN with hN | hN
      · subst hN
        have hrn : rs2 A (gsC T B d wo kk ff) 2 ps p q = some (upN (upN ps 0 p) 1 q) := by unfold rs2; rw [hw, if_pos rfl, if_pos rfl]
        refine .inl ⟨fun _ => some (1, n1), .inl ⟨upN (upN ps 0 p) 1 q, n1, by rw [← a1, fs _ hrn], a2.tr (u2.p (by omega)), fun e he => ?_, rfl⟩, fun n => ?_⟩
        · have : e = 0 ∨ e = 1 := by omega
          rcases this with rfl | rfl
          · exact ⟨hp, s0⟩
          · exact ⟨hq, u3⟩
        · funext K
          show g_X3_seatAll_101 (x + 99) (nI 2) (l_X3_seatAll_101 (x + 99) (nI 2) (g_X3_seatAll_187 (x + 99) (nI 2)) K n) (g_X3_seatAll_187 (x + 99) (nI 2)) K s.1 (nI p) M1 x7 (nI q) s.2 = _
          unfold g_X3_seatAll_101
          rw [if_neg z1, if_neg hb, chk_t gs.1, show f_X3_seatAt (x + 99) 1 (nI q) s.2 = _ from u1, cal_s, if_pos (show nI 2 = (2 : Int32) from rfl)]
      · subst hN
        -- the row of the second one's peace
        have row : ∃ known' m3, CI m3 x A (gsC T B d wo kk ff) known' ∧ btL known' q = true ∧ Pn x n1 m3 ∧ SF m3 x 3 kk ff A ∧ Bo m3 (x + 101 + 0) (gst (kk 0) (ff 0) p) ∧ Bo m3 (x + 101 + 1) (gst (kk 1) (ff 1) q) ∧ ∀ (n : Nat) (K : Int64 → Int32 → MM → Option (Int32 × MM)), l_X3_seatAll_101 (x + 99) (nI 3) (g_X3_seatAll_187 (x + 99) (nI 3)) K (n + 1) s.1 (nI p) M1 x7 (nI q) s.2 = g_X3_seatAll_168 (x + 99) (nI 3) (l_X3_seatAll_101 (x + 99) (nI 3) (g_X3_seatAll_187 (x + 99) (nI 3)) K n) (g_X3_seatAll_187 (x + 99) (nI 3)) K known' (nI p) M1 x7 (nI q) m3 := by
          cases hkn : btL s.1 q with
          | true =>
            refine ⟨s.1, n1, CI1, hkn, Pn.rf x n1, F1, s0, u3, fun n K => ?_⟩
            show g_X3_seatAll_101 (x + 99) (nI 3) (l_X3_seatAll_101 (x + 99) (nI 3) (g_X3_seatAll_187 (x + 99) (nI 3)) K n) (g_X3_seatAll_187 (x + 99) (nI 3)) K s.1 (nI p) M1 x7 (nI q) s.2 = _
            have hb2 : ¬ lg_cmp ((s.1 >>> (Int32.toInt64 (nI q) &&& 63)) &&& 1) 0 = 0 := fun z => by
              have := (btL_q s.1 hq).mp z
              rw [hkn] at this; cases this
            unfold g_X3_seatAll_101
            rw [if_neg z1, if_neg hb, chk_t gs.1, show f_X3_seatAt (x + 99) 1 (nI q) s.2 = _ from u1, cal_s, if_neg (show ¬ nI 3 = (2 : Int32) by decide), if_neg hb2]
          | false =>
            obtain ⟨n2, v1, v2⟩ := c_peaceWith (i := 1) (j := 2) (A := A) (kk := kk) (ff := ff) C1 (by omega) (by omega) (by omega) hq (fun e he => hkk e (by omega)) (fun e he => hff e (by omega)) u3 (F1 2 (by omega)).1 (F1 2 (by omega)).2
            have F2 := F1.gi v2
            have bb0 : Bo n2 (x + 101 + 0) (gst (kk 0) (ff 0) p) := Bo.gi (e := 0) (i := 2) s0 v2 (by decide)
            have bb1 : Bo n2 (x + 101 + 1) (gst (kk 1) (ff 1) q) := Bo.gi (e := 1) (i := 2) u3 v2 (by decide)
            refine ⟨s.1 ||| (1 <<< (Int32.toInt64 (nI q) &&& 63)), n2.sJ 23 (x + 105) q (mkL (pwB A (gsC T B d wo kk ff) 1 2 q) 64), fun e he hbe => ?_, ?_, (v2.p (by omega)).sJ _ _ _ _, F2.rw _, bb0, bb1, fun n K => ?_⟩
            · rw [J_sJ]
              by_cases z : e = q
              · rw [if_pos ⟨rfl, rfl, z⟩, z]
              · rw [if_neg (fun y => z y.2.2), v2.2.2.2.2.1]
                refine CI1 e he ?_
                rw [btL_or, btL_1 hq he, decide_eq_false z, Bool.or_false] at hbe
                exact hbe
            · rw [btL_or, btL_1 hq hq, decide_eq_true rfl, Bool.or_true]
            · show g_X3_seatAll_101 (x + 99) (nI 3) (l_X3_seatAll_101 (x + 99) (nI 3) (g_X3_seatAll_187 (x + 99) (nI 3)) K n) (g_X3_seatAll_187 (x + 99) (nI 3)) K s.1 (nI p) M1 x7 (nI q) s.2 = _
              unfold g_X3_seatAll_101
              rw [if_neg z1, if_neg hb, chk_t gs.1, show f_X3_seatAt (x + 99) 1 (nI q) s.2 = _ from u1, cal_s, if_neg (show ¬ nI 3 = (2 : Int32) by decide), if_pos ((btL_q s.1 hq).mpr hkn), chk_t g1.1, show f_X3_peaceWith (x + 99) 1 2 n1 = _ from v1, cal_s, show n1.R 403 (x + 99) 0 = some (x + 105) from g1.2.2.2.2.1, ck_s (show n2.K (x + 105) = 23 from by rw [v2.1]; exact g1.2.2.2.2.2.2.2.2.2.1), v2.2.1, g1.2.2.2.2.2.2.2.2.2.2.1, chk_t (inb_nI hq (by decide)), bnd_e, bnd_e, cl_nI (show q < 2 ^ 31 by omega)]
        obtain ⟨known', m3, c1, c2, c3, c4, c5, c6, c7⟩ := row
        have C3 := C1.pn c3
        have g3 := C3.1.2.2.2.2
        have hx7 := h7 rfl
        obtain ⟨P, hP⟩ : ∃ P : Nat → Bool, P = fun r => pwB A (gsC T B d wo kk ff) 0 2 p r && pwB A (gsC T B d wo kk ff) 1 2 q r := ⟨_, rfl⟩
        have bM : ∀ r, r < 64 → btL (x7 &&& m3.J 23 (x + 105) q) r = P r := fun r hr => by
          rw [btL_and, hx7, c1 q hq c2, btL_mk (by omega) r hr, btL_mk (by omega) r hr, decide_eq_true hr, Bool.true_and, Bool.true_and, hP]
        have f168 : ∀ (n : Nat) (K : Int64 → Int32 → MM → Option (Int32 × MM)), g_X3_seatAll_168 (x + 99) (nI 3) (l_X3_seatAll_101 (x + 99) (nI 3) (g_X3_seatAll_187 (x + 99) (nI 3)) K n) (g_X3_seatAll_187 (x + 99) (nI 3)) K known' (nI p) M1 x7 (nI q) m3 = if x7 &&& m3.J 23 (x + 105) q = 0 then l_X3_seatAll_101 (x + 99) (nI 3) (g_X3_seatAll_187 (x + 99) (nI 3)) K n known' (nI p) M1 x7 (nI (q + 1)) m3 else g_X3_seatAll_187 (x + 99) (nI 3) (x7 &&& m3.J 23 (x + 105) q) m3 := by
          intro n K
          unfold g_X3_seatAll_168 g_X3_seatAll_205
          rw [chk_t g3.1, ck_e g3.2.2.2.2.1 g3.2.2.2.2.2.2.2.2.2.1, g3.2.2.2.2.2.2.2.2.2.2.1, chk_t (inb_nI hq (by decide)), bnd_e, cl_nI (show q < 2 ^ 31 by omega), nI_1]
          by_cases z : x7 &&& m3.J 23 (x + 105) q = 0
          · rw [if_pos ((lg_0 _).mpr z), if_pos z]
          · rw [if_neg (fun y => z ((lg_0 _).mp y)), if_neg z]
        have hrs : rs2 A (gsC T B d wo kk ff) 3 ps p q = fo (fun r => if P r then some (upN (upN (upN ps 0 p) 1 q) 2 r) else none) 64 0 := by
          unfold rs2
          rw [hw, if_pos rfl, if_neg (show ¬ 3 = 2 by decide), hP]
        by_cases hz : x7 &&& m3.J 23 (x + 105) q = 0
        · have hrn : rs2 A (gsC T B d wo kk ff) 3 ps p q = none := by
            rw [hrs]
            refine fo_none (fun r _ hr => ?_)
            have : P r = false := by rw [← bM r (by omega), hz, btL_0]
            rw [this, if_neg (by decide)]
          refine .inr ⟨(known', m3), ⟨by rw [← a1, fn hrn], a2.tr ((u2.p (by omega)).tr c3), c4, c5, c1⟩, fun n => ?_⟩
          funext K
          show l_X3_seatAll_101 (x + 99) (nI 3) (g_X3_seatAll_187 (x + 99) (nI 3)) K (n + 1) s.1 (nI p) M1 x7 (nI q) s.2 = _
          rw [c7 n K, f168 n K, if_pos hz]
        · obtain ⟨r, m4, d1, d2, d3, d4, d5, d6⟩ := c_187 (kk := kk) (ff := ff) C3 (c4 2 (by omega)).1 bM hz (nI 3)
          have hrn : rs2 A (gsC T B d wo kk ff) 3 ps p q = some (upN (upN (upN ps 0 p) 1 q) 2 r) := by
            rw [hrs]
            exact fo_at (t := r) (by rw [d2, if_pos rfl]) (by omega) (by omega) (fun j _ hj => by rw [d3 j hj, if_neg (by decide)])
          refine .inl ⟨fun _ => some (1, m4), .inl ⟨upN (upN (upN ps 0 p) 1 q) 2 r, m4, by rw [← a1, fs _ hrn], (a2.tr ((u2.p (by omega)).tr c3)).tr (d5.p (by omega)), fun e he => ?_, rfl⟩, fun n => ?_⟩
          · have : e = 0 ∨ e = 1 ∨ e = 2 := by omega
            rcases this with rfl | rfl | rfl
            · exact ⟨hp, c5.gi d5 (by omega)⟩
            · exact ⟨hq, c6.gi d5 (by omega)⟩
            · exact ⟨d1, d6⟩
          · funext K
            show l_X3_seatAll_101 (x + 99) (nI 3) (g_X3_seatAll_187 (x + 99) (nI 3)) K (n + 1) s.1 (nI p) M1 x7 (nI q) s.2 = _
            rw [c7 n K, f168 n K, if_neg hz, d4]) (fun s hI => by
    obtain ⟨a1, a2, a3, a4, a5⟩ := hI
    refine ⟨fun K => K s.1 (nI p) s.2, .inr ⟨s.1, s.2, by rw [← a1]; rfl, a2, a3, a5, rfl⟩, fun n => ?_⟩
    funext K
    show g_X3_seatAll_101 (x + 99) (nI N) (l_X3_seatAll_101 (x + 99) (nI N) (g_X3_seatAll_187 (x + 99) (nI N)) K n) (g_X3_seatAll_187 (x + 99) (nI N)) K s.1 (nI p) M1 x7 (nI 64) s.2 = _
    unfold g_X3_seatAll_101
    rw [if_pos (show (64 : Int32) ≤ nI 64 by decide)]) (s0 := (known, m)) ⟨rfl, Pn.rf x m, F, hS, hC⟩
  have hr2 := hr FU (by unfold FU; omega)
  rcases hQ with ⟨ps', m', h1, h2, h3, h4⟩ | ⟨known', m', h1, h2, h3, h4, h5⟩
  · exact .inl ⟨ps', m', h1, h2, h3, fun K => by
      have := congrFun hr2 K
      rw [h4] at this
      exact this⟩
  · exact .inr ⟨known', m', h1, h2, h3, h4, fun K => by
      have := congrFun hr2 K
      rw [h5] at this
      exact this⟩
/-- the first loop -/
theorem c_seatAll (C : CS m x t l T B d 0 255 wo) (hN : N ≤ 3) (hkk : ∀ e, e < N → kk e < 6) (hff : ∀ e, e < N → ff e = -1 ∨ nB (ff e) 4) (F : SF m x N kk ff A) : ∃ m', f_X3_seatAll (x + 99) (nI N) m = some (bI (se A (gsC T B d wo kk ff) N 0 ps).isSome, m') ∧ Pn x m m' ∧ ∀ ps', se A (gsC T B d wo kk ff) N 0 ps = some ps' → Gsd m' x N kk ff ps' := by
  by_cases h0 : N = 0
  · subst h0
    refine ⟨m, ?_, Pn.rf x m, fun ps' _ e he => by omega⟩
    unfold f_X3_seatAll g_X3_seatAll_0
    rw [if_neg (show ¬ (0 : Int32) < nI 0 by decide)]
    rfl
  have hse : se A (gsC T B d wo kk ff) N 0 ps = fo (rs1 A (gsC T B d wo kk ff) N ps) 64 0 := by
    have : N = 1 ∨ N = 2 ∨ N = 3 := by omega
    rcases this with rfl | rfl | rfl
    · exact se_1
    · exact se_2
    · exact se_3
  rw [hse]
  have hpos : (0 : Int32) < nI N := nI_lt (a := 0) (by omega) (by omega)
  obtain ⟨r, ⟨m', er, fr, fs'⟩, hr⟩ := lp_ex (fun n p (s : Int64 × MM) => l_X3_seatAll_11 (x + 99) (nI N) (g_X3_seatAll_187 (x + 99) (nI N)) n s.1 p s.2) (fun p s => fo (rs1 A (gsC T B d wo kk ff) N ps) (64 - p) p = fo (rs1 A (gsC T B d wo kk ff) N ps) 64 0 ∧ Pn x m s.2 ∧ SF s.2 x N kk ff A ∧ CI s.2 x A (gsC T B d wo kk ff) s.1) (fun r => ∃ m', r = some (bI (fo (rs1 A (gsC T B d wo kk ff) N ps) 64 0).isSome, m') ∧ Pn x m m' ∧ ∀ ps', fo (rs1 A (gsC T B d wo kk ff) N ps) 64 0 = some ps' → Gsd m' x N kk ff ps') 64 0 (by omega) (fun p _ hp s hI => by
    obtain ⟨a1, a2, a3, a5⟩ := hI
    have Cs := C.pn a2
    have gs := Cs.1.2.2.2.2
    have z1 : ¬ (64 : Int32) ≤ nI p := nI_ge (b := 64) hp (by decide)
    obtain ⟨fs, fn⟩ := fo_64 (f := rs1 A (gsC T B d wo kk ff) N ps) hp
    obtain ⟨w0, j0⟩ := a3 0 (by omega)
    have bJ : ∀ q, q < 64 → btL (s.2.J 23 (x + 104) 0) q = A 0 q := fun q hq => by rw [j0, btL_mk (by omega) q hq, decide_eq_true hq, Bool.true_and]
    have found : ∀ (ps' : Nat → Nat) (m4 : MM), rs1 A (gsC T B d wo kk ff) N ps p = some ps' → Pn x m m4 → Gsd m4 x N kk ff ps' → ∃ m', (some (1, m4) : Option (Int32 × MM)) = some (bI (fo (rs1 A (gsC T B d wo kk ff) N ps) 64 0).isSome, m') ∧ Pn x m m' ∧ ∀ ps', fo (rs1 A (gsC T B d wo kk ff) N ps) 64 0 = some ps' → Gsd m' x N kk ff ps' := by
      intro ps' m4 h1 h2 h3
      have h4 : fo (rs1 A (gsC T B d wo kk ff) N ps) 64 0 = some ps' := by rw [← a1, fs _ h1]
      refine ⟨m4, by rw [h4]; rfl, h2, fun ps2 h5 => ?_⟩
      rw [h4] at h5
      have : ps' = ps2 := Option.some.inj h5
      rw [← this]
      exact h3
    cases hA : A 0 p with
    | false =>
      have hrn : rs1 A (gsC T B d wo kk ff) N ps p = none := by unfold rs1; rw [hA, if_neg (by decide)]
      refine .inr ⟨s, ⟨by rw [← a1, fn hrn], a2, a3, a5⟩, fun n => ?_⟩
      show g_X3_seatAll_11 (x + 99) (nI N) (l_X3_seatAll_11 (x + 99) (nI N) (g_X3_seatAll_187 (x + 99) (nI N)) n) (g_X3_seatAll_187 (x + 99) (nI N)) s.1 (nI p) s.2 = _
      unfold g_X3_seatAll_11 g_X3_seatAll_211
      rw [if_neg z1, chk_t gs.1, ck_e gs.2.2.2.1 gs.2.2.2.2.2.2.2.1, gs.2.2.2.2.2.2.2.2.1, chk_t (show inb 0 3 = true by decide), show Int32.toNatClampNeg 0 = 0 from rfl, if_pos ((btL_q _ hp).mpr (by rw [bJ p hp]; exact hA)), nI_1]
    | true =>
      have hb : ¬ lg_cmp ((s.2.J 23 (x + 104) 0 >>> (Int32.toInt64 (nI p) &&& 63)) &&& 1) 0 = 0 := fun z => by
        have := (btL_q _ hp).mp z
        rw [bJ p hp, hA] at this; cases this
      obtain ⟨n1, u1, u2, u3⟩ := c_seatAt Cs.1 (i := 0) (by omega) w0 hp
      have C1 := Cs.pn (u2.p (by omega))
      have g1 := C1.1.2.2.2.2
      have F1 := a3.gi u2
      have CI1 : CI n1 x A (gsC T B d wo kk ff) s.1 := fun e he hb => by rw [u2.2.2.2.2.1]; exact a5 e he hb
      have P1 : Pn x m n1 := a2.tr (u2.p (by omega))
      have pre : ∀ n, l_X3_seatAll_11 (x + 99) (nI N) (g_X3_seatAll_187 (x + 99) (nI N)) (n + 1) s.1 (nI p) s.2 = if nI N = 1 then some (1, n1) else cal (f_X3_peaceWith (x + 99) 0 1 n1) (fun r4 m5 => if nI N ≤ 2 then (g_X3_seatAll_80 (x + 99) (nI N) (l_X3_seatAll_11 (x + 99) (nI N) (g_X3_seatAll_187 (x + 99) (nI N)) n) (g_X3_seatAll_187 (x + 99) (nI N)) s.1 (nI p) r4 m5) else (if (lg_cmp r4 0) = 0 then (g_X3_seatAll_80 (x + 99) (nI N) (l_X3_seatAll_11 (x + 99) (nI N) (g_X3_seatAll_187 (x + 99) (nI N)) n) (g_X3_seatAll_187 (x + 99) (nI N)) s.1 (nI p) r4 m5) else (chk (m5.K (x + 99) = 4) (cal (f_X3_peaceWith (x + 99) 0 2 m5) (fun r5 m6 => g_X3_seatAll_81 (x + 99) (nI N) (l_X3_seatAll_11 (x + 99) (nI N) (g_X3_seatAll_187 (x + 99) (nI N)) n) (g_X3_seatAll_187 (x + 99) (nI N)) s.1 (nI p) r4 r5 m6))))) := by
        intro n
        show g_X3_seatAll_11 (x + 99) (nI N) (l_X3_seatAll_11 (x + 99) (nI N) (g_X3_seatAll_187 (x + 99) (nI N)) n) (g_X3_seatAll_187 (x + 99) (nI N)) s.1 (nI p) s.2 = _
        unfold g_X3_seatAll_11
        rw [if_neg z1, chk_t gs.1, ck_e gs.2.2.2.1 gs.2.2.2.2.2.2.2.1, gs.2.2.2.2.2.2.2.2.1, chk_t (show inb 0 3 = true by decide), show Int32.toNatClampNeg 0 = 0 from rfl, if_neg hb, show f_X3_seatAt (x + 99) 0 (nI p) s.2 = _ from u1, cal_s, chk_t g1.1]
      by_cases hN1 : N = 1
      · subst hN1
        have hrn : rs1 A (gsC T B d wo kk ff) 1 ps p = some (upN ps 0 p) := by unfold rs1; rw [hA, if_pos rfl, if_pos rfl]
        refine .inl ⟨some (1, n1), found _ n1 hrn P1 (fun e he => ?_), fun n => ?_⟩
        · have : e = 0 := by omega
          subst this
          exact ⟨hp, u3⟩
        · rw [pre n, if_pos (show nI 1 = (1 : Int32) from rfl)]
      have hrr : rs1 A (gsC T B d wo kk ff) N ps p = fo (rs2 A (gsC T B d wo kk ff) N ps p) 64 0 := by unfold rs1; rw [hA, if_pos rfl, if_neg hN1]
      have n1' : ¬ nI N = (1 : Int32) := fun z => hN1 (nI_inj (b := 1) (by omega) (by decide) z)
      obtain ⟨n2, v1, v2⟩ := c_peaceWith (i := 0) (j := 1) (A := A) (kk := kk) (ff := ff) C1 (by omega) (by omega) (by omega) hp (fun e he => hkk e (by omega)) (fun e he => hff e (by omega)) u3 (F1 1 (by omega)).1 (F1 1 (by omega)).2
      have C2 := C1.pn (v2.p (by omega))
      have g2 := C2.1.2.2.2.2
      have F2 := F1.gi v2
      have s2 : Bo n2 (x + 101 + 0) (gst (kk 0) (ff 0) p) := Bo.gi (e := 0) (i := 1) u3 v2 (by decide)
      have CI2 : CI n2 x A (gsC T B d wo kk ff) s.1 := fun e he hb => by rw [v2.2.2.2.2.1]; exact CI1 e he hb
      have P2 : Pn x m n2 := P1.tr (v2.p (by omega))
      by_cases hN2 : N = 2
      · subst hN2
        rcases c_inner (ps := ps) (A := A) (kk := kk) (ff := ff) C2 (.inl rfl) hkk hff F2 hp s2 CI2 0 (fun z => by omega) with ⟨ps', m', h1, h2, h3, h4⟩ | ⟨known', m', h1, h2, h3, h4, h5⟩
        · refine .inl ⟨some (1, m'), found ps' m' (by rw [hrr]; exact h1) (P2.tr h2) h3, fun n => ?_⟩
          rw [pre n, if_neg n1', show f_X3_peaceWith (x + 99) 0 1 n1 = _ from v1, cal_s, if_pos (show nI 2 ≤ (2 : Int32) by decide)]
          unfold g_X3_seatAll_80 g_X3_seatAll_81 g_X3_seatAll_98
          rw [if_pos (show nI 2 ≤ (2 : Int32) by decide)]
          exact h4 _
        · refine .inr ⟨(known', m'), ⟨by rw [← a1, fn (by rw [hrr]; exact h1)], P2.tr h2, h3, h4⟩, fun n => ?_⟩
          rw [pre n, if_neg n1', show f_X3_peaceWith (x + 99) 0 1 n1 = _ from v1, cal_s, if_pos (show nI 2 ≤ (2 : Int32) by decide)]
          unfold g_X3_seatAll_80 g_X3_seatAll_81 g_X3_seatAll_98
          rw [if_pos (show nI 2 ≤ (2 : Int32) by decide)]
          refine (h5 _).trans ?_
          unfold g_X3_seatAll_211
          rw [nI_1]
      have hN3 : N = 3 := by omega
      subst hN3
      have n32 : ¬ nI 3 ≤ (2 : Int32) := by decide
      obtain ⟨M1, hM1⟩ : ∃ M1, M1 = mkL (pwB A (gsC T B d wo kk ff) 0 1 p) 64 := ⟨_, rfl⟩
      have bM1 : ∀ q, q < 64 → btL M1 q = pwB A (gsC T B d wo kk ff) 0 1 p q := fun q hq => by rw [hM1, btL_mk (by omega) q hq, decide_eq_true hq, Bool.true_and]
      rw [← hM1] at v1
      by_cases hz : M1 = 0
      · have hrn : rs1 A (gsC T B d wo kk ff) 3 ps p = none := by
          rw [hrr]
          refine fo_none (fun q _ hq => ?_)
          unfold rs2
          rw [← bM1 q (by omega), hz, btL_0, if_neg (by decide)]
        refine .inr ⟨(s.1, n2), ⟨by rw [← a1, fn hrn], P2, F2, CI2⟩, fun n => ?_⟩
        rw [pre n, if_neg n1', show f_X3_peaceWith (x + 99) 0 1 n1 = _ from v1, cal_s, if_neg n32, if_pos ((lg_0 _).mpr hz)]
        unfold g_X3_seatAll_80 g_X3_seatAll_81 g_X3_seatAll_211
        rw [if_neg n32, if_pos (show lg_cmp 0 0 = 0 by decide), nI_1]
      · obtain ⟨n3, x1, x2⟩ := c_peaceWith (i := 0) (j := 2) (A := A) (kk := kk) (ff := ff) C2 (by omega) (by omega) (by omega) hp (fun e he => hkk e (by omega)) (fun e he => hff e (by omega)) s2 (F2 2 (by omega)).1 (F2 2 (by omega)).2
        have C3 := C2.pn (x2.p (by omega))
        have F3 := F2.gi x2
        have s3 : Bo n3 (x + 101 + 0) (gst (kk 0) (ff 0) p) := Bo.gi (e := 0) (i := 2) s2 x2 (by decide)
        have CI3 : CI n3 x A (gsC T B d wo kk ff) s.1 := fun e he hb => by rw [x2.2.2.2.2.1]; exact CI2 e he hb
        have P3 : Pn x m n3 := P2.tr (x2.p (by omega))
        obtain ⟨M2, hM2⟩ : ∃ M2, M2 = mkL (pwB A (gsC T B d wo kk ff) 0 2 p) 64 := ⟨_, rfl⟩
        have bM2 : ∀ q, q < 64 → btL M2 q = pwB A (gsC T B d wo kk ff) 0 2 p q := fun q hq => by rw [hM2, btL_mk (by omega) q hq, decide_eq_true hq, Bool.true_and]
        rw [← hM2] at x1
        have pre3 : ∀ n, l_X3_seatAll_11 (x + 99) (nI 3) (g_X3_seatAll_187 (x + 99) (nI 3)) (n + 1) s.1 (nI p) s.2 = g_X3_seatAll_81 (x + 99) (nI 3) (l_X3_seatAll_11 (x + 99) (nI 3) (g_X3_seatAll_187 (x + 99) (nI 3)) n) (g_X3_seatAll_187 (x + 99) (nI 3)) s.1 (nI p) M1 M2 n3 := by
          intro n
          rw [pre n, if_neg n1', show f_X3_peaceWith (x + 99) 0 1 n1 = _ from v1, cal_s, if_neg n32, if_neg (fun z => hz ((lg_0 _).mp z)), chk_t g2.1, show f_X3_peaceWith (x + 99) 0 2 n2 = _ from x1, cal_s]
        by_cases hz2 : M2 = 0
        · have hrn : rs1 A (gsC T B d wo kk ff) 3 ps p = none := by
            rw [hrr]
            refine fo_none (fun q _ hq => ?_)
            unfold rs2
            cases pwB A (gsC T B d wo kk ff) 0 1 p q with
            | false => rw [if_neg (by decide)]
            | true =>
              rw [if_pos rfl, if_neg (show ¬ 3 = 2 by decide)]
              refine fo_none (fun r _ hr => ?_)
              rw [← bM2 r (by omega), hz2, btL_0, Bool.false_and, if_neg (by decide)]
          refine .inr ⟨(s.1, n3), ⟨by rw [← a1, fn hrn], P3, F3, CI3⟩, fun n => ?_⟩
          rw [pre3 n]
          unfold g_X3_seatAll_81 g_X3_seatAll_211
          rw [if_neg n32, if_pos ((lg_0 _).mpr hz2), nI_1]
        · rcases c_inner (ps := ps) (A := A) (kk := kk) (ff := ff) C3 (.inr rfl) hkk hff F3 hp s3 CI3 M2 (fun _ => hM2) with ⟨ps', m', h1, h2, h3, h4⟩ | ⟨known', m', h1, h2, h3, h4, h5⟩
          · refine .inl ⟨some (1, m'), found ps' m' (by rw [hrr]; exact h1) (P3.tr h2) h3, fun n => ?_⟩
            rw [pre3 n]
            unfold g_X3_seatAll_81 g_X3_seatAll_98
            rw [if_neg n32, if_neg (fun z => hz2 ((lg_0 _).mp z)), hM1]
            exact h4 _
          · refine .inr ⟨(known', m'), ⟨by rw [← a1, fn (by rw [hrr]; exact h1)], P3.tr h2, h3, h4⟩, fun n => ?_⟩
            rw [pre3 n]
            unfold g_X3_seatAll_81 g_X3_seatAll_98
            rw [if_neg n32, if_neg (fun z => hz2 ((lg_0 _).mp z)), hM1]
            refine (h5 _).trans ?_
            unfold g_X3_seatAll_211
            rw [nI_1]) (fun s hI => by
    obtain ⟨a1, a2, a3, a5⟩ := hI
    have hnone : fo (rs1 A (gsC T B d wo kk ff) N ps) 64 0 = none := by rw [← a1]; rfl
    refine ⟨some (0, s.2), ⟨s.2, by rw [hnone]; rfl, a2, fun ps' h => by rw [hnone] at h; cases h⟩, fun n => ?_⟩
    show g_X3_seatAll_11 (x + 99) (nI N) (l_X3_seatAll_11 (x + 99) (nI N) (g_X3_seatAll_187 (x + 99) (nI N)) n) (g_X3_seatAll_187 (x + 99) (nI N)) s.1 (nI 64) s.2 = _
    unfold g_X3_seatAll_11
    rw [if_pos (show (64 : Int32) ≤ nI 64 by decide)]) (s0 := (0, m)) ⟨rfl, Pn.rf x m, F, fun q hq hb => by rw [btL_0] at hb; cases hb⟩
  refine ⟨m', ?_, fr, fs'⟩
  unfold f_X3_seatAll g_X3_seatAll_0
  rw [if_pos hpos, ← er]
  exact hr FU (by unfold FU; omega)
end SAL
