/-! the points to which one may move -/
def Wp (A p : Nat) (m n : MM) : Prop := n.K = m.K ∧ n.N = m.N ∧ n.S = m.S ∧ n.R = m.R ∧ ∀ s q c, ¬ (q = A ∧ c = p) → n.I s q c = m.I s q c
theorem Wp.rf (A p : Nat) (m : MM) : Wp A p m m := ⟨rfl, rfl, rfl, rfl, fun _ _ _ _ => rfl⟩
theorem Wp.sI {A p : Nat} {m n : MM} (h : Wp A p m n) (s : Nat) (v : Int32) : Wp A p m (n.sI s A p v) := ⟨h.1, h.2.1, h.2.2.1, h.2.2.2.1, fun s2 q2 c2 g => by rw [I_sI, if_neg (fun z => g ⟨z.2.1, z.2.2⟩)]; exact h.2.2.2.2 s2 q2 c2 g⟩
theorem Wp.m {A p y a b : Nat} {m n : MM} (h : Wp A p m n) (hA : A = y + 54 ∨ A = y + 55) : Mw y a b m n := ⟨h.1, h.2.1, h.2.2.1, h.2.2.2.1, fun s q c _ _ g3 g4 => h.2.2.2.2 s q c (by omega)⟩
def pnB (T : TW) (B : LW) (d a b : Nat) (G : BD) (c : Nat) : Bool := mvO T d a b c && (samB (bdy T d c) G || clB T B 0 (bt 255) (clL T d) (-1) G (bdy T d c))
def ptB (T : TW) (B : LW) (d a b z p : Nat) : Bool := opP T B d (-1) (mvO T d a b) (bdy T d z).k (bdy T d z).f p && !decide (p = ownN T z)
theorem any_up {P : Nat → Bool} {c n : Nat} (h : c ≤ n) (h1 : (List.range c).any P = true) : (List.range n).any P = true := by
  cases h2 : (List.range n).any P with
  | true => rfl
  | false =>
    have := anyF.mpr (fun i hi => anyF.mp h2 i (Nat.lt_of_lt_of_le hi h))
    rw [this] at h1
    exact h1
theorem dsq_le {u v : BD} (va : VB u) (vb : VB v) : (zI (dsq u v) ≤ 0) ↔ samB u v = true := by
  rw [← dsq_0 va vb]
  have h := dsq_b va vb
  have e0 : zI 0 = 0 := rfl
  rw [← e0, zI_le (z_sm (by omega)) sm0, zI_eq (z_sm (by omega)) sm0]
  omega
section RPT
variable {m : MM} {y i j d a b z p A : Nat} {T : TW} {B : LW} {o x5 : Int32} {G : BD}
theorem r_pt92 (R : RX m y i j T B d a b) (hA : A = y + 54 ∨ A = y + 55) (hz : z < T.2.1 0) (ho : ∀ c, c < 12 → ((nI c = nI z ∨ nI c = o) ↔ (c = a ∨ c = b))) (hG : Rg m y z T d G) (hp : p < 64) {w : Bool} (hw : m.I 24 A p = bI w) : ∃ s', Wp A p m s' ∧ s'.I 24 A p = bI (w && styB T B d (-1) (mvO T d a b) G) ∧ ∀ K, l_X10_findPoints_92 y (nI j) (nI z) o (some A) K FU x5 (nI p) 0 m = K x5 (nI p) s' := by
  have hn := R.2.2.1.1
  have vG : VB G := by obtain ⟨_, _, _, v, _⟩ := hG; exact v
  obtain ⟨r, ⟨s', q1, q2, q3⟩, hr⟩ := lp_ex (fun n c (s : MM) => fun (K : Int32 → Int32 → MM → Option (Unit × MM)) => l_X10_findPoints_92 y (nI j) (nI z) o (some A) K n x5 (nI p) c s) (fun c s => Wp A p m s ∧ s.I 24 A p = bI (w && !(List.range c).any (pnB T B d a b G))) (fun r => ∃ s', Wp A p m s' ∧ s'.I 24 A p = bI (w && !(List.range 12).any (pnB T B d a b G)) ∧ r = fun K => K x5 (nI p) s') 12 0 (by omega) (fun c _ hc s hI => by
    obtain ⟨a1, a2⟩ := hI
    have Rs := R.mw (a1.m hA)
    obtain ⟨kA, nA⟩ := Rs.ka hA
    have e1 : ¬ (12 : Int32) ≤ nI c := nI_ge (b := 12) hc (by decide)
    cases hfl : (w && !(List.range c).any (pnB T B d a b G)) with
    | false =>
      refine .inl ⟨fun K => K x5 (nI p) s, ⟨s, a1, ?_, rfl⟩, fun n => ?_⟩
      · rw [a2, hfl]
        congr 1
        cases hw2 : w with
        | false => rfl
        | true =>
          rw [hw2, Bool.true_and] at hfl
          have h1 : (List.range c).any (pnB T B d a b G) = true := by simpa using hfl
          rw [any_up (by omega) h1]; rfl
      · funext K
        show g_X10_findPoints_92 y (nI j) (nI z) o (some A) (l_X10_findPoints_92 y (nI j) (nI z) o (some A) K n) K x5 (nI p) (nI c) s = _
        unfold g_X10_findPoints_92
        rw [if_neg e1, ck_s kA, nA, chk_t (inb_nI hp (by decide)), cl_nI (show p < 2 ^ 31 by omega), a2, hfl, bI_f, if_pos rfl]
    | true =>
      have hbad : ∀ v : Bool, pnB T B d a b G c = v → (w && !(List.range (c + 1)).any (pnB T B d a b G)) = !v := fun v hv => by
        rw [Bool.and_eq_true] at hfl
        have h2 : (List.range c).any (pnB T B d a b G) = false := by simpa using hfl.2
        rw [any_s, h2, hfl.1, hv]
        rfl
      have skip : pnB T B d a b G c = false → (w && !(List.range (c + 1)).any (pnB T B d a b G)) = true := fun hv => hbad false hv
      have pre : ∀ n (K : Int32 → Int32 → MM → Option (Unit × MM)), l_X10_findPoints_92 y (nI j) (nI z) o (some A) K (n + 1) x5 (nI p) (nI c) s = (if nI c = nI z then l_X10_findPoints_92 y (nI j) (nI z) o (some A) K n x5 (nI p) (nI (c + 1)) s else if nI c = o then l_X10_findPoints_92 y (nI j) (nI z) o (some A) K n x5 (nI p) (nI (c + 1)) s else if sB T d c = false then l_X10_findPoints_92 y (nI j) (nI z) o (some A) K n x5 (nI p) (nI (c + 1)) s else cal (f_X10_apartBy y (nI c) (nI z) s) (fun r2 m3 => if r2 ≤ 0 then (g_X10_findPoints_158 y (nI j) (nI z) o (some A) (l_X10_findPoints_92 y (nI j) (nI z) o (some A) K n) K x5 (nI p) (nI c) (some A) (nI p) m3) else (chk (m3.K y = 11) (cal (f_X10_barsBoth y (nI j) (nI c) (nI z) (-1) m3) (fun r3 m4 => if r3 = 0 then (g_X10_findPoints_159 y (nI j) (nI z) o (some A) (l_X10_findPoints_92 y (nI j) (nI z) o (some A) K n) K x5 (nI p) (nI c) (some A) (nI p) 1 m4) else (g_X10_findPoints_158 y (nI j) (nI z) o (some A) (l_X10_findPoints_92 y (nI j) (nI z) o (some A) K n) K x5 (nI p) (nI c) (some A) (nI p) m4)))))) := by
        intro n K
        show g_X10_findPoints_92 y (nI j) (nI z) o (some A) (l_X10_findPoints_92 y (nI j) (nI z) o (some A) K n) K x5 (nI p) (nI c) s = _
        unfold g_X10_findPoints_92 g_X10_findPoints_160
        rw [if_neg e1, ck_s kA, nA, chk_t (inb_nI hp (by decide)), cl_nI (show p < 2 ^ 31 by omega), a2, hfl, if_neg (show ¬ bI true = 0 by decide), chk_t Rs.1.1.1, Rs.st hc, cal_s, chk_t Rs.1.1.1, nI_1]
        cases sB T d c with
        | false => rw [bI_f, if_pos (show (0 : Int32) = 0 from rfl), if_pos (show false = false from rfl)]
        | true => rw [if_neg (show ¬ bI true = 0 by decide), if_neg (show ¬ true = false by decide)]
      by_cases hab : nI c = nI z ∨ nI c = o
      · have hb : pnB T B d a b G c = false := by
          unfold pnB mvO
          rcases (ho c hc).mp hab with e | e
          · rw [decide_eq_true e]; simp
          · rw [decide_eq_true e]; simp
        refine .inr ⟨s, ⟨a1, by rw [a2, hfl, skip hb]⟩, fun n => ?_⟩
        funext K
        show l_X10_findPoints_92 y (nI j) (nI z) o (some A) K (n + 1) x5 (nI p) (nI c) s = _
        rw [pre n K]
        by_cases h1 : nI c = nI z
        · rw [if_pos h1]
        · rw [if_neg h1, if_pos (hab.resolve_left h1)]
      · have hna : c ≠ a := fun e => hab ((ho c hc).mpr (.inl e))
        have hnb : c ≠ b := fun e => hab ((ho c hc).mpr (.inr e))
        have n1 : ¬ nI c = nI z := fun e => hab (.inl e)
        have n2 : ¬ nI c = o := fun e => hab (.inr e)
        have hmo : mvO T d a b c = sB T d c := by
          unfold mvO
          rw [decide_eq_false hna, decide_eq_false hnb]
          simp
        cases hsc : sB T d c with
        | false =>
          have hb : pnB T B d a b G c = false := by unfold pnB; rw [hmo, hsc]; rfl
          refine .inr ⟨s, ⟨a1, by rw [a2, hfl, skip hb]⟩, fun n => ?_⟩
          funext K
          show l_X10_findPoints_92 y (nI j) (nI z) o (some A) K (n + 1) x5 (nI p) (nI c) s = _
          rw [pre n K, if_neg n1, if_neg n2, hsc, if_pos rfl]
        | true =>
          have hcn := sB_n hsc
          have hpn : pnB T B d a b G c = (samB (bdy T d c) G || clB T B 0 (bt 255) (clL T d) (-1) G (bdy T d c)) := by unfold pnB; rw [hmo, hsc, Bool.true_and]
          have gc := Rs.bd hcn hna hnb
          have gz : Rg s y z T d G := Rb.of hG (fun q q1 q2 => a1.2.2.2.2 _ _ _ (by omega))
          have vc := bdy_v R.2.1 hcn d
          obtain ⟨sc, _, rc, _, _⟩ := id gc
          obtain ⟨sg, _, rg, _, _⟩ := id gz
          have ap := r_apartBy Rs.1.1 (show c < 15 by omega) (show z < 15 by omega) rc rg
          have hcz : c ≠ z := fun e => n1 (by rw [e])
          have bb := Rs.both (show c < 15 by omega) (show z < 15 by omega) hcz gc gz (-1)
          rw [clB_sw] at bb
          have wr : ∀ (v : Int32) n (K : Int32 → Int32 → MM → Option (Unit × MM)), g_X10_findPoints_159 y (nI j) (nI z) o (some A) (l_X10_findPoints_92 y (nI j) (nI z) o (some A) K n) K x5 (nI p) (nI c) (some A) (nI p) v s = l_X10_findPoints_92 y (nI j) (nI z) o (some A) K n x5 (nI p) (nI (c + 1)) (s.sI 24 A p (v &&& 1)) := by
            intro v n K
            unfold g_X10_findPoints_159 g_X10_findPoints_160
            rw [ck_s kA, nA, chk_t (inb_nI hp (by decide)), bnd_e, cl_nI (show p < 2 ^ 31 by omega), nI_1]
          refine .inr ⟨s.sI 24 A p (bI (!pnB T B d a b G c)), ⟨a1.sI _ _, by rw [I_sI, if_pos ⟨rfl, rfl, rfl⟩, hbad _ rfl]⟩, fun n => ?_⟩
          funext K
          show l_X10_findPoints_92 y (nI j) (nI z) o (some A) K (n + 1) x5 (nI p) (nI c) s = _
          rw [pre n K, if_neg n1, if_neg n2, hsc, if_neg (show ¬ true = false by decide), ap, cal_s]
          cases hsam : samB (bdy T d c) G with
          | true =>
            rw [hsam, Bool.true_or] at hpn
            rw [if_pos ((dsq_le vc vG).mpr hsam), hpn]
            unfold g_X10_findPoints_158
            rw [wr]
            rfl
          | false =>
            rw [hsam, Bool.false_or] at hpn
            rw [if_neg (fun q => by have := (dsq_le vc vG).mp q; rw [hsam] at this; cases this), chk_t Rs.1.1.1, bb, cal_s, hpn]
            cases clB T B 0 (bt 255) (clL T d) (-1) G (bdy T d c) with
            | false => rw [bI_f, if_pos rfl, wr]; rfl
            | true =>
              rw [if_neg (show ¬ bI true = 0 by decide)]
              unfold g_X10_findPoints_158
              rw [wr]
              rfl) (fun s hI => by
    obtain ⟨a1, a2⟩ := hI
    refine ⟨fun K => K x5 (nI p) s, ⟨s, a1, a2, rfl⟩, fun n => ?_⟩
    funext K
    show g_X10_findPoints_92 y (nI j) (nI z) o (some A) (l_X10_findPoints_92 y (nI j) (nI z) o (some A) K n) K x5 (nI p) (nI 12) s = _
    unfold g_X10_findPoints_92
    rw [if_pos (show (12 : Int32) ≤ nI 12 by decide)]) (s0 := m) ⟨Wp.rf A p m, by rw [hw]; congr 1; cases w <;> rfl⟩
  refine ⟨s', q1, q2, fun K => ?_⟩
  have := congrFun (hr FU (by unfold FU; omega)) K
  rw [q3] at this
  exact this
theorem r_findPoints (R : RX m y i j T B d a b) (hA : A = y + 54 ∨ A = y + 55) (hz : z < T.2.1 0) (hzab : z = a ∨ z = b) (ho : ∀ c, c < 12 → ((nI c = nI z ∨ nI c = o) ↔ (c = a ∨ c = b))) : ∃ n, f_X10_findPoints y (nI j) (nI z) o (some A) m = some ((), n) ∧ Mw y a b m n ∧ (∀ p, p < 64 → n.I 24 A p = bI (ptB T B d a b z p)) ∧ ∀ A2 c, A2 ≠ A → (A2 = y + 54 ∨ A2 = y + 55) → n.I 24 A2 c = m.I 24 A2 c := by
  have hn := R.2.2.1.1
  have hi := R.1.2.2.1
  have RT' := R.1.2.2.2.1
  have hM := R.1.1
  obtain ⟨v0, v1, v2, v3, v4, _⟩ := R.2.1.2.2.2.2.2.2.1 z hz
  have vz := bdy_v R.2.1 hz d
  have hol : ownN T z < 64 := by have := (nB_e v1 (by omega)).2; have := (nB_e v2 (by omega)).2; unfold ownN; omega
  obtain ⟨s, ⟨q1, q2, q3⟩, q4⟩ := lp_inv (fun n p (s : MM) => l_X10_findPoints_37 y (nI j) (nI z) o (some A) n (nI (ownN T z)) p s) (fun p s => Mw y a b m s ∧ (∀ p', p' < p → s.I 24 A p' = bI (ptB T B d a b z p')) ∧ ∀ A2 c, A2 ≠ A → (A2 = y + 54 ∨ A2 = y + 55) → s.I 24 A2 c = m.I 24 A2 c) (fun s => some ((), s)) 64 (fun p hp s hI => by
    obtain ⟨a1, a2, a3⟩ := hI
    have Rs := R.mw a1
    obtain ⟨kA, nA⟩ := Rs.ka hA
    have e1 : ¬ (64 : Int32) ≤ nI p := nI_ge (b := 64) hp (by decide)
    have ip := r_isPoint Rs.1.1 (show i < 12 by omega) Rs.1.2.2.2.1.1.1 Rs.1.2.2.2.1.1.2.1 Rs.2.1 (nI (p % 8)) (nI (p / 8))
    have eown : (nI p = nI (ownN T z)) ↔ p = ownN T z := ⟨nI_inj (by omega) (by omega), fun q => by rw [q]⟩
    obtain ⟨w, hw⟩ : ∃ w, w = (hasPt T (nI (p % 8)) (nI (p / 8)) && !decide (p = ownN T z)) := ⟨_, rfl⟩
    have l1 : Mw y a b s (s.sI 24 A p (bI w)) := (Mw.rf y a b s).sI _ _ _ _ (by omega)
    have R1 := Rs.mw l1
    obtain ⟨n2, u1, u2, u3, u4⟩ := r_put R1 hz hzab hp
    have R2 := R1.mw u2
    have hw2 : n2.I 24 A p = bI w := by rw [u4 _ _ _ (by omega), I_sI, if_pos ⟨rfl, rfl, rfl⟩]
    obtain ⟨n3, x1, x2, x3⟩ := r_pt92 (x5 := nI (ownN T z)) R2 hA hz ho u3 hp hw2
    have f81 : ∀ n (v : Int32), v &&& 1 = bI w → g_X10_findPoints_81 y (nI j) (nI z) o (some A) (l_X10_findPoints_37 y (nI j) (nI z) o (some A) n) (nI (ownN T z)) (nI p) (some A) (nI p) v s = l_X10_findPoints_37 y (nI j) (nI z) o (some A) n (nI (ownN T z)) (nI (p + 1)) n3 := by
      intro n v hv
      unfold g_X10_findPoints_81
      rw [ck_s kA, nA, chk_t (inb_nI hp (by decide)), bnd_e, cl_nI (show p < 2 ^ 31 by omega), hv, chk_t R1.1.1.1, u1, cal_s, x3]
      unfold g_X10_findPoints_166
      rw [nI_1]
    refine ⟨n3, ⟨a1.tr (l1.tr (u2.tr (x1.m hA))), fun p' hp' => ?_, fun A2 c h1 h2 => ?_⟩, fun n => ?_⟩
    · by_cases zz : p' = p
      · rw [zz, x2, hw]
        congr 1
        unfold ptB opP
        cases hasPt T (nI (p % 8)) (nI (p / 8)) <;> cases decide (p = ownN T z) <;> simp
      · rw [x1.2.2.2.2 _ _ _ (by omega), u4 _ _ _ (by omega), I_sI, if_neg (by omega)]
        exact a2 p' (by omega)
    · rw [x1.2.2.2.2 _ _ _ (by omega), u4 _ _ _ (by omega), I_sI, if_neg (by omega)]
      exact a3 A2 c h1 h2
    · show g_X10_findPoints_37 y (nI j) (nI z) o (some A) (l_X10_findPoints_37 y (nI j) (nI z) o (some A) n) (nI (ownN T z)) (nI p) s = _
      unfold g_X10_findPoints_37 g_X10_findPoints_80
      rw [if_neg e1]
      by_cases zz : p = ownN T z
      · rw [if_pos (eown.mpr zz), f81 n 0 (by rw [hw, decide_eq_true zz, Bool.not_true, Bool.and_false]; rfl)]
      · rw [if_neg (fun q => zz (eown.mp q)), chk_t Rs.1.1.1, Rs.1.2.1, dv8 p hp, md8 p hp, ip, cal_s]
        rw [decide_eq_false zz, Bool.not_false, Bool.and_true] at hw
        cases hpt : hasPt T (nI (p % 8)) (nI (p / 8)) with
        | false => rw [bI_f, if_pos rfl, f81 n 0 (by rw [hw, hpt]; rfl)]
        | true => rw [if_neg (show ¬ bI true = 0 by decide), f81 n 1 (by rw [hw, hpt]; rfl)]) (fun s hI n => by
    show g_X10_findPoints_37 y (nI j) (nI z) o (some A) (l_X10_findPoints_37 y (nI j) (nI z) o (some A) n) (nI (ownN T z)) (nI 64) s = _
    unfold g_X10_findPoints_37
    rw [if_pos (show (64 : Int32) ≤ nI 64 by decide)]) (s0 := m) ⟨Mw.rf y a b m, fun p' hp' => by omega, fun _ _ _ _ => rfl⟩
  refine ⟨s, ?_, q1, q2, q3⟩
  have e12 : (12 : Int32) * nI i + nI z = nI (12 * i + z) := by rw [show (12 : Int32) * nI i = nI (12 * i) from pk_mul 12 i, nI_add]
  have c1 : m.I 22 (y + 8) (12 * i + z) = T.2.2 0 z 1 := RT'.2.1 z hz 1 (by omega)
  have c2 : m.I 22 (y + 9) (12 * i + z) = T.2.2 0 z 2 := RT'.2.1 z hz 2 (by omega)
  have eo : T.2.2 0 z 1 + 8 * T.2.2 0 z 2 = nI (ownN T z) := by
    rw [(nB_e v1 (by omega)).1, (nB_e v2 (by omega)).1, show (8 : Int32) * nI (T.2.2 0 z 2).toNatClampNeg = nI (8 * (T.2.2 0 z 2).toNatClampNeg) from pk_mul 8 _, nI_add]
    congr 1
    unfold ownN
    omega
  unfold f_X10_findPoints g_X10_findPoints_0
  rw [chk_t hM.1, hM.c1108, hM.n1108, R.1.2.1, e12, chk_t (inb_nI (show 12 * i + z < 144 by omega) (by decide)), hM.c1109, hM.n1109, chk_t (inb_nI (show 12 * i + z < 144 by omega) (by decide)), bnd_e, cl_nI (show 12 * i + z < 2 ^ 31 by omega), c1, c2, eo]
  exact q4 FU (by unfold FU; omega)
end RPT
