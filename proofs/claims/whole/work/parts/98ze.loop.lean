/-! the law's loop -/
theorem chk_some {α : Type} {c : Prop} [Decidable c] {X : Option α} {r : α} (h : chk c X = some r) : c := by
  by_cases q : c
  · exact q
  · unfold chk at h
    rw [if_neg q] at h
    cases h
section LawLoop
variable {x : Nat} {m : MM} {W : WD} {D : Nat → Option (Nat × WD)} {xs : Nat → Int32} {Ln i : Nat} {k18 : Option Nat → Option Nat → Int32 → MM → Option (Int32 × MM)}
theorem ib_ok (hi : i + 8 ≤ Ln) (hl : Ln ≤ 4096) : ∀ j, j < 8 → inb (nI i + nI j) Ln = true := fun j hj => by rw [nI_add]; exact inb_nI (by omega) (by omega)
theorem st_204 (h : Inv m x W D) (hi : i + 8 ≤ Ln) (hl : Ln ≤ 4096) : ∃ m2 W' D', g_L_law_204 xs Ln k18 (some x) (some (x + 106)) (nI i) m = k18 (some x) (some (x + 106)) (nI i + 8) m2 ∧ Inv m2 x W' D' := by
  have b := ib_ok hi hl
  obtain ⟨r, m1, m2, W', D', e1, e2, h2⟩ := m_feed x (xs (Int32.toNatClampNeg (nI i + 1))) (xs (Int32.toNatClampNeg (nI i + 2))) (xs (Int32.toNatClampNeg (nI i + 3))) (xs (Int32.toNatClampNeg (nI i + 4))) (xs (Int32.toNatClampNeg (nI i + 5))) m W D h
  have k2 := e2
  unfold f_X10_feed g_X10_feed_0 at k2
  have k2 := chk_some k2
  refine ⟨m2, W', D', ?_, h2⟩
  unfold g_L_law_204 g_L_law_2039
  rw [chk_t (show inb (nI i + 1) Ln = true from b 1 (by omega)), chk_t (show inb (nI i + 2) Ln = true from b 2 (by omega)), chk_t (show inb (nI i + 3) Ln = true from b 3 (by omega)), chk_t (show inb (nI i + 4) Ln = true from b 4 (by omega)), chk_t (show inb (nI i + 5) Ln = true from b 5 (by omega)), ck_s h.kx, e1, cal_s, chk_t (show inb (nI i + 1) Ln = true from b 1 (by omega)), chk_t (show inb (nI i + 2) Ln = true from b 2 (by omega)), chk_t (show inb (nI i + 3) Ln = true from b 3 (by omega)), chk_t (show inb (nI i + 4) Ln = true from b 4 (by omega)), chk_t (show inb (nI i + 5) Ln = true from b 5 (by omega)), ck_s k2, e2, cal_s, if_pos rfl]
theorem st_267 (h : Inv m x W D) (hi : i + 8 ≤ Ln) (hl : Ln ≤ 4096) : ∃ m2 W' D', g_L_law_267 xs Ln k18 (some x) (some (x + 106)) (nI i) m = k18 (some x) (some (x + 106)) (nI i + 8) m2 ∧ Inv m2 x W' D' := by
  have b := ib_ok hi hl
  obtain ⟨r, m1, m2, W', D', e1, e2, h2⟩ := m_end x (xs (Int32.toNatClampNeg (nI i + 1))) m W D h
  have k2 := e2
  unfold f_X10_end g_X10_end_0 at k2
  have k2 := chk_some k2
  refine ⟨m2, W', D', ?_, h2⟩
  unfold g_L_law_267 g_L_law_2039
  rw [chk_t (show inb (nI i + 1) Ln = true from b 1 (by omega)), ck_s h.kx, e1, cal_s, chk_t (show inb (nI i + 1) Ln = true from b 1 (by omega)), ck_s k2, e2, cal_s, if_pos rfl]
theorem st_290 (h : Inv m x W D) (hi : i + 8 ≤ Ln) (hl : Ln ≤ 4096) : ∃ m2 W' D', g_L_law_290 xs Ln k18 (some x) (some (x + 106)) (nI i) m = k18 (some x) (some (x + 106)) (nI i + 8) m2 ∧ Inv m2 x W' D' := by
  have b := ib_ok hi hl
  obtain ⟨r, m1, m2, W', D', e1, e2, h2⟩ := m_town x (xs (Int32.toNatClampNeg (nI i + 1))) m W D h
  have k2 := e2
  unfold f_X10_town g_X10_town_0 at k2
  have k2 := chk_some k2
  refine ⟨m2, W', D', ?_, h2⟩
  unfold g_L_law_290 g_L_law_2039
  rw [chk_t (show inb (nI i + 1) Ln = true from b 1 (by omega)), ck_s h.kx, e1, cal_s, chk_t (show inb (nI i + 1) Ln = true from b 1 (by omega)), ck_s k2, e2, cal_s, if_pos rfl]
theorem st_313 (h : Inv m x W D) (hi : i + 8 ≤ Ln) (hl : Ln ≤ 4096) : ∃ m2 W' D', g_L_law_313 xs Ln k18 (some x) (some (x + 106)) (nI i) m = k18 (some x) (some (x + 106)) (nI i + 8) m2 ∧ Inv m2 x W' D' := by
  have b := ib_ok hi hl
  obtain ⟨r, m1, m2, W', D', e1, e2, h2⟩ := m_law x (xs (Int32.toNatClampNeg (nI i + 1))) m W D h
  have k2 := e2
  unfold f_X10_law g_X10_law_0 at k2
  have k2 := chk_some k2
  refine ⟨m2, W', D', ?_, h2⟩
  unfold g_L_law_313 g_L_law_2039
  rw [chk_t (show inb (nI i + 1) Ln = true from b 1 (by omega)), ck_s h.kx, e1, cal_s, chk_t (show inb (nI i + 1) Ln = true from b 1 (by omega)), ck_s k2, e2, cal_s, if_pos rfl]
theorem st_336 (h : Inv m x W D) (hi : i + 8 ≤ Ln) (hl : Ln ≤ 4096) : ∃ m2 W' D', g_L_law_336 xs Ln k18 (some x) (some (x + 106)) (nI i) m = k18 (some x) (some (x + 106)) (nI i + 8) m2 ∧ Inv m2 x W' D' := by
  have b := ib_ok hi hl
  obtain ⟨r, m1, m2, W', D', e1, e2, h2⟩ := m_fault x (xs (Int32.toNatClampNeg (nI i + 1))) m W D h
  have k2 := e2
  unfold f_X10_fault g_X10_fault_0 at k2
  have k2 := chk_some k2
  refine ⟨m2, W', D', ?_, h2⟩
  unfold g_L_law_336 g_L_law_2039
  rw [chk_t (show inb (nI i + 1) Ln = true from b 1 (by omega)), ck_s h.kx, e1, cal_s, chk_t (show inb (nI i + 1) Ln = true from b 1 (by omega)), ck_s k2, e2, cal_s, if_pos rfl]
theorem st_359 (h : Inv m x W D) (hi : i + 8 ≤ Ln) (hl : Ln ≤ 4096) : ∃ m2 W' D', g_L_law_359 xs Ln k18 (some x) (some (x + 106)) (nI i) m = k18 (some x) (some (x + 106)) (nI i + 8) m2 ∧ Inv m2 x W' D' := by
  have b := ib_ok hi hl
  obtain ⟨r, m1, m2, W', D', e1, e2, h2⟩ := m_about x (xs (Int32.toNatClampNeg (nI i + 1))) (xs (Int32.toNatClampNeg (nI i + 2))) m W D h
  have k2 := e2
  unfold f_X10_about g_X10_about_0 at k2
  have k2 := chk_some k2
  refine ⟨m2, W', D', ?_, h2⟩
  unfold g_L_law_359 g_L_law_2039
  rw [chk_t (show inb (nI i + 1) Ln = true from b 1 (by omega)), chk_t (show inb (nI i + 2) Ln = true from b 2 (by omega)), ck_s h.kx, e1, cal_s, chk_t (show inb (nI i + 1) Ln = true from b 1 (by omega)), chk_t (show inb (nI i + 2) Ln = true from b 2 (by omega)), ck_s k2, e2, cal_s, if_pos rfl]
theorem st_392 (h : Inv m x W D) (hi : i + 8 ≤ Ln) (hl : Ln ≤ 4096) : ∃ m2 W' D', g_L_law_392 xs Ln k18 (some x) (some (x + 106)) (nI i) m = k18 (some x) (some (x + 106)) (nI i + 8) m2 ∧ Inv m2 x W' D' := by
  have b := ib_ok hi hl
  obtain ⟨r, m1, m2, W', D', e1, e2, h2⟩ := m_thing x (xs (Int32.toNatClampNeg (nI i + 1))) (xs (Int32.toNatClampNeg (nI i + 2))) (xs (Int32.toNatClampNeg (nI i + 3))) m W D h
  have k2 := e2
  unfold f_X10_thing g_X10_thing_0 at k2
  have k2 := chk_some k2
  refine ⟨m2, W', D', ?_, h2⟩
  unfold g_L_law_392 g_L_law_2039
  rw [chk_t (show inb (nI i + 1) Ln = true from b 1 (by omega)), chk_t (show inb (nI i + 2) Ln = true from b 2 (by omega)), chk_t (show inb (nI i + 3) Ln = true from b 3 (by omega)), ck_s h.kx, e1, cal_s, chk_t (show inb (nI i + 1) Ln = true from b 1 (by omega)), chk_t (show inb (nI i + 2) Ln = true from b 2 (by omega)), chk_t (show inb (nI i + 3) Ln = true from b 3 (by omega)), ck_s k2, e2, cal_s, if_pos rfl]
theorem st_435 (h : Inv m x W D) (hi : i + 8 ≤ Ln) (hl : Ln ≤ 4096) : ∃ m2 W' D', g_L_law_435 xs Ln k18 (some x) (some (x + 106)) (nI i) m = k18 (some x) (some (x + 106)) (nI i + 8) m2 ∧ Inv m2 x W' D' := by
  have b := ib_ok hi hl
  obtain ⟨r, m1, m2, W', D', e1, e2, h2⟩ := m_ruled x (xs (Int32.toNatClampNeg (nI i + 1))) (xs (Int32.toNatClampNeg (nI i + 2))) m W D h
  have k2 := e2
  unfold f_X10_ruled g_X10_ruled_0 at k2
  have k2 := chk_some k2
  refine ⟨m2, W', D', ?_, h2⟩
  unfold g_L_law_435 g_L_law_2039
  rw [chk_t (show inb (nI i + 1) Ln = true from b 1 (by omega)), chk_t (show inb (nI i + 2) Ln = true from b 2 (by omega)), ck_s h.kx, e1, cal_s, chk_t (show inb (nI i + 1) Ln = true from b 1 (by omega)), chk_t (show inb (nI i + 2) Ln = true from b 2 (by omega)), ck_s k2, e2, cal_s, if_pos rfl]
theorem st_468 (h : Inv m x W D) (hi : i + 8 ≤ Ln) (hl : Ln ≤ 4096) : ∃ m2 W' D', g_L_law_468 xs Ln k18 (some x) (some (x + 106)) (nI i) m = k18 (some x) (some (x + 106)) (nI i + 8) m2 ∧ Inv m2 x W' D' := by
  have b := ib_ok hi hl
  obtain ⟨r, m1, m2, W', D', e1, e2, h2⟩ := m_add x (xs (Int32.toNatClampNeg (nI i + 1))) (xs (Int32.toNatClampNeg (nI i + 2))) (xs (Int32.toNatClampNeg (nI i + 3))) (xs (Int32.toNatClampNeg (nI i + 4))) (xs (Int32.toNatClampNeg (nI i + 5))) (xs (Int32.toNatClampNeg (nI i + 6))) (xs (Int32.toNatClampNeg (nI i + 7))) m W D h
  have k2 := e2
  unfold f_X10_add g_X10_add_0 at k2
  have k2 := chk_some k2
  refine ⟨m2, W', D', ?_, h2⟩
  unfold g_L_law_468 g_L_law_2039
  rw [chk_t (show inb (nI i + 1) Ln = true from b 1 (by omega)), chk_t (show inb (nI i + 2) Ln = true from b 2 (by omega)), chk_t (show inb (nI i + 3) Ln = true from b 3 (by omega)), chk_t (show inb (nI i + 4) Ln = true from b 4 (by omega)), chk_t (show inb (nI i + 5) Ln = true from b 5 (by omega)), chk_t (show inb (nI i + 6) Ln = true from b 6 (by omega)), chk_t (show inb (nI i + 7) Ln = true from b 7 (by omega)), ck_s h.kx, e1, cal_s, chk_t (show inb (nI i + 1) Ln = true from b 1 (by omega)), chk_t (show inb (nI i + 2) Ln = true from b 2 (by omega)), chk_t (show inb (nI i + 3) Ln = true from b 3 (by omega)), chk_t (show inb (nI i + 4) Ln = true from b 4 (by omega)), chk_t (show inb (nI i + 5) Ln = true from b 5 (by omega)), chk_t (show inb (nI i + 6) Ln = true from b 6 (by omega)), chk_t (show inb (nI i + 7) Ln = true from b 7 (by omega)), ck_s k2, e2, cal_s, if_pos rfl]
theorem st_555 (h : Inv m x W D) (hi : i + 8 ≤ Ln) (hl : Ln ≤ 4096) : ∃ m2 W' D', g_L_law_555 xs Ln k18 (some x) (some (x + 106)) (nI i) m = k18 (some x) (some (x + 106)) (nI i + 8) m2 ∧ Inv m2 x W' D' := by
  have b := ib_ok hi hl
  obtain ⟨r, m1, m2, W', D', e1, e2, h2⟩ := m_gone x (xs (Int32.toNatClampNeg (nI i + 1))) (xs (Int32.toNatClampNeg (nI i + 2))) (xs (Int32.toNatClampNeg (nI i + 3))) m W D h
  have k2 := e2
  unfold f_X10_gone g_X10_gone_0 at k2
  have k2 := chk_some k2
  refine ⟨m2, W', D', ?_, h2⟩
  unfold g_L_law_555 g_L_law_2039
  rw [chk_t (show inb (nI i + 1) Ln = true from b 1 (by omega)), chk_t (show inb (nI i + 2) Ln = true from b 2 (by omega)), chk_t (show inb (nI i + 3) Ln = true from b 3 (by omega)), ck_s h.kx, e1, cal_s, chk_t (show inb (nI i + 1) Ln = true from b 1 (by omega)), chk_t (show inb (nI i + 2) Ln = true from b 2 (by omega)), chk_t (show inb (nI i + 3) Ln = true from b 3 (by omega)), ck_s k2, e2, cal_s, if_pos rfl]
theorem st_598 (h : Inv m x W D) (hi : i + 8 ≤ Ln) (hl : Ln ≤ 4096) : ∃ m2 W' D', g_L_law_598 xs Ln k18 (some x) (some (x + 106)) (nI i) m = k18 (some x) (some (x + 106)) (nI i + 8) m2 ∧ Inv m2 x W' D' := by
  have b := ib_ok hi hl
  obtain ⟨r, m1, m2, W', D', e1, e2, h2⟩ := m_apart x (xs (Int32.toNatClampNeg (nI i + 1))) (xs (Int32.toNatClampNeg (nI i + 2))) (xs (Int32.toNatClampNeg (nI i + 3))) m W D h
  have k2 := e2
  unfold f_X10_apart g_X10_apart_0 at k2
  have k2 := chk_some k2
  refine ⟨m2, W', D', ?_, h2⟩
  unfold g_L_law_598 g_L_law_2039
  rw [chk_t (show inb (nI i + 1) Ln = true from b 1 (by omega)), chk_t (show inb (nI i + 2) Ln = true from b 2 (by omega)), chk_t (show inb (nI i + 3) Ln = true from b 3 (by omega)), ck_s h.kx, e1, cal_s, chk_t (show inb (nI i + 1) Ln = true from b 1 (by omega)), chk_t (show inb (nI i + 2) Ln = true from b 2 (by omega)), chk_t (show inb (nI i + 3) Ln = true from b 3 (by omega)), ck_s k2, e2, cal_s, if_pos rfl]
theorem st_641 (h : Inv m x W D) (hi : i + 8 ≤ Ln) (hl : Ln ≤ 4096) : ∃ m2 W' D', g_L_law_641 xs Ln k18 (some x) (some (x + 106)) (nI i) m = k18 (some x) (some (x + 106)) (nI i + 8) m2 ∧ Inv m2 x W' D' := by
  have b := ib_ok hi hl
  obtain ⟨r, m1, m2, W', D', e1, e2, h2⟩ := m_between x (xs (Int32.toNatClampNeg (nI i + 1))) (xs (Int32.toNatClampNeg (nI i + 2))) (xs (Int32.toNatClampNeg (nI i + 3))) (xs (Int32.toNatClampNeg (nI i + 4))) m W D h
  have k2 := e2
  unfold f_X10_between g_X10_between_0 at k2
  have k2 := chk_some k2
  refine ⟨m2, W', D', ?_, h2⟩
  unfold g_L_law_641 g_L_law_2039
  rw [chk_t (show inb (nI i + 1) Ln = true from b 1 (by omega)), chk_t (show inb (nI i + 2) Ln = true from b 2 (by omega)), chk_t (show inb (nI i + 3) Ln = true from b 3 (by omega)), chk_t (show inb (nI i + 4) Ln = true from b 4 (by omega)), ck_s h.kx, e1, cal_s, chk_t (show inb (nI i + 1) Ln = true from b 1 (by omega)), chk_t (show inb (nI i + 2) Ln = true from b 2 (by omega)), chk_t (show inb (nI i + 3) Ln = true from b 3 (by omega)), chk_t (show inb (nI i + 4) Ln = true from b 4 (by omega)), ck_s k2, e2, cal_s, if_pos rfl]
theorem st_694 (h : Inv m x W D) (hi : i + 8 ≤ Ln) (hl : Ln ≤ 4096) : ∃ m2 W' D', g_L_law_694 xs Ln k18 (some x) (some (x + 106)) (nI i) m = k18 (some x) (some (x + 106)) (nI i + 8) m2 ∧ Inv m2 x W' D' := by
  have b := ib_ok hi hl
  obtain ⟨r, m1, m2, W', D', e1, e2, h2⟩ := m_grown x (xs (Int32.toNatClampNeg (nI i + 1))) (xs (Int32.toNatClampNeg (nI i + 2))) (xs (Int32.toNatClampNeg (nI i + 3))) m W D h
  have k2 := e2
  unfold f_X10_grown g_X10_grown_0 at k2
  have k2 := chk_some k2
  refine ⟨m2, W', D', ?_, h2⟩
  unfold g_L_law_694 g_L_law_2039
  rw [chk_t (show inb (nI i + 1) Ln = true from b 1 (by omega)), chk_t (show inb (nI i + 2) Ln = true from b 2 (by omega)), chk_t (show inb (nI i + 3) Ln = true from b 3 (by omega)), ck_s h.kx, e1, cal_s, chk_t (show inb (nI i + 1) Ln = true from b 1 (by omega)), chk_t (show inb (nI i + 2) Ln = true from b 2 (by omega)), chk_t (show inb (nI i + 3) Ln = true from b 3 (by omega)), ck_s k2, e2, cal_s, if_pos rfl]
theorem st_737 (h : Inv m x W D) (hi : i + 8 ≤ Ln) (hl : Ln ≤ 4096) : ∃ m2 W' D', g_L_law_737 xs Ln k18 (some x) (some (x + 106)) (nI i) m = k18 (some x) (some (x + 106)) (nI i + 8) m2 ∧ Inv m2 x W' D' := by
  have b := ib_ok hi hl
  obtain ⟨r, m1, m2, W', D', e1, e2, h2⟩ := m_bars x (xs (Int32.toNatClampNeg (nI i + 1))) (xs (Int32.toNatClampNeg (nI i + 2))) (xs (Int32.toNatClampNeg (nI i + 3))) m W D h
  have k2 := e2
  unfold f_X10_bars g_X10_bars_0 at k2
  have k2 := chk_some k2
  refine ⟨m2, W', D', ?_, h2⟩
  unfold g_L_law_737 g_L_law_2039
  rw [chk_t (show inb (nI i + 1) Ln = true from b 1 (by omega)), chk_t (show inb (nI i + 2) Ln = true from b 2 (by omega)), chk_t (show inb (nI i + 3) Ln = true from b 3 (by omega)), ck_s h.kx, e1, cal_s, chk_t (show inb (nI i + 1) Ln = true from b 1 (by omega)), chk_t (show inb (nI i + 2) Ln = true from b 2 (by omega)), chk_t (show inb (nI i + 3) Ln = true from b 3 (by omega)), ck_s k2, e2, cal_s, if_pos rfl]
theorem st_780 (h : Inv m x W D) (hi : i + 8 ≤ Ln) (hl : Ln ≤ 4096) : ∃ m2 W' D', g_L_law_780 xs Ln k18 (some x) (some (x + 106)) (nI i) m = k18 (some x) (some (x + 106)) (nI i + 8) m2 ∧ Inv m2 x W' D' := by
  have b := ib_ok hi hl
  obtain ⟨r, m1, m2, W', D', e1, e2, h2⟩ := m_bar x (xs (Int32.toNatClampNeg (nI i + 1))) (xs (Int32.toNatClampNeg (nI i + 2))) (xs (Int32.toNatClampNeg (nI i + 3))) (xs (Int32.toNatClampNeg (nI i + 4))) (xs (Int32.toNatClampNeg (nI i + 5))) m W D h
  have k2 := e2
  unfold f_X10_bar g_X10_bar_0 at k2
  have k2 := chk_some k2
  refine ⟨m2, W', D', ?_, h2⟩
  unfold g_L_law_780 g_L_law_2039
  rw [chk_t (show inb (nI i + 1) Ln = true from b 1 (by omega)), chk_t (show inb (nI i + 2) Ln = true from b 2 (by omega)), chk_t (show inb (nI i + 3) Ln = true from b 3 (by omega)), chk_t (show inb (nI i + 4) Ln = true from b 4 (by omega)), chk_t (show inb (nI i + 5) Ln = true from b 5 (by omega)), ck_s h.kx, e1, cal_s, chk_t (show inb (nI i + 1) Ln = true from b 1 (by omega)), chk_t (show inb (nI i + 2) Ln = true from b 2 (by omega)), chk_t (show inb (nI i + 3) Ln = true from b 3 (by omega)), chk_t (show inb (nI i + 4) Ln = true from b 4 (by omega)), chk_t (show inb (nI i + 5) Ln = true from b 5 (by omega)), ck_s k2, e2, cal_s, if_pos rfl]
theorem st_843 (h : Inv m x W D) (hi : i + 8 ≤ Ln) (hl : Ln ≤ 4096) : ∃ m2 W' D', g_L_law_843 xs Ln k18 (some x) (some (x + 106)) (nI i) m = k18 (some x) (some (x + 106)) (nI i + 8) m2 ∧ Inv m2 x W' D' := by
  have b := ib_ok hi hl
  obtain ⟨r, m1, m2, W', D', e1, e2, h2⟩ := m_goes x (xs (Int32.toNatClampNeg (nI i + 1))) (xs (Int32.toNatClampNeg (nI i + 2))) (xs (Int32.toNatClampNeg (nI i + 3))) m W D h
  have k2 := e2
  unfold f_X10_goes g_X10_goes_0 at k2
  have k2 := chk_some k2
  refine ⟨m2, W', D', ?_, h2⟩
  unfold g_L_law_843 g_L_law_2039
  rw [chk_t (show inb (nI i + 1) Ln = true from b 1 (by omega)), chk_t (show inb (nI i + 2) Ln = true from b 2 (by omega)), chk_t (show inb (nI i + 3) Ln = true from b 3 (by omega)), ck_s h.kx, e1, cal_s, chk_t (show inb (nI i + 1) Ln = true from b 1 (by omega)), chk_t (show inb (nI i + 2) Ln = true from b 2 (by omega)), chk_t (show inb (nI i + 3) Ln = true from b 3 (by omega)), ck_s k2, e2, cal_s, if_pos rfl]
theorem st_886 (h : Inv m x W D) (hi : i + 8 ≤ Ln) (hl : Ln ≤ 4096) : ∃ m2 W' D', g_L_law_886 xs Ln k18 (some x) (some (x + 106)) (nI i) m = k18 (some x) (some (x + 106)) (nI i + 8) m2 ∧ Inv m2 x W' D' := by
  have b := ib_ok hi hl
  obtain ⟨r, m1, m2, W', D', e1, e2, h2⟩ := m_pays x (xs (Int32.toNatClampNeg (nI i + 1))) (xs (Int32.toNatClampNeg (nI i + 2))) (xs (Int32.toNatClampNeg (nI i + 3))) (xs (Int32.toNatClampNeg (nI i + 4))) m W D h
  have k2 := e2
  unfold f_X10_pays g_X10_pays_0 at k2
  have k2 := chk_some k2
  refine ⟨m2, W', D', ?_, h2⟩
  unfold g_L_law_886 g_L_law_2039
  rw [chk_t (show inb (nI i + 1) Ln = true from b 1 (by omega)), chk_t (show inb (nI i + 2) Ln = true from b 2 (by omega)), chk_t (show inb (nI i + 3) Ln = true from b 3 (by omega)), chk_t (show inb (nI i + 4) Ln = true from b 4 (by omega)), ck_s h.kx, e1, cal_s, chk_t (show inb (nI i + 1) Ln = true from b 1 (by omega)), chk_t (show inb (nI i + 2) Ln = true from b 2 (by omega)), chk_t (show inb (nI i + 3) Ln = true from b 3 (by omega)), chk_t (show inb (nI i + 4) Ln = true from b 4 (by omega)), ck_s k2, e2, cal_s, if_pos rfl]
theorem st_939 (h : Inv m x W D) (hi : i + 8 ≤ Ln) (hl : Ln ≤ 4096) : ∃ m2 W' D', g_L_law_939 xs Ln k18 (some x) (some (x + 106)) (nI i) m = k18 (some x) (some (x + 106)) (nI i + 8) m2 ∧ Inv m2 x W' D' := by
  have b := ib_ok hi hl
  obtain ⟨r, m1, m2, W', D', e1, e2, h2⟩ := m_first x (xs (Int32.toNatClampNeg (nI i + 1))) (xs (Int32.toNatClampNeg (nI i + 2))) (xs (Int32.toNatClampNeg (nI i + 3))) (xs (Int32.toNatClampNeg (nI i + 4))) m W D h
  have k2 := e2
  unfold f_X10_first g_X10_first_0 at k2
  have k2 := chk_some k2
  refine ⟨m2, W', D', ?_, h2⟩
  unfold g_L_law_939 g_L_law_2039
  rw [chk_t (show inb (nI i + 1) Ln = true from b 1 (by omega)), chk_t (show inb (nI i + 2) Ln = true from b 2 (by omega)), chk_t (show inb (nI i + 3) Ln = true from b 3 (by omega)), chk_t (show inb (nI i + 4) Ln = true from b 4 (by omega)), ck_s h.kx, e1, cal_s, chk_t (show inb (nI i + 1) Ln = true from b 1 (by omega)), chk_t (show inb (nI i + 2) Ln = true from b 2 (by omega)), chk_t (show inb (nI i + 3) Ln = true from b 3 (by omega)), chk_t (show inb (nI i + 4) Ln = true from b 4 (by omega)), ck_s k2, e2, cal_s, if_pos rfl]
theorem st_992 (h : Inv m x W D) (hi : i + 8 ≤ Ln) (hl : Ln ≤ 4096) : ∃ m2 W' D', g_L_law_992 xs Ln k18 (some x) (some (x + 106)) (nI i) m = k18 (some x) (some (x + 106)) (nI i + 8) m2 ∧ Inv m2 x W' D' := by
  have b := ib_ok hi hl
  obtain ⟨r, m1, m2, W', D', e1, e2, h2⟩ := m_may x (xs (Int32.toNatClampNeg (nI i + 1))) (xs (Int32.toNatClampNeg (nI i + 2))) (xs (Int32.toNatClampNeg (nI i + 3))) (xs (Int32.toNatClampNeg (nI i + 4))) (xs (Int32.toNatClampNeg (nI i + 5))) (xs (Int32.toNatClampNeg (nI i + 6))) (xs (Int32.toNatClampNeg (nI i + 7))) m W D h
  have k2 := e2
  unfold f_X10_may g_X10_may_0 at k2
  have k2 := chk_some k2
  refine ⟨m2, W', D', ?_, h2⟩
  unfold g_L_law_992 g_L_law_2039
  rw [chk_t (show inb (nI i + 1) Ln = true from b 1 (by omega)), chk_t (show inb (nI i + 2) Ln = true from b 2 (by omega)), chk_t (show inb (nI i + 3) Ln = true from b 3 (by omega)), chk_t (show inb (nI i + 4) Ln = true from b 4 (by omega)), chk_t (show inb (nI i + 5) Ln = true from b 5 (by omega)), chk_t (show inb (nI i + 6) Ln = true from b 6 (by omega)), chk_t (show inb (nI i + 7) Ln = true from b 7 (by omega)), ck_s h.kx, e1, cal_s, chk_t (show inb (nI i + 1) Ln = true from b 1 (by omega)), chk_t (show inb (nI i + 2) Ln = true from b 2 (by omega)), chk_t (show inb (nI i + 3) Ln = true from b 3 (by omega)), chk_t (show inb (nI i + 4) Ln = true from b 4 (by omega)), chk_t (show inb (nI i + 5) Ln = true from b 5 (by omega)), chk_t (show inb (nI i + 6) Ln = true from b 6 (by omega)), chk_t (show inb (nI i + 7) Ln = true from b 7 (by omega)), ck_s k2, e2, cal_s, if_pos rfl]
theorem st_1079 (h : Inv m x W D) (hi : i + 8 ≤ Ln) (hl : Ln ≤ 4096) : ∃ m2 W' D', g_L_law_1079 xs Ln k18 (some x) (some (x + 106)) (nI i) m = k18 (some x) (some (x + 106)) (nI i + 8) m2 ∧ Inv m2 x W' D' := by
  have b := ib_ok hi hl
  obtain ⟨r, m1, m2, W', D', e1, e2, h2⟩ := m_spots x (xs (Int32.toNatClampNeg (nI i + 1))) (xs (Int32.toNatClampNeg (nI i + 2))) (xs (Int32.toNatClampNeg (nI i + 3))) (xs (Int32.toNatClampNeg (nI i + 4))) (xs (Int32.toNatClampNeg (nI i + 5))) m W D h
  have k2 := e2
  unfold f_X10_spots g_X10_spots_0 at k2
  have k2 := chk_some k2
  refine ⟨m2, W', D', ?_, h2⟩
  unfold g_L_law_1079 g_L_law_2039
  rw [chk_t (show inb (nI i + 1) Ln = true from b 1 (by omega)), chk_t (show inb (nI i + 2) Ln = true from b 2 (by omega)), chk_t (show inb (nI i + 3) Ln = true from b 3 (by omega)), chk_t (show inb (nI i + 4) Ln = true from b 4 (by omega)), chk_t (show inb (nI i + 5) Ln = true from b 5 (by omega)), ck_s h.kx, e1, cal_s, chk_t (show inb (nI i + 1) Ln = true from b 1 (by omega)), chk_t (show inb (nI i + 2) Ln = true from b 2 (by omega)), chk_t (show inb (nI i + 3) Ln = true from b 3 (by omega)), chk_t (show inb (nI i + 4) Ln = true from b 4 (by omega)), chk_t (show inb (nI i + 5) Ln = true from b 5 (by omega)), ck_s k2, e2, cal_s, if_pos rfl]
theorem st_1142 (h : Inv m x W D) (hi : i + 8 ≤ Ln) (hl : Ln ≤ 4096) : ∃ m2 W' D', g_L_law_1142 xs Ln k18 (some x) (some (x + 106)) (nI i) m = k18 (some x) (some (x + 106)) (nI i + 8) m2 ∧ Inv m2 x W' D' := by
  have b := ib_ok hi hl
  obtain ⟨r, m1, m2, W', D', e1, e2, h2⟩ := m_spot x (xs (Int32.toNatClampNeg (nI i + 1))) (xs (Int32.toNatClampNeg (nI i + 2))) (xs (Int32.toNatClampNeg (nI i + 3))) (xs (Int32.toNatClampNeg (nI i + 4))) (xs (Int32.toNatClampNeg (nI i + 5))) (xs (Int32.toNatClampNeg (nI i + 6))) m W D h
  have k2 := e2
  unfold f_X10_spot g_X10_spot_0 at k2
  have k2 := chk_some k2
  refine ⟨m2, W', D', ?_, h2⟩
  unfold g_L_law_1142 g_L_law_2039
  rw [chk_t (show inb (nI i + 1) Ln = true from b 1 (by omega)), chk_t (show inb (nI i + 2) Ln = true from b 2 (by omega)), chk_t (show inb (nI i + 3) Ln = true from b 3 (by omega)), chk_t (show inb (nI i + 4) Ln = true from b 4 (by omega)), chk_t (show inb (nI i + 5) Ln = true from b 5 (by omega)), chk_t (show inb (nI i + 6) Ln = true from b 6 (by omega)), ck_s h.kx, e1, cal_s, chk_t (show inb (nI i + 1) Ln = true from b 1 (by omega)), chk_t (show inb (nI i + 2) Ln = true from b 2 (by omega)), chk_t (show inb (nI i + 3) Ln = true from b 3 (by omega)), chk_t (show inb (nI i + 4) Ln = true from b 4 (by omega)), chk_t (show inb (nI i + 5) Ln = true from b 5 (by omega)), chk_t (show inb (nI i + 6) Ln = true from b 6 (by omega)), ck_s k2, e2, cal_s, if_pos rfl]
theorem st_1217 (h : Inv m x W D) (hi : i + 8 ≤ Ln) (hl : Ln ≤ 4096) : ∃ m2 W' D', g_L_law_1217 xs Ln k18 (some x) (some (x + 106)) (nI i) m = k18 (some x) (some (x + 106)) (nI i + 8) m2 ∧ Inv m2 x W' D' := by
  have b := ib_ok hi hl
  obtain ⟨r, m1, m2, W', D', e1, e2, h2⟩ := m_wish x (xs (Int32.toNatClampNeg (nI i + 1))) (xs (Int32.toNatClampNeg (nI i + 2))) (xs (Int32.toNatClampNeg (nI i + 3))) m W D h
  have k2 := e2
  unfold f_X10_wish g_X10_wish_0 at k2
  have k2 := chk_some k2
  refine ⟨m2, W', D', ?_, h2⟩
  unfold g_L_law_1217 g_L_law_2039
  rw [chk_t (show inb (nI i + 1) Ln = true from b 1 (by omega)), chk_t (show inb (nI i + 2) Ln = true from b 2 (by omega)), chk_t (show inb (nI i + 3) Ln = true from b 3 (by omega)), ck_s h.kx, e1, cal_s, chk_t (show inb (nI i + 1) Ln = true from b 1 (by omega)), chk_t (show inb (nI i + 2) Ln = true from b 2 (by omega)), chk_t (show inb (nI i + 3) Ln = true from b 3 (by omega)), ck_s k2, e2, cal_s, if_pos rfl]
theorem st_1260 (h : Inv m x W D) (hi : i + 8 ≤ Ln) (hl : Ln ≤ 4096) : ∃ m2 W' D', g_L_law_1260 xs Ln k18 (some x) (some (x + 106)) (nI i) m = k18 (some x) (some (x + 106)) (nI i + 8) m2 ∧ Inv m2 x W' D' := by
  have b := ib_ok hi hl
  obtain ⟨r, m1, m2, W', D', e1, e2, h2⟩ := m_forget x (xs (Int32.toNatClampNeg (nI i + 1))) m W D h
  have k2 := e2
  unfold f_X10_forget g_X10_forget_0 at k2
  have k2 := chk_some k2
  refine ⟨m2, W', D', ?_, h2⟩
  unfold g_L_law_1260 g_L_law_2039
  rw [chk_t (show inb (nI i + 1) Ln = true from b 1 (by omega)), ck_s h.kx, e1, cal_s, chk_t (show inb (nI i + 1) Ln = true from b 1 (by omega)), ck_s k2, e2, cal_s, if_pos rfl]
theorem st_1283 (h : Inv m x W D) (hi : i + 8 ≤ Ln) (hl : Ln ≤ 4096) : ∃ m2 W' D', g_L_law_1283 xs Ln k18 (some x) (some (x + 106)) (nI i) m = k18 (some x) (some (x + 106)) (nI i + 8) m2 ∧ Inv m2 x W' D' := by
  have b := ib_ok hi hl
  by_cases z : xs (Int32.toNatClampNeg (nI i + 4)) = 0
  · obtain ⟨r, m1, m2, W', D', e1, e2, h2⟩ := m_plan x (xs (Int32.toNatClampNeg (nI i + 1))) (xs (Int32.toNatClampNeg (nI i + 2))) (xs (Int32.toNatClampNeg (nI i + 3))) 0 (xs (Int32.toNatClampNeg (nI i + 5))) m W D h
    have k2 := e2
    unfold f_X10_plan g_X10_plan_0 at k2
    have k2 := chk_some k2
    refine ⟨m2, W', D', ?_, h2⟩
    unfold g_L_law_1283 g_L_law_1312 g_L_law_1349 g_L_law_2039
    rw [chk_t (show inb (nI i + 1) Ln = true from b 1 (by omega)), chk_t (show inb (nI i + 2) Ln = true from b 2 (by omega)), chk_t (show inb (nI i + 3) Ln = true from b 3 (by omega)), chk_t (show inb (nI i + 4) Ln = true from b 4 (by omega)), if_pos z, chk_t (show inb (nI i + 5) Ln = true from b 5 (by omega)), ck_s h.kx, e1, cal_s, chk_t (show inb (nI i + 1) Ln = true from b 1 (by omega)), chk_t (show inb (nI i + 2) Ln = true from b 2 (by omega)), chk_t (show inb (nI i + 3) Ln = true from b 3 (by omega)), chk_t (show inb (nI i + 4) Ln = true from b 4 (by omega)), if_pos z, chk_t (show inb (nI i + 5) Ln = true from b 5 (by omega)), ck_s k2, e2, cal_s, if_pos rfl]
  · obtain ⟨r, m1, m2, W', D', e1, e2, h2⟩ := m_plan x (xs (Int32.toNatClampNeg (nI i + 1))) (xs (Int32.toNatClampNeg (nI i + 2))) (xs (Int32.toNatClampNeg (nI i + 3))) 1 (xs (Int32.toNatClampNeg (nI i + 5))) m W D h
    have k2 := e2
    unfold f_X10_plan g_X10_plan_0 at k2
    have k2 := chk_some k2
    refine ⟨m2, W', D', ?_, h2⟩
    unfold g_L_law_1283 g_L_law_1312 g_L_law_1349 g_L_law_2039
    rw [chk_t (show inb (nI i + 1) Ln = true from b 1 (by omega)), chk_t (show inb (nI i + 2) Ln = true from b 2 (by omega)), chk_t (show inb (nI i + 3) Ln = true from b 3 (by omega)), chk_t (show inb (nI i + 4) Ln = true from b 4 (by omega)), if_neg z, chk_t (show inb (nI i + 5) Ln = true from b 5 (by omega)), ck_s h.kx, e1, cal_s, chk_t (show inb (nI i + 1) Ln = true from b 1 (by omega)), chk_t (show inb (nI i + 2) Ln = true from b 2 (by omega)), chk_t (show inb (nI i + 3) Ln = true from b 3 (by omega)), chk_t (show inb (nI i + 4) Ln = true from b 4 (by omega)), if_neg z, chk_t (show inb (nI i + 5) Ln = true from b 5 (by omega)), ck_s k2, e2, cal_s, if_pos rfl]
theorem st_1362 (h : Inv m x W D) (hi : i + 8 ≤ Ln) (hl : Ln ≤ 4096) : ∃ m2 W' D', g_L_law_1362 xs Ln k18 (some x) (some (x + 106)) (nI i) m = k18 (some x) (some (x + 106)) (nI i + 8) m2 ∧ Inv m2 x W' D' := by
  have b := ib_ok hi hl
  obtain ⟨r, m1, m2, W', D', e1, e2, h2⟩ := m_blame x (xs (Int32.toNatClampNeg (nI i + 1))) (xs (Int32.toNatClampNeg (nI i + 2))) (xs (Int32.toNatClampNeg (nI i + 3))) m W D h
  have k2 := e2
  unfold f_X10_blame g_X10_blame_0 at k2
  have k2 := chk_some k2
  refine ⟨m2, W', D', ?_, h2⟩
  unfold g_L_law_1362 g_L_law_2039
  rw [chk_t (show inb (nI i + 1) Ln = true from b 1 (by omega)), chk_t (show inb (nI i + 2) Ln = true from b 2 (by omega)), chk_t (show inb (nI i + 3) Ln = true from b 3 (by omega)), ck_s h.kx, e1, cal_s, chk_t (show inb (nI i + 1) Ln = true from b 1 (by omega)), chk_t (show inb (nI i + 2) Ln = true from b 2 (by omega)), chk_t (show inb (nI i + 3) Ln = true from b 3 (by omega)), ck_s k2, e2, cal_s, if_pos rfl]
theorem st_1405 (h : Inv m x W D) (hi : i + 8 ≤ Ln) (hl : Ln ≤ 4096) : ∃ m2 W' D', g_L_law_1405 xs Ln k18 (some x) (some (x + 106)) (nI i) m = k18 (some x) (some (x + 106)) (nI i + 8) m2 ∧ Inv m2 x W' D' := by
  have b := ib_ok hi hl
  by_cases z : xs (Int32.toNatClampNeg (nI i + 4)) = 0
  · obtain ⟨r, m1, m2, W', D', e1, e2, h2⟩ := m_fewest x (xs (Int32.toNatClampNeg (nI i + 1))) (xs (Int32.toNatClampNeg (nI i + 2))) (xs (Int32.toNatClampNeg (nI i + 3))) 0 m W D h
    have k2 := e2
    unfold f_X10_fewest g_X10_fewest_0 at k2
    have k2 := chk_some k2
    refine ⟨m2, W', D', ?_, h2⟩
    unfold g_L_law_1405 g_L_law_1434 g_L_law_1466 g_L_law_2039
    rw [chk_t (show inb (nI i + 1) Ln = true from b 1 (by omega)), chk_t (show inb (nI i + 2) Ln = true from b 2 (by omega)), chk_t (show inb (nI i + 3) Ln = true from b 3 (by omega)), chk_t (show inb (nI i + 4) Ln = true from b 4 (by omega)), if_pos z, ck_s h.kx, e1, cal_s, chk_t (show inb (nI i + 1) Ln = true from b 1 (by omega)), chk_t (show inb (nI i + 2) Ln = true from b 2 (by omega)), chk_t (show inb (nI i + 3) Ln = true from b 3 (by omega)), chk_t (show inb (nI i + 4) Ln = true from b 4 (by omega)), if_pos z, ck_s k2, e2, cal_s, if_pos rfl]
  · obtain ⟨r, m1, m2, W', D', e1, e2, h2⟩ := m_fewest x (xs (Int32.toNatClampNeg (nI i + 1))) (xs (Int32.toNatClampNeg (nI i + 2))) (xs (Int32.toNatClampNeg (nI i + 3))) 1 m W D h
    have k2 := e2
    unfold f_X10_fewest g_X10_fewest_0 at k2
    have k2 := chk_some k2
    refine ⟨m2, W', D', ?_, h2⟩
    unfold g_L_law_1405 g_L_law_1434 g_L_law_1466 g_L_law_2039
    rw [chk_t (show inb (nI i + 1) Ln = true from b 1 (by omega)), chk_t (show inb (nI i + 2) Ln = true from b 2 (by omega)), chk_t (show inb (nI i + 3) Ln = true from b 3 (by omega)), chk_t (show inb (nI i + 4) Ln = true from b 4 (by omega)), if_neg z, ck_s h.kx, e1, cal_s, chk_t (show inb (nI i + 1) Ln = true from b 1 (by omega)), chk_t (show inb (nI i + 2) Ln = true from b 2 (by omega)), chk_t (show inb (nI i + 3) Ln = true from b 3 (by omega)), chk_t (show inb (nI i + 4) Ln = true from b 4 (by omega)), if_neg z, ck_s k2, e2, cal_s, if_pos rfl]
theorem st_1474 (h : Inv m x W D) (hi : i + 8 ≤ Ln) (hl : Ln ≤ 4096) : ∃ m2 W' D', g_L_law_1474 xs Ln k18 (some x) (some (x + 106)) (nI i) m = k18 (some x) (some (x + 106)) (nI i + 8) m2 ∧ Inv m2 x W' D' := by
  have b := ib_ok hi hl
  obtain ⟨r, m1, m2, W', D', e1, e2, h2⟩ := m_fenced x (xs (Int32.toNatClampNeg (nI i + 1))) (xs (Int32.toNatClampNeg (nI i + 2))) (xs (Int32.toNatClampNeg (nI i + 3))) m W D h
  have k2 := e2
  unfold f_X10_fenced g_X10_fenced_0 at k2
  have k2 := chk_some k2
  refine ⟨m2, W', D', ?_, h2⟩
  unfold g_L_law_1474 g_L_law_2039
  rw [chk_t (show inb (nI i + 1) Ln = true from b 1 (by omega)), chk_t (show inb (nI i + 2) Ln = true from b 2 (by omega)), chk_t (show inb (nI i + 3) Ln = true from b 3 (by omega)), ck_s h.kx, e1, cal_s, chk_t (show inb (nI i + 1) Ln = true from b 1 (by omega)), chk_t (show inb (nI i + 2) Ln = true from b 2 (by omega)), chk_t (show inb (nI i + 3) Ln = true from b 3 (by omega)), ck_s k2, e2, cal_s, if_pos rfl]
theorem st_1517 (h : Inv m x W D) (hi : i + 8 ≤ Ln) (hl : Ln ≤ 4096) : ∃ m2 W' D', g_L_law_1517 xs Ln k18 (some x) (some (x + 106)) (nI i) m = k18 (some x) (some (x + 106)) (nI i + 8) m2 ∧ Inv m2 x W' D' := by
  have b := ib_ok hi hl
  obtain ⟨r, m1, m2, W', D', e1, e2, h2⟩ := m_smells x (xs (Int32.toNatClampNeg (nI i + 1))) (xs (Int32.toNatClampNeg (nI i + 2))) (xs (Int32.toNatClampNeg (nI i + 3))) m W D h
  have k2 := e2
  unfold f_X10_smells g_X10_smells_0 at k2
  have k2 := chk_some k2
  refine ⟨m2, W', D', ?_, h2⟩
  unfold g_L_law_1517 g_L_law_2039
  rw [chk_t (show inb (nI i + 1) Ln = true from b 1 (by omega)), chk_t (show inb (nI i + 2) Ln = true from b 2 (by omega)), chk_t (show inb (nI i + 3) Ln = true from b 3 (by omega)), ck_s h.kx, e1, cal_s, chk_t (show inb (nI i + 1) Ln = true from b 1 (by omega)), chk_t (show inb (nI i + 2) Ln = true from b 2 (by omega)), chk_t (show inb (nI i + 3) Ln = true from b 3 (by omega)), ck_s k2, e2, cal_s, if_pos rfl]
theorem st_1560 (h : Inv m x W D) (hi : i + 8 ≤ Ln) (hl : Ln ≤ 4096) : ∃ m2 W' D', g_L_law_1560 xs Ln k18 (some x) (some (x + 106)) (nI i) m = k18 (some x) (some (x + 106)) (nI i + 8) m2 ∧ Inv m2 x W' D' := by
  have b := ib_ok hi hl
  obtain ⟨r, m1, m2, W', D', e1, e2, h2⟩ := m_beside x (xs (Int32.toNatClampNeg (nI i + 1))) (xs (Int32.toNatClampNeg (nI i + 2))) (xs (Int32.toNatClampNeg (nI i + 3))) (xs (Int32.toNatClampNeg (nI i + 4))) m W D h
  have k2 := e2
  unfold f_X10_beside g_X10_beside_0 at k2
  have k2 := chk_some k2
  refine ⟨m2, W', D', ?_, h2⟩
  unfold g_L_law_1560 g_L_law_2039
  rw [chk_t (show inb (nI i + 1) Ln = true from b 1 (by omega)), chk_t (show inb (nI i + 2) Ln = true from b 2 (by omega)), chk_t (show inb (nI i + 3) Ln = true from b 3 (by omega)), chk_t (show inb (nI i + 4) Ln = true from b 4 (by omega)), ck_s h.kx, e1, cal_s, chk_t (show inb (nI i + 1) Ln = true from b 1 (by omega)), chk_t (show inb (nI i + 2) Ln = true from b 2 (by omega)), chk_t (show inb (nI i + 3) Ln = true from b 3 (by omega)), chk_t (show inb (nI i + 4) Ln = true from b 4 (by omega)), ck_s k2, e2, cal_s, if_pos rfl]
theorem st_1613 (h : Inv m x W D) (hi : i + 8 ≤ Ln) (hl : Ln ≤ 4096) : ∃ m2 W' D', g_L_law_1613 xs Ln k18 (some x) (some (x + 106)) (nI i) m = k18 (some x) (some (x + 106)) (nI i + 8) m2 ∧ Inv m2 x W' D' := by
  have b := ib_ok hi hl
  obtain ⟨r, m1, m2, W', D', e1, e2, h2⟩ := m_moved x (xs (Int32.toNatClampNeg (nI i + 1))) (xs (Int32.toNatClampNeg (nI i + 2))) (xs (Int32.toNatClampNeg (nI i + 3))) m W D h
  have k2 := e2
  unfold f_X10_moved g_X10_moved_0 at k2
  have k2 := chk_some k2
  refine ⟨m2, W', D', ?_, h2⟩
  unfold g_L_law_1613 g_L_law_2039
  rw [chk_t (show inb (nI i + 1) Ln = true from b 1 (by omega)), chk_t (show inb (nI i + 2) Ln = true from b 2 (by omega)), chk_t (show inb (nI i + 3) Ln = true from b 3 (by omega)), ck_s h.kx, e1, cal_s, chk_t (show inb (nI i + 1) Ln = true from b 1 (by omega)), chk_t (show inb (nI i + 2) Ln = true from b 2 (by omega)), chk_t (show inb (nI i + 3) Ln = true from b 3 (by omega)), ck_s k2, e2, cal_s, if_pos rfl]
theorem st_1656 (h : Inv m x W D) (hi : i + 8 ≤ Ln) (hl : Ln ≤ 4096) : ∃ m2 W' D', g_L_law_1656 xs Ln k18 (some x) (some (x + 106)) (nI i) m = k18 (some x) (some (x + 106)) (nI i + 8) m2 ∧ Inv m2 x W' D' := by
  have b := ib_ok hi hl
  obtain ⟨r, m1, m2, W', D', e1, e2, h2⟩ := m_movedTo x (xs (Int32.toNatClampNeg (nI i + 1))) (xs (Int32.toNatClampNeg (nI i + 2))) (xs (Int32.toNatClampNeg (nI i + 3))) (xs (Int32.toNatClampNeg (nI i + 4))) m W D h
  have k2 := e2
  unfold f_X10_movedTo g_X10_movedTo_0 at k2
  have k2 := chk_some k2
  refine ⟨m2, W', D', ?_, h2⟩
  unfold g_L_law_1656 g_L_law_2039
  rw [chk_t (show inb (nI i + 1) Ln = true from b 1 (by omega)), chk_t (show inb (nI i + 2) Ln = true from b 2 (by omega)), chk_t (show inb (nI i + 3) Ln = true from b 3 (by omega)), chk_t (show inb (nI i + 4) Ln = true from b 4 (by omega)), ck_s h.kx, e1, cal_s, chk_t (show inb (nI i + 1) Ln = true from b 1 (by omega)), chk_t (show inb (nI i + 2) Ln = true from b 2 (by omega)), chk_t (show inb (nI i + 3) Ln = true from b 3 (by omega)), chk_t (show inb (nI i + 4) Ln = true from b 4 (by omega)), ck_s k2, e2, cal_s, if_pos rfl]
theorem st_1709 (h : Inv m x W D) (hi : i + 8 ≤ Ln) (hl : Ln ≤ 4096) : ∃ m2 W' D', g_L_law_1709 xs Ln k18 (some x) (some (x + 106)) (nI i) m = k18 (some x) (some (x + 106)) (nI i + 8) m2 ∧ Inv m2 x W' D' := by
  have b := ib_ok hi hl
  obtain ⟨r, m1, m2, W', D', e1, e2, h2⟩ := m_quiet x (xs (Int32.toNatClampNeg (nI i + 1))) (xs (Int32.toNatClampNeg (nI i + 2))) (xs (Int32.toNatClampNeg (nI i + 3))) m W D h
  have k2 := e2
  unfold f_X10_quiet g_X10_quiet_0 at k2
  have k2 := chk_some k2
  refine ⟨m2, W', D', ?_, h2⟩
  unfold g_L_law_1709 g_L_law_2039
  rw [chk_t (show inb (nI i + 1) Ln = true from b 1 (by omega)), chk_t (show inb (nI i + 2) Ln = true from b 2 (by omega)), chk_t (show inb (nI i + 3) Ln = true from b 3 (by omega)), ck_s h.kx, e1, cal_s, chk_t (show inb (nI i + 1) Ln = true from b 1 (by omega)), chk_t (show inb (nI i + 2) Ln = true from b 2 (by omega)), chk_t (show inb (nI i + 3) Ln = true from b 3 (by omega)), ck_s k2, e2, cal_s, if_pos rfl]
theorem st_1752 (h : Inv m x W D) (hi : i + 8 ≤ Ln) (hl : Ln ≤ 4096) : ∃ m2 W' D', g_L_law_1752 xs Ln k18 (some x) (some (x + 106)) (nI i) m = k18 (some x) (some (x + 106)) (nI i + 8) m2 ∧ Inv m2 x W' D' := by
  have b := ib_ok hi hl
  obtain ⟨r, m1, m2, W', D', e1, e2, h2⟩ := m_room x (xs (Int32.toNatClampNeg (nI i + 1))) (xs (Int32.toNatClampNeg (nI i + 2))) (xs (Int32.toNatClampNeg (nI i + 3))) m W D h
  have k2 := e2
  unfold f_X10_room g_X10_room_0 at k2
  have k2 := chk_some k2
  refine ⟨m2, W', D', ?_, h2⟩
  unfold g_L_law_1752 g_L_law_2039
  rw [chk_t (show inb (nI i + 1) Ln = true from b 1 (by omega)), chk_t (show inb (nI i + 2) Ln = true from b 2 (by omega)), chk_t (show inb (nI i + 3) Ln = true from b 3 (by omega)), ck_s h.kx, e1, cal_s, chk_t (show inb (nI i + 1) Ln = true from b 1 (by omega)), chk_t (show inb (nI i + 2) Ln = true from b 2 (by omega)), chk_t (show inb (nI i + 3) Ln = true from b 3 (by omega)), ck_s k2, e2, cal_s, if_pos rfl]
theorem st_1795 (h : Inv m x W D) (hi : i + 8 ≤ Ln) (hl : Ln ≤ 4096) : ∃ m2 W' D', g_L_law_1795 xs Ln k18 (some x) (some (x + 106)) (nI i) m = k18 (some x) (some (x + 106)) (nI i + 8) m2 ∧ Inv m2 x W' D' := by
  have b := ib_ok hi hl
  obtain ⟨r, m1, m2, W', D', e1, e2, h2⟩ := m_by x (xs (Int32.toNatClampNeg (nI i + 1))) (xs (Int32.toNatClampNeg (nI i + 2))) (xs (Int32.toNatClampNeg (nI i + 3))) (xs (Int32.toNatClampNeg (nI i + 4))) m W D h
  have k2 := e2
  unfold f_X10_by g_X10_by_0 at k2
  have k2 := chk_some k2
  refine ⟨m2, W', D', ?_, h2⟩
  unfold g_L_law_1795 g_L_law_2039
  rw [chk_t (show inb (nI i + 1) Ln = true from b 1 (by omega)), chk_t (show inb (nI i + 2) Ln = true from b 2 (by omega)), chk_t (show inb (nI i + 3) Ln = true from b 3 (by omega)), chk_t (show inb (nI i + 4) Ln = true from b 4 (by omega)), ck_s h.kx, e1, cal_s, chk_t (show inb (nI i + 1) Ln = true from b 1 (by omega)), chk_t (show inb (nI i + 2) Ln = true from b 2 (by omega)), chk_t (show inb (nI i + 3) Ln = true from b 3 (by omega)), chk_t (show inb (nI i + 4) Ln = true from b 4 (by omega)), ck_s k2, e2, cal_s, if_pos rfl]
theorem st_1848 (h : Inv m x W D) (hi : i + 8 ≤ Ln) (hl : Ln ≤ 4096) : ∃ m2 W' D', g_L_law_1848 xs Ln k18 (some x) (some (x + 106)) (nI i) m = k18 (some x) (some (x + 106)) (nI i + 8) m2 ∧ Inv m2 x W' D' := by
  have b := ib_ok hi hl
  by_cases z : xs (Int32.toNatClampNeg (nI i + 3)) = 0
  · obtain ⟨r, m1, m2, W', D', e1, e2, h2⟩ := m_days x (xs (Int32.toNatClampNeg (nI i + 1))) (xs (Int32.toNatClampNeg (nI i + 2))) 0 m W D h
    have k2 := e2
    unfold f_X10_days g_X10_days_0 at k2
    have k2 := chk_some k2
    refine ⟨m2, W', D', ?_, h2⟩
    unfold g_L_law_1848 g_L_law_1872 g_L_law_1899 g_L_law_2039
    rw [chk_t (show inb (nI i + 1) Ln = true from b 1 (by omega)), chk_t (show inb (nI i + 2) Ln = true from b 2 (by omega)), chk_t (show inb (nI i + 3) Ln = true from b 3 (by omega)), if_pos z, ck_s h.kx, e1, cal_s, chk_t (show inb (nI i + 1) Ln = true from b 1 (by omega)), chk_t (show inb (nI i + 2) Ln = true from b 2 (by omega)), chk_t (show inb (nI i + 3) Ln = true from b 3 (by omega)), if_pos z, ck_s k2, e2, cal_s, if_pos rfl]
  · obtain ⟨r, m1, m2, W', D', e1, e2, h2⟩ := m_days x (xs (Int32.toNatClampNeg (nI i + 1))) (xs (Int32.toNatClampNeg (nI i + 2))) 1 m W D h
    have k2 := e2
    unfold f_X10_days g_X10_days_0 at k2
    have k2 := chk_some k2
    refine ⟨m2, W', D', ?_, h2⟩
    unfold g_L_law_1848 g_L_law_1872 g_L_law_1899 g_L_law_2039
    rw [chk_t (show inb (nI i + 1) Ln = true from b 1 (by omega)), chk_t (show inb (nI i + 2) Ln = true from b 2 (by omega)), chk_t (show inb (nI i + 3) Ln = true from b 3 (by omega)), if_neg z, ck_s h.kx, e1, cal_s, chk_t (show inb (nI i + 1) Ln = true from b 1 (by omega)), chk_t (show inb (nI i + 2) Ln = true from b 2 (by omega)), chk_t (show inb (nI i + 3) Ln = true from b 3 (by omega)), if_neg z, ck_s k2, e2, cal_s, if_pos rfl]
theorem st_1907 (h : Inv m x W D) (hi : i + 8 ≤ Ln) (hl : Ln ≤ 4096) : ∃ m2 W' D', g_L_law_1907 xs Ln k18 (some x) (some (x + 106)) (nI i) m = k18 (some x) (some (x + 106)) (nI i + 8) m2 ∧ Inv m2 x W' D' := by
  have b := ib_ok hi hl
  obtain ⟨r, m1, m2, W', D', e1, e2, h2⟩ := m_feud x (xs (Int32.toNatClampNeg (nI i + 1))) (xs (Int32.toNatClampNeg (nI i + 2))) (xs (Int32.toNatClampNeg (nI i + 3))) (xs (Int32.toNatClampNeg (nI i + 4))) (xs (Int32.toNatClampNeg (nI i + 5))) m W D h
  have k2 := e2
  unfold f_X10_feud g_X10_feud_0 at k2
  have k2 := chk_some k2
  refine ⟨m2, W', D', ?_, h2⟩
  unfold g_L_law_1907 g_L_law_2039
  rw [chk_t (show inb (nI i + 1) Ln = true from b 1 (by omega)), chk_t (show inb (nI i + 2) Ln = true from b 2 (by omega)), chk_t (show inb (nI i + 3) Ln = true from b 3 (by omega)), chk_t (show inb (nI i + 4) Ln = true from b 4 (by omega)), chk_t (show inb (nI i + 5) Ln = true from b 5 (by omega)), ck_s h.kx, e1, cal_s, chk_t (show inb (nI i + 1) Ln = true from b 1 (by omega)), chk_t (show inb (nI i + 2) Ln = true from b 2 (by omega)), chk_t (show inb (nI i + 3) Ln = true from b 3 (by omega)), chk_t (show inb (nI i + 4) Ln = true from b 4 (by omega)), chk_t (show inb (nI i + 5) Ln = true from b 5 (by omega)), ck_s k2, e2, cal_s, if_pos rfl]
theorem st_1970 (h : Inv m x W D) (hi : i + 8 ≤ Ln) (hl : Ln ≤ 4096) : ∃ m2 W' D', g_L_law_1970 xs Ln k18 (some x) (some (x + 106)) (nI i) m = k18 (some x) (some (x + 106)) (nI i + 8) m2 ∧ Inv m2 x W' D' := by
  have b := ib_ok hi hl
  obtain ⟨r, m1, m2, W', D', e1, e2, h2⟩ := m_count x (xs (Int32.toNatClampNeg (nI i + 1))) m W D h
  have k2 := e2
  unfold f_X10_count g_X10_count_0 at k2
  have k2 := chk_some k2
  refine ⟨m2, W', D', ?_, h2⟩
  unfold g_L_law_1970 g_L_law_2039
  rw [chk_t (show inb (nI i + 1) Ln = true from b 1 (by omega)), ck_s h.kx, e1, cal_s, chk_t (show inb (nI i + 1) Ln = true from b 1 (by omega)), ck_s k2, e2, cal_s, if_pos rfl]
theorem st_1993 (h : Inv m x W D) (hi : i + 8 ≤ Ln) (hl : Ln ≤ 4096) : ∃ m2 W' D', g_L_law_1993 xs Ln k18 (some x) (some (x + 106)) (nI i) m = k18 (some x) (some (x + 106)) (nI i + 8) m2 ∧ Inv m2 x W' D' := by
  have b := ib_ok hi hl
  obtain ⟨r, m1, m2, W', D', e1, e2, h2⟩ := m_image x (xs (Int32.toNatClampNeg (nI i + 1))) m W D h
  have k2 := e2
  unfold f_X10_image g_X10_image_0 at k2
  have k2 := chk_some k2
  refine ⟨m2, W', D', ?_, h2⟩
  unfold g_L_law_1993 g_L_law_2039
  rw [chk_t (show inb (nI i + 1) Ln = true from b 1 (by omega)), ck_s h.kx, e1, cal_s, chk_t (show inb (nI i + 1) Ln = true from b 1 (by omega)), ck_s k2, e2, cal_s, if_pos rfl]
theorem st_2016 (h : Inv m x W D) (hi : i + 8 ≤ Ln) (hl : Ln ≤ 4096) : ∃ m2 W' D', g_L_law_2016 xs Ln k18 (some x) (some (x + 106)) (nI i) m = k18 (some x) (some (x + 106)) (nI i + 8) m2 ∧ Inv m2 x W' D' := by
  have b := ib_ok hi hl
  obtain ⟨r, m1, m2, W', D', e1, e2, h2⟩ := m_again x (xs (Int32.toNatClampNeg (nI i + 1))) m W D h
  have k2 := e2
  unfold f_X10_again g_X10_again_0 at k2
  have k2 := chk_some k2
  refine ⟨m2, W', D', ?_, h2⟩
  unfold g_L_law_2016 g_L_law_2039
  rw [chk_t (show inb (nI i + 1) Ln = true from b 1 (by omega)), ck_s h.kx, e1, cal_s, chk_t (show inb (nI i + 1) Ln = true from b 1 (by omega)), ck_s k2, e2, cal_s, if_pos rfl]
theorem st_18 (h : Inv m x W D) (hi : i + 8 ≤ Ln) (hl : Ln ≤ 4096) : ∃ m2 W' D', g_L_law_18 xs Ln k18 (some x) (some (x + 106)) (nI i) m = k18 (some x) (some (x + 106)) (nI i + 8) m2 ∧ Inv m2 x W' D' := by
  have e0 : ¬ (Int32.ofNat Ln - 8 < nI i) := fun q => by
    rw [ofN, i_lt, i_sub (by rw [ti_nI (by omega)]; omega) (by decide), ti_nI (by omega), ti_nI (by omega)] at q
    have : (8 : Int32).toInt = 8 := rfl
    omega
  unfold g_L_law_18
  rw [if_neg e0, chk_t (inb_nI (show i < Ln by omega) (by omega))]
  generalize xs (Int32.toNatClampNeg (nI i)) &&& 63 = c
  by_cases c0 : c = 0
  · rw [if_pos c0]; exact st_204 h hi hl
  rw [if_neg c0]
  by_cases c1 : c = 1
  · rw [if_pos c1]; exact st_267 h hi hl
  rw [if_neg c1]
  by_cases c2 : c = 2
  · rw [if_pos c2]; exact st_290 h hi hl
  rw [if_neg c2]
  by_cases c3 : c = 3
  · rw [if_pos c3]; exact st_313 h hi hl
  rw [if_neg c3]
  by_cases c4 : c = 4
  · rw [if_pos c4]; exact st_336 h hi hl
  rw [if_neg c4]
  by_cases c5 : c = 5
  · rw [if_pos c5]; exact st_359 h hi hl
  rw [if_neg c5]
  by_cases c6 : c = 6
  · rw [if_pos c6]; exact st_392 h hi hl
  rw [if_neg c6]
  by_cases c7 : c = 7
  · rw [if_pos c7]; exact st_435 h hi hl
  rw [if_neg c7]
  by_cases c8 : c = 8
  · rw [if_pos c8]; exact st_468 h hi hl
  rw [if_neg c8]
  by_cases c9 : c = 9
  · rw [if_pos c9]; exact st_555 h hi hl
  rw [if_neg c9]
  by_cases c10 : c = 10
  · rw [if_pos c10]; exact st_598 h hi hl
  rw [if_neg c10]
  by_cases c11 : c = 11
  · rw [if_pos c11]; exact st_641 h hi hl
  rw [if_neg c11]
  by_cases c12 : c = 12
  · rw [if_pos c12]; exact st_694 h hi hl
  rw [if_neg c12]
  by_cases c13 : c = 13
  · rw [if_pos c13]; exact st_737 h hi hl
  rw [if_neg c13]
  by_cases c14 : c = 14
  · rw [if_pos c14]; exact st_780 h hi hl
  rw [if_neg c14]
  by_cases c15 : c = 15
  · rw [if_pos c15]; exact st_843 h hi hl
  rw [if_neg c15]
  by_cases c16 : c = 16
  · rw [if_pos c16]; exact st_886 h hi hl
  rw [if_neg c16]
  by_cases c17 : c = 17
  · rw [if_pos c17]; exact st_939 h hi hl
  rw [if_neg c17]
  by_cases c18 : c = 18
  · rw [if_pos c18]; exact st_992 h hi hl
  rw [if_neg c18]
  by_cases c19 : c = 19
  · rw [if_pos c19]; exact st_1079 h hi hl
  rw [if_neg c19]
  by_cases c20 : c = 20
  · rw [if_pos c20]; exact st_1142 h hi hl
  rw [if_neg c20]
  by_cases c21 : c = 21
  · rw [if_pos c21]; exact st_1217 h hi hl
  rw [if_neg c21]
  by_cases c22 : c = 22
  · rw [if_pos c22]; exact st_1260 h hi hl
  rw [if_neg c22]
  by_cases c23 : c = 23
  · rw [if_pos c23]; exact st_1283 h hi hl
  rw [if_neg c23]
  by_cases c24 : c = 24
  · rw [if_pos c24]; exact st_1362 h hi hl
  rw [if_neg c24]
  by_cases c25 : c = 25
  · rw [if_pos c25]; exact st_1405 h hi hl
  rw [if_neg c25]
  by_cases c26 : c = 26
  · rw [if_pos c26]; exact st_1474 h hi hl
  rw [if_neg c26]
  by_cases c27 : c = 27
  · rw [if_pos c27]; exact st_1517 h hi hl
  rw [if_neg c27]
  by_cases c28 : c = 28
  · rw [if_pos c28]; exact st_1560 h hi hl
  rw [if_neg c28]
  by_cases c29 : c = 29
  · rw [if_pos c29]; exact st_1613 h hi hl
  rw [if_neg c29]
  by_cases c30 : c = 30
  · rw [if_pos c30]; exact st_1656 h hi hl
  rw [if_neg c30]
  by_cases c31 : c = 31
  · rw [if_pos c31]; exact st_1709 h hi hl
  rw [if_neg c31]
  by_cases c32 : c = 32
  · rw [if_pos c32]; exact st_1752 h hi hl
  rw [if_neg c32]
  by_cases c33 : c = 33
  · rw [if_pos c33]; exact st_1795 h hi hl
  rw [if_neg c33]
  by_cases c34 : c = 34
  · rw [if_pos c34]; exact st_1848 h hi hl
  rw [if_neg c34]
  by_cases c35 : c = 35
  · rw [if_pos c35]; exact st_1907 h hi hl
  rw [if_neg c35]
  by_cases c36 : c = 36
  · rw [if_pos c36]; exact st_1970 h hi hl
  rw [if_neg c36]
  by_cases c37 : c = 37
  · rw [if_pos c37]; exact st_1993 h hi hl
  rw [if_neg c37]
  by_cases c38 : c = 38
  · rw [if_pos c38]; exact st_2016 h hi hl
  rw [if_neg c38]
  exact ⟨m, W, D, rfl, h⟩
theorem l_law_ok (hl : Ln ≤ 4096) : ∀ (n i : Nat) (m : MM) (W : WD) (D : Nat → Option (Nat × WD)), Inv m x W D → i ≤ Ln → Ln + 8 ≤ i + 8 * n → ∃ m2, l_L_law xs Ln n (some x) (some (x + 106)) (nI i) m = some (1, m2) := by
  intro n
  induction n with
  | zero => intro i m W D h h1 h2; omega
  | succ n ih =>
    intro i m W D h h1 h2
    by_cases c : i + 8 ≤ Ln
    · obtain ⟨m2, W', D', e, h'⟩ := st_18 (xs := xs) (k18 := l_L_law xs Ln n) h c hl
      obtain ⟨m3, e3⟩ := ih (i + 8) m2 W' D' h' (by omega) (by omega)
      refine ⟨m3, ?_⟩
      show g_L_law_18 xs Ln (l_L_law xs Ln n) (some x) (some (x + 106)) (nI i) m = _
      rw [e, show nI i + 8 = nI (i + 8) from nI_add i 8]
      exact e3
    · refine ⟨m, ?_⟩
      show g_L_law_18 xs Ln (l_L_law xs Ln n) (some x) (some (x + 106)) (nI i) m = _
      unfold g_L_law_18
      have e0 : Int32.ofNat Ln - 8 < nI i := by
        rw [ofN, i_lt, i_sub (by rw [ti_nI (by omega)]; omega) (by decide), ti_nI (by omega), ti_nI (by omega)]
        have : (8 : Int32).toInt = 8 := rfl
        omega
      rw [if_pos e0]
end LawLoop
/-- class and reference answer alike, whatever the script -/
theorem law_ok (xs : Nat → Int32) (Ln : Nat) (hl : Ln ≤ 4096) (x : Nat) : ∃ m2 : MM, f_law xs Ln (mem0 x) = some (1, m2) := by
  have hS : (mem0 x).S = x := rfl
  obtain ⟨m2, m4, e1, s1, e2, h⟩ := i_both hS
  obtain ⟨m5, e5⟩ := l_law_ok (xs := xs) hl 513 0 m4 W0 (fun _ => none) h (by omega) (by omega)
  refine ⟨m5, ?_⟩
  unfold f_law
  rw [bnd_e, hS, bnd_e, e1, cal_s, s1, bnd_e, bnd_e, e2, cal_s]
  exact e5
