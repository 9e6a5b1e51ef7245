/-! PURE 17: prefer, seats, make, tell: class and reference side by side -/
section CP2
variable {σ τ : Mem} {n m : Nat}
theorem uCanAdd_2 (I : inC σ n m) (x y : Int) : fX2_canAdd_2 σ x y = some (zb (decide (0 ≤ x ∧ x < n ∧ 0 ≤ y ∧ y < m ∧ rkC σ x y = -1))) := by
  obtain ⟨i1, i2, i3, i4, i5, i6, ⟨n1, n6, m1, m6⟩, LR, LH, cp⟩ := id I
  unfold fX2_canAdd_2
  rw [uHasOwner_2, Option.bind_some, i3]
  by_cases a : 0 ≤ x ∧ x < n
  · have za : zb (decide (0 ≤ x) && decide (x < (n : Int))) = 1 := by rw [decide_eq_true a.1, decide_eq_true a.2]; rfl
    rw [za, if_neg (by omega)]
    by_cases b : y < 0
    · rw [if_pos b, decide_eq_false (by omega)]; rfl
    · rw [if_neg b, i4]
      by_cases c : y < m
      · rw [if_pos c, if_pos (by omega), if_pos (by omega), ← rkC_eq (σ := σ) (by omega) y]
        by_cases d : rkC σ x y = -1
        · rw [if_pos d, decide_eq_true ⟨a.1, a.2, by omega, c, d⟩]; rfl
        · rw [if_neg d, decide_eq_false (fun z => d z.2.2.2.2)]; rfl
      · rw [if_neg c, decide_eq_false (by omega)]; rfl
  · have za : zb (decide (0 ≤ x) && decide (x < (n : Int))) = 0 := by
      rw [zb_0, Bool.and_eq_false_iff]
      by_cases c : 0 ≤ x
      · exact Or.inr (decide_eq_false (by omega))
      · exact Or.inl (decide_eq_false c)
    rw [za, if_pos rfl, decide_eq_false (by omega)]; rfl
theorem tPrefer0 (h : cpI σ τ n m) (x y : Int) : ∃ v σ' τ', fX6_prefer_0 σ 0 x y = some (v, σ') ∧ fX7_prefer_0 τ 0 x y = some (v, τ') ∧ cpI σ' τ' n m := by
  obtain ⟨i1, i2, i3, i4, i5, i6, ⟨n1, n6, m1, m6⟩, LR, LH, cp⟩ := id h.1
  have Iτ : liM (mup τ 0 0 0) n m (rkC σ) (hkC σ) (σ 10) (σ 19) (σ 20) := (cpI_m0 h 0).2.1
  obtain ⟨j1, j2, -, -, -, -, LM, LM', LC⟩ := id h.2.1
  have hC0 : ¬ (0 ≤ x ∧ x < n ∧ 0 ≤ y ∧ y < m ∧ rkC σ x y = -1) → fX6_prefer_0 σ 0 x y = some (-1, σ) := fun z => by
    unfold fX6_prefer_0 fX1_listsOf_1
    rw [if_pos rfl, Option.bind_some, if_pos rfl, uCanAdd_2 h.1, Option.bind_some, decide_eq_false z, if_pos (by decide)]
  have hC1 : (0 ≤ x ∧ x < n ∧ 0 ≤ y ∧ y < m ∧ rkC σ x y = -1) → fX6_prefer_0 σ 0 x y = bnd2 (fX6_dropWork_0 σ) fun v4 σ5 => bnd2 (fX2_add_2 σ5 x y) fun v6 σ7 => some (v6, σ7) := fun z => by
    unfold fX6_prefer_0 fX1_listsOf_1
    rw [if_pos rfl, Option.bind_some, if_pos rfl, uCanAdd_2 h.1, Option.bind_some, decide_eq_true z, if_neg (by decide)]
  unfold fX7_prefer_0
  have li : fX7_isList_0 (mup τ 0 0 0) 0 x = some (zb (decide (0 ≤ x) && decide (x < n))) := mIsList0 (n := n) (m := m) Iτ.1 Iτ.2.1 n6 m6 x
  rw [nx_eq, li, Option.bind_some]
  by_cases a : 0 ≤ x ∧ x < n
  · have za : zb (decide (0 ≤ x) && decide (x < (n : Int))) = 1 := by rw [decide_eq_true a.1, decide_eq_true a.2]; rfl
    have so : fX7_sizeOf_0 (mup τ 0 0 0) (1 - 0) = some (m : Int) := by unfold fX7_sizeOf_0; rw [if_neg (by omega), Iτ.2.1]
    rw [za, if_neg (by omega : ¬ (1 : Int) = 0), if_pos (by omega), so, Option.bind_some, if_pos (by omega), mIn, Option.bind_some]
    by_cases b : 0 ≤ y ∧ y < m
    · have zc : zb (decide (0 ≤ y) && decide (y ≤ (m : Int) - 1)) = 1 := by rw [decide_eq_true b.1, decide_eq_true (by omega)]; rfl
      have rr := rk_rng Iτ a.1 a.2 b.1 b.2
      rw [zc, if_neg (by omega : ¬ (1 : Int) = 0), mPl0' Iτ a.1 a.2 b.1 b.2, Option.bind_some]
      by_cases d : rkC σ x y = -1
      · obtain ⟨u1, u2⟩ := LM x a.1 a.2
        have l1 := (LR x a.1 a.2).1
        have room := lsI_room LR a.1 a.2 b.1 b.2 d
        have m3 : mup τ 0 0 0 3 (6 * 0 + x) = σ 10 x := by rw [mup_ne _ _ _ (by omega), ← u1]; congr 1 <;> omega
        obtain ⟨σ1, d1, d2, d3, d4, -, -⟩ := tDrop σ
        rw [if_pos (show rkC σ x y < 0 by omega), m3]
        repeat rw [if_pos (by omega)]
        rw [nx_eq]
        have c10 : ∀ w : Int, mup σ1 (4 + x.toNat) y w 10 x = σ 10 x := fun w => by rw [mup_ne _ _ _ (by omega), d2 10 (by omega) (by omega)]
        have c3 : ∀ q w : Int, mup (mup τ 0 0 0) 2 q w 3 (6 * 0 + x) = σ 10 x := fun q w => by rw [mup_ne _ _ _ (by omega)]; exact m3
        rw [c3]
        repeat rw [if_pos (by omega)]
        rw [nx_eq, nx_eq]
        repeat rw [if_pos (by omega)]
        rw [hC1 ⟨a.1, a.2, b.1, b.2, d⟩, d1, bnd2_some]
        unfold fX2_add_2
        repeat rw [if_pos (by omega)]
        rw [nx_eq, c10, d2 10 (by omega) (by omega)]
        repeat rw [if_pos (by omega)]
        rw [nx_eq]
        repeat rw [if_pos (by omega)]
        rw [bnd2_some]
        have a3 : mup (mup (mup (mup τ 0 0 0) 2 (36 * 0 + 6 * x + σ 10 x) y) 3 (6 * 0 + x) (σ 10 x + 1)) 0 7 0 3 (6 * 0 + x) = σ 10 x + 1 := by rw [mup_ne _ _ _ (by omega), mup_eq, mh_up_eq]
        have b3 : mup (mup σ1 (4 + x.toNat) y (σ 10 x)) 10 x (σ 10 x + 1) 10 x = σ 10 x + 1 := by rw [mup_eq, mh_up_eq]
        rw [a3, b3]
        generalize hσ : mup (mup σ1 (4 + x.toNat) y (σ 10 x)) 10 x (σ 10 x + 1) = σ2
        have k2 : ∀ k, k ≠ 4 + x.toNat → k ≠ 10 → k ≠ 25 → k ≠ 28 → σ2 k = σ k := fun k p q r t => by rw [← hσ, mup_ne _ _ _ q, mup_ne _ _ _ p, d2 k r t]
        have z2 : σ2 10 = mh_up (σ 10) x (σ 10 x + 1) := by rw [← hσ, mup_eq, mup_ne _ _ _ (by omega), d2 10 (by omega) (by omega)]
        have e25 : σ2 25 3 = 0 := by rw [← hσ, mup_ne _ _ _ (by omega), mup_ne _ _ _ (by omega)]; exact d3
        have e28 : σ2 28 5 = 0 := by rw [← hσ, mup_ne _ _ _ (by omega), mup_ne _ _ _ (by omega)]; exact d4
        have rw' : ∀ g : Int, rkC σ2 x g = mh_up (rkC σ x) y (σ 10 x) g := fun g => by
          rw [rkC_eq (by omega), ← hσ, mup_ne _ _ _ (by omega), mup_eq, d2 _ (by omega) (by omega)]
          unfold mh_up
          by_cases e : g = y
          · rw [if_pos e, if_pos e]
          · rw [if_neg e, if_neg e, rkC_eq (by omega)]
        have ro : ∀ r : Int, 0 ≤ r → r < n → r ≠ x → ∀ g : Int, rkC σ2 r g = rkC σ r g := fun r r0 r1 ne g => by
          rw [rkC_eq (by omega), rkC_eq (by omega), k2 _ (by omega) (by omega) (by omega) (by omega)]
        have qq : hkC σ2 = hkC σ := by
          funext r g
          by_cases c : r < 6
          · rw [hkC_eq c, hkC_eq c, k2 _ (by omega) (by omega) (by omega) (by omega)]
          · unfold hkC; rw [if_neg c, if_neg c]
        obtain ⟨LX', at1, at2⟩ := lsI_add (P' := rkC σ2) (S' := σ2 10) LR a.1 a.2 b.1 b.2 d (by rw [z2, mh_up_eq]) (by rw [rw', mh_up_eq]) (fun g g0 g1 ne => by rw [rw', mh_up_ne _ _ ne]) (fun r r0 r1 ne => ⟨by rw [z2, mh_up_ne _ _ ne], fun g _ _ => ro r r0 r1 ne g⟩)
        have IC : inC σ2 n m := by
          unfold inC
          rw [k2 1 (by omega) (by omega) (by omega) (by omega), k2 2 (by omega) (by omega) (by omega) (by omega), k2 11 (by omega) (by omega) (by omega) (by omega), k2 19 (by omega) (by omega) (by omega) (by omega), k2 20 (by omega) (by omega) (by omega) (by omega), qq]
          exact ⟨i1, i2, i3, i4, i5, i6, ⟨n1, n6, m1, m6⟩, LX', LH, cp⟩
        have t3 : ∀ j : Int, mup (mup (mup (mup τ 0 0 0) 2 (36 * 0 + 6 * x + σ 10 x) y) 3 (6 * 0 + x) (σ 10 x + 1)) 0 7 0 3 j = mh_up (τ 3) (6 * 0 + x) (σ 10 x + 1) j := fun j => by rw [mup_ne _ _ _ (by omega), mup_eq, mup_ne _ _ _ (by omega), mup_ne _ _ _ (by omega)]
        have t2 : ∀ j : Int, mup (mup (mup (mup τ 0 0 0) 2 (36 * 0 + 6 * x + σ 10 x) y) 3 (6 * 0 + x) (σ 10 x + 1)) 0 7 0 2 j = mh_up (τ 2) (36 * 0 + 6 * x + σ 10 x) y j := fun j => by rw [mup_ne _ _ _ (by omega), mup_ne _ _ _ (by omega), mup_eq, mup_ne _ _ _ (by omega)]
        have t0 : ∀ j : Int, j ≠ 0 → j ≠ 7 → mup (mup (mup (mup τ 0 0 0) 2 (36 * 0 + 6 * x + σ 10 x) y) 3 (6 * 0 + x) (σ 10 x + 1)) 0 7 0 0 j = τ 0 j := fun j j0 j7 => by rw [mup_eq, mh_up_ne _ _ j7, mup_ne _ _ _ (by omega), mup_ne _ _ _ (by omega), mup_eq, mh_up_ne _ _ j0]
        have t9 : ∀ k, k ≠ 0 → k ≠ 2 → k ≠ 3 → mup (mup (mup (mup τ 0 0 0) 2 (36 * 0 + 6 * x + σ 10 x) y) 3 (6 * 0 + x) (σ 10 x + 1)) 0 7 0 k = τ k := fun k p q r => by rw [mup_ne _ _ _ p, mup_ne _ _ _ r, mup_ne _ _ _ q, mup_ne _ _ _ p]
        have t7 : mup (mup (mup (mup τ 0 0 0) 2 (36 * 0 + 6 * x + σ 10 x) y) 3 (6 * 0 + x) (σ 10 x + 1)) 0 7 0 0 7 = 0 := by rw [mup_eq, mh_up_eq]
        generalize mup (mup (mup (mup τ 0 0 0) 2 (36 * 0 + 6 * x + σ 10 x) y) 3 (6 * 0 + x) (σ 10 x + 1)) 0 7 0 = τ2 at t0 t2 t3 t7 t9
        refine ⟨_, _, _, rfl, rfl, IC, ⟨?_, ?_, ⟨n1, n6, m1, m6⟩, IC.2.2.2.2.2.2.2.1, IC.2.2.2.2.2.2.2.2.1, IC.2.2.2.2.2.2.2.2.2, fun r r0 r1 => ⟨?_, fun p p0 p1 => ?_⟩, fun g g0 g1 => ⟨?_, fun p p0 p1 => ?_⟩, fun g g0 g1 => ?_⟩, fun r r0 r1 => ?_, Or.inl ⟨e25, e28, t7⟩⟩
        · rw [t0 1 (by omega) (by omega)]; exact j1
        · rw [t0 2 (by omega) (by omega)]; exact j2
        · rw [t3]
          by_cases e : r = x
          · subst e
            rw [show (6 * 0 + r : Int) = r by omega, mh_up_eq, z2, mh_up_eq]
          · rw [mh_up_ne _ _ (by omega), z2, mh_up_ne _ _ e]; exact (LM r r0 r1).1
        · rw [t2]
          have sz6 := (LR r r0 r1).1
          by_cases e : r = x
          · subst e
            rw [z2, mh_up_eq] at p1
            by_cases f : p = σ 10 r
            · rw [f, show (36 * 0 + 6 * r + σ 10 r : Int) = 6 * r + σ 10 r by omega, mh_up_eq, at2]
            · rw [mh_up_ne _ _ (by omega), at1 _ _ r0 r1 p0 (by omega)]
              exact (LM r r0 r1).2 p p0 (by omega)
          · rw [z2, mh_up_ne _ _ e] at p1
            rw [mh_up_ne _ _ (by omega), at1 _ _ r0 r1 p0 p1]
            exact (LM r r0 r1).2 p p0 p1
        · rw [t3]
          rw [mh_up_ne _ _ (by omega), k2 19 (by omega) (by omega) (by omega) (by omega)]; exact (LM' g g0 g1).1
        · rw [t2]
          have sz6 := (LH g g0 g1).1
          rw [k2 19 (by omega) (by omega) (by omega) (by omega)] at p1
          rw [qq, mh_up_ne _ _ (by omega)]; exact (LM' g g0 g1).2 p p0 p1
        · rw [t9 1 (by omega) (by omega) (by omega), k2 20 (by omega) (by omega) (by omega) (by omega)]
          exact LC g g0 g1
        · rw [t9 4 (by omega) (by omega) (by omega), k2 22 (by omega) (by omega) (by omega) (by omega)]
          exact h.2.2.1 r r0 r1
      · rw [if_neg (by omega), hC0 (fun z => d z.2.2.2.2)]
        exact ⟨_, _, _, rfl, rfl, cpI_m0 h 0⟩
    · have zc : zb (decide (0 ≤ y) && decide (y ≤ (m : Int) - 1)) = 0 := by
        rw [zb_0, Bool.and_eq_false_iff]
        by_cases c : 0 ≤ y
        · exact Or.inr (decide_eq_false (by omega))
        · exact Or.inl (decide_eq_false c)
      rw [zc, if_pos rfl, hC0 (by omega)]
      exact ⟨_, _, _, rfl, rfl, cpI_m0 h 0⟩
  · have za : zb (decide (0 ≤ x) && decide (x < (n : Int))) = 0 := by
      rw [zb_0, Bool.and_eq_false_iff]
      by_cases c : 0 ≤ x
      · exact Or.inr (decide_eq_false (by omega))
      · exact Or.inl (decide_eq_false c)
    rw [za, if_pos rfl, hC0 (by omega)]
    exact ⟨_, _, _, rfl, rfl, cpI_m0 h 0⟩
theorem uCanAdd_11 (I : inC σ n m) (x y : Int) : fX2_canAdd_11 σ x y = some (zb (decide (0 ≤ x ∧ x < m ∧ 0 ≤ y ∧ y < n ∧ hkC σ x y = -1))) := by
  obtain ⟨i1, i2, i3, i4, i5, i6, ⟨n1, n6, m1, m6⟩, LR, LH, cp⟩ := id I
  unfold fX2_canAdd_11
  rw [uHasOwner_11, Option.bind_some, i5]
  by_cases a : 0 ≤ x ∧ x < m
  · have za : zb (decide (0 ≤ x) && decide (x < (m : Int))) = 1 := by rw [decide_eq_true a.1, decide_eq_true a.2]; rfl
    rw [za, if_neg (by omega)]
    by_cases b : y < 0
    · rw [if_pos b, decide_eq_false (by omega)]; rfl
    · rw [if_neg b, i6]
      by_cases c : y < n
      · rw [if_pos c, if_pos (by omega), if_pos (by omega), ← hkC_eq (σ := σ) (by omega) y]
        by_cases d : hkC σ x y = -1
        · rw [if_pos d, decide_eq_true ⟨a.1, a.2, by omega, c, d⟩]; rfl
        · rw [if_neg d, decide_eq_false (fun z => d z.2.2.2.2)]; rfl
      · rw [if_neg c, decide_eq_false (by omega)]; rfl
  · have za : zb (decide (0 ≤ x) && decide (x < (m : Int))) = 0 := by
      rw [zb_0, Bool.and_eq_false_iff]
      by_cases c : 0 ≤ x
      · exact Or.inr (decide_eq_false (by omega))
      · exact Or.inl (decide_eq_false c)
    rw [za, if_pos rfl, decide_eq_false (by omega)]; rfl
theorem tPrefer1 (h : cpI σ τ n m) (x y : Int) : ∃ v σ' τ', fX6_prefer_0 σ 1 x y = some (v, σ') ∧ fX7_prefer_0 τ 1 x y = some (v, τ') ∧ cpI σ' τ' n m := by
  obtain ⟨i1, i2, i3, i4, i5, i6, ⟨n1, n6, m1, m6⟩, LR, LH, cp⟩ := id h.1
  have Iτ : liM (mup τ 0 0 0) n m (rkC σ) (hkC σ) (σ 10) (σ 19) (σ 20) := (cpI_m0 h 0).2.1
  obtain ⟨j1, j2, -, -, -, -, LM, LM', LC⟩ := id h.2.1
  have hC0 : ¬ (0 ≤ x ∧ x < m ∧ 0 ≤ y ∧ y < n ∧ hkC σ x y = -1) → fX6_prefer_0 σ 1 x y = some (-1, σ) := fun z => by
    unfold fX6_prefer_0 fX1_listsOf_1
    rw [if_neg (by omega), if_pos rfl, Option.bind_some, if_neg (by omega), if_pos rfl, uCanAdd_11 h.1, Option.bind_some, decide_eq_false z, if_pos (by decide)]
  have hC1 : (0 ≤ x ∧ x < m ∧ 0 ≤ y ∧ y < n ∧ hkC σ x y = -1) → fX6_prefer_0 σ 1 x y = bnd2 (fX6_dropWork_0 σ) fun v4 σ5 => bnd2 (fX2_add_11 σ5 x y) fun v6 σ7 => some (v6, σ7) := fun z => by
    unfold fX6_prefer_0 fX1_listsOf_1
    rw [if_neg (by omega), if_pos rfl, Option.bind_some, if_neg (by omega), if_pos rfl, uCanAdd_11 h.1, Option.bind_some, decide_eq_true z, if_neg (by decide)]
  unfold fX7_prefer_0
  have li : fX7_isList_0 (mup τ 0 0 0) 1 x = some (zb (decide (0 ≤ x) && decide (x < m))) := mIsList1 (n := n) (m := m) Iτ.1 Iτ.2.1 n6 m6 x
  rw [nx_eq, li, Option.bind_some]
  by_cases a : 0 ≤ x ∧ x < m
  · have za : zb (decide (0 ≤ x) && decide (x < (m : Int))) = 1 := by rw [decide_eq_true a.1, decide_eq_true a.2]; rfl
    have so : fX7_sizeOf_0 (mup τ 0 0 0) (1 - 1) = some (n : Int) := by unfold fX7_sizeOf_0; rw [if_pos (by omega), Iτ.1]
    rw [za, if_neg (by omega : ¬ (1 : Int) = 0), if_pos (by omega), so, Option.bind_some, if_pos (by omega), mIn, Option.bind_some]
    by_cases b : 0 ≤ y ∧ y < n
    · have zc : zb (decide (0 ≤ y) && decide (y ≤ (n : Int) - 1)) = 1 := by rw [decide_eq_true b.1, decide_eq_true (by omega)]; rfl
      have rr := hk_rng Iτ b.1 b.2 a.1 a.2
      rw [zc, if_neg (by omega : ¬ (1 : Int) = 0), mPl1 Iτ a.1 a.2 b.1 b.2, Option.bind_some]
      by_cases d : hkC σ x y = -1
      · obtain ⟨u1, u2⟩ := LM' x a.1 a.2
        have l1 := (LH x a.1 a.2).1
        have room := lsI_room LH a.1 a.2 b.1 b.2 d
        have m3 : mup τ 0 0 0 3 (6 * 1 + x) = σ 19 x := by rw [mup_ne _ _ _ (by omega), ← u1]; congr 1 <;> omega
        obtain ⟨σ1, d1, d2, d3, d4, -, -⟩ := tDrop σ
        rw [if_pos (show hkC σ x y < 0 by omega), m3]
        repeat rw [if_pos (by omega)]
        rw [nx_eq]
        have c10 : ∀ w : Int, mup σ1 (13 + x.toNat) y w 19 x = σ 19 x := fun w => by rw [mup_ne _ _ _ (by omega), d2 19 (by omega) (by omega)]
        have c3 : ∀ q w : Int, mup (mup τ 0 0 0) 2 q w 3 (6 * 1 + x) = σ 19 x := fun q w => by rw [mup_ne _ _ _ (by omega)]; exact m3
        rw [c3]
        repeat rw [if_pos (by omega)]
        rw [nx_eq, nx_eq]
        repeat rw [if_pos (by omega)]
        rw [hC1 ⟨a.1, a.2, b.1, b.2, d⟩, d1, bnd2_some]
        unfold fX2_add_11
        repeat rw [if_pos (by omega)]
        rw [nx_eq, c10, d2 19 (by omega) (by omega)]
        repeat rw [if_pos (by omega)]
        rw [nx_eq]
        repeat rw [if_pos (by omega)]
        rw [bnd2_some]
        have a3 : mup (mup (mup (mup τ 0 0 0) 2 (36 * 1 + 6 * x + σ 19 x) y) 3 (6 * 1 + x) (σ 19 x + 1)) 0 7 0 3 (6 * 1 + x) = σ 19 x + 1 := by rw [mup_ne _ _ _ (by omega), mup_eq, mh_up_eq]
        have b3 : mup (mup σ1 (13 + x.toNat) y (σ 19 x)) 19 x (σ 19 x + 1) 19 x = σ 19 x + 1 := by rw [mup_eq, mh_up_eq]
        rw [a3, b3]
        generalize hσ : mup (mup σ1 (13 + x.toNat) y (σ 19 x)) 19 x (σ 19 x + 1) = σ2
        have k2 : ∀ k, k ≠ 13 + x.toNat → k ≠ 19 → k ≠ 25 → k ≠ 28 → σ2 k = σ k := fun k p q r t => by rw [← hσ, mup_ne _ _ _ q, mup_ne _ _ _ p, d2 k r t]
        have z2 : σ2 19 = mh_up (σ 19) x (σ 19 x + 1) := by rw [← hσ, mup_eq, mup_ne _ _ _ (by omega), d2 19 (by omega) (by omega)]
        have e25 : σ2 25 3 = 0 := by rw [← hσ, mup_ne _ _ _ (by omega), mup_ne _ _ _ (by omega)]; exact d3
        have e28 : σ2 28 5 = 0 := by rw [← hσ, mup_ne _ _ _ (by omega), mup_ne _ _ _ (by omega)]; exact d4
        have rw' : ∀ g : Int, hkC σ2 x g = mh_up (hkC σ x) y (σ 19 x) g := fun g => by
          rw [hkC_eq (by omega), ← hσ, mup_ne _ _ _ (by omega), mup_eq, d2 _ (by omega) (by omega)]
          unfold mh_up
          by_cases e : g = y
          · rw [if_pos e, if_pos e]
          · rw [if_neg e, if_neg e, hkC_eq (by omega)]
        have ro : ∀ r : Int, 0 ≤ r → r < m → r ≠ x → ∀ g : Int, hkC σ2 r g = hkC σ r g := fun r r0 r1 ne g => by
          rw [hkC_eq (by omega), hkC_eq (by omega), k2 _ (by omega) (by omega) (by omega) (by omega)]
        have qq : rkC σ2 = rkC σ := by
          funext r g
          by_cases c : r < 6
          · rw [rkC_eq c, rkC_eq c, k2 _ (by omega) (by omega) (by omega) (by omega)]
          · unfold rkC; rw [if_neg c, if_neg c]
        obtain ⟨LX', at1, at2⟩ := lsI_add (P' := hkC σ2) (S' := σ2 19) LH a.1 a.2 b.1 b.2 d (by rw [z2, mh_up_eq]) (by rw [rw', mh_up_eq]) (fun g g0 g1 ne => by rw [rw', mh_up_ne _ _ ne]) (fun r r0 r1 ne => ⟨by rw [z2, mh_up_ne _ _ ne], fun g _ _ => ro r r0 r1 ne g⟩)
        have IC : inC σ2 n m := by
          unfold inC
          rw [k2 1 (by omega) (by omega) (by omega) (by omega), k2 2 (by omega) (by omega) (by omega) (by omega), k2 11 (by omega) (by omega) (by omega) (by omega), k2 10 (by omega) (by omega) (by omega) (by omega), k2 20 (by omega) (by omega) (by omega) (by omega), qq]
          exact ⟨i1, i2, i3, i4, i5, i6, ⟨n1, n6, m1, m6⟩, LR, LX', cp⟩
        have t3 : ∀ j : Int, mup (mup (mup (mup τ 0 0 0) 2 (36 * 1 + 6 * x + σ 19 x) y) 3 (6 * 1 + x) (σ 19 x + 1)) 0 7 0 3 j = mh_up (τ 3) (6 * 1 + x) (σ 19 x + 1) j := fun j => by rw [mup_ne _ _ _ (by omega), mup_eq, mup_ne _ _ _ (by omega), mup_ne _ _ _ (by omega)]
        have t2 : ∀ j : Int, mup (mup (mup (mup τ 0 0 0) 2 (36 * 1 + 6 * x + σ 19 x) y) 3 (6 * 1 + x) (σ 19 x + 1)) 0 7 0 2 j = mh_up (τ 2) (36 * 1 + 6 * x + σ 19 x) y j := fun j => by rw [mup_ne _ _ _ (by omega), mup_ne _ _ _ (by omega), mup_eq, mup_ne _ _ _ (by omega)]
        have t0 : ∀ j : Int, j ≠ 0 → j ≠ 7 → mup (mup (mup (mup τ 0 0 0) 2 (36 * 1 + 6 * x + σ 19 x) y) 3 (6 * 1 + x) (σ 19 x + 1)) 0 7 0 0 j = τ 0 j := fun j j0 j7 => by rw [mup_eq, mh_up_ne _ _ j7, mup_ne _ _ _ (by omega), mup_ne _ _ _ (by omega), mup_eq, mh_up_ne _ _ j0]
        have t9 : ∀ k, k ≠ 0 → k ≠ 2 → k ≠ 3 → mup (mup (mup (mup τ 0 0 0) 2 (36 * 1 + 6 * x + σ 19 x) y) 3 (6 * 1 + x) (σ 19 x + 1)) 0 7 0 k = τ k := fun k p q r => by rw [mup_ne _ _ _ p, mup_ne _ _ _ r, mup_ne _ _ _ q, mup_ne _ _ _ p]
        have t7 : mup (mup (mup (mup τ 0 0 0) 2 (36 * 1 + 6 * x + σ 19 x) y) 3 (6 * 1 + x) (σ 19 x + 1)) 0 7 0 0 7 = 0 := by rw [mup_eq, mh_up_eq]
        generalize mup (mup (mup (mup τ 0 0 0) 2 (36 * 1 + 6 * x + σ 19 x) y) 3 (6 * 1 + x) (σ 19 x + 1)) 0 7 0 = τ2 at t0 t2 t3 t7 t9
        refine ⟨_, _, _, rfl, rfl, IC, ⟨?_, ?_, ⟨n1, n6, m1, m6⟩, IC.2.2.2.2.2.2.2.1, IC.2.2.2.2.2.2.2.2.1, IC.2.2.2.2.2.2.2.2.2, fun r r0 r1 => ⟨?_, fun p p0 p1 => ?_⟩, fun g g0 g1 => ⟨?_, fun p p0 p1 => ?_⟩, fun g g0 g1 => ?_⟩, fun r r0 r1 => ?_, Or.inl ⟨e25, e28, t7⟩⟩
        · rw [t0 1 (by omega) (by omega)]; exact j1
        · rw [t0 2 (by omega) (by omega)]; exact j2
        · rw [t3]
          rw [mh_up_ne _ _ (by omega), k2 10 (by omega) (by omega) (by omega) (by omega)]; exact (LM r r0 r1).1
        · rw [t2]
          have sz6 := (LR r r0 r1).1
          rw [k2 10 (by omega) (by omega) (by omega) (by omega)] at p1
          rw [qq, mh_up_ne _ _ (by omega)]; exact (LM r r0 r1).2 p p0 p1
        · rw [t3]
          by_cases e : g = x
          · subst e
            rw [show (6 * 1 + g : Int) = 6 + g by omega, mh_up_eq, z2, mh_up_eq]
          · rw [mh_up_ne _ _ (by omega), z2, mh_up_ne _ _ e]; exact (LM' g g0 g1).1
        · rw [t2]
          have sz6 := (LH g g0 g1).1
          by_cases e : g = x
          · subst e
            rw [z2, mh_up_eq] at p1
            by_cases f : p = σ 19 g
            · rw [f, show (36 * 1 + 6 * g + σ 19 g : Int) = 36 + 6 * g + σ 19 g by omega, mh_up_eq, at2]
            · rw [mh_up_ne _ _ (by omega), at1 _ _ g0 g1 p0 (by omega)]
              exact (LM' g g0 g1).2 p p0 (by omega)
          · rw [z2, mh_up_ne _ _ e] at p1
            rw [mh_up_ne _ _ (by omega), at1 _ _ g0 g1 p0 p1]
            exact (LM' g g0 g1).2 p p0 p1
        · rw [t9 1 (by omega) (by omega) (by omega), k2 20 (by omega) (by omega) (by omega) (by omega)]
          exact LC g g0 g1
        · rw [t9 4 (by omega) (by omega) (by omega), k2 22 (by omega) (by omega) (by omega) (by omega)]
          exact h.2.2.1 r r0 r1
      · rw [if_neg (by omega), hC0 (fun z => d z.2.2.2.2)]
        exact ⟨_, _, _, rfl, rfl, cpI_m0 h 0⟩
    · have zc : zb (decide (0 ≤ y) && decide (y ≤ (n : Int) - 1)) = 0 := by
        rw [zb_0, Bool.and_eq_false_iff]
        by_cases c : 0 ≤ y
        · exact Or.inr (decide_eq_false (by omega))
        · exact Or.inl (decide_eq_false c)
      rw [zc, if_pos rfl, hC0 (by omega)]
      exact ⟨_, _, _, rfl, rfl, cpI_m0 h 0⟩
  · have za : zb (decide (0 ≤ x) && decide (x < (m : Int))) = 0 := by
      rw [zb_0, Bool.and_eq_false_iff]
      by_cases c : 0 ≤ x
      · exact Or.inr (decide_eq_false (by omega))
      · exact Or.inl (decide_eq_false c)
    rw [za, if_pos rfl, hC0 (by omega)]
    exact ⟨_, _, _, rfl, rfl, cpI_m0 h 0⟩
/-- all three sides of a call by side -/
theorem tPrefer (h : cpI σ τ n m) (s x y : Int) : ∃ v σ' τ', fX6_prefer_0 σ s x y = some (v, σ') ∧ fX7_prefer_0 τ s x y = some (v, τ') ∧ cpI σ' τ' n m := by
  by_cases a : s = 0
  · subst a; exact tPrefer0 h x y
  · by_cases b : s = 1
    · subst b; exact tPrefer1 h x y
    · unfold fX6_prefer_0 fX7_prefer_0 fX1_listsOf_1
      rw [if_neg a, if_neg b, Option.bind_some, if_neg (by omega), if_neg (by omega), if_pos rfl, nx_eq, mIsListX _ a b, Option.bind_some, if_pos rfl]
      exact ⟨_, _, _, rfl, rfl, cpI_m0 h 0⟩
theorem tForget (h : cpI σ τ n m) (s x : Int) : ∃ v σ' τ', fX6_forget_0 σ s x = some (v, σ') ∧ fX7_forget_0 τ s x = some (v, τ') ∧ cpI σ' τ' n m := by
  by_cases a : s = 0
  · subst a; exact tForget0 h x
  · by_cases b : s = 1
    · subst b; exact tForget1 h x
    · unfold fX6_forget_0 fX7_forget_0 fX1_listsOf_1
      rw [if_neg a, if_neg b, Option.bind_some, if_neg (by omega), if_neg (by omega), if_pos rfl, nx_eq, mIsListX _ a b, Option.bind_some, if_pos rfl]
      exact ⟨_, _, _, rfl, rfl, cpI_m0 h 0⟩
theorem tListed (h : cpI σ τ n m) (s x y : Int) : ∃ v τ', fX6_listed_0 σ s x y = some v ∧ fX7_listed_0 τ s x y = some (v, τ') ∧ cpI σ τ' n m := by
  by_cases a : s = 0
  · subst a; exact tListed0 h x y
  · by_cases b : s = 1
    · subst b; exact tListed1 h x y
    · unfold fX6_listed_0 fX7_listed_0 fX1_listsOf_1
      rw [if_neg a, if_neg b, Option.bind_some, if_neg (by omega), if_neg (by omega), if_pos rfl, nx_eq, mIsListX _ a b, Option.bind_some, if_pos rfl]
      exact ⟨_, _, rfl, rfl, cpI_m0 h 0⟩
/-- a new state of both: no lists, one seat, nothing told -/
theorem cpI_new {σ τ : Mem} {n m : Nat} (hn : 1 ≤ n ∧ n ≤ 6 ∧ 1 ≤ m ∧ m ≤ 6) (c1 : σ 1 3 = n) (c2 : σ 1 4 = m) (c3 : σ 2 2 = n) (c4 : σ 2 3 = m) (c5 : σ 11 2 = m) (c6 : σ 11 3 = n) (c7 : ∀ y : Int, 0 ≤ y → y < 6 → σ 10 y = 0 ∧ ∀ j : Int, 0 ≤ j → j < 6 → σ (4 + y.toNat) j = -1) (c8 : ∀ y : Int, 0 ≤ y → y < 6 → σ 19 y = 0 ∧ ∀ j : Int, 0 ≤ j → j < 6 → σ (13 + y.toNat) j = -1) (c9 : ∀ h : Int, 0 ≤ h → h < 6 → σ 20 h = 1) (c10 : ∀ r : Int, 0 ≤ r → r < 6 → σ 22 r = -1) (c11 : σ 25 3 = 0) (c12 : σ 28 5 = 0)
    (m1 : τ 0 1 = n) (m2 : τ 0 2 = m) (m3 : τ 0 7 = 0) (m4 : ∀ k : Int, 0 ≤ k → k < 6 → τ 1 k = 1 ∧ τ 4 k = -1) (m5 : ∀ k : Int, 0 ≤ k → k < 12 → τ 3 k = 0) : cpI σ τ n m := by
  have LR : lsI (rkC σ) (σ 10) n m := lsI_new (fun r r0 r1 => ⟨(c7 r r0 (by omega)).1, fun h h0 h1 => by rw [rkC_eq (by omega)]; exact (c7 r r0 (by omega)).2 h h0 (by omega)⟩)
  have LH : lsI (hkC σ) (σ 19) m n := lsI_new (fun r r0 r1 => ⟨(c8 r r0 (by omega)).1, fun h h0 h1 => by rw [hkC_eq (by omega)]; exact (c8 r r0 (by omega)).2 h h0 (by omega)⟩)
  have CP : ∀ h : Int, 0 ≤ h → h < m → 1 ≤ σ 20 h ∧ σ 20 h ≤ 3 := fun h h0 h1 => by rw [c9 h h0 (by omega)]; omega
  refine ⟨⟨c1, c2, c3, c4, c5, c6, hn, LR, LH, CP⟩, ⟨m1, m2, hn, LR, LH, CP, fun r r0 r1 => ⟨?_, fun p p0 p1 => ?_⟩, fun g g0 g1 => ⟨?_, fun p p0 p1 => ?_⟩, fun g g0 g1 => ?_⟩, fun r r0 r1 => ?_, Or.inl ⟨c11, c12, m3⟩⟩
  · rw [m5 r r0 (by omega), (c7 r r0 (by omega)).1]
  · rw [(c7 r r0 (by omega)).1] at p1; omega
  · rw [m5 _ (by omega) (by omega), (c8 g g0 (by omega)).1]
  · rw [(c8 g g0 (by omega)).1] at p1; omega
  · rw [(m4 g g0 (by omega)).1, c9 g g0 (by omega)]
  · rw [(m4 r r0 (by omega)).2, c10 r r0 (by omega)]; exact ⟨rfl, Or.inl rfl⟩
/-- make, as the class does it where it does not throw -/
theorem tMakeC (σ : Mem) {x y : Int} (hx : 1 ≤ x ∧ x ≤ 6) (hy : 1 ≤ y ∧ y ≤ 6) : ∃ σ1 σ2 σ3, fX1_open_1 σ x y = some (0, σ1) ∧ fX3_clear_21 σ1 = some (0, σ2) ∧ fX6_dropWork_0 σ2 = some (0, σ3) ∧ ∀ τ : Mem, ∃ τ', fX7_make_0 τ x y = some (0, τ') ∧ τ' 0 0 = 0 ∧ cpI σ3 τ' x.toNat y.toNat := by
  obtain ⟨σ1, a1, a2, a3, a4, a5, a6, a7, a8, a9, a10, a11⟩ := uHallOpen σ x y
  obtain ⟨σ2, b1, b2, b3⟩ := uClear_21 σ1
  obtain ⟨σ3, d1, d2, d3, d4, -, -⟩ := tDrop σ2
  refine ⟨σ1, σ2, σ3, a1, b1, d1, fun τ => ?_⟩
  obtain ⟨τ', e1, e2, e3, e4, e5, e6, e7, e8⟩ := mBegin (mup τ 0 0 0) x y
  have xt : ((x.toNat : Nat) : Int) = x := by omega
  have yt : ((y.toNat : Nat) : Int) = y := by omega
  have k3 : ∀ k, k ≠ 22 → k ≠ 25 → k ≠ 28 → σ3 k = σ1 k := fun k p q r => by rw [d2 k q r, b2 k p]
  refine ⟨τ', ?_, by rw [e3 0 (by omega) (by omega) (by omega), mup_eq, mh_up_eq], ?_⟩
  · unfold fX7_make_0
    have i1 : zb (decide (1 ≤ x) && decide (x ≤ 6)) = 1 := by rw [decide_eq_true hx.1, decide_eq_true hx.2]; rfl
    have i2 : zb (decide (1 ≤ y) && decide (y ≤ 6)) = 1 := by rw [decide_eq_true hy.1, decide_eq_true hy.2]; rfl
    rw [mIn, Option.bind_some, i1, if_neg (by omega), mIn, Option.bind_some, i2, if_neg (by omega), nx_eq, if_pos (by rw [mup_eq, mh_up_eq]), e1, bnd2_some]
  · refine cpI_new (by omega) (by rw [k3 1 (by omega) (by omega) (by omega), a3, xt]) (by rw [k3 1 (by omega) (by omega) (by omega), a4, yt]) (by rw [k3 2 (by omega) (by omega) (by omega), a5, xt]) (by rw [k3 2 (by omega) (by omega) (by omega), a6, yt]) (by rw [k3 11 (by omega) (by omega) (by omega), a7, yt]) (by rw [k3 11 (by omega) (by omega) (by omega), a8, xt]) (fun q q0 q1 => by rw [k3 10 (by omega) (by omega) (by omega), k3 _ (by omega) (by omega) (by omega)]; exact a9 q q0 q1) (fun q q0 q1 => by rw [k3 19 (by omega) (by omega) (by omega), k3 _ (by omega) (by omega) (by omega)]; exact a10 q q0 q1) (fun q q0 q1 => by rw [k3 20 (by omega) (by omega) (by omega)]; exact a11 q q0 q1) (fun q q0 q1 => by rw [d2 22 (by omega) (by omega), b3, if_pos ⟨q0, q1⟩]) d3 d4 (by rw [e4, xt]) (by rw [e5, yt]) e6 e7 e8
theorem tMakeX (τ : Mem) {x y : Int} (h : ¬ ((1 ≤ x ∧ x ≤ 6) ∧ (1 ≤ y ∧ y ≤ 6))) : fX7_make_0 τ x y = some (0, mup τ 0 0 1) := by
  unfold fX7_make_0
  have ne : ¬ mup τ 0 0 1 0 0 = 0 := by rw [mup_eq, mh_up_eq]; omega
  rw [mIn, Option.bind_some]
  by_cases a : 1 ≤ x ∧ x ≤ 6
  · have i1 : zb (decide (1 ≤ x) && decide (x ≤ 6)) = 1 := by rw [decide_eq_true a.1, decide_eq_true a.2]; rfl
    have i2 : zb (decide (1 ≤ y) && decide (y ≤ 6)) = 0 := by
      rw [zb_0, Bool.and_eq_false_iff]
      by_cases c : 1 ≤ y
      · exact Or.inr (decide_eq_false (by omega))
      · exact Or.inl (decide_eq_false c)
    rw [i1, if_neg (by omega), mIn, Option.bind_some, i2, if_pos rfl, nx_eq, if_neg ne]
  · have i1 : zb (decide (1 ≤ x) && decide (x ≤ 6)) = 0 := by
      rw [zb_0, Bool.and_eq_false_iff]
      by_cases c : 1 ≤ x
      · exact Or.inr (decide_eq_false (by omega))
      · exact Or.inl (decide_eq_false c)
    rw [i1, if_pos rfl, nx_eq, if_neg ne]
/-- seats -/
theorem tSeatsC (h : cpI σ τ n m) {x y : Int} (hx : 0 ≤ x ∧ x < m) (hy : 1 ≤ y ∧ y ≤ 3) : ∃ σ' τ', fX6_dropWork_0 (mup σ 20 x y) = some (0, σ') ∧ fX7_seats_0 τ x y = some (0, τ') ∧ τ' 0 0 = 0 ∧ cpI σ' τ' n m := by
  obtain ⟨i1, i2, i3, i4, i5, i6, ⟨n1, n6, m1, m6⟩, LR, LH, cp⟩ := id h.1
  obtain ⟨j1, j2, -, -, -, -, LM, LM', LC⟩ := id h.2.1
  obtain ⟨σ1, d1, d2, d3, d4, -, -⟩ := tDrop (mup σ 20 x y)
  have k2 : ∀ k, k ≠ 20 → k ≠ 25 → k ≠ 28 → σ1 k = σ k := fun k p q r => by rw [d2 k q r, mup_ne _ _ _ p]
  have k20 : σ1 20 = mh_up (σ 20) x y := by rw [d2 20 (by omega) (by omega), mup_eq]
  have r := rkC_same (σ := σ) (σ' := σ1) (fun k hk => k2 k (by omega) (by omega) (by omega))
  have q := hkC_same (σ := σ) (σ' := σ1) (fun k hk => k2 k (by omega) (by omega) (by omega))
  have CP : ∀ g : Int, 0 ≤ g → g < m → 1 ≤ σ1 20 g ∧ σ1 20 g ≤ 3 := fun g g0 g1 => by
    rw [k20]
    by_cases e : g = x
    · rw [e, mh_up_eq]; exact hy
    · rw [mh_up_ne _ _ e]; exact cp g g0 g1
  have IC : inC σ1 n m := by
    unfold inC
    rw [k2 1 (by omega) (by omega) (by omega), k2 2 (by omega) (by omega) (by omega), k2 11 (by omega) (by omega) (by omega), k2 10 (by omega) (by omega) (by omega), k2 19 (by omega) (by omega) (by omega), r, q]
    exact ⟨i1, i2, i3, i4, i5, i6, ⟨n1, n6, m1, m6⟩, LR, LH, CP⟩
  have z1 : zb (decide (0 ≤ x) && decide (x ≤ (m : Int) - 1)) = 1 := by rw [decide_eq_true hx.1, decide_eq_true (by omega)]; rfl
  have z2 : zb (decide (1 ≤ y) && decide (y ≤ 3)) = 1 := by rw [decide_eq_true hy.1, decide_eq_true hy.2]; rfl
  refine ⟨σ1, mup (mup (mup τ 0 0 0) 1 x y) 0 7 0, d1, ?_, ?_, IC, ⟨?_, ?_, ⟨n1, n6, m1, m6⟩, IC.2.2.2.2.2.2.2.1, IC.2.2.2.2.2.2.2.2.1, CP, ?_, ?_, fun g g0 g1 => ?_⟩, fun r r0 r1 => ?_, Or.inl ⟨d3, d4, ?_⟩⟩
  · unfold fX7_seats_0
    rw [j2, if_pos (by omega), mIn, Option.bind_some, z1, if_neg (by omega), mIn, Option.bind_some, z2, if_neg (by omega), nx_eq, if_pos (by rw [mup_eq, mh_up_eq]), if_pos (by omega), nx_eq, nx_eq]
  · rw [mup_eq, mh_up_ne _ _ (by omega), mup_ne _ _ _ (by omega), mup_eq, mh_up_eq]
  · rw [mup_eq, mh_up_ne _ _ (by omega), mup_ne _ _ _ (by omega), mup_eq, mh_up_ne _ _ (by omega)]; exact j1
  · rw [mup_eq, mh_up_ne _ _ (by omega), mup_ne _ _ _ (by omega), mup_eq, mh_up_ne _ _ (by omega)]; exact j2
  · rw [r, k2 10 (by omega) (by omega) (by omega)]
    intro g g0 g1
    rw [mup_ne _ _ _ (by omega), mup_ne _ _ _ (by omega), mup_ne _ _ _ (by omega), mup_ne _ _ _ (by omega), mup_ne _ _ _ (by omega), mup_ne _ _ _ (by omega)]
    exact LM g g0 g1
  · rw [q, k2 19 (by omega) (by omega) (by omega)]
    intro g g0 g1
    rw [mup_ne _ _ _ (by omega), mup_ne _ _ _ (by omega), mup_ne _ _ _ (by omega), mup_ne _ _ _ (by omega), mup_ne _ _ _ (by omega), mup_ne _ _ _ (by omega)]
    exact LM' g g0 g1
  · rw [mup_ne _ _ _ (by omega), mup_eq, mup_ne _ _ _ (by omega), k20]
    by_cases e : g = x
    · rw [e, mh_up_eq, mh_up_eq]
    · rw [mh_up_ne _ _ e, mh_up_ne _ _ e]; exact LC g g0 g1
  · rw [mup_ne _ _ _ (by omega), mup_ne _ _ _ (by omega), mup_ne _ _ _ (by omega), k2 22 (by omega) (by omega) (by omega)]
    exact h.2.2.1 r r0 r1
  · rw [mup_eq, mh_up_eq]
theorem zb_out {a b x : Int} (h : ¬ (a ≤ x ∧ x ≤ b)) : zb (decide (a ≤ x) && decide (x ≤ b)) = 0 := by
  rw [zb_0, Bool.and_eq_false_iff]
  by_cases c : a ≤ x
  · exact Or.inr (decide_eq_false (by omega))
  · exact Or.inl (decide_eq_false c)
theorem zb_inn {a b x : Int} (h : a ≤ x ∧ x ≤ b) : zb (decide (a ≤ x) && decide (x ≤ b)) = 1 := by
  rw [decide_eq_true h.1, decide_eq_true h.2]; rfl
theorem tSeatsX (h : cpI σ τ n m) {x y : Int} (hx : ¬ (0 ≤ x ∧ x < m)) : fX7_seats_0 τ x y = some (0, mup τ 0 0 1) := by
  obtain ⟨j1, j2, ⟨n1, n6, m1, m6⟩, -⟩ := id h.2.1
  unfold fX7_seats_0
  rw [j2, if_pos (by omega), mIn, Option.bind_some, zb_out (by omega), if_pos rfl, nx_eq, if_neg (by rw [mup_eq, mh_up_eq]; omega)]
theorem tSeatsY (h : cpI σ τ n m) {x y : Int} (hx : 0 ≤ x ∧ x < m) (hy : ¬ (1 ≤ y ∧ y ≤ 3)) : fX7_seats_0 τ x y = some (0, mup τ 0 0 2) := by
  obtain ⟨j1, j2, ⟨n1, n6, m1, m6⟩, -⟩ := id h.2.1
  unfold fX7_seats_0
  rw [j2, if_pos (by omega), mIn, Option.bind_some, zb_inn (by omega), if_neg (by omega), mIn, Option.bind_some, zb_out hy, if_pos rfl, nx_eq, if_neg (by rw [mup_eq, mh_up_eq]; omega)]
/-- told: one more, or a row -/
theorem cpI_told {σ' τ' : Mem} (h : cpI σ τ n m) (e : ∀ k, k ≠ 22 → σ' k = σ k) (e' : ∀ c, c ≠ 0 → c ≠ 4 → τ' c = τ c) (e0 : ∀ j : Int, j ≠ 0 → τ' 0 j = τ 0 j) (t : ∀ r : Int, 0 ≤ r → r < n → τ' 4 r = σ' 22 r ∧ (σ' 22 r = -1 ∨ (0 ≤ σ' 22 r ∧ σ' 22 r < m))) : cpI σ' τ' n m := by
  obtain ⟨h1, h2, h3, h4⟩ := h
  have r := rkC_same (σ := σ) (σ' := σ') (fun k hk => e k (by omega))
  have q := hkC_same (σ := σ) (σ' := σ') (fun k hk => e k (by omega))
  have i := inC_same h1 (σ' := σ') (fun k hk => e k (by omega))
  unfold cpI wkC ctC stC rtC dnC
  rw [r, q, e 10 (by omega), e 19 (by omega), e 20 (by omega), e 25 (by omega), e 26 (by omega), e 27 (by omega), e 28 (by omega), e 29 (by omega), e 30 (by omega), e 31 (by omega), e 32 (by omega)]
  refine ⟨i, liM_same h2 (e0 1 (by omega)) (e0 2 (by omega)) (fun k hk => e' k (by omega) (by omega)), t, ?_⟩
  rcases h4 with ⟨a, b, c⟩ | ⟨a, S, R, b, c, d⟩
  · exact Or.inl ⟨a, b, by rw [e0 7 (by omega)]; exact c⟩
  · refine Or.inr ⟨by rw [e0 7 (by omega)]; exact a, S, R, ⟨⟨i, b.1.2⟩, b.2⟩, ctM_same c (e0 1 (by omega)) (e0 2 (by omega)) (e0 8 (by omega)) (fun k hk => e' k (by omega) (by omega)), ?_⟩
    unfold rtM roM at d ⊢
    rw [e0 10 (by omega), e' 6 (by omega) (by omega), e' 7 (by omega) (by omega), e' 8 (by omega) (by omega), e' 9 (by omega) (by omega)]
    exact d
theorem tTellC (h : cpI σ τ n m) {x y : Int} (hx : 0 ≤ x ∧ x < n) (hy : y = -1 ∨ (0 ≤ y ∧ y < m)) : fX7_tell_0 τ x y = some (0, mup (mup τ 0 0 0) 4 x y) ∧ cpI (mup σ 22 x y) (mup (mup τ 0 0 0) 4 x y) n m := by
  obtain ⟨j1, j2, ⟨n1, n6, m1, m6⟩, -⟩ := id h.2.1
  constructor
  · unfold fX7_tell_0
    rw [j1, j2, if_pos (by omega), mIn, Option.bind_some, zb_inn (by omega), if_neg (by omega)]
    by_cases a : y = -1
    · rw [if_pos a, nx_eq, if_pos (by rw [mup_eq, mh_up_eq]), if_pos (by omega), nx_eq]
    · rw [if_neg a, if_pos (by omega), mIn, Option.bind_some, zb_inn (by omega), if_neg (by omega), nx_eq, if_pos (by rw [mup_eq, mh_up_eq]), if_pos (by omega), nx_eq]
  · refine cpI_told h (fun k hk => mup_ne _ _ _ hk) (fun c h0 h4 => by rw [mup_ne _ _ _ h4, mup_ne _ _ _ h0]) (fun j hj => by rw [mup_ne _ _ _ (by omega), mup_eq, mh_up_ne _ _ hj]) (fun r r0 r1 => ?_)
    rw [mup_eq, mup_eq, mup_ne _ _ _ (by omega)]
    by_cases e : r = x
    · rw [e, mh_up_eq, mh_up_eq]; exact ⟨rfl, hy⟩
    · rw [mh_up_ne _ _ e, mh_up_ne _ _ e]; exact h.2.2.1 r r0 r1
theorem tTellX (h : cpI σ τ n m) {x y : Int} (hx : ¬ ((0 ≤ x ∧ x < n) ∧ (y = -1 ∨ (0 ≤ y ∧ y < m)))) : fX7_tell_0 τ x y = some (0, mup τ 0 0 1) := by
  obtain ⟨j1, j2, ⟨n1, n6, m1, m6⟩, -⟩ := id h.2.1
  have ne : ¬ mup τ 0 0 1 0 0 = 0 := by rw [mup_eq, mh_up_eq]; omega
  unfold fX7_tell_0
  rw [j1, j2, if_pos (by omega), mIn, Option.bind_some]
  by_cases a : 0 ≤ x ∧ x < n
  · rw [zb_inn (by omega), if_neg (by omega), if_neg (by omega), if_pos (by omega), mIn, Option.bind_some, zb_out (by omega), if_pos rfl, nx_eq, if_neg ne]
  · rw [zb_out (by omega), if_pos rfl, nx_eq, if_neg ne]
theorem tWork (h : cpI σ τ n m) : ∃ v σ' τ', fX6_work_0 σ = some (v, σ') ∧ fX7_work_0 τ = some (v, τ') ∧ cpI σ' τ' n m := by
  obtain ⟨σ', S, R, a1, a2, a3⟩ := uWork h.1
  obtain ⟨τ', S', b1, b2, b3, b4, b5, b6, b7, b8⟩ := mWork h.2.1
  have r := rkC_same (σ := σ) (σ' := σ') (fun k hk => a2 k (by omega))
  have q := hkC_same (σ := σ) (σ' := σ') (fun k hk => a2 k (by omega))
  have e20 := a2 20 (by omega)
  have sc := a3.1.2.1
  rw [r, q, e20] at sc
  have SS : S' = S := sOK_eq b7.2.1 sc
  subst SS
  refine ⟨_, σ', τ', a1, b1, a3.1.1, ?_, fun x x0 x1 => ?_, Or.inr ⟨b6, S', R, a3, ?_, ?_⟩⟩
  · rw [r, q, e20, a2 10 (by omega), a2 19 (by omega)]; exact b7.1
  · rw [b2 4 (by omega), a2 22 (by omega)]; exact h.2.2.1 x x0 x1
  · rw [r, q, e20, a2 10 (by omega), a2 19 (by omega)]; exact b7
  · have o := a3.2.2.1
    have l := a3.2.2.2.1
    rw [r] at o l ⊢
    exact b8 R o l
end CP2
