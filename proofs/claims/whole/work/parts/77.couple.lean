/-! PURE 16: class and reference side by side: what both hold; calls that change lists, seats, what is told -/
def cpI (σ τ : Mem) (n m : Nat) : Prop :=
  inC σ n m ∧ liM τ n m (rkC σ) (hkC σ) (σ 10) (σ 19) (σ 20) ∧ (∀ r : Int, 0 ≤ r → r < n → τ 4 r = σ 22 r ∧ (σ 22 r = -1 ∨ (0 ≤ σ 22 r ∧ σ 22 r < m))) ∧
  ((σ 25 3 = 0 ∧ σ 28 5 = 0 ∧ τ 0 7 = 0) ∨ (τ 0 7 = 1 ∧ ∃ S R, wkC σ n m S R ∧ ctM τ n m (rkC σ) (hkC σ) (σ 10) (σ 19) (σ 20) S ∧ rtM τ n (PS (rkC σ) S) S R))
theorem cpI_m {σ τ τ' : Mem} {n m : Nat} (h : cpI σ τ n m) (e : ∀ c, c ≠ 0 → c ≠ 10 → c ≠ 11 → τ' c = τ c) (e0 : ∀ j : Int, j ≠ 0 → τ' 0 j = τ 0 j) : cpI σ τ' n m := by
  obtain ⟨h1, h2, h3, h4⟩ := h
  refine ⟨h1, liM_same h2 (e0 1 (by omega)) (e0 2 (by omega)) (fun k hk => e k (by omega) (by omega) (by omega)), fun r r0 r1 => by rw [e 4 (by omega) (by omega) (by omega)]; exact h3 r r0 r1, ?_⟩
  rcases h4 with ⟨a, b, c⟩ | ⟨a, S, R, b, c, d⟩
  · exact Or.inl ⟨a, b, by rw [e0 7 (by omega)]; exact c⟩
  · refine Or.inr ⟨by rw [e0 7 (by omega)]; exact a, S, R, b, ctM_same c (e0 1 (by omega)) (e0 2 (by omega)) (e0 8 (by omega)) (fun k hk => e k (by omega) (by omega) (by omega)), ?_⟩
    unfold rtM roM at d ⊢
    rw [e0 10 (by omega), e 6 (by omega) (by omega) (by omega), e 7 (by omega) (by omega) (by omega), e 8 (by omega) (by omega) (by omega), e 9 (by omega) (by omega) (by omega)]
    exact d
theorem cpI_m0 {σ τ : Mem} {n m : Nat} (h : cpI σ τ n m) (x : Int) : cpI σ (mup τ 0 0 x) n m :=
  cpI_m h (fun c h0 _ _ => mup_ne _ _ _ h0) (fun j hj => by rw [mup_eq, mh_up_ne _ _ hj])
/-- changes of the class that leave what counts -/
theorem cpI_c {σ σ' τ : Mem} {n m : Nat} (h : cpI σ τ n m) (e : ∀ k, k ≠ 24 → σ' k = σ k) : cpI σ' τ n m := by
  obtain ⟨h1, h2, h3, h4⟩ := h
  have r := rkC_same (σ := σ) (σ' := σ') (fun k hk => e k (by omega))
  have q := hkC_same (σ := σ) (σ' := σ') (fun k hk => e k (by omega))
  have i := inC_same h1 (σ' := σ') (fun k hk => e k (by omega))
  unfold cpI wkC ctC stC rtC dnC
  rw [r, q, e 10 (by omega), e 19 (by omega), e 20 (by omega), e 22 (by omega), e 25 (by omega), e 26 (by omega), e 27 (by omega), e 28 (by omega), e 29 (by omega), e 30 (by omega), e 31 (by omega), e 32 (by omega)]
  refine ⟨i, h2, h3, ?_⟩
  rcases h4 with z | ⟨a, S, R, b, c, d⟩
  · exact Or.inl z
  · exact Or.inr ⟨a, S, R, ⟨⟨i, b.1.2⟩, b.2⟩, c, d⟩
section CPL
variable {σ τ : Mem} {n m : Nat}
theorem mIsListX (τ : Mem) {s x : Int} (s0 : s ≠ 0) (s1 : s ≠ 1) : fX7_isList_0 τ s x = some 0 := by
  unfold fX7_isList_0
  rw [mIn, Option.bind_some, if_pos]
  by_cases a : 0 ≤ s
  · rw [decide_eq_false (show ¬ s ≤ 1 by omega), Bool.and_false]; rfl
  · rw [decide_eq_false a]; rfl
theorem tDrop (σ : Mem) : ∃ σ', fX6_dropWork_0 σ = some (0, σ') ∧ (∀ k, k ≠ 25 → k ≠ 28 → σ' k = σ k) ∧ σ' 25 3 = 0 ∧ σ' 28 5 = 0 ∧ (∀ j : Int, j ≠ 3 → σ' 25 j = σ 25 j) ∧ ∀ j : Int, j ≠ 5 → σ' 28 j = σ 28 j := by
  refine ⟨_, uDrop σ, fun k a b => by rw [mup_ne _ _ _ b, mup_ne _ _ _ a], by rw [mup_ne _ _ _ (by omega), mup_eq, mh_up_eq], by rw [mup_eq, mh_up_eq], fun j hj => by rw [mup_ne _ _ _ (by omega), mup_eq, mh_up_ne _ _ hj], fun j hj => by rw [mup_eq, mh_up_ne _ _ hj, mup_ne _ _ _ (by omega)]⟩
theorem mIsList0 (I1 : τ 0 1 = n) (I2 : τ 0 2 = m) (n6 : n ≤ 6) (m6 : m ≤ 6) (x : Int) : fX7_isList_0 τ 0 x = some (zb (decide (0 ≤ x) && decide (x < n))) := by
  unfold fX7_isList_0 fX7_sizeOf_0
  rw [mIn, Option.bind_some, if_neg (by decide), if_pos rfl, I1, Option.bind_some, if_pos (by omega), mIn, Option.bind_some]
  by_cases a : 0 ≤ x
  · rw [decide_eq_true a]
    by_cases b : x < n
    · rw [decide_eq_true b, decide_eq_true (show x ≤ (n : Int) - 1 by omega)]; rfl
    · rw [decide_eq_false b, decide_eq_false (show ¬ x ≤ (n : Int) - 1 by omega)]; rfl
  · rw [decide_eq_false a]; rfl
theorem tListed0 (h : cpI σ τ n m) (x y : Int) : ∃ v τ', fX6_listed_0 σ 0 x y = some v ∧ fX7_listed_0 τ 0 x y = some (v, τ') ∧ cpI σ τ' n m := by
  obtain ⟨i1, i2, i3, i4, i5, i6, ⟨n1, n6, m1, m6⟩, LR, LH, cp⟩ := id h.1
  obtain ⟨j1, j2, -, -, -, -, LM, LM', LC⟩ := id h.2.1
  unfold fX6_listed_0 fX7_listed_0 fX1_listsOf_1
  have li : fX7_isList_0 (mup τ 0 0 0) 0 x = some (zb (decide (0 ≤ x) && decide (x < n))) := mIsList0 (n := n) (m := m) (by rw [mup_eq, mh_up_ne _ _ (by omega)]; exact j1) (by rw [mup_eq, mh_up_ne _ _ (by omega)]; exact j2) n6 m6 x
  rw [if_pos rfl, Option.bind_some, if_pos rfl, uHasOwner_2, Option.bind_some, nx_eq, li, Option.bind_some, i3]
  by_cases a : 0 ≤ x ∧ x < n
  · have za : zb (decide (0 ≤ x) && decide (x < (n : Int))) = 1 := by rw [decide_eq_true a.1, decide_eq_true a.2]; rfl
    obtain ⟨u1, u2⟩ := LM x a.1 a.2
    have l1 := (LR x a.1 a.2).1
    have m3 : mup τ 0 0 0 3 (6 * 0 + x) = σ 10 x := by rw [mup_ne _ _ _ (by omega), ← u1]; congr 1 <;> omega
    have m2 : ∀ p : Int, 0 ≤ p → p < σ 10 x → mup τ 0 0 0 2 (36 * 0 + 6 * x + p) = atF m (rkC σ) x p := fun p p0 p1 => by
      rw [mup_ne _ _ _ (by omega), ← u2 p p0 p1]; congr 1 <;> omega
    rw [za, if_neg (by omega), if_neg (by omega), uAt_2 i4 (by omega) ⟨a.1, by omega⟩, Option.bind_some, m3]
    repeat rw [if_pos (by omega)]
    rw [mIn, Option.bind_some]
    by_cases b : 0 ≤ y ∧ y ≤ σ 10 x - 1
    · have zc : zb (decide (0 ≤ y) && decide (y ≤ σ 10 x - 1)) = 1 := by rw [decide_eq_true b.1, decide_eq_true b.2]; rfl
      rw [zc, if_neg (by omega)]
      repeat rw [if_pos (by omega)]
      rw [m2 y b.1 (by omega)]
      exact ⟨_, _, rfl, rfl, cpI_m0 h 0⟩
    · have zc : zb (decide (0 ≤ y) && decide (y ≤ σ 10 x - 1)) = 0 := by
        rw [zb_0, Bool.and_eq_false_iff]
        by_cases c : 0 ≤ y
        · exact Or.inr (decide_eq_false (by omega))
        · exact Or.inl (decide_eq_false c)
      rw [zc, if_pos rfl, atF_none LR a.1 a.2 (by omega)]
      exact ⟨_, _, rfl, rfl, cpI_m0 h 0⟩
  · have za : zb (decide (0 ≤ x) && decide (x < (n : Int))) = 0 := by
      rw [zb_0, Bool.and_eq_false_iff]
      by_cases c : 0 ≤ x
      · exact Or.inr (decide_eq_false (by omega))
      · exact Or.inl (decide_eq_false c)
    rw [za, if_pos rfl, if_pos rfl]
    exact ⟨_, _, rfl, rfl, cpI_m0 h 0⟩
theorem tForget0 (h : cpI σ τ n m) (x : Int) : ∃ v σ' τ', fX6_forget_0 σ 0 x = some (v, σ') ∧ fX7_forget_0 τ 0 x = some (v, τ') ∧ cpI σ' τ' n m := by
  obtain ⟨i1, i2, i3, i4, i5, i6, ⟨n1, n6, m1, m6⟩, LR, LH, cp⟩ := id h.1
  obtain ⟨j1, j2, -, -, -, -, LM, LM', LC⟩ := id h.2.1
  unfold fX6_forget_0 fX7_forget_0 fX1_listsOf_1
  have li : fX7_isList_0 (mup τ 0 0 0) 0 x = some (zb (decide (0 ≤ x) && decide (x < n))) := mIsList0 (n := n) (m := m) (by rw [mup_eq, mh_up_ne _ _ (by omega)]; exact j1) (by rw [mup_eq, mh_up_ne _ _ (by omega)]; exact j2) n6 m6 x
  rw [if_pos rfl, Option.bind_some, if_pos rfl, uHasOwner_2, Option.bind_some, nx_eq, li, Option.bind_some, i3]
  by_cases a : 0 ≤ x ∧ x < n
  · have za : zb (decide (0 ≤ x) && decide (x < (n : Int))) = 1 := by rw [decide_eq_true a.1, decide_eq_true a.2]; rfl
    obtain ⟨u1, u2⟩ := LM x a.1 a.2
    have m3 : mup τ 0 0 0 3 (6 * 0 + x) = σ 10 x := by rw [mup_ne _ _ _ (by omega), ← u1]; congr 1 <;> omega
    obtain ⟨σ1, d1, d2, d3, d4, -, -⟩ := tDrop σ
    obtain ⟨σ2, e1, e2, e3, e4⟩ := uEmpty_2 σ1 (y := x) a.1 (by omega)
    rw [za, if_neg (by omega), if_neg (by omega), d1, bnd2_some, e1, bnd2_some, m3, d2 10 (by omega) (by omega)]
    repeat rw [if_pos (by omega)]
    rw [nx_eq, nx_eq]
    have k2 : ∀ k, k ≠ 4 + x.toNat → k ≠ 10 → k ≠ 25 → k ≠ 28 → σ2 k = σ k := fun k p q r t => by rw [e2 k p q, d2 k r t]
    have z2 : σ2 10 = mh_up (σ 10) x 0 := by rw [e4, d2 10 (by omega) (by omega)]
    have ro : ∀ r : Int, 0 ≤ r → r < n → r ≠ x → ∀ g : Int, rkC σ2 r g = rkC σ r g := fun r r0 r1 ne g => by
      rw [rkC_eq (by omega), rkC_eq (by omega), k2 _ (by omega) (by omega) (by omega) (by omega)]
    have rw' : ∀ g : Int, 0 ≤ g → g < 6 → rkC σ2 x g = -1 := fun g g0 g1 => by
      rw [rkC_eq (by omega), e3, if_pos ⟨g0, g1⟩]
    have qq : hkC σ2 = hkC σ := by
      funext r g
      by_cases c : r < 6
      · rw [hkC_eq c, hkC_eq c, k2 _ (by omega) (by omega) (by omega) (by omega)]
      · unfold hkC; rw [if_neg c, if_neg c]
    have LX' : lsI (rkC σ2) (σ2 10) n m := lsI_emp LR (w := x) ⟨by rw [z2, mh_up_eq], fun g g0 g1 => rw' g g0 (by omega)⟩ (fun r r0 r1 ne => ⟨by rw [z2, mh_up_ne _ _ ne], fun g _ _ => ro r r0 r1 ne g⟩)
    have IC : inC σ2 n m := by
      unfold inC
      rw [k2 1 (by omega) (by omega) (by omega) (by omega), k2 2 (by omega) (by omega) (by omega) (by omega), k2 11 (by omega) (by omega) (by omega) (by omega), k2 19 (by omega) (by omega) (by omega) (by omega), k2 20 (by omega) (by omega) (by omega) (by omega), qq]
      exact ⟨i1, i2, i3, i4, i5, i6, ⟨n1, n6, m1, m6⟩, LX', LH, cp⟩
    have t3 : ∀ j : Int, mup (mup (mup τ 0 0 0) 3 (6 * 0 + x) 0) 0 7 0 3 j = mh_up (τ 3) (6 * 0 + x) 0 j := fun j => by rw [mup_ne _ _ _ (by omega), mup_eq, mup_ne _ _ _ (by omega)]
    refine ⟨_, _, _, rfl, rfl, IC, ⟨?_, ?_, ⟨n1, n6, m1, m6⟩, IC.2.2.2.2.2.2.2.1, IC.2.2.2.2.2.2.2.2.1, IC.2.2.2.2.2.2.2.2.2, fun r r0 r1 => ⟨?_, fun p p0 p1 => ?_⟩, fun g g0 g1 => ⟨?_, fun p p0 p1 => ?_⟩, fun g g0 g1 => ?_⟩, fun r r0 r1 => ?_, Or.inl ⟨?_, ?_, ?_⟩⟩
    · rw [mup_eq, mh_up_ne _ _ (by omega), mup_ne _ _ _ (by omega), mup_eq, mh_up_ne _ _ (by omega)]; exact j1
    · rw [mup_eq, mh_up_ne _ _ (by omega), mup_ne _ _ _ (by omega), mup_eq, mh_up_ne _ _ (by omega)]; exact j2
    · rw [t3]
      by_cases e : r = x
      · subst e
        rw [show (6 * 0 + r : Int) = r by omega, mh_up_eq, z2, mh_up_eq]
      · rw [mh_up_ne _ _ (by omega), z2, mh_up_ne _ _ e]; exact (LM r r0 r1).1
    · rw [mup_ne _ _ _ (by omega), mup_ne _ _ _ (by omega), mup_ne _ _ _ (by omega)]
      by_cases e : r = x
      · subst e
        rw [z2, mh_up_eq] at p1
        omega
      · rw [z2, mh_up_ne _ _ e] at p1
        rw [atF_congr (fun q _ _ => ro r r0 r1 e q)]
        exact (LM r r0 r1).2 p p0 p1
    · rw [t3]
      rw [mh_up_ne _ _ (by omega), k2 19 (by omega) (by omega) (by omega) (by omega)]; exact (LM' g g0 g1).1
    · rw [mup_ne _ _ _ (by omega), mup_ne _ _ _ (by omega), mup_ne _ _ _ (by omega)]
      rw [k2 19 (by omega) (by omega) (by omega) (by omega)] at p1
      rw [qq]; exact (LM' g g0 g1).2 p p0 p1
    · rw [mup_ne _ _ _ (by omega), mup_ne _ _ _ (by omega), mup_ne _ _ _ (by omega), k2 20 (by omega) (by omega) (by omega) (by omega)]
      exact LC g g0 g1
    · rw [mup_ne _ _ _ (by omega), mup_ne _ _ _ (by omega), mup_ne _ _ _ (by omega), k2 22 (by omega) (by omega) (by omega) (by omega)]
      exact h.2.2.1 r r0 r1
    · rw [e2 25 (by omega) (by omega), d3]
    · rw [e2 28 (by omega) (by omega), d4]
    · rw [mup_eq, mh_up_eq]
  · have za : zb (decide (0 ≤ x) && decide (x < (n : Int))) = 0 := by
      rw [zb_0, Bool.and_eq_false_iff]
      by_cases c : 0 ≤ x
      · exact Or.inr (decide_eq_false (by omega))
      · exact Or.inl (decide_eq_false c)
    rw [za, if_pos rfl, if_pos rfl]
    exact ⟨_, _, _, rfl, rfl, cpI_m0 h 0⟩
theorem mIsList1 (I1 : τ 0 1 = n) (I2 : τ 0 2 = m) (n6 : n ≤ 6) (m6 : m ≤ 6) (x : Int) : fX7_isList_0 τ 1 x = some (zb (decide (0 ≤ x) && decide (x < m))) := by
  unfold fX7_isList_0 fX7_sizeOf_0
  rw [mIn, Option.bind_some, if_neg (by decide), if_neg (by omega), I2, Option.bind_some, if_pos (by omega), mIn, Option.bind_some]
  by_cases a : 0 ≤ x
  · rw [decide_eq_true a]
    by_cases b : x < m
    · rw [decide_eq_true b, decide_eq_true (show x ≤ (m : Int) - 1 by omega)]; rfl
    · rw [decide_eq_false b, decide_eq_false (show ¬ x ≤ (m : Int) - 1 by omega)]; rfl
  · rw [decide_eq_false a]; rfl
theorem tListed1 (h : cpI σ τ n m) (x y : Int) : ∃ v τ', fX6_listed_0 σ 1 x y = some v ∧ fX7_listed_0 τ 1 x y = some (v, τ') ∧ cpI σ τ' n m := by
  obtain ⟨i1, i2, i3, i4, i5, i6, ⟨n1, n6, m1, m6⟩, LR, LH, cp⟩ := id h.1
  obtain ⟨j1, j2, -, -, -, -, LM, LM', LC⟩ := id h.2.1
  unfold fX6_listed_0 fX7_listed_0 fX1_listsOf_1
  have li : fX7_isList_0 (mup τ 0 0 0) 1 x = some (zb (decide (0 ≤ x) && decide (x < m))) := mIsList1 (n := n) (m := m) (by rw [mup_eq, mh_up_ne _ _ (by omega)]; exact j1) (by rw [mup_eq, mh_up_ne _ _ (by omega)]; exact j2) n6 m6 x
  rw [if_neg (by omega), if_pos rfl, Option.bind_some, if_neg (by omega), if_pos rfl, uHasOwner_11, Option.bind_some, nx_eq, li, Option.bind_some, i5]
  by_cases a : 0 ≤ x ∧ x < m
  · have za : zb (decide (0 ≤ x) && decide (x < (m : Int))) = 1 := by rw [decide_eq_true a.1, decide_eq_true a.2]; rfl
    obtain ⟨u1, u2⟩ := LM' x a.1 a.2
    have l1 := (LH x a.1 a.2).1
    have m3 : mup τ 0 0 0 3 (6 * 1 + x) = σ 19 x := by rw [mup_ne _ _ _ (by omega), ← u1]; congr 1 <;> omega
    have m2 : ∀ p : Int, 0 ≤ p → p < σ 19 x → mup τ 0 0 0 2 (36 * 1 + 6 * x + p) = atF n (hkC σ) x p := fun p p0 p1 => by
      rw [mup_ne _ _ _ (by omega), ← u2 p p0 p1]; congr 1 <;> omega
    rw [za, if_neg (by omega), if_neg (by omega), uAt_11 i6 (by omega) ⟨a.1, by omega⟩, Option.bind_some, m3]
    repeat rw [if_pos (by omega)]
    rw [mIn, Option.bind_some]
    by_cases b : 0 ≤ y ∧ y ≤ σ 19 x - 1
    · have zc : zb (decide (0 ≤ y) && decide (y ≤ σ 19 x - 1)) = 1 := by rw [decide_eq_true b.1, decide_eq_true b.2]; rfl
      rw [zc, if_neg (by omega)]
      repeat rw [if_pos (by omega)]
      rw [m2 y b.1 (by omega)]
      exact ⟨_, _, rfl, rfl, cpI_m0 h 0⟩
    · have zc : zb (decide (0 ≤ y) && decide (y ≤ σ 19 x - 1)) = 0 := by
        rw [zb_0, Bool.and_eq_false_iff]
        by_cases c : 0 ≤ y
        · exact Or.inr (decide_eq_false (by omega))
        · exact Or.inl (decide_eq_false c)
      rw [zc, if_pos rfl, atF_none LH a.1 a.2 (by omega)]
      exact ⟨_, _, rfl, rfl, cpI_m0 h 0⟩
  · have za : zb (decide (0 ≤ x) && decide (x < (m : Int))) = 0 := by
      rw [zb_0, Bool.and_eq_false_iff]
      by_cases c : 0 ≤ x
      · exact Or.inr (decide_eq_false (by omega))
      · exact Or.inl (decide_eq_false c)
    rw [za, if_pos rfl, if_pos rfl]
    exact ⟨_, _, rfl, rfl, cpI_m0 h 0⟩
theorem tForget1 (h : cpI σ τ n m) (x : Int) : ∃ v σ' τ', fX6_forget_0 σ 1 x = some (v, σ') ∧ fX7_forget_0 τ 1 x = some (v, τ') ∧ cpI σ' τ' n m := by
  obtain ⟨i1, i2, i3, i4, i5, i6, ⟨n1, n6, m1, m6⟩, LR, LH, cp⟩ := id h.1
  obtain ⟨j1, j2, -, -, -, -, LM, LM', LC⟩ := id h.2.1
  unfold fX6_forget_0 fX7_forget_0 fX1_listsOf_1
  have li : fX7_isList_0 (mup τ 0 0 0) 1 x = some (zb (decide (0 ≤ x) && decide (x < m))) := mIsList1 (n := n) (m := m) (by rw [mup_eq, mh_up_ne _ _ (by omega)]; exact j1) (by rw [mup_eq, mh_up_ne _ _ (by omega)]; exact j2) n6 m6 x
  rw [if_neg (by omega), if_pos rfl, Option.bind_some, if_neg (by omega), if_pos rfl, uHasOwner_11, Option.bind_some, nx_eq, li, Option.bind_some, i5]
  by_cases a : 0 ≤ x ∧ x < m
  · have za : zb (decide (0 ≤ x) && decide (x < (m : Int))) = 1 := by rw [decide_eq_true a.1, decide_eq_true a.2]; rfl
    obtain ⟨u1, u2⟩ := LM' x a.1 a.2
    have m3 : mup τ 0 0 0 3 (6 * 1 + x) = σ 19 x := by rw [mup_ne _ _ _ (by omega), ← u1]; congr 1 <;> omega
    obtain ⟨σ1, d1, d2, d3, d4, -, -⟩ := tDrop σ
    obtain ⟨σ2, e1, e2, e3, e4⟩ := uEmpty_11 σ1 (y := x) a.1 (by omega)
    rw [za, if_neg (by omega), if_neg (by omega), d1, bnd2_some, e1, bnd2_some, m3, d2 19 (by omega) (by omega)]
    repeat rw [if_pos (by omega)]
    rw [nx_eq, nx_eq]
    have k2 : ∀ k, k ≠ 13 + x.toNat → k ≠ 19 → k ≠ 25 → k ≠ 28 → σ2 k = σ k := fun k p q r t => by rw [e2 k p q, d2 k r t]
    have z2 : σ2 19 = mh_up (σ 19) x 0 := by rw [e4, d2 19 (by omega) (by omega)]
    have ro : ∀ r : Int, 0 ≤ r → r < m → r ≠ x → ∀ g : Int, hkC σ2 r g = hkC σ r g := fun r r0 r1 ne g => by
      rw [hkC_eq (by omega), hkC_eq (by omega), k2 _ (by omega) (by omega) (by omega) (by omega)]
    have rw' : ∀ g : Int, 0 ≤ g → g < 6 → hkC σ2 x g = -1 := fun g g0 g1 => by
      rw [hkC_eq (by omega), e3, if_pos ⟨g0, g1⟩]
    have qq : rkC σ2 = rkC σ := by
      funext r g
      by_cases c : r < 6
      · rw [rkC_eq c, rkC_eq c, k2 _ (by omega) (by omega) (by omega) (by omega)]
      · unfold rkC; rw [if_neg c, if_neg c]
    have LX' : lsI (hkC σ2) (σ2 19) m n := lsI_emp LH (w := x) ⟨by rw [z2, mh_up_eq], fun g g0 g1 => rw' g g0 (by omega)⟩ (fun r r0 r1 ne => ⟨by rw [z2, mh_up_ne _ _ ne], fun g _ _ => ro r r0 r1 ne g⟩)
    have IC : inC σ2 n m := by
      unfold inC
      rw [k2 1 (by omega) (by omega) (by omega) (by omega), k2 2 (by omega) (by omega) (by omega) (by omega), k2 11 (by omega) (by omega) (by omega) (by omega), k2 10 (by omega) (by omega) (by omega) (by omega), k2 20 (by omega) (by omega) (by omega) (by omega), qq]
      exact ⟨i1, i2, i3, i4, i5, i6, ⟨n1, n6, m1, m6⟩, LR, LX', cp⟩
    have t3 : ∀ j : Int, mup (mup (mup τ 0 0 0) 3 (6 * 1 + x) 0) 0 7 0 3 j = mh_up (τ 3) (6 * 1 + x) 0 j := fun j => by rw [mup_ne _ _ _ (by omega), mup_eq, mup_ne _ _ _ (by omega)]
    refine ⟨_, _, _, rfl, rfl, IC, ⟨?_, ?_, ⟨n1, n6, m1, m6⟩, IC.2.2.2.2.2.2.2.1, IC.2.2.2.2.2.2.2.2.1, IC.2.2.2.2.2.2.2.2.2, fun r r0 r1 => ⟨?_, fun p p0 p1 => ?_⟩, fun g g0 g1 => ⟨?_, fun p p0 p1 => ?_⟩, fun g g0 g1 => ?_⟩, fun r r0 r1 => ?_, Or.inl ⟨?_, ?_, ?_⟩⟩
    · rw [mup_eq, mh_up_ne _ _ (by omega), mup_ne _ _ _ (by omega), mup_eq, mh_up_ne _ _ (by omega)]; exact j1
    · rw [mup_eq, mh_up_ne _ _ (by omega), mup_ne _ _ _ (by omega), mup_eq, mh_up_ne _ _ (by omega)]; exact j2
    · rw [t3]
      rw [mh_up_ne _ _ (by omega), k2 10 (by omega) (by omega) (by omega) (by omega)]; exact (LM r r0 r1).1
    · rw [mup_ne _ _ _ (by omega), mup_ne _ _ _ (by omega), mup_ne _ _ _ (by omega)]
      rw [k2 10 (by omega) (by omega) (by omega) (by omega)] at p1
      rw [qq]; exact (LM r r0 r1).2 p p0 p1
    · rw [t3]
      by_cases e : g = x
      · subst e
        rw [show (6 * 1 + g : Int) = 6 + g by omega, mh_up_eq, z2, mh_up_eq]
      · rw [mh_up_ne _ _ (by omega), z2, mh_up_ne _ _ e]; exact (LM' g g0 g1).1
    · rw [mup_ne _ _ _ (by omega), mup_ne _ _ _ (by omega), mup_ne _ _ _ (by omega)]
      by_cases e : g = x
      · subst e
        rw [z2, mh_up_eq] at p1
        omega
      · rw [z2, mh_up_ne _ _ e] at p1
        rw [atF_congr (fun q _ _ => ro g g0 g1 e q)]
        exact (LM' g g0 g1).2 p p0 p1
    · rw [mup_ne _ _ _ (by omega), mup_ne _ _ _ (by omega), mup_ne _ _ _ (by omega), k2 20 (by omega) (by omega) (by omega) (by omega)]
      exact LC g g0 g1
    · rw [mup_ne _ _ _ (by omega), mup_ne _ _ _ (by omega), mup_ne _ _ _ (by omega), k2 22 (by omega) (by omega) (by omega) (by omega)]
      exact h.2.2.1 r r0 r1
    · rw [e2 25 (by omega) (by omega), d3]
    · rw [e2 28 (by omega) (by omega), d4]
    · rw [mup_eq, mh_up_eq]
  · have za : zb (decide (0 ≤ x) && decide (x < (m : Int))) = 0 := by
      rw [zb_0, Bool.and_eq_false_iff]
      by_cases c : 0 ≤ x
      · exact Or.inr (decide_eq_false (by omega))
      · exact Or.inl (decide_eq_false c)
    rw [za, if_pos rfl, if_pos rfl]
    exact ⟨_, _, _, rfl, rfl, cpI_m0 h 0⟩
end CPL
