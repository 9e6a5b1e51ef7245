/-! PURE 18: readers, class and reference side by side -/
theorem zb_in2 {a b x : Int} (h : a ≤ x ∧ x < b) : zb (decide (a ≤ x) && decide (x < b)) = 1 := by
  rw [decide_eq_true h.1, decide_eq_true h.2]; rfl
theorem zb_out2 {a b x : Int} (h : ¬ (a ≤ x ∧ x < b)) : zb (decide (a ≤ x) && decide (x < b)) = 0 := by
  rw [zb_0, Bool.and_eq_false_iff]
  by_cases c : a ≤ x
  · exact Or.inr (decide_eq_false (by omega))
  · exact Or.inl (decide_eq_false c)
theorem mh_s6 {a : Int → Int} {k : Nat} (h : ∀ r : Int, 0 ≤ r → r < k → 0 ≤ a r ∧ a r ≤ 6) : 0 ≤ mh_s a k ∧ mh_s a k ≤ 6 * k := by
  induction k with
  | zero => simp [mh_s]
  | succ k ih =>
    have := ih (fun r a b => h r a (by omega))
    have := h k (by omega) (by omega)
    simp only [mh_s]
    omega
theorem uPairs {σ : Mem} {n m : Nat} (hn : σ 1 3 = n) (n6 : n ≤ 6) (hm : σ 1 4 = m) (m6 : m ≤ 6) : fX1_countPairs_1 σ = some (mh_s (fun r => mh_c ((pB (rkC σ) (hkC σ)) r) m) n) := by
  have WI : ∀ (r : Int) (ex : Int → Int → Option Int) (s : Int), 0 ≤ r → r < n → 0 ≤ s → s < 1000 → ∀ (f j : Nat), j ≤ m → m < f + j → fX1_countPairs_1_L14 σ r ex f (s + mh_c ((pB (rkC σ) (hkC σ)) r) j) j = ex (s + mh_c ((pB (rkC σ) (hkC σ)) r) m) m := by
    intro r ex s r0 r1 s0 s1 f
    induction f with
    | zero => intro j h1 h2; omega
    | succ f ih =>
      intro j h1 h2
      rw [fX1_countPairs_1_L14, hm]
      have hc0 := mh_c_0 ((pB (rkC σ) (hkC σ)) r) j
      have hcl := mh_c_le ((pB (rkC σ) (hkC σ)) r) j
      rcases Nat.lt_or_ge j m with hk' | hk'
      · have ih' := ih (j + 1) (by omega) (by omega)
        rw [mh_c_succ, show ((j + 1 : Nat) : Int) = (j : Int) + 1 by omega] at ih'
        rw [if_pos (by omega), uIsPair (by omega) (by omega), Option.bind_some]
        cases e : (pB (rkC σ) (hkC σ)) r j with
        | false =>
          rw [if_pos (by simp [zb])]
          repeat rw [if_pos (by omega)]
          rw [e] at ih'
          simpa using ih'
        | true =>
          rw [if_neg (by simp [zb])]
          repeat rw [if_pos (by omega)]
          rw [e, if_pos rfl] at ih'
          rw [Int.add_assoc]
          exact ih'
      · have : j = m := by omega
        subst this
        rw [if_neg (by omega)]
  have S0 : ∀ k : Nat, k ≤ n → 0 ≤ mh_s (fun r => mh_c ((pB (rkC σ) (hkC σ)) r) m) k ∧ mh_s (fun r => mh_c ((pB (rkC σ) (hkC σ)) r) m) k ≤ 6 * k := fun k hk => mh_s6 (fun r r0 r1 => by
    have hc0 := mh_c_0 ((pB (rkC σ) (hkC σ)) r) m
    have hcl := mh_c_le ((pB (rkC σ) (hkC σ)) r) m
    omega)
  have WO : ∀ (ex : Int → Int → Option Int) (f j : Nat), j ≤ n → n < f + j → fX1_countPairs_1_L4 σ ex f (mh_s (fun r => mh_c ((pB (rkC σ) (hkC σ)) r) m) j) j = ex (mh_s (fun r => mh_c ((pB (rkC σ) (hkC σ)) r) m) n) n := by
    intro ex f
    induction f with
    | zero => intro j h1 h2; omega
    | succ f ih =>
      intro j h1 h2
      rw [fX1_countPairs_1_L4, hn]
      rcases Nat.lt_or_ge j n with hk' | hk'
      · have ih' := ih (j + 1) (by omega) (by omega)
        rw [show ((j + 1 : Nat) : Int) = (j : Int) + 1 by omega] at ih'
        have s0 := S0 j h1
        rw [if_pos (by omega)]
        have := WI j (fun v12 v13 => if rng ((j : Int) + 1) then fX1_countPairs_1_L4 σ ex f v12 ((j : Int) + 1) else none) (mh_s (fun r => mh_c ((pB (rkC σ) (hkC σ)) r) m) j) (by omega) (by omega) (by omega) (by omega) FU 0 (by omega) (by unfold FU; omega)
        rw [show mh_c ((pB (rkC σ) (hkC σ)) j) 0 = 0 from rfl, Int.add_zero, show ((0 : Nat) : Int) = 0 from rfl] at this
        rw [this, if_pos (by omega)]
        exact ih'
      · have : j = n := by omega
        subst this
        rw [if_neg (by omega)]
  unfold fX1_countPairs_1
  exact WO _ FU 0 (by omega) (by unfold FU; omega)
theorem uCBlock {σ : Mem} {n m : Nat} (hn : σ 1 3 = n) (n6 : n ≤ 6) (hm : σ 1 4 = m) (m6 : m ≤ 6) (hv : ∀ r : Int, 0 ≤ r → r < n → σ 22 r = -1 ∨ (0 ≤ σ 22 r ∧ σ 22 r < 6)) : fX3_countBlocking_21 σ = some (mh_s (fun r => mh_c ((blkB n (rkC σ) (hkC σ) (σ 20) (σ 22)) r) m) n) := by
  have WI : ∀ (r : Int) (ex : Int → Int → Option Int) (s : Int), 0 ≤ r → r < n → 0 ≤ s → s < 1000 → ∀ (f j : Nat), j ≤ m → m < f + j → fX3_countBlocking_21_L17 σ r ex f (s + mh_c ((blkB n (rkC σ) (hkC σ) (σ 20) (σ 22)) r) j) j = ex (s + mh_c ((blkB n (rkC σ) (hkC σ) (σ 20) (σ 22)) r) m) m := by
    intro r ex s r0 r1 s0 s1 f
    induction f with
    | zero => intro j h1 h2; omega
    | succ f ih =>
      intro j h1 h2
      rw [fX3_countBlocking_21_L17, hm]
      have hc0 := mh_c_0 ((blkB n (rkC σ) (hkC σ) (σ 20) (σ 22)) r) j
      have hcl := mh_c_le ((blkB n (rkC σ) (hkC σ) (σ 20) (σ 22)) r) j
      rcases Nat.lt_or_ge j m with hk' | hk'
      · have ih' := ih (j + 1) (by omega) (by omega)
        rw [mh_c_succ, show ((j + 1 : Nat) : Int) = (j : Int) + 1 by omega] at ih'
        rw [if_pos (by omega), uBlk_22 hn n6 (by omega) (by omega) (hv r r0 r1), Option.bind_some]
        cases e : (blkB n (rkC σ) (hkC σ) (σ 20) (σ 22)) r j with
        | false =>
          rw [if_pos (by simp [zb])]
          repeat rw [if_pos (by omega)]
          rw [e] at ih'
          simpa using ih'
        | true =>
          rw [if_neg (by simp [zb])]
          repeat rw [if_pos (by omega)]
          rw [e, if_pos rfl] at ih'
          rw [Int.add_assoc]
          exact ih'
      · have : j = m := by omega
        subst this
        rw [if_neg (by omega)]
  have S0 : ∀ k : Nat, k ≤ n → 0 ≤ mh_s (fun r => mh_c ((blkB n (rkC σ) (hkC σ) (σ 20) (σ 22)) r) m) k ∧ mh_s (fun r => mh_c ((blkB n (rkC σ) (hkC σ) (σ 20) (σ 22)) r) m) k ≤ 6 * k := fun k hk => mh_s6 (fun r r0 r1 => by
    have hc0 := mh_c_0 ((blkB n (rkC σ) (hkC σ) (σ 20) (σ 22)) r) m
    have hcl := mh_c_le ((blkB n (rkC σ) (hkC σ) (σ 20) (σ 22)) r) m
    omega)
  have WO : ∀ (ex : Int → Int → Option Int) (f j : Nat), j ≤ n → n < f + j → fX3_countBlocking_21_L4 σ ex f (mh_s (fun r => mh_c ((blkB n (rkC σ) (hkC σ) (σ 20) (σ 22)) r) m) j) j = ex (mh_s (fun r => mh_c ((blkB n (rkC σ) (hkC σ) (σ 20) (σ 22)) r) m) n) n := by
    intro ex f
    induction f with
    | zero => intro j h1 h2; omega
    | succ f ih =>
      intro j h1 h2
      rw [fX3_countBlocking_21_L4, hn]
      rcases Nat.lt_or_ge j n with hk' | hk'
      · have ih' := ih (j + 1) (by omega) (by omega)
        rw [show ((j + 1 : Nat) : Int) = (j : Int) + 1 by omega] at ih'
        have s0 := S0 j h1
        rw [if_pos (by omega)]
        have := WI j (fun v12 v13 => if rng ((j : Int) + 1) then fX3_countBlocking_21_L4 σ ex f v12 ((j : Int) + 1) else none) (mh_s (fun r => mh_c ((blkB n (rkC σ) (hkC σ) (σ 20) (σ 22)) r) m) j) (by omega) (by omega) (by omega) (by omega) FU 0 (by omega) (by unfold FU; omega)
        rw [show mh_c ((blkB n (rkC σ) (hkC σ) (σ 20) (σ 22)) j) 0 = 0 from rfl, Int.add_zero, show ((0 : Nat) : Int) = 0 from rfl] at this
        rw [this, if_pos (by omega)]
        exact ih'
      · have : j = n := by omega
        subst this
        rw [if_neg (by omega)]
  unfold fX3_countBlocking_21
  exact WO _ FU 0 (by omega) (by unfold FU; omega)
/-- costs of a row -/
def csF (rk hk : Int → Int → Int) (f : Int → Int) : Nat → Int × Int × Int
  | 0 => (0, 0, -1)
  | k + 1 => if f k = -1 then csF rk hk f k else ((csF rk hk f k).1 + rk k (f k), (csF rk hk f k).2.1 + hk (f k) k, zmax (csF rk hk f k).2.2 (zmax (rk k (f k)) (hk (f k) k)))
def coF (x : Int) (t : Int × Int × Int) : Int := if x = 0 then t.1 else if x = 1 then t.2.1 else if x = 2 then t.1 + t.2.1 else if x = 3 then zabs (t.1 - t.2.1) else if x = 4 then t.2.2 else -1
theorem csF_rng {rk hk : Int → Int → Int} {f : Int → Int} {n : Nat} (h : ∀ r : Int, 0 ≤ r → r < n → f r = -1 ∨ ((0 ≤ rk r (f r) ∧ rk r (f r) < 6) ∧ (0 ≤ hk (f r) r ∧ hk (f r) r < 6))) : ∀ k : Nat, k ≤ n → (0 ≤ (csF rk hk f k).1 ∧ (csF rk hk f k).1 ≤ 6 * k) ∧ (0 ≤ (csF rk hk f k).2.1 ∧ (csF rk hk f k).2.1 ≤ 6 * k) ∧ (-1 ≤ (csF rk hk f k).2.2 ∧ (csF rk hk f k).2.2 < 6) := by
  intro k
  induction k with
  | zero => intro _; simp [csF]
  | succ k ih =>
    intro hk'
    have i := ih (by omega)
    have v := h k (by omega) (by omega)
    simp only [csF]
    by_cases e : f k = -1
    · rw [if_pos e]; omega
    · rw [if_neg e]
      have v := v.resolve_left e
      refine ⟨by dsimp only; omega, by dsimp only; omega, ?_⟩
      dsimp only
      unfold zmax
      split <;> split <;> omega
theorem uCost {σ : Mem} {n : Nat} (hn : σ 1 3 = n) (n6 : n ≤ 6) {i : Int} (i0 : 0 ≤ i) (i1 : i < 216) {g : Int → Int} (hg : ∀ r : Int, 0 ≤ r → r < n → σ 26 (i * 6 + r) = g r ∧ (g r = -1 ∨ (0 ≤ g r ∧ g r < 6 ∧ σ 27 (i * 6 + r) = rkC σ r (g r)))) (h : ∀ r : Int, 0 ≤ r → r < n → g r = -1 ∨ ((0 ≤ rkC σ r (g r) ∧ rkC σ r (g r) < 6) ∧ (0 ≤ hkC σ (g r) r ∧ hkC σ (g r) r < 6))) (x : Int) : fX5_costOf_25 σ i x = some (coF x (csF (rkC σ) (hkC σ) g n)) := by
  have R := csF_rng h
  have W : ∀ (ex : Int → Int → Int → Int → Option Int) (f k : Nat), k ≤ n → n < f + k → fX5_costOf_25_L11 σ i ex f (csF (rkC σ) (hkC σ) g k).1 (csF (rkC σ) (hkC σ) g k).2.1 (csF (rkC σ) (hkC σ) g k).2.2 k = ex (csF (rkC σ) (hkC σ) g n).1 (csF (rkC σ) (hkC σ) g n).2.1 (csF (rkC σ) (hkC σ) g n).2.2 n := by
    intro ex f
    induction f with
    | zero => intro k h1 h2; omega
    | succ f ih =>
      intro k h1 h2
      rw [fX5_costOf_25_L11, hn]
      rcases Nat.lt_or_ge k n with c | c
      · have ih' := ih (k + 1) (by omega) (by omega)
        rw [show ((k + 1 : Nat) : Int) = (k : Int) + 1 by omega] at ih'
        simp only [csF] at ih'
        have r := R k (by omega)
        obtain ⟨g1, g2⟩ := hg k (by omega) (by omega)
        rw [if_pos (by omega), uHosAt ⟨i0, i1⟩ (by omega), Option.bind_some, g1]
        by_cases e : g k = -1
        · rw [if_pos e] at ih'
          rw [if_pos e, if_pos (by omega)]
          exact ih'
        · have g2 := g2.resolve_left e
          have v := (h k (by omega) (by omega)).resolve_left e
          rw [if_neg e] at ih'
          rw [if_neg e, uPlAt ⟨i0, i1⟩ (by omega), Option.bind_some, uPlR (by omega) (by omega), Option.bind_some, g2.2.2]
          repeat rw [if_pos (by omega)]
          exact ih'
      · have : k = n := by omega
        subst this
        rw [if_neg (by omega)]
  have r := R n (Nat.le_refl _)
  unfold fX5_costOf_25
  have := W (fun v14 v15 v16 v17 => if x = 0 then some v14 else if x = 1 then some v15 else if x = 2 then if rng (v14 + v15) then some (v14 + v15) else none else if x = 3 then if rng (v14 - v15) then if rng (zabs (v14 - v15)) then some (zabs (v14 - v15)) else none else none else if x = 4 then some v16 else some (-1)) FU 0 (by omega) (by unfold FU; omega)
  rw [show (csF (rkC σ) (hkC σ) g 0) = (0, 0, -1) from rfl, show ((0 : Nat) : Int) = 0 from rfl] at this
  rw [this]
  unfold coF
  have za : rng (zabs ((csF (rkC σ) (hkC σ) g n).1 - (csF (rkC σ) (hkC σ) g n).2.1)) := by unfold zabs; split <;> omega
  rw [if_pos (show rng ((csF (rkC σ) (hkC σ) g n).1 + (csF (rkC σ) (hkC σ) g n).2.1) by omega), if_pos (show rng ((csF (rkC σ) (hkC σ) g n).1 - (csF (rkC σ) (hkC σ) g n).2.1) by omega), if_pos za]
  split
  · rfl
  · split
    · rfl
    · split
      · rfl
      · split
        · rfl
        · split <;> rfl
theorem mCost {τ : Mem} {n m : Nat} {rk hk : Int → Int → Int} {sz sz' cp : Int → Int} (I : liM τ n m rk hk sz sz' cp) {i : Int} (i0 : 0 ≤ i) (i1 : i < 216) {g : Int → Int} (hg : ∀ r : Int, 0 ≤ r → r < n → τ 5 (6 * i + r) = g r ∧ (g r = -1 ∨ (0 ≤ g r ∧ g r < m))) (h : ∀ r : Int, 0 ≤ r → r < n → g r = -1 ∨ ((0 ≤ rk r (g r) ∧ rk r (g r) < 6) ∧ (0 ≤ hk (g r) r ∧ hk (g r) r < 6))) {x : Int} (hx : 0 ≤ x ∧ x ≤ 4) : fX7_costOf_0 τ i x = some (coF x (csF rk hk g n)) := by
  have R := csF_rng h
  have n6 : n ≤ 6 := I.2.2.1.2.1
  have W : ∀ (ex : Int → Int → Int → Int → Option Int) (f k : Nat), k ≤ n → n < f + k → fX7_costOf_0_L11 τ i ex f (csF rk hk g k).1 (csF rk hk g k).2.1 (csF rk hk g k).2.2 k = ex (csF rk hk g n).1 (csF rk hk g n).2.1 (csF rk hk g n).2.2 n := by
    intro ex f
    induction f with
    | zero => intro k h1 h2; omega
    | succ f ih =>
      intro k h1 h2
      rw [fX7_costOf_0_L11, I.1]
      rcases Nat.lt_or_ge k n with c | c
      · have ih' := ih (k + 1) (by omega) (by omega)
        rw [show ((k + 1 : Nat) : Int) = (k : Int) + 1 by omega] at ih'
        simp only [csF] at ih'
        have r := R k (by omega)
        obtain ⟨g1, g2⟩ := hg k (by omega) (by omega)
        repeat rw [if_pos (by omega)]
        rw [g1]
        by_cases e : g k = -1
        · rw [if_pos e] at ih'
          repeat rw [if_pos (by omega)]
          exact ih'
        · have g2 := g2.resolve_left e
          have v := (h k (by omega) (by omega)).resolve_left e
          rw [if_neg e] at ih'
          rw [if_neg e, mPl0' I (by omega) (by omega) g2.1 g2.2, Option.bind_some, mPl1 I g2.1 g2.2 (by omega) (by omega), Option.bind_some]
          rw [← ih']
          generalize rk k (g k) = a at v
          generalize hk (g k) k = b at v
          generalize csF rk hk g k = t at r
          have rg : rng ((k : Int) + 1) := by omega
          simp only [if_pos rg]
          repeat rw [if_pos (show rng _ by omega)]
          unfold zmax
          by_cases p : t.2.2 < a
          · rw [if_pos p]
            by_cases q : a < b
            · rw [if_pos q, if_pos q, if_pos (by omega)]
            · rw [if_neg q, if_neg q, if_pos p]
          · rw [if_neg p]
            by_cases q : t.2.2 < b
            · rw [if_pos q, if_pos (show a < b by omega), if_pos q]
            · rw [if_neg q]
              by_cases u : a < b
              · rw [if_pos u, if_neg q]
              · rw [if_neg u, if_neg p]
      · have : k = n := by omega
        subst this
        rw [if_neg (by omega)]
  have r := R n (Nat.le_refl _)
  unfold fX7_costOf_0
  have := W (fun v22 v23 v24 v25 => if x = 0 then some v22 else if x = 1 then some v23 else if x = 2 then if rng (v22 + v23) then some (v22 + v23) else none else if x = 3 then if v23 < v22 then if rng (v22 - v23) then some (v22 - v23) else none else if rng (v23 - v22) then some (v23 - v22) else none else some v24) FU 0 (by omega) (by unfold FU; omega)
  rw [show (csF rk hk g 0) = (0, 0, -1) from rfl, show ((0 : Nat) : Int) = 0 from rfl] at this
  rw [this]
  generalize csF rk hk g n = t at r
  unfold coF
  rw [if_pos (show rng (t.1 + t.2.1) by omega), if_pos (show rng (t.1 - t.2.1) by omega), if_pos (show rng (t.2.1 - t.1) by omega)]
  by_cases a : x = 0
  · rw [if_pos a, if_pos a]
  · rw [if_neg a, if_neg a]
    by_cases b : x = 1
    · rw [if_pos b, if_pos b]
    · rw [if_neg b, if_neg b]
      by_cases c : x = 2
      · rw [if_pos c, if_pos c]
      · rw [if_neg c, if_neg c]
        by_cases d : x = 3
        · rw [if_pos d, if_pos d]
          unfold zabs
          by_cases e : t.2.1 < t.1
          · rw [if_pos e, if_pos (by omega)]
          · rw [if_neg e]
            by_cases u : 0 ≤ t.1 - t.2.1
            · rw [if_pos u]; congr 1; omega
            · rw [if_neg u]; congr 1; omega
        · rw [if_neg d, if_neg d, if_pos (show x = 4 by omega)]
section RD1
variable {σ τ : Mem} {n m : Nat}
theorem mIsStable {K : Nat} (h7 : τ 0 7 = 1) (h8 : τ 0 8 = K) (k2 : K ≤ 216) (x : Int) : fX7_isStable_0 τ x = some (zb (decide (0 ≤ x) && decide (x < (K : Int)))) := by
  unfold fX7_isStable_0
  rw [h7, h8, if_neg (by omega), if_pos (by omega), mIn, Option.bind_some]
  by_cases a : 0 ≤ x ∧ x < K
  · rw [zb_inn (by omega), zb_in2 a]; rfl
  · rw [zb_out (by omega), zb_out2 a]; rfl
theorem mIsRot {K : Nat} (h7 : τ 0 7 = 1) (h8 : τ 0 10 = K) (k2 : K ≤ 216) (x : Int) : fX7_isRotation_0 τ x = some (zb (decide (0 ≤ x) && decide (x < (K : Int)))) := by
  unfold fX7_isRotation_0
  rw [h7, h8, if_neg (by omega), if_pos (by omega), mIn, Option.bind_some]
  by_cases a : 0 ≤ x ∧ x < K
  · rw [zb_inn (by omega), zb_in2 a]; rfl
  · rw [zb_out (by omega), zb_out2 a]; rfl
/-- what a worked state gives -/
theorem cpW (h : cpI σ τ n m) (w : τ 0 7 = 1) : ∃ S R, wkC σ n m S R ∧ ctM (mup τ 0 0 0) n m (rkC σ) (hkC σ) (σ 10) (σ 19) (σ 20) S ∧ rtM (mup τ 0 0 0) n (PS (rkC σ) S) S R ∧ mup τ 0 0 0 0 7 = 1 ∧ mup τ 0 0 0 0 8 = S.length ∧ mup τ 0 0 0 0 10 = R.length ∧ S.length ≤ 216 ∧ R.length ≤ 15 ∧ 0 < S.length ∧ σ 25 3 = S.length ∧ σ 28 5 = R.length := by
  have h' := cpI_m0 h 0
  rcases h'.2.2.2 with ⟨-, -, c⟩ | ⟨a, S, R, b, c, d⟩
  · rw [mup_eq, mh_up_ne _ _ (by omega), w] at c; omega
  · exact ⟨S, R, b, c, d, a, c.2.2.1, d.1, ctC_le b.1, rOK_15 b.1 b.2.2.1, b.1.2.2.2, b.1.2.2.1.1, b.2.1.1⟩
theorem cpN (h : cpI σ τ n m) (w : ¬ τ 0 7 = 1) : σ 25 3 = 0 ∧ σ 28 5 = 0 ∧ mup τ 0 0 0 0 7 = 0 := by
  rcases h.2.2.2 with ⟨a, b, c⟩ | ⟨a, _⟩
  · exact ⟨a, b, by rw [mup_eq, mh_up_ne _ _ (by omega)]; exact c⟩
  · exact absurd a w
theorem stX (w : τ 0 7 = 0) (x : Int) : fX7_isStable_0 τ x = some 0 ∧ fX7_isRotation_0 τ x = some 0 := by
  unfold fX7_isStable_0 fX7_isRotation_0
  rw [w, if_pos rfl, if_pos rfl]; exact ⟨rfl, rfl⟩
/-- rows of a worked state, for costs -/
theorem wkVal {S : List (Int → Int)} {R : List (Int × Int)} (b : wkC σ n m S R) {i : Int} (i0 : 0 ≤ i) (i1 : i < S.length) : ∀ r : Int, 0 ≤ r → r < n → (gS S i r = -1 ∨ ((0 ≤ rkC σ r (gS S i r) ∧ rkC σ r (gS S i r) < 6) ∧ (0 ≤ hkC σ (gS S i r) r ∧ hkC σ (gS S i r) r < 6))) ∧ (gS S i r = -1 ∨ (0 ≤ gS S i r ∧ gS S i r < m)) := fun r r0 r1 => by
  obtain ⟨i1', i2, i3, i4, i5, i6, ⟨n1, n6, m1, m6⟩, LR, LH, cp⟩ := id b.1.1
  have c := (b.1.2.1.1 _).mp (gS_mem i0 i1)
  rcases c.2.1.1 r r0 r1 with z | ⟨z1, z2, z3⟩
  · exact ⟨Or.inl z, Or.inl z⟩
  · have l := (LR r r0 r1).2.1 _ z1 z2
    have l2 := (LR r r0 r1).1
    have k := (LH _ z1 z2).2.1 r r0 r1
    have k2 := (LH _ z1 z2).1
    have p1 := z3.1
    have p2 := z3.2
    exact ⟨Or.inr ⟨⟨by omega, by omega⟩, ⟨by omega, by omega⟩⟩, Or.inr ⟨z1, z2⟩⟩
theorem tCostOf {S : List (Int → Int)} {R : List (Int × Int)} (b : wkC σ n m S R) (c : ctM τ n m (rkC σ) (hkC σ) (σ 10) (σ 19) (σ 20) S) {i : Int} (i0 : 0 ≤ i) (i1 : i < S.length) : (∀ x : Int, fX5_costOf_25 σ i x = some (coF x (csF (rkC σ) (hkC σ) (gS S i) n))) ∧ ∀ x : Int, 0 ≤ x ∧ x ≤ 4 → fX7_costOf_0 τ i x = some (coF x (csF (rkC σ) (hkC σ) (gS S i) n)) := by
  have k := ctC_le b.1
  have v := wkVal b i0 i1
  obtain ⟨n1, n6, m1, m6⟩ := b.1.1.2.2.2.2.2.2.1
  refine ⟨fun x => uCost b.1.1.1 n6 i0 (by omega) (fun r r0 r1 => ⟨(ctC_at b.1 i0 i1 r0 r1).1, ?_⟩) (fun r r0 r1 => (v r r0 r1).1) x, fun x hx => mCost c.1 i0 (by omega) (fun r r0 r1 => ⟨ctM_at c i0 i1 r0 r1, (v r r0 r1).2⟩) (fun r r0 r1 => (v r r0 r1).1) hx⟩
  rcases (v r r0 r1).2 with z | ⟨z1, z2⟩
  · exact Or.inl z
  · refine Or.inr ⟨z1, by omega, ?_⟩
    rw [(ctC_at b.1 i0 i1 r0 r1).2]
    unfold PS psF
    rw [if_neg (by omega)]
theorem tCost (h : cpI σ τ n m) (i x : Int) : ∃ v τ', fX6_cost_0 σ i x = some v ∧ fX7_cost_0 τ i x = some (v, τ') ∧ cpI σ τ' n m := by
  have h' := cpI_m0 h 0
  unfold fX6_cost_0 fX7_cost_0
  rw [uHas, Option.bind_some, nx_eq]
  by_cases w : τ 0 7 = 1
  · obtain ⟨S, R, b, c, d, e7, e8, e10, k1, k2, k3, f1, f2⟩ := cpW h w
    rw [mIsStable e7 e8 k1, Option.bind_some, f1]
    by_cases a : 0 ≤ i ∧ i < S.length
    · obtain ⟨c1, c2⟩ := tCostOf b c a.1 a.2
      rw [zb_in2 a, if_neg (by omega), if_neg (by omega), c1, Option.bind_some, mIn, Option.bind_some]
      by_cases g : 0 ≤ x ∧ x ≤ 4
      · rw [zb_inn g, if_neg (by omega), c2 x g, Option.bind_some]
        exact ⟨_, _, rfl, rfl, h'⟩
      · rw [zb_out g, if_pos rfl]
        refine ⟨_, _, rfl, ?_, h'⟩
        unfold coF
        rw [if_neg (by omega), if_neg (by omega), if_neg (by omega), if_neg (by omega), if_neg (by omega)]
    · rw [zb_out2 a, if_pos rfl, if_pos rfl]
      exact ⟨_, _, rfl, rfl, h'⟩
  · obtain ⟨a, b, c⟩ := cpN h w
    rw [(stX c i).1, Option.bind_some, if_pos rfl, a, zb_out2 (by omega), if_pos rfl]
    exact ⟨_, _, rfl, rfl, h'⟩
theorem tHospital (h : cpI σ τ n m) (i x : Int) : ∃ v τ', fX6_hospital_0 σ i x = some v ∧ fX7_hospital_0 τ i x = some (v, τ') ∧ cpI σ τ' n m := by
  have h' := cpI_m0 h 0
  obtain ⟨n1, n6, m1, m6⟩ := h.1.2.2.2.2.2.2.1
  unfold fX6_hospital_0 fX7_hospital_0
  rw [uHas, Option.bind_some, nx_eq]
  by_cases w : τ 0 7 = 1
  · obtain ⟨S, R, b, c, d, e7, e8, e10, k1, k2, k3, f1, f2⟩ := cpW h w
    rw [mIsStable e7 e8 k1, Option.bind_some, f1]
    by_cases a : 0 ≤ i ∧ i < S.length
    · rw [zb_in2 a, if_neg (by omega), if_neg (by omega), uHasRes, Option.bind_some, h.1.1, c.1.1, if_pos (show rng ((n : Int) - 1) by omega), mIn, Option.bind_some]
      by_cases g : 0 ≤ x ∧ x < n
      · rw [zb_in2 g, zb_inn (by omega), if_neg (by omega), if_neg (by omega), uHosAt (by omega) (by omega), Option.bind_some, (ctC_at b.1 a.1 a.2 g.1 g.2).1]
        repeat rw [if_pos (by omega)]
        rw [ctM_at c a.1 a.2 g.1 g.2]
        exact ⟨_, _, rfl, rfl, h'⟩
      · rw [zb_out2 g, zb_out (by omega), if_pos rfl, if_pos rfl]
        exact ⟨_, _, rfl, rfl, h'⟩
    · rw [zb_out2 a, if_pos rfl, if_pos rfl]
      exact ⟨_, _, rfl, rfl, h'⟩
  · obtain ⟨a, b, c⟩ := cpN h w
    rw [(stX c i).1, Option.bind_some, if_pos rfl, a, zb_out2 (by omega), if_pos rfl]
    exact ⟨_, _, rfl, rfl, h'⟩
/-- the first of the least -/
def chF (g : Int → Int) : Nat → Int
  | 0 => 0
  | k + 1 => if g k < g (chF g k) then (k : Int) else chF g k
theorem chF_in (g : Int → Int) {K : Nat} (hK : 0 < K) : ∀ k : Nat, k ≤ K → 0 ≤ chF g k ∧ chF g k < K := by
  intro k
  induction k with
  | zero => intro _; show 0 ≤ (0 : Int) ∧ (0 : Int) < K; omega
  | succ k ih =>
    intro h
    have := ih (by omega)
    simp only [chF]
    split <;> omega
theorem tCheapest (h : cpI σ τ n m) (x : Int) : ∃ v τ', fX6_cheapest_0 σ x = some v ∧ fX7_cheapest_0 τ x = some (v, τ') ∧ cpI σ τ' n m := by
  have h' := cpI_m0 h 0
  unfold fX6_cheapest_0 fX7_cheapest_0
  rw [uWorked, Option.bind_some, nx_eq]
  by_cases w : τ 0 7 = 1
  · obtain ⟨S, R, b, c, d, e7, e8, e10, k1, k2, k3, f1, f2⟩ := cpW h w
    rw [e7, if_neg (by omega : ¬ (1 : Int) = 0), mIn, Option.bind_some, f1, decide_eq_true (show 0 < (S.length : Int) by omega), if_neg (by decide)]
    by_cases g : 0 ≤ x ∧ x ≤ 4
    · rw [zb_inn g, if_neg (by omega : ¬ (1 : Int) = 0), if_neg (by omega), if_neg (by omega)]
      have CI := chF_in (fun i => coF x (csF (rkC σ) (hkC σ) (gS S i) n)) k3
      have C1 : chF (fun i => coF x (csF (rkC σ) (hkC σ) (gS S i) n)) 1 = 0 := by
        show (if coF x (csF (rkC σ) (hkC σ) (gS S ((0 : Nat) : Int)) n) < coF x (csF (rkC σ) (hkC σ) (gS S (0 : Int)) n) then (((0 : Nat)) : Int) else (0 : Int)) = 0
        split <;> rfl
      have WC : ∀ (f k : Nat), k ≤ S.length → S.length < f + k → fX6_cheapest_0_L22 σ x (fun v10 v11 => some v10) f (chF (fun i => coF x (csF (rkC σ) (hkC σ) (gS S i) n)) k) k = some (chF (fun i => coF x (csF (rkC σ) (hkC σ) (gS S i) n)) S.length) := by
        intro f
        induction f with
        | zero => intro k h1 h2; omega
        | succ f ih =>
          intro k h1 h2
          rw [fX6_cheapest_0_L22, f1]
          rcases Nat.lt_or_ge k S.length with z | z
          · have ih' := ih (k + 1) (by omega) (by omega)
            rw [show ((k + 1 : Nat) : Int) = (k : Int) + 1 by omega] at ih'
            simp only [chF] at ih'
            have ci := CI k h1
            rw [if_pos (by omega), (tCostOf b c (i := k) (by omega) (by omega)).1, Option.bind_some, (tCostOf b c ci.1 ci.2).1, Option.bind_some]
            by_cases y : coF x (csF (rkC σ) (hkC σ) (gS S k) n) < coF x (csF (rkC σ) (hkC σ) (gS S (chF (fun i => coF x (csF (rkC σ) (hkC σ) (gS S i) n)) k)) n)
            · rw [if_pos y] at ih'
              rw [if_pos y, if_pos (by omega)]; exact ih'
            · rw [if_neg y] at ih'
              rw [if_neg y, if_pos (by omega)]; exact ih'
          · have : k = S.length := by omega
            subst this
            rw [if_neg (by omega)]
      have WM : ∀ (f k : Nat), k ≤ S.length → S.length < f + k → fX7_cheapest_0_L27 x (mup τ 0 0 0) (fun v11 v12 => some (v11, mup τ 0 0 0)) f (chF (fun i => coF x (csF (rkC σ) (hkC σ) (gS S i) n)) k) k = some (chF (fun i => coF x (csF (rkC σ) (hkC σ) (gS S i) n)) S.length, mup τ 0 0 0) := by
        intro f
        induction f with
        | zero => intro k h1 h2; omega
        | succ f ih =>
          intro k h1 h2
          rw [fX7_cheapest_0_L27, e8]
          rcases Nat.lt_or_ge k S.length with z | z
          · have ih' := ih (k + 1) (by omega) (by omega)
            rw [show ((k + 1 : Nat) : Int) = (k : Int) + 1 by omega] at ih'
            simp only [chF] at ih'
            have ci := CI k h1
            rw [if_pos (by omega), (tCostOf b c (i := k) (by omega) (by omega)).2 x g, Option.bind_some, (tCostOf b c ci.1 ci.2).2 x g, Option.bind_some]
            by_cases y : coF x (csF (rkC σ) (hkC σ) (gS S k) n) < coF x (csF (rkC σ) (hkC σ) (gS S (chF (fun i => coF x (csF (rkC σ) (hkC σ) (gS S i) n)) k)) n)
            · rw [if_pos y] at ih'
              rw [if_pos y, if_pos (by omega)]; exact ih'
            · rw [if_neg y] at ih'
              rw [if_neg y, if_pos (by omega)]; exact ih'
          · have : k = S.length := by omega
            subst this
            rw [if_neg (by omega)]
      have wc := WC FU 1 (by omega) (by unfold FU; omega)
      have wm := WM FU 1 (by omega) (by unfold FU; omega)
      rw [C1, show ((1 : Nat) : Int) = 1 from rfl] at wc wm
      rw [wc, wm]
      exact ⟨_, _, rfl, rfl, h'⟩
    · rw [zb_out g, if_pos rfl]
      by_cases y : x < 0
      · rw [if_pos y]; exact ⟨_, _, rfl, rfl, h'⟩
      · rw [if_neg y, if_pos (by omega)]; exact ⟨_, _, rfl, rfl, h'⟩
  · obtain ⟨a, b, c⟩ := cpN h w
    rw [c, if_pos rfl, a, decide_eq_false (by omega), if_pos (by decide)]
    exact ⟨_, _, rfl, rfl, h'⟩
theorem tBehind (h : cpI σ τ n m) (i k : Int) : ∃ v τ', fX6_behind_0 σ i k = some v ∧ fX7_behind_0 τ i k = some (v, τ') ∧ cpI σ τ' n m := by
  have h' := cpI_m0 h 0
  unfold fX6_behind_0 fX7_behind_0
  rw [uHas, Option.bind_some, nx_eq]
  by_cases w : τ 0 7 = 1
  · obtain ⟨S, R, b, c, d, e7, e8, e10, k1, k2, k3, f1, f2⟩ := cpW h w
    rw [mIsStable e7 e8 k1, Option.bind_some, f1]
    by_cases a : 0 ≤ i ∧ i < S.length
    · rw [zb_in2 a, if_neg (by omega), if_neg (by omega), uHas, Option.bind_some, mIsStable e7 e8 k1, Option.bind_some, f1]
      by_cases a' : 0 ≤ k ∧ k < S.length
      · obtain ⟨z, z1, z2⟩ := uIsBh b.1 a.1 a.2 a'.1 a'.2
        obtain ⟨y, y1, y2⟩ := mBehind c a.1 a.2 a'.1 a'.2
        have e : z = y := by
          cases z <;> cases y
          · rfl
          · exact absurd (z2.mpr (y2.mp rfl)) (by decide)
          · exact absurd (y2.mpr (z2.mp rfl)) (by decide)
          · rfl
        subst e
        rw [zb_in2 a', if_neg (by omega), if_neg (by omega), z1, y1, Option.bind_some, Option.bind_some]
        cases z
        · rw [if_pos (by decide), if_pos (by decide)]; exact ⟨_, _, rfl, rfl, h'⟩
        · rw [if_neg (by decide), if_neg (by decide)]; exact ⟨_, _, rfl, rfl, h'⟩
      · rw [zb_out2 a', if_pos rfl, if_pos rfl]
        exact ⟨_, _, rfl, rfl, h'⟩
    · rw [zb_out2 a, if_pos rfl, if_pos rfl]
      exact ⟨_, _, rfl, rfl, h'⟩
  · obtain ⟨a, b, c⟩ := cpN h w
    rw [(stX c i).1, Option.bind_some, if_pos rfl, a, zb_out2 (by omega), if_pos rfl]
    exact ⟨_, _, rfl, rfl, h'⟩
theorem tWhich (h : cpI σ τ n m) : ∃ v τ', fX6_which_0 σ = some v ∧ fX7_which_0 τ = some (v, τ') ∧ cpI σ τ' n m := by
  have h' := cpI_m0 h 0
  obtain ⟨n1, n6, m1, m6⟩ := h.1.2.2.2.2.2.2.1
  unfold fX6_which_0 fX7_which_0
  rw [nx_eq]
  by_cases w : τ 0 7 = 1
  · obtain ⟨S, R, b, c, d, e7, e8, e10, k1, k2, k3, f1, f2⟩ := cpW h w
    rw [uFind_22 h.1.1 n6 f1 k1, Option.bind_some, e7, if_neg (by omega), mNumberOf_4 c.1.1 n6 e8 k1, Option.bind_some]
    have e : mh_f (fun i => mh_all (fun r => decide (mup τ 0 0 0 5 (6 * i + r) = mup τ 0 0 0 4 r)) n) S.length = mh_f (fun i => mh_all (fun r => decide (σ 26 (i * 6 + r) = σ 22 r)) n) S.length := mh_f_congr (fun i i0 i1 => mh_all_congr (fun r r0 r1 => by
      rw [ctM_at c i0 i1 r0 r1, (ctC_at b.1 i0 i1 r0 r1).1, (h'.2.2.1 r r0 r1).1]))
    rw [e]
    exact ⟨_, _, rfl, rfl, h'⟩
  · obtain ⟨a, b, c⟩ := cpN h w
    rw [uFind_22 (K := 0) h.1.1 n6 a (by omega), Option.bind_some, c, if_pos rfl]
    exact ⟨_, _, rfl, rfl, h'⟩
theorem mMatch (I : liM τ n m (rkC σ) (hkC σ) (σ 10) (σ 19) (σ 20)) (hv : ∀ r : Int, 0 ≤ r → r < n → τ 4 r = -1 ∨ (0 ≤ τ 4 r ∧ τ 4 r < m)) : fX7_isMatching_0_4 τ 0 = some (zb (matB n (rkC σ) (hkC σ) (σ 20) (τ 4))) := by
  have n6 : n ≤ 6 := I.2.2.1.2.1
  have m6 : m ≤ 6 := I.2.2.1.2.2.2
  have W1 : ∀ (ex : Int → Int → Option Int) (f k : Nat), k ≤ n → n < f + k → fX7_isMatching_0_4_L5 τ 0 ex f (zb (mh_all (fun r => decide (τ 4 r = -1) || pB (rkC σ) (hkC σ) r (τ 4 r)) k)) k = ex (zb (mh_all (fun r => decide (τ 4 r = -1) || pB (rkC σ) (hkC σ) r (τ 4 r)) n)) n := by
    intro ex f
    induction f with
    | zero => intro k h1 h2; omega
    | succ f ih =>
      intro k h1 h2
      rw [fX7_isMatching_0_4_L5, I.1, I.2.1]
      rcases Nat.lt_or_ge k n with c | c
      · have ih' := ih (k + 1) (by omega) (by omega)
        rw [show ((k + 1 : Nat) : Int) = (k : Int) + 1 by omega] at ih'
        simp only [mh_all] at ih'
        rw [show (0 + (k : Int)) = k by omega]
        have rg : rng ((k : Int) + 1) := by omega
        simp only [if_pos rg]
        repeat rw [if_pos (by omega)]
        rw [← ih']
        generalize mh_all (fun r => decide (τ 4 r = -1) || pB (rkC σ) (hkC σ) r (τ 4 r)) k = u
        cases u with
        | false => rw [if_pos (by decide)]; simp [zb]
        | true =>
          rw [if_neg (by decide)]
          by_cases e : τ 4 k = -1
          · rw [if_pos e]; simp [e, zb]
          · have v := (hv k (by omega) (by omega)).resolve_left e
            rw [if_neg e, if_pos (show rng ((m : Int) - 1) by omega), mIn, Option.bind_some, zb_inn (by omega), if_neg (by omega), mIsPair I (by omega) (by omega) v.1 v.2, Option.bind_some]
            cases q : pB (rkC σ) (hkC σ) k (τ 4 k) with
            | false => rw [if_pos (by decide)]; simp [e, zb]
            | true => rw [if_neg (by decide)]; simp [zb]
      · have : k = n := by omega
        subst this
        rw [if_neg (by omega)]
  have W2 : ∀ (u : Bool) (ex : Int → Int → Option Int) (f k : Nat), k ≤ m → m < f + k → fX7_isMatching_0_4_L73 τ 0 ex f (zb (u && mh_all (fun g => decide (mh_at n (τ 4) g ≤ σ 20 g)) k)) k = ex (zb (u && mh_all (fun g => decide (mh_at n (τ 4) g ≤ σ 20 g)) m)) m := by
    intro u ex f
    induction f with
    | zero => intro k h1 h2; omega
    | succ f ih =>
      intro k h1 h2
      rw [fX7_isMatching_0_4_L73, I.1, I.2.1]
      rcases Nat.lt_or_ge k m with c | c
      · have ih' := ih (k + 1) (by omega) (by omega)
        rw [show ((k + 1 : Nat) : Int) = (k : Int) + 1 by omega] at ih'
        simp only [mh_all] at ih'
        have rg : rng ((k : Int) + 1) := by omega
        simp only [if_pos rg]
        rw [if_pos (by omega), ← ih']
        rw [← Bool.and_assoc]
        generalize (u && mh_all (fun g => decide (mh_at n (τ 4) g ≤ σ 20 g)) k) = x
        cases x with
        | false => rw [if_pos (by decide)]; simp [zb]
        | true =>
          rw [if_neg (by decide), mTaken_4 τ n6, Option.bind_some, if_pos (by omega), I.2.2.2.2.2.2.2.2 k (by omega) (by omega)]
          have ma : mh_at n (τ 4) k = mh_c (fun r => decide (τ 4 r = k)) n := rfl
          rw [ma]
          by_cases e : σ 20 k < mh_c (fun r => decide (τ 4 r = k)) n
          · rw [if_pos e, decide_eq_false (by omega)]; rfl
          · rw [if_neg e, decide_eq_true (by omega)]; rfl
      · have : k = m := by omega
        subst this
        rw [if_neg (by omega)]
  unfold fX7_isMatching_0_4
  have w1 := W1 (fun v18 v19 => fX7_isMatching_0_4_L73 τ 0 (fun v30 v31 => if v30 = 0 ∨ v30 = 1 then some v30 else none) FU v18 0) FU 0 (by omega) (by unfold FU; omega)
  rw [show zb (mh_all (fun r => decide (τ 4 r = -1) || pB (rkC σ) (hkC σ) r (τ 4 r)) 0) = 1 from rfl, show ((0 : Nat) : Int) = 0 from rfl] at w1
  rw [w1]
  have w2 := W2 (mh_all (fun r => decide (τ 4 r = -1) || pB (rkC σ) (hkC σ) r (τ 4 r)) n) (fun v30 v31 => if v30 = 0 ∨ v30 = 1 then some v30 else none) FU 0 (by omega) (by unfold FU; omega)
  rw [show mh_all (fun g => decide (mh_at n (τ 4) g ≤ σ 20 g)) 0 = true from rfl, Bool.and_true, show ((0 : Nat) : Int) = 0 from rfl] at w2
  rw [w2]
  have e : (mh_all (fun r => decide (τ 4 r = -1) || pB (rkC σ) (hkC σ) r (τ 4 r)) n && mh_all (fun g => decide (mh_at n (τ 4) g ≤ σ 20 g)) m) = matB n (rkC σ) (hkC σ) (σ 20) (τ 4) := by
    rw [Bool.eq_iff_iff, matB_iff (m := m) hv (fun g g0 g1 => by have := I.2.2.2.2.2.1 g g0 g1; omega), Bool.and_eq_true, mh_all_iff, mh_all_iff]
    unfold mh_mat
    constructor
    · rintro ⟨x, y⟩
      refine ⟨fun r r0 r1 => ?_, fun g g0 g1 => by simpa using y g g0 g1⟩
      rcases hv r r0 r1 with z | ⟨z1, z2⟩
      · exact Or.inl z
      · have := x r r0 r1
        rw [Bool.or_eq_true, decide_eq_true_eq, pB_iff] at this
        exact Or.inr ⟨z1, z2, this.resolve_left (by omega)⟩
    · rintro ⟨x, y⟩
      refine ⟨fun r r0 r1 => ?_, fun g g0 g1 => by simpa using y g g0 g1⟩
      rw [Bool.or_eq_true, decide_eq_true_eq, pB_iff]
      rcases x r r0 r1 with z | ⟨-, -, z⟩
      · exact Or.inl z
      · exact Or.inr z
  rw [e, if_pos]
  generalize matB n (rkC σ) (hkC σ) (σ 20) (τ 4) = x
  cases x
  · exact Or.inl rfl
  · exact Or.inr rfl
theorem blkB_cg {f g : Int → Int} {rk hk : Int → Int → Int} {cp : Int → Int} (e : ∀ q : Int, 0 ≤ q → q < n → f q = g q) {r : Int} (r0 : 0 ≤ r) (r1 : r < n) (x : Int) : blkB n rk hk cp f r x = blkB n rk hk cp g r x := blkB_congr e r0 r1
theorem matB_congr {f g : Int → Int} {rk hk : Int → Int → Int} {cp : Int → Int} (e : ∀ q : Int, 0 ≤ q → q < n → f q = g q) : matB n rk hk cp f = matB n rk hk cp g := by
  unfold matB
  refine mh_all_congr (fun r r0 r1 => ?_)
  rw [e r r0 r1]
  have : mh_at n f (g r) = mh_at n g (g r) := mh_at_congr (fun q q0 q1 => by rw [e q q0 q1])
  rw [this]
theorem mh_s_congr {a b : Int → Int} {k : Nat} (h : ∀ r : Int, 0 ≤ r → r < k → a r = b r) : mh_s a k = mh_s b k := by
  induction k with
  | zero => rfl
  | succ k ih => simp only [mh_s]; rw [ih (fun r a b => h r a (by omega)), h k (by omega) (by omega)]
/-- what is told, of both -/
theorem toldB (h : cpI σ τ n m) : liM (mup τ 0 0 0) n m (rkC σ) (hkC σ) (σ 10) (σ 19) (σ 20) ∧ (∀ r : Int, 0 ≤ r → r < n → mup τ 0 0 0 4 r = σ 22 r) ∧ (∀ r : Int, 0 ≤ r → r < n → σ 22 r = -1 ∨ (0 ≤ σ 22 r ∧ σ 22 r < m)) ∧ (∀ r : Int, 0 ≤ r → r < n → mup τ 0 0 0 4 r = -1 ∨ (0 ≤ mup τ 0 0 0 4 r ∧ mup τ 0 0 0 4 r < m)) ∧ fX3_isMatching_21 σ = some (zb (matB n (rkC σ) (hkC σ) (σ 20) (σ 22))) ∧ fX7_isMatching_0_4 (mup τ 0 0 0) 0 = some (zb (matB n (rkC σ) (hkC σ) (σ 20) (σ 22))) := by
  obtain ⟨n1, n6, m1, m6⟩ := h.1.2.2.2.2.2.2.1
  have h' := cpI_m0 h 0
  have a : ∀ r : Int, 0 ≤ r → r < n → mup τ 0 0 0 4 r = σ 22 r := fun r r0 r1 => (h'.2.2.1 r r0 r1).1
  have b : ∀ r : Int, 0 ≤ r → r < n → σ 22 r = -1 ∨ (0 ≤ σ 22 r ∧ σ 22 r < m) := fun r r0 r1 => (h'.2.2.1 r r0 r1).2
  have c : ∀ r : Int, 0 ≤ r → r < n → mup τ 0 0 0 4 r = -1 ∨ (0 ≤ mup τ 0 0 0 4 r ∧ mup τ 0 0 0 4 r < m) := fun r r0 r1 => by rw [a r r0 r1]; exact b r r0 r1
  refine ⟨h'.2.1, a, b, c, uIsMatching_22 h.1.1 n6 (fun r r0 r1 => by have := b r r0 r1; omega), ?_⟩
  rw [mMatch h'.2.1 c, matB_congr a]
theorem tFits (h : cpI σ τ n m) : ∃ v τ', fX6_fits_0 σ = some v ∧ fX7_fits_0 τ = some (v, τ') ∧ cpI σ τ' n m := by
  obtain ⟨a, b, c, d, e, f⟩ := toldB h
  unfold fX6_fits_0 fX7_fits_0
  rw [e, Option.bind_some, nx_eq, f, Option.bind_some]
  generalize matB n (rkC σ) (hkC σ) (σ 20) (σ 22) = x
  cases x
  · rw [if_pos (by decide), if_pos (by decide)]; exact ⟨_, _, rfl, rfl, cpI_m0 h 0⟩
  · rw [if_neg (by decide), if_neg (by decide)]; exact ⟨_, _, rfl, rfl, cpI_m0 h 0⟩
theorem tBlocks (h : cpI σ τ n m) : ∃ v τ', fX6_blocks_0 σ = some v ∧ fX7_blocks_0 τ = some (v, τ') ∧ cpI σ τ' n m := by
  obtain ⟨a, b, c, d, e, f⟩ := toldB h
  obtain ⟨n1, n6, m1, m6⟩ := h.1.2.2.2.2.2.2.1
  unfold fX6_blocks_0 fX7_blocks_0
  rw [e, Option.bind_some, nx_eq, f, Option.bind_some]
  generalize matB n (rkC σ) (hkC σ) (σ 20) (σ 22) = x
  cases x
  · rw [if_pos (by decide), if_pos (by decide)]; exact ⟨_, _, rfl, rfl, cpI_m0 h 0⟩
  · rw [if_neg (by decide), if_neg (by decide), uCBlock h.1.1 n6 h.1.2.1 m6 (fun r r0 r1 => by have := c r r0 r1; omega), mBlocksOf_4 a d, Option.bind_some, Option.bind_some]
    have : mh_s (fun r => mh_c (blkB n (rkC σ) (hkC σ) (σ 20) (mup τ 0 0 0 4) r) m) n = mh_s (fun r => mh_c (blkB n (rkC σ) (hkC σ) (σ 20) (σ 22) r) m) n := mh_s_congr (fun r r0 r1 => mh_c_congr (fun g _ _ => blkB_cg b r0 r1 g))
    rw [this]
    exact ⟨_, _, rfl, rfl, cpI_m0 h 0⟩
theorem tBlocking (h : cpI σ τ n m) (i : Int) : ∃ v τ', fX6_blocking_0 σ i = some v ∧ fX7_blocking_0 τ i = some (v, τ') ∧ cpI σ τ' n m := by
  obtain ⟨a, b, c, d, e, f⟩ := toldB h
  obtain ⟨n1, n6, m1, m6⟩ := h.1.2.2.2.2.2.2.1
  unfold fX6_blocking_0 fX7_blocking_0
  rw [e, Option.bind_some, nx_eq, f, Option.bind_some]
  generalize matB n (rkC σ) (hkC σ) (σ 20) (σ 22) = x
  cases x
  · rw [if_pos (by decide), if_pos (by decide)]; exact ⟨_, _, rfl, rfl, cpI_m0 h 0⟩
  · rw [if_neg (by decide), if_neg (by decide), uBlockingPair_22 h.1.1 n6 h.1.2.1 m6 (fun r r0 r1 => by have := c r r0 r1; omega), Option.bind_some]
    generalize hτ : mup τ 0 0 0 = τ1 at a b d
    have WI : ∀ (r : Int) (ex : Int → Int → Option (Int × Mem)), 0 ≤ r → r < n → ∀ (f j k : Nat) (s : Int), k + j = m → j < f → 0 ≤ s → s < 1000 - j → fX7_blocking_0_L34 i τ1 r ex f s k = match bpI (blkB n (rkC σ) (hkC σ) (σ 20) (σ 22) r) i j k s with | .inl h => some (8 * r + h, τ1) | .inr s' => ex s' m := by
      intro r ex r0 r1 f
      induction f with
      | zero => intro j k s h1 h2; omega
      | succ f ih =>
        intro j k s hj hf s0 s1
        rw [fX7_blocking_0_L34, a.2.1]
        cases j with
        | zero =>
          have : k = m := by omega
          subst this
          rw [if_neg (by omega)]; rfl
        | succ j =>
          have ih0 := ih j (k + 1) s (by omega) (by omega) s0 (by omega)
          have ih1 := ih j (k + 1) (s + 1) (by omega) (by omega) (by omega) (by omega)
          rw [show ((k + 1 : Nat) : Int) = (k : Int) + 1 by omega] at ih0 ih1
          rw [if_pos (by omega), mBlk_4 a r0 r1 (by omega) (by omega) (d r r0 r1), Option.bind_some, blkB_cg b r0 r1]
          simp only [bpI]
          cases e : blkB n (rkC σ) (hkC σ) (σ 20) (σ 22) r k with
          | false =>
            rw [if_pos (by decide), if_pos (by omega), ih0]
            simp
          | true =>
            rw [if_neg (by decide)]
            by_cases z : s = i
            · rw [if_pos z, if_pos (by omega), if_pos (by omega), if_pos rfl, if_pos z]
            · rw [if_neg z, if_pos (by omega), if_pos (by omega), ih1, if_pos rfl, if_neg z]
    have WO : ∀ (f j k : Nat) (s : Int), k + j = n → j < f → 0 ≤ s → s ≤ 6 * k → fX7_blocking_0_L23 i τ1 (fun v20 v21 => some (-1, τ1)) f s k = some (bpO (blkB n (rkC σ) (hkC σ) (σ 20) (σ 22)) m i j k s, τ1) := by
      intro f
      induction f with
      | zero => intro j k s h1 h2; omega
      | succ f ih =>
        intro j k s hj hf s0 s1
        rw [fX7_blocking_0_L23, a.1]
        cases j with
        | zero => rw [if_neg (by omega)]; rfl
        | succ j =>
          rw [if_pos (by omega)]
          have := WI k (fun v16 v17 => if rng ((k : Int) + 1) then fX7_blocking_0_L23 i τ1 (fun v20 v21 => some (-1, τ1)) f v16 ((k : Int) + 1) else none) (by omega) (by omega) FU m 0 s (by omega) (by unfold FU; omega) s0 (by omega)
          rw [show ((0 : Nat) : Int) = 0 from rfl] at this
          rw [this]
          simp only [bpO]
          cases e : bpI (blkB n (rkC σ) (hkC σ) (σ 20) (σ 22) k) i m 0 s with
          | inl g => rfl
          | inr s' =>
            have sb := bpI_s _ _ _ _ e
            have ih' := ih j (k + 1) s' (by omega) (by omega) (by omega) (by omega)
            rw [show ((k + 1 : Nat) : Int) = (k : Int) + 1 by omega] at ih'
            dsimp only
            rw [if_pos (by omega)]
            exact ih'
    have := WO FU n 0 0 (by omega) (by unfold FU; omega) (by omega) (by omega)
    rw [show ((0 : Nat) : Int) = 0 from rfl] at this
    rw [this]
    refine ⟨_, _, rfl, rfl, ?_⟩
    rw [← hτ]; exact cpI_m0 h 0
theorem tCount (h : cpI σ τ n m) (x : Int) : ∃ v τ', fX6_count_0 σ x = some v ∧ fX7_count_0 τ x = some (v, τ') ∧ cpI σ τ' n m := by
  have h' := cpI_m0 h 0
  obtain ⟨n1, n6, m1, m6⟩ := h.1.2.2.2.2.2.2.1
  unfold fX6_count_0 fX7_count_0
  rw [uWorked, Option.bind_some, nx_eq]
  by_cases w : τ 0 7 = 1
  · obtain ⟨S, R, b, c, d, e7, e8, e10, k1, k2, k3, f1, f2⟩ := cpW h w
    rw [e7, if_neg (by omega : ¬ (1 : Int) = 0), mIn, Option.bind_some, f1, f2, decide_eq_true (show 0 < (S.length : Int) by omega), if_neg (by decide)]
    generalize hτ : mup τ 0 0 0 = τ1 at *
    have fu : FU = (FU - 1) + 1 := rfl
    by_cases g : 0 ≤ x ∧ x ≤ 3
    · rw [zb_inn g, if_neg (by omega : ¬ (1 : Int) = 0)]
      by_cases x0 : x = 0
      · subst x0
        rw [fu, fX7_count_0_L27, c.1.1, if_pos rfl, if_pos (by omega), if_pos (by omega), if_pos rfl, e8]
        exact ⟨_, _, rfl, rfl, h'⟩
      · by_cases x1 : x = 1
        · subst x1
          rw [fu, fX7_count_0_L27, c.1.1, if_neg (by omega), if_pos rfl, if_pos (by omega), if_pos (by omega), if_neg (by omega), if_pos rfl, e10]
          exact ⟨_, _, rfl, rfl, h'⟩
        · have S0 : ∀ k : Nat, k ≤ n → 0 ≤ mh_s (fun r => mh_c (pB (rkC σ) (hkC σ) r) m) k ∧ mh_s (fun r => mh_c (pB (rkC σ) (hkC σ) r) m) k ≤ 6 * k := fun k hk => mh_s6 (fun r r0 r1 => by
            have hc0 := mh_c_0 (pB (rkC σ) (hkC σ) r) m
            have hcl := mh_c_le (pB (rkC σ) (hkC σ) r) m
            omega)
          by_cases x2 : x = 2
          · subst x2
            have WI : ∀ (r : Int) (ex : Int → Int → Option (Int × Mem)) (s : Int), 0 ≤ r → r < n → 0 ≤ s → s < 1000 → ∀ (f j : Nat), j ≤ m → m < f + j → fX7_count_0_L66 2 τ1 r ex f (s + mh_c (pB (rkC σ) (hkC σ) r) j) j = ex (s + mh_c (pB (rkC σ) (hkC σ) r) m) m := by
              intro r ex s r0 r1 s0 s1 f
              induction f with
              | zero => intro j h1 h2; omega
              | succ f ih =>
                intro j h1 h2
                rw [fX7_count_0_L66, c.1.2.1]
                have hc0 := mh_c_0 (pB (rkC σ) (hkC σ) r) j
                have hcl := mh_c_le (pB (rkC σ) (hkC σ) r) j
                rcases Nat.lt_or_ge j m with hk' | hk'
                · have ih' := ih (j + 1) (by omega) (by omega)
                  rw [mh_c_succ, show ((j + 1 : Nat) : Int) = (j : Int) + 1 by omega] at ih'
                  rw [if_pos (by omega), if_pos rfl, mIsPair c.1 r0 r1 (by omega) (by omega), Option.bind_some]
                  cases e : pB (rkC σ) (hkC σ) r j with
                  | false =>
                    rw [if_pos (by decide)]
                    repeat rw [if_pos (by omega)]
                    rw [e] at ih'
                    simpa using ih'
                  | true =>
                    rw [if_neg (by decide)]
                    repeat rw [if_pos (by omega)]
                    rw [e, if_pos rfl] at ih'
                    rw [Int.add_assoc]
                    exact ih'
                · have : j = m := by omega
                  subst this
                  rw [if_neg (by omega)]
            have WO : ∀ (ex : Int → Int → Option (Int × Mem)) (f j : Nat), j ≤ n → n < f + j → fX7_count_0_L27 2 τ1 ex f (mh_s (fun r => mh_c (pB (rkC σ) (hkC σ) r) m) j) j = ex (mh_s (fun r => mh_c (pB (rkC σ) (hkC σ) r) m) n) n := by
              intro ex f
              induction f with
              | zero => intro j h1 h2; omega
              | succ f ih =>
                intro j h1 h2
                rw [fX7_count_0_L27, c.1.1]
                rcases Nat.lt_or_ge j n with hk' | hk'
                · have ih' := ih (j + 1) (by omega) (by omega)
                  rw [show ((j + 1 : Nat) : Int) = (j : Int) + 1 by omega] at ih'
                  have s0 := S0 j h1
                  rw [if_pos (by omega), if_neg (by omega), if_neg (by omega)]
                  have := WI j (fun v12 v13 => if rng ((j : Int) + 1) then fX7_count_0_L27 2 τ1 ex f v12 ((j : Int) + 1) else none) (mh_s (fun r => mh_c (pB (rkC σ) (hkC σ) r) m) j) (by omega) (by omega) (by omega) (by omega) FU 0 (by omega) (by unfold FU; omega)
                  rw [show mh_c (pB (rkC σ) (hkC σ) j) 0 = 0 from rfl, Int.add_zero, show ((0 : Nat) : Int) = 0 from rfl] at this
                  rw [this, if_pos (by omega)]
                  exact ih'
                · have : j = n := by omega
                  subst this
                  rw [if_neg (by omega)]
            have wo := WO (fun v51 v52 => if (2 : Int) = 0 then some ((τ1 0 8), τ1) else if (2 : Int) = 1 then some ((τ1 0 10), τ1) else some (v51, τ1)) FU 0 (by omega) (by unfold FU; omega)
            rw [show mh_s (fun r => mh_c (pB (rkC σ) (hkC σ) r) m) 0 = 0 from rfl, show ((0 : Nat) : Int) = 0 from rfl] at wo
            rw [wo, if_neg (by omega), if_neg (by omega), if_pos rfl, uPairs h.1.1 n6 h.1.2.1 m6, Option.bind_some, if_neg (by omega), if_neg (by omega)]
            exact ⟨_, _, rfl, rfl, h'⟩
          · have x3 : x = 3 := by omega
            subst x3
            have wi : ∀ (r s : Int) (ex : Int → Int → Option (Int × Mem)), fX7_count_0_L66 3 τ1 r ex FU s 0 = ex s 0 := by
              intro r s ex
              rw [fu, fX7_count_0_L66, c.1.2.1, if_pos (by omega), if_neg (by omega)]
            have WO : ∀ (ex : Int → Int → Option (Int × Mem)) (f j : Nat), j ≤ n → n < f + j → fX7_count_0_L27 3 τ1 ex f (mh_c (fun r => decide (σ 26 (0 * 6 + r) ≠ -1)) j) j = ex (mh_c (fun r => decide (σ 26 (0 * 6 + r) ≠ -1)) n) n := by
              intro ex f
              induction f with
              | zero => intro j h1 h2; omega
              | succ f ih =>
                intro j h1 h2
                rw [fX7_count_0_L27, c.1.1]
                have hc0 := mh_c_0 (fun r => decide (σ 26 (0 * 6 + r) ≠ -1)) j
                have hcl := mh_c_le (fun r => decide (σ 26 (0 * 6 + r) ≠ -1)) j
                rcases Nat.lt_or_ge j n with hk' | hk'
                · have ih' := ih (j + 1) (by omega) (by omega)
                  rw [mh_c_succ, show ((j + 1 : Nat) : Int) = (j : Int) + 1 by omega] at ih'
                  have v : τ1 5 j = σ 26 (0 * 6 + j) := by
                    have x1 := ctM_at c (i := 0) (r := j) (by omega) (by omega) (by omega) (by omega)
                    have x2 := (ctC_at b.1 (i := 0) (r := j) (by omega) (by omega) (by omega) (by omega)).1
                    rw [show (6 * 0 + (j : Int)) = j by omega] at x1
                    rw [x1, x2]
                  rw [if_pos (by omega), if_neg (by omega), if_pos rfl, if_pos (by omega), v]
                  by_cases e : σ 26 (0 * 6 + j) = -1
                  · rw [if_pos e, if_pos (by omega), wi, if_pos (by omega), Int.add_zero]
                    simp only [ne_eq, e, not_true_eq_false, decide_false, Bool.false_eq_true, if_false, Int.add_zero] at ih'
                    exact ih'
                  · rw [if_neg e, if_pos (by omega), wi, if_pos (by omega)]
                    simp only [ne_eq, e, not_false_eq_true, decide_true, if_true] at ih'
                    exact ih'
                · have : j = n := by omega
                  subst this
                  rw [if_neg (by omega)]
            have wo := WO (fun v51 v52 => if (3 : Int) = 0 then some ((τ1 0 8), τ1) else if (3 : Int) = 1 then some ((τ1 0 10), τ1) else some (v51, τ1)) FU 0 (by omega) (by unfold FU; omega)
            rw [show mh_c (fun r => decide (σ 26 (0 * 6 + r) ≠ -1)) 0 = 0 from rfl, show ((0 : Nat) : Int) = 0 from rfl] at wo
            rw [wo, if_neg (by omega), if_neg (by omega), if_neg (by omega), if_pos rfl, uSeated h.1.1 n6, Option.bind_some, if_neg (by omega), if_neg (by omega)]
            exact ⟨_, _, rfl, rfl, h'⟩
    · rw [zb_out g, if_pos rfl, if_neg (by omega), if_neg (by omega), if_neg (by omega), if_neg (by omega)]
      exact ⟨_, _, rfl, rfl, h'⟩
  · obtain ⟨a, b, c⟩ := cpN h w
    rw [c, if_pos rfl, a, decide_eq_false (by omega), if_pos (by decide)]
    exact ⟨_, _, rfl, rfl, h'⟩
end RD1
