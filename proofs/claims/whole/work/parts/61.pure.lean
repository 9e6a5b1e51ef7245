/-! PURE 2: more of the class's readers -/
def matB (n : Nat) (rk hk : Int → Int → Int) (cp f : Int → Int) : Bool := mh_all (fun r => decide (f r = -1) || (pB rk hk r (f r) && decide (mh_at n f (f r) ≤ cp (f r)))) n
theorem matB_iff {n m : Nat} {rk hk : Int → Int → Int} {cp f : Int → Int} (hv : ∀ r : Int, 0 ≤ r → r < n → f r = -1 ∨ (0 ≤ f r ∧ f r < m)) (hcp : ∀ h : Int, 0 ≤ h → h < m → 0 ≤ cp h) : matB n rk hk cp f = true ↔ mh_mat n m rk hk cp f := by
  unfold matB mh_mat mh_pr
  rw [mh_all_iff]
  constructor
  · intro z
    refine ⟨fun r r0 r1 => ?_, fun h h0 h1 => ?_⟩
    · have := z r r0 r1
      simp only [pB, Bool.or_eq_true, Bool.and_eq_true, decide_eq_true_eq] at this
      rcases this with w | w
      · exact Or.inl w
      · rcases hv r r0 r1 with y | y
        · exact Or.inl y
        · exact Or.inr ⟨y.1, y.2, w.1⟩
    · rcases Int.lt_or_le 0 (mh_at n f h) with c | c
      · obtain ⟨r, r0, r1, hr⟩ := mh_c_ex c
        simp only [decide_eq_true_eq] at hr
        have := z r r0 r1
        simp only [pB, Bool.or_eq_true, Bool.and_eq_true, decide_eq_true_eq] at this
        rw [hr] at this
        rcases this with w | w
        · omega
        · exact w.2
      · have := hcp h h0 h1; omega
  · rintro ⟨z1, z2⟩ r r0 r1
    simp only [pB, Bool.or_eq_true, Bool.and_eq_true, decide_eq_true_eq]
    rcases z1 r r0 r1 with w | ⟨w1, w2, w3⟩
    · exact Or.inl w
    · exact Or.inr ⟨w3, z2 _ w1 w2⟩
/-- two residents, of which the first and the hospital of the other one would rather have each other -/
def rivB (rk hk : Int → Int → Int) (f : Int → Int) (r o : Int) : Bool := !(decide (f o = -1)) && (pB rk hk r (f o) && (goB rk f r (f o) && decide (hk (f o) r < hk (f o) o)))
theorem uPlR {σ : Mem} {h r : Int} (h1 : 0 ≤ h ∧ h < 6) (h2 : 0 ≤ r ∧ r < 6) : fX1_placeOfResident_1 σ h r = some (hkC σ h r) := by
  unfold fX1_placeOfResident_1
  rw [hkC_eq h1.2, if_pos h1, if_pos h2]
theorem uPlH {σ : Mem} {h r : Int} (h1 : h = -1 ∨ (0 ≤ h ∧ h < 6)) (h2 : 0 ≤ r ∧ r < 6) : fX1_placeOfHospital_1 σ r h = some (if h = -1 then -1 else rkC σ r h) := by
  unfold fX1_placeOfHospital_1
  rw [rkC_eq h2.2]
  by_cases e : h = -1
  · rw [if_pos e, if_pos e]
  · rw [if_neg e, if_pos h2, if_pos (h1.resolve_left e), if_neg e]
theorem uIsRival {σ : Mem} {r q : Int} (h1 : 0 ≤ r ∧ r < 6) (h2 : 0 ≤ q ∧ q < 6) (hr : σ 24 r = -1 ∨ (0 ≤ σ 24 r ∧ σ 24 r < 6)) (hq : σ 24 q = -1 ∨ (0 ≤ σ 24 q ∧ σ 24 q < 6)) : fX3_isRival_23 σ r q = some (zb (rivB (rkC σ) (hkC σ) (σ 24) r q)) := by
  unfold fX3_isRival_23 rivB
  rw [if_pos h2]
  by_cases e : σ 24 q = -1
  · rw [if_pos e]; simp [e, zb]
  · have hq' := hq.resolve_left e
    rw [if_neg e, uIsPair h1 hq', Option.bind_some]
    simp only [e, decide_false, Bool.not_false, Bool.true_and]
    cases pB (rkC σ) (hkC σ) r (σ 24 q) with
    | false => simp [zb]
    | true =>
      rw [if_neg (by simp [zb]), uWouldGo_24 h1 hq' hr, Option.bind_some]
      cases goB (rkC σ) (σ 24) r (σ 24 q) with
      | false => simp [zb]
      | true =>
        rw [if_neg (by simp [zb]), uPlR hq' h1, Option.bind_some, uPlR hq' h2, Option.bind_some]
        by_cases d : hkC σ (σ 24 q) r < hkC σ (σ 24 q) q
        · rw [if_pos d]; simp [zb, d]
        · rw [if_neg d]; simp [zb, d]
theorem uHasRivals {σ : Mem} {k : Nat} (hk : k < 6) (hv : ∀ r : Int, 0 ≤ r → r ≤ k → σ 24 r = -1 ∨ (0 ≤ σ 24 r ∧ σ 24 r < 6)) : fX0_hasRivals_33 σ k = some (zb (!mh_all (fun q => !(rivB (rkC σ) (hkC σ) (σ 24) k q) && !(rivB (rkC σ) (hkC σ) (σ 24) q k)) k)) := by
  have L : ∀ (f j : Nat), j ≤ k → k < f + j → mh_all (fun q => !(rivB (rkC σ) (hkC σ) (σ 24) k q) && !(rivB (rkC σ) (hkC σ) (σ 24) q k)) j = true → fX0_hasRivals_33_L2 σ k (fun v8 => some 0) f j = some (zb (!mh_all (fun q => !(rivB (rkC σ) (hkC σ) (σ 24) k q) && !(rivB (rkC σ) (hkC σ) (σ 24) q k)) k)) := by
    intro f
    induction f with
    | zero => intro j h1 h2; omega
    | succ f ih =>
      intro j h1 h2 ha
      rw [fX0_hasRivals_33_L2]
      rcases Nat.lt_or_ge j k with hj | hj
      · have ih' := ih (j + 1) (by omega) (by omega)
        simp only [mh_all, ha, Bool.true_and] at ih'
        rw [if_pos (by omega), uIsRival (by omega) (by omega) (hv _ (by omega) (by omega)) (hv _ (by omega) (by omega)), Option.bind_some]
        cases e1 : rivB (rkC σ) (hkC σ) (σ 24) k j with
        | true =>
          rw [if_neg (by simp [zb]), mh_all_mono (k := j + 1) (by omega) (by simp [mh_all, e1])]
          simp [zb]
        | false =>
          rw [if_pos (by simp [zb]), uIsRival (by omega) (by omega) (hv _ (by omega) (by omega)) (hv _ (by omega) (by omega)), Option.bind_some]
          cases e2 : rivB (rkC σ) (hkC σ) (σ 24) j k with
          | true =>
            rw [if_neg (by simp [zb]), mh_all_mono (k := j + 1) (by omega) (by simp [mh_all, e2])]
            simp [zb]
          | false =>
            rw [if_pos (by simp [zb]), if_pos ⟨by omega, by omega⟩]
            rw [show ((j : Int) + 1) = ((j + 1 : Nat) : Int) by omega]
            exact ih' (by simp [e1, e2])
      · have : j = k := by omega
        subst this
        rw [if_neg (by omega), ha]
        simp [zb]
  unfold fX0_hasRivals_33
  exact L FU 0 (by omega) (by unfold FU; omega) rfl
theorem uHosAt {σ : Mem} {i r : Int} (h1 : 0 ≤ i ∧ i < 216) (h2 : 0 ≤ r ∧ r < 6) : fX5_hospitalAt_25 σ i r = some (σ 26 (i * 6 + r)) := by
  unfold fX5_hospitalAt_25
  rw [if_pos ⟨by omega, by omega⟩, if_pos ⟨by omega, by omega⟩, if_pos (by omega)]
theorem uPlAt {σ : Mem} {i r : Int} (h1 : 0 ≤ i ∧ i < 216) (h2 : 0 ≤ r ∧ r < 6) : fX5_placeAt_25 σ i r = some (σ 27 (i * 6 + r)) := by
  unfold fX5_placeAt_25
  rw [if_pos ⟨by omega, by omega⟩, if_pos ⟨by omega, by omega⟩, if_pos (by omega)]
theorem uHas {σ : Mem} {i : Int} : fX5_has_25 σ i = some (zb (decide (0 ≤ i) && decide (i < σ 25 3))) := by
  unfold fX5_has_25
  by_cases a : i < 0
  · rw [if_pos a]; simp [zb]; omega
  · rw [if_neg a]
    by_cases b : i < σ 25 3
    · rw [if_pos b]; simp [zb, b]; omega
    · rw [if_neg b]; simp [zb, b]
theorem uHasR {σ : Mem} {i : Int} : fX4_has_28 σ i = some (zb (decide (0 ≤ i) && decide (i < σ 28 5))) := by
  unfold fX4_has_28
  by_cases a : i < 0
  · rw [if_pos a]; simp [zb]; omega
  · rw [if_neg a]
    by_cases b : i < σ 28 5
    · rw [if_pos b]; simp [zb, b]; omega
    · rw [if_neg b]; simp [zb, b]
theorem uHasRes {σ : Mem} {i : Int} : fX1_hasResident_1 σ i = some (zb (decide (0 ≤ i) && decide (i < σ 1 3))) := by
  unfold fX1_hasResident_1
  by_cases a : i < 0
  · rw [if_pos a]; simp [zb]; omega
  · rw [if_neg a]
    by_cases b : i < σ 1 3
    · rw [if_pos b]; simp [zb, b]; omega
    · rw [if_neg b]; simp [zb, b]
theorem uHasHos {σ : Mem} {i : Int} : fX1_hasHospital_1 σ i = some (zb (decide (0 ≤ i) && decide (i < σ 1 4))) := by
  unfold fX1_hasHospital_1
  by_cases a : i < 0
  · rw [if_pos a]; simp [zb]; omega
  · rw [if_neg a]
    by_cases b : i < σ 1 4
    · rw [if_pos b]; simp [zb, b]; omega
    · rw [if_neg b]; simp [zb, b]
theorem uWorked {σ : Mem} : fX6_isWorked_0 σ = some (zb (decide (0 < σ 25 3))) := by
  unfold fX6_isWorked_0
  by_cases b : 0 < σ 25 3
  · rw [if_pos b]; simp [zb, b]
  · rw [if_neg b]; simp [zb, b]
theorem uIsBehind {σ : Mem} {n : Nat} (hn : σ 1 3 = n) (h6 : n ≤ 6) {i k : Int} (h1 : 0 ≤ i ∧ i < 216) (h2 : 0 ≤ k ∧ k < 216) : fX5_isBehind_25 σ i k = some (zb (mh_all (fun r => decide (σ 27 (i * 6 + r) ≤ σ 27 (k * 6 + r))) n && decide (i ≠ k))) := by
  have L : ∀ (f j : Nat), j ≤ n → n < f + j → mh_all (fun r => decide (σ 27 (i * 6 + r) ≤ σ 27 (k * 6 + r))) j = true → fX5_isBehind_25_L14 σ i k (fun v11 => if i = k then some 0 else some 1) f j = some (zb (mh_all (fun r => decide (σ 27 (i * 6 + r) ≤ σ 27 (k * 6 + r))) n && decide (i ≠ k))) := by
    intro f
    induction f with
    | zero => intro j h1 h2; omega
    | succ f ih =>
      intro j j1 j2 ha
      rw [fX5_isBehind_25_L14]
      rcases Nat.lt_or_ge j n with hj | hj
      · have ih' := ih (j + 1) (by omega) (by omega)
        simp only [mh_all, ha, Bool.true_and] at ih'
        rw [if_pos (by omega), if_pos ⟨by omega, by omega⟩, if_pos (by omega), if_pos ⟨by omega, by omega⟩, if_pos (by omega)]
        by_cases d : σ 27 (k * 6 + j) < σ 27 (i * 6 + j)
        · rw [if_pos d, mh_all_mono (k := j + 1) (by omega) (by simp only [mh_all, ha, Bool.true_and, decide_eq_false_iff_not]; omega)]
          simp [zb]
        · rw [if_neg d, if_pos ⟨by omega, by omega⟩]
          rw [show ((j : Int) + 1) = ((j + 1 : Nat) : Int) by omega]
          exact ih' (by simp only [decide_eq_true_eq]; omega)
      · have : j = n := by omega
        subst this
        rw [if_neg (by omega), ha]
        by_cases e : i = k
        · rw [if_pos e]; simp [zb, e]
        · rw [if_neg e]; simp [zb, e]
  unfold fX5_isBehind_25
  rw [if_pos ⟨by omega, by omega⟩, if_pos ⟨by omega, by omega⟩]
  exact L FU 0 (by omega) (by unfold FU; omega) rfl
theorem uSeated {σ : Mem} {n : Nat} (hn : σ 1 3 = n) (h6 : n ≤ 6) : fX5_countSeated_25 σ = some (mh_c (fun r => decide (σ 26 (0 * 6 + r) ≠ -1)) n) := by
  have L : ∀ (ex : Int → Int → Option Int) (f k : Nat), k ≤ n → n < f + k → fX5_countSeated_25_L4 σ ex f (mh_c (fun r => decide (σ 26 (0 * 6 + r) ≠ -1)) k) k = ex (mh_c (fun r => decide (σ 26 (0 * 6 + r) ≠ -1)) n) n := by
    intro ex f
    induction f with
    | zero => intro k h1 h2; omega
    | succ f ih =>
      intro k h1 h2
      rw [fX5_countSeated_25_L4]
      have hc0 := mh_c_0 (fun r => decide (σ 26 (0 * 6 + r) ≠ -1)) k
      have hcl := mh_c_le (fun r => decide (σ 26 (0 * 6 + r) ≠ -1)) k
      rcases Nat.lt_or_ge k n with hk | hk
      · have ih' := ih (k + 1) (by omega) (by omega)
        rw [mh_c_succ] at ih'
        rw [if_pos (by omega), uHosAt (by omega) (by omega), Option.bind_some]
        by_cases e : σ 26 (0 * 6 + k) = -1
        · rw [if_pos e, if_pos ⟨by omega, by omega⟩, ← ih']
          simp only [e]
          simp
        · rw [if_neg e, if_pos ⟨by omega, by omega⟩, if_pos ⟨by omega, by omega⟩, ← ih']
          simp only [ne_eq, e, not_false_eq_true, decide_true, if_true]
          simp
      · have : k = n := by omega
        subst this
        rw [if_neg (by omega)]
  unfold fX5_countSeated_25
  exact L _ FU 0 (by omega) (by unfold FU; omega)

theorem uIsMatching_22 {σ : Mem} {n : Nat} (hn : σ 1 3 = n) (h6 : n ≤ 6) (hv : ∀ r : Int, 0 ≤ r → r < n → σ 22 r = -1 ∨ (0 ≤ σ 22 r ∧ σ 22 r < 6)) : fX3_isMatching_21 σ = some (zb (matB n (rkC σ) (hkC σ) (σ 20) (σ 22))) := by
  have L : ∀ (f j : Nat), j ≤ n → n < f + j → mh_all (fun r => decide (σ 22 r = -1) || (pB (rkC σ) (hkC σ) r (σ 22 r) && decide (mh_at n (σ 22) (σ 22 r) ≤ σ 20 (σ 22 r)))) j = true → fX3_isMatching_21_L2 σ (fun v12 => some 1) f j = some (zb (matB n (rkC σ) (hkC σ) (σ 20) (σ 22))) := by
    intro f
    induction f with
    | zero => intro j h1 h2; omega
    | succ f ih =>
      intro j j1 j2 ha
      rw [fX3_isMatching_21_L2]
      rcases Nat.lt_or_ge j n with hj | hj
      · have ih' := ih (j + 1) (by omega) (by omega)
        simp only [mh_all, ha, Bool.true_and] at ih'
        rw [show ((j + 1 : Nat) : Int) = (j : Int) + 1 by omega] at ih'
        rw [if_pos (by omega), if_pos (by omega)]
        have hvj := hv j (by omega) (by omega)
        by_cases e : σ 22 j = -1
        · rw [if_pos e, if_pos ⟨by omega, by omega⟩]
          exact ih' (by simp [e])
        · have hvj' := hvj.resolve_left e
          have bad : (pB (rkC σ) (hkC σ) j (σ 22 j) && decide (mh_at n (σ 22) (σ 22 j) ≤ σ 20 (σ 22 j))) = false → matB n (rkC σ) (hkC σ) (σ 20) (σ 22) = false := fun z => mh_all_mono (k := j + 1) (by omega) (by simp only [mh_all, ha, Bool.true_and, z, e, decide_false, Bool.or_false])
          rw [if_neg e, uIsPair (by omega) hvj', Option.bind_some]
          cases e1 : pB (rkC σ) (hkC σ) j (σ 22 j) with
          | false => rw [if_pos (by simp [zb]), bad (by rw [e1]; rfl)]; simp [zb]
          | true =>
            rw [if_neg (by simp [zb]), uCountAt_22 hn h6, Option.bind_some, if_pos hvj']
            by_cases d : σ 20 (σ 22 j) < mh_at n (σ 22) (σ 22 j)
            · rw [if_pos d, bad (by rw [e1]; simp only [Bool.true_and, decide_eq_false_iff_not]; omega)]; simp [zb]
            · rw [if_neg d, if_pos ⟨by omega, by omega⟩]
              exact ih' (by rw [e1]; simp only [Bool.true_and, Bool.or_eq_true, decide_eq_true_eq]; omega)
      · have : j = n := by omega
        subst this
        rw [if_neg (by omega)]
        unfold matB
        rw [ha]; simp [zb]
  unfold fX3_isMatching_21
  exact L FU 0 (by omega) (by unfold FU; omega) rfl
theorem uIsSame_22 {σ : Mem} {n : Nat} (hn : σ 1 3 = n) (h6 : n ≤ 6) {i : Int} (h1 : 0 ≤ i ∧ i < 216) : fX5_isSame_25_21 σ i = some (zb (mh_all (fun r => decide (σ 26 (i * 6 + r) = σ 22 r)) n)) := by
  have L : ∀ (f j : Nat), j ≤ n → n < f + j → mh_all (fun r => decide (σ 26 (i * 6 + r) = σ 22 r)) j = true → fX5_isSame_25_21_L2 σ i (fun v7 => some 1) f j = some (zb (mh_all (fun r => decide (σ 26 (i * 6 + r) = σ 22 r)) n)) := by
    intro f
    induction f with
    | zero => intro j h1 h2; omega
    | succ f ih =>
      intro j j1 j2 ha
      rw [fX5_isSame_25_21_L2]
      rcases Nat.lt_or_ge j n with hj | hj
      · have ih' := ih (j + 1) (by omega) (by omega)
        simp only [mh_all, ha, Bool.true_and] at ih'
        rw [show ((j + 1 : Nat) : Int) = (j : Int) + 1 by omega] at ih'
        rw [if_pos (by omega), uHosAt h1 (by omega), Option.bind_some, if_pos (by omega)]
        by_cases e : σ 26 (i * 6 + j) = σ 22 j
        · rw [if_pos e, if_pos ⟨by omega, by omega⟩]
          exact ih' (by simp [e])
        · rw [if_neg e, mh_all_mono (k := j + 1) (by omega) (by simp [mh_all, ha, e])]; simp [zb]
      · have : j = n := by omega
        subst this
        rw [if_neg (by omega), ha]; simp [zb]
  unfold fX5_isSame_25_21
  exact L FU 0 (by omega) (by unfold FU; omega) rfl
theorem uFind_22 {σ : Mem} {n K : Nat} (hn : σ 1 3 = n) (h6 : n ≤ 6) (hK : σ 25 3 = K) (k2 : K ≤ 216) : fX5_find_25_21 σ = some (mh_f (fun i => mh_all (fun r => decide (σ 26 (i * 6 + r) = σ 22 r)) n) K) := by
  have L : ∀ (f j : Nat), j ≤ K → K < f + j → mh_f (fun i => mh_all (fun r => decide (σ 26 (i * 6 + r) = σ 22 r)) n) j = -1 → fX5_find_25_21_L2 σ (fun v6 => some (-1)) f j = some (mh_f (fun i => mh_all (fun r => decide (σ 26 (i * 6 + r) = σ 22 r)) n) K) := by
    intro f
    induction f with
    | zero => intro j h1 h2; omega
    | succ f ih =>
      intro j j1 j2 ha
      rw [fX5_find_25_21_L2]
      rcases Nat.lt_or_ge j K with hj | hj
      · have ih' := ih (j + 1) (by omega) (by omega)
        simp only [mh_f, ha, if_true] at ih'
        rw [show ((j + 1 : Nat) : Int) = (j : Int) + 1 by omega] at ih'
        rw [if_pos (by omega), uIsSame_22 hn h6 (by omega), Option.bind_some]
        cases e : mh_all (fun r => decide (σ 26 (j * 6 + r) = σ 22 r)) n with
        | false =>
          rw [if_pos (by simp [zb]), if_pos ⟨by omega, by omega⟩]
          exact ih' (by simp [e])
        | true =>
          rw [if_neg (by simp [zb])]
          rw [mh_f_eq (k := j) hj ha e]
      · have : j = K := by omega
        subst this
        rw [if_neg (by omega), ha]
  unfold fX5_find_25_21
  exact L FU 0 (by omega) (by unfold FU; omega) rfl

theorem uIsMatching_24 {σ : Mem} {n : Nat} (hn : σ 1 3 = n) (h6 : n ≤ 6) (hv : ∀ r : Int, 0 ≤ r → r < n → σ 24 r = -1 ∨ (0 ≤ σ 24 r ∧ σ 24 r < 6)) : fX3_isMatching_23 σ = some (zb (matB n (rkC σ) (hkC σ) (σ 20) (σ 24))) := by
  have L : ∀ (f j : Nat), j ≤ n → n < f + j → mh_all (fun r => decide (σ 24 r = -1) || (pB (rkC σ) (hkC σ) r (σ 24 r) && decide (mh_at n (σ 24) (σ 24 r) ≤ σ 20 (σ 24 r)))) j = true → fX3_isMatching_23_L2 σ (fun v12 => some 1) f j = some (zb (matB n (rkC σ) (hkC σ) (σ 20) (σ 24))) := by
    intro f
    induction f with
    | zero => intro j h1 h2; omega
    | succ f ih =>
      intro j j1 j2 ha
      rw [fX3_isMatching_23_L2]
      rcases Nat.lt_or_ge j n with hj | hj
      · have ih' := ih (j + 1) (by omega) (by omega)
        simp only [mh_all, ha, Bool.true_and] at ih'
        rw [show ((j + 1 : Nat) : Int) = (j : Int) + 1 by omega] at ih'
        rw [if_pos (by omega), if_pos (by omega)]
        have hvj := hv j (by omega) (by omega)
        by_cases e : σ 24 j = -1
        · rw [if_pos e, if_pos ⟨by omega, by omega⟩]
          exact ih' (by simp [e])
        · have hvj' := hvj.resolve_left e
          have bad : (pB (rkC σ) (hkC σ) j (σ 24 j) && decide (mh_at n (σ 24) (σ 24 j) ≤ σ 20 (σ 24 j))) = false → matB n (rkC σ) (hkC σ) (σ 20) (σ 24) = false := fun z => mh_all_mono (k := j + 1) (by omega) (by simp only [mh_all, ha, Bool.true_and, z, e, decide_false, Bool.or_false])
          rw [if_neg e, uIsPair (by omega) hvj', Option.bind_some]
          cases e1 : pB (rkC σ) (hkC σ) j (σ 24 j) with
          | false => rw [if_pos (by simp [zb]), bad (by rw [e1]; rfl)]; simp [zb]
          | true =>
            rw [if_neg (by simp [zb]), uCountAt_24 hn h6, Option.bind_some, if_pos hvj']
            by_cases d : σ 20 (σ 24 j) < mh_at n (σ 24) (σ 24 j)
            · rw [if_pos d, bad (by rw [e1]; simp only [Bool.true_and, decide_eq_false_iff_not]; omega)]; simp [zb]
            · rw [if_neg d, if_pos ⟨by omega, by omega⟩]
              exact ih' (by rw [e1]; simp only [Bool.true_and, Bool.or_eq_true, decide_eq_true_eq]; omega)
      · have : j = n := by omega
        subst this
        rw [if_neg (by omega)]
        unfold matB
        rw [ha]; simp [zb]
  unfold fX3_isMatching_23
  exact L FU 0 (by omega) (by unfold FU; omega) rfl
theorem uIsSame_24 {σ : Mem} {n : Nat} (hn : σ 1 3 = n) (h6 : n ≤ 6) {i : Int} (h1 : 0 ≤ i ∧ i < 216) : fX5_isSame_25_23 σ i = some (zb (mh_all (fun r => decide (σ 26 (i * 6 + r) = σ 24 r)) n)) := by
  have L : ∀ (f j : Nat), j ≤ n → n < f + j → mh_all (fun r => decide (σ 26 (i * 6 + r) = σ 24 r)) j = true → fX5_isSame_25_23_L2 σ i (fun v7 => some 1) f j = some (zb (mh_all (fun r => decide (σ 26 (i * 6 + r) = σ 24 r)) n)) := by
    intro f
    induction f with
    | zero => intro j h1 h2; omega
    | succ f ih =>
      intro j j1 j2 ha
      rw [fX5_isSame_25_23_L2]
      rcases Nat.lt_or_ge j n with hj | hj
      · have ih' := ih (j + 1) (by omega) (by omega)
        simp only [mh_all, ha, Bool.true_and] at ih'
        rw [show ((j + 1 : Nat) : Int) = (j : Int) + 1 by omega] at ih'
        rw [if_pos (by omega), uHosAt h1 (by omega), Option.bind_some, if_pos (by omega)]
        by_cases e : σ 26 (i * 6 + j) = σ 24 j
        · rw [if_pos e, if_pos ⟨by omega, by omega⟩]
          exact ih' (by simp [e])
        · rw [if_neg e, mh_all_mono (k := j + 1) (by omega) (by simp [mh_all, ha, e])]; simp [zb]
      · have : j = n := by omega
        subst this
        rw [if_neg (by omega), ha]; simp [zb]
  unfold fX5_isSame_25_23
  exact L FU 0 (by omega) (by unfold FU; omega) rfl
theorem uFind_24 {σ : Mem} {n K : Nat} (hn : σ 1 3 = n) (h6 : n ≤ 6) (hK : σ 25 3 = K) (k2 : K ≤ 216) : fX5_find_25_23 σ = some (mh_f (fun i => mh_all (fun r => decide (σ 26 (i * 6 + r) = σ 24 r)) n) K) := by
  have L : ∀ (f j : Nat), j ≤ K → K < f + j → mh_f (fun i => mh_all (fun r => decide (σ 26 (i * 6 + r) = σ 24 r)) n) j = -1 → fX5_find_25_23_L2 σ (fun v6 => some (-1)) f j = some (mh_f (fun i => mh_all (fun r => decide (σ 26 (i * 6 + r) = σ 24 r)) n) K) := by
    intro f
    induction f with
    | zero => intro j h1 h2; omega
    | succ f ih =>
      intro j j1 j2 ha
      rw [fX5_find_25_23_L2]
      rcases Nat.lt_or_ge j K with hj | hj
      · have ih' := ih (j + 1) (by omega) (by omega)
        simp only [mh_f, ha, if_true] at ih'
        rw [show ((j + 1 : Nat) : Int) = (j : Int) + 1 by omega] at ih'
        rw [if_pos (by omega), uIsSame_24 hn h6 (by omega), Option.bind_some]
        cases e : mh_all (fun r => decide (σ 26 (j * 6 + r) = σ 24 r)) n with
        | false =>
          rw [if_pos (by simp [zb]), if_pos ⟨by omega, by omega⟩]
          exact ih' (by simp [e])
        | true =>
          rw [if_neg (by simp [zb])]
          rw [mh_f_eq (k := j) hj ha e]
      · have : j = K := by omega
        subst this
        rw [if_neg (by omega), ha]
  unfold fX5_find_25_23
  exact L FU 0 (by omega) (by unfold FU; omega) rfl

theorem uIsStable {σ : Mem} {n m : Nat} (hn : σ 1 3 = n) (h6 : n ≤ 6) (hm : σ 1 4 = m) (m6 : m ≤ 6) (hv : ∀ r : Int, 0 ≤ r → r < n → σ 24 r = -1 ∨ (0 ≤ σ 24 r ∧ σ 24 r < 6)) : fX3_isStable_23 σ = some (zb (matB n (rkC σ) (hkC σ) (σ 20) (σ 24) && decide (bpO (blkB n (rkC σ) (hkC σ) (σ 20) (σ 24)) m 0 n 0 0 = -1))) := by
  unfold fX3_isStable_23
  rw [uIsMatching_24 hn h6 hv, Option.bind_some]
  cases matB n (rkC σ) (hkC σ) (σ 20) (σ 24) with
  | false => simp [zb]
  | true =>
    rw [if_neg (by simp [zb]), uBlockingPair_24 hn h6 hm m6 hv, Option.bind_some]
    by_cases e : bpO (blkB n (rkC σ) (hkC σ) (σ 20) (σ 24)) m 0 n 0 0 = -1
    · rw [if_pos e]; simp [zb, e]
    · rw [if_neg e]; simp [zb, e]
/-- none blocks, if the first is none -/
theorem bpO_none {B : Int → Int → Bool} {m n : Nat} : bpO B m 0 n 0 0 = -1 ↔ ∀ r h : Int, 0 ≤ r → r < n → 0 ≤ h → h < m → B r h = false := by
  have I : ∀ (C : Int → Bool) (j : Nat) (k : Int), 0 ≤ k → (bpI C 0 j k 0 = .inr 0 ↔ ∀ h : Int, k ≤ h → h < k + j → C h = false) ∧ (bpI C 0 j k 0 = .inr 0 ∨ ∃ h : Int, 0 ≤ h ∧ bpI C 0 j k 0 = .inl h) := by
    intro C j
    induction j with
    | zero => intro k _; exact ⟨⟨fun _ h a b => by omega, fun _ => rfl⟩, Or.inl rfl⟩
    | succ j ih =>
      intro k k0
      simp only [bpI, if_true]
      by_cases e : C k = true
      · rw [if_pos e]
        refine ⟨⟨fun z => (by cases z), fun z => ?_⟩, Or.inr ⟨k, k0, rfl⟩⟩
        have := z k (by omega) (by omega); rw [e] at this; cases this
      · rw [if_neg e]
        obtain ⟨i1, i2⟩ := ih (k + 1) (by omega)
        refine ⟨i1.trans ⟨fun z h a b => ?_, fun z h a b => z h (by omega) (by omega)⟩, i2⟩
        by_cases d : h = k
        · subst d; simpa using e
        · exact z h (by omega) (by omega)
  have O : ∀ (j : Nat) (k : Int), 0 ≤ k → (bpO B m 0 j k 0 = -1 ↔ ∀ r h : Int, k ≤ r → r < k + j → 0 ≤ h → h < m → B r h = false) := by
    intro j
    induction j with
    | zero => intro k _; exact ⟨fun _ r h a b => by omega, fun _ => rfl⟩
    | succ j ih =>
      intro k k0
      simp only [bpO]
      obtain ⟨i1, i2⟩ := I (B k) m 0 (by omega)
      rcases i2 with z | ⟨h, h0, z⟩
      · rw [z]
        dsimp only
        rw [ih (k + 1) (by omega)]
        have z' := i1.mp z
        constructor
        · intro w r h a b c d
          by_cases e : r = k
          · subst e; exact z' h c (by omega)
          · exact w r h (by omega) (by omega) c d
        · intro w r h a b c d
          exact w r h (by omega) (by omega) c d
      · rw [z]
        dsimp only
        constructor
        · intro w; omega
        · intro w
          have := i1.mpr (fun h a b => w k h (by omega) (by omega) a (by omega))
          rw [z] at this; cases this
  have := O n 0 (by omega)
  rw [this]
  constructor
  · intro w r h a b c d; exact w r h a (by omega) c d
  · intro w r h a b c d; exact w r h a (by omega) c d

