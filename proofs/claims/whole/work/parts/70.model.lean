/-! PURE 9: what the reference's readers say, in numbers -/
/-- the last of the first k -/
def mh_l (p : Int → Bool) : Nat → Int
  | 0 => -1
  | k + 1 => if p (k : Int) = true then (k : Int) else mh_l p k
theorem mh_l_none {p : Int → Bool} {k : Nat} (h : ∀ y : Int, 0 ≤ y → y < k → p y = false) : mh_l p k = -1 := by
  induction k with
  | zero => rfl
  | succ k ih =>
    have := h k (by omega) (by omega)
    simp only [mh_l, this]
    simpa using ih (fun y a b => h y a (by omega))
theorem mh_l_eq {p : Int → Bool} {k : Nat} {x : Int} (x0 : 0 ≤ x) (x1 : x < k) (hp : p x = true) (u : ∀ y : Int, 0 ≤ y → y < k → p y = true → y = x) : mh_l p k = x := by
  induction k with
  | zero => omega
  | succ k ih =>
    simp only [mh_l]
    by_cases e : p k = true
    · rw [if_pos e]; exact u k (by omega) (by omega) e
    · rw [if_neg e]
      have : x ≠ k := fun z => e (by rw [← z]; exact hp)
      exact ih (by omega) (fun y a b c => u y a (by omega) c)
theorem mPlaceG {τ : Mem} {s q x : Int} {L : Nat} (s0 : 0 ≤ s) (s1 : s ≤ 1) (q0 : 0 ≤ q) (q1 : q < 6) (hL : τ 3 (6 * s + q) = L) (L6 : L ≤ 6) : fX7_place_0 τ s q x = some (mh_l (fun k => decide (τ 2 (36 * s + 6 * q + k) = x)) L) := by
  have W : ∀ (ex : Int → Int → Option Int) (f k : Nat), k ≤ L → L < f + k → fX7_place_0_L6 τ s q x ex f (mh_l (fun k => decide (τ 2 (36 * s + 6 * q + k) = x)) k) k = ex (mh_l (fun k => decide (τ 2 (36 * s + 6 * q + k) = x)) L) L := by
    intro ex f
    induction f with
    | zero => intro k h1 h2; omega
    | succ f ih =>
      intro k h1 h2
      rw [fX7_place_0_L6, hL]
      rcases Nat.lt_or_ge k L with hk | hk
      · have ih' := ih (k + 1) (by omega) (by omega)
        rw [show ((k + 1 : Nat) : Int) = (k : Int) + 1 by omega] at ih'
        simp only [mh_l] at ih'
        repeat rw [if_pos (by omega)]
        by_cases e : τ 2 (36 * s + 6 * q + k) = x
        · rw [if_pos e, if_pos (by omega)]
          simpa [e] using ih'
        · rw [if_neg e, if_pos (by omega)]
          simpa [e] using ih'
      · have : k = L := by omega
        subst this
        repeat rw [if_pos (by omega)]
        rw [if_neg (by omega)]
  unfold fX7_place_0
  exact W _ FU 0 (by omega) (by unfold FU; omega)
/-- the reference holds these lists -/
def liM (τ : Mem) (n m : Nat) (rk hk : Int → Int → Int) (sz sz' cp : Int → Int) : Prop :=
  τ 0 1 = n ∧ τ 0 2 = m ∧ (1 ≤ n ∧ n ≤ 6 ∧ 1 ≤ m ∧ m ≤ 6) ∧ lsI rk sz n m ∧ lsI hk sz' m n ∧ (∀ h : Int, 0 ≤ h → h < m → 1 ≤ cp h ∧ cp h ≤ 3) ∧
  (∀ r : Int, 0 ≤ r → r < n → τ 3 r = sz r ∧ ∀ p : Int, 0 ≤ p → p < sz r → τ 2 (6 * r + p) = atF m rk r p) ∧
  (∀ h : Int, 0 ≤ h → h < m → τ 3 (6 + h) = sz' h ∧ ∀ p : Int, 0 ≤ p → p < sz' h → τ 2 (36 + 6 * h + p) = atF n hk h p) ∧ ∀ h : Int, 0 ≤ h → h < m → τ 1 h = cp h
theorem liM_same {τ τ' : Mem} {n m : Nat} {rk hk : Int → Int → Int} {sz sz' cp : Int → Int} (h : liM τ n m rk hk sz sz' cp) (e1 : τ' 0 1 = τ 0 1) (e2 : τ' 0 2 = τ 0 2) (e : ∀ k, k = 1 ∨ k = 2 ∨ k = 3 → τ' k = τ k) : liM τ' n m rk hk sz sz' cp := by
  unfold liM
  rw [e1, e2, e 1 (by omega), e 2 (by omega), e 3 (by omega)]
  exact h
/-- place in a list, of any row P with sizes S -/
theorem plG {τ : Mem} {P : Int → Int → Int} {S : Int → Int} {n m : Nat} (L : lsI P S n m) {s r : Int} {b : Int} (r0 : 0 ≤ r) (r1 : r < n) (hp : ∀ p : Int, 0 ≤ p → p < S r → τ 2 (b + p) = atF m P r p) {x : Int} (hx : x = -1 ∨ (0 ≤ x ∧ x < m)) : mh_l (fun k => decide (τ 2 (b + k) = x)) (S r).toNat = if x = -1 then -1 else P r x := by
  obtain ⟨l1, l2, l3, l4⟩ := L r r0 r1
  by_cases e : x = -1
  · rw [if_pos e]
    refine mh_l_none (fun y y0 y1 => ?_)
    have := atF_ok L r0 r1 y0 (by omega)
    rw [decide_eq_false_iff_not, hp y y0 (by omega)]
    omega
  · rw [if_neg e]
    have x2 : 0 ≤ x ∧ x < m := by omega
    rcases l2 x x2.1 x2.2 with z | ⟨z0, z1⟩
    · rw [z]
      refine mh_l_none (fun y y0 y1 => ?_)
      have := atF_ok L r0 r1 y0 (by omega)
      rw [decide_eq_false_iff_not, hp y y0 (by omega)]
      intro w
      rw [w, z] at this
      omega
    · refine mh_l_eq z0 (by omega) ?_ (fun y y0 y1 hy => ?_)
      · rw [decide_eq_true_eq, hp _ z0 z1]; exact atF_rk L r0 r1 x2.1 x2.2 (by omega)
      · rw [decide_eq_true_eq, hp y y0 (by omega)] at hy
        have := (atF_ok L r0 r1 y0 (by omega)).2.2
        rw [hy] at this
        exact this.symm
section MRD
variable {τ : Mem} {n m : Nat} {rk hk : Int → Int → Int} {sz sz' cp : Int → Int}
theorem mPl0 (I : liM τ n m rk hk sz sz' cp) {r x : Int} (r0 : 0 ≤ r) (r1 : r < n) (hx : x = -1 ∨ (0 ≤ x ∧ x < m)) : fX7_place_0 τ 0 r x = some (if x = -1 then -1 else rk r x) := by
  obtain ⟨i1, i2, ⟨n1, n6, m1, m6⟩, LR, LH, cp3, LM, LM', LC⟩ := I
  obtain ⟨a1, a2⟩ := LM r r0 r1
  have l1 := (LR r r0 r1).1
  rw [mPlaceG (L := (sz r).toNat) (by omega) (by omega) r0 (by omega) (by rw [show (6 * 0 + r : Int) = r by omega, a1]; omega) (by omega)]
  have := plG (τ := τ) LR (s := 0) (b := 6 * r) r0 r1 a2 hx
  rw [show (36 * 0 + 6 * r : Int) = 6 * r by omega, this]
theorem mPl1 (I : liM τ n m rk hk sz sz' cp) {h r : Int} (h0 : 0 ≤ h) (h1 : h < m) (r0 : 0 ≤ r) (r1 : r < n) : fX7_place_0 τ 1 h r = some (hk h r) := by
  obtain ⟨i1, i2, ⟨n1, n6, m1, m6⟩, LR, LH, cp3, LM, LM', LC⟩ := I
  obtain ⟨a1, a2⟩ := LM' h h0 h1
  have l1 := (LH h h0 h1).1
  rw [mPlaceG (L := (sz' h).toNat) (by omega) (by omega) h0 (by omega) (by rw [show (6 * 1 + h : Int) = 6 + h by omega, a1]; omega) (by omega)]
  have := plG (τ := τ) LH (s := 1) (b := 36 + 6 * h) h0 h1 a2 (x := r) (Or.inr ⟨r0, r1⟩)
  rw [show (36 * 1 + 6 * h : Int) = 36 + 6 * h by omega, this, if_neg (by omega)]
theorem mPl0' (I : liM τ n m rk hk sz sz' cp) {r x : Int} (r0 : 0 ≤ r) (r1 : r < n) (x0 : 0 ≤ x) (x1 : x < m) : fX7_place_0 τ 0 r x = some (rk r x) := by
  rw [mPl0 I r0 r1 (Or.inr ⟨x0, x1⟩), if_neg (by omega)]
theorem rk_rng (I : liM τ n m rk hk sz sz' cp) {r x : Int} (r0 : 0 ≤ r) (r1 : r < n) (x0 : 0 ≤ x) (x1 : x < m) : -1 ≤ rk r x ∧ rk r x < 6 := by
  obtain ⟨i1, i2, ⟨n1, n6, m1, m6⟩, LR, LH, cp3, LM, LM', LC⟩ := I
  have := (LR r r0 r1).1
  rcases (LR r r0 r1).2.1 x x0 x1 with z | z <;> omega
theorem hk_rng (I : liM τ n m rk hk sz sz' cp) {r x : Int} (r0 : 0 ≤ r) (r1 : r < n) (x0 : 0 ≤ x) (x1 : x < m) : -1 ≤ hk x r ∧ hk x r < 6 := by
  obtain ⟨i1, i2, ⟨n1, n6, m1, m6⟩, LR, LH, cp3, LM, LM', LC⟩ := I
  have := (LH x x0 x1).1
  rcases (LH x x0 x1).2.1 r r0 r1 with z | z <;> omega
theorem mIsPair (I : liM τ n m rk hk sz sz' cp) {r x : Int} (r0 : 0 ≤ r) (r1 : r < n) (x0 : 0 ≤ x) (x1 : x < m) : fX7_isPair_0 τ r x = some (zb (pB rk hk r x)) := by
  have a := rk_rng I r0 r1 x0 x1
  have b := hk_rng I r0 r1 x0 x1
  unfold fX7_isPair_0 pB
  rw [mPl0' I r0 r1 x0 x1, Option.bind_some]
  by_cases e : rk r x = -1
  · rw [if_pos (by omega)]; simp [e, zb]
  · rw [if_neg (by omega), mPl1 I x0 x1 r0 r1, Option.bind_some]
    by_cases d : hk x r = -1
    · rw [if_pos (by omega)]; simp [d, zb]
    · rw [if_neg (by omega)]; simp [e, d, zb]

theorem mTaken_4 (τ : Mem) {k : Nat} (k6 : k ≤ 6) (h : Int) : fX7_taken_4 τ 0 k h = some (mh_c (fun r => decide (τ 4 r = h)) k) := by
  have W : ∀ (ex : Int → Int → Option Int) (f j : Nat), j ≤ k → k < f + j → fX7_taken_4_L6 τ 0 k h ex f (mh_c (fun r => decide (τ 4 r = h)) j) j = ex (mh_c (fun r => decide (τ 4 r = h)) k) k := by
    intro ex f
    induction f with
    | zero => intro j h1 h2; omega
    | succ f ih =>
      intro j h1 h2
      rw [fX7_taken_4_L6]
      have hc0 := mh_c_0 (fun r => decide (τ 4 r = h)) j
      have hcl := mh_c_le (fun r => decide (τ 4 r = h)) j
      rcases Nat.lt_or_ge j k with hk | hk
      · have ih' := ih (j + 1) (by omega) (by omega)
        rw [mh_c_succ, show ((j + 1 : Nat) : Int) = (j : Int) + 1 by omega] at ih'
        rw [show (0 + (j : Int)) = j by omega]
        repeat rw [if_pos (by omega)]
        by_cases e : τ 4 j = h
        · repeat rw [if_pos (by omega)]
          simpa [e] using ih'
        · rw [if_neg e]
          repeat rw [if_pos (by omega)]
          simpa [e] using ih'
      · have : j = k := by omega
        subst this
        rw [if_neg (by omega)]
  unfold fX7_taken_4
  exact W _ FU 0 (by omega) (by unfold FU; omega)
theorem mBlkL_4 (I : liM τ n m rk hk sz sz' cp) {r x : Int} (r0 : 0 ≤ r) (r1 : r < n) (x0 : 0 ≤ x) (x1 : x < m) (b : Bool) (ex : Int → Int → Option Int) : fX7_isBlocking_0_4_L91 τ 0 r x ex FU (zb b) 0 = ex (zb (b || !(mh_all (fun o => !(decide (τ 4 o = x) && decide (hk x r < hk x o))) n))) n := by
  have n6 : n ≤ 6 := I.2.2.1.2.1
  have W : ∀ (f j : Nat), j ≤ n → n < f + j → fX7_isBlocking_0_4_L91 τ 0 r x ex f (zb (b || !(mh_all (fun o => !(decide (τ 4 o = x) && decide (hk x r < hk x o))) j))) j = ex (zb (b || !(mh_all (fun o => !(decide (τ 4 o = x) && decide (hk x r < hk x o))) n))) n := by
    intro f
    induction f with
    | zero => intro j h1 h2; omega
    | succ f ih =>
      intro j h1 h2
      rw [fX7_isBlocking_0_4_L91, I.1]
      rcases Nat.lt_or_ge j n with hk' | hk'
      · have ih' := ih (j + 1) (by omega) (by omega)
        rw [show ((j + 1 : Nat) : Int) = (j : Int) + 1 by omega] at ih'
        simp only [mh_all] at ih'
        rw [if_pos (by omega), show (0 + (j : Int)) = j by omega]
        cases e : (b || !(mh_all (fun o => !(decide (τ 4 o = x) && decide (hk x r < hk x o))) j)) with
        | true =>
          rw [if_neg (by simp [zb]), if_pos (by omega), ← ih']
          congr 1
          revert e
          cases b <;> cases mh_all (fun o => !(decide (τ 4 o = x) && decide (hk x r < hk x o))) j <;> simp [zb]
        | false =>
          have eb : b = false := by cases b <;> simp_all
          have ea : mh_all (fun o => !(decide (τ 4 o = x) && decide (hk x r < hk x o))) j = true := by rw [eb] at e; simpa using e
          rw [eb, ea] at ih'
          rw [if_pos (by simp [zb]), if_pos (by omega), if_pos (by omega)]
          by_cases d : τ 4 j = x
          · rw [if_pos d, mPl1 I x0 x1 r0 r1, Option.bind_some, mPl1 I x0 x1 (by omega) (by omega), Option.bind_some]
            by_cases g : hk x r < hk x j
            · rw [if_pos g, if_pos (by omega), eb, ← ih']
              simp [d, g, zb]
            · rw [if_neg g, if_pos (by omega), eb, ← ih']
              simp [d, g, zb]
          · rw [if_neg d, if_pos (by omega), eb, ← ih']
            simp [d, zb]
      · have : j = n := by omega
        subst this
        rw [if_neg (by omega)]
  have := W FU 0 (by omega) (by unfold FU; omega)
  simpa [mh_all] using this
theorem mBlk_4 (I : liM τ n m rk hk sz sz' cp) {r x : Int} (r0 : 0 ≤ r) (r1 : r < n) (x0 : 0 ≤ x) (x1 : x < m) (hv : τ 4 r = -1 ∨ (0 ≤ τ 4 r ∧ τ 4 r < m)) : fX7_isBlocking_0_4 τ 0 r x = some (zb (blkB n rk hk cp (τ 4) r x)) := by
  have n6 : n ≤ 6 := I.2.2.1.2.1
  have m6 : m ≤ 6 := I.2.2.1.2.2.2
  have hcp := I.2.2.2.2.2.2.2.2 x x0 x1
  unfold fX7_isBlocking_0_4
  rw [mIsPair I r0 r1 x0 x1, Option.bind_some, show (0 + r) = r by omega, I.1]
  cases ep : pB rk hk r x with
  | false => rw [if_pos (by simp [zb])]; simp [blkB, ep, zb]
  | true =>
    rw [if_neg (by simp [zb]), if_pos (by omega), if_pos (by omega)]
    by_cases d : τ 4 r = x
    · have : goB rk (τ 4) r x = false := by
        unfold goB
        rw [d]
        simp
        omega
      rw [if_pos d]
      simp [blkB, this, zb]
    · have tk := mTaken_4 τ n6 x
      rw [if_neg d]
      repeat rw [if_pos (by omega)]
      by_cases e : τ 4 r = -1
      · have g : goB rk (τ 4) r x = true := by unfold goB; rw [e]; simp
        rw [if_pos e, tk, Option.bind_some, hcp]
        rw [if_pos (show 0 ≤ x ∧ x < 6 by omega)]
        have lt := mBlkL_4 I r0 r1 x0 x1 true (fun v40 v41 => if v40 = 0 then some 0 else some 1)
        have lf := mBlkL_4 I r0 r1 x0 x1 false (fun v40 v41 => if v40 = 0 then some 0 else some 1)
        rw [show zb true = 1 from rfl] at lt
        rw [show zb false = 0 from rfl] at lf
        rw [lt, lf]
        unfold blkB
        rw [ep, g]
        unfold getB mh_at
        by_cases c : mh_c (fun r => decide (τ 4 r = x)) n < cp x
        · rw [if_pos c]; simp [c, zb]
        · rw [if_neg c]
          cases mh_all (fun o => !(decide (τ 4 o = x) && decide (hk x r < hk x o))) n <;> simp [c, zb]
      · rw [if_neg e, mPl0' I r0 r1 x0 x1, Option.bind_some]
        repeat rw [if_pos (by omega)]
        rw [mPl0' I r0 r1 (by omega) (by omega), Option.bind_some]
        by_cases q : rk r x < rk r (τ 4 r)
        · have g : goB rk (τ 4) r x = true := by unfold goB; simp [q]
          rw [if_pos q, tk, Option.bind_some, hcp]
          rw [if_pos (show 0 ≤ x ∧ x < 6 by omega)]
          have lt := mBlkL_4 I r0 r1 x0 x1 true (fun v40 v41 => if v40 = 0 then some 0 else some 1)
          have lf := mBlkL_4 I r0 r1 x0 x1 false (fun v40 v41 => if v40 = 0 then some 0 else some 1)
          rw [show zb true = 1 from rfl] at lt
          rw [show zb false = 0 from rfl] at lf
          rw [lt, lf]
          unfold blkB
          rw [ep, g]
          unfold getB mh_at
          by_cases c : mh_c (fun r => decide (τ 4 r = x)) n < cp x
          · rw [if_pos c]; simp [c, zb]
          · rw [if_neg c]
            cases mh_all (fun o => !(decide (τ 4 o = x) && decide (hk x r < hk x o))) n <;> simp [c, zb]
        · have g : goB rk (τ 4) r x = false := by unfold goB; simp [q, e]
          rw [if_neg q, tk, Option.bind_some, hcp]
          rw [if_pos (show 0 ≤ x ∧ x < 6 by omega)]
          have lt := mBlkL_4 I r0 r1 x0 x1 true (fun v40 v41 => some 0)
          have lf := mBlkL_4 I r0 r1 x0 x1 false (fun v40 v41 => some 0)
          rw [show zb true = 1 from rfl] at lt
          rw [show zb false = 0 from rfl] at lf
          rw [lt, lf, ite_self]
          simp [blkB, g, zb]
theorem mBlocksOf_4 (I : liM τ n m rk hk sz sz' cp) (hv : ∀ r : Int, 0 ≤ r → r < n → τ 4 r = -1 ∨ (0 ≤ τ 4 r ∧ τ 4 r < m)) : fX7_blocksOf_0_4 τ 0 = some (mh_s (fun r => mh_c (blkB n rk hk cp (τ 4) r) m) n) := by
  have n6 : n ≤ 6 := I.2.2.1.2.1
  have m6 : m ≤ 6 := I.2.2.1.2.2.2
  have WI : ∀ (r : Int) (ex : Int → Int → Option Int) (s : Int), 0 ≤ r → r < n → 0 ≤ s → s < 1000 → ∀ (f j : Nat), j ≤ m → m < f + j → fX7_blocksOf_0_4_L17 τ 0 r ex f (s + mh_c (blkB n rk hk cp (τ 4) r) j) j = ex (s + mh_c (blkB n rk hk cp (τ 4) r) m) m := by
    intro r ex s r0 r1 s0 s1 f
    induction f with
    | zero => intro j h1 h2; omega
    | succ f ih =>
      intro j h1 h2
      rw [fX7_blocksOf_0_4_L17, I.2.1]
      have hc0 := mh_c_0 (blkB n rk hk cp (τ 4) r) j
      have hcl := mh_c_le (blkB n rk hk cp (τ 4) r) j
      rcases Nat.lt_or_ge j m with hk' | hk'
      · have ih' := ih (j + 1) (by omega) (by omega)
        rw [mh_c_succ, show ((j + 1 : Nat) : Int) = (j : Int) + 1 by omega] at ih'
        rw [if_pos (by omega), mBlk_4 I r0 r1 (by omega) (by omega) (hv r r0 r1), Option.bind_some]
        cases e : blkB n rk hk cp (τ 4) r j with
        | false =>
          rw [if_pos (by simp [zb])]
          repeat rw [if_pos (by omega)]
          rw [e] at ih'
          simpa using ih'
        | true =>
          rw [if_neg (by simp [zb])]
          repeat rw [if_pos (by omega)]
          rw [e, if_pos rfl] at ih'
          rw [Int.add_assoc]
          exact ih'
      · have : j = m := by omega
        subst this
        rw [if_neg (by omega)]
  have S0 : ∀ k : Nat, k ≤ n → 0 ≤ mh_s (fun r => mh_c (blkB n rk hk cp (τ 4) r) m) k ∧ mh_s (fun r => mh_c (blkB n rk hk cp (τ 4) r) m) k ≤ 6 * k := by
    intro k
    induction k with
    | zero => intro _; simp [mh_s]
    | succ k ih =>
      intro h
      have := ih (by omega)
      have hc0 := mh_c_0 (blkB n rk hk cp (τ 4) k) m
      have hcl := mh_c_le (blkB n rk hk cp (τ 4) k) m
      simp only [mh_s]
      omega
  have WO : ∀ (ex : Int → Int → Option Int) (f j : Nat), j ≤ n → n < f + j → fX7_blocksOf_0_4_L5 τ 0 ex f (mh_s (fun r => mh_c (blkB n rk hk cp (τ 4) r) m) j) j = ex (mh_s (fun r => mh_c (blkB n rk hk cp (τ 4) r) m) n) n := by
    intro ex f
    induction f with
    | zero => intro j h1 h2; omega
    | succ f ih =>
      intro j h1 h2
      rw [fX7_blocksOf_0_4_L5, I.1]
      rcases Nat.lt_or_ge j n with hk' | hk'
      · have ih' := ih (j + 1) (by omega) (by omega)
        rw [show ((j + 1 : Nat) : Int) = (j : Int) + 1 by omega] at ih'
        have s0 := S0 j h1
        rw [if_pos (by omega)]
        have := WI j (fun v12 v13 => if rng ((j : Int) + 1) then fX7_blocksOf_0_4_L5 τ 0 ex f v12 ((j : Int) + 1) else none) (mh_s (fun r => mh_c (blkB n rk hk cp (τ 4) r) m) j) (by omega) (by omega) (by omega) (by omega) FU 0 (by omega) (by unfold FU; omega)
        rw [show mh_c (blkB n rk hk cp (τ 4) j) 0 = 0 from rfl, Int.add_zero, show ((0 : Nat) : Int) = 0 from rfl] at this
        rw [this, if_pos (by omega)]
        exact ih'
      · have : j = n := by omega
        subst this
        rw [if_neg (by omega)]
  unfold fX7_blocksOf_0_4
  exact WO _ FU 0 (by omega) (by unfold FU; omega)
theorem mNumberOf_4 {K : Nat} (i1 : τ 0 1 = n) (n6 : n ≤ 6) (hK : τ 0 8 = K) (k2 : K ≤ 216) : fX7_numberOf_0_4 τ = some (mh_f (fun i => mh_all (fun r => decide (τ 5 (6 * i + r) = τ 4 r)) n) K) := by
  have WI : ∀ (i : Int) (ex : Int → Int → Option Int), 0 ≤ i → i < 216 → ∀ (f j : Nat), j ≤ n → n < f + j → fX7_numberOf_0_4_L15 τ i ex f (zb (mh_all (fun r => decide (τ 5 (6 * i + r) = τ 4 r)) j)) j = ex (zb (mh_all (fun r => decide (τ 5 (6 * i + r) = τ 4 r)) n)) n := by
    intro i ex a0 a1 f
    induction f with
    | zero => intro j h1 h2; omega
    | succ f ih =>
      intro j h1 h2
      rw [fX7_numberOf_0_4_L15, i1]
      rcases Nat.lt_or_ge j n with hk' | hk'
      · have ih' := ih (j + 1) (by omega) (by omega)
        rw [show ((j + 1 : Nat) : Int) = (j : Int) + 1 by omega] at ih'
        simp only [mh_all] at ih'
        rw [if_pos (by omega)]
        cases e : mh_all (fun r => decide (τ 5 (6 * i + r) = τ 4 r)) j with
        | false =>
          rw [if_pos (by simp [zb]), if_pos (by omega)]
          rw [e] at ih'
          simpa [zb] using ih'
        | true =>
          rw [if_neg (by simp [zb])]
          repeat rw [if_pos (by omega)]
          rw [e] at ih'
          by_cases d : τ 5 (6 * i + j) = τ 4 j
          · repeat rw [if_pos (by omega)]
            simpa [d, zb] using ih'
          · rw [if_neg d]
            repeat rw [if_pos (by omega)]
            simpa [d, zb] using ih'
      · have : j = n := by omega
        subst this
        rw [if_neg (by omega)]
  have W : ∀ (f j : Nat), j ≤ K → K < f + j → mh_f (fun i => mh_all (fun r => decide (τ 5 (6 * i + r) = τ 4 r)) n) j = -1 → fX7_numberOf_0_4_L2 τ (fun v19 => some (-1)) f j = some (mh_f (fun i => mh_all (fun r => decide (τ 5 (6 * i + r) = τ 4 r)) n) K) := by
    intro f
    induction f with
    | zero => intro j h1 h2; omega
    | succ f ih =>
      intro j h1 h2 ha
      rw [fX7_numberOf_0_4_L2, hK]
      rcases Nat.lt_or_ge j K with hk' | hk'
      · have ih' := ih (j + 1) (by omega) (by omega)
        rw [show ((j + 1 : Nat) : Int) = (j : Int) + 1 by omega] at ih'
        simp only [mh_f, ha, if_true] at ih'
        rw [if_pos (by omega)]
        have := WI j (fun v14 v15 => if v14 = 0 then if rng ((j : Int) + 1) then fX7_numberOf_0_4_L2 τ (fun v19 => some (-1)) f ((j : Int) + 1) else none else some (j : Int)) (by omega) (by omega) FU 0 (by omega) (by unfold FU; omega)
        rw [show zb (mh_all (fun r => decide (τ 5 (6 * (j : Int) + r) = τ 4 r)) 0) = 1 from rfl, show ((0 : Nat) : Int) = 0 from rfl] at this
        rw [this]
        cases e : mh_all (fun r => decide (τ 5 (6 * (j : Int) + r) = τ 4 r)) n with
        | false =>
          rw [if_pos (by simp [zb]), if_pos (by omega)]
          exact ih' (by simp [e])
        | true =>
          rw [if_neg (by simp [zb]), mh_f_eq (k := j) hk' ha e]
      · have : j = K := by omega
        subst this
        rw [if_neg (by omega), ha]
  unfold fX7_numberOf_0_4
  exact W FU 0 (by omega) (by unfold FU; omega) rfl
theorem mTaken_10 (τ : Mem) {k : Nat} (k6 : k ≤ 6) (h : Int) : fX7_taken_10 τ 0 k h = some (mh_c (fun r => decide (τ 10 r = h)) k) := by
  have W : ∀ (ex : Int → Int → Option Int) (f j : Nat), j ≤ k → k < f + j → fX7_taken_10_L6 τ 0 k h ex f (mh_c (fun r => decide (τ 10 r = h)) j) j = ex (mh_c (fun r => decide (τ 10 r = h)) k) k := by
    intro ex f
    induction f with
    | zero => intro j h1 h2; omega
    | succ f ih =>
      intro j h1 h2
      rw [fX7_taken_10_L6]
      have hc0 := mh_c_0 (fun r => decide (τ 10 r = h)) j
      have hcl := mh_c_le (fun r => decide (τ 10 r = h)) j
      rcases Nat.lt_or_ge j k with hk | hk
      · have ih' := ih (j + 1) (by omega) (by omega)
        rw [mh_c_succ, show ((j + 1 : Nat) : Int) = (j : Int) + 1 by omega] at ih'
        rw [show (0 + (j : Int)) = j by omega]
        repeat rw [if_pos (by omega)]
        by_cases e : τ 10 j = h
        · repeat rw [if_pos (by omega)]
          simpa [e] using ih'
        · rw [if_neg e]
          repeat rw [if_pos (by omega)]
          simpa [e] using ih'
      · have : j = k := by omega
        subst this
        rw [if_neg (by omega)]
  unfold fX7_taken_10
  exact W _ FU 0 (by omega) (by unfold FU; omega)
theorem mBlkL_10 (I : liM τ n m rk hk sz sz' cp) {r x : Int} (r0 : 0 ≤ r) (r1 : r < n) (x0 : 0 ≤ x) (x1 : x < m) (b : Bool) (ex : Int → Int → Option Int) : fX7_isBlocking_0_10_L91 τ 0 r x ex FU (zb b) 0 = ex (zb (b || !(mh_all (fun o => !(decide (τ 10 o = x) && decide (hk x r < hk x o))) n))) n := by
  have n6 : n ≤ 6 := I.2.2.1.2.1
  have W : ∀ (f j : Nat), j ≤ n → n < f + j → fX7_isBlocking_0_10_L91 τ 0 r x ex f (zb (b || !(mh_all (fun o => !(decide (τ 10 o = x) && decide (hk x r < hk x o))) j))) j = ex (zb (b || !(mh_all (fun o => !(decide (τ 10 o = x) && decide (hk x r < hk x o))) n))) n := by
    intro f
    induction f with
    | zero => intro j h1 h2; omega
    | succ f ih =>
      intro j h1 h2
      rw [fX7_isBlocking_0_10_L91, I.1]
      rcases Nat.lt_or_ge j n with hk' | hk'
      · have ih' := ih (j + 1) (by omega) (by omega)
        rw [show ((j + 1 : Nat) : Int) = (j : Int) + 1 by omega] at ih'
        simp only [mh_all] at ih'
        rw [if_pos (by omega), show (0 + (j : Int)) = j by omega]
        cases e : (b || !(mh_all (fun o => !(decide (τ 10 o = x) && decide (hk x r < hk x o))) j)) with
        | true =>
          rw [if_neg (by simp [zb]), if_pos (by omega), ← ih']
          congr 1
          revert e
          cases b <;> cases mh_all (fun o => !(decide (τ 10 o = x) && decide (hk x r < hk x o))) j <;> simp [zb]
        | false =>
          have eb : b = false := by cases b <;> simp_all
          have ea : mh_all (fun o => !(decide (τ 10 o = x) && decide (hk x r < hk x o))) j = true := by rw [eb] at e; simpa using e
          rw [eb, ea] at ih'
          rw [if_pos (by simp [zb]), if_pos (by omega), if_pos (by omega)]
          by_cases d : τ 10 j = x
          · rw [if_pos d, mPl1 I x0 x1 r0 r1, Option.bind_some, mPl1 I x0 x1 (by omega) (by omega), Option.bind_some]
            by_cases g : hk x r < hk x j
            · rw [if_pos g, if_pos (by omega), eb, ← ih']
              simp [d, g, zb]
            · rw [if_neg g, if_pos (by omega), eb, ← ih']
              simp [d, g, zb]
          · rw [if_neg d, if_pos (by omega), eb, ← ih']
            simp [d, zb]
      · have : j = n := by omega
        subst this
        rw [if_neg (by omega)]
  have := W FU 0 (by omega) (by unfold FU; omega)
  simpa [mh_all] using this
theorem mBlk_10 (I : liM τ n m rk hk sz sz' cp) {r x : Int} (r0 : 0 ≤ r) (r1 : r < n) (x0 : 0 ≤ x) (x1 : x < m) (hv : τ 10 r = -1 ∨ (0 ≤ τ 10 r ∧ τ 10 r < m)) : fX7_isBlocking_0_10 τ 0 r x = some (zb (blkB n rk hk cp (τ 10) r x)) := by
  have n6 : n ≤ 6 := I.2.2.1.2.1
  have m6 : m ≤ 6 := I.2.2.1.2.2.2
  have hcp := I.2.2.2.2.2.2.2.2 x x0 x1
  unfold fX7_isBlocking_0_10
  rw [mIsPair I r0 r1 x0 x1, Option.bind_some, show (0 + r) = r by omega, I.1]
  cases ep : pB rk hk r x with
  | false => rw [if_pos (by simp [zb])]; simp [blkB, ep, zb]
  | true =>
    rw [if_neg (by simp [zb]), if_pos (by omega), if_pos (by omega)]
    by_cases d : τ 10 r = x
    · have : goB rk (τ 10) r x = false := by
        unfold goB
        rw [d]
        simp
        omega
      rw [if_pos d]
      simp [blkB, this, zb]
    · have tk := mTaken_10 τ n6 x
      rw [if_neg d]
      repeat rw [if_pos (by omega)]
      by_cases e : τ 10 r = -1
      · have g : goB rk (τ 10) r x = true := by unfold goB; rw [e]; simp
        rw [if_pos e, tk, Option.bind_some, hcp]
        rw [if_pos (show 0 ≤ x ∧ x < 6 by omega)]
        have lt := mBlkL_10 I r0 r1 x0 x1 true (fun v40 v41 => if v40 = 0 then some 0 else some 1)
        have lf := mBlkL_10 I r0 r1 x0 x1 false (fun v40 v41 => if v40 = 0 then some 0 else some 1)
        rw [show zb true = 1 from rfl] at lt
        rw [show zb false = 0 from rfl] at lf
        rw [lt, lf]
        unfold blkB
        rw [ep, g]
        unfold getB mh_at
        by_cases c : mh_c (fun r => decide (τ 10 r = x)) n < cp x
        · rw [if_pos c]; simp [c, zb]
        · rw [if_neg c]
          cases mh_all (fun o => !(decide (τ 10 o = x) && decide (hk x r < hk x o))) n <;> simp [c, zb]
      · rw [if_neg e, mPl0' I r0 r1 x0 x1, Option.bind_some]
        repeat rw [if_pos (by omega)]
        rw [mPl0' I r0 r1 (by omega) (by omega), Option.bind_some]
        by_cases q : rk r x < rk r (τ 10 r)
        · have g : goB rk (τ 10) r x = true := by unfold goB; simp [q]
          rw [if_pos q, tk, Option.bind_some, hcp]
          rw [if_pos (show 0 ≤ x ∧ x < 6 by omega)]
          have lt := mBlkL_10 I r0 r1 x0 x1 true (fun v40 v41 => if v40 = 0 then some 0 else some 1)
          have lf := mBlkL_10 I r0 r1 x0 x1 false (fun v40 v41 => if v40 = 0 then some 0 else some 1)
          rw [show zb true = 1 from rfl] at lt
          rw [show zb false = 0 from rfl] at lf
          rw [lt, lf]
          unfold blkB
          rw [ep, g]
          unfold getB mh_at
          by_cases c : mh_c (fun r => decide (τ 10 r = x)) n < cp x
          · rw [if_pos c]; simp [c, zb]
          · rw [if_neg c]
            cases mh_all (fun o => !(decide (τ 10 o = x) && decide (hk x r < hk x o))) n <;> simp [c, zb]
        · have g : goB rk (τ 10) r x = false := by unfold goB; simp [q, e]
          rw [if_neg q, tk, Option.bind_some, hcp]
          rw [if_pos (show 0 ≤ x ∧ x < 6 by omega)]
          have lt := mBlkL_10 I r0 r1 x0 x1 true (fun v40 v41 => some 0)
          have lf := mBlkL_10 I r0 r1 x0 x1 false (fun v40 v41 => some 0)
          rw [show zb true = 1 from rfl] at lt
          rw [show zb false = 0 from rfl] at lf
          rw [lt, lf, ite_self]
          simp [blkB, g, zb]
theorem mBlocksOf_10 (I : liM τ n m rk hk sz sz' cp) (hv : ∀ r : Int, 0 ≤ r → r < n → τ 10 r = -1 ∨ (0 ≤ τ 10 r ∧ τ 10 r < m)) : fX7_blocksOf_0_10 τ 0 = some (mh_s (fun r => mh_c (blkB n rk hk cp (τ 10) r) m) n) := by
  have n6 : n ≤ 6 := I.2.2.1.2.1
  have m6 : m ≤ 6 := I.2.2.1.2.2.2
  have WI : ∀ (r : Int) (ex : Int → Int → Option Int) (s : Int), 0 ≤ r → r < n → 0 ≤ s → s < 1000 → ∀ (f j : Nat), j ≤ m → m < f + j → fX7_blocksOf_0_10_L17 τ 0 r ex f (s + mh_c (blkB n rk hk cp (τ 10) r) j) j = ex (s + mh_c (blkB n rk hk cp (τ 10) r) m) m := by
    intro r ex s r0 r1 s0 s1 f
    induction f with
    | zero => intro j h1 h2; omega
    | succ f ih =>
      intro j h1 h2
      rw [fX7_blocksOf_0_10_L17, I.2.1]
      have hc0 := mh_c_0 (blkB n rk hk cp (τ 10) r) j
      have hcl := mh_c_le (blkB n rk hk cp (τ 10) r) j
      rcases Nat.lt_or_ge j m with hk' | hk'
      · have ih' := ih (j + 1) (by omega) (by omega)
        rw [mh_c_succ, show ((j + 1 : Nat) : Int) = (j : Int) + 1 by omega] at ih'
        rw [if_pos (by omega), mBlk_10 I r0 r1 (by omega) (by omega) (hv r r0 r1), Option.bind_some]
        cases e : blkB n rk hk cp (τ 10) r j with
        | false =>
          rw [if_pos (by simp [zb])]
          repeat rw [if_pos (by omega)]
          rw [e] at ih'
          simpa using ih'
        | true =>
          rw [if_neg (by simp [zb])]
          repeat rw [if_pos (by omega)]
          rw [e, if_pos rfl] at ih'
          rw [Int.add_assoc]
          exact ih'
      · have : j = m := by omega
        subst this
        rw [if_neg (by omega)]
  have S0 : ∀ k : Nat, k ≤ n → 0 ≤ mh_s (fun r => mh_c (blkB n rk hk cp (τ 10) r) m) k ∧ mh_s (fun r => mh_c (blkB n rk hk cp (τ 10) r) m) k ≤ 6 * k := by
    intro k
    induction k with
    | zero => intro _; simp [mh_s]
    | succ k ih =>
      intro h
      have := ih (by omega)
      have hc0 := mh_c_0 (blkB n rk hk cp (τ 10) k) m
      have hcl := mh_c_le (blkB n rk hk cp (τ 10) k) m
      simp only [mh_s]
      omega
  have WO : ∀ (ex : Int → Int → Option Int) (f j : Nat), j ≤ n → n < f + j → fX7_blocksOf_0_10_L5 τ 0 ex f (mh_s (fun r => mh_c (blkB n rk hk cp (τ 10) r) m) j) j = ex (mh_s (fun r => mh_c (blkB n rk hk cp (τ 10) r) m) n) n := by
    intro ex f
    induction f with
    | zero => intro j h1 h2; omega
    | succ f ih =>
      intro j h1 h2
      rw [fX7_blocksOf_0_10_L5, I.1]
      rcases Nat.lt_or_ge j n with hk' | hk'
      · have ih' := ih (j + 1) (by omega) (by omega)
        rw [show ((j + 1 : Nat) : Int) = (j : Int) + 1 by omega] at ih'
        have s0 := S0 j h1
        rw [if_pos (by omega)]
        have := WI j (fun v12 v13 => if rng ((j : Int) + 1) then fX7_blocksOf_0_10_L5 τ 0 ex f v12 ((j : Int) + 1) else none) (mh_s (fun r => mh_c (blkB n rk hk cp (τ 10) r) m) j) (by omega) (by omega) (by omega) (by omega) FU 0 (by omega) (by unfold FU; omega)
        rw [show mh_c (blkB n rk hk cp (τ 10) j) 0 = 0 from rfl, Int.add_zero, show ((0 : Nat) : Int) = 0 from rfl] at this
        rw [this, if_pos (by omega)]
        exact ih'
      · have : j = n := by omega
        subst this
        rw [if_neg (by omega)]
  unfold fX7_blocksOf_0_10
  exact WO _ FU 0 (by omega) (by unfold FU; omega)
theorem mNumberOf_10 {K : Nat} (i1 : τ 0 1 = n) (n6 : n ≤ 6) (hK : τ 0 8 = K) (k2 : K ≤ 216) : fX7_numberOf_0_10 τ = some (mh_f (fun i => mh_all (fun r => decide (τ 5 (6 * i + r) = τ 10 r)) n) K) := by
  have WI : ∀ (i : Int) (ex : Int → Int → Option Int), 0 ≤ i → i < 216 → ∀ (f j : Nat), j ≤ n → n < f + j → fX7_numberOf_0_10_L15 τ i ex f (zb (mh_all (fun r => decide (τ 5 (6 * i + r) = τ 10 r)) j)) j = ex (zb (mh_all (fun r => decide (τ 5 (6 * i + r) = τ 10 r)) n)) n := by
    intro i ex a0 a1 f
    induction f with
    | zero => intro j h1 h2; omega
    | succ f ih =>
      intro j h1 h2
      rw [fX7_numberOf_0_10_L15, i1]
      rcases Nat.lt_or_ge j n with hk' | hk'
      · have ih' := ih (j + 1) (by omega) (by omega)
        rw [show ((j + 1 : Nat) : Int) = (j : Int) + 1 by omega] at ih'
        simp only [mh_all] at ih'
        rw [if_pos (by omega)]
        cases e : mh_all (fun r => decide (τ 5 (6 * i + r) = τ 10 r)) j with
        | false =>
          rw [if_pos (by simp [zb]), if_pos (by omega)]
          rw [e] at ih'
          simpa [zb] using ih'
        | true =>
          rw [if_neg (by simp [zb])]
          repeat rw [if_pos (by omega)]
          rw [e] at ih'
          by_cases d : τ 5 (6 * i + j) = τ 10 j
          · repeat rw [if_pos (by omega)]
            simpa [d, zb] using ih'
          · rw [if_neg d]
            repeat rw [if_pos (by omega)]
            simpa [d, zb] using ih'
      · have : j = n := by omega
        subst this
        rw [if_neg (by omega)]
  have W : ∀ (f j : Nat), j ≤ K → K < f + j → mh_f (fun i => mh_all (fun r => decide (τ 5 (6 * i + r) = τ 10 r)) n) j = -1 → fX7_numberOf_0_10_L2 τ (fun v19 => some (-1)) f j = some (mh_f (fun i => mh_all (fun r => decide (τ 5 (6 * i + r) = τ 10 r)) n) K) := by
    intro f
    induction f with
    | zero => intro j h1 h2; omega
    | succ f ih =>
      intro j h1 h2 ha
      rw [fX7_numberOf_0_10_L2, hK]
      rcases Nat.lt_or_ge j K with hk' | hk'
      · have ih' := ih (j + 1) (by omega) (by omega)
        rw [show ((j + 1 : Nat) : Int) = (j : Int) + 1 by omega] at ih'
        simp only [mh_f, ha, if_true] at ih'
        rw [if_pos (by omega)]
        have := WI j (fun v14 v15 => if v14 = 0 then if rng ((j : Int) + 1) then fX7_numberOf_0_10_L2 τ (fun v19 => some (-1)) f ((j : Int) + 1) else none else some (j : Int)) (by omega) (by omega) FU 0 (by omega) (by unfold FU; omega)
        rw [show zb (mh_all (fun r => decide (τ 5 (6 * (j : Int) + r) = τ 10 r)) 0) = 1 from rfl, show ((0 : Nat) : Int) = 0 from rfl] at this
        rw [this]
        cases e : mh_all (fun r => decide (τ 5 (6 * (j : Int) + r) = τ 10 r)) n with
        | false =>
          rw [if_pos (by simp [zb]), if_pos (by omega)]
          exact ih' (by simp [e])
        | true =>
          rw [if_neg (by simp [zb]), mh_f_eq (k := j) hk' ha e]
      · have : j = K := by omega
        subst this
        rw [if_neg (by omega), ha]
  unfold fX7_numberOf_0_10
  exact W FU 0 (by omega) (by unfold FU; omega) rfl
end MRD
