/-! PURE 1: what the class's readers say, in numbers -/
def zb (b : Bool) : Int := if b = true then 1 else 0
theorem zb_0 (b : Bool) : zb b = 0 ↔ b = false := by cases b <;> simp [zb]
theorem zb_1 (b : Bool) : zb b = 1 ↔ b = true := by cases b <;> simp [zb]
def rkC (σ : Mem) (r h : Int) : Int := if r < 6 then σ (4 + r.toNat) h else -1
def hkC (σ : Mem) (h r : Int) : Int := if h < 6 then σ (13 + h.toNat) r else -1
theorem rkC_eq {σ : Mem} {r : Int} (e : r < 6) (h : Int) : rkC σ r h = σ (4 + r.toNat) h := if_pos e
theorem hkC_eq {σ : Mem} {h : Int} (e : h < 6) (r : Int) : hkC σ h r = σ (13 + h.toNat) r := if_pos e
theorem rkC_same {σ σ' : Mem} (e : ∀ k, k < 20 → σ' k = σ k) : rkC σ' = rkC σ := by
  funext r h
  unfold rkC
  by_cases z : r < 6
  · rw [if_pos z, if_pos z, e _ (by omega)]
  · rw [if_neg z, if_neg z]
theorem hkC_same {σ σ' : Mem} (e : ∀ k, k < 20 → σ' k = σ k) : hkC σ' = hkC σ := by
  funext r h
  unfold hkC
  by_cases z : r < 6
  · rw [if_pos z, if_pos z, e _ (by omega)]
  · rw [if_neg z, if_neg z]
def pB (rk hk : Int → Int → Int) (r h : Int) : Bool := decide (rk r h ≠ -1) && decide (hk h r ≠ -1)
/-- all of the first k -/
def mh_all (p : Int → Bool) : Nat → Bool
  | 0 => true
  | k + 1 => mh_all p k && p (k : Int)
theorem mh_all_iff {p : Int → Bool} {k : Nat} : mh_all p k = true ↔ ∀ r : Int, 0 ≤ r → r < k → p r = true := by
  induction k with
  | zero => simp [mh_all]; intro r a b; omega
  | succ k ih =>
    simp only [mh_all, Bool.and_eq_true, ih]
    constructor
    · intro h r a b
      by_cases e : r = k
      · subst e; exact h.2
      · exact h.1 r a (by omega)
    · intro h
      exact ⟨fun r a b => h r a (by omega), h k (by omega) (by omega)⟩
theorem mh_all_mono {p : Int → Bool} {k n : Nat} (h : k ≤ n) (hf : mh_all p k = false) : mh_all p n = false := by
  cases e : mh_all p n with
  | false => rfl
  | true =>
    have : mh_all p k = true := mh_all_iff.mpr (fun r a b => mh_all_iff.mp e r a (by omega))
    rw [hf] at this; cases this
/-- the first of the first k, -1: none -/
def mh_f (p : Int → Bool) : Nat → Int
  | 0 => -1
  | k + 1 => if mh_f p k = -1 then (if p (k : Int) = true then (k : Int) else -1) else mh_f p k
theorem mh_f_none {p : Int → Bool} {k : Nat} : mh_f p k = -1 ↔ ∀ r : Int, 0 ≤ r → r < k → p r = false := by
  induction k with
  | zero => simp [mh_f]; intro r a b; omega
  | succ k ih =>
    simp only [mh_f]
    by_cases e : mh_f p k = -1
    · rw [if_pos e]
      have hk := ih.mp e
      by_cases d : p k = true
      · rw [if_pos d]
        constructor
        · intro z; omega
        · intro z; have := z k (by omega) (by omega); rw [d] at this; cases this
      · rw [if_neg d]
        simp only [true_iff]
        intro r a b
        by_cases z : r = k
        · subst z; simpa using d
        · exact hk r a (by omega)
    · rw [if_neg e]
      constructor
      · intro z; exact absurd z e
      · intro z; exact absurd (ih.mpr (fun r a b => z r a (by omega))) e
theorem mh_f_some {p : Int → Bool} {k : Nat} (h : mh_f p k ≠ -1) : 0 ≤ mh_f p k ∧ mh_f p k < k ∧ p (mh_f p k) = true ∧ ∀ r : Int, 0 ≤ r → r < mh_f p k → p r = false := by
  induction k with
  | zero => exact absurd rfl h
  | succ k ih =>
    simp only [mh_f] at h ⊢
    by_cases e : mh_f p k = -1
    · rw [if_pos e] at h ⊢
      by_cases d : p k = true
      · rw [if_pos d]
        exact ⟨by omega, by omega, d, mh_f_none.mp e⟩
      · rw [if_neg d] at h; exact absurd rfl h
    · rw [if_neg e]
      obtain ⟨a, b, c, d⟩ := ih e
      exact ⟨a, by omega, c, d⟩
theorem mh_f_eq {p : Int → Bool} {k n : Nat} (hk : k < n) (h0 : mh_f p k = -1) (hp : p k = true) : mh_f p n = k := by
  have hne : mh_f p n ≠ -1 := fun z => by have := mh_f_none.mp z k (by omega) (by omega); rw [hp] at this; cases this
  obtain ⟨a, b, c, d⟩ := mh_f_some hne
  rcases Int.lt_trichotomy (mh_f p n) k with z | z | z
  · have := mh_f_none.mp h0 _ a z; rw [c] at this; cases this
  · exact z
  · have := d k (by omega) z; rw [hp] at this; cases this
theorem mh_f_congr {p q : Int → Bool} {k : Nat} (h : ∀ r : Int, 0 ≤ r → r < k → p r = q r) : mh_f p k = mh_f q k := by
  induction k with
  | zero => rfl
  | succ k ih =>
    simp only [mh_f]
    rw [ih (fun r a b => h r a (by omega)), h k (by omega) (by omega)]
theorem mh_all_congr {p q : Int → Bool} {k : Nat} (h : ∀ r : Int, 0 ≤ r → r < k → p r = q r) : mh_all p k = mh_all q k := by
  induction k with
  | zero => rfl
  | succ k ih =>
    simp only [mh_all]
    rw [ih (fun r a b => h r a (by omega)), h k (by omega) (by omega)]
theorem uIsPair {σ : Mem} {r h : Int} (h1 : 0 ≤ r ∧ r < 6) (h2 : 0 ≤ h ∧ h < 6) : fX1_isPair_1 σ r h = some (zb (pB (rkC σ) (hkC σ) r h)) := by
  unfold fX1_isPair_1 zb pB
  simp only [rkC_eq h1.2, hkC_eq h2.2]
  rw [if_pos h1, if_pos h2]
  by_cases a : σ (4 + r.toNat) h = -1
  · rw [if_pos a]; simp [a]
  · rw [if_neg a, if_pos h2, if_pos h1]
    by_cases b : σ (13 + h.toNat) r = -1
    · rw [if_pos b]; simp [b]
    · rw [if_neg b]; simp [a, b]
/-- who would go: unseated, or it is listed before its own -/
def goB (rk : Int → Int → Int) (f : Int → Int) (r h : Int) : Bool := decide (f r = -1) || decide (rk r h < rk r (f r))
/-- a hospital would get: seats left, or one of its own is listed later -/
def getB (n : Nat) (hk : Int → Int → Int) (cp f : Int → Int) (h r : Int) : Bool := decide (mh_at n f h < cp h) || !(mh_all (fun o => !(decide (f o = h) && decide (hk h r < hk h o))) n)
def blkB (n : Nat) (rk hk : Int → Int → Int) (cp f : Int → Int) (r h : Int) : Bool := pB rk hk r h && (goB rk f r h && getB n hk cp f h r)
theorem blkB_iff {n : Nat} {rk hk : Int → Int → Int} {cp f : Int → Int} {r h : Int} : blkB n rk hk cp f r h = true ↔ mh_blk n rk hk cp f r h := by
  unfold blkB pB goB getB mh_blk mh_pr
  simp only [Bool.and_eq_true, Bool.or_eq_true, decide_eq_true_eq, Bool.not_eq_true']
  have : mh_all (fun o => !(decide (f o = h) && decide (hk h r < hk h o))) n = false ↔ ∃ o : Int, 0 ≤ o ∧ o < n ∧ f o = h ∧ hk h r < hk h o := by
    rw [← Bool.not_eq_true, mh_all_iff]
    constructor
    · intro z
      refine Classical.byContradiction fun w => z (fun o a b => ?_)
      by_cases c : f o = h
      · by_cases d : hk h r < hk h o
        · exact absurd ⟨o, a, b, c, d⟩ w
        · simp [d]
      · simp [c]
    · rintro ⟨o, a, b, c, d⟩ z
      have := z o a b
      simp [c, d] at this
  rw [this]
/-- the numbers of a search among pairs: the i-th that has B, by h, with those seen -/
def bpI (B : Int → Bool) (i : Int) : Nat → Int → Int → Sum Int Int
  | 0, _, s => .inr s
  | j + 1, k, s => if B k = true then (if s = i then .inl k else bpI B i j (k + 1) (s + 1)) else bpI B i j (k + 1) s
def bpO (B : Int → Int → Bool) (m : Nat) (i : Int) : Nat → Int → Int → Int
  | 0, _, _ => -1
  | j + 1, r, s => match bpI (B r) i m 0 s with
    | .inl h => 8 * r + h
    | .inr s' => bpO B m i j (r + 1) s'
theorem bpI_s {B : Int → Bool} {i : Int} : ∀ (j : Nat) (k s s' : Int), bpI B i j k s = .inr s' → s ≤ s' ∧ s' ≤ s + j := by
  intro j
  induction j with
  | zero => intro k s s' h; cases h; omega
  | succ j ih =>
    intro k s s' h
    simp only [bpI] at h
    split at h
    · split at h
      · cases h
      · have := ih _ _ _ h; omega
    · have := ih _ _ _ h; omega
theorem bpI_k {B : Int → Bool} {i : Int} : ∀ (j : Nat) (k s h' : Int), bpI B i j k s = .inl h' → k ≤ h' ∧ h' < k + j := by
  intro j
  induction j with
  | zero => intro k s s' h; cases h
  | succ j ih =>
    intro k s s' h
    simp only [bpI] at h
    split at h
    · split at h
      · cases h; omega
      · have := ih _ _ _ h; omega
    · have := ih _ _ _ h; omega
theorem mh_c_succ (p : Int → Bool) (k : Nat) : mh_c p (k + 1) = mh_c p k + (if p (k : Int) = true then 1 else 0) := rfl
theorem if_t {α : Type} {c : Prop} [Decidable c] (h : c) (x y : α) : (if c then x else y) = x := if_pos h

theorem uCountAt_22 {σ : Mem} {n : Nat} (hn : σ 1 3 = n) (h6 : n ≤ 6) (h : Int) : fX3_countAt_21 σ h = some (mh_at n (σ 22) h) := by
  have L : ∀ (ex : Int → Int → Option Int) (f k : Nat), k ≤ n → n < f + k → fX3_countAt_21_L4 σ h ex f (mh_c (fun r => decide (σ 22 r = h)) k) k = ex (mh_c (fun r => decide (σ 22 r = h)) n) n := by
    intro ex f
    induction f with
    | zero => intro k h1 h2; omega
    | succ f ih =>
      intro k h1 h2
      rw [fX3_countAt_21_L4]
      have hc0 := mh_c_0 (fun r => decide (σ 22 r = h)) k
      have hcl := mh_c_le (fun r => decide (σ 22 r = h)) k
      rcases Nat.lt_or_ge k n with hk | hk
      · have ih' := ih (k + 1) (by omega) (by omega)
        rw [mh_c_succ] at ih'
        rw [if_pos (by omega), if_pos (by omega)]
        by_cases e : σ 22 k = h
        · rw [if_pos e, if_pos ⟨by omega, by omega⟩, if_pos ⟨by omega, by omega⟩, ← ih']
          simp [e]
        · rw [if_neg e, if_pos ⟨by omega, by omega⟩, ← ih']
          simp [e]
      · have : k = n := by omega
        subst this
        rw [if_neg (by omega)]
  unfold fX3_countAt_21
  exact L _ FU 0 (by omega) (by unfold FU; omega)
theorem uWouldGo_22 {σ : Mem} {r h : Int} (h1 : 0 ≤ r ∧ r < 6) (h2 : 0 ≤ h ∧ h < 6) (h3 : σ 22 r = -1 ∨ (0 ≤ σ 22 r ∧ σ 22 r < 6)) : fX3_wouldGo_21 σ r h = some (zb (goB (rkC σ) (σ 22) r h)) := by
  unfold fX3_wouldGo_21 zb goB
  simp only [rkC_eq h1.2]
  rw [if_pos h1, if_pos h1]
  by_cases a : σ 22 r = -1
  · rw [if_pos a]; simp [a]
  · rw [if_neg a, if_pos h2, if_pos (h3.resolve_left a)]
    by_cases b : σ (4 + r.toNat) h < σ (4 + r.toNat) (σ 22 r)
    · rw [if_pos b]; simp [b]
    · rw [if_neg b]; simp [a, b]
theorem uWouldGet_22 {σ : Mem} {n : Nat} (hn : σ 1 3 = n) (h6 : n ≤ 6) {r h : Int} (h1 : 0 ≤ r ∧ r < 6) (h2 : 0 ≤ h ∧ h < 6) : fX3_wouldGet_21 σ h r = some (zb (getB n (hkC σ) (σ 20) (σ 22) h r)) := by
  have L : ∀ (f k : Nat), k ≤ n → n < f + k → mh_all (fun o => !(decide (σ 22 o = h) && decide (hkC σ h r < hkC σ h o))) k = true → fX3_wouldGet_21_L19 σ h r (fun v13 v14 => if (0 : Int) ≤ h ∧ (h : Int) < 6 then if v13 < (σ 20 h) then some 1 else some 0 else none) f (mh_c (fun r => decide (σ 22 r = h)) k) k = some (zb (getB n (hkC σ) (σ 20) (σ 22) h r)) := by
    intro f
    induction f with
    | zero => intro k h1 h2; omega
    | succ f ih =>
      intro k h1' h2' ha
      rw [fX3_wouldGet_21_L19]
      have hc0 := mh_c_0 (fun r => decide (σ 22 r = h)) k
      have hcl := mh_c_le (fun r => decide (σ 22 r = h)) k
      rcases Nat.lt_or_ge k n with hk | hk
      · have ih' := ih (k + 1) (by omega) (by omega)
        rw [mh_c_succ] at ih'
        simp only [mh_all, ha, Bool.true_and] at ih'
        rw [if_pos (by omega), if_pos (by omega)]
        by_cases e : σ 22 k = h
        · rw [if_pos e, if_pos ⟨by omega, by omega⟩, if_pos h1, if_pos (by omega)]
          by_cases d : σ (13 + h.toNat) r < σ (13 + h.toNat) k
          · rw [if_pos d]
            have : mh_all (fun o => !(decide (σ 22 o = h) && decide (hkC σ h r < hkC σ h o))) n = false := mh_all_mono (k := k + 1) (by omega) (by simp [mh_all, e, hkC_eq h2.2, d])
            unfold getB; rw [this]; simp [zb]
          · rw [if_neg d, if_pos ⟨by omega, by omega⟩]
            rw [← ih' (by simp [e, hkC_eq h2.2, d])]
            simp [e]
        · rw [if_neg e, if_pos ⟨by omega, by omega⟩]
          rw [← ih' (by simp [e])]
          simp [e]
      · have : k = n := by omega
        subst this
        rw [if_neg (by omega), if_pos h2]
        have ha' : mh_all (fun o => !(decide (σ 22 o = h) && decide (hkC σ h r < hkC σ h o))) k = true := ha
        unfold getB mh_at
        rw [ha']
        by_cases d : mh_c (fun r => decide (σ 22 r = h)) k < σ 20 h
        · rw [if_pos d]; simp [d, zb]
        · rw [if_neg d]; simp [d, zb]
  unfold fX3_wouldGet_21
  rw [if_pos h2]
  exact L FU 0 (by omega) (by unfold FU; omega) rfl
theorem uBlk_22 {σ : Mem} {n : Nat} (hn : σ 1 3 = n) (h6 : n ≤ 6) {r h : Int} (h1 : 0 ≤ r ∧ r < 6) (h2 : 0 ≤ h ∧ h < 6) (h3 : σ 22 r = -1 ∨ (0 ≤ σ 22 r ∧ σ 22 r < 6)) : fX3_isBlockedBy_21 σ r h = some (zb (blkB n (rkC σ) (hkC σ) (σ 20) (σ 22) r h)) := by
  unfold fX3_isBlockedBy_21 blkB
  rw [uIsPair h1 h2, Option.bind_some]
  cases pB (rkC σ) (hkC σ) r h with
  | false => simp [zb]
  | true =>
    rw [if_neg (by simp [zb]), uWouldGo_22 h1 h2 h3, Option.bind_some]
    cases goB (rkC σ) (σ 22) r h with
    | false => simp [zb]
    | true =>
      rw [if_neg (by simp [zb]), uWouldGet_22 hn h6 h1 h2, Option.bind_some]
      cases getB n (hkC σ) (σ 20) (σ 22) h r <;> simp [zb]
/-- told numbers: none, or a hospital -/
theorem uBpI_22 {σ : Mem} {n m : Nat} (hn : σ 1 3 = n) (h6 : n ≤ 6) (hm : σ 1 4 = m) (m6 : m ≤ 6) {r : Int} (h1 : 0 ≤ r ∧ r < 6) (h3 : σ 22 r = -1 ∨ (0 ≤ σ 22 r ∧ σ 22 r < 6)) (i : Int) (ex : Int → Int → Option Int) :
    ∀ (f j k : Nat) (s : Int), k + j = m → j < f → 0 ≤ s → s < 1000 - j → fX3_blockingPair_21_L18 σ i r ex f s k = match bpI (blkB n (rkC σ) (hkC σ) (σ 20) (σ 22) r) i j k s with | .inl h => some (8 * r + h) | .inr s' => ex s' m := by
  intro f
  induction f with
  | zero => intro j k s h1 h2; omega
  | succ f ih =>
    intro j k s hj hf s0 s1
    rw [fX3_blockingPair_21_L18]
    cases j with
    | zero =>
      have : k = m := by omega
      subst this
      rw [if_neg (by omega)]
      rfl
    | succ j =>
      rw [if_pos (by omega), uBlk_22 hn h6 h1 (by omega) h3, Option.bind_some]
      simp only [bpI]
      have ih0 := ih j (k + 1) s (by omega) (by omega) s0 (by omega)
      have ih1 := ih j (k + 1) (s + 1) (by omega) (by omega) (by omega) (by omega)
      rw [show ((k + 1 : Nat) : Int) = (k : Int) + 1 by omega] at ih0 ih1
      cases blkB n (rkC σ) (hkC σ) (σ 20) (σ 22) r k with
      | false =>
        rw [if_pos (by simp [zb]), if_pos ⟨by omega, by omega⟩, ih0]
        simp
      | true =>
        rw [if_neg (by simp [zb]), if_pos rfl]
        by_cases e : s = i
        · rw [if_pos e, if_pos ⟨by omega, by omega⟩, if_pos ⟨by omega, by omega⟩, if_pos e]
        · rw [if_neg e, if_pos ⟨by omega, by omega⟩, if_pos ⟨by omega, by omega⟩, ih1, if_neg e]
theorem uBlockingPair_22 {σ : Mem} {n m : Nat} (hn : σ 1 3 = n) (h6 : n ≤ 6) (hm : σ 1 4 = m) (m6 : m ≤ 6) (h3 : ∀ r : Int, 0 ≤ r → r < n → σ 22 r = -1 ∨ (0 ≤ σ 22 r ∧ σ 22 r < 6)) (i : Int) :
    fX3_blockingPair_21 σ i = some (bpO (blkB n (rkC σ) (hkC σ) (σ 20) (σ 22)) m i n 0 0) := by
  have L : ∀ (f j k : Nat) (s : Int), k + j = n → j < f → 0 ≤ s → s ≤ 6 * k → fX3_blockingPair_21_L4 σ i (fun v18 v19 => some (-1)) f s k = some (bpO (blkB n (rkC σ) (hkC σ) (σ 20) (σ 22)) m i j k s) := by
    intro f
    induction f with
    | zero => intro j k s h1 h2; omega
    | succ f ih =>
      intro j k s hj hf s0 s1
      rw [fX3_blockingPair_21_L4]
      cases j with
      | zero => rw [if_neg (by omega)]; rfl
      | succ j =>
        rw [if_pos (by omega)]
        have hI := uBpI_22 hn h6 hm m6 (r := k) (by omega) (h3 k (by omega) (by omega)) i (fun v14 v15 => if rng ((k : Int) + 1) then fX3_blockingPair_21_L4 σ i (fun v18 v19 => some (-1)) f v14 ((k : Int) + 1) else none) FU m 0 s (by omega) (by unfold FU; omega) s0 (by omega)
        rw [show ((0 : Nat) : Int) = 0 from rfl] at hI
        rw [hI]
        simp only [bpO]
        cases e : bpI (blkB n (rkC σ) (hkC σ) (σ 20) (σ 22) k) i m 0 s with
        | inl h => rfl
        | inr s' =>
          have := bpI_s _ _ _ _ e
          dsimp only
          rw [if_pos ⟨by omega, by omega⟩]
          have ih' := ih j (k + 1) s' (by omega) (by omega) (by omega) (by omega)
          rw [show ((k + 1 : Nat) : Int) = (k : Int) + 1 by omega] at ih'
          exact ih'
  unfold fX3_blockingPair_21
  exact L FU n 0 0 (by omega) (by unfold FU; omega) (by omega) (by omega)

theorem uCountAt_24 {σ : Mem} {n : Nat} (hn : σ 1 3 = n) (h6 : n ≤ 6) (h : Int) : fX3_countAt_23 σ h = some (mh_at n (σ 24) h) := by
  have L : ∀ (ex : Int → Int → Option Int) (f k : Nat), k ≤ n → n < f + k → fX3_countAt_23_L4 σ h ex f (mh_c (fun r => decide (σ 24 r = h)) k) k = ex (mh_c (fun r => decide (σ 24 r = h)) n) n := by
    intro ex f
    induction f with
    | zero => intro k h1 h2; omega
    | succ f ih =>
      intro k h1 h2
      rw [fX3_countAt_23_L4]
      have hc0 := mh_c_0 (fun r => decide (σ 24 r = h)) k
      have hcl := mh_c_le (fun r => decide (σ 24 r = h)) k
      rcases Nat.lt_or_ge k n with hk | hk
      · have ih' := ih (k + 1) (by omega) (by omega)
        rw [mh_c_succ] at ih'
        rw [if_pos (by omega), if_pos (by omega)]
        by_cases e : σ 24 k = h
        · rw [if_pos e, if_pos ⟨by omega, by omega⟩, if_pos ⟨by omega, by omega⟩, ← ih']
          simp [e]
        · rw [if_neg e, if_pos ⟨by omega, by omega⟩, ← ih']
          simp [e]
      · have : k = n := by omega
        subst this
        rw [if_neg (by omega)]
  unfold fX3_countAt_23
  exact L _ FU 0 (by omega) (by unfold FU; omega)
theorem uWouldGo_24 {σ : Mem} {r h : Int} (h1 : 0 ≤ r ∧ r < 6) (h2 : 0 ≤ h ∧ h < 6) (h3 : σ 24 r = -1 ∨ (0 ≤ σ 24 r ∧ σ 24 r < 6)) : fX3_wouldGo_23 σ r h = some (zb (goB (rkC σ) (σ 24) r h)) := by
  unfold fX3_wouldGo_23 zb goB
  simp only [rkC_eq h1.2]
  rw [if_pos h1, if_pos h1]
  by_cases a : σ 24 r = -1
  · rw [if_pos a]; simp [a]
  · rw [if_neg a, if_pos h2, if_pos (h3.resolve_left a)]
    by_cases b : σ (4 + r.toNat) h < σ (4 + r.toNat) (σ 24 r)
    · rw [if_pos b]; simp [b]
    · rw [if_neg b]; simp [a, b]
theorem uWouldGet_24 {σ : Mem} {n : Nat} (hn : σ 1 3 = n) (h6 : n ≤ 6) {r h : Int} (h1 : 0 ≤ r ∧ r < 6) (h2 : 0 ≤ h ∧ h < 6) : fX3_wouldGet_23 σ h r = some (zb (getB n (hkC σ) (σ 20) (σ 24) h r)) := by
  have L : ∀ (f k : Nat), k ≤ n → n < f + k → mh_all (fun o => !(decide (σ 24 o = h) && decide (hkC σ h r < hkC σ h o))) k = true → fX3_wouldGet_23_L19 σ h r (fun v13 v14 => if (0 : Int) ≤ h ∧ (h : Int) < 6 then if v13 < (σ 20 h) then some 1 else some 0 else none) f (mh_c (fun r => decide (σ 24 r = h)) k) k = some (zb (getB n (hkC σ) (σ 20) (σ 24) h r)) := by
    intro f
    induction f with
    | zero => intro k h1 h2; omega
    | succ f ih =>
      intro k h1' h2' ha
      rw [fX3_wouldGet_23_L19]
      have hc0 := mh_c_0 (fun r => decide (σ 24 r = h)) k
      have hcl := mh_c_le (fun r => decide (σ 24 r = h)) k
      rcases Nat.lt_or_ge k n with hk | hk
      · have ih' := ih (k + 1) (by omega) (by omega)
        rw [mh_c_succ] at ih'
        simp only [mh_all, ha, Bool.true_and] at ih'
        rw [if_pos (by omega), if_pos (by omega)]
        by_cases e : σ 24 k = h
        · rw [if_pos e, if_pos ⟨by omega, by omega⟩, if_pos h1, if_pos (by omega)]
          by_cases d : σ (13 + h.toNat) r < σ (13 + h.toNat) k
          · rw [if_pos d]
            have : mh_all (fun o => !(decide (σ 24 o = h) && decide (hkC σ h r < hkC σ h o))) n = false := mh_all_mono (k := k + 1) (by omega) (by simp [mh_all, e, hkC_eq h2.2, d])
            unfold getB; rw [this]; simp [zb]
          · rw [if_neg d, if_pos ⟨by omega, by omega⟩]
            rw [← ih' (by simp [e, hkC_eq h2.2, d])]
            simp [e]
        · rw [if_neg e, if_pos ⟨by omega, by omega⟩]
          rw [← ih' (by simp [e])]
          simp [e]
      · have : k = n := by omega
        subst this
        rw [if_neg (by omega), if_pos h2]
        have ha' : mh_all (fun o => !(decide (σ 24 o = h) && decide (hkC σ h r < hkC σ h o))) k = true := ha
        unfold getB mh_at
        rw [ha']
        by_cases d : mh_c (fun r => decide (σ 24 r = h)) k < σ 20 h
        · rw [if_pos d]; simp [d, zb]
        · rw [if_neg d]; simp [d, zb]
  unfold fX3_wouldGet_23
  rw [if_pos h2]
  exact L FU 0 (by omega) (by unfold FU; omega) rfl
theorem uBlk_24 {σ : Mem} {n : Nat} (hn : σ 1 3 = n) (h6 : n ≤ 6) {r h : Int} (h1 : 0 ≤ r ∧ r < 6) (h2 : 0 ≤ h ∧ h < 6) (h3 : σ 24 r = -1 ∨ (0 ≤ σ 24 r ∧ σ 24 r < 6)) : fX3_isBlockedBy_23 σ r h = some (zb (blkB n (rkC σ) (hkC σ) (σ 20) (σ 24) r h)) := by
  unfold fX3_isBlockedBy_23 blkB
  rw [uIsPair h1 h2, Option.bind_some]
  cases pB (rkC σ) (hkC σ) r h with
  | false => simp [zb]
  | true =>
    rw [if_neg (by simp [zb]), uWouldGo_24 h1 h2 h3, Option.bind_some]
    cases goB (rkC σ) (σ 24) r h with
    | false => simp [zb]
    | true =>
      rw [if_neg (by simp [zb]), uWouldGet_24 hn h6 h1 h2, Option.bind_some]
      cases getB n (hkC σ) (σ 20) (σ 24) h r <;> simp [zb]
/-- told numbers: none, or a hospital -/
theorem uBpI_24 {σ : Mem} {n m : Nat} (hn : σ 1 3 = n) (h6 : n ≤ 6) (hm : σ 1 4 = m) (m6 : m ≤ 6) {r : Int} (h1 : 0 ≤ r ∧ r < 6) (h3 : σ 24 r = -1 ∨ (0 ≤ σ 24 r ∧ σ 24 r < 6)) (i : Int) (ex : Int → Int → Option Int) :
    ∀ (f j k : Nat) (s : Int), k + j = m → j < f → 0 ≤ s → s < 1000 - j → fX3_blockingPair_23_L18 σ i r ex f s k = match bpI (blkB n (rkC σ) (hkC σ) (σ 20) (σ 24) r) i j k s with | .inl h => some (8 * r + h) | .inr s' => ex s' m := by
  intro f
  induction f with
  | zero => intro j k s h1 h2; omega
  | succ f ih =>
    intro j k s hj hf s0 s1
    rw [fX3_blockingPair_23_L18]
    cases j with
    | zero =>
      have : k = m := by omega
      subst this
      rw [if_neg (by omega)]
      rfl
    | succ j =>
      rw [if_pos (by omega), uBlk_24 hn h6 h1 (by omega) h3, Option.bind_some]
      simp only [bpI]
      have ih0 := ih j (k + 1) s (by omega) (by omega) s0 (by omega)
      have ih1 := ih j (k + 1) (s + 1) (by omega) (by omega) (by omega) (by omega)
      rw [show ((k + 1 : Nat) : Int) = (k : Int) + 1 by omega] at ih0 ih1
      cases blkB n (rkC σ) (hkC σ) (σ 20) (σ 24) r k with
      | false =>
        rw [if_pos (by simp [zb]), if_pos ⟨by omega, by omega⟩, ih0]
        simp
      | true =>
        rw [if_neg (by simp [zb]), if_pos rfl]
        by_cases e : s = i
        · rw [if_pos e, if_pos ⟨by omega, by omega⟩, if_pos ⟨by omega, by omega⟩, if_pos e]
        · rw [if_neg e, if_pos ⟨by omega, by omega⟩, if_pos ⟨by omega, by omega⟩, ih1, if_neg e]
theorem uBlockingPair_24 {σ : Mem} {n m : Nat} (hn : σ 1 3 = n) (h6 : n ≤ 6) (hm : σ 1 4 = m) (m6 : m ≤ 6) (h3 : ∀ r : Int, 0 ≤ r → r < n → σ 24 r = -1 ∨ (0 ≤ σ 24 r ∧ σ 24 r < 6)) (i : Int) :
    fX3_blockingPair_23 σ i = some (bpO (blkB n (rkC σ) (hkC σ) (σ 20) (σ 24)) m i n 0 0) := by
  have L : ∀ (f j k : Nat) (s : Int), k + j = n → j < f → 0 ≤ s → s ≤ 6 * k → fX3_blockingPair_23_L4 σ i (fun v18 v19 => some (-1)) f s k = some (bpO (blkB n (rkC σ) (hkC σ) (σ 20) (σ 24)) m i j k s) := by
    intro f
    induction f with
    | zero => intro j k s h1 h2; omega
    | succ f ih =>
      intro j k s hj hf s0 s1
      rw [fX3_blockingPair_23_L4]
      cases j with
      | zero => rw [if_neg (by omega)]; rfl
      | succ j =>
        rw [if_pos (by omega)]
        have hI := uBpI_24 hn h6 hm m6 (r := k) (by omega) (h3 k (by omega) (by omega)) i (fun v14 v15 => if rng ((k : Int) + 1) then fX3_blockingPair_23_L4 σ i (fun v18 v19 => some (-1)) f v14 ((k : Int) + 1) else none) FU m 0 s (by omega) (by unfold FU; omega) s0 (by omega)
        rw [show ((0 : Nat) : Int) = 0 from rfl] at hI
        rw [hI]
        simp only [bpO]
        cases e : bpI (blkB n (rkC σ) (hkC σ) (σ 20) (σ 24) k) i m 0 s with
        | inl h => rfl
        | inr s' =>
          have := bpI_s _ _ _ _ e
          dsimp only
          rw [if_pos ⟨by omega, by omega⟩]
          have ih' := ih j (k + 1) s' (by omega) (by omega) (by omega) (by omega)
          rw [show ((k + 1 : Nat) : Int) = (k : Int) + 1 by omega] at ih'
          exact ih'
  unfold fX3_blockingPair_23
  exact L FU n 0 0 (by omega) (by unfold FU; omega) (by omega) (by omega)

