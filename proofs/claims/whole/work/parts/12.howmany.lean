/-! PURE THEORY 3: how many rows there can be -/
def mh_up (f : Int → Int) (k x : Int) : Int → Int := fun j => if j = k then x else f j
def mh_pd (d : Int → Int) : Nat → Int
  | 0 => 1
  | k + 1 => mh_pd d k * d (k : Int)
theorem mh_pd_congr {d d' : Int → Int} {k : Nat} (h : ∀ r : Int, 0 ≤ r → r < k → d r = d' r) : mh_pd d k = mh_pd d' k := by
  induction k with
  | zero => rfl
  | succ k ih =>
    simp only [mh_pd]
    rw [ih (fun r a b => h r a (by omega)), h k (by omega) (by omega)]
theorem mh_pd_up {d : Int → Int} {k : Nat} {r x : Int} (r0 : 0 ≤ r) (r1 : r < k) : mh_pd (mh_up d r x) k = x * mh_pd (mh_up d r 1) k := by
  induction k with
  | zero => omega
  | succ k ih =>
    simp only [mh_pd]
    by_cases e : r = k
    · subst e
      have a1 : ∀ y, mh_pd (mh_up d k y) k = mh_pd d k := fun y => mh_pd_congr (fun q q0 q1 => by simp only [mh_up]; rw [if_neg (by omega)])
      rw [a1, a1]
      simp only [mh_up, if_true]
      rw [Int.mul_one, Int.mul_comm]
    · have a2 : ∀ y, mh_up d r y (k : Int) = d k := fun y => by simp only [mh_up]; rw [if_neg (fun z => e z.symm)]
      rw [ih (by omega), a2, a2, Int.mul_assoc]
theorem mh_up_swap {d : Int → Int} {r q x y : Int} (h : r ≠ q) : mh_up (mh_up d r x) q y = mh_up (mh_up d q y) r x := by
  funext j
  simp only [mh_up]
  by_cases e : j = q
  · subst e; simp [show ¬ j = r from fun z => h z.symm]
  · simp [e]
theorem mh_pd_up2 {d : Int → Int} {k : Nat} {r q x y : Int} (r0 : 0 ≤ r) (r1 : r < k) (q0 : 0 ≤ q) (q1 : q < k) (h : r ≠ q) : mh_pd (mh_up (mh_up d r x) q y) k = x * y * mh_pd (mh_up (mh_up d r 1) q 1) k := by
  rw [mh_pd_up q0 q1, mh_up_swap h, mh_pd_up r0 r1, mh_up_swap (fun z => h z.symm), ← Int.mul_assoc, Int.mul_comm y x]
theorem mh_pd_pos {d : Int → Int} {k : Nat} (h : ∀ r : Int, 0 ≤ r → r < k → 1 ≤ d r) : 1 ≤ mh_pd d k := by
  induction k with
  | zero => exact Int.le_refl _
  | succ k ih =>
    have a := ih (fun r a b => h r a (by omega))
    have b := h k (by omega) (by omega)
    simp only [mh_pd]
    have := Int.mul_le_mul a b (by omega) (by omega)
    omega
theorem mh_pd_le {d : Int → Int} {k : Nat} (h : ∀ r : Int, 0 ≤ r → r < k → 0 ≤ d r ∧ d r ≤ 6) : 0 ≤ mh_pd d k ∧ mh_pd d k ≤ ((6 ^ k : Nat) : Int) := by
  induction k with
  | zero => exact ⟨by simp [mh_pd], by simp [mh_pd]⟩
  | succ k ih =>
    have a := ih (fun r a b => h r a (by omega))
    have b := h k (by omega) (by omega)
    simp only [mh_pd]
    refine ⟨Int.mul_nonneg a.1 b.1, ?_⟩
    have := Int.mul_le_mul a.2 b.2 b.1 (by omega)
    rw [Nat.pow_succ]
    push_cast
    push_cast at this
    exact this
theorem mh_sq {x y A B p : Int} (x0 : 0 ≤ x) (y0 : 0 ≤ y) (A0 : 0 ≤ A) (B0 : 0 ≤ B) (p0 : 0 ≤ p) (hx : x * x ≤ A * B * p) (hy : y * y ≤ p) : (x + y) * (x + y) ≤ (A + 1) * (B + 1) * p := by
  have key : 2 * (x * y) ≤ (A + B) * p := by
    rcases Int.lt_or_le ((A + B) * p) (2 * (x * y)) with c | c
    · exfalso
      have v0 : 0 ≤ (A + B) * p := Int.mul_nonneg (by omega) p0
      have c1 : 0 < (2 * (x * y) - (A + B) * p) * (2 * (x * y) + (A + B) * p) := Int.mul_pos (by omega) (by omega)
      have c2 : (2 * (x * y) - (A + B) * p) * (2 * (x * y) + (A + B) * p) = 4 * ((x * x) * (y * y)) - (A + B) * (A + B) * (p * p) := by grind
      have c3 : (x * x) * (y * y) ≤ (A * B * p) * p := Int.mul_le_mul hx hy (Int.mul_nonneg y0 y0) (Int.mul_nonneg (Int.mul_nonneg A0 B0) p0)
      have c4 : 0 ≤ (A - B) * (A - B) := by
        rcases Int.le_total B A with z | z
        · exact Int.mul_nonneg (by omega) (by omega)
        · exact Int.mul_nonneg_of_nonpos_of_nonpos (by omega) (by omega)
      have c5 : 0 ≤ ((A - B) * (A - B)) * (p * p) := Int.mul_nonneg c4 (Int.mul_nonneg p0 p0)
      have c6 : (A + B) * (A + B) * (p * p) - 4 * ((A * B * p) * p) = ((A - B) * (A - B)) * (p * p) := by grind
      omega
    · exact c
  have e1 : (x + y) * (x + y) = x * x + 2 * (x * y) + y * y := by grind
  have e2 : (A + 1) * (B + 1) * p = A * B * p + (A + B) * p + p := by grind
  omega
section MHN
variable {n K : Nat} {P : Int → Int → Int}
def mh_two (n K : Nat) (P : Int → Int → Int) : Prop := ∀ i j : Int, 0 ≤ i → i < K → 0 ≤ j → j < K → i ≠ j → ∃ r q : Int, 0 ≤ r ∧ r < n ∧ 0 ≤ q ∧ q < n ∧ r ≠ q ∧ P i r ≠ P j r ∧ P i q ≠ P j q
theorem mh_cnt (L : mh_lat n K P) (two : mh_two n K P) : ∀ (c : Nat) (T : Int → Bool) (lo hi : Int → Int), mh_c T K = c → (∀ i : Int, T i = true → 0 ≤ i → i < K → ∀ r : Int, 0 ≤ r → r < n → lo r ≤ P i r ∧ P i r ≤ hi r) → (∀ r : Int, 0 ≤ r → r < n → lo r ≤ hi r) →
    (∀ i j k : Int, 0 ≤ i → i < K → 0 ≤ j → j < K → 0 ≤ k → k < K → T i = true → T j = true → (∀ r : Int, 0 ≤ r → r < n → P k r = max (P i r) (P j r)) → T k = true) → (c : Int) * c ≤ mh_pd (fun r => hi r - lo r + 1) n := by
  intro c
  induction c using Nat.strongRecOn with
  | _ c ih =>
    intro T lo hi hc hb hlh hcl
    have pos : 1 ≤ mh_pd (fun r => hi r - lo r + 1) n := mh_pd_pos (fun r r0 r1 => by have := hlh r r0 r1; omega)
    rcases Nat.lt_or_ge c 2 with c2 | c2
    · have : c = 0 ∨ c = 1 := by omega
      rcases this with e | e
      · subst e; simp; omega
      · subst e; simpa using pos
    · obtain ⟨x0, x00, x01, x02⟩ := mh_c_ex (p := T) (k := K) (by omega)
      obtain ⟨t, t0, t1, tT, tmax⟩ := mh_max (K := K) (T := fun x => T x = true) x00 x01 x02
      have h1 : mh_c T K = mh_c (fun x => T x && decide (x ≠ t)) K + mh_c (fun x => decide (x = t)) K := mh_c_add (fun x _ _ => by
        by_cases e : x = t
        · subst e; simp [tT]
        · simp [e])
      have h2 : mh_c (fun x => decide (x = t)) K ≤ 1 := by
        clear h1 hc ih hb hcl tmax
        have : ∀ k : Nat, mh_c (fun x => decide (x = t)) k = if (t < k) ∧ 0 ≤ t then 1 else 0 := fun k => by
          induction k with
          | zero => simp only [mh_c]; rw [if_neg (by omega)]
          | succ k ihk =>
            simp only [mh_c, ihk, decide_eq_true_eq]
            (repeat' split) <;> omega
        rw [this]; split <;> omega
      obtain ⟨x1, x10, x11, x12⟩ := mh_c_ex (p := fun x => T x && decide (x ≠ t)) (k := K) (by omega)
      obtain ⟨y, y0, y1, yT, ymax⟩ := mh_max (K := K) (T := fun x => (T x && decide (x ≠ t)) = true) x10 x11 x12
      simp only [Bool.and_eq_true, decide_eq_true_eq] at yT ymax
      have top : ∀ x : Int, 0 ≤ x → x < K → T x = true → mh_le n P x t := fun x a b hx => by
        obtain ⟨k, k0, k1, hk⟩ := L.2.1 x t a b t0 t1
        have kT := hcl x t k a b t0 t1 k0 k1 hx tT hk
        have e1 := tmax k k0 k1 kT
        have e2 := mh_le_ix L t0 t1 k0 k1 (fun r r0 r1 => by have := hk r r0 r1; omega)
        have e3 : k = t := by omega
        subst e3
        exact fun r r0 r1 => by have := hk r r0 r1; omega
      have yt := top y y0 y1 yT.1
      obtain ⟨r, q, r0, r1, q0, q1, rq, nr, nq⟩ := two y t y0 y1 t0 t1 yT.2
      have yr := yt r r0 r1
      have yq := yt q q0 q1
      have side : ∀ x : Int, 0 ≤ x → x < K → T x = true → (mh_le n P x y ∨ ∀ w : Int, 0 ≤ w → w < n → max (P x w) (P y w) = P t w) := fun x a b hx => by
        by_cases e : x = t
        · subst e; exact Or.inr (fun w w0 w1 => by have := yt w w0 w1; omega)
        · obtain ⟨k, k0, k1, hk⟩ := L.2.1 x y a b y0 y1
          have kT := hcl x y k a b y0 y1 k0 k1 hx yT.1 hk
          by_cases e2 : k = t
          · subst e2; exact Or.inr (fun w w0 w1 => (hk w w0 w1).symm)
          · have e3 := ymax k k0 k1 ⟨kT, e2⟩
            have e4 := mh_le_ix L y0 y1 k0 k1 (fun r r0 r1 => by have := hk r r0 r1; omega)
            have e5 : k = y := by omega
            subst e5
            exact Or.inl (fun w w0 w1 => by have := hk w w0 w1; omega)
      have hsum : mh_c T K = mh_c (fun x => T x && decide (P x r ≠ P t r)) K + mh_c (fun x => T x && decide (P x r = P t r)) K := mh_c_add (fun x _ _ => by
        by_cases e : P x r = P t r <;> cases T x <;> simp [e])
      have p1 : 0 < mh_c (fun x => T x && decide (P x r ≠ P t r)) K := mh_c_pos y0 y1 (by simp [yT.1, nr])
      have p2 : 0 < mh_c (fun x => T x && decide (P x r = P t r)) K := mh_c_pos t0 t1 (by simp [tT])
      obtain ⟨c1, hc1⟩ := Int.eq_ofNat_of_zero_le (Int.le_of_lt p1)
      obtain ⟨c3, hc3⟩ := Int.eq_ofNat_of_zero_le (Int.le_of_lt p2)
      have ty := hb y yT.1 y0 y1
      have tb := hb t tT t0 t1
      have i1 := ih c1 (by omega) (fun x => T x && decide (P x r ≠ P t r)) lo (mh_up (mh_up hi r (hi r - 1)) q (hi q - 1)) hc1
        (fun x hx a b w w0 w1 => by
          simp only [Bool.and_eq_true, decide_eq_true_eq] at hx
          have := hb x hx.1 a b w w0 w1
          have lxy : mh_le n P x y := by
            rcases side x a b hx.1 with z | z
            · exact z
            · have := z r r0 r1; omega
          have l1 := lxy r r0 r1
          have l2 := lxy q q0 q1
          have b1 := tb r r0 r1
          have b2 := tb q q0 q1
          simp only [mh_up]
          split
          · subst_vars; omega
          · split
            · subst_vars; omega
            · exact this)
        (fun w w0 w1 => by
          have a1 := ty r r0 r1
          have a2 := ty q q0 q1
          have b1 := tb r r0 r1
          have b2 := tb q q0 q1
          have := hlh w w0 w1
          simp only [mh_up]
          split
          · subst_vars; omega
          · split
            · subst_vars; omega
            · exact this)
        (fun i j k a1 a2 a3 a4 a5 a6 hi' hj' hk => by
          simp only [Bool.and_eq_true, decide_eq_true_eq] at hi' hj' ⊢
          refine ⟨hcl i j k a1 a2 a3 a4 a5 a6 hi'.1 hj'.1 hk, ?_⟩
          have := hk r r0 r1
          omega)
      have i2 := ih c3 (by omega) (fun x => T x && decide (P x r = P t r)) (mh_up (mh_up lo r (P t r)) q (P t q)) (mh_up (mh_up hi r (P t r)) q (P t q)) hc3
        (fun x hx a b w w0 w1 => by
          simp only [Bool.and_eq_true, decide_eq_true_eq] at hx
          have := hb x hx.1 a b w w0 w1
          have e2 : P x q = P t q := by
            rcases side x a b hx.1 with z | z
            · have := z r r0 r1; omega
            · have := z q q0 q1; omega
          simp only [mh_up]
          by_cases wq : w = q
          · subst wq; simp; omega
          · by_cases wr : w = r
            · subst wr; simp [wq]; omega
            · simp [wq, wr]; exact this)
        (fun w w0 w1 => by
          have := hlh w w0 w1
          simp only [mh_up]
          split
          · omega
          · split
            · omega
            · exact this)
        (fun i j k a1 a2 a3 a4 a5 a6 hi' hj' hk => by
          simp only [Bool.and_eq_true, decide_eq_true_eq] at hi' hj' ⊢
          refine ⟨hcl i j k a1 a2 a3 a4 a5 a6 hi'.1 hj'.1 hk, ?_⟩
          have := hk r r0 r1
          omega)
      have w1 : mh_pd (fun w => mh_up (mh_up hi r (hi r - 1)) q (hi q - 1) w - lo w + 1) n = (hi r - lo r) * (hi q - lo q) * mh_pd (mh_up (mh_up (fun w => hi w - lo w + 1) r 1) q 1) n := by
        rw [← mh_pd_up2 r0 r1 q0 q1 rq]
        refine mh_pd_congr (fun w _ _ => ?_)
        simp only [mh_up]
        by_cases wq : w = q
        · subst wq; simp; omega
        · by_cases wr : w = r
          · subst wr; simp [wq]; omega
          · simp [wq, wr]
      have w2 : mh_pd (fun w => mh_up (mh_up hi r (P t r)) q (P t q) w - mh_up (mh_up lo r (P t r)) q (P t q) w + 1) n = mh_pd (mh_up (mh_up (fun w => hi w - lo w + 1) r 1) q 1) n := by
        refine mh_pd_congr (fun w _ _ => ?_)
        simp only [mh_up]
        by_cases wq : w = q
        · subst wq; simp
        · by_cases wr : w = r
          · subst wr; simp [wq]
          · simp [wq, wr]
      have w3 : mh_pd (fun w => hi w - lo w + 1) n = (hi r - lo r + 1) * (hi q - lo q + 1) * mh_pd (mh_up (mh_up (fun w => hi w - lo w + 1) r 1) q 1) n := by
        rw [← mh_pd_up2 r0 r1 q0 q1 rq]
        refine mh_pd_congr (fun w _ _ => ?_)
        simp only [mh_up]
        by_cases wq : w = q
        · subst wq; simp
        · by_cases wr : w = r
          · subst wr; simp [wq]
          · simp [wq, wr]
      rw [w1] at i1
      rw [w2] at i2
      rw [w3]
      have p0 : 0 ≤ mh_pd (mh_up (mh_up (fun w => hi w - lo w + 1) r 1) q 1) n := by
        have := Int.mul_nonneg (show (0 : Int) ≤ c3 by omega) (show (0 : Int) ≤ c3 by omega)
        omega
      have b1 := hlh r r0 r1
      have b2 := hlh q q0 q1
      have := mh_sq (x := c1) (y := c3) (A := hi r - lo r) (B := hi q - lo q) (by omega) (by omega) (by omega) (by omega) p0 i1 i2
      have e : (c : Int) = c1 + c3 := by omega
      rw [e]
      exact this
theorem mh_c_all (K : Nat) : mh_c (fun _ => true) K = K := by
  induction K with
  | zero => rfl
  | succ k ih => simp only [mh_c, ih, if_true]; omega
/-- six places each, six residents: not more than 216 -/
theorem mh_216 (L : mh_lat n K P) (two : mh_two n K P) (hn : n ≤ 6) (hw : ∀ r : Int, 0 ≤ r → r < n → ∃ lo hi : Int, lo ≤ hi ∧ hi ≤ lo + 5 ∧ ∀ i : Int, 0 ≤ i → i < K → lo ≤ P i r ∧ P i r ≤ hi) : K ≤ 216 := by
  obtain ⟨lo, hlo⟩ : ∃ lo : Int → Int, ∀ r : Int, 0 ≤ r → r < n → ∃ hi : Int, lo r ≤ hi ∧ hi ≤ lo r + 5 ∧ ∀ i : Int, 0 ≤ i → i < K → lo r ≤ P i r ∧ P i r ≤ hi := by
    refine ⟨fun r => Classical.epsilon (fun lo => ∃ hi : Int, lo ≤ hi ∧ hi ≤ lo + 5 ∧ ∀ i : Int, 0 ≤ i → i < K → lo ≤ P i r ∧ P i r ≤ hi), fun r r0 r1 => ?_⟩
    exact Classical.epsilon_spec (p := fun lo => ∃ hi : Int, lo ≤ hi ∧ hi ≤ lo + 5 ∧ ∀ i : Int, 0 ≤ i → i < K → lo ≤ P i r ∧ P i r ≤ hi) (hw r r0 r1)
  have h := mh_cnt L two K (fun _ => true) lo (fun r => lo r + 5) (mh_c_all K)
    (fun i _ i0 i1 r r0 r1 => by obtain ⟨hi, a, b, c⟩ := hlo r r0 r1; have := c i i0 i1; omega) (fun r _ _ => by omega) (fun _ _ _ _ _ _ _ _ _ _ _ _ => rfl)
  have h2 := (mh_pd_le (d := fun r => lo r + 5 - lo r + 1) (k := n) (fun r _ _ => by omega)).2
  have h3 : (6 : Nat) ^ n ≤ 6 ^ 6 := Nat.pow_le_pow_right (by decide) hn
  rcases Nat.lt_or_ge 216 K with c | c
  · exfalso
    have := Nat.mul_le_mul c c
    have h4 : ((K * K : Nat) : Int) ≤ ((6 ^ n : Nat) : Int) := by rw [Int.natCast_mul]; exact Int.le_trans h h2
    have h5 : K * K ≤ 6 ^ n := Int.ofNat_le.mp h4
    have h6 : (6 : Nat) ^ 6 = 46656 := by decide
    omega
  · exact c
end MHN
