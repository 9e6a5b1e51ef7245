/-! PURE THEORY 1: counting; two stable matchings (the same residents, the same numbers); better and worse of two -/
def mh_c (p : Int → Bool) : Nat → Int
  | 0 => 0
  | k + 1 => mh_c p k + (if p (k : Int) = true then 1 else 0)
theorem mh_c_congr {p q : Int → Bool} {k : Nat} (h : ∀ r : Int, 0 ≤ r → r < k → p r = q r) : mh_c p k = mh_c q k := by
  induction k with
  | zero => rfl
  | succ k ih =>
    have h1 := ih (fun r a b => h r a (by omega))
    have h2 := h k (by omega) (by omega)
    simp only [mh_c, h1, h2]
theorem mh_c_add {p q s : Int → Bool} {k : Nat} (h : ∀ r : Int, 0 ≤ r → r < k → (if s r = true then (1 : Int) else 0) = (if p r = true then 1 else 0) + (if q r = true then 1 else 0)) : mh_c s k = mh_c p k + mh_c q k := by
  induction k with
  | zero => rfl
  | succ k ih =>
    have h1 := ih (fun r a b => h r a (by omega))
    have h2 := h k (by omega) (by omega)
    simp only [mh_c]
    omega
theorem mh_c_mono {p q : Int → Bool} {k : Nat} (h : ∀ r : Int, 0 ≤ r → r < k → p r = true → q r = true) : mh_c p k ≤ mh_c q k := by
  induction k with
  | zero => exact Int.le_refl _
  | succ k ih =>
    have h1 := ih (fun r a b => h r a (by omega))
    have h2 := h k (by omega) (by omega)
    simp only [mh_c]
    by_cases hp : p k = true
    · rw [if_pos hp, if_pos (h2 hp)]; omega
    · rw [if_neg hp]; split <;> omega
theorem mh_c_0 (p : Int → Bool) (k : Nat) : 0 ≤ mh_c p k := by
  induction k with
  | zero => exact Int.le_refl _
  | succ k ih => simp only [mh_c]; split <;> omega
theorem mh_c_le (p : Int → Bool) (k : Nat) : mh_c p k ≤ k := by
  induction k with
  | zero => exact Int.le_refl _
  | succ k ih => simp only [mh_c]; split <;> omega
theorem mh_c_pos {p : Int → Bool} {k : Nat} {r : Int} (h0 : 0 ≤ r) (h1 : r < k) (hp : p r = true) : 0 < mh_c p k := by
  induction k with
  | zero => omega
  | succ k ih =>
    simp only [mh_c]
    have := mh_c_0 p k
    by_cases e : r = k
    · subst e; rw [if_pos hp]; omega
    · have := ih (by omega)
      split <;> omega
theorem mh_c_ex {p : Int → Bool} {k : Nat} (h : 0 < mh_c p k) : ∃ r : Int, 0 ≤ r ∧ r < k ∧ p r = true := by
  induction k with
  | zero => simp [mh_c] at h
  | succ k ih =>
    by_cases e : p k = true
    · exact ⟨k, by omega, by omega, e⟩
    · simp only [mh_c, if_neg e] at h
      obtain ⟨r, a, b, d⟩ := ih (by omega)
      exact ⟨r, a, by omega, d⟩
theorem mh_c_none {p : Int → Bool} {k : Nat} (h : mh_c p k = 0) {r : Int} (h0 : 0 ≤ r) (h1 : r < k) : p r = false := by
  cases e : p r with
  | false => rfl
  | true => have := mh_c_pos h0 h1 e; omega
theorem mh_c_zero {p : Int → Bool} {k : Nat} (h : ∀ r : Int, 0 ≤ r → r < k → p r = false) : mh_c p k = 0 := by
  have h0 := mh_c_0 p k
  rcases Int.lt_or_le 0 (mh_c p k) with e | e
  · obtain ⟨r, a, b, d⟩ := mh_c_ex e
    rw [h r a b] at d; cases d
  · omega
/-- p within q, and as many: the same -/
theorem mh_c_tight {p q : Int → Bool} {k : Nat} (h : ∀ r : Int, 0 ≤ r → r < k → p r = true → q r = true) (he : mh_c q k ≤ mh_c p k) {r : Int} (h0 : 0 ≤ r) (h1 : r < k) (hq : q r = true) : p r = true := by
  have e : mh_c q k = mh_c p k + mh_c (fun x => q x && !p x) k := mh_c_add (fun x a b => by
    have := h x a b
    cases hp : p x <;> cases hq : q x <;> simp_all)
  have z : mh_c (fun x => q x && !p x) k = 0 := by have := mh_c_0 (fun x => q x && !p x) k; omega
  have := mh_c_none z h0 h1
  cases hp : p r <;> simp_all
def mh_s (a : Int → Int) : Nat → Int
  | 0 => 0
  | k + 1 => mh_s a k + a (k : Int)
theorem mh_s_c (p : Int → Bool) (f : Int → Int) (n M : Nat) : mh_s (fun h => mh_c (fun r => p r && decide (f r = h)) n) M = mh_c (fun r => p r && (decide (0 ≤ f r) && decide (f r < (M : Int)))) n := by
  induction M with
  | zero =>
    refine (mh_c_zero (fun r _ _ => ?_)).symm
    cases p r <;> simp
  | succ M ih =>
    simp only [mh_s]; rw [ih]
    refine (mh_c_add (fun r _ _ => ?_)).symm
    cases p r <;> simp <;> (repeat' split) <;> omega
theorem mh_s_tight {a b : Int → Int} {k : Nat} (h : ∀ x : Int, 0 ≤ x → x < k → a x ≤ b x) : mh_s a k ≤ mh_s b k ∧ (mh_s b k ≤ mh_s a k → ∀ x : Int, 0 ≤ x → x < k → a x = b x) := by
  induction k with
  | zero => exact ⟨Int.le_refl _, fun _ x a b => by omega⟩
  | succ k ih =>
    obtain ⟨i1, i2⟩ := ih (fun x a b => h x a (by omega))
    have hk := h k (by omega) (by omega)
    simp only [mh_s]
    refine ⟨by omega, fun e x x0 x1 => ?_⟩
    by_cases d : x = k
    · subst d; omega
    · exact i2 (by omega) x x0 (by omega)
/-! ranks: rk r h, hk h r are places, -1 where not listed; cp seats; n residents, m hospitals -/
def mh_pr (rk hk : Int → Int → Int) (r h : Int) : Prop := rk r h ≠ -1 ∧ hk h r ≠ -1
def mh_at (n : Nat) (f : Int → Int) (h : Int) : Int := mh_c (fun r => decide (f r = h)) n
def mh_mat (n m : Nat) (rk hk : Int → Int → Int) (cp : Int → Int) (f : Int → Int) : Prop :=
  (∀ r : Int, 0 ≤ r → r < n → f r = -1 ∨ (0 ≤ f r ∧ f r < m ∧ mh_pr rk hk r (f r))) ∧ ∀ h : Int, 0 ≤ h → h < m → mh_at n f h ≤ cp h
def mh_blk (n : Nat) (rk hk : Int → Int → Int) (cp : Int → Int) (f : Int → Int) (r h : Int) : Prop :=
  mh_pr rk hk r h ∧ (f r = -1 ∨ rk r h < rk r (f r)) ∧ (mh_at n f h < cp h ∨ ∃ o : Int, 0 ≤ o ∧ o < n ∧ f o = h ∧ hk h r < hk h o)
def mh_stb (n m : Nat) (rk hk : Int → Int → Int) (cp : Int → Int) (f : Int → Int) : Prop :=
  mh_mat n m rk hk cp f ∧ ∀ r h : Int, 0 ≤ r → r < n → 0 ≤ h → h < m → ¬ mh_blk n rk hk cp f r h
/-- the lists hold each one once -/
def mh_inj (n m : Nat) (rk hk : Int → Int → Int) : Prop :=
  (∀ r h h' : Int, 0 ≤ r → r < n → 0 ≤ h → h < m → 0 ≤ h' → h' < m → rk r h ≠ -1 → rk r h = rk r h' → h = h') ∧
  (∀ h r r' : Int, 0 ≤ h → h < m → 0 ≤ r → r < n → 0 ≤ r' → r' < n → hk h r ≠ -1 → hk h r = hk h r' → r = r')
/-- r has by f a better one than by g -/
def mh_F (rk : Int → Int → Int) (f g : Int → Int) (r : Int) : Bool := decide (f r ≠ -1 ∧ (g r = -1 ∨ rk r (f r) < rk r (g r)))
section MHT
variable {n m : Nat} {rk hk : Int → Int → Int} {cp f g : Int → Int}
theorem mh_tri (hi : mh_inj n m rk hk) (hf : mh_mat n m rk hk cp f) (hg : mh_mat n m rk hk cp g) {r : Int} (h0 : 0 ≤ r) (h1 : r < n) : f r = g r ∨ mh_F rk f g r = true ∨ mh_F rk g f r = true := by
  have a := hf.1 r h0 h1
  have b := hg.1 r h0 h1
  by_cases e : f r = g r
  · exact Or.inl e
  · refine Or.inr ?_
    simp only [mh_F, decide_eq_true_eq]
    rcases a with a | ⟨a1, a2, a3, a4⟩
    · right; omega
    · rcases b with b | ⟨b1, b2, b3, b4⟩
      · left; omega
      · have := hi.1 r (f r) (g r) h0 h1 a1 a2 b1 b2 a3
        rcases Int.lt_trichotomy (rk r (f r)) (rk r (g r)) with c | c | c
        · left; exact ⟨by omega, Or.inr c⟩
        · exact absurd (this c) e
        · right; exact ⟨by omega, Or.inr c⟩
theorem mh_F_ne {r : Int} (h : mh_F rk f g r = true) : f r ≠ g r := by
  simp only [mh_F, decide_eq_true_eq] at h
  intro e
  rcases h.2 with a | a
  · omega
  · rw [e] at a; omega
theorem mh_F_asym {r : Int} (h : mh_F rk f g r = true) : mh_F rk g f r = false := by
  simp only [mh_F, decide_eq_true_eq] at h
  simp only [mh_F, decide_eq_false_iff_not]
  omega
/-- who has by f a better one: its hospital is full by g, with better ones -/
theorem mh_lemA (hi : mh_inj n m rk hk) (hf : mh_mat n m rk hk cp f) (hg : mh_stb n m rk hk cp g) {r : Int} (h0 : 0 ≤ r) (h1 : r < n) (hF : mh_F rk f g r = true) :
    cp (f r) ≤ mh_at n g (f r) ∧ ∀ o : Int, 0 ≤ o → o < n → g o = f r → hk (f r) o < hk (f r) r := by
  have hne := mh_F_ne hF
  simp only [mh_F, decide_eq_true_eq] at hF
  rcases hf.1 r h0 h1 with a | ⟨a1, a2, a3⟩
  · exact absurd a hF.1
  · have nb := hg.2 r (f r) h0 h1 a1 a2
    have nb2 : ¬ (mh_at n g (f r) < cp (f r) ∨ ∃ o : Int, 0 ≤ o ∧ o < n ∧ g o = f r ∧ hk (f r) r < hk (f r) o) := fun z => nb ⟨a3, hF.2, z⟩
    refine ⟨by rcases Int.lt_or_le (mh_at n g (f r)) (cp (f r)) with z | z; exact absurd (Or.inl z) nb2; exact z, fun o o0 o1 e => ?_⟩
    rcases Int.lt_trichotomy (hk (f r) o) (hk (f r) r) with c | c | c
    · exact c
    · have := hi.2 (f r) o r a1 a2 o0 o1 h0 h1 (by rw [c]; exact a3.2) c
      subst this
      exact absurd e.symm hne
    · exact absurd (Or.inr ⟨o, o0, o1, e, c⟩) nb2
/-- a hospital isn't left for better ones by one and taken as a better one by another -/
theorem mh_lemB (hi : mh_inj n m rk hk) (hf : mh_stb n m rk hk cp f) (hg : mh_stb n m rk hk cp g) {r o : Int} (h0 : 0 ≤ r) (h1 : r < n) (o0 : 0 ≤ o) (o1 : o < n) (hF : mh_F rk f g r = true) (hG : mh_F rk g f o = true) (e : g o = f r) : False := by
  have a := (mh_lemA hi hf.1 hg h0 h1 hF).2 o o0 o1 e
  have b := (mh_lemA hi hg.1 hf o0 o1 hG).2 r h0 h1 e.symm
  rw [e] at b
  omega
def mh_in (n : Nat) (rk : Int → Int → Int) (f g : Int → Int) (h : Int) : Int := mh_c (fun r => mh_F rk f g r && decide (f r = h)) n
def mh_out (n : Nat) (rk : Int → Int → Int) (f g : Int → Int) (h : Int) : Int := mh_c (fun r => mh_F rk f g r && decide (g r = h)) n
theorem mh_in_le (hi : mh_inj n m rk hk) (hf : mh_stb n m rk hk cp f) (hg : mh_stb n m rk hk cp g) {h : Int} (h0 : 0 ≤ h) (h1 : h < m) : mh_in n rk f g h ≤ mh_out n rk f g h := by
  rcases Int.lt_or_le 0 (mh_in n rk f g h) with c | c
  · obtain ⟨r, r0, r1, hr⟩ := mh_c_ex c
    simp only [Bool.and_eq_true, decide_eq_true_eq] at hr
    obtain ⟨hF, e⟩ := hr
    have a := (mh_lemA hi hf.1 hg r0 r1 hF).1
    rw [e] at a
    have b := hf.1.2 h h0 h1
    have d1 : mh_c (fun r => decide (f r = h) && (decide (g r = h) || mh_F rk f g r)) n = mh_c (fun r => decide (f r = h) && decide (g r = h)) n + mh_in n rk f g h := mh_c_add (fun x _ _ => by
      have := @mh_F_ne rk f g x
      by_cases e1 : f x = h <;> by_cases e2 : g x = h <;> cases e3 : mh_F rk f g x <;> simp_all)
    have d2 : mh_c (fun r => decide (f r = h) && (decide (g r = h) || mh_F rk f g r)) n ≤ mh_at n f h := mh_c_mono (fun x _ _ z => by simp_all)
    have d3 : mh_at n g h = mh_c (fun r => decide (f r = h) && decide (g r = h)) n + mh_out n rk f g h := mh_c_add (fun x x0 x1 => by
      by_cases e2 : g x = h
      · by_cases e1 : f x = h
        · have : mh_F rk f g x = false := by cases e3 : mh_F rk f g x with | false => rfl | true => exact absurd (e1.trans e2.symm) (mh_F_ne e3)
          simp [e1, e2, this]
        · have : mh_F rk f g x = true := by
            rcases mh_tri hi hf.1 hg.1 x0 x1 with z | z | z
            · omega
            · exact z
            · exact absurd (mh_lemB hi hf hg r0 r1 x0 x1 hF z (e2.trans e.symm)) id
          simp [e1, e2, this]
      · simp [e2])
    omega
  · have := mh_c_0 (fun r => mh_F rk f g r && decide (g r = h)) n
    have : 0 ≤ mh_out n rk f g h := this
    omega
theorem mh_move (hi : mh_inj n m rk hk) (hf : mh_stb n m rk hk cp f) (hg : mh_stb n m rk hk cp g) :
    (∀ h : Int, 0 ≤ h → h < m → mh_in n rk f g h = mh_out n rk f g h) ∧ ∀ r : Int, 0 ≤ r → r < n → mh_F rk f g r = true → g r ≠ -1 := by
  have t := mh_s_tight (a := mh_in n rk f g) (b := mh_out n rk f g) (k := m) (fun h h0 h1 => mh_in_le hi hf hg h0 h1)
  have si : mh_s (mh_in n rk f g) m = mh_c (fun r => mh_F rk f g r && (decide (0 ≤ f r) && decide (f r < (m : Int)))) n := mh_s_c (mh_F rk f g) f n m
  have so : mh_s (mh_out n rk f g) m = mh_c (fun r => mh_F rk f g r && (decide (0 ≤ g r) && decide (g r < (m : Int)))) n := mh_s_c (mh_F rk f g) g n m
  have e1 : mh_c (fun r => mh_F rk f g r && (decide (0 ≤ f r) && decide (f r < (m : Int)))) n = mh_c (mh_F rk f g) n := mh_c_congr (fun r r0 r1 => by
    cases e : mh_F rk f g r with
    | false => rfl
    | true =>
      have e' := e
      simp only [mh_F, decide_eq_true_eq] at e'
      rcases hf.1.1 r r0 r1 with z | ⟨z1, z2, -⟩
      · exact absurd z e'.1
      · simp [z1, z2])
  have e2 : mh_c (fun r => mh_F rk f g r && (decide (0 ≤ g r) && decide (g r < (m : Int)))) n ≤ mh_c (mh_F rk f g) n := mh_c_mono (fun r _ _ z => by simp_all)
  refine ⟨t.2 (by omega), fun r r0 r1 e => ?_⟩
  have := mh_c_tight (p := fun r => mh_F rk f g r && (decide (0 ≤ g r) && decide (g r < (m : Int)))) (q := mh_F rk f g) (k := n) (fun r _ _ z => by simp_all) (by omega) r0 r1 e
  simp only [Bool.and_eq_true, decide_eq_true_eq] at this
  omega
/-- the same residents have hospitals -/
theorem mh_same (hi : mh_inj n m rk hk) (hf : mh_stb n m rk hk cp f) (hg : mh_stb n m rk hk cp g) {r : Int} (r0 : 0 ≤ r) (r1 : r < n) : f r = -1 ↔ g r = -1 := by
  constructor
  · intro e
    rcases mh_tri hi hf.1 hg.1 r0 r1 with z | z | z
    · omega
    · simp only [mh_F, decide_eq_true_eq] at z; omega
    · exact absurd e ((mh_move hi hg hf).2 r r0 r1 z)
  · intro e
    rcases mh_tri hi hf.1 hg.1 r0 r1 with z | z | z
    · omega
    · exact absurd e ((mh_move hi hf hg).2 r r0 r1 z)
    · simp only [mh_F, decide_eq_true_eq] at z; omega
theorem mh_at_split (hi : mh_inj n m rk hk) (hf : mh_stb n m rk hk cp f) (hg : mh_stb n m rk hk cp g) (h : Int) :
    mh_at n f h = mh_c (fun r => decide (f r = h) && decide (g r = h)) n + (mh_in n rk f g h + mh_out n rk g f h) := by
  have a : mh_c (fun r => decide (f r = h) && decide (f r ≠ g r)) n = mh_in n rk f g h + mh_out n rk g f h := mh_c_add (fun x x0 x1 => by
    rcases mh_tri hi hf.1 hg.1 x0 x1 with z | z | z
    · have a1 : mh_F rk f g x = false := by cases e3 : mh_F rk f g x with | false => rfl | true => exact absurd z (mh_F_ne e3)
      have a2 : mh_F rk g f x = false := by cases e3 : mh_F rk g f x with | false => rfl | true => exact absurd z.symm (mh_F_ne e3)
      simp [a1, a2, z]
    · have a1 := mh_F_asym z
      have a2 := mh_F_ne z
      by_cases e1 : f x = h <;> simp [a1, z, e1, a2]
      omega
    · have a1 := mh_F_asym z
      have a2 := mh_F_ne z
      by_cases e1 : f x = h <;> simp [a1, z, e1]
      omega)
  have b : mh_at n f h = mh_c (fun r => decide (f r = h) && decide (g r = h)) n + mh_c (fun r => decide (f r = h) && decide (f r ≠ g r)) n := mh_c_add (fun x _ _ => by
    by_cases e1 : f x = h <;> by_cases e2 : g x = h <;> simp [e1, e2] <;> omega)
  omega
/-- as many at each hospital -/
theorem mh_rural (hi : mh_inj n m rk hk) (hf : mh_stb n m rk hk cp f) (hg : mh_stb n m rk hk cp g) {h : Int} (h0 : 0 ≤ h) (h1 : h < m) : mh_at n f h = mh_at n g h := by
  have a := mh_at_split hi hf hg h
  have b := mh_at_split hi hg hf h
  have c := (mh_move hi hf hg).1 h h0 h1
  have d := (mh_move hi hg hf).1 h h0 h1
  have e : mh_c (fun r => decide (f r = h) && decide (g r = h)) n = mh_c (fun r => decide (g r = h) && decide (f r = h)) n := mh_c_congr (fun x _ _ => Bool.and_comm _ _)
  omega
/-- of two: the worse (b = true) or the better one (b = false) -/
def mh_jn (rk : Int → Int → Int) (b : Bool) (f g : Int → Int) : Int → Int := fun r => if mh_F rk f g r = b then g r else f r
/-- each hospital has by the worse or better ones of two what it has by one of them -/
theorem mh_jn_at (hi : mh_inj n m rk hk) (hf : mh_stb n m rk hk cp f) (hg : mh_stb n m rk hk cp g) (b : Bool) {h : Int} (h0 : 0 ≤ h) (h1 : h < m) :
    ((0 < mh_in n rk f g h) ∧ ∀ r : Int, 0 ≤ r → r < n → (mh_jn rk b f g r = h ↔ (if b then g r else f r) = h)) ∨
    ((¬ 0 < mh_in n rk f g h) ∧ ∀ r : Int, 0 ≤ r → r < n → (mh_jn rk b f g r = h ↔ (if b then f r else g r) = h)) := by
  have c := (mh_move hi hf hg).1 h h0 h1
  have d := (mh_move hi hg hf).1 h h0 h1
  by_cases z : 0 < mh_in n rk f g h
  · refine Or.inl ⟨z, fun r r0 r1 => ?_⟩
    obtain ⟨r', r0', r1', hr'⟩ := mh_c_ex z
    simp only [Bool.and_eq_true, decide_eq_true_eq] at hr'
    have gi : mh_in n rk g f h = 0 := mh_c_zero (fun x x0 x1 => by
      by_cases e1 : g x = h
      · cases e3 : mh_F rk g f x with
        | false => rfl
        | true => exact absurd (mh_lemB hi hf hg r0' r1' x0 x1 hr'.1 e3 (e1.trans hr'.2.symm)) id
      · simp [e1])
    have go : mh_out n rk g f h = 0 := by omega
    have gi' := mh_c_none gi r0 r1
    have go' := mh_c_none go r0 r1
    rcases mh_tri hi hf.1 hg.1 r0 r1 with y | y | y
    · unfold mh_jn; split <;> split <;> omega
    · cases b <;> simp [mh_jn, y]
    · have := mh_F_asym y
      cases b <;> simp [mh_jn, this]
      · simp [y] at gi' go'; omega
      · simp [y] at gi' go'; omega
  · refine Or.inr ⟨z, fun r r0 r1 => ?_⟩
    have fi : mh_in n rk f g h = 0 := by have := mh_c_0 (fun r => mh_F rk f g r && decide (f r = h)) n; have : 0 ≤ mh_in n rk f g h := this; omega
    have fo : mh_out n rk f g h = 0 := by omega
    have fi' := mh_c_none fi r0 r1
    have fo' := mh_c_none fo r0 r1
    rcases mh_tri hi hf.1 hg.1 r0 r1 with y | y | y
    · unfold mh_jn; split <;> split <;> omega
    · cases b <;> simp [mh_jn, y]
      · simp [y] at fi' fo'; omega
      · simp [y] at fi' fo'; omega
    · have := mh_F_asym y
      cases b <;> simp [mh_jn, this]
theorem mh_at_congr {h : Int} (e : ∀ r : Int, 0 ≤ r → r < n → (f r = h ↔ g r = h)) : mh_at n f h = mh_at n g h := mh_c_congr (fun r r0 r1 => by simp [e r r0 r1])
/-- who is in neither of two would not be wanted in the worse or better ones: a pair that blocks neither f nor g -/
theorem mh_jn_stb (hi : mh_inj n m rk hk) (hf : mh_stb n m rk hk cp f) (hg : mh_stb n m rk hk cp g) (b : Bool) : mh_stb n m rk hk cp (mh_jn rk b f g) := by
  refine ⟨⟨fun r r0 r1 => ?_, fun h h0 h1 => ?_⟩, fun r h r0 r1 h0 h1 B => ?_⟩
  · unfold mh_jn; split
    · exact hg.1.1 r r0 r1
    · exact hf.1.1 r r0 r1
  · rcases mh_jn_at hi hf hg b h0 h1 with ⟨-, z⟩ | ⟨-, z⟩
    · cases b
      · rw [mh_at_congr (g := f) (by simpa using z)]; exact hf.1.2 h h0 h1
      · rw [mh_at_congr (g := g) (by simpa using z)]; exact hg.1.2 h h0 h1
    · cases b
      · rw [mh_at_congr (g := g) (by simpa using z)]; exact hg.1.2 h h0 h1
      · rw [mh_at_congr (g := f) (by simpa using z)]; exact hf.1.2 h h0 h1
  · obtain ⟨B1, B2, B3⟩ := B
    have key : ∀ k : Int → Int, (∀ x : Int, 0 ≤ x → x < n → (mh_jn rk b f g x = h ↔ k x = h)) → mh_at n k h < cp h ∨ ∃ o : Int, 0 ≤ o ∧ o < n ∧ k o = h ∧ hk h r < hk h o := fun k e => by
      rw [← mh_at_congr e]
      rcases B3 with z | ⟨o, o0, o1, z, z2⟩
      · exact Or.inl z
      · exact Or.inr ⟨o, o0, o1, (e o o0 o1).mp z, z2⟩
    have bf : f r = -1 ∨ rk r h < rk r (f r) → (∀ x : Int, 0 ≤ x → x < n → (mh_jn rk b f g x = h ↔ f x = h)) → False := fun w e => hf.2 r h r0 r1 h0 h1 ⟨B1, w, key f e⟩
    have bg : g r = -1 ∨ rk r h < rk r (g r) → (∀ x : Int, 0 ≤ x → x < n → (mh_jn rk b f g x = h ↔ g x = h)) → False := fun w e => hg.2 r h r0 r1 h0 h1 ⟨B1, w, key g e⟩
    have sm := mh_same hi hf hg r0 r1
    cases b with
    | false =>
      -- the better ones: h is before both
      have wf : f r = -1 ∨ rk r h < rk r (f r) := by
        unfold mh_jn at B2
        cases e : mh_F rk f g r with
        | true => rw [if_neg (by simp [e])] at B2; exact B2
        | false =>
          rw [if_pos e] at B2
          rcases mh_tri hi hf.1 hg.1 r0 r1 with y | y | y
          · rw [y]; exact B2
          · rw [e] at y; cases y
          · clear key bf bg B3; simp only [mh_F, decide_eq_true_eq] at y; omega
      have wg : g r = -1 ∨ rk r h < rk r (g r) := by
        unfold mh_jn at B2
        cases e : mh_F rk f g r with
        | false => rw [if_pos e] at B2; exact B2
        | true =>
          rw [if_neg (by simp [e])] at B2
          clear key bf bg B3; simp only [mh_F, decide_eq_true_eq] at e; omega
      rcases mh_jn_at hi hf hg false h0 h1 with ⟨-, z⟩ | ⟨-, z⟩
      · exact bf wf (by simpa using z)
      · exact bg wg (by simpa using z)
    | true =>
      -- the worse ones
      rcases mh_jn_at hi hf hg true h0 h1 with ⟨zp, z⟩ | ⟨zp, z⟩
      · have z' : ∀ x : Int, 0 ≤ x → x < n → (mh_jn rk true f g x = h ↔ g x = h) := by simpa using z
        obtain ⟨r', r0', r1', hr'⟩ := mh_c_ex zp
        simp only [Bool.and_eq_true, decide_eq_true_eq] at hr'
        have A := mh_lemA hi hf.1 hg r0' r1' hr'.1
        rw [hr'.2] at A
        rcases key g z' with w | ⟨o, o0, o1, oe, ol⟩
        · omega
        · have a1 := A.2 o o0 o1 oe
          -- r isn't before r' at h: f would be blocked, or g
          unfold mh_jn at B2
          cases e : mh_F rk f g r with
          | true => rw [if_pos e] at B2; exact bg B2 z'
          | false =>
            rw [if_neg (by simp [e])] at B2
            exact hf.2 r h r0 r1 h0 h1 ⟨B1, B2, Or.inr ⟨r', r0', r1', hr'.2, by omega⟩⟩
      · have z' : ∀ x : Int, 0 ≤ x → x < n → (mh_jn rk true f g x = h ↔ f x = h) := by simpa using z
        unfold mh_jn at B2
        cases e : mh_F rk f g r with
        | false => rw [if_neg (by simp [e])] at B2; exact bf B2 z'
        | true =>
          rw [if_pos e] at B2
          -- r has by g the worse one, and h is before that: g isn't blocked, so h is full by g, with better ones
          have sp := mh_rural hi hf hg h0 h1
          rcases key f z' with w | ⟨o, o0, o1, oe, ol⟩
          · exact hg.2 r h r0 r1 h0 h1 ⟨B1, B2, Or.inl (by omega)⟩
          · by_cases og : g o = h
            · exact hg.2 r h r0 r1 h0 h1 ⟨B1, B2, Or.inr ⟨o, o0, o1, og, ol⟩⟩
            · -- o has h by f and not by g: as none comes in to h by f, o has h as the worse one; one comes in by g
              rcases mh_tri hi hf.1 hg.1 o0 o1 with y | y | y
              · omega
              · exact zp (mh_c_pos (p := fun r => mh_F rk f g r && decide (f r = h)) o0 o1 (by simp [y, oe]))
              · have d := (mh_move hi hg hf).1 h h0 h1
                have go : 0 < mh_out n rk g f h := mh_c_pos (p := fun r => mh_F rk g f r && decide (f r = h)) o0 o1 (by simp [y, oe])
                obtain ⟨q, q0, q1, hq⟩ := mh_c_ex (show 0 < mh_in n rk g f h by omega)
                simp only [Bool.and_eq_true, decide_eq_true_eq] at hq
                have A := mh_lemA hi hg.1 hf q0 q1 hq.1
                rw [hq.2] at A
                have a1 := A.2 o o0 o1 oe
                exact hg.2 r h r0 r1 h0 h1 ⟨B1, B2, Or.inr ⟨q, q0, q1, hq.2, by omega⟩⟩
end MHT
