/-! PURE THEORY 7: rotations by numbers: who moves, keys, not more than 15 -/
/-- the i-th that has D among the first n, -1: none -/
def nthB (D : Int → Bool) (n : Nat) (i : Int) : Int := match bpI D i n 0 0 with
  | .inl r => r
  | .inr _ => -1
theorem bpI_iff {D : Int → Bool} {i : Int} : ∀ (j : Nat) (k s r : Int), 0 ≤ k → (bpI D i j k s = .inl r ↔ k ≤ r ∧ r < k + j ∧ D r = true ∧ s + (mh_c D r.toNat - mh_c D k.toNat) = i) := by
  intro j
  induction j with
  | zero => intro k s r k0; simp only [bpI]; constructor; intro h; cases h; intro h; omega
  | succ j ih =>
    intro k s r k0
    have sc : mh_c D (k.toNat + 1) = mh_c D k.toNat + (if D k = true then 1 else 0) := by rw [mh_c_succ, show ((k.toNat : Nat) : Int) = k by omega]
    have tn : (k + 1).toNat = k.toNat + 1 := by omega
    have mono : ∀ a b : Nat, a ≤ b → mh_c D a ≤ mh_c D b := fun a b hab => by
      induction b with
      | zero => rw [show a = 0 by omega]; exact Int.le_refl _
      | succ b ihb =>
        by_cases z : a = b + 1
        · rw [z]; exact Int.le_refl _
        · have := ihb (by omega); rw [mh_c_succ]; split <;> omega
    simp only [bpI]
    by_cases d : D k = true
    · rw [if_pos d]
      rw [if_pos d] at sc
      by_cases e : s = i
      · rw [if_pos e]
        constructor
        · intro h; cases h; exact ⟨by omega, by omega, d, by omega⟩
        · rintro ⟨h1, h2, h3, h4⟩
          by_cases z : r = k
          · rw [z]
          · exfalso
            have := mono (k.toNat + 1) r.toNat (by omega)
            omega
      · rw [if_neg e, ih (k + 1) (s + 1) r (by omega), tn]
        constructor
        · rintro ⟨h1, h2, h3, h4⟩; exact ⟨by omega, by omega, h3, by omega⟩
        · rintro ⟨h1, h2, h3, h4⟩
          by_cases z : r = k
          · subst z; exfalso; omega
          · exact ⟨by omega, by omega, h3, by omega⟩
    · rw [if_neg d, ih (k + 1) s r (by omega), tn]
      rw [if_neg d] at sc
      constructor
      · rintro ⟨h1, h2, h3, h4⟩; exact ⟨by omega, by omega, h3, by omega⟩
      · rintro ⟨h1, h2, h3, h4⟩
        by_cases z : r = k
        · subst z; exact absurd h3 d
        · exact ⟨by omega, by omega, h3, by omega⟩
theorem nthB_iff {D : Int → Bool} {n : Nat} {i r : Int} (h : r ≠ -1) : nthB D n i = r ↔ 0 ≤ r ∧ r < n ∧ D r = true ∧ mh_c D r.toNat = i := by
  unfold nthB
  have b := bpI_iff (D := D) (i := i) n 0 0 r (by omega)
  have z0 : mh_c D (0 : Int).toNat = 0 := rfl
  rw [z0] at b
  cases e : bpI D i n 0 0 with
  | inl q =>
    dsimp only
    rw [e] at b
    constructor
    · intro w; subst w; have := b.mp rfl; exact ⟨this.1, by omega, this.2.2.1, by omega⟩
    · rintro ⟨w1, w2, w3, w4⟩
      have := b.mpr ⟨w1, by omega, w3, by omega⟩
      cases this; rfl
  | inr q =>
    dsimp only
    rw [e] at b
    constructor
    · intro w; exact absurd w.symm h
    · rintro ⟨w1, w2, w3, w4⟩
      have := b.mpr ⟨w1, by omega, w3, by omega⟩
      cases this
theorem nthB_rng {D : Int → Bool} {n : Nat} {i : Int} : nthB D n i = -1 ∨ (0 ≤ nthB D n i ∧ nthB D n i < n ∧ D (nthB D n i) = true) := by
  by_cases e : nthB D n i = -1
  · exact Or.inl e
  · have := (nthB_iff e).mp rfl
    exact Or.inr ⟨this.1, this.2.1, this.2.2.1⟩
/-- the first one -/
theorem nthB_0 {D : Int → Bool} {n : Nat} : nthB D n 0 = mh_f D n := by
  by_cases e : mh_f D n = -1
  · rcases nthB_rng (D := D) (n := n) (i := 0) with z | ⟨z1, z2, z3⟩
    · rw [z, e]
    · have := mh_f_none.mp e _ z1 z2; rw [this] at z3; cases z3
  · obtain ⟨a, b, c, d⟩ := mh_f_some e
    refine (nthB_iff e).mpr ⟨a, b, c, mh_c_zero (fun q q0 q1 => d q q0 (by omega))⟩
theorem nthB_congr {D D' : Int → Bool} {n : Nat} (h : ∀ r : Int, 0 ≤ r → r < n → D r = D' r) (i : Int) : nthB D n i = nthB D' n i := by
  by_cases e : nthB D n i = -1
  · by_cases e' : nthB D' n i = -1
    · rw [e, e']
    · have a := (nthB_iff e').mp rfl
      have : nthB D n i = nthB D' n i := (nthB_iff e').mpr ⟨a.1, a.2.1, by rw [h _ a.1 a.2.1]; exact a.2.2.1, by rw [mh_c_congr (q := D') (fun q q0 q1 => h q q0 (by omega))]; exact a.2.2.2⟩
      exact this
  · have a := (nthB_iff e).mp rfl
    exact ((nthB_iff e).mpr ⟨a.1, a.2.1, by rw [← h _ a.1 a.2.1]; exact a.2.2.1, by rw [mh_c_congr (q := D) (fun q q0 q1 => (h q q0 (by omega)).symm)]; exact a.2.2.2⟩).symm
/-- who moves -/
def mvB (P : Int → Int → Int) (a b r : Int) : Bool := decide (P a r ≠ P b r)
def keyS (n : Nat) (P : Int → Int → Int) (a b : Int) : Int := mh_f (mvB P a b) n * 6 + P a (mh_f (mvB P a b) n)
theorem mh_pig {N M : Nat} {f : Int → Int} (hr : ∀ i : Int, 0 ≤ i → i < N → 0 ≤ f i ∧ f i < M) (inj : ∀ i j : Int, 0 ≤ i → i < N → 0 ≤ j → j < N → f i = f j → i = j) : N ≤ M := by
  have s : mh_s (fun h => mh_c (fun r => decide (f r = h)) N) M = mh_c (fun r => decide (0 ≤ f r) && decide (f r < (M : Int))) N := by
    have := mh_s_c (fun _ => true) f N M
    simpa using this
  have a : mh_c (fun r => decide (0 ≤ f r) && decide (f r < (M : Int))) N = N := by
    rw [← mh_c_all N]
    exact mh_c_congr (fun r r0 r1 => by have := hr r r0 r1; simp [this.1, this.2])
  rw [a] at s
  have one : ∀ v : Int, mh_c (fun r => decide (f r = v)) N ≤ 1 := fun v => by
    have : ∀ k : Nat, k ≤ N → mh_c (fun r => decide (f r = v)) k ≤ 1 ∧ (mh_c (fun r => decide (f r = v)) k = 1 → ∃ q : Int, 0 ≤ q ∧ q < k ∧ f q = v) := fun k => by
      induction k with
      | zero => intro _; simp [mh_c]
      | succ k ih =>
        intro hk
        obtain ⟨i1, i2⟩ := ih (by omega)
        have i0 := mh_c_0 (fun r => decide (f r = v)) k
        rw [mh_c_succ]
        by_cases e : f k = v
        · have z : mh_c (fun r => decide (f r = v)) k = 0 := by
            rcases Int.lt_or_le 0 (mh_c (fun r => decide (f r = v)) k) with c | c
            · exfalso
              obtain ⟨q, q0, q1, hq⟩ := i2 (by omega)
              have := inj q k q0 (by omega) (by omega) (by omega) (by omega)
              omega
            · omega
          rw [z, if_pos (by simp [e])]
          exact ⟨by omega, fun _ => ⟨k, by omega, by omega, e⟩⟩
        · rw [if_neg (by simp [e])]
          refine ⟨by omega, fun h => ?_⟩
          obtain ⟨q, q0, q1, hq⟩ := i2 (by omega)
          exact ⟨q, q0, by omega, hq⟩
    exact (this N (Nat.le_refl _)).1
  have t := (mh_s_tight (a := fun h => mh_c (fun r => decide (f r = h)) N) (b := fun _ => 1) (k := M) (fun x _ _ => one x)).1
  have u : mh_s (fun _ => 1) M = M := by
    clear s a t one hr inj
    induction M with
    | zero => rfl
    | succ k ih => simp only [mh_s, ih]; omega
  omega
section ROT
variable {n K : Nat} {P : Int → Int → Int}
/-- the mover that is least, and another one -/
theorem step_two (L : mh_lat n K P) (two : mh_two n K P) {a b : Int} (a0 : 0 ≤ a) (a1 : a < K) (b0 : 0 ≤ b) (b1 : b < K) (h : mh_step n K P a b) :
    (0 ≤ mh_f (mvB P a b) n ∧ mh_f (mvB P a b) n < n ∧ P a (mh_f (mvB P a b) n) < P b (mh_f (mvB P a b) n) ∧ ∀ r : Int, 0 ≤ r → r < mh_f (mvB P a b) n → P a r = P b r) ∧ ∃ q : Int, 0 ≤ q ∧ q < n ∧ q ≠ mh_f (mvB P a b) n ∧ P a q < P b q := by
  obtain ⟨r, q, r0, r1, q0, q1, rq, e1, e2⟩ := two a b a0 a1 b0 b1 h.1.2
  have hne : mh_f (mvB P a b) n ≠ -1 := fun z => by
    have := mh_f_none.mp z r r0 r1
    unfold mvB at this
    simp [e1] at this
  obtain ⟨f0, f1, f2, f3⟩ := mh_f_some hne
  unfold mvB at f2
  rw [decide_eq_true_eq] at f2
  have le := h.1.1
  refine ⟨⟨f0, f1, ?_, fun x x0 x1 => ?_⟩, ?_⟩
  · have := le _ f0 f1; unfold mvB at *; omega
  · have := f3 x x0 x1
    unfold mvB at this
    simpa using this
  · by_cases z : r = mh_f (mvB P a b) n
    · refine ⟨q, q0, q1, fun w => rq (by rw [z, w]), ?_⟩
      have := le q q0 q1; omega
    · refine ⟨r, r0, r1, z, ?_⟩
      have := le r r0 r1; omega
/-- the same key: the same rotation -/
theorem key_rot (L : mh_lat n K P) (two : mh_two n K P) (hw : ∀ i r : Int, 0 ≤ i → i < K → 0 ≤ r → r < n → -1 ≤ P i r ∧ P i r < 6) {a b c d : Int} (a0 : 0 ≤ a) (a1 : a < K) (b0 : 0 ≤ b) (b1 : b < K) (c0 : 0 ≤ c) (c1 : c < K) (d0 : 0 ≤ d) (d1 : d < K) (h : mh_step n K P a b) (g : mh_step n K P c d) (nm : ∀ i j r : Int, 0 ≤ i → i < K → 0 ≤ j → j < K → 0 ≤ r → r < n → P i r ≠ P j r → 0 ≤ P i r) (e : keyS n P a b = keyS n P c d) : mh_rot n P a b c d := by
  obtain ⟨⟨f0, f1, f2, f3⟩, -⟩ := step_two L two a0 a1 b0 b1 h
  obtain ⟨g0, g1, g2, g3⟩ := (step_two L two c0 c1 d0 d1 g).1
  unfold keyS at e
  have w1 := hw a _ a0 a1 f0 f1
  have w2 := hw c _ c0 c1 g0 g1
  have w3 := nm a b _ a0 a1 b0 b1 f0 f1 (by omega)
  have w4 := nm c d _ c0 c1 d0 d1 g0 g1 (by omega)
  have er : mh_f (mvB P a b) n = mh_f (mvB P c d) n := by omega
  have ep : P a (mh_f (mvB P a b) n) = P c (mh_f (mvB P a b) n) := by
    have e' := e
    rw [← er] at e'
    omega
  refine mh_uniq L a0 a1 b0 b1 c0 c1 d0 d1 h g f0 f1 ep (by omega) ?_
  rw [er]; omega
theorem rot_key {a b c d : Int} (h : mh_rot n P a b c d) (hne : mh_f (mvB P a b) n ≠ -1) : keyS n P a b = keyS n P c d := by
  have e : mh_f (mvB P a b) n = mh_f (mvB P c d) n := mh_f_congr (fun r r0 r1 => by
    unfold mvB
    have := (h r r0 r1).1
    by_cases z : P a r = P b r
    · have : P c r = P d r := Classical.byContradiction fun w => (this.mpr w) z
      simp [z, this]
    · simp [z, this.mp z])
  obtain ⟨f0, f1, f2, -⟩ := mh_f_some hne
  unfold mvB at f2
  rw [decide_eq_true_eq] at f2
  unfold keyS
  rw [← e]
  have := ((h _ f0 f1).2 f2).1
  unfold mvB at *
  omega
/-- steps with keys that differ: not more than 15 -/
theorem rot15 (L : mh_lat n K P) (two : mh_two n K P) (n6 : n ≤ 6) (hw : ∀ i r : Int, 0 ≤ i → i < K → 0 ≤ r → r < n → -1 ≤ P i r ∧ P i r < 6) (nm : ∀ i j r : Int, 0 ≤ i → i < K → 0 ≤ j → j < K → 0 ≤ r → r < n → P i r ≠ P j r → 0 ≤ P i r)
    (Q : List (Int × Int)) (hs : ∀ t ∈ Q, 0 ≤ t.1 ∧ t.1 < K ∧ 0 ≤ t.2 ∧ t.2 < K ∧ mh_step n K P t.1 t.2) (hd : List.Pairwise (fun t u => keyS n P t.1 t.2 ≠ keyS n P u.1 u.2) Q) : Q.length ≤ 15 := by
  -- of each its least mover and another one
  obtain ⟨oth, hoth⟩ : ∃ oth : Int × Int → Int, ∀ t ∈ Q, 0 ≤ oth t ∧ oth t < n ∧ oth t ≠ mh_f (mvB P t.1 t.2) n ∧ P t.1 (oth t) < P t.2 (oth t) := by
    refine ⟨fun t => Classical.epsilon (fun q : Int => 0 ≤ q ∧ q < n ∧ q ≠ mh_f (mvB P t.1 t.2) n ∧ P t.1 q < P t.2 q), fun t ht => ?_⟩
    obtain ⟨a0, a1, b0, b1, st⟩ := hs t ht
    exact Classical.epsilon_spec (p := fun q : Int => 0 ≤ q ∧ q < n ∧ q ≠ mh_f (mvB P t.1 t.2) n ∧ P t.1 q < P t.2 q) (step_two L two a0 a1 b0 b1 st).2
  have at_ : ∀ i : Int, 0 ≤ i → i < Q.length → Q.getD i.toNat (0, 0) ∈ Q := fun i i0 i1 => by
    rw [List.getD_eq_getElem?_getD, List.getElem?_eq_getElem (by omega)]
    exact List.getElem_mem (by omega)
  -- the mover of number i (two for each step), and its code
  let mv : Int → Int := fun i => if i % 2 = 0 then mh_f (mvB P (Q.getD (i / 2).toNat (0, 0)).1 (Q.getD (i / 2).toNat (0, 0)).2) n else oth (Q.getD (i / 2).toNat (0, 0))
  have mvs : ∀ i : Int, 0 ≤ i → i < 2 * Q.length → 0 ≤ mv i ∧ mv i < n ∧ P (Q.getD (i / 2).toNat (0, 0)).1 (mv i) < P (Q.getD (i / 2).toNat (0, 0)).2 (mv i) := fun i i0 i1 => by
    have hm := at_ (i / 2) (by omega) (by omega)
    obtain ⟨a0, a1, b0, b1, st⟩ := hs _ hm
    show 0 ≤ (if i % 2 = 0 then _ else _) ∧ (if i % 2 = 0 then _ else _) < (n : Int) ∧ P _ (if i % 2 = 0 then _ else _) < P _ (if i % 2 = 0 then _ else _)
    by_cases z : i % 2 = 0
    · rw [if_pos z]
      have := (step_two L two a0 a1 b0 b1 st).1
      exact ⟨this.1, this.2.1, this.2.2.1⟩
    · rw [if_neg z]
      have := hoth _ hm
      exact ⟨this.1, this.2.1, this.2.2.2⟩
  have pl : ∀ i : Int, 0 ≤ i → i < 2 * Q.length → 0 ≤ P (Q.getD (i / 2).toNat (0, 0)).1 (mv i) ∧ P (Q.getD (i / 2).toNat (0, 0)).1 (mv i) < 5 := fun i i0 i1 => by
    obtain ⟨a0, a1, b0, b1, st⟩ := hs _ (at_ (i / 2) (by omega) (by omega))
    obtain ⟨m0, m1, m2⟩ := mvs i i0 i1
    have := nm _ _ _ a0 a1 b0 b1 m0 m1 (by omega)
    have := hw _ _ b0 b1 m0 m1
    omega
  have := mh_pig (N := 2 * Q.length) (M := 30) (f := fun i => mv i * 5 + P (Q.getD (i / 2).toNat (0, 0)).1 (mv i)) (fun i i0 i1 => by
      obtain ⟨m0, m1, m2⟩ := mvs i i0 (by omega)
      have := pl i i0 (by omega)
      show 0 ≤ mv i * 5 + P _ (mv i) ∧ mv i * 5 + P _ (mv i) < ((30 : Nat) : Int)
      omega) (fun i j i0 i1 j0 j1 e => by
      have i1' : i < 2 * Q.length := by omega
      have j1' : j < 2 * Q.length := by omega
      obtain ⟨m0, m1, m2⟩ := mvs i i0 i1'
      obtain ⟨k0, k1, k2⟩ := mvs j j0 j1'
      have p1 := pl i i0 i1'
      have p2 := pl j j0 j1'
      have e' : mv i * 5 + P (Q.getD (i / 2).toNat (0, 0)).1 (mv i) = mv j * 5 + P (Q.getD (j / 2).toNat (0, 0)).1 (mv j) := e
      have er : mv i = mv j := by omega
      have ep : P (Q.getD (i / 2).toNat (0, 0)).1 (mv i) = P (Q.getD (j / 2).toNat (0, 0)).1 (mv i) := by
        rw [← er] at e'
        omega
      have hmi := at_ (i / 2) (by omega) (by omega)
      have hmj := at_ (j / 2) (by omega) (by omega)
      obtain ⟨a0, a1, b0, b1, st⟩ := hs _ hmi
      obtain ⟨c0, c1, d0, d1, su⟩ := hs _ hmj
      have ro := mh_uniq L a0 a1 b0 b1 c0 c1 d0 d1 st su m0 m1 ep (by omega) (by rw [er]; omega)
      have f := (step_two L two a0 a1 b0 b1 st).1
      have ke := rot_key ro (by omega)
      have same : i / 2 = j / 2 := by
        have wi : (i / 2).toNat < Q.length := by omega
        have wj : (j / 2).toNat < Q.length := by omega
        have gi : Q.getD (i / 2).toNat (0, 0) = Q[(i / 2).toNat] := by rw [List.getD_eq_getElem?_getD, List.getElem?_eq_getElem wi]; rfl
        have gj : Q.getD (j / 2).toNat (0, 0) = Q[(j / 2).toNat] := by rw [List.getD_eq_getElem?_getD, List.getElem?_eq_getElem wj]; rfl
        rw [gi, gj] at ke
        rcases Nat.lt_trichotomy (i / 2).toNat (j / 2).toNat with c | c | c
        · exact absurd ke (List.pairwise_iff_getElem.mp hd _ _ wi wj c)
        · omega
        · exact absurd ke.symm (List.pairwise_iff_getElem.mp hd _ _ wj wi c)
      -- the same step: the same of its two
      have er2 : (if i % 2 = 0 then mh_f (mvB P (Q.getD (i / 2).toNat (0, 0)).1 (Q.getD (i / 2).toNat (0, 0)).2) n else oth (Q.getD (i / 2).toNat (0, 0))) = (if j % 2 = 0 then mh_f (mvB P (Q.getD (j / 2).toNat (0, 0)).1 (Q.getD (j / 2).toNat (0, 0)).2) n else oth (Q.getD (j / 2).toNat (0, 0))) := er
      rw [← same] at er2
      have ot := hoth _ hmi
      by_cases z1 : i % 2 = 0
      · by_cases z2 : j % 2 = 0
        · omega
        · rw [if_pos z1, if_neg z2] at er2
          exact absurd er2.symm ot.2.2.1
      · by_cases z2 : j % 2 = 0
        · rw [if_neg z1, if_pos z2] at er2
          exact absurd er2 ot.2.2.1
        · omega)
  omega
end ROT
