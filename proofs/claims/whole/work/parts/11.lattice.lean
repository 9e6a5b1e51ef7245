/-! PURE THEORY 2: K rows of places of n residents, closed under the better and the worse of two, in the order of their numbers: steps, rotations, how many -/
theorem mh_max {K : Nat} {T : Int → Prop} {i : Int} (h0 : 0 ≤ i) (h1 : i < K) (h : T i) : ∃ j : Int, 0 ≤ j ∧ j < K ∧ T j ∧ ∀ x : Int, 0 ≤ x → x < K → T x → x ≤ j := by
  induction K with
  | zero => omega
  | succ K ih =>
    rcases Classical.em (T (K : Int)) with e | e
    · exact ⟨K, by omega, by omega, e, fun x _ _ _ => by omega⟩
    · have : i ≠ K := fun z => e (z ▸ h)
      obtain ⟨j, a, b, c, d⟩ := ih (by omega)
      refine ⟨j, a, by omega, c, fun x x0 x1 hx => ?_⟩
      have : x ≠ K := fun z => e (z ▸ hx)
      exact d x x0 (by omega) hx
theorem mh_min {K : Nat} {T : Int → Prop} {i : Int} (h0 : 0 ≤ i) (h1 : i < K) (h : T i) : ∃ j : Int, 0 ≤ j ∧ j < K ∧ T j ∧ ∀ x : Int, 0 ≤ x → x < K → T x → j ≤ x := by
  obtain ⟨j, a, b, c, d⟩ := mh_max (K := K) (T := fun x => T (K - 1 - x)) (i := K - 1 - i) (by omega) (by omega) (by simpa using (show T (K - 1 - (K - 1 - i)) by rw [show (K : Int) - 1 - (K - 1 - i) = i by omega]; exact h))
  refine ⟨K - 1 - j, by omega, by omega, c, fun x x0 x1 hx => ?_⟩
  have := d (K - 1 - x) (by omega) (by omega) (by rw [show (K : Int) - 1 - (K - 1 - x) = x by omega]; exact hx)
  omega
def mh_le (n : Nat) (P : Int → Int → Int) (i j : Int) : Prop := ∀ r : Int, 0 ≤ r → r < n → P i r ≤ P j r
def mh_bh (n : Nat) (P : Int → Int → Int) (i j : Int) : Prop := mh_le n P i j ∧ i ≠ j
def mh_lat (n K : Nat) (P : Int → Int → Int) : Prop :=
  (∀ i j : Int, 0 ≤ i → i < K → 0 ≤ j → j < K → ∃ k : Int, 0 ≤ k ∧ k < K ∧ ∀ r : Int, 0 ≤ r → r < n → P k r = min (P i r) (P j r)) ∧
  (∀ i j : Int, 0 ≤ i → i < K → 0 ≤ j → j < K → ∃ k : Int, 0 ≤ k ∧ k < K ∧ ∀ r : Int, 0 ≤ r → r < n → P k r = max (P i r) (P j r)) ∧
  (∀ i j : Int, 0 ≤ i → i < j → j < K → ∃ r : Int, 0 ≤ r ∧ r < n ∧ P i r < P j r ∧ ∀ q : Int, 0 ≤ q → q < r → P i q = P j q)
def mh_step (n K : Nat) (P : Int → Int → Int) (i j : Int) : Prop := mh_bh n P i j ∧ ∀ t : Int, 0 ≤ t → t < K → ¬ (mh_bh n P i t ∧ mh_bh n P t j)
section MHL
variable {n K : Nat} {P : Int → Int → Int}
theorem mh_le_tr {i j k : Int} (a : mh_le n P i j) (b : mh_le n P j k) : mh_le n P i k := fun r r0 r1 => Int.le_trans (a r r0 r1) (b r r0 r1)
theorem mh_le_ix (L : mh_lat n K P) {i j : Int} (i0 : 0 ≤ i) (i1 : i < K) (j0 : 0 ≤ j) (_j1 : j < K) (h : mh_le n P i j) : i ≤ j := by
  rcases Int.lt_or_le j i with e | e
  · obtain ⟨r, r0, r1, a, -⟩ := L.2.2 j i j0 e i1
    have := h r r0 r1; omega
  · exact e
theorem mh_le_an (L : mh_lat n K P) {i j : Int} (i0 : 0 ≤ i) (i1 : i < K) (j0 : 0 ≤ j) (j1 : j < K) (h : mh_le n P i j) (h' : mh_le n P j i) : i = j := by
  have := mh_le_ix L i0 i1 j0 j1 h
  have := mh_le_ix L j0 j1 i0 i1 h'
  omega
theorem mh_bh_ex (L : mh_lat n K P) {i j : Int} (i0 : 0 ≤ i) (i1 : i < K) (j0 : 0 ≤ j) (j1 : j < K) (h : mh_bh n P i j) : ∃ r : Int, 0 ≤ r ∧ r < n ∧ P i r < P j r := by
  have := mh_le_ix L i0 i1 j0 j1 h.1
  obtain ⟨r, a, b, c, -⟩ := L.2.2 i j i0 (by have := h.2; omega) j1
  exact ⟨r, a, b, c⟩
/-- between the two of a step lies nothing else -/
theorem mh_step_mid (_L : mh_lat n K P) {i j t : Int} (h : mh_step n K P i j) (t0 : 0 ≤ t) (t1 : t < K) (a : mh_le n P i t) (b : mh_le n P t j) : t = i ∨ t = j := by
  rcases Classical.em (t = i) with e | e
  · exact Or.inl e
  · rcases Classical.em (t = j) with e2 | e2
    · exact Or.inr e2
    · exact absurd ⟨⟨a, fun z => e z.symm⟩, ⟨b, e2⟩⟩ (h.2 t t0 t1)
/-- two steps have one rotation: the same residents move, from and to the same places -/
def mh_rot (n : Nat) (P : Int → Int → Int) (a b c d : Int) : Prop := ∀ r : Int, 0 ≤ r → r < n → (P a r ≠ P b r ↔ P c r ≠ P d r) ∧ (P a r ≠ P b r → P a r = P c r ∧ P b r = P d r)
theorem mh_rot_sy {a b c d : Int} (h : mh_rot n P a b c d) : mh_rot n P c d a b := fun r r0 r1 => by
  obtain ⟨h1, h2⟩ := h r r0 r1
  refine ⟨h1.symm, fun z => ?_⟩
  have := h2 (h1.mpr z)
  omega
theorem mh_rot_tr {a b c d e f : Int} (h : mh_rot n P a b c d) (g : mh_rot n P c d e f) : mh_rot n P a b e f := fun r r0 r1 => by
  obtain ⟨h1, h2⟩ := h r r0 r1
  obtain ⟨g1, g2⟩ := g r r0 r1
  refine ⟨h1.trans g1, fun z => ?_⟩
  have := h2 z
  have := g2 (h1.mp z)
  omega
/-- every rotation is that of the first step out of some row -/
theorem mh_first (L : mh_lat n K P) {A B : Int} (A0 : 0 ≤ A) (A1 : A < K) (B0 : 0 ≤ B) (B1 : B < K) (h : mh_step n K P A B) :
    ∃ M E : Int, 0 ≤ M ∧ M < K ∧ 0 ≤ E ∧ E < K ∧ mh_bh n P M E ∧ (∀ x : Int, 0 ≤ x → x < K → mh_bh n P M x → E ≤ x ∧ mh_le n P E x) ∧ mh_rot n P A B M E := by
  obtain ⟨Lm, Lj, Lo⟩ := id L
  have hAB := h.1.1
  obtain ⟨M, M0, M1, hM, hmax⟩ := mh_max (K := K) (T := fun x => ∀ r : Int, 0 ≤ r → r < n → min (P x r) (P B r) = P A r) A0 A1 (fun r r0 r1 => by have := hAB r r0 r1; omega)
  have top : ∀ x : Int, 0 ≤ x → x < K → (∀ r : Int, 0 ≤ r → r < n → min (P x r) (P B r) = P A r) → mh_le n P x M := fun x x0 x1 hx => by
    obtain ⟨k, k0, k1, hk⟩ := Lj x M x0 x1 M0 M1
    have e1 := hmax k k0 k1 (fun r r0 r1 => by have := hk r r0 r1; have := hx r r0 r1; have := hM r r0 r1; omega)
    have e2 : mh_le n P M k := fun r r0 r1 => by have := hk r r0 r1; omega
    have e3 := mh_le_ix L M0 M1 k0 k1 e2
    have e4 : k = M := by omega
    subst e4
    exact fun r r0 r1 => by have := hk r r0 r1; omega
  obtain ⟨E, E0, E1, hE⟩ := Lj M B M0 M1 B0 B1
  obtain ⟨w, w0, w1, hw⟩ := mh_bh_ex L A0 A1 B0 B1 h.1
  have up : ∀ x : Int, 0 ≤ x → x < K → mh_bh n P M x → mh_le n P E x := fun x x0 x1 hx => by
    obtain ⟨k, k0, k1, hk⟩ := Lm x B x0 x1 B0 B1
    have hMx := hx.1
    rcases mh_step_mid L h k0 k1 (fun r r0 r1 => by have := hk r r0 r1; have := hM r r0 r1; have := hMx r r0 r1; omega) (fun r r0 r1 => by have := hk r r0 r1; omega) with e | e
    · exfalso
      subst e
      have := top x x0 x1 (fun r r0 r1 => (hk r r0 r1).symm)
      exact hx.2 (mh_le_an L M0 M1 x0 x1 hx.1 this)
    · subst e
      exact fun r r0 r1 => by have := hk r r0 r1; have := hE r r0 r1; have := hMx r r0 r1; omega
  refine ⟨M, E, M0, M1, E0, E1, ⟨fun r r0 r1 => by have := hE r r0 r1; omega, fun e => ?_⟩, fun x x0 x1 hx => ⟨mh_le_ix L E0 E1 x0 x1 (up x x0 x1 hx), up x x0 x1 hx⟩, fun r r0 r1 => ?_⟩
  · have := hE w w0 w1
    have := hM w w0 w1
    rw [← e] at *
    omega
  · have := hE r r0 r1
    have := hM r r0 r1
    have := hAB r r0 r1
    omega
/-- two steps that move one resident from one place have one rotation -/
theorem mh_uniq (L : mh_lat n K P) {A B C D : Int} (A0 : 0 ≤ A) (A1 : A < K) (B0 : 0 ≤ B) (B1 : B < K) (C0 : 0 ≤ C) (C1 : C < K) (D0 : 0 ≤ D) (D1 : D < K) (h : mh_step n K P A B) (g : mh_step n K P C D)
    {w : Int} (w0 : 0 ≤ w) (w1 : w < n) (e : P A w = P C w) (hA : P A w ≠ P B w) (hC : P C w ≠ P D w) : mh_rot n P A B C D := by
  obtain ⟨Lm, Lj, Lo⟩ := id L
  have hAB := h.1.1
  have hCD := g.1.1
  obtain ⟨J, J0, J1, hJ⟩ := Lm B D B0 B1 D0 D1
  obtain ⟨U, U0, U1, hU⟩ := Lm A J A0 A1 J0 J1
  obtain ⟨V, V0, V1, hV⟩ := Lm C J C0 C1 J0 J1
  obtain ⟨Z, Z0, Z1, hZ⟩ := Lj U V U0 U1 V0 V1
  have hJw : P C w < P J w := by
    have := hJ w w0 w1; have := hAB w w0 w1; have := hCD w w0 w1; omega
  -- above A by J is B; by Z it is A
  have one : ∀ {A B : Int}, 0 ≤ A → A < K → 0 ≤ B → B < K → mh_step n K P A B → mh_le n P A B → mh_le n P J B → P A w = P C w → P A w ≠ P B w → (∀ r : Int, 0 ≤ r → r < n → P B r = max (P A r) (P J r)) ∧ mh_le n P Z A := by
    intro A B A0 A1 B0 B1 h hAB hJB e hA
    obtain ⟨X, X0, X1, hX⟩ := Lj A J A0 A1 J0 J1
    obtain ⟨Y, Y0, Y1, hY⟩ := Lj A Z A0 A1 Z0 Z1
    have w2 := hJ w w0 w1
    have w3 := hAB w w0 w1
    have w4 := hX w w0 w1
    have w5 := hY w w0 w1
    have w6 := hZ w w0 w1
    have w7 := hU w w0 w1
    have w8 := hV w w0 w1
    have w9 := hCD w w0 w1
    have wa := hJB w w0 w1
    refine ⟨?_, ?_⟩
    · rcases mh_step_mid L h X0 X1 (fun r r0 r1 => by have := hX r r0 r1; omega) (fun r r0 r1 => by have := hX r r0 r1; have := hAB r r0 r1; have := hJB r r0 r1; omega) with z | z
      · subst z; exfalso; omega
      · subst z; exact hX
    · have hZB : mh_le n P Z B := fun r r0 r1 => by have := hZ r r0 r1; have := hU r r0 r1; have := hV r r0 r1; have := hJB r r0 r1; omega
      rcases mh_step_mid L h Y0 Y1 (fun r r0 r1 => by have := hY r r0 r1; omega) (fun r r0 r1 => by have := hY r r0 r1; have := hAB r r0 r1; have := hZB r r0 r1; omega) with z | z
      · subst z; exact fun r r0 r1 => by have := hY r r0 r1; omega
      · subst z; exfalso; omega
  obtain ⟨a1, a2⟩ := one A0 A1 B0 B1 h hAB (fun r r0 r1 => by have := hJ r r0 r1; omega) e hA
  obtain ⟨c1, c2⟩ := one C0 C1 D0 D1 g hCD (fun r r0 r1 => by have := hJ r r0 r1; omega) rfl hC
  intro r r0 r1
  have := a1 r r0 r1
  have := a2 r r0 r1
  have := c1 r r0 r1
  have := c2 r r0 r1
  have := hU r r0 r1
  have := hV r r0 r1
  have := hZ r r0 r1
  omega
/-- out of a row towards another one behind it there is a step -/
theorem mh_some (L : mh_lat n K P) {X i : Int} (X0 : 0 ≤ X) (X1 : X < K) (i0 : 0 ≤ i) (i1 : i < K) (h : mh_bh n P X i) : ∃ B : Int, 0 ≤ B ∧ B < K ∧ mh_step n K P X B ∧ mh_le n P B i := by
  obtain ⟨B, B0, B1, ⟨b1, b2⟩, b3⟩ := mh_min (K := K) (T := fun x => mh_bh n P X x ∧ mh_le n P x i) i0 i1 ⟨h, fun r _ _ => Int.le_refl _⟩
  refine ⟨B, B0, B1, ⟨b1, fun t t0 t1 ht => ?_⟩, b2⟩
  have := b3 t t0 t1 ⟨ht.1, mh_le_tr ht.2.1 b2⟩
  have := mh_le_ix L t0 t1 B0 B1 ht.2.1
  exact ht.2.2 (by omega)
/-- two rows that aren't the same: a rotation is done in one of them, not in the other -/
theorem mh_known (L : mh_lat n K P) {i j : Int} (i0 : 0 ≤ i) (i1 : i < K) (j0 : 0 ≤ j) (j1 : j < K) (h : i ≠ j) :
    ∃ A B : Int, 0 ≤ A ∧ A < K ∧ 0 ≤ B ∧ B < K ∧ mh_step n K P A B ∧ ∀ r : Int, 0 ≤ r → r < n → P A r ≠ P B r → (P B r ≤ P i r ∧ P j r < P B r) ∨ (P B r ≤ P j r ∧ P i r < P B r) := by
  obtain ⟨Lm, Lj, Lo⟩ := id L
  obtain ⟨X, X0, X1, hX⟩ := Lm i j i0 i1 j0 j1
  have xi : mh_le n P X i := fun r r0 r1 => by have := hX r r0 r1; omega
  have xj : mh_le n P X j := fun r r0 r1 => by have := hX r r0 r1; omega
  rcases Classical.em (X = i) with e | e
  · have e2 : X ≠ j := fun z => h (e.symm.trans z)
    obtain ⟨B, B0, B1, b1, b2⟩ := mh_some L X0 X1 j0 j1 ⟨xj, e2⟩
    refine ⟨X, B, X0, X1, B0, B1, b1, fun r r0 r1 hr => Or.inr ?_⟩
    have := b1.1.1 r r0 r1
    have := b2 r r0 r1
    have := hX r r0 r1
    omega
  · obtain ⟨B, B0, B1, b1, b2⟩ := mh_some L X0 X1 i0 i1 ⟨xi, e⟩
    refine ⟨X, B, X0, X1, B0, B1, b1, fun r r0 r1 hr => ?_⟩
    have := b1.1.1 r r0 r1
    have := b2 r r0 r1
    have := hX r r0 r1
    omega
end MHL
