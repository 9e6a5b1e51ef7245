/-! PURE THEORY 5: seating one after the other, each by its options in order: who comes out, and in which order -/
def mh_en (opts : Int → List Int) (ok : Int → (Int → Int) → Int → Bool) (lf : (Int → Int) → Bool) : Nat → Int → (Int → Int) → List (Int → Int)
  | 0, _, f => if lf f = true then [f] else []
  | j + 1, k, f => (opts k).flatMap (fun h => if ok k f h = true then mh_en opts ok lf j (k + 1) (mh_up f k h) else [])
def mh_rs (x f : Int → Int) (q : Int) : Int → Int := fun i => if i < q then x i else f i
theorem mh_en_mem {opts : Int → List Int} {ok : Int → (Int → Int) → Int → Bool} {lf : (Int → Int) → Bool} : ∀ (j : Nat) (k : Int) (f x : Int → Int), x ∈ mh_en opts ok lf j k f ↔ (∀ q : Int, (q < k ∨ k + j ≤ q) → x q = f q) ∧ (∀ q : Int, k ≤ q → q < k + j → x q ∈ opts q ∧ ok q (mh_rs x f q) (x q) = true) ∧ lf x = true := by
  intro j
  induction j with
  | zero =>
    intro k f x
    simp only [mh_en]
    constructor
    · intro h
      by_cases e : lf f = true
      · rw [if_pos e, List.mem_singleton] at h
        subst h
        exact ⟨fun _ _ => rfl, fun q a b => by omega, e⟩
      · rw [if_neg e] at h; cases h
    · rintro ⟨h1, -, h3⟩
      have : x = f := funext fun q => h1 q (by omega)
      subst this
      rw [if_pos h3]; exact List.mem_singleton.mpr rfl
  | succ j ih =>
    intro k f x
    simp only [mh_en, List.mem_flatMap]
    constructor
    · rintro ⟨h, hh, hx⟩
      by_cases e : ok k f h = true
      · rw [if_pos e] at hx
        obtain ⟨a, b, c⟩ := (ih (k + 1) (mh_up f k h) x).mp hx
        have xk : x k = h := by rw [a k (by omega)]; simp only [mh_up, if_true]
        have lo : ∀ i : Int, i < k → x i = f i := fun i hi => by rw [a i (by omega)]; simp only [mh_up]; rw [if_neg (by omega)]
        refine ⟨fun q hq => ?_, fun q q0 q1 => ?_, c⟩
        · rw [a q (by omega)]; simp only [mh_up]; rw [if_neg (by omega)]
        · by_cases z : q = k
          · subst z
            have : mh_rs x f q = f := funext fun i => by
              simp only [mh_rs]
              by_cases w : i < q
              · rw [if_pos w]; exact lo i w
              · rw [if_neg w]
            rw [this, xk]
            exact ⟨hh, e⟩
          · have : mh_rs x f q = mh_rs x (mh_up f k h) q := funext fun i => by
              simp only [mh_rs, mh_up]
              by_cases w : i < q
              · rw [if_pos w, if_pos w]
              · rw [if_neg w, if_neg w, if_neg (by omega)]
            rw [this]
            exact b q (by omega) (by omega)
      · rw [if_neg e] at hx; cases hx
    · rintro ⟨h1, h2, h3⟩
      obtain ⟨k1, k2⟩ := h2 k (by omega) (by omega)
      have : mh_rs x f k = f := funext fun i => by
        simp only [mh_rs]
        by_cases w : i < k
        · rw [if_pos w]; exact h1 i (by omega)
        · rw [if_neg w]
      rw [this] at k2
      refine ⟨x k, k1, ?_⟩
      rw [if_pos k2]
      refine (ih (k + 1) (mh_up f k (x k)) x).mpr ⟨fun q hq => ?_, fun q q0 q1 => ?_, h3⟩
      · simp only [mh_up]
        by_cases z : q = k
        · rw [if_pos z, z]
        · rw [if_neg z]; exact h1 q (by omega)
      · have : mh_rs x (mh_up f k (x k)) q = mh_rs x f q := funext fun i => by
          simp only [mh_rs, mh_up]
          by_cases w : i < q
          · rw [if_pos w, if_pos w]
          · rw [if_neg w, if_neg w, if_neg (by omega)]
        rw [this]
        exact h2 q (by omega) (by omega)
/-- the first that differs has the option that stands before -/
def mh_lx (bef : Int → Int → Int → Prop) (n : Nat) (x y : Int → Int) : Prop := ∃ q : Int, 0 ≤ q ∧ q < n ∧ (∀ i : Int, i < q → x i = y i) ∧ bef q (x q) (y q)
theorem mh_en_sorted {opts : Int → List Int} {ok : Int → (Int → Int) → Int → Bool} {lf : (Int → Int) → Bool} {bef : Int → Int → Int → Prop} {n : Nat} (hb : ∀ q : Int, 0 ≤ q → q < n → List.Pairwise (bef q) (opts q)) : ∀ (j : Nat) (k : Int) (f : Int → Int), 0 ≤ k → k + j = n → List.Pairwise (mh_lx bef n) (mh_en opts ok lf j k f) := by
  intro j
  induction j with
  | zero =>
    intro k f _ _
    simp only [mh_en]
    split
    · exact List.pairwise_singleton _ _
    · exact List.Pairwise.nil
  | succ j ih =>
    intro k f k0 kn
    simp only [mh_en]
    rw [List.pairwise_flatMap]
    refine ⟨fun h _ => ?_, ?_⟩
    · split
      · exact ih (k + 1) _ (by omega) (by omega)
      · exact List.Pairwise.nil
    · refine (hb k k0 (by omega)).imp ?_
      intro h h' hbef x hx y hy
      by_cases e : ok k f h = true
      · rw [if_pos e] at hx
        by_cases e' : ok k f h' = true
        · rw [if_pos e'] at hy
          have ax := ((mh_en_mem j (k + 1) _ x).mp hx).1
          have ay := ((mh_en_mem j (k + 1) _ y).mp hy).1
          refine ⟨k, k0, by omega, fun i hi => ?_, ?_⟩
          · rw [ax i (by omega), ay i (by omega)]; simp only [mh_up]; rw [if_neg (by omega), if_neg (by omega)]
          · rw [ax k (by omega), ay k (by omega)]
            simp only [mh_up, if_true]
            exact hbef
        · rw [if_neg e'] at hy; cases hy
      · rw [if_neg e] at hx; cases hx
/-- sorted lists with the same members are the same -/
theorem mh_sorted_eq {α : Type} {R : α → α → Prop} (asym : ∀ x y, R x y → ¬ R y x) : ∀ (l1 l2 : List α), List.Pairwise R l1 → List.Pairwise R l2 → (∀ x, x ∈ l1 ↔ x ∈ l2) → l1 = l2 := by
  intro l1
  induction l1 with
  | nil =>
    intro l2 _ _ h
    cases l2 with
    | nil => rfl
    | cons b t => exact absurd ((h b).mpr List.mem_cons_self) List.not_mem_nil
  | cons a t ih =>
    intro l2 p1 p2 h
    cases l2 with
    | nil => exact absurd ((h a).mp List.mem_cons_self) List.not_mem_nil
    | cons b u =>
      rw [List.pairwise_cons] at p1 p2
      have irr : ∀ x, ¬ R x x := fun x z => asym x x z z
      have e : a = b := by
        refine Classical.byContradiction fun ne => ?_
        have h1 : a ∈ u := by
          rcases List.mem_cons.mp ((h a).mp List.mem_cons_self) with z | z
          · exact absurd z ne
          · exact z
        have h2 : b ∈ t := by
          rcases List.mem_cons.mp ((h b).mpr List.mem_cons_self) with z | z
          · exact absurd z.symm ne
          · exact z
        exact asym _ _ (p1.1 b h2) (p2.1 a h1)
      subst e
      congr 1
      refine ih u p1.2 p2.2 (fun x => ⟨fun hx => ?_, fun hx => ?_⟩)
      · rcases List.mem_cons.mp ((h x).mp (List.mem_cons_of_mem _ hx)) with z | z
        · subst z; exact absurd (p1.1 x hx) (irr x)
        · exact z
      · rcases List.mem_cons.mp ((h x).mpr (List.mem_cons_of_mem _ hx)) with z | z
        · subst z; exact absurd (p2.1 x hx) (irr x)
        · exact z
theorem mh_lx_asym {bef : Int → Int → Int → Prop} {n : Nat} (hb : ∀ q a b, bef q a b → a ≠ b ∧ ¬ bef q b a) (x y : Int → Int) (h : mh_lx bef n x y) : ¬ mh_lx bef n y x := by
  obtain ⟨q, q0, q1, h1, h2⟩ := h
  rintro ⟨w, w0, w1, g1, g2⟩
  rcases Int.lt_trichotomy q w with c | c | c
  · exact (hb _ _ _ h2).1 (g1 q c).symm
  · subst c; exact (hb _ _ _ h2).2 g2
  · exact (hb _ _ _ g2).1 (h1 w c).symm
