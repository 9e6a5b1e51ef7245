/-! PURE THEORY 6: the list of all stable matchings, in order: a lattice of places; not more than 216 -/
def cst (n m : Nat) (rk hk : Int → Int → Int) (cp x : Int → Int) : Prop := (∀ q : Int, (q < 0 ∨ n ≤ q) → x q = -1) ∧ mh_stb n m rk hk cp x
def bef (rk : Int → Int → Int) (r a b : Int) : Prop := a ≠ -1 ∧ (b = -1 ∨ rk r a < rk r b)
def sOK (n m : Nat) (rk hk : Int → Int → Int) (cp : Int → Int) (S : List (Int → Int)) : Prop := (∀ x, x ∈ S ↔ cst n m rk hk cp x) ∧ List.Pairwise (mh_lx (bef rk) n) S
/-- what of the lists the search needs -/
def liOK (n m : Nat) (rk hk : Int → Int → Int) (sz : Int → Int) : Prop := ∃ sz' : Int → Int, lsI rk sz n m ∧ lsI hk sz' m n
def gS (S : List (Int → Int)) (i : Int) : Int → Int := S.getD i.toNat (fun _ => -1)
def PS (rk : Int → Int → Int) (S : List (Int → Int)) (i r : Int) : Int := psF rk (gS S i) r
theorem bef_asym {rk : Int → Int → Int} (q a b : Int) (h : bef rk q a b) : a ≠ b ∧ ¬ bef rk q b a := by
  unfold bef at h ⊢
  refine ⟨fun e => ?_, fun z => ?_⟩
  · subst e
    rcases h.2 with w | w
    · exact h.1 w
    · omega
  · rcases h.2 with w | w
    · exact z.1 w
    · rcases z.2 with y | y
      · exact h.1 y
      · omega
theorem gS_mem {S : List (Int → Int)} {i : Int} (i0 : 0 ≤ i) (i1 : i < S.length) : gS S i ∈ S := by
  unfold gS
  have : i.toNat < S.length := by omega
  rw [List.getD_eq_getElem?_getD, List.getElem?_eq_getElem this]
  exact List.getElem_mem this
theorem gS_of {S : List (Int → Int)} {x : Int → Int} (h : x ∈ S) : ∃ i : Int, 0 ≤ i ∧ i < S.length ∧ gS S i = x := by
  obtain ⟨k, hk, e⟩ := List.getElem_of_mem h
  refine ⟨k, by omega, by omega, ?_⟩
  unfold gS
  rw [show ((k : Int)).toNat = k by omega, List.getD_eq_getElem?_getD, List.getElem?_eq_getElem hk]
  exact e
theorem gS_lt {n : Nat} {rk : Int → Int → Int} {S : List (Int → Int)} (h : List.Pairwise (mh_lx (bef rk) n) S) {i j : Int} (i0 : 0 ≤ i) (ij : i < j) (j1 : j < S.length) : mh_lx (bef rk) n (gS S i) (gS S j) := by
  have a : i.toNat < S.length := by omega
  have b : j.toNat < S.length := by omega
  have := List.pairwise_iff_getElem.mp h i.toNat j.toNat a b (by omega)
  unfold gS
  rw [List.getD_eq_getElem?_getD, List.getElem?_eq_getElem a, List.getD_eq_getElem?_getD, List.getElem?_eq_getElem b]
  exact this
section SLT
variable {n m : Nat} {rk hk : Int → Int → Int} {cp sz : Int → Int} {S : List (Int → Int)}
theorem psF_jn (hi : mh_inj n m rk hk) {f g : Int → Int} (hf : mh_stb n m rk hk cp f) (hg : mh_stb n m rk hk cp g) (b : Bool) {r : Int} (r0 : 0 ≤ r) (r1 : r < n) : psF rk (mh_jn rk b f g) r = if b then max (psF rk f r) (psF rk g r) else min (psF rk f r) (psF rk g r) := by
  have sm := mh_same hi hf hg r0 r1
  rcases mh_tri hi hf.1 hg.1 r0 r1 with z | z | z
  · have e : mh_jn rk b f g r = f r := by unfold mh_jn; split; exact z.symm; rfl
    unfold psF
    rw [e, z]
    cases b <;> simp
  · have z2 := z
    simp only [mh_F, decide_eq_true_eq] at z2
    unfold psF mh_jn
    rw [z]
    cases b with
    | true => simp only [if_true]; rw [if_neg (fun w => z2.1 (sm.mpr w)), if_neg z2.1]; omega
    | false => simp only [Bool.true_eq_false, if_false, Bool.false_eq_true]; rw [if_neg z2.1, if_neg (fun w => z2.1 (sm.mpr w))]; omega
  · have z2 := z
    have z3 := mh_F_asym z
    simp only [mh_F, decide_eq_true_eq] at z2
    unfold psF mh_jn
    rw [z3]
    cases b with
    | true => simp only [Bool.false_eq_true, if_false, if_true]; rw [if_neg (fun w => z2.1 (sm.mp w)), if_neg z2.1]; omega
    | false => simp only [if_true, Bool.false_eq_true, if_false]; rw [if_neg z2.1, if_neg (fun w => z2.1 (sm.mp w))]; omega
theorem jn_cst (hi : mh_inj n m rk hk) {f g : Int → Int} (hf : cst n m rk hk cp f) (hg : cst n m rk hk cp g) (b : Bool) : cst n m rk hk cp (mh_jn rk b f g) := by
  refine ⟨fun q hq => ?_, mh_jn_stb hi hf.2 hg.2 b⟩
  unfold mh_jn
  split
  · exact hg.1 q hq
  · exact hf.1 q hq
/-- two stable matchings with the same places are the same -/
theorem psF_inj (hi : mh_inj n m rk hk) {f g : Int → Int} (hf : mh_stb n m rk hk cp f) (hg : mh_stb n m rk hk cp g) {r : Int} (r0 : 0 ≤ r) (r1 : r < n) : psF rk f r = psF rk g r ↔ f r = g r := by
  have sm := mh_same hi hf hg r0 r1
  unfold psF
  constructor
  · intro e
    by_cases z : f r = -1
    · rw [z, sm.mp z]
    · have z' : g r ≠ -1 := fun w => z (sm.mpr w)
      rw [if_neg z, if_neg z'] at e
      have a := (hf.1.1 r r0 r1).resolve_left z
      have b := (hg.1.1 r r0 r1).resolve_left z'
      exact hi.1 r _ _ r0 r1 a.1 a.2.1 b.1 b.2.1 a.2.2.1 e
  · intro e; rw [e]
theorem sOK_lat (hi : mh_inj n m rk hk) (h : sOK n m rk hk cp S) : mh_lat n S.length (PS rk S) := by
  have meet : ∀ b : Bool, ∀ i j : Int, 0 ≤ i → i < S.length → 0 ≤ j → j < S.length → ∃ k : Int, 0 ≤ k ∧ k < S.length ∧ ∀ r : Int, 0 ≤ r → r < n → PS rk S k r = if b then max (PS rk S i r) (PS rk S j r) else min (PS rk S i r) (PS rk S j r) := fun b i j i0 i1 j0 j1 => by
    have a := (h.1 _).mp (gS_mem i0 i1)
    have c := (h.1 _).mp (gS_mem j0 j1)
    obtain ⟨k, k0, k1, e⟩ := gS_of ((h.1 _).mpr (jn_cst hi a c b))
    refine ⟨k, k0, k1, fun r r0 r1 => ?_⟩
    unfold PS
    rw [e]
    exact psF_jn hi a.2 c.2 b r0 r1
  refine ⟨fun i j a b c d => ?_, fun i j a b c d => ?_, fun i j i0 ij j1 => ?_⟩
  · have := meet false i j a b c d; simpa using this
  · have := meet true i j a b c d; simpa using this
  · obtain ⟨q, q0, q1, e1, e2⟩ := gS_lt h.2 i0 ij j1
    have a := (h.1 _).mp (gS_mem i0 (by omega))
    have c := (h.1 _).mp (gS_mem (i := j) (by omega) j1)
    refine ⟨q, q0, q1, ?_, fun w w0 w1 => ?_⟩
    · have sm := mh_same hi a.2 c.2 q0 q1
      unfold PS psF
      rcases e2.2 with w | w
      · exact absurd (sm.mpr w) e2.1
      · rw [if_neg e2.1, if_neg (fun y => e2.1 (sm.mpr y))]; exact w
    · unfold PS psF
      rw [e1 w w1]
theorem sOK_ne (h : sOK n m rk hk cp S) {i j : Int} (i0 : 0 ≤ i) (i1 : i < S.length) (j0 : 0 ≤ j) (j1 : j < S.length) (ne : i ≠ j) : ∃ r : Int, 0 ≤ r ∧ r < n ∧ gS S i r ≠ gS S j r := by
  rcases Int.lt_trichotomy i j with c | c | c
  · obtain ⟨q, q0, q1, -, e2⟩ := gS_lt h.2 i0 c j1
    exact ⟨q, q0, q1, (bef_asym _ _ _ e2).1⟩
  · exact absurd c ne
  · obtain ⟨q, q0, q1, -, e2⟩ := gS_lt h.2 j0 c i1
    exact ⟨q, q0, q1, fun z => (bef_asym _ _ _ e2).1 z.symm⟩
/-- two stable matchings that aren't the same differ in two residents -/
theorem stb_two (hi : mh_inj n m rk hk) {f g : Int → Int} (hf : mh_stb n m rk hk cp f) (hg : mh_stb n m rk hk cp g) {r : Int} (r0 : 0 ≤ r) (r1 : r < n) (ne : f r ≠ g r) : ∃ q : Int, 0 ≤ q ∧ q < n ∧ q ≠ r ∧ f q ≠ g q := by
  refine Classical.byContradiction fun w => ?_
  have eq : ∀ q : Int, 0 ≤ q → q < n → q ≠ r → f q = g q := fun q q0 q1 qr => Classical.byContradiction fun z => w ⟨q, q0, q1, qr, z⟩
  have sm := mh_same hi hf hg r0 r1
  have fr : f r ≠ -1 := fun z => ne (by rw [z, sm.mp z])
  have a := (hf.1.1 r r0 r1).resolve_left fr
  have c1 : mh_at n f (f r) = mh_at n (mh_up g r (f r)) (f r) := mh_c_congr (fun q q0 q1 => by
    by_cases e : q = r
    · rw [e, mh_up_eq]
    · rw [mh_up_ne _ _ e, eq q q0 q1 e])
  rw [mh_at_up r0 r1, if_pos rfl, if_neg (fun z => ne z.symm)] at c1
  have := mh_rural hi hf hg a.1 a.2.1
  omega
theorem sOK_two (hi : mh_inj n m rk hk) (h : sOK n m rk hk cp S) : mh_two n S.length (PS rk S) := by
  intro i j i0 i1 j0 j1 ne
  have a := (h.1 _).mp (gS_mem i0 i1)
  have c := (h.1 _).mp (gS_mem j0 j1)
  obtain ⟨r, r0, r1, e⟩ := sOK_ne h i0 i1 j0 j1 ne
  obtain ⟨q, q0, q1, qr, e2⟩ := stb_two hi a.2 c.2 r0 r1 e
  exact ⟨r, q, r0, r1, q0, q1, fun z => qr z.symm, fun z => e ((psF_inj hi a.2 c.2 r0 r1).mp z), fun z => e2 ((psF_inj hi a.2 c.2 q0 q1).mp z)⟩
theorem sOK_216 (L : lsI rk sz n m) (hi : mh_inj n m rk hk) (h : sOK n m rk hk cp S) (n6 : n ≤ 6) (m6 : m ≤ 6) : S.length ≤ 216 := by
  refine mh_216 (sOK_lat hi h) (sOK_two hi h) n6 (fun r r0 r1 => ?_)
  rcases Nat.eq_zero_or_pos S.length with z | z
  · exact ⟨0, 0, Int.le_refl _, by omega, fun i a b => by omega⟩
  · have a := (h.1 _).mp (gS_mem (S := S) (i := 0) (by omega) (by omega))
    by_cases e : gS S 0 r = -1
    · refine ⟨-1, -1, Int.le_refl _, by omega, fun i i0 i1 => ?_⟩
      have c := (h.1 _).mp (gS_mem i0 i1)
      have := (mh_same hi a.2 c.2 r0 r1).mp e
      unfold PS psF
      rw [if_pos this]; omega
    · refine ⟨0, 5, by omega, by omega, fun i i0 i1 => ?_⟩
      have c := (h.1 _).mp (gS_mem i0 i1)
      have w : gS S i r ≠ -1 := fun y => e ((mh_same hi a.2 c.2 r0 r1).mpr y)
      have d := (c.2.1.1 r r0 r1).resolve_left w
      have l := (L r r0 r1).2.1 _ d.1 d.2.1
      have l2 := (L r r0 r1).1
      have := d.2.2.1
      unfold PS psF
      rw [if_neg w]; omega
end SLT
