/-! PURE 11: the reference's rotations -/
theorem sOK_fac {n m : Nat} {rk hk : Int → Int → Int} {sz sz' cp : Int → Int} {S : List (Int → Int)} (n6 : n ≤ 6) (m6 : m ≤ 6) (LR : lsI rk sz n m) (LH : lsI hk sz' m n) (h : sOK n m rk hk cp S) : mh_lat n S.length (PS rk S) ∧ mh_two n S.length (PS rk S) ∧ (∀ i r : Int, 0 ≤ i → i < S.length → 0 ≤ r → r < n → -1 ≤ PS rk S i r ∧ PS rk S i r < 6) ∧ (∀ i j r : Int, 0 ≤ i → i < S.length → 0 ≤ j → j < S.length → 0 ≤ r → r < n → PS rk S i r ≠ PS rk S j r → 0 ≤ PS rk S i r) ∧ (∀ i r : Int, 0 ≤ i → i < S.length → 0 ≤ r → r < n → gS S i r = -1 ∨ (0 ≤ gS S i r ∧ gS S i r < m)) ∧ (∀ i j r : Int, 0 ≤ i → i < S.length → 0 ≤ j → j < S.length → 0 ≤ r → r < n → (PS rk S i r = PS rk S j r ↔ gS S i r = gS S j r) ∧ (gS S i r = -1 ↔ gS S j r = -1)) ∧ S.length ≤ 216 := by
  have hi := lsI_inj LR LH
  have w : ∀ i r : Int, 0 ≤ i → i < S.length → 0 ≤ r → r < n → (gS S i r = -1 ∧ PS rk S i r = -1) ∨ ((0 ≤ gS S i r ∧ gS S i r < m) ∧ gS S i r ≠ -1 ∧ 0 ≤ PS rk S i r ∧ PS rk S i r < 6) := fun i r i0 i1 r0 r1 => by
    have c := (h.1 _).mp (gS_mem i0 i1)
    by_cases z : gS S i r = -1
    · left; refine ⟨z, ?_⟩; unfold PS psF; rw [if_pos z]
    · right
      have d := (c.2.1.1 r r0 r1).resolve_left z
      have l := (LR r r0 r1).2.1 _ d.1 d.2.1
      have l2 := (LR r r0 r1).1
      have := d.2.2.1
      refine ⟨⟨d.1, d.2.1⟩, z, ?_⟩
      unfold PS psF; rw [if_neg z]; omega
  refine ⟨sOK_lat hi h, sOK_two hi h, fun i r i0 i1 r0 r1 => ?_, fun i j r i0 i1 j0 j1 r0 r1 ne => ?_, fun i r i0 i1 r0 r1 => ?_, fun i j r i0 i1 j0 j1 r0 r1 => ?_, sOK_216 LR hi h n6 m6⟩
  · have := w i r i0 i1 r0 r1; omega
  · have a := (h.1 _).mp (gS_mem i0 i1)
    have c := (h.1 _).mp (gS_mem j0 j1)
    have sm := mh_same hi a.2 c.2 r0 r1
    have w1 := w i r i0 i1 r0 r1
    have w2 := w j r j0 j1 r0 r1
    omega
  · have := w i r i0 i1 r0 r1; omega
  · have a := (h.1 _).mp (gS_mem i0 i1)
    have c := (h.1 _).mp (gS_mem j0 j1)
    exact ⟨psF_inj hi a.2 c.2 r0 r1, mh_same hi a.2 c.2 r0 r1⟩
/-- what the reference has worked out -/
def ctM (τ : Mem) (n m : Nat) (rk hk : Int → Int → Int) (sz sz' cp : Int → Int) (S : List (Int → Int)) : Prop := liM τ n m rk hk sz sz' cp ∧ sOK n m rk hk cp S ∧ stM τ n S
theorem ctM_same {τ τ' : Mem} {n m : Nat} {rk hk : Int → Int → Int} {sz sz' cp : Int → Int} {S : List (Int → Int)} (h : ctM τ n m rk hk sz sz' cp S) (e1 : τ' 0 1 = τ 0 1) (e2 : τ' 0 2 = τ 0 2) (e8 : τ' 0 8 = τ 0 8) (e : ∀ k, k = 1 ∨ k = 2 ∨ k = 3 ∨ k = 5 → τ' k = τ k) : ctM τ' n m rk hk sz sz' cp S := by
  refine ⟨liM_same h.1 e1 e2 (fun k hk => e k (by omega)), h.2.1, ?_⟩
  unfold stM
  rw [e8, e 5 (by omega)]
  exact h.2.2
section MRO
variable {τ : Mem} {n m : Nat} {rk hk : Int → Int → Int} {sz sz' cp : Int → Int} {S : List (Int → Int)}
theorem ctM_fac (h : ctM τ n m rk hk sz sz' cp S) : mh_lat n S.length (PS rk S) ∧ mh_two n S.length (PS rk S) ∧ (∀ i r : Int, 0 ≤ i → i < S.length → 0 ≤ r → r < n → -1 ≤ PS rk S i r ∧ PS rk S i r < 6) ∧ (∀ i j r : Int, 0 ≤ i → i < S.length → 0 ≤ j → j < S.length → 0 ≤ r → r < n → PS rk S i r ≠ PS rk S j r → 0 ≤ PS rk S i r) ∧ (∀ i r : Int, 0 ≤ i → i < S.length → 0 ≤ r → r < n → gS S i r = -1 ∨ (0 ≤ gS S i r ∧ gS S i r < m)) ∧ (∀ i j r : Int, 0 ≤ i → i < S.length → 0 ≤ j → j < S.length → 0 ≤ r → r < n → (PS rk S i r = PS rk S j r ↔ gS S i r = gS S j r) ∧ (gS S i r = -1 ↔ gS S j r = -1)) ∧ S.length ≤ 216 :=
  sOK_fac h.1.2.2.1.2.1 h.1.2.2.1.2.2.2 h.1.2.2.2.1 h.1.2.2.2.2.1 h.2.1
theorem ctM_at (h : ctM τ n m rk hk sz sz' cp S) {i r : Int} (i0 : 0 ≤ i) (i1 : i < S.length) (r0 : 0 ≤ r) (r1 : r < n) : τ 5 (6 * i + r) = gS S i r := by
  have a : i.toNat < S.length := by omega
  have e : S[i.toNat]? = some (gS S i) := by
    unfold gS
    rw [List.getD_eq_getElem?_getD, List.getElem?_eq_getElem a]; rfl
  have b := h.2.2.2 i.toNat _ e r r0 r1
  rw [show ((i.toNat : Nat) : Int) = i by omega] at b
  exact b
theorem ctM_pl (h : ctM τ n m rk hk sz sz' cp S) {i r : Int} (i0 : 0 ≤ i) (i1 : i < S.length) (r0 : 0 ≤ r) (r1 : r < n) : fX7_place_0 τ 0 r (gS S i r) = some (PS rk S i r) := by
  obtain ⟨-, -, -, -, v, -⟩ := ctM_fac h
  rw [mPl0 h.1 r0 r1 (v i r i0 i1 r0 r1)]
  rfl
theorem mBehind (h : ctM τ n m rk hk sz sz' cp S) {a b : Int} (a0 : 0 ≤ a) (a1 : a < S.length) (b0 : 0 ≤ b) (b1 : b < S.length) : ∃ z : Bool, fX7_isBehind_0 τ a b = some (zb z) ∧ (z = true ↔ mh_bh n (PS rk S) a b) := by
  obtain ⟨l1, l2, l3, l4, l5, l6, l7⟩ := ctM_fac h
  have n6 : n ≤ 6 := h.1.2.2.1.2.1
  have i1 := h.1.1
  have W : ∀ (ex : Int → Int → Int → Option Int) (f k : Nat), k ≤ n → n < f + k → fX7_isBehind_0_L8 τ a b ex f (zb (mh_all (fun r => decide (PS rk S a r ≤ PS rk S b r)) k)) (zb (!mh_all (fun r => decide (PS rk S a r = PS rk S b r)) k)) k = ex (zb (mh_all (fun r => decide (PS rk S a r ≤ PS rk S b r)) n)) (zb (!mh_all (fun r => decide (PS rk S a r = PS rk S b r)) n)) n := by
    intro ex f
    induction f with
    | zero => intro k h1 h2; omega
    | succ f ih =>
      intro k h1 h2
      rw [fX7_isBehind_0_L8, i1]
      rcases Nat.lt_or_ge k n with c | c
      · have ih' := ih (k + 1) (by omega) (by omega)
        rw [show ((k + 1 : Nat) : Int) = (k : Int) + 1 by omega] at ih'
        simp only [mh_all] at ih'
        have pe := l6 a b k a0 a1 b0 b1 (by omega) (by omega)
        repeat rw [if_pos (by omega)]
        rw [ctM_at h a0 a1 (r := k) (by omega) (by omega), ctM_at h b0 b1 (r := k) (by omega) (by omega)]
        have rg : rng ((k : Int) + 1) := by omega
        simp only [if_pos rg]
        by_cases e : gS S a k = gS S b k
        · have e' := pe.1.mpr e
          rw [if_pos e]
          rw [show decide (PS rk S a k ≤ PS rk S b k) = true by rw [decide_eq_true_eq]; omega, show decide (PS rk S a k = PS rk S b k) = true by rw [decide_eq_true_eq]; exact e'] at ih'
          simp only [Bool.and_true] at ih'
          rw [← ih']
          generalize mh_all (fun r => decide (PS rk S a r ≤ PS rk S b r)) k = x
          generalize mh_all (fun r => decide (PS rk S a r = PS rk S b r)) k = y
          cases x <;> cases y <;> simp [zb]
        · have e' : ¬ PS rk S a k = PS rk S b k := fun w => e (pe.1.mp w)
          have na : gS S a k ≠ -1 := fun w => e (by rw [w, pe.2.mp w])
          have nb : gS S b k ≠ -1 := fun w => na (pe.2.mpr w)
          rw [if_neg e]
          rw [show decide (PS rk S a k = PS rk S b k) = false by rw [decide_eq_false_iff_not]; exact e'] at ih'
          simp only [Bool.and_false, Bool.not_false] at ih'
          rw [← ih', if_neg na, if_neg nb, ctM_pl h a0 a1 (by omega) (by omega), Option.bind_some, ctM_pl h b0 b1 (by omega) (by omega), Option.bind_some]
          generalize mh_all (fun r => decide (PS rk S a r ≤ PS rk S b r)) k = x
          generalize mh_all (fun r => decide (PS rk S a r = PS rk S b r)) k = y
          by_cases d : PS rk S a k < PS rk S b k
          · rw [if_pos d, show decide (PS rk S a k ≤ PS rk S b k) = true by rw [decide_eq_true_eq]; omega]
            cases x <;> cases y <;> simp [zb]
          · rw [if_neg d, show decide (PS rk S a k ≤ PS rk S b k) = false by rw [decide_eq_false_iff_not]; omega]
            cases x <;> cases y <;> simp [zb]
      · have : k = n := by omega
        subst this
        rw [if_neg (by omega)]
  refine ⟨mh_all (fun r => decide (PS rk S a r ≤ PS rk S b r)) n && !mh_all (fun r => decide (PS rk S a r = PS rk S b r)) n, ?_, ?_⟩
  · unfold fX7_isBehind_0
    have := W (fun v49 v50 v51 => if v49 = 0 then some 0 else if v50 = 0 then some 0 else some 1) FU 0 (by omega) (by unfold FU; omega)
    rw [show zb (mh_all (fun r => decide (PS rk S a r ≤ PS rk S b r)) 0) = 1 from rfl, show zb (!mh_all (fun r => decide (PS rk S a r = PS rk S b r)) 0) = 0 from rfl, show ((0 : Nat) : Int) = 0 from rfl] at this
    rw [this]
    generalize mh_all (fun r => decide (PS rk S a r ≤ PS rk S b r)) n = x
    generalize mh_all (fun r => decide (PS rk S a r = PS rk S b r)) n = y
    cases x <;> cases y <;> simp [zb]
  · rw [Bool.and_eq_true, mh_all_iff, Bool.not_eq_true']
    constructor
    · rintro ⟨x, y⟩
      refine ⟨fun r r0 r1 => by simpa using x r r0 r1, fun w => ?_⟩
      subst w
      rw [show mh_all (fun r => decide (PS rk S a r = PS rk S a r)) n = true from mh_all_iff.mpr (fun r _ _ => by simp)] at y
      cases y
    · rintro ⟨x, y⟩
      refine ⟨fun r r0 r1 => by simpa using x r r0 r1, ?_⟩
      obtain ⟨r, r0, r1, d⟩ := sOK_ne h.2.1 a0 a1 b0 b1 y
      by_cases w : mh_all (fun r => decide (PS rk S a r = PS rk S b r)) n = true
      · have := mh_all_iff.mp w r r0 r1
        rw [decide_eq_true_eq, (l6 a b r a0 a1 b0 b1 r0 r1).1] at this
        exact absurd this d
      · simpa using w
theorem mStep (h : ctM τ n m rk hk sz sz' cp S) {a b : Int} (a0 : 0 ≤ a) (a1 : a < S.length) (b0 : 0 ≤ b) (b1 : b < S.length) : ∃ z : Bool, fX7_isStep_0 τ a b = some (zb z) ∧ (z = true ↔ mh_step n S.length (PS rk S) a b) := by
  obtain ⟨l1, l2, l3, l4, l5, l6, l7⟩ := ctM_fac h
  have hK := h.2.2.1
  have Z : ∀ (f : Nat) (t : Int), fX7_isStep_0_L10 τ a b (fun v13 v14 => if v13 = 0 ∨ v13 = 1 then some v13 else none) (f + 1) 0 t = some 0 := by
    intro f t
    rw [fX7_isStep_0_L10]
    by_cases c : t < τ 0 8
    · rw [if_pos c, if_pos rfl, if_pos (Or.inl rfl)]
    · rw [if_neg c, if_pos (Or.inl rfl)]
  have W : ∀ (f t : Nat), t ≤ S.length → S.length < f + t → (∀ x : Int, 0 ≤ x → x < t → ¬ (mh_bh n (PS rk S) a x ∧ mh_bh n (PS rk S) x b)) → ∃ z : Bool, fX7_isStep_0_L10 τ a b (fun v13 v14 => if v13 = 0 ∨ v13 = 1 then some v13 else none) f 1 t = some (zb z) ∧ (z = true ↔ ∀ x : Int, 0 ≤ x → x < S.length → ¬ (mh_bh n (PS rk S) a x ∧ mh_bh n (PS rk S) x b)) := by
    intro f
    induction f with
    | zero => intro t h1 h2; omega
    | succ f ih =>
      intro t h1 h2 hn
      rw [fX7_isStep_0_L10, hK]
      rcases Nat.lt_or_ge t S.length with c | c
      · rw [if_pos (by omega), if_neg (by omega)]
        obtain ⟨z1, y1, w1⟩ := mBehind h a0 a1 (b := t) (by omega) (by omega)
        obtain ⟨z2, y2, w2⟩ := mBehind h (a := t) (by omega) (by omega) b0 b1
        have nxt : ¬ (mh_bh n (PS rk S) a t ∧ mh_bh n (PS rk S) t b) → ∃ z : Bool, fX7_isStep_0_L10 τ a b (fun v13 v14 => if v13 = 0 ∨ v13 = 1 then some v13 else none) f 1 ((t : Int) + 1) = some (zb z) ∧ (z = true ↔ ∀ x : Int, 0 ≤ x → x < S.length → ¬ (mh_bh n (PS rk S) a x ∧ mh_bh n (PS rk S) x b)) := fun w => by
          have := ih (t + 1) (by omega) (by omega) (fun x x0 x1 => by
            by_cases e : x = t
            · rw [e]; exact w
            · exact hn x x0 (by omega))
          rw [show ((t + 1 : Nat) : Int) = (t : Int) + 1 by omega] at this
          exact this
        rw [y1, Option.bind_some]
        cases z1 with
        | false =>
          rw [if_pos (by simp [zb]), if_pos (by omega)]
          exact nxt (fun z => by have := w1.mpr z.1; cases this)
        | true =>
          rw [if_neg (by simp [zb]), y2, Option.bind_some]
          cases z2 with
          | false =>
            rw [if_pos (by simp [zb]), if_pos (by omega)]
            exact nxt (fun z => by have := w2.mpr z.2; cases this)
          | true =>
            rw [if_neg (by simp [zb]), if_pos (by omega)]
            have : f = (f - 1) + 1 := by omega
            rw [this, Z]
            exact ⟨false, rfl, by simp, fun z => absurd ⟨w1.mp rfl, w2.mp rfl⟩ (z t (by omega) (by omega))⟩
      · rw [if_neg (by omega), if_pos (Or.inr rfl)]
        exact ⟨true, rfl, fun _ x x0 x1 => hn x x0 (by omega), fun _ => rfl⟩
  obtain ⟨z, y, w⟩ := mBehind h a0 a1 b0 b1
  unfold fX7_isStep_0
  rw [y, Option.bind_some]
  cases z with
  | false =>
    rw [show zb false = 0 from rfl, show FU = (FU - 1) + 1 from rfl, Z]
    exact ⟨false, rfl, by simp, fun x => by have := w.mpr x.1; cases this⟩
  | true =>
    obtain ⟨z, y', w'⟩ := W FU 0 (by omega) (by unfold FU; omega) (fun x x0 x1 => by omega)
    rw [show zb true = 1 from rfl]
    exact ⟨z, y', fun x => ⟨w.mp rfl, w'.mp x⟩, fun x => w'.mpr x.2⟩
end MRO
/-- a rotation in the reference's rows: size, who, what it leaves, what it gets -/
def roM (τ : Mem) (n : Nat) (P : Int → Int → Int) (S : List (Int → Int)) (j : Int) (t : Int × Int) : Prop :=
  τ 6 j = mh_c (mvB P t.1 t.2) n ∧ ∀ i : Int, 0 ≤ i → i < mh_c (mvB P t.1 t.2) n → τ 7 (6 * j + i) = nthB (mvB P t.1 t.2) n i ∧ τ 8 (6 * j + i) = gS S t.1 (nthB (mvB P t.1 t.2) n i) ∧ τ 9 (6 * j + i) = gS S t.2 (nthB (mvB P t.1 t.2) n i)
theorem nthB_of {D : Int → Bool} {n k : Nat} (hk : k < n) (hd : D k = true) : nthB D n (mh_c D k) = k :=
  (nthB_iff (by omega)).mpr ⟨by omega, by omega, hd, by rw [show ((k : Int)).toNat = k by omega]⟩
theorem nthB_in {D : Int → Bool} {n : Nat} {i : Int} (i0 : 0 ≤ i) (i1 : i < mh_c D n) : 0 ≤ nthB D n i ∧ nthB D n i < n ∧ D (nthB D n i) = true := by
  have : ∀ k : Nat, k ≤ n → i < mh_c D k → ∃ q : Nat, q < k ∧ D q = true ∧ mh_c D q = i := by
    intro k
    induction k with
    | zero => intro _ h; exact absurd h (by show ¬ i < 0; omega)
    | succ k ih =>
      intro hk h
      by_cases c : i < mh_c D k
      · obtain ⟨q, a, b⟩ := ih (by omega) c
        exact ⟨q, by omega, b⟩
      · rw [mh_c_succ] at h
        by_cases e : D k = true
        · rw [if_pos e] at h; exact ⟨k, by omega, e, by omega⟩
        · rw [if_neg e] at h; omega
  obtain ⟨q, a, b, c⟩ := this n (Nat.le_refl _) i1
  have e := nthB_of (n := n) a b
  rw [c] at e
  rw [e]
  exact ⟨by omega, by omega, b⟩
theorem nthB_out {D : Int → Bool} {n : Nat} {i : Int} (h : ¬ (0 ≤ i ∧ i < mh_c D n)) : nthB D n i = -1 := by
  by_cases e : nthB D n i = -1
  · exact e
  · have a := (nthB_iff e).mp rfl
    have := mh_c_0 D (nthB D n i).toNat
    have s1 : mh_c D ((nthB D n i).toNat + 1) = mh_c D (nthB D n i).toNat + 1 := by
      rw [mh_c_succ, show (((nthB D n i).toNat : Nat) : Int) = nthB D n i by omega, if_pos a.2.2.1]
    have := mh_c_le_mono (p := D) (show (nthB D n i).toNat + 1 ≤ n by omega)
    omega
theorem roM_rot {τ : Mem} {n : Nat} {P : Int → Int → Int} {S : List (Int → Int)} {j : Int} {t u : Int × Int} (h : roM τ n P S j t) (r : mh_rot n P t.1 t.2 u.1 u.2) (g : ∀ r : Int, 0 ≤ r → r < n → (P t.1 r = P u.1 r → gS S t.1 r = gS S u.1 r) ∧ (P t.2 r = P u.2 r → gS S t.2 r = gS S u.2 r)) : roM τ n P S j u := by
  have mv : ∀ q : Int, 0 ≤ q → q < n → mvB P t.1 t.2 q = mvB P u.1 u.2 q := fun q q0 q1 => by
    unfold mvB
    have := (r q q0 q1).1
    by_cases e : P t.1 q = P t.2 q
    · rw [decide_eq_decide]; exact this
    · rw [decide_eq_decide]; exact this
  have c : mh_c (mvB P t.1 t.2) n = mh_c (mvB P u.1 u.2) n := mh_c_congr mv
  have nb := fun i => nthB_congr mv i
  unfold roM at h ⊢
  rw [← c]
  refine ⟨h.1, fun i i0 i1 => ?_⟩
  have x := h.2 i i0 i1
  rw [← nb i]
  have y := nthB_in i0 i1
  have z : P t.1 (nthB (mvB P t.1 t.2) n i) ≠ P t.2 (nthB (mvB P t.1 t.2) n i) := by simpa [mvB] using y.2.2
  have w := (r _ y.1 y.2.1).2 z
  have v := g _ y.1 y.2.1
  rw [← v.1 w.1, ← v.2 w.2]
  exact x
