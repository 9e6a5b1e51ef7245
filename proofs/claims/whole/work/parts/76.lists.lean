/-! PURE 15: lists changed, on both sides -/
theorem lsI_congr {P P' : Int → Int → Int} {S S' : Int → Int} {n m : Nat} (L : lsI P S n m) (e : ∀ r : Int, 0 ≤ r → r < n → S' r = S r ∧ ∀ h : Int, 0 ≤ h → h < m → P' r h = P r h) : lsI P' S' n m := by
  intro r r0 r1
  obtain ⟨l1, l2, l3, l4⟩ := L r r0 r1
  obtain ⟨e1, e2⟩ := e r r0 r1
  rw [e1]
  refine ⟨l1, fun h h0 h1 => by rw [e2 h h0 h1]; exact l2 h h0 h1, fun p p0 p1 => ?_, fun h h' h0 h1 g0 g1 a b => ?_⟩
  · obtain ⟨h, h0, h1, x⟩ := l3 p p0 p1
    exact ⟨h, h0, h1, by rw [e2 h h0 h1]; exact x⟩
  · rw [e2 h h0 h1] at a b
    rw [e2 h' g0 g1] at b
    exact l4 h h' h0 h1 g0 g1 a b
theorem atF_congr {P P' : Int → Int → Int} {m : Nat} {r p : Int} (e : ∀ h : Int, 0 ≤ h → h < m → P' r h = P r h) : atF m P' r p = atF m P r p :=
  mh_f_congr (fun h h0 h1 => by rw [e h h0 h1])
theorem lsI_new {P : Int → Int → Int} {S : Int → Int} {n m : Nat} (e : ∀ r : Int, 0 ≤ r → r < n → S r = 0 ∧ ∀ h : Int, 0 ≤ h → h < m → P r h = -1) : lsI P S n m := by
  intro r r0 r1
  obtain ⟨e1, e2⟩ := e r r0 r1
  rw [e1]
  exact ⟨⟨by omega, by omega⟩, fun h h0 h1 => Or.inl (e2 h h0 h1), fun p p0 p1 => by omega, fun h h' h0 h1 _ _ a _ => absurd (e2 h h0 h1) a⟩
/-- one list emptied -/
theorem lsI_emp {P P' : Int → Int → Int} {S S' : Int → Int} {n m : Nat} (L : lsI P S n m) {w : Int} (e0 : S' w = 0 ∧ ∀ h : Int, 0 ≤ h → h < m → P' w h = -1) (e : ∀ r : Int, 0 ≤ r → r < n → r ≠ w → S' r = S r ∧ ∀ h : Int, 0 ≤ h → h < m → P' r h = P r h) : lsI P' S' n m := by
  intro r r0 r1
  by_cases z : r = w
  · subst z
    exact lsI_new (n := r.toNat + 1) (P := fun q h => if q = r then P' r h else -1) (S := fun q => if q = r then S' r else 0) (fun q q0 q1 => by
      by_cases y : q = r
      · subst y
        rw [if_pos rfl]
        refine ⟨e0.1, fun h h0 h1 => ?_⟩
        show (if q = q then P' q h else -1) = -1
        rw [if_pos rfl]; exact e0.2 h h0 h1
      · rw [if_neg y]
        refine ⟨rfl, fun h h0 h1 => ?_⟩
        show (if q = r then P' r h else -1) = -1
        rw [if_neg y]) r r0 (by omega) |> fun x => by
        simpa using x
  · exact lsI_congr (n := n) (P := P) (S := S) (P' := fun q h => if q = w then P q h else P' q h) (S' := fun q => if q = w then S q else S' q) L (fun q q0 q1 => by
      by_cases y : q = w
      · subst y
        exact ⟨if_pos rfl, fun h _ _ => if_pos rfl⟩
      · obtain ⟨a, b⟩ := e q q0 q1 y
        refine ⟨?_, fun h h0 h1 => ?_⟩
        · show (if q = w then S q else S' q) = S q
          rw [if_neg y]; exact a
        · show (if q = w then P q h else P' q h) = P q h
          rw [if_neg y]; exact b h h0 h1) r r0 r1 |> fun x => by
        simpa [z] using x
theorem lsI_room {P : Int → Int → Int} {S : Int → Int} {n m : Nat} (L : lsI P S n m) {w x : Int} (w0 : 0 ≤ w) (w1 : w < n) (x0 : 0 ≤ x) (x1 : x < m) (hx : P w x = -1) : S w < m := by
  obtain ⟨l1, l2, l3, l4⟩ := L w w0 w1
  have := mh_pig (N := (S w).toNat + 1) (M := m) (f := fun p => if p < S w then atF m P w p else x) (fun p p0 p1 => by
    by_cases e : p < S w
    · have := atF_ok L w0 w1 p0 e
      simp only [if_pos e]; omega
    · simp only [if_neg e]; omega) (fun p q p0 p1 q0 q1 e => by
    have ne : ∀ z : Int, 0 ≤ z → z < S w → atF m P w z ≠ x := fun z z0 z1 y => by
      have := (atF_ok L w0 w1 z0 z1).2.2
      rw [y, hx] at this; omega
    by_cases a : p < S w
    · simp only [if_pos a] at e
      by_cases b : q < S w
      · simp only [if_pos b] at e
        have := (atF_ok L w0 w1 p0 a).2.2
        rw [e, (atF_ok L w0 w1 q0 b).2.2] at this
        exact this.symm
      · simp only [if_neg b] at e; exact absurd e (ne p p0 a)
    · simp only [if_neg a] at e
      by_cases b : q < S w
      · simp only [if_pos b] at e; exact absurd e.symm (ne q q0 b)
      · omega)
  omega
/-- one put at the end of a list -/
theorem lsI_add {P P' : Int → Int → Int} {S S' : Int → Int} {n m : Nat} (L : lsI P S n m) {w x : Int} (w0 : 0 ≤ w) (w1 : w < n) (x0 : 0 ≤ x) (x1 : x < m) (hx : P w x = -1) (es : S' w = S w + 1) (ex : P' w x = S w) (eo : ∀ h : Int, 0 ≤ h → h < m → h ≠ x → P' w h = P w h) (e : ∀ r : Int, 0 ≤ r → r < n → r ≠ w → S' r = S r ∧ ∀ h : Int, 0 ≤ h → h < m → P' r h = P r h) :
    lsI P' S' n m ∧ (∀ r p : Int, 0 ≤ r → r < n → 0 ≤ p → p < S r → atF m P' r p = atF m P r p) ∧ atF m P' w (S w) = x := by
  have room := lsI_room L w0 w1 x0 x1 hx
  have L' : lsI P' S' n m := by
    intro r r0 r1
    obtain ⟨l1, l2, l3, l4⟩ := L r r0 r1
    by_cases z : r = w
    · subst z
      rw [es]
      have v : ∀ h : Int, 0 ≤ h → h < m → (h = x ∧ P' r h = S r) ∨ (h ≠ x ∧ P' r h = P r h) := fun h h0 h1 => by
        by_cases y : h = x
        · subst y; exact Or.inl ⟨rfl, ex⟩
        · exact Or.inr ⟨y, eo h h0 h1 y⟩
      refine ⟨⟨by omega, by omega⟩, fun h h0 h1 => ?_, fun p p0 p1 => ?_, fun h h' h0 h1 g0 g1 a b => ?_⟩
      · have := v h h0 h1
        have := l2 h h0 h1
        omega
      · by_cases y : p = S r
        · exact ⟨x, x0, x1, by rw [ex, y]⟩
        · obtain ⟨h, h0, h1, q⟩ := l3 p p0 (by omega)
          refine ⟨h, h0, h1, ?_⟩
          rcases v h h0 h1 with ⟨a, b⟩ | ⟨a, b⟩
          · rw [a, hx] at q; omega
          · rw [b, q]
      · have a1 := l2 h h0 h1
        have a2 := l2 h' g0 g1
        rcases v h h0 h1 with ⟨p1, p2⟩ | ⟨p1, p2⟩
        · rcases v h' g0 g1 with ⟨q1, q2⟩ | ⟨q1, q2⟩
          · rw [p1, q1]
          · omega
        · rcases v h' g0 g1 with ⟨q1, q2⟩ | ⟨q1, q2⟩
          · omega
          · exact l4 h h' h0 h1 g0 g1 (by rw [← p2]; exact a) (by rw [← p2, ← q2]; exact b)
    · obtain ⟨a, b⟩ := e r r0 r1 z
      rw [a]
      refine ⟨l1, fun h h0 h1 => by rw [b h h0 h1]; exact l2 h h0 h1, fun p p0 p1 => ?_, fun h h' h0 h1 g0 g1 c d => ?_⟩
      · obtain ⟨h, h0, h1, q⟩ := l3 p p0 p1
        exact ⟨h, h0, h1, by rw [b h h0 h1]; exact q⟩
      · rw [b h h0 h1] at c d
        rw [b h' g0 g1] at d
        exact l4 h h' h0 h1 g0 g1 c d
  refine ⟨L', fun r p r0 r1 p0 p1 => ?_, ?_⟩
  · by_cases z : r = w
    · subst z
      have o := atF_ok L r0 r1 p0 p1
      have ne : atF m P r p ≠ x := fun y => by rw [y, hx] at o; omega
      have := atF_rk L' r0 r1 o.1 o.2.1 (by rw [eo _ o.1 o.2.1 ne]; omega)
      rw [eo _ o.1 o.2.1 ne, o.2.2] at this
      exact this
    · exact atF_congr (fun h h0 h1 => (e r r0 r1 z).2 h h0 h1)
  · have l1 := (L w w0 w1).1
    have := atF_rk L' w0 w1 x0 x1 (by rw [ex]; omega)
    rw [ex] at this
    exact this
theorem uFill_r4 (σ : Mem) (y x : Int) : ∃ σ', fJ7_fill_53178_c_r4 σ y x = some (0, σ') ∧ (∀ k, k ≠ 4 + y.toNat → σ' k = σ k) ∧ ∀ j : Int, σ' (4 + y.toNat) j = if 0 ≤ j ∧ j < 6 then x else σ (4 + y.toNat) j := by
  have W : ∀ (f j : Nat) (τ : Mem), j ≤ 6 → 6 < f + j → (∀ k, k ≠ 4 + y.toNat → τ k = σ k) → (∀ i : Int, τ (4 + y.toNat) i = if 0 ≤ i ∧ i < j then x else σ (4 + y.toNat) i) → ∃ σ', fJ7_fill_53178_c_r4_L5 y x (fun σ8 v7 => some (0, σ8)) f τ j = some (0, σ') ∧ (∀ k, k ≠ 4 + y.toNat → σ' k = σ k) ∧ ∀ i : Int, σ' (4 + y.toNat) i = if 0 ≤ i ∧ i < 6 then x else σ (4 + y.toNat) i := by
    intro f
    induction f with
    | zero => intro j τ h1 h2; omega
    | succ f ih =>
      intro j τ j1 j2 t1 t2
      rw [fJ7_fill_53178_c_r4_L5]
      rcases Nat.lt_or_ge j 6 with hj | hj
      · rw [if_pos (by omega), if_pos (by omega)]
        rw [nx_eq, if_pos ⟨by omega, by omega⟩]
        have := ih (j + 1) (mup τ (4 + y.toNat) j x) (by omega) (by omega) (fun k hk => by rw [mup_ne _ _ _ hk]; exact t1 k hk) (fun i => by
          rw [mup_eq]; simp only [mh_up]
          by_cases e : i = j
          · rw [if_pos e, if_pos (by omega)]
          · rw [if_neg e, t2 i]
            by_cases z : 0 ≤ i ∧ i < j
            · rw [if_pos z, if_pos (by omega)]
            · rw [if_neg z, if_neg (by omega)])
        rw [show ((j + 1 : Nat) : Int) = (j : Int) + 1 by omega] at this
        exact this
      · have : (j : Int) = 6 := by omega
        rw [this] at t2 ⊢
        rw [if_neg (by omega)]
        exact ⟨τ, rfl, t1, t2⟩
  exact W FU 0 σ (by omega) (by unfold FU; omega) (fun _ _ => rfl) (fun i => by rw [if_neg (by omega)])
theorem uEmpty_2 (σ : Mem) {y : Int} (y0 : 0 ≤ y) (y1 : y < 6) : ∃ σ', fX2_empty_2 σ y = some (σ 10 y, σ') ∧ (∀ k, k ≠ 4 + y.toNat → k ≠ 10 → σ' k = σ k) ∧ (∀ j : Int, σ' (4 + y.toNat) j = if 0 ≤ j ∧ j < 6 then -1 else σ (4 + y.toNat) j) ∧ σ' 10 = mh_up (σ 10) y 0 := by
  obtain ⟨σ1, a1, a2, a3⟩ := uFill_r4 σ y (-1)
  unfold fX2_empty_2
  rw [if_pos (by omega), if_pos (by omega), a1, bnd2_some, if_pos (by omega), nx_eq]
  refine ⟨_, rfl, fun k h1 h2 => by rw [mup_ne _ _ _ h2]; exact a2 k h1, fun j => by rw [mup_ne _ _ _ (by omega)]; exact a3 j, by rw [mup_eq, a2 10 (by omega)]⟩
theorem uOpen_2 (σ : Mem) (x1 x2 : Int) : ∃ σ', fX2_open_2 σ x1 x2 = some (0, σ') ∧ (∀ k, k ≠ 2 → ¬ (4 ≤ k ∧ k < 4 + 6) → k ≠ 10 → σ' k = σ k) ∧ σ' 2 2 = x1 ∧ σ' 2 3 = x2 ∧ ∀ y : Int, 0 ≤ y → y < 6 → σ' 10 y = 0 ∧ ∀ j : Int, 0 ≤ j → j < 6 → σ' (4 + y.toNat) j = -1 := by
  have W : ∀ (f j : Nat) (τ : Mem), j ≤ 6 → 6 < f + j → (∀ k, k ≠ 2 → ¬ (4 ≤ k ∧ k < 4 + 6) → k ≠ 10 → τ k = σ k) → τ 2 2 = x1 → τ 2 3 = x2 → (∀ y : Int, 0 ≤ y → y < j → τ 10 y = 0 ∧ ∀ j : Int, 0 ≤ j → j < 6 → τ (4 + y.toNat) j = -1) → ∃ σ', fX2_open_2_L12 (fun σ10 v9 => some (0, σ10)) f τ j = some (0, σ') ∧ (∀ k, k ≠ 2 → ¬ (4 ≤ k ∧ k < 4 + 6) → k ≠ 10 → σ' k = σ k) ∧ σ' 2 2 = x1 ∧ σ' 2 3 = x2 ∧ ∀ y : Int, 0 ≤ y → y < 6 → σ' 10 y = 0 ∧ ∀ j : Int, 0 ≤ j → j < 6 → σ' (4 + y.toNat) j = -1 := by
    intro f
    induction f with
    | zero => intro j τ h1 h2; omega
    | succ f ih =>
      intro j τ j1 j2 t1 t2 t3 t4
      rw [fX2_open_2_L12]
      rcases Nat.lt_or_ge j 6 with hj | hj
      · obtain ⟨τ1, b1, b2, b3, b4⟩ := uEmpty_2 τ (y := j) (by omega) (by omega)
        rw [if_pos (by omega), b1, bnd2_some, if_pos (by omega)]
        have := ih (j + 1) τ1 (by omega) (by omega) (fun k h1 h2 h3 => by rw [b2 k (by omega) h3]; exact t1 k h1 h2 h3) (by rw [b2 2 (by omega) (by omega)]; exact t2) (by rw [b2 2 (by omega) (by omega)]; exact t3) (fun y y0 y1 => by
          by_cases e : y = j
          · subst e
            refine ⟨by rw [b4, mh_up_eq], fun i i0 i1 => ?_⟩
            rw [b3, if_pos ⟨i0, i1⟩]
          · obtain ⟨u1, u2⟩ := t4 y y0 (by omega)
            refine ⟨by rw [b4, mh_up_ne _ _ e]; exact u1, fun i i0 i1 => ?_⟩
            rw [b2 _ (by omega) (by omega)]; exact u2 i i0 i1)
        rw [show ((j + 1 : Nat) : Int) = (j : Int) + 1 by omega] at this
        exact this
      · rw [if_neg (by omega)]
        exact ⟨τ, rfl, t1, t2, t3, fun y y0 y1 => t4 y y0 (by omega)⟩
  unfold fX2_open_2
  rw [nx_eq, nx_eq]
  exact W FU 0 _ (by omega) (by unfold FU; omega) (fun k h1 _ _ => by rw [mup_ne _ _ _ h1, mup_ne _ _ _ h1]) (by rw [mup_eq, mh_up_ne _ _ (by omega), mup_eq, mh_up_eq]) (by rw [mup_eq, mh_up_eq]) (fun y y0 y1 => by omega)
theorem uHasOwner_2 (σ : Mem) (x : Int) : fX2_hasOwner_2 σ x = some (zb (decide (0 ≤ x) && decide (x < σ 2 2))) := by
  unfold fX2_hasOwner_2
  by_cases c : x < 0
  · rw [if_pos c, decide_eq_false (by omega)]; rfl
  · rw [if_neg c, decide_eq_true (by omega)]
    by_cases d : x < σ 2 2
    · rw [if_pos d, decide_eq_true d]; rfl
    · rw [if_neg d, decide_eq_false d]; rfl
theorem uFill_r13 (σ : Mem) (y x : Int) : ∃ σ', fJ7_fill_53178_c_r13 σ y x = some (0, σ') ∧ (∀ k, k ≠ 13 + y.toNat → σ' k = σ k) ∧ ∀ j : Int, σ' (13 + y.toNat) j = if 0 ≤ j ∧ j < 6 then x else σ (13 + y.toNat) j := by
  have W : ∀ (f j : Nat) (τ : Mem), j ≤ 6 → 6 < f + j → (∀ k, k ≠ 13 + y.toNat → τ k = σ k) → (∀ i : Int, τ (13 + y.toNat) i = if 0 ≤ i ∧ i < j then x else σ (13 + y.toNat) i) → ∃ σ', fJ7_fill_53178_c_r13_L5 y x (fun σ8 v7 => some (0, σ8)) f τ j = some (0, σ') ∧ (∀ k, k ≠ 13 + y.toNat → σ' k = σ k) ∧ ∀ i : Int, σ' (13 + y.toNat) i = if 0 ≤ i ∧ i < 6 then x else σ (13 + y.toNat) i := by
    intro f
    induction f with
    | zero => intro j τ h1 h2; omega
    | succ f ih =>
      intro j τ j1 j2 t1 t2
      rw [fJ7_fill_53178_c_r13_L5]
      rcases Nat.lt_or_ge j 6 with hj | hj
      · rw [if_pos (by omega), if_pos (by omega)]
        rw [nx_eq, if_pos ⟨by omega, by omega⟩]
        have := ih (j + 1) (mup τ (13 + y.toNat) j x) (by omega) (by omega) (fun k hk => by rw [mup_ne _ _ _ hk]; exact t1 k hk) (fun i => by
          rw [mup_eq]; simp only [mh_up]
          by_cases e : i = j
          · rw [if_pos e, if_pos (by omega)]
          · rw [if_neg e, t2 i]
            by_cases z : 0 ≤ i ∧ i < j
            · rw [if_pos z, if_pos (by omega)]
            · rw [if_neg z, if_neg (by omega)])
        rw [show ((j + 1 : Nat) : Int) = (j : Int) + 1 by omega] at this
        exact this
      · have : (j : Int) = 6 := by omega
        rw [this] at t2 ⊢
        rw [if_neg (by omega)]
        exact ⟨τ, rfl, t1, t2⟩
  exact W FU 0 σ (by omega) (by unfold FU; omega) (fun _ _ => rfl) (fun i => by rw [if_neg (by omega)])
theorem uEmpty_11 (σ : Mem) {y : Int} (y0 : 0 ≤ y) (y1 : y < 6) : ∃ σ', fX2_empty_11 σ y = some (σ 19 y, σ') ∧ (∀ k, k ≠ 13 + y.toNat → k ≠ 19 → σ' k = σ k) ∧ (∀ j : Int, σ' (13 + y.toNat) j = if 0 ≤ j ∧ j < 6 then -1 else σ (13 + y.toNat) j) ∧ σ' 19 = mh_up (σ 19) y 0 := by
  obtain ⟨σ1, a1, a2, a3⟩ := uFill_r13 σ y (-1)
  unfold fX2_empty_11
  rw [if_pos (by omega), if_pos (by omega), a1, bnd2_some, if_pos (by omega), nx_eq]
  refine ⟨_, rfl, fun k h1 h2 => by rw [mup_ne _ _ _ h2]; exact a2 k h1, fun j => by rw [mup_ne _ _ _ (by omega)]; exact a3 j, by rw [mup_eq, a2 19 (by omega)]⟩
theorem uOpen_11 (σ : Mem) (x1 x2 : Int) : ∃ σ', fX2_open_11 σ x1 x2 = some (0, σ') ∧ (∀ k, k ≠ 11 → ¬ (13 ≤ k ∧ k < 13 + 6) → k ≠ 19 → σ' k = σ k) ∧ σ' 11 2 = x1 ∧ σ' 11 3 = x2 ∧ ∀ y : Int, 0 ≤ y → y < 6 → σ' 19 y = 0 ∧ ∀ j : Int, 0 ≤ j → j < 6 → σ' (13 + y.toNat) j = -1 := by
  have W : ∀ (f j : Nat) (τ : Mem), j ≤ 6 → 6 < f + j → (∀ k, k ≠ 11 → ¬ (13 ≤ k ∧ k < 13 + 6) → k ≠ 19 → τ k = σ k) → τ 11 2 = x1 → τ 11 3 = x2 → (∀ y : Int, 0 ≤ y → y < j → τ 19 y = 0 ∧ ∀ j : Int, 0 ≤ j → j < 6 → τ (13 + y.toNat) j = -1) → ∃ σ', fX2_open_11_L12 (fun σ10 v9 => some (0, σ10)) f τ j = some (0, σ') ∧ (∀ k, k ≠ 11 → ¬ (13 ≤ k ∧ k < 13 + 6) → k ≠ 19 → σ' k = σ k) ∧ σ' 11 2 = x1 ∧ σ' 11 3 = x2 ∧ ∀ y : Int, 0 ≤ y → y < 6 → σ' 19 y = 0 ∧ ∀ j : Int, 0 ≤ j → j < 6 → σ' (13 + y.toNat) j = -1 := by
    intro f
    induction f with
    | zero => intro j τ h1 h2; omega
    | succ f ih =>
      intro j τ j1 j2 t1 t2 t3 t4
      rw [fX2_open_11_L12]
      rcases Nat.lt_or_ge j 6 with hj | hj
      · obtain ⟨τ1, b1, b2, b3, b4⟩ := uEmpty_11 τ (y := j) (by omega) (by omega)
        rw [if_pos (by omega), b1, bnd2_some, if_pos (by omega)]
        have := ih (j + 1) τ1 (by omega) (by omega) (fun k h1 h2 h3 => by rw [b2 k (by omega) h3]; exact t1 k h1 h2 h3) (by rw [b2 11 (by omega) (by omega)]; exact t2) (by rw [b2 11 (by omega) (by omega)]; exact t3) (fun y y0 y1 => by
          by_cases e : y = j
          · subst e
            refine ⟨by rw [b4, mh_up_eq], fun i i0 i1 => ?_⟩
            rw [b3, if_pos ⟨i0, i1⟩]
          · obtain ⟨u1, u2⟩ := t4 y y0 (by omega)
            refine ⟨by rw [b4, mh_up_ne _ _ e]; exact u1, fun i i0 i1 => ?_⟩
            rw [b2 _ (by omega) (by omega)]; exact u2 i i0 i1)
        rw [show ((j + 1 : Nat) : Int) = (j : Int) + 1 by omega] at this
        exact this
      · rw [if_neg (by omega)]
        exact ⟨τ, rfl, t1, t2, t3, fun y y0 y1 => t4 y y0 (by omega)⟩
  unfold fX2_open_11
  rw [nx_eq, nx_eq]
  exact W FU 0 _ (by omega) (by unfold FU; omega) (fun k h1 _ _ => by rw [mup_ne _ _ _ h1, mup_ne _ _ _ h1]) (by rw [mup_eq, mh_up_ne _ _ (by omega), mup_eq, mh_up_eq]) (by rw [mup_eq, mh_up_eq]) (fun y y0 y1 => by omega)
theorem uHasOwner_11 (σ : Mem) (x : Int) : fX2_hasOwner_11 σ x = some (zb (decide (0 ≤ x) && decide (x < σ 11 2))) := by
  unfold fX2_hasOwner_11
  by_cases c : x < 0
  · rw [if_pos c, decide_eq_false (by omega)]; rfl
  · rw [if_neg c, decide_eq_true (by omega)]
    by_cases d : x < σ 11 2
    · rw [if_pos d, decide_eq_true d]; rfl
    · rw [if_neg d, decide_eq_false d]; rfl
theorem uHallOpen (σ : Mem) (x1 x2 : Int) : ∃ σ', fX1_open_1 σ x1 x2 = some (0, σ') ∧ (∀ k, k = 0 ∨ 20 < k → σ' k = σ k) ∧ σ' 1 3 = x1 ∧ σ' 1 4 = x2 ∧ σ' 2 2 = x1 ∧ σ' 2 3 = x2 ∧ σ' 11 2 = x2 ∧ σ' 11 3 = x1 ∧ (∀ y : Int, 0 ≤ y → y < 6 → σ' 10 y = 0 ∧ ∀ j : Int, 0 ≤ j → j < 6 → σ' (4 + y.toNat) j = -1) ∧ (∀ y : Int, 0 ≤ y → y < 6 → σ' 19 y = 0 ∧ ∀ j : Int, 0 ≤ j → j < 6 → σ' (13 + y.toNat) j = -1) ∧ ∀ h : Int, 0 ≤ h → h < 6 → σ' 20 h = 1 := by
  unfold fX1_open_1
  rw [nx_eq, nx_eq]
  have k0 : ∀ k, k ≠ 1 → mup (mup σ 1 3 x1) 1 4 x2 k = σ k := fun k hk => by rw [mup_ne _ _ _ hk, mup_ne _ _ _ hk]
  have k3 : mup (mup σ 1 3 x1) 1 4 x2 1 3 = x1 := by rw [mup_eq, mh_up_ne _ _ (by omega), mup_eq, mh_up_eq]
  have k4 : mup (mup σ 1 3 x1) 1 4 x2 1 4 = x2 := by rw [mup_eq, mh_up_eq]
  generalize mup (mup σ 1 3 x1) 1 4 x2 = σ0 at k0 k3 k4
  rw [k3, k4]
  obtain ⟨σ1, a1, a2, a3, a4, a5⟩ := uOpen_2 σ0 x1 x2
  rw [a1, bnd2_some, a2 1 (by omega) (by omega) (by omega), k3, k4]
  obtain ⟨σ2, b1, b2, b3, b4, b5⟩ := uOpen_11 σ1 x2 x1
  rw [b1, bnd2_some]
  obtain ⟨σ3, c1, c2, c3⟩ := uFill_20 σ2 1
  rw [c1, bnd2_some]
  refine ⟨σ3, rfl, fun k hk => ?_, ?_, ?_, ?_, ?_, ?_, ?_, fun y y0 y1 => ⟨?_, fun j j0 j1 => ?_⟩, fun y y0 y1 => ⟨?_, fun j j0 j1 => ?_⟩, fun h h0 h1 => ?_⟩
  · rw [c2 k (by omega), b2 k (by omega) (by omega) (by omega), a2 k (by omega) (by omega) (by omega), k0 k (by omega)]
  · rw [c2 1 (by omega), b2 1 (by omega) (by omega) (by omega), a2 1 (by omega) (by omega) (by omega), k3]
  · rw [c2 1 (by omega), b2 1 (by omega) (by omega) (by omega), a2 1 (by omega) (by omega) (by omega), k4]
  · rw [c2 2 (by omega), b2 2 (by omega) (by omega) (by omega), a3]
  · rw [c2 2 (by omega), b2 2 (by omega) (by omega) (by omega), a4]
  · rw [c2 11 (by omega), b3]
  · rw [c2 11 (by omega), b4]
  · rw [c2 10 (by omega), b2 10 (by omega) (by omega) (by omega)]; exact (a5 y y0 y1).1
  · rw [c2 _ (by omega), b2 _ (by omega) (by omega) (by omega)]; exact (a5 y y0 y1).2 j j0 j1
  · rw [c2 19 (by omega)]; exact (b5 y y0 y1).1
  · rw [c2 _ (by omega)]; exact (b5 y y0 y1).2 j j0 j1
  · rw [c3, if_pos ⟨h0, h1⟩]
theorem mIn (τ : Mem) (x a b : Int) : fX7_in τ x a b = some (zb (decide (a ≤ x) && decide (x ≤ b))) := by
  unfold fX7_in
  by_cases c : x < a
  · rw [if_pos c, decide_eq_false (by omega)]; rfl
  · rw [if_neg c, decide_eq_true (by omega)]
    by_cases d : b < x
    · rw [if_pos d, decide_eq_false (by omega)]; rfl
    · rw [if_neg d, decide_eq_true (by omega)]; rfl
theorem mBegin (τ : Mem) (x1 x2 : Int) : ∃ τ', fX7_begin_0 τ x1 x2 = some (0, τ') ∧ (∀ k, k ≠ 0 → k ≠ 1 → k ≠ 3 → k ≠ 4 → τ' k = τ k) ∧ (∀ j : Int, j ≠ 1 → j ≠ 2 → j ≠ 7 → τ' 0 j = τ 0 j) ∧ τ' 0 1 = x1 ∧ τ' 0 2 = x2 ∧ τ' 0 7 = 0 ∧ (∀ k : Int, 0 ≤ k → k < 6 → τ' 1 k = 1 ∧ τ' 4 k = -1) ∧ ∀ k : Int, 0 ≤ k → k < 12 → τ' 3 k = 0 := by
  have W2 : ∀ (τ0 : Mem) (f j : Nat) (τ1 : Mem), j ≤ 12 → 12 < f + j → (∀ k, k ≠ 3 → τ1 k = τ0 k) → (∀ k : Int, 0 ≤ k → k < j → τ1 3 k = 0) → ∃ τ', fX7_begin_0_L45 (fun σ21 v20 => some (0, σ21)) f τ1 j = some (0, τ') ∧ (∀ k, k ≠ 3 → τ' k = τ0 k) ∧ ∀ k : Int, 0 ≤ k → k < 12 → τ' 3 k = 0 := by
    intro τ0 f
    induction f with
    | zero => intro j τ1 h1 h2; omega
    | succ f ih =>
      intro j τ1 j1 j2 t1 t2
      rw [fX7_begin_0_L45]
      rcases Nat.lt_or_ge j 12 with hj | hj
      · rw [if_pos (by omega), if_pos (by omega), nx_eq, if_pos (by omega)]
        have := ih (j + 1) (mup τ1 3 j 0) (by omega) (by omega) (fun k hk => by rw [mup_ne _ _ _ hk]; exact t1 k hk) (fun k k0 k1 => by
          rw [mup_eq]
          by_cases e : k = j
          · rw [e, mh_up_eq]
          · rw [mh_up_ne _ _ e]; exact t2 k k0 (by omega))
        rw [show ((j + 1 : Nat) : Int) = (j : Int) + 1 by omega] at this
        exact this
      · rw [if_neg (by omega)]
        exact ⟨τ1, rfl, t1, fun k k0 k1 => t2 k k0 (by omega)⟩
  have W1 : ∀ (τ0 : Mem) (f j : Nat) (τ1 : Mem), j ≤ 6 → 6 < f + j → (∀ k, k ≠ 1 → k ≠ 4 → τ1 k = τ0 k) → (∀ k : Int, 0 ≤ k → k < j → τ1 1 k = 1 ∧ τ1 4 k = -1) → ∃ τ', fX7_begin_0_L17 (fun σ13 v12 => fX7_begin_0_L45 (fun σ21 v20 => some (0, σ21)) FU σ13 0) f τ1 j = some (0, τ') ∧ (∀ k, k ≠ 1 → k ≠ 4 → k ≠ 3 → τ' k = τ0 k) ∧ (∀ k : Int, 0 ≤ k → k < 6 → τ' 1 k = 1 ∧ τ' 4 k = -1) ∧ ∀ k : Int, 0 ≤ k → k < 12 → τ' 3 k = 0 := by
    intro τ0 f
    induction f with
    | zero => intro j τ1 h1 h2; omega
    | succ f ih =>
      intro j τ1 j1 j2 t1 t2
      rw [fX7_begin_0_L17]
      rcases Nat.lt_or_ge j 6 with hj | hj
      · rw [if_pos (by omega), if_pos (by omega), nx_eq, if_pos (by omega), nx_eq, if_pos (by omega)]
        have := ih (j + 1) (mup (mup τ1 1 j 1) 4 j (-1)) (by omega) (by omega) (fun k h1 h4 => by rw [mup_ne _ _ _ h4, mup_ne _ _ _ h1]; exact t1 k h1 h4) (fun k k0 k1 => by
          rw [mup_ne _ _ _ (show (1 : Nat) ≠ 4 by omega), mup_eq, mup_eq, mup_ne _ _ _ (show (4 : Nat) ≠ 1 by omega)]
          by_cases e : k = j
          · rw [e, mh_up_eq, mh_up_eq]; exact ⟨rfl, rfl⟩
          · rw [mh_up_ne _ _ e, mh_up_ne _ _ e]; exact t2 k k0 (by omega))
        rw [show ((j + 1 : Nat) : Int) = (j : Int) + 1 by omega] at this
        exact this
      · rw [if_neg (by omega)]
        obtain ⟨τ', a1, a2, a3⟩ := W2 τ1 FU 0 τ1 (by omega) (by unfold FU; omega) (fun _ _ => rfl) (fun k k0 k1 => by omega)
        exact ⟨τ', a1, fun k h1 h4 h3 => by rw [a2 k h3]; exact t1 k h1 h4, fun k k0 k1 => by rw [a2 1 (by omega), a2 4 (by omega)]; exact t2 k k0 (by omega), a3⟩
  unfold fX7_begin_0
  rw [nx_eq, nx_eq, nx_eq]
  obtain ⟨τ', a1, a2, a3, a4⟩ := W1 (mup (mup (mup τ 0 1 x1) 0 2 x2) 0 7 0) FU 0 _ (by omega) (by unfold FU; omega) (fun _ _ _ => rfl) (fun k k0 k1 => by omega)
  refine ⟨τ', a1, fun k h0 h1 h3 h4 => by rw [a2 k h1 h4 h3, mup_ne _ _ _ h0, mup_ne _ _ _ h0, mup_ne _ _ _ h0], fun j h1 h2 h7 => ?_, ?_, ?_, ?_, a3, a4⟩
  · rw [a2 0 (by omega) (by omega) (by omega), mup_eq, mh_up_ne _ _ h7, mup_eq, mh_up_ne _ _ h2, mup_eq, mh_up_ne _ _ h1]
  · rw [a2 0 (by omega) (by omega) (by omega), mup_eq, mh_up_ne _ _ (by omega), mup_eq, mh_up_ne _ _ (by omega), mup_eq, mh_up_eq]
  · rw [a2 0 (by omega) (by omega) (by omega), mup_eq, mh_up_ne _ _ (by omega), mup_eq, mh_up_eq]
  · rw [a2 0 (by omega) (by omega) (by omega), mup_eq, mh_up_eq]
