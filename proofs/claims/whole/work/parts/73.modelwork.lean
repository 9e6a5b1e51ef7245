/-! PURE 12: the reference's work is done -/
section MWK
variable {τ : Mem} {n m : Nat} {rk hk : Int → Int → Int} {sz sz' cp : Int → Int} {S : List (Int → Int)}
/-- rows of rotations put down -/
def rtM (τ : Mem) (n : Nat) (P : Int → Int → Int) (S : List (Int → Int)) (Q : List (Int × Int)) : Prop := τ 0 10 = Q.length ∧ ∀ (i : Nat) (t : Int × Int), Q[i]? = some t → roM τ n P S i t
theorem mRotRow (h : ctM τ n m rk hk sz sz' cp S) {a b : Int} (a0 : 0 ≤ a) (a1 : a < S.length) (b0 : 0 ≤ b) (b1 : b < S.length) {N : Nat} (hN : τ 0 10 = N) (N6 : N < 63) (ex : Mem → Int → Int → Option (Int × Mem)) :
    ∃ τ', fX7_rotate_0_L5 a b ex FU τ 0 0 = ex τ' (mh_c (mvB (PS rk S) a b) n) n ∧ (∀ c, c ≠ 7 → c ≠ 8 → c ≠ 9 → τ' c = τ c) ∧ (∀ q, q = 7 ∨ q = 8 ∨ q = 9 → ∀ j : Int, j < 6 * N → τ' q j = τ q j) ∧
      ∀ i : Int, 0 ≤ i → i < mh_c (mvB (PS rk S) a b) n → τ' 7 (6 * N + i) = nthB (mvB (PS rk S) a b) n i ∧ τ' 8 (6 * N + i) = gS S a (nthB (mvB (PS rk S) a b) n i) ∧ τ' 9 (6 * N + i) = gS S b (nthB (mvB (PS rk S) a b) n i) := by
  obtain ⟨l1, l2, l3, l4, l5, l6, l7⟩ := ctM_fac h
  have n6 : n ≤ 6 := h.1.2.2.1.2.1
  have i1 := h.1.1
  have W : ∀ (f k : Nat) (τ1 : Mem), k ≤ n → n < f + k → (∀ c, c ≠ 7 → c ≠ 8 → c ≠ 9 → τ1 c = τ c) → (∀ q, q = 7 ∨ q = 8 ∨ q = 9 → ∀ j : Int, j < 6 * N → τ1 q j = τ q j) → (∀ i : Int, 0 ≤ i → i < mh_c (mvB (PS rk S) a b) k → τ1 7 (6 * N + i) = nthB (mvB (PS rk S) a b) n i ∧ τ1 8 (6 * N + i) = gS S a (nthB (mvB (PS rk S) a b) n i) ∧ τ1 9 (6 * N + i) = gS S b (nthB (mvB (PS rk S) a b) n i)) →
      ∃ τ', fX7_rotate_0_L5 a b ex f τ1 (mh_c (mvB (PS rk S) a b) k) k = ex τ' (mh_c (mvB (PS rk S) a b) n) n ∧ (∀ c, c ≠ 7 → c ≠ 8 → c ≠ 9 → τ' c = τ c) ∧ (∀ q, q = 7 ∨ q = 8 ∨ q = 9 → ∀ j : Int, j < 6 * N → τ' q j = τ q j) ∧
      ∀ i : Int, 0 ≤ i → i < mh_c (mvB (PS rk S) a b) n → τ' 7 (6 * N + i) = nthB (mvB (PS rk S) a b) n i ∧ τ' 8 (6 * N + i) = gS S a (nthB (mvB (PS rk S) a b) n i) ∧ τ' 9 (6 * N + i) = gS S b (nthB (mvB (PS rk S) a b) n i) := by
    intro f
    induction f with
    | zero => intro k τ1 h1 h2; omega
    | succ f ih =>
      intro k τ1 h1 h2 e1 e2 e3
      have z0 := e1 0 (by omega) (by omega) (by omega)
      have z5 := e1 5 (by omega) (by omega) (by omega)
      rw [fX7_rotate_0_L5, z0, z5, i1]
      rcases Nat.lt_or_ge k n with c | c
      · have c0 := mh_c_0 (mvB (PS rk S) a b) k
        have c1 := mh_c_le (mvB (PS rk S) a b) k
        have pe := l6 a b k a0 a1 b0 b1 (by omega) (by omega)
        repeat rw [if_pos (by omega)]
        rw [ctM_at h a0 a1 (r := k) (by omega) (by omega), ctM_at h b0 b1 (r := k) (by omega) (by omega)]
        by_cases e : gS S a k = gS S b k
        · have mv : mvB (PS rk S) a b k = false := by unfold mvB; rw [decide_eq_false_iff_not]; exact fun z => z (pe.1.mpr e)
          have cs : mh_c (mvB (PS rk S) a b) (k + 1) = mh_c (mvB (PS rk S) a b) k := by rw [mh_c_succ, mv]; simp
          rw [if_pos e]
          have := ih (k + 1) τ1 (by omega) (by omega) e1 e2 (by rw [cs]; exact e3)
          rw [cs, show ((k + 1 : Nat) : Int) = (k : Int) + 1 by omega] at this
          repeat rw [if_pos (by omega)]
          exact this
        · have mv : mvB (PS rk S) a b k = true := by unfold mvB; rw [decide_eq_true_eq]; exact fun z => e (pe.1.mp z)
          have cs : mh_c (mvB (PS rk S) a b) (k + 1) = mh_c (mvB (PS rk S) a b) k + 1 := by rw [mh_c_succ, mv]; simp
          have nb := nthB_of (n := n) c mv
          generalize hv : mh_c (mvB (PS rk S) a b) k = v at c0 c1 cs nb e3 ⊢
          have va : (mup τ1 7 (6 * N + v) k) 0 10 = N := by rw [mup_ne _ _ _ (by omega), z0]; exact hN
          have vb : (mup τ1 7 (6 * N + v) k) 5 (6 * a + k) = gS S a k := by rw [mup_ne _ _ _ (by omega), z5]; exact ctM_at h a0 a1 (by omega) (by omega)
          have vc : (mup (mup τ1 7 (6 * N + v) k) 8 (6 * N + v) (gS S a k)) 0 10 = N := by rw [mup_ne _ _ _ (by omega)]; exact va
          have vd : (mup (mup τ1 7 (6 * N + v) k) 8 (6 * N + v) (gS S a k)) 5 (6 * b + k) = gS S b k := by rw [mup_ne _ _ _ (by omega), mup_ne _ _ _ (by omega), z5]; exact ctM_at h b0 b1 (by omega) (by omega)
          rw [if_neg e, hN]
          repeat rw [if_pos (by omega)]
          rw [nx_eq, va, vb]
          repeat rw [if_pos (by omega)]
          rw [nx_eq, vc, vd]
          repeat rw [if_pos (by omega)]
          rw [nx_eq]
          repeat rw [if_pos (by omega)]
          have := ih (k + 1) (mup (mup (mup τ1 7 (6 * N + v) k) 8 (6 * N + v) (gS S a k)) 9 (6 * N + v) (gS S b k)) (by omega) (by omega) (fun c x y z => by rw [mup_ne _ _ _ z, mup_ne _ _ _ y, mup_ne _ _ _ x]; exact e1 c x y z) (fun q hq j hj => by
              have ne : j ≠ 6 * N + v := by omega
              have := e2 q hq j hj
              rcases hq with rfl | rfl | rfl
              · rw [mup_ne _ _ _ (by omega), mup_ne _ _ _ (by omega), mup_eq, mh_up_ne _ _ ne]; exact this
              · rw [mup_ne _ _ _ (by omega), mup_eq, mh_up_ne _ _ ne, mup_ne _ _ _ (by omega)]; exact this
              · rw [mup_eq, mh_up_ne _ _ ne, mup_ne _ _ _ (by omega), mup_ne _ _ _ (by omega)]; exact this) (fun i x0 x1 => by
              rw [cs] at x1
              rw [mup_ne _ _ _ (show (7 : Nat) ≠ 9 by omega), mup_ne _ _ _ (show (7 : Nat) ≠ 8 by omega), mup_ne _ _ _ (show (8 : Nat) ≠ 9 by omega), mup_eq, mup_eq, mup_eq, mup_ne _ _ _ (show (8 : Nat) ≠ 7 by omega), mup_ne _ _ _ (show (9 : Nat) ≠ 8 by omega), mup_ne _ _ _ (show (9 : Nat) ≠ 7 by omega)]
              by_cases d : i = v
              · rw [d, mh_up_eq, mh_up_eq, mh_up_eq, nb]; exact ⟨rfl, rfl, rfl⟩
              · rw [mh_up_ne _ _ (by omega), mh_up_ne _ _ (by omega), mh_up_ne _ _ (by omega)]
                exact e3 i x0 (by omega))
          rw [cs, show ((k + 1 : Nat) : Int) = (k : Int) + 1 by omega] at this
          exact this
      · have : k = n := by omega
        subst this
        rw [if_neg (by omega)]
        exact ⟨τ1, rfl, e1, e2, e3⟩
  exact W FU 0 τ (by omega) (by unfold FU; omega) (fun _ _ _ _ => rfl) (fun _ _ _ _ => rfl) (fun i x0 x1 => absurd x1 (by show ¬ i < 0; omega))
/-- the rows o and N say the same -/
def enB (τ : Mem) (o N i : Int) : Bool := decide (τ 7 (6 * o + i) = τ 7 (6 * N + i)) && (decide (τ 8 (6 * o + i) = τ 8 (6 * N + i)) && decide (τ 9 (6 * o + i) = τ 9 (6 * N + i)))
theorem mSame0 (τ : Mem) (v o : Int) (ex : Int → Int → Option (Int × Mem)) (t : Int) : ∃ x, fX7_rotate_0_L164 v τ o ex FU 0 t = ex 0 x := by
  rw [show FU = (FU - 1) + 1 from rfl, fX7_rotate_0_L164]
  by_cases c : t < v
  · rw [if_pos c, if_pos rfl]; exact ⟨t, rfl⟩
  · rw [if_neg c]; exact ⟨t, rfl⟩
theorem mSame1 {τ : Mem} {N o v : Nat} (hN : τ 0 10 = N) (N6 : N < 63) (o6 : o < 63) (v6 : v ≤ 6) (ex : Int → Int → Option (Int × Mem)) : ∃ x, fX7_rotate_0_L164 v τ o ex FU 1 0 = ex (zb (mh_all (enB τ o N) v)) x := by
  have W : ∀ (f k : Nat), k ≤ v → v + 1 < f + k → mh_all (enB τ o N) k = true → ∃ x, fX7_rotate_0_L164 v τ o ex f 1 k = ex (zb (mh_all (enB τ o N) v)) x := by
    intro f
    induction f with
    | zero => intro k h1 h2; omega
    | succ f ih =>
      intro k h1 h2 ha
      rw [fX7_rotate_0_L164, hN]
      rcases Nat.lt_or_ge k v with c | c
      · rw [if_pos (by omega), if_neg (by omega)]
        have rg : rng ((k : Int) + 1) := by omega
        have bad : enB τ o N k = false → ∃ x, fX7_rotate_0_L164 v τ o ex f 0 ((k : Int) + 1) = ex (zb (mh_all (enB τ o N) v)) x := fun e => by
          have : mh_all (enB τ o N) v = false := mh_all_mono (k := k + 1) (by omega) (by simp only [mh_all, e, Bool.and_false])
          rw [this, show f = (f - 1) + 1 by omega, fX7_rotate_0_L164]
          by_cases c : (k : Int) + 1 < v
          · rw [if_pos c, if_pos rfl]; exact ⟨_, rfl⟩
          · rw [if_neg c]; exact ⟨_, rfl⟩
        have good : enB τ o N k = true → ∃ x, fX7_rotate_0_L164 v τ o ex f 1 ((k : Int) + 1) = ex (zb (mh_all (enB τ o N) v)) x := fun e => by
          have := ih (k + 1) (by omega) (by omega) (by simp only [mh_all, ha, e, Bool.and_true])
          rw [show ((k + 1 : Nat) : Int) = (k : Int) + 1 by omega] at this
          exact this
        repeat rw [if_pos (by omega)]
        by_cases x7 : τ 7 (6 * o + k) = τ 7 (6 * N + k)
        · rw [if_pos x7]
          repeat rw [if_pos (by omega)]
          by_cases x8 : τ 8 (6 * o + k) = τ 8 (6 * N + k)
          · rw [if_pos x8]
            repeat rw [if_pos (by omega)]
            by_cases x9 : τ 9 (6 * o + k) = τ 9 (6 * N + k)
            · rw [if_pos x9]
              repeat rw [if_pos (by omega)]
              exact good (by unfold enB; simp [x7, x8, x9])
            · rw [if_neg x9]
              repeat rw [if_pos (by omega)]
              exact bad (by unfold enB; simp [x9])
          · rw [if_neg x8]
            repeat rw [if_pos (by omega)]
            exact bad (by unfold enB; simp [x8])
        · rw [if_neg x7]
          repeat rw [if_pos (by omega)]
          exact bad (by unfold enB; simp [x7])
      · have : k = v := by omega
        subst this
        rw [if_neg (by omega), ha]
        exact ⟨_, rfl⟩
  exact W FU 0 (by omega) (by unfold FU; omega) rfl
/-- none of the rows before N says the same -/
theorem mFresh {τ : Mem} {N v : Nat} (hN : τ 0 10 = N) (N6 : N < 63) (v6 : v ≤ 6) (ex : Int → Int → Option (Int × Mem)) : ∃ x, fX7_rotate_0_L134 v τ ex FU 1 0 = ex (zb (mh_all (fun o => !(decide (τ 6 o = v) && mh_all (enB τ o N) v)) N)) x := by
  have W : ∀ (f k : Nat), k ≤ N → N < f + k → ∃ x, fX7_rotate_0_L134 v τ ex f (zb (mh_all (fun o => !(decide (τ 6 o = v) && mh_all (enB τ o N) v)) k)) k = ex (zb (mh_all (fun o => !(decide (τ 6 o = v) && mh_all (enB τ o N) v)) N)) x := by
    intro f
    induction f with
    | zero => intro k h1 h2; omega
    | succ f ih =>
      intro k h1 h2
      rw [fX7_rotate_0_L134, hN]
      rcases Nat.lt_or_ge k N with c | c
      · have ih' := ih (k + 1) (by omega) (by omega)
        rw [show ((k + 1 : Nat) : Int) = (k : Int) + 1 by omega] at ih'
        simp only [mh_all] at ih'
        have rg : rng ((k : Int) + 1) := by omega
        simp only [if_pos rg]
        rw [if_pos (by omega), if_pos (by omega)]
        generalize mh_all (fun o => !(decide (τ 6 o = v) && mh_all (enB τ o N) v)) k = u at ih' ⊢
        by_cases e : τ 6 k = v
        · rw [if_pos e]
          obtain ⟨x, hx⟩ := mSame1 hN N6 (o := k) (v := v) (by omega) v6 (fun v106 v107 => if zb u = 0 then fX7_rotate_0_L134 v τ ex f 0 ((k : Int) + 1) else if v106 = 0 then fX7_rotate_0_L134 v τ ex f 1 ((k : Int) + 1) else fX7_rotate_0_L134 v τ ex f 0 ((k : Int) + 1))
          rw [hx]
          simp only [e, decide_true, Bool.true_and] at ih'
          generalize mh_all (enB τ k N) v = w at ih' ⊢
          cases u <;> cases w <;> simpa [zb] using ih'
        · rw [if_neg e]
          obtain ⟨x, hx⟩ := mSame0 τ v k (fun v106 v107 => if zb u = 0 then fX7_rotate_0_L134 v τ ex f 0 ((k : Int) + 1) else if v106 = 0 then fX7_rotate_0_L134 v τ ex f 1 ((k : Int) + 1) else fX7_rotate_0_L134 v τ ex f 0 ((k : Int) + 1)) 0
          rw [hx]
          simp only [e, decide_false, Bool.false_and, Bool.not_false, Bool.and_true] at ih'
          cases u <;> simpa [zb] using ih'
      · have : k = N := by omega
        subst this
        rw [if_neg (by omega)]
        exact ⟨_, rfl⟩
  exact W FU 0 (by omega) (by unfold FU; omega)
/-- rows say the same: their rotations have one key -/
theorem roM_same {τ : Mem} {o N : Int} {t u : Int × Int} (L : mh_lat n S.length (PS rk S)) (two : mh_two n S.length (PS rk S)) (hw : ∀ i r : Int, 0 ≤ i → i < S.length → 0 ≤ r → r < n → -1 ≤ PS rk S i r ∧ PS rk S i r < 6) (nm : ∀ i j r : Int, 0 ≤ i → i < S.length → 0 ≤ j → j < S.length → 0 ≤ r → r < n → PS rk S i r ≠ PS rk S j r → 0 ≤ PS rk S i r)
    (l6 : ∀ i j r : Int, 0 ≤ i → i < S.length → 0 ≤ j → j < S.length → 0 ≤ r → r < n → (PS rk S i r = PS rk S j r ↔ gS S i r = gS S j r) ∧ (gS S i r = -1 ↔ gS S j r = -1))
    (ht : 0 ≤ t.1 ∧ t.1 < S.length ∧ 0 ≤ t.2 ∧ t.2 < S.length ∧ mh_step n S.length (PS rk S) t.1 t.2) (hu : 0 ≤ u.1 ∧ u.1 < S.length ∧ 0 ≤ u.2 ∧ u.2 < S.length ∧ mh_step n S.length (PS rk S) u.1 u.2) (rt : roM τ n (PS rk S) S o t) (ru : roM τ n (PS rk S) S N u) {v : Nat} (hv : mh_c (mvB (PS rk S) u.1 u.2) n = v) :
    (decide (τ 6 o = v) && mh_all (enB τ o N) v) = decide (keyS n (PS rk S) t.1 t.2 = keyS n (PS rk S) u.1 u.2) := by
  obtain ⟨f0, f1, f2, f3⟩ := (step_two L two ht.1 ht.2.1 ht.2.2.1 ht.2.2.2.1 ht.2.2.2.2).1
  obtain ⟨g0, g1, g2, g3⟩ := (step_two L two hu.1 hu.2.1 hu.2.2.1 hu.2.2.2.1 hu.2.2.2.2).1
  have vp : 0 < mh_c (mvB (PS rk S) u.1 u.2) n := mh_c_pos g0 g1 (decide_eq_true (Int.ne_of_lt g2))
  by_cases K : keyS n (PS rk S) t.1 t.2 = keyS n (PS rk S) u.1 u.2
  · rw [decide_eq_true K]
    have ro := key_rot L two hw ht.1 ht.2.1 ht.2.2.1 ht.2.2.2.1 hu.1 hu.2.1 hu.2.2.1 hu.2.2.2.1 ht.2.2.2.2 hu.2.2.2.2 nm K
    have rt' := roM_rot rt ro (fun r r0 r1 => ⟨fun z => (l6 _ _ r ht.1 ht.2.1 hu.1 hu.2.1 r0 r1).1.mp z, fun z => (l6 _ _ r ht.2.2.1 ht.2.2.2.1 hu.2.2.1 hu.2.2.2.1 r0 r1).1.mp z⟩)
    rw [Bool.and_eq_true, mh_all_iff]
    refine ⟨by rw [decide_eq_true_eq, rt'.1, hv], fun i i0 i1 => ?_⟩
    have x := rt'.2 i i0 (by omega)
    have y := ru.2 i i0 (by omega)
    unfold enB
    rw [x.1, x.2.1, x.2.2, y.1, y.2.1, y.2.2]
    simp
  · rw [decide_eq_false K]
    by_cases Z : (decide (τ 6 o = v) && mh_all (enB τ o N) v) = true
    · rw [Bool.and_eq_true, mh_all_iff, decide_eq_true_eq] at Z
      have e0 := Z.2 0 (by omega) (by omega)
      have c6 : mh_c (mvB (PS rk S) t.1 t.2) n = v := by rw [← rt.1]; exact Z.1
      have x := rt.2 0 (by omega) (by omega)
      have y := ru.2 0 (by omega) (by omega)
      unfold enB at e0
      rw [x.1, x.2.1, y.1, y.2.1, nthB_0, nthB_0, Bool.and_eq_true, Bool.and_eq_true, decide_eq_true_eq, decide_eq_true_eq] at e0
      exfalso
      apply K
      unfold keyS
      have e1 := e0.2.1
      rw [e0.1] at e1 ⊢
      rw [(l6 _ _ _ ht.1 ht.2.1 hu.1 hu.2.1 g0 g1).1.mpr e1]
    · simpa using Z
/-- what all the rotations that stand there are -/
def qOK (n K : Nat) (P : Int → Int → Int) (Q : List (Int × Int)) : Prop := (∀ t ∈ Q, 0 ≤ t.1 ∧ t.1 < K ∧ 0 ≤ t.2 ∧ t.2 < K ∧ mh_step n K P t.1 t.2) ∧ List.Pairwise (fun t u => keyS n P t.1 t.2 ≠ keyS n P u.1 u.2) Q
theorem mRotate (h : ctM τ n m rk hk sz sz' cp S) {Q : List (Int × Int)} (T : rtM τ n (PS rk S) S Q) (O : qOK n S.length (PS rk S) Q) {a b : Int} (a0 : 0 ≤ a) (a1 : a < S.length) (b0 : 0 ≤ b) (b1 : b < S.length) (st : mh_step n S.length (PS rk S) a b) :
    ∃ τ' Q', fX7_rotate_0 τ a b = some (0, τ') ∧ (∀ c, c ≠ 0 → c ≠ 6 → c ≠ 7 → c ≠ 8 → c ≠ 9 → τ' c = τ c) ∧ (∀ j : Int, j ≠ 10 → τ' 0 j = τ 0 j) ∧ rtM τ' n (PS rk S) S Q' ∧ qOK n S.length (PS rk S) Q' ∧ (∀ t ∈ Q, t ∈ Q') ∧ ∃ t ∈ Q', keyS n (PS rk S) t.1 t.2 = keyS n (PS rk S) a b := by
  obtain ⟨l1, l2, l3, l4, l5, l6, l7⟩ := ctM_fac h
  have n6 : n ≤ 6 := h.1.2.2.1.2.1
  have N15 : Q.length ≤ 15 := rot15 l1 l2 n6 l3 l4 Q O.1 O.2
  have c0 := mh_c_0 (mvB (PS rk S) a b) n
  have c1 := mh_c_le (mvB (PS rk S) a b) n
  obtain ⟨v, hv⟩ : ∃ v : Nat, mh_c (mvB (PS rk S) a b) n = v := ⟨(mh_c (mvB (PS rk S) a b) n).toNat, by omega⟩
  unfold fX7_rotate_0
  obtain ⟨τ1, p1, p2, p3, p4⟩ := mRotRow h a0 a1 b0 b1 T.1 (by omega) (fun σ35 v33 v34 => if (0 : Int) ≤ (σ35 0 10) ∧ ((σ35 0 10) : Int) < 64 then nx (mup σ35 6 (σ35 0 10) v33) fun σ37 => fX7_rotate_0_L134 v33 σ37 (fun v115 v116 => if v115 = 0 then if rng ((σ37 0 10) + 0) then nx (mup σ37 0 10 ((σ37 0 10) + 0)) fun σ118 => some (0, σ118) else none else if (σ37 0 10) < 63 then if rng ((σ37 0 10) + 1) then nx (mup σ37 0 10 ((σ37 0 10) + 1)) fun σ122 => some (0, σ122) else none else if rng ((σ37 0 10) + 0) then nx (mup σ37 0 10 ((σ37 0 10) + 0)) fun σ120 => some (0, σ120) else none) FU 1 0 else none)
  rw [p1, p2 0 (by omega) (by omega) (by omega), T.1, if_pos (by omega), nx_eq, hv]
  rw [hv] at p4
  generalize hτ : mup τ1 6 Q.length (v : Int) = τ2
  have k2 : ∀ c, c ≠ 6 → τ2 c = τ1 c := fun c hc => by rw [← hτ, mup_ne _ _ _ hc]
  have N2 : τ2 0 10 = Q.length := by rw [k2 0 (by omega), p2 0 (by omega) (by omega) (by omega)]; exact T.1
  rw [N2]
  obtain ⟨x, hx⟩ := mFresh (τ := τ2) (N := Q.length) (v := v) N2 (by omega) (by omega) (fun v115 v116 => if v115 = 0 then if rng ((Q.length : Int) + 0) then nx (mup τ2 0 10 ((Q.length : Int) + 0)) fun σ118 => some (0, σ118) else none else if (Q.length : Int) < 63 then if rng ((Q.length : Int) + 1) then nx (mup τ2 0 10 ((Q.length : Int) + 1)) fun σ122 => some (0, σ122) else none else if rng ((Q.length : Int) + 0) then nx (mup τ2 0 10 ((Q.length : Int) + 0)) fun σ120 => some (0, σ120) else none)
  rw [hx]
  have rN : roM τ2 n (PS rk S) S Q.length (a, b) := by
    refine ⟨by rw [← hτ, mup_eq, mh_up_eq, hv], fun i i0 i1 => ?_⟩
    rw [hv] at i1
    rw [k2 7 (by omega), k2 8 (by omega), k2 9 (by omega)]
    exact p4 i i0 i1
  have rO : ∀ (i : Nat) (t : Int × Int), Q[i]? = some t → roM τ2 n (PS rk S) S i t := fun i t ht => by
    have iN : i < Q.length := by
      rcases Nat.lt_or_ge i Q.length with z | z
      · exact z
      · rw [List.getElem?_eq_none z] at ht; cases ht
    have o := T.2 i t ht
    have tm := O.1 t (List.mem_of_getElem? ht)
    have tc := mh_c_le (mvB (PS rk S) t.1 t.2) n
    refine ⟨by rw [← hτ, mup_eq, mh_up_ne _ _ (by omega), p2 6 (by omega) (by omega) (by omega)]; exact o.1, fun j j0 j1 => ?_⟩
    rw [k2 7 (by omega), k2 8 (by omega), k2 9 (by omega), p3 7 (by omega) _ (by omega), p3 8 (by omega) _ (by omega), p3 9 (by omega) _ (by omega)]
    exact o.2 j j0 j1
  have fr : mh_all (fun o => !(decide (τ2 6 o = v) && mh_all (enB τ2 o Q.length) v)) Q.length = true ↔ ∀ t ∈ Q, keyS n (PS rk S) t.1 t.2 ≠ keyS n (PS rk S) a b := by
    rw [mh_all_iff]
    constructor
    · intro z t ht
      obtain ⟨i, hi⟩ := List.getElem?_of_mem ht
      have iN : i < Q.length := by
        rcases Nat.lt_or_ge i Q.length with z | z
        · exact z
        · rw [List.getElem?_eq_none z] at hi; cases hi
      have := z i (by omega) (by omega)
      rw [roM_same (t := t) (u := (a, b)) l1 l2 l3 l4 l6 (O.1 t ht) ⟨a0, a1, b0, b1, st⟩ (rO i t hi) rN hv] at this
      simpa using this
    · intro z o o0 o1
      have iN : o.toNat < Q.length := by omega
      have hi := List.getElem?_eq_getElem iN
      have r1 := rO _ _ hi
      rw [show ((o.toNat : Nat) : Int) = o by omega] at r1
      rw [roM_same (t := Q[o.toNat]) (u := (a, b)) l1 l2 l3 l4 l6 (O.1 _ (List.getElem_mem iN)) ⟨a0, a1, b0, b1, st⟩ r1 rN hv]
      simpa using z _ (List.getElem_mem iN)
  have keep : ∀ (τ3 : Mem), (∀ c, c ≠ 0 → τ3 c = τ2 c) → ∀ i t, roM τ2 n (PS rk S) S i t → roM τ3 n (PS rk S) S i t := fun τ3 e i t r => by
    unfold roM at r ⊢
    rw [e 6 (by omega), e 7 (by omega), e 8 (by omega), e 9 (by omega)]
    exact r
  have rest : ∀ (x : Int) (c : Nat), c ≠ 0 → c ≠ 6 → c ≠ 7 → c ≠ 8 → c ≠ 9 → mup τ2 0 10 x c = τ c := fun x c a b d e f => by rw [mup_ne _ _ _ a, k2 c b, p2 c d e f]
  have rest0 : ∀ (x : Int) (j : Int), j ≠ 10 → mup τ2 0 10 x 0 j = τ 0 j := fun x j hj => by rw [mup_eq, mh_up_ne _ _ hj, k2 0 (by omega), p2 0 (by omega) (by omega) (by omega)]
  cases e : mh_all (fun o => !(decide (τ2 6 o = v) && mh_all (enB τ2 o Q.length) v)) Q.length with
  | true =>
    rw [if_neg (by simp [zb]), if_pos (by omega), if_pos (by omega), nx_eq]
    refine ⟨_, Q ++ [(a, b)], rfl, rest _, rest0 _, ⟨by rw [mup_eq, mh_up_eq, List.length_append]; simp, fun i t ht => ?_⟩, ⟨fun t ht => ?_, ?_⟩, fun t ht => List.mem_append_left _ ht, (a, b), by simp, rfl⟩
    · refine keep _ (fun c hc => mup_ne _ _ _ hc) _ _ ?_
      rcases Nat.lt_or_ge i Q.length with z | z
      · rw [List.getElem?_append_left z] at ht
        exact rO i t ht
      · rw [List.getElem?_append_right z] at ht
        have iz : i = Q.length := by
          rcases Nat.lt_or_ge (i - Q.length) 1 with y | y
          · omega
          · rw [List.getElem?_eq_none (by simpa using y)] at ht; cases ht
        rw [iz, Nat.sub_self] at ht
        have fx : (a, b) = t := by simpa using ht
        rw [iz, ← fx]; exact rN
    · rcases List.mem_append.mp ht with z | z
      · exact O.1 t z
      · rw [List.mem_singleton.mp z]; exact ⟨a0, a1, b0, b1, st⟩
    · rw [List.pairwise_append]
      refine ⟨O.2, List.pairwise_singleton _ _, fun t ht u hu => ?_⟩
      rw [List.mem_singleton.mp hu]
      exact fr.mp e t ht
  | false =>
    rw [if_pos (by simp [zb]), if_pos (by omega), nx_eq]
    refine ⟨_, Q, rfl, rest _, rest0 _, ⟨by rw [mup_eq, mh_up_eq]; omega, fun i t ht => keep _ (fun c hc => mup_ne _ _ _ hc) _ _ (rO i t ht)⟩, O, fun t ht => ht, ?_⟩
    by_cases Z : ∃ t ∈ Q, keyS n (PS rk S) t.1 t.2 = keyS n (PS rk S) a b
    · exact Z
    · have := fr.mpr (fun t ht w => Z ⟨t, ht, w⟩)
      rw [e] at this; cases this
end MWK
