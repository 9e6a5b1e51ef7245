/-! PURE 13: the reference puts its rotations in order; its work -/
/-- but for the rotations' rows the same -/
def prM (τ τ' : Mem) : Prop := (∀ c, c ≠ 0 → c ≠ 6 → c ≠ 7 → c ≠ 8 → c ≠ 9 → τ' c = τ c) ∧ ∀ j : Int, j ≠ 10 → τ' 0 j = τ 0 j
theorem prM_rf (τ : Mem) : prM τ τ := ⟨fun _ _ _ _ _ _ => rfl, fun _ _ => rfl⟩
theorem prM_tr {τ τ' τ2 : Mem} (a : prM τ τ') (b : prM τ' τ2) : prM τ τ2 := ⟨fun c x y z u v => by rw [b.1 c x y z u v, a.1 c x y z u v], fun j hj => by rw [b.2 j hj, a.2 j hj]⟩
theorem prM_ct {τ τ' : Mem} {n m : Nat} {rk hk : Int → Int → Int} {sz sz' cp : Int → Int} {S : List (Int → Int)} (h : ctM τ n m rk hk sz sz' cp S) (a : prM τ τ') : ctM τ' n m rk hk sz sz' cp S :=
  ctM_same h (a.2 1 (by omega)) (a.2 2 (by omega)) (a.2 8 (by omega)) (fun k hk => a.1 k (by omega) (by omega) (by omega) (by omega) (by omega))
/-- two rows of six change places -/
def swp (f : Int → Int) (a b k : Int) : Int → Int := fun j => if 6 * a ≤ j ∧ j < 6 * a + k then f (j - 6 * a + 6 * b) else if 6 * b ≤ j ∧ j < 6 * b + k then f (j - 6 * b + 6 * a) else f j
theorem swp_0 (f : Int → Int) (a b : Int) : swp f a b 0 = f := by
  funext j; unfold swp; rw [if_neg (by omega), if_neg (by omega)]
theorem swp_s {f : Int → Int} {a b k : Int} (k0 : 0 ≤ k) (k6 : k < 6) (ne : a ≠ b) : mh_up (mh_up (swp f a b k) (6 * a + k) (swp f a b k (6 * b + k))) (6 * b + k) (swp f a b k (6 * a + k)) = swp f a b (k + 1) := by
  have u : ∀ j : Int, (j = 6 * a + k ∨ j = 6 * b + k) → swp f a b k j = f j := fun j hj => by unfold swp; rw [if_neg (by omega), if_neg (by omega)]
  rw [u (6 * b + k) (Or.inr rfl), u (6 * a + k) (Or.inl rfl)]
  funext j
  by_cases e : j = 6 * b + k
  · rw [e, mh_up_eq]; unfold swp; rw [if_neg (by omega), if_pos (by omega)]; congr 1; omega
  · rw [mh_up_ne _ _ e]
    by_cases d : j = 6 * a + k
    · rw [d, mh_up_eq]; unfold swp; rw [if_pos (by omega)]; congr 1; omega
    · rw [mh_up_ne _ _ d]
      unfold swp
      by_cases x : 6 * a ≤ j ∧ j < 6 * a + k
      · rw [if_pos x, if_pos (by omega)]
      · rw [if_neg x, if_neg (show ¬ (6 * a ≤ j ∧ j < 6 * a + (k + 1)) by omega)]
        by_cases y : 6 * b ≤ j ∧ j < 6 * b + k
        · rw [if_pos y, if_pos (by omega)]
        · rw [if_neg y, if_neg (by omega)]
theorem mSwap (τ : Mem) {a b : Int} (a0 : 0 ≤ a) (a1 : a < 64) (b0 : 0 ≤ b) (b1 : b < 64) (ne : a ≠ b) : ∃ τ', fX7_swap_0 τ a b = some (0, τ') ∧ (∀ c, c ≠ 6 → c ≠ 7 → c ≠ 8 → c ≠ 9 → τ' c = τ c) ∧ τ' 6 = mh_up (mh_up (τ 6) a (τ 6 b)) b (τ 6 a) ∧ τ' 7 = swp (τ 7) a b 6 ∧ τ' 8 = swp (τ 8) a b 6 ∧ τ' 9 = swp (τ 9) a b 6 := by
  have W : ∀ (f k : Nat) (τ1 : Mem), k ≤ 6 → 6 < f + k → (∀ c, c ≠ 6 → c ≠ 7 → c ≠ 8 → c ≠ 9 → τ1 c = τ c) → τ1 6 = mh_up (mh_up (τ 6) a (τ 6 b)) b (τ 6 a) → τ1 7 = swp (τ 7) a b k → τ1 8 = swp (τ 8) a b k → τ1 9 = swp (τ 9) a b k → ∃ τ', fX7_swap_0_L29 a b (fun σ54 v53 => some (0, σ54)) f τ1 k = some (0, τ') ∧ (∀ c, c ≠ 6 → c ≠ 7 → c ≠ 8 → c ≠ 9 → τ' c = τ c) ∧ τ' 6 = mh_up (mh_up (τ 6) a (τ 6 b)) b (τ 6 a) ∧ τ' 7 = swp (τ 7) a b 6 ∧ τ' 8 = swp (τ 8) a b 6 ∧ τ' 9 = swp (τ 9) a b 6 := by
    intro f
    induction f with
    | zero => intro k τ1 h1 h2; omega
    | succ f ih =>
      intro k τ1 h1 h2 e0 e6 e7 e8 e9
      rw [fX7_swap_0_L29]
      rcases Nat.lt_or_ge k 6 with c | c
      · repeat rw [if_pos (by omega)]
        rw [nx_eq]
        repeat rw [if_pos (by omega)]
        rw [nx_eq]
        repeat rw [if_pos (by omega)]
        rw [nx_eq]
        repeat rw [if_pos (by omega)]
        rw [nx_eq]
        repeat rw [if_pos (by omega)]
        rw [nx_eq]
        repeat rw [if_pos (by omega)]
        rw [nx_eq]
        repeat rw [if_pos (by omega)]
        have s7 := swp_s (f := τ 7) (a := a) (b := b) (k := k) (by omega) (by omega) ne
        have s8 := swp_s (f := τ 8) (a := a) (b := b) (k := k) (by omega) (by omega) ne
        have s9 := swp_s (f := τ 9) (a := a) (b := b) (k := k) (by omega) (by omega) ne
        rw [← e7] at s7
        rw [← e8] at s8
        rw [← e9] at s9
        have := ih (k + 1) (mup (mup (mup (mup (mup (mup τ1 7 (6 * a + k) (τ1 7 (6 * b + k))) 7 (6 * b + k) (τ1 7 (6 * a + k))) 8 (6 * a + k) (τ1 8 (6 * b + k))) 8 (6 * b + k) (τ1 8 (6 * a + k))) 9 (6 * a + k) (τ1 9 (6 * b + k))) 9 (6 * b + k) (τ1 9 (6 * a + k))) (by omega) (by omega)
          (fun c w x y z => by rw [mup_ne _ _ _ z, mup_ne _ _ _ z, mup_ne _ _ _ y, mup_ne _ _ _ y, mup_ne _ _ _ x, mup_ne _ _ _ x]; exact e0 c w x y z)
          (by rw [mup_ne _ _ _ (by omega), mup_ne _ _ _ (by omega), mup_ne _ _ _ (by omega), mup_ne _ _ _ (by omega), mup_ne _ _ _ (by omega), mup_ne _ _ _ (by omega)]; exact e6)
          (by rw [mup_ne _ _ _ (by omega), mup_ne _ _ _ (by omega), mup_ne _ _ _ (by omega), mup_ne _ _ _ (by omega), mup_eq, mup_eq]; exact s7)
          (by rw [mup_ne _ _ _ (by omega), mup_ne _ _ _ (by omega), mup_eq, mup_eq, mup_ne _ _ _ (by omega), mup_ne _ _ _ (by omega)]; exact s8)
          (by rw [mup_eq, mup_eq, mup_ne _ _ _ (by omega), mup_ne _ _ _ (by omega), mup_ne _ _ _ (by omega), mup_ne _ _ _ (by omega)]; exact s9)
        rw [show ((k + 1 : Nat) : Int) = (k : Int) + 1 by omega] at this
        obtain ⟨τ', t1, t2⟩ := this
        refine ⟨τ', ?_, t2⟩
        rw [← t1]
        congr 1
      · have : k = 6 := by omega
        subst this
        rw [if_neg (by omega)]
        exact ⟨τ1, rfl, e0, e6, e7, e8, e9⟩
  unfold fX7_swap_0
  repeat rw [if_pos (by omega)]
  rw [nx_eq]
  repeat rw [if_pos (by omega)]
  rw [nx_eq]
  have := W FU 0 (mup (mup τ 6 a (τ 6 b)) 6 b (τ 6 a)) (by omega) (by unfold FU; omega) (fun c w x y z => by rw [mup_ne _ _ _ w, mup_ne _ _ _ w]) (by rw [mup_eq, mup_eq]) (by rw [mup_ne _ _ _ (by omega), mup_ne _ _ _ (by omega)]; exact (swp_0 _ _ _).symm) (by rw [mup_ne _ _ _ (by omega), mup_ne _ _ _ (by omega)]; exact (swp_0 _ _ _).symm) (by rw [mup_ne _ _ _ (by omega), mup_ne _ _ _ (by omega)]; exact (swp_0 _ _ _).symm)
  exact this
section MSO
variable {τ : Mem} {n m : Nat} {rk hk : Int → Int → Int} {sz sz' cp : Int → Int} {S : List (Int → Int)}
theorem mGo (h : ctM τ n m rk hk sz sz' cp S) {i j : Int} (i0 : 0 ≤ i) (i1 : i < 64) (j0 : 0 ≤ j) (j1 : j < 64) {t u : Int × Int} (ht : 0 ≤ t.1 ∧ t.1 < S.length ∧ 0 ≤ t.2 ∧ t.2 < S.length ∧ mh_step n S.length (PS rk S) t.1 t.2) (hu : 0 ≤ u.1 ∧ u.1 < S.length ∧ 0 ≤ u.2 ∧ u.2 < S.length ∧ mh_step n S.length (PS rk S) u.1 u.2) (rt : roM τ n (PS rk S) S i t) (ru : roM τ n (PS rk S) S j u) :
    fX7_goesBefore_0 τ i j = some (zb (decide (keyS n (PS rk S) t.1 t.2 < keyS n (PS rk S) u.1 u.2))) := by
  obtain ⟨l1, l2, l3, l4, l5, l6, l7⟩ := ctM_fac h
  obtain ⟨f0, f1, f2, f3⟩ := (step_two l1 l2 ht.1 ht.2.1 ht.2.2.1 ht.2.2.2.1 ht.2.2.2.2).1
  obtain ⟨g0, g1, g2, g3⟩ := (step_two l1 l2 hu.1 hu.2.1 hu.2.2.1 hu.2.2.2.1 hu.2.2.2.2).1
  have vt : 0 < mh_c (mvB (PS rk S) t.1 t.2) n := mh_c_pos f0 f1 (decide_eq_true (Int.ne_of_lt f2))
  have vu : 0 < mh_c (mvB (PS rk S) u.1 u.2) n := mh_c_pos g0 g1 (decide_eq_true (Int.ne_of_lt g2))
  have x := rt.2 0 (by omega) vt
  have y := ru.2 0 (by omega) vu
  rw [nthB_0, Int.add_zero] at x y
  have px := l3 t.1 _ ht.1 ht.2.1 f0 f1
  have py := l3 u.1 _ hu.1 hu.2.1 g0 g1
  have qx := l4 t.1 t.2 _ ht.1 ht.2.1 ht.2.2.1 ht.2.2.2.1 f0 f1 (by omega)
  have qy := l4 u.1 u.2 _ hu.1 hu.2.1 hu.2.2.1 hu.2.2.2.1 g0 g1 (by omega)
  unfold fX7_goesBefore_0
  repeat rw [if_pos (by omega)]
  rw [x.1, y.1, x.2.1, y.2.1]
  unfold keyS
  by_cases c : mh_f (mvB (PS rk S) t.1 t.2) n < mh_f (mvB (PS rk S) u.1 u.2) n
  · rw [if_pos c, decide_eq_true (by omega)]; rfl
  · rw [if_neg c]
    by_cases d : mh_f (mvB (PS rk S) t.1 t.2) n = mh_f (mvB (PS rk S) u.1 u.2) n
    · rw [if_pos d]
      repeat rw [if_pos (by omega)]
      rw [ctM_pl h ht.1 ht.2.1 f0 f1, Option.bind_some]
      repeat rw [if_pos (by omega)]
      rw [ctM_pl h hu.1 hu.2.1 g0 g1, Option.bind_some]
      by_cases e : PS rk S t.1 (mh_f (mvB (PS rk S) t.1 t.2) n) < PS rk S u.1 (mh_f (mvB (PS rk S) u.1 u.2) n)
      · rw [if_pos e, decide_eq_true (by omega)]; rfl
      · rw [if_neg e, decide_eq_false (by omega)]; rfl
    · rw [if_neg d, decide_eq_false (by omega)]; rfl
def kcM (n : Nat) (P : Int → Int → Int) (c : Nat → Int × Int) (i : Nat) : Int := keyS n P (c i).1 (c i).2
def srM (τ : Mem) (n : Nat) (P : Int → Int → Int) (S : List (Int → Int)) (N : Nat) (c : Nat → Int × Int) : Prop := τ 0 10 = N ∧ ∀ i : Nat, i < N → roM τ n P S i (c i)
def bagM (n K : Nat) (P : Int → Int → Int) (N : Nat) (c : Nat → Int × Int) : Prop := (∀ i : Nat, i < N → 0 ≤ (c i).1 ∧ (c i).1 < K ∧ 0 ≤ (c i).2 ∧ (c i).2 < K ∧ mh_step n K P (c i).1 (c i).2) ∧ (∀ i j : Nat, i < N → j < N → i ≠ j → kcM n P c i ≠ kcM n P c j) ∧ ∀ A B : Int, 0 ≤ A → A < K → 0 ≤ B → B < K → mh_step n K P A B → ∃ i : Nat, i < N ∧ kcM n P c i = keyS n P A B
def swC (c : Nat → Int × Int) (a b : Nat) : Nat → Int × Int := fun i => if i = a then c b else if i = b then c a else c i
theorem swC_a (c : Nat → Int × Int) (a b : Nat) : swC c a b a = c b := if_pos rfl
theorem swC_b (c : Nat → Int × Int) {a b : Nat} (h : b ≠ a) : swC c a b b = c a := by unfold swC; rw [if_neg h, if_pos rfl]
theorem swC_o (c : Nat → Int × Int) {a b i : Nat} (h : i ≠ a) (h' : i ≠ b) : swC c a b i = c i := by unfold swC; rw [if_neg h, if_neg h']
theorem bagM_sw {K N : Nat} {P : Int → Int → Int} {c : Nat → Int × Int} (h : bagM n K P N c) {a b : Nat} (ha : a < N) (hb : b < N) : bagM n K P N (swC c a b) := by
  have ix : ∀ i : Nat, i < N → ∃ j : Nat, j < N ∧ swC c a b i = c j ∧ (i = a → j = b) ∧ (i ≠ a → i = b → j = a) ∧ (i ≠ a → i ≠ b → j = i) := fun i hi => by
    by_cases e : i = a
    · exact ⟨b, hb, by rw [e, swC_a], fun _ => rfl, fun z => absurd e z, fun z => absurd e z⟩
    · by_cases d : i = b
      · exact ⟨a, ha, by rw [d, swC_b c (by omega)], fun z => absurd z e, fun _ _ => rfl, fun _ z => absurd d z⟩
      · exact ⟨i, hi, swC_o c e d, fun z => absurd z e, fun _ z => absurd z d, fun _ _ => rfl⟩
  refine ⟨fun i hi => ?_, fun i j hi hj ne => ?_, fun A B A0 A1 B0 B1 st => ?_⟩
  · obtain ⟨x, x1, x2, -⟩ := ix i hi
    rw [x2]; exact h.1 x x1
  · obtain ⟨x, x1, x2, x3, x4, x5⟩ := ix i hi
    obtain ⟨y, y1, y2, y3, y4, y5⟩ := ix j hj
    unfold kcM
    rw [x2, y2]
    refine h.2.1 x y x1 y1 (fun e => ?_)
    by_cases p : i = a
    · have := x3 p
      by_cases q : j = b
      · by_cases r : j = a
        · omega
        · have := y4 r q; omega
      · by_cases r : j = a
        · omega
        · have := y5 r q; omega
    · by_cases p' : i = b
      · have := x4 p p'
        by_cases r : j = a
        · have := y3 r; omega
        · have := y5 r (by omega); omega
      · have := x5 p p'
        by_cases r : j = a
        · have := y3 r; omega
        · by_cases q : j = b
          · have := y4 r q; omega
          · have := y5 r q; omega
  · obtain ⟨i, hi, e⟩ := h.2.2 A B A0 A1 B0 B1 st
    by_cases p : i = a
    · subst p
      by_cases q : b = i
      · subst q; exact ⟨b, hb, by unfold kcM; rw [swC_a]; exact e⟩
      · exact ⟨b, hb, by unfold kcM; rw [swC_b c q]; exact e⟩
    · by_cases q : i = b
      · subst q; exact ⟨a, ha, by unfold kcM; rw [swC_a]; exact e⟩
      · exact ⟨i, hi, by unfold kcM; rw [swC_o c p q]; exact e⟩
theorem srM_sw {N : Nat} {P : Int → Int → Int} {c : Nat → Int × Int} (n6 : n ≤ 6) (h : srM τ n P S N c) {a b : Nat} (ha : a < N) (hb : b < N) (ne : a ≠ b) (N6 : N < 64) : ∃ τ', fX7_swap_0 τ a b = some (0, τ') ∧ prM τ τ' ∧ srM τ' n P S N (swC c a b) := by
  obtain ⟨τ', t1, t2, t6, t7, t8, t9⟩ := mSwap τ (a := a) (b := b) (by omega) (by omega) (by omega) (by omega) (by omega)
  refine ⟨τ', t1, ⟨fun c a b d e f => t2 c b d e f, fun j _ => by rw [t2 0 (by omega) (by omega) (by omega) (by omega)]⟩, by rw [t2 0 (by omega) (by omega) (by omega) (by omega)]; exact h.1, fun i hi => ?_⟩
  have sw : ∀ (f : Int → Int) (x : Nat) (y : Int), 0 ≤ y → y < 6 → swp f a b 6 (6 * (x : Int) + y) = f (6 * ((if x = a then b else if x = b then a else x : Nat) : Int) + y) := fun f x y y0 y1 => by
    unfold swp
    by_cases e : x = a
    · rw [if_pos (by omega), if_pos e]; congr 1; omega
    · rw [if_neg (by omega), if_neg e]
      by_cases d : x = b
      · rw [if_pos (by omega), if_pos d]; congr 1; omega
      · rw [if_neg (by omega), if_neg d]
  have main : ∀ x : Nat, x < N → (if i = a then b else if i = b then a else i : Nat) = x → swC c a b i = c x → roM τ' n P S i (swC c a b i) := fun x hx e1 e2 => by
    rw [e2]
    have r := h.2 x hx
    have cl := mh_c_le (mvB P (c x).1 (c x).2) n
    unfold roM at r ⊢
    refine ⟨?_, fun y y0 y1 => ?_⟩
    · rw [t6, ← r.1]
      by_cases d : i = b
      · subst d
        rw [mh_up_eq]
        rw [if_neg (by omega), if_pos rfl] at e1
        rw [e1]
      · rw [mh_up_ne _ _ (by omega)]
        by_cases d' : i = a
        · subst d'
          rw [mh_up_eq]
          rw [if_pos rfl] at e1
          rw [e1]
        · rw [mh_up_ne _ _ (by omega)]
          rw [if_neg d', if_neg d] at e1
          rw [e1]
    · rw [t7, t8, t9, sw _ i y y0 (by omega), sw _ i y y0 (by omega), sw _ i y y0 (by omega), e1]
      exact r.2 y y0 y1
  by_cases e : i = a
  · exact main b hb (by rw [if_pos e]) (by rw [e, swC_a])
  · by_cases d : i = b
    · exact main a ha (by rw [if_neg e, if_pos d]) (by rw [d, swC_b c (by omega)])
    · exact main i hi (by rw [if_neg e, if_neg d]) (swC_o c e d)
theorem mIns {τ0 : Mem} (h : ctM τ0 n m rk hk sz sz' cp S) {N k : Nat} (hk' : k < N) (N6 : N < 64) : ∀ (f j : Nat) (τ : Mem) (c : Nat → Int × Int), j ≤ k → j < f → prM τ0 τ → srM τ n (PS rk S) S N c → bagM n S.length (PS rk S) N c → (∀ x y : Nat, x < y → y ≤ k → x ≠ j → y ≠ j → kcM n (PS rk S) c x < kcM n (PS rk S) c y) → (∀ y : Nat, j < y → y ≤ k → kcM n (PS rk S) c j < kcM n (PS rk S) c y) →
    ∃ τ' c' v, (∀ ex : Mem → Int → Option (Int × Mem), fX7_work_0_L75 ex f τ j = ex τ' v) ∧ prM τ0 τ' ∧ srM τ' n (PS rk S) S N c' ∧ bagM n S.length (PS rk S) N c' ∧ ∀ x y : Nat, x < y → y ≤ k → kcM n (PS rk S) c' x < kcM n (PS rk S) c' y := by
  intro f
  induction f with
  | zero => intro j τ c h1 h2; omega
  | succ f ih =>
    intro j τ c jk jf p sr bg s1 s2
    have hc := prM_ct h p
    have n6 : n ≤ 6 := h.1.2.2.1.2.1
    by_cases j0 : j = 0
    · subst j0
      refine ⟨τ, c, 0, fun ex => ?_, p, sr, bg, fun x y xy yk => ?_⟩
      · rw [fX7_work_0_L75, if_neg (by omega)]; rfl
      · by_cases e : x = 0
        · rw [e]; exact s2 y (by omega) yk
        · exact s1 x y xy yk e (by omega)
    · have go := mGo hc (i := j) (j := ((j - 1 : Nat) : Int)) (by omega) (by omega) (by omega) (by omega) (bg.1 j (by omega)) (bg.1 (j - 1) (by omega)) (sr.2 j (by omega)) (sr.2 (j - 1) (by omega))
      rw [show ((j - 1 : Nat) : Int) = (j : Int) - 1 by omega] at go
      by_cases e : kcM n (PS rk S) c j < kcM n (PS rk S) c (j - 1)
      · obtain ⟨τ1, q1, q2, q3⟩ := srM_sw n6 sr (a := j) (b := j - 1) (by omega) (by omega) (by omega) N6
        rw [show ((j - 1 : Nat) : Int) = (j : Int) - 1 by omega] at q1
        have ka : kcM n (PS rk S) (swC c j (j - 1)) j = kcM n (PS rk S) c (j - 1) := by unfold kcM; rw [swC_a]
        have kb : kcM n (PS rk S) (swC c j (j - 1)) (j - 1) = kcM n (PS rk S) c j := by unfold kcM; rw [swC_b c (by omega)]
        have ko : ∀ x, x ≠ j → x ≠ j - 1 → kcM n (PS rk S) (swC c j (j - 1)) x = kcM n (PS rk S) c x := fun x a b => by unfold kcM; rw [swC_o c a b]
        obtain ⟨τ', c', v, w1, w2⟩ := ih (j - 1) τ1 (swC c j (j - 1)) (by omega) (by omega) (prM_tr p q2) q3 (bagM_sw bg (by omega) (by omega)) (fun x y xy yk xj yj => by
            by_cases a : x = j
            · rw [a, ka, ko y (by omega) yj]
              exact s1 (j - 1) y (by omega) yk (by omega) (by omega)
            · by_cases b : y = j
              · rw [b, ka, ko x a xj]
                exact s1 x (j - 1) (by omega) (by omega) a (by omega)
              · rw [ko x a xj, ko y b yj]; exact s1 x y xy yk a b) (fun y yj yk => by
            rw [kb]
            by_cases a : y = j
            · rw [a, ka]; exact e
            · rw [ko y a (by omega)]; exact s2 y (by omega) yk)
        refine ⟨τ', c', v, fun ex => ?_, w2⟩
        rw [fX7_work_0_L75, if_pos (by omega), if_pos (by omega), go, Option.bind_some, if_neg (by
          have : decide (keyS n (PS rk S) (c j).1 (c j).2 < keyS n (PS rk S) (c (j - 1)).1 (c (j - 1)).2) = true := decide_eq_true e
          rw [this]; simp [zb]), if_pos (by omega), q1, bnd2_some, if_pos (by omega)]
        have := w1 ex
        rw [show ((j - 1 : Nat) : Int) = (j : Int) + (-1) by omega] at this
        exact this
      · have lt : kcM n (PS rk S) c (j - 1) < kcM n (PS rk S) c j := by
          have := bg.2.1 j (j - 1) (by omega) (by omega) (by omega)
          omega
        refine ⟨τ, c, j, fun ex => ?_, p, sr, bg, fun x y xy yk => ?_⟩
        · rw [fX7_work_0_L75, if_pos (by omega), if_pos (by omega), go, Option.bind_some, if_pos (by
            have : decide (keyS n (PS rk S) (c j).1 (c j).2 < keyS n (PS rk S) (c (j - 1)).1 (c (j - 1)).2) = false := decide_eq_false e
            rw [this]; simp [zb])]
        · by_cases a : x = j
          · rw [a]; exact s2 y (by omega) yk
          · by_cases b : y = j
            · rw [b]
              by_cases d : x = j - 1
              · rw [d]; exact lt
              · have := s1 x (j - 1) (by omega) (by omega) a (by omega)
                omega
            · exact s1 x y xy yk a b
theorem mSort {τ0 : Mem} (h : ctM τ0 n m rk hk sz sz' cp S) {N : Nat} (N6 : N < 64) (ex : Mem → Int → Option (Int × Mem)) : ∀ (f k : Nat) (τ : Mem) (c : Nat → Int × Int), 1 ≤ f → N < f + k → prM τ0 τ → srM τ n (PS rk S) S N c → bagM n S.length (PS rk S) N c → (∀ x y : Nat, x < y → y < k → y < N → kcM n (PS rk S) c x < kcM n (PS rk S) c y) →
    ∃ τ' c' v, fX7_work_0_L65 ex f τ k = ex τ' v ∧ prM τ0 τ' ∧ srM τ' n (PS rk S) S N c' ∧ bagM n S.length (PS rk S) N c' ∧ ∀ x y : Nat, x < y → y < N → kcM n (PS rk S) c' x < kcM n (PS rk S) c' y := by
  intro f
  induction f with
  | zero => intro k τ c h1; omega
  | succ f ih =>
    intro k τ c h1 h2 p sr bg s1
    rw [fX7_work_0_L65, sr.1]
    rcases Nat.lt_or_ge k N with z | z
    · obtain ⟨τ1, c1, v, w1, w2, w3, w4, w5⟩ := mIns h z N6 FU k τ c (Nat.le_refl _) (by unfold FU; omega) p sr bg (fun x y xy yk _ yj => s1 x y xy (by omega) (by omega)) (fun y a b => by omega)
      rw [if_pos (by omega), w1, if_pos (by omega)]
      have := ih (k + 1) τ1 c1 (by omega) (by omega) w2 w3 w4 (fun x y xy yk _ => w5 x y xy (by omega))
      rw [show ((k + 1 : Nat) : Int) = (k : Int) + 1 by omega] at this
      exact this
    · rw [if_neg (by omega)]
      exact ⟨τ, c, k, rfl, p, sr, bg, fun x y xy yN => s1 x y xy (by omega) yN⟩
end MSO
