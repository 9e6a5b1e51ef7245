/-! PURE 10: the reference finds all stable matchings, in order -/
def opM (m : Nat) (rk : Int → Int → Int) (sz : Int → Int) (r : Int) : List Int := (List.range (sz r).toNat).map (fun j : Nat => atF m rk r (j : Int)) ++ [-1]
def okM (hk : Int → Int → Int) (cp : Int → Int) (k : Int) (f : Int → Int) (h : Int) : Bool := decide (h = -1) || (decide (hk h k ≠ -1) && decide (mh_c (fun q => decide (f q = h)) k.toNat < cp h))
def enM (n m : Nat) (rk hk : Int → Int → Int) (cp sz : Int → Int) : Nat → Int → (Int → Int) → List (Int → Int) := mh_en (opM m rk sz) (okM hk cp) (lfC n m rk hk cp)
theorem opM_mem {m : Nat} {rk : Int → Int → Int} {sz : Int → Int} {r x : Int} : x ∈ opM m rk sz r ↔ x = -1 ∨ ∃ p : Int, 0 ≤ p ∧ p < sz r ∧ x = atF m rk r p := by
  unfold opM
  rw [List.mem_append, List.mem_map, List.mem_singleton]
  constructor
  · rintro (⟨j, hj, e⟩ | e)
    · rw [List.mem_range] at hj
      exact Or.inr ⟨j, by omega, by omega, e.symm⟩
    · exact Or.inl e
  · rintro (e | ⟨p, p0, p1, e⟩)
    · exact Or.inr e
    · refine Or.inl ⟨p.toNat, List.mem_range.mpr (by omega), ?_⟩
      rw [e, show ((p.toNat : Nat) : Int) = p by omega]
theorem opM_sorted {n m : Nat} {rk : Int → Int → Int} {sz : Int → Int} (L : lsI rk sz n m) (r : Int) (r0 : 0 ≤ r) (r1 : r < n) : List.Pairwise (bef rk r) (opM m rk sz r) := by
  unfold opM
  rw [List.pairwise_append]
  refine ⟨?_, List.pairwise_singleton _ _, ?_⟩
  · rw [List.pairwise_map]
    refine List.Pairwise.imp_of_mem (R := fun a b : Nat => a < b) ?_ List.pairwise_lt_range
    intro i j hi hj hij
    rw [List.mem_range] at hi hj
    have a := atF_ok L r0 r1 (p := i) (by omega) (by omega)
    have c := atF_ok L r0 r1 (p := j) (by omega) (by omega)
    refine ⟨by omega, Or.inr ?_⟩
    rw [a.2.2, c.2.2]; omega
  · intro a ha b hb
    rw [List.mem_map] at ha
    obtain ⟨j, hj, e⟩ := ha
    rw [List.mem_range] at hj
    have a := atF_ok L r0 r1 (p := j) (by omega) (by omega)
    exact ⟨by omega, Or.inl (List.mem_singleton.mp hb)⟩
theorem mh_c_le_mono {p : Int → Bool} {k n : Nat} (h : k ≤ n) : mh_c p k ≤ mh_c p n := by
  induction n with
  | zero => have : k = 0 := by omega
            subst this; exact Int.le_refl _
  | succ n ih =>
    by_cases e : k = n + 1
    · subst e; exact Int.le_refl _
    · have := ih (by omega)
      rw [mh_c_succ _ n]
      split <;> omega
theorem enM_ok {n m : Nat} {rk hk : Int → Int → Int} {cp sz sz' : Int → Int} (L : lsI rk sz n m) (_L' : lsI hk sz' m n) (hcp : ∀ h : Int, 0 ≤ h → h < m → 1 ≤ cp h ∧ cp h ≤ 3) :
    sOK n m rk hk cp (enM n m rk hk cp sz n 0 (fun _ => -1)) := by
  refine ⟨fun x => ?_, mh_en_sorted (opM_sorted L) n 0 _ (by omega) (by omega)⟩
  unfold enM
  rw [mh_en_mem]
  have cc : ∀ r : Int, mh_c (fun q => decide (mh_rs x (fun _ => -1) r q = x r)) r.toNat = mh_c (fun q => decide (x q = x r)) r.toNat := fun r => mh_c_congr (fun q q0 q1 => by rw [mh_rs_lt _ _ (by omega)])
  constructor
  · rintro ⟨h1, h2, h3⟩
    have out : ∀ q : Int, (q < 0 ∨ n ≤ q) → x q = -1 := fun q hq => h1 q (by omega)
    have val : ∀ r : Int, 0 ≤ r → r < n → x r = -1 ∨ (0 ≤ x r ∧ x r < m ∧ mh_pr rk hk r (x r) ∧ mh_c (fun q => decide (x q = x r)) r.toNat < cp (x r)) := fun r r0 r1 => by
      obtain ⟨a, b⟩ := h2 r r0 (by omega)
      by_cases e : x r = -1
      · exact Or.inl e
      · right
        obtain ⟨p, p0, p1, ep⟩ := (opM_mem.mp a).resolve_left e
        have c := atF_ok L r0 r1 p0 p1
        unfold okM at b
        rw [cc] at b
        simp only [e, decide_false, Bool.false_or, Bool.and_eq_true, decide_eq_true_eq] at b
        refine ⟨by omega, by omega, ⟨?_, b.1⟩, b.2⟩
        rw [ep, c.2.2]; omega
    have cnt : ∀ (h : Int), 0 ≤ h → h < m → ∀ k : Nat, k ≤ n → mh_c (fun q => decide (x q = h)) k ≤ cp h := fun h h0 h1 k => by
      induction k with
      | zero => intro _; have := hcp h h0 h1; show (0 : Int) ≤ cp h; omega
      | succ k ih =>
        intro hk
        have i1 := ih (by omega)
        rw [mh_c_succ]
        by_cases e : x k = h
        · rcases val k (by omega) (by omega) with v | ⟨-, -, -, v⟩
          · omega
          · rw [e, show ((k : Int)).toNat = k by omega] at v
            simp only [e, decide_true, if_true]; omega
        · simp only [e, decide_false, Bool.false_eq_true, if_false]; omega
    refine ⟨out, ⟨fun r r0 r1 => ?_, fun h h0 h1 => cnt h h0 h1 n (Nat.le_refl _)⟩, fun r h r0 r1 h0 h1 B => ?_⟩
    · rcases val r r0 r1 with v | ⟨v1, v2, v3, -⟩
      · exact Or.inl v
      · exact Or.inr ⟨v1, v2, v3⟩
    · unfold lfC at h3
      rw [decide_eq_true_eq, bpO_none] at h3
      have := h3 r h r0 r1 h0 h1
      rw [blkB_iff.mpr B] at this
      cases this
  · rintro ⟨out, st⟩
    refine ⟨fun q hq => out q (by omega), fun r r0 r1 => ?_, ?_⟩
    · have r1' : r < n := by omega
      have tn : ((r.toNat : Nat) : Int) = r := by omega
      by_cases e : x r = -1
      · exact ⟨opM_mem.mpr (Or.inl e), by unfold okM; simp [e]⟩
      · have a := (st.1.1 r r0 r1').resolve_left e
        have b := (L r r0 r1').2.1 _ a.1 a.2.1
        have c := a.2.2.1
        refine ⟨opM_mem.mpr (Or.inr ⟨rk r (x r), by omega, by omega, (atF_rk L r0 r1' a.1 a.2.1 c).symm⟩), ?_⟩
        unfold okM
        rw [cc]
        simp only [e, decide_false, Bool.false_or, Bool.and_eq_true, decide_eq_true_eq]
        refine ⟨a.2.2.2, ?_⟩
        have s1 : mh_c (fun q => decide (x q = x r)) (r.toNat + 1) = mh_c (fun q => decide (x q = x r)) r.toNat + 1 := by rw [mh_c_succ, tn]; simp
        have s3 := mh_c_le_mono (p := fun q => decide (x q = x r)) (show r.toNat + 1 ≤ n by omega)
        have s4 := st.1.2 _ a.1 a.2.1
        have s5 : mh_at n x (x r) = mh_c (fun q => decide (x q = x r)) n := rfl
        omega
    · unfold lfC
      rw [decide_eq_true_eq, bpO_none]
      intro r h r0 r1 h0 h1
      by_cases B : blkB n rk hk cp x r h = true
      · exact absurd (blkB_iff.mp B) (st.2 r h r0 r1 h0 h1)
      · simpa using B
/-- two lists of all stable matchings in order are one -/
theorem sOK_eq {n m : Nat} {rk hk : Int → Int → Int} {cp : Int → Int} {S S' : List (Int → Int)} (a : sOK n m rk hk cp S) (b : sOK n m rk hk cp S') : S = S' :=
  mh_sorted_eq (mh_lx_asym (fun q x y h => bef_asym q x y h)) S S' a.2 b.2 (fun x => (a.1 x).trans (b.1 x).symm)
/-- rows in the reference -/
def stM (τ : Mem) (n : Nat) (S : List (Int → Int)) : Prop := τ 0 8 = S.length ∧ ∀ (i : Nat) (x : Int → Int), S[i]? = some x → ∀ r : Int, 0 ≤ r → r < n → τ 5 (6 * i + r) = x r
def seM (τ0 τ : Mem) (k : Nat) (f : Int → Int) : Prop := (∀ c, c ≠ 0 → c ≠ 5 → c ≠ 10 → c ≠ 11 → τ c = τ0 c) ∧ (∀ j : Int, j ≠ 8 → τ 0 j = τ0 0 j) ∧ ∀ q : Int, 0 ≤ q → q < k → τ 10 q = f q
section MFA
variable {τ0 : Mem} {n m : Nat} {rk hk : Int → Int → Int} {sz sz' cp : Int → Int}
theorem seM_li (I : liM τ0 n m rk hk sz sz' cp) {τ : Mem} {k : Nat} {f : Int → Int} (E : seM τ0 τ k f) : liM τ n m rk hk sz sz' cp :=
  liM_same I (E.2.1 1 (by omega)) (E.2.1 2 (by omega)) (fun c hc => E.1 c (by omega) (by omega) (by omega) (by omega))
theorem mNext {τ : Mem} (I : liM τ n m rk hk sz sz' cp) {k : Nat} (hk' : k < n) {f : Int → Int} (hf : ∀ q : Int, 0 ≤ q → q < k → τ 10 q = f q) : ∀ (F i : Nat), (i : Int) ≤ sz k → sz k < F + i →
    ∃ p : Nat, fX7_next_0_L2 τ k (fun v14 => some v14) F i = some (p : Int) ∧ i ≤ p ∧ (p : Int) ≤ sz k ∧ (∀ q : Nat, i ≤ q → q < p → okM hk cp k f (atF m rk k q) = false) ∧ ((p : Int) < sz k → okM hk cp k f (atF m rk k p) = true) := by
  obtain ⟨i1, i2, ⟨n1, n6, m1, m6⟩, LR, LH, cp3, LM, LM', LC⟩ := id I
  obtain ⟨a1, a2⟩ := LM k (by omega) (by omega)
  have l1 := (LR k (by omega) (by omega)).1
  intro F
  induction F with
  | zero => intro i h1 h2; omega
  | succ F ih =>
    intro i h1 h2
    rw [fX7_next_0_L2, if_pos (by omega), a1]
    by_cases c : (i : Int) < sz k
    · have ao := atF_ok LR (r := k) (by omega) (by omega) (p := i) (by omega) c
      rw [if_pos c]
      repeat rw [if_pos (by omega)]
      rw [a2 i (by omega) c]
      generalize hh : atF m rk k i = h at ao ⊢
      rw [mPl1 I ao.1 ao.2.1 (by omega) (by omega), Option.bind_some]
      have hr := hk_rng I (r := k) (x := h) (by omega) (by omega) ao.1 ao.2.1
      have oke : okM hk cp k f h = (decide (hk h k ≠ -1) && decide (mh_c (fun q => decide (τ 10 q = h)) k < cp h)) := by
        unfold okM
        have : mh_c (fun q => decide (f q = h)) ((k : Int)).toNat = mh_c (fun q => decide (τ 10 q = h)) k := by
          rw [show ((k : Int)).toNat = k by omega]
          exact mh_c_congr (fun q q0 q1 => by rw [hf q q0 q1])
        rw [this, show decide (h = -1) = false from by rw [decide_eq_false_iff_not]; omega]
        simp
      have go : okM hk cp k f h = false → ∃ p : Nat, fX7_next_0_L2 τ k (fun v14 => some v14) F ((i : Int) + 1) = some (p : Int) ∧ i ≤ p ∧ (p : Int) ≤ sz k ∧ (∀ q : Nat, i ≤ q → q < p → okM hk cp k f (atF m rk k q) = false) ∧ ((p : Int) < sz k → okM hk cp k f (atF m rk k p) = true) := fun ok => by
        obtain ⟨p, p1, p2, p3, p4, p5⟩ := ih (i + 1) (by omega) (by omega)
        rw [show ((i + 1 : Nat) : Int) = (i : Int) + 1 by omega] at p1
        refine ⟨p, p1, by omega, p3, fun q q0 q1 => ?_, p5⟩
        by_cases e : q = i
        · rw [e, hh]; exact ok
        · exact p4 q (by omega) q1
      by_cases e : hk h k = -1
      · rw [if_pos (by omega)]
        exact go (by rw [oke]; simp [e])
      · rw [if_neg (by omega), mTaken_10 τ (by omega), Option.bind_some, if_pos (by omega), LC h ao.1 ao.2.1]
        by_cases d : mh_c (fun q => decide (τ 10 q = h)) k < cp h
        · rw [if_pos d]
          refine ⟨i, rfl, Nat.le_refl _, h1, fun q q0 q1 => by omega, fun _ => ?_⟩
          rw [hh, oke]; simp [e, d]
        · rw [if_neg d]
          exact go (by rw [oke]; simp [d])
    · rw [if_neg c]
      exact ⟨i, rfl, Nat.le_refl _, h1, fun q q0 q1 => by omega, fun z => absurd z c⟩
theorem mPut (τ : Mem) {K : Nat} (i1 : τ 0 1 = n) (n6 : n ≤ 6) (hK : τ 0 8 = K) (k2 : K < 720) (ex : Mem → Int → Option (Int × Mem)) :
    ∃ τ', fX7_findAll_0_L40 ex FU τ 0 = ex τ' n ∧ (∀ c, c ≠ 5 → τ' c = τ c) ∧ ∀ j : Int, τ' 5 j = if 6 * K ≤ j ∧ j < 6 * K + n then τ 10 (j - 6 * K) else τ 5 j := by
  have W : ∀ (f k : Nat) (τ1 : Mem), k ≤ n → n < f + k → (∀ c, c ≠ 5 → τ1 c = τ c) → (∀ j : Int, τ1 5 j = if 6 * K ≤ j ∧ j < 6 * K + k then τ 10 (j - 6 * K) else τ 5 j) → ∃ τ', fX7_findAll_0_L40 ex f τ1 k = ex τ' n ∧ (∀ c, c ≠ 5 → τ' c = τ c) ∧ ∀ j : Int, τ' 5 j = if 6 * K ≤ j ∧ j < 6 * K + n then τ 10 (j - 6 * K) else τ 5 j := by
    intro f
    induction f with
    | zero => intro k τ1 h1 h2; omega
    | succ f ih =>
      intro k τ1 h1 h2 e1 e2
      rw [fX7_findAll_0_L40, e1 0 (by omega), i1, hK]
      rcases Nat.lt_or_ge k n with c | c
      · repeat rw [if_pos (by omega)]
        rw [nx_eq, if_pos (by omega)]
        have := ih (k + 1) (mup τ1 5 (6 * K + k) (τ1 10 k)) (by omega) (by omega) (fun c hc => by rw [mup_ne _ _ _ hc]; exact e1 c hc) (fun j => by
          rw [mup_eq]
          by_cases e : j = 6 * K + k
          · rw [e, mh_up_eq, if_pos (by omega), e1 10 (by omega)]
            congr 1; omega
          · rw [mh_up_ne _ _ e, e2 j]
            by_cases z : 6 * K ≤ j ∧ j < 6 * K + (k : Int)
            · rw [if_pos z, if_pos (by omega)]
            · rw [if_neg z, if_neg (by omega)])
        rw [show ((k + 1 : Nat) : Int) = (k : Int) + 1 by omega] at this
        exact this
      · have : k = n := by omega
        subst this
        rw [if_neg (by omega)]
        exact ⟨τ1, rfl, e1, e2⟩
  exact W FU 0 τ (by omega) (by unfold FU; omega) (fun _ _ => rfl) (fun j => by rw [if_neg (by omega)])
theorem mh_s_zero {a : Int → Int} {k : Nat} (h : ∀ r : Int, 0 ≤ r → r < k → 0 ≤ a r) : 0 ≤ mh_s a k ∧ (mh_s a k = 0 ↔ ∀ r : Int, 0 ≤ r → r < k → a r = 0) := by
  induction k with
  | zero => exact ⟨Int.le_refl _, fun _ r a b => by omega, fun _ => rfl⟩
  | succ k ih =>
    obtain ⟨i1, i2⟩ := ih (fun r a b => h r a (by omega))
    have hk := h k (by omega) (by omega)
    simp only [mh_s]
    refine ⟨by omega, fun z r r0 r1 => ?_, fun z => ?_⟩
    · by_cases e : r = k
      · rw [e]; omega
      · exact i2.mp (by omega) r r0 (by omega)
    · have := i2.mpr (fun r a b => z r a (by omega))
      have := z k (by omega) (by omega)
      omega
theorem mLeafB {τ : Mem} (I : liM τ n m rk hk sz sz' cp) (hv : ∀ r : Int, 0 ≤ r → r < n → τ 10 r = -1 ∨ (0 ≤ τ 10 r ∧ τ 10 r < m)) : ∃ s : Int, fX7_blocksOf_0_10 τ 0 = some s ∧ (s = 0 ↔ lfC n m rk hk cp (τ 10) = true) := by
  refine ⟨_, mBlocksOf_10 I hv, ?_⟩
  rw [(mh_s_zero (fun r _ _ => mh_c_0 _ _)).2]
  unfold lfC
  rw [decide_eq_true_eq, bpO_none]
  constructor
  · intro z r h r0 r1 h0 h1
    exact mh_c_none (z r r0 r1) h0 h1
  · intro z r r0 r1
    exact mh_c_zero (fun h h0 h1 => z r h r0 r1 h0 h1)
def coM : Nat → Nat
  | 0 => 1
  | j + 1 => 7 * (coM j + 1) + 1
theorem opM_at {k : Int} {i : Nat} (hi : (i : Int) ≤ sz k) : (opM m rk sz k)[i]? = some (if (i : Int) < sz k then atF m rk k i else -1) := by
  unfold opM
  by_cases c : (i : Int) < sz k
  · rw [if_pos c, List.getElem?_append_left (by rw [List.length_map, List.length_range]; omega), List.getElem?_map, List.getElem?_range (by omega)]
    rfl
  · rw [if_neg c, List.getElem?_append_right (by rw [List.length_map, List.length_range]; omega), List.length_map, List.length_range, show i - (sz k).toNat = 0 by omega]
    rfl
theorem opM_drop {k : Int} {i : Nat} (hi : (i : Int) ≤ sz k) : (opM m rk sz k).drop i = (if (i : Int) < sz k then atF m rk k i else -1) :: (opM m rk sz k).drop (i + 1) := by
  have h := opM_at (m := m) (rk := rk) hi
  have hl : i < (opM m rk sz k).length := by
    rcases Nat.lt_or_ge i (opM m rk sz k).length with z | z
    · exact z
    · rw [List.getElem?_eq_none z] at h; cases h
  rw [List.getElem?_eq_getElem hl] at h
  rw [List.drop_eq_getElem_cons hl, Option.some.inj h]
theorem opM_skip {k : Int} (g : Int → List (Int → Int)) {p : Nat} (hp : (p : Int) ≤ sz k) : ∀ (d i : Nat), p = i + d → (∀ q : Nat, i ≤ q → q < p → g (atF m rk k q) = []) → ((opM m rk sz k).drop i).flatMap g = ((opM m rk sz k).drop p).flatMap g := by
  intro d
  induction d with
  | zero => intro i e _; rw [e, Nat.add_zero]
  | succ d ih =>
    intro i e h
    rw [opM_drop (i := i) (by omega), if_pos (by omega), List.flatMap_cons, h i (by omega) (by omega), List.nil_append]
    exact ih (i + 1) (by omega) (fun q a b => h q (by omega) b)
/-- down from level k, all below it put down -/
theorem mRun (I : liM τ0 n m rk hk sz sz' cp) : ∀ (j k : Nat) (τ : Mem) (f : Int → Int) (S : List (Int → Int)), k + j = n → seM τ0 τ k f → (∀ q : Int, 0 ≤ q → q < k → f q = -1 ∨ (0 ≤ f q ∧ f q < m)) → (k < n → τ 11 k = -1) → stM τ n S → S.length + (enM n m rk hk cp sz j k f).length ≤ 216 →
    ∃ (c : Nat) (τ' : Mem), c ≤ coM j ∧ (∀ (ex : Mem → Int → Option (Int × Mem)) (F : Nat), fX7_findAll_0_L14 ex (F + c) τ k = fX7_findAll_0_L14 ex F τ' ((k : Int) + (-1))) ∧ seM τ0 τ' k f ∧ (∀ q : Int, 0 ≤ q → q < k → τ' 11 q = τ 11 q) ∧ stM τ' n (S ++ enM n m rk hk cp sz j k f) := by
  obtain ⟨i1, i2, ⟨n1, n6, m1, m6⟩, LR, LH, cp3, LM, LM', LC⟩ := id I
  intro j
  induction j with
  | zero =>
    intro k τ f S hkn E vf _ T len
    have kn : k = n := by omega
    subst kn
    have I' := seM_li I E
    obtain ⟨s, s1, s2⟩ := mLeafB I' (fun r r0 r1 => by rw [E.2.2 r r0 r1]; exact vf r r0 r1)
    have lf : lfC k m rk hk cp (τ 10) = lfC k m rk hk cp f := lfC_congr (fun q q0 q1 => E.2.2 q q0 q1)
    rw [lf] at s2
    have en : enM k m rk hk cp sz 0 k f = if lfC k m rk hk cp f = true then [f] else [] := rfl
    rw [en] at len ⊢
    by_cases e : lfC k m rk hk cp f = true
    · rw [if_pos e] at len ⊢
      have len' : S.length + 1 ≤ 216 := len
      obtain ⟨c0, c1⟩ := T
      have P := fun ex => mPut (n := k) τ I'.1 n6 c0 (by omega) ex
      obtain ⟨τ1, p1, p2, p3⟩ := P (fun σ46 v45 => some (0, σ46))
      refine ⟨1, mup τ1 0 8 (S.length + 1), Nat.le_refl _, fun ex F => ?_, ?_, ?_, ?_⟩
      · obtain ⟨τ2, q1, q2, q3⟩ := P (fun σ46 v45 => if rng ((σ46 0 8) + 1) then nx (mup σ46 0 8 ((σ46 0 8) + 1)) fun σ48 => if rng ((k : Int) + (-1)) then fX7_findAll_0_L14 ex F σ48 ((k : Int) + (-1)) else none else none)
        have t12 : τ2 = τ1 := by
          funext c
          by_cases z : c = 5
          · subst z; funext j; rw [q3, p3]
          · rw [q2 c z, p2 c z]
        subst t12
        rw [fX7_findAll_0_L14, if_neg (by omega), I'.1, if_pos rfl, s1, Option.bind_some, if_pos (s2.mpr e), q1, q2 0 (by omega), c0, if_pos (by omega), nx_eq, if_pos (by omega)]
      · refine ⟨fun c a b d g => by rw [mup_ne _ _ _ a, p2 c b]; exact E.1 c a b d g, fun j hj => by rw [mup_eq, mh_up_ne _ _ hj, p2 0 (by omega)]; exact E.2.1 j hj, fun q q0 q1 => by rw [mup_ne _ _ _ (by omega), p2 10 (by omega)]; exact E.2.2 q q0 q1⟩
      · intro q q0 q1
        rw [mup_ne _ _ _ (by omega), p2 11 (by omega)]
      · refine ⟨by rw [mup_eq, mh_up_eq, List.length_append]; simp, fun i x hx r r0 r1 => ?_⟩
        rw [mup_ne _ _ _ (by omega), p3]
        rcases Nat.lt_or_ge i S.length with z | z
        · rw [List.getElem?_append_left z] at hx
          rw [if_neg (by omega)]
          exact c1 i x hx r r0 r1
        · rw [List.getElem?_append_right z] at hx
          have iz : i = S.length := by
            rcases Nat.lt_or_ge (i - S.length) 1 with y | y
            · omega
            · rw [List.getElem?_eq_none (by simpa using y)] at hx; cases hx
          rw [iz, Nat.sub_self] at hx
          have fx : f = x := by simpa using hx
          rw [iz, if_pos (by omega), ← fx, show (6 * (S.length : Int) + r - 6 * (S.length : Int)) = r by omega]
          exact E.2.2 r r0 r1
    · rw [if_neg e] at len ⊢
      refine ⟨1, τ, Nat.le_refl _, fun ex F => ?_, E, fun _ _ _ => rfl, by rw [List.append_nil]; exact T⟩
      rw [fX7_findAll_0_L14, if_neg (by omega), I'.1, if_pos rfl, s1, Option.bind_some, if_neg (fun z => e (s2.mp z)), if_pos (by omega)]
  | succ j ih =>
    intro k τ f S hkn E vf h11 T len
    have kn : k < n := by omega
    have l1 := (LR k (by omega) (by omega)).1
    have en : enM n m rk hk cp sz (j + 1) k f = (opM m rk sz k).flatMap (fun h => if okM hk cp k f h = true then enM n m rk hk cp sz j (k + 1) (mh_up f k h) else []) := rfl
    rw [en] at len ⊢
    generalize hg : (fun h => if okM hk cp k f h = true then enM n m rk hk cp sz j (k + 1) (mh_up f k h) else []) = g at len ⊢
    have W : ∀ (d i : Nat) (τ : Mem) (S : List (Int → Int)), sz k + 1 - i ≤ d → (i : Int) ≤ sz k + 1 → seM τ0 τ k f → τ 11 k = (i : Int) - 1 → stM τ n S → S.length + (((opM m rk sz k).drop i).flatMap g).length ≤ 216 →
        ∃ (c : Nat) (τ' : Mem), c ≤ d * (coM j + 1) + 1 ∧ (∀ (ex : Mem → Int → Option (Int × Mem)) (F : Nat), fX7_findAll_0_L14 ex (F + c) τ k = fX7_findAll_0_L14 ex F τ' ((k : Int) + (-1))) ∧ seM τ0 τ' k f ∧ (∀ q : Int, 0 ≤ q → q < k → τ' 11 q = τ 11 q) ∧ stM τ' n (S ++ ((opM m rk sz k).drop i).flatMap g) := by
      intro d
      induction d with
      | zero =>
        intro i τ S hd hi E h11 T len
        have ie : (i : Int) = sz k + 1 := by omega
        have I' := seM_li I E
        have z0 : (opM m rk sz k).drop i = [] := by
          apply List.drop_eq_nil_of_le
          unfold opM
          rw [List.length_append, List.length_map, List.length_range, List.length_singleton]; omega
        rw [z0, List.flatMap_nil, List.append_nil]
        refine ⟨1, τ, by omega, fun ex F => ?_, E, fun _ _ _ => rfl, T⟩
        rw [fX7_findAll_0_L14, if_neg (by omega), I'.1, if_neg (by omega), if_pos (by omega), if_pos (by omega), h11, (I'.2.2.2.2.2.2.1 k (by omega) (by omega)).1, if_pos (by omega), if_pos (by omega)]
      | succ d ihd =>
        intro i τ S hd hi E h11 T len
        have I' := seM_li I E
        have s3 := (I'.2.2.2.2.2.2.1 k (by omega) (by omega))
        by_cases ie : (i : Int) = sz k + 1
        · have z0 : (opM m rk sz k).drop i = [] := by
            apply List.drop_eq_nil_of_le
            unfold opM
            rw [List.length_append, List.length_map, List.length_range, List.length_singleton]; omega
          rw [z0, List.flatMap_nil, List.append_nil]
          refine ⟨1, τ, by omega, fun ex F => ?_, E, fun _ _ _ => rfl, T⟩
          rw [fX7_findAll_0_L14, if_neg (by omega), I'.1, if_neg (by omega), if_pos (by omega), if_pos (by omega), h11, s3.1, if_pos (by omega), if_pos (by omega)]
        · obtain ⟨p, p1, p2, p3, p4, p5⟩ := mNext I' kn E.2.2 FU i (by omega) (by unfold FU; omega)
          have sk : ((opM m rk sz k).drop i).flatMap g = ((opM m rk sz k).drop p).flatMap g := opM_skip g p3 (p - i) i (by omega) (fun q a b => by rw [← hg]; simp only [p4 q a b]; simp)
          rw [sk, opM_drop p3, List.flatMap_cons] at len ⊢
          generalize hh : (if (p : Int) < sz k then atF m rk k p else -1) = h at len ⊢
          have okh : okM hk cp k f h = true := by
            rw [← hh]
            by_cases c : (p : Int) < sz k
            · rw [if_pos c]; exact p5 c
            · rw [if_neg c]; unfold okM; simp
          have vh : h = -1 ∨ (0 ≤ h ∧ h < m) := by
            rw [← hh]
            by_cases c : (p : Int) < sz k
            · rw [if_pos c]
              have := atF_ok LR (r := k) (by omega) (by omega) (p := p) (by omega) c
              omega
            · rw [if_neg c]; exact Or.inl rfl
          have gh : g h = enM n m rk hk cp sz j (k + 1) (mh_up f k h) := by rw [← hg]; simp only [okh, if_true]
          rw [gh] at len ⊢
          rw [List.length_append] at len
          -- one step down
          have hstep : ∃ τ1 : Mem, (∀ (ex : Mem → Int → Option (Int × Mem)) (F : Nat), fX7_findAll_0_L14 ex (F + 1) τ k = fX7_findAll_0_L14 ex F τ1 ((k : Int) + 1)) ∧ (∀ c, c ≠ 10 → c ≠ 11 → τ1 c = τ c) ∧ τ1 10 = mh_up (τ 10) k h ∧ (∀ q : Int, q < k → τ1 11 q = τ 11 q) ∧ τ1 11 k = p ∧ (k + 1 < n → τ1 11 ((k : Int) + 1) = -1) := by
            have s31 : mup τ 11 k (p : Int) 3 (k : Int) = sz k := by rw [mup_ne _ _ _ (by omega)]; exact s3.1
            have o11 : mup τ 11 k (p : Int) 11 (k : Int) = p := by rw [mup_eq, mh_up_eq]
            have base : ∀ (ex : Mem → Int → Option (Int × Mem)) (F : Nat), fX7_findAll_0_L14 ex (F + 1) τ k = (if (k : Int) + 1 < n then fX7_findAll_0_L14 ex F (mup (mup (mup τ 11 k (p : Int)) 10 k h) 11 ((k : Int) + 1) (-1)) ((k : Int) + 1) else fX7_findAll_0_L14 ex F (mup (mup τ 11 k (p : Int)) 10 k h) ((k : Int) + 1)) := by
              intro ex F
              have e01 : mup (mup τ 11 k (p : Int)) 10 k h 0 1 = n := by rw [mup_ne _ _ _ (by omega), mup_ne _ _ _ (by omega)]; exact I'.1
              have nx' : fX7_next_0 τ k (i : Int) = some (p : Int) := p1
              rw [fX7_findAll_0_L14, if_neg (by omega), I'.1, if_neg (by omega), if_pos (by omega), if_pos (by omega), h11, s3.1, if_neg (by omega), if_pos (by omega), if_pos (by omega), show ((i : Int) - 1 + 1) = i by omega, nx', Option.bind_some, if_pos (by omega), nx_eq, if_pos (by omega), if_pos (by omega), o11, s31]
              by_cases c : (p : Int) = sz k
              · rw [if_pos c, if_pos (by omega), nx_eq]
                rw [if_neg (by omega)] at hh
                subst hh
                rw [e01, if_pos (by omega)]
                by_cases d : (k : Int) + 1 < n
                · rw [if_pos d, if_pos d, if_pos (by omega), nx_eq]
                · rw [if_neg d, if_neg d]
              · have v2 : mup τ 11 k (p : Int) 2 (6 * (k : Int) + p) = h := by
                  rw [mup_ne _ _ _ (by omega), s3.2 p (by omega) (by omega)]
                  rw [if_pos (by omega)] at hh
                  exact hh
                rw [if_neg c]
                repeat rw [if_pos (by omega)]
                rw [nx_eq, v2, e01, if_pos (by omega)]
                by_cases d : (k : Int) + 1 < n
                · rw [if_pos d, if_pos d, if_pos (by omega), nx_eq]
                · rw [if_neg d, if_neg d]
            by_cases d : (k : Int) + 1 < n
            · refine ⟨mup (mup (mup τ 11 k (p : Int)) 10 k h) 11 ((k : Int) + 1) (-1), fun ex F => by rw [base, if_pos d], fun c a b => by rw [mup_ne _ _ _ b, mup_ne _ _ _ a, mup_ne _ _ _ b], by rw [mup_ne _ _ _ (by omega), mup_eq, mup_ne _ _ _ (by omega)], fun q hq => ?_, ?_, fun _ => ?_⟩
              · rw [mup_eq, mh_up_ne _ _ (by omega), mup_ne _ _ _ (by omega), mup_eq, mh_up_ne _ _ (by omega)]
              · rw [mup_eq, mh_up_ne _ _ (by omega), mup_ne _ _ _ (by omega), mup_eq, mh_up_eq]
              · rw [mup_eq, mh_up_eq]
            · refine ⟨mup (mup τ 11 k (p : Int)) 10 k h, fun ex F => by rw [base, if_neg d], fun c a b => by rw [mup_ne _ _ _ a, mup_ne _ _ _ b], by rw [mup_eq, mup_ne _ _ _ (by omega)], fun q hq => ?_, ?_, fun z => by omega⟩
              · rw [mup_ne _ _ _ (by omega), mup_eq, mh_up_ne _ _ (by omega)]
              · rw [mup_ne _ _ _ (by omega), mup_eq, mh_up_eq]
          obtain ⟨τ1, g1, g2, g3, g4, g5, g6⟩ := hstep
          have E1 : seM τ0 τ1 (k + 1) (mh_up f k h) := ⟨fun c a b d e => by rw [g2 c d e]; exact E.1 c a b d e, fun j hj => by rw [g2 0 (by omega) (by omega)]; exact E.2.1 j hj, fun q q0 q1 => by
            rw [g3]
            by_cases z : q = k
            · rw [z, mh_up_eq, mh_up_eq]
            · rw [mh_up_ne _ _ z, mh_up_ne _ _ z]; exact E.2.2 q q0 (by omega)⟩
          have T1 : stM τ1 n S := by
            unfold stM
            rw [g2 0 (by omega) (by omega), g2 5 (by omega) (by omega)]; exact T
          have c1 := ih (k + 1) τ1 (mh_up f k h) S (by omega) E1 (fun q q0 q1 => by
            by_cases z : q = k
            · rw [z, mh_up_eq]; exact vh
            · rw [mh_up_ne _ _ z]; exact vf q q0 (by omega)) (fun z => by
              rw [show ((k + 1 : Nat) : Int) = (k : Int) + 1 by omega]; exact g6 z) T1 (by rw [show ((k + 1 : Nat) : Int) = (k : Int) + 1 by omega]; omega)
          rw [show ((k + 1 : Nat) : Int) = (k : Int) + 1 by omega] at c1
          obtain ⟨c, τ2, b1, b2, b3, b4, b5⟩ := c1
          have E2 : seM τ0 τ2 k f := ⟨b3.1, b3.2.1, fun q q0 q1 => by
            rw [b3.2.2 q q0 (by omega), mh_up_ne _ _ (by omega)]⟩
          obtain ⟨c', τ3, d1, d2, d3, d4, d5⟩ := ihd (p + 1) τ2 _ (by omega) (by omega) E2 (by rw [b4 k (by omega) (by omega), g5]; omega) b5 (by rw [List.length_append]; omega)
          refine ⟨c' + (c + 1), τ3, ?_, fun ex F => ?_, d3, fun q q0 q1 => ?_, ?_⟩
          · rw [Nat.succ_mul]; omega
          · rw [show F + (c' + (c + 1)) = F + c' + c + 1 by omega, g1, b2, show ((k : Int) + 1 + -1) = k by omega, d2]
          · rw [d4 q q0 q1, b4 q q0 (by omega), g4 q q1]
          · rw [List.append_assoc] at d5
            exact d5
    have := W (sz k + 1).toNat 0 τ S (by omega) (by omega) E (by rw [h11 kn]; rfl) T (by rw [List.drop_zero]; exact len)
    rw [List.drop_zero] at this
    obtain ⟨c, τ', a1, a2, a3, a4, a5⟩ := this
    refine ⟨c, τ', ?_, a2, a3, a4, a5⟩
    have : (sz k + 1).toNat * (coM j + 1) ≤ 7 * (coM j + 1) := Nat.mul_le_mul_right _ (by omega)
    simp only [coM]
    omega
theorem mFindAll {τ : Mem} (I : liM τ n m rk hk sz sz' cp) : ∃ τ', fX7_findAll_0 τ = some (0, τ') ∧ (∀ c, c ≠ 0 → c ≠ 5 → c ≠ 10 → c ≠ 11 → τ' c = τ c) ∧ (∀ j : Int, j ≠ 8 → τ' 0 j = τ 0 j) ∧ ∃ S, sOK n m rk hk cp S ∧ stM τ' n S := by
  obtain ⟨i1, i2, ⟨n1, n6, m1, m6⟩, LR, LH, cp3, LM, LM', LC⟩ := id I
  have ok := enM_ok LR LH cp3
  have len := sOK_216 LR (lsI_inj LR LH) ok n6 m6
  have E : seM τ (mup (mup τ 0 8 0) 11 0 (-1)) 0 (fun _ => -1) := ⟨fun c a b d e => by rw [mup_ne _ _ _ e, mup_ne _ _ _ a], fun j hj => by rw [mup_ne _ _ _ (by omega), mup_eq, mh_up_ne _ _ hj], fun q a b => by omega⟩
  obtain ⟨c, τ', a1, a2, a3, a4, a5⟩ := mRun I n 0 _ _ [] (by omega) E (fun q a b => by omega) (fun _ => by rw [mup_eq]; exact mh_up_eq _ _ _) ⟨by rw [mup_ne _ _ _ (by omega), mup_eq, mh_up_eq]; rfl, fun i x hx => by simp at hx⟩ (by simpa using len)
  have c6 : coM n ≤ 274513 := by
    have : ∀ k : Nat, k ≤ 6 → coM k ≤ 274513 := by decide
    exact this n n6
  refine ⟨τ', ?_, a3.1, a3.2.1, _, ok, by simpa using a5⟩
  unfold fX7_findAll_0
  rw [nx_eq, if_pos (by omega), nx_eq]
  have := a2 (fun σ54 v53 => some (0, σ54)) (FU - c)
  rw [show FU - c + c = FU by unfold FU; omega, show ((0 : Nat) : Int) = 0 from rfl] at this
  rw [this, show FU - c = (FU - c - 1) + 1 by unfold FU; omega, fX7_findAll_0_L14, if_pos (by omega)]
end MFA
