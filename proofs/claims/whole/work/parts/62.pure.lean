/-! PURE 3: the class lets all ask -/
theorem nx_eq {α β : Type} (v : α) (f : α → β) : nx v f = f v := rfl
theorem bnd2_some {β : Type} (v : Int) (σ : Mem) (f : Int → Mem → Option β) : bnd2 (some (v, σ)) f = f v σ := rfl
theorem FU_big {k : Nat} (h : k < 100000000) : k < FU := by unfold FU; omega
/-- lists: places from 0 on, each one once -/
def lsI (P : Int → Int → Int) (S : Int → Int) (n m : Nat) : Prop := ∀ r : Int, 0 ≤ r → r < n → (0 ≤ S r ∧ S r ≤ m) ∧ (∀ h : Int, 0 ≤ h → h < m → P r h = -1 ∨ (0 ≤ P r h ∧ P r h < S r)) ∧ (∀ p : Int, 0 ≤ p → p < S r → ∃ h : Int, 0 ≤ h ∧ h < m ∧ P r h = p) ∧ (∀ h h' : Int, 0 ≤ h → h < m → 0 ≤ h' → h' < m → P r h ≠ -1 → P r h = P r h' → h = h')
theorem lsI_inj {rk hk : Int → Int → Int} {S S' : Int → Int} {n m : Nat} (a : lsI rk S n m) (b : lsI hk S' m n) : mh_inj n m rk hk :=
  ⟨fun r h h' r0 r1 h0 h1 z0 z1 w e => (a r r0 r1).2.2.2 h h' h0 h1 z0 z1 w e, fun h r r' h0 h1 r0 r1 z0 z1 w e => (b h h0 h1).2.2.2 r r' r0 r1 z0 z1 w e⟩
def atF (m : Nat) (P : Int → Int → Int) (r p : Int) : Int := mh_f (fun h => decide (0 ≤ p) && decide (P r h = p)) m
theorem atF_ok {P : Int → Int → Int} {S : Int → Int} {n m : Nat} (L : lsI P S n m) {r p : Int} (r0 : 0 ≤ r) (r1 : r < n) (p0 : 0 ≤ p) (p1 : p < S r) : 0 ≤ atF m P r p ∧ atF m P r p < m ∧ P r (atF m P r p) = p := by
  have hne : atF m P r p ≠ -1 := fun z => by
    obtain ⟨h, h0, h1, e⟩ := (L r r0 r1).2.2.1 p p0 p1
    have := mh_f_none.mp z h h0 h1
    simp [p0, e] at this
  obtain ⟨a, b, c, -⟩ := mh_f_some hne
  simp only [Bool.and_eq_true, decide_eq_true_eq] at c
  exact ⟨a, b, c.2⟩
theorem atF_none {P : Int → Int → Int} {S : Int → Int} {n m : Nat} (L : lsI P S n m) {r p : Int} (r0 : 0 ≤ r) (r1 : r < n) (hp : p < 0 ∨ S r ≤ p) : atF m P r p = -1 := by
  refine mh_f_none.mpr (fun h h0 h1 => ?_)
  have := (L r r0 r1).2.1 h h0 h1
  by_cases z : 0 ≤ p
  · have : ¬ P r h = p := by omega
    simp [this]
  · simp [z]
theorem atF_rk {P : Int → Int → Int} {S : Int → Int} {n m : Nat} (L : lsI P S n m) {r h : Int} (r0 : 0 ≤ r) (r1 : r < n) (h0 : 0 ≤ h) (h1 : h < m) (hp : P r h ≠ -1) : atF m P r (P r h) = h := by
  have a := (L r r0 r1).2.1 h h0 h1
  have b := atF_ok L r0 r1 (p := P r h) (by omega) (by omega)
  exact ((L r r0 r1).2.2.2 h _ h0 h1 b.1 b.2.1 hp b.2.2.symm).symm

theorem uAt_2 {σ : Mem} {m : Nat} (hm : σ 2 3 = m) (m6 : m ≤ 6) {r : Int} (h1 : 0 ≤ r ∧ r < 6) (p : Int) : fX2_at_2 σ r p = some (atF m (rkC σ) r p) := by
  have L : ∀ (f j : Nat), j ≤ m → m < f + j → mh_f (fun h => decide (0 ≤ p) && decide (rkC σ r h = p)) j = -1 → fX2_at_2_L2 σ r p (fun v9 => some (-1)) f j = some (atF m (rkC σ) r p) := by
    intro f
    induction f with
    | zero => intro j h1 h2; omega
    | succ f ih =>
      intro j j1 j2 ha
      rw [fX2_at_2_L2]
      rcases Nat.lt_or_ge j m with hj | hj
      · have ih' := ih (j + 1) (by omega) (by omega)
        simp only [mh_f, ha, if_true] at ih'
        rw [show ((j + 1 : Nat) : Int) = (j : Int) + 1 by omega] at ih'
        rw [if_pos (by omega)]
        by_cases c : p < 0
        · rw [if_pos c, if_pos ⟨by omega, by omega⟩]
          have p0 : ¬ 0 ≤ p := by omega
          exact ih' (by simp [p0])
        · rw [if_neg c, if_pos h1, if_pos (by omega)]
          by_cases e : σ (4 + r.toNat) j = p
          · rw [if_pos e]
            have p0 : 0 ≤ p := by omega
            have := mh_f_eq (p := fun h => decide (0 ≤ p) && decide (rkC σ r h = p)) hj ha (by simp [rkC_eq h1.2, e, p0])
            unfold atF
            rw [this]
          · rw [if_neg e, if_pos ⟨by omega, by omega⟩]
            exact ih' (by simp [rkC_eq h1.2, e])
      · have : j = m := by omega
        subst this
        rw [if_neg (by omega)]
        unfold atF
        rw [ha]
  unfold fX2_at_2
  exact L FU 0 (by omega) (by unfold FU; omega) rfl

theorem uAt_11 {σ : Mem} {m : Nat} (hm : σ 11 3 = m) (m6 : m ≤ 6) {r : Int} (h1 : 0 ≤ r ∧ r < 6) (p : Int) : fX2_at_11 σ r p = some (atF m (hkC σ) r p) := by
  have L : ∀ (f j : Nat), j ≤ m → m < f + j → mh_f (fun h => decide (0 ≤ p) && decide (hkC σ r h = p)) j = -1 → fX2_at_11_L2 σ r p (fun v9 => some (-1)) f j = some (atF m (hkC σ) r p) := by
    intro f
    induction f with
    | zero => intro j h1 h2; omega
    | succ f ih =>
      intro j j1 j2 ha
      rw [fX2_at_11_L2]
      rcases Nat.lt_or_ge j m with hj | hj
      · have ih' := ih (j + 1) (by omega) (by omega)
        simp only [mh_f, ha, if_true] at ih'
        rw [show ((j + 1 : Nat) : Int) = (j : Int) + 1 by omega] at ih'
        rw [if_pos (by omega)]
        by_cases c : p < 0
        · rw [if_pos c, if_pos ⟨by omega, by omega⟩]
          have p0 : ¬ 0 ≤ p := by omega
          exact ih' (by simp [p0])
        · rw [if_neg c, if_pos h1, if_pos (by omega)]
          by_cases e : σ (13 + r.toNat) j = p
          · rw [if_pos e]
            have p0 : 0 ≤ p := by omega
            have := mh_f_eq (p := fun h => decide (0 ≤ p) && decide (hkC σ r h = p)) hj ha (by simp [hkC_eq h1.2, e, p0])
            unfold atF
            rw [this]
          · rw [if_neg e, if_pos ⟨by omega, by omega⟩]
            exact ih' (by simp [hkC_eq h1.2, e])
      · have : j = m := by omega
        subst this
        rw [if_neg (by omega)]
        unfold atF
        rw [ha]
  unfold fX2_at_11
  exact L FU 0 (by omega) (by unfold FU; omega) rfl

theorem uNextAsker {σ : Mem} {n : Nat} (hn : σ 1 3 = n) (h6 : n ≤ 6) : fX0_nextAsker_33 σ = some (mh_f (fun r => decide (σ 24 r = -1) && decide (σ 34 r < σ 10 r)) n) := by
  have L : ∀ (f j : Nat), j ≤ n → n < f + j → mh_f (fun r => decide (σ 24 r = -1) && decide (σ 34 r < σ 10 r)) j = -1 → fX0_nextAsker_33_L2 σ (fun v10 => some (-1)) f j = some (mh_f (fun r => decide (σ 24 r = -1) && decide (σ 34 r < σ 10 r)) n) := by
    intro f
    induction f with
    | zero => intro j h1 h2; omega
    | succ f ih =>
      intro j j1 j2 ha
      rw [fX0_nextAsker_33_L2]
      rcases Nat.lt_or_ge j n with hj | hj
      · have ih' := ih (j + 1) (by omega) (by omega)
        simp only [mh_f, ha, if_true] at ih'
        rw [show ((j + 1 : Nat) : Int) = (j : Int) + 1 by omega] at ih'
        rw [if_pos (by omega), if_pos (by omega)]
        by_cases c : σ 24 j = -1
        · rw [if_pos c, if_pos (by omega), if_pos (by omega)]
          by_cases d : σ 34 j < σ 10 j
          · rw [if_pos d, mh_f_eq (k := j) hj ha (by simp [c, d])]
          · rw [if_neg d, if_pos ⟨by omega, by omega⟩]
            exact ih' (by simp [d])
        · rw [if_neg c, if_pos ⟨by omega, by omega⟩]
          exact ih' (by simp [c])
      · have : j = n := by omega
        subst this
        rw [if_neg (by omega), ha]
  unfold fX0_nextAsker_33
  exact L FU 0 (by omega) (by unfold FU; omega) rfl
/-- of those that have h among the first k, the one that h lists last -/
def laI (hk : Int → Int → Int) (f : Int → Int) (h : Int) (k : Nat) (l : Int) : Prop := (l = -1 ∧ ∀ q : Int, 0 ≤ q → q < k → f q ≠ h) ∨ (0 ≤ l ∧ l < k ∧ f l = h ∧ ∀ q : Int, 0 ≤ q → q < k → f q = h → hk h q ≤ hk h l)
theorem uLast {σ : Mem} {n : Nat} (hn : σ 1 3 = n) (h6 : n ≤ 6) {h : Int} (h1 : 0 ≤ h ∧ h < 6) : ∃ l, fX3_lastAt_23 σ h = some l ∧ laI (hkC σ) (σ 24) h n l := by
  have L : ∀ (f j : Nat) (l : Int), j ≤ n → n < f + j → laI (hkC σ) (σ 24) h j l → ∃ l', fX3_lastAt_23_L4 σ h (fun v14 v15 => some v14) f l j = some l' ∧ laI (hkC σ) (σ 24) h n l' := by
    intro f
    induction f with
    | zero => intro j l h1 h2; omega
    | succ f ih =>
      intro j l j1 j2 ha
      rw [fX3_lastAt_23_L4]
      rcases Nat.lt_or_ge j n with hj | hj
      · have ihl := ih (j + 1) l (by omega) (by omega)
        have ihj := ih (j + 1) j (by omega) (by omega)
        rw [show ((j + 1 : Nat) : Int) = (j : Int) + 1 by omega] at ihl ihj
        have keep : σ 24 j ≠ h → laI (hkC σ) (σ 24) h (j + 1) l := fun z => by
          rcases ha with ⟨a1, a2⟩ | ⟨a1, a2, a3, a4⟩
          · refine Or.inl ⟨a1, fun q q0 q1 => ?_⟩
            by_cases e : q = j
            · subst e; exact z
            · exact a2 q q0 (by omega)
          · refine Or.inr ⟨a1, by omega, a3, fun q q0 q1 hq => ?_⟩
            by_cases e : q = j
            · subst e; exact absurd hq z
            · exact a4 q q0 (by omega) hq
        rw [if_pos (by omega), if_pos (by omega)]
        by_cases c : σ 24 j = h
        · rw [if_pos c]
          by_cases d : l = -1
          · rw [if_pos d, if_pos ⟨by omega, by omega⟩]
            apply ihj
            rcases ha with ⟨a1, a2⟩ | ⟨a1, a2, a3, a4⟩
            · refine Or.inr ⟨by omega, by omega, c, fun q q0 q1 hq => ?_⟩
              by_cases e : q = j
              · subst e; exact Int.le_refl _
              · exact absurd hq (a2 q q0 (by omega))
            · omega
          · rw [if_neg d]
            rcases ha with ⟨a1, a2⟩ | ⟨a1, a2, a3, a4⟩
            · exact absurd a1 d
            · rw [uPlR h1 (by omega), Option.bind_some, uPlR h1 (by omega), Option.bind_some]
              by_cases e : hkC σ h l < hkC σ h j
              · rw [if_pos e, if_pos ⟨by omega, by omega⟩]
                apply ihj
                refine Or.inr ⟨by omega, by omega, c, fun q q0 q1 hq => ?_⟩
                by_cases z : q = j
                · subst z; exact Int.le_refl _
                · have := a4 q q0 (by omega) hq; omega
              · rw [if_neg e, if_pos ⟨by omega, by omega⟩]
                apply ihl
                refine Or.inr ⟨a1, by omega, a3, fun q q0 q1 hq => ?_⟩
                by_cases z : q = j
                · subst z; omega
                · exact a4 q q0 (by omega) hq
        · rw [if_neg c, if_pos ⟨by omega, by omega⟩]
          exact ihl (keep c)
      · have : j = n := by omega
        subst this
        rw [if_neg (by omega)]
        exact ⟨l, rfl, ha⟩
  unfold fX3_lastAt_23
  exact L FU 0 (-1) (by omega) (by unfold FU; omega) (Or.inl ⟨rfl, fun q a b => by omega⟩)
/-- what the searching works on: sizes, lists, seats -/
def inC (σ : Mem) (n m : Nat) : Prop := σ 1 3 = n ∧ σ 1 4 = m ∧ σ 2 2 = n ∧ σ 2 3 = m ∧ σ 11 2 = m ∧ σ 11 3 = n ∧ (1 ≤ n ∧ n ≤ 6 ∧ 1 ≤ m ∧ m ≤ 6) ∧ lsI (rkC σ) (σ 10) n m ∧ lsI (hkC σ) (σ 19) m n ∧ ∀ h : Int, 0 ≤ h → h < m → 1 ≤ σ 20 h ∧ σ 20 h ≤ 3
/-- memories that are the same but for the searching's own cells -/
def smF (σ σ' : Mem) : Prop := ∀ k, k < 24 → σ' k = σ k
theorem inC_same {σ σ' : Mem} {n m : Nat} (h : inC σ n m) (e : ∀ k, k < 21 → σ' k = σ k) : inC σ' n m := by
  obtain ⟨a1, a2, a3, a4, a5, a6, a7, a8, a9, a10⟩ := h
  have r := rkC_same (σ := σ) (σ' := σ') (fun k hk => e k (by omega))
  have h := hkC_same (σ := σ) (σ' := σ') (fun k hk => e k (by omega))
  refine ⟨by rw [e 1 (by omega)]; exact a1, by rw [e 1 (by omega)]; exact a2, by rw [e 2 (by omega)]; exact a3, by rw [e 2 (by omega)]; exact a4, by rw [e 11 (by omega)]; exact a5, by rw [e 11 (by omega)]; exact a6, a7, ?_, ?_, ?_⟩
  · rw [r, e 10 (by omega)]; exact a8
  · rw [h, e 19 (by omega)]; exact a9
  · rw [e 20 (by omega)]; exact a10
theorem pB_iff {rk hk : Int → Int → Int} {r h : Int} : pB rk hk r h = true ↔ mh_pr rk hk r h := by
  unfold pB mh_pr
  simp only [Bool.and_eq_true, decide_eq_true_eq]
theorem uAsk {σ : Mem} {n m : Nat} (I : inC σ n m) (G : mh_G n m (rkC σ) (hkC σ) (σ 20) (σ 24) (σ 34)) {r : Int} (r0 : 0 ≤ r) (r1 : r < n) (fr : σ 24 r = -1) (a0 : 0 ≤ σ 34 r) (a1 : σ 34 r < σ 10 r) :
    ∃ σ', fX0_ask_33 σ r = some (0, σ') ∧ (∀ k, k ≠ 24 → k ≠ 34 → σ' k = σ k) ∧ σ' 34 = mh_up (σ 34) r (σ 34 r + 1) ∧ mh_G n m (rkC σ) (hkC σ) (σ 20) (σ' 24) (σ' 34) := by
  obtain ⟨i1, i2, i3, i4, i5, i6, ⟨n1, n6, m1, m6⟩, LR, LH, cp⟩ := I
  have hi := lsI_inj LR LH
  have hh := atF_ok LR r0 r1 a0 a1
  generalize hat : atF m (rkC σ) r (σ 34 r) = h at hh
  have szr := (LR r r0 r1).1
  have r6 : 0 ≤ r ∧ r < 6 := by omega
  have hh6 : 0 ≤ h ∧ h < 6 := by omega
  unfold fX0_ask_33
  rw [if_pos r6, uAt_2 i4 m6 r6, hat, Option.bind_some, if_pos r6, if_pos ⟨by omega, by omega⟩, if_pos r6]
  unfold nx
  -- the memory with one more asked
  generalize hs1 : mup σ 34 r (σ 34 r + 1) = σ1
  dsimp only
  have s1k : ∀ k, k ≠ 34 → σ1 k = σ k := fun k hk => by rw [← hs1, mup_ne _ _ _ hk]
  have s1a : σ1 34 = mh_up (σ 34) r (σ 34 r + 1) := by rw [← hs1, mup_eq]
  have rk1 : rkC σ1 = rkC σ := rkC_same (fun k hk => s1k k (by omega))
  have hk1 : hkC σ1 = hkC σ := hkC_same (fun k hk => s1k k (by omega))
  rw [if_neg (by omega), uIsPair r6 hh6, rk1, hk1, Option.bind_some]
  cases hp : pB (rkC σ) (hkC σ) r h with
  | false =>
    rw [if_pos (by simp [zb])]
    refine ⟨σ1, rfl, fun k a b => s1k k b, s1a, ?_⟩
    rw [s1k 24 (by omega), s1a]
    exact mh_G_vain hi G r0 r1 hh.1 hh.2.1 (fun z => by rw [pB_iff.mpr z] at hp; cases hp) hh.2.2 (by omega)
  | true =>
    have hp' := pB_iff.mp hp
    rw [if_neg (by simp [zb]), if_pos r6]
    generalize hs2 : mup σ1 24 r h = σ2
    have s2k : ∀ k, k ≠ 24 → σ2 k = σ1 k := fun k hk => by rw [← hs2, mup_ne _ _ _ hk]
    have s2f : σ2 24 = mh_up (σ 24) r h := by rw [← hs2, mup_eq, s1k 24 (by omega)]
    have hk2 : hkC σ2 = hkC σ := (hkC_same (fun k hk => s2k k (by omega))).trans hk1
    have n2 : σ2 1 3 = n := by rw [s2k 1 (by omega), s1k 1 (by omega)]; exact i1
    obtain ⟨l, hl, hla⟩ := uLast n2 n6 hh6
    rw [hl, Option.bind_some]
    rw [hk2, s2f] at hla
    have mem : mh_up (σ 24) r h r = h := by simp only [mh_up, if_true]
    rcases hla with ⟨-, b2⟩ | ⟨b1, b2, b3, b4⟩
    · exact absurd mem (b2 r r0 r1)
    · rw [if_neg (by omega), uCountAt_24 n2 n6, Option.bind_some, if_pos hh6, s2f, s2k 20 (by omega), s1k 20 (by omega)]
      have lw : ∀ q : Int, 0 ≤ q → q < n → mh_up (σ 24) r h q = h → q ≠ l → hkC σ h q < hkC σ h l := fun q q0 q1 hq ne => by
        have le := b4 q q0 q1 hq
        rcases Int.lt_or_le (hkC σ h q) (hkC σ h l) with c | c
        · exact c
        · have pq : hkC σ h q ≠ -1 := by
            by_cases e : q = r
            · rw [e]; exact hp'.2
            · have : σ 24 q = h := by simp only [mh_up] at hq; rw [if_neg e] at hq; exact hq
              rcases G.1 q q0 q1 with y | ⟨y1, y2, y3, -⟩
              · omega
              · rw [this] at y3; exact y3.2
          exact absurd (hi.2 h q l hh.1 hh.2.1 q0 q1 b1 b2 pq (by omega)) ne
      by_cases d : σ 20 h < mh_at n (mh_up (σ 24) r h) h
      · rw [if_pos d, if_pos (by omega)]
        refine ⟨mup σ2 24 l (-1), rfl, fun k a b => ?_, ?_, ?_⟩
        · rw [mup_ne _ _ _ a, s2k k a, s1k k b]
        · rw [mup_ne _ _ _ (by omega), s2k 34 (by omega), s1a]
        · rw [mup_eq, mup_ne _ _ _ (by omega), s2k 34 (by omega), s1a, s2f]
          exact mh_G_drop hi G r0 r1 hh.1 hh.2.1 fr hp' hh.2.2 d b1 b2 b3 lw
      · rw [if_neg d]
        refine ⟨σ2, rfl, fun k a b => by rw [s2k k a, s1k k b], by rw [s2k 34 (by omega), s1a], ?_⟩
        rw [s2f, s2k 34 (by omega), s1a]
        exact mh_G_seat hi G r0 r1 hh.1 hh.2.1 fr hp' hh.2.2 d
theorem mh_s_up {a : Int → Int} {k : Nat} {r x : Int} (r0 : 0 ≤ r) (r1 : r < k) : mh_s (mh_up a r x) k = mh_s a k + x - a r := by
  induction k with
  | zero => omega
  | succ k ih =>
    simp only [mh_s]
    by_cases e : r = k
    · have hc : ∀ j : Nat, j ≤ k → mh_s (mh_up a r x) j = mh_s a j := by
        intro j
        induction j with
        | zero => intro _; rfl
        | succ j ihj =>
          intro hj
          simp only [mh_s]
          rw [ihj (by omega)]
          simp only [mh_up]; rw [if_neg (by omega)]
      rw [hc k (by omega)]
      have : mh_up a r x (k : Int) = x := by simp only [mh_up]; rw [if_pos e.symm]
      rw [this, e]; omega
    · rw [ih (by omega)]
      have : mh_up a r x (k : Int) = a k := by simp only [mh_up]; rw [if_neg (fun z => e z.symm)]
      rw [this]; omega
theorem mh_s_le {a : Int → Int} {k : Nat} {c : Int} (h : ∀ r : Int, 0 ≤ r → r < k → a r ≤ c) : mh_s a k ≤ c * k := by
  induction k with
  | zero => simp [mh_s]
  | succ k ih =>
    simp only [mh_s]
    have a1 := ih (fun r x y => h r x (by omega))
    have a2 := h k (by omega) (by omega)
    have : c * ((k + 1 : Nat) : Int) = c * k + c := by rw [show ((k + 1 : Nat) : Int) = (k : Int) + 1 by omega, Int.mul_add, Int.mul_one]
    omega
theorem mh_s_lt {a : Int → Int} {k : Nat} {c : Int} (h : ∀ r : Int, 0 ≤ r → r < k → a r ≤ c) {q : Int} (q0 : 0 ≤ q) (q1 : q < k) (hq : a q < c) : mh_s a k < c * k := by
  have := mh_s_up (a := a) (x := c) q0 q1
  have := mh_s_le (a := mh_up a q c) (k := k) (c := c) (fun r x y => by
    simp only [mh_up]; split
    · exact Int.le_refl _
    · exact h r x y)
  omega
/-- the loop of asking: it ends with nobody that asks -/
theorem uAskAll {σ0 : Mem} {n m : Nat} (I : inC σ0 n m) : ∀ (f : Nat) (σ : Mem) (t : Nat), (∀ k, k ≠ 24 → k ≠ 34 → σ k = σ0 k) → mh_G n m (rkC σ0) (hkC σ0) (σ0 20) (σ 24) (σ 34) → (∀ r : Int, 0 ≤ r → r < n → 0 ≤ σ 34 r ∧ σ 34 r ≤ σ0 10 r) → mh_s (σ 34) n = t → 36 < f + t →
    ∃ σ', fX0_letAllAsk_33_L15 (fun σ15 v13 v14 => some (0, σ15)) f σ (mh_f (fun r => decide (σ 24 r = -1) && decide (σ 34 r < σ 10 r)) n) t = some (0, σ') ∧ (∀ k, k ≠ 24 → k ≠ 34 → σ' k = σ0 k) ∧ mh_G n m (rkC σ0) (hkC σ0) (σ0 20) (σ' 24) (σ' 34) ∧ ∀ r : Int, 0 ≤ r → r < n → σ' 24 r = -1 → σ0 10 r ≤ σ' 34 r := by
  intro f
  induction f with
  | zero =>
    intro σ t hk G ha hs hf
    exfalso
    obtain ⟨i1, i2, i3, i4, i5, i6, ⟨n1, n6, m1, m6⟩, LR, LH, cp⟩ := I
    have := mh_s_le (a := σ 34) (k := n) (c := 6) (fun r r0 r1 => by have := ha r r0 r1; have := (LR r r0 r1).1; omega)
    omega
  | succ f ih =>
    intro σ t hk G ha hs hf
    have I' := I
    obtain ⟨i1, i2, i3, i4, i5, i6, ⟨n1, n6, m1, m6⟩, LR, LH, cp⟩ := I'
    have s10 : σ 10 = σ0 10 := hk 10 (by omega) (by omega)
    have Iσ : inC σ n m := inC_same I (fun k h => hk k (by omega) (by omega))
    have rkE : rkC σ = rkC σ0 := rkC_same (fun k h => hk k (by omega) (by omega))
    have hkE : hkC σ = hkC σ0 := hkC_same (fun k h => hk k (by omega) (by omega))
    rw [fX0_letAllAsk_33_L15]
    by_cases e : mh_f (fun r => decide (σ 24 r = -1) && decide (σ 34 r < σ 10 r)) n = -1
    · have fin : ∀ r : Int, 0 ≤ r → r < n → σ 24 r = -1 → σ0 10 r ≤ σ 34 r := fun r r0 r1 z => by
        have := mh_f_none.mp e r r0 r1
        simp only [z, decide_true, Bool.true_and, decide_eq_false_iff_not] at this
        rw [s10] at this
        omega
      by_cases c : (t : Int) < 36
      · rw [if_pos c, if_pos e]
        exact ⟨σ, rfl, hk, G, fin⟩
      · rw [if_neg c]
        exact ⟨σ, rfl, hk, G, fin⟩
    · obtain ⟨q0, q1, q2, -⟩ := mh_f_some e
      generalize mh_f (fun r => decide (σ 24 r = -1) && decide (σ 34 r < σ 10 r)) n = q at e q0 q1 q2
      simp only [Bool.and_eq_true, decide_eq_true_eq] at q2
      have hq := ha q q0 q1
      have t36 : (t : Int) < 36 := by
        have := mh_s_lt (a := σ 34) (k := n) (c := 6) (fun r r0 r1 => by have := ha r r0 r1; have := (LR r r0 r1).1; omega) q0 q1 (by have := (LR q q0 q1).1; rw [s10] at q2; omega)
        omega
      rw [if_pos t36, if_neg e]
      obtain ⟨σ1, e1, e2, e3, e4⟩ := uAsk Iσ (by rw [rkE, hkE, hk 20 (by omega) (by omega)]; exact G) q0 q1 q2.1 hq.1 q2.2
      rw [e1]
      unfold bnd2
      rw [Option.bind_some]
      dsimp only
      have n1' : σ1 1 3 = n := by rw [e2 1 (by omega) (by omega), hk 1 (by omega) (by omega)]; exact i1
      rw [uNextAsker n1' n6, Option.bind_some, if_pos ⟨by omega, by omega⟩]
      have := ih σ1 (t + 1) (fun k a b => by rw [e2 k a b, hk k a b]) (by rw [rkE, hkE, hk 20 (by omega) (by omega)] at e4; exact e4) (fun r r0 r1 => by
        rw [e3]; simp only [mh_up]
        split
        · rename_i z; subst z; rw [s10] at q2; omega
        · exact ha r r0 r1) (by rw [e3, mh_s_up q0 q1]; omega) (by omega)
      rw [show ((t + 1 : Nat) : Int) = (t : Int) + 1 by omega] at this
      exact this

theorem uFillL_20 (σ : Mem) (x : Int) : ∀ (f j : Nat) (τ : Mem), j ≤ 6 → 6 < f + j → (∀ k, k ≠ 20 → τ k = σ k) → (∀ i : Int, τ 20 i = if 0 ≤ i ∧ i < j then x else σ 20 i) → ∃ σ', fJ7_fill_53178_c_20_L5 x (fun σ8 v7 => some (0, σ8)) f τ j = some (0, σ') ∧ (∀ k, k ≠ 20 → σ' k = σ k) ∧ ∀ i : Int, σ' 20 i = if 0 ≤ i ∧ i < 6 then x else σ 20 i := by
  intro f
  induction f with
  | zero => intro j τ h1 h2; omega
  | succ f ih =>
    intro j τ j1 j2 t1 t2
    rw [fJ7_fill_53178_c_20_L5]
    rcases Nat.lt_or_ge j 6 with hj | hj
    · rw [if_pos (by omega), if_pos (by omega)]
      rw [nx_eq, if_pos ⟨by omega, by omega⟩]
      have := ih (j + 1) (mup τ 20 j x) (by omega) (by omega) (fun k hk => by rw [mup_ne _ _ _ hk]; exact t1 k hk) (fun i => by
        rw [mup_eq]; simp only [mh_up]
        by_cases e : i = j
        · rw [if_pos e, if_pos (by omega)]
        · rw [if_neg e, t2 i]
          by_cases z : 0 ≤ i ∧ i < j
          · rw [if_pos z, if_pos (by omega)]
          · rw [if_neg z, if_neg (by omega)])
      rw [show ((j + 1 : Nat) : Int) = (j : Int) + 1 by omega] at this
      exact this
    · have : (j : Int) = 6 := by omega
      rw [this] at t2 ⊢
      rw [if_neg (by omega)]
      exact ⟨τ, rfl, t1, t2⟩
theorem uFill_20 (σ : Mem) (x : Int) : ∃ σ', fJ7_fill_53178_c_20 σ x = some (0, σ') ∧ (∀ k, k ≠ 20 → σ' k = σ k) ∧ ∀ j : Int, σ' 20 j = if 0 ≤ j ∧ j < 6 then x else σ 20 j := by
  obtain ⟨σ', h1, h2, h3⟩ := uFillL_20 σ x FU 0 σ (Nat.zero_le _) (Nat.lt_of_lt_of_le (FU_big (k := 6) (by decide)) (Nat.le_add_right _ _)) (fun _ _ => rfl) (fun i => by rw [if_neg (by omega)])
  exact ⟨σ', h1, h2, h3⟩

theorem uFillL_22 (σ : Mem) (x : Int) : ∀ (f j : Nat) (τ : Mem), j ≤ 6 → 6 < f + j → (∀ k, k ≠ 22 → τ k = σ k) → (∀ i : Int, τ 22 i = if 0 ≤ i ∧ i < j then x else σ 22 i) → ∃ σ', fJ7_fill_53178_c_22_L5 x (fun σ8 v7 => some (0, σ8)) f τ j = some (0, σ') ∧ (∀ k, k ≠ 22 → σ' k = σ k) ∧ ∀ i : Int, σ' 22 i = if 0 ≤ i ∧ i < 6 then x else σ 22 i := by
  intro f
  induction f with
  | zero => intro j τ h1 h2; omega
  | succ f ih =>
    intro j τ j1 j2 t1 t2
    rw [fJ7_fill_53178_c_22_L5]
    rcases Nat.lt_or_ge j 6 with hj | hj
    · rw [if_pos (by omega), if_pos (by omega)]
      rw [nx_eq, if_pos ⟨by omega, by omega⟩]
      have := ih (j + 1) (mup τ 22 j x) (by omega) (by omega) (fun k hk => by rw [mup_ne _ _ _ hk]; exact t1 k hk) (fun i => by
        rw [mup_eq]; simp only [mh_up]
        by_cases e : i = j
        · rw [if_pos e, if_pos (by omega)]
        · rw [if_neg e, t2 i]
          by_cases z : 0 ≤ i ∧ i < j
          · rw [if_pos z, if_pos (by omega)]
          · rw [if_neg z, if_neg (by omega)])
      rw [show ((j + 1 : Nat) : Int) = (j : Int) + 1 by omega] at this
      exact this
    · have : (j : Int) = 6 := by omega
      rw [this] at t2 ⊢
      rw [if_neg (by omega)]
      exact ⟨τ, rfl, t1, t2⟩
theorem uFill_22 (σ : Mem) (x : Int) : ∃ σ', fJ7_fill_53178_c_22 σ x = some (0, σ') ∧ (∀ k, k ≠ 22 → σ' k = σ k) ∧ ∀ j : Int, σ' 22 j = if 0 ≤ j ∧ j < 6 then x else σ 22 j := by
  obtain ⟨σ', h1, h2, h3⟩ := uFillL_22 σ x FU 0 σ (Nat.zero_le _) (Nat.lt_of_lt_of_le (FU_big (k := 6) (by decide)) (Nat.le_add_right _ _)) (fun _ _ => rfl) (fun i => by rw [if_neg (by omega)])
  exact ⟨σ', h1, h2, h3⟩

theorem uFillL_24 (σ : Mem) (x : Int) : ∀ (f j : Nat) (τ : Mem), j ≤ 6 → 6 < f + j → (∀ k, k ≠ 24 → τ k = σ k) → (∀ i : Int, τ 24 i = if 0 ≤ i ∧ i < j then x else σ 24 i) → ∃ σ', fJ7_fill_53178_c_24_L5 x (fun σ8 v7 => some (0, σ8)) f τ j = some (0, σ') ∧ (∀ k, k ≠ 24 → σ' k = σ k) ∧ ∀ i : Int, σ' 24 i = if 0 ≤ i ∧ i < 6 then x else σ 24 i := by
  intro f
  induction f with
  | zero => intro j τ h1 h2; omega
  | succ f ih =>
    intro j τ j1 j2 t1 t2
    rw [fJ7_fill_53178_c_24_L5]
    rcases Nat.lt_or_ge j 6 with hj | hj
    · rw [if_pos (by omega), if_pos (by omega)]
      rw [nx_eq, if_pos ⟨by omega, by omega⟩]
      have := ih (j + 1) (mup τ 24 j x) (by omega) (by omega) (fun k hk => by rw [mup_ne _ _ _ hk]; exact t1 k hk) (fun i => by
        rw [mup_eq]; simp only [mh_up]
        by_cases e : i = j
        · rw [if_pos e, if_pos (by omega)]
        · rw [if_neg e, t2 i]
          by_cases z : 0 ≤ i ∧ i < j
          · rw [if_pos z, if_pos (by omega)]
          · rw [if_neg z, if_neg (by omega)])
      rw [show ((j + 1 : Nat) : Int) = (j : Int) + 1 by omega] at this
      exact this
    · have : (j : Int) = 6 := by omega
      rw [this] at t2 ⊢
      rw [if_neg (by omega)]
      exact ⟨τ, rfl, t1, t2⟩
theorem uFill_24 (σ : Mem) (x : Int) : ∃ σ', fJ7_fill_53178_c_24 σ x = some (0, σ') ∧ (∀ k, k ≠ 24 → σ' k = σ k) ∧ ∀ j : Int, σ' 24 j = if 0 ≤ j ∧ j < 6 then x else σ 24 j := by
  obtain ⟨σ', h1, h2, h3⟩ := uFillL_24 σ x FU 0 σ (Nat.zero_le _) (Nat.lt_of_lt_of_le (FU_big (k := 6) (by decide)) (Nat.le_add_right _ _)) (fun _ _ => rfl) (fun i => by rw [if_neg (by omega)])
  exact ⟨σ', h1, h2, h3⟩

theorem uFillL_34 (σ : Mem) (x : Int) : ∀ (f j : Nat) (τ : Mem), j ≤ 6 → 6 < f + j → (∀ k, k ≠ 34 → τ k = σ k) → (∀ i : Int, τ 34 i = if 0 ≤ i ∧ i < j then x else σ 34 i) → ∃ σ', fJ7_fill_53178_c_34_L5 x (fun σ8 v7 => some (0, σ8)) f τ j = some (0, σ') ∧ (∀ k, k ≠ 34 → σ' k = σ k) ∧ ∀ i : Int, σ' 34 i = if 0 ≤ i ∧ i < 6 then x else σ 34 i := by
  intro f
  induction f with
  | zero => intro j τ h1 h2; omega
  | succ f ih =>
    intro j τ j1 j2 t1 t2
    rw [fJ7_fill_53178_c_34_L5]
    rcases Nat.lt_or_ge j 6 with hj | hj
    · rw [if_pos (by omega), if_pos (by omega)]
      rw [nx_eq, if_pos ⟨by omega, by omega⟩]
      have := ih (j + 1) (mup τ 34 j x) (by omega) (by omega) (fun k hk => by rw [mup_ne _ _ _ hk]; exact t1 k hk) (fun i => by
        rw [mup_eq]; simp only [mh_up]
        by_cases e : i = j
        · rw [if_pos e, if_pos (by omega)]
        · rw [if_neg e, t2 i]
          by_cases z : 0 ≤ i ∧ i < j
          · rw [if_pos z, if_pos (by omega)]
          · rw [if_neg z, if_neg (by omega)])
      rw [show ((j + 1 : Nat) : Int) = (j : Int) + 1 by omega] at this
      exact this
    · have : (j : Int) = 6 := by omega
      rw [this] at t2 ⊢
      rw [if_neg (by omega)]
      exact ⟨τ, rfl, t1, t2⟩
theorem uFill_34 (σ : Mem) (x : Int) : ∃ σ', fJ7_fill_53178_c_34 σ x = some (0, σ') ∧ (∀ k, k ≠ 34 → σ' k = σ k) ∧ ∀ j : Int, σ' 34 j = if 0 ≤ j ∧ j < 6 then x else σ 34 j := by
  obtain ⟨σ', h1, h2, h3⟩ := uFillL_34 σ x FU 0 σ (Nat.zero_le _) (Nat.lt_of_lt_of_le (FU_big (k := 6) (by decide)) (Nat.le_add_right _ _)) (fun _ _ => rfl) (fun i => by rw [if_neg (by omega)])
  exact ⟨σ', h1, h2, h3⟩

