/-! PURE 4: the class: what comes before the search, and one more stable matching put down -/
def psF (rk : Int → Int → Int) (f : Int → Int) (r : Int) : Int := if f r = -1 then -1 else rk r (f r)
theorem uClear_23 (σ : Mem) : ∃ σ', fX3_clear_23 σ = some (0, σ') ∧ (∀ k, k ≠ 24 → σ' k = σ k) ∧ ∀ j : Int, σ' 24 j = if 0 ≤ j ∧ j < 6 then -1 else σ 24 j := by
  obtain ⟨σ', h1, h2, h3⟩ := uFill_24 σ (-1)
  refine ⟨σ', ?_, h2, h3⟩
  unfold fX3_clear_23
  rw [h1, bnd2_some]
theorem uClear_21 (σ : Mem) : ∃ σ', fX3_clear_21 σ = some (0, σ') ∧ (∀ k, k ≠ 22 → σ' k = σ k) ∧ ∀ j : Int, σ' 22 j = if 0 ≤ j ∧ j < 6 then -1 else σ 22 j := by
  obtain ⟨σ', h1, h2, h3⟩ := uFill_22 σ (-1)
  refine ⟨σ', ?_, h2, h3⟩
  unfold fX3_clear_21
  rw [h1, bnd2_some]
theorem mh_G00 {n m : Nat} {rk hk : Int → Int → Int} {cp f ask : Int → Int} (hf : ∀ r : Int, 0 ≤ r → r < n → f r = -1) (ha : ∀ r : Int, 0 ≤ r → r < n → ask r = 0) (hcp : ∀ h : Int, 0 ≤ h → h < m → 0 ≤ cp h) (hrk : ∀ r h : Int, 0 ≤ r → r < n → 0 ≤ h → h < m → rk r h = -1 ∨ 0 ≤ rk r h) : mh_G n m rk hk cp f ask := by
  refine ⟨fun r r0 r1 => Or.inl (hf r r0 r1), fun h h0 h1 => ?_, fun r h r0 r1 h0 h1 hp hl _ => ?_⟩
  · have : mh_at n f h = 0 := mh_c_zero (fun q q0 q1 => by rw [hf q q0 q1]; simp; omega)
    rw [this]; exact hcp h h0 h1
  · have a1 := hrk r h r0 r1 h0 h1
    have a2 := hp.1
    rw [ha r r0 r1] at hl
    omega
theorem uLetAll {σ : Mem} {n m : Nat} (I : inC σ n m) (hf : ∀ r : Int, 0 ≤ r → r < n → σ 24 r = -1) : ∃ σ', fX0_letAllAsk_33 σ = some (0, σ') ∧ (∀ k, k ≠ 24 → k ≠ 34 → σ' k = σ k) ∧ mh_G n m (rkC σ) (hkC σ) (σ 20) (σ' 24) (σ' 34) ∧ ∀ r : Int, 0 ≤ r → r < n → σ' 24 r = -1 → σ 10 r ≤ σ' 34 r := by
  have I' := I
  obtain ⟨i1, i2, i3, i4, i5, i6, ⟨n1, n6, m1, m6⟩, LR, LH, cp⟩ := I'
  obtain ⟨σ1, h1, h2, h3⟩ := uFill_34 σ 0
  unfold fX0_letAllAsk_33
  have n1' : σ1 1 3 = n := by rw [h2 1 (by omega)]; exact i1
  rw [h1, bnd2_some, uNextAsker n1' n6, Option.bind_some]
  have z : ∀ r : Int, 0 ≤ r → r < n → σ1 34 r = 0 := fun r r0 r1 => by rw [h3 r, if_pos (by omega)]
  have s0 : mh_s (σ1 34) n = ((0 : Nat) : Int) := by
    have : ∀ j : Nat, j ≤ n → mh_s (σ1 34) j = 0 := by
      intro j
      induction j with
      | zero => intro _; rfl
      | succ j ih => intro hj; simp only [mh_s]; rw [ih (by omega), z j (by omega) (by omega)]; rfl
    exact this n (Nat.le_refl _)
  have := uAskAll I FU σ1 0 (fun k _ b => h2 k b) (by
      rw [h2 24 (by omega)]
      exact mh_G00 hf z (fun h a b => by have := cp h a b; omega) (fun r h a b c d => by have := (LR r a b).2.1 h c d; omega)) (fun r r0 r1 => by
      rw [z r r0 r1]; have := (LR r r0 r1).1; omega) s0 (Nat.lt_of_lt_of_le (FU_big (k := 36) (by decide)) (Nat.le_add_right _ _))
  rw [show ((0 : Nat) : Int) = 0 from rfl] at this
  exact this
theorem uNote {σ : Mem} {n m : Nat} (I : inC σ n m) (hv : ∀ r : Int, 0 ≤ r → r < n → σ 24 r = -1 ∨ (0 ≤ σ 24 r ∧ σ 24 r < 6)) : ∃ σ', fX0_noteLimits_33 σ = some (0, σ') ∧ (∀ k, k ≠ 35 → k ≠ 36 → σ' k = σ k) ∧ (∀ r : Int, 0 ≤ r → r < n → σ' 35 r = psF (rkC σ) (σ 24) r) ∧ ∀ h : Int, 0 ≤ h → h < m → σ' 36 h = mh_at n (σ 24) h := by
  obtain ⟨i1, i2, i3, i4, i5, i6, ⟨n1, n6, m1, m6⟩, LR, LH, cp⟩ := I
  have L2 : ∀ (f j : Nat) (τ : Mem), j ≤ m → m < f + j → (∀ k, k ≠ 35 → k ≠ 36 → τ k = σ k) → (∀ r : Int, 0 ≤ r → r < n → τ 35 r = psF (rkC σ) (σ 24) r) → (∀ h : Int, 0 ≤ h → h < j → τ 36 h = mh_at n (σ 24) h) → ∃ σ', fX0_noteLimits_33_L44 (fun σ19 v18 => some (0, σ19)) f τ j = some (0, σ') ∧ (∀ k, k ≠ 35 → k ≠ 36 → σ' k = σ k) ∧ (∀ r : Int, 0 ≤ r → r < n → σ' 35 r = psF (rkC σ) (σ 24) r) ∧ ∀ h : Int, 0 ≤ h → h < m → σ' 36 h = mh_at n (σ 24) h := by
    intro f
    induction f with
    | zero => intro j τ h1 h2; omega
    | succ f ih =>
      intro j τ j1 j2 t1 t2 t3
      rw [fX0_noteLimits_33_L44]
      have tm : τ 1 4 = m := by rw [t1 1 (by omega) (by omega)]; exact i2
      have tn : τ 1 3 = n := by rw [t1 1 (by omega) (by omega)]; exact i1
      rcases Nat.lt_or_ge j m with hj | hj
      · rw [if_pos (by omega), uCountAt_24 tn n6, Option.bind_some, if_pos (by omega), nx_eq, if_pos ⟨by omega, by omega⟩, t1 24 (by omega) (by omega)]
        have := ih (j + 1) (mup τ 36 j (mh_at n (σ 24) j)) (by omega) (by omega) (fun k a b => by rw [mup_ne _ _ _ b]; exact t1 k a b) (fun r r0 r1 => by rw [mup_ne _ _ _ (by omega)]; exact t2 r r0 r1) (fun h h0 h1 => by
          rw [mup_eq]; simp only [mh_up]
          by_cases e : h = j
          · rw [if_pos e, e]
          · rw [if_neg e]; exact t3 h h0 (by omega))
        rw [show ((j + 1 : Nat) : Int) = (j : Int) + 1 by omega] at this
        exact this
      · rw [if_neg (by omega)]
        exact ⟨τ, rfl, t1, t2, fun h h0 h1 => t3 h h0 (by omega)⟩
  have L1 : ∀ (f j : Nat) (τ : Mem), j ≤ n → n < f + j → (∀ k, k ≠ 35 → k ≠ 36 → τ k = σ k) → (∀ r : Int, 0 ≤ r → r < j → τ 35 r = psF (rkC σ) (σ 24) r) → ∃ σ', fX0_noteLimits_33_L2 (fun σ10 v9 => fX0_noteLimits_33_L44 (fun σ19 v18 => some (0, σ19)) FU σ10 0) f τ j = some (0, σ') ∧ (∀ k, k ≠ 35 → k ≠ 36 → σ' k = σ k) ∧ (∀ r : Int, 0 ≤ r → r < n → σ' 35 r = psF (rkC σ) (σ 24) r) ∧ ∀ h : Int, 0 ≤ h → h < m → σ' 36 h = mh_at n (σ 24) h := by
    intro f
    induction f with
    | zero => intro j τ h1 h2; omega
    | succ f ih =>
      intro j τ j1 j2 t1 t2
      rw [fX0_noteLimits_33_L2]
      have tn : τ 1 3 = n := by rw [t1 1 (by omega) (by omega)]; exact i1
      have trk : rkC τ = rkC σ := rkC_same (fun k hk => t1 k (by omega) (by omega))
      rcases Nat.lt_or_ge j n with hj | hj
      · rw [if_pos (by omega), if_pos (by omega), t1 24 (by omega) (by omega), uPlH (hv j (by omega) (by omega)) (by omega), trk, Option.bind_some, if_pos (by omega), nx_eq, if_pos ⟨by omega, by omega⟩]
        have := ih (j + 1) (mup τ 35 j (psF (rkC σ) (σ 24) j)) (by omega) (by omega) (fun k a b => by rw [mup_ne _ _ _ a]; exact t1 k a b) (fun h h0 h1 => by
          rw [mup_eq]; simp only [mh_up]
          by_cases e : h = j
          · rw [if_pos e, e]
          · rw [if_neg e]; exact t2 h h0 (by omega))
        rw [show ((j + 1 : Nat) : Int) = (j : Int) + 1 by omega] at this
        exact this
      · rw [if_neg (by omega)]
        have := L2 FU 0 τ (by omega) (by unfold FU; omega) t1 (fun r r0 r1 => t2 r r0 (by omega)) (fun h h0 h1 => by omega)
        rw [show ((0 : Nat) : Int) = 0 from rfl] at this
        exact this
  unfold fX0_noteLimits_33
  have := L1 FU 0 σ (by omega) (by unfold FU; omega) (fun _ _ _ => rfl) (fun r r0 r1 => by omega)
  rw [show ((0 : Nat) : Int) = 0 from rfl] at this
  exact this
/-- one more row of stable matchings -/
theorem uAdd {σ : Mem} {n m : Nat} (I : inC σ n m) (hv : ∀ r : Int, 0 ≤ r → r < n → σ 24 r = -1 ∨ (0 ≤ σ 24 r ∧ σ 24 r < 6)) {K : Nat} (hK : σ 25 3 = K) (k2 : K < 216) :
    ∃ σ', fX5_add_25_23 σ = some (0, σ') ∧ (∀ k, k ≠ 25 → k ≠ 26 → k ≠ 27 → σ' k = σ k) ∧ σ' 25 3 = K + 1 ∧ (∀ j : Int, j < K * 6 → σ' 26 j = σ 26 j ∧ σ' 27 j = σ 27 j) ∧ ∀ r : Int, 0 ≤ r → r < n → σ' 26 (K * 6 + r) = σ 24 r ∧ σ' 27 (K * 6 + r) = psF (rkC σ) (σ 24) r := by
  obtain ⟨i1, i2, i3, i4, i5, i6, ⟨n1, n6, m1, m6⟩, LR, LH, cp⟩ := I
  have L : ∀ (f j : Nat) (τ : Mem), j ≤ n → n < f + j → (∀ k, k ≠ 26 → k ≠ 27 → τ k = σ k) → (∀ q : Int, q < K * 6 → τ 26 q = σ 26 q ∧ τ 27 q = σ 27 q) → (∀ r : Int, 0 ≤ r → r < n → τ 26 (K * 6 + r) = σ 24 r) → (∀ r : Int, 0 ≤ r → r < j → τ 27 (K * 6 + r) = psF (rkC σ) (σ 24) r) →
      ∃ σ', fX5_add_25_23_L34 (fun σ15 v14 => if rng ((σ15 25 3) + 1) then nx (mup σ15 25 3 ((σ15 25 3) + 1)) fun σ17 => some (0, σ17) else none) f τ j = some (0, σ') ∧ (∀ k, k ≠ 25 → k ≠ 26 → k ≠ 27 → σ' k = σ k) ∧ σ' 25 3 = K + 1 ∧ (∀ j : Int, j < K * 6 → σ' 26 j = σ 26 j ∧ σ' 27 j = σ 27 j) ∧ ∀ r : Int, 0 ≤ r → r < n → σ' 26 (K * 6 + r) = σ 24 r ∧ σ' 27 (K * 6 + r) = psF (rkC σ) (σ 24) r := by
    intro f
    induction f with
    | zero => intro j τ h1 h2; omega
    | succ f ih =>
      intro j τ j1 j2 t1 t2 t3 t4
      rw [fX5_add_25_23_L34]
      have tn : τ 1 3 = n := by rw [t1 1 (by omega) (by omega)]; exact i1
      have tK : τ 25 3 = K := by rw [t1 25 (by omega) (by omega)]; exact hK
      have trk : rkC τ = rkC σ := rkC_same (fun k hk => t1 k (by omega) (by omega))
      rcases Nat.lt_or_ge j n with hj | hj
      · rw [if_pos (by omega), tK, if_pos ⟨by omega, by omega⟩, if_pos ⟨by omega, by omega⟩, if_pos (by omega), t1 24 (by omega) (by omega), uPlH (hv j (by omega) (by omega)) (by omega), trk, Option.bind_some, if_pos (by omega), nx_eq, if_pos ⟨by omega, by omega⟩]
        have := ih (j + 1) (mup τ 27 (K * 6 + j) (psF (rkC σ) (σ 24) j)) (by omega) (by omega) (fun k a b => by rw [mup_ne _ _ _ b]; exact t1 k a b) (fun q hq => by
          rw [mup_ne _ _ _ (by omega), mup_eq]; simp only [mh_up]; rw [if_neg (by omega)]; exact t2 q hq) (fun r r0 r1 => by rw [mup_ne _ _ _ (by omega)]; exact t3 r r0 r1) (fun h h0 h1 => by
          rw [mup_eq]; simp only [mh_up]
          by_cases e : h = j
          · rw [if_pos (by omega), e]
          · rw [if_neg (by omega)]; exact t4 h h0 (by omega))
        rw [show ((j + 1 : Nat) : Int) = (j : Int) + 1 by omega] at this
        exact this
      · rw [if_neg (by omega), tK, if_pos ⟨by omega, by omega⟩, nx_eq]
        refine ⟨_, rfl, fun k a b c => ?_, ?_, fun q hq => ?_, fun r r0 r1 => ?_⟩
        · rw [mup_ne _ _ _ a]; exact t1 k b c
        · rw [mup_eq]; simp only [mh_up, if_true]
        · rw [mup_ne _ _ _ (by omega), mup_ne _ _ _ (by omega)]; exact t2 q hq
        · rw [mup_ne _ _ _ (by omega), mup_ne _ _ _ (by omega)]; exact ⟨t3 r r0 r1, t4 r r0 (by omega)⟩
  unfold fX5_add_25_23
  rw [hK, if_neg (by omega), if_pos ⟨by omega, by omega⟩, if_pos (by omega), nx_eq]
  have c26 : ∀ q : Int, mcpy σ 24 26 0 (K * 6) 6 26 q = if (K : Int) * 6 ≤ q ∧ q < K * 6 + 6 then σ 24 (0 + (q - K * 6)) else σ 26 q := fun q => by
    unfold mcpy; rw [if_pos rfl]
  have cne : ∀ k, k ≠ 26 → mcpy σ 24 26 0 (K * 6) 6 k = σ k := fun k hk => by
    unfold mcpy; rw [if_neg hk]
  have := L FU 0 (mcpy σ 24 26 0 (K * 6) 6) (by omega) (by unfold FU; omega) (fun k a _ => cne k a) (fun q hq => by
      rw [c26, if_neg (by omega), cne 27 (by omega)]; exact ⟨rfl, rfl⟩) (fun r r0 r1 => by rw [c26, if_pos (by omega), show (0 : Int) + (K * 6 + r - K * 6) = r by omega]) (fun r r0 r1 => by omega)
  rw [show ((0 : Nat) : Int) = 0 from rfl] at this
  exact this

