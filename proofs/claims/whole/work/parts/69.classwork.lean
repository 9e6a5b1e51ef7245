/-! PURE 8: the class's work is done -/
theorem iN_nat (k : Nat) : iN (k : Int) = nI k := by
  unfold iN nI
  first
    | exact Int32.ofInt_natCast k
    | rfl
    | simp
    | exact (Int32.ofNat_eq_ofInt k).symm
theorem bShl1 {k : Nat} (h : k < 15) : bShl 1 k = ((2 ^ k : Nat) : Int) := by
  have : k = 0 ∨ k = 1 ∨ k = 2 ∨ k = 3 ∨ k = 4 ∨ k = 5 ∨ k = 6 ∨ k = 7 ∨ k = 8 ∨ k = 9 ∨ k = 10 ∨ k = 11 ∨ k = 12 ∨ k = 13 ∨ k = 14 := by omega
  rcases this with e | e | e | e | e | e | e | e | e | e | e | e | e | e | e <;> subst e <;> decide
theorem bOr2 {a k : Nat} (h : k < 15) (ha : a < 2 ^ k) : bOr a ((2 ^ k : Nat) : Int) = ((a + 2 ^ k : Nat) : Int) := by
  unfold bOr
  rw [iN_nat, iN_nat]
  have p15 : (2 : Nat) ^ k ≤ 2 ^ 14 := Nat.pow_le_pow_right (by decide) (by omega)
  have e14 : (2 : Nat) ^ 14 = 16384 := by decide
  have e : nI a ||| nI (2 ^ k) = nI (a + 2 ^ k) := by
    apply Int32.toBitVec_inj.mp
    rw [Int32.toBitVec_or]
    apply BitVec.eq_of_toNat_eq
    rw [BitVec.toNat_or, pk_tn (by omega), pk_tn (by omega), pk_tn (by omega)]
    have := Nat.two_pow_add_eq_or_of_lt ha 1
    rw [Nat.mul_one] at this
    rw [Nat.or_comm, ← this, Nat.add_comm]
  rw [e, nI_toInt (by omega)]
theorem bBit {a k : Nat} (h : k < 15) (ha : a < 32768) : bAnd (bShr a k) 1 = ((a / 2 ^ k % 2 : Nat) : Int) := by
  have hs : ((iN (k : Int) &&& 31).toBitVec.smod 32).toNat = k := by
    have : k = 0 ∨ k = 1 ∨ k = 2 ∨ k = 3 ∨ k = 4 ∨ k = 5 ∨ k = 6 ∨ k = 7 ∨ k = 8 ∨ k = 9 ∨ k = 10 ∨ k = 11 ∨ k = 12 ∨ k = 13 ∨ k = 14 := by omega
    rcases this with e | e | e | e | e | e | e | e | e | e | e | e | e | e | e <;> subst e <;> decide
  unfold bAnd bShr
  rw [iN_of, iN_nat a, pk_shrN (by omega) _ k hs]
  have : nI (a / 2 ^ k) &&& iN 1 = nI (a / 2 ^ k % 2 ^ 1) := pk_andN (by have := Nat.div_le_self a (2 ^ k); omega) (m := iN 1) 1 (by decide)
  rw [this, nI_toInt (by omega)]
def mskN (d : Nat → Bool) : Nat → Nat
  | 0 => 0
  | k + 1 => mskN d k + (if d k = true then 2 ^ k else 0)
theorem mskN_lt (d : Nat → Bool) (k : Nat) : mskN d k < 2 ^ k := by
  induction k with
  | zero => simp [mskN]
  | succ k ih => simp only [mskN]; rw [Nat.pow_succ]; split <;> omega
theorem mskN_bit (d : Nat → Bool) : ∀ (N k : Nat), k < N → mskN d N / 2 ^ k % 2 = if d k = true then 1 else 0 := by
  intro N
  induction N with
  | zero => intro k h; omega
  | succ N ih =>
    intro k h
    simp only [mskN]
    by_cases e : k = N
    · subst e
      have lt := mskN_lt d k
      by_cases z : d k = true
      · rw [if_pos z, if_pos z, Nat.add_div_right _ (Nat.two_pow_pos k), Nat.div_eq_of_lt lt]
      · rw [if_neg z, if_neg z, Nat.add_zero, Nat.div_eq_of_lt lt]
    · have i := ih k (by omega)
      by_cases z : d N = true
      · rw [if_pos z]
        have pw : 2 ^ N = 2 ^ k * (2 * 2 ^ (N - k - 1)) := by
          rw [← Nat.mul_assoc, ← Nat.pow_succ, ← Nat.pow_add]; congr 1; omega
        rw [pw, Nat.add_mul_div_left _ _ (Nat.two_pow_pos k), Nat.add_mul_mod_self_left]
        exact i
      · rw [if_neg z, Nat.add_zero]; exact i
/-- whether a rotation is done -/
def dnB (n : Nat) (P : Int → Int → Int) (t : Int × Int) (x : Int) : Bool := decide (P t.2 (mh_f (mvB P t.1 t.2) n) ≤ P x (mh_f (mvB P t.1 t.2) n))
theorem uMover {σ : Mem} {n m : Nat} {S : List (Int → Int)} (h : ctC σ n m S) {R : List (Int × Int)} (T : rtC σ n (PS (rkC σ) S) R) (O : rOK n S.length (PS (rkC σ) S) R) {k : Nat} (hk : k < R.length) (i : Int) : fX4_mover_28 σ k i = some (nthB (mvB (PS (rkC σ) S) (R[k]).1 (R[k]).2) n i) := by
  have r15 := rOK_15 h O
  have t := T.2 k _ (List.getElem?_eq_getElem hk)
  have o := O.1 _ (List.getElem_mem hk)
  unfold fX4_mover_28
  rw [if_pos (by omega), if_pos (by omega), t.1, t.2.1, uMoverOf h o.1 o.2.1 o.2.2.1 o.2.2.2.1, Option.bind_some]
theorem uDoneMask {σ : Mem} {n m : Nat} {S : List (Int → Int)} (h : ctC σ n m S) {R : List (Int × Int)} (T : rtC σ n (PS (rkC σ) S) R) (O : rOK n S.length (PS (rkC σ) S) R) {x : Int} (x0 : 0 ≤ x) (x1 : x < S.length) : fX4_doneMask_28 σ x = some ((mskN (fun k => dnB n (PS (rkC σ) S) (R.getD k (0, 0)) x) R.length : Nat) : Int) := by
  have r15 := rOK_15 h O
  have k216 := ctC_le h
  obtain ⟨l1, l2, l3, l4⟩ := ctC_lat h
  obtain ⟨i1, i2, i3, i4, i5, i6, ⟨n1, n6, m1, m6⟩, LR, LH, cp⟩ := h.1
  have L : ∀ (f k : Nat), k ≤ R.length → R.length < f + k → fX4_doneMask_28_L4 σ x (fun v13 v14 => some v13) f (mskN (fun k => dnB n (PS (rkC σ) S) (R.getD k (0, 0)) x) k : Nat) k = some ((mskN (fun k => dnB n (PS (rkC σ) S) (R.getD k (0, 0)) x) R.length : Nat) : Int) := by
    intro f
    induction f with
    | zero => intro k h1 h2; omega
    | succ f ih =>
      intro k h1 h2
      rw [fX4_doneMask_28_L4, T.1]
      rcases Nat.lt_or_ge k R.length with hk | hk
      · have ih' := ih (k + 1) (by omega) (by omega)
        rw [show ((k + 1 : Nat) : Int) = (k : Int) + 1 by omega] at ih'
        have gd' : R.getD k (0, 0) = R[k] := by rw [List.getD_eq_getElem?_getD, List.getElem?_eq_getElem hk]; rfl
        have o := O.1 _ (List.getElem_mem hk)
        have t := T.2 k _ (List.getElem?_eq_getElem hk)
        obtain ⟨f0, f1, f2, f3⟩ := (step_two l1 l2 o.1 o.2.1 o.2.2.1 o.2.2.2.1 o.2.2.2.2).1
        simp only [mskN, gd'] at ih'
        rw [if_pos (by omega), uMover h T O hk, Option.bind_some, nthB_0, if_neg (by omega), uPlAt (by omega) (by omega), Option.bind_some, if_pos (by omega), t.2.1, uPlAt (by omega) (by omega), Option.bind_some, (ctC_at h x0 x1 f0 f1).2, (ctC_at h o.2.2.1 o.2.2.2.1 f0 f1).2]
        by_cases e : PS (rkC σ) S x (mh_f (mvB (PS (rkC σ) S) (R[k]).1 (R[k]).2) n) < PS (rkC σ) S (R[k]).2 (mh_f (mvB (PS (rkC σ) S) (R[k]).1 (R[k]).2) n)
        · have d : dnB n (PS (rkC σ) S) R[k] x = false := by unfold dnB; rw [decide_eq_false_iff_not]; omega
          rw [d] at ih'
          rw [if_pos e, if_pos ⟨by omega, by omega⟩]
          simpa using ih'
        · have d : dnB n (PS (rkC σ) S) R[k] x = true := by unfold dnB; rw [decide_eq_true_eq]; omega
          rw [d, if_pos rfl] at ih'
          rw [if_neg e, if_pos ⟨by omega, by omega⟩, bShl1 (by omega), bOr2 (by omega) (mskN_lt _ _)]
          exact ih'
      · have : k = R.length := by omega
        subst this
        rw [if_neg (by omega)]
  unfold fX4_doneMask_28
  have := L FU 0 (by omega) (by unfold FU; omega)
  rw [show ((0 : Nat) : Int) = 0 from rfl] at this
  exact this
/-- masks of what is done -/
def dnC (σ : Mem) (n : Nat) (P : Int → Int → Int) (K : Nat) (R : List (Int × Int)) : Prop := ∀ x : Int, 0 ≤ x → x < K → σ 32 x = (mskN (fun k => dnB n P (R.getD k (0, 0)) x) R.length : Nat)
theorem uIsDone {σ : Mem} {n m : Nat} {S : List (Int → Int)} (h : ctC σ n m S) {R : List (Int × Int)} (O : rOK n S.length (PS (rkC σ) S) R) (D : dnC σ n (PS (rkC σ) S) S.length R) {k : Nat} (hk : k < R.length) {x : Int} (x0 : 0 ≤ x) (x1 : x < S.length) : fX4_isDone_28 σ k x = some (zb (dnB n (PS (rkC σ) S) R[k] x)) := by
  have r15 := rOK_15 h O
  have k216 := ctC_le h
  have gd' : R.getD k (0, 0) = R[k] := by rw [List.getD_eq_getElem?_getD, List.getElem?_eq_getElem hk]; rfl
  have lt := mskN_lt (fun k => dnB n (PS (rkC σ) S) (R.getD k (0, 0)) x) R.length
  have p15 : (2 : Nat) ^ R.length ≤ 2 ^ 15 := Nat.pow_le_pow_right (by decide) r15
  have e15 : (2 : Nat) ^ 15 = 32768 := by decide
  unfold fX4_isDone_28
  rw [if_pos (by omega), D x x0 x1, bBit (by omega) (by omega), mskN_bit _ _ k hk, gd']
  cases dnB n (PS (rkC σ) S) R[k] x <;> simp [zb]
/-- every step has its rotation there -/
def rAll (n K : Nat) (P : Int → Int → Int) (R : List (Int × Int)) : Prop := ∀ A B : Int, 0 ≤ A → A < K → 0 ≤ B → B < K → mh_step n K P A B → ∃ t ∈ R, keyS n P t.1 t.2 = keyS n P A B
theorem uFirstStep {σ : Mem} {n m : Nat} {S : List (Int → Int)} (h : ctC σ n m S) {R : List (Int × Int)} (T : rtC σ n (PS (rkC σ) S) R) (O : rOK n S.length (PS (rkC σ) S) R) {a : Nat} (a1 : a < S.length) :
    ∃ σ' R', fX4_addFirstStep_28 σ a = some (0, σ') ∧ (∀ k, k ≠ 28 → k ≠ 29 → k ≠ 30 → k ≠ 31 → σ' k = σ k) ∧ rtC σ' n (PS (rkC σ) S) R' ∧ rOK n S.length (PS (rkC σ) S) R' ∧ (∀ t ∈ R, t ∈ R') ∧ ∀ E : Int, 0 ≤ E → E < S.length → mh_bh n (PS (rkC σ) S) a E → (∀ x : Int, 0 ≤ x → x < S.length → mh_bh n (PS (rkC σ) S) a x → E ≤ x) → ∃ t ∈ R', keyS n (PS (rkC σ) S) t.1 t.2 = keyS n (PS (rkC σ) S) a E := by
  have k216 := ctC_le h
  obtain ⟨l1, l2, l3, l4⟩ := ctC_lat h
  have L : ∀ (f e : Nat), a < e → e ≤ S.length → S.length < f + e → (∀ x : Int, 0 ≤ x → x < e → ¬ mh_bh n (PS (rkC σ) S) a x) → ∃ σ' R', fX4_addFirstStep_28_L4 σ a (fun v9 => some (0, σ)) f e = some (0, σ') ∧ (∀ k, k ≠ 28 → k ≠ 29 → k ≠ 30 → k ≠ 31 → σ' k = σ k) ∧ rtC σ' n (PS (rkC σ) S) R' ∧ rOK n S.length (PS (rkC σ) S) R' ∧ (∀ t ∈ R, t ∈ R') ∧ ∀ E : Int, 0 ≤ E → E < S.length → mh_bh n (PS (rkC σ) S) a E → (∀ x : Int, 0 ≤ x → x < S.length → mh_bh n (PS (rkC σ) S) a x → E ≤ x) → ∃ t ∈ R', keyS n (PS (rkC σ) S) t.1 t.2 = keyS n (PS (rkC σ) S) a E := by
    intro f
    induction f with
    | zero => intro e h1 h2 h3; omega
    | succ f ih =>
      intro e h1 h2 h3 hn
      rw [fX4_addFirstStep_28_L4, h.2.2.1.1]
      rcases Nat.lt_or_ge e S.length with c | c
      · obtain ⟨z, z1, z2⟩ := uIsBh h (a := a) (b := e) (by omega) (by omega) (by omega) (by omega)
        rw [if_pos (by omega), z1, Option.bind_some]
        cases z with
        | false =>
          have nb : ¬ mh_bh n (PS (rkC σ) S) a e := fun w => by have := z2.mpr w; cases this
          rw [if_pos (by simp [zb]), if_pos ⟨by omega, by omega⟩]
          have := ih (e + 1) (by omega) (by omega) (by omega) (fun x x0 x1 => by
            by_cases w : x = e
            · rw [w]; exact nb
            · exact hn x x0 (by omega))
          rw [show ((e + 1 : Nat) : Int) = (e : Int) + 1 by omega] at this
          exact this
        | true =>
          have bh := z2.mp rfl
          have st : mh_step n S.length (PS (rkC σ) S) a e := ⟨bh, fun t t0 t1 w => by
            rcases Int.lt_or_le t e with y | y
            · exact hn t t0 y w.1
            · have := mh_le_ix l1 t0 t1 (j := e) (by omega) (by omega) w.2.1
              exact w.2.2 (by omega)⟩
          obtain ⟨σ', R', p1, p2, p3, p4, p5, p6⟩ := uRAdd h T O (a := a) (b := e) (by omega) (by omega) (by omega) (by omega) st
          rw [if_neg (by simp [zb]), p1, bnd2_some]
          refine ⟨σ', R', rfl, p2, p3, p4, p5, fun E E0 E1 bE mE => ?_⟩
          have : E = e := by
            have q1 := mE e (by omega) (by omega) bh
            rcases Int.lt_or_le E e with y | y
            · exact absurd bE (hn E E0 y)
            · omega
          rw [this]; exact p6
      · rw [if_neg (by omega)]
        refine ⟨σ, R, rfl, fun _ _ _ _ _ => rfl, T, O, fun t ht => ht, fun E E0 E1 bE _ => ?_⟩
        exact absurd bE (hn E E0 (by omega))
  unfold fX4_addFirstStep_28
  rw [if_pos ⟨by omega, by omega⟩]
  have := L FU (a + 1) (by omega) (by omega) (by unfold FU; omega) (fun x x0 x1 bh => by
    have := mh_le_ix l1 (i := a) (by omega) (by omega) x0 (by omega) bh.1
    exact bh.2 (by omega))
  rw [show ((a + 1 : Nat) : Int) = (a : Int) + 1 by omega] at this
  exact this
theorem uRots {σ : Mem} {n m : Nat} {S : List (Int → Int)} (h : ctC σ n m S) (r0 : σ 28 5 = 0) : ∃ σ' R, fX4_findAll_28 σ = some (0, σ') ∧ (∀ k, k ≠ 28 → k ≠ 29 → k ≠ 30 → k ≠ 31 → k ≠ 32 → σ' k = σ k) ∧ rtC σ' n (PS (rkC σ) S) R ∧ rOK n S.length (PS (rkC σ) S) R ∧ rAll n S.length (PS (rkC σ) S) R ∧ dnC σ' n (PS (rkC σ) S) S.length R := by
  have k216 := ctC_le h
  obtain ⟨l1, l2, l3, l4⟩ := ctC_lat h
  have keep : ∀ {τ : Mem}, (∀ k, k ≠ 28 → k ≠ 29 → k ≠ 30 → k ≠ 31 → k ≠ 32 → τ k = σ k) → ctC τ n m S ∧ rkC τ = rkC σ := fun {τ} e => ⟨ctC_same h (fun k hk => e k (by omega) (by omega) (by omega) (by omega) (by omega)) (e 25 (by omega) (by omega) (by omega) (by omega) (by omega)) (e 26 (by omega) (by omega) (by omega) (by omega) (by omega)) (e 27 (by omega) (by omega) (by omega) (by omega) (by omega)), rkC_same (fun k hk => e k (by omega) (by omega) (by omega) (by omega) (by omega))⟩
  have L2 : ∀ (R : List (Int × Int)), rOK n S.length (PS (rkC σ) S) R → ∀ (f j : Nat) (τ : Mem), j ≤ S.length → S.length < f + j → (∀ k, k ≠ 28 → k ≠ 29 → k ≠ 30 → k ≠ 31 → k ≠ 32 → τ k = σ k) → rtC τ n (PS (rkC σ) S) R → (∀ x : Int, 0 ≤ x → x < j → τ 32 x = (mskN (fun k => dnB n (PS (rkC σ) S) (R.getD k (0, 0)) x) R.length : Nat)) → ∃ σ', fX4_findAll_28_L26 (fun σ17 v16 => some (0, σ17)) f τ j = some (0, σ') ∧ (∀ k, k ≠ 28 → k ≠ 29 → k ≠ 30 → k ≠ 31 → k ≠ 32 → σ' k = σ k) ∧ rtC σ' n (PS (rkC σ) S) R ∧ dnC σ' n (PS (rkC σ) S) S.length R := by
    intro R O f
    induction f with
    | zero => intro j τ h1 h2; omega
    | succ f ih =>
      intro j τ h1 h2 t1 t2 t3
      obtain ⟨hτ, rkE⟩ := keep t1
      rw [fX4_findAll_28_L26, hτ.2.2.1.1]
      rcases Nat.lt_or_ge j S.length with c | c
      · have dm := uDoneMask hτ (R := R) (by rw [rkE]; exact t2) (by rw [rkE]; exact O) (x := j) (by omega) (by omega)
        rw [rkE] at dm
        rw [if_pos (by omega), dm, Option.bind_some, if_pos (by omega), nx_eq, if_pos ⟨by omega, by omega⟩]
        have := ih (j + 1) (mup τ 32 j (mskN (fun k => dnB n (PS (rkC σ) S) (R.getD k (0, 0)) j) R.length : Nat)) (by omega) (by omega) (fun k a b c d e => by rw [mup_ne _ _ _ e]; exact t1 k a b c d e) (by
            unfold rtC
            rw [mup_ne _ _ _ (by omega), mup_ne _ _ _ (by omega), mup_ne _ _ _ (by omega), mup_ne _ _ _ (by omega)]
            exact t2) (fun x x0 x1 => by
            rw [mup_eq]
            by_cases e : x = j
            · rw [e, mh_up_eq]
            · rw [mh_up_ne _ _ e]; exact t3 x x0 (by omega))
        rw [show ((j + 1 : Nat) : Int) = (j : Int) + 1 by omega] at this
        exact this
      · rw [if_neg (by omega)]
        exact ⟨τ, rfl, t1, t2, fun x x0 x1 => t3 x x0 (by omega)⟩
  have L1 : ∀ (f j : Nat) (τ : Mem) (R : List (Int × Int)), j ≤ S.length → S.length < f + j → (∀ k, k ≠ 28 → k ≠ 29 → k ≠ 30 → k ≠ 31 → k ≠ 32 → τ k = σ k) → rtC τ n (PS (rkC σ) S) R → rOK n S.length (PS (rkC σ) S) R → (∀ a : Int, 0 ≤ a → a < j → ∀ E : Int, 0 ≤ E → E < S.length → mh_bh n (PS (rkC σ) S) a E → (∀ x : Int, 0 ≤ x → x < S.length → mh_bh n (PS (rkC σ) S) a x → E ≤ x) → ∃ t ∈ R, keyS n (PS (rkC σ) S) t.1 t.2 = keyS n (PS (rkC σ) S) a E) →
      ∃ σ' R', fX4_findAll_28_L2 (fun σ8 v7 => fX4_findAll_28_L26 (fun σ17 v16 => some (0, σ17)) FU σ8 0) f τ j = some (0, σ') ∧ (∀ k, k ≠ 28 → k ≠ 29 → k ≠ 30 → k ≠ 31 → k ≠ 32 → σ' k = σ k) ∧ rtC σ' n (PS (rkC σ) S) R' ∧ rOK n S.length (PS (rkC σ) S) R' ∧ rAll n S.length (PS (rkC σ) S) R' ∧ dnC σ' n (PS (rkC σ) S) S.length R' := by
    intro f
    induction f with
    | zero => intro j τ R h1 h2; omega
    | succ f ih =>
      intro j τ R h1 h2 t1 t2 O t4
      obtain ⟨hτ, rkE⟩ := keep t1
      rw [fX4_findAll_28_L2, hτ.2.2.1.1]
      rcases Nat.lt_or_ge j S.length with c | c
      · obtain ⟨σ1, R1, p1, p2, p3, p4, p5, p6⟩ := uFirstStep hτ (R := R) (by rw [rkE]; exact t2) (by rw [rkE]; exact O) c
        rw [rkE] at p3 p4 p6
        rw [if_pos (by omega), p1, bnd2_some, if_pos ⟨by omega, by omega⟩]
        have := ih (j + 1) σ1 R1 (by omega) (by omega) (fun k a b c d e => by rw [p2 k a b c d]; exact t1 k a b c d e) p3 p4 (fun a a0 a1 E E0 E1 bE mE => by
          by_cases w : a = j
          · rw [w] at bE mE ⊢; exact p6 E E0 E1 bE mE
          · obtain ⟨t, ht, e⟩ := t4 a a0 (by omega) E E0 E1 bE mE
            exact ⟨t, p5 t ht, e⟩)
        rw [show ((j + 1 : Nat) : Int) = (j : Int) + 1 by omega] at this
        exact this
      · rw [if_neg (by omega)]
        obtain ⟨σ', q1, q2, q3, q4⟩ := L2 R O FU 0 τ (by omega) (by unfold FU; omega) t1 t2 (fun x x0 x1 => by omega)
        rw [show ((0 : Nat) : Int) = 0 from rfl] at q1
        refine ⟨σ', R, q1, q2, q3, O, fun A B A0 A1 B0 B1 st => ?_, q4⟩
        obtain ⟨M, E, M0, M1, E0, E1, bh, mn, ro⟩ := mh_first l1 A0 A1 B0 B1 st
        obtain ⟨t, ht, e⟩ := t4 M M0 (by omega) E E0 E1 bh (fun x x0 x1 w => (mn x x0 x1 w).1)
        refine ⟨t, ht, ?_⟩
        have := (step_two l1 l2 A0 A1 B0 B1 st).1
        rw [e, rot_key ro (by omega)]
  unfold fX4_findAll_28
  have := L1 FU 0 σ [] (by omega) (by unfold FU; omega) (fun _ _ _ _ _ _ => rfl) ⟨by rw [r0]; rfl, fun i t ht => by simp at ht⟩ ⟨fun t ht => by simp at ht, List.Pairwise.nil⟩ (fun a a0 a1 => by omega)
  rw [show ((0 : Nat) : Int) = 0 from rfl] at this
  exact this
/-- all is worked out -/
def wkC (σ : Mem) (n m : Nat) (S : List (Int → Int)) (R : List (Int × Int)) : Prop := ctC σ n m S ∧ rtC σ n (PS (rkC σ) S) R ∧ rOK n S.length (PS (rkC σ) S) R ∧ rAll n S.length (PS (rkC σ) S) R ∧ dnC σ n (PS (rkC σ) S) S.length R
theorem uDrop (σ : Mem) : fX6_dropWork_0 σ = some (0, mup (mup σ 25 3 0) 28 5 0) := by
  unfold fX6_dropWork_0
  rw [nx_eq, nx_eq]
theorem uWork {σ : Mem} {n m : Nat} (I : inC σ n m) : ∃ σ' S R, fX6_work_0 σ = some ((S.length : Int), σ') ∧ (∀ k, k < 24 → σ' k = σ k) ∧ wkC σ' n m S R := by
  have k0 : ∀ k, k ≠ 25 → k ≠ 28 → mup (mup σ 25 3 0) 28 5 0 k = σ k := fun k a b => by rw [mup_ne _ _ _ b, mup_ne _ _ _ a]
  have I0 : inC (mup (mup σ 25 3 0) 28 5 0) n m := inC_same I (fun k hk => k0 k (by omega) (by omega))
  have z25 : mup (mup σ 25 3 0) 28 5 0 25 3 = 0 := by rw [mup_ne _ _ _ (by omega), mup_eq, mh_up_eq]
  have z28 : mup (mup σ 25 3 0) 28 5 0 28 5 = 0 := by rw [mup_eq, mh_up_eq]
  unfold fX6_work_0
  rw [uDrop, bnd2_some]
  generalize mup (mup σ 25 3 0) 28 5 0 = σ1 at k0 I0 z25 z28
  obtain ⟨σ2, S, a1, a2, a3, a4, a5⟩ := uFindAll I0 z25
  have rk2 : rkC σ2 = rkC σ1 := rkC_same (fun k hk => a2 k (by omega) (by omega) (by omega) (by omega) (by omega) (by omega) (by omega))
  have hk2 : hkC σ2 = hkC σ1 := hkC_same (fun k hk => a2 k (by omega) (by omega) (by omega) (by omega) (by omega) (by omega) (by omega))
  have C2 : ctC σ2 n m S := ⟨inC_same I0 (fun k hk => a2 k (by omega) (by omega) (by omega) (by omega) (by omega) (by omega) (by omega)), by rw [rk2, hk2, a2 20 (by omega) (by omega) (by omega) (by omega) (by omega) (by omega) (by omega)]; exact a3, by rw [rk2]; exact a4, a5⟩
  obtain ⟨σ3, R, b1, b2, b3, b4, b5, b6⟩ := uRots C2 (by rw [a2 28 (by omega) (by omega) (by omega) (by omega) (by omega) (by omega) (by omega)]; exact z28)
  have rk3 : rkC σ3 = rkC σ2 := rkC_same (fun k hk => b2 k (by omega) (by omega) (by omega) (by omega) (by omega))
  have C3 : ctC σ3 n m S := ctC_same C2 (fun k hk => b2 k (by omega) (by omega) (by omega) (by omega) (by omega)) (b2 25 (by omega) (by omega) (by omega) (by omega) (by omega)) (b2 26 (by omega) (by omega) (by omega) (by omega) (by omega)) (b2 27 (by omega) (by omega) (by omega) (by omega) (by omega))
  rw [a1, bnd2_some, b1, bnd2_some, C3.2.2.1.1]
  refine ⟨σ3, S, R, rfl, fun k hk => ?_, C3, ?_⟩
  · rw [b2 k (by omega) (by omega) (by omega) (by omega) (by omega), a2 k (by omega) (by omega) (by omega) (by omega) (by omega) (by omega) (by omega), k0 k (by omega) (by omega)]
  · rw [rk3]; exact ⟨b3, b4, b5, b6⟩
