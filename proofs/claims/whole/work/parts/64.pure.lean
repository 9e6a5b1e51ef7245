/-! PURE 5: the class's search is the enumeration -/
def opC (m : Nat) (rk : Int → Int → Int) (sz best : Int → Int) (r : Int) : List Int := if best r = -1 then [-1] else (List.range (sz r - best r).toNat).map (fun j : Nat => atF m rk r (best r + (j : Int)))
def okC (rk hk : Int → Int → Int) (best cnt : Int → Int) (k : Int) (f : Int → Int) (h : Int) : Bool := decide (best k = -1) || (!(decide (cnt h - mh_c (fun q => decide (f q = h)) k.toNat = 0)) && (pB rk hk k h && mh_all (fun q => !(rivB rk hk (mh_up f k h) k q) && !(rivB rk hk (mh_up f k h) q k)) k.toNat))
def lfC (n m : Nat) (rk hk : Int → Int → Int) (cp : Int → Int) (f : Int → Int) : Bool := decide (bpO (blkB n rk hk cp f) m 0 n 0 0 = -1)
def enC (n m : Nat) (rk hk : Int → Int → Int) (cp sz best cnt : Int → Int) : Nat → Int → (Int → Int) → List (Int → Int) := mh_en (opC m rk sz best) (okC rk hk best cnt) (lfC n m rk hk cp)
def seC (σ0 : Mem) (n m : Nat) (best cnt : Int → Int) (σ : Mem) (k : Nat) (f : Int → Int) : Prop :=
  (∀ j, j ≠ 24 → j ≠ 25 → j ≠ 26 → j ≠ 27 → j ≠ 36 → σ j = σ0 j) ∧ (∀ q : Int, 0 ≤ q → q < k → σ 24 q = f q) ∧ (∀ q : Int, 0 ≤ q → q < n → best q = -1 → σ 24 q = -1) ∧ (∀ h : Int, 0 ≤ h → h < m → σ 36 h = cnt h - mh_c (fun q => decide (f q = h)) k)
def stC (σ : Mem) (n : Nat) (rk : Int → Int → Int) (S : List (Int → Int)) : Prop := σ 25 3 = S.length ∧ ∀ (i : Nat) (x : Int → Int), S[i]? = some x → ∀ r : Int, 0 ≤ r → r < n → σ 26 (i * 6 + r) = x r ∧ σ 27 (i * 6 + r) = psF rk x r
theorem blkB_congr {n : Nat} {rk hk : Int → Int → Int} {cp f g : Int → Int} (e : ∀ q : Int, 0 ≤ q → q < n → f q = g q) {r h : Int} (r0 : 0 ≤ r) (r1 : r < n) : blkB n rk hk cp f r h = blkB n rk hk cp g r h := by
  unfold blkB goB getB
  rw [e r r0 r1]
  have a : mh_at n f h = mh_at n g h := mh_c_congr (fun q q0 q1 => by rw [e q q0 q1])
  have b : mh_all (fun o => !(decide (f o = h) && decide (hk h r < hk h o))) n = mh_all (fun o => !(decide (g o = h) && decide (hk h r < hk h o))) n := mh_all_congr (fun q q0 q1 => by rw [e q q0 q1])
  rw [a, b]
theorem lfC_congr {n m : Nat} {rk hk : Int → Int → Int} {cp f g : Int → Int} (e : ∀ q : Int, 0 ≤ q → q < n → f q = g q) : lfC n m rk hk cp f = lfC n m rk hk cp g := by
  unfold lfC
  have : (bpO (blkB n rk hk cp f) m 0 n 0 0 = -1) ↔ (bpO (blkB n rk hk cp g) m 0 n 0 0 = -1) := by
    rw [bpO_none, bpO_none]
    constructor
    · intro z r h a b c d; rw [← blkB_congr e a b]; exact z r h a b c d
    · intro z r h a b c d; rw [blkB_congr e a b]; exact z r h a b c d
  simp only [this]
theorem rivB_congr {rk hk : Int → Int → Int} {f g : Int → Int} {r q : Int} (e1 : f r = g r) (e2 : f q = g q) : rivB rk hk f r q = rivB rk hk g r q := by
  unfold rivB goB
  rw [e1, e2]
theorem mh_up_eq (f : Int → Int) (k x : Int) : mh_up f k x k = x := by simp only [mh_up, if_true]
theorem mh_up_ne (f : Int → Int) {k j : Int} (x : Int) (h : j ≠ k) : mh_up f k x j = f j := by simp only [mh_up]; rw [if_neg h]
theorem mh_c_up {f : Int → Int} {k : Nat} {x h : Int} : mh_c (fun q => decide (mh_up f k x q = h)) (k + 1) = mh_c (fun q => decide (f q = h)) k + (if x = h then 1 else 0) := by
  rw [mh_c_succ, mh_up_eq]
  have : mh_c (fun q => decide (mh_up f k x q = h)) k = mh_c (fun q => decide (f q = h)) k := mh_c_congr (fun q q0 q1 => by rw [mh_up_ne f x (by omega)])
  rw [this]
  simp only [decide_eq_true_eq]
/-- the first of j from k on whose best is not none -/
def nsF (best : Int → Int) : Nat → Nat → Int
  | 0, _ => -1
  | j + 1, k => if best k = -1 then nsF best j (k + 1) else (k : Int)
theorem uNext {σ : Mem} {n : Nat} (hn : σ 1 3 = n) (h6 : n ≤ 6) {j k : Nat} (hk : k + j = n) : fX0_nextToSeat_33 σ k = some (nsF (σ 35) j k) := by
  have L : ∀ (j k f : Nat), k + j = n → j < f → fX0_nextToSeat_33_L2 σ (fun v10 => some (-1)) f k = some (nsF (σ 35) j k) := by
    intro j
    induction j with
    | zero =>
      intro k f h1 h2
      cases f with
      | zero => omega
      | succ f =>
        rw [fX0_nextToSeat_33_L2, if_neg (by omega)]
        rfl
    | succ j ih =>
      intro k f h1 h2
      cases f with
      | zero => omega
      | succ f =>
        rw [fX0_nextToSeat_33_L2, if_pos (by omega), if_pos ⟨by omega, by omega⟩]
        simp only [nsF]
        by_cases c : σ 35 k = -1
        · rw [if_pos c, if_pos c, if_pos ⟨by omega, by omega⟩]
          have := ih (k + 1) f (by omega) (by omega)
          rw [show ((k + 1 : Nat) : Int) = (k : Int) + 1 by omega] at this
          exact this
        · rw [if_neg c, if_neg c]
  unfold fX0_nextToSeat_33
  exact L j k FU hk (by unfold FU; omega)
section PSE
variable {σ0 : Mem} {n m : Nat} {best cnt : Int → Int}
theorem uTry (I : inC σ0 n m) (hc : ∀ h : Int, 0 ≤ h → h < m → 0 ≤ cnt h ∧ cnt h ≤ 6) (sf : Mem → Int → Option (Int × Mem)) {j k : Nat} (hkn : k + (j + 1) = n)
    (IH : ∀ (σ : Mem) (f : Int → Int) (S : List (Int → Int)), seC σ0 n m best cnt σ (k + 1) f → (∀ q : Int, 0 ≤ q → q < k + 1 → f q = -1 ∨ (0 ≤ f q ∧ f q < m)) → stC σ n (rkC σ0) S → S.length + (enC n m (rkC σ0) (hkC σ0) (σ0 20) (σ0 10) best cnt j (k + 1) f).length ≤ 216 → ∃ σ', sf σ (k + 1) = some (0, σ') ∧ seC σ0 n m best cnt σ' (k + 1) f ∧ stC σ' n (rkC σ0) (S ++ enC n m (rkC σ0) (hkC σ0) (σ0 20) (σ0 10) best cnt j (k + 1) f))
    {σ : Mem} {f : Int → Int} {S : List (Int → Int)} (hb : best k ≠ -1) (E : seC σ0 n m best cnt σ k f) (vf : ∀ q : Int, 0 ≤ q → q < k → f q = -1 ∨ (0 ≤ f q ∧ f q < m)) (T : stC σ n (rkC σ0) S) {h : Int} (h0 : 0 ≤ h) (h1 : h < m)
    (len : S.length + (if okC (rkC σ0) (hkC σ0) best cnt k f h = true then enC n m (rkC σ0) (hkC σ0) (σ0 20) (σ0 10) best cnt j (k + 1) (mh_up f k h) else []).length ≤ 216) :
    ∃ σ', fX0_trySeat_33 sf σ k h = some (0, σ') ∧ seC σ0 n m best cnt σ' k f ∧ stC σ' n (rkC σ0) (S ++ (if okC (rkC σ0) (hkC σ0) best cnt k f h = true then enC n m (rkC σ0) (hkC σ0) (σ0 20) (σ0 10) best cnt j (k + 1) (mh_up f k h) else [])) := by
  have I' := I
  obtain ⟨i1, i2, i3, i4, i5, i6, ⟨n1, n6, m1, m6⟩, LR, LH, cp⟩ := I'
  obtain ⟨E1, E2, E3, E4⟩ := id E
  have h6 : 0 ≤ h ∧ h < 6 := by omega
  have k6 : (0 : Int) ≤ k ∧ (k : Int) < 6 := by omega
  have kt : ((k : Int)).toNat = k := by omega
  have rkE : rkC σ = rkC σ0 := rkC_same (fun i hi => E1 i (by omega) (by omega) (by omega) (by omega) (by omega))
  have hkE : hkC σ = hkC σ0 := hkC_same (fun i hi => E1 i (by omega) (by omega) (by omega) (by omega) (by omega))
  have fill := E4 h h0 h1
  have used0 := mh_c_0 (fun q => decide (f q = h)) k
  have used1 := mh_c_le (fun q => decide (f q = h)) k
  have hcc := hc h h0 h1
  have okd : okC (rkC σ0) (hkC σ0) best cnt k f h = (!(decide (cnt h - mh_c (fun q => decide (f q = h)) k = 0)) && (pB (rkC σ0) (hkC σ0) k h && mh_all (fun q => !(rivB (rkC σ0) (hkC σ0) (mh_up f k h) k q) && !(rivB (rkC σ0) (hkC σ0) (mh_up f k h) q k)) k)) := by
    unfold okC
    rw [kt]
    simp only [hb, decide_false, Bool.false_or]
  unfold fX0_trySeat_33
  rw [if_neg (by omega), if_pos h6]
  by_cases z : σ 36 h = 0
  · rw [if_pos z]
    have : okC (rkC σ0) (hkC σ0) best cnt k f h = false := by
      rw [okd]
      have : cnt h - mh_c (fun q => decide (f q = h)) k = 0 := by omega
      simp only [this, decide_true, Bool.not_true, Bool.false_and]
    rw [this]
    exact ⟨σ, rfl, E, by simpa using T⟩
  · have z2 : ¬ cnt h - mh_c (fun q => decide (f q = h)) k = 0 := by omega
    rw [if_neg z, uIsPair k6 h6, rkE, hkE, Option.bind_some]
    cases hp : pB (rkC σ0) (hkC σ0) k h with
    | false =>
      rw [if_pos (by simp [zb])]
      have : okC (rkC σ0) (hkC σ0) best cnt k f h = false := by
        rw [okd, hp]; simp only [Bool.false_and, Bool.and_false]
      rw [this]
      exact ⟨σ, rfl, E, by simpa using T⟩
    | true =>
      rw [if_neg (by simp [zb]), if_pos k6, nx_eq, if_pos h6]
      have m36 : mup σ 24 k h 36 = σ 36 := mup_ne _ _ _ (by omega)
      rw [m36, if_pos ⟨by omega, by omega⟩, if_pos h6, nx_eq]
      generalize hs : mup (mup σ 24 k h) 36 h (σ 36 h - 1) = σ8
      have a24 : σ8 24 = mh_up (σ 24) k h := by rw [← hs, mup_ne _ _ _ (by omega), mup_eq]
      have a36 : σ8 36 = mh_up (σ 36) h (σ 36 h - 1) := by rw [← hs, mup_eq, m36]
      have ane : ∀ i, i ≠ 24 → i ≠ 36 → σ8 i = σ i := fun i a b => by rw [← hs, mup_ne _ _ _ b, mup_ne _ _ _ a]
      have rk8 : rkC σ8 = rkC σ0 := (rkC_same (fun i hi => ane i (by omega) (by omega))).trans rkE
      have hk8 : hkC σ8 = hkC σ0 := (hkC_same (fun i hi => ane i (by omega) (by omega))).trans hkE
      have same : ∀ q : Int, 0 ≤ q → q ≤ k → σ8 24 q = mh_up f k h q := fun q q0 q1 => by
        rw [a24]
        by_cases e : q = k
        · rw [e, mh_up_eq, mh_up_eq]
        · rw [mh_up_ne _ _ e, mh_up_ne _ _ e, E2 q q0 (by omega)]
      have vf' : ∀ q : Int, 0 ≤ q → q < k + 1 → mh_up f k h q = -1 ∨ (0 ≤ mh_up f k h q ∧ mh_up f k h q < m) := fun q q0 q1 => by
        by_cases e : q = k
        · rw [e, mh_up_eq]; omega
        · rw [mh_up_ne _ _ e]; exact vf q q0 (by omega)
      rw [uHasRivals (k := k) (by omega) (fun q q0 q1 => by rw [same q q0 q1]; have := vf' q q0 (by omega); omega), rk8, hk8, Option.bind_some]
      have riv : mh_all (fun q => !(rivB (rkC σ0) (hkC σ0) (σ8 24) k q) && !(rivB (rkC σ0) (hkC σ0) (σ8 24) q k)) k = mh_all (fun q => !(rivB (rkC σ0) (hkC σ0) (mh_up f k h) k q) && !(rivB (rkC σ0) (hkC σ0) (mh_up f k h) q k)) k := mh_all_congr (fun q q0 q1 => by
        rw [rivB_congr (same k (by omega) (by omega)) (same q q0 (by omega)), rivB_congr (same q q0 (by omega)) (same k (by omega) (by omega))])
      rw [riv]
      have ok2 : okC (rkC σ0) (hkC σ0) best cnt k f h = mh_all (fun q => !(rivB (rkC σ0) (hkC σ0) (mh_up f k h) k q) && !(rivB (rkC σ0) (hkC σ0) (mh_up f k h) q k)) k := by
        rw [okd, hp]; simp only [z2, decide_false, Bool.not_false, Bool.true_and]
      -- behind it: the place to fill comes back
      have back : ∀ (τ : Mem), (∀ i, i ≠ 24 → i ≠ 25 → i ≠ 26 → i ≠ 27 → i ≠ 36 → τ i = σ0 i) → (∀ q : Int, 0 ≤ q → q < k → τ 24 q = f q) → (∀ q : Int, 0 ≤ q → q < n → best q = -1 → τ 24 q = -1) → (∀ h' : Int, 0 ≤ h' → h' < m → τ 36 h' = cnt h' - mh_c (fun q => decide (mh_up f k h q = h')) (k + 1)) → seC σ0 n m best cnt (mup τ 36 h (τ 36 h + 1)) k f := fun τ t1 t2 t3 t4 => by
        refine ⟨fun i a b c d e => by rw [mup_ne _ _ _ e]; exact t1 i a b c d e, fun q q0 q1 => by rw [mup_ne _ _ _ (by omega)]; exact t2 q q0 q1, fun q q0 q1 b => by rw [mup_ne _ _ _ (by omega)]; exact t3 q q0 q1 b, fun h' z0 z1 => ?_⟩
        rw [mup_eq]
        have t := t4 h' z0 z1
        rw [mh_c_up] at t
        by_cases e : h' = h
        · subst e; rw [mh_up_eq]; rw [if_pos rfl] at t; omega
        · rw [mh_up_ne _ _ e]; rw [if_neg (fun w => e w.symm)] at t; omega
      have t4 : ∀ h' : Int, 0 ≤ h' → h' < m → σ8 36 h' = cnt h' - mh_c (fun q => decide (mh_up f k h q = h')) (k + 1) := fun h' z0 z1 => by
        rw [a36, mh_c_up]
        have := E4 h' z0 z1
        by_cases e : h' = h
        · subst e; rw [mh_up_eq, if_pos rfl]; omega
        · rw [mh_up_ne _ _ e, if_neg (fun w => e w.symm)]; omega
      have t1 : ∀ i, i ≠ 24 → i ≠ 25 → i ≠ 26 → i ≠ 27 → i ≠ 36 → σ8 i = σ0 i := fun i a b c d e => by rw [ane i a e]; exact E1 i a b c d e
      have t3 : ∀ q : Int, 0 ≤ q → q < n → best q = -1 → σ8 24 q = -1 := fun q q0 q1 b => by
        rw [a24]
        by_cases e : q = k
        · subst e; exact absurd b hb
        · rw [mh_up_ne _ _ e]; exact E3 q q0 q1 b
      have T8 : stC σ8 n (rkC σ0) S := by
        unfold stC
        rw [ane 25 (by omega) (by omega), ane 26 (by omega) (by omega), ane 27 (by omega) (by omega)]
        exact T
      have f36 : σ8 36 h = σ 36 h - 1 := by rw [a36, mh_up_eq]
      cases hr : mh_all (fun q => !(rivB (rkC σ0) (hkC σ0) (mh_up f k h) k q) && !(rivB (rkC σ0) (hkC σ0) (mh_up f k h) q k)) k with
      | false =>
        rw [hr] at ok2
        rw [if_neg (by simp [zb]), if_pos h6, if_pos ⟨by omega, by omega⟩, if_pos h6, nx_eq, ok2]
        refine ⟨_, rfl, back σ8 t1 (fun q q0 q1 => by rw [same q q0 (by omega), mh_up_ne _ _ (by omega)]) t3 t4, ?_⟩
        simp only [Bool.false_eq_true, if_false, List.append_nil]
        unfold stC
        rw [mup_ne _ _ _ (by omega), mup_ne _ _ _ (by omega), mup_ne _ _ _ (by omega)]
        exact T8
      | true =>
        rw [hr] at ok2
        rw [ok2, if_pos rfl] at len
        obtain ⟨σ16, s1, s2, s3⟩ := IH σ8 (mh_up f k h) S ⟨t1, fun q q0 q1 => same q q0 (by omega), t3, t4⟩ vf' T8 len
        rw [if_pos (by simp [zb]), if_pos ⟨by omega, by omega⟩, s1, bnd2_some, if_pos h6]
        have g36 := s2.2.2.2 h h0 h1
        rw [mh_c_up, if_pos rfl] at g36
        rw [if_pos ⟨by omega, by omega⟩, if_pos h6, nx_eq, ok2]
        refine ⟨_, rfl, back σ16 s2.1 (fun q q0 q1 => by rw [s2.2.1 q q0 (by omega), mh_up_ne _ _ (by omega)]) s2.2.2.1 s2.2.2.2, ?_⟩
        rw [if_pos rfl]
        unfold stC
        rw [mup_ne _ _ _ (by omega), mup_ne _ _ _ (by omega), mup_ne _ _ _ (by omega)]
        exact s3
theorem uSeat (I : inC σ0 n m) (hc : ∀ h : Int, 0 ≤ h → h < m → 0 ≤ cnt h ∧ cnt h ≤ 6) (hbest : ∀ r : Int, 0 ≤ r → r < n → σ0 35 r = best r ∧ (best r = -1 ∨ (0 ≤ best r ∧ best r ≤ σ0 10 r))) :
    ∀ (j d k : Nat) (σ : Mem) (f : Int → Int) (S : List (Int → Int)), k + j = n → j < d → seC σ0 n m best cnt σ k f → (∀ q : Int, 0 ≤ q → q < k → f q = -1 ∨ (0 ≤ f q ∧ f q < m)) → stC σ n (rkC σ0) S → S.length + (enC n m (rkC σ0) (hkC σ0) (σ0 20) (σ0 10) best cnt j k f).length ≤ 216 →
    ∃ σ', fX0_seatFrom d σ k = some (0, σ') ∧ seC σ0 n m best cnt σ' k f ∧ stC σ' n (rkC σ0) (S ++ enC n m (rkC σ0) (hkC σ0) (σ0 20) (σ0 10) best cnt j k f) := by
  have I' := I
  obtain ⟨i1, i2, i3, i4, i5, i6, ⟨n1, n6, m1, m6⟩, LR, LH, cp⟩ := I'
  intro j
  induction j with
  | zero =>
    intro d k σ f S hk hd E vf T len
    obtain ⟨E1, E2, E3, E4⟩ := id E
    cases d with
    | zero => omega
    | succ d =>
      have kn : k = n := by omega
      subst kn
      have rkE : rkC σ = rkC σ0 := rkC_same (fun i hi => E1 i (by omega) (by omega) (by omega) (by omega) (by omega))
      have hkE : hkC σ = hkC σ0 := hkC_same (fun i hi => E1 i (by omega) (by omega) (by omega) (by omega) (by omega))
      have Iσ : inC σ k m := inC_same I (fun i hi => E1 i (by omega) (by omega) (by omega) (by omega) (by omega))
      have n' : σ 1 3 = k := Iσ.1
      have m' : σ 1 4 = m := Iσ.2.1
      have hv : ∀ r : Int, 0 ≤ r → r < k → σ 24 r = -1 ∨ (0 ≤ σ 24 r ∧ σ 24 r < 6) := fun r r0 r1 => by
        rw [E2 r r0 r1]; have := vf r r0 r1; omega
      show ∃ σ', fX0_seatFrom_33 (fX0_seatFrom d) σ k = some (0, σ') ∧ _
      unfold fX0_seatFrom_33
      rw [uNext n' n6 (j := 0) (k := k) (by omega), Option.bind_some, if_pos (show nsF (σ 35) 0 k = -1 from rfl), uBlockingPair_24 n' n6 m' m6 hv, Option.bind_some]
      have lf : lfC k m (rkC σ0) (hkC σ0) (σ0 20) f = decide (bpO (blkB k (rkC σ) (hkC σ) (σ 20) (σ 24)) m 0 k 0 0 = -1) := by
        rw [rkE, hkE, E1 20 (by omega) (by omega) (by omega) (by omega) (by omega)]
        exact lfC_congr (fun q q0 q1 => (E2 q q0 q1).symm)
      have en : enC k m (rkC σ0) (hkC σ0) (σ0 20) (σ0 10) best cnt 0 k f = if lfC k m (rkC σ0) (hkC σ0) (σ0 20) f = true then [f] else [] := rfl
      rw [en, lf] at len ⊢
      by_cases e : bpO (blkB k (rkC σ) (hkC σ) (σ 20) (σ 24)) m 0 k 0 0 = -1
      · rw [if_pos e]
        simp only [e, decide_true, if_true, List.length_cons, List.length_nil] at len ⊢
        obtain ⟨σ1, a1, a2, a3, a4, a5⟩ := uAdd Iσ hv T.1 (by omega)
        rw [a1, bnd2_some]
        refine ⟨σ1, rfl, ⟨fun i a b c d e => by rw [a2 i b c d]; exact E1 i a b c d e, fun q q0 q1 => by rw [a2 24 (by omega) (by omega) (by omega)]; exact E2 q q0 q1, fun q q0 q1 b => by rw [a2 24 (by omega) (by omega) (by omega)]; exact E3 q q0 q1 b, fun h h0 h1 => by rw [a2 36 (by omega) (by omega) (by omega)]; exact E4 h h0 h1⟩, ?_, fun i x hx r r0 r1 => ?_⟩
        · rw [a3]; simp
        · rcases Nat.lt_or_ge i S.length with hi | hi
          · rw [List.getElem?_append_left hi] at hx
            have b := a4 (i * 6 + r) (by omega)
            rw [b.1, b.2]
            exact T.2 i x hx r r0 r1
          · have hi2 : i = S.length := by
              have := (List.getElem?_eq_some_iff.mp hx).1
              simp at this; omega
            subst hi2
            rw [List.getElem?_append_right (Nat.le_refl _)] at hx
            simp at hx
            subst hx
            have b := a5 r r0 r1
            rw [b.1, b.2, rkE]
            refine ⟨E2 r r0 r1, ?_⟩
            unfold psF
            rw [E2 r r0 r1]
      · rw [if_neg e]
        simp only [e, decide_false, Bool.false_eq_true, if_false, List.append_nil]
        exact ⟨σ, rfl, E, T⟩
  | succ j ih =>
    intro d k σ f S hk hd E vf T len
    obtain ⟨E1, E2, E3, E4⟩ := id E
    cases d with
    | zero => omega
    | succ d =>
      have n' : σ 1 3 = n := by rw [E1 1 (by omega) (by omega) (by omega) (by omega) (by omega)]; exact i1
      have k6 : (0 : Int) ≤ k ∧ (k : Int) < 6 := by omega
      have hb := hbest k (by omega) (by omega)
      have b35 : σ 35 k = best k := by rw [E1 35 (by omega) (by omega) (by omega) (by omega) (by omega)]; exact hb.1
      have szk := (LR k (by omega) (by omega)).1
      have hnx := uNext n' n6 (j := j + 1) (k := k) (by omega)
      simp only [nsF] at hnx
      rw [b35] at hnx
      have en : enC n m (rkC σ0) (hkC σ0) (σ0 20) (σ0 10) best cnt (j + 1) k f = (opC m (rkC σ0) (σ0 10) best k).flatMap (fun h => if okC (rkC σ0) (hkC σ0) best cnt k f h = true then enC n m (rkC σ0) (hkC σ0) (σ0 20) (σ0 10) best cnt j (k + 1) (mh_up f k h) else []) := rfl
      rw [en] at len ⊢
      have cast : (k : Int) + 1 = ((k + 1 : Nat) : Int) := by omega
      by_cases e : best k = -1
      · rw [if_pos e] at hnx
        have hnx2 := uNext n' n6 (j := j) (k := k + 1) (by omega)
        have same : fX0_seatFrom (d + 1) σ k = fX0_seatFrom (d + 1) σ ((k + 1 : Nat) : Int) := by
          show fX0_seatFrom_33 (fX0_seatFrom d) σ k = fX0_seatFrom_33 (fX0_seatFrom d) σ ((k + 1 : Nat) : Int)
          unfold fX0_seatFrom_33
          rw [hnx, hnx2]
        rw [same]
        have op : opC m (rkC σ0) (σ0 10) best k = [-1] := by unfold opC; rw [if_pos e]
        have ok : okC (rkC σ0) (hkC σ0) best cnt k f (-1) = true := by unfold okC; simp only [e, decide_true, Bool.true_or]
        rw [op, List.flatMap_cons, List.flatMap_nil, List.append_nil, if_pos ok] at len ⊢
        rw [cast] at len ⊢
        have f36 : ∀ h : Int, 0 ≤ h → h < m → mh_c (fun q => decide (mh_up f k (-1) q = h)) (k + 1) = mh_c (fun q => decide (f q = h)) k := fun h h0 h1 => by
          rw [mh_c_up, if_neg (by omega)]; omega
        obtain ⟨σ1, s1, s2, s3⟩ := ih (d + 1) (k + 1) σ (mh_up f k (-1)) S (by omega) (by omega) ⟨E1, fun q q0 q1 => by
            by_cases z : q = k
            · rw [z, mh_up_eq]; exact E3 k (by omega) (by omega) e
            · rw [mh_up_ne _ _ z]; exact E2 q q0 (by omega), E3, fun h h0 h1 => by rw [f36 h h0 h1]; exact E4 h h0 h1⟩ (fun q q0 q1 => by
            by_cases z : q = k
            · rw [z, mh_up_eq]; exact Or.inl rfl
            · rw [mh_up_ne _ _ z]; exact vf q q0 (by omega)) T len
        refine ⟨σ1, s1, ⟨s2.1, fun q q0 q1 => ?_, s2.2.2.1, fun h h0 h1 => ?_⟩, s3⟩
        · rw [s2.2.1 q q0 (by omega), mh_up_ne _ _ (by omega)]
        · rw [s2.2.2.2 h h0 h1, f36 h h0 h1]
      · rw [if_neg e] at hnx
        show ∃ σ', fX0_seatFrom_33 (fX0_seatFrom d) σ k = some (0, σ') ∧ _
        unfold fX0_seatFrom_33
        rw [hnx, Option.bind_some, if_neg (by omega), if_pos k6, b35]
        have bk := hb.2.resolve_left e
        have op : opC m (rkC σ0) (σ0 10) best k = (List.range (σ0 10 k - best k).toNat).map (fun i : Nat => atF m (rkC σ0) k (best k + (i : Int))) := by unfold opC; rw [if_neg e]
        rw [op] at len ⊢
        have L : ∀ (i fu : Nat) (p : Int) (τ : Mem) (S : List (Int → Int)), p + i = σ0 10 k → best k ≤ p → i < fu → seC σ0 n m best cnt τ k f → stC τ n (rkC σ0) S → S.length + (((List.range i).map (fun i : Nat => atF m (rkC σ0) k (p + (i : Int)))).flatMap (fun h => if okC (rkC σ0) (hkC σ0) best cnt k f h = true then enC n m (rkC σ0) (hkC σ0) (σ0 20) (σ0 10) best cnt j (k + 1) (mh_up f k h) else [])).length ≤ 216 →
            ∃ σ', fX0_seatFrom_33_L42 (fX0_seatFrom d) k (fun σ12 v11 => some (0, σ12)) fu τ p = some (0, σ') ∧ seC σ0 n m best cnt σ' k f ∧ stC σ' n (rkC σ0) (S ++ ((List.range i).map (fun i : Nat => atF m (rkC σ0) k (p + (i : Int)))).flatMap (fun h => if okC (rkC σ0) (hkC σ0) best cnt k f h = true then enC n m (rkC σ0) (hkC σ0) (σ0 20) (σ0 10) best cnt j (k + 1) (mh_up f k h) else [])) := by
          intro i
          induction i with
          | zero =>
            intro fu p τ S hp hbp hfu Eτ Tτ hlen
            cases fu with
            | zero => omega
            | succ fu =>
              rw [fX0_seatFrom_33_L42]
              have t10 : τ 10 = σ0 10 := Eτ.1 10 (by omega) (by omega) (by omega) (by omega) (by omega)
              rw [if_pos k6, t10, if_neg (by omega)]
              exact ⟨τ, rfl, Eτ, by simpa using Tτ⟩
          | succ i ihi =>
            intro fu p τ S hp hbp hfu Eτ Tτ hlen
            cases fu with
            | zero => omega
            | succ fu =>
              rw [fX0_seatFrom_33_L42]
              have t10 : τ 10 = σ0 10 := Eτ.1 10 (by omega) (by omega) (by omega) (by omega) (by omega)
              have t2 : τ 2 3 = m := by rw [Eτ.1 2 (by omega) (by omega) (by omega) (by omega) (by omega)]; exact i4
              have trk : rkC τ = rkC σ0 := rkC_same (fun i hi => Eτ.1 i (by omega) (by omega) (by omega) (by omega) (by omega))
              have rs : (List.range (i + 1)).map (fun i : Nat => atF m (rkC σ0) k (p + (i : Int))) = atF m (rkC σ0) k p :: (List.range i).map (fun i : Nat => atF m (rkC σ0) k (p + 1 + (i : Int))) := by
                rw [List.range_succ_eq_map, List.map_cons, List.map_map]
                congr 1
                · rw [show ((0 : Nat) : Int) = 0 from rfl, Int.add_zero]
                · apply List.map_congr_left
                  intro a _
                  show atF m (rkC σ0) k (p + ((a + 1 : Nat) : Int)) = _
                  rw [show p + ((a + 1 : Nat) : Int) = p + 1 + (a : Int) by omega]
              rw [rs, List.flatMap_cons] at hlen ⊢
              have hat := atF_ok LR (r := k) (p := p) (by omega) (by omega) (by omega) (by omega)
              rw [if_pos k6, t10, if_pos (by omega), uAt_2 t2 m6 k6, trk, Option.bind_some]
              generalize atF m (rkC σ0) k p = h at hat hlen ⊢
              rw [List.length_append] at hlen
              obtain ⟨σ1, s1, s2, s3⟩ := uTry I hc (fX0_seatFrom d) (j := j) (k := k) hk (fun σ f S a b c dd => by
                  rw [cast] at dd ⊢
                  exact ih d (k + 1) σ f S (by omega) (by omega) a b c dd) e Eτ vf Tτ hat.1 hat.2.1 (by omega)
              rw [s1, bnd2_some, if_pos ⟨by omega, by omega⟩]
              have := ihi fu (p + 1) σ1 _ (by omega) (by omega) (by omega) s2 s3 (by rw [List.length_append]; omega)
              rw [List.append_assoc] at this
              exact this
        have := L (σ0 10 k - best k).toNat FU (best k) σ S (by omega) (Int.le_refl _) (by unfold FU; omega) E T len
        exact this
end PSE

