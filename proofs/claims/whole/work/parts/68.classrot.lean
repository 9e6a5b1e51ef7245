/-! PURE 7: the class's rotations -/
/-- worked out: all stable matchings stand in the cells -/
def ctC (σ : Mem) (n m : Nat) (S : List (Int → Int)) : Prop := inC σ n m ∧ sOK n m (rkC σ) (hkC σ) (σ 20) S ∧ stC σ n (rkC σ) S ∧ 0 < S.length
theorem ctC_at {σ : Mem} {n m : Nat} {S : List (Int → Int)} (h : ctC σ n m S) {i r : Int} (i0 : 0 ≤ i) (i1 : i < S.length) (r0 : 0 ≤ r) (r1 : r < n) : σ 26 (i * 6 + r) = gS S i r ∧ σ 27 (i * 6 + r) = PS (rkC σ) S i r := by
  have a : i.toNat < S.length := by omega
  have e : S[i.toNat]? = some (gS S i) := by
    unfold gS
    rw [List.getD_eq_getElem?_getD, List.getElem?_eq_getElem a]; rfl
  have b := h.2.2.1.2 i.toNat _ e r r0 r1
  rw [show ((i.toNat : Nat) : Int) = i by omega] at b
  exact b
theorem ctC_same {σ σ' : Mem} {n m : Nat} {S : List (Int → Int)} (h : ctC σ n m S) (e : ∀ k, k < 21 → σ' k = σ k) (e5 : σ' 25 = σ 25) (e6 : σ' 26 = σ 26) (e7 : σ' 27 = σ 27) : ctC σ' n m S := by
  have r := rkC_same (σ := σ) (σ' := σ') (fun k hk => e k (by omega))
  have q := hkC_same (σ := σ) (σ' := σ') (fun k hk => e k (by omega))
  refine ⟨inC_same h.1 e, ?_, ?_, h.2.2.2⟩
  · rw [r, q, e 20 (by omega)]; exact h.2.1
  · unfold stC
    rw [r, e5, e6, e7]; exact h.2.2.1
theorem ctC_le {σ : Mem} {n m : Nat} {S : List (Int → Int)} (h : ctC σ n m S) : S.length ≤ 216 := by
  obtain ⟨i1, i2, i3, i4, i5, i6, ⟨n1, n6, m1, m6⟩, LR, LH, cp⟩ := h.1
  exact sOK_216 LR (lsI_inj LR LH) h.2.1 n6 m6
theorem ctC_lat {σ : Mem} {n m : Nat} {S : List (Int → Int)} (h : ctC σ n m S) : mh_lat n S.length (PS (rkC σ) S) ∧ mh_two n S.length (PS (rkC σ) S) ∧ (∀ i r : Int, 0 ≤ i → i < S.length → 0 ≤ r → r < n → -1 ≤ PS (rkC σ) S i r ∧ PS (rkC σ) S i r < 6) ∧ ∀ i j r : Int, 0 ≤ i → i < S.length → 0 ≤ j → j < S.length → 0 ≤ r → r < n → PS (rkC σ) S i r ≠ PS (rkC σ) S j r → 0 ≤ PS (rkC σ) S i r := by
  obtain ⟨i1, i2, i3, i4, i5, i6, ⟨n1, n6, m1, m6⟩, LR, LH, cp⟩ := h.1
  have hi := lsI_inj LR LH
  have w : ∀ i r : Int, 0 ≤ i → i < S.length → 0 ≤ r → r < n → (gS S i r = -1 ∧ PS (rkC σ) S i r = -1) ∨ (gS S i r ≠ -1 ∧ 0 ≤ PS (rkC σ) S i r ∧ PS (rkC σ) S i r < 6) := fun i r i0 i1 r0 r1 => by
    have c := (h.2.1.1 _).mp (gS_mem i0 i1)
    by_cases z : gS S i r = -1
    · left; refine ⟨z, ?_⟩; unfold PS psF; rw [if_pos z]
    · right
      have d := (c.2.1.1 r r0 r1).resolve_left z
      have l := (LR r r0 r1).2.1 _ d.1 d.2.1
      have l2 := (LR r r0 r1).1
      have := d.2.2.1
      refine ⟨z, ?_⟩
      unfold PS psF; rw [if_neg z]; omega
  refine ⟨sOK_lat hi h.2.1, sOK_two hi h.2.1, fun i r i0 i1 r0 r1 => ?_, fun i j r i0 i1 j0 j1 r0 r1 ne => ?_⟩
  · have := w i r i0 i1 r0 r1; omega
  · have a := (h.2.1.1 _).mp (gS_mem i0 i1)
    have c := (h.2.1.1 _).mp (gS_mem j0 j1)
    have sm := mh_same hi a.2 c.2 r0 r1
    have w1 := w i r i0 i1 r0 r1
    have w2 := w j r j0 j1 r0 r1
    omega
theorem ctC_mv {σ : Mem} {n m : Nat} {S : List (Int → Int)} (h : ctC σ n m S) {a b r : Int} (a0 : 0 ≤ a) (a1 : a < S.length) (b0 : 0 ≤ b) (b1 : b < S.length) (r0 : 0 ≤ r) (r1 : r < n) : decide (σ 26 (a * 6 + r) ≠ σ 26 (b * 6 + r)) = mvB (PS (rkC σ) S) a b r := by
  obtain ⟨i1, i2, i3, i4, i5, i6, ⟨n1, n6, m1, m6⟩, LR, LH, cp⟩ := h.1
  have hi := lsI_inj LR LH
  rw [(ctC_at h a0 a1 r0 r1).1, (ctC_at h b0 b1 r0 r1).1]
  have x := (h.2.1.1 _).mp (gS_mem a0 a1)
  have y := (h.2.1.1 _).mp (gS_mem b0 b1)
  have z := psF_inj hi x.2 y.2 r0 r1
  unfold mvB PS
  by_cases e : gS S a r = gS S b r
  · rw [z.mpr e]; simp [e]
  · have : ¬ psF (rkC σ) (gS S a) r = psF (rkC σ) (gS S b) r := fun w => e (z.mp w)
    simp [e, this]
theorem uMoverOf {σ : Mem} {n m : Nat} {S : List (Int → Int)} (h : ctC σ n m S) {a b : Int} (a0 : 0 ≤ a) (a1 : a < S.length) (b0 : 0 ≤ b) (b1 : b < S.length) (i : Int) : fX4_moverOf_28 σ a b i = some (nthB (mvB (PS (rkC σ) S) a b) n i) := by
  have k216 := ctC_le h
  obtain ⟨i1, i2, i3, i4, i5, i6, ⟨n1, n6, m1, m6⟩, LR, LH, cp⟩ := h.1
  have L : ∀ (f j k : Nat) (s : Int), k + j = n → j < f → 0 ≤ s → s < 1000 - j → fX4_moverOf_28_L6 σ a b i (fun v11 v12 => some (-1)) f s k = some (match bpI (mvB (PS (rkC σ) S) a b) i j k s with | .inl r => r | .inr _ => -1) := by
    intro f
    induction f with
    | zero => intro j k s h1 h2; omega
    | succ f ih =>
      intro j k s hj hf s0 s1
      rw [fX4_moverOf_28_L6]
      cases j with
      | zero => rw [if_neg (by omega)]; rfl
      | succ j =>
        rw [if_pos (by omega), uHosAt (by omega) (by omega), Option.bind_some, uHosAt (by omega) (by omega), Option.bind_some]
        have mv := ctC_mv h a0 a1 b0 b1 (r := k) (by omega) (by omega)
        simp only [bpI]
        have ih0 := ih j (k + 1) s (by omega) (by omega) s0 (by omega)
        have ih1 := ih j (k + 1) (s + 1) (by omega) (by omega) (by omega) (by omega)
        rw [show ((k + 1 : Nat) : Int) = (k : Int) + 1 by omega] at ih0 ih1
        by_cases e : σ 26 (a * 6 + k) = σ 26 (b * 6 + k)
        · have mf : mvB (PS (rkC σ) S) a b k = false := by rw [← mv]; simp [e]
          rw [if_pos e, if_pos ⟨by omega, by omega⟩, ih0, mf]
          simp
        · have mt : mvB (PS (rkC σ) S) a b k = true := by rw [← mv]; simp [e]
          rw [if_neg e, mt, if_pos rfl]
          by_cases d : s = i
          · rw [if_pos d, if_pos d]
          · rw [if_neg d, if_pos ⟨by omega, by omega⟩, if_pos ⟨by omega, by omega⟩, ih1, if_neg d]
  unfold fX4_moverOf_28
  have := L FU n 0 0 (by omega) (by unfold FU; omega) (by omega) (by omega)
  rw [show ((0 : Nat) : Int) = 0 from rfl] at this
  exact this
theorem uOrderKey {σ : Mem} {n m : Nat} {S : List (Int → Int)} (h : ctC σ n m S) {a b : Int} (a0 : 0 ≤ a) (a1 : a < S.length) (b0 : 0 ≤ b) (b1 : b < S.length) (st : mh_step n S.length (PS (rkC σ) S) a b) : fX4_orderKey_28 σ a b = some (keyS n (PS (rkC σ) S) a b) ∧ 0 ≤ keyS n (PS (rkC σ) S) a b ∧ keyS n (PS (rkC σ) S) a b < 36 := by
  have k216 := ctC_le h
  obtain ⟨l1, l2, l3, l4⟩ := ctC_lat h
  obtain ⟨i1, i2, i3, i4, i5, i6, ⟨n1, n6, m1, m6⟩, LR, LH, cp⟩ := h.1
  obtain ⟨f0, f1, f2, f3⟩ := (step_two l1 l2 a0 a1 b0 b1 st).1
  have w := l3 a _ a0 a1 f0 f1
  have w2 := l4 a b _ a0 a1 b0 b1 f0 f1 (by omega)
  unfold fX4_orderKey_28
  rw [uMoverOf h a0 a1 b0 b1, Option.bind_some, nthB_0, if_neg (by omega), if_pos ⟨by omega, by omega⟩, uPlAt (by omega) (by omega), (ctC_at h a0 a1 f0 f1).2, Option.bind_some, if_pos ⟨by omega, by omega⟩]
  refine ⟨rfl, ?_⟩
  unfold keyS
  omega
theorem uIsBh {σ : Mem} {n m : Nat} {S : List (Int → Int)} (h : ctC σ n m S) {a b : Int} (a0 : 0 ≤ a) (a1 : a < S.length) (b0 : 0 ≤ b) (b1 : b < S.length) : ∃ z : Bool, fX5_isBehind_25 σ a b = some (zb z) ∧ (z = true ↔ mh_bh n (PS (rkC σ) S) a b) := by
  have k216 := ctC_le h
  obtain ⟨i1, i2, i3, i4, i5, i6, ⟨n1, n6, m1, m6⟩, LR, LH, cp⟩ := h.1
  refine ⟨_, uIsBehind i1 n6 (by omega) (by omega), ?_⟩
  rw [Bool.and_eq_true, mh_all_iff, decide_eq_true_eq]
  unfold mh_bh mh_le
  constructor
  · rintro ⟨z1, z2⟩
    refine ⟨fun r r0 r1 => ?_, z2⟩
    have := z1 r r0 r1
    rw [decide_eq_true_eq, (ctC_at h a0 a1 r0 r1).2, (ctC_at h b0 b1 r0 r1).2] at this
    exact this
  · rintro ⟨z1, z2⟩
    refine ⟨fun r r0 r1 => ?_, z2⟩
    rw [decide_eq_true_eq, (ctC_at h a0 a1 r0 r1).2, (ctC_at h b0 b1 r0 r1).2]
    exact z1 r r0 r1
/-- rotations in the cells: steps, by their keys -/
def rtC (σ : Mem) (n : Nat) (P : Int → Int → Int) (R : List (Int × Int)) : Prop := σ 28 5 = R.length ∧ ∀ (i : Nat) (t : Int × Int), R[i]? = some t → σ 29 i = t.1 ∧ σ 30 i = t.2 ∧ σ 31 i = keyS n P t.1 t.2
def rOK (n K : Nat) (P : Int → Int → Int) (R : List (Int × Int)) : Prop := (∀ t ∈ R, 0 ≤ t.1 ∧ t.1 < K ∧ 0 ≤ t.2 ∧ t.2 < K ∧ mh_step n K P t.1 t.2) ∧ List.Pairwise (fun t u => keyS n P t.1 t.2 < keyS n P u.1 u.2) R
theorem rOK_15 {σ : Mem} {n m : Nat} {S : List (Int → Int)} (h : ctC σ n m S) {R : List (Int × Int)} (hr : rOK n S.length (PS (rkC σ) S) R) : R.length ≤ 15 := by
  obtain ⟨l1, l2, l3, l4⟩ := ctC_lat h
  obtain ⟨i1, i2, i3, i4, i5, i6, ⟨n1, n6, m1, m6⟩, LR, LH, cp⟩ := h.1
  exact rot15 l1 l2 n6 l3 l4 R hr.1 (hr.2.imp (fun z w => by omega))
theorem uRoom {k K : Nat} (hk : k ≤ K) (hK : K < 15) : ∀ (f : Nat) (v : Nat) (σ0 σ : Mem), k ≤ v → v ≤ K → v - k < f → (∀ j, j ≠ 29 → j ≠ 30 → j ≠ 31 → σ j = σ0 j) → (∀ q, q = 29 ∨ q = 30 ∨ q = 31 → ∀ j : Int, σ q j = if (v : Int) < j ∧ j ≤ K then σ0 q (j - 1) else σ0 q j) →
    ∃ σ', fX4_makeRoomAt_28_L5 k (fun σ18 v17 => some (0, σ18)) f σ v = some (0, σ') ∧ (∀ j, j ≠ 29 → j ≠ 30 → j ≠ 31 → σ' j = σ0 j) ∧ ∀ q, q = 29 ∨ q = 30 ∨ q = 31 → ∀ j : Int, σ' q j = if (k : Int) < j ∧ j ≤ K then σ0 q (j - 1) else σ0 q j := by
  intro f
  induction f with
  | zero => intro v σ0 σ h1 h2 h3; omega
  | succ f ih =>
    intro v σ0 σ kv vK hf t1 t2
    rw [fX4_makeRoomAt_28_L5]
    rcases Nat.lt_or_ge k v with hv | hv
    · have g1 : (0 : Int) ≤ (v : Int) - 1 ∧ (v : Int) - 1 < 15 := by omega
      have g2 : (0 : Int) ≤ (v : Int) ∧ (v : Int) < 15 := by omega
      have g3 : rng ((v : Int) - 1) := ⟨by omega, by omega⟩
      rw [if_pos (by omega), if_pos g3, if_pos g1, if_pos g2, nx_eq, if_pos g3, if_pos g1, if_pos g2, nx_eq, if_pos g3, if_pos g1, if_pos g2, nx_eq, if_pos ⟨by omega, by omega⟩]
      rw [mup_ne σ _ _ (show (30 : Nat) ≠ 29 by omega), mup_ne _ _ _ (show (31 : Nat) ≠ 30 by omega), mup_ne σ _ _ (show (31 : Nat) ≠ 29 by omega)]
      have upd : ∀ q, q = 29 ∨ q = 30 ∨ q = 31 → mup (mup (mup σ 29 v (σ 29 (v - 1))) 30 v (σ 30 (v - 1))) 31 v (σ 31 (v - 1)) q = mh_up (σ q) v (σ q (v - 1)) := fun q hq => by
        rcases hq with e | e | e <;> subst e
        · rw [mup_ne _ _ _ (by omega), mup_ne _ _ _ (by omega), mup_eq]
        · rw [mup_ne _ _ _ (by omega), mup_eq, mup_ne _ _ _ (by omega)]
        · rw [mup_eq, mup_ne _ _ _ (by omega), mup_ne _ _ _ (by omega)]
      have := ih (v - 1) σ0 (mup (mup (mup σ 29 v (σ 29 (v - 1))) 30 v (σ 30 (v - 1))) 31 v (σ 31 (v - 1))) (by omega) (by omega) (by omega) (fun j a b c => by rw [mup_ne _ _ _ c, mup_ne _ _ _ b, mup_ne _ _ _ a]; exact t1 j a b c) (fun q hq j => by
        rw [upd q hq]
        by_cases e : j = v
        · rw [e, mh_up_eq, t2 q hq, if_neg (by omega), if_pos (by omega)]
        · rw [mh_up_ne _ _ e, t2 q hq]
          by_cases z : (v : Int) < j ∧ j ≤ K
          · rw [if_pos z, if_pos (by omega)]
          · rw [if_neg z, if_neg (by omega)])
      rw [show ((v - 1 : Nat) : Int) = (v : Int) + (-1) by omega] at this
      exact this
    · have : v = k := by omega
      subst this
      rw [if_neg (by omega)]
      exact ⟨σ, rfl, t1, t2⟩
theorem uRAdd {σ : Mem} {n m : Nat} {S : List (Int → Int)} (h : ctC σ n m S) {R : List (Int × Int)} (T : rtC σ n (PS (rkC σ) S) R) (O : rOK n S.length (PS (rkC σ) S) R) {a b : Int} (a0 : 0 ≤ a) (a1 : a < S.length) (b0 : 0 ≤ b) (b1 : b < S.length) (st : mh_step n S.length (PS (rkC σ) S) a b) :
    ∃ σ' R', fX4_add_28 σ a b = some (0, σ') ∧ (∀ k, k ≠ 28 → k ≠ 29 → k ≠ 30 → k ≠ 31 → σ' k = σ k) ∧ rtC σ' n (PS (rkC σ) S) R' ∧ rOK n S.length (PS (rkC σ) S) R' ∧ (∀ t ∈ R, t ∈ R') ∧ ∃ t ∈ R', keyS n (PS (rkC σ) S) t.1 t.2 = keyS n (PS (rkC σ) S) a b := by
  obtain ⟨ok, k0, k36⟩ := uOrderKey h a0 a1 b0 b1 st
  have r15 := rOK_15 h O
  unfold fX4_add_28
  rw [ok, Option.bind_some]
  generalize hkey : keyS n (PS (rkC σ) S) a b = key at k0 k36
  have keyAt : ∀ (i : Nat) (hi : i < R.length), σ 31 i = keyS n (PS (rkC σ) S) (R[i]).1 (R[i]).2 := fun i hi => (T.2 i _ (List.getElem?_eq_getElem hi)).2.2
  have mono : ∀ (i j : Nat), i < j → j < R.length → σ 31 i < σ 31 j := fun i j hij hj => by
    rw [keyAt i (by omega), keyAt j hj]
    exact List.pairwise_iff_getElem.mp O.2 i j (by omega) hj hij
  have L : ∀ (ex : Int → Option (Int × Mem)) (f k : Nat), k ≤ R.length → R.length < f + k → (∀ i : Nat, i < k → σ 31 i < key) → ∃ k' : Nat, k' ≤ R.length ∧ (∀ i : Nat, i < k' → σ 31 i < key) ∧ (k' < R.length → ¬ σ 31 k' < key) ∧ fX4_add_28_L10 σ key ex f k = ex k' := by
    intro ex f
    induction f with
    | zero => intro k h1 h2; omega
    | succ f ih =>
      intro k h1 h2 hk
      rw [fX4_add_28_L10, T.1]
      rcases Nat.lt_or_ge k R.length with c | c
      · rw [if_pos (by omega), if_pos (by omega)]
        by_cases e : σ 31 k < key
        · rw [if_pos e, if_pos ⟨by omega, by omega⟩]
          have := ih (k + 1) (by omega) (by omega) (fun i hi => by
            by_cases z : i = k
            · subst z; exact e
            · exact hk i (by omega))
          rw [show ((k + 1 : Nat) : Int) = (k : Int) + 1 by omega] at this
          exact this
        · rw [if_neg e]
          exact ⟨k, h1, hk, fun _ => e, rfl⟩
      · rw [if_neg (by omega)]
        exact ⟨k, h1, hk, fun z => by omega, rfl⟩
  -- known already, or put in at k
  have put : ∀ k : Nat, k ≤ R.length → (∀ i : Nat, i < k → σ 31 i < key) → (∀ i : Nat, k ≤ i → i < R.length → key < σ 31 i) → R.length < 15 → ∃ σ', (bnd2 (fX4_makeRoomAt_28 σ k) fun v8 σ9 => if (0 : Int) ≤ (k : Int) ∧ ((k : Int) : Int) < 15 then nx (mup σ9 29 k a) fun σ11 => if (0 : Int) ≤ (k : Int) ∧ ((k : Int) : Int) < 15 then nx (mup σ11 30 k b) fun σ13 => if (0 : Int) ≤ (k : Int) ∧ ((k : Int) : Int) < 15 then nx (mup σ13 31 k key) fun σ15 => if rng ((σ15 28 5) + 1) then nx (mup σ15 28 5 ((σ15 28 5) + 1)) fun σ17 => some ((0 : Int), σ17) else none else none else none else none) = some (0, σ') ∧ (∀ k, k ≠ 28 → k ≠ 29 → k ≠ 30 → k ≠ 31 → σ' k = σ k) ∧ rtC σ' n (PS (rkC σ) S) (R.take k ++ (a, b) :: R.drop k) ∧ rOK n S.length (PS (rkC σ) S) (R.take k ++ (a, b) :: R.drop k) := fun k hk lo hi l15 => by
    obtain ⟨σ1, c1, c2, c3⟩ := uRoom (k := k) (K := R.length) hk l15 FU R.length σ σ hk (Nat.le_refl _) (by unfold FU; omega) (fun _ _ _ _ => rfl) (fun q _ j => by rw [if_neg (by omega)])
    have g : (0 : Int) ≤ (k : Int) ∧ (k : Int) < 15 := by omega
    have mr : fX4_makeRoomAt_28 σ k = some (0, σ1) := by unfold fX4_makeRoomAt_28; rw [T.1]; exact c1
    rw [mr, bnd2_some, if_pos g, nx_eq, if_pos g, nx_eq, if_pos g, nx_eq]
    have s28 : mup (mup (mup σ1 29 k a) 30 k b) 31 k key 28 = σ 28 := by
      rw [mup_ne _ _ _ (by omega), mup_ne _ _ _ (by omega), mup_ne _ _ _ (by omega), c2 28 (by omega) (by omega) (by omega)]
    rw [s28, T.1, if_pos ⟨by omega, by omega⟩, nx_eq]
    refine ⟨_, rfl, fun j x1 x2 x3 x4 => ?_, ⟨?_, fun i t ht => ?_⟩, fun t ht => ?_, ?_⟩
    · rw [mup_ne _ _ _ x1, mup_ne _ _ _ x4, mup_ne _ _ _ x3, mup_ne _ _ _ x2]; exact c2 j x2 x3 x4
    · rw [mup_eq, mh_up_eq]
      simp only [List.length_append, List.length_take, List.length_cons, List.length_drop]
      omega
    · have q29 : mup (mup (mup (mup σ1 29 k a) 30 k b) 31 k key) 28 5 ((R.length : Int) + 1) 29 = mh_up (σ1 29) k a := by
        rw [mup_ne _ _ _ (by omega), mup_ne _ _ _ (by omega), mup_ne _ _ _ (by omega), mup_eq]
      have q30 : mup (mup (mup (mup σ1 29 k a) 30 k b) 31 k key) 28 5 ((R.length : Int) + 1) 30 = mh_up (σ1 30) k b := by
        rw [mup_ne _ _ _ (by omega), mup_ne _ _ _ (by omega), mup_eq, mup_ne _ _ _ (by omega)]
      have q31 : mup (mup (mup (mup σ1 29 k a) 30 k b) 31 k key) 28 5 ((R.length : Int) + 1) 31 = mh_up (σ1 31) k key := by
        rw [mup_ne _ _ _ (by omega), mup_eq, mup_ne _ _ _ (by omega), mup_ne _ _ _ (by omega)]
      rw [q29, q30, q31]
      rcases Nat.lt_trichotomy i k with c | c | c
      · have lt : i < (R.take k).length := by rw [List.length_take]; omega
        rw [List.getElem?_append_left lt, List.getElem?_take_of_lt c] at ht
        rw [mh_up_ne _ _ (by omega), mh_up_ne _ _ (by omega), mh_up_ne _ _ (by omega), c3 29 (by omega), c3 30 (by omega), c3 31 (by omega), if_neg (by omega), if_neg (by omega), if_neg (by omega)]
        exact T.2 i t ht
      · subst c
        rw [List.getElem?_append_right (by rw [List.length_take]; omega), List.length_take, show i - min i R.length = 0 by omega] at ht
        simp at ht
        subst ht
        rw [mh_up_eq, mh_up_eq, mh_up_eq]
        exact ⟨rfl, rfl, hkey.symm⟩
      · rw [List.getElem?_append_right (by rw [List.length_take]; omega), List.length_take, show i - min k R.length = (i - k - 1) + 1 by omega, List.getElem?_cons_succ, List.getElem?_drop] at ht
        have il : k + (i - k - 1) < R.length := (List.getElem?_eq_some_iff.mp ht).1
        rw [mh_up_ne _ _ (by omega), mh_up_ne _ _ (by omega), mh_up_ne _ _ (by omega), c3 29 (by omega), c3 30 (by omega), c3 31 (by omega), if_pos (by omega), if_pos (by omega), if_pos (by omega)]
        have := T.2 _ t ht
        rw [show ((k + (i - k - 1) : Nat) : Int) = (i : Int) - 1 by omega] at this
        exact this
    · rcases List.mem_append.mp ht with z | z
      · exact O.1 t (List.mem_of_mem_take z)
      · rcases List.mem_cons.mp z with w | w
        · subst w; exact ⟨a0, a1, b0, b1, st⟩
        · exact O.1 t (List.mem_of_mem_drop w)
    · rw [List.pairwise_append, List.pairwise_cons]
      have lo' : ∀ t ∈ R.take k, keyS n (PS (rkC σ) S) t.1 t.2 < key := fun t ht => by
        obtain ⟨i, hi', e⟩ := List.getElem_of_mem ht
        rw [List.length_take] at hi'
        rw [List.getElem_take] at e
        rw [← e, ← keyAt i (by omega)]
        exact lo i (by omega)
      have hi' : ∀ t ∈ R.drop k, key < keyS n (PS (rkC σ) S) t.1 t.2 := fun t ht => by
        obtain ⟨i, hi', e⟩ := List.getElem_of_mem ht
        rw [List.length_drop] at hi'
        rw [List.getElem_drop] at e
        rw [← e, ← keyAt (k + i) (by omega)]
        exact hi (k + i) (by omega) (by omega)
      refine ⟨O.2.sublist (List.take_sublist k R), ⟨fun t ht => ?_, O.2.sublist (List.drop_sublist k R)⟩, fun t ht u hu => ?_⟩
      · show keyS n (PS (rkC σ) S) a b < _
        rw [hkey]; exact hi' t ht
      · rcases List.mem_cons.mp hu with w | w
        · subst w
          show _ < keyS n (PS (rkC σ) S) a b
          rw [hkey]; exact lo' t ht
        · have := lo' t ht
          have := hi' u w
          omega
  have mem : ∀ k : Nat, (∀ t ∈ R, t ∈ R.take k ++ (a, b) :: R.drop k) ∧ ∃ t ∈ R.take k ++ (a, b) :: R.drop k, keyS n (PS (rkC σ) S) t.1 t.2 = key := fun k => by
    refine ⟨fun t ht => ?_, (a, b), List.mem_append_right _ List.mem_cons_self, hkey⟩
    rw [← List.take_append_drop k R] at ht
    rcases List.mem_append.mp ht with z | z
    · exact List.mem_append_left _ z
    · exact List.mem_append_right _ (List.mem_cons_of_mem _ z)
  have small : ∀ k : Nat, k ≤ R.length → (∀ i : Nat, i < k → σ 31 i < key) → (∀ i : Nat, k ≤ i → i < R.length → key < σ 31 i) → R.length < 15 := fun k hk lo hi => by
    have O' : rOK n S.length (PS (rkC σ) S) (R.take k ++ (a, b) :: R.drop k) := by
      refine ⟨fun t ht => ?_, ?_⟩
      · rcases List.mem_append.mp ht with z | z
        · exact O.1 t (List.mem_of_mem_take z)
        · rcases List.mem_cons.mp z with w | w
          · subst w; exact ⟨a0, a1, b0, b1, st⟩
          · exact O.1 t (List.mem_of_mem_drop w)
      · rw [List.pairwise_append, List.pairwise_cons]
        have lo' : ∀ t ∈ R.take k, keyS n (PS (rkC σ) S) t.1 t.2 < key := fun t ht => by
          obtain ⟨i, hi', e⟩ := List.getElem_of_mem ht
          rw [List.length_take] at hi'
          rw [List.getElem_take] at e
          rw [← e, ← keyAt i (by omega)]
          exact lo i (by omega)
        have hi' : ∀ t ∈ R.drop k, key < keyS n (PS (rkC σ) S) t.1 t.2 := fun t ht => by
          obtain ⟨i, hi', e⟩ := List.getElem_of_mem ht
          rw [List.length_drop] at hi'
          rw [List.getElem_drop] at e
          rw [← e, ← keyAt (k + i) (by omega)]
          exact hi (k + i) (by omega) (by omega)
        refine ⟨O.2.sublist (List.take_sublist k R), ⟨fun t ht => ?_, O.2.sublist (List.drop_sublist k R)⟩, fun t ht u hu => ?_⟩
        · show keyS n (PS (rkC σ) S) a b < _
          rw [hkey]; exact hi' t ht
        · rcases List.mem_cons.mp hu with w | w
          · subst w
            show _ < keyS n (PS (rkC σ) S) a b
            rw [hkey]; exact lo' t ht
          · have := lo' t ht
            have := hi' u w
            omega
    have := rOK_15 h O'
    simp only [List.length_append, List.length_take, List.length_cons, List.length_drop] at this
    omega
  obtain ⟨k, hk, lo, hge, e⟩ := L _ FU 0 (by omega) (by unfold FU; omega) (fun i hi => by omega)
  rw [show ((0 : Nat) : Int) = 0 from rfl] at e
  rw [e]
  rcases Nat.lt_or_ge k R.length with c | c
  · rw [T.1, if_pos (by omega), if_pos (by omega)]
    by_cases z : σ 31 k = key
    · rw [if_pos z]
      refine ⟨σ, R, rfl, fun _ _ _ _ _ => rfl, T, O, fun t ht => ht, R[k], List.getElem_mem c, ?_⟩
      rw [← keyAt k c]; exact z
    · have hi : ∀ i : Nat, k ≤ i → i < R.length → key < σ 31 i := fun i h1 h2 => by
        have := hge c
        by_cases w : i = k
        · subst w; omega
        · have := mono k i (by omega) h2; omega
      have l15 := small k hk lo hi
      obtain ⟨σ', p1, p2, p3, p4⟩ := put k hk lo hi l15
      rw [if_neg z, if_neg (by omega)]
      exact ⟨σ', _, p1, p2, p3, p4, (mem k).1, (mem k).2⟩
  · have hi : ∀ i : Nat, k ≤ i → i < R.length → key < σ 31 i := fun i h1 h2 => by omega
    have l15 := small k hk lo hi
    obtain ⟨σ', p1, p2, p3, p4⟩ := put k hk lo hi l15
    rw [T.1, if_neg (by omega), if_neg (by omega)]
    exact ⟨σ', _, p1, p2, p3, p4, (mem k).1, (mem k).2⟩
