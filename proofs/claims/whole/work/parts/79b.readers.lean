/-! PURE 19: bound, rotation, done, before, take, check: class and reference side by side -/
def bvF (P : Int → Int → Int) (S : List (Int → Int)) (x i k r : Int) : Int := if P k r < P i r then (if x = 0 then gS S k r else gS S i r) else (if x = 0 then gS S i r else gS S k r)
section RD2
variable {σ τ : Mem} {n m : Nat}
theorem tBound (h : cpI σ τ n m) (x i k : Int) : ∃ v σ' τ', fX6_bound_0 σ x i k = some (v, σ') ∧ fX7_bound_0 τ x i k = some (v, τ') ∧ cpI σ' τ' n m := by
  have h' := cpI_m0 h 0
  obtain ⟨n1, n6, m1, m6⟩ := h.1.2.2.2.2.2.2.1
  unfold fX6_bound_0 fX7_bound_0
  rw [nx_eq, mIn, Option.bind_some]
  by_cases g : 0 ≤ x ∧ x ≤ 1
  · rw [zb_inn g, if_neg (by omega), if_neg (by omega), if_neg (by omega), uHas, Option.bind_some]
    by_cases w : τ 0 7 = 1
    · obtain ⟨S, R, b, c, d, e7, e8, e10, k1, k2, k3, f1, f2⟩ := cpW h w
      rw [mIsStable e7 e8 k1, Option.bind_some, f1]
      by_cases a : 0 ≤ i ∧ i < S.length
      · rw [zb_in2 a, if_neg (by omega), if_neg (by omega), uHas, Option.bind_some, mIsStable e7 e8 k1, Option.bind_some, f1]
        by_cases a' : 0 ≤ k ∧ k < S.length
        · rw [zb_in2 a', if_neg (by omega), if_neg (by omega)]
          obtain ⟨l1, l2, l3, l4, l5, l6, l7⟩ := ctM_fac c
          have WC : ∀ (f j : Nat) (σ1 : Mem), j ≤ n → n < f + j → (∀ q, q ≠ 24 → σ1 q = σ q) → (∀ r : Int, 0 ≤ r → r < j → σ1 24 r = bvF (PS (rkC σ) S) S x i k r) → ∃ σ2, fX6_bound_0_L36 x i k (fun σ32 v31 => (fX5_find_25_23 σ32).bind fun v33 => some (v33, σ32)) f σ1 j = (fX5_find_25_23 σ2).bind (fun v33 => some (v33, σ2)) ∧ (∀ q, q ≠ 24 → σ2 q = σ q) ∧ ∀ r : Int, 0 ≤ r → r < n → σ2 24 r = bvF (PS (rkC σ) S) S x i k r := by
            intro f
            induction f with
            | zero => intro j σ1 h1 h2; omega
            | succ f ih =>
              intro j σ1 h1 h2 e1 e2
              have c1 : ctC σ1 n m S := ctC_same b.1 (fun q hq => e1 q (by omega)) (e1 25 (by omega)) (e1 26 (by omega)) (e1 27 (by omega))
              have rk1 : rkC σ1 = rkC σ := rkC_same (fun q hq => e1 q (by omega))
              rw [fX6_bound_0_L36, c1.1.1]
              rcases Nat.lt_or_ge j n with z | z
              · have pi := ctC_at c1 a.1 a.2 (r := j) (by omega) (by omega)
                have pk := ctC_at c1 a'.1 a'.2 (r := j) (by omega) (by omega)
                rw [rk1] at pi pk
                have nxt : ∀ y : Int, y = bvF (PS (rkC σ) S) S x i k j → ∃ σ2, fX6_bound_0_L36 x i k (fun σ32 v31 => (fX5_find_25_23 σ32).bind fun v33 => some (v33, σ32)) f (mup σ1 24 j y) ((j : Int) + 1) = (fX5_find_25_23 σ2).bind (fun v33 => some (v33, σ2)) ∧ (∀ q, q ≠ 24 → σ2 q = σ q) ∧ ∀ r : Int, 0 ≤ r → r < n → σ2 24 r = bvF (PS (rkC σ) S) S x i k r := fun y hy => by
                  have := ih (j + 1) (mup σ1 24 j y) (by omega) (by omega) (fun q hq => by rw [mup_ne _ _ _ hq]; exact e1 q hq) (fun r r0 r1 => by
                    rw [mup_eq]
                    by_cases e : r = j
                    · rw [e, mh_up_eq]; exact hy
                    · rw [mh_up_ne _ _ e]; exact e2 r r0 (by omega))
                  rw [show ((j + 1 : Nat) : Int) = (j : Int) + 1 by omega] at this
                  exact this
                have rg : rng ((j : Int) + 1) := by omega
                rw [if_pos (by omega), uPlAt (by omega) (by omega), Option.bind_some, uPlAt (by omega) (by omega), Option.bind_some, uHosAt (by omega) (by omega), uHosAt (by omega) (by omega), Option.bind_some, Option.bind_some, pi.1, pi.2, pk.1, pk.2]
                simp only [nx_eq, Option.bind_some, if_pos rg, if_pos (show (0 : Int) ≤ (j : Int) ∧ (j : Int) < 6 by omega)]
                by_cases u : PS (rkC σ) S k j < PS (rkC σ) S i j
                · rw [if_pos u]
                  by_cases v : x = 0
                  · rw [if_pos v]; exact nxt _ (by unfold bvF; rw [if_pos u, if_pos v])
                  · rw [if_neg v]; exact nxt _ (by unfold bvF; rw [if_pos u, if_neg v])
                · rw [if_neg u]
                  by_cases v : x = 0
                  · rw [if_pos v]; exact nxt _ (by unfold bvF; rw [if_neg u, if_pos v])
                  · rw [if_neg v]; exact nxt _ (by unfold bvF; rw [if_neg u, if_neg v])
              · have : j = n := by omega
                subst this
                rw [if_neg (by omega)]
                exact ⟨σ1, rfl, e1, e2⟩
          have WM : ∀ (f j : Nat) (τ1 : Mem), j ≤ n → n < f + j → (∀ q, q ≠ 10 → τ1 q = mup τ 0 0 0 q) → (∀ r : Int, 0 ≤ r → r < j → τ1 10 r = bvF (PS (rkC σ) S) S x i k r) → ∃ τ2, fX7_bound_0_L35 x i k (fun σ46 v45 => (fX7_numberOf_0_10 σ46).bind fun v47 => some (v47, σ46)) f τ1 j = (fX7_numberOf_0_10 τ2).bind (fun v47 => some (v47, τ2)) ∧ (∀ q, q ≠ 10 → τ2 q = mup τ 0 0 0 q) ∧ ∀ r : Int, 0 ≤ r → r < n → τ2 10 r = bvF (PS (rkC σ) S) S x i k r := by
            intro f
            induction f with
            | zero => intro j τ1 h1 h2; omega
            | succ f ih =>
              intro j τ1 h1 h2 e1 e2
              have c1 : ctM τ1 n m (rkC σ) (hkC σ) (σ 10) (σ 19) (σ 20) S := ctM_same c (by rw [e1 0 (by omega)]) (by rw [e1 0 (by omega)]) (by rw [e1 0 (by omega)]) (fun q hq => e1 q (by omega))
              rw [fX7_bound_0_L35, c1.1.1]
              rcases Nat.lt_or_ge j n with z | z
              · have pi := ctM_at c1 a.1 a.2 (r := j) (by omega) (by omega)
                have pk := ctM_at c1 a'.1 a'.2 (r := j) (by omega) (by omega)
                have pe := l6 i k j a.1 a.2 a'.1 a'.2 (by omega) (by omega)
                have nxt : ∀ y : Int, y = bvF (PS (rkC σ) S) S x i k j → ∃ τ2, fX7_bound_0_L35 x i k (fun σ46 v45 => (fX7_numberOf_0_10 σ46).bind fun v47 => some (v47, σ46)) f (mup τ1 10 j y) ((j : Int) + 1) = (fX7_numberOf_0_10 τ2).bind (fun v47 => some (v47, τ2)) ∧ (∀ q, q ≠ 10 → τ2 q = mup τ 0 0 0 q) ∧ ∀ r : Int, 0 ≤ r → r < n → τ2 10 r = bvF (PS (rkC σ) S) S x i k r := fun y hy => by
                  have := ih (j + 1) (mup τ1 10 j y) (by omega) (by omega) (fun q hq => by rw [mup_ne _ _ _ hq]; exact e1 q hq) (fun r r0 r1 => by
                    rw [mup_eq]
                    by_cases e : r = j
                    · rw [e, mh_up_eq]; exact hy
                    · rw [mh_up_ne _ _ e]; exact e2 r r0 (by omega))
                  rw [show ((j + 1 : Nat) : Int) = (j : Int) + 1 by omega] at this
                  exact this
                have rg : rng ((j : Int) + 1) := by omega
                simp only [nx_eq, if_pos rg, if_pos (show (0 : Int) ≤ (j : Int) ∧ (j : Int) < 6 by omega)]
                repeat rw [if_pos (by omega)]
                rw [pi, pk, ctM_pl c1 a.1 a.2 (by omega) (by omega), ctM_pl c1 a'.1 a'.2 (by omega) (by omega), Option.bind_some, Option.bind_some]
                by_cases u0 : gS S i j = gS S k j
                · have u : ¬ PS (rkC σ) S k j < PS (rkC σ) S i j := by have := pe.1.mpr u0; omega
                  rw [if_pos u0]
                  by_cases v : x = 0
                  · rw [if_pos v]; exact nxt _ (by unfold bvF; rw [if_neg u, if_pos v])
                  · rw [if_neg v]; exact nxt _ (by unfold bvF; rw [if_neg u, if_neg v])
                · have ne : ¬ PS (rkC σ) S i j = PS (rkC σ) S k j := fun y => u0 (pe.1.mp y)
                  rw [if_neg u0]
                  by_cases u : PS (rkC σ) S i j < PS (rkC σ) S k j
                  · have u' : ¬ PS (rkC σ) S k j < PS (rkC σ) S i j := by omega
                    rw [if_pos u]
                    by_cases v : x = 0
                    · rw [if_pos v]; exact nxt _ (by unfold bvF; rw [if_neg u', if_pos v])
                    · rw [if_neg v]; exact nxt _ (by unfold bvF; rw [if_neg u', if_neg v])
                  · have u' : PS (rkC σ) S k j < PS (rkC σ) S i j := by omega
                    rw [if_neg u]
                    by_cases v : x = 0
                    · rw [if_pos v]; exact nxt _ (by unfold bvF; rw [if_pos u', if_pos v])
                    · rw [if_neg v]; exact nxt _ (by unfold bvF; rw [if_pos u', if_neg v])
              · have : j = n := by omega
                subst this
                rw [if_neg (by omega)]
                exact ⟨τ1, rfl, e1, e2⟩
          obtain ⟨σ2, s1, s2, s3⟩ := WC FU 0 σ (by omega) (by unfold FU; omega) (fun _ _ => rfl) (fun r r0 r1 => by omega)
          obtain ⟨τ2, t1, t2, t3⟩ := WM FU 0 (mup τ 0 0 0) (by omega) (by unfold FU; omega) (fun _ _ => rfl) (fun r r0 r1 => by omega)
          rw [show ((0 : Nat) : Int) = 0 from rfl] at s1 t1
          have c1 : ctC σ2 n m S := ctC_same b.1 (fun q hq => s2 q (by omega)) (s2 25 (by omega)) (s2 26 (by omega)) (s2 27 (by omega))
          have d1 : ctM τ2 n m (rkC σ) (hkC σ) (σ 10) (σ 19) (σ 20) S := ctM_same c (by rw [t2 0 (by omega)]) (by rw [t2 0 (by omega)]) (by rw [t2 0 (by omega)]) (fun q hq => t2 q (by omega))
          rw [s1, t1, uFind_24 c1.1.1 n6 c1.2.2.1.1 k1, mNumberOf_10 d1.1.1 n6 d1.2.2.1 k1, Option.bind_some, Option.bind_some]
          have e : mh_f (fun i => mh_all (fun r => decide (τ2 5 (6 * i + r) = τ2 10 r)) n) S.length = mh_f (fun i => mh_all (fun r => decide (σ2 26 (i * 6 + r) = σ2 24 r)) n) S.length := mh_f_congr (fun i i0 i1 => mh_all_congr (fun r r0 r1 => by
            rw [ctM_at d1 i0 i1 r0 r1, (ctC_at c1 i0 i1 r0 r1).1, s3 r r0 r1, t3 r r0 r1]))
          rw [e]
          refine ⟨_, _, _, rfl, rfl, cpI_m (cpI_c h s2) (fun q p0 p10 _ => by rw [t2 q p10, mup_ne _ _ _ p0]) (fun j hj => by rw [t2 0 (by omega), mup_eq, mh_up_ne _ _ hj])⟩
        · rw [zb_out2 a', if_pos rfl, if_pos rfl]
          exact ⟨_, _, _, rfl, rfl, h'⟩
      · rw [zb_out2 a, if_pos rfl, if_pos rfl]
        exact ⟨_, _, _, rfl, rfl, h'⟩
    · obtain ⟨a, b, c⟩ := cpN h w
      rw [(stX c i).1, Option.bind_some, if_pos rfl, a, zb_out2 (by omega), if_pos rfl]
      exact ⟨_, _, _, rfl, rfl, h'⟩
  · rw [zb_out g, if_pos rfl]
    by_cases y : x < 0
    · rw [if_pos y]; exact ⟨_, _, _, rfl, rfl, h'⟩
    · rw [if_neg y, if_pos (by omega)]; exact ⟨_, _, _, rfl, rfl, h'⟩
theorem rtM_at {P : Int → Int → Int} {S : List (Int → Int)} {R : List (Int × Int)} (d : rtM τ n P S R) {k : Nat} (hk : k < R.length) : roM τ n P S k R[k] := d.2 k _ (List.getElem?_eq_getElem hk)
theorem tRotation (h : cpI σ τ n m) (x i y : Int) : ∃ v τ', fX6_rotation_0 σ x i y = some v ∧ fX7_rotation_0 τ x i y = some (v, τ') ∧ cpI σ τ' n m := by
  have h' := cpI_m0 h 0
  obtain ⟨n1, n6, m1, m6⟩ := h.1.2.2.2.2.2.2.1
  unfold fX6_rotation_0 fX7_rotation_0
  rw [uHasR, Option.bind_some, nx_eq]
  by_cases w : τ 0 7 = 1
  · obtain ⟨S, R, b, c, d, e7, e8, e10, k1, k2, k3, f1, f2⟩ := cpW h w
    rw [mIsRot e7 e10 (by omega), Option.bind_some, f2]
    by_cases a : 0 ≤ x ∧ x < R.length
    · obtain ⟨k, hk⟩ : ∃ k : Nat, x = k := ⟨x.toNat, by omega⟩
      subst hk
      have kR : k < R.length := by omega
      have ro := rtM_at d kR
      have o := b.2.2.1.1 _ (List.getElem_mem kR)
      have t := b.2.1.2 k _ (List.getElem?_eq_getElem kR)
      have cc := mh_c_le (mvB (PS (rkC σ) S) (R[k]).1 (R[k]).2) n
      have c0 := mh_c_0 (mvB (PS (rkC σ) S) (R[k]).1 (R[k]).2) n
      rw [zb_in2 a, if_neg (by omega), if_neg (by omega), uMover b.1 b.2.1 b.2.2.1 kR, Option.bind_some, if_pos (show (0 : Int) ≤ (k : Int) ∧ (k : Int) < 64 by omega), ro.1, if_pos (show rng (mh_c (mvB (PS (rkC σ) S) (R[k]).1 (R[k]).2) n - 1) by omega), mIn, Option.bind_some]
      by_cases g : 0 ≤ i ∧ i < mh_c (mvB (PS (rkC σ) S) (R[k]).1 (R[k]).2) n
      · have nb := nthB_in g.1 g.2
        have r2 := ro.2 i g.1 g.2
        rw [zb_inn (by omega), if_neg (show ¬ (1 : Int) = 0 by omega), mIn, Option.bind_some, if_neg (show ¬ nthB (mvB (PS (rkC σ) S) (R[k]).1 (R[k]).2) n i = -1 by omega)]
        by_cases z : 0 ≤ y ∧ y ≤ 2
        · rw [zb_inn z, if_neg (show ¬ (1 : Int) = 0 by omega)]
          by_cases y0 : y = 0
          · rw [if_pos y0, if_pos y0]
            repeat rw [if_pos (by omega)]
            rw [r2.1]
            exact ⟨_, _, rfl, rfl, h'⟩
          · rw [if_neg y0, if_neg y0]
            by_cases y1 : y = 1
            · rw [if_pos y1, if_pos y1]
              repeat rw [if_pos (by omega)]
              rw [r2.2.1, t.1, uHosAt (by omega) (by omega), Option.bind_some, (ctC_at b.1 o.1 o.2.1 nb.1 nb.2.1).1]
              exact ⟨_, _, rfl, rfl, h'⟩
            · rw [if_neg y1, if_neg y1, if_pos (show y = 2 by omega)]
              repeat rw [if_pos (by omega)]
              rw [r2.2.2, t.2.1, uHosAt (by omega) (by omega), Option.bind_some, (ctC_at b.1 o.2.2.1 o.2.2.2.1 nb.1 nb.2.1).1]
              exact ⟨_, _, rfl, rfl, h'⟩
        · rw [zb_out z, if_pos rfl, if_neg (by omega), if_neg (by omega), if_neg (by omega)]
          exact ⟨_, _, rfl, rfl, h'⟩
      · rw [zb_out (by omega), if_pos rfl, if_pos (nthB_out g)]
        exact ⟨_, _, rfl, rfl, h'⟩
    · rw [zb_out2 a, if_pos rfl, if_pos rfl]
      exact ⟨_, _, rfl, rfl, h'⟩
  · obtain ⟨a, b, c⟩ := cpN h w
    rw [(stX c x).2, Option.bind_some, if_pos rfl, b, zb_out2 (by omega), if_pos rfl]
    exact ⟨_, _, rfl, rfl, h'⟩
theorem mDone {rk hk : Int → Int → Int} {sz sz' cp : Int → Int} {S : List (Int → Int)} {R : List (Int × Int)} (c : ctM τ n m rk hk sz sz' cp S) (d : rtM τ n (PS rk S) S R) (O : rOK n S.length (PS rk S) R) (k2 : R.length ≤ 15) {k : Nat} (kR : k < R.length) {i : Int} (i0 : 0 ≤ i) (i1 : i < S.length) : fX7_isDone_0 τ k i = some (zb (dnB n (PS rk S) R[k] i)) := by
  obtain ⟨l1, l2, l3, l4, l5, l6, l7⟩ := ctM_fac c
  have n6 : n ≤ 6 := c.1.2.2.1.2.1
  have ro := rtM_at d kR
  have o := O.1 _ (List.getElem_mem kR)
  obtain ⟨f0, f1, f2, f3⟩ := (step_two l1 l2 o.1 o.2.1 o.2.2.1 o.2.2.2.1 o.2.2.2.2).1
  have vp : 0 < mh_c (mvB (PS rk S) (R[k]).1 (R[k]).2) n := mh_c_pos f0 f1 (decide_eq_true (Int.ne_of_lt f2))
  have r0 := ro.2 0 (by omega) vp
  rw [nthB_0, Int.add_zero] at r0
  unfold fX7_isDone_0
  rw [r0.1, r0.2.2]
  repeat rw [if_pos (by omega)]
  rw [ctM_at c i0 i1 f0 f1, ctM_pl c i0 i1 f0 f1, Option.bind_some]
  repeat rw [if_pos (by omega)]
  rw [ctM_pl c o.2.2.1 o.2.2.2.1 f0 f1, Option.bind_some]
  unfold dnB
  by_cases e : PS rk S i (mh_f (mvB (PS rk S) (R[k]).1 (R[k]).2) n) < PS rk S (R[k]).2 (mh_f (mvB (PS rk S) (R[k]).1 (R[k]).2) n)
  · rw [if_pos e, decide_eq_false (by omega)]; rfl
  · rw [if_neg e, decide_eq_true (by omega)]; rfl
theorem tDone (h : cpI σ τ n m) (x i : Int) : ∃ v τ', fX6_done_0 σ x i = some v ∧ fX7_done_0 τ x i = some (v, τ') ∧ cpI σ τ' n m := by
  have h' := cpI_m0 h 0
  unfold fX6_done_0 fX7_done_0
  rw [uHasR, Option.bind_some, nx_eq]
  by_cases w : τ 0 7 = 1
  · obtain ⟨S, R, b, c, d, e7, e8, e10, k1, k2, k3, f1, f2⟩ := cpW h w
    rw [mIsRot e7 e10 (by omega), Option.bind_some, f2]
    by_cases a : 0 ≤ x ∧ x < R.length
    · obtain ⟨k, hk⟩ : ∃ k : Nat, x = k := ⟨x.toNat, by omega⟩
      subst hk
      have kR : k < R.length := by omega
      rw [zb_in2 a, if_neg (by omega), if_neg (by omega), uHas, Option.bind_some, mIsStable e7 e8 k1, Option.bind_some, f1]
      by_cases g : 0 ≤ i ∧ i < S.length
      · rw [zb_in2 g, if_neg (by omega), if_neg (by omega), uIsDone b.1 b.2.2.1 b.2.2.2.2 kR g.1 g.2, mDone c d b.2.2.1 k2 kR g.1 g.2, Option.bind_some, Option.bind_some]
        generalize dnB n (PS (rkC σ) S) R[k] i = z
        cases z
        · rw [if_pos (by decide), if_pos (by decide)]; exact ⟨_, _, rfl, rfl, h'⟩
        · rw [if_neg (by decide), if_neg (by decide)]; exact ⟨_, _, rfl, rfl, h'⟩
      · rw [zb_out2 g, if_pos rfl, if_pos rfl]
        exact ⟨_, _, rfl, rfl, h'⟩
    · rw [zb_out2 a, if_pos rfl, if_pos rfl]
      exact ⟨_, _, rfl, rfl, h'⟩
  · obtain ⟨a, b, c⟩ := cpN h w
    rw [(stX c x).2, Option.bind_some, if_pos rfl, b, zb_out2 (by omega), if_pos rfl]
    exact ⟨_, _, rfl, rfl, h'⟩
theorem tBefore (h : cpI σ τ n m) (x y : Int) : ∃ v τ', fX6_before_0 σ x y = some v ∧ fX7_before_0 τ x y = some (v, τ') ∧ cpI σ τ' n m := by
  have h' := cpI_m0 h 0
  unfold fX6_before_0 fX7_before_0
  rw [uHasR, Option.bind_some, nx_eq]
  by_cases w : τ 0 7 = 1
  · obtain ⟨S, R, b, c, d, e7, e8, e10, k1, k2, k3, f1, f2⟩ := cpW h w
    rw [mIsRot e7 e10 (by omega), Option.bind_some, f2]
    by_cases a : 0 ≤ x ∧ x < R.length
    · obtain ⟨k, hk⟩ : ∃ k : Nat, x = k := ⟨x.toNat, by omega⟩
      subst hk
      have kR : k < R.length := by omega
      rw [zb_in2 a, if_neg (by omega), if_neg (by omega), uHasR, Option.bind_some, mIsRot e7 e10 (by omega), Option.bind_some, f2]
      by_cases a' : 0 ≤ y ∧ y < R.length
      · obtain ⟨l, hl⟩ : ∃ l : Nat, y = l := ⟨y.toNat, by omega⟩
        subst hl
        have lR : l < R.length := by omega
        have uk : ∀ i : Int, 0 ≤ i → i < S.length → fX4_isDone_28 σ k i = some (zb (dnB n (PS (rkC σ) S) R[k] i)) := fun i i0 i1 => uIsDone b.1 b.2.2.1 b.2.2.2.2 kR i0 i1
        have ul : ∀ i : Int, 0 ≤ i → i < S.length → fX4_isDone_28 σ l i = some (zb (dnB n (PS (rkC σ) S) R[l] i)) := fun i i0 i1 => uIsDone b.1 b.2.2.1 b.2.2.2.2 lR i0 i1
        have mk : ∀ i : Int, 0 ≤ i → i < S.length → fX7_isDone_0 (mup τ 0 0 0) k i = some (zb (dnB n (PS (rkC σ) S) R[k] i)) := fun i i0 i1 => mDone c d b.2.2.1 k2 kR i0 i1
        have ml : ∀ i : Int, 0 ≤ i → i < S.length → fX7_isDone_0 (mup τ 0 0 0) l i = some (zb (dnB n (PS (rkC σ) S) R[l] i)) := fun i i0 i1 => mDone c d b.2.2.1 k2 lR i0 i1
        rw [zb_in2 a', if_neg (by omega), if_neg (by omega)]
        generalize dnB n (PS (rkC σ) S) R[k] = dk at uk mk
        generalize dnB n (PS (rkC σ) S) R[l] = dl at ul ml
        have WC : ∀ (f j : Nat), j ≤ S.length → S.length < f + j → mh_all (fun i => !dl i || dk i) j = true → fX4_isBefore_28_L2 σ k l (fun v9 => if (k : Int) = l then some 0 else some 1) f j = some (zb (decide ((k : Int) ≠ l) && mh_all (fun i => !dl i || dk i) S.length)) := by
          intro f
          induction f with
          | zero => intro j h1 h2; omega
          | succ f ih =>
            intro j h1 h2 ha
            rw [fX4_isBefore_28_L2, f1]
            rcases Nat.lt_or_ge j S.length with z | z
            · have ih' := ih (j + 1) (by omega) (by omega)
              rw [show ((j + 1 : Nat) : Int) = (j : Int) + 1 by omega] at ih'
              simp only [mh_all, ha, Bool.true_and] at ih'
              rw [if_pos (by omega), ul j (by omega) (by omega), Option.bind_some]
              cases e : dl j with
              | false =>
                rw [if_pos (by decide), if_pos (by omega)]
                exact ih' (by simp [e])
              | true =>
                rw [if_neg (by decide), uk j (by omega) (by omega), Option.bind_some]
                cases e' : dk j with
                | false =>
                  rw [if_pos (by decide), mh_all_mono (k := j + 1) (by omega) (by simp only [mh_all, e, e']; simp), Bool.and_false]; rfl
                | true =>
                  rw [if_neg (by decide), if_pos (by omega)]
                  exact ih' (by simp [e'])
            · have : j = S.length := by omega
              subst this
              rw [if_neg (by omega), ha, Bool.and_true]
              by_cases e : (k : Int) = l
              · rw [if_pos e, decide_eq_false (by omega)]; rfl
              · rw [if_neg e, decide_eq_true e]; rfl
        have WM : ∀ (u : Bool) (f j : Nat), j ≤ S.length → S.length < f + j → fX7_before_0_L37 k l (mup τ 0 0 0) (fun v16 v17 => if v16 = 0 then some (0, mup τ 0 0 0) else some (1, mup τ 0 0 0)) f (zb (u && mh_all (fun i => !dl i || dk i) j)) j = some (zb (u && mh_all (fun i => !dl i || dk i) S.length), mup τ 0 0 0) := by
          intro u f
          induction f with
          | zero => intro j h1 h2; omega
          | succ f ih =>
            intro j h1 h2
            rw [fX7_before_0_L37, e8]
            rcases Nat.lt_or_ge j S.length with z | z
            · have ih' := ih (j + 1) (by omega) (by omega)
              rw [show ((j + 1 : Nat) : Int) = (j : Int) + 1 by omega] at ih'
              simp only [mh_all] at ih'
              rw [← Bool.and_assoc] at ih'
              have rg : rng ((j : Int) + 1) := by omega
              simp only [if_pos rg]
              rw [if_pos (by omega), ← ih']
              generalize (u && mh_all (fun i => !dl i || dk i) j) = x
              cases x with
              | false => rw [if_pos (by decide)]; rfl
              | true =>
                rw [if_neg (by decide), ml j (by omega) (by omega), Option.bind_some]
                cases e : dl j with
                | false => rw [if_pos (by decide)]; rfl
                | true =>
                  rw [if_neg (by decide), mk j (by omega) (by omega), Option.bind_some]
                  cases e' : dk j with
                  | false => rw [if_pos (by decide)]; rfl
                  | true => rw [if_neg (by decide)]; rfl
            · have : j = S.length := by omega
              subst this
              rw [if_neg (by omega)]
              generalize (u && mh_all (fun i => !dl i || dk i) S.length) = x
              cases x
              · rw [if_pos (by decide)]; rfl
              · rw [if_neg (by decide)]; rfl
        have wc := WC FU 0 (by omega) (by unfold FU; omega) rfl
        have wm := fun u => WM u FU 0 (by omega) (by unfold FU; omega)
        simp only [show ∀ u : Bool, (u && mh_all (fun i => !dl i || dk i) 0) = u from fun u => by cases u <;> rfl] at wm
        rw [show ((0 : Nat) : Int) = 0 from rfl] at wc wm
        have bf : fX4_isBefore_28 σ k l = some (zb (decide ((k : Int) ≠ l) && mh_all (fun i => !dl i || dk i) S.length)) := wc
        have mb : (if (k : Int) = l then fX7_before_0_L37 k l (mup τ 0 0 0) (fun v16 v17 => if v16 = 0 then some (0, mup τ 0 0 0) else some (1, mup τ 0 0 0)) FU 0 0 else fX7_before_0_L37 k l (mup τ 0 0 0) (fun v31 v32 => if v31 = 0 then some (0, mup τ 0 0 0) else some (1, mup τ 0 0 0)) FU 1 0) = some (zb (decide ((k : Int) ≠ l) && mh_all (fun i => !dl i || dk i) S.length), mup τ 0 0 0) := by
          by_cases e : (k : Int) = l
          · rw [if_pos e, decide_eq_false (by omega)]; exact wm false
          · rw [if_neg e, decide_eq_true e]; exact wm true
        rw [mb, bf, Option.bind_some]
        generalize (decide ((k : Int) ≠ l) && mh_all (fun i => !dl i || dk i) S.length) = x
        refine ⟨zb x, _, ?_, rfl, h'⟩
        cases x
        · rw [if_pos (by decide)]; rfl
        · rw [if_neg (by decide)]; rfl
      · rw [zb_out2 a', if_pos rfl, if_pos rfl]
        exact ⟨_, _, rfl, rfl, h'⟩
    · rw [zb_out2 a, if_pos rfl, if_pos rfl]
      exact ⟨_, _, rfl, rfl, h'⟩
  · obtain ⟨a, b, c⟩ := cpN h w
    rw [(stX c x).2, Option.bind_some, if_pos rfl, b, zb_out2 (by omega), if_pos rfl]
    exact ⟨_, _, rfl, rfl, h'⟩
theorem tTakeC (h : cpI σ τ n m) {x : Int} (hx : 0 ≤ x ∧ x < σ 25 3) : ∃ σ' τ', fX5_copyTo_25_21 σ x = some (0, σ') ∧ fX7_take_0 τ x = some (0, τ') ∧ τ' 0 0 = 0 ∧ cpI σ' τ' n m := by
  obtain ⟨n1, n6, m1, m6⟩ := h.1.2.2.2.2.2.2.1
  by_cases w : τ 0 7 = 1
  · obtain ⟨S, R, b, c, d, e7, e8, e10, k1, k2, k3, f1, f2⟩ := cpW h w
    rw [f1] at hx
    obtain ⟨l1, l2, l3, l4, l5, l6, l7⟩ := ctM_fac c
    have s7 : fX7_isStable_0 τ x = some 1 := by
      rw [mIsStable w (by rw [← e8, mup_eq, mh_up_ne _ _ (by omega)]) k1, zb_in2 hx]
    have W : ∀ (f j : Nat) (τ1 : Mem), j ≤ n → n < f + j → (∀ q, q ≠ 4 → τ1 q = mup τ 0 0 0 q) → (∀ r : Int, 0 ≤ r → r < j → τ1 4 r = gS S x r) → ∃ τ2, fX7_take_0_L19 x (fun σ27 v26 => some (0, σ27)) f τ1 j = some (0, τ2) ∧ (∀ q, q ≠ 4 → τ2 q = mup τ 0 0 0 q) ∧ ∀ r : Int, 0 ≤ r → r < n → τ2 4 r = gS S x r := by
      intro f
      induction f with
      | zero => intro j τ1 h1 h2; omega
      | succ f ih =>
        intro j τ1 h1 h2 e1 e2
        have c1 : ctM τ1 n m (rkC σ) (hkC σ) (σ 10) (σ 19) (σ 20) S := ctM_same c (by rw [e1 0 (by omega)]) (by rw [e1 0 (by omega)]) (by rw [e1 0 (by omega)]) (fun q hq => e1 q (by omega))
        have z0 : τ1 0 0 = 0 := by rw [e1 0 (by omega), mup_eq, mh_up_eq]
        rw [fX7_take_0_L19, c1.1.1]
        rcases Nat.lt_or_ge j n with z | z
        · repeat rw [if_pos (by omega)]
          rw [nx_eq, if_pos (by omega), ctM_at c1 hx.1 hx.2 (by omega) (by omega)]
          have := ih (j + 1) (mup τ1 4 j (gS S x j)) (by omega) (by omega) (fun q hq => by rw [mup_ne _ _ _ hq]; exact e1 q hq) (fun r r0 r1 => by
            rw [mup_eq]
            by_cases e : r = j
            · rw [e, mh_up_eq]
            · rw [mh_up_ne _ _ e]; exact e2 r r0 (by omega))
          rw [show ((j + 1 : Nat) : Int) = (j : Int) + 1 by omega] at this
          exact this
        · have : j = n := by omega
          subst this
          rw [if_neg (by omega)]
          exact ⟨τ1, rfl, e1, e2⟩
    obtain ⟨τ2, t1, t2, t3⟩ := W FU 0 (mup τ 0 0 0) (by omega) (by unfold FU; omega) (fun _ _ => rfl) (fun r r0 r1 => by omega)
    rw [show ((0 : Nat) : Int) = 0 from rfl] at t1
    refine ⟨mcpy σ 26 22 (x * 6) 0 6, τ2, ?_, ?_, by rw [t2 0 (by omega), mup_eq, mh_up_eq], ?_⟩
    · unfold fX5_copyTo_25_21
      rw [if_pos (by omega), if_pos (by omega), nx_eq]
    · unfold fX7_take_0
      rw [s7, Option.bind_some, if_neg (by omega), nx_eq]
      exact t1
    · refine cpI_told h (fun k hk => by unfold mcpy; rw [if_neg hk]) (fun q p0 p4 => by rw [t2 q p4, mup_ne _ _ _ p0]) (fun j hj => by rw [t2 0 (by omega), mup_eq, mh_up_ne _ _ hj]) (fun r r0 r1 => ?_)
      have v : mcpy σ 26 22 (x * 6) 0 6 22 r = gS S x r := by
        unfold mcpy
        rw [if_pos rfl, if_pos (by omega), show (x * 6 + (r - 0)) = x * 6 + r by omega]
        exact (ctC_at b.1 hx.1 hx.2 r0 r1).1
      rw [t3 r r0 r1, v]
      exact ⟨rfl, l5 x r hx.1 hx.2 r0 r1⟩
  · obtain ⟨a, b, c⟩ := cpN h w
    omega
theorem tTakeX (h : cpI σ τ n m) {x : Int} (hx : ¬ (0 ≤ x ∧ x < σ 25 3)) : fX7_take_0 τ x = some (0, mup τ 0 0 1) := by
  obtain ⟨n1, n6, m1, m6⟩ := h.1.2.2.2.2.2.2.1
  have s : fX7_isStable_0 τ x = some 0 := by
    by_cases w : τ 0 7 = 1
    · obtain ⟨S, R, b, c, d, e7, e8, e10, k1, k2, k3, f1, f2⟩ := cpW h w
      rw [f1] at hx
      rw [mIsStable w (by rw [← e8, mup_eq, mh_up_ne _ _ (by omega)]) k1, zb_out2 hx]
    · obtain ⟨a, b, c⟩ := cpN h w
      rw [mup_eq, mh_up_ne _ _ (by omega)] at c
      exact (stX c x).1
  unfold fX7_take_0
  rw [s, Option.bind_some, if_pos rfl, nx_eq, show FU = (FU - 1) + 1 from rfl, fX7_take_0_L19]
  have z : mup τ 0 0 1 0 1 = n := by rw [mup_eq, mh_up_ne _ _ (by omega)]; exact h.2.1.1
  rw [z, if_pos (by omega), if_neg (by rw [mup_eq, mh_up_eq]; omega)]
/-- no two have the same done -/
theorem dnC_ne {S : List (Int → Int)} {R : List (Int × Int)} (b : wkC σ n m S R) {i j : Int} (i0 : 0 ≤ i) (i1 : i < S.length) (j0 : 0 ≤ j) (j1 : j < S.length) (ne : i ≠ j) : σ 32 i ≠ σ 32 j := by
  obtain ⟨l1, l2, l3, l4⟩ := ctC_lat b.1
  intro e
  rw [b.2.2.2.2 i i0 i1, b.2.2.2.2 j j0 j1] at e
  obtain ⟨A, B, A0, A1, B0, B1, st, al⟩ := mh_known l1 i0 i1 j0 j1 ne
  obtain ⟨t, t1, t2⟩ := b.2.2.2.1 A B A0 A1 B0 B1 st
  have o := b.2.2.1.1 t t1
  obtain ⟨k, kR, kt⟩ := List.mem_iff_getElem.mp t1
  have gd' : R.getD k (0, 0) = t := by rw [List.getD_eq_getElem?_getD, List.getElem?_eq_getElem kR, ← kt]; rfl
  have b1 := mskN_bit (fun k => dnB n (PS (rkC σ) S) (R.getD k (0, 0)) i) R.length k kR
  have b2 := mskN_bit (fun k => dnB n (PS (rkC σ) S) (R.getD k (0, 0)) j) R.length k kR
  have e' : mskN (fun k => dnB n (PS (rkC σ) S) (R.getD k (0, 0)) i) R.length = mskN (fun k => dnB n (PS (rkC σ) S) (R.getD k (0, 0)) j) R.length := by omega
  rw [e', b2, gd'] at b1
  have ro := key_rot l1 l2 l3 o.1 o.2.1 o.2.2.1 o.2.2.2.1 A0 A1 B0 B1 o.2.2.2.2 st l4 t2
  obtain ⟨f0, f1, f2, f3⟩ := (step_two l1 l2 o.1 o.2.1 o.2.2.1 o.2.2.2.1 o.2.2.2.2).1
  have r := ro _ f0 f1
  have ne' : PS (rkC σ) S t.1 (mh_f (mvB (PS (rkC σ) S) t.1 t.2) n) ≠ PS (rkC σ) S t.2 (mh_f (mvB (PS (rkC σ) S) t.1 t.2) n) := by omega
  have mv := al _ f0 f1 (r.1.mp ne')
  have eq2 := (r.2 ne').2
  unfold dnB at b1
  rw [eq2] at b1
  rcases mv with ⟨p, q⟩ | ⟨p, q⟩
  · rw [decide_eq_true p, decide_eq_false (by omega)] at b1
    simp at b1
  · rw [decide_eq_true p, decide_eq_false (by omega)] at b1
    simp at b1
theorem tCheck (h : cpI σ τ n m) : ∃ v σ' τ', fX6_check_0 σ = some (v, σ') ∧ fX7_check_0 τ = some (v, τ') ∧ cpI σ' τ' n m := by
  have h' := cpI_m0 h 0
  obtain ⟨n1, n6, m1, m6⟩ := h.1.2.2.2.2.2.2.1
  unfold fX6_check_0 fX7_check_0
  rw [uWorked, Option.bind_some, nx_eq]
  by_cases w : τ 0 7 = 1
  · obtain ⟨S, R, b, c, d, e7, e8, e10, k1, k2, k3, f1, f2⟩ := cpW h w
    rw [e7, if_neg (by omega : ¬ (1 : Int) = 0), f1, decide_eq_true (show 0 < (S.length : Int) by omega), if_neg (by decide)]
    have kn : ∀ (σ1 : Mem), σ1 25 3 = S.length → σ1 32 = σ 32 → ∀ x : Nat, x < S.length → fX4_isKnownByDone_28 σ1 x = some 1 := by
      intro σ1 s1 s2 x hx
      have W : ∀ (f j : Nat), j ≤ S.length → S.length < f + j → fX4_isKnownByDone_28_L2 σ1 x (fun v9 => some 1) f j = some 1 := by
        intro f
        induction f with
        | zero => intro j h1 h2; omega
        | succ f ih =>
          intro j h1 h2
          rw [fX4_isKnownByDone_28_L2, s1]
          rcases Nat.lt_or_ge j S.length with z | z
          · have ih' := ih (j + 1) (by omega) (by omega)
            rw [show ((j + 1 : Nat) : Int) = (j : Int) + 1 by omega] at ih'
            rw [if_pos (by omega)]
            by_cases e : (j : Int) = x
            · rw [if_pos e, if_pos (by omega)]; exact ih'
            · rw [if_neg e, if_pos (by omega), if_pos (by omega), s2, if_neg (dnC_ne b (by omega) (by omega) (by omega) (by omega) e), if_pos (by omega)]
              exact ih'
          · rw [if_neg (by omega)]
      unfold fX4_isKnownByDone_28
      exact W FU 0 (by omega) (by unfold FU; omega)
    have W : ∀ (f j : Nat) (σ1 : Mem), j ≤ S.length → S.length < f + j → (∀ q, q ≠ 24 → σ1 q = σ q) → ∃ σ2, fX6_check_0_L11 (fun σ13 v12 => some (1, σ13)) f σ1 j = some (1, σ2) ∧ ∀ q, q ≠ 24 → σ2 q = σ q := by
      intro f
      induction f with
      | zero => intro j σ1 h1 h2; omega
      | succ f ih =>
        intro j σ1 h1 h2 e1
        rw [fX6_check_0_L11, e1 25 (by omega), f1]
        rcases Nat.lt_or_ge j S.length with z | z
        · have cp' : fX5_copyTo_25_23 σ1 j = some (0, mcpy σ1 26 24 ((j : Int) * 6) 0 6) := by
            unfold fX5_copyTo_25_23
            rw [if_pos (by omega), if_pos (by omega), nx_eq]
          rw [if_pos (by omega), cp', bnd2_some]
          have k2 : ∀ q, q ≠ 24 → mcpy σ1 26 24 ((j : Int) * 6) 0 6 q = σ q := fun q hq => by
            unfold mcpy; rw [if_neg hq]; exact e1 q hq
          have v : ∀ r : Int, 0 ≤ r → r < n → mcpy σ1 26 24 ((j : Int) * 6) 0 6 24 r = gS S j r := fun r r0 r1 => by
            unfold mcpy
            rw [if_pos rfl, if_pos (by omega), e1 26 (by omega), show ((j : Int) * 6 + (r - 0)) = (j : Int) * 6 + r by omega]
            exact (ctC_at b.1 (by omega) (by omega) r0 r1).1
          generalize mcpy σ1 26 24 ((j : Int) * 6) 0 6 = σ2 at k2 v
          have r := rkC_same (σ := σ) (σ' := σ2) (fun q hq => k2 q (by omega))
          have q := hkC_same (σ := σ) (σ' := σ2) (fun q hq => k2 q (by omega))
          have vv := wkVal b (i := j) (by omega) (by omega)
          have st := ((b.1.2.1.1 _).mp (gS_mem (S := S) (i := j) (by omega) (by omega))).2
          have is : fX3_isStable_23 σ2 = some 1 := by
            rw [uIsStable (n := n) (m := m) (by rw [k2 1 (by omega)]; exact h.1.1) n6 (by rw [k2 1 (by omega)]; exact h.1.2.1) m6 (fun x x0 x1 => by rw [v x x0 x1]; have := (vv x x0 x1).2; omega), r, q, k2 20 (by omega), matB_congr v]
            have m1 : matB n (rkC σ) (hkC σ) (σ 20) (gS S j) = true := (matB_iff (m := m) (fun x x0 x1 => (vv x x0 x1).2) (fun g g0 g1 => by have := h.1.2.2.2.2.2.2.2.2.2 g g0 g1; omega)).mpr st.1
            have m2 : bpO (blkB n (rkC σ) (hkC σ) (σ 20) (σ2 24)) m 0 n 0 0 = -1 := bpO_none.mpr (fun x g x0 x1 g0 g1 => by
              rw [blkB_cg v x0 x1 g]
              by_cases B : blkB n (rkC σ) (hkC σ) (σ 20) (gS S j) x g = true
              · exact absurd (blkB_iff.mp B) (st.2 x g x0 x1 g0 g1)
              · simpa using B)
            rw [m1, decide_eq_true m2]; rfl
          rw [is, Option.bind_some, if_neg (by omega), kn σ2 (by rw [k2 25 (by omega)]; exact f1) (k2 32 (by omega)) j z, Option.bind_some, if_neg (by omega), if_pos (by omega)]
          have := ih (j + 1) σ2 (by omega) (by omega) k2
          rw [show ((j + 1 : Nat) : Int) = (j : Int) + 1 by omega] at this
          exact this
        · rw [if_neg (by omega)]
          exact ⟨σ1, rfl, e1⟩
    obtain ⟨σ2, s1, s2⟩ := W FU 0 σ (by omega) (by unfold FU; omega) (fun _ _ => rfl)
    rw [show ((0 : Nat) : Int) = 0 from rfl] at s1
    rw [s1]
    exact ⟨_, _, _, rfl, rfl, cpI_c h' s2⟩
  · obtain ⟨a, b, c⟩ := cpN h w
    rw [c, if_pos rfl, a, decide_eq_false (by omega), if_pos (by decide)]
    exact ⟨_, _, _, rfl, rfl, h'⟩
end RD2
