/-! PURE 6: the class finds all stable matchings, in order -/
theorem opC_mem {m : Nat} {rk : Int → Int → Int} {sz best : Int → Int} {r x : Int} (hb : best r ≠ -1) : x ∈ opC m rk sz best r ↔ ∃ p : Int, best r ≤ p ∧ p < sz r ∧ x = atF m rk r p := by
  unfold opC
  rw [if_neg hb, List.mem_map]
  constructor
  · rintro ⟨j, hj, e⟩
    rw [List.mem_range] at hj
    exact ⟨best r + j, by omega, by omega, e.symm⟩
  · rintro ⟨p, p0, p1, e⟩
    refine ⟨(p - best r).toNat, List.mem_range.mpr (by omega), ?_⟩
    rw [e, show best r + (((p - best r).toNat : Nat) : Int) = p by omega]
theorem opC_sorted {n m : Nat} {rk : Int → Int → Int} {sz best : Int → Int} (L : lsI rk sz n m) (hb : ∀ r : Int, 0 ≤ r → r < n → best r = -1 ∨ 0 ≤ best r) (r : Int) (r0 : 0 ≤ r) (r1 : r < n) : List.Pairwise (bef rk r) (opC m rk sz best r) := by
  unfold opC
  by_cases e : best r = -1
  · rw [if_pos e]; exact List.pairwise_singleton _ _
  · rw [if_neg e, List.pairwise_map]
    have b := (hb r r0 r1).resolve_left e
    refine List.Pairwise.imp_of_mem (R := fun a b : Nat => a < b) ?_ List.pairwise_lt_range
    intro i j hi hj hij
    rw [List.mem_range] at hi hj
    have a := atF_ok L r0 r1 (p := best r + i) (by omega) (by omega)
    have c := atF_ok L r0 r1 (p := best r + j) (by omega) (by omega)
    refine ⟨by omega, Or.inr ?_⟩
    rw [a.2.2, c.2.2]; omega
theorem mh_rs_lt (x f : Int → Int) {q i : Int} (h : i < q) : mh_rs x f q i = x i := by simp only [mh_rs]; rw [if_pos h]
theorem enC_ok {n m : Nat} {rk hk : Int → Int → Int} {cp sz sz' g0 : Int → Int} (L : lsI rk sz n m) (L' : lsI hk sz' m n) (hg : mh_stb n m rk hk cp g0) (opt : ∀ g : Int → Int, mh_stb n m rk hk cp g → ∀ r : Int, 0 ≤ r → r < n → g0 r ≠ -1 → g r ≠ -1 → rk r (g0 r) ≤ rk r (g r)) :
    sOK n m rk hk cp (enC n m rk hk cp sz (psF rk g0) (mh_at n g0) n 0 (fun _ => -1)) := by
  have hi := lsI_inj L L'
  have bst : ∀ r : Int, 0 ≤ r → r < n → (psF rk g0 r = -1 ↔ g0 r = -1) ∧ (g0 r ≠ -1 → psF rk g0 r = rk r (g0 r) ∧ 0 ≤ rk r (g0 r)) := fun r r0 r1 => by
    by_cases e : g0 r = -1
    · unfold psF; rw [if_pos e]; exact ⟨⟨fun _ => e, fun _ => rfl⟩, fun z => absurd e z⟩
    · have a := (hg.1.1 r r0 r1).resolve_left e
      have b := (L r r0 r1).2.1 _ a.1 a.2.1
      have c := a.2.2.1
      unfold psF; rw [if_neg e]
      exact ⟨⟨fun z => absurd z c, fun z => absurd z e⟩, fun _ => ⟨rfl, by omega⟩⟩
  refine ⟨fun x => ?_, mh_en_sorted (opC_sorted L (fun r r0 r1 => ?_)) n 0 _ (by omega) (by omega)⟩
  · unfold enC
    rw [mh_en_mem]
    constructor
    · rintro ⟨h1, h2, h3⟩
      have out : ∀ q : Int, (q < 0 ∨ n ≤ q) → x q = -1 := fun q hq => h1 q (by omega)
      -- each has a pair, or none
      have val : ∀ r : Int, 0 ≤ r → r < n → x r = -1 ∨ (0 ≤ x r ∧ x r < m ∧ mh_pr rk hk r (x r) ∧ mh_at n g0 (x r) - mh_c (fun q => decide (x q = x r)) r.toNat ≠ 0) := fun r r0 r1 => by
        obtain ⟨a, b⟩ := h2 r r0 (by omega)
        by_cases e : psF rk g0 r = -1
        · left
          unfold opC at a
          rw [if_pos e, List.mem_singleton] at a
          exact a
        · right
          obtain ⟨p, p0, p1, ep⟩ := (opC_mem e).mp a
          have g := (bst r r0 r1)
          have ge : g0 r ≠ -1 := fun z => e (g.1.mpr z)
          have c := atF_ok L r0 r1 (p := p) (by have := g.2 ge; omega) p1
          unfold okC at b
          simp only [e, decide_false, Bool.false_or, Bool.and_eq_true, Bool.not_eq_true', decide_eq_false_iff_not] at b
          refine ⟨by omega, by omega, pB_iff.mp b.2.1, ?_⟩
          have cc : mh_c (fun q => decide (mh_rs x (fun _ => -1) r q = x r)) r.toNat = mh_c (fun q => decide (x q = x r)) r.toNat := mh_c_congr (fun q q0 q1 => by rw [mh_rs_lt _ _ (by omega)])
          rw [← cc]
          exact b.1
      have cnt : ∀ (h : Int), 0 ≤ h → ∀ k : Nat, k ≤ n → mh_c (fun q => decide (x q = h)) k ≤ mh_at n g0 h := fun h h0 k => by
        induction k with
        | zero => intro _; exact mh_c_0 _ _
        | succ k ih =>
          intro hk
          have i1 := ih (by omega)
          rw [mh_c_succ]
          by_cases e : x k = h
          · rcases val k (by omega) (by omega) with v | ⟨-, -, -, v⟩
            · omega
            · rw [e, show ((k : Int)).toNat = k by omega] at v
              simp only [e, decide_true, if_true]; omega
          · simp only [e, decide_false, Bool.false_eq_true, if_false]; omega
      refine ⟨out, ⟨fun r r0 r1 => ?_, fun h h0 h1 => ?_⟩, fun r h r0 r1 h0 h1 B => ?_⟩
      · rcases val r r0 r1 with v | ⟨v1, v2, v3, -⟩
        · exact Or.inl v
        · exact Or.inr ⟨v1, v2, v3⟩
      · exact Int.le_trans (cnt h h0 n (Nat.le_refl _)) (hg.1.2 h h0 h1)
      · unfold lfC at h3
        rw [decide_eq_true_eq, bpO_none] at h3
        have := h3 r h r0 r1 h0 h1
        rw [blkB_iff.mpr B] at this
        cases this
    · rintro ⟨out, st⟩
      refine ⟨fun q hq => out q (by omega), fun r r0 r1 => ?_, ?_⟩
      · have r1' : r < n := by omega
        have sm := mh_same hi hg st r0 r1'
        have g := bst r r0 r1'
        have tn : ((r.toNat : Nat) : Int) = r := by omega
        by_cases e : psF rk g0 r = -1
        · have xr := sm.mp (g.1.mp e)
          refine ⟨?_, ?_⟩
          · unfold opC; rw [if_pos e, xr]; exact List.mem_singleton.mpr rfl
          · unfold okC; simp only [e, decide_true, Bool.true_or]
        · have ge : g0 r ≠ -1 := fun z => e (g.1.mpr z)
          have xr : x r ≠ -1 := fun z => ge (sm.mpr z)
          have a := (st.1.1 r r0 r1').resolve_left xr
          have b := (L r r0 r1').2.1 _ a.1 a.2.1
          have c := a.2.2.1
          have o := opt x st r r0 r1' ge xr
          refine ⟨(opC_mem e).mpr ⟨rk r (x r), by have := g.2 ge; omega, by omega, (atF_rk L r0 r1' a.1 a.2.1 c).symm⟩, ?_⟩
          unfold okC
          simp only [e, decide_false, Bool.false_or, Bool.and_eq_true, Bool.not_eq_true', decide_eq_false_iff_not]
          have cc : mh_c (fun q => decide (mh_rs x (fun _ => -1) r q = x r)) r.toNat = mh_c (fun q => decide (x q = x r)) r.toNat := mh_c_congr (fun q q0 q1 => by rw [mh_rs_lt _ _ (by omega)])
          refine ⟨?_, pB_iff.mpr a.2.2, ?_⟩
          · rw [cc]
            have ru := mh_rural hi hg st a.1 a.2.1
            have s1 : mh_c (fun q => decide (x q = x r)) (r.toNat + 1) = mh_c (fun q => decide (x q = x r)) r.toNat + 1 := by rw [mh_c_succ, tn]; simp
            have s2 : ∀ k : Nat, r.toNat + 1 ≤ k → mh_c (fun q => decide (x q = x r)) (r.toNat + 1) ≤ mh_c (fun q => decide (x q = x r)) k := fun k hk => by
              induction k with
              | zero => omega
              | succ k ih =>
                by_cases z : r.toNat + 1 = k + 1
                · rw [z]; exact Int.le_refl _
                · have := ih (by omega)
                  rw [mh_c_succ _ k]
                  split <;> omega
            have s3 := s2 n (by omega)
            have s4 : mh_at n x (x r) = mh_c (fun q => decide (x q = x r)) n := rfl
            omega
          · rw [mh_all_iff]
            intro q q0 q1
            have u : ∀ i : Int, i ≤ r → mh_up (mh_rs x (fun _ => -1) r) r (x r) i = x i := fun i hi' => by
              by_cases z : i = r
              · rw [z, mh_up_eq]
              · rw [mh_up_ne _ _ z, mh_rs_lt _ _ (by omega)]
            rw [rivB_congr (g := x) (u r (by omega)) (u q (by omega)), rivB_congr (g := x) (u q (by omega)) (u r (by omega))]
            -- rivals would block
            have nr : ∀ a b : Int, 0 ≤ a → a < n → 0 ≤ b → b < n → rivB rk hk x a b = false := fun a b a0 a1 b0 b1 => by
              cases z : rivB rk hk x a b with
              | false => rfl
              | true =>
                unfold rivB goB at z
                simp only [Bool.and_eq_true, Bool.not_eq_true', decide_eq_false_iff_not, Bool.or_eq_true, decide_eq_true_eq] at z
                obtain ⟨z1, z2, z3, z4⟩ := z
                have w := (st.1.1 b b0 b1).resolve_left z1
                exact absurd ⟨pB_iff.mp z2, z3, Or.inr ⟨b, b0, b1, rfl, z4⟩⟩ (st.2 a (x b) a0 a1 w.1 w.2.1)
            rw [nr r q r0 r1' q0 (by omega), nr q r q0 (by omega) r0 r1']
            rfl
      · unfold lfC
        rw [decide_eq_true_eq, bpO_none]
        intro r h r0 r1 h0 h1
        cases z : blkB n rk hk cp x r h with
        | false => rfl
        | true => exact absurd (blkB_iff.mp z) (st.2 r h r0 r1 h0 h1)
  · have := bst r r0 r1
    by_cases z : g0 r = -1
    · exact Or.inl (this.1.mpr z)
    · have := this.2 z; right; omega
/-- THE CLASS: findAll puts down all stable matchings, in order -/
theorem uFindAll {σ : Mem} {n m : Nat} (I : inC σ n m) (h0 : σ 25 3 = 0) : ∃ σ' S, fX0_findAll_33 σ = some (0, σ') ∧ (∀ k, k ≠ 24 → k ≠ 25 → k ≠ 26 → k ≠ 27 → k ≠ 34 → k ≠ 35 → k ≠ 36 → σ' k = σ k) ∧ sOK n m (rkC σ) (hkC σ) (σ 20) S ∧ stC σ' n (rkC σ) S ∧ 0 < S.length := by
  have I' := I
  obtain ⟨i1, i2, i3, i4, i5, i6, ⟨n1, n6, m1, m6⟩, LR, LH, cp⟩ := I'
  obtain ⟨σ1, a1, a2, a3⟩ := uClear_23 σ
  have I1 : inC σ1 n m := inC_same I (fun k hk => a2 k (by omega))
  obtain ⟨σ2, b1, b2, b3, b4⟩ := uLetAll I1 (fun r r0 r1 => by rw [a3 r, if_pos (by omega)])
  have rk1 : rkC σ1 = rkC σ := rkC_same (fun k hk => a2 k (by omega))
  have hk1 : hkC σ1 = hkC σ := hkC_same (fun k hk => a2 k (by omega))
  rw [rk1, hk1, a2 20 (by omega)] at b3
  have k12 : ∀ k, k ≠ 24 → k ≠ 34 → σ2 k = σ k := fun k x y => by rw [b2 k x y, a2 k x]
  have I2 : inC σ2 n m := inC_same I (fun k hk => k12 k (by omega) (by omega))
  have rk2 : rkC σ2 = rkC σ := rkC_same (fun k hk => k12 k (by omega) (by omega))
  have hk2 : hkC σ2 = hkC σ := hkC_same (fun k hk => k12 k (by omega) (by omega))
  obtain ⟨st, opt⟩ := mh_G_end b3 (fun r h r0 r1 h0 h1 fr hne => by
    have x1 := b4 r r0 r1 fr
    rw [a2 10 (by omega)] at x1
    have x2 := (LR r r0 r1).2.1 h h0 h1
    omega)
  have vals : ∀ r : Int, 0 ≤ r → r < n → σ2 24 r = -1 ∨ (0 ≤ σ2 24 r ∧ σ2 24 r < 6) := fun r r0 r1 => by
    rcases st.1.1 r r0 r1 with z | ⟨z1, z2, -⟩
    · exact Or.inl z
    · right; omega
  obtain ⟨σ3, c1, c2, c3, c4⟩ := uNote I2 vals
  rw [rk2] at c3
  have k13 : ∀ k, k ≠ 24 → k ≠ 34 → k ≠ 35 → k ≠ 36 → σ3 k = σ k := fun k x y z w => by rw [c2 k z w, k12 k x y]
  have I3 : inC σ3 n m := inC_same I (fun k hk => k13 k (by omega) (by omega) (by omega) (by omega))
  have rk3 : rkC σ3 = rkC σ := rkC_same (fun k hk => k13 k (by omega) (by omega) (by omega) (by omega))
  have hk3 : hkC σ3 = hkC σ := hkC_same (fun k hk => k13 k (by omega) (by omega) (by omega) (by omega))
  have s24 : σ3 24 = σ2 24 := c2 24 (by omega) (by omega)
  have ok := enC_ok (cp := σ 20) LR LH st opt
  have len := sOK_216 LR (lsI_inj LR LH) ok n6 m6
  have cst0 : (fun q : Int => if 0 ≤ q ∧ q < n then σ2 24 q else -1) ∈ enC n m (rkC σ) (hkC σ) (σ 20) (σ 10) (psF (rkC σ) (σ2 24)) (mh_at n (σ2 24)) n 0 (fun _ => -1) := by
    rw [ok.1]
    have e : ∀ q : Int, 0 ≤ q → q < n → (fun q : Int => if 0 ≤ q ∧ q < n then σ2 24 q else -1) q = σ2 24 q := fun q q0 q1 => if_pos ⟨q0, q1⟩
    refine ⟨fun q hq => if_neg (by omega), ⟨fun r r0 r1 => ?_, fun h h0 h1 => ?_⟩, fun r h r0 r1 h0 h1 B => ?_⟩
    · rw [e r r0 r1]; exact st.1.1 r r0 r1
    · rw [mh_at_congr (g := σ2 24) (fun q q0 q1 => by rw [if_pos ⟨q0, q1⟩])]; exact st.1.2 h h0 h1
    · have := blkB_iff.mpr B
      rw [blkB_congr (g := σ2 24) e r0 r1] at this
      exact st.2 r h r0 r1 h0 h1 (blkB_iff.mp this)
  obtain ⟨σ4, d1, d2, d3⟩ := uSeat (σ0 := σ3) (best := psF (rkC σ) (σ2 24)) (cnt := mh_at n (σ2 24)) I3 (fun h h0 h1 => by
      have := mh_c_0 (fun r => decide (σ2 24 r = h)) n
      have := mh_c_le (fun r => decide (σ2 24 r = h)) n
      have e : mh_at n (σ2 24) h = mh_c (fun r => decide (σ2 24 r = h)) n := rfl
      omega) (fun r r0 r1 => by
      refine ⟨c3 r r0 r1, ?_⟩
      unfold psF
      by_cases z : σ2 24 r = -1
      · rw [if_pos z]; exact Or.inl rfl
      · rw [if_neg z]
        right
        have w := (st.1.1 r r0 r1).resolve_left z
        have y := (LR r r0 r1).2.1 _ w.1 w.2.1
        have v := w.2.2.1
        rw [k13 10 (by omega) (by omega) (by omega) (by omega)]
        omega) n 8 0 σ3 (fun _ => -1) [] (by omega) (by omega) ⟨fun _ _ _ _ _ _ => rfl, fun q q0 q1 => by omega, fun q q0 q1 b => by
        rw [s24]
        unfold psF at b
        by_cases z : σ2 24 q = -1
        · exact z
        · rw [if_neg z] at b
          have w := (st.1.1 q q0 q1).resolve_left z
          exact absurd b w.2.2.1, fun h h0 h1 => by rw [c4 h h0 h1]; show _ = _ - (0 : Int); omega⟩ (fun q q0 q1 => by omega) ⟨by rw [k13 25 (by omega) (by omega) (by omega) (by omega)]; exact h0, fun i x hx => by simp at hx⟩ (by
        rw [rk3, hk3, k13 20 (by omega) (by omega) (by omega) (by omega), k13 10 (by omega) (by omega) (by omega) (by omega)]
        rw [show ((0 : Nat) : Int) = 0 from rfl]
        simpa using len)
  rw [rk3, hk3, k13 20 (by omega) (by omega) (by omega) (by omega), k13 10 (by omega) (by omega) (by omega) (by omega), show ((0 : Nat) : Int) = 0 from rfl, List.nil_append] at d3
  refine ⟨σ4, _, ?_, fun k x1 x2 x3 x4 x5 x6 x7 => ?_, ok, d3, List.length_pos_of_mem cst0⟩
  · unfold fX0_findAll_33
    rw [a1, bnd2_some, b1, bnd2_some, c1, bnd2_some]
    rw [show ((0 : Nat) : Int) = 0 from rfl] at d1
    rw [d1, bnd2_some]
  · rw [d2.1 k x1 x2 x3 x4 x7, k13 k x1 x5 x6 x7]
