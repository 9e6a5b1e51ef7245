/-! PURE 14: the reference's work() -/
section MW2
variable {n m : Nat} {rk hk : Int → Int → Int} {sz sz' cp : Int → Int} {S : List (Int → Int)}
theorem mRow {τ0 : Mem} (h : ctM τ0 n m rk hk sz sz' cp S) {a : Nat} (a1 : a < S.length) : ∀ (f k : Nat) (τ : Mem) (Q : List (Int × Int)), a < k → k ≤ S.length → S.length < f + k → prM τ0 τ → rtM τ n (PS rk S) S Q → qOK n S.length (PS rk S) Q →
    ∃ τ' Q' v, (∀ ex : Mem → Int → Option (Int × Mem), fX7_work_0_L28 a ex f τ k = ex τ' v) ∧ prM τ0 τ' ∧ rtM τ' n (PS rk S) S Q' ∧ qOK n S.length (PS rk S) Q' ∧ (∀ t ∈ Q, t ∈ Q') ∧ ∀ B : Int, k ≤ B → B < S.length → mh_step n S.length (PS rk S) a B → ∃ t ∈ Q', keyS n (PS rk S) t.1 t.2 = keyS n (PS rk S) a B := by
  obtain ⟨l1, l2, l3, l4, l5, l6, l7⟩ := ctM_fac h
  intro f
  induction f with
  | zero => intro k τ Q h1 h2 h3; omega
  | succ f ih =>
    intro k τ Q h1 h2 h3 p T O
    have hc := prM_ct h p
    rcases Nat.lt_or_ge k S.length with c | c
    · obtain ⟨z, z1, z2⟩ := mStep hc (a := a) (b := k) (by omega) (by omega) (by omega) (by omega)
      cases z with
      | false =>
        obtain ⟨τ', Q', v, q1, q2, q3, q4, q5, q6⟩ := ih (k + 1) τ Q (by omega) (by omega) (by omega) p T O
        refine ⟨τ', Q', v, fun ex => ?_, q2, q3, q4, q5, fun B b0 b1 st => ?_⟩
        · rw [fX7_work_0_L28, hc.2.2.1, if_pos (by omega), z1, Option.bind_some, if_pos (by simp [zb]), if_pos (by omega)]
          have := q1 ex
          rw [show ((k + 1 : Nat) : Int) = (k : Int) + 1 by omega] at this
          exact this
        · by_cases e : B = k
          · rw [e] at st; have := z2.mpr st; cases this
          · exact q6 B (by omega) b1 st
      | true =>
        obtain ⟨τ1, Q1, r1, r2, r3, r4, r5, r6, r7⟩ := mRotate hc T O (a := a) (b := k) (by omega) (by omega) (by omega) (by omega) (z2.mp rfl)
        obtain ⟨τ', Q', v, q1, q2, q3, q4, q5, q6⟩ := ih (k + 1) τ1 Q1 (by omega) (by omega) (by omega) (prM_tr p ⟨r2, r3⟩) r4 r5
        refine ⟨τ', Q', v, fun ex => ?_, q2, q3, q4, fun t ht => q5 t (r6 t ht), fun B b0 b1 st => ?_⟩
        · rw [fX7_work_0_L28, hc.2.2.1, if_pos (by omega), z1, Option.bind_some, if_neg (by simp [zb]), r1, bnd2_some, if_pos (by omega)]
          have := q1 ex
          rw [show ((k + 1 : Nat) : Int) = (k : Int) + 1 by omega] at this
          exact this
        · by_cases e : B = k
          · obtain ⟨t, t1, t2⟩ := r7
            rw [e]; exact ⟨t, q5 t t1, t2⟩
          · exact q6 B (by omega) b1 st
    · refine ⟨τ, Q, k, fun ex => ?_, p, T, O, fun t ht => ht, fun B b0 b1 => by omega⟩
      rw [fX7_work_0_L28, hc.2.2.1, if_neg (by omega)]
theorem mRows {τ0 : Mem} (h : ctM τ0 n m rk hk sz sz' cp S) (ex : Mem → Int → Option (Int × Mem)) : ∀ (f k : Nat) (τ : Mem) (Q : List (Int × Int)), k ≤ S.length → S.length < f + k → prM τ0 τ → rtM τ n (PS rk S) S Q → qOK n S.length (PS rk S) Q → (∀ A B : Int, 0 ≤ A → A < k → A < B → B < S.length → mh_step n S.length (PS rk S) A B → ∃ t ∈ Q, keyS n (PS rk S) t.1 t.2 = keyS n (PS rk S) A B) →
    ∃ τ' Q' v, fX7_work_0_L16 ex f τ k = ex τ' v ∧ prM τ0 τ' ∧ rtM τ' n (PS rk S) S Q' ∧ qOK n S.length (PS rk S) Q' ∧ ∀ A B : Int, 0 ≤ A → A < S.length → A < B → B < S.length → mh_step n S.length (PS rk S) A B → ∃ t ∈ Q', keyS n (PS rk S) t.1 t.2 = keyS n (PS rk S) A B := by
  obtain ⟨l1, l2, l3, l4, l5, l6, l7⟩ := ctM_fac h
  intro f
  induction f with
  | zero => intro k τ Q h1 h2; omega
  | succ f ih =>
    intro k τ Q h1 h2 p T O C
    have hc := prM_ct h p
    rw [fX7_work_0_L16, hc.2.2.1]
    rcases Nat.lt_or_ge k S.length with c | c
    · obtain ⟨τ1, Q1, v, q1, q2, q3, q4, q5, q6⟩ := mRow h c FU (k + 1) τ Q (by omega) (by omega) (by unfold FU; omega) p T O
      rw [show ((k + 1 : Nat) : Int) = (k : Int) + 1 by omega] at q1
      rw [if_pos (by omega), if_pos (by omega), q1, if_pos (by omega)]
      have := ih (k + 1) τ1 Q1 (by omega) (by omega) q2 q3 q4 (fun A B A0 A1 AB B1 st => by
        by_cases e : A = k
        · rw [e] at st ⊢
          exact q6 B (by omega) B1 st
        · obtain ⟨t, t1, t2⟩ := C A B A0 (by omega) AB B1 st
          exact ⟨t, q5 t t1, t2⟩)
      rw [show ((k + 1 : Nat) : Int) = (k : Int) + 1 by omega] at this
      exact this
    · rw [if_neg (by omega)]
      exact ⟨τ, Q, k, rfl, p, T, O, fun A B A0 A1 AB B1 st => C A B A0 (by omega) AB B1 st⟩
/-- rows in the order of keys are what any list in the order of keys says -/
theorem srM_rt {τ : Mem} (h : ctM τ n m rk hk sz sz' cp S) {N : Nat} {c : Nat → Int × Int} (sr : srM τ n (PS rk S) S N c) (bg : bagM n S.length (PS rk S) N c) (so : ∀ x y : Nat, x < y → y < N → kcM n (PS rk S) c x < kcM n (PS rk S) c y) {R : List (Int × Int)} (O : rOK n S.length (PS rk S) R) (A : rAll n S.length (PS rk S) R) : rtM τ n (PS rk S) S R := by
  obtain ⟨l1, l2, l3, l4, l5, l6, l7⟩ := ctM_fac h
  have eq : (List.range N).map (kcM n (PS rk S) c) = R.map (fun t => keyS n (PS rk S) t.1 t.2) := by
    refine mh_sorted_eq (R := fun a b : Int => a < b) (fun x y a b => by omega) _ _ ?_ ?_ (fun x => ?_)
    · rw [List.pairwise_map]
      refine List.Pairwise.imp_of_mem (R := fun a b : Nat => a < b) ?_ List.pairwise_lt_range
      intro i j hi hj ij
      rw [List.mem_range] at hi hj
      exact so i j ij hj
    · rw [List.pairwise_map]; exact O.2
    · rw [List.mem_map, List.mem_map]
      constructor
      · rintro ⟨i, hi, e⟩
        rw [List.mem_range] at hi
        have b := bg.1 i hi
        obtain ⟨t, t1, t2⟩ := A _ _ b.1 b.2.1 b.2.2.1 b.2.2.2.1 b.2.2.2.2
        exact ⟨t, t1, by rw [t2]; exact e⟩
      · rintro ⟨t, ht, e⟩
        have o := O.1 t ht
        obtain ⟨i, hi, e'⟩ := bg.2.2 _ _ o.1 o.2.1 o.2.2.1 o.2.2.2.1 o.2.2.2.2
        exact ⟨i, List.mem_range.mpr hi, by rw [e']; exact e⟩
  have len : N = R.length := by
    have := congrArg List.length eq
    simpa using this
  subst len
  refine ⟨sr.1, fun i t ht => ?_⟩
  have iR : i < R.length := by
    rcases Nat.lt_or_ge i R.length with z | z
    · exact z
    · rw [List.getElem?_eq_none z] at ht; cases ht
  have ki : kcM n (PS rk S) c i = keyS n (PS rk S) t.1 t.2 := by
    have e1 : ((List.range R.length).map (kcM n (PS rk S) c))[i]? = some (kcM n (PS rk S) c i) := by
      rw [List.getElem?_map, List.getElem?_range iR]; rfl
    have e2 : (R.map (fun t => keyS n (PS rk S) t.1 t.2))[i]? = some (keyS n (PS rk S) t.1 t.2) := by
      rw [List.getElem?_map, ht]; rfl
    rw [eq, e2] at e1
    exact (Option.some.inj e1).symm
  have b := bg.1 i iR
  have o := O.1 t (List.mem_of_getElem? ht)
  refine roM_rot (sr.2 i iR) (key_rot l1 l2 l3 b.1 b.2.1 b.2.2.1 b.2.2.2.1 o.1 o.2.1 o.2.2.1 o.2.2.2.1 b.2.2.2.2 o.2.2.2.2 l4 ki) (fun r r0 r1 => ⟨fun z => (l6 _ _ r b.1 b.2.1 o.1 o.2.1 r0 r1).1.mp z, fun z => (l6 _ _ r b.2.2.1 b.2.2.2.1 o.2.2.1 o.2.2.2.1 r0 r1).1.mp z⟩)
theorem mWork {τ : Mem} (I : liM τ n m rk hk sz sz' cp) : ∃ τ' S, fX7_work_0 τ = some ((S.length : Int), τ') ∧ (∀ c, c = 1 ∨ c = 2 ∨ c = 3 ∨ c = 4 → τ' c = τ c) ∧ τ' 0 0 = 0 ∧ τ' 0 1 = τ 0 1 ∧ τ' 0 2 = τ 0 2 ∧ τ' 0 7 = 1 ∧ ctM τ' n m rk hk sz sz' cp S ∧ ∀ R : List (Int × Int), rOK n S.length (PS rk S) R → rAll n S.length (PS rk S) R → rtM τ' n (PS rk S) S R := by
  have I0 : liM (mup τ 0 0 0) n m rk hk sz sz' cp := liM_same I (by rw [mup_eq, mh_up_ne _ _ (by omega)]) (by rw [mup_eq, mh_up_ne _ _ (by omega)]) (fun k hk => mup_ne _ _ _ (by omega))
  obtain ⟨τ1, a1, a2, a3, S, a4, a5⟩ := mFindAll I0
  have c1 : ctM τ1 n m rk hk sz sz' cp S := ⟨liM_same I0 (a3 1 (by omega)) (a3 2 (by omega)) (fun k hk => a2 k (by omega) (by omega) (by omega) (by omega)), a4, a5⟩
  obtain ⟨l1, l2, l3, l4, l5, l6, l7⟩ := ctM_fac c1
  have n6 : n ≤ 6 := I.2.2.1.2.1
  have c2 : ctM (mup τ1 0 10 0) n m rk hk sz sz' cp S := ctM_same c1 (by rw [mup_eq, mh_up_ne _ _ (by omega)]) (by rw [mup_eq, mh_up_ne _ _ (by omega)]) (by rw [mup_eq, mh_up_ne _ _ (by omega)]) (fun k hk => mup_ne _ _ _ (by omega))
  unfold fX7_work_0
  rw [nx_eq, a1, bnd2_some, nx_eq]
  have p2 : ∀ j : Int, j ≠ 10 → mup τ1 0 10 0 0 j = τ1 0 j := fun j hj => by rw [mup_eq, mh_up_ne _ _ hj]
  have p2' : ∀ k, k ≠ 0 → mup τ1 0 10 0 k = τ1 k := fun k hk => mup_ne _ _ _ hk
  have q2 : mup τ1 0 10 0 0 10 = 0 := by rw [mup_eq, mh_up_eq]
  generalize mup τ1 0 10 0 = τ2 at c2 p2 p2' q2
  obtain ⟨τ3, Q, v, b1, b2, b3, b4, b5⟩ := mRows c2 (fun σ22 v21 => fX7_work_0_L65 (fun σ40 v39 => nx (mup σ40 0 7 1) fun σ41 => some ((σ41 0 8), σ41)) FU σ22 1) FU 0 τ2 [] (by omega) (by unfold FU; omega) (prM_rf _) ⟨by rw [q2]; rfl, fun i t ht => by simp at ht⟩ ⟨fun t ht => by simp at ht, List.Pairwise.nil⟩ (fun A B A0 A1 => by omega)
  rw [show ((0 : Nat) : Int) = 0 from rfl] at b1
  rw [b1]
  have N15 : Q.length ≤ 15 := rot15 l1 l2 n6 l3 l4 Q b4.1 b4.2
  obtain ⟨cQ, gq⟩ : ∃ c : Nat → Int × Int, ∀ i : Nat, ∀ hi : i < Q.length, c i = Q[i] := ⟨fun i => Q.getD i (0, 0), fun i hi => by show Q.getD i (0, 0) = Q[i]; rw [List.getD_eq_getElem?_getD, List.getElem?_eq_getElem hi]; rfl⟩
  have sr : srM τ3 n (PS rk S) S Q.length cQ := ⟨b3.1, fun i hi => by rw [gq i hi]; exact b3.2 i _ (List.getElem?_eq_getElem hi)⟩
  have bg : bagM n S.length (PS rk S) Q.length cQ := by
    refine ⟨fun i hi => by rw [gq i hi]; exact b4.1 _ (List.getElem_mem hi), fun i j hi hj ne => ?_, fun A B A0 A1 B0 B1 st => ?_⟩
    · unfold kcM
      rw [gq i hi, gq j hj]
      have pw := List.pairwise_iff_getElem.mp b4.2
      rcases Nat.lt_or_ge i j with z | z
      · exact pw i j hi hj z
      · exact fun w => pw j i hj hi (by omega) w.symm
    · have ab := mh_le_ix l1 A0 A1 B0 B1 st.1.1
      have ne := st.1.2
      obtain ⟨t, t1, t2⟩ := b5 A B A0 A1 (by omega) B1 st
      obtain ⟨i, hi, e⟩ := List.mem_iff_getElem.mp t1
      exact ⟨i, hi, by unfold kcM; rw [gq i hi, e]; exact t2⟩
  obtain ⟨τ4, c, v, d1, d2, d3, d4, d5⟩ := mSort c2 (N := Q.length) (by omega) (fun σ40 v39 => nx (mup σ40 0 7 1) fun σ41 => some ((σ41 0 8), σ41)) FU 1 τ3 _ (by unfold FU; omega) (by unfold FU; omega) b2 sr bg (fun x y a b => by omega)
  rw [show ((1 : Nat) : Int) = 1 from rfl] at d1
  rw [d1, nx_eq]
  have c4 := prM_ct c2 d2
  have c5 : ctM (mup τ4 0 7 1) n m rk hk sz sz' cp S := ctM_same c4 (by rw [mup_eq, mh_up_ne _ _ (by omega)]) (by rw [mup_eq, mh_up_ne _ _ (by omega)]) (by rw [mup_eq, mh_up_ne _ _ (by omega)]) (fun k hk => mup_ne _ _ _ (by omega))
  have sr5 : srM (mup τ4 0 7 1) n (PS rk S) S Q.length c := ⟨by rw [mup_eq, mh_up_ne _ _ (by omega)]; exact d3.1, fun i hi => by
    have := d3.2 i hi
    unfold roM at this ⊢
    rw [mup_ne _ _ _ (by omega), mup_ne _ _ _ (by omega), mup_ne _ _ _ (by omega), mup_ne _ _ _ (by omega)]
    exact this⟩
  have z0 : ∀ j : Int, j ≠ 7 → j ≠ 8 → j ≠ 10 → mup τ4 0 7 1 0 j = mup τ 0 0 0 0 j := fun j j7 j8 j10 => by rw [mup_eq, mh_up_ne _ _ j7, d2.2 j j10, p2 j j10, a3 j j8]
  refine ⟨mup τ4 0 7 1, S, by rw [c5.2.2.1], fun c hc => ?_, ?_, ?_, ?_, ?_, c5, fun R O A => srM_rt c5 sr5 d4 d5 O A⟩
  · rw [mup_ne _ _ _ (by omega), d2.1 c (by omega) (by omega) (by omega) (by omega) (by omega), p2' c (by omega), a2 c (by omega) (by omega) (by omega) (by omega), mup_ne _ _ _ (by omega)]
  · rw [z0 0 (by omega) (by omega) (by omega), mup_eq, mh_up_eq]
  · rw [z0 1 (by omega) (by omega) (by omega), mup_eq, mh_up_ne _ _ (by omega)]
  · rw [z0 2 (by omega) (by omega) (by omega), mup_eq, mh_up_ne _ _ (by omega)]
  · rw [mup_eq, mh_up_eq]
end MW2
