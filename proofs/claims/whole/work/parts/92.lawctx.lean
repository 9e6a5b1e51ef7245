/-! THE LAW'S CONTEXT: what stands through the loop (lwC), what each turn keeps (lwI), the script's numbers, the four calls that may throw -/
abbrev A0 (s : State) : Nat → Prop := fun q => s.heap.size ≤ q
def lwC (dC : Nat → ClassId) (dI : Nat → Nat → Nat) (cI cA : ClassId) (a d : Nat → Nat) (s : State) : Prop :=
  apD (A0 s) 37 a ∧ apD (A0 s) 12 d ∧ (∀ i j, i < 37 → j < 12 → a i ≠ d j) ∧ va_K (dC, dI) vwCl (tyL cI cA) s ∧ NW s ∧ XW s ∧ zqU (A0 s) s s.heap ∧ zqS (A0 s) s s.heap
def lwI (dC : Nat → ClassId) (dI : Nat → Nat → Nat) (cI cA : ClassId) (a d : Nat → Nat) (s : State) (H : Heap) (locs : List Loc) (σ τ : Mem) : Prop :=
  va_P (dC, dI) vwCl (gw 37 a (cE cI cA a) σ) H ∧ va_P (dC, dI) vwCl (gw 12 d (mE cI d) τ) H ∧ va_S (A0 s) s.heap H locs ∧ Rg σ ∧ Rg τ ∧ ∃ n m : Nat, cpI σ τ n m
def xz (xs : Nat → Int32) (j : Nat) : Int := (xs j).toInt
theorem xz_rng (xs : Nat → Int32) (j : Nat) : rng (xz xs j) := iN_rng (xs j)
theorem gw_keep {D : va_G} {cl : List vw_C} {N M : Nat} {a d : Nat → Nat} {E : Nat → (Int → Int) → va_E} {τ : Mem} {H H1 : Heap} (hT : va_P D cl (gw M d E τ) H) (hne : ∀ i j, i < N → j < M → a i ≠ d j) (hk : ∀ q : Nat, q < H.size → ¬ gA N a q → H1[q]? = H[q]?) : va_P D cl (gw M d E τ) H1 := by
  refine hT.kept (fun k q h0 => ?_)
  have hlt := (hT k q h0).lt
  obtain ⟨hkM, e0⟩ := gw_get h0
  have e1 : q.1 = d k := by rw [e0]
  exact hk q.1 hlt (fun ⟨i, hi, e2⟩ => hne i k hi hkM (by rw [← e2, e1]))
section XS
variable {p : Program} {l : Launch} {e : Env} {R : Room} {s : State} {m : MethodId} {args : Array Value} {below : List Frame} {meth : Method} {c : Code} {H : Heap} {locs : List Loc} {cells slots : Nat} {Q : State → Prop}
variable {cc : ByteArray} {pc : Nat} {ls : Array Slot} {rest : List Value} {H0 : Heap} {A : Nat → Prop}
theorem x_sld (hx : p.tables.exec = Jvm.exec) (hb : c.code = cc) {b L j : Nat} {xs : Nat → Int32} {z : Int} (hX : va_X b L xs s H0) (hbl : b < H0.size) (hbA : ¬ A b) (hS : va_S A H0 H locs) (hz : z = (j : Int)) (hj : j < L) (hL : L ≤ 2048) (hdg : decode cc pc = .ok (.iaload, 1))
    (kk : W p l e R s m args below meth c H locs cells slots Q (F0 m (pc + 1) ls (.int (iN (xz xs j)) :: rest))) : W p l e R s m args below meth c H locs cells slots Q (F0 m pc ls (.int (iN z) :: .ref b :: rest)) := by
  subst hz
  refine va_sld hx hb hX hbl hbA hS (iN_in ⟨by omega, by omega⟩ (by omega)) hdg ?_
  rw [iN_cl (by omega) (by omega), Int.toNat_natCast]
  unfold xz at kk
  rw [iN_of] at kk
  exact kk
theorem x_slen (hx : p.tables.exec = Jvm.exec) (hb : c.code = cc) {b L : Nat} {xs : Nat → Int32} (hX : va_X b L xs s H0) (hbl : b < H0.size) (hbA : ¬ A b) (hS : va_S A H0 H locs) (hdg : decode cc pc = .ok (.arraylength, 1))
    (kk : W p l e R s m args below meth c H locs cells slots Q (F0 m (pc + 1) ls (.int (iN (L : Int)) :: rest))) : W p l e R s m args below meth c H locs cells slots Q (F0 m pc ls (.ref b :: rest)) := by
  refine va_slen hx hb hX hbl hbA hS hdg ?_
  rw [show Int32.ofNat L = iN (L : Int) from (Int32.ofInt_eq_ofNat).symm]
  exact kk
end XS
theorem b2_some {β : Type} (v : Int) (σ : Mem) (f : Int → Mem → Option β) : bnd2 (some (v, σ)) f = f v σ := rfl
theorem nx_some {α β : Type} (v : α) (f : α → β) : nx v f = f v := rfl
section XT
variable {σ τ : Mem} {n m : Nat}
theorem wMake (l : Launch) (dC : Nat → ClassId) (dI : Nat → Nat → Nat) (cI cA : ClassId) (a : Nat → Nat) (hi : ∀ i j, i < 37 → j < 37 → a i = a j → i = j) (hst : l.stackTraces = false) (h : cpI σ τ n m) (hR : Rg σ) {x y : Int} (rx : rng x) (ry : rng y) :
    ∃ (k : Int) (σ' τ' : Mem) (n' m' : Nat), vx_Met l yL_make wsL_make ({ frames := 8, cells := 1, slots := 6, locals := 160 }) (va_Pc [.ref (a 0), .int (iN x), .int (iN y)] (preX dC dI cI cA a σ)) (qM (dC, dI) (gw 37 a (cE cI cA a)) (gA 37 a) (k, σ')) (fun _ _ _ => False) 1 6 (gA 37 a) ∧ fX7_make_0 τ x y = some (0, τ') ∧ τ' 0 0 = k ∧ rng k ∧ cpI σ' τ' n' m' := by
  by_cases c : (1 ≤ x ∧ x ≤ 6) ∧ (1 ≤ y ∧ y ≤ 6)
  · obtain ⟨σ1, σ2, σ3, f1, f2, f3, hm⟩ := tMakeC σ c.1 c.2
    obtain ⟨τ', g1, g2, g3⟩ := hm τ
    refine ⟨0, σ3, τ', _, _, wL_make l dC dI cI cA a hi σ x y σ3 ?_ hR rx ry, g1, g2, by decide, g3⟩
    unfold fX6_make_0
    rw [if_neg (by omega), if_neg (by omega), if_neg (by omega), if_neg (by omega), f1]
    rw [b2_some, f2, b2_some, f3, b2_some]
  · refine ⟨1, σ, mup τ 0 0 1, n, m, wT_make l dC dI cI cA a hi σ x y ?_ hst hR rx ry, tMakeX τ c, by rw [mup_eq, mh_up_eq], by decide, cpI_m0 h 1⟩
    unfold gX6_make_0
    by_cases c1 : x < 1
    · rw [if_pos c1]
    rw [if_neg c1]
    by_cases c2 : 6 < x
    · rw [if_pos c2]
    rw [if_neg c2]
    by_cases c3 : y < 1
    · rw [if_pos c3]
    rw [if_neg c3]
    by_cases c4 : 6 < y
    · rw [if_pos c4]
    exact absurd ⟨⟨by omega, by omega⟩, by omega, by omega⟩ c
theorem wSeats (l : Launch) (dC : Nat → ClassId) (dI : Nat → Nat → Nat) (cI cA : ClassId) (a : Nat → Nat) (hi : ∀ i j, i < 37 → j < 37 → a i = a j → i = j) (hst : l.stackTraces = false) (h : cpI σ τ n m) (hR : Rg σ) {x y : Int} (rx : rng x) (ry : rng y) :
    ∃ (k : Int) (σ' τ' : Mem) (n' m' : Nat), vx_Met l yL_seats wsL_seats ({ frames := 8, cells := 1, slots := 6, locals := 160 }) (va_Pc [.ref (a 0), .int (iN x), .int (iN y)] (preX dC dI cI cA a σ)) (qM (dC, dI) (gw 37 a (cE cI cA a)) (gA 37 a) (k, σ')) (fun _ _ _ => False) 1 6 (gA 37 a) ∧ fX7_seats_0 τ x y = some (0, τ') ∧ τ' 0 0 = k ∧ rng k ∧ cpI σ' τ' n' m' := by
  have e4 : σ 1 4 = m := h.1.2.1
  have hm6 : m ≤ 6 := h.1.2.2.2.2.2.2.1.2.2.2
  by_cases c : 0 ≤ x ∧ x < m
  · have hH : fX1_hasHospital_1 σ x = some 1 := by
      unfold fX1_hasHospital_1
      rw [if_neg (by omega), if_pos (by omega)]
    by_cases d : 1 ≤ y ∧ y ≤ 3
    · obtain ⟨σ', τ', f1, g1, g2, g3⟩ := tSeatsC h c d
      refine ⟨0, σ', τ', _, _, wL_seats l dC dI cI cA a hi σ x y σ' ?_ hR rx ry, g1, g2, by decide, g3⟩
      unfold fX6_seats_0
      rw [hH, Option.bind_some, if_neg (by decide), if_neg (by omega), if_neg (by omega), if_pos (by omega)]
      rw [nx_some, f1, b2_some]
    · refine ⟨2, σ, mup τ 0 0 2, n, m, wT_seatsA l dC dI cI cA a hi σ x y ?_ hst hR rx ry, tSeatsY h c d, by rw [mup_eq, mh_up_eq], by decide, cpI_m0 h 2⟩
      unfold gX6_seats_0
      rw [hH, Option.bind_some, if_neg (by decide)]
      by_cases c3 : y < 1
      · rw [if_pos c3]
      rw [if_neg c3, if_pos (by omega)]
  · have hH : fX1_hasHospital_1 σ x = some 0 := by
      unfold fX1_hasHospital_1
      by_cases c1 : x < 0
      · rw [if_pos c1]
      rw [if_neg c1, if_neg (by omega)]
    refine ⟨1, σ, mup τ 0 0 1, n, m, wT_seatsI l dC dI cI cA a hi σ x y ?_ hst hR rx ry, tSeatsX h c, by rw [mup_eq, mh_up_eq], by decide, cpI_m0 h 1⟩
    unfold gX6_seats_0
    rw [hH, Option.bind_some, if_pos rfl]
theorem wTell (l : Launch) (dC : Nat → ClassId) (dI : Nat → Nat → Nat) (cI cA : ClassId) (a : Nat → Nat) (hi : ∀ i j, i < 37 → j < 37 → a i = a j → i = j) (hst : l.stackTraces = false) (h : cpI σ τ n m) (hR : Rg σ) {x y : Int} (rx : rng x) (ry : rng y) :
    ∃ (k : Int) (σ' τ' : Mem) (n' m' : Nat), vx_Met l yL_tell wsL_tell ({ frames := 8, cells := 1, slots := 6, locals := 160 }) (va_Pc [.ref (a 0), .int (iN x), .int (iN y)] (preX dC dI cI cA a σ)) (qM (dC, dI) (gw 37 a (cE cI cA a)) (gA 37 a) (k, σ')) (fun _ _ _ => False) 1 6 (gA 37 a) ∧ fX7_tell_0 τ x y = some (0, τ') ∧ τ' 0 0 = k ∧ rng k ∧ cpI σ' τ' n' m' := by
  have e3 : σ 1 3 = n := h.1.1
  have e4 : σ 1 4 = m := h.1.2.1
  have hn6 : n ≤ 6 := h.1.2.2.2.2.2.2.1.2.1
  by_cases c : (0 ≤ x ∧ x < n) ∧ (y = -1 ∨ (0 ≤ y ∧ y < m))
  · obtain ⟨g1, g3⟩ := tTellC h c.1 c.2
    have c0 := c.1
    have hH : fX1_hasResident_1 σ x = some 1 := by
      unfold fX1_hasResident_1
      rw [if_neg (by omega), if_pos (by omega)]
    refine ⟨0, mup σ 22 x y, _, _, _, wL_tell l dC dI cI cA a hi σ x y (mup σ 22 x y) ?_ hR rx ry, g1, by rw [mup_ne _ _ _ (by omega), mup_eq, mh_up_eq], by decide, g3⟩
    unfold fX6_tell_0
    rw [hH, Option.bind_some, if_neg (by decide)]
    by_cases d : y = -1
    · rw [if_pos d, if_pos (by omega)]
      rfl
    · have hG : fX1_hasHospital_1 σ y = some 1 := by
        unfold fX1_hasHospital_1
        rw [if_neg (by omega), if_pos (by omega)]
      rw [if_neg d, hG, Option.bind_some, if_neg (by decide), if_pos (by omega)]
      rfl
  · refine ⟨1, σ, mup τ 0 0 1, n, m, wT_tell l dC dI cI cA a hi σ x y ?_ hst hR rx ry, tTellX h c, by rw [mup_eq, mh_up_eq], by decide, cpI_m0 h 1⟩
    unfold gX6_tell_0 fX1_hasResident_1 fX1_hasHospital_1
    by_cases c1 : x < 0
    · rw [if_pos c1, Option.bind_some, if_pos rfl]
    rw [if_neg c1]
    by_cases c2 : x < σ 1 3
    · rw [if_pos c2, Option.bind_some, if_neg (by decide), if_neg (by omega)]
      by_cases c3 : y < 0
      · rw [if_pos c3, Option.bind_some, if_pos rfl]
      rw [if_neg c3, if_neg (by omega), Option.bind_some, if_pos rfl]
    · rw [if_neg c2, Option.bind_some, if_pos rfl]
theorem wTake (l : Launch) (dC : Nat → ClassId) (dI : Nat → Nat → Nat) (cI cA : ClassId) (a : Nat → Nat) (hi : ∀ i j, i < 37 → j < 37 → a i = a j → i = j) (hst : l.stackTraces = false) (h : cpI σ τ n m) (hR : Rg σ) {x : Int} (rx : rng x) :
    ∃ (k : Int) (σ' τ' : Mem) (n' m' : Nat), vx_Met l yL_take wsL_take ({ frames := 8, cells := 1, slots := 6, locals := 160 }) (va_Pc [.ref (a 0), .int (iN x)] (preX dC dI cI cA a σ)) (qM (dC, dI) (gw 37 a (cE cI cA a)) (gA 37 a) (k, σ')) (fun _ _ _ => False) 1 6 (gA 37 a) ∧ fX7_take_0 τ x = some (0, τ') ∧ τ' 0 0 = k ∧ rng k ∧ cpI σ' τ' n' m' := by
  by_cases c : 0 ≤ x ∧ x < σ 25 3
  · obtain ⟨σ', τ', f1, g1, g2, g3⟩ := tTakeC h c
    have hH : fX5_has_25 σ x = some 1 := by
      unfold fX5_has_25
      rw [if_neg (by omega), if_pos (by omega)]
    refine ⟨0, σ', τ', _, _, wL_take l dC dI cI cA a hi σ x σ' ?_ hR rx, g1, g2, by decide, g3⟩
    unfold fX6_take_0
    rw [hH, Option.bind_some, if_neg (by decide), f1]
    rfl
  · refine ⟨1, σ, mup τ 0 0 1, n, m, wT_take l dC dI cI cA a hi σ x ?_ hst hR rx, tTakeX h c, by rw [mup_eq, mh_up_eq], by decide, cpI_m0 h 1⟩
    unfold gX6_take_0 fX5_has_25
    by_cases c1 : x < 0
    · rw [if_pos c1, Option.bind_some, if_pos rfl]
    rw [if_neg c1, if_neg (by omega), Option.bind_some, if_pos rfl]
end XT
