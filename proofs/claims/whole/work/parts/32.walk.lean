def fX5_isSame_25_23_L2 (σ : Mem) (x1 : Int) (ex0 : Int → Option Int) : Nat → Int → Option Int
  | 0, _ => none
  | n0 + 1, v1 => if v1 < (σ 1 3) then (fX5_hospitalAt_25 σ x1 v1).bind fun v2 => if (0 : Int) ≤ v1 ∧ (v1 : Int) < 6 then if v2 = (σ 24 v1) then if rng (v1 + 1) then fX5_isSame_25_23_L2 σ x1 ex0 n0 (v1 + 1) else none else some 0 else none else ex0 v1
def fX5_isSame_25_23 (σ : Mem) (x1 : Int) : Option Int := fX5_isSame_25_23_L2 σ x1 (fun v7 => some 1) FU 0
set_option maxHeartbeats 4000000 in
set_option maxRecDepth 100000 in
theorem kX5_isSame_25_23 (l : Launch) (dC : Nat → ClassId) (dI : Nat → Nat → Nat) (cI : ClassId) (cA : ClassId) (a : Nat → Nat) (σ : Mem) (x1 : Int) (r : Int) (hf : fX5_isSame_25_23 σ x1 = some r) (hR : Rg σ) (rx1 : rng x1) : Met l yX5_isSame wsX5_isSame ({ frames := 1, cells := 0, slots := 0, locals := 22 }) (va_Pc [.ref (a 25), .int (iN x1), .ref (a 23)] (preC dC dI cI cA a σ)) (qP r) 0 0 (fun _ => False) := by
  refine Met.ofW (cc := cX5_isSame) (maxL := 4) (ret := (some .boolean)) (by decide) rfl ?_
  intro p e s m args below meth c s₁ B hml hv
  obtain ⟨hargs, hP, hK, hN⟩ := hv
  have hx := B.exec
  have hb := B.bytes
  have hr := B.returns
  have hts := atoms_spec (ws := wsX5_isSame) B.pre
  have hown : s.vm.findClass RX5 = some m.cls := findClass_of_methodNamed B.named
  have hlocks := B.notSynchronized
  have iX1 : ∀ w ∈ wsX10, w ∈ wsX5_isSame := by decide +kernel
  have iX3 : ∀ w ∈ wsX30, w ∈ wsX5_isSame := by decide +kernel
  have iX5 : ∀ w ∈ wsX50, w ∈ wsX5_isSame := by decide +kernel
  have fl18 := hts (.fieldLink RX5 18 "MatchHall$Stables" "hall" "LMatchHall$Hall;") (by decide +kernel)
  have fn26 := va_Nw.use (A := args) rfl (hN (.fieldLinkNest RX5 26 "MatchHall$Matching" "hospitalOf" "[I" "MatchHall") (by decide +kernel))
  have fn37 := va_Nw.use (A := args) rfl (hN (.fieldLinkNest RX5 37 "MatchHall$Hall" "residents" "I" "MatchHall") (by decide +kernel))
  have hrm : 1 ≤ (headSpec wsX5_isSame ({ frames := 1, cells := 0, slots := 0, locals := 22 })).room.frames ∧ 22 ≤ (headSpec wsX5_isSame ({ frames := 1, cells := 0, slots := 0, locals := 22 })).room.locals := ⟨Nat.le_refl _, Nat.le_refl _⟩
  generalize (headSpec wsX5_isSame ({ frames := 1, cells := 0, slots := 0, locals := 22 })).room = RR at hrm ⊢
  have hl := lv_entry ([.ref (a 25), .int (iN x1), .ref (a 23)]) (n := 4) (Nat.le_of_ble_eq_true rfl)
  rw [show entryFrame m args 4 = entryFrame m ([.ref (a 25), .int (iN x1), .ref (a 23)] : List Value).toArray 4 from by rw [hargs], lg_entry_eq]
  generalize (lg_sl ([.ref (a 25), .int (iN x1), .ref (a 23)]) ++ List.replicate (4 - (lg_sl ([.ref (a 25), .int (iN x1), .ref (a 23)])).length) Slot.unset).toArray = ls at hl ⊢
  have hl : lv_has ls 4 [(0, .ref (a 25)), (1, .int (iN x1)), (2, .ref (a 23))] := hl
  generalize hQQ : MQ below (qP r) args s 0 0 (fun _ => False) = QQ
  refine lv_iconst (v := iN 0) hx hb dX5_isSame_0 rfl ?_
  refine lv_istore_n (lv' := [(3, .int (iN 0)), (0, .ref (a 25)), (1, .int (iN x1)), (2, .ref (a 23))]) hx hb dX5_isSame_1 rfl hl (by decide) rfl (fun ls hl => ?_)
  have L_fX5_isSame_25_23_L2 : ∀ (EX0 : Int → Option Int), (∀ (v1 : Int), rng v1 → EX0 v1 = some r → ∀ ls, lv_has ls 4 [(0, .ref (a 25)), (1, .int (iN x1)), (2, .ref (a 23)), (3, .int (iN v1))] → W p l e RR s m args below meth c s.heap [] 0 0 QQ (F0 m 36 ls [])) → ∀ n0 : Nat, ∀ (v1 : Int), rng v1 → fX5_isSame_25_23_L2 σ x1 EX0 n0 v1 = some r → ∀ ls, lv_has ls 4 [(0, .ref (a 25)), (1, .int (iN x1)), (2, .ref (a 23)), (3, .int (iN v1))] → W p l e RR s m args below meth c s.heap [] 0 0 QQ (F0 m 2 ls []) := by
    intro EX0 hEX0 n0
    induction n0 with
    | zero => intro _ _ hf; cases hf
    | succ n0 ih0 =>
      intro v1 rv1 hf ls hl
      rw [fX5_isSame_25_23_L2] at hf
      refine lv_iload_n hx hb dX5_isSame_2 rfl (lv_at hl 3 rfl) ?_
      refine lv_aload_n hx hb dX5_isSame_3 rfl (lv_at hl 0 rfl) ?_
      refine x_get (C := RX5) (T := TX5) (NF := 4) (v := .ref (a 1)) hx hb hts iX5 hown hK hP 25 (by decide) (cE_25 cI cA a (_)) rfl 0 (by decide) fl18 rfl dX5_isSame_4 ?_
      refine x_getN (C := RX1) (T := TX1) (NF := 5) (v := .int (iN (σ 1 3))) hx hb hts iX1 hown hK hP 1 (by decide) (cE_1 cI cA a (_)) rfl 3 (by decide) fn37 rfl dX5_isSame_7 ?_
      refine x_icmp_ge (tgt := 36) hx hb rv1 (hR 1 3) dX5_isSame_10 (by decide) (fun c6 => ?_) (fun c6 => ?_)
      · replace hf := (if_neg c6).symm.trans hf
        exact hEX0 _ rv1 hf _ (lv_sub hl [0, 1, 2, 3] rfl)
      · replace hf := (if_pos c6).symm.trans hf
        refine lv_aload_n hx hb dX5_isSame_13 rfl (lv_at hl 0 rfl) ?_
        refine lv_iload_n hx hb dX5_isSame_14 rfl (lv_at hl 1 rfl) ?_
        refine lv_iload_n hx hb dX5_isSame_15 rfl (lv_at hl 3 rfl) ?_
        obtain ⟨v2, hv2, hf⟩ := bd hf
        refine x_callP (va_runV (As := [.int (iN x1), .int (iN v1)]) (rest := []) ⟨hx, hb, hml, hown, hts⟩ (kX5_hospitalAt_25 l dC dI cI cA a σ x1 v1 v2 hv2 hR rx1 rv1) (cwV 2 hts gX5_isSame_X5_hospitalAt rfl rfl rfl hX5_hospitalAt_d ⟨Nat.le_trans (by decide) hrm.1, Nat.le_trans (by decide) hrm.2⟩) (pvC 25 (by decide) (cE_25 cI cA a (_)) rfl hP hK hN) rfl rfl hl.1 rfl (lv_room (Nat.le_of_ble_eq_true rfl)) dX5_isSame_16 ⟨Nat.zero_le _, Nat.zero_le _⟩) (fun rv2 => ?_)
        refine lv_aload_n hx hb dX5_isSame_19 rfl (lv_at hl 2 rfl) ?_
        refine x_getN (C := RX3) (T := TX3) (NF := 2) (v := .ref (a 24)) hx hb hts iX3 hown hK hP 23 (by decide) (cE_23 cI cA a (_)) rfl 1 (by decide) fn26 rfl dX5_isSame_20 ?_
        refine lv_iload_n hx hb dX5_isSame_23 rfl (lv_at hl 3 rfl) ?_
        obtain ⟨g3, hf⟩ := gd hf
        refine x_iald hx hb hK hP 24 0 (by decide) (cE_24 cI cA a (_)) (by decide) rfl g3 dX5_isSame_24 ?_
        refine x_icmp_eq (tgt := 30) hx hb rv2 (hR 24 v1) dX5_isSame_25 (by decide) (fun c5 => ?_) (fun c5 => ?_)
        · replace hf := (if_pos c5).symm.trans hf
          obtain ⟨g4, hf⟩ := gd hf
          refine lv_iinc (v := iN (v1 + 1)) (lv' := [(3, .int (iN (v1 + 1))), (0, .ref (a 25)), (1, .int (iN x1)), (2, .ref (a 23))]) hx hb dX5_isSame_30 hl (k := 3) rfl (iN_add v1 1) (by decide) rfl (fun ls hl => ?_)
          refine lv_goto (tgt := 2) hx hb dX5_isSame_33 (by decide) ?_
          exact ih0 _ g4 hf _ (lv_sub hl [1, 2, 3, 0] rfl)
        · replace hf := (if_neg c5).symm.trans hf
          refine lv_iconst (v := iN 0) hx hb dX5_isSame_28 rfl ?_
          rw [← hQQ]
          exact x_zret hx hb hr (by decide) (Option.some.inj hf) (by decide) hlocks dX5_isSame_29
  refine L_fX5_isSame_25_23_L2 _ (fun v7 rv7 hf ls hl => ?_) _ _ (by decide) hf _ (lv_sub hl [1, 2, 3, 0] rfl)
  refine lv_iconst (v := iN 1) hx hb dX5_isSame_36 rfl ?_
  rw [← hQQ]
  exact x_zret hx hb hr (by decide) (Option.some.inj hf) (by decide) hlocks dX5_isSame_37
def fX5_find_25_23_L2 (σ : Mem) (ex0 : Int → Option Int) : Nat → Int → Option Int
  | 0, _ => none
  | n0 + 1, v1 => if v1 < (σ 25 3) then (fX5_isSame_25_23 σ v1).bind fun v2 => if v2 = 0 then if rng (v1 + 1) then fX5_find_25_23_L2 σ ex0 n0 (v1 + 1) else none else some v1 else ex0 v1
def fX5_find_25_23 (σ : Mem) : Option Int := fX5_find_25_23_L2 σ (fun v6 => some (-1)) FU 0
set_option maxHeartbeats 4000000 in
set_option maxRecDepth 100000 in
theorem kX5_find_25_23 (l : Launch) (dC : Nat → ClassId) (dI : Nat → Nat → Nat) (cI : ClassId) (cA : ClassId) (a : Nat → Nat) (σ : Mem) (r : Int) (hf : fX5_find_25_23 σ  = some r) (hR : Rg σ) : Met l yX5_find wsX5_find ({ frames := 2, cells := 0, slots := 0, locals := 45 }) (va_Pc [.ref (a 25), .ref (a 23)] (preC dC dI cI cA a σ)) (qP r) 0 0 (fun _ => False) := by
  refine Met.ofW (cc := cX5_find) (maxL := 3) (ret := (some .int)) (by decide) rfl ?_
  intro p e s m args below meth c s₁ B hml hv
  obtain ⟨hargs, hP, hK, hN⟩ := hv
  have hx := B.exec
  have hb := B.bytes
  have hr := B.returns
  have hts := atoms_spec (ws := wsX5_find) B.pre
  have hown : s.vm.findClass RX5 = some m.cls := findClass_of_methodNamed B.named
  have hlocks := B.notSynchronized
  have iX5 : ∀ w ∈ wsX50, w ∈ wsX5_find := by decide +kernel
  have fl22 := hts (.fieldLink RX5 22 "MatchHall$Stables" "size" "I") (by decide +kernel)
  have hrm : 2 ≤ (headSpec wsX5_find ({ frames := 2, cells := 0, slots := 0, locals := 45 })).room.frames ∧ 45 ≤ (headSpec wsX5_find ({ frames := 2, cells := 0, slots := 0, locals := 45 })).room.locals := ⟨Nat.le_refl _, Nat.le_refl _⟩
  generalize (headSpec wsX5_find ({ frames := 2, cells := 0, slots := 0, locals := 45 })).room = RR at hrm ⊢
  have hl := lv_entry ([.ref (a 25), .ref (a 23)]) (n := 3) (Nat.le_of_ble_eq_true rfl)
  rw [show entryFrame m args 3 = entryFrame m ([.ref (a 25), .ref (a 23)] : List Value).toArray 3 from by rw [hargs], lg_entry_eq]
  generalize (lg_sl ([.ref (a 25), .ref (a 23)]) ++ List.replicate (3 - (lg_sl ([.ref (a 25), .ref (a 23)])).length) Slot.unset).toArray = ls at hl ⊢
  have hl : lv_has ls 3 [(0, .ref (a 25)), (1, .ref (a 23))] := hl
  generalize hQQ : MQ below (qP r) args s 0 0 (fun _ => False) = QQ
  refine lv_iconst (v := iN 0) hx hb dX5_find_0 rfl ?_
  refine lv_istore_n (lv' := [(2, .int (iN 0)), (0, .ref (a 25)), (1, .ref (a 23))]) hx hb dX5_find_1 rfl hl (by decide) rfl (fun ls hl => ?_)
  have L_fX5_find_25_23_L2 : ∀ (EX0 : Int → Option Int), (∀ (v1 : Int), rng v1 → EX0 v1 = some r → ∀ ls, lv_has ls 3 [(0, .ref (a 25)), (1, .ref (a 23)), (2, .int (iN v1))] → W p l e RR s m args below meth c s.heap [] 0 0 QQ (F0 m 27 ls [])) → ∀ n0 : Nat, ∀ (v1 : Int), rng v1 → fX5_find_25_23_L2 σ EX0 n0 v1 = some r → ∀ ls, lv_has ls 3 [(0, .ref (a 25)), (1, .ref (a 23)), (2, .int (iN v1))] → W p l e RR s m args below meth c s.heap [] 0 0 QQ (F0 m 2 ls []) := by
    intro EX0 hEX0 n0
    induction n0 with
    | zero => intro _ _ hf; cases hf
    | succ n0 ih0 =>
      intro v1 rv1 hf ls hl
      rw [fX5_find_25_23_L2] at hf
      refine lv_iload_n hx hb dX5_find_2 rfl (lv_at hl 2 rfl) ?_
      refine lv_aload_n hx hb dX5_find_3 rfl (lv_at hl 0 rfl) ?_
      refine x_get (C := RX5) (T := TX5) (NF := 4) (v := .int (iN (σ 25 3))) hx hb hts iX5 hown hK hP 25 (by decide) (cE_25 cI cA a (_)) rfl 3 (by decide) fl22 rfl dX5_find_4 ?_
      refine x_icmp_ge (tgt := 27) hx hb rv1 (hR 25 3) dX5_find_7 (by decide) (fun c5 => ?_) (fun c5 => ?_)
      · replace hf := (if_neg c5).symm.trans hf
        exact hEX0 _ rv1 hf _ (lv_sub hl [0, 1, 2] rfl)
      · replace hf := (if_pos c5).symm.trans hf
        refine lv_aload_n hx hb dX5_find_10 rfl (lv_at hl 0 rfl) ?_
        refine lv_iload_n hx hb dX5_find_11 rfl (lv_at hl 2 rfl) ?_
        refine lv_aload_n hx hb dX5_find_12 rfl (lv_at hl 1 rfl) ?_
        obtain ⟨v2, hv2, hf⟩ := bd hf
        refine x_callP (va_runV (As := [.int (iN v1), .ref (a 23)]) (rest := []) ⟨hx, hb, hml, hown, hts⟩ (kX5_isSame_25_23 l dC dI cI cA a σ v1 v2 hv2 hR rv1) (cwV 2 hts gX5_find_X5_isSame rfl rfl rfl hX5_isSame_d ⟨Nat.le_trans (by decide) hrm.1, Nat.le_trans (by decide) hrm.2⟩) (pvC 25 (by decide) (cE_25 cI cA a (_)) rfl hP hK hN) rfl rfl hl.1 rfl (lv_room (Nat.le_of_ble_eq_true rfl)) dX5_find_13 ⟨Nat.zero_le _, Nat.zero_le _⟩) (fun rv2 => ?_)
        refine x_if_eq (tgt := 21) hx hb rv2 dX5_find_16 (by decide) (fun c4 => ?_) (fun c4 => ?_)
        · replace hf := (if_pos c4).symm.trans hf
          obtain ⟨g3, hf⟩ := gd hf
          refine lv_iinc (v := iN (v1 + 1)) (lv' := [(2, .int (iN (v1 + 1))), (0, .ref (a 25)), (1, .ref (a 23))]) hx hb dX5_find_21 hl (k := 2) rfl (iN_add v1 1) (by decide) rfl (fun ls hl => ?_)
          refine lv_goto (tgt := 2) hx hb dX5_find_24 (by decide) ?_
          exact ih0 _ g3 hf _ (lv_sub hl [1, 2, 0] rfl)
        · replace hf := (if_neg c4).symm.trans hf
          refine lv_iload_n hx hb dX5_find_19 rfl (lv_at hl 2 rfl) ?_
          rw [← hQQ]
          exact x_iret hx hb hr (Option.some.inj hf) rv1 hlocks dX5_find_20
  refine L_fX5_find_25_23_L2 _ (fun v6 rv6 hf ls hl => ?_) _ _ (by decide) hf _ (lv_sub hl [1, 2, 0] rfl)
  refine lv_iconst (v := iN (-1)) hx hb dX5_find_27 rfl ?_
  rw [← hQQ]
  exact x_iret hx hb hr (Option.some.inj hf) (by decide) hlocks dX5_find_28
def fX6_bound_0_L36 (x1 : Int) (x2 : Int) (x3 : Int) (ex0 : Mem → Int → Option (Int × Mem)) : Nat → Mem → Int → Option (Int × Mem)
  | 0, _, _ => none
  | n0 + 1, σ4, v3 => if v3 < (σ4 1 3) then (fX5_placeAt_25 σ4 x2 v3).bind fun v5 => (fX5_placeAt_25 σ4 x3 v3).bind fun v6 => if v6 < v5 then if x1 = 0 then (fX5_hospitalAt_25 σ4 x3 v3).bind fun v12 => if (0 : Int) ≤ v3 ∧ (v3 : Int) < 6 then nx (mup σ4 24 v3 v12) fun σ14 => if rng (v3 + 1) then fX6_bound_0_L36 x1 x2 x3 ex0 n0 σ14 (v3 + 1) else none else none else (fX5_hospitalAt_25 σ4 x2 v3).bind fun v7 => if (0 : Int) ≤ v3 ∧ (v3 : Int) < 6 then nx (mup σ4 24 v3 v7) fun σ9 => if rng (v3 + 1) then fX6_bound_0_L36 x1 x2 x3 ex0 n0 σ9 (v3 + 1) else none else none else if x1 = 0 then (fX5_hospitalAt_25 σ4 x2 v3).bind fun v23 => if (0 : Int) ≤ v3 ∧ (v3 : Int) < 6 then nx (mup σ4 24 v3 v23) fun σ25 => if rng (v3 + 1) then fX6_bound_0_L36 x1 x2 x3 ex0 n0 σ25 (v3 + 1) else none else none else (fX5_hospitalAt_25 σ4 x3 v3).bind fun v18 => if (0 : Int) ≤ v3 ∧ (v3 : Int) < 6 then nx (mup σ4 24 v3 v18) fun σ20 => if rng (v3 + 1) then fX6_bound_0_L36 x1 x2 x3 ex0 n0 σ20 (v3 + 1) else none else none else ex0 σ4 v3
def fX6_bound_0 (σ : Mem) (x1 : Int) (x2 : Int) (x3 : Int) : Option (Int × Mem) := if x1 < 0 then some ((-1), σ) else if 1 < x1 then some ((-1), σ) else (fX5_has_25 σ x2).bind fun v1 => if v1 = 0 then some ((-1), σ) else (fX5_has_25 σ x3).bind fun v2 => if v2 = 0 then some ((-1), σ) else fX6_bound_0_L36 x1 x2 x3 (fun σ32 v31 => (fX5_find_25_23 σ32 ).bind fun v33 => some (v33, σ32)) FU σ 0
set_option maxHeartbeats 4000000 in
set_option maxRecDepth 100000 in
theorem kX6_bound_0 (l : Launch) (dC : Nat → ClassId) (dI : Nat → Nat → Nat) (cI : ClassId) (cA : ClassId) (a : Nat → Nat) (hi : ∀ i j, i < 37 → j < 37 → a i = a j → i = j) (σ : Mem) (x1 : Int) (x2 : Int) (x3 : Int) (r : (Int × Mem)) (hf : fX6_bound_0 σ x1 x2 x3 = some r) (hR : Rg σ) (rx1 : rng x1) (rx2 : rng x2) (rx3 : rng x3) : Met l yX6_bound wsX6_bound ({ frames := 3, cells := 0, slots := 0, locals := 67 }) (va_Pc [.ref (a 0), .int (iN x1), .int (iN x2), .int (iN x3)] (preC dC dI cI cA a σ)) (qM (dC, dI) (gw 37 a (cE cI cA a)) (gA 37 a) r) 0 0 (gA 37 a) := by
  refine Met.ofW (cc := cX6_bound) (maxL := 7) (ret := (some .int)) (by decide) rfl ?_
  intro p e s m args below meth c s₁ B hml hv
  obtain ⟨hargs, hP, hK, hN⟩ := hv
  have hx := B.exec
  have hb := B.bytes
  have hr := B.returns
  have hts := atoms_spec (ws := wsX6_bound) B.pre
  have hown : s.vm.findClass RX6 = some m.cls := findClass_of_methodNamed B.named
  have hlocks := B.notSynchronized
  have hS : va_S (gA 37 a) s.heap s.heap [] := va_S.rf
  have iX1 : ∀ w ∈ wsX10, w ∈ wsX6_bound := by decide +kernel
  have iX3 : ∀ w ∈ wsX30, w ∈ wsX6_bound := by decide +kernel
  have iX6 : ∀ w ∈ wsX60, w ∈ wsX6_bound := by decide +kernel
  have fl12 := hts (.fieldLink RX6 12 "MatchHall" "hall" "LMatchHall$Hall;") (by decide +kernel)
  have fl25 := hts (.fieldLink RX6 25 "MatchHall" "scratch" "LMatchHall$Matching;") (by decide +kernel)
  have fl31 := hts (.fieldLink RX6 31 "MatchHall" "stables" "LMatchHall$Stables;") (by decide +kernel)
  have fn133 := va_Nw.use (A := args) rfl (hN (.fieldLinkNest RX6 133 "MatchHall$Hall" "residents" "I" "MatchHall") (by decide +kernel))
  have fn139 := va_Nw.use (A := args) rfl (hN (.fieldLinkNest RX6 139 "MatchHall$Matching" "hospitalOf" "[I" "MatchHall") (by decide +kernel))
  have hrm : 3 ≤ (headSpec wsX6_bound ({ frames := 3, cells := 0, slots := 0, locals := 67 })).room.frames ∧ 67 ≤ (headSpec wsX6_bound ({ frames := 3, cells := 0, slots := 0, locals := 67 })).room.locals := ⟨Nat.le_refl _, Nat.le_refl _⟩
  generalize (headSpec wsX6_bound ({ frames := 3, cells := 0, slots := 0, locals := 67 })).room = RR at hrm ⊢
  have hl := lv_entry ([.ref (a 0), .int (iN x1), .int (iN x2), .int (iN x3)]) (n := 7) (Nat.le_of_ble_eq_true rfl)
  rw [show entryFrame m args 7 = entryFrame m ([.ref (a 0), .int (iN x1), .int (iN x2), .int (iN x3)] : List Value).toArray 7 from by rw [hargs], lg_entry_eq]
  generalize (lg_sl ([.ref (a 0), .int (iN x1), .int (iN x2), .int (iN x3)]) ++ List.replicate (7 - (lg_sl ([.ref (a 0), .int (iN x1), .int (iN x2), .int (iN x3)])).length) Slot.unset).toArray = ls at hl ⊢
  have hl : lv_has ls 7 [(0, .ref (a 0)), (1, .int (iN x1)), (2, .int (iN x2)), (3, .int (iN x3))] := hl
  generalize hQQ : MQ below (qM (dC, dI) (gw 37 a (cE cI cA a)) (gA 37 a) r) args s 0 0 (gA 37 a) = QQ
  refine lv_iload_n hx hb dX6_bound_0 rfl (lv_at hl 1 rfl) ?_
  refine x_if_lt (tgt := 31) hx hb rx1 dX6_bound_1 (by decide) (fun c37 => ?_) (fun c37 => ?_)
  · replace hf := (if_pos c37).symm.trans hf
    refine lv_iconst (v := iN (-1)) hx hb dX6_bound_31 rfl ?_
    rw [← hQQ]
    exact x_iretM hx hb hr (Option.some.inj hf) (by decide) hR hP hS hlocks dX6_bound_32
  · replace hf := (if_neg c37).symm.trans hf
    refine lv_iload_n hx hb dX6_bound_4 rfl (lv_at hl 1 rfl) ?_
    refine lv_iconst (v := iN 1) hx hb dX6_bound_5 rfl ?_
    refine x_icmp_gt (tgt := 31) hx hb rx1 (by decide) dX6_bound_6 (by decide) (fun c36 => ?_) (fun c36 => ?_)
    · replace hf := (if_pos c36).symm.trans hf
      refine lv_iconst (v := iN (-1)) hx hb dX6_bound_31 rfl ?_
      rw [← hQQ]
      exact x_iretM hx hb hr (Option.some.inj hf) (by decide) hR hP hS hlocks dX6_bound_32
    · replace hf := (if_neg c36).symm.trans hf
      refine lv_aload_n hx hb dX6_bound_9 rfl (lv_at hl 0 rfl) ?_
      refine x_get (C := RX6) (T := TX6) (NF := 6) (v := .ref (a 25)) hx hb hts iX6 hown hK hP 0 (by decide) (cE_0 cI cA a (_)) rfl 3 (by decide) fl31 rfl dX6_bound_10 ?_
      refine lv_iload_n hx hb dX6_bound_13 rfl (lv_at hl 2 rfl) ?_
      obtain ⟨v1, hv1, hf⟩ := bd hf
      refine x_callP (va_runV (As := [.int (iN x2)]) (rest := []) ⟨hx, hb, hml, hown, hts⟩ (kX5_has_25 l dC dI cI cA a σ x2 v1 hv1 hR rx2) (cwV 1 hts gX6_bound_X5_has rfl rfl rfl hX5_has_d ⟨Nat.le_trans (by decide) hrm.1, Nat.le_trans (by decide) hrm.2⟩) (pvC 25 (by decide) (cE_25 cI cA a (_)) rfl hP hK hN) rfl rfl hl.1 rfl (lv_room (Nat.le_of_ble_eq_true rfl)) dX6_bound_14 ⟨Nat.zero_le _, Nat.zero_le _⟩) (fun rv1 => ?_)
      refine x_if_eq (tgt := 31) hx hb rv1 dX6_bound_17 (by decide) (fun c35 => ?_) (fun c35 => ?_)
      · replace hf := (if_pos c35).symm.trans hf
        refine lv_iconst (v := iN (-1)) hx hb dX6_bound_31 rfl ?_
        rw [← hQQ]
        exact x_iretM hx hb hr (Option.some.inj hf) (by decide) hR hP hS hlocks dX6_bound_32
      · replace hf := (if_neg c35).symm.trans hf
        refine lv_aload_n hx hb dX6_bound_20 rfl (lv_at hl 0 rfl) ?_
        refine x_get (C := RX6) (T := TX6) (NF := 6) (v := .ref (a 25)) hx hb hts iX6 hown hK hP 0 (by decide) (cE_0 cI cA a (_)) rfl 3 (by decide) fl31 rfl dX6_bound_21 ?_
        refine lv_iload_n hx hb dX6_bound_24 rfl (lv_at hl 3 rfl) ?_
        obtain ⟨v2, hv2, hf⟩ := bd hf
        refine x_callP (va_runV (As := [.int (iN x3)]) (rest := []) ⟨hx, hb, hml, hown, hts⟩ (kX5_has_25 l dC dI cI cA a σ x3 v2 hv2 hR rx3) (cwV 1 hts gX6_bound_X5_has rfl rfl rfl hX5_has_d ⟨Nat.le_trans (by decide) hrm.1, Nat.le_trans (by decide) hrm.2⟩) (pvC 25 (by decide) (cE_25 cI cA a (_)) rfl hP hK hN) rfl rfl hl.1 rfl (lv_room (Nat.le_of_ble_eq_true rfl)) dX6_bound_25 ⟨Nat.zero_le _, Nat.zero_le _⟩) (fun rv2 => ?_)
        refine x_if_ne (tgt := 33) hx hb rv2 dX6_bound_28 (by decide) (fun c34 => ?_) (fun c34 => ?_)
        · replace hf := (if_neg c34).symm.trans hf
          refine lv_iconst (v := iN 0) hx hb dX6_bound_33 rfl ?_
          refine lv_istore (lv' := [(4, .int (iN 0)), (0, .ref (a 0)), (1, .int (iN x1)), (2, .int (iN x2)), (3, .int (iN x3))]) hx hb dX6_bound_34 hl (by decide) rfl (fun ls hl => ?_)
          have L_fX6_bound_0_L36 : ∀ (EX0 : Mem → Int → Option (Int × Mem)), (∀ (σ4 : Mem) (v3 : Int), Rg σ4 → rng v3 → EX0 σ4 v3 = some r → ∀ H locs ls, va_P (dC, dI) vwCl (gw 37 a (cE cI cA a) σ4) H → va_S (gA 37 a) s.heap H locs → lv_has ls 7 [(0, .ref (a 0)), (1, .int (iN x1)), (2, .int (iN x2)), (3, .int (iN x3)), (4, .int (iN v3))] → W p l e RR s m args below meth c H locs 0 0 QQ (F0 m 126 ls [])) → ∀ n0 : Nat, ∀ (σ4 : Mem) (v3 : Int), Rg σ4 → rng v3 → fX6_bound_0_L36 x1 x2 x3 EX0 n0 σ4 v3 = some r → ∀ H locs ls, va_P (dC, dI) vwCl (gw 37 a (cE cI cA a) σ4) H → va_S (gA 37 a) s.heap H locs → lv_has ls 7 [(0, .ref (a 0)), (1, .int (iN x1)), (2, .int (iN x2)), (3, .int (iN x3)), (4, .int (iN v3))] → W p l e RR s m args below meth c H locs 0 0 QQ (F0 m 36 ls []) := by
            intro EX0 hEX0 n0
            induction n0 with
            | zero => intro _ _ _ _ hf; cases hf
            | succ n0 ih0 =>
              intro σ4 v3 hRσ4 rv3 hf H locs ls hP hS hl
              rw [fX6_bound_0_L36] at hf
              refine lv_iload hx hb dX6_bound_36 (lv_at hl 4 rfl) ?_
              refine lv_aload_n hx hb dX6_bound_38 rfl (lv_at hl 0 rfl) ?_
              refine x_get (C := RX6) (T := TX6) (NF := 6) (v := .ref (a 1)) hx hb hts iX6 hown hK hP 0 (by decide) (cE_0 cI cA a (_)) rfl 0 (by decide) fl12 rfl dX6_bound_39 ?_
              refine x_getN (C := RX1) (T := TX1) (NF := 5) (v := .int (iN (σ4 1 3))) hx hb hts iX1 hown hK hP 1 (by decide) (cE_1 cI cA a (_)) rfl 3 (by decide) fn133 rfl dX6_bound_42 ?_
              refine x_icmp_ge (tgt := 126) hx hb rv3 (hRσ4 1 3) dX6_bound_45 (by decide) (fun c30 => ?_) (fun c30 => ?_)
              · replace hf := (if_neg c30).symm.trans hf
                exact hEX0 _ _ hRσ4 rv3 hf _ _ _ hP hS (lv_sub hl [0, 1, 2, 3, 4] rfl)
              · replace hf := (if_pos c30).symm.trans hf
                refine lv_aload_n hx hb dX6_bound_48 rfl (lv_at hl 0 rfl) ?_
                refine x_get (C := RX6) (T := TX6) (NF := 6) (v := .ref (a 25)) hx hb hts iX6 hown hK hP 0 (by decide) (cE_0 cI cA a (_)) rfl 3 (by decide) fl31 rfl dX6_bound_49 ?_
                refine lv_iload_n hx hb dX6_bound_52 rfl (lv_at hl 2 rfl) ?_
                refine lv_iload hx hb dX6_bound_53 (lv_at hl 4 rfl) ?_
                obtain ⟨v5, hv5, hf⟩ := bd hf
                refine x_callP (va_runV (As := [.int (iN x2), .int (iN v3)]) (rest := []) ⟨hx, hb, hml, hown, hts⟩ (kX5_placeAt_25 l dC dI cI cA a σ4 x2 v3 v5 hv5 hRσ4 rx2 rv3) (cwV 2 hts gX6_bound_X5_placeAt rfl rfl rfl hX5_placeAt_d ⟨Nat.le_trans (by decide) hrm.1, Nat.le_trans (by decide) hrm.2⟩) (pvC 25 (by decide) (cE_25 cI cA a (_)) rfl hP hK hN) rfl rfl hl.1 rfl (lv_room (Nat.le_of_ble_eq_true rfl)) dX6_bound_55 ⟨Nat.zero_le _, Nat.zero_le _⟩) (fun rv5 => ?_)
                refine lv_aload_n hx hb dX6_bound_58 rfl (lv_at hl 0 rfl) ?_
                refine x_get (C := RX6) (T := TX6) (NF := 6) (v := .ref (a 25)) hx hb hts iX6 hown hK hP 0 (by decide) (cE_0 cI cA a (_)) rfl 3 (by decide) fl31 rfl dX6_bound_59 ?_
                refine lv_iload_n hx hb dX6_bound_62 rfl (lv_at hl 3 rfl) ?_
                refine lv_iload hx hb dX6_bound_63 (lv_at hl 4 rfl) ?_
                obtain ⟨v6, hv6, hf⟩ := bd hf
                refine x_callP (va_runV (As := [.int (iN x3), .int (iN v3)]) (rest := [.int (iN v5)]) ⟨hx, hb, hml, hown, hts⟩ (kX5_placeAt_25 l dC dI cI cA a σ4 x3 v3 v6 hv6 hRσ4 rx3 rv3) (cwV 2 hts gX6_bound_X5_placeAt rfl rfl rfl hX5_placeAt_d ⟨Nat.le_trans (by decide) hrm.1, Nat.le_trans (by decide) hrm.2⟩) (pvC 25 (by decide) (cE_25 cI cA a (_)) rfl hP hK hN) rfl rfl hl.1 rfl (lv_room (Nat.le_of_ble_eq_true rfl)) dX6_bound_65 ⟨Nat.zero_le _, Nat.zero_le _⟩) (fun rv6 => ?_)
                refine x_icmp_gt (tgt := 75) hx hb rv5 rv6 dX6_bound_68 (by decide) (fun c29 => ?_) (fun c29 => ?_)
                · replace hf := (if_pos c29).symm.trans hf
                  refine lv_iconst (v := iN 0) hx hb dX6_bound_75 rfl ?_
                  refine lv_istore (lv' := [(5, .int (iN 0)), (0, .ref (a 0)), (1, .int (iN x1)), (2, .int (iN x2)), (3, .int (iN x3)), (4, .int (iN v3))]) hx hb dX6_bound_76 hl (by decide) rfl (fun ls hl => ?_)
                  refine lv_iload hx hb dX6_bound_78 (lv_at hl 0 rfl) ?_
                  refine lv_iload_n hx hb dX6_bound_80 rfl (lv_at hl 2 rfl) ?_
                  refine x_if_ne (tgt := 88) hx hb rx1 dX6_bound_81 (by decide) (fun c17 => ?_) (fun c17 => ?_)
                  · replace hf := (if_neg c17).symm.trans hf
                    refine lv_iconst (v := iN 0) hx hb dX6_bound_88 rfl ?_
                    refine x_icmp_ne (tgt := 96) hx hb (by decide) (by decide) dX6_bound_89 (by decide) (fun c11 => ?_) (fun c11 => ?_)
                    · exact absurd c11 (by decide)
                    · refine lv_iload_n hx hb dX6_bound_92 rfl (lv_at hl 3 rfl) ?_
                      refine lv_goto (tgt := 97) hx hb dX6_bound_93 (by decide) ?_
                      refine lv_istore (lv' := [(6, .int (iN x2)), (5, .int (iN 0)), (0, .ref (a 0)), (1, .int (iN x1)), (2, .int (iN x2)), (3, .int (iN x3)), (4, .int (iN v3))]) hx hb dX6_bound_97 hl (by decide) rfl (fun ls hl => ?_)
                      refine lv_aload_n hx hb dX6_bound_99 rfl (lv_at hl 2 rfl) ?_
                      refine x_get (C := RX6) (T := TX6) (NF := 6) (v := .ref (a 23)) hx hb hts iX6 hown hK hP 0 (by decide) (cE_0 cI cA a (_)) rfl 2 (by decide) fl25 rfl dX6_bound_100 ?_
                      refine x_getN (C := RX3) (T := TX3) (NF := 2) (v := .ref (a 24)) hx hb hts iX3 hown hK hP 23 (by decide) (cE_23 cI cA a (_)) rfl 1 (by decide) fn139 rfl dX6_bound_103 ?_
                      refine lv_iload hx hb dX6_bound_106 (lv_at hl 6 rfl) ?_
                      refine lv_aload_n hx hb dX6_bound_108 rfl (lv_at hl 2 rfl) ?_
                      refine x_get (C := RX6) (T := TX6) (NF := 6) (v := .ref (a 25)) hx hb hts iX6 hown hK hP 0 (by decide) (cE_0 cI cA a (_)) rfl 3 (by decide) fl31 rfl dX6_bound_109 ?_
                      refine lv_iload hx hb dX6_bound_112 (lv_at hl 0 rfl) ?_
                      refine lv_iload hx hb dX6_bound_114 (lv_at hl 6 rfl) ?_
                      obtain ⟨v7, hv7, hf⟩ := bd hf
                      refine x_callP (va_runV (As := [.int (iN x2), .int (iN v3)]) (rest := [.int (iN v3), .ref (a 24)]) ⟨hx, hb, hml, hown, hts⟩ (kX5_hospitalAt_25 l dC dI cI cA a σ4 x2 v3 v7 hv7 hRσ4 rx2 rv3) (cwV 2 hts gX6_bound_X5_hospitalAt rfl rfl rfl hX5_hospitalAt_d ⟨Nat.le_trans (by decide) hrm.1, Nat.le_trans (by decide) hrm.2⟩) (pvC 25 (by decide) (cE_25 cI cA a (_)) rfl hP hK hN) rfl rfl hl.1 rfl (lv_room (Nat.le_of_ble_eq_true rfl)) dX6_bound_116 ⟨Nat.zero_le _, Nat.zero_le _⟩) (fun rv7 => ?_)
                      obtain ⟨g8, hf⟩ := gd hf
                      obtain ⟨σ9, hσ9, hf⟩ := nxe hf
                      refine x_iast (x := v7) hx hb hi hK hP hS 24 0 (by decide) (cE_24 cI cA a) (by decide) rfl g8 dX6_bound_119 (fun H locs hP hS => ?_)
                      rw [← hσ9] at hP
                      have hRσ9 : Rg σ9 := by rw [hσ9]; exact Rg_up hRσ4 rv7
                      obtain ⟨g10, hf⟩ := gd hf
                      refine lv_iinc (v := iN (v3 + 1)) (lv' := [(4, .int (iN (v3 + 1))), (6, .int (iN x2)), (5, .int (iN 0)), (0, .ref (a 0)), (1, .int (iN x1)), (2, .int (iN x2)), (3, .int (iN x3))]) hx hb dX6_bound_120 hl (k := 6) rfl (iN_add v3 1) (by decide) rfl (fun ls hl => ?_)
                      refine lv_goto (tgt := 36) hx hb dX6_bound_123 (by decide) ?_
                      exact ih0 _ _ hRσ9 g10 hf _ _ _ hP hS (lv_sub hl [3, 4, 5, 6, 0] rfl)
                  · replace hf := (if_pos c17).symm.trans hf
                    refine lv_iconst (v := iN 1) hx hb dX6_bound_84 rfl ?_
                    refine lv_goto (tgt := 89) hx hb dX6_bound_85 (by decide) ?_
                    refine x_icmp_ne (tgt := 96) hx hb (by decide) (by decide) dX6_bound_89 (by decide) (fun c16 => ?_) (fun c16 => ?_)
                    · refine lv_iload_n hx hb dX6_bound_96 rfl (lv_at hl 4 rfl) ?_
                      refine lv_istore (lv' := [(6, .int (iN x3)), (5, .int (iN 0)), (0, .ref (a 0)), (1, .int (iN x1)), (2, .int (iN x2)), (3, .int (iN x3)), (4, .int (iN v3))]) hx hb dX6_bound_97 hl (by decide) rfl (fun ls hl => ?_)
                      refine lv_aload_n hx hb dX6_bound_99 rfl (lv_at hl 2 rfl) ?_
                      refine x_get (C := RX6) (T := TX6) (NF := 6) (v := .ref (a 23)) hx hb hts iX6 hown hK hP 0 (by decide) (cE_0 cI cA a (_)) rfl 2 (by decide) fl25 rfl dX6_bound_100 ?_
                      refine x_getN (C := RX3) (T := TX3) (NF := 2) (v := .ref (a 24)) hx hb hts iX3 hown hK hP 23 (by decide) (cE_23 cI cA a (_)) rfl 1 (by decide) fn139 rfl dX6_bound_103 ?_
                      refine lv_iload hx hb dX6_bound_106 (lv_at hl 6 rfl) ?_
                      refine lv_aload_n hx hb dX6_bound_108 rfl (lv_at hl 2 rfl) ?_
                      refine x_get (C := RX6) (T := TX6) (NF := 6) (v := .ref (a 25)) hx hb hts iX6 hown hK hP 0 (by decide) (cE_0 cI cA a (_)) rfl 3 (by decide) fl31 rfl dX6_bound_109 ?_
                      refine lv_iload hx hb dX6_bound_112 (lv_at hl 0 rfl) ?_
                      refine lv_iload hx hb dX6_bound_114 (lv_at hl 6 rfl) ?_
                      obtain ⟨v12, hv12, hf⟩ := bd hf
                      refine x_callP (va_runV (As := [.int (iN x3), .int (iN v3)]) (rest := [.int (iN v3), .ref (a 24)]) ⟨hx, hb, hml, hown, hts⟩ (kX5_hospitalAt_25 l dC dI cI cA a σ4 x3 v3 v12 hv12 hRσ4 rx3 rv3) (cwV 2 hts gX6_bound_X5_hospitalAt rfl rfl rfl hX5_hospitalAt_d ⟨Nat.le_trans (by decide) hrm.1, Nat.le_trans (by decide) hrm.2⟩) (pvC 25 (by decide) (cE_25 cI cA a (_)) rfl hP hK hN) rfl rfl hl.1 rfl (lv_room (Nat.le_of_ble_eq_true rfl)) dX6_bound_116 ⟨Nat.zero_le _, Nat.zero_le _⟩) (fun rv12 => ?_)
                      obtain ⟨g13, hf⟩ := gd hf
                      obtain ⟨σ14, hσ14, hf⟩ := nxe hf
                      refine x_iast (x := v12) hx hb hi hK hP hS 24 0 (by decide) (cE_24 cI cA a) (by decide) rfl g13 dX6_bound_119 (fun H locs hP hS => ?_)
                      rw [← hσ14] at hP
                      have hRσ14 : Rg σ14 := by rw [hσ14]; exact Rg_up hRσ4 rv12
                      obtain ⟨g15, hf⟩ := gd hf
                      refine lv_iinc (v := iN (v3 + 1)) (lv' := [(4, .int (iN (v3 + 1))), (6, .int (iN x3)), (5, .int (iN 0)), (0, .ref (a 0)), (1, .int (iN x1)), (2, .int (iN x2)), (3, .int (iN x3))]) hx hb dX6_bound_120 hl (k := 6) rfl (iN_add v3 1) (by decide) rfl (fun ls hl => ?_)
                      refine lv_goto (tgt := 36) hx hb dX6_bound_123 (by decide) ?_
                      exact ih0 _ _ hRσ14 g15 hf _ _ _ hP hS (lv_sub hl [3, 4, 5, 6, 0] rfl)
                    · exact absurd c16 (by decide)
                · replace hf := (if_neg c29).symm.trans hf
                  refine lv_iconst (v := iN 1) hx hb dX6_bound_71 rfl ?_
                  refine lv_goto (tgt := 76) hx hb dX6_bound_72 (by decide) ?_
                  refine lv_istore (lv' := [(5, .int (iN 1)), (0, .ref (a 0)), (1, .int (iN x1)), (2, .int (iN x2)), (3, .int (iN x3)), (4, .int (iN v3))]) hx hb dX6_bound_76 hl (by decide) rfl (fun ls hl => ?_)
                  refine lv_iload hx hb dX6_bound_78 (lv_at hl 0 rfl) ?_
                  refine lv_iload_n hx hb dX6_bound_80 rfl (lv_at hl 2 rfl) ?_
                  refine x_if_ne (tgt := 88) hx hb rx1 dX6_bound_81 (by decide) (fun c28 => ?_) (fun c28 => ?_)
                  · replace hf := (if_neg c28).symm.trans hf
                    refine lv_iconst (v := iN 0) hx hb dX6_bound_88 rfl ?_
                    refine x_icmp_ne (tgt := 96) hx hb (by decide) (by decide) dX6_bound_89 (by decide) (fun c22 => ?_) (fun c22 => ?_)
                    · refine lv_iload_n hx hb dX6_bound_96 rfl (lv_at hl 4 rfl) ?_
                      refine lv_istore (lv' := [(6, .int (iN x3)), (5, .int (iN 1)), (0, .ref (a 0)), (1, .int (iN x1)), (2, .int (iN x2)), (3, .int (iN x3)), (4, .int (iN v3))]) hx hb dX6_bound_97 hl (by decide) rfl (fun ls hl => ?_)
                      refine lv_aload_n hx hb dX6_bound_99 rfl (lv_at hl 2 rfl) ?_
                      refine x_get (C := RX6) (T := TX6) (NF := 6) (v := .ref (a 23)) hx hb hts iX6 hown hK hP 0 (by decide) (cE_0 cI cA a (_)) rfl 2 (by decide) fl25 rfl dX6_bound_100 ?_
                      refine x_getN (C := RX3) (T := TX3) (NF := 2) (v := .ref (a 24)) hx hb hts iX3 hown hK hP 23 (by decide) (cE_23 cI cA a (_)) rfl 1 (by decide) fn139 rfl dX6_bound_103 ?_
                      refine lv_iload hx hb dX6_bound_106 (lv_at hl 6 rfl) ?_
                      refine lv_aload_n hx hb dX6_bound_108 rfl (lv_at hl 2 rfl) ?_
                      refine x_get (C := RX6) (T := TX6) (NF := 6) (v := .ref (a 25)) hx hb hts iX6 hown hK hP 0 (by decide) (cE_0 cI cA a (_)) rfl 3 (by decide) fl31 rfl dX6_bound_109 ?_
                      refine lv_iload hx hb dX6_bound_112 (lv_at hl 0 rfl) ?_
                      refine lv_iload hx hb dX6_bound_114 (lv_at hl 6 rfl) ?_
                      obtain ⟨v18, hv18, hf⟩ := bd hf
                      refine x_callP (va_runV (As := [.int (iN x3), .int (iN v3)]) (rest := [.int (iN v3), .ref (a 24)]) ⟨hx, hb, hml, hown, hts⟩ (kX5_hospitalAt_25 l dC dI cI cA a σ4 x3 v3 v18 hv18 hRσ4 rx3 rv3) (cwV 2 hts gX6_bound_X5_hospitalAt rfl rfl rfl hX5_hospitalAt_d ⟨Nat.le_trans (by decide) hrm.1, Nat.le_trans (by decide) hrm.2⟩) (pvC 25 (by decide) (cE_25 cI cA a (_)) rfl hP hK hN) rfl rfl hl.1 rfl (lv_room (Nat.le_of_ble_eq_true rfl)) dX6_bound_116 ⟨Nat.zero_le _, Nat.zero_le _⟩) (fun rv18 => ?_)
                      obtain ⟨g19, hf⟩ := gd hf
                      obtain ⟨σ20, hσ20, hf⟩ := nxe hf
                      refine x_iast (x := v18) hx hb hi hK hP hS 24 0 (by decide) (cE_24 cI cA a) (by decide) rfl g19 dX6_bound_119 (fun H locs hP hS => ?_)
                      rw [← hσ20] at hP
                      have hRσ20 : Rg σ20 := by rw [hσ20]; exact Rg_up hRσ4 rv18
                      obtain ⟨g21, hf⟩ := gd hf
                      refine lv_iinc (v := iN (v3 + 1)) (lv' := [(4, .int (iN (v3 + 1))), (6, .int (iN x3)), (5, .int (iN 1)), (0, .ref (a 0)), (1, .int (iN x1)), (2, .int (iN x2)), (3, .int (iN x3))]) hx hb dX6_bound_120 hl (k := 6) rfl (iN_add v3 1) (by decide) rfl (fun ls hl => ?_)
                      refine lv_goto (tgt := 36) hx hb dX6_bound_123 (by decide) ?_
                      exact ih0 _ _ hRσ20 g21 hf _ _ _ hP hS (lv_sub hl [3, 4, 5, 6, 0] rfl)
                    · exact absurd c22 (by decide)
                  · replace hf := (if_pos c28).symm.trans hf
                    refine lv_iconst (v := iN 1) hx hb dX6_bound_84 rfl ?_
                    refine lv_goto (tgt := 89) hx hb dX6_bound_85 (by decide) ?_
                    refine x_icmp_ne (tgt := 96) hx hb (by decide) (by decide) dX6_bound_89 (by decide) (fun c27 => ?_) (fun c27 => ?_)
                    · exact absurd c27 (by decide)
                    · refine lv_iload_n hx hb dX6_bound_92 rfl (lv_at hl 3 rfl) ?_
                      refine lv_goto (tgt := 97) hx hb dX6_bound_93 (by decide) ?_
                      refine lv_istore (lv' := [(6, .int (iN x2)), (5, .int (iN 1)), (0, .ref (a 0)), (1, .int (iN x1)), (2, .int (iN x2)), (3, .int (iN x3)), (4, .int (iN v3))]) hx hb dX6_bound_97 hl (by decide) rfl (fun ls hl => ?_)
                      refine lv_aload_n hx hb dX6_bound_99 rfl (lv_at hl 2 rfl) ?_
                      refine x_get (C := RX6) (T := TX6) (NF := 6) (v := .ref (a 23)) hx hb hts iX6 hown hK hP 0 (by decide) (cE_0 cI cA a (_)) rfl 2 (by decide) fl25 rfl dX6_bound_100 ?_
                      refine x_getN (C := RX3) (T := TX3) (NF := 2) (v := .ref (a 24)) hx hb hts iX3 hown hK hP 23 (by decide) (cE_23 cI cA a (_)) rfl 1 (by decide) fn139 rfl dX6_bound_103 ?_
                      refine lv_iload hx hb dX6_bound_106 (lv_at hl 6 rfl) ?_
                      refine lv_aload_n hx hb dX6_bound_108 rfl (lv_at hl 2 rfl) ?_
                      refine x_get (C := RX6) (T := TX6) (NF := 6) (v := .ref (a 25)) hx hb hts iX6 hown hK hP 0 (by decide) (cE_0 cI cA a (_)) rfl 3 (by decide) fl31 rfl dX6_bound_109 ?_
                      refine lv_iload hx hb dX6_bound_112 (lv_at hl 0 rfl) ?_
                      refine lv_iload hx hb dX6_bound_114 (lv_at hl 6 rfl) ?_
                      obtain ⟨v23, hv23, hf⟩ := bd hf
                      refine x_callP (va_runV (As := [.int (iN x2), .int (iN v3)]) (rest := [.int (iN v3), .ref (a 24)]) ⟨hx, hb, hml, hown, hts⟩ (kX5_hospitalAt_25 l dC dI cI cA a σ4 x2 v3 v23 hv23 hRσ4 rx2 rv3) (cwV 2 hts gX6_bound_X5_hospitalAt rfl rfl rfl hX5_hospitalAt_d ⟨Nat.le_trans (by decide) hrm.1, Nat.le_trans (by decide) hrm.2⟩) (pvC 25 (by decide) (cE_25 cI cA a (_)) rfl hP hK hN) rfl rfl hl.1 rfl (lv_room (Nat.le_of_ble_eq_true rfl)) dX6_bound_116 ⟨Nat.zero_le _, Nat.zero_le _⟩) (fun rv23 => ?_)
                      obtain ⟨g24, hf⟩ := gd hf
                      obtain ⟨σ25, hσ25, hf⟩ := nxe hf
                      refine x_iast (x := v23) hx hb hi hK hP hS 24 0 (by decide) (cE_24 cI cA a) (by decide) rfl g24 dX6_bound_119 (fun H locs hP hS => ?_)
                      rw [← hσ25] at hP
                      have hRσ25 : Rg σ25 := by rw [hσ25]; exact Rg_up hRσ4 rv23
                      obtain ⟨g26, hf⟩ := gd hf
                      refine lv_iinc (v := iN (v3 + 1)) (lv' := [(4, .int (iN (v3 + 1))), (6, .int (iN x2)), (5, .int (iN 1)), (0, .ref (a 0)), (1, .int (iN x1)), (2, .int (iN x2)), (3, .int (iN x3))]) hx hb dX6_bound_120 hl (k := 6) rfl (iN_add v3 1) (by decide) rfl (fun ls hl => ?_)
                      refine lv_goto (tgt := 36) hx hb dX6_bound_123 (by decide) ?_
                      exact ih0 _ _ hRσ25 g26 hf _ _ _ hP hS (lv_sub hl [3, 4, 5, 6, 0] rfl)
          refine L_fX6_bound_0_L36 _ (fun σ32 v31 hRσ32 rv31 hf H locs ls hP hS hl => ?_) _ _ _ hR (by decide) hf _ _ _ hP hS (lv_sub hl [1, 2, 3, 4, 0] rfl)
          refine lv_aload_n hx hb dX6_bound_126 rfl (lv_at hl 0 rfl) ?_
          refine x_get (C := RX6) (T := TX6) (NF := 6) (v := .ref (a 25)) hx hb hts iX6 hown hK hP 0 (by decide) (cE_0 cI cA a (_)) rfl 3 (by decide) fl31 rfl dX6_bound_127 ?_
          refine lv_aload_n hx hb dX6_bound_130 rfl (lv_at hl 0 rfl) ?_
          refine x_get (C := RX6) (T := TX6) (NF := 6) (v := .ref (a 23)) hx hb hts iX6 hown hK hP 0 (by decide) (cE_0 cI cA a (_)) rfl 2 (by decide) fl25 rfl dX6_bound_131 ?_
          obtain ⟨v33, hv33, hf⟩ := bd hf
          refine x_callP (va_runV (As := [.ref (a 23)]) (rest := []) ⟨hx, hb, hml, hown, hts⟩ (kX5_find_25_23 l dC dI cI cA a σ32  v33 hv33 hRσ32 ) (cwV 1 hts gX6_bound_X5_find rfl rfl rfl hX5_find_d ⟨Nat.le_trans (by decide) hrm.1, Nat.le_trans (by decide) hrm.2⟩) (pvC 25 (by decide) (cE_25 cI cA a (_)) rfl hP hK hN) rfl rfl hl.1 rfl (lv_room (Nat.le_of_ble_eq_true rfl)) dX6_bound_134 ⟨Nat.zero_le _, Nat.zero_le _⟩) (fun rv33 => ?_)
          rw [← hQQ]
          exact x_iretM hx hb hr (Option.some.inj hf) rv33 hRσ32 hP hS hlocks dX6_bound_137
        · replace hf := (if_pos c34).symm.trans hf
          refine lv_iconst (v := iN (-1)) hx hb dX6_bound_31 rfl ?_
          rw [← hQQ]
          exact x_iretM hx hb hr (Option.some.inj hf) (by decide) hR hP hS hlocks dX6_bound_32
def fX5_isBehind_25_L14 (σ : Mem) (x1 : Int) (x2 : Int) (ex0 : Int → Option Int) : Nat → Int → Option Int
  | 0, _ => none
  | n0 + 1, v3 => if v3 < (σ 1 3) then if rng ((x2 * 6) + v3) then if (0 : Int) ≤ ((x2 * 6) + v3) ∧ (((x2 * 6) + v3) : Int) < 1296 then if rng ((x1 * 6) + v3) then if (0 : Int) ≤ ((x1 * 6) + v3) ∧ (((x1 * 6) + v3) : Int) < 1296 then if (σ 27 ((x2 * 6) + v3)) < (σ 27 ((x1 * 6) + v3)) then some 0 else if rng (v3 + 1) then fX5_isBehind_25_L14 σ x1 x2 ex0 n0 (v3 + 1) else none else none else none else none else none else ex0 v3
def fX5_isBehind_25 (σ : Mem) (x1 : Int) (x2 : Int) : Option Int := if rng (x1 * 6) then if rng (x2 * 6) then fX5_isBehind_25_L14 σ x1 x2 (fun v11 => if x1 = x2 then some 0 else some 1) FU 0 else none else none
set_option maxHeartbeats 4000000 in
set_option maxRecDepth 100000 in
theorem kX5_isBehind_25 (l : Launch) (dC : Nat → ClassId) (dI : Nat → Nat → Nat) (cI : ClassId) (cA : ClassId) (a : Nat → Nat) (σ : Mem) (x1 : Int) (x2 : Int) (r : Int) (hf : fX5_isBehind_25 σ x1 x2 = some r) (hR : Rg σ) (rx1 : rng x1) (rx2 : rng x2) : Met l yX5_isBehind wsX5_isBehind ({ frames := 0, cells := 0, slots := 0, locals := 0 }) (va_Pc [.ref (a 25), .int (iN x1), .int (iN x2)] (preC dC dI cI cA a σ)) (qP r) 0 0 (fun _ => False) := by
  refine Met.ofW (cc := cX5_isBehind) (maxL := 6) (ret := (some .boolean)) (by decide) rfl ?_
  intro p e s m args below meth c s₁ B hml hv
  obtain ⟨hargs, hP, hK, hN⟩ := hv
  have hx := B.exec
  have hb := B.bytes
  have hr := B.returns
  have hts := atoms_spec (ws := wsX5_isBehind) B.pre
  have hown : s.vm.findClass RX5 = some m.cls := findClass_of_methodNamed B.named
  have hlocks := B.notSynchronized
  have iX1 : ∀ w ∈ wsX10, w ∈ wsX5_isBehind := by decide +kernel
  have iX5 : ∀ w ∈ wsX50, w ∈ wsX5_isBehind := by decide +kernel
  have fl15 := hts (.fieldLink RX5 15 "MatchHall$Stables" "places" "[I") (by decide +kernel)
  have fl18 := hts (.fieldLink RX5 18 "MatchHall$Stables" "hall" "LMatchHall$Hall;") (by decide +kernel)
  have fn37 := va_Nw.use (A := args) rfl (hN (.fieldLinkNest RX5 37 "MatchHall$Hall" "residents" "I" "MatchHall") (by decide +kernel))
  have hrm : 0 ≤ (headSpec wsX5_isBehind ({ frames := 0, cells := 0, slots := 0, locals := 0 })).room.frames ∧ 0 ≤ (headSpec wsX5_isBehind ({ frames := 0, cells := 0, slots := 0, locals := 0 })).room.locals := ⟨Nat.le_refl _, Nat.le_refl _⟩
  generalize (headSpec wsX5_isBehind ({ frames := 0, cells := 0, slots := 0, locals := 0 })).room = RR at hrm ⊢
  have hl := lv_entry ([.ref (a 25), .int (iN x1), .int (iN x2)]) (n := 6) (Nat.le_of_ble_eq_true rfl)
  rw [show entryFrame m args 6 = entryFrame m ([.ref (a 25), .int (iN x1), .int (iN x2)] : List Value).toArray 6 from by rw [hargs], lg_entry_eq]
  generalize (lg_sl ([.ref (a 25), .int (iN x1), .int (iN x2)]) ++ List.replicate (6 - (lg_sl ([.ref (a 25), .int (iN x1), .int (iN x2)])).length) Slot.unset).toArray = ls at hl ⊢
  have hl : lv_has ls 6 [(0, .ref (a 25)), (1, .int (iN x1)), (2, .int (iN x2))] := hl
  generalize hQQ : MQ below (qP r) args s 0 0 (fun _ => False) = QQ
  refine lv_iload_n hx hb dX5_isBehind_0 rfl (lv_at hl 1 rfl) ?_
  refine lv_bipush (v := iN 6) hx hb dX5_isBehind_1 (by decide) ?_
  obtain ⟨g1, hf⟩ := gd hf
  refine x_imul hx hb dX5_isBehind_3 ?_
  refine lv_istore_n (lv' := [(3, .int (iN (x1 * 6))), (0, .ref (a 25)), (1, .int (iN x1)), (2, .int (iN x2))]) hx hb dX5_isBehind_4 rfl hl (by decide) rfl (fun ls hl => ?_)
  refine lv_iload_n hx hb dX5_isBehind_5 rfl (lv_at hl 3 rfl) ?_
  refine lv_bipush (v := iN 6) hx hb dX5_isBehind_6 (by decide) ?_
  obtain ⟨g2, hf⟩ := gd hf
  refine x_imul hx hb dX5_isBehind_8 ?_
  refine lv_istore (lv' := [(4, .int (iN (x2 * 6))), (3, .int (iN (x1 * 6))), (0, .ref (a 25)), (1, .int (iN x1)), (2, .int (iN x2))]) hx hb dX5_isBehind_9 hl (by decide) rfl (fun ls hl => ?_)
  refine lv_iconst (v := iN 0) hx hb dX5_isBehind_11 rfl ?_
  refine lv_istore (lv' := [(5, .int (iN 0)), (4, .int (iN (x2 * 6))), (3, .int (iN (x1 * 6))), (0, .ref (a 25)), (1, .int (iN x1)), (2, .int (iN x2))]) hx hb dX5_isBehind_12 hl (by decide) rfl (fun ls hl => ?_)
  have L_fX5_isBehind_25_L14 : ∀ (EX0 : Int → Option Int), (∀ (v3 : Int), rng v3 → EX0 v3 = some r → ∀ ls, lv_has ls 6 [(0, .ref (a 25)), (1, .int (iN x1)), (2, .int (iN x2)), (3, .int (iN (x1 * 6))), (4, .int (iN (x2 * 6))), (5, .int (iN v3))] → W p l e RR s m args below meth c s.heap [] 0 0 QQ (F0 m 56 ls [])) → ∀ n0 : Nat, ∀ (v3 : Int), rng v3 → fX5_isBehind_25_L14 σ x1 x2 EX0 n0 v3 = some r → ∀ ls, lv_has ls 6 [(0, .ref (a 25)), (1, .int (iN x1)), (2, .int (iN x2)), (3, .int (iN (x1 * 6))), (4, .int (iN (x2 * 6))), (5, .int (iN v3))] → W p l e RR s m args below meth c s.heap [] 0 0 QQ (F0 m 14 ls []) := by
    intro EX0 hEX0 n0
    induction n0 with
    | zero => intro _ _ hf; cases hf
    | succ n0 ih0 =>
      intro v3 rv3 hf ls hl
      rw [fX5_isBehind_25_L14] at hf
      refine lv_iload hx hb dX5_isBehind_14 (lv_at hl 5 rfl) ?_
      refine lv_aload_n hx hb dX5_isBehind_16 rfl (lv_at hl 0 rfl) ?_
      refine x_get (C := RX5) (T := TX5) (NF := 4) (v := .ref (a 1)) hx hb hts iX5 hown hK hP 25 (by decide) (cE_25 cI cA a (_)) rfl 0 (by decide) fl18 rfl dX5_isBehind_17 ?_
      refine x_getN (C := RX1) (T := TX1) (NF := 5) (v := .int (iN (σ 1 3))) hx hb hts iX1 hown hK hP 1 (by decide) (cE_1 cI cA a (_)) rfl 3 (by decide) fn37 rfl dX5_isBehind_20 ?_
      refine x_icmp_ge (tgt := 56) hx hb rv3 (hR 1 3) dX5_isBehind_23 (by decide) (fun c10 => ?_) (fun c10 => ?_)
      · replace hf := (if_neg c10).symm.trans hf
        exact hEX0 _ rv3 hf _ (lv_sub hl [0, 1, 2, 3, 4, 5] rfl)
      · replace hf := (if_pos c10).symm.trans hf
        refine lv_aload_n hx hb dX5_isBehind_26 rfl (lv_at hl 0 rfl) ?_
        refine x_get (C := RX5) (T := TX5) (NF := 4) (v := .ref (a 27)) hx hb hts iX5 hown hK hP 25 (by decide) (cE_25 cI cA a (_)) rfl 2 (by decide) fl15 rfl dX5_isBehind_27 ?_
        refine lv_iload hx hb dX5_isBehind_30 (lv_at hl 4 rfl) ?_
        refine lv_iload hx hb dX5_isBehind_32 (lv_at hl 5 rfl) ?_
        obtain ⟨g4, hf⟩ := gd hf
        refine x_iadd hx hb dX5_isBehind_34 ?_
        obtain ⟨g5, hf⟩ := gd hf
        refine x_iald hx hb hK hP 27 0 (by decide) (cE_27 cI cA a (_)) (by decide) rfl g5 dX5_isBehind_35 ?_
        refine lv_aload_n hx hb dX5_isBehind_36 rfl (lv_at hl 0 rfl) ?_
        refine x_get (C := RX5) (T := TX5) (NF := 4) (v := .ref (a 27)) hx hb hts iX5 hown hK hP 25 (by decide) (cE_25 cI cA a (_)) rfl 2 (by decide) fl15 rfl dX5_isBehind_37 ?_
        refine lv_iload_n hx hb dX5_isBehind_40 rfl (lv_at hl 3 rfl) ?_
        refine lv_iload hx hb dX5_isBehind_41 (lv_at hl 5 rfl) ?_
        obtain ⟨g6, hf⟩ := gd hf
        refine x_iadd hx hb dX5_isBehind_43 ?_
        obtain ⟨g7, hf⟩ := gd hf
        refine x_iald hx hb hK hP 27 0 (by decide) (cE_27 cI cA a (_)) (by decide) rfl g7 dX5_isBehind_44 ?_
        refine x_icmp_ge (tgt := 50) hx hb (hR 27 ((x2 * 6) + v3)) (hR 27 ((x1 * 6) + v3)) dX5_isBehind_45 (by decide) (fun c9 => ?_) (fun c9 => ?_)
        · replace hf := (if_neg c9).symm.trans hf
          obtain ⟨g8, hf⟩ := gd hf
          refine lv_iinc (v := iN (v3 + 1)) (lv' := [(5, .int (iN (v3 + 1))), (0, .ref (a 25)), (1, .int (iN x1)), (2, .int (iN x2)), (3, .int (iN (x1 * 6))), (4, .int (iN (x2 * 6)))]) hx hb dX5_isBehind_50 hl (k := 5) rfl (iN_add v3 1) (by decide) rfl (fun ls hl => ?_)
          refine lv_goto (tgt := 14) hx hb dX5_isBehind_53 (by decide) ?_
          exact ih0 _ g8 hf _ (lv_sub hl [1, 2, 3, 4, 5, 0] rfl)
        · replace hf := (if_pos c9).symm.trans hf
          refine lv_iconst (v := iN 0) hx hb dX5_isBehind_48 rfl ?_
          rw [← hQQ]
          exact x_zret hx hb hr (by decide) (Option.some.inj hf) (by decide) hlocks dX5_isBehind_49
  refine L_fX5_isBehind_25_L14 _ (fun v11 rv11 hf ls hl => ?_) _ _ (by decide) hf _ (lv_sub hl [3, 4, 5, 2, 1, 0] rfl)
  refine lv_iload_n hx hb dX5_isBehind_56 rfl (lv_at hl 1 rfl) ?_
  refine lv_iload_n hx hb dX5_isBehind_57 rfl (lv_at hl 2 rfl) ?_
  refine x_icmp_eq (tgt := 65) hx hb rx1 rx2 dX5_isBehind_58 (by decide) (fun c12 => ?_) (fun c12 => ?_)
  · replace hf := (if_pos c12).symm.trans hf
    refine lv_iconst (v := iN 0) hx hb dX5_isBehind_65 rfl ?_
    rw [← hQQ]
    exact x_zret hx hb hr (by decide) (Option.some.inj hf) (by decide) hlocks dX5_isBehind_66
  · replace hf := (if_neg c12).symm.trans hf
    refine lv_iconst (v := iN 1) hx hb dX5_isBehind_61 rfl ?_
    refine lv_goto (tgt := 66) hx hb dX5_isBehind_62 (by decide) ?_
    rw [← hQQ]
    exact x_zret hx hb hr (by decide) (Option.some.inj hf) (by decide) hlocks dX5_isBehind_66
def fX6_behind_0 (σ : Mem) (x1 : Int) (x2 : Int) : Option Int := (fX5_has_25 σ x1).bind fun v1 => if v1 = 0 then some (-1) else (fX5_has_25 σ x2).bind fun v2 => if v2 = 0 then some (-1) else (fX5_isBehind_25 σ x1 x2).bind fun v3 => if v3 = 0 then some 0 else some 1
set_option maxHeartbeats 4000000 in
set_option maxRecDepth 100000 in
theorem kX6_behind_0 (l : Launch) (dC : Nat → ClassId) (dI : Nat → Nat → Nat) (cI : ClassId) (cA : ClassId) (a : Nat → Nat) (σ : Mem) (x1 : Int) (x2 : Int) (r : Int) (hf : fX6_behind_0 σ x1 x2 = some r) (hR : Rg σ) (rx1 : rng x1) (rx2 : rng x2) : Met l yX6_behind wsX6_behind ({ frames := 1, cells := 0, slots := 0, locals := 25 }) (va_Pc [.ref (a 0), .int (iN x1), .int (iN x2)] (preC dC dI cI cA a σ)) (qP r) 0 0 (fun _ => False) := by
  refine Met.ofW (cc := cX6_behind) (maxL := 3) (ret := (some .int)) (by decide) rfl ?_
  intro p e s m args below meth c s₁ B hml hv
  obtain ⟨hargs, hP, hK, hN⟩ := hv
  have hx := B.exec
  have hb := B.bytes
  have hr := B.returns
  have hts := atoms_spec (ws := wsX6_behind) B.pre
  have hown : s.vm.findClass RX6 = some m.cls := findClass_of_methodNamed B.named
  have hlocks := B.notSynchronized
  have iX6 : ∀ w ∈ wsX60, w ∈ wsX6_behind := by decide +kernel
  have fl31 := hts (.fieldLink RX6 31 "MatchHall" "stables" "LMatchHall$Stables;") (by decide +kernel)
  have hrm : 1 ≤ (headSpec wsX6_behind ({ frames := 1, cells := 0, slots := 0, locals := 25 })).room.frames ∧ 25 ≤ (headSpec wsX6_behind ({ frames := 1, cells := 0, slots := 0, locals := 25 })).room.locals := ⟨Nat.le_refl _, Nat.le_refl _⟩
  generalize (headSpec wsX6_behind ({ frames := 1, cells := 0, slots := 0, locals := 25 })).room = RR at hrm ⊢
  have hl := lv_entry ([.ref (a 0), .int (iN x1), .int (iN x2)]) (n := 3) (Nat.le_of_ble_eq_true rfl)
  rw [show entryFrame m args 3 = entryFrame m ([.ref (a 0), .int (iN x1), .int (iN x2)] : List Value).toArray 3 from by rw [hargs], lg_entry_eq]
  generalize (lg_sl ([.ref (a 0), .int (iN x1), .int (iN x2)]) ++ List.replicate (3 - (lg_sl ([.ref (a 0), .int (iN x1), .int (iN x2)])).length) Slot.unset).toArray = ls at hl ⊢
  have hl : lv_has ls 3 [(0, .ref (a 0)), (1, .int (iN x1)), (2, .int (iN x2))] := hl
  generalize hQQ : MQ below (qP r) args s 0 0 (fun _ => False) = QQ
  refine lv_aload_n hx hb dX6_behind_0 rfl (lv_at hl 0 rfl) ?_
  refine x_get (C := RX6) (T := TX6) (NF := 6) (v := .ref (a 25)) hx hb hts iX6 hown hK hP 0 (by decide) (cE_0 cI cA a (_)) rfl 3 (by decide) fl31 rfl dX6_behind_1 ?_
  refine lv_iload_n hx hb dX6_behind_4 rfl (lv_at hl 1 rfl) ?_
  obtain ⟨v1, hv1, hf⟩ := bd hf
  refine x_callP (va_runV (As := [.int (iN x1)]) (rest := []) ⟨hx, hb, hml, hown, hts⟩ (kX5_has_25 l dC dI cI cA a σ x1 v1 hv1 hR rx1) (cwV 1 hts gX6_behind_X5_has rfl rfl rfl hX5_has_d ⟨Nat.le_trans (by decide) hrm.1, Nat.le_trans (by decide) hrm.2⟩) (pvC 25 (by decide) (cE_25 cI cA a (_)) rfl hP hK hN) rfl rfl hl.1 rfl (lv_room (Nat.le_of_ble_eq_true rfl)) dX6_behind_5 ⟨Nat.zero_le _, Nat.zero_le _⟩) (fun rv1 => ?_)
  refine x_if_eq (tgt := 22) hx hb rv1 dX6_behind_8 (by decide) (fun c6 => ?_) (fun c6 => ?_)
  · replace hf := (if_pos c6).symm.trans hf
    refine lv_iconst (v := iN (-1)) hx hb dX6_behind_22 rfl ?_
    rw [← hQQ]
    exact x_iret hx hb hr (Option.some.inj hf) (by decide) hlocks dX6_behind_23
  · replace hf := (if_neg c6).symm.trans hf
    refine lv_aload_n hx hb dX6_behind_11 rfl (lv_at hl 0 rfl) ?_
    refine x_get (C := RX6) (T := TX6) (NF := 6) (v := .ref (a 25)) hx hb hts iX6 hown hK hP 0 (by decide) (cE_0 cI cA a (_)) rfl 3 (by decide) fl31 rfl dX6_behind_12 ?_
    refine lv_iload_n hx hb dX6_behind_15 rfl (lv_at hl 2 rfl) ?_
    obtain ⟨v2, hv2, hf⟩ := bd hf
    refine x_callP (va_runV (As := [.int (iN x2)]) (rest := []) ⟨hx, hb, hml, hown, hts⟩ (kX5_has_25 l dC dI cI cA a σ x2 v2 hv2 hR rx2) (cwV 1 hts gX6_behind_X5_has rfl rfl rfl hX5_has_d ⟨Nat.le_trans (by decide) hrm.1, Nat.le_trans (by decide) hrm.2⟩) (pvC 25 (by decide) (cE_25 cI cA a (_)) rfl hP hK hN) rfl rfl hl.1 rfl (lv_room (Nat.le_of_ble_eq_true rfl)) dX6_behind_16 ⟨Nat.zero_le _, Nat.zero_le _⟩) (fun rv2 => ?_)
    refine x_if_ne (tgt := 24) hx hb rv2 dX6_behind_19 (by decide) (fun c5 => ?_) (fun c5 => ?_)
    · replace hf := (if_neg c5).symm.trans hf
      refine lv_aload_n hx hb dX6_behind_24 rfl (lv_at hl 0 rfl) ?_
      refine x_get (C := RX6) (T := TX6) (NF := 6) (v := .ref (a 25)) hx hb hts iX6 hown hK hP 0 (by decide) (cE_0 cI cA a (_)) rfl 3 (by decide) fl31 rfl dX6_behind_25 ?_
      refine lv_iload_n hx hb dX6_behind_28 rfl (lv_at hl 1 rfl) ?_
      refine lv_iload_n hx hb dX6_behind_29 rfl (lv_at hl 2 rfl) ?_
      obtain ⟨v3, hv3, hf⟩ := bd hf
      refine x_callP (va_runV (As := [.int (iN x1), .int (iN x2)]) (rest := []) ⟨hx, hb, hml, hown, hts⟩ (kX5_isBehind_25 l dC dI cI cA a σ x1 x2 v3 hv3 hR rx1 rx2) (cwV 2 hts gX6_behind_X5_isBehind rfl rfl rfl hX5_isBehind_d ⟨Nat.le_trans (by decide) hrm.1, Nat.le_trans (by decide) hrm.2⟩) (pvC 25 (by decide) (cE_25 cI cA a (_)) rfl hP hK hN) rfl rfl hl.1 rfl (lv_room (Nat.le_of_ble_eq_true rfl)) dX6_behind_30 ⟨Nat.zero_le _, Nat.zero_le _⟩) (fun rv3 => ?_)
      refine x_if_eq (tgt := 40) hx hb rv3 dX6_behind_33 (by decide) (fun c4 => ?_) (fun c4 => ?_)
      · replace hf := (if_pos c4).symm.trans hf
        refine lv_iconst (v := iN 0) hx hb dX6_behind_40 rfl ?_
        rw [← hQQ]
        exact x_iret hx hb hr (Option.some.inj hf) (by decide) hlocks dX6_behind_41
      · replace hf := (if_neg c4).symm.trans hf
        refine lv_iconst (v := iN 1) hx hb dX6_behind_36 rfl ?_
        refine lv_goto (tgt := 41) hx hb dX6_behind_37 (by decide) ?_
        rw [← hQQ]
        exact x_iret hx hb hr (Option.some.inj hf) (by decide) hlocks dX6_behind_41
    · replace hf := (if_pos c5).symm.trans hf
      refine lv_iconst (v := iN (-1)) hx hb dX6_behind_22 rfl ?_
      rw [← hQQ]
      exact x_iret hx hb hr (Option.some.inj hf) (by decide) hlocks dX6_behind_23
def fX4_has_28 (σ : Mem) (x1 : Int) : Option Int := if x1 < 0 then some 0 else if x1 < (σ 28 5) then some 1 else some 0
set_option maxHeartbeats 4000000 in
set_option maxRecDepth 100000 in
theorem kX4_has_28 (l : Launch) (dC : Nat → ClassId) (dI : Nat → Nat → Nat) (cI : ClassId) (cA : ClassId) (a : Nat → Nat) (σ : Mem) (x1 : Int) (r : Int) (hf : fX4_has_28 σ x1 = some r) (hR : Rg σ) (rx1 : rng x1) : Met l yX4_has wsX4_has ({ frames := 0, cells := 0, slots := 0, locals := 0 }) (va_Pc [.ref (a 28), .int (iN x1)] (preC dC dI cI cA a σ)) (qP r) 0 0 (fun _ => False) := by
  refine Met.ofW (cc := cX4_has) (maxL := 2) (ret := (some .boolean)) (by decide) rfl ?_
  intro p e s m args below meth c s₁ B hml hv
  obtain ⟨hargs, hP, hK, hN⟩ := hv
  have hx := B.exec
  have hb := B.bytes
  have hr := B.returns
  have hts := atoms_spec (ws := wsX4_has) B.pre
  have hown : s.vm.findClass RX4 = some m.cls := findClass_of_methodNamed B.named
  have hlocks := B.notSynchronized
  have iX4 : ∀ w ∈ wsX40, w ∈ wsX4_has := by decide +kernel
  have fl28 := hts (.fieldLink RX4 28 "MatchHall$Rotations" "size" "I") (by decide +kernel)
  have hrm : 0 ≤ (headSpec wsX4_has ({ frames := 0, cells := 0, slots := 0, locals := 0 })).room.frames ∧ 0 ≤ (headSpec wsX4_has ({ frames := 0, cells := 0, slots := 0, locals := 0 })).room.locals := ⟨Nat.le_refl _, Nat.le_refl _⟩
  generalize (headSpec wsX4_has ({ frames := 0, cells := 0, slots := 0, locals := 0 })).room = RR at hrm ⊢
  have hl := lv_entry ([.ref (a 28), .int (iN x1)]) (n := 2) (Nat.le_of_ble_eq_true rfl)
  rw [show entryFrame m args 2 = entryFrame m ([.ref (a 28), .int (iN x1)] : List Value).toArray 2 from by rw [hargs], lg_entry_eq]
  generalize (lg_sl ([.ref (a 28), .int (iN x1)]) ++ List.replicate (2 - (lg_sl ([.ref (a 28), .int (iN x1)])).length) Slot.unset).toArray = ls at hl ⊢
  have hl : lv_has ls 2 [(0, .ref (a 28)), (1, .int (iN x1))] := hl
  generalize hQQ : MQ below (qP r) args s 0 0 (fun _ => False) = QQ
  refine lv_iload_n hx hb dX4_has_0 rfl (lv_at hl 1 rfl) ?_
  refine x_if_lt (tgt := 16) hx hb rx1 dX4_has_1 (by decide) (fun c2 => ?_) (fun c2 => ?_)
  · replace hf := (if_pos c2).symm.trans hf
    refine lv_iconst (v := iN 0) hx hb dX4_has_16 rfl ?_
    rw [← hQQ]
    exact x_zret hx hb hr (by decide) (Option.some.inj hf) (by decide) hlocks dX4_has_17
  · replace hf := (if_neg c2).symm.trans hf
    refine lv_iload_n hx hb dX4_has_4 rfl (lv_at hl 1 rfl) ?_
    refine lv_aload_n hx hb dX4_has_5 rfl (lv_at hl 0 rfl) ?_
    refine x_get (C := RX4) (T := TX4) (NF := 6) (v := .int (iN (σ 28 5))) hx hb hts iX4 hown hK hP 28 (by decide) (cE_28 cI cA a (_)) rfl 5 (by decide) fl28 rfl dX4_has_6 ?_
    refine x_icmp_ge (tgt := 16) hx hb rx1 (hR 28 5) dX4_has_9 (by decide) (fun c1 => ?_) (fun c1 => ?_)
    · replace hf := (if_neg c1).symm.trans hf
      refine lv_iconst (v := iN 0) hx hb dX4_has_16 rfl ?_
      rw [← hQQ]
      exact x_zret hx hb hr (by decide) (Option.some.inj hf) (by decide) hlocks dX4_has_17
    · replace hf := (if_pos c1).symm.trans hf
      refine lv_iconst (v := iN 1) hx hb dX4_has_12 rfl ?_
      refine lv_goto (tgt := 17) hx hb dX4_has_13 (by decide) ?_
      rw [← hQQ]
      exact x_zret hx hb hr (by decide) (Option.some.inj hf) (by decide) hlocks dX4_has_17
def fX4_moverOf_28_L6 (σ : Mem) (x1 : Int) (x2 : Int) (x3 : Int) (ex0 : Int → Int → Option Int) : Nat → Int → Int → Option Int
  | 0, _, _ => none
  | n0 + 1, v1, v2 => if v2 < (σ 1 3) then (fX5_hospitalAt_25 σ x1 v2).bind fun v3 => (fX5_hospitalAt_25 σ x2 v2).bind fun v4 => if v3 = v4 then if rng (v2 + 1) then fX4_moverOf_28_L6 σ x1 x2 x3 ex0 n0 v1 (v2 + 1) else none else if v1 = x3 then some v2 else if rng (v1 + 1) then if rng (v2 + 1) then fX4_moverOf_28_L6 σ x1 x2 x3 ex0 n0 (v1 + 1) (v2 + 1) else none else none else ex0 v1 v2
def fX4_moverOf_28 (σ : Mem) (x1 : Int) (x2 : Int) (x3 : Int) : Option Int := fX4_moverOf_28_L6 σ x1 x2 x3 (fun v11 v12 => some (-1)) FU 0 0
set_option maxHeartbeats 4000000 in
set_option maxRecDepth 100000 in
theorem kX4_moverOf_28 (l : Launch) (dC : Nat → ClassId) (dI : Nat → Nat → Nat) (cI : ClassId) (cA : ClassId) (a : Nat → Nat) (σ : Mem) (x1 : Int) (x2 : Int) (x3 : Int) (r : Int) (hf : fX4_moverOf_28 σ x1 x2 x3 = some r) (hR : Rg σ) (rx1 : rng x1) (rx2 : rng x2) (rx3 : rng x3) : Met l yX4_moverOf wsX4_moverOf ({ frames := 1, cells := 0, slots := 0, locals := 22 }) (va_Pc [.ref (a 28), .int (iN x1), .int (iN x2), .int (iN x3)] (preC dC dI cI cA a σ)) (qP r) 0 0 (fun _ => False) := by
  refine Met.ofW (cc := cX4_moverOf) (maxL := 6) (ret := (some .int)) (by decide) rfl ?_
  intro p e s m args below meth c s₁ B hml hv
  obtain ⟨hargs, hP, hK, hN⟩ := hv
  have hx := B.exec
  have hb := B.bytes
  have hr := B.returns
  have hts := atoms_spec (ws := wsX4_moverOf) B.pre
  have hown : s.vm.findClass RX4 = some m.cls := findClass_of_methodNamed B.named
  have hlocks := B.notSynchronized
  have iX1 : ∀ w ∈ wsX10, w ∈ wsX4_moverOf := by decide +kernel
  have iX4 : ∀ w ∈ wsX40, w ∈ wsX4_moverOf := by decide +kernel
  have iX5 : ∀ w ∈ wsX50, w ∈ wsX4_moverOf := by decide +kernel
  have fl24 := hts (.fieldLink RX4 24 "MatchHall$Rotations" "stables" "LMatchHall$Stables;") (by decide +kernel)
  have fn65 := va_Nw.use (A := args) rfl (hN (.fieldLinkNest RX4 65 "MatchHall$Stables" "hall" "LMatchHall$Hall;" "MatchHall") (by decide +kernel))
  have fn69 := va_Nw.use (A := args) rfl (hN (.fieldLinkNest RX4 69 "MatchHall$Hall" "residents" "I" "MatchHall") (by decide +kernel))
  have hrm : 1 ≤ (headSpec wsX4_moverOf ({ frames := 1, cells := 0, slots := 0, locals := 22 })).room.frames ∧ 22 ≤ (headSpec wsX4_moverOf ({ frames := 1, cells := 0, slots := 0, locals := 22 })).room.locals := ⟨Nat.le_refl _, Nat.le_refl _⟩
  generalize (headSpec wsX4_moverOf ({ frames := 1, cells := 0, slots := 0, locals := 22 })).room = RR at hrm ⊢
  have hl := lv_entry ([.ref (a 28), .int (iN x1), .int (iN x2), .int (iN x3)]) (n := 6) (Nat.le_of_ble_eq_true rfl)
  rw [show entryFrame m args 6 = entryFrame m ([.ref (a 28), .int (iN x1), .int (iN x2), .int (iN x3)] : List Value).toArray 6 from by rw [hargs], lg_entry_eq]
  generalize (lg_sl ([.ref (a 28), .int (iN x1), .int (iN x2), .int (iN x3)]) ++ List.replicate (6 - (lg_sl ([.ref (a 28), .int (iN x1), .int (iN x2), .int (iN x3)])).length) Slot.unset).toArray = ls at hl ⊢
  have hl : lv_has ls 6 [(0, .ref (a 28)), (1, .int (iN x1)), (2, .int (iN x2)), (3, .int (iN x3))] := hl
  generalize hQQ : MQ below (qP r) args s 0 0 (fun _ => False) = QQ
  refine lv_iconst (v := iN 0) hx hb dX4_moverOf_0 rfl ?_
  refine lv_istore (lv' := [(4, .int (iN 0)), (0, .ref (a 28)), (1, .int (iN x1)), (2, .int (iN x2)), (3, .int (iN x3))]) hx hb dX4_moverOf_1 hl (by decide) rfl (fun ls hl => ?_)
  refine lv_iconst (v := iN 0) hx hb dX4_moverOf_3 rfl ?_
  refine lv_istore (lv' := [(5, .int (iN 0)), (4, .int (iN 0)), (0, .ref (a 28)), (1, .int (iN x1)), (2, .int (iN x2)), (3, .int (iN x3))]) hx hb dX4_moverOf_4 hl (by decide) rfl (fun ls hl => ?_)
  have L_fX4_moverOf_28_L6 : ∀ (EX0 : Int → Int → Option Int), (∀ (v1 : Int) (v2 : Int), rng v1 → rng v2 → EX0 v1 v2 = some r → ∀ ls, lv_has ls 6 [(0, .ref (a 28)), (1, .int (iN x1)), (2, .int (iN x2)), (3, .int (iN x3)), (4, .int (iN v1)), (5, .int (iN v2))] → W p l e RR s m args below meth c s.heap [] 0 0 QQ (F0 m 62 ls [])) → ∀ n0 : Nat, ∀ (v1 : Int) (v2 : Int), rng v1 → rng v2 → fX4_moverOf_28_L6 σ x1 x2 x3 EX0 n0 v1 v2 = some r → ∀ ls, lv_has ls 6 [(0, .ref (a 28)), (1, .int (iN x1)), (2, .int (iN x2)), (3, .int (iN x3)), (4, .int (iN v1)), (5, .int (iN v2))] → W p l e RR s m args below meth c s.heap [] 0 0 QQ (F0 m 6 ls []) := by
    intro EX0 hEX0 n0
    induction n0 with
    | zero => intro _ _ _ _ hf; cases hf
    | succ n0 ih0 =>
      intro v1 v2 rv1 rv2 hf ls hl
      rw [fX4_moverOf_28_L6] at hf
      refine lv_iload hx hb dX4_moverOf_6 (lv_at hl 5 rfl) ?_
      refine lv_aload_n hx hb dX4_moverOf_8 rfl (lv_at hl 0 rfl) ?_
      refine x_get (C := RX4) (T := TX4) (NF := 6) (v := .ref (a 25)) hx hb hts iX4 hown hK hP 28 (by decide) (cE_28 cI cA a (_)) rfl 0 (by decide) fl24 rfl dX4_moverOf_9 ?_
      refine x_getN (C := RX5) (T := TX5) (NF := 4) (v := .ref (a 1)) hx hb hts iX5 hown hK hP 25 (by decide) (cE_25 cI cA a (_)) rfl 0 (by decide) fn65 rfl dX4_moverOf_12 ?_
      refine x_getN (C := RX1) (T := TX1) (NF := 5) (v := .int (iN (σ 1 3))) hx hb hts iX1 hown hK hP 1 (by decide) (cE_1 cI cA a (_)) rfl 3 (by decide) fn69 rfl dX4_moverOf_15 ?_
      refine x_icmp_ge (tgt := 62) hx hb rv2 (hR 1 3) dX4_moverOf_18 (by decide) (fun c10 => ?_) (fun c10 => ?_)
      · replace hf := (if_neg c10).symm.trans hf
        exact hEX0 _ _ rv1 rv2 hf _ (lv_sub hl [0, 1, 2, 3, 4, 5] rfl)
      · replace hf := (if_pos c10).symm.trans hf
        refine lv_aload_n hx hb dX4_moverOf_21 rfl (lv_at hl 0 rfl) ?_
        refine x_get (C := RX4) (T := TX4) (NF := 6) (v := .ref (a 25)) hx hb hts iX4 hown hK hP 28 (by decide) (cE_28 cI cA a (_)) rfl 0 (by decide) fl24 rfl dX4_moverOf_22 ?_
        refine lv_iload_n hx hb dX4_moverOf_25 rfl (lv_at hl 1 rfl) ?_
        refine lv_iload hx hb dX4_moverOf_26 (lv_at hl 5 rfl) ?_
        obtain ⟨v3, hv3, hf⟩ := bd hf
        refine x_callP (va_runV (As := [.int (iN x1), .int (iN v2)]) (rest := []) ⟨hx, hb, hml, hown, hts⟩ (kX5_hospitalAt_25 l dC dI cI cA a σ x1 v2 v3 hv3 hR rx1 rv2) (cwV 2 hts gX4_moverOf_X5_hospitalAt rfl rfl rfl hX5_hospitalAt_d ⟨Nat.le_trans (by decide) hrm.1, Nat.le_trans (by decide) hrm.2⟩) (pvC 25 (by decide) (cE_25 cI cA a (_)) rfl hP hK hN) rfl rfl hl.1 rfl (lv_room (Nat.le_of_ble_eq_true rfl)) dX4_moverOf_28 ⟨Nat.zero_le _, Nat.zero_le _⟩) (fun rv3 => ?_)
        refine lv_aload_n hx hb dX4_moverOf_31 rfl (lv_at hl 0 rfl) ?_
        refine x_get (C := RX4) (T := TX4) (NF := 6) (v := .ref (a 25)) hx hb hts iX4 hown hK hP 28 (by decide) (cE_28 cI cA a (_)) rfl 0 (by decide) fl24 rfl dX4_moverOf_32 ?_
        refine lv_iload_n hx hb dX4_moverOf_35 rfl (lv_at hl 2 rfl) ?_
        refine lv_iload hx hb dX4_moverOf_36 (lv_at hl 5 rfl) ?_
        obtain ⟨v4, hv4, hf⟩ := bd hf
        refine x_callP (va_runV (As := [.int (iN x2), .int (iN v2)]) (rest := [.int (iN v3)]) ⟨hx, hb, hml, hown, hts⟩ (kX5_hospitalAt_25 l dC dI cI cA a σ x2 v2 v4 hv4 hR rx2 rv2) (cwV 2 hts gX4_moverOf_X5_hospitalAt rfl rfl rfl hX5_hospitalAt_d ⟨Nat.le_trans (by decide) hrm.1, Nat.le_trans (by decide) hrm.2⟩) (pvC 25 (by decide) (cE_25 cI cA a (_)) rfl hP hK hN) rfl rfl hl.1 rfl (lv_room (Nat.le_of_ble_eq_true rfl)) dX4_moverOf_38 ⟨Nat.zero_le _, Nat.zero_le _⟩) (fun rv4 => ?_)
        refine x_icmp_eq (tgt := 56) hx hb rv3 rv4 dX4_moverOf_41 (by decide) (fun c9 => ?_) (fun c9 => ?_)
        · replace hf := (if_pos c9).symm.trans hf
          obtain ⟨g5, hf⟩ := gd hf
          refine lv_iinc (v := iN (v2 + 1)) (lv' := [(5, .int (iN (v2 + 1))), (0, .ref (a 28)), (1, .int (iN x1)), (2, .int (iN x2)), (3, .int (iN x3)), (4, .int (iN v1))]) hx hb dX4_moverOf_56 hl (k := 5) rfl (iN_add v2 1) (by decide) rfl (fun ls hl => ?_)
          refine lv_goto (tgt := 6) hx hb dX4_moverOf_59 (by decide) ?_
          exact ih0 _ _ rv1 g5 hf _ (lv_sub hl [1, 2, 3, 4, 5, 0] rfl)
        · replace hf := (if_neg c9).symm.trans hf
          refine lv_iload hx hb dX4_moverOf_44 (lv_at hl 4 rfl) ?_
          refine lv_iload_n hx hb dX4_moverOf_46 rfl (lv_at hl 3 rfl) ?_
          refine x_icmp_ne (tgt := 53) hx hb rv1 rx3 dX4_moverOf_47 (by decide) (fun c8 => ?_) (fun c8 => ?_)
          · replace hf := (if_neg c8).symm.trans hf
            obtain ⟨g6, hf⟩ := gd hf
            refine lv_iinc (v := iN (v1 + 1)) (lv' := [(4, .int (iN (v1 + 1))), (0, .ref (a 28)), (1, .int (iN x1)), (2, .int (iN x2)), (3, .int (iN x3)), (5, .int (iN v2))]) hx hb dX4_moverOf_53 hl (k := 4) rfl (iN_add v1 1) (by decide) rfl (fun ls hl => ?_)
            obtain ⟨g7, hf⟩ := gd hf
            refine lv_iinc (v := iN (v2 + 1)) (lv' := [(5, .int (iN (v2 + 1))), (4, .int (iN (v1 + 1))), (0, .ref (a 28)), (1, .int (iN x1)), (2, .int (iN x2)), (3, .int (iN x3))]) hx hb dX4_moverOf_56 hl (k := 5) rfl (iN_add v2 1) (by decide) rfl (fun ls hl => ?_)
            refine lv_goto (tgt := 6) hx hb dX4_moverOf_59 (by decide) ?_
            exact ih0 _ _ g6 g7 hf _ (lv_sub hl [2, 3, 4, 5, 1, 0] rfl)
          · replace hf := (if_pos c8).symm.trans hf
            refine lv_iload hx hb dX4_moverOf_50 (lv_at hl 5 rfl) ?_
            rw [← hQQ]
            exact x_iret hx hb hr (Option.some.inj hf) rv2 hlocks dX4_moverOf_52
  refine L_fX4_moverOf_28_L6 _ (fun v11 v12 rv11 rv12 hf ls hl => ?_) _ _ _ (by decide) (by decide) hf _ (lv_sub hl [2, 3, 4, 5, 1, 0] rfl)
  refine lv_iconst (v := iN (-1)) hx hb dX4_moverOf_62 rfl ?_
  rw [← hQQ]
  exact x_iret hx hb hr (Option.some.inj hf) (by decide) hlocks dX4_moverOf_63
def fX4_mover_28 (σ : Mem) (x1 : Int) (x2 : Int) : Option Int := if (0 : Int) ≤ x1 ∧ (x1 : Int) < 15 then if (0 : Int) ≤ x1 ∧ (x1 : Int) < 15 then (fX4_moverOf_28 σ (σ 29 x1) (σ 30 x1) x2).bind fun v3 => some v3 else none else none
set_option maxHeartbeats 4000000 in
set_option maxRecDepth 100000 in
theorem kX4_mover_28 (l : Launch) (dC : Nat → ClassId) (dI : Nat → Nat → Nat) (cI : ClassId) (cA : ClassId) (a : Nat → Nat) (σ : Mem) (x1 : Int) (x2 : Int) (r : Int) (hf : fX4_mover_28 σ x1 x2 = some r) (hR : Rg σ) (rx1 : rng x1) (rx2 : rng x2) : Met l yX4_mover wsX4_mover ({ frames := 2, cells := 0, slots := 0, locals := 47 }) (va_Pc [.ref (a 28), .int (iN x1), .int (iN x2)] (preC dC dI cI cA a σ)) (qP r) 0 0 (fun _ => False) := by
  refine Met.ofW (cc := cX4_mover) (maxL := 3) (ret := (some .int)) (by decide) rfl ?_
  intro p e s m args below meth c s₁ B hml hv
  obtain ⟨hargs, hP, hK, hN⟩ := hv
  have hx := B.exec
  have hb := B.bytes
  have hr := B.returns
  have hts := atoms_spec (ws := wsX4_mover) B.pre
  have hown : s.vm.findClass RX4 = some m.cls := findClass_of_methodNamed B.named
  have hlocks := B.notSynchronized
  have iX4 : ∀ w ∈ wsX40, w ∈ wsX4_mover := by decide +kernel
  have fl15 := hts (.fieldLink RX4 15 "MatchHall$Rotations" "to" "[I") (by decide +kernel)
  have fl9 := hts (.fieldLink RX4 9 "MatchHall$Rotations" "from" "[I") (by decide +kernel)
  have hrm : 2 ≤ (headSpec wsX4_mover ({ frames := 2, cells := 0, slots := 0, locals := 47 })).room.frames ∧ 47 ≤ (headSpec wsX4_mover ({ frames := 2, cells := 0, slots := 0, locals := 47 })).room.locals := ⟨Nat.le_refl _, Nat.le_refl _⟩
  generalize (headSpec wsX4_mover ({ frames := 2, cells := 0, slots := 0, locals := 47 })).room = RR at hrm ⊢
  have hl := lv_entry ([.ref (a 28), .int (iN x1), .int (iN x2)]) (n := 3) (Nat.le_of_ble_eq_true rfl)
  rw [show entryFrame m args 3 = entryFrame m ([.ref (a 28), .int (iN x1), .int (iN x2)] : List Value).toArray 3 from by rw [hargs], lg_entry_eq]
  generalize (lg_sl ([.ref (a 28), .int (iN x1), .int (iN x2)]) ++ List.replicate (3 - (lg_sl ([.ref (a 28), .int (iN x1), .int (iN x2)])).length) Slot.unset).toArray = ls at hl ⊢
  have hl : lv_has ls 3 [(0, .ref (a 28)), (1, .int (iN x1)), (2, .int (iN x2))] := hl
  generalize hQQ : MQ below (qP r) args s 0 0 (fun _ => False) = QQ
  refine lv_aload_n hx hb dX4_mover_0 rfl (lv_at hl 0 rfl) ?_
  refine lv_aload_n hx hb dX4_mover_1 rfl (lv_at hl 0 rfl) ?_
  refine x_get (C := RX4) (T := TX4) (NF := 6) (v := .ref (a 29)) hx hb hts iX4 hown hK hP 28 (by decide) (cE_28 cI cA a (_)) rfl 1 (by decide) fl9 rfl dX4_mover_2 ?_
  refine lv_iload_n hx hb dX4_mover_5 rfl (lv_at hl 1 rfl) ?_
  obtain ⟨g1, hf⟩ := gd hf
  refine x_iald hx hb hK hP 29 0 (by decide) (cE_29 cI cA a (_)) (by decide) rfl g1 dX4_mover_6 ?_
  refine lv_aload_n hx hb dX4_mover_7 rfl (lv_at hl 0 rfl) ?_
  refine x_get (C := RX4) (T := TX4) (NF := 6) (v := .ref (a 30)) hx hb hts iX4 hown hK hP 28 (by decide) (cE_28 cI cA a (_)) rfl 2 (by decide) fl15 rfl dX4_mover_8 ?_
  refine lv_iload_n hx hb dX4_mover_11 rfl (lv_at hl 1 rfl) ?_
  obtain ⟨g2, hf⟩ := gd hf
  refine x_iald hx hb hK hP 30 0 (by decide) (cE_30 cI cA a (_)) (by decide) rfl g2 dX4_mover_12 ?_
  refine lv_iload_n hx hb dX4_mover_13 rfl (lv_at hl 2 rfl) ?_
  obtain ⟨v3, hv3, hf⟩ := bd hf
  refine x_callP (va_runV (As := [.int (iN (σ 29 x1)), .int (iN (σ 30 x1)), .int (iN x2)]) (rest := []) ⟨hx, hb, hml, hown, hts⟩ (kX4_moverOf_28 l dC dI cI cA a σ (σ 29 x1) (σ 30 x1) x2 v3 hv3 hR (hR 29 x1) (hR 30 x1) rx2) (cwV 3 hts gX4_mover_X4_moverOf rfl rfl rfl hX4_moverOf_d ⟨Nat.le_trans (by decide) hrm.1, Nat.le_trans (by decide) hrm.2⟩) (pvC 28 (by decide) (cE_28 cI cA a (_)) rfl hP hK hN) rfl rfl hl.1 rfl (lv_room (Nat.le_of_ble_eq_true rfl)) dX4_mover_14 ⟨Nat.zero_le _, Nat.zero_le _⟩) (fun rv3 => ?_)
  rw [← hQQ]
  exact x_iret hx hb hr (Option.some.inj hf) rv3 hlocks dX4_mover_17
def fX6_rotation_0 (σ : Mem) (x1 : Int) (x2 : Int) (x3 : Int) : Option Int := (fX4_has_28 σ x1).bind fun v1 => if v1 = 0 then some (-1) else (fX4_mover_28 σ x1 x2).bind fun v2 => if v2 = (-1) then some (-1) else if x3 = 0 then some v2 else if x3 = 1 then if (0 : Int) ≤ x1 ∧ (x1 : Int) < 15 then (fX5_hospitalAt_25 σ (σ 29 x1) v2).bind fun v6 => some v6 else none else if x3 = 2 then if (0 : Int) ≤ x1 ∧ (x1 : Int) < 15 then (fX5_hospitalAt_25 σ (σ 30 x1) v2).bind fun v9 => some v9 else none else some (-1)
set_option maxHeartbeats 4000000 in
set_option maxRecDepth 100000 in
theorem kX6_rotation_0 (l : Launch) (dC : Nat → ClassId) (dI : Nat → Nat → Nat) (cI : ClassId) (cA : ClassId) (a : Nat → Nat) (σ : Mem) (x1 : Int) (x2 : Int) (x3 : Int) (r : Int) (hf : fX6_rotation_0 σ x1 x2 x3 = some r) (hR : Rg σ) (rx1 : rng x1) (rx2 : rng x2) (rx3 : rng x3) : Met l yX6_rotation wsX6_rotation ({ frames := 3, cells := 0, slots := 0, locals := 69 }) (va_Pc [.ref (a 0), .int (iN x1), .int (iN x2), .int (iN x3)] (preC dC dI cI cA a σ)) (qP r) 0 0 (fun _ => False) := by
  refine Met.ofW (cc := cX6_rotation) (maxL := 5) (ret := (some .int)) (by decide) rfl ?_
  intro p e s m args below meth c s₁ B hml hv
  obtain ⟨hargs, hP, hK, hN⟩ := hv
  have hx := B.exec
  have hb := B.bytes
  have hr := B.returns
  have hts := atoms_spec (ws := wsX6_rotation) B.pre
  have hown : s.vm.findClass RX6 = some m.cls := findClass_of_methodNamed B.named
  have hlocks := B.notSynchronized
  have iX4 : ∀ w ∈ wsX40, w ∈ wsX6_rotation := by decide +kernel
  have iX6 : ∀ w ∈ wsX60, w ∈ wsX6_rotation := by decide +kernel
  have fl31 := hts (.fieldLink RX6 31 "MatchHall" "stables" "LMatchHall$Stables;") (by decide +kernel)
  have fl40 := hts (.fieldLink RX6 40 "MatchHall" "rotations" "LMatchHall$Rotations;") (by decide +kernel)
  have fn153 := va_Nw.use (A := args) rfl (hN (.fieldLinkNest RX6 153 "MatchHall$Rotations" "from" "[I" "MatchHall") (by decide +kernel))
  have fn156 := va_Nw.use (A := args) rfl (hN (.fieldLinkNest RX6 156 "MatchHall$Rotations" "to" "[I" "MatchHall") (by decide +kernel))
  have hrm : 3 ≤ (headSpec wsX6_rotation ({ frames := 3, cells := 0, slots := 0, locals := 69 })).room.frames ∧ 69 ≤ (headSpec wsX6_rotation ({ frames := 3, cells := 0, slots := 0, locals := 69 })).room.locals := ⟨Nat.le_refl _, Nat.le_refl _⟩
  generalize (headSpec wsX6_rotation ({ frames := 3, cells := 0, slots := 0, locals := 69 })).room = RR at hrm ⊢
  have hl := lv_entry ([.ref (a 0), .int (iN x1), .int (iN x2), .int (iN x3)]) (n := 5) (Nat.le_of_ble_eq_true rfl)
  rw [show entryFrame m args 5 = entryFrame m ([.ref (a 0), .int (iN x1), .int (iN x2), .int (iN x3)] : List Value).toArray 5 from by rw [hargs], lg_entry_eq]
  generalize (lg_sl ([.ref (a 0), .int (iN x1), .int (iN x2), .int (iN x3)]) ++ List.replicate (5 - (lg_sl ([.ref (a 0), .int (iN x1), .int (iN x2), .int (iN x3)])).length) Slot.unset).toArray = ls at hl ⊢
  have hl : lv_has ls 5 [(0, .ref (a 0)), (1, .int (iN x1)), (2, .int (iN x2)), (3, .int (iN x3))] := hl
  generalize hQQ : MQ below (qP r) args s 0 0 (fun _ => False) = QQ
  refine lv_aload_n hx hb dX6_rotation_0 rfl (lv_at hl 0 rfl) ?_
  refine x_get (C := RX6) (T := TX6) (NF := 6) (v := .ref (a 28)) hx hb hts iX6 hown hK hP 0 (by decide) (cE_0 cI cA a (_)) rfl 4 (by decide) fl40 rfl dX6_rotation_1 ?_
  refine lv_iload_n hx hb dX6_rotation_4 rfl (lv_at hl 1 rfl) ?_
  obtain ⟨v1, hv1, hf⟩ := bd hf
  refine x_callP (va_runV (As := [.int (iN x1)]) (rest := []) ⟨hx, hb, hml, hown, hts⟩ (kX4_has_28 l dC dI cI cA a σ x1 v1 hv1 hR rx1) (cwV 1 hts gX6_rotation_X4_has rfl rfl rfl hX4_has_d ⟨Nat.le_trans (by decide) hrm.1, Nat.le_trans (by decide) hrm.2⟩) (pvC 28 (by decide) (cE_28 cI cA a (_)) rfl hP hK hN) rfl rfl hl.1 rfl (lv_room (Nat.le_of_ble_eq_true rfl)) dX6_rotation_5 ⟨Nat.zero_le _, Nat.zero_le _⟩) (fun rv1 => ?_)
  refine x_if_ne (tgt := 13) hx hb rv1 dX6_rotation_8 (by decide) (fun c11 => ?_) (fun c11 => ?_)
  · replace hf := (if_neg c11).symm.trans hf
    refine lv_aload_n hx hb dX6_rotation_13 rfl (lv_at hl 0 rfl) ?_
    refine x_get (C := RX6) (T := TX6) (NF := 6) (v := .ref (a 28)) hx hb hts iX6 hown hK hP 0 (by decide) (cE_0 cI cA a (_)) rfl 4 (by decide) fl40 rfl dX6_rotation_14 ?_
    refine lv_iload_n hx hb dX6_rotation_17 rfl (lv_at hl 1 rfl) ?_
    refine lv_iload_n hx hb dX6_rotation_18 rfl (lv_at hl 2 rfl) ?_
    obtain ⟨v2, hv2, hf⟩ := bd hf
    refine x_callP (va_runV (As := [.int (iN x1), .int (iN x2)]) (rest := []) ⟨hx, hb, hml, hown, hts⟩ (kX4_mover_28 l dC dI cI cA a σ x1 x2 v2 hv2 hR rx1 rx2) (cwV 2 hts gX6_rotation_X4_mover rfl rfl rfl hX4_mover_d ⟨Nat.le_trans (by decide) hrm.1, Nat.le_trans (by decide) hrm.2⟩) (pvC 28 (by decide) (cE_28 cI cA a (_)) rfl hP hK hN) rfl rfl hl.1 rfl (lv_room (Nat.le_of_ble_eq_true rfl)) dX6_rotation_19 ⟨Nat.zero_le _, Nat.zero_le _⟩) (fun rv2 => ?_)
    refine lv_istore (lv' := [(4, .int (iN v2)), (0, .ref (a 0)), (1, .int (iN x1)), (2, .int (iN x2)), (3, .int (iN x3))]) hx hb dX6_rotation_22 hl (by decide) rfl (fun ls hl => ?_)
    refine lv_iload hx hb dX6_rotation_24 (lv_at hl 0 rfl) ?_
    refine lv_iconst (v := iN (-1)) hx hb dX6_rotation_26 rfl ?_
    refine x_icmp_ne (tgt := 32) hx hb rv2 (by decide) dX6_rotation_27 (by decide) (fun c10 => ?_) (fun c10 => ?_)
    · replace hf := (if_neg c10).symm.trans hf
      refine lv_iload_n hx hb dX6_rotation_32 rfl (lv_at hl 4 rfl) ?_
      by_cases c33_0_3 : x3 = 0
      · replace hf := (if_pos c33_0_3).symm.trans hf
        refine lv_tableIn (tgt := 60) hx hb dX6_rotation_33 (by rw [iN_t rx3]; omega) (by rw [iN_t rx3]; omega) (by rw [iN_t rx3, c33_0_3]; rfl) (by decide) ?_
        refine lv_iload hx hb dX6_rotation_60 (lv_at hl 0 rfl) ?_
        rw [← hQQ]
        exact x_iret hx hb hr (Option.some.inj hf) rv2 hlocks dX6_rotation_62
      · replace hf := (if_neg c33_0_3).symm.trans hf
        by_cases c33_1_4 : x3 = 1
        · replace hf := (if_pos c33_1_4).symm.trans hf
          refine lv_tableIn (tgt := 63) hx hb dX6_rotation_33 (by rw [iN_t rx3]; omega) (by rw [iN_t rx3]; omega) (by rw [iN_t rx3, c33_1_4]; rfl) (by decide) ?_
          refine lv_aload_n hx hb dX6_rotation_63 rfl (lv_at hl 1 rfl) ?_
          refine x_get (C := RX6) (T := TX6) (NF := 6) (v := .ref (a 25)) hx hb hts iX6 hown hK hP 0 (by decide) (cE_0 cI cA a (_)) rfl 3 (by decide) fl31 rfl dX6_rotation_64 ?_
          refine lv_aload_n hx hb dX6_rotation_67 rfl (lv_at hl 1 rfl) ?_
          refine x_get (C := RX6) (T := TX6) (NF := 6) (v := .ref (a 28)) hx hb hts iX6 hown hK hP 0 (by decide) (cE_0 cI cA a (_)) rfl 4 (by decide) fl40 rfl dX6_rotation_68 ?_
          refine x_getN (C := RX4) (T := TX4) (NF := 6) (v := .ref (a 29)) hx hb hts iX4 hown hK hP 28 (by decide) (cE_28 cI cA a (_)) rfl 1 (by decide) fn153 rfl dX6_rotation_71 ?_
          refine lv_iload_n hx hb dX6_rotation_74 rfl (lv_at hl 2 rfl) ?_
          obtain ⟨g5, hf⟩ := gd hf
          refine x_iald hx hb hK hP 29 0 (by decide) (cE_29 cI cA a (_)) (by decide) rfl g5 dX6_rotation_75 ?_
          refine lv_iload hx hb dX6_rotation_76 (lv_at hl 0 rfl) ?_
          obtain ⟨v6, hv6, hf⟩ := bd hf
          refine x_callP (va_runV (As := [.int (iN (σ 29 x1)), .int (iN v2)]) (rest := []) ⟨hx, hb, hml, hown, hts⟩ (kX5_hospitalAt_25 l dC dI cI cA a σ (σ 29 x1) v2 v6 hv6 hR (hR 29 x1) rv2) (cwV 2 hts gX6_rotation_X5_hospitalAt rfl rfl rfl hX5_hospitalAt_d ⟨Nat.le_trans (by decide) hrm.1, Nat.le_trans (by decide) hrm.2⟩) (pvC 25 (by decide) (cE_25 cI cA a (_)) rfl hP hK hN) rfl rfl hl.1 rfl (lv_room (Nat.le_of_ble_eq_true rfl)) dX6_rotation_78 ⟨Nat.zero_le _, Nat.zero_le _⟩) (fun rv6 => ?_)
          rw [← hQQ]
          exact x_iret hx hb hr (Option.some.inj hf) rv6 hlocks dX6_rotation_81
        · replace hf := (if_neg c33_1_4).symm.trans hf
          by_cases c33_2_7 : x3 = 2
          · replace hf := (if_pos c33_2_7).symm.trans hf
            refine lv_tableIn (tgt := 82) hx hb dX6_rotation_33 (by rw [iN_t rx3]; omega) (by rw [iN_t rx3]; omega) (by rw [iN_t rx3, c33_2_7]; rfl) (by decide) ?_
            refine lv_aload_n hx hb dX6_rotation_82 rfl (lv_at hl 1 rfl) ?_
            refine x_get (C := RX6) (T := TX6) (NF := 6) (v := .ref (a 25)) hx hb hts iX6 hown hK hP 0 (by decide) (cE_0 cI cA a (_)) rfl 3 (by decide) fl31 rfl dX6_rotation_83 ?_
            refine lv_aload_n hx hb dX6_rotation_86 rfl (lv_at hl 1 rfl) ?_
            refine x_get (C := RX6) (T := TX6) (NF := 6) (v := .ref (a 28)) hx hb hts iX6 hown hK hP 0 (by decide) (cE_0 cI cA a (_)) rfl 4 (by decide) fl40 rfl dX6_rotation_87 ?_
            refine x_getN (C := RX4) (T := TX4) (NF := 6) (v := .ref (a 30)) hx hb hts iX4 hown hK hP 28 (by decide) (cE_28 cI cA a (_)) rfl 2 (by decide) fn156 rfl dX6_rotation_90 ?_
            refine lv_iload_n hx hb dX6_rotation_93 rfl (lv_at hl 2 rfl) ?_
            obtain ⟨g8, hf⟩ := gd hf
            refine x_iald hx hb hK hP 30 0 (by decide) (cE_30 cI cA a (_)) (by decide) rfl g8 dX6_rotation_94 ?_
            refine lv_iload hx hb dX6_rotation_95 (lv_at hl 0 rfl) ?_
            obtain ⟨v9, hv9, hf⟩ := bd hf
            refine x_callP (va_runV (As := [.int (iN (σ 30 x1)), .int (iN v2)]) (rest := []) ⟨hx, hb, hml, hown, hts⟩ (kX5_hospitalAt_25 l dC dI cI cA a σ (σ 30 x1) v2 v9 hv9 hR (hR 30 x1) rv2) (cwV 2 hts gX6_rotation_X5_hospitalAt rfl rfl rfl hX5_hospitalAt_d ⟨Nat.le_trans (by decide) hrm.1, Nat.le_trans (by decide) hrm.2⟩) (pvC 25 (by decide) (cE_25 cI cA a (_)) rfl hP hK hN) rfl rfl hl.1 rfl (lv_room (Nat.le_of_ble_eq_true rfl)) dX6_rotation_97 ⟨Nat.zero_le _, Nat.zero_le _⟩) (fun rv9 => ?_)
            rw [← hQQ]
            exact x_iret hx hb hr (Option.some.inj hf) rv9 hlocks dX6_rotation_100
          · replace hf := (if_neg c33_2_7).symm.trans hf
            refine lv_tableOut (tgt := 101) hx hb dX6_rotation_33 (by rw [iN_t rx3]; omega) (by decide) ?_
            refine lv_iconst (v := iN (-1)) hx hb dX6_rotation_101 rfl ?_
            rw [← hQQ]
            exact x_iret hx hb hr (Option.some.inj hf) (by decide) hlocks dX6_rotation_102
    · replace hf := (if_pos c10).symm.trans hf
      refine lv_iconst (v := iN (-1)) hx hb dX6_rotation_30 rfl ?_
      rw [← hQQ]
      exact x_iret hx hb hr (Option.some.inj hf) (by decide) hlocks dX6_rotation_31
  · replace hf := (if_pos c11).symm.trans hf
    refine lv_iconst (v := iN (-1)) hx hb dX6_rotation_11 rfl ?_
    rw [← hQQ]
    exact x_iret hx hb hr (Option.some.inj hf) (by decide) hlocks dX6_rotation_12
def fX4_isDone_28 (σ : Mem) (x1 : Int) (x2 : Int) : Option Int := if (0 : Int) ≤ x2 ∧ (x2 : Int) < 216 then if (bAnd (bShr (σ 32 x2) x1) 1) = 1 then some 1 else some 0 else none
set_option maxHeartbeats 4000000 in
set_option maxRecDepth 100000 in
theorem kX4_isDone_28 (l : Launch) (dC : Nat → ClassId) (dI : Nat → Nat → Nat) (cI : ClassId) (cA : ClassId) (a : Nat → Nat) (σ : Mem) (x1 : Int) (x2 : Int) (r : Int) (hf : fX4_isDone_28 σ x1 x2 = some r) (hR : Rg σ) (rx1 : rng x1) (rx2 : rng x2) : Met l yX4_isDone wsX4_isDone ({ frames := 0, cells := 0, slots := 0, locals := 0 }) (va_Pc [.ref (a 28), .int (iN x1), .int (iN x2)] (preC dC dI cI cA a σ)) (qP r) 0 0 (fun _ => False) := by
  refine Met.ofW (cc := cX4_isDone) (maxL := 3) (ret := (some .boolean)) (by decide) rfl ?_
  intro p e s m args below meth c s₁ B hml hv
  obtain ⟨hargs, hP, hK, hN⟩ := hv
  have hx := B.exec
  have hb := B.bytes
  have hr := B.returns
  have hts := atoms_spec (ws := wsX4_isDone) B.pre
  have hown : s.vm.findClass RX4 = some m.cls := findClass_of_methodNamed B.named
  have hlocks := B.notSynchronized
  have iX4 : ∀ w ∈ wsX40, w ∈ wsX4_isDone := by decide +kernel
  have fl21 := hts (.fieldLink RX4 21 "MatchHall$Rotations" "doneIn" "[I") (by decide +kernel)
  have hrm : 0 ≤ (headSpec wsX4_isDone ({ frames := 0, cells := 0, slots := 0, locals := 0 })).room.frames ∧ 0 ≤ (headSpec wsX4_isDone ({ frames := 0, cells := 0, slots := 0, locals := 0 })).room.locals := ⟨Nat.le_refl _, Nat.le_refl _⟩
  generalize (headSpec wsX4_isDone ({ frames := 0, cells := 0, slots := 0, locals := 0 })).room = RR at hrm ⊢
  have hl := lv_entry ([.ref (a 28), .int (iN x1), .int (iN x2)]) (n := 3) (Nat.le_of_ble_eq_true rfl)
  rw [show entryFrame m args 3 = entryFrame m ([.ref (a 28), .int (iN x1), .int (iN x2)] : List Value).toArray 3 from by rw [hargs], lg_entry_eq]
  generalize (lg_sl ([.ref (a 28), .int (iN x1), .int (iN x2)]) ++ List.replicate (3 - (lg_sl ([.ref (a 28), .int (iN x1), .int (iN x2)])).length) Slot.unset).toArray = ls at hl ⊢
  have hl : lv_has ls 3 [(0, .ref (a 28)), (1, .int (iN x1)), (2, .int (iN x2))] := hl
  generalize hQQ : MQ below (qP r) args s 0 0 (fun _ => False) = QQ
  refine lv_aload_n hx hb dX4_isDone_0 rfl (lv_at hl 0 rfl) ?_
  refine x_get (C := RX4) (T := TX4) (NF := 6) (v := .ref (a 32)) hx hb hts iX4 hown hK hP 28 (by decide) (cE_28 cI cA a (_)) rfl 4 (by decide) fl21 rfl dX4_isDone_1 ?_
  refine lv_iload_n hx hb dX4_isDone_4 rfl (lv_at hl 2 rfl) ?_
  obtain ⟨g1, hf⟩ := gd hf
  refine x_iald hx hb hK hP 32 0 (by decide) (cE_32 cI cA a (_)) (by decide) rfl g1 dX4_isDone_5 ?_
  refine lv_iload_n hx hb dX4_isDone_6 rfl (lv_at hl 1 rfl) ?_
  refine x_ishr hx hb dX4_isDone_7 ?_
  refine lv_iconst (v := iN 1) hx hb dX4_isDone_8 rfl ?_
  refine x_iand hx hb dX4_isDone_9 ?_
  refine lv_iconst (v := iN 1) hx hb dX4_isDone_10 rfl ?_
  refine x_icmp_ne (tgt := 18) hx hb (bAnd_rng _ _) (by decide) dX4_isDone_11 (by decide) (fun c2 => ?_) (fun c2 => ?_)
  · replace hf := (if_neg c2).symm.trans hf
    refine lv_iconst (v := iN 0) hx hb dX4_isDone_18 rfl ?_
    rw [← hQQ]
    exact x_zret hx hb hr (by decide) (Option.some.inj hf) (by decide) hlocks dX4_isDone_19
  · replace hf := (if_pos c2).symm.trans hf
    refine lv_iconst (v := iN 1) hx hb dX4_isDone_14 rfl ?_
    refine lv_goto (tgt := 19) hx hb dX4_isDone_15 (by decide) ?_
    rw [← hQQ]
    exact x_zret hx hb hr (by decide) (Option.some.inj hf) (by decide) hlocks dX4_isDone_19
def fX6_done_0 (σ : Mem) (x1 : Int) (x2 : Int) : Option Int := (fX4_has_28 σ x1).bind fun v1 => if v1 = 0 then some (-1) else (fX5_has_25 σ x2).bind fun v2 => if v2 = 0 then some (-1) else (fX4_isDone_28 σ x1 x2).bind fun v3 => if v3 = 0 then some 0 else some 1
set_option maxHeartbeats 4000000 in
set_option maxRecDepth 100000 in
theorem kX6_done_0 (l : Launch) (dC : Nat → ClassId) (dI : Nat → Nat → Nat) (cI : ClassId) (cA : ClassId) (a : Nat → Nat) (σ : Mem) (x1 : Int) (x2 : Int) (r : Int) (hf : fX6_done_0 σ x1 x2 = some r) (hR : Rg σ) (rx1 : rng x1) (rx2 : rng x2) : Met l yX6_done wsX6_done ({ frames := 1, cells := 0, slots := 0, locals := 22 }) (va_Pc [.ref (a 0), .int (iN x1), .int (iN x2)] (preC dC dI cI cA a σ)) (qP r) 0 0 (fun _ => False) := by
  refine Met.ofW (cc := cX6_done) (maxL := 3) (ret := (some .int)) (by decide) rfl ?_
  intro p e s m args below meth c s₁ B hml hv
  obtain ⟨hargs, hP, hK, hN⟩ := hv
  have hx := B.exec
  have hb := B.bytes
  have hr := B.returns
  have hts := atoms_spec (ws := wsX6_done) B.pre
  have hown : s.vm.findClass RX6 = some m.cls := findClass_of_methodNamed B.named
  have hlocks := B.notSynchronized
  have iX6 : ∀ w ∈ wsX60, w ∈ wsX6_done := by decide +kernel
  have fl31 := hts (.fieldLink RX6 31 "MatchHall" "stables" "LMatchHall$Stables;") (by decide +kernel)
  have fl40 := hts (.fieldLink RX6 40 "MatchHall" "rotations" "LMatchHall$Rotations;") (by decide +kernel)
  have hrm : 1 ≤ (headSpec wsX6_done ({ frames := 1, cells := 0, slots := 0, locals := 22 })).room.frames ∧ 22 ≤ (headSpec wsX6_done ({ frames := 1, cells := 0, slots := 0, locals := 22 })).room.locals := ⟨Nat.le_refl _, Nat.le_refl _⟩
  generalize (headSpec wsX6_done ({ frames := 1, cells := 0, slots := 0, locals := 22 })).room = RR at hrm ⊢
  have hl := lv_entry ([.ref (a 0), .int (iN x1), .int (iN x2)]) (n := 3) (Nat.le_of_ble_eq_true rfl)
  rw [show entryFrame m args 3 = entryFrame m ([.ref (a 0), .int (iN x1), .int (iN x2)] : List Value).toArray 3 from by rw [hargs], lg_entry_eq]
  generalize (lg_sl ([.ref (a 0), .int (iN x1), .int (iN x2)]) ++ List.replicate (3 - (lg_sl ([.ref (a 0), .int (iN x1), .int (iN x2)])).length) Slot.unset).toArray = ls at hl ⊢
  have hl : lv_has ls 3 [(0, .ref (a 0)), (1, .int (iN x1)), (2, .int (iN x2))] := hl
  generalize hQQ : MQ below (qP r) args s 0 0 (fun _ => False) = QQ
  refine lv_aload_n hx hb dX6_done_0 rfl (lv_at hl 0 rfl) ?_
  refine x_get (C := RX6) (T := TX6) (NF := 6) (v := .ref (a 28)) hx hb hts iX6 hown hK hP 0 (by decide) (cE_0 cI cA a (_)) rfl 4 (by decide) fl40 rfl dX6_done_1 ?_
  refine lv_iload_n hx hb dX6_done_4 rfl (lv_at hl 1 rfl) ?_
  obtain ⟨v1, hv1, hf⟩ := bd hf
  refine x_callP (va_runV (As := [.int (iN x1)]) (rest := []) ⟨hx, hb, hml, hown, hts⟩ (kX4_has_28 l dC dI cI cA a σ x1 v1 hv1 hR rx1) (cwV 1 hts gX6_done_X4_has rfl rfl rfl hX4_has_d ⟨Nat.le_trans (by decide) hrm.1, Nat.le_trans (by decide) hrm.2⟩) (pvC 28 (by decide) (cE_28 cI cA a (_)) rfl hP hK hN) rfl rfl hl.1 rfl (lv_room (Nat.le_of_ble_eq_true rfl)) dX6_done_5 ⟨Nat.zero_le _, Nat.zero_le _⟩) (fun rv1 => ?_)
  refine x_if_eq (tgt := 22) hx hb rv1 dX6_done_8 (by decide) (fun c6 => ?_) (fun c6 => ?_)
  · replace hf := (if_pos c6).symm.trans hf
    refine lv_iconst (v := iN (-1)) hx hb dX6_done_22 rfl ?_
    rw [← hQQ]
    exact x_iret hx hb hr (Option.some.inj hf) (by decide) hlocks dX6_done_23
  · replace hf := (if_neg c6).symm.trans hf
    refine lv_aload_n hx hb dX6_done_11 rfl (lv_at hl 0 rfl) ?_
    refine x_get (C := RX6) (T := TX6) (NF := 6) (v := .ref (a 25)) hx hb hts iX6 hown hK hP 0 (by decide) (cE_0 cI cA a (_)) rfl 3 (by decide) fl31 rfl dX6_done_12 ?_
    refine lv_iload_n hx hb dX6_done_15 rfl (lv_at hl 2 rfl) ?_
    obtain ⟨v2, hv2, hf⟩ := bd hf
    refine x_callP (va_runV (As := [.int (iN x2)]) (rest := []) ⟨hx, hb, hml, hown, hts⟩ (kX5_has_25 l dC dI cI cA a σ x2 v2 hv2 hR rx2) (cwV 1 hts gX6_done_X5_has rfl rfl rfl hX5_has_d ⟨Nat.le_trans (by decide) hrm.1, Nat.le_trans (by decide) hrm.2⟩) (pvC 25 (by decide) (cE_25 cI cA a (_)) rfl hP hK hN) rfl rfl hl.1 rfl (lv_room (Nat.le_of_ble_eq_true rfl)) dX6_done_16 ⟨Nat.zero_le _, Nat.zero_le _⟩) (fun rv2 => ?_)
    refine x_if_ne (tgt := 24) hx hb rv2 dX6_done_19 (by decide) (fun c5 => ?_) (fun c5 => ?_)
    · replace hf := (if_neg c5).symm.trans hf
      refine lv_aload_n hx hb dX6_done_24 rfl (lv_at hl 0 rfl) ?_
      refine x_get (C := RX6) (T := TX6) (NF := 6) (v := .ref (a 28)) hx hb hts iX6 hown hK hP 0 (by decide) (cE_0 cI cA a (_)) rfl 4 (by decide) fl40 rfl dX6_done_25 ?_
      refine lv_iload_n hx hb dX6_done_28 rfl (lv_at hl 1 rfl) ?_
      refine lv_iload_n hx hb dX6_done_29 rfl (lv_at hl 2 rfl) ?_
      obtain ⟨v3, hv3, hf⟩ := bd hf
      refine x_callP (va_runV (As := [.int (iN x1), .int (iN x2)]) (rest := []) ⟨hx, hb, hml, hown, hts⟩ (kX4_isDone_28 l dC dI cI cA a σ x1 x2 v3 hv3 hR rx1 rx2) (cwV 2 hts gX6_done_X4_isDone rfl rfl rfl hX4_isDone_d ⟨Nat.le_trans (by decide) hrm.1, Nat.le_trans (by decide) hrm.2⟩) (pvC 28 (by decide) (cE_28 cI cA a (_)) rfl hP hK hN) rfl rfl hl.1 rfl (lv_room (Nat.le_of_ble_eq_true rfl)) dX6_done_30 ⟨Nat.zero_le _, Nat.zero_le _⟩) (fun rv3 => ?_)
      refine x_if_eq (tgt := 40) hx hb rv3 dX6_done_33 (by decide) (fun c4 => ?_) (fun c4 => ?_)
      · replace hf := (if_pos c4).symm.trans hf
        refine lv_iconst (v := iN 0) hx hb dX6_done_40 rfl ?_
        rw [← hQQ]
        exact x_iret hx hb hr (Option.some.inj hf) (by decide) hlocks dX6_done_41
      · replace hf := (if_neg c4).symm.trans hf
        refine lv_iconst (v := iN 1) hx hb dX6_done_36 rfl ?_
        refine lv_goto (tgt := 41) hx hb dX6_done_37 (by decide) ?_
        rw [← hQQ]
        exact x_iret hx hb hr (Option.some.inj hf) (by decide) hlocks dX6_done_41
    · replace hf := (if_pos c5).symm.trans hf
      refine lv_iconst (v := iN (-1)) hx hb dX6_done_22 rfl ?_
      rw [← hQQ]
      exact x_iret hx hb hr (Option.some.inj hf) (by decide) hlocks dX6_done_23
