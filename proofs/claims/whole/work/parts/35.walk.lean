def fX2_open_11_L12 (ex0 : Mem → Int → Option (Int × Mem)) : Nat → Mem → Int → Option (Int × Mem)
  | 0, _, _ => none
  | n0 + 1, σ4, v3 => if v3 < 6 then bnd2 (fX2_empty_11 σ4 v3) fun v5 σ6 => if rng (v3 + 1) then fX2_open_11_L12  ex0 n0 σ6 (v3 + 1) else none else ex0 σ4 v3
def fX2_open_11 (σ : Mem) (x1 : Int) (x2 : Int) : Option (Int × Mem) := nx (mup σ 11 2 x1) fun σ1 => nx (mup σ1 11 3 x2) fun σ2 => fX2_open_11_L12  (fun σ10 v9 => some (0, σ10)) FU σ2 0
set_option maxHeartbeats 4000000 in
set_option maxRecDepth 100000 in
theorem kX2_open_11 (l : Launch) (dC : Nat → ClassId) (dI : Nat → Nat → Nat) (cI : ClassId) (cA : ClassId) (a : Nat → Nat) (hi : ∀ i j, i < 37 → j < 37 → a i = a j → i = j) (σ : Mem) (x1 : Int) (x2 : Int) (r : (Int × Mem)) (hf : fX2_open_11 σ x1 x2 = some r) (hR : Rg σ) (rx1 : rng x1) (rx2 : rng x2) : Met l yX2_open wsX2_open ({ frames := 2, cells := 0, slots := 0, locals := 45 }) (va_Pc [.ref (a 11), .int (iN x1), .int (iN x2)] (preC dC dI cI cA a σ)) (qMv (dC, dI) (gw 37 a (cE cI cA a)) (gA 37 a) r) 0 0 (gA 37 a) := by
  refine Met.ofW (cc := cX2_open) (maxL := 4) (ret := none) (by decide) rfl ?_
  intro p e s m args below meth c s₁ B hml hv
  obtain ⟨hargs, hP, hK, hN⟩ := hv
  have hx := B.exec
  have hb := B.bytes
  have hr := B.returns
  have hts := atoms_spec (ws := wsX2_open) B.pre
  have hown : s.vm.findClass RX2 = some m.cls := findClass_of_methodNamed B.named
  have hlocks := B.notSynchronized
  have hS : va_S (gA 37 a) s.heap s.heap [] := va_S.rf
  have iX2 : ∀ w ∈ wsX20, w ∈ wsX2_open := by decide +kernel
  have fl20 := hts (.fieldLink RX2 20 "MatchHall$Lists" "owners" "I") (by decide +kernel)
  have fl24 := hts (.fieldLink RX2 24 "MatchHall$Lists" "others" "I") (by decide +kernel)
  have hrm : 2 ≤ (headSpec wsX2_open ({ frames := 2, cells := 0, slots := 0, locals := 45 })).room.frames ∧ 45 ≤ (headSpec wsX2_open ({ frames := 2, cells := 0, slots := 0, locals := 45 })).room.locals := ⟨Nat.le_refl _, Nat.le_refl _⟩
  generalize (headSpec wsX2_open ({ frames := 2, cells := 0, slots := 0, locals := 45 })).room = RR at hrm ⊢
  have hl := lv_entry ([.ref (a 11), .int (iN x1), .int (iN x2)]) (n := 4) (Nat.le_of_ble_eq_true rfl)
  rw [show entryFrame m args 4 = entryFrame m ([.ref (a 11), .int (iN x1), .int (iN x2)] : List Value).toArray 4 from by rw [hargs], lg_entry_eq]
  generalize (lg_sl ([.ref (a 11), .int (iN x1), .int (iN x2)]) ++ List.replicate (4 - (lg_sl ([.ref (a 11), .int (iN x1), .int (iN x2)])).length) Slot.unset).toArray = ls at hl ⊢
  have hl : lv_has ls 4 [(0, .ref (a 11)), (1, .int (iN x1)), (2, .int (iN x2))] := hl
  generalize hQQ : MQ below (qMv (dC, dI) (gw 37 a (cE cI cA a)) (gA 37 a) r) args s 0 0 (gA 37 a) = QQ
  refine lv_aload_n hx hb dX2_open_0 rfl (lv_at hl 0 rfl) ?_
  refine lv_iload_n hx hb dX2_open_1 rfl (lv_at hl 1 rfl) ?_
  obtain ⟨σ1, hσ1, hf⟩ := nxe hf
  refine x_put (C := RX2) (T := TX2) (NF := 4) (x := x1) (ty := .int) hx hb hts iX2 tyX2 tyX2_ok nmX2 hi hown hK hP hS 11 (by decide) (cE_11 cI cA a (_)) rfl 2 2 (by decide) fl20 rfl (by decide +kernel) rfl rfl (Nat.le_of_ble_eq_true rfl) rfl dX2_open_2 (fun H locs hP hS => ?_)
  rw [← hσ1] at hP
  have hRσ1 : Rg σ1 := by rw [hσ1]; exact Rg_up hR rx1
  refine lv_aload_n hx hb dX2_open_5 rfl (lv_at hl 0 rfl) ?_
  refine lv_iload_n hx hb dX2_open_6 rfl (lv_at hl 2 rfl) ?_
  obtain ⟨σ2, hσ2, hf⟩ := nxe hf
  refine x_put (C := RX2) (T := TX2) (NF := 4) (x := x2) (ty := .int) hx hb hts iX2 tyX2 tyX2_ok nmX2 hi hown hK hP hS 11 (by decide) (cE_11 cI cA a (_)) rfl 3 3 (by decide) fl24 rfl (by decide +kernel) rfl rfl (Nat.le_of_ble_eq_true rfl) rfl dX2_open_7 (fun H locs hP hS => ?_)
  rw [← hσ2] at hP
  have hRσ2 : Rg σ2 := by rw [hσ2]; exact Rg_up hRσ1 rx2
  refine lv_iconst (v := iN 0) hx hb dX2_open_10 rfl ?_
  refine lv_istore_n (lv' := [(3, .int (iN 0)), (0, .ref (a 11)), (1, .int (iN x1)), (2, .int (iN x2))]) hx hb dX2_open_11 rfl hl (by decide) rfl (fun ls hl => ?_)
  have L_fX2_open_11_L12 : ∀ (EX0 : Mem → Int → Option (Int × Mem)), (∀ (σ4 : Mem) (v3 : Int), Rg σ4 → rng v3 → EX0 σ4 v3 = some r → ∀ H locs ls, va_P (dC, dI) vwCl (gw 37 a (cE cI cA a) σ4) H → va_S (gA 37 a) s.heap H locs → lv_has ls 4 [(0, .ref (a 11)), (1, .int (iN x1)), (2, .int (iN x2)), (3, .int (iN v3))] → W p l e RR s m args below meth c H locs 0 0 QQ (F0 m 30 ls [])) → ∀ n0 : Nat, ∀ (σ4 : Mem) (v3 : Int), Rg σ4 → rng v3 → fX2_open_11_L12  EX0 n0 σ4 v3 = some r → ∀ H locs ls, va_P (dC, dI) vwCl (gw 37 a (cE cI cA a) σ4) H → va_S (gA 37 a) s.heap H locs → lv_has ls 4 [(0, .ref (a 11)), (1, .int (iN x1)), (2, .int (iN x2)), (3, .int (iN v3))] → W p l e RR s m args below meth c H locs 0 0 QQ (F0 m 12 ls []) := by
    intro EX0 hEX0 n0
    induction n0 with
    | zero => intro _ _ _ _ hf; cases hf
    | succ n0 ih0 =>
      intro σ4 v3 hRσ4 rv3 hf H locs ls hP hS hl
      rw [fX2_open_11_L12] at hf
      refine lv_iload_n hx hb dX2_open_12 rfl (lv_at hl 3 rfl) ?_
      refine lv_bipush (v := iN 6) hx hb dX2_open_13 (by decide) ?_
      refine x_icmp_ge (tgt := 30) hx hb rv3 (by decide) dX2_open_15 (by decide) (fun c8 => ?_) (fun c8 => ?_)
      · replace hf := (if_neg c8).symm.trans hf
        exact hEX0 _ _ hRσ4 rv3 hf _ _ _ hP hS (lv_sub hl [0, 1, 2, 3] rfl)
      · replace hf := (if_pos c8).symm.trans hf
        refine lv_aload_n hx hb dX2_open_18 rfl (lv_at hl 0 rfl) ?_
        refine lv_iload_n hx hb dX2_open_19 rfl (lv_at hl 3 rfl) ?_
        obtain ⟨v5, σ6, hv5, hf⟩ := bd2 hf
        refine x_callM (va_runV (As := [.int (iN v3)]) (rest := []) ⟨hx, hb, hml, hown, hts⟩ (kX2_empty_11 l dC dI cI cA a hi σ4 v3 (v5, σ6) hv5 hRσ4 rv3) (cwV 1 hts gX2_open_X2_empty rfl rfl rfl hX2_empty_d ⟨Nat.le_trans (by decide) hrm.1, Nat.le_trans (by decide) hrm.2⟩) (pvC 11 (by decide) (cE_11 cI cA a (_)) rfl hP hK hN) rfl rfl hl.1 rfl (lv_room (Nat.le_of_ble_eq_true rfl)) dX2_open_20 ⟨Nat.zero_le _, Nat.zero_le _⟩) hS (fun rv5 hRσ6 H locs hP hS => ?_)
        refine lv_pop hx hb dX2_open_23 rfl ?_
        obtain ⟨g7, hf⟩ := gd hf
        refine lv_iinc (v := iN (v3 + 1)) (lv' := [(3, .int (iN (v3 + 1))), (0, .ref (a 11)), (1, .int (iN x1)), (2, .int (iN x2))]) hx hb dX2_open_24 hl (k := 3) rfl (iN_add v3 1) (by decide) rfl (fun ls hl => ?_)
        refine lv_goto (tgt := 12) hx hb dX2_open_27 (by decide) ?_
        exact ih0 _ _ hRσ6 g7 hf _ _ _ hP hS (lv_sub hl [1, 2, 3, 0] rfl)
  refine L_fX2_open_11_L12 _ (fun σ10 v9 hRσ10 rv9 hf H locs ls hP hS hl => ?_) _ _ _ hRσ2 (by decide) hf _ _ _ hP hS (lv_sub hl [1, 2, 3, 0] rfl)
  rw [← hQQ]
  exact x_vretM hx hb hr (Option.some.inj hf) hRσ10 hP hS hlocks dX2_open_30
def fJ7_fill_53178_c_20_L5 (x1 : Int) (ex0 : Mem → Int → Option (Int × Mem)) : Nat → Mem → Int → Option (Int × Mem)
  | 0, _, _ => none
  | n0 + 1, σ2, v1 => if v1 < 6 then if (0 : Int) ≤ v1 ∧ (v1 : Int) < 6 then nx (mup σ2 20 v1 x1) fun σ4 => if rng (v1 + 1) then fJ7_fill_53178_c_20_L5 x1 ex0 n0 σ4 (v1 + 1) else none else none else ex0 σ2 v1
def fJ7_fill_53178_c_20 (σ : Mem) (x1 : Int) : Option (Int × Mem) := fJ7_fill_53178_c_20_L5 x1 (fun σ8 v7 => some (0, σ8)) FU σ 0
set_option maxHeartbeats 4000000 in
set_option maxRecDepth 100000 in
theorem kJ7_fill_53178_c_20 (l : Launch) (dC : Nat → ClassId) (dI : Nat → Nat → Nat) (cI : ClassId) (cA : ClassId) (a : Nat → Nat) (hi : ∀ i j, i < 37 → j < 37 → a i = a j → i = j) (σ : Mem) (x1 : Int) (r : (Int × Mem)) (hf : fJ7_fill_53178_c_20 σ x1 = some r) (hR : Rg σ) (rx1 : rng x1) : Met l yJ7_fill_53178 wsJ7_fill_53178 ({ frames := 0, cells := 0, slots := 0, locals := 0 }) (va_Pc [.ref (a 20), .int (iN x1)] (preC dC dI cI cA a σ)) (qMv (dC, dI) (gw 37 a (cE cI cA a)) (gA 37 a) r) 0 0 (gA 37 a) := by
  refine Met.ofW (cc := cJ7_fill_53178) (maxL := 4) (ret := none) (by decide) rfl ?_
  intro p e s m args below meth c s₁ B hml hv
  obtain ⟨hargs, hP, hK, hN⟩ := hv
  have hx := B.exec
  have hb := B.bytes
  have hr := B.returns
  have hts := atoms_spec (ws := wsJ7_fill_53178) B.pre
  have hown : s.vm.findClass RJ7 = some m.cls := findClass_of_methodNamed B.named
  have hlocks := B.notSynchronized
  have hS : va_S (gA 37 a) s.heap s.heap [] := va_S.rf
  have hrm : 0 ≤ (headSpec wsJ7_fill_53178 ({ frames := 0, cells := 0, slots := 0, locals := 0 })).room.frames ∧ 0 ≤ (headSpec wsJ7_fill_53178 ({ frames := 0, cells := 0, slots := 0, locals := 0 })).room.locals := ⟨Nat.le_refl _, Nat.le_refl _⟩
  generalize (headSpec wsJ7_fill_53178 ({ frames := 0, cells := 0, slots := 0, locals := 0 })).room = RR at hrm ⊢
  have hl := lv_entry ([.ref (a 20), .int (iN x1)]) (n := 4) (Nat.le_of_ble_eq_true rfl)
  rw [show entryFrame m args 4 = entryFrame m ([.ref (a 20), .int (iN x1)] : List Value).toArray 4 from by rw [hargs], lg_entry_eq]
  generalize (lg_sl ([.ref (a 20), .int (iN x1)]) ++ List.replicate (4 - (lg_sl ([.ref (a 20), .int (iN x1)])).length) Slot.unset).toArray = ls at hl ⊢
  have hl : lv_has ls 4 [(0, .ref (a 20)), (1, .int (iN x1))] := hl
  generalize hQQ : MQ below (qMv (dC, dI) (gw 37 a (cE cI cA a)) (gA 37 a) r) args s 0 0 (gA 37 a) = QQ
  refine lv_iconst (v := iN 0) hx hb dJ7_fill_53178_0 rfl ?_
  refine lv_istore_n (lv' := [(2, .int (iN 0)), (0, .ref (a 20)), (1, .int (iN x1))]) hx hb dJ7_fill_53178_1 rfl hl (by decide) rfl (fun ls hl => ?_)
  refine lv_aload_n hx hb dJ7_fill_53178_2 rfl (lv_at hl 1 rfl) ?_
  refine va_alen (v := iN 6) hx hb hK hP 20 0 (gw_at 20 (by decide) (cE_20 cI cA a (_))) rfl (show Int32.ofNat 6 = iN 6 by decide) dJ7_fill_53178_3 ?_
  refine lv_istore_n (lv' := [(3, .int (iN 6)), (2, .int (iN 0)), (0, .ref (a 20)), (1, .int (iN x1))]) hx hb dJ7_fill_53178_4 rfl hl (by decide) rfl (fun ls hl => ?_)
  have L_fJ7_fill_53178_c_20_L5 : ∀ (EX0 : Mem → Int → Option (Int × Mem)), (∀ (σ2 : Mem) (v1 : Int), Rg σ2 → rng v1 → EX0 σ2 v1 = some r → ∀ H locs ls, va_P (dC, dI) vwCl (gw 37 a (cE cI cA a) σ2) H → va_S (gA 37 a) s.heap H locs → lv_has ls 4 [(0, .ref (a 20)), (1, .int (iN x1)), (2, .int (iN v1)), (3, .int (iN 6))] → W p l e RR s m args below meth c H locs 0 0 QQ (F0 m 20 ls [])) → ∀ n0 : Nat, ∀ (σ2 : Mem) (v1 : Int), Rg σ2 → rng v1 → fJ7_fill_53178_c_20_L5 x1 EX0 n0 σ2 v1 = some r → ∀ H locs ls, va_P (dC, dI) vwCl (gw 37 a (cE cI cA a) σ2) H → va_S (gA 37 a) s.heap H locs → lv_has ls 4 [(0, .ref (a 20)), (1, .int (iN x1)), (2, .int (iN v1)), (3, .int (iN 6))] → W p l e RR s m args below meth c H locs 0 0 QQ (F0 m 5 ls []) := by
    intro EX0 hEX0 n0
    induction n0 with
    | zero => intro _ _ _ _ hf; cases hf
    | succ n0 ih0 =>
      intro σ2 v1 hRσ2 rv1 hf H locs ls hP hS hl
      rw [fJ7_fill_53178_c_20_L5] at hf
      refine lv_iload_n hx hb dJ7_fill_53178_5 rfl (lv_at hl 2 rfl) ?_
      refine lv_iload_n hx hb dJ7_fill_53178_6 rfl (lv_at hl 3 rfl) ?_
      refine x_icmp_ge (tgt := 20) hx hb rv1 (by decide) dJ7_fill_53178_7 (by decide) (fun c6 => ?_) (fun c6 => ?_)
      · replace hf := (if_neg c6).symm.trans hf
        exact hEX0 _ _ hRσ2 rv1 hf _ _ _ hP hS (lv_sub hl [0, 1, 2, 3] rfl)
      · replace hf := (if_pos c6).symm.trans hf
        refine lv_aload_n hx hb dJ7_fill_53178_10 rfl (lv_at hl 0 rfl) ?_
        refine lv_iload_n hx hb dJ7_fill_53178_11 rfl (lv_at hl 2 rfl) ?_
        refine lv_iload_n hx hb dJ7_fill_53178_12 rfl (lv_at hl 1 rfl) ?_
        obtain ⟨g3, hf⟩ := gd hf
        obtain ⟨σ4, hσ4, hf⟩ := nxe hf
        refine x_iast (x := x1) hx hb hi hK hP hS 20 0 (by decide) (cE_20 cI cA a) (by decide) rfl g3 dJ7_fill_53178_13 (fun H locs hP hS => ?_)
        rw [← hσ4] at hP
        have hRσ4 : Rg σ4 := by rw [hσ4]; exact Rg_up hRσ2 rx1
        obtain ⟨g5, hf⟩ := gd hf
        refine lv_iinc (v := iN (v1 + 1)) (lv' := [(2, .int (iN (v1 + 1))), (0, .ref (a 20)), (1, .int (iN x1)), (3, .int (iN 6))]) hx hb dJ7_fill_53178_14 hl (k := 2) rfl (iN_add v1 1) (by decide) rfl (fun ls hl => ?_)
        refine lv_goto (tgt := 5) hx hb dJ7_fill_53178_17 (by decide) ?_
        exact ih0 _ _ hRσ4 g5 hf _ _ _ hP hS (lv_sub hl [1, 2, 0, 3] rfl)
  refine L_fJ7_fill_53178_c_20_L5 _ (fun σ8 v7 hRσ8 rv7 hf H locs ls hP hS hl => ?_) _ _ _ hR (by decide) hf _ _ _ hP hS (lv_sub hl [2, 3, 1, 0] rfl)
  rw [← hQQ]
  exact x_vretM hx hb hr (Option.some.inj hf) hRσ8 hP hS hlocks dJ7_fill_53178_20
def fX1_open_1 (σ : Mem) (x1 : Int) (x2 : Int) : Option (Int × Mem) := nx (mup σ 1 3 x1) fun σ1 => nx (mup σ1 1 4 x2) fun σ2 => bnd2 (fX2_open_2 σ2 (σ2 1 3) (σ2 1 4)) fun v3 σ4 => bnd2 (fX2_open_11 σ4 (σ4 1 4) (σ4 1 3)) fun v5 σ6 => bnd2 (fJ7_fill_53178_c_20 σ6 1) fun v7 σ8 => some (0, σ8)
set_option maxHeartbeats 4000000 in
set_option maxRecDepth 100000 in
theorem kX1_open_1 (l : Launch) (dC : Nat → ClassId) (dI : Nat → Nat → Nat) (cI : ClassId) (cA : ClassId) (a : Nat → Nat) (hi : ∀ i j, i < 37 → j < 37 → a i = a j → i = j) (σ : Mem) (x1 : Int) (x2 : Int) (r : (Int × Mem)) (hf : fX1_open_1 σ x1 x2 = some r) (hR : Rg σ) (rx1 : rng x1) (rx2 : rng x2) : Met l yX1_open wsX1_open ({ frames := 3, cells := 0, slots := 0, locals := 68 }) (va_Pc [.ref (a 1), .int (iN x1), .int (iN x2)] (preC dC dI cI cA a σ)) (qMv (dC, dI) (gw 37 a (cE cI cA a)) (gA 37 a) r) 0 0 (gA 37 a) := by
  refine Met.ofW (cc := cX1_open) (maxL := 3) (ret := none) (by decide) rfl ?_
  intro p e s m args below meth c s₁ B hml hv
  obtain ⟨hargs, hP, hK, hN⟩ := hv
  have hx := B.exec
  have hb := B.bytes
  have hr := B.returns
  have hts := atoms_spec (ws := wsX1_open) B.pre
  have hown : s.vm.findClass RX1 = some m.cls := findClass_of_methodNamed B.named
  have hlocks := B.notSynchronized
  have hS : va_S (gA 37 a) s.heap s.heap [] := va_S.rf
  have iX1 : ∀ w ∈ wsX10, w ∈ wsX1_open := by decide +kernel
  have fl12 := hts (.fieldLink RX1 12 "MatchHall$Hall" "ofResidents" "LMatchHall$Lists;") (by decide +kernel)
  have fl18 := hts (.fieldLink RX1 18 "MatchHall$Hall" "ofHospitals" "LMatchHall$Lists;") (by decide +kernel)
  have fl21 := hts (.fieldLink RX1 21 "MatchHall$Hall" "seatsOf" "[I") (by decide +kernel)
  have fl29 := hts (.fieldLink RX1 29 "MatchHall$Hall" "residents" "I") (by decide +kernel)
  have fl33 := hts (.fieldLink RX1 33 "MatchHall$Hall" "hospitals" "I") (by decide +kernel)
  have hrm : 3 ≤ (headSpec wsX1_open ({ frames := 3, cells := 0, slots := 0, locals := 68 })).room.frames ∧ 68 ≤ (headSpec wsX1_open ({ frames := 3, cells := 0, slots := 0, locals := 68 })).room.locals := ⟨Nat.le_refl _, Nat.le_refl _⟩
  generalize (headSpec wsX1_open ({ frames := 3, cells := 0, slots := 0, locals := 68 })).room = RR at hrm ⊢
  have hl := lv_entry ([.ref (a 1), .int (iN x1), .int (iN x2)]) (n := 3) (Nat.le_of_ble_eq_true rfl)
  rw [show entryFrame m args 3 = entryFrame m ([.ref (a 1), .int (iN x1), .int (iN x2)] : List Value).toArray 3 from by rw [hargs], lg_entry_eq]
  generalize (lg_sl ([.ref (a 1), .int (iN x1), .int (iN x2)]) ++ List.replicate (3 - (lg_sl ([.ref (a 1), .int (iN x1), .int (iN x2)])).length) Slot.unset).toArray = ls at hl ⊢
  have hl : lv_has ls 3 [(0, .ref (a 1)), (1, .int (iN x1)), (2, .int (iN x2))] := hl
  generalize hQQ : MQ below (qMv (dC, dI) (gw 37 a (cE cI cA a)) (gA 37 a) r) args s 0 0 (gA 37 a) = QQ
  refine lv_aload_n hx hb dX1_open_0 rfl (lv_at hl 0 rfl) ?_
  refine lv_iload_n hx hb dX1_open_1 rfl (lv_at hl 1 rfl) ?_
  obtain ⟨σ1, hσ1, hf⟩ := nxe hf
  refine x_put (C := RX1) (T := TX1) (NF := 5) (x := x1) (ty := .int) hx hb hts iX1 tyX1 tyX1_ok nmX1 hi hown hK hP hS 1 (by decide) (cE_1 cI cA a (_)) rfl 3 3 (by decide) fl29 rfl (by decide +kernel) rfl rfl (Nat.le_of_ble_eq_true rfl) rfl dX1_open_2 (fun H locs hP hS => ?_)
  rw [← hσ1] at hP
  have hRσ1 : Rg σ1 := by rw [hσ1]; exact Rg_up hR rx1
  refine lv_aload_n hx hb dX1_open_5 rfl (lv_at hl 0 rfl) ?_
  refine lv_iload_n hx hb dX1_open_6 rfl (lv_at hl 2 rfl) ?_
  obtain ⟨σ2, hσ2, hf⟩ := nxe hf
  refine x_put (C := RX1) (T := TX1) (NF := 5) (x := x2) (ty := .int) hx hb hts iX1 tyX1 tyX1_ok nmX1 hi hown hK hP hS 1 (by decide) (cE_1 cI cA a (_)) rfl 4 4 (by decide) fl33 rfl (by decide +kernel) rfl rfl (Nat.le_of_ble_eq_true rfl) rfl dX1_open_7 (fun H locs hP hS => ?_)
  rw [← hσ2] at hP
  have hRσ2 : Rg σ2 := by rw [hσ2]; exact Rg_up hRσ1 rx2
  refine lv_aload_n hx hb dX1_open_10 rfl (lv_at hl 0 rfl) ?_
  refine x_get (C := RX1) (T := TX1) (NF := 5) (v := .ref (a 2)) hx hb hts iX1 hown hK hP 1 (by decide) (cE_1 cI cA a (_)) rfl 0 (by decide) fl12 rfl dX1_open_11 ?_
  refine lv_aload_n hx hb dX1_open_14 rfl (lv_at hl 0 rfl) ?_
  refine x_get (C := RX1) (T := TX1) (NF := 5) (v := .int (iN (σ2 1 3))) hx hb hts iX1 hown hK hP 1 (by decide) (cE_1 cI cA a (_)) rfl 3 (by decide) fl29 rfl dX1_open_15 ?_
  refine lv_aload_n hx hb dX1_open_18 rfl (lv_at hl 0 rfl) ?_
  refine x_get (C := RX1) (T := TX1) (NF := 5) (v := .int (iN (σ2 1 4))) hx hb hts iX1 hown hK hP 1 (by decide) (cE_1 cI cA a (_)) rfl 4 (by decide) fl33 rfl dX1_open_19 ?_
  obtain ⟨v3, σ4, hv3, hf⟩ := bd2 hf
  refine x_callMv (va_runV (As := [.int (iN (σ2 1 3)), .int (iN (σ2 1 4))]) (rest := []) ⟨hx, hb, hml, hown, hts⟩ (kX2_open_2 l dC dI cI cA a hi σ2 (σ2 1 3) (σ2 1 4) (v3, σ4) hv3 hRσ2 (hRσ2 1 3) (hRσ2 1 4)) (cwV 2 hts gX1_open_X2_open rfl rfl rfl hX2_open_d ⟨Nat.le_trans (by decide) hrm.1, Nat.le_trans (by decide) hrm.2⟩) (pvC 2 (by decide) (cE_2 cI cA a (_)) rfl hP hK hN) rfl rfl hl.1 rfl (lv_room (Nat.le_of_ble_eq_true rfl)) dX1_open_22 ⟨Nat.zero_le _, Nat.zero_le _⟩) hS (fun rv3 hRσ4 H locs hP hS => ?_)
  refine lv_aload_n hx hb dX1_open_25 rfl (lv_at hl 0 rfl) ?_
  refine x_get (C := RX1) (T := TX1) (NF := 5) (v := .ref (a 11)) hx hb hts iX1 hown hK hP 1 (by decide) (cE_1 cI cA a (_)) rfl 1 (by decide) fl18 rfl dX1_open_26 ?_
  refine lv_aload_n hx hb dX1_open_29 rfl (lv_at hl 0 rfl) ?_
  refine x_get (C := RX1) (T := TX1) (NF := 5) (v := .int (iN (σ4 1 4))) hx hb hts iX1 hown hK hP 1 (by decide) (cE_1 cI cA a (_)) rfl 4 (by decide) fl33 rfl dX1_open_30 ?_
  refine lv_aload_n hx hb dX1_open_33 rfl (lv_at hl 0 rfl) ?_
  refine x_get (C := RX1) (T := TX1) (NF := 5) (v := .int (iN (σ4 1 3))) hx hb hts iX1 hown hK hP 1 (by decide) (cE_1 cI cA a (_)) rfl 3 (by decide) fl29 rfl dX1_open_34 ?_
  obtain ⟨v5, σ6, hv5, hf⟩ := bd2 hf
  refine x_callMv (va_runV (As := [.int (iN (σ4 1 4)), .int (iN (σ4 1 3))]) (rest := []) ⟨hx, hb, hml, hown, hts⟩ (kX2_open_11 l dC dI cI cA a hi σ4 (σ4 1 4) (σ4 1 3) (v5, σ6) hv5 hRσ4 (hRσ4 1 4) (hRσ4 1 3)) (cwV 2 hts gX1_open_X2_open rfl rfl rfl hX2_open_d ⟨Nat.le_trans (by decide) hrm.1, Nat.le_trans (by decide) hrm.2⟩) (pvC 11 (by decide) (cE_11 cI cA a (_)) rfl hP hK hN) rfl rfl hl.1 rfl (lv_room (Nat.le_of_ble_eq_true rfl)) dX1_open_37 ⟨Nat.zero_le _, Nat.zero_le _⟩) hS (fun rv5 hRσ6 H locs hP hS => ?_)
  refine lv_aload_n hx hb dX1_open_40 rfl (lv_at hl 0 rfl) ?_
  refine x_get (C := RX1) (T := TX1) (NF := 5) (v := .ref (a 20)) hx hb hts iX1 hown hK hP 1 (by decide) (cE_1 cI cA a (_)) rfl 2 (by decide) fl21 rfl dX1_open_41 ?_
  refine lv_iconst (v := iN 1) hx hb dX1_open_44 rfl ?_
  obtain ⟨v7, σ8, hv7, hf⟩ := bd2 hf
  refine x_callMv (va_runS (As := [.ref (a 20), .int (iN 1)]) (rest := []) ⟨hx, hb, hml, hown, hts⟩ (kJ7_fill_53178_c_20 l dC dI cI cA a hi σ6 1 (v7, σ8) hv7 hRσ6 (by decide)) (va_cwS 2 hts gX1_open_J7_fill_53178 rfl rfl rfl hJ7_fill_53178_d ⟨Nat.le_trans (by decide) hrm.1, Nat.le_trans (by decide) hrm.2⟩) (psC hP hK hN) rfl rfl hl.1 rfl (lv_room (Nat.le_of_ble_eq_true rfl)) dX1_open_45 ⟨Nat.zero_le _, Nat.zero_le _⟩) hS (fun rv7 hRσ8 H locs hP hS => ?_)
  rw [← hQQ]
  exact x_vretM hx hb hr (Option.some.inj hf) hRσ8 hP hS hlocks dX1_open_48
def fJ7_fill_53178_c_22_L5 (x1 : Int) (ex0 : Mem → Int → Option (Int × Mem)) : Nat → Mem → Int → Option (Int × Mem)
  | 0, _, _ => none
  | n0 + 1, σ2, v1 => if v1 < 6 then if (0 : Int) ≤ v1 ∧ (v1 : Int) < 6 then nx (mup σ2 22 v1 x1) fun σ4 => if rng (v1 + 1) then fJ7_fill_53178_c_22_L5 x1 ex0 n0 σ4 (v1 + 1) else none else none else ex0 σ2 v1
def fJ7_fill_53178_c_22 (σ : Mem) (x1 : Int) : Option (Int × Mem) := fJ7_fill_53178_c_22_L5 x1 (fun σ8 v7 => some (0, σ8)) FU σ 0
set_option maxHeartbeats 4000000 in
set_option maxRecDepth 100000 in
theorem kJ7_fill_53178_c_22 (l : Launch) (dC : Nat → ClassId) (dI : Nat → Nat → Nat) (cI : ClassId) (cA : ClassId) (a : Nat → Nat) (hi : ∀ i j, i < 37 → j < 37 → a i = a j → i = j) (σ : Mem) (x1 : Int) (r : (Int × Mem)) (hf : fJ7_fill_53178_c_22 σ x1 = some r) (hR : Rg σ) (rx1 : rng x1) : Met l yJ7_fill_53178 wsJ7_fill_53178 ({ frames := 0, cells := 0, slots := 0, locals := 0 }) (va_Pc [.ref (a 22), .int (iN x1)] (preC dC dI cI cA a σ)) (qMv (dC, dI) (gw 37 a (cE cI cA a)) (gA 37 a) r) 0 0 (gA 37 a) := by
  refine Met.ofW (cc := cJ7_fill_53178) (maxL := 4) (ret := none) (by decide) rfl ?_
  intro p e s m args below meth c s₁ B hml hv
  obtain ⟨hargs, hP, hK, hN⟩ := hv
  have hx := B.exec
  have hb := B.bytes
  have hr := B.returns
  have hts := atoms_spec (ws := wsJ7_fill_53178) B.pre
  have hown : s.vm.findClass RJ7 = some m.cls := findClass_of_methodNamed B.named
  have hlocks := B.notSynchronized
  have hS : va_S (gA 37 a) s.heap s.heap [] := va_S.rf
  have hrm : 0 ≤ (headSpec wsJ7_fill_53178 ({ frames := 0, cells := 0, slots := 0, locals := 0 })).room.frames ∧ 0 ≤ (headSpec wsJ7_fill_53178 ({ frames := 0, cells := 0, slots := 0, locals := 0 })).room.locals := ⟨Nat.le_refl _, Nat.le_refl _⟩
  generalize (headSpec wsJ7_fill_53178 ({ frames := 0, cells := 0, slots := 0, locals := 0 })).room = RR at hrm ⊢
  have hl := lv_entry ([.ref (a 22), .int (iN x1)]) (n := 4) (Nat.le_of_ble_eq_true rfl)
  rw [show entryFrame m args 4 = entryFrame m ([.ref (a 22), .int (iN x1)] : List Value).toArray 4 from by rw [hargs], lg_entry_eq]
  generalize (lg_sl ([.ref (a 22), .int (iN x1)]) ++ List.replicate (4 - (lg_sl ([.ref (a 22), .int (iN x1)])).length) Slot.unset).toArray = ls at hl ⊢
  have hl : lv_has ls 4 [(0, .ref (a 22)), (1, .int (iN x1))] := hl
  generalize hQQ : MQ below (qMv (dC, dI) (gw 37 a (cE cI cA a)) (gA 37 a) r) args s 0 0 (gA 37 a) = QQ
  refine lv_iconst (v := iN 0) hx hb dJ7_fill_53178_0 rfl ?_
  refine lv_istore_n (lv' := [(2, .int (iN 0)), (0, .ref (a 22)), (1, .int (iN x1))]) hx hb dJ7_fill_53178_1 rfl hl (by decide) rfl (fun ls hl => ?_)
  refine lv_aload_n hx hb dJ7_fill_53178_2 rfl (lv_at hl 1 rfl) ?_
  refine va_alen (v := iN 6) hx hb hK hP 22 0 (gw_at 22 (by decide) (cE_22 cI cA a (_))) rfl (show Int32.ofNat 6 = iN 6 by decide) dJ7_fill_53178_3 ?_
  refine lv_istore_n (lv' := [(3, .int (iN 6)), (2, .int (iN 0)), (0, .ref (a 22)), (1, .int (iN x1))]) hx hb dJ7_fill_53178_4 rfl hl (by decide) rfl (fun ls hl => ?_)
  have L_fJ7_fill_53178_c_22_L5 : ∀ (EX0 : Mem → Int → Option (Int × Mem)), (∀ (σ2 : Mem) (v1 : Int), Rg σ2 → rng v1 → EX0 σ2 v1 = some r → ∀ H locs ls, va_P (dC, dI) vwCl (gw 37 a (cE cI cA a) σ2) H → va_S (gA 37 a) s.heap H locs → lv_has ls 4 [(0, .ref (a 22)), (1, .int (iN x1)), (2, .int (iN v1)), (3, .int (iN 6))] → W p l e RR s m args below meth c H locs 0 0 QQ (F0 m 20 ls [])) → ∀ n0 : Nat, ∀ (σ2 : Mem) (v1 : Int), Rg σ2 → rng v1 → fJ7_fill_53178_c_22_L5 x1 EX0 n0 σ2 v1 = some r → ∀ H locs ls, va_P (dC, dI) vwCl (gw 37 a (cE cI cA a) σ2) H → va_S (gA 37 a) s.heap H locs → lv_has ls 4 [(0, .ref (a 22)), (1, .int (iN x1)), (2, .int (iN v1)), (3, .int (iN 6))] → W p l e RR s m args below meth c H locs 0 0 QQ (F0 m 5 ls []) := by
    intro EX0 hEX0 n0
    induction n0 with
    | zero => intro _ _ _ _ hf; cases hf
    | succ n0 ih0 =>
      intro σ2 v1 hRσ2 rv1 hf H locs ls hP hS hl
      rw [fJ7_fill_53178_c_22_L5] at hf
      refine lv_iload_n hx hb dJ7_fill_53178_5 rfl (lv_at hl 2 rfl) ?_
      refine lv_iload_n hx hb dJ7_fill_53178_6 rfl (lv_at hl 3 rfl) ?_
      refine x_icmp_ge (tgt := 20) hx hb rv1 (by decide) dJ7_fill_53178_7 (by decide) (fun c6 => ?_) (fun c6 => ?_)
      · replace hf := (if_neg c6).symm.trans hf
        exact hEX0 _ _ hRσ2 rv1 hf _ _ _ hP hS (lv_sub hl [0, 1, 2, 3] rfl)
      · replace hf := (if_pos c6).symm.trans hf
        refine lv_aload_n hx hb dJ7_fill_53178_10 rfl (lv_at hl 0 rfl) ?_
        refine lv_iload_n hx hb dJ7_fill_53178_11 rfl (lv_at hl 2 rfl) ?_
        refine lv_iload_n hx hb dJ7_fill_53178_12 rfl (lv_at hl 1 rfl) ?_
        obtain ⟨g3, hf⟩ := gd hf
        obtain ⟨σ4, hσ4, hf⟩ := nxe hf
        refine x_iast (x := x1) hx hb hi hK hP hS 22 0 (by decide) (cE_22 cI cA a) (by decide) rfl g3 dJ7_fill_53178_13 (fun H locs hP hS => ?_)
        rw [← hσ4] at hP
        have hRσ4 : Rg σ4 := by rw [hσ4]; exact Rg_up hRσ2 rx1
        obtain ⟨g5, hf⟩ := gd hf
        refine lv_iinc (v := iN (v1 + 1)) (lv' := [(2, .int (iN (v1 + 1))), (0, .ref (a 22)), (1, .int (iN x1)), (3, .int (iN 6))]) hx hb dJ7_fill_53178_14 hl (k := 2) rfl (iN_add v1 1) (by decide) rfl (fun ls hl => ?_)
        refine lv_goto (tgt := 5) hx hb dJ7_fill_53178_17 (by decide) ?_
        exact ih0 _ _ hRσ4 g5 hf _ _ _ hP hS (lv_sub hl [1, 2, 0, 3] rfl)
  refine L_fJ7_fill_53178_c_22_L5 _ (fun σ8 v7 hRσ8 rv7 hf H locs ls hP hS hl => ?_) _ _ _ hR (by decide) hf _ _ _ hP hS (lv_sub hl [2, 3, 1, 0] rfl)
  rw [← hQQ]
  exact x_vretM hx hb hr (Option.some.inj hf) hRσ8 hP hS hlocks dJ7_fill_53178_20
def fX3_clear_21 (σ : Mem) : Option (Int × Mem) := bnd2 (fJ7_fill_53178_c_22 σ (-1)) fun v1 σ2 => some (0, σ2)
set_option maxHeartbeats 4000000 in
set_option maxRecDepth 100000 in
theorem kX3_clear_21 (l : Launch) (dC : Nat → ClassId) (dI : Nat → Nat → Nat) (cI : ClassId) (cA : ClassId) (a : Nat → Nat) (hi : ∀ i j, i < 37 → j < 37 → a i = a j → i = j) (σ : Mem) (r : (Int × Mem)) (hf : fX3_clear_21 σ  = some r) (hR : Rg σ) : Met l yX3_clear wsX3_clear ({ frames := 1, cells := 0, slots := 0, locals := 23 }) (va_Pc [.ref (a 21)] (preC dC dI cI cA a σ)) (qMv (dC, dI) (gw 37 a (cE cI cA a)) (gA 37 a) r) 0 0 (gA 37 a) := by
  refine Met.ofW (cc := cX3_clear) (maxL := 1) (ret := none) (by decide) rfl ?_
  intro p e s m args below meth c s₁ B hml hv
  obtain ⟨hargs, hP, hK, hN⟩ := hv
  have hx := B.exec
  have hb := B.bytes
  have hr := B.returns
  have hts := atoms_spec (ws := wsX3_clear) B.pre
  have hown : s.vm.findClass RX3 = some m.cls := findClass_of_methodNamed B.named
  have hlocks := B.notSynchronized
  have hS : va_S (gA 37 a) s.heap s.heap [] := va_S.rf
  have iX3 : ∀ w ∈ wsX30, w ∈ wsX3_clear := by decide +kernel
  have fl9 := hts (.fieldLink RX3 9 "MatchHall$Matching" "hospitalOf" "[I") (by decide +kernel)
  have hrm : 1 ≤ (headSpec wsX3_clear ({ frames := 1, cells := 0, slots := 0, locals := 23 })).room.frames ∧ 23 ≤ (headSpec wsX3_clear ({ frames := 1, cells := 0, slots := 0, locals := 23 })).room.locals := ⟨Nat.le_refl _, Nat.le_refl _⟩
  generalize (headSpec wsX3_clear ({ frames := 1, cells := 0, slots := 0, locals := 23 })).room = RR at hrm ⊢
  have hl := lv_entry ([.ref (a 21)]) (n := 1) (Nat.le_of_ble_eq_true rfl)
  rw [show entryFrame m args 1 = entryFrame m ([.ref (a 21)] : List Value).toArray 1 from by rw [hargs], lg_entry_eq]
  generalize (lg_sl ([.ref (a 21)]) ++ List.replicate (1 - (lg_sl ([.ref (a 21)])).length) Slot.unset).toArray = ls at hl ⊢
  have hl : lv_has ls 1 [(0, .ref (a 21))] := hl
  generalize hQQ : MQ below (qMv (dC, dI) (gw 37 a (cE cI cA a)) (gA 37 a) r) args s 0 0 (gA 37 a) = QQ
  refine lv_aload_n hx hb dX3_clear_0 rfl (lv_at hl 0 rfl) ?_
  refine x_get (C := RX3) (T := TX3) (NF := 2) (v := .ref (a 22)) hx hb hts iX3 hown hK hP 21 (by decide) (cE_21 cI cA a (_)) rfl 1 (by decide) fl9 rfl dX3_clear_1 ?_
  refine lv_iconst (v := iN (-1)) hx hb dX3_clear_4 rfl ?_
  obtain ⟨v1, σ2, hv1, hf⟩ := bd2 hf
  refine x_callMv (va_runS (As := [.ref (a 22), .int (iN (-1))]) (rest := []) ⟨hx, hb, hml, hown, hts⟩ (kJ7_fill_53178_c_22 l dC dI cI cA a hi σ (-1) (v1, σ2) hv1 hR (by decide)) (va_cwS 2 hts gX3_clear_J7_fill_53178 rfl rfl rfl hJ7_fill_53178_d ⟨Nat.le_trans (by decide) hrm.1, Nat.le_trans (by decide) hrm.2⟩) (psC hP hK hN) rfl rfl hl.1 rfl (lv_room (Nat.le_of_ble_eq_true rfl)) dX3_clear_5 ⟨Nat.zero_le _, Nat.zero_le _⟩) hS (fun rv1 hRσ2 H locs hP hS => ?_)
  rw [← hQQ]
  exact x_vretM hx hb hr (Option.some.inj hf) hRσ2 hP hS hlocks dX3_clear_8
def fX5_copyTo_25_21 (σ : Mem) (x2 : Int) : Option (Int × Mem) := if rng (x2 * 6) then if (0 : Int) ≤ (x2 * 6) ∧ (0 : Int) ≤ 0 ∧ (0 : Int) ≤ 6 ∧ ((x2 * 6) : Int) + 6 ≤ 1296 ∧ (0 : Int) + 6 ≤ 6 then nx (mcpy σ 26 22 (x2 * 6) 0 6) fun σ3 => some (0, σ3) else none else none
set_option maxHeartbeats 4000000 in
set_option maxRecDepth 100000 in
theorem kX5_copyTo_25_21 (l : Launch) (dC : Nat → ClassId) (dI : Nat → Nat → Nat) (cI : ClassId) (cA : ClassId) (a : Nat → Nat) (hi : ∀ i j, i < 37 → j < 37 → a i = a j → i = j) (σ : Mem) (x2 : Int) (r : (Int × Mem)) (hf : fX5_copyTo_25_21 σ x2 = some r) (hR : Rg σ) (rx2 : rng x2) : Met l yX5_copyTo wsX5_copyTo ({ frames := 1, cells := 0, slots := 0, locals := 64 }) (va_Pc [.ref (a 25), .ref (a 21), .int (iN x2)] (preC dC dI cI cA a σ)) (qMv (dC, dI) (gw 37 a (cE cI cA a)) (gA 37 a) r) 0 0 (gA 37 a) := by
  refine Met.ofW (cc := cX5_copyTo) (maxL := 3) (ret := none) (by decide) rfl ?_
  intro p e s m args below meth c s₁ B hml hv
  obtain ⟨hargs, hP, hK, hN⟩ := hv
  have hx := B.exec
  have hb := B.bytes
  have hr := B.returns
  have hts := atoms_spec (ws := wsX5_copyTo) B.pre
  have hown : s.vm.findClass RX5 = some m.cls := findClass_of_methodNamed B.named
  have hlocks := B.notSynchronized
  have hS : va_S (gA 37 a) s.heap s.heap [] := va_S.rf
  have iX3 : ∀ w ∈ wsX30, w ∈ wsX5_copyTo := by decide +kernel
  have iX5 : ∀ w ∈ wsX50, w ∈ wsX5_copyTo := by decide +kernel
  have fl9 := hts (.fieldLink RX5 9 "MatchHall$Stables" "hospitals" "[I") (by decide +kernel)
  have fn26 := va_Nw.use (A := args) rfl (hN (.fieldLinkNest RX5 26 "MatchHall$Matching" "hospitalOf" "[I" "MatchHall") (by decide +kernel))
  have hrm : 1 ≤ (headSpec wsX5_copyTo ({ frames := 1, cells := 0, slots := 0, locals := 64 })).room.frames ∧ 64 ≤ (headSpec wsX5_copyTo ({ frames := 1, cells := 0, slots := 0, locals := 64 })).room.locals := ⟨Nat.le_refl _, Nat.le_refl _⟩
  generalize (headSpec wsX5_copyTo ({ frames := 1, cells := 0, slots := 0, locals := 64 })).room = RR at hrm ⊢
  have hl := lv_entry ([.ref (a 25), .ref (a 21), .int (iN x2)]) (n := 3) (Nat.le_of_ble_eq_true rfl)
  rw [show entryFrame m args 3 = entryFrame m ([.ref (a 25), .ref (a 21), .int (iN x2)] : List Value).toArray 3 from by rw [hargs], lg_entry_eq]
  generalize (lg_sl ([.ref (a 25), .ref (a 21), .int (iN x2)]) ++ List.replicate (3 - (lg_sl ([.ref (a 25), .ref (a 21), .int (iN x2)])).length) Slot.unset).toArray = ls at hl ⊢
  have hl : lv_has ls 3 [(0, .ref (a 25)), (1, .ref (a 21)), (2, .int (iN x2))] := hl
  generalize hQQ : MQ below (qMv (dC, dI) (gw 37 a (cE cI cA a)) (gA 37 a) r) args s 0 0 (gA 37 a) = QQ
  refine lv_aload_n hx hb dX5_copyTo_0 rfl (lv_at hl 0 rfl) ?_
  refine x_get (C := RX5) (T := TX5) (NF := 4) (v := .ref (a 26)) hx hb hts iX5 hown hK hP 25 (by decide) (cE_25 cI cA a (_)) rfl 1 (by decide) fl9 rfl dX5_copyTo_1 ?_
  refine lv_iload_n hx hb dX5_copyTo_4 rfl (lv_at hl 2 rfl) ?_
  refine lv_bipush (v := iN 6) hx hb dX5_copyTo_5 (by decide) ?_
  obtain ⟨g1, hf⟩ := gd hf
  refine x_imul hx hb dX5_copyTo_7 ?_
  refine lv_aload_n hx hb dX5_copyTo_8 rfl (lv_at hl 1 rfl) ?_
  refine x_getN (C := RX3) (T := TX3) (NF := 2) (v := .ref (a 22)) hx hb hts iX3 hown hK hP 21 (by decide) (cE_21 cI cA a (_)) rfl 1 (by decide) fn26 rfl dX5_copyTo_9 ?_
  refine lv_iconst (v := iN 0) hx hb dX5_copyTo_12 rfl ?_
  refine lv_bipush (v := iN 6) hx hb dX5_copyTo_13 (by decide) ?_
  obtain ⟨g2, hf⟩ := gd hf
  obtain ⟨σ3, hσ3, hf⟩ := nxe hf
  refine x_copy hx hb (hml.trans hl.1.symm) hown (hts (.methodLink RX5 31 arraycopyName) (by decide +kernel)) (hts (.native arraycopyName) (by decide +kernel)) (hts (.static arraycopyName) (by decide +kernel)) (hts (.initialized "java/lang/System") (by decide +kernel)) hi hK hP hS 26 22 0 (by decide) (by decide) (cE_26 cI cA a (_)) (cE_22 cI cA a) (by decide) (by decide) rfl g2 (Nat.le_trans (by decide) hrm.1) (Nat.le_trans (Nat.le_of_ble_eq_true rfl) hrm.2) dX5_copyTo_15 (fun H locs hP hS => ?_)
  rw [← hσ3] at hP
  have hRσ3 : Rg σ3 := by rw [hσ3]; exact Rg_cpy hR
  rw [← hQQ]
  exact x_vretM hx hb hr (Option.some.inj hf) hRσ3 hP hS hlocks dX5_copyTo_18
def fJ7_fill_53178_c_34_L5 (x1 : Int) (ex0 : Mem → Int → Option (Int × Mem)) : Nat → Mem → Int → Option (Int × Mem)
  | 0, _, _ => none
  | n0 + 1, σ2, v1 => if v1 < 6 then if (0 : Int) ≤ v1 ∧ (v1 : Int) < 6 then nx (mup σ2 34 v1 x1) fun σ4 => if rng (v1 + 1) then fJ7_fill_53178_c_34_L5 x1 ex0 n0 σ4 (v1 + 1) else none else none else ex0 σ2 v1
def fJ7_fill_53178_c_34 (σ : Mem) (x1 : Int) : Option (Int × Mem) := fJ7_fill_53178_c_34_L5 x1 (fun σ8 v7 => some (0, σ8)) FU σ 0
set_option maxHeartbeats 4000000 in
set_option maxRecDepth 100000 in
theorem kJ7_fill_53178_c_34 (l : Launch) (dC : Nat → ClassId) (dI : Nat → Nat → Nat) (cI : ClassId) (cA : ClassId) (a : Nat → Nat) (hi : ∀ i j, i < 37 → j < 37 → a i = a j → i = j) (σ : Mem) (x1 : Int) (r : (Int × Mem)) (hf : fJ7_fill_53178_c_34 σ x1 = some r) (hR : Rg σ) (rx1 : rng x1) : Met l yJ7_fill_53178 wsJ7_fill_53178 ({ frames := 0, cells := 0, slots := 0, locals := 0 }) (va_Pc [.ref (a 34), .int (iN x1)] (preC dC dI cI cA a σ)) (qMv (dC, dI) (gw 37 a (cE cI cA a)) (gA 37 a) r) 0 0 (gA 37 a) := by
  refine Met.ofW (cc := cJ7_fill_53178) (maxL := 4) (ret := none) (by decide) rfl ?_
  intro p e s m args below meth c s₁ B hml hv
  obtain ⟨hargs, hP, hK, hN⟩ := hv
  have hx := B.exec
  have hb := B.bytes
  have hr := B.returns
  have hts := atoms_spec (ws := wsJ7_fill_53178) B.pre
  have hown : s.vm.findClass RJ7 = some m.cls := findClass_of_methodNamed B.named
  have hlocks := B.notSynchronized
  have hS : va_S (gA 37 a) s.heap s.heap [] := va_S.rf
  have hrm : 0 ≤ (headSpec wsJ7_fill_53178 ({ frames := 0, cells := 0, slots := 0, locals := 0 })).room.frames ∧ 0 ≤ (headSpec wsJ7_fill_53178 ({ frames := 0, cells := 0, slots := 0, locals := 0 })).room.locals := ⟨Nat.le_refl _, Nat.le_refl _⟩
  generalize (headSpec wsJ7_fill_53178 ({ frames := 0, cells := 0, slots := 0, locals := 0 })).room = RR at hrm ⊢
  have hl := lv_entry ([.ref (a 34), .int (iN x1)]) (n := 4) (Nat.le_of_ble_eq_true rfl)
  rw [show entryFrame m args 4 = entryFrame m ([.ref (a 34), .int (iN x1)] : List Value).toArray 4 from by rw [hargs], lg_entry_eq]
  generalize (lg_sl ([.ref (a 34), .int (iN x1)]) ++ List.replicate (4 - (lg_sl ([.ref (a 34), .int (iN x1)])).length) Slot.unset).toArray = ls at hl ⊢
  have hl : lv_has ls 4 [(0, .ref (a 34)), (1, .int (iN x1))] := hl
  generalize hQQ : MQ below (qMv (dC, dI) (gw 37 a (cE cI cA a)) (gA 37 a) r) args s 0 0 (gA 37 a) = QQ
  refine lv_iconst (v := iN 0) hx hb dJ7_fill_53178_0 rfl ?_
  refine lv_istore_n (lv' := [(2, .int (iN 0)), (0, .ref (a 34)), (1, .int (iN x1))]) hx hb dJ7_fill_53178_1 rfl hl (by decide) rfl (fun ls hl => ?_)
  refine lv_aload_n hx hb dJ7_fill_53178_2 rfl (lv_at hl 1 rfl) ?_
  refine va_alen (v := iN 6) hx hb hK hP 34 0 (gw_at 34 (by decide) (cE_34 cI cA a (_))) rfl (show Int32.ofNat 6 = iN 6 by decide) dJ7_fill_53178_3 ?_
  refine lv_istore_n (lv' := [(3, .int (iN 6)), (2, .int (iN 0)), (0, .ref (a 34)), (1, .int (iN x1))]) hx hb dJ7_fill_53178_4 rfl hl (by decide) rfl (fun ls hl => ?_)
  have L_fJ7_fill_53178_c_34_L5 : ∀ (EX0 : Mem → Int → Option (Int × Mem)), (∀ (σ2 : Mem) (v1 : Int), Rg σ2 → rng v1 → EX0 σ2 v1 = some r → ∀ H locs ls, va_P (dC, dI) vwCl (gw 37 a (cE cI cA a) σ2) H → va_S (gA 37 a) s.heap H locs → lv_has ls 4 [(0, .ref (a 34)), (1, .int (iN x1)), (2, .int (iN v1)), (3, .int (iN 6))] → W p l e RR s m args below meth c H locs 0 0 QQ (F0 m 20 ls [])) → ∀ n0 : Nat, ∀ (σ2 : Mem) (v1 : Int), Rg σ2 → rng v1 → fJ7_fill_53178_c_34_L5 x1 EX0 n0 σ2 v1 = some r → ∀ H locs ls, va_P (dC, dI) vwCl (gw 37 a (cE cI cA a) σ2) H → va_S (gA 37 a) s.heap H locs → lv_has ls 4 [(0, .ref (a 34)), (1, .int (iN x1)), (2, .int (iN v1)), (3, .int (iN 6))] → W p l e RR s m args below meth c H locs 0 0 QQ (F0 m 5 ls []) := by
    intro EX0 hEX0 n0
    induction n0 with
    | zero => intro _ _ _ _ hf; cases hf
    | succ n0 ih0 =>
      intro σ2 v1 hRσ2 rv1 hf H locs ls hP hS hl
      rw [fJ7_fill_53178_c_34_L5] at hf
      refine lv_iload_n hx hb dJ7_fill_53178_5 rfl (lv_at hl 2 rfl) ?_
      refine lv_iload_n hx hb dJ7_fill_53178_6 rfl (lv_at hl 3 rfl) ?_
      refine x_icmp_ge (tgt := 20) hx hb rv1 (by decide) dJ7_fill_53178_7 (by decide) (fun c6 => ?_) (fun c6 => ?_)
      · replace hf := (if_neg c6).symm.trans hf
        exact hEX0 _ _ hRσ2 rv1 hf _ _ _ hP hS (lv_sub hl [0, 1, 2, 3] rfl)
      · replace hf := (if_pos c6).symm.trans hf
        refine lv_aload_n hx hb dJ7_fill_53178_10 rfl (lv_at hl 0 rfl) ?_
        refine lv_iload_n hx hb dJ7_fill_53178_11 rfl (lv_at hl 2 rfl) ?_
        refine lv_iload_n hx hb dJ7_fill_53178_12 rfl (lv_at hl 1 rfl) ?_
        obtain ⟨g3, hf⟩ := gd hf
        obtain ⟨σ4, hσ4, hf⟩ := nxe hf
        refine x_iast (x := x1) hx hb hi hK hP hS 34 0 (by decide) (cE_34 cI cA a) (by decide) rfl g3 dJ7_fill_53178_13 (fun H locs hP hS => ?_)
        rw [← hσ4] at hP
        have hRσ4 : Rg σ4 := by rw [hσ4]; exact Rg_up hRσ2 rx1
        obtain ⟨g5, hf⟩ := gd hf
        refine lv_iinc (v := iN (v1 + 1)) (lv' := [(2, .int (iN (v1 + 1))), (0, .ref (a 34)), (1, .int (iN x1)), (3, .int (iN 6))]) hx hb dJ7_fill_53178_14 hl (k := 2) rfl (iN_add v1 1) (by decide) rfl (fun ls hl => ?_)
        refine lv_goto (tgt := 5) hx hb dJ7_fill_53178_17 (by decide) ?_
        exact ih0 _ _ hRσ4 g5 hf _ _ _ hP hS (lv_sub hl [1, 2, 0, 3] rfl)
  refine L_fJ7_fill_53178_c_34_L5 _ (fun σ8 v7 hRσ8 rv7 hf H locs ls hP hS hl => ?_) _ _ _ hR (by decide) hf _ _ _ hP hS (lv_sub hl [2, 3, 1, 0] rfl)
  rw [← hQQ]
  exact x_vretM hx hb hr (Option.some.inj hf) hRσ8 hP hS hlocks dJ7_fill_53178_20
def fX0_nextAsker_33_L2 (σ : Mem) (ex0 : Int → Option Int) : Nat → Int → Option Int
  | 0, _ => none
  | n0 + 1, v1 => if v1 < (σ 1 3) then if (0 : Int) ≤ v1 ∧ (v1 : Int) < 6 then if (σ 24 v1) = (-1) then if (0 : Int) ≤ v1 ∧ (v1 : Int) < 6 then if (0 : Int) ≤ v1 ∧ (v1 : Int) < 6 then if (σ 34 v1) < (σ 10 v1) then some v1 else if rng (v1 + 1) then fX0_nextAsker_33_L2 σ ex0 n0 (v1 + 1) else none else none else none else if rng (v1 + 1) then fX0_nextAsker_33_L2 σ ex0 n0 (v1 + 1) else none else none else ex0 v1
def fX0_nextAsker_33 (σ : Mem) : Option Int := fX0_nextAsker_33_L2 σ (fun v10 => some (-1)) FU 0
set_option maxHeartbeats 4000000 in
set_option maxRecDepth 100000 in
theorem kX0_nextAsker_33 (l : Launch) (dC : Nat → ClassId) (dI : Nat → Nat → Nat) (cI : ClassId) (cA : ClassId) (a : Nat → Nat) (σ : Mem) (r : Int) (hf : fX0_nextAsker_33 σ  = some r) (hR : Rg σ) : Met l yX0_nextAsker wsX0_nextAsker ({ frames := 0, cells := 0, slots := 0, locals := 0 }) (va_Pc [.ref (a 33)] (preC dC dI cI cA a σ)) (qP r) 0 0 (fun _ => False) := by
  refine Met.ofW (cc := cX0_nextAsker) (maxL := 2) (ret := (some .int)) (by decide) rfl ?_
  intro p e s m args below meth c s₁ B hml hv
  obtain ⟨hargs, hP, hK, hN⟩ := hv
  have hx := B.exec
  have hb := B.bytes
  have hr := B.returns
  have hts := atoms_spec (ws := wsX0_nextAsker) B.pre
  have hown : s.vm.findClass RX0 = some m.cls := findClass_of_methodNamed B.named
  have hlocks := B.notSynchronized
  have iX0 : ∀ w ∈ wsX00, w ∈ wsX0_nextAsker := by decide +kernel
  have iX1 : ∀ w ∈ wsX10, w ∈ wsX0_nextAsker := by decide +kernel
  have iX2 : ∀ w ∈ wsX20, w ∈ wsX0_nextAsker := by decide +kernel
  have iX3 : ∀ w ∈ wsX30, w ∈ wsX0_nextAsker := by decide +kernel
  have fl21 := hts (.fieldLink RX0 21 "MatchHall$Finder" "hall" "LMatchHall$Hall;") (by decide +kernel)
  have fl29 := hts (.fieldLink RX0 29 "MatchHall$Finder" "trial" "LMatchHall$Matching;") (by decide +kernel)
  have fl9 := hts (.fieldLink RX0 9 "MatchHall$Finder" "asked" "[I") (by decide +kernel)
  have fn61 := va_Nw.use (A := args) rfl (hN (.fieldLinkNest RX0 61 "MatchHall$Hall" "residents" "I" "MatchHall") (by decide +kernel))
  have fn67 := va_Nw.use (A := args) rfl (hN (.fieldLinkNest RX0 67 "MatchHall$Matching" "hospitalOf" "[I" "MatchHall") (by decide +kernel))
  have fn70 := va_Nw.use (A := args) rfl (hN (.fieldLinkNest RX0 70 "MatchHall$Hall" "ofResidents" "LMatchHall$Lists;" "MatchHall") (by decide +kernel))
  have fn74 := va_Nw.use (A := args) rfl (hN (.fieldLinkNest RX0 74 "MatchHall$Lists" "sizes" "[I" "MatchHall") (by decide +kernel))
  have hrm : 0 ≤ (headSpec wsX0_nextAsker ({ frames := 0, cells := 0, slots := 0, locals := 0 })).room.frames ∧ 0 ≤ (headSpec wsX0_nextAsker ({ frames := 0, cells := 0, slots := 0, locals := 0 })).room.locals := ⟨Nat.le_refl _, Nat.le_refl _⟩
  generalize (headSpec wsX0_nextAsker ({ frames := 0, cells := 0, slots := 0, locals := 0 })).room = RR at hrm ⊢
  have hl := lv_entry ([.ref (a 33)]) (n := 2) (Nat.le_of_ble_eq_true rfl)
  rw [show entryFrame m args 2 = entryFrame m ([.ref (a 33)] : List Value).toArray 2 from by rw [hargs], lg_entry_eq]
  generalize (lg_sl ([.ref (a 33)]) ++ List.replicate (2 - (lg_sl ([.ref (a 33)])).length) Slot.unset).toArray = ls at hl ⊢
  have hl : lv_has ls 2 [(0, .ref (a 33))] := hl
  generalize hQQ : MQ below (qP r) args s 0 0 (fun _ => False) = QQ
  refine lv_iconst (v := iN 0) hx hb dX0_nextAsker_0 rfl ?_
  refine lv_istore_n (lv' := [(1, .int (iN 0)), (0, .ref (a 33))]) hx hb dX0_nextAsker_1 rfl hl (by decide) rfl (fun ls hl => ?_)
  have L_fX0_nextAsker_33_L2 : ∀ (EX0 : Int → Option Int), (∀ (v1 : Int), rng v1 → EX0 v1 = some r → ∀ ls, lv_has ls 2 [(0, .ref (a 33)), (1, .int (iN v1))] → W p l e RR s m args below meth c s.heap [] 0 0 QQ (F0 m 55 ls [])) → ∀ n0 : Nat, ∀ (v1 : Int), rng v1 → fX0_nextAsker_33_L2 σ EX0 n0 v1 = some r → ∀ ls, lv_has ls 2 [(0, .ref (a 33)), (1, .int (iN v1))] → W p l e RR s m args below meth c s.heap [] 0 0 QQ (F0 m 2 ls []) := by
    intro EX0 hEX0 n0
    induction n0 with
    | zero => intro _ _ hf; cases hf
    | succ n0 ih0 =>
      intro v1 rv1 hf ls hl
      rw [fX0_nextAsker_33_L2] at hf
      refine lv_iload_n hx hb dX0_nextAsker_2 rfl (lv_at hl 1 rfl) ?_
      refine lv_aload_n hx hb dX0_nextAsker_3 rfl (lv_at hl 0 rfl) ?_
      refine x_get (C := RX0) (T := TX0) (NF := 6) (v := .ref (a 1)) hx hb hts iX0 hown hK hP 33 (by decide) (cE_33 cI cA a (_)) rfl 0 (by decide) fl21 rfl dX0_nextAsker_4 ?_
      refine x_getN (C := RX1) (T := TX1) (NF := 5) (v := .int (iN (σ 1 3))) hx hb hts iX1 hown hK hP 1 (by decide) (cE_1 cI cA a (_)) rfl 3 (by decide) fn61 rfl dX0_nextAsker_7 ?_
      refine x_icmp_ge (tgt := 55) hx hb rv1 (hR 1 3) dX0_nextAsker_10 (by decide) (fun c9 => ?_) (fun c9 => ?_)
      · replace hf := (if_neg c9).symm.trans hf
        exact hEX0 _ rv1 hf _ (lv_sub hl [0, 1] rfl)
      · replace hf := (if_pos c9).symm.trans hf
        refine lv_aload_n hx hb dX0_nextAsker_13 rfl (lv_at hl 0 rfl) ?_
        refine x_get (C := RX0) (T := TX0) (NF := 6) (v := .ref (a 23)) hx hb hts iX0 hown hK hP 33 (by decide) (cE_33 cI cA a (_)) rfl 2 (by decide) fl29 rfl dX0_nextAsker_14 ?_
        refine x_getN (C := RX3) (T := TX3) (NF := 2) (v := .ref (a 24)) hx hb hts iX3 hown hK hP 23 (by decide) (cE_23 cI cA a (_)) rfl 1 (by decide) fn67 rfl dX0_nextAsker_17 ?_
        refine lv_iload_n hx hb dX0_nextAsker_20 rfl (lv_at hl 1 rfl) ?_
        obtain ⟨g2, hf⟩ := gd hf
        refine x_iald hx hb hK hP 24 0 (by decide) (cE_24 cI cA a (_)) (by decide) rfl g2 dX0_nextAsker_21 ?_
        refine lv_iconst (v := iN (-1)) hx hb dX0_nextAsker_22 rfl ?_
        refine x_icmp_ne (tgt := 49) hx hb (hR 24 v1) (by decide) dX0_nextAsker_23 (by decide) (fun c8 => ?_) (fun c8 => ?_)
        · replace hf := (if_neg c8).symm.trans hf
          obtain ⟨g3, hf⟩ := gd hf
          refine lv_iinc (v := iN (v1 + 1)) (lv' := [(1, .int (iN (v1 + 1))), (0, .ref (a 33))]) hx hb dX0_nextAsker_49 hl (k := 1) rfl (iN_add v1 1) (by decide) rfl (fun ls hl => ?_)
          refine lv_goto (tgt := 2) hx hb dX0_nextAsker_52 (by decide) ?_
          exact ih0 _ g3 hf _ (lv_sub hl [1, 0] rfl)
        · replace hf := (if_pos c8).symm.trans hf
          refine lv_aload_n hx hb dX0_nextAsker_26 rfl (lv_at hl 0 rfl) ?_
          refine x_get (C := RX0) (T := TX0) (NF := 6) (v := .ref (a 34)) hx hb hts iX0 hown hK hP 33 (by decide) (cE_33 cI cA a (_)) rfl 3 (by decide) fl9 rfl dX0_nextAsker_27 ?_
          refine lv_iload_n hx hb dX0_nextAsker_30 rfl (lv_at hl 1 rfl) ?_
          obtain ⟨g4, hf⟩ := gd hf
          refine x_iald hx hb hK hP 34 0 (by decide) (cE_34 cI cA a (_)) (by decide) rfl g4 dX0_nextAsker_31 ?_
          refine lv_aload_n hx hb dX0_nextAsker_32 rfl (lv_at hl 0 rfl) ?_
          refine x_get (C := RX0) (T := TX0) (NF := 6) (v := .ref (a 1)) hx hb hts iX0 hown hK hP 33 (by decide) (cE_33 cI cA a (_)) rfl 0 (by decide) fl21 rfl dX0_nextAsker_33 ?_
          refine x_getN (C := RX1) (T := TX1) (NF := 5) (v := .ref (a 2)) hx hb hts iX1 hown hK hP 1 (by decide) (cE_1 cI cA a (_)) rfl 0 (by decide) fn70 rfl dX0_nextAsker_36 ?_
          refine x_getN (C := RX2) (T := TX2) (NF := 4) (v := .ref (a 10)) hx hb hts iX2 hown hK hP 2 (by decide) (cE_2 cI cA a (_)) rfl 1 (by decide) fn74 rfl dX0_nextAsker_39 ?_
          refine lv_iload_n hx hb dX0_nextAsker_42 rfl (lv_at hl 1 rfl) ?_
          obtain ⟨g5, hf⟩ := gd hf
          refine x_iald hx hb hK hP 10 0 (by decide) (cE_10 cI cA a (_)) (by decide) rfl g5 dX0_nextAsker_43 ?_
          refine x_icmp_ge (tgt := 49) hx hb (hR 34 v1) (hR 10 v1) dX0_nextAsker_44 (by decide) (fun c7 => ?_) (fun c7 => ?_)
          · replace hf := (if_neg c7).symm.trans hf
            obtain ⟨g6, hf⟩ := gd hf
            refine lv_iinc (v := iN (v1 + 1)) (lv' := [(1, .int (iN (v1 + 1))), (0, .ref (a 33))]) hx hb dX0_nextAsker_49 hl (k := 1) rfl (iN_add v1 1) (by decide) rfl (fun ls hl => ?_)
            refine lv_goto (tgt := 2) hx hb dX0_nextAsker_52 (by decide) ?_
            exact ih0 _ g6 hf _ (lv_sub hl [1, 0] rfl)
          · replace hf := (if_pos c7).symm.trans hf
            refine lv_iload_n hx hb dX0_nextAsker_47 rfl (lv_at hl 1 rfl) ?_
            rw [← hQQ]
            exact x_iret hx hb hr (Option.some.inj hf) rv1 hlocks dX0_nextAsker_48
  refine L_fX0_nextAsker_33_L2 _ (fun v10 rv10 hf ls hl => ?_) _ _ (by decide) hf _ (lv_sub hl [1, 0] rfl)
  refine lv_iconst (v := iN (-1)) hx hb dX0_nextAsker_55 rfl ?_
  rw [← hQQ]
  exact x_iret hx hb hr (Option.some.inj hf) (by decide) hlocks dX0_nextAsker_56
def fX3_lastAt_23_L4 (σ : Mem) (x1 : Int) (ex0 : Int → Int → Option Int) : Nat → Int → Int → Option Int
  | 0, _, _ => none
  | n0 + 1, v1, v2 => if v2 < (σ 1 3) then if (0 : Int) ≤ v2 ∧ (v2 : Int) < 6 then if (σ 24 v2) = x1 then if v1 = (-1) then if rng (v2 + 1) then fX3_lastAt_23_L4 σ x1 ex0 n0 v2 (v2 + 1) else none else (fX1_placeOfResident_1 σ x1 v2).bind fun v6 => (fX1_placeOfResident_1 σ x1 v1).bind fun v7 => if v7 < v6 then if rng (v2 + 1) then fX3_lastAt_23_L4 σ x1 ex0 n0 v2 (v2 + 1) else none else if rng (v2 + 1) then fX3_lastAt_23_L4 σ x1 ex0 n0 v1 (v2 + 1) else none else if rng (v2 + 1) then fX3_lastAt_23_L4 σ x1 ex0 n0 v1 (v2 + 1) else none else none else ex0 v1 v2
def fX3_lastAt_23 (σ : Mem) (x1 : Int) : Option Int := fX3_lastAt_23_L4 σ x1 (fun v14 v15 => some v14) FU (-1) 0
set_option maxHeartbeats 4000000 in
set_option maxRecDepth 100000 in
theorem kX3_lastAt_23 (l : Launch) (dC : Nat → ClassId) (dI : Nat → Nat → Nat) (cI : ClassId) (cA : ClassId) (a : Nat → Nat) (σ : Mem) (x1 : Int) (r : Int) (hf : fX3_lastAt_23 σ x1 = some r) (hR : Rg σ) (rx1 : rng x1) : Met l yX3_lastAt wsX3_lastAt ({ frames := 1, cells := 0, slots := 0, locals := 22 }) (va_Pc [.ref (a 23), .int (iN x1)] (preC dC dI cI cA a σ)) (qP r) 0 0 (fun _ => False) := by
  refine Met.ofW (cc := cX3_lastAt) (maxL := 4) (ret := (some .int)) (by decide) rfl ?_
  intro p e s m args below meth c s₁ B hml hv
  obtain ⟨hargs, hP, hK, hN⟩ := hv
  have hx := B.exec
  have hb := B.bytes
  have hr := B.returns
  have hts := atoms_spec (ws := wsX3_lastAt) B.pre
  have hown : s.vm.findClass RX3 = some m.cls := findClass_of_methodNamed B.named
  have hlocks := B.notSynchronized
  have iX1 : ∀ w ∈ wsX10, w ∈ wsX3_lastAt := by decide +kernel
  have iX3 : ∀ w ∈ wsX30, w ∈ wsX3_lastAt := by decide +kernel
  have fl15 := hts (.fieldLink RX3 15 "MatchHall$Matching" "hall" "LMatchHall$Hall;") (by decide +kernel)
  have fl9 := hts (.fieldLink RX3 9 "MatchHall$Matching" "hospitalOf" "[I") (by decide +kernel)
  have fn28 := va_Nw.use (A := args) rfl (hN (.fieldLinkNest RX3 28 "MatchHall$Hall" "residents" "I" "MatchHall") (by decide +kernel))
  have hrm : 1 ≤ (headSpec wsX3_lastAt ({ frames := 1, cells := 0, slots := 0, locals := 22 })).room.frames ∧ 22 ≤ (headSpec wsX3_lastAt ({ frames := 1, cells := 0, slots := 0, locals := 22 })).room.locals := ⟨Nat.le_refl _, Nat.le_refl _⟩
  generalize (headSpec wsX3_lastAt ({ frames := 1, cells := 0, slots := 0, locals := 22 })).room = RR at hrm ⊢
  have hl := lv_entry ([.ref (a 23), .int (iN x1)]) (n := 4) (Nat.le_of_ble_eq_true rfl)
  rw [show entryFrame m args 4 = entryFrame m ([.ref (a 23), .int (iN x1)] : List Value).toArray 4 from by rw [hargs], lg_entry_eq]
  generalize (lg_sl ([.ref (a 23), .int (iN x1)]) ++ List.replicate (4 - (lg_sl ([.ref (a 23), .int (iN x1)])).length) Slot.unset).toArray = ls at hl ⊢
  have hl : lv_has ls 4 [(0, .ref (a 23)), (1, .int (iN x1))] := hl
  generalize hQQ : MQ below (qP r) args s 0 0 (fun _ => False) = QQ
  refine lv_iconst (v := iN (-1)) hx hb dX3_lastAt_0 rfl ?_
  refine lv_istore_n (lv' := [(2, .int (iN (-1))), (0, .ref (a 23)), (1, .int (iN x1))]) hx hb dX3_lastAt_1 rfl hl (by decide) rfl (fun ls hl => ?_)
  refine lv_iconst (v := iN 0) hx hb dX3_lastAt_2 rfl ?_
  refine lv_istore_n (lv' := [(3, .int (iN 0)), (2, .int (iN (-1))), (0, .ref (a 23)), (1, .int (iN x1))]) hx hb dX3_lastAt_3 rfl hl (by decide) rfl (fun ls hl => ?_)
  have L_fX3_lastAt_23_L4 : ∀ (EX0 : Int → Int → Option Int), (∀ (v1 : Int) (v2 : Int), rng v1 → rng v2 → EX0 v1 v2 = some r → ∀ ls, lv_has ls 4 [(0, .ref (a 23)), (1, .int (iN x1)), (2, .int (iN v1)), (3, .int (iN v2))] → W p l e RR s m args below meth c s.heap [] 0 0 QQ (F0 m 59 ls [])) → ∀ n0 : Nat, ∀ (v1 : Int) (v2 : Int), rng v1 → rng v2 → fX3_lastAt_23_L4 σ x1 EX0 n0 v1 v2 = some r → ∀ ls, lv_has ls 4 [(0, .ref (a 23)), (1, .int (iN x1)), (2, .int (iN v1)), (3, .int (iN v2))] → W p l e RR s m args below meth c s.heap [] 0 0 QQ (F0 m 4 ls []) := by
    intro EX0 hEX0 n0
    induction n0 with
    | zero => intro _ _ _ _ hf; cases hf
    | succ n0 ih0 =>
      intro v1 v2 rv1 rv2 hf ls hl
      rw [fX3_lastAt_23_L4] at hf
      refine lv_iload_n hx hb dX3_lastAt_4 rfl (lv_at hl 3 rfl) ?_
      refine lv_aload_n hx hb dX3_lastAt_5 rfl (lv_at hl 0 rfl) ?_
      refine x_get (C := RX3) (T := TX3) (NF := 2) (v := .ref (a 1)) hx hb hts iX3 hown hK hP 23 (by decide) (cE_23 cI cA a (_)) rfl 0 (by decide) fl15 rfl dX3_lastAt_6 ?_
      refine x_getN (C := RX1) (T := TX1) (NF := 5) (v := .int (iN (σ 1 3))) hx hb hts iX1 hown hK hP 1 (by decide) (cE_1 cI cA a (_)) rfl 3 (by decide) fn28 rfl dX3_lastAt_9 ?_
      refine x_icmp_ge (tgt := 59) hx hb rv2 (hR 1 3) dX3_lastAt_12 (by decide) (fun c13 => ?_) (fun c13 => ?_)
      · replace hf := (if_neg c13).symm.trans hf
        exact hEX0 _ _ rv1 rv2 hf _ (lv_sub hl [0, 1, 2, 3] rfl)
      · replace hf := (if_pos c13).symm.trans hf
        refine lv_aload_n hx hb dX3_lastAt_15 rfl (lv_at hl 0 rfl) ?_
        refine x_get (C := RX3) (T := TX3) (NF := 2) (v := .ref (a 24)) hx hb hts iX3 hown hK hP 23 (by decide) (cE_23 cI cA a (_)) rfl 1 (by decide) fl9 rfl dX3_lastAt_16 ?_
        refine lv_iload_n hx hb dX3_lastAt_19 rfl (lv_at hl 3 rfl) ?_
        obtain ⟨g3, hf⟩ := gd hf
        refine x_iald hx hb hK hP 24 0 (by decide) (cE_24 cI cA a (_)) (by decide) rfl g3 dX3_lastAt_20 ?_
        refine lv_iload_n hx hb dX3_lastAt_21 rfl (lv_at hl 1 rfl) ?_
        refine x_icmp_ne (tgt := 53) hx hb (hR 24 v2) rx1 dX3_lastAt_22 (by decide) (fun c12 => ?_) (fun c12 => ?_)
        · replace hf := (if_neg c12).symm.trans hf
          obtain ⟨g4, hf⟩ := gd hf
          refine lv_iinc (v := iN (v2 + 1)) (lv' := [(3, .int (iN (v2 + 1))), (0, .ref (a 23)), (1, .int (iN x1)), (2, .int (iN v1))]) hx hb dX3_lastAt_53 hl (k := 3) rfl (iN_add v2 1) (by decide) rfl (fun ls hl => ?_)
          refine lv_goto (tgt := 4) hx hb dX3_lastAt_56 (by decide) ?_
          exact ih0 _ _ rv1 g4 hf _ (lv_sub hl [1, 2, 3, 0] rfl)
        · replace hf := (if_pos c12).symm.trans hf
          refine lv_iload_n hx hb dX3_lastAt_25 rfl (lv_at hl 2 rfl) ?_
          refine lv_iconst (v := iN (-1)) hx hb dX3_lastAt_26 rfl ?_
          refine x_icmp_eq (tgt := 51) hx hb rv1 (by decide) dX3_lastAt_27 (by decide) (fun c11 => ?_) (fun c11 => ?_)
          · replace hf := (if_pos c11).symm.trans hf
            refine lv_iload_n hx hb dX3_lastAt_51 rfl (lv_at hl 3 rfl) ?_
            refine lv_istore_n (lv' := [(2, .int (iN v2)), (0, .ref (a 23)), (1, .int (iN x1)), (3, .int (iN v2))]) hx hb dX3_lastAt_52 rfl hl (by decide) rfl (fun ls hl => ?_)
            obtain ⟨g5, hf⟩ := gd hf
            refine lv_iinc (v := iN (v2 + 1)) (lv' := [(3, .int (iN (v2 + 1))), (2, .int (iN v2)), (0, .ref (a 23)), (1, .int (iN x1))]) hx hb dX3_lastAt_53 hl (k := 3) rfl (iN_add v2 1) (by decide) rfl (fun ls hl => ?_)
            refine lv_goto (tgt := 4) hx hb dX3_lastAt_56 (by decide) ?_
            exact ih0 _ _ rv2 g5 hf _ (lv_sub hl [2, 3, 1, 0] rfl)
          · replace hf := (if_neg c11).symm.trans hf
            refine lv_aload_n hx hb dX3_lastAt_30 rfl (lv_at hl 0 rfl) ?_
            refine x_get (C := RX3) (T := TX3) (NF := 2) (v := .ref (a 1)) hx hb hts iX3 hown hK hP 23 (by decide) (cE_23 cI cA a (_)) rfl 0 (by decide) fl15 rfl dX3_lastAt_31 ?_
            refine lv_iload_n hx hb dX3_lastAt_34 rfl (lv_at hl 1 rfl) ?_
            refine lv_iload_n hx hb dX3_lastAt_35 rfl (lv_at hl 3 rfl) ?_
            obtain ⟨v6, hv6, hf⟩ := bd hf
            refine x_callP (va_runV (As := [.int (iN x1), .int (iN v2)]) (rest := []) ⟨hx, hb, hml, hown, hts⟩ (kX1_placeOfResident_1 l dC dI cI cA a σ x1 v2 v6 hv6 hR rx1 rv2) (cwV 2 hts gX3_lastAt_X1_placeOfResident rfl rfl rfl hX1_placeOfResident_d ⟨Nat.le_trans (by decide) hrm.1, Nat.le_trans (by decide) hrm.2⟩) (pvC 1 (by decide) (cE_1 cI cA a (_)) rfl hP hK hN) rfl rfl hl.1 rfl (lv_room (Nat.le_of_ble_eq_true rfl)) dX3_lastAt_36 ⟨Nat.zero_le _, Nat.zero_le _⟩) (fun rv6 => ?_)
            refine lv_aload_n hx hb dX3_lastAt_39 rfl (lv_at hl 0 rfl) ?_
            refine x_get (C := RX3) (T := TX3) (NF := 2) (v := .ref (a 1)) hx hb hts iX3 hown hK hP 23 (by decide) (cE_23 cI cA a (_)) rfl 0 (by decide) fl15 rfl dX3_lastAt_40 ?_
            refine lv_iload_n hx hb dX3_lastAt_43 rfl (lv_at hl 1 rfl) ?_
            refine lv_iload_n hx hb dX3_lastAt_44 rfl (lv_at hl 2 rfl) ?_
            obtain ⟨v7, hv7, hf⟩ := bd hf
            refine x_callP (va_runV (As := [.int (iN x1), .int (iN v1)]) (rest := [.int (iN v6)]) ⟨hx, hb, hml, hown, hts⟩ (kX1_placeOfResident_1 l dC dI cI cA a σ x1 v1 v7 hv7 hR rx1 rv1) (cwV 2 hts gX3_lastAt_X1_placeOfResident rfl rfl rfl hX1_placeOfResident_d ⟨Nat.le_trans (by decide) hrm.1, Nat.le_trans (by decide) hrm.2⟩) (pvC 1 (by decide) (cE_1 cI cA a (_)) rfl hP hK hN) rfl rfl hl.1 rfl (lv_room (Nat.le_of_ble_eq_true rfl)) dX3_lastAt_45 ⟨Nat.zero_le _, Nat.zero_le _⟩) (fun rv7 => ?_)
            refine x_icmp_le (tgt := 53) hx hb rv6 rv7 dX3_lastAt_48 (by decide) (fun c10 => ?_) (fun c10 => ?_)
            · replace hf := (if_neg c10).symm.trans hf
              obtain ⟨g8, hf⟩ := gd hf
              refine lv_iinc (v := iN (v2 + 1)) (lv' := [(3, .int (iN (v2 + 1))), (0, .ref (a 23)), (1, .int (iN x1)), (2, .int (iN v1))]) hx hb dX3_lastAt_53 hl (k := 3) rfl (iN_add v2 1) (by decide) rfl (fun ls hl => ?_)
              refine lv_goto (tgt := 4) hx hb dX3_lastAt_56 (by decide) ?_
              exact ih0 _ _ rv1 g8 hf _ (lv_sub hl [1, 2, 3, 0] rfl)
            · replace hf := (if_pos c10).symm.trans hf
              refine lv_iload_n hx hb dX3_lastAt_51 rfl (lv_at hl 3 rfl) ?_
              refine lv_istore_n (lv' := [(2, .int (iN v2)), (0, .ref (a 23)), (1, .int (iN x1)), (3, .int (iN v2))]) hx hb dX3_lastAt_52 rfl hl (by decide) rfl (fun ls hl => ?_)
              obtain ⟨g9, hf⟩ := gd hf
              refine lv_iinc (v := iN (v2 + 1)) (lv' := [(3, .int (iN (v2 + 1))), (2, .int (iN v2)), (0, .ref (a 23)), (1, .int (iN x1))]) hx hb dX3_lastAt_53 hl (k := 3) rfl (iN_add v2 1) (by decide) rfl (fun ls hl => ?_)
              refine lv_goto (tgt := 4) hx hb dX3_lastAt_56 (by decide) ?_
              exact ih0 _ _ rv2 g9 hf _ (lv_sub hl [2, 3, 1, 0] rfl)
  refine L_fX3_lastAt_23_L4 _ (fun v14 v15 rv14 rv15 hf ls hl => ?_) _ _ _ (by decide) (by decide) hf _ (lv_sub hl [2, 3, 1, 0] rfl)
  refine lv_iload_n hx hb dX3_lastAt_59 rfl (lv_at hl 2 rfl) ?_
  rw [← hQQ]
  exact x_iret hx hb hr (Option.some.inj hf) rv14 hlocks dX3_lastAt_60
def fX0_ask_33 (σ : Mem) (x1 : Int) : Option (Int × Mem) := if (0 : Int) ≤ x1 ∧ (x1 : Int) < 6 then (fX2_at_2 σ x1 (σ 34 x1)).bind fun v2 => if (0 : Int) ≤ x1 ∧ (x1 : Int) < 6 then if rng ((σ 34 x1) + 1) then if (0 : Int) ≤ x1 ∧ (x1 : Int) < 6 then nx (mup σ 34 x1 ((σ 34 x1) + 1)) fun σ6 => if v2 = (-1) then some (0, σ6) else (fX1_isPair_1 σ6 x1 v2).bind fun v7 => if v7 = 0 then some (0, σ6) else if (0 : Int) ≤ x1 ∧ (x1 : Int) < 6 then nx (mup σ6 24 x1 v2) fun σ9 => (fX3_lastAt_23 σ9 v2).bind fun v10 => if v10 = (-1) then some (0, σ9) else (fX3_countAt_23 σ9 v2).bind fun v11 => if (0 : Int) ≤ v2 ∧ (v2 : Int) < 6 then if (σ9 20 v2) < v11 then if (0 : Int) ≤ v10 ∧ (v10 : Int) < 6 then nx (mup σ9 24 v10 (-1)) fun σ14 => some (0, σ14) else none else some (0, σ9) else none else none else none else none else none else none
set_option maxHeartbeats 4000000 in
set_option maxRecDepth 100000 in
theorem kX0_ask_33 (l : Launch) (dC : Nat → ClassId) (dI : Nat → Nat → Nat) (cI : ClassId) (cA : ClassId) (a : Nat → Nat) (hi : ∀ i j, i < 37 → j < 37 → a i = a j → i = j) (σ : Mem) (x1 : Int) (r : (Int × Mem)) (hf : fX0_ask_33 σ x1 = some r) (hR : Rg σ) (rx1 : rng x1) : Met l yX0_ask wsX0_ask ({ frames := 2, cells := 0, slots := 0, locals := 45 }) (va_Pc [.ref (a 33), .int (iN x1)] (preC dC dI cI cA a σ)) (qMv (dC, dI) (gw 37 a (cE cI cA a)) (gA 37 a) r) 0 0 (gA 37 a) := by
  refine Met.ofW (cc := cX0_ask) (maxL := 4) (ret := none) (by decide) rfl ?_
  intro p e s m args below meth c s₁ B hml hv
  obtain ⟨hargs, hP, hK, hN⟩ := hv
  have hx := B.exec
  have hb := B.bytes
  have hr := B.returns
  have hts := atoms_spec (ws := wsX0_ask) B.pre
  have hown : s.vm.findClass RX0 = some m.cls := findClass_of_methodNamed B.named
  have hlocks := B.notSynchronized
  have hS : va_S (gA 37 a) s.heap s.heap [] := va_S.rf
  have iX0 : ∀ w ∈ wsX00, w ∈ wsX0_ask := by decide +kernel
  have iX1 : ∀ w ∈ wsX10, w ∈ wsX0_ask := by decide +kernel
  have iX3 : ∀ w ∈ wsX30, w ∈ wsX0_ask := by decide +kernel
  have fl21 := hts (.fieldLink RX0 21 "MatchHall$Finder" "hall" "LMatchHall$Hall;") (by decide +kernel)
  have fl29 := hts (.fieldLink RX0 29 "MatchHall$Finder" "trial" "LMatchHall$Matching;") (by decide +kernel)
  have fl9 := hts (.fieldLink RX0 9 "MatchHall$Finder" "asked" "[I") (by decide +kernel)
  have fn67 := va_Nw.use (A := args) rfl (hN (.fieldLinkNest RX0 67 "MatchHall$Matching" "hospitalOf" "[I" "MatchHall") (by decide +kernel))
  have fn70 := va_Nw.use (A := args) rfl (hN (.fieldLinkNest RX0 70 "MatchHall$Hall" "ofResidents" "LMatchHall$Lists;" "MatchHall") (by decide +kernel))
  have fn94 := va_Nw.use (A := args) rfl (hN (.fieldLinkNest RX0 94 "MatchHall$Hall" "seatsOf" "[I" "MatchHall") (by decide +kernel))
  have hrm : 2 ≤ (headSpec wsX0_ask ({ frames := 2, cells := 0, slots := 0, locals := 45 })).room.frames ∧ 45 ≤ (headSpec wsX0_ask ({ frames := 2, cells := 0, slots := 0, locals := 45 })).room.locals := ⟨Nat.le_refl _, Nat.le_refl _⟩
  generalize (headSpec wsX0_ask ({ frames := 2, cells := 0, slots := 0, locals := 45 })).room = RR at hrm ⊢
  have hl := lv_entry ([.ref (a 33), .int (iN x1)]) (n := 4) (Nat.le_of_ble_eq_true rfl)
  rw [show entryFrame m args 4 = entryFrame m ([.ref (a 33), .int (iN x1)] : List Value).toArray 4 from by rw [hargs], lg_entry_eq]
  generalize (lg_sl ([.ref (a 33), .int (iN x1)]) ++ List.replicate (4 - (lg_sl ([.ref (a 33), .int (iN x1)])).length) Slot.unset).toArray = ls at hl ⊢
  have hl : lv_has ls 4 [(0, .ref (a 33)), (1, .int (iN x1))] := hl
  generalize hQQ : MQ below (qMv (dC, dI) (gw 37 a (cE cI cA a)) (gA 37 a) r) args s 0 0 (gA 37 a) = QQ
  refine lv_aload_n hx hb dX0_ask_0 rfl (lv_at hl 0 rfl) ?_
  refine x_get (C := RX0) (T := TX0) (NF := 6) (v := .ref (a 1)) hx hb hts iX0 hown hK hP 33 (by decide) (cE_33 cI cA a (_)) rfl 0 (by decide) fl21 rfl dX0_ask_1 ?_
  refine x_getN (C := RX1) (T := TX1) (NF := 5) (v := .ref (a 2)) hx hb hts iX1 hown hK hP 1 (by decide) (cE_1 cI cA a (_)) rfl 0 (by decide) fn70 rfl dX0_ask_4 ?_
  refine lv_iload_n hx hb dX0_ask_7 rfl (lv_at hl 1 rfl) ?_
  refine lv_aload_n hx hb dX0_ask_8 rfl (lv_at hl 0 rfl) ?_
  refine x_get (C := RX0) (T := TX0) (NF := 6) (v := .ref (a 34)) hx hb hts iX0 hown hK hP 33 (by decide) (cE_33 cI cA a (_)) rfl 3 (by decide) fl9 rfl dX0_ask_9 ?_
  refine lv_iload_n hx hb dX0_ask_12 rfl (lv_at hl 1 rfl) ?_
  obtain ⟨g1, hf⟩ := gd hf
  refine x_iald hx hb hK hP 34 0 (by decide) (cE_34 cI cA a (_)) (by decide) rfl g1 dX0_ask_13 ?_
  obtain ⟨v2, hv2, hf⟩ := bd hf
  refine x_callP (va_runV (As := [.int (iN x1), .int (iN (σ 34 x1))]) (rest := []) ⟨hx, hb, hml, hown, hts⟩ (kX2_at_2 l dC dI cI cA a σ x1 (σ 34 x1) v2 hv2 hR rx1 (hR 34 x1)) (cwV 2 hts gX0_ask_X2_at rfl rfl rfl hX2_at_d ⟨Nat.le_trans (by decide) hrm.1, Nat.le_trans (by decide) hrm.2⟩) (pvC 2 (by decide) (cE_2 cI cA a (_)) rfl hP hK hN) rfl rfl hl.1 rfl (lv_room (Nat.le_of_ble_eq_true rfl)) dX0_ask_14 ⟨Nat.zero_le _, Nat.zero_le _⟩) (fun rv2 => ?_)
  refine lv_istore_n (lv' := [(2, .int (iN v2)), (0, .ref (a 33)), (1, .int (iN x1))]) hx hb dX0_ask_17 rfl hl (by decide) rfl (fun ls hl => ?_)
  refine lv_aload_n hx hb dX0_ask_18 rfl (lv_at hl 1 rfl) ?_
  refine x_get (C := RX0) (T := TX0) (NF := 6) (v := .ref (a 34)) hx hb hts iX0 hown hK hP 33 (by decide) (cE_33 cI cA a (_)) rfl 3 (by decide) fl9 rfl dX0_ask_19 ?_
  refine lv_iload_n hx hb dX0_ask_22 rfl (lv_at hl 2 rfl) ?_
  refine lv_dup2_11 hx hb dX0_ask_23 rfl rfl ?_
  obtain ⟨g3, hf⟩ := gd hf
  refine x_iald hx hb hK hP 34 0 (by decide) (cE_34 cI cA a (_)) (by decide) rfl g3 dX0_ask_24 ?_
  refine lv_iconst (v := iN 1) hx hb dX0_ask_25 rfl ?_
  obtain ⟨g4, hf⟩ := gd hf
  refine x_iadd hx hb dX0_ask_26 ?_
  obtain ⟨g5, hf⟩ := gd hf
  obtain ⟨σ6, hσ6, hf⟩ := nxe hf
  refine x_iast (x := ((σ 34 x1) + 1)) hx hb hi hK hP hS 34 0 (by decide) (cE_34 cI cA a) (by decide) rfl g5 dX0_ask_27 (fun H locs hP hS => ?_)
  rw [← hσ6] at hP
  have hRσ6 : Rg σ6 := by rw [hσ6]; exact Rg_up hR g4
  refine lv_iload_n hx hb dX0_ask_28 rfl (lv_at hl 0 rfl) ?_
  refine lv_iconst (v := iN (-1)) hx hb dX0_ask_29 rfl ?_
  refine x_icmp_eq (tgt := 45) hx hb rv2 (by decide) dX0_ask_30 (by decide) (fun c18 => ?_) (fun c18 => ?_)
  · replace hf := (if_pos c18).symm.trans hf
    rw [← hQQ]
    exact x_vretM hx hb hr (Option.some.inj hf) hRσ6 hP hS hlocks dX0_ask_45
  · replace hf := (if_neg c18).symm.trans hf
    refine lv_aload_n hx hb dX0_ask_33 rfl (lv_at hl 1 rfl) ?_
    refine x_get (C := RX0) (T := TX0) (NF := 6) (v := .ref (a 1)) hx hb hts iX0 hown hK hP 33 (by decide) (cE_33 cI cA a (_)) rfl 0 (by decide) fl21 rfl dX0_ask_34 ?_
    refine lv_iload_n hx hb dX0_ask_37 rfl (lv_at hl 2 rfl) ?_
    refine lv_iload_n hx hb dX0_ask_38 rfl (lv_at hl 0 rfl) ?_
    obtain ⟨v7, hv7, hf⟩ := bd hf
    refine x_callP (va_runV (As := [.int (iN x1), .int (iN v2)]) (rest := []) ⟨hx, hb, hml, hown, hts⟩ (kX1_isPair_1 l dC dI cI cA a σ6 x1 v2 v7 hv7 hRσ6 rx1 rv2) (cwV 2 hts gX0_ask_X1_isPair rfl rfl rfl hX1_isPair_d ⟨Nat.le_trans (by decide) hrm.1, Nat.le_trans (by decide) hrm.2⟩) (pvC 1 (by decide) (cE_1 cI cA a (_)) rfl hP hK hN) rfl rfl hl.1 rfl (lv_room (Nat.le_of_ble_eq_true rfl)) dX0_ask_39 ⟨Nat.zero_le _, Nat.zero_le _⟩) (fun rv7 => ?_)
    refine x_if_ne (tgt := 46) hx hb rv7 dX0_ask_42 (by decide) (fun c17 => ?_) (fun c17 => ?_)
    · replace hf := (if_neg c17).symm.trans hf
      refine lv_aload_n hx hb dX0_ask_46 rfl (lv_at hl 1 rfl) ?_
      refine x_get (C := RX0) (T := TX0) (NF := 6) (v := .ref (a 23)) hx hb hts iX0 hown hK hP 33 (by decide) (cE_33 cI cA a (_)) rfl 2 (by decide) fl29 rfl dX0_ask_47 ?_
      refine x_getN (C := RX3) (T := TX3) (NF := 2) (v := .ref (a 24)) hx hb hts iX3 hown hK hP 23 (by decide) (cE_23 cI cA a (_)) rfl 1 (by decide) fn67 rfl dX0_ask_50 ?_
      refine lv_iload_n hx hb dX0_ask_53 rfl (lv_at hl 2 rfl) ?_
      refine lv_iload_n hx hb dX0_ask_54 rfl (lv_at hl 0 rfl) ?_
      obtain ⟨g8, hf⟩ := gd hf
      obtain ⟨σ9, hσ9, hf⟩ := nxe hf
      refine x_iast (x := v2) hx hb hi hK hP hS 24 0 (by decide) (cE_24 cI cA a) (by decide) rfl g8 dX0_ask_55 (fun H locs hP hS => ?_)
      rw [← hσ9] at hP
      have hRσ9 : Rg σ9 := by rw [hσ9]; exact Rg_up hRσ6 rv2
      refine lv_aload_n hx hb dX0_ask_56 rfl (lv_at hl 1 rfl) ?_
      refine x_get (C := RX0) (T := TX0) (NF := 6) (v := .ref (a 23)) hx hb hts iX0 hown hK hP 33 (by decide) (cE_33 cI cA a (_)) rfl 2 (by decide) fl29 rfl dX0_ask_57 ?_
      refine lv_iload_n hx hb dX0_ask_60 rfl (lv_at hl 0 rfl) ?_
      obtain ⟨v10, hv10, hf⟩ := bd hf
      refine x_callP (va_runV (As := [.int (iN v2)]) (rest := []) ⟨hx, hb, hml, hown, hts⟩ (kX3_lastAt_23 l dC dI cI cA a σ9 v2 v10 hv10 hRσ9 rv2) (cwV 1 hts gX0_ask_X3_lastAt rfl rfl rfl hX3_lastAt_d ⟨Nat.le_trans (by decide) hrm.1, Nat.le_trans (by decide) hrm.2⟩) (pvC 23 (by decide) (cE_23 cI cA a (_)) rfl hP hK hN) rfl rfl hl.1 rfl (lv_room (Nat.le_of_ble_eq_true rfl)) dX0_ask_61 ⟨Nat.zero_le _, Nat.zero_le _⟩) (fun rv10 => ?_)
      refine lv_istore_n (lv' := [(3, .int (iN v10)), (2, .int (iN v2)), (0, .ref (a 33)), (1, .int (iN x1))]) hx hb dX0_ask_64 rfl hl (by decide) rfl (fun ls hl => ?_)
      refine lv_iload_n hx hb dX0_ask_65 rfl (lv_at hl 0 rfl) ?_
      refine lv_iconst (v := iN (-1)) hx hb dX0_ask_66 rfl ?_
      refine x_icmp_eq (tgt := 100) hx hb rv10 (by decide) dX0_ask_67 (by decide) (fun c16 => ?_) (fun c16 => ?_)
      · replace hf := (if_pos c16).symm.trans hf
        rw [← hQQ]
        exact x_vretM hx hb hr (Option.some.inj hf) hRσ9 hP hS hlocks dX0_ask_100
      · replace hf := (if_neg c16).symm.trans hf
        refine lv_aload_n hx hb dX0_ask_70 rfl (lv_at hl 2 rfl) ?_
        refine x_get (C := RX0) (T := TX0) (NF := 6) (v := .ref (a 23)) hx hb hts iX0 hown hK hP 33 (by decide) (cE_33 cI cA a (_)) rfl 2 (by decide) fl29 rfl dX0_ask_71 ?_
        refine lv_iload_n hx hb dX0_ask_74 rfl (lv_at hl 1 rfl) ?_
        obtain ⟨v11, hv11, hf⟩ := bd hf
        refine x_callP (va_runV (As := [.int (iN v2)]) (rest := []) ⟨hx, hb, hml, hown, hts⟩ (kX3_countAt_23 l dC dI cI cA a σ9 v2 v11 hv11 hRσ9 rv2) (cwV 1 hts gX0_ask_X3_countAt rfl rfl rfl hX3_countAt_d ⟨Nat.le_trans (by decide) hrm.1, Nat.le_trans (by decide) hrm.2⟩) (pvC 23 (by decide) (cE_23 cI cA a (_)) rfl hP hK hN) rfl rfl hl.1 rfl (lv_room (Nat.le_of_ble_eq_true rfl)) dX0_ask_75 ⟨Nat.zero_le _, Nat.zero_le _⟩) (fun rv11 => ?_)
        refine lv_aload_n hx hb dX0_ask_78 rfl (lv_at hl 2 rfl) ?_
        refine x_get (C := RX0) (T := TX0) (NF := 6) (v := .ref (a 1)) hx hb hts iX0 hown hK hP 33 (by decide) (cE_33 cI cA a (_)) rfl 0 (by decide) fl21 rfl dX0_ask_79 ?_
        refine x_getN (C := RX1) (T := TX1) (NF := 5) (v := .ref (a 20)) hx hb hts iX1 hown hK hP 1 (by decide) (cE_1 cI cA a (_)) rfl 2 (by decide) fn94 rfl dX0_ask_82 ?_
        refine lv_iload_n hx hb dX0_ask_85 rfl (lv_at hl 1 rfl) ?_
        obtain ⟨g12, hf⟩ := gd hf
        refine x_iald hx hb hK hP 20 0 (by decide) (cE_20 cI cA a (_)) (by decide) rfl g12 dX0_ask_86 ?_
        refine x_icmp_le (tgt := 100) hx hb rv11 (hRσ9 20 v2) dX0_ask_87 (by decide) (fun c15 => ?_) (fun c15 => ?_)
        · replace hf := (if_neg c15).symm.trans hf
          rw [← hQQ]
          exact x_vretM hx hb hr (Option.some.inj hf) hRσ9 hP hS hlocks dX0_ask_100
        · replace hf := (if_pos c15).symm.trans hf
          refine lv_aload_n hx hb dX0_ask_90 rfl (lv_at hl 2 rfl) ?_
          refine x_get (C := RX0) (T := TX0) (NF := 6) (v := .ref (a 23)) hx hb hts iX0 hown hK hP 33 (by decide) (cE_33 cI cA a (_)) rfl 2 (by decide) fl29 rfl dX0_ask_91 ?_
          refine x_getN (C := RX3) (T := TX3) (NF := 2) (v := .ref (a 24)) hx hb hts iX3 hown hK hP 23 (by decide) (cE_23 cI cA a (_)) rfl 1 (by decide) fn67 rfl dX0_ask_94 ?_
          refine lv_iload_n hx hb dX0_ask_97 rfl (lv_at hl 0 rfl) ?_
          refine lv_iconst (v := iN (-1)) hx hb dX0_ask_98 rfl ?_
          obtain ⟨g13, hf⟩ := gd hf
          obtain ⟨σ14, hσ14, hf⟩ := nxe hf
          refine x_iast (x := (-1)) hx hb hi hK hP hS 24 0 (by decide) (cE_24 cI cA a) (by decide) rfl g13 dX0_ask_99 (fun H locs hP hS => ?_)
          rw [← hσ14] at hP
          have hRσ14 : Rg σ14 := by rw [hσ14]; exact Rg_up hRσ9 (by decide)
          rw [← hQQ]
          exact x_vretM hx hb hr (Option.some.inj hf) hRσ14 hP hS hlocks dX0_ask_100
    · replace hf := (if_pos c17).symm.trans hf
      rw [← hQQ]
      exact x_vretM hx hb hr (Option.some.inj hf) hRσ6 hP hS hlocks dX0_ask_45
def fX0_letAllAsk_33_L15 (ex0 : Mem → Int → Int → Option (Int × Mem)) : Nat → Mem → Int → Int → Option (Int × Mem)
  | 0, _, _, _ => none
  | n0 + 1, σ6, v4, v5 => if v5 < 36 then if v4 = (-1) then ex0 σ6 v4 v5 else bnd2 (fX0_ask_33 σ6 v4) fun v7 σ8 => (fX0_nextAsker_33 σ8 ).bind fun v9 => if rng (v5 + 1) then fX0_letAllAsk_33_L15  ex0 n0 σ8 v9 (v5 + 1) else none else ex0 σ6 v4 v5
def fX0_letAllAsk_33 (σ : Mem) : Option (Int × Mem) := bnd2 (fJ7_fill_53178_c_34 σ 0) fun v1 σ2 => (fX0_nextAsker_33 σ2 ).bind fun v3 => fX0_letAllAsk_33_L15  (fun σ15 v13 v14 => some (0, σ15)) FU σ2 v3 0
set_option maxHeartbeats 4000000 in
set_option maxRecDepth 100000 in
theorem kX0_letAllAsk_33 (l : Launch) (dC : Nat → ClassId) (dI : Nat → Nat → Nat) (cI : ClassId) (cA : ClassId) (a : Nat → Nat) (hi : ∀ i j, i < 37 → j < 37 → a i = a j → i = j) (σ : Mem) (r : (Int × Mem)) (hf : fX0_letAllAsk_33 σ  = some r) (hR : Rg σ) : Met l yX0_letAllAsk wsX0_letAllAsk ({ frames := 3, cells := 0, slots := 0, locals := 68 }) (va_Pc [.ref (a 33)] (preC dC dI cI cA a σ)) (qMv (dC, dI) (gw 37 a (cE cI cA a)) (gA 37 a) r) 0 0 (gA 37 a) := by
  refine Met.ofW (cc := cX0_letAllAsk) (maxL := 3) (ret := none) (by decide) rfl ?_
  intro p e s m args below meth c s₁ B hml hv
  obtain ⟨hargs, hP, hK, hN⟩ := hv
  have hx := B.exec
  have hb := B.bytes
  have hr := B.returns
  have hts := atoms_spec (ws := wsX0_letAllAsk) B.pre
  have hown : s.vm.findClass RX0 = some m.cls := findClass_of_methodNamed B.named
  have hlocks := B.notSynchronized
  have hS : va_S (gA 37 a) s.heap s.heap [] := va_S.rf
  have iX0 : ∀ w ∈ wsX00, w ∈ wsX0_letAllAsk := by decide +kernel
  have fl9 := hts (.fieldLink RX0 9 "MatchHall$Finder" "asked" "[I") (by decide +kernel)
  have hrm : 3 ≤ (headSpec wsX0_letAllAsk ({ frames := 3, cells := 0, slots := 0, locals := 68 })).room.frames ∧ 68 ≤ (headSpec wsX0_letAllAsk ({ frames := 3, cells := 0, slots := 0, locals := 68 })).room.locals := ⟨Nat.le_refl _, Nat.le_refl _⟩
  generalize (headSpec wsX0_letAllAsk ({ frames := 3, cells := 0, slots := 0, locals := 68 })).room = RR at hrm ⊢
  have hl := lv_entry ([.ref (a 33)]) (n := 3) (Nat.le_of_ble_eq_true rfl)
  rw [show entryFrame m args 3 = entryFrame m ([.ref (a 33)] : List Value).toArray 3 from by rw [hargs], lg_entry_eq]
  generalize (lg_sl ([.ref (a 33)]) ++ List.replicate (3 - (lg_sl ([.ref (a 33)])).length) Slot.unset).toArray = ls at hl ⊢
  have hl : lv_has ls 3 [(0, .ref (a 33))] := hl
  generalize hQQ : MQ below (qMv (dC, dI) (gw 37 a (cE cI cA a)) (gA 37 a) r) args s 0 0 (gA 37 a) = QQ
  refine lv_aload_n hx hb dX0_letAllAsk_0 rfl (lv_at hl 0 rfl) ?_
  refine x_get (C := RX0) (T := TX0) (NF := 6) (v := .ref (a 34)) hx hb hts iX0 hown hK hP 33 (by decide) (cE_33 cI cA a (_)) rfl 3 (by decide) fl9 rfl dX0_letAllAsk_1 ?_
  refine lv_iconst (v := iN 0) hx hb dX0_letAllAsk_4 rfl ?_
  obtain ⟨v1, σ2, hv1, hf⟩ := bd2 hf
  refine x_callMv (va_runS (As := [.ref (a 34), .int (iN 0)]) (rest := []) ⟨hx, hb, hml, hown, hts⟩ (kJ7_fill_53178_c_34 l dC dI cI cA a hi σ 0 (v1, σ2) hv1 hR (by decide)) (va_cwS 2 hts gX0_letAllAsk_J7_fill_53178 rfl rfl rfl hJ7_fill_53178_d ⟨Nat.le_trans (by decide) hrm.1, Nat.le_trans (by decide) hrm.2⟩) (psC hP hK hN) rfl rfl hl.1 rfl (lv_room (Nat.le_of_ble_eq_true rfl)) dX0_letAllAsk_5 ⟨Nat.zero_le _, Nat.zero_le _⟩) hS (fun rv1 hRσ2 H locs hP hS => ?_)
  refine lv_aload_n hx hb dX0_letAllAsk_8 rfl (lv_at hl 0 rfl) ?_
  obtain ⟨v3, hv3, hf⟩ := bd hf
  refine x_callP (va_runV (As := []) (rest := []) ⟨hx, hb, hml, hown, hts⟩ (kX0_nextAsker_33 l dC dI cI cA a σ2  v3 hv3 hRσ2 ) (cwV 0 hts gX0_letAllAsk_X0_nextAsker rfl rfl rfl hX0_nextAsker_d ⟨Nat.le_trans (by decide) hrm.1, Nat.le_trans (by decide) hrm.2⟩) (pvC 33 (by decide) (cE_33 cI cA a (_)) rfl hP hK hN) rfl rfl hl.1 rfl (lv_room (Nat.le_of_ble_eq_true rfl)) dX0_letAllAsk_9 ⟨Nat.zero_le _, Nat.zero_le _⟩) (fun rv3 => ?_)
  refine lv_istore_n (lv' := [(1, .int (iN v3)), (0, .ref (a 33))]) hx hb dX0_letAllAsk_12 rfl hl (by decide) rfl (fun ls hl => ?_)
  refine lv_iconst (v := iN 0) hx hb dX0_letAllAsk_13 rfl ?_
  refine lv_istore_n (lv' := [(2, .int (iN 0)), (1, .int (iN v3)), (0, .ref (a 33))]) hx hb dX0_letAllAsk_14 rfl hl (by decide) rfl (fun ls hl => ?_)
  have L_fX0_letAllAsk_33_L15 : ∀ (EX0 : Mem → Int → Int → Option (Int × Mem)), (∀ (σ6 : Mem) (v4 : Int) (v5 : Int), Rg σ6 → rng v4 → rng v5 → EX0 σ6 v4 v5 = some r → ∀ H locs ls, va_P (dC, dI) vwCl (gw 37 a (cE cI cA a) σ6) H → va_S (gA 37 a) s.heap H locs → lv_has ls 3 [(0, .ref (a 33)), (1, .int (iN v4)), (2, .int (iN v5))] → W p l e RR s m args below meth c H locs 0 0 QQ (F0 m 42 ls [])) → ∀ n0 : Nat, ∀ (σ6 : Mem) (v4 : Int) (v5 : Int), Rg σ6 → rng v4 → rng v5 → fX0_letAllAsk_33_L15  EX0 n0 σ6 v4 v5 = some r → ∀ H locs ls, va_P (dC, dI) vwCl (gw 37 a (cE cI cA a) σ6) H → va_S (gA 37 a) s.heap H locs → lv_has ls 3 [(0, .ref (a 33)), (1, .int (iN v4)), (2, .int (iN v5))] → W p l e RR s m args below meth c H locs 0 0 QQ (F0 m 15 ls []) := by
    intro EX0 hEX0 n0
    induction n0 with
    | zero => intro _ _ _ _ _ _ hf; cases hf
    | succ n0 ih0 =>
      intro σ6 v4 v5 hRσ6 rv4 rv5 hf H locs ls hP hS hl
      rw [fX0_letAllAsk_33_L15] at hf
      refine lv_iload_n hx hb dX0_letAllAsk_15 rfl (lv_at hl 2 rfl) ?_
      refine lv_bipush (v := iN 36) hx hb dX0_letAllAsk_16 (by decide) ?_
      refine x_icmp_ge (tgt := 42) hx hb rv5 (by decide) dX0_letAllAsk_18 (by decide) (fun c12 => ?_) (fun c12 => ?_)
      · replace hf := (if_neg c12).symm.trans hf
        exact hEX0 _ _ _ hRσ6 rv4 rv5 hf _ _ _ hP hS (lv_sub hl [0, 1, 2] rfl)
      · replace hf := (if_pos c12).symm.trans hf
        refine lv_iload_n hx hb dX0_letAllAsk_21 rfl (lv_at hl 1 rfl) ?_
        refine lv_iconst (v := iN (-1)) hx hb dX0_letAllAsk_22 rfl ?_
        refine x_icmp_eq (tgt := 42) hx hb rv4 (by decide) dX0_letAllAsk_23 (by decide) (fun c11 => ?_) (fun c11 => ?_)
        · replace hf := (if_pos c11).symm.trans hf
          exact hEX0 _ _ _ hRσ6 rv4 rv5 hf _ _ _ hP hS (lv_sub hl [0, 1, 2] rfl)
        · replace hf := (if_neg c11).symm.trans hf
          refine lv_aload_n hx hb dX0_letAllAsk_26 rfl (lv_at hl 0 rfl) ?_
          refine lv_iload_n hx hb dX0_letAllAsk_27 rfl (lv_at hl 1 rfl) ?_
          obtain ⟨v7, σ8, hv7, hf⟩ := bd2 hf
          refine x_callMv (va_runV (As := [.int (iN v4)]) (rest := []) ⟨hx, hb, hml, hown, hts⟩ (kX0_ask_33 l dC dI cI cA a hi σ6 v4 (v7, σ8) hv7 hRσ6 rv4) (cwV 1 hts gX0_letAllAsk_X0_ask rfl rfl rfl hX0_ask_d ⟨Nat.le_trans (by decide) hrm.1, Nat.le_trans (by decide) hrm.2⟩) (pvC 33 (by decide) (cE_33 cI cA a (_)) rfl hP hK hN) rfl rfl hl.1 rfl (lv_room (Nat.le_of_ble_eq_true rfl)) dX0_letAllAsk_28 ⟨Nat.zero_le _, Nat.zero_le _⟩) hS (fun rv7 hRσ8 H locs hP hS => ?_)
          refine lv_aload_n hx hb dX0_letAllAsk_31 rfl (lv_at hl 0 rfl) ?_
          obtain ⟨v9, hv9, hf⟩ := bd hf
          refine x_callP (va_runV (As := []) (rest := []) ⟨hx, hb, hml, hown, hts⟩ (kX0_nextAsker_33 l dC dI cI cA a σ8  v9 hv9 hRσ8 ) (cwV 0 hts gX0_letAllAsk_X0_nextAsker rfl rfl rfl hX0_nextAsker_d ⟨Nat.le_trans (by decide) hrm.1, Nat.le_trans (by decide) hrm.2⟩) (pvC 33 (by decide) (cE_33 cI cA a (_)) rfl hP hK hN) rfl rfl hl.1 rfl (lv_room (Nat.le_of_ble_eq_true rfl)) dX0_letAllAsk_32 ⟨Nat.zero_le _, Nat.zero_le _⟩) (fun rv9 => ?_)
          refine lv_istore_n (lv' := [(1, .int (iN v9)), (0, .ref (a 33)), (2, .int (iN v5))]) hx hb dX0_letAllAsk_35 rfl hl (by decide) rfl (fun ls hl => ?_)
          obtain ⟨g10, hf⟩ := gd hf
          refine lv_iinc (v := iN (v5 + 1)) (lv' := [(2, .int (iN (v5 + 1))), (1, .int (iN v9)), (0, .ref (a 33))]) hx hb dX0_letAllAsk_36 hl (k := 2) rfl (iN_add v5 1) (by decide) rfl (fun ls hl => ?_)
          refine lv_goto (tgt := 15) hx hb dX0_letAllAsk_39 (by decide) ?_
          exact ih0 _ _ _ hRσ8 rv9 g10 hf _ _ _ hP hS (lv_sub hl [2, 1, 0] rfl)
  refine L_fX0_letAllAsk_33_L15 _ (fun σ15 v13 v14 hRσ15 rv13 rv14 hf H locs ls hP hS hl => ?_) _ _ _ _ hRσ2 rv3 (by decide) hf _ _ _ hP hS (lv_sub hl [2, 1, 0] rfl)
  rw [← hQQ]
  exact x_vretM hx hb hr (Option.some.inj hf) hRσ15 hP hS hlocks dX0_letAllAsk_42
def fX1_placeOfHospital_1 (σ : Mem) (x1 : Int) (x2 : Int) : Option Int := if x2 = (-1) then some (-1) else if (0 : Int) ≤ x1 ∧ (x1 : Int) < 6 then if (0 : Int) ≤ x2 ∧ (x2 : Int) < 6 then some (σ (4 + x1.toNat) x2) else none else none
set_option maxHeartbeats 4000000 in
set_option maxRecDepth 100000 in
theorem kX1_placeOfHospital_1 (l : Launch) (dC : Nat → ClassId) (dI : Nat → Nat → Nat) (cI : ClassId) (cA : ClassId) (a : Nat → Nat) (σ : Mem) (x1 : Int) (x2 : Int) (r : Int) (hf : fX1_placeOfHospital_1 σ x1 x2 = some r) (hR : Rg σ) (rx1 : rng x1) (rx2 : rng x2) : Met l yX1_placeOfHospital wsX1_placeOfHospital ({ frames := 0, cells := 0, slots := 0, locals := 0 }) (va_Pc [.ref (a 1), .int (iN x1), .int (iN x2)] (preC dC dI cI cA a σ)) (qP r) 0 0 (fun _ => False) := by
  refine Met.ofW (cc := cX1_placeOfHospital) (maxL := 3) (ret := (some .int)) (by decide) rfl ?_
  intro p e s m args below meth c s₁ B hml hv
  obtain ⟨hargs, hP, hK, hN⟩ := hv
  have hx := B.exec
  have hb := B.bytes
  have hr := B.returns
  have hts := atoms_spec (ws := wsX1_placeOfHospital) B.pre
  have hown : s.vm.findClass RX1 = some m.cls := findClass_of_methodNamed B.named
  have hlocks := B.notSynchronized
  have iX1 : ∀ w ∈ wsX10, w ∈ wsX1_placeOfHospital := by decide +kernel
  have iX2 : ∀ w ∈ wsX20, w ∈ wsX1_placeOfHospital := by decide +kernel
  have fl12 := hts (.fieldLink RX1 12 "MatchHall$Hall" "ofResidents" "LMatchHall$Lists;") (by decide +kernel)
  have fn43 := va_Nw.use (A := args) rfl (hN (.fieldLinkNest RX1 43 "MatchHall$Lists" "places" "[[I" "MatchHall") (by decide +kernel))
  have hrm : 0 ≤ (headSpec wsX1_placeOfHospital ({ frames := 0, cells := 0, slots := 0, locals := 0 })).room.frames ∧ 0 ≤ (headSpec wsX1_placeOfHospital ({ frames := 0, cells := 0, slots := 0, locals := 0 })).room.locals := ⟨Nat.le_refl _, Nat.le_refl _⟩
  generalize (headSpec wsX1_placeOfHospital ({ frames := 0, cells := 0, slots := 0, locals := 0 })).room = RR at hrm ⊢
  have hl := lv_entry ([.ref (a 1), .int (iN x1), .int (iN x2)]) (n := 3) (Nat.le_of_ble_eq_true rfl)
  rw [show entryFrame m args 3 = entryFrame m ([.ref (a 1), .int (iN x1), .int (iN x2)] : List Value).toArray 3 from by rw [hargs], lg_entry_eq]
  generalize (lg_sl ([.ref (a 1), .int (iN x1), .int (iN x2)]) ++ List.replicate (3 - (lg_sl ([.ref (a 1), .int (iN x1), .int (iN x2)])).length) Slot.unset).toArray = ls at hl ⊢
  have hl : lv_has ls 3 [(0, .ref (a 1)), (1, .int (iN x1)), (2, .int (iN x2))] := hl
  generalize hQQ : MQ below (qP r) args s 0 0 (fun _ => False) = QQ
  refine lv_iload_n hx hb dX1_placeOfHospital_0 rfl (lv_at hl 2 rfl) ?_
  refine lv_iconst (v := iN (-1)) hx hb dX1_placeOfHospital_1 rfl ?_
  refine x_icmp_ne (tgt := 9) hx hb rx2 (by decide) dX1_placeOfHospital_2 (by decide) (fun c3 => ?_) (fun c3 => ?_)
  · replace hf := (if_neg c3).symm.trans hf
    refine lv_aload_n hx hb dX1_placeOfHospital_9 rfl (lv_at hl 0 rfl) ?_
    refine x_get (C := RX1) (T := TX1) (NF := 5) (v := .ref (a 2)) hx hb hts iX1 hown hK hP 1 (by decide) (cE_1 cI cA a (_)) rfl 0 (by decide) fl12 rfl dX1_placeOfHospital_10 ?_
    refine x_getN (C := RX2) (T := TX2) (NF := 4) (v := .ref (a 3)) hx hb hts iX2 hown hK hP 2 (by decide) (cE_2 cI cA a (_)) rfl 0 (by decide) fn43 rfl dX1_placeOfHospital_13 ?_
    refine lv_iload_n hx hb dX1_placeOfHospital_16 rfl (lv_at hl 1 rfl) ?_
    obtain ⟨g1, hf⟩ := gd hf
    refine x_aald hx hb hK hP 3 1 (by decide) (cE_3 cI cA a (_)) (by decide) rfl g1 (row_f4 a g1) dX1_placeOfHospital_17 ?_
    refine lv_iload_n hx hb dX1_placeOfHospital_18 rfl (lv_at hl 2 rfl) ?_
    obtain ⟨g2, hf⟩ := gd hf
    refine x_iald hx hb hK hP (4 + x1.toNat) 0 (row_lt4 g1) (cE_row4 cI cA a g1 _) (by decide) rfl g2 dX1_placeOfHospital_19 ?_
    rw [← hQQ]
    exact x_iret hx hb hr (Option.some.inj hf) (hR (4 + x1.toNat) x2) hlocks dX1_placeOfHospital_20
  · replace hf := (if_pos c3).symm.trans hf
    refine lv_iconst (v := iN (-1)) hx hb dX1_placeOfHospital_5 rfl ?_
    refine lv_goto (tgt := 20) hx hb dX1_placeOfHospital_6 (by decide) ?_
    rw [← hQQ]
    exact x_iret hx hb hr (Option.some.inj hf) (by decide) hlocks dX1_placeOfHospital_20
def fX0_noteLimits_33_L2 (ex0 : Mem → Int → Option (Int × Mem)) : Nat → Mem → Int → Option (Int × Mem)
  | 0, _, _ => none
  | n0 + 1, σ2, v1 => if v1 < (σ2 1 3) then if (0 : Int) ≤ v1 ∧ (v1 : Int) < 6 then (fX1_placeOfHospital_1 σ2 v1 (σ2 24 v1)).bind fun v4 => if (0 : Int) ≤ v1 ∧ (v1 : Int) < 6 then nx (mup σ2 35 v1 v4) fun σ6 => if rng (v1 + 1) then fX0_noteLimits_33_L2  ex0 n0 σ6 (v1 + 1) else none else none else none else ex0 σ2 v1
def fX0_noteLimits_33_L44 (ex0 : Mem → Int → Option (Int × Mem)) : Nat → Mem → Int → Option (Int × Mem)
  | 0, _, _ => none
  | n0 + 1, σ12, v11 => if v11 < (σ12 1 4) then (fX3_countAt_23 σ12 v11).bind fun v13 => if (0 : Int) ≤ v11 ∧ (v11 : Int) < 6 then nx (mup σ12 36 v11 v13) fun σ15 => if rng (v11 + 1) then fX0_noteLimits_33_L44  ex0 n0 σ15 (v11 + 1) else none else none else ex0 σ12 v11
def fX0_noteLimits_33 (σ : Mem) : Option (Int × Mem) := fX0_noteLimits_33_L2  (fun σ10 v9 => fX0_noteLimits_33_L44  (fun σ19 v18 => some (0, σ19)) FU σ10 0) FU σ 0
set_option maxHeartbeats 4000000 in
set_option maxRecDepth 100000 in
theorem kX0_noteLimits_33 (l : Launch) (dC : Nat → ClassId) (dI : Nat → Nat → Nat) (cI : ClassId) (cA : ClassId) (a : Nat → Nat) (hi : ∀ i j, i < 37 → j < 37 → a i = a j → i = j) (σ : Mem) (r : (Int × Mem)) (hf : fX0_noteLimits_33 σ  = some r) (hR : Rg σ) : Met l yX0_noteLimits wsX0_noteLimits ({ frames := 1, cells := 0, slots := 0, locals := 23 }) (va_Pc [.ref (a 33)] (preC dC dI cI cA a σ)) (qMv (dC, dI) (gw 37 a (cE cI cA a)) (gA 37 a) r) 0 0 (gA 37 a) := by
  refine Met.ofW (cc := cX0_noteLimits) (maxL := 2) (ret := none) (by decide) rfl ?_
  intro p e s m args below meth c s₁ B hml hv
  obtain ⟨hargs, hP, hK, hN⟩ := hv
  have hx := B.exec
  have hb := B.bytes
  have hr := B.returns
  have hts := atoms_spec (ws := wsX0_noteLimits) B.pre
  have hown : s.vm.findClass RX0 = some m.cls := findClass_of_methodNamed B.named
  have hlocks := B.notSynchronized
  have hS : va_S (gA 37 a) s.heap s.heap [] := va_S.rf
  have iX0 : ∀ w ∈ wsX00, w ∈ wsX0_noteLimits := by decide +kernel
  have iX1 : ∀ w ∈ wsX10, w ∈ wsX0_noteLimits := by decide +kernel
  have iX3 : ∀ w ∈ wsX30, w ∈ wsX0_noteLimits := by decide +kernel
  have fl15 := hts (.fieldLink RX0 15 "MatchHall$Finder" "bestPlace" "[I") (by decide +kernel)
  have fl18 := hts (.fieldLink RX0 18 "MatchHall$Finder" "toFill" "[I") (by decide +kernel)
  have fl21 := hts (.fieldLink RX0 21 "MatchHall$Finder" "hall" "LMatchHall$Hall;") (by decide +kernel)
  have fl29 := hts (.fieldLink RX0 29 "MatchHall$Finder" "trial" "LMatchHall$Matching;") (by decide +kernel)
  have fn100 := va_Nw.use (A := args) rfl (hN (.fieldLinkNest RX0 100 "MatchHall$Hall" "hospitals" "I" "MatchHall") (by decide +kernel))
  have fn61 := va_Nw.use (A := args) rfl (hN (.fieldLinkNest RX0 61 "MatchHall$Hall" "residents" "I" "MatchHall") (by decide +kernel))
  have fn67 := va_Nw.use (A := args) rfl (hN (.fieldLinkNest RX0 67 "MatchHall$Matching" "hospitalOf" "[I" "MatchHall") (by decide +kernel))
  have hrm : 1 ≤ (headSpec wsX0_noteLimits ({ frames := 1, cells := 0, slots := 0, locals := 23 })).room.frames ∧ 23 ≤ (headSpec wsX0_noteLimits ({ frames := 1, cells := 0, slots := 0, locals := 23 })).room.locals := ⟨Nat.le_refl _, Nat.le_refl _⟩
  generalize (headSpec wsX0_noteLimits ({ frames := 1, cells := 0, slots := 0, locals := 23 })).room = RR at hrm ⊢
  have hl := lv_entry ([.ref (a 33)]) (n := 2) (Nat.le_of_ble_eq_true rfl)
  rw [show entryFrame m args 2 = entryFrame m ([.ref (a 33)] : List Value).toArray 2 from by rw [hargs], lg_entry_eq]
  generalize (lg_sl ([.ref (a 33)]) ++ List.replicate (2 - (lg_sl ([.ref (a 33)])).length) Slot.unset).toArray = ls at hl ⊢
  have hl : lv_has ls 2 [(0, .ref (a 33))] := hl
  generalize hQQ : MQ below (qMv (dC, dI) (gw 37 a (cE cI cA a)) (gA 37 a) r) args s 0 0 (gA 37 a) = QQ
  refine lv_iconst (v := iN 0) hx hb dX0_noteLimits_0 rfl ?_
  refine lv_istore_n (lv' := [(1, .int (iN 0)), (0, .ref (a 33))]) hx hb dX0_noteLimits_1 rfl hl (by decide) rfl (fun ls hl => ?_)
  have L_fX0_noteLimits_33_L2 : ∀ (EX0 : Mem → Int → Option (Int × Mem)), (∀ (σ2 : Mem) (v1 : Int), Rg σ2 → rng v1 → EX0 σ2 v1 = some r → ∀ H locs ls, va_P (dC, dI) vwCl (gw 37 a (cE cI cA a) σ2) H → va_S (gA 37 a) s.heap H locs → lv_has ls 2 [(0, .ref (a 33)), (1, .int (iN v1))] → W p l e RR s m args below meth c H locs 0 0 QQ (F0 m 42 ls [])) → ∀ n0 : Nat, ∀ (σ2 : Mem) (v1 : Int), Rg σ2 → rng v1 → fX0_noteLimits_33_L2  EX0 n0 σ2 v1 = some r → ∀ H locs ls, va_P (dC, dI) vwCl (gw 37 a (cE cI cA a) σ2) H → va_S (gA 37 a) s.heap H locs → lv_has ls 2 [(0, .ref (a 33)), (1, .int (iN v1))] → W p l e RR s m args below meth c H locs 0 0 QQ (F0 m 2 ls []) := by
    intro EX0 hEX0 n0
    induction n0 with
    | zero => intro _ _ _ _ hf; cases hf
    | succ n0 ih0 =>
      intro σ2 v1 hRσ2 rv1 hf H locs ls hP hS hl
      rw [fX0_noteLimits_33_L2] at hf
      refine lv_iload_n hx hb dX0_noteLimits_2 rfl (lv_at hl 1 rfl) ?_
      refine lv_aload_n hx hb dX0_noteLimits_3 rfl (lv_at hl 0 rfl) ?_
      refine x_get (C := RX0) (T := TX0) (NF := 6) (v := .ref (a 1)) hx hb hts iX0 hown hK hP 33 (by decide) (cE_33 cI cA a (_)) rfl 0 (by decide) fl21 rfl dX0_noteLimits_4 ?_
      refine x_getN (C := RX1) (T := TX1) (NF := 5) (v := .int (iN (σ2 1 3))) hx hb hts iX1 hown hK hP 1 (by decide) (cE_1 cI cA a (_)) rfl 3 (by decide) fn61 rfl dX0_noteLimits_7 ?_
      refine x_icmp_ge (tgt := 42) hx hb rv1 (hRσ2 1 3) dX0_noteLimits_10 (by decide) (fun c8 => ?_) (fun c8 => ?_)
      · replace hf := (if_neg c8).symm.trans hf
        exact hEX0 _ _ hRσ2 rv1 hf _ _ _ hP hS (lv_sub hl [0, 1] rfl)
      · replace hf := (if_pos c8).symm.trans hf
        refine lv_aload_n hx hb dX0_noteLimits_13 rfl (lv_at hl 0 rfl) ?_
        refine x_get (C := RX0) (T := TX0) (NF := 6) (v := .ref (a 35)) hx hb hts iX0 hown hK hP 33 (by decide) (cE_33 cI cA a (_)) rfl 4 (by decide) fl15 rfl dX0_noteLimits_14 ?_
        refine lv_iload_n hx hb dX0_noteLimits_17 rfl (lv_at hl 1 rfl) ?_
        refine lv_aload_n hx hb dX0_noteLimits_18 rfl (lv_at hl 0 rfl) ?_
        refine x_get (C := RX0) (T := TX0) (NF := 6) (v := .ref (a 1)) hx hb hts iX0 hown hK hP 33 (by decide) (cE_33 cI cA a (_)) rfl 0 (by decide) fl21 rfl dX0_noteLimits_19 ?_
        refine lv_iload_n hx hb dX0_noteLimits_22 rfl (lv_at hl 1 rfl) ?_
        refine lv_aload_n hx hb dX0_noteLimits_23 rfl (lv_at hl 0 rfl) ?_
        refine x_get (C := RX0) (T := TX0) (NF := 6) (v := .ref (a 23)) hx hb hts iX0 hown hK hP 33 (by decide) (cE_33 cI cA a (_)) rfl 2 (by decide) fl29 rfl dX0_noteLimits_24 ?_
        refine x_getN (C := RX3) (T := TX3) (NF := 2) (v := .ref (a 24)) hx hb hts iX3 hown hK hP 23 (by decide) (cE_23 cI cA a (_)) rfl 1 (by decide) fn67 rfl dX0_noteLimits_27 ?_
        refine lv_iload_n hx hb dX0_noteLimits_30 rfl (lv_at hl 1 rfl) ?_
        obtain ⟨g3, hf⟩ := gd hf
        refine x_iald hx hb hK hP 24 0 (by decide) (cE_24 cI cA a (_)) (by decide) rfl g3 dX0_noteLimits_31 ?_
        obtain ⟨v4, hv4, hf⟩ := bd hf
        refine x_callP (va_runV (As := [.int (iN v1), .int (iN (σ2 24 v1))]) (rest := [.int (iN v1), .ref (a 35)]) ⟨hx, hb, hml, hown, hts⟩ (kX1_placeOfHospital_1 l dC dI cI cA a σ2 v1 (σ2 24 v1) v4 hv4 hRσ2 rv1 (hRσ2 24 v1)) (cwV 2 hts gX0_noteLimits_X1_placeOfHospital rfl rfl rfl hX1_placeOfHospital_d ⟨Nat.le_trans (by decide) hrm.1, Nat.le_trans (by decide) hrm.2⟩) (pvC 1 (by decide) (cE_1 cI cA a (_)) rfl hP hK hN) rfl rfl hl.1 rfl (lv_room (Nat.le_of_ble_eq_true rfl)) dX0_noteLimits_32 ⟨Nat.zero_le _, Nat.zero_le _⟩) (fun rv4 => ?_)
        obtain ⟨g5, hf⟩ := gd hf
        obtain ⟨σ6, hσ6, hf⟩ := nxe hf
        refine x_iast (x := v4) hx hb hi hK hP hS 35 0 (by decide) (cE_35 cI cA a) (by decide) rfl g5 dX0_noteLimits_35 (fun H locs hP hS => ?_)
        rw [← hσ6] at hP
        have hRσ6 : Rg σ6 := by rw [hσ6]; exact Rg_up hRσ2 rv4
        obtain ⟨g7, hf⟩ := gd hf
        refine lv_iinc (v := iN (v1 + 1)) (lv' := [(1, .int (iN (v1 + 1))), (0, .ref (a 33))]) hx hb dX0_noteLimits_36 hl (k := 1) rfl (iN_add v1 1) (by decide) rfl (fun ls hl => ?_)
        refine lv_goto (tgt := 2) hx hb dX0_noteLimits_39 (by decide) ?_
        exact ih0 _ _ hRσ6 g7 hf _ _ _ hP hS (lv_sub hl [1, 0] rfl)
  refine L_fX0_noteLimits_33_L2 _ (fun σ10 v9 hRσ10 rv9 hf H locs ls hP hS hl => ?_) _ _ _ hR (by decide) hf _ _ _ hP hS (lv_sub hl [1, 0] rfl)
  refine lv_iconst (v := iN 0) hx hb dX0_noteLimits_42 rfl ?_
  refine lv_istore_n (lv' := [(1, .int (iN 0)), (0, .ref (a 33))]) hx hb dX0_noteLimits_43 rfl hl (by decide) rfl (fun ls hl => ?_)
  have L_fX0_noteLimits_33_L44 : ∀ (EX0 : Mem → Int → Option (Int × Mem)), (∀ (σ12 : Mem) (v11 : Int), Rg σ12 → rng v11 → EX0 σ12 v11 = some r → ∀ H locs ls, va_P (dC, dI) vwCl (gw 37 a (cE cI cA a) σ12) H → va_S (gA 37 a) s.heap H locs → lv_has ls 2 [(0, .ref (a 33)), (1, .int (iN v11))] → W p l e RR s m args below meth c H locs 0 0 QQ (F0 m 75 ls [])) → ∀ n0 : Nat, ∀ (σ12 : Mem) (v11 : Int), Rg σ12 → rng v11 → fX0_noteLimits_33_L44  EX0 n0 σ12 v11 = some r → ∀ H locs ls, va_P (dC, dI) vwCl (gw 37 a (cE cI cA a) σ12) H → va_S (gA 37 a) s.heap H locs → lv_has ls 2 [(0, .ref (a 33)), (1, .int (iN v11))] → W p l e RR s m args below meth c H locs 0 0 QQ (F0 m 44 ls []) := by
    intro EX0 hEX0 n0
    induction n0 with
    | zero => intro _ _ _ _ hf; cases hf
    | succ n0 ih0 =>
      intro σ12 v11 hRσ12 rv11 hf H locs ls hP hS hl
      rw [fX0_noteLimits_33_L44] at hf
      refine lv_iload_n hx hb dX0_noteLimits_44 rfl (lv_at hl 1 rfl) ?_
      refine lv_aload_n hx hb dX0_noteLimits_45 rfl (lv_at hl 0 rfl) ?_
      refine x_get (C := RX0) (T := TX0) (NF := 6) (v := .ref (a 1)) hx hb hts iX0 hown hK hP 33 (by decide) (cE_33 cI cA a (_)) rfl 0 (by decide) fl21 rfl dX0_noteLimits_46 ?_
      refine x_getN (C := RX1) (T := TX1) (NF := 5) (v := .int (iN (σ12 1 4))) hx hb hts iX1 hown hK hP 1 (by decide) (cE_1 cI cA a (_)) rfl 4 (by decide) fn100 rfl dX0_noteLimits_49 ?_
      refine x_icmp_ge (tgt := 75) hx hb rv11 (hRσ12 1 4) dX0_noteLimits_52 (by decide) (fun c17 => ?_) (fun c17 => ?_)
      · replace hf := (if_neg c17).symm.trans hf
        exact hEX0 _ _ hRσ12 rv11 hf _ _ _ hP hS (lv_sub hl [0, 1] rfl)
      · replace hf := (if_pos c17).symm.trans hf
        refine lv_aload_n hx hb dX0_noteLimits_55 rfl (lv_at hl 0 rfl) ?_
        refine x_get (C := RX0) (T := TX0) (NF := 6) (v := .ref (a 36)) hx hb hts iX0 hown hK hP 33 (by decide) (cE_33 cI cA a (_)) rfl 5 (by decide) fl18 rfl dX0_noteLimits_56 ?_
        refine lv_iload_n hx hb dX0_noteLimits_59 rfl (lv_at hl 1 rfl) ?_
        refine lv_aload_n hx hb dX0_noteLimits_60 rfl (lv_at hl 0 rfl) ?_
        refine x_get (C := RX0) (T := TX0) (NF := 6) (v := .ref (a 23)) hx hb hts iX0 hown hK hP 33 (by decide) (cE_33 cI cA a (_)) rfl 2 (by decide) fl29 rfl dX0_noteLimits_61 ?_
        refine lv_iload_n hx hb dX0_noteLimits_64 rfl (lv_at hl 1 rfl) ?_
        obtain ⟨v13, hv13, hf⟩ := bd hf
        refine x_callP (va_runV (As := [.int (iN v11)]) (rest := [.int (iN v11), .ref (a 36)]) ⟨hx, hb, hml, hown, hts⟩ (kX3_countAt_23 l dC dI cI cA a σ12 v11 v13 hv13 hRσ12 rv11) (cwV 1 hts gX0_noteLimits_X3_countAt rfl rfl rfl hX3_countAt_d ⟨Nat.le_trans (by decide) hrm.1, Nat.le_trans (by decide) hrm.2⟩) (pvC 23 (by decide) (cE_23 cI cA a (_)) rfl hP hK hN) rfl rfl hl.1 rfl (lv_room (Nat.le_of_ble_eq_true rfl)) dX0_noteLimits_65 ⟨Nat.zero_le _, Nat.zero_le _⟩) (fun rv13 => ?_)
        obtain ⟨g14, hf⟩ := gd hf
        obtain ⟨σ15, hσ15, hf⟩ := nxe hf
        refine x_iast (x := v13) hx hb hi hK hP hS 36 0 (by decide) (cE_36 cI cA a) (by decide) rfl g14 dX0_noteLimits_68 (fun H locs hP hS => ?_)
        rw [← hσ15] at hP
        have hRσ15 : Rg σ15 := by rw [hσ15]; exact Rg_up hRσ12 rv13
        obtain ⟨g16, hf⟩ := gd hf
        refine lv_iinc (v := iN (v11 + 1)) (lv' := [(1, .int (iN (v11 + 1))), (0, .ref (a 33))]) hx hb dX0_noteLimits_69 hl (k := 1) rfl (iN_add v11 1) (by decide) rfl (fun ls hl => ?_)
        refine lv_goto (tgt := 44) hx hb dX0_noteLimits_72 (by decide) ?_
        exact ih0 _ _ hRσ15 g16 hf _ _ _ hP hS (lv_sub hl [1, 0] rfl)
  refine L_fX0_noteLimits_33_L44 _ (fun σ19 v18 hRσ19 rv18 hf H locs ls hP hS hl => ?_) _ _ _ hRσ10 (by decide) hf _ _ _ hP hS (lv_sub hl [1, 0] rfl)
  rw [← hQQ]
  exact x_vretM hx hb hr (Option.some.inj hf) hRσ19 hP hS hlocks dX0_noteLimits_75
