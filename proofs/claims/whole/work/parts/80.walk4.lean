theorem hX1_hasHospital_d : yX1_hasHospital.cls = RX1 ∧ yX1_hasHospital.cls ≠ "java/lang/invoke/MethodHandle" ∧ yX1_hasHospital.cls ≠ "java/lang/invoke/VarHandle" ∧ (parseMethodDescriptor yX1_hasHospital.desc).map (fun d => d.parameters.length) = some 1 := by decide +kernel
theorem hX1_open_d : yX1_open.cls = RX1 ∧ yX1_open.cls ≠ "java/lang/invoke/MethodHandle" ∧ yX1_open.cls ≠ "java/lang/invoke/VarHandle" ∧ (parseMethodDescriptor yX1_open.desc).map (fun d => d.parameters.length) = some 2 := by decide +kernel
def fX6_make_0 (σ : Mem) (x1 : Int) (x2 : Int) : Option (Int × Mem) := if x1 < 1 then none else if 6 < x1 then none else if x2 < 1 then none else if 6 < x2 then none else bnd2 (fX1_open_1 σ x1 x2) fun v1 σ2 => bnd2 (fX3_clear_21 σ2 ) fun v3 σ4 => bnd2 (fX6_dropWork_0 σ4 ) fun v5 σ6 => some (0, σ6)
set_option maxHeartbeats 4000000 in
set_option maxRecDepth 100000 in
theorem kX6_make_0 (l : Launch) (dC : Nat → ClassId) (dI : Nat → Nat → Nat) (cI : ClassId) (cA : ClassId) (a : Nat → Nat) (hi : ∀ i j, i < 37 → j < 37 → a i = a j → i = j) (σ : Mem) (x1 : Int) (x2 : Int) (r : (Int × Mem)) (hf : fX6_make_0 σ x1 x2 = some r) (hR : Rg σ) (rx1 : rng x1) (rx2 : rng x2) : Met l yX6_make wsX6_make ({ frames := 4, cells := 0, slots := 0, locals := 90 }) (va_Pc [.ref (a 0), .int (iN x1), .int (iN x2)] (preC dC dI cI cA a σ)) (qMv (dC, dI) (gw 37 a (cE cI cA a)) (gA 37 a) r) 0 0 (gA 37 a) := by
  refine Met.ofW (cc := cX6_make) (maxL := 3) (ret := none) (by decide) rfl ?_
  intro p e s m args below meth c s₁ B hml hv
  obtain ⟨hargs, hP, hK, hN⟩ := hv
  have hx := B.exec
  have hb := B.bytes
  have hr := B.returns
  have hts := atoms_spec (ws := wsX6_make) B.pre
  have hown : s.vm.findClass RX6 = some m.cls := findClass_of_methodNamed B.named
  have hlocks := B.notSynchronized
  have hS : va_S (gA 37 a) s.heap s.heap [] := va_S.rf
  have iX6 : ∀ w ∈ wsX60, w ∈ wsX6_make := by decide +kernel
  have fl12 := hts (.fieldLink RX6 12 "MatchHall" "hall" "LMatchHall$Hall;") (by decide +kernel)
  have fl21 := hts (.fieldLink RX6 21 "MatchHall" "told" "LMatchHall$Matching;") (by decide +kernel)
  have hrm : 4 ≤ (headSpec wsX6_make ({ frames := 4, cells := 0, slots := 0, locals := 90 })).room.frames ∧ 90 ≤ (headSpec wsX6_make ({ frames := 4, cells := 0, slots := 0, locals := 90 })).room.locals := ⟨Nat.le_refl _, Nat.le_refl _⟩
  generalize (headSpec wsX6_make ({ frames := 4, cells := 0, slots := 0, locals := 90 })).room = RR at hrm ⊢
  have hl := lv_entry ([.ref (a 0), .int (iN x1), .int (iN x2)]) (n := 3) (Nat.le_of_ble_eq_true rfl)
  rw [show entryFrame m args 3 = entryFrame m ([.ref (a 0), .int (iN x1), .int (iN x2)] : List Value).toArray 3 from by rw [hargs], lg_entry_eq]
  generalize (lg_sl ([.ref (a 0), .int (iN x1), .int (iN x2)]) ++ List.replicate (3 - (lg_sl ([.ref (a 0), .int (iN x1), .int (iN x2)])).length) Slot.unset).toArray = ls at hl ⊢
  have hl : lv_has ls 3 [(0, .ref (a 0)), (1, .int (iN x1)), (2, .int (iN x2))] := hl
  generalize hQQ : MQ below (qMv (dC, dI) (gw 37 a (cE cI cA a)) (gA 37 a) r) args s 0 0 (gA 37 a) = QQ
  refine lv_iload_n hx hb dX6_make_0 rfl (lv_at hl 1 rfl) ?_
  refine lv_iconst (v := iN 1) hx hb dX6_make_1 rfl ?_
  refine x_icmp_lt (tgt := 22) hx hb rx1 (by decide) dX6_make_2 (by decide) (fun c10 => ?_) (fun c10 => ?_)
  · replace hf := (if_pos c10).symm.trans hf
    cases hf
  · replace hf := (if_neg c10).symm.trans hf
    refine lv_iload_n hx hb dX6_make_5 rfl (lv_at hl 1 rfl) ?_
    refine lv_bipush (v := iN 6) hx hb dX6_make_6 (by decide) ?_
    refine x_icmp_gt (tgt := 22) hx hb rx1 (by decide) dX6_make_8 (by decide) (fun c9 => ?_) (fun c9 => ?_)
    · replace hf := (if_pos c9).symm.trans hf
      cases hf
    · replace hf := (if_neg c9).symm.trans hf
      refine lv_iload_n hx hb dX6_make_11 rfl (lv_at hl 2 rfl) ?_
      refine lv_iconst (v := iN 1) hx hb dX6_make_12 rfl ?_
      refine x_icmp_lt (tgt := 22) hx hb rx2 (by decide) dX6_make_13 (by decide) (fun c8 => ?_) (fun c8 => ?_)
      · replace hf := (if_pos c8).symm.trans hf
        cases hf
      · replace hf := (if_neg c8).symm.trans hf
        refine lv_iload_n hx hb dX6_make_16 rfl (lv_at hl 2 rfl) ?_
        refine lv_bipush (v := iN 6) hx hb dX6_make_17 (by decide) ?_
        refine x_icmp_le (tgt := 30) hx hb rx2 (by decide) dX6_make_19 (by decide) (fun c7 => ?_) (fun c7 => ?_)
        · replace hf := (if_neg c7).symm.trans hf
          refine lv_aload_n hx hb dX6_make_30 rfl (lv_at hl 0 rfl) ?_
          refine x_get (C := RX6) (T := TX6) (NF := 6) (v := .ref (a 1)) hx hb hts iX6 hown hK hP 0 (by decide) (cE_0 cI cA a (_)) rfl 0 (by decide) fl12 rfl dX6_make_31 ?_
          refine lv_iload_n hx hb dX6_make_34 rfl (lv_at hl 1 rfl) ?_
          refine lv_iload_n hx hb dX6_make_35 rfl (lv_at hl 2 rfl) ?_
          obtain ⟨v1, σ2, hv1, hf⟩ := bd2 hf
          refine x_callMv (va_runV (As := [.int (iN x1), .int (iN x2)]) (rest := []) ⟨hx, hb, hml, hown, hts⟩ (kX1_open_1 l dC dI cI cA a hi σ x1 x2 (v1, σ2) hv1 hR rx1 rx2) (cwV 2 hts gX6_make_X1_open rfl rfl rfl hX1_open_d ⟨Nat.le_trans (by decide) hrm.1, Nat.le_trans (by decide) hrm.2⟩) (pvC 1 (by decide) (cE_1 cI cA a (_)) rfl hP hK hN) rfl rfl hl.1 rfl (lv_room (Nat.le_of_ble_eq_true rfl)) dX6_make_36 ⟨Nat.zero_le _, Nat.zero_le _⟩) hS (fun rv1 hRσ2 H locs hP hS => ?_)
          refine lv_aload_n hx hb dX6_make_39 rfl (lv_at hl 0 rfl) ?_
          refine x_get (C := RX6) (T := TX6) (NF := 6) (v := .ref (a 21)) hx hb hts iX6 hown hK hP 0 (by decide) (cE_0 cI cA a (_)) rfl 1 (by decide) fl21 rfl dX6_make_40 ?_
          obtain ⟨v3, σ4, hv3, hf⟩ := bd2 hf
          refine x_callMv (va_runV (As := []) (rest := []) ⟨hx, hb, hml, hown, hts⟩ (kX3_clear_21 l dC dI cI cA a hi σ2  (v3, σ4) hv3 hRσ2 ) (cwV 0 hts gX6_make_X3_clear rfl rfl rfl hX3_clear_d ⟨Nat.le_trans (by decide) hrm.1, Nat.le_trans (by decide) hrm.2⟩) (pvC 21 (by decide) (cE_21 cI cA a (_)) rfl hP hK hN) rfl rfl hl.1 rfl (lv_room (Nat.le_of_ble_eq_true rfl)) dX6_make_43 ⟨Nat.zero_le _, Nat.zero_le _⟩) hS (fun rv3 hRσ4 H locs hP hS => ?_)
          refine lv_aload_n hx hb dX6_make_46 rfl (lv_at hl 0 rfl) ?_
          obtain ⟨v5, σ6, hv5, hf⟩ := bd2 hf
          refine x_callMv (va_runV (As := []) (rest := []) ⟨hx, hb, hml, hown, hts⟩ (kX6_dropWork_0 l dC dI cI cA a hi σ4  (v5, σ6) hv5 hRσ4 ) (cwV 0 hts gX6_make_X6_dropWork rfl rfl rfl hX6_dropWork_d ⟨Nat.le_trans (by decide) hrm.1, Nat.le_trans (by decide) hrm.2⟩) (pvC 0 (by decide) (cE_0 cI cA a (_)) rfl hP hK hN) rfl rfl hl.1 rfl (lv_room (Nat.le_of_ble_eq_true rfl)) dX6_make_47 ⟨Nat.zero_le _, Nat.zero_le _⟩) hS (fun rv5 hRσ6 H locs hP hS => ?_)
          rw [← hQQ]
          exact x_vretM hx hb hr (Option.some.inj hf) hRσ6 hP hS hlocks dX6_make_50
        · replace hf := (if_pos c7).symm.trans hf
          cases hf
def fX6_seats_0 (σ : Mem) (x1 : Int) (x2 : Int) : Option (Int × Mem) := (fX1_hasHospital_1 σ x1).bind fun v1 => if v1 = 0 then none else if x2 < 1 then none else if 3 < x2 then none else if (0 : Int) ≤ x1 ∧ (x1 : Int) < 6 then nx (mup σ 20 x1 x2) fun σ3 => bnd2 (fX6_dropWork_0 σ3 ) fun v4 σ5 => some (0, σ5) else none
set_option maxHeartbeats 4000000 in
set_option maxRecDepth 100000 in
theorem kX6_seats_0 (l : Launch) (dC : Nat → ClassId) (dI : Nat → Nat → Nat) (cI : ClassId) (cA : ClassId) (a : Nat → Nat) (hi : ∀ i j, i < 37 → j < 37 → a i = a j → i = j) (σ : Mem) (x1 : Int) (x2 : Int) (r : (Int × Mem)) (hf : fX6_seats_0 σ x1 x2 = some r) (hR : Rg σ) (rx1 : rng x1) (rx2 : rng x2) : Met l yX6_seats wsX6_seats ({ frames := 1, cells := 0, slots := 0, locals := 21 }) (va_Pc [.ref (a 0), .int (iN x1), .int (iN x2)] (preC dC dI cI cA a σ)) (qMv (dC, dI) (gw 37 a (cE cI cA a)) (gA 37 a) r) 0 0 (gA 37 a) := by
  refine Met.ofW (cc := cX6_seats) (maxL := 3) (ret := none) (by decide) rfl ?_
  intro p e s m args below meth c s₁ B hml hv
  obtain ⟨hargs, hP, hK, hN⟩ := hv
  have hx := B.exec
  have hb := B.bytes
  have hr := B.returns
  have hts := atoms_spec (ws := wsX6_seats) B.pre
  have hown : s.vm.findClass RX6 = some m.cls := findClass_of_methodNamed B.named
  have hlocks := B.notSynchronized
  have hS : va_S (gA 37 a) s.heap s.heap [] := va_S.rf
  have iX1 : ∀ w ∈ wsX10, w ∈ wsX6_seats := by decide +kernel
  have iX6 : ∀ w ∈ wsX60, w ∈ wsX6_seats := by decide +kernel
  have fl12 := hts (.fieldLink RX6 12 "MatchHall" "hall" "LMatchHall$Hall;") (by decide +kernel)
  have fn73 := va_Nw.use (A := args) rfl (hN (.fieldLinkNest RX6 73 "MatchHall$Hall" "seatsOf" "[I" "MatchHall") (by decide +kernel))
  have hrm : 1 ≤ (headSpec wsX6_seats ({ frames := 1, cells := 0, slots := 0, locals := 21 })).room.frames ∧ 21 ≤ (headSpec wsX6_seats ({ frames := 1, cells := 0, slots := 0, locals := 21 })).room.locals := ⟨Nat.le_refl _, Nat.le_refl _⟩
  generalize (headSpec wsX6_seats ({ frames := 1, cells := 0, slots := 0, locals := 21 })).room = RR at hrm ⊢
  have hl := lv_entry ([.ref (a 0), .int (iN x1), .int (iN x2)]) (n := 3) (Nat.le_of_ble_eq_true rfl)
  rw [show entryFrame m args 3 = entryFrame m ([.ref (a 0), .int (iN x1), .int (iN x2)] : List Value).toArray 3 from by rw [hargs], lg_entry_eq]
  generalize (lg_sl ([.ref (a 0), .int (iN x1), .int (iN x2)]) ++ List.replicate (3 - (lg_sl ([.ref (a 0), .int (iN x1), .int (iN x2)])).length) Slot.unset).toArray = ls at hl ⊢
  have hl : lv_has ls 3 [(0, .ref (a 0)), (1, .int (iN x1)), (2, .int (iN x2))] := hl
  generalize hQQ : MQ below (qMv (dC, dI) (gw 37 a (cE cI cA a)) (gA 37 a) r) args s 0 0 (gA 37 a) = QQ
  refine lv_aload_n hx hb dX6_seats_0 rfl (lv_at hl 0 rfl) ?_
  refine x_get (C := RX6) (T := TX6) (NF := 6) (v := .ref (a 1)) hx hb hts iX6 hown hK hP 0 (by decide) (cE_0 cI cA a (_)) rfl 0 (by decide) fl12 rfl dX6_seats_1 ?_
  refine lv_iload_n hx hb dX6_seats_4 rfl (lv_at hl 1 rfl) ?_
  obtain ⟨v1, hv1, hf⟩ := bd hf
  refine x_callP (va_runV (As := [.int (iN x1)]) (rest := []) ⟨hx, hb, hml, hown, hts⟩ (kX1_hasHospital_1 l dC dI cI cA a σ x1 v1 hv1 hR rx1) (cwV 1 hts gX6_seats_X1_hasHospital rfl rfl rfl hX1_hasHospital_d ⟨Nat.le_trans (by decide) hrm.1, Nat.le_trans (by decide) hrm.2⟩) (pvC 1 (by decide) (cE_1 cI cA a (_)) rfl hP hK hN) rfl rfl hl.1 rfl (lv_room (Nat.le_of_ble_eq_true rfl)) dX6_seats_5 ⟨Nat.zero_le _, Nat.zero_le _⟩) (fun rv1 => ?_)
  refine x_if_ne (tgt := 19) hx hb rv1 dX6_seats_8 (by decide) (fun c8 => ?_) (fun c8 => ?_)
  · replace hf := (if_neg c8).symm.trans hf
    refine lv_iload_n hx hb dX6_seats_19 rfl (lv_at hl 2 rfl) ?_
    refine lv_iconst (v := iN 1) hx hb dX6_seats_20 rfl ?_
    refine x_icmp_lt (tgt := 29) hx hb rx2 (by decide) dX6_seats_21 (by decide) (fun c7 => ?_) (fun c7 => ?_)
    · replace hf := (if_pos c7).symm.trans hf
      cases hf
    · replace hf := (if_neg c7).symm.trans hf
      refine lv_iload_n hx hb dX6_seats_24 rfl (lv_at hl 2 rfl) ?_
      refine lv_iconst (v := iN 3) hx hb dX6_seats_25 rfl ?_
      refine x_icmp_le (tgt := 37) hx hb rx2 (by decide) dX6_seats_26 (by decide) (fun c6 => ?_) (fun c6 => ?_)
      · replace hf := (if_neg c6).symm.trans hf
        refine lv_aload_n hx hb dX6_seats_37 rfl (lv_at hl 0 rfl) ?_
        refine x_get (C := RX6) (T := TX6) (NF := 6) (v := .ref (a 1)) hx hb hts iX6 hown hK hP 0 (by decide) (cE_0 cI cA a (_)) rfl 0 (by decide) fl12 rfl dX6_seats_38 ?_
        refine x_getN (C := RX1) (T := TX1) (NF := 5) (v := .ref (a 20)) hx hb hts iX1 hown hK hP 1 (by decide) (cE_1 cI cA a (_)) rfl 2 (by decide) fn73 rfl dX6_seats_41 ?_
        refine lv_iload_n hx hb dX6_seats_44 rfl (lv_at hl 1 rfl) ?_
        refine lv_iload_n hx hb dX6_seats_45 rfl (lv_at hl 2 rfl) ?_
        obtain ⟨g2, hf⟩ := gd hf
        obtain ⟨σ3, hσ3, hf⟩ := nxe hf
        refine x_iast (x := x2) hx hb hi hK hP hS 20 0 (by decide) (cE_20 cI cA a) (by decide) rfl g2 dX6_seats_46 (fun H locs hP hS => ?_)
        rw [← hσ3] at hP
        have hRσ3 : Rg σ3 := by rw [hσ3]; exact Rg_up hR rx2
        refine lv_aload_n hx hb dX6_seats_47 rfl (lv_at hl 0 rfl) ?_
        obtain ⟨v4, σ5, hv4, hf⟩ := bd2 hf
        refine x_callMv (va_runV (As := []) (rest := []) ⟨hx, hb, hml, hown, hts⟩ (kX6_dropWork_0 l dC dI cI cA a hi σ3  (v4, σ5) hv4 hRσ3 ) (cwV 0 hts gX6_seats_X6_dropWork rfl rfl rfl hX6_dropWork_d ⟨Nat.le_trans (by decide) hrm.1, Nat.le_trans (by decide) hrm.2⟩) (pvC 0 (by decide) (cE_0 cI cA a (_)) rfl hP hK hN) rfl rfl hl.1 rfl (lv_room (Nat.le_of_ble_eq_true rfl)) dX6_seats_48 ⟨Nat.zero_le _, Nat.zero_le _⟩) hS (fun rv4 hRσ5 H locs hP hS => ?_)
        rw [← hQQ]
        exact x_vretM hx hb hr (Option.some.inj hf) hRσ5 hP hS hlocks dX6_seats_51
      · replace hf := (if_pos c6).symm.trans hf
        cases hf
  · replace hf := (if_pos c8).symm.trans hf
    cases hf
def fX6_tell_0 (σ : Mem) (x1 : Int) (x2 : Int) : Option (Int × Mem) := (fX1_hasResident_1 σ x1).bind fun v1 => if v1 = 0 then none else if x2 = (-1) then if (0 : Int) ≤ x1 ∧ (x1 : Int) < 6 then nx (mup σ 22 x1 x2) fun σ3 => some (0, σ3) else none else (fX1_hasHospital_1 σ x2).bind fun v4 => if v4 = 0 then none else if (0 : Int) ≤ x1 ∧ (x1 : Int) < 6 then nx (mup σ 22 x1 x2) fun σ6 => some (0, σ6) else none
set_option maxHeartbeats 4000000 in
set_option maxRecDepth 100000 in
theorem kX6_tell_0 (l : Launch) (dC : Nat → ClassId) (dI : Nat → Nat → Nat) (cI : ClassId) (cA : ClassId) (a : Nat → Nat) (hi : ∀ i j, i < 37 → j < 37 → a i = a j → i = j) (σ : Mem) (x1 : Int) (x2 : Int) (r : (Int × Mem)) (hf : fX6_tell_0 σ x1 x2 = some r) (hR : Rg σ) (rx1 : rng x1) (rx2 : rng x2) : Met l yX6_tell wsX6_tell ({ frames := 1, cells := 0, slots := 0, locals := 21 }) (va_Pc [.ref (a 0), .int (iN x1), .int (iN x2)] (preC dC dI cI cA a σ)) (qMv (dC, dI) (gw 37 a (cE cI cA a)) (gA 37 a) r) 0 0 (gA 37 a) := by
  refine Met.ofW (cc := cX6_tell) (maxL := 3) (ret := none) (by decide) rfl ?_
  intro p e s m args below meth c s₁ B hml hv
  obtain ⟨hargs, hP, hK, hN⟩ := hv
  have hx := B.exec
  have hb := B.bytes
  have hr := B.returns
  have hts := atoms_spec (ws := wsX6_tell) B.pre
  have hown : s.vm.findClass RX6 = some m.cls := findClass_of_methodNamed B.named
  have hlocks := B.notSynchronized
  have hS : va_S (gA 37 a) s.heap s.heap [] := va_S.rf
  have iX3 : ∀ w ∈ wsX30, w ∈ wsX6_tell := by decide +kernel
  have iX6 : ∀ w ∈ wsX60, w ∈ wsX6_tell := by decide +kernel
  have fl12 := hts (.fieldLink RX6 12 "MatchHall" "hall" "LMatchHall$Hall;") (by decide +kernel)
  have fl21 := hts (.fieldLink RX6 21 "MatchHall" "told" "LMatchHall$Matching;") (by decide +kernel)
  have fn139 := va_Nw.use (A := args) rfl (hN (.fieldLinkNest RX6 139 "MatchHall$Matching" "hospitalOf" "[I" "MatchHall") (by decide +kernel))
  have hrm : 1 ≤ (headSpec wsX6_tell ({ frames := 1, cells := 0, slots := 0, locals := 21 })).room.frames ∧ 21 ≤ (headSpec wsX6_tell ({ frames := 1, cells := 0, slots := 0, locals := 21 })).room.locals := ⟨Nat.le_refl _, Nat.le_refl _⟩
  generalize (headSpec wsX6_tell ({ frames := 1, cells := 0, slots := 0, locals := 21 })).room = RR at hrm ⊢
  have hl := lv_entry ([.ref (a 0), .int (iN x1), .int (iN x2)]) (n := 3) (Nat.le_of_ble_eq_true rfl)
  rw [show entryFrame m args 3 = entryFrame m ([.ref (a 0), .int (iN x1), .int (iN x2)] : List Value).toArray 3 from by rw [hargs], lg_entry_eq]
  generalize (lg_sl ([.ref (a 0), .int (iN x1), .int (iN x2)]) ++ List.replicate (3 - (lg_sl ([.ref (a 0), .int (iN x1), .int (iN x2)])).length) Slot.unset).toArray = ls at hl ⊢
  have hl : lv_has ls 3 [(0, .ref (a 0)), (1, .int (iN x1)), (2, .int (iN x2))] := hl
  generalize hQQ : MQ below (qMv (dC, dI) (gw 37 a (cE cI cA a)) (gA 37 a) r) args s 0 0 (gA 37 a) = QQ
  refine lv_aload_n hx hb dX6_tell_0 rfl (lv_at hl 0 rfl) ?_
  refine x_get (C := RX6) (T := TX6) (NF := 6) (v := .ref (a 1)) hx hb hts iX6 hown hK hP 0 (by decide) (cE_0 cI cA a (_)) rfl 0 (by decide) fl12 rfl dX6_tell_1 ?_
  refine lv_iload_n hx hb dX6_tell_4 rfl (lv_at hl 1 rfl) ?_
  obtain ⟨v1, hv1, hf⟩ := bd hf
  refine x_callP (va_runV (As := [.int (iN x1)]) (rest := []) ⟨hx, hb, hml, hown, hts⟩ (kX1_hasResident_1 l dC dI cI cA a σ x1 v1 hv1 hR rx1) (cwV 1 hts gX6_tell_X1_hasResident rfl rfl rfl hX1_hasResident_d ⟨Nat.le_trans (by decide) hrm.1, Nat.le_trans (by decide) hrm.2⟩) (pvC 1 (by decide) (cE_1 cI cA a (_)) rfl hP hK hN) rfl rfl hl.1 rfl (lv_room (Nat.le_of_ble_eq_true rfl)) dX6_tell_5 ⟨Nat.zero_le _, Nat.zero_le _⟩) (fun rv1 => ?_)
  refine x_if_ne (tgt := 19) hx hb rv1 dX6_tell_8 (by decide) (fun c9 => ?_) (fun c9 => ?_)
  · replace hf := (if_neg c9).symm.trans hf
    refine lv_iload_n hx hb dX6_tell_19 rfl (lv_at hl 2 rfl) ?_
    refine lv_iconst (v := iN (-1)) hx hb dX6_tell_20 rfl ?_
    refine x_icmp_eq (tgt := 43) hx hb rx2 (by decide) dX6_tell_21 (by decide) (fun c8 => ?_) (fun c8 => ?_)
    · replace hf := (if_pos c8).symm.trans hf
      refine lv_aload_n hx hb dX6_tell_43 rfl (lv_at hl 0 rfl) ?_
      refine x_get (C := RX6) (T := TX6) (NF := 6) (v := .ref (a 21)) hx hb hts iX6 hown hK hP 0 (by decide) (cE_0 cI cA a (_)) rfl 1 (by decide) fl21 rfl dX6_tell_44 ?_
      refine x_getN (C := RX3) (T := TX3) (NF := 2) (v := .ref (a 22)) hx hb hts iX3 hown hK hP 21 (by decide) (cE_21 cI cA a (_)) rfl 1 (by decide) fn139 rfl dX6_tell_47 ?_
      refine lv_iload_n hx hb dX6_tell_50 rfl (lv_at hl 1 rfl) ?_
      refine lv_iload_n hx hb dX6_tell_51 rfl (lv_at hl 2 rfl) ?_
      obtain ⟨g2, hf⟩ := gd hf
      obtain ⟨σ3, hσ3, hf⟩ := nxe hf
      refine x_iast (x := x2) hx hb hi hK hP hS 22 0 (by decide) (cE_22 cI cA a) (by decide) rfl g2 dX6_tell_52 (fun H locs hP hS => ?_)
      rw [← hσ3] at hP
      have hRσ3 : Rg σ3 := by rw [hσ3]; exact Rg_up hR rx2
      rw [← hQQ]
      exact x_vretM hx hb hr (Option.some.inj hf) hRσ3 hP hS hlocks dX6_tell_53
    · replace hf := (if_neg c8).symm.trans hf
      refine lv_aload_n hx hb dX6_tell_24 rfl (lv_at hl 0 rfl) ?_
      refine x_get (C := RX6) (T := TX6) (NF := 6) (v := .ref (a 1)) hx hb hts iX6 hown hK hP 0 (by decide) (cE_0 cI cA a (_)) rfl 0 (by decide) fl12 rfl dX6_tell_25 ?_
      refine lv_iload_n hx hb dX6_tell_28 rfl (lv_at hl 2 rfl) ?_
      obtain ⟨v4, hv4, hf⟩ := bd hf
      refine x_callP (va_runV (As := [.int (iN x2)]) (rest := []) ⟨hx, hb, hml, hown, hts⟩ (kX1_hasHospital_1 l dC dI cI cA a σ x2 v4 hv4 hR rx2) (cwV 1 hts gX6_tell_X1_hasHospital rfl rfl rfl hX1_hasHospital_d ⟨Nat.le_trans (by decide) hrm.1, Nat.le_trans (by decide) hrm.2⟩) (pvC 1 (by decide) (cE_1 cI cA a (_)) rfl hP hK hN) rfl rfl hl.1 rfl (lv_room (Nat.le_of_ble_eq_true rfl)) dX6_tell_29 ⟨Nat.zero_le _, Nat.zero_le _⟩) (fun rv4 => ?_)
      refine x_if_ne (tgt := 43) hx hb rv4 dX6_tell_32 (by decide) (fun c7 => ?_) (fun c7 => ?_)
      · replace hf := (if_neg c7).symm.trans hf
        refine lv_aload_n hx hb dX6_tell_43 rfl (lv_at hl 0 rfl) ?_
        refine x_get (C := RX6) (T := TX6) (NF := 6) (v := .ref (a 21)) hx hb hts iX6 hown hK hP 0 (by decide) (cE_0 cI cA a (_)) rfl 1 (by decide) fl21 rfl dX6_tell_44 ?_
        refine x_getN (C := RX3) (T := TX3) (NF := 2) (v := .ref (a 22)) hx hb hts iX3 hown hK hP 21 (by decide) (cE_21 cI cA a (_)) rfl 1 (by decide) fn139 rfl dX6_tell_47 ?_
        refine lv_iload_n hx hb dX6_tell_50 rfl (lv_at hl 1 rfl) ?_
        refine lv_iload_n hx hb dX6_tell_51 rfl (lv_at hl 2 rfl) ?_
        obtain ⟨g5, hf⟩ := gd hf
        obtain ⟨σ6, hσ6, hf⟩ := nxe hf
        refine x_iast (x := x2) hx hb hi hK hP hS 22 0 (by decide) (cE_22 cI cA a) (by decide) rfl g5 dX6_tell_52 (fun H locs hP hS => ?_)
        rw [← hσ6] at hP
        have hRσ6 : Rg σ6 := by rw [hσ6]; exact Rg_up hR rx2
        rw [← hQQ]
        exact x_vretM hx hb hr (Option.some.inj hf) hRσ6 hP hS hlocks dX6_tell_53
      · replace hf := (if_pos c7).symm.trans hf
        cases hf
  · replace hf := (if_pos c9).symm.trans hf
    cases hf
def fX6_take_0 (σ : Mem) (x1 : Int) : Option (Int × Mem) := (fX5_has_25 σ x1).bind fun v1 => if v1 = 0 then none else bnd2 (fX5_copyTo_25_21 σ x1) fun v2 σ3 => some (0, σ3)
set_option maxHeartbeats 4000000 in
set_option maxRecDepth 100000 in
theorem kX6_take_0 (l : Launch) (dC : Nat → ClassId) (dI : Nat → Nat → Nat) (cI : ClassId) (cA : ClassId) (a : Nat → Nat) (hi : ∀ i j, i < 37 → j < 37 → a i = a j → i = j) (σ : Mem) (x1 : Int) (r : (Int × Mem)) (hf : fX6_take_0 σ x1 = some r) (hR : Rg σ) (rx1 : rng x1) : Met l yX6_take wsX6_take ({ frames := 2, cells := 0, slots := 0, locals := 86 }) (va_Pc [.ref (a 0), .int (iN x1)] (preC dC dI cI cA a σ)) (qMv (dC, dI) (gw 37 a (cE cI cA a)) (gA 37 a) r) 0 0 (gA 37 a) := by
  refine Met.ofW (cc := cX6_take) (maxL := 2) (ret := none) (by decide) rfl ?_
  intro p e s m args below meth c s₁ B hml hv
  obtain ⟨hargs, hP, hK, hN⟩ := hv
  have hx := B.exec
  have hb := B.bytes
  have hr := B.returns
  have hts := atoms_spec (ws := wsX6_take) B.pre
  have hown : s.vm.findClass RX6 = some m.cls := findClass_of_methodNamed B.named
  have hlocks := B.notSynchronized
  have hS : va_S (gA 37 a) s.heap s.heap [] := va_S.rf
  have iX6 : ∀ w ∈ wsX60, w ∈ wsX6_take := by decide +kernel
  have fl21 := hts (.fieldLink RX6 21 "MatchHall" "told" "LMatchHall$Matching;") (by decide +kernel)
  have fl31 := hts (.fieldLink RX6 31 "MatchHall" "stables" "LMatchHall$Stables;") (by decide +kernel)
  have hrm : 2 ≤ (headSpec wsX6_take ({ frames := 2, cells := 0, slots := 0, locals := 86 })).room.frames ∧ 86 ≤ (headSpec wsX6_take ({ frames := 2, cells := 0, slots := 0, locals := 86 })).room.locals := ⟨Nat.le_refl _, Nat.le_refl _⟩
  generalize (headSpec wsX6_take ({ frames := 2, cells := 0, slots := 0, locals := 86 })).room = RR at hrm ⊢
  have hl := lv_entry ([.ref (a 0), .int (iN x1)]) (n := 2) (Nat.le_of_ble_eq_true rfl)
  rw [show entryFrame m args 2 = entryFrame m ([.ref (a 0), .int (iN x1)] : List Value).toArray 2 from by rw [hargs], lg_entry_eq]
  generalize (lg_sl ([.ref (a 0), .int (iN x1)]) ++ List.replicate (2 - (lg_sl ([.ref (a 0), .int (iN x1)])).length) Slot.unset).toArray = ls at hl ⊢
  have hl : lv_has ls 2 [(0, .ref (a 0)), (1, .int (iN x1))] := hl
  generalize hQQ : MQ below (qMv (dC, dI) (gw 37 a (cE cI cA a)) (gA 37 a) r) args s 0 0 (gA 37 a) = QQ
  refine lv_aload_n hx hb dX6_take_0 rfl (lv_at hl 0 rfl) ?_
  refine x_get (C := RX6) (T := TX6) (NF := 6) (v := .ref (a 25)) hx hb hts iX6 hown hK hP 0 (by decide) (cE_0 cI cA a (_)) rfl 3 (by decide) fl31 rfl dX6_take_1 ?_
  refine lv_iload_n hx hb dX6_take_4 rfl (lv_at hl 1 rfl) ?_
  obtain ⟨v1, hv1, hf⟩ := bd hf
  refine x_callP (va_runV (As := [.int (iN x1)]) (rest := []) ⟨hx, hb, hml, hown, hts⟩ (kX5_has_25 l dC dI cI cA a σ x1 v1 hv1 hR rx1) (cwV 1 hts gX6_take_X5_has rfl rfl rfl hX5_has_d ⟨Nat.le_trans (by decide) hrm.1, Nat.le_trans (by decide) hrm.2⟩) (pvC 25 (by decide) (cE_25 cI cA a (_)) rfl hP hK hN) rfl rfl hl.1 rfl (lv_room (Nat.le_of_ble_eq_true rfl)) dX6_take_5 ⟨Nat.zero_le _, Nat.zero_le _⟩) (fun rv1 => ?_)
  refine x_if_ne (tgt := 19) hx hb rv1 dX6_take_8 (by decide) (fun c4 => ?_) (fun c4 => ?_)
  · replace hf := (if_neg c4).symm.trans hf
    refine lv_aload_n hx hb dX6_take_19 rfl (lv_at hl 0 rfl) ?_
    refine x_get (C := RX6) (T := TX6) (NF := 6) (v := .ref (a 25)) hx hb hts iX6 hown hK hP 0 (by decide) (cE_0 cI cA a (_)) rfl 3 (by decide) fl31 rfl dX6_take_20 ?_
    refine lv_aload_n hx hb dX6_take_23 rfl (lv_at hl 0 rfl) ?_
    refine x_get (C := RX6) (T := TX6) (NF := 6) (v := .ref (a 21)) hx hb hts iX6 hown hK hP 0 (by decide) (cE_0 cI cA a (_)) rfl 1 (by decide) fl21 rfl dX6_take_24 ?_
    refine lv_iload_n hx hb dX6_take_27 rfl (lv_at hl 1 rfl) ?_
    obtain ⟨v2, σ3, hv2, hf⟩ := bd2 hf
    refine x_callMv (va_runV (As := [.ref (a 21), .int (iN x1)]) (rest := []) ⟨hx, hb, hml, hown, hts⟩ (kX5_copyTo_25_21 l dC dI cI cA a hi σ x1 (v2, σ3) hv2 hR rx1) (cwV 2 hts gX6_take_X5_copyTo rfl rfl rfl hX5_copyTo_d ⟨Nat.le_trans (by decide) hrm.1, Nat.le_trans (by decide) hrm.2⟩) (pvC 25 (by decide) (cE_25 cI cA a (_)) rfl hP hK hN) rfl rfl hl.1 rfl (lv_room (Nat.le_of_ble_eq_true rfl)) dX6_take_28 ⟨Nat.zero_le _, Nat.zero_le _⟩) hS (fun rv2 hRσ3 H locs hP hS => ?_)
    rw [← hQQ]
    exact x_vretM hx hb hr (Option.some.inj hf) hRσ3 hP hS hlocks dX6_take_31
  · replace hf := (if_pos c4).symm.trans hf
    cases hf
