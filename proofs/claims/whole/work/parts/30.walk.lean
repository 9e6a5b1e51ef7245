def fX6_isWorked_0 (σ : Mem) : Option Int := if 0 < (σ 25 3) then some 1 else some 0
set_option maxHeartbeats 4000000 in
set_option maxRecDepth 100000 in
theorem kX6_isWorked_0 (l : Launch) (dC : Nat → ClassId) (dI : Nat → Nat → Nat) (cI : ClassId) (cA : ClassId) (a : Nat → Nat) (σ : Mem) (r : Int) (hf : fX6_isWorked_0 σ  = some r) (hR : Rg σ) : Met l yX6_isWorked wsX6_isWorked ({ frames := 0, cells := 0, slots := 0, locals := 0 }) (va_Pc [.ref (a 0)] (preC dC dI cI cA a σ)) (qP r) 0 0 (fun _ => False) := by
  refine Met.ofW (cc := cX6_isWorked) (maxL := 1) (ret := (some .boolean)) (by decide) rfl ?_
  intro p e s m args below meth c s₁ B hml hv
  obtain ⟨hargs, hP, hK, hN⟩ := hv
  have hx := B.exec
  have hb := B.bytes
  have hr := B.returns
  have hts := atoms_spec (ws := wsX6_isWorked) B.pre
  have hown : s.vm.findClass RX6 = some m.cls := findClass_of_methodNamed B.named
  have hlocks := B.notSynchronized
  have iX5 : ∀ w ∈ wsX50, w ∈ wsX6_isWorked := by decide +kernel
  have iX6 : ∀ w ∈ wsX60, w ∈ wsX6_isWorked := by decide +kernel
  have fl31 := hts (.fieldLink RX6 31 "MatchHall" "stables" "LMatchHall$Stables;") (by decide +kernel)
  have fn105 := va_Nw.use (A := args) rfl (hN (.fieldLinkNest RX6 105 "MatchHall$Stables" "size" "I" "MatchHall") (by decide +kernel))
  have hrm : 0 ≤ (headSpec wsX6_isWorked ({ frames := 0, cells := 0, slots := 0, locals := 0 })).room.frames ∧ 0 ≤ (headSpec wsX6_isWorked ({ frames := 0, cells := 0, slots := 0, locals := 0 })).room.locals := ⟨Nat.le_refl _, Nat.le_refl _⟩
  generalize (headSpec wsX6_isWorked ({ frames := 0, cells := 0, slots := 0, locals := 0 })).room = RR at hrm ⊢
  have hl := lv_entry ([.ref (a 0)]) (n := 1) (Nat.le_of_ble_eq_true rfl)
  rw [show entryFrame m args 1 = entryFrame m ([.ref (a 0)] : List Value).toArray 1 from by rw [hargs], lg_entry_eq]
  generalize (lg_sl ([.ref (a 0)]) ++ List.replicate (1 - (lg_sl ([.ref (a 0)])).length) Slot.unset).toArray = ls at hl ⊢
  have hl : lv_has ls 1 [(0, .ref (a 0))] := hl
  generalize hQQ : MQ below (qP r) args s 0 0 (fun _ => False) = QQ
  refine lv_aload_n hx hb dX6_isWorked_0 rfl (lv_at hl 0 rfl) ?_
  refine x_get (C := RX6) (T := TX6) (NF := 6) (v := .ref (a 25)) hx hb hts iX6 hown hK hP 0 (by decide) (cE_0 cI cA a (_)) rfl 3 (by decide) fl31 rfl dX6_isWorked_1 ?_
  refine x_getN (C := RX5) (T := TX5) (NF := 4) (v := .int (iN (σ 25 3))) hx hb hts iX5 hown hK hP 25 (by decide) (cE_25 cI cA a (_)) rfl 3 (by decide) fn105 rfl dX6_isWorked_4 ?_
  refine x_if_le (tgt := 14) hx hb (hR 25 3) dX6_isWorked_7 (by decide) (fun c1 => ?_) (fun c1 => ?_)
  · replace hf := (if_neg c1).symm.trans hf
    refine lv_iconst (v := iN 0) hx hb dX6_isWorked_14 rfl ?_
    rw [← hQQ]
    exact x_zret hx hb hr (by decide) (Option.some.inj hf) (by decide) hlocks dX6_isWorked_15
  · replace hf := (if_pos c1).symm.trans hf
    refine lv_iconst (v := iN 1) hx hb dX6_isWorked_10 rfl ?_
    refine lv_goto (tgt := 15) hx hb dX6_isWorked_11 (by decide) ?_
    rw [← hQQ]
    exact x_zret hx hb hr (by decide) (Option.some.inj hf) (by decide) hlocks dX6_isWorked_15
def fX6_dropWork_0 (σ : Mem) : Option (Int × Mem) := nx (mup σ 25 3 0) fun σ1 => nx (mup σ1 28 5 0) fun σ2 => some (0, σ2)
set_option maxHeartbeats 4000000 in
set_option maxRecDepth 100000 in
theorem kX6_dropWork_0 (l : Launch) (dC : Nat → ClassId) (dI : Nat → Nat → Nat) (cI : ClassId) (cA : ClassId) (a : Nat → Nat) (hi : ∀ i j, i < 37 → j < 37 → a i = a j → i = j) (σ : Mem) (r : (Int × Mem)) (hf : fX6_dropWork_0 σ  = some r) (hR : Rg σ) : Met l yX6_dropWork wsX6_dropWork ({ frames := 0, cells := 0, slots := 0, locals := 0 }) (va_Pc [.ref (a 0)] (preC dC dI cI cA a σ)) (qMv (dC, dI) (gw 37 a (cE cI cA a)) (gA 37 a) r) 0 0 (gA 37 a) := by
  refine Met.ofW (cc := cX6_dropWork) (maxL := 1) (ret := none) (by decide) rfl ?_
  intro p e s m args below meth c s₁ B hml hv
  obtain ⟨hargs, hP, hK, hN⟩ := hv
  have hx := B.exec
  have hb := B.bytes
  have hr := B.returns
  have hts := atoms_spec (ws := wsX6_dropWork) B.pre
  have hown : s.vm.findClass RX6 = some m.cls := findClass_of_methodNamed B.named
  have hlocks := B.notSynchronized
  have hS : va_S (gA 37 a) s.heap s.heap [] := va_S.rf
  have iX4 : ∀ w ∈ wsX40, w ∈ wsX6_dropWork := by decide +kernel
  have iX5 : ∀ w ∈ wsX50, w ∈ wsX6_dropWork := by decide +kernel
  have iX6 : ∀ w ∈ wsX60, w ∈ wsX6_dropWork := by decide +kernel
  have fl31 := hts (.fieldLink RX6 31 "MatchHall" "stables" "LMatchHall$Stables;") (by decide +kernel)
  have fl40 := hts (.fieldLink RX6 40 "MatchHall" "rotations" "LMatchHall$Rotations;") (by decide +kernel)
  have fn105 := va_Nw.use (A := args) rfl (hN (.fieldLinkNest RX6 105 "MatchHall$Stables" "size" "I" "MatchHall") (by decide +kernel))
  have fn113 := va_Nw.use (A := args) rfl (hN (.fieldLinkNest RX6 113 "MatchHall$Rotations" "size" "I" "MatchHall") (by decide +kernel))
  have hrm : 0 ≤ (headSpec wsX6_dropWork ({ frames := 0, cells := 0, slots := 0, locals := 0 })).room.frames ∧ 0 ≤ (headSpec wsX6_dropWork ({ frames := 0, cells := 0, slots := 0, locals := 0 })).room.locals := ⟨Nat.le_refl _, Nat.le_refl _⟩
  generalize (headSpec wsX6_dropWork ({ frames := 0, cells := 0, slots := 0, locals := 0 })).room = RR at hrm ⊢
  have hl := lv_entry ([.ref (a 0)]) (n := 1) (Nat.le_of_ble_eq_true rfl)
  rw [show entryFrame m args 1 = entryFrame m ([.ref (a 0)] : List Value).toArray 1 from by rw [hargs], lg_entry_eq]
  generalize (lg_sl ([.ref (a 0)]) ++ List.replicate (1 - (lg_sl ([.ref (a 0)])).length) Slot.unset).toArray = ls at hl ⊢
  have hl : lv_has ls 1 [(0, .ref (a 0))] := hl
  generalize hQQ : MQ below (qMv (dC, dI) (gw 37 a (cE cI cA a)) (gA 37 a) r) args s 0 0 (gA 37 a) = QQ
  refine lv_aload_n hx hb dX6_dropWork_0 rfl (lv_at hl 0 rfl) ?_
  refine x_get (C := RX6) (T := TX6) (NF := 6) (v := .ref (a 25)) hx hb hts iX6 hown hK hP 0 (by decide) (cE_0 cI cA a (_)) rfl 3 (by decide) fl31 rfl dX6_dropWork_1 ?_
  refine lv_iconst (v := iN 0) hx hb dX6_dropWork_4 rfl ?_
  obtain ⟨σ1, hσ1, hf⟩ := nxe hf
  refine x_putN (C := RX5) (T := TX5) (NF := 4) (x := 0) (ty := .int) hx hb hts iX5 tyX5 tyX5_ok nmX5 hi hown hK hP hS 25 (by decide) (cE_25 cI cA a (_)) rfl 3 3 (by decide) fn105 rfl (by decide +kernel) rfl rfl (Nat.le_of_ble_eq_true rfl) rfl dX6_dropWork_5 (fun H locs hP hS => ?_)
  rw [← hσ1] at hP
  have hRσ1 : Rg σ1 := by rw [hσ1]; exact Rg_up hR (by decide)
  refine lv_aload_n hx hb dX6_dropWork_8 rfl (lv_at hl 0 rfl) ?_
  refine x_get (C := RX6) (T := TX6) (NF := 6) (v := .ref (a 28)) hx hb hts iX6 hown hK hP 0 (by decide) (cE_0 cI cA a (_)) rfl 4 (by decide) fl40 rfl dX6_dropWork_9 ?_
  refine lv_iconst (v := iN 0) hx hb dX6_dropWork_12 rfl ?_
  obtain ⟨σ2, hσ2, hf⟩ := nxe hf
  refine x_putN (C := RX4) (T := TX4) (NF := 6) (x := 0) (ty := .int) hx hb hts iX4 tyX4 tyX4_ok nmX4 hi hown hK hP hS 28 (by decide) (cE_28 cI cA a (_)) rfl 5 5 (by decide) fn113 rfl (by decide +kernel) rfl rfl (Nat.le_of_ble_eq_true rfl) rfl dX6_dropWork_13 (fun H locs hP hS => ?_)
  rw [← hσ2] at hP
  have hRσ2 : Rg σ2 := by rw [hσ2]; exact Rg_up hRσ1 (by decide)
  rw [← hQQ]
  exact x_vretM hx hb hr (Option.some.inj hf) hRσ2 hP hS hlocks dX6_dropWork_16
def fX1_listsOf_1 (σ : Mem) (x1 : Int) : Option Int := if x1 = 0 then some 2 else if x1 = 1 then some 11 else some (-1)
set_option maxHeartbeats 4000000 in
set_option maxRecDepth 100000 in
theorem kX1_listsOf_1 (l : Launch) (dC : Nat → ClassId) (dI : Nat → Nat → Nat) (cI : ClassId) (cA : ClassId) (a : Nat → Nat) (σ : Mem) (x1 : Int) (r : Int) (hf : fX1_listsOf_1 σ x1 = some r) (hR : Rg σ) (rx1 : rng x1) : Met l yX1_listsOf wsX1_listsOf ({ frames := 0, cells := 0, slots := 0, locals := 0 }) (va_Pc [.ref (a 1), .int (iN x1)] (preC dC dI cI cA a σ)) (qR a r) 0 0 (fun _ => False) := by
  refine Met.ofW (cc := cX1_listsOf) (maxL := 2) (ret := (some (.object "MatchHall$Lists"))) (by decide) rfl ?_
  intro p e s m args below meth c s₁ B hml hv
  obtain ⟨hargs, hP, hK, hN⟩ := hv
  have hx := B.exec
  have hb := B.bytes
  have hr := B.returns
  have hts := atoms_spec (ws := wsX1_listsOf) B.pre
  have hown : s.vm.findClass RX1 = some m.cls := findClass_of_methodNamed B.named
  have hlocks := B.notSynchronized
  have iX1 : ∀ w ∈ wsX10, w ∈ wsX1_listsOf := by decide +kernel
  have fl12 := hts (.fieldLink RX1 12 "MatchHall$Hall" "ofResidents" "LMatchHall$Lists;") (by decide +kernel)
  have fl18 := hts (.fieldLink RX1 18 "MatchHall$Hall" "ofHospitals" "LMatchHall$Lists;") (by decide +kernel)
  have hrm : 0 ≤ (headSpec wsX1_listsOf ({ frames := 0, cells := 0, slots := 0, locals := 0 })).room.frames ∧ 0 ≤ (headSpec wsX1_listsOf ({ frames := 0, cells := 0, slots := 0, locals := 0 })).room.locals := ⟨Nat.le_refl _, Nat.le_refl _⟩
  generalize (headSpec wsX1_listsOf ({ frames := 0, cells := 0, slots := 0, locals := 0 })).room = RR at hrm ⊢
  have hl := lv_entry ([.ref (a 1), .int (iN x1)]) (n := 2) (Nat.le_of_ble_eq_true rfl)
  rw [show entryFrame m args 2 = entryFrame m ([.ref (a 1), .int (iN x1)] : List Value).toArray 2 from by rw [hargs], lg_entry_eq]
  generalize (lg_sl ([.ref (a 1), .int (iN x1)]) ++ List.replicate (2 - (lg_sl ([.ref (a 1), .int (iN x1)])).length) Slot.unset).toArray = ls at hl ⊢
  have hl : lv_has ls 2 [(0, .ref (a 1)), (1, .int (iN x1))] := hl
  generalize hQQ : MQ below (qR a r) args s 0 0 (fun _ => False) = QQ
  refine lv_iload_n hx hb dX1_listsOf_0 rfl (lv_at hl 1 rfl) ?_
  refine x_if_ne (tgt := 9) hx hb rx1 dX1_listsOf_1 (by decide) (fun c2 => ?_) (fun c2 => ?_)
  · replace hf := (if_neg c2).symm.trans hf
    refine lv_iload_n hx hb dX1_listsOf_9 rfl (lv_at hl 1 rfl) ?_
    refine lv_iconst (v := iN 1) hx hb dX1_listsOf_10 rfl ?_
    refine x_icmp_ne (tgt := 21) hx hb rx1 (by decide) dX1_listsOf_11 (by decide) (fun c1 => ?_) (fun c1 => ?_)
    · replace hf := (if_neg c1).symm.trans hf
      refine lv_null hx hb dX1_listsOf_21 ?_
      rw [← hQQ]
      exact x_aret hx hb hr rfl (Option.some.inj hf) hlocks dX1_listsOf_22
    · replace hf := (if_pos c1).symm.trans hf
      refine lv_aload_n hx hb dX1_listsOf_14 rfl (lv_at hl 0 rfl) ?_
      refine x_get (C := RX1) (T := TX1) (NF := 5) (v := .ref (a 11)) hx hb hts iX1 hown hK hP 1 (by decide) (cE_1 cI cA a (_)) rfl 1 (by decide) fl18 rfl dX1_listsOf_15 ?_
      refine lv_goto (tgt := 22) hx hb dX1_listsOf_18 (by decide) ?_
      rw [← hQQ]
      exact x_aret hx hb hr rfl (Option.some.inj hf) hlocks dX1_listsOf_22
  · replace hf := (if_pos c2).symm.trans hf
    refine lv_aload_n hx hb dX1_listsOf_4 rfl (lv_at hl 0 rfl) ?_
    refine x_get (C := RX1) (T := TX1) (NF := 5) (v := .ref (a 2)) hx hb hts iX1 hown hK hP 1 (by decide) (cE_1 cI cA a (_)) rfl 0 (by decide) fl12 rfl dX1_listsOf_5 ?_
    rw [← hQQ]
    exact x_aret hx hb hr rfl (Option.some.inj hf) hlocks dX1_listsOf_8
def fX2_hasOwner_2 (σ : Mem) (x1 : Int) : Option Int := if x1 < 0 then some 0 else if x1 < (σ 2 2) then some 1 else some 0
set_option maxHeartbeats 4000000 in
set_option maxRecDepth 100000 in
theorem kX2_hasOwner_2 (l : Launch) (dC : Nat → ClassId) (dI : Nat → Nat → Nat) (cI : ClassId) (cA : ClassId) (a : Nat → Nat) (σ : Mem) (x1 : Int) (r : Int) (hf : fX2_hasOwner_2 σ x1 = some r) (hR : Rg σ) (rx1 : rng x1) : Met l yX2_hasOwner wsX2_hasOwner ({ frames := 0, cells := 0, slots := 0, locals := 0 }) (va_Pc [.ref (a 2), .int (iN x1)] (preC dC dI cI cA a σ)) (qP r) 0 0 (fun _ => False) := by
  refine Met.ofW (cc := cX2_hasOwner) (maxL := 2) (ret := (some .boolean)) (by decide) rfl ?_
  intro p e s m args below meth c s₁ B hml hv
  obtain ⟨hargs, hP, hK, hN⟩ := hv
  have hx := B.exec
  have hb := B.bytes
  have hr := B.returns
  have hts := atoms_spec (ws := wsX2_hasOwner) B.pre
  have hown : s.vm.findClass RX2 = some m.cls := findClass_of_methodNamed B.named
  have hlocks := B.notSynchronized
  have iX2 : ∀ w ∈ wsX20, w ∈ wsX2_hasOwner := by decide +kernel
  have fl20 := hts (.fieldLink RX2 20 "MatchHall$Lists" "owners" "I") (by decide +kernel)
  have hrm : 0 ≤ (headSpec wsX2_hasOwner ({ frames := 0, cells := 0, slots := 0, locals := 0 })).room.frames ∧ 0 ≤ (headSpec wsX2_hasOwner ({ frames := 0, cells := 0, slots := 0, locals := 0 })).room.locals := ⟨Nat.le_refl _, Nat.le_refl _⟩
  generalize (headSpec wsX2_hasOwner ({ frames := 0, cells := 0, slots := 0, locals := 0 })).room = RR at hrm ⊢
  have hl := lv_entry ([.ref (a 2), .int (iN x1)]) (n := 2) (Nat.le_of_ble_eq_true rfl)
  rw [show entryFrame m args 2 = entryFrame m ([.ref (a 2), .int (iN x1)] : List Value).toArray 2 from by rw [hargs], lg_entry_eq]
  generalize (lg_sl ([.ref (a 2), .int (iN x1)]) ++ List.replicate (2 - (lg_sl ([.ref (a 2), .int (iN x1)])).length) Slot.unset).toArray = ls at hl ⊢
  have hl : lv_has ls 2 [(0, .ref (a 2)), (1, .int (iN x1))] := hl
  generalize hQQ : MQ below (qP r) args s 0 0 (fun _ => False) = QQ
  refine lv_iload_n hx hb dX2_hasOwner_0 rfl (lv_at hl 1 rfl) ?_
  refine x_if_lt (tgt := 16) hx hb rx1 dX2_hasOwner_1 (by decide) (fun c2 => ?_) (fun c2 => ?_)
  · replace hf := (if_pos c2).symm.trans hf
    refine lv_iconst (v := iN 0) hx hb dX2_hasOwner_16 rfl ?_
    rw [← hQQ]
    exact x_zret hx hb hr (by decide) (Option.some.inj hf) (by decide) hlocks dX2_hasOwner_17
  · replace hf := (if_neg c2).symm.trans hf
    refine lv_iload_n hx hb dX2_hasOwner_4 rfl (lv_at hl 1 rfl) ?_
    refine lv_aload_n hx hb dX2_hasOwner_5 rfl (lv_at hl 0 rfl) ?_
    refine x_get (C := RX2) (T := TX2) (NF := 4) (v := .int (iN (σ 2 2))) hx hb hts iX2 hown hK hP 2 (by decide) (cE_2 cI cA a (_)) rfl 2 (by decide) fl20 rfl dX2_hasOwner_6 ?_
    refine x_icmp_ge (tgt := 16) hx hb rx1 (hR 2 2) dX2_hasOwner_9 (by decide) (fun c1 => ?_) (fun c1 => ?_)
    · replace hf := (if_neg c1).symm.trans hf
      refine lv_iconst (v := iN 0) hx hb dX2_hasOwner_16 rfl ?_
      rw [← hQQ]
      exact x_zret hx hb hr (by decide) (Option.some.inj hf) (by decide) hlocks dX2_hasOwner_17
    · replace hf := (if_pos c1).symm.trans hf
      refine lv_iconst (v := iN 1) hx hb dX2_hasOwner_12 rfl ?_
      refine lv_goto (tgt := 17) hx hb dX2_hasOwner_13 (by decide) ?_
      rw [← hQQ]
      exact x_zret hx hb hr (by decide) (Option.some.inj hf) (by decide) hlocks dX2_hasOwner_17
def fX2_at_2_L2 (σ : Mem) (x1 : Int) (x2 : Int) (ex0 : Int → Option Int) : Nat → Int → Option Int
  | 0, _ => none
  | n0 + 1, v1 => if v1 < (σ 2 3) then if x2 < 0 then if rng (v1 + 1) then fX2_at_2_L2 σ x1 x2 ex0 n0 (v1 + 1) else none else if (0 : Int) ≤ x1 ∧ (x1 : Int) < 6 then if (0 : Int) ≤ v1 ∧ (v1 : Int) < 6 then if (σ (4 + x1.toNat) v1) = x2 then some v1 else if rng (v1 + 1) then fX2_at_2_L2 σ x1 x2 ex0 n0 (v1 + 1) else none else none else none else ex0 v1
def fX2_at_2 (σ : Mem) (x1 : Int) (x2 : Int) : Option Int := fX2_at_2_L2 σ x1 x2 (fun v9 => some (-1)) FU 0
set_option maxHeartbeats 4000000 in
set_option maxRecDepth 100000 in
theorem kX2_at_2 (l : Launch) (dC : Nat → ClassId) (dI : Nat → Nat → Nat) (cI : ClassId) (cA : ClassId) (a : Nat → Nat) (σ : Mem) (x1 : Int) (x2 : Int) (r : Int) (hf : fX2_at_2 σ x1 x2 = some r) (hR : Rg σ) (rx1 : rng x1) (rx2 : rng x2) : Met l yX2_at wsX2_at ({ frames := 0, cells := 0, slots := 0, locals := 0 }) (va_Pc [.ref (a 2), .int (iN x1), .int (iN x2)] (preC dC dI cI cA a σ)) (qP r) 0 0 (fun _ => False) := by
  refine Met.ofW (cc := cX2_at) (maxL := 4) (ret := (some .int)) (by decide) rfl ?_
  intro p e s m args below meth c s₁ B hml hv
  obtain ⟨hargs, hP, hK, hN⟩ := hv
  have hx := B.exec
  have hb := B.bytes
  have hr := B.returns
  have hts := atoms_spec (ws := wsX2_at) B.pre
  have hown : s.vm.findClass RX2 = some m.cls := findClass_of_methodNamed B.named
  have hlocks := B.notSynchronized
  have iX2 : ∀ w ∈ wsX20, w ∈ wsX2_at := by decide +kernel
  have fl11 := hts (.fieldLink RX2 11 "MatchHall$Lists" "places" "[[I") (by decide +kernel)
  have fl24 := hts (.fieldLink RX2 24 "MatchHall$Lists" "others" "I") (by decide +kernel)
  have hrm : 0 ≤ (headSpec wsX2_at ({ frames := 0, cells := 0, slots := 0, locals := 0 })).room.frames ∧ 0 ≤ (headSpec wsX2_at ({ frames := 0, cells := 0, slots := 0, locals := 0 })).room.locals := ⟨Nat.le_refl _, Nat.le_refl _⟩
  generalize (headSpec wsX2_at ({ frames := 0, cells := 0, slots := 0, locals := 0 })).room = RR at hrm ⊢
  have hl := lv_entry ([.ref (a 2), .int (iN x1), .int (iN x2)]) (n := 4) (Nat.le_of_ble_eq_true rfl)
  rw [show entryFrame m args 4 = entryFrame m ([.ref (a 2), .int (iN x1), .int (iN x2)] : List Value).toArray 4 from by rw [hargs], lg_entry_eq]
  generalize (lg_sl ([.ref (a 2), .int (iN x1), .int (iN x2)]) ++ List.replicate (4 - (lg_sl ([.ref (a 2), .int (iN x1), .int (iN x2)])).length) Slot.unset).toArray = ls at hl ⊢
  have hl : lv_has ls 4 [(0, .ref (a 2)), (1, .int (iN x1)), (2, .int (iN x2))] := hl
  generalize hQQ : MQ below (qP r) args s 0 0 (fun _ => False) = QQ
  refine lv_iconst (v := iN 0) hx hb dX2_at_0 rfl ?_
  refine lv_istore_n (lv' := [(3, .int (iN 0)), (0, .ref (a 2)), (1, .int (iN x1)), (2, .int (iN x2))]) hx hb dX2_at_1 rfl hl (by decide) rfl (fun ls hl => ?_)
  have L_fX2_at_2_L2 : ∀ (EX0 : Int → Option Int), (∀ (v1 : Int), rng v1 → EX0 v1 = some r → ∀ ls, lv_has ls 4 [(0, .ref (a 2)), (1, .int (iN x1)), (2, .int (iN x2)), (3, .int (iN v1))] → W p l e RR s m args below meth c s.heap [] 0 0 QQ (F0 m 34 ls [])) → ∀ n0 : Nat, ∀ (v1 : Int), rng v1 → fX2_at_2_L2 σ x1 x2 EX0 n0 v1 = some r → ∀ ls, lv_has ls 4 [(0, .ref (a 2)), (1, .int (iN x1)), (2, .int (iN x2)), (3, .int (iN v1))] → W p l e RR s m args below meth c s.heap [] 0 0 QQ (F0 m 2 ls []) := by
    intro EX0 hEX0 n0
    induction n0 with
    | zero => intro _ _ hf; cases hf
    | succ n0 ih0 =>
      intro v1 rv1 hf ls hl
      rw [fX2_at_2_L2] at hf
      refine lv_iload_n hx hb dX2_at_2 rfl (lv_at hl 3 rfl) ?_
      refine lv_aload_n hx hb dX2_at_3 rfl (lv_at hl 0 rfl) ?_
      refine x_get (C := RX2) (T := TX2) (NF := 4) (v := .int (iN (σ 2 3))) hx hb hts iX2 hown hK hP 2 (by decide) (cE_2 cI cA a (_)) rfl 3 (by decide) fl24 rfl dX2_at_4 ?_
      refine x_icmp_ge (tgt := 34) hx hb rv1 (hR 2 3) dX2_at_7 (by decide) (fun c8 => ?_) (fun c8 => ?_)
      · replace hf := (if_neg c8).symm.trans hf
        exact hEX0 _ rv1 hf _ (lv_sub hl [0, 1, 2, 3] rfl)
      · replace hf := (if_pos c8).symm.trans hf
        refine lv_iload_n hx hb dX2_at_10 rfl (lv_at hl 2 rfl) ?_
        refine x_if_lt (tgt := 28) hx hb rx2 dX2_at_11 (by decide) (fun c7 => ?_) (fun c7 => ?_)
        · replace hf := (if_pos c7).symm.trans hf
          obtain ⟨g2, hf⟩ := gd hf
          refine lv_iinc (v := iN (v1 + 1)) (lv' := [(3, .int (iN (v1 + 1))), (0, .ref (a 2)), (1, .int (iN x1)), (2, .int (iN x2))]) hx hb dX2_at_28 hl (k := 3) rfl (iN_add v1 1) (by decide) rfl (fun ls hl => ?_)
          refine lv_goto (tgt := 2) hx hb dX2_at_31 (by decide) ?_
          exact ih0 _ g2 hf _ (lv_sub hl [1, 2, 3, 0] rfl)
        · replace hf := (if_neg c7).symm.trans hf
          refine lv_aload_n hx hb dX2_at_14 rfl (lv_at hl 0 rfl) ?_
          refine x_get (C := RX2) (T := TX2) (NF := 4) (v := .ref (a 3)) hx hb hts iX2 hown hK hP 2 (by decide) (cE_2 cI cA a (_)) rfl 0 (by decide) fl11 rfl dX2_at_15 ?_
          refine lv_iload_n hx hb dX2_at_18 rfl (lv_at hl 1 rfl) ?_
          obtain ⟨g3, hf⟩ := gd hf
          refine x_aald hx hb hK hP 3 1 (by decide) (cE_3 cI cA a (_)) (by decide) rfl g3 (row_f4 a g3) dX2_at_19 ?_
          refine lv_iload_n hx hb dX2_at_20 rfl (lv_at hl 3 rfl) ?_
          obtain ⟨g4, hf⟩ := gd hf
          refine x_iald hx hb hK hP (4 + x1.toNat) 0 (row_lt4 g3) (cE_row4 cI cA a g3 _) (by decide) rfl g4 dX2_at_21 ?_
          refine lv_iload_n hx hb dX2_at_22 rfl (lv_at hl 2 rfl) ?_
          refine x_icmp_ne (tgt := 28) hx hb (hR (4 + x1.toNat) v1) rx2 dX2_at_23 (by decide) (fun c6 => ?_) (fun c6 => ?_)
          · replace hf := (if_neg c6).symm.trans hf
            obtain ⟨g5, hf⟩ := gd hf
            refine lv_iinc (v := iN (v1 + 1)) (lv' := [(3, .int (iN (v1 + 1))), (0, .ref (a 2)), (1, .int (iN x1)), (2, .int (iN x2))]) hx hb dX2_at_28 hl (k := 3) rfl (iN_add v1 1) (by decide) rfl (fun ls hl => ?_)
            refine lv_goto (tgt := 2) hx hb dX2_at_31 (by decide) ?_
            exact ih0 _ g5 hf _ (lv_sub hl [1, 2, 3, 0] rfl)
          · replace hf := (if_pos c6).symm.trans hf
            refine lv_iload_n hx hb dX2_at_26 rfl (lv_at hl 3 rfl) ?_
            rw [← hQQ]
            exact x_iret hx hb hr (Option.some.inj hf) rv1 hlocks dX2_at_27
  refine L_fX2_at_2_L2 _ (fun v9 rv9 hf ls hl => ?_) _ _ (by decide) hf _ (lv_sub hl [1, 2, 3, 0] rfl)
  refine lv_iconst (v := iN (-1)) hx hb dX2_at_34 rfl ?_
  rw [← hQQ]
  exact x_iret hx hb hr (Option.some.inj hf) (by decide) hlocks dX2_at_35
def fX2_hasOwner_11 (σ : Mem) (x1 : Int) : Option Int := if x1 < 0 then some 0 else if x1 < (σ 11 2) then some 1 else some 0
set_option maxHeartbeats 4000000 in
set_option maxRecDepth 100000 in
theorem kX2_hasOwner_11 (l : Launch) (dC : Nat → ClassId) (dI : Nat → Nat → Nat) (cI : ClassId) (cA : ClassId) (a : Nat → Nat) (σ : Mem) (x1 : Int) (r : Int) (hf : fX2_hasOwner_11 σ x1 = some r) (hR : Rg σ) (rx1 : rng x1) : Met l yX2_hasOwner wsX2_hasOwner ({ frames := 0, cells := 0, slots := 0, locals := 0 }) (va_Pc [.ref (a 11), .int (iN x1)] (preC dC dI cI cA a σ)) (qP r) 0 0 (fun _ => False) := by
  refine Met.ofW (cc := cX2_hasOwner) (maxL := 2) (ret := (some .boolean)) (by decide) rfl ?_
  intro p e s m args below meth c s₁ B hml hv
  obtain ⟨hargs, hP, hK, hN⟩ := hv
  have hx := B.exec
  have hb := B.bytes
  have hr := B.returns
  have hts := atoms_spec (ws := wsX2_hasOwner) B.pre
  have hown : s.vm.findClass RX2 = some m.cls := findClass_of_methodNamed B.named
  have hlocks := B.notSynchronized
  have iX2 : ∀ w ∈ wsX20, w ∈ wsX2_hasOwner := by decide +kernel
  have fl20 := hts (.fieldLink RX2 20 "MatchHall$Lists" "owners" "I") (by decide +kernel)
  have hrm : 0 ≤ (headSpec wsX2_hasOwner ({ frames := 0, cells := 0, slots := 0, locals := 0 })).room.frames ∧ 0 ≤ (headSpec wsX2_hasOwner ({ frames := 0, cells := 0, slots := 0, locals := 0 })).room.locals := ⟨Nat.le_refl _, Nat.le_refl _⟩
  generalize (headSpec wsX2_hasOwner ({ frames := 0, cells := 0, slots := 0, locals := 0 })).room = RR at hrm ⊢
  have hl := lv_entry ([.ref (a 11), .int (iN x1)]) (n := 2) (Nat.le_of_ble_eq_true rfl)
  rw [show entryFrame m args 2 = entryFrame m ([.ref (a 11), .int (iN x1)] : List Value).toArray 2 from by rw [hargs], lg_entry_eq]
  generalize (lg_sl ([.ref (a 11), .int (iN x1)]) ++ List.replicate (2 - (lg_sl ([.ref (a 11), .int (iN x1)])).length) Slot.unset).toArray = ls at hl ⊢
  have hl : lv_has ls 2 [(0, .ref (a 11)), (1, .int (iN x1))] := hl
  generalize hQQ : MQ below (qP r) args s 0 0 (fun _ => False) = QQ
  refine lv_iload_n hx hb dX2_hasOwner_0 rfl (lv_at hl 1 rfl) ?_
  refine x_if_lt (tgt := 16) hx hb rx1 dX2_hasOwner_1 (by decide) (fun c2 => ?_) (fun c2 => ?_)
  · replace hf := (if_pos c2).symm.trans hf
    refine lv_iconst (v := iN 0) hx hb dX2_hasOwner_16 rfl ?_
    rw [← hQQ]
    exact x_zret hx hb hr (by decide) (Option.some.inj hf) (by decide) hlocks dX2_hasOwner_17
  · replace hf := (if_neg c2).symm.trans hf
    refine lv_iload_n hx hb dX2_hasOwner_4 rfl (lv_at hl 1 rfl) ?_
    refine lv_aload_n hx hb dX2_hasOwner_5 rfl (lv_at hl 0 rfl) ?_
    refine x_get (C := RX2) (T := TX2) (NF := 4) (v := .int (iN (σ 11 2))) hx hb hts iX2 hown hK hP 11 (by decide) (cE_11 cI cA a (_)) rfl 2 (by decide) fl20 rfl dX2_hasOwner_6 ?_
    refine x_icmp_ge (tgt := 16) hx hb rx1 (hR 11 2) dX2_hasOwner_9 (by decide) (fun c1 => ?_) (fun c1 => ?_)
    · replace hf := (if_neg c1).symm.trans hf
      refine lv_iconst (v := iN 0) hx hb dX2_hasOwner_16 rfl ?_
      rw [← hQQ]
      exact x_zret hx hb hr (by decide) (Option.some.inj hf) (by decide) hlocks dX2_hasOwner_17
    · replace hf := (if_pos c1).symm.trans hf
      refine lv_iconst (v := iN 1) hx hb dX2_hasOwner_12 rfl ?_
      refine lv_goto (tgt := 17) hx hb dX2_hasOwner_13 (by decide) ?_
      rw [← hQQ]
      exact x_zret hx hb hr (by decide) (Option.some.inj hf) (by decide) hlocks dX2_hasOwner_17
def fX2_at_11_L2 (σ : Mem) (x1 : Int) (x2 : Int) (ex0 : Int → Option Int) : Nat → Int → Option Int
  | 0, _ => none
  | n0 + 1, v1 => if v1 < (σ 11 3) then if x2 < 0 then if rng (v1 + 1) then fX2_at_11_L2 σ x1 x2 ex0 n0 (v1 + 1) else none else if (0 : Int) ≤ x1 ∧ (x1 : Int) < 6 then if (0 : Int) ≤ v1 ∧ (v1 : Int) < 6 then if (σ (13 + x1.toNat) v1) = x2 then some v1 else if rng (v1 + 1) then fX2_at_11_L2 σ x1 x2 ex0 n0 (v1 + 1) else none else none else none else ex0 v1
def fX2_at_11 (σ : Mem) (x1 : Int) (x2 : Int) : Option Int := fX2_at_11_L2 σ x1 x2 (fun v9 => some (-1)) FU 0
set_option maxHeartbeats 4000000 in
set_option maxRecDepth 100000 in
theorem kX2_at_11 (l : Launch) (dC : Nat → ClassId) (dI : Nat → Nat → Nat) (cI : ClassId) (cA : ClassId) (a : Nat → Nat) (σ : Mem) (x1 : Int) (x2 : Int) (r : Int) (hf : fX2_at_11 σ x1 x2 = some r) (hR : Rg σ) (rx1 : rng x1) (rx2 : rng x2) : Met l yX2_at wsX2_at ({ frames := 0, cells := 0, slots := 0, locals := 0 }) (va_Pc [.ref (a 11), .int (iN x1), .int (iN x2)] (preC dC dI cI cA a σ)) (qP r) 0 0 (fun _ => False) := by
  refine Met.ofW (cc := cX2_at) (maxL := 4) (ret := (some .int)) (by decide) rfl ?_
  intro p e s m args below meth c s₁ B hml hv
  obtain ⟨hargs, hP, hK, hN⟩ := hv
  have hx := B.exec
  have hb := B.bytes
  have hr := B.returns
  have hts := atoms_spec (ws := wsX2_at) B.pre
  have hown : s.vm.findClass RX2 = some m.cls := findClass_of_methodNamed B.named
  have hlocks := B.notSynchronized
  have iX2 : ∀ w ∈ wsX20, w ∈ wsX2_at := by decide +kernel
  have fl11 := hts (.fieldLink RX2 11 "MatchHall$Lists" "places" "[[I") (by decide +kernel)
  have fl24 := hts (.fieldLink RX2 24 "MatchHall$Lists" "others" "I") (by decide +kernel)
  have hrm : 0 ≤ (headSpec wsX2_at ({ frames := 0, cells := 0, slots := 0, locals := 0 })).room.frames ∧ 0 ≤ (headSpec wsX2_at ({ frames := 0, cells := 0, slots := 0, locals := 0 })).room.locals := ⟨Nat.le_refl _, Nat.le_refl _⟩
  generalize (headSpec wsX2_at ({ frames := 0, cells := 0, slots := 0, locals := 0 })).room = RR at hrm ⊢
  have hl := lv_entry ([.ref (a 11), .int (iN x1), .int (iN x2)]) (n := 4) (Nat.le_of_ble_eq_true rfl)
  rw [show entryFrame m args 4 = entryFrame m ([.ref (a 11), .int (iN x1), .int (iN x2)] : List Value).toArray 4 from by rw [hargs], lg_entry_eq]
  generalize (lg_sl ([.ref (a 11), .int (iN x1), .int (iN x2)]) ++ List.replicate (4 - (lg_sl ([.ref (a 11), .int (iN x1), .int (iN x2)])).length) Slot.unset).toArray = ls at hl ⊢
  have hl : lv_has ls 4 [(0, .ref (a 11)), (1, .int (iN x1)), (2, .int (iN x2))] := hl
  generalize hQQ : MQ below (qP r) args s 0 0 (fun _ => False) = QQ
  refine lv_iconst (v := iN 0) hx hb dX2_at_0 rfl ?_
  refine lv_istore_n (lv' := [(3, .int (iN 0)), (0, .ref (a 11)), (1, .int (iN x1)), (2, .int (iN x2))]) hx hb dX2_at_1 rfl hl (by decide) rfl (fun ls hl => ?_)
  have L_fX2_at_11_L2 : ∀ (EX0 : Int → Option Int), (∀ (v1 : Int), rng v1 → EX0 v1 = some r → ∀ ls, lv_has ls 4 [(0, .ref (a 11)), (1, .int (iN x1)), (2, .int (iN x2)), (3, .int (iN v1))] → W p l e RR s m args below meth c s.heap [] 0 0 QQ (F0 m 34 ls [])) → ∀ n0 : Nat, ∀ (v1 : Int), rng v1 → fX2_at_11_L2 σ x1 x2 EX0 n0 v1 = some r → ∀ ls, lv_has ls 4 [(0, .ref (a 11)), (1, .int (iN x1)), (2, .int (iN x2)), (3, .int (iN v1))] → W p l e RR s m args below meth c s.heap [] 0 0 QQ (F0 m 2 ls []) := by
    intro EX0 hEX0 n0
    induction n0 with
    | zero => intro _ _ hf; cases hf
    | succ n0 ih0 =>
      intro v1 rv1 hf ls hl
      rw [fX2_at_11_L2] at hf
      refine lv_iload_n hx hb dX2_at_2 rfl (lv_at hl 3 rfl) ?_
      refine lv_aload_n hx hb dX2_at_3 rfl (lv_at hl 0 rfl) ?_
      refine x_get (C := RX2) (T := TX2) (NF := 4) (v := .int (iN (σ 11 3))) hx hb hts iX2 hown hK hP 11 (by decide) (cE_11 cI cA a (_)) rfl 3 (by decide) fl24 rfl dX2_at_4 ?_
      refine x_icmp_ge (tgt := 34) hx hb rv1 (hR 11 3) dX2_at_7 (by decide) (fun c8 => ?_) (fun c8 => ?_)
      · replace hf := (if_neg c8).symm.trans hf
        exact hEX0 _ rv1 hf _ (lv_sub hl [0, 1, 2, 3] rfl)
      · replace hf := (if_pos c8).symm.trans hf
        refine lv_iload_n hx hb dX2_at_10 rfl (lv_at hl 2 rfl) ?_
        refine x_if_lt (tgt := 28) hx hb rx2 dX2_at_11 (by decide) (fun c7 => ?_) (fun c7 => ?_)
        · replace hf := (if_pos c7).symm.trans hf
          obtain ⟨g2, hf⟩ := gd hf
          refine lv_iinc (v := iN (v1 + 1)) (lv' := [(3, .int (iN (v1 + 1))), (0, .ref (a 11)), (1, .int (iN x1)), (2, .int (iN x2))]) hx hb dX2_at_28 hl (k := 3) rfl (iN_add v1 1) (by decide) rfl (fun ls hl => ?_)
          refine lv_goto (tgt := 2) hx hb dX2_at_31 (by decide) ?_
          exact ih0 _ g2 hf _ (lv_sub hl [1, 2, 3, 0] rfl)
        · replace hf := (if_neg c7).symm.trans hf
          refine lv_aload_n hx hb dX2_at_14 rfl (lv_at hl 0 rfl) ?_
          refine x_get (C := RX2) (T := TX2) (NF := 4) (v := .ref (a 12)) hx hb hts iX2 hown hK hP 11 (by decide) (cE_11 cI cA a (_)) rfl 0 (by decide) fl11 rfl dX2_at_15 ?_
          refine lv_iload_n hx hb dX2_at_18 rfl (lv_at hl 1 rfl) ?_
          obtain ⟨g3, hf⟩ := gd hf
          refine x_aald hx hb hK hP 12 1 (by decide) (cE_12 cI cA a (_)) (by decide) rfl g3 (row_f13 a g3) dX2_at_19 ?_
          refine lv_iload_n hx hb dX2_at_20 rfl (lv_at hl 3 rfl) ?_
          obtain ⟨g4, hf⟩ := gd hf
          refine x_iald hx hb hK hP (13 + x1.toNat) 0 (row_lt13 g3) (cE_row13 cI cA a g3 _) (by decide) rfl g4 dX2_at_21 ?_
          refine lv_iload_n hx hb dX2_at_22 rfl (lv_at hl 2 rfl) ?_
          refine x_icmp_ne (tgt := 28) hx hb (hR (13 + x1.toNat) v1) rx2 dX2_at_23 (by decide) (fun c6 => ?_) (fun c6 => ?_)
          · replace hf := (if_neg c6).symm.trans hf
            obtain ⟨g5, hf⟩ := gd hf
            refine lv_iinc (v := iN (v1 + 1)) (lv' := [(3, .int (iN (v1 + 1))), (0, .ref (a 11)), (1, .int (iN x1)), (2, .int (iN x2))]) hx hb dX2_at_28 hl (k := 3) rfl (iN_add v1 1) (by decide) rfl (fun ls hl => ?_)
            refine lv_goto (tgt := 2) hx hb dX2_at_31 (by decide) ?_
            exact ih0 _ g5 hf _ (lv_sub hl [1, 2, 3, 0] rfl)
          · replace hf := (if_pos c6).symm.trans hf
            refine lv_iload_n hx hb dX2_at_26 rfl (lv_at hl 3 rfl) ?_
            rw [← hQQ]
            exact x_iret hx hb hr (Option.some.inj hf) rv1 hlocks dX2_at_27
  refine L_fX2_at_11_L2 _ (fun v9 rv9 hf ls hl => ?_) _ _ (by decide) hf _ (lv_sub hl [1, 2, 3, 0] rfl)
  refine lv_iconst (v := iN (-1)) hx hb dX2_at_34 rfl ?_
  rw [← hQQ]
  exact x_iret hx hb hr (Option.some.inj hf) (by decide) hlocks dX2_at_35
def fX6_listed_0 (σ : Mem) (x1 : Int) (x2 : Int) (x3 : Int) : Option Int := (fX1_listsOf_1 σ x1).bind fun v1 => if v1 = 2 then (fX2_hasOwner_2 σ x2).bind fun v3 => if v3 = 0 then some (-1) else (fX2_at_2 σ x2 x3).bind fun v4 => some v4 else if v1 = 11 then (fX2_hasOwner_11 σ x2).bind fun v7 => if v7 = 0 then some (-1) else (fX2_at_11 σ x2 x3).bind fun v8 => some v8 else if v1 = (-1) then some (-1) else none
set_option maxHeartbeats 4000000 in
set_option maxRecDepth 100000 in
theorem kX6_listed_0 (l : Launch) (dC : Nat → ClassId) (dI : Nat → Nat → Nat) (cI : ClassId) (cA : ClassId) (a : Nat → Nat) (σ : Mem) (x1 : Int) (x2 : Int) (x3 : Int) (r : Int) (hf : fX6_listed_0 σ x1 x2 x3 = some r) (hR : Rg σ) (rx1 : rng x1) (rx2 : rng x2) (rx3 : rng x3) : Met l yX6_listed wsX6_listed ({ frames := 1, cells := 0, slots := 0, locals := 23 }) (va_Pc [.ref (a 0), .int (iN x1), .int (iN x2), .int (iN x3)] (preC dC dI cI cA a σ)) (qP r) 0 0 (fun _ => False) := by
  refine Met.ofW (cc := cX6_listed) (maxL := 5) (ret := (some .int)) (by decide) rfl ?_
  intro p e s m args below meth c s₁ B hml hv
  obtain ⟨hargs, hP, hK, hN⟩ := hv
  have hx := B.exec
  have hb := B.bytes
  have hr := B.returns
  have hts := atoms_spec (ws := wsX6_listed) B.pre
  have hown : s.vm.findClass RX6 = some m.cls := findClass_of_methodNamed B.named
  have hlocks := B.notSynchronized
  have iX6 : ∀ w ∈ wsX60, w ∈ wsX6_listed := by decide +kernel
  have fl12 := hts (.fieldLink RX6 12 "MatchHall" "hall" "LMatchHall$Hall;") (by decide +kernel)
  have hrm : 1 ≤ (headSpec wsX6_listed ({ frames := 1, cells := 0, slots := 0, locals := 23 })).room.frames ∧ 23 ≤ (headSpec wsX6_listed ({ frames := 1, cells := 0, slots := 0, locals := 23 })).room.locals := ⟨Nat.le_refl _, Nat.le_refl _⟩
  generalize (headSpec wsX6_listed ({ frames := 1, cells := 0, slots := 0, locals := 23 })).room = RR at hrm ⊢
  have hl := lv_entry ([.ref (a 0), .int (iN x1), .int (iN x2), .int (iN x3)]) (n := 5) (Nat.le_of_ble_eq_true rfl)
  rw [show entryFrame m args 5 = entryFrame m ([.ref (a 0), .int (iN x1), .int (iN x2), .int (iN x3)] : List Value).toArray 5 from by rw [hargs], lg_entry_eq]
  generalize (lg_sl ([.ref (a 0), .int (iN x1), .int (iN x2), .int (iN x3)]) ++ List.replicate (5 - (lg_sl ([.ref (a 0), .int (iN x1), .int (iN x2), .int (iN x3)])).length) Slot.unset).toArray = ls at hl ⊢
  have hl : lv_has ls 5 [(0, .ref (a 0)), (1, .int (iN x1)), (2, .int (iN x2)), (3, .int (iN x3))] := hl
  generalize hQQ : MQ below (qP r) args s 0 0 (fun _ => False) = QQ
  refine lv_aload_n hx hb dX6_listed_0 rfl (lv_at hl 0 rfl) ?_
  refine x_get (C := RX6) (T := TX6) (NF := 6) (v := .ref (a 1)) hx hb hts iX6 hown hK hP 0 (by decide) (cE_0 cI cA a (_)) rfl 0 (by decide) fl12 rfl dX6_listed_1 ?_
  refine lv_iload_n hx hb dX6_listed_4 rfl (lv_at hl 1 rfl) ?_
  obtain ⟨v1, hv1, hf⟩ := bd hf
  by_cases c2 : v1 = 2
  · replace hf := (if_pos c2).symm.trans hf
    subst c2
    refine x_callR (va_runV (As := [.int (iN x1)]) (rest := []) ⟨hx, hb, hml, hown, hts⟩ (kX1_listsOf_1 l dC dI cI cA a σ x1 2 hv1 hR rx1) (cwV 1 hts gX6_listed_X1_listsOf rfl rfl rfl hX1_listsOf_d ⟨Nat.le_trans (by decide) hrm.1, Nat.le_trans (by decide) hrm.2⟩) (pvC 1 (by decide) (cE_1 cI cA a (_)) rfl hP hK hN) rfl rfl hl.1 rfl (lv_room (Nat.le_of_ble_eq_true rfl)) dX6_listed_5 ⟨Nat.zero_le _, Nat.zero_le _⟩) ?_
    refine W.eq (g2 := F0 m 8 ls [.ref (a 2)]) rfl ?_
    refine lv_astore (lv' := [(4, .ref (a 2)), (0, .ref (a 0)), (1, .int (iN x1)), (2, .int (iN x2)), (3, .int (iN x3))]) hx hb dX6_listed_8 hl (by decide) rfl (fun ls hl => ?_)
    refine lv_aload hx hb dX6_listed_10 (lv_at hl 0 rfl) ?_
    refine lv_ifnull hx hb dX6_listed_12 ?_
    refine lv_aload hx hb dX6_listed_15 (lv_at hl 0 rfl) ?_
    refine lv_iload_n hx hb dX6_listed_17 rfl (lv_at hl 3 rfl) ?_
    obtain ⟨v3, hv3, hf⟩ := bd hf
    refine x_callP (va_runV (As := [.int (iN x2)]) (rest := []) ⟨hx, hb, hml, hown, hts⟩ (kX2_hasOwner_2 l dC dI cI cA a σ x2 v3 hv3 hR rx2) (cwV 1 hts gX6_listed_X2_hasOwner rfl rfl rfl hX2_hasOwner_d ⟨Nat.le_trans (by decide) hrm.1, Nat.le_trans (by decide) hrm.2⟩) (pvC 2 (by decide) (cE_2 cI cA a (_)) rfl hP hK hN) rfl rfl hl.1 rfl (lv_room (Nat.le_of_ble_eq_true rfl)) dX6_listed_18 ⟨Nat.zero_le _, Nat.zero_le _⟩) (fun rv3 => ?_)
    refine x_if_ne (tgt := 26) hx hb rv3 dX6_listed_21 (by decide) (fun c5 => ?_) (fun c5 => ?_)
    · replace hf := (if_neg c5).symm.trans hf
      refine lv_aload hx hb dX6_listed_26 (lv_at hl 0 rfl) ?_
      refine lv_iload_n hx hb dX6_listed_28 rfl (lv_at hl 3 rfl) ?_
      refine lv_iload_n hx hb dX6_listed_29 rfl (lv_at hl 4 rfl) ?_
      obtain ⟨v4, hv4, hf⟩ := bd hf
      refine x_callP (va_runV (As := [.int (iN x2), .int (iN x3)]) (rest := []) ⟨hx, hb, hml, hown, hts⟩ (kX2_at_2 l dC dI cI cA a σ x2 x3 v4 hv4 hR rx2 rx3) (cwV 2 hts gX6_listed_X2_at rfl rfl rfl hX2_at_d ⟨Nat.le_trans (by decide) hrm.1, Nat.le_trans (by decide) hrm.2⟩) (pvC 2 (by decide) (cE_2 cI cA a (_)) rfl hP hK hN) rfl rfl hl.1 rfl (lv_room (Nat.le_of_ble_eq_true rfl)) dX6_listed_30 ⟨Nat.zero_le _, Nat.zero_le _⟩) (fun rv4 => ?_)
      rw [← hQQ]
      exact x_iret hx hb hr (Option.some.inj hf) rv4 hlocks dX6_listed_33
    · replace hf := (if_pos c5).symm.trans hf
      refine lv_iconst (v := iN (-1)) hx hb dX6_listed_24 rfl ?_
      rw [← hQQ]
      exact x_iret hx hb hr (Option.some.inj hf) (by decide) hlocks dX6_listed_25
  · replace hf := (if_neg c2).symm.trans hf
    by_cases c6 : v1 = 11
    · replace hf := (if_pos c6).symm.trans hf
      subst c6
      refine x_callR (va_runV (As := [.int (iN x1)]) (rest := []) ⟨hx, hb, hml, hown, hts⟩ (kX1_listsOf_1 l dC dI cI cA a σ x1 11 hv1 hR rx1) (cwV 1 hts gX6_listed_X1_listsOf rfl rfl rfl hX1_listsOf_d ⟨Nat.le_trans (by decide) hrm.1, Nat.le_trans (by decide) hrm.2⟩) (pvC 1 (by decide) (cE_1 cI cA a (_)) rfl hP hK hN) rfl rfl hl.1 rfl (lv_room (Nat.le_of_ble_eq_true rfl)) dX6_listed_5 ⟨Nat.zero_le _, Nat.zero_le _⟩) ?_
      refine W.eq (g2 := F0 m 8 ls [.ref (a 11)]) rfl ?_
      refine lv_astore (lv' := [(4, .ref (a 11)), (0, .ref (a 0)), (1, .int (iN x1)), (2, .int (iN x2)), (3, .int (iN x3))]) hx hb dX6_listed_8 hl (by decide) rfl (fun ls hl => ?_)
      refine lv_aload hx hb dX6_listed_10 (lv_at hl 0 rfl) ?_
      refine lv_ifnull hx hb dX6_listed_12 ?_
      refine lv_aload hx hb dX6_listed_15 (lv_at hl 0 rfl) ?_
      refine lv_iload_n hx hb dX6_listed_17 rfl (lv_at hl 3 rfl) ?_
      obtain ⟨v7, hv7, hf⟩ := bd hf
      refine x_callP (va_runV (As := [.int (iN x2)]) (rest := []) ⟨hx, hb, hml, hown, hts⟩ (kX2_hasOwner_11 l dC dI cI cA a σ x2 v7 hv7 hR rx2) (cwV 1 hts gX6_listed_X2_hasOwner rfl rfl rfl hX2_hasOwner_d ⟨Nat.le_trans (by decide) hrm.1, Nat.le_trans (by decide) hrm.2⟩) (pvC 11 (by decide) (cE_11 cI cA a (_)) rfl hP hK hN) rfl rfl hl.1 rfl (lv_room (Nat.le_of_ble_eq_true rfl)) dX6_listed_18 ⟨Nat.zero_le _, Nat.zero_le _⟩) (fun rv7 => ?_)
      refine x_if_ne (tgt := 26) hx hb rv7 dX6_listed_21 (by decide) (fun c9 => ?_) (fun c9 => ?_)
      · replace hf := (if_neg c9).symm.trans hf
        refine lv_aload hx hb dX6_listed_26 (lv_at hl 0 rfl) ?_
        refine lv_iload_n hx hb dX6_listed_28 rfl (lv_at hl 3 rfl) ?_
        refine lv_iload_n hx hb dX6_listed_29 rfl (lv_at hl 4 rfl) ?_
        obtain ⟨v8, hv8, hf⟩ := bd hf
        refine x_callP (va_runV (As := [.int (iN x2), .int (iN x3)]) (rest := []) ⟨hx, hb, hml, hown, hts⟩ (kX2_at_11 l dC dI cI cA a σ x2 x3 v8 hv8 hR rx2 rx3) (cwV 2 hts gX6_listed_X2_at rfl rfl rfl hX2_at_d ⟨Nat.le_trans (by decide) hrm.1, Nat.le_trans (by decide) hrm.2⟩) (pvC 11 (by decide) (cE_11 cI cA a (_)) rfl hP hK hN) rfl rfl hl.1 rfl (lv_room (Nat.le_of_ble_eq_true rfl)) dX6_listed_30 ⟨Nat.zero_le _, Nat.zero_le _⟩) (fun rv8 => ?_)
        rw [← hQQ]
        exact x_iret hx hb hr (Option.some.inj hf) rv8 hlocks dX6_listed_33
      · replace hf := (if_pos c9).symm.trans hf
        refine lv_iconst (v := iN (-1)) hx hb dX6_listed_24 rfl ?_
        rw [← hQQ]
        exact x_iret hx hb hr (Option.some.inj hf) (by decide) hlocks dX6_listed_25
    · replace hf := (if_neg c6).symm.trans hf
      by_cases c10 : v1 = (-1)
      · replace hf := (if_pos c10).symm.trans hf
        subst c10
        refine x_callR (va_runV (As := [.int (iN x1)]) (rest := []) ⟨hx, hb, hml, hown, hts⟩ (kX1_listsOf_1 l dC dI cI cA a σ x1 (-1) hv1 hR rx1) (cwV 1 hts gX6_listed_X1_listsOf rfl rfl rfl hX1_listsOf_d ⟨Nat.le_trans (by decide) hrm.1, Nat.le_trans (by decide) hrm.2⟩) (pvC 1 (by decide) (cE_1 cI cA a (_)) rfl hP hK hN) rfl rfl hl.1 rfl (lv_room (Nat.le_of_ble_eq_true rfl)) dX6_listed_5 ⟨Nat.zero_le _, Nat.zero_le _⟩) ?_
        refine W.eq (g2 := F0 m 8 ls [.null]) rfl ?_
        refine lv_astoreN (lv' := [(4, .null), (0, .ref (a 0)), (1, .int (iN x1)), (2, .int (iN x2)), (3, .int (iN x3))]) hx hb dX6_listed_8 hl (by decide) rfl (fun ls hl => ?_)
        refine lv_aloadN hx hb dX6_listed_10 (lv_at hl 0 rfl) ?_
        refine lv_ifnullN (tgt := 24) hx hb dX6_listed_12 (by decide) ?_
        refine lv_iconst (v := iN (-1)) hx hb dX6_listed_24 rfl ?_
        rw [← hQQ]
        exact x_iret hx hb hr (Option.some.inj hf) (by decide) hlocks dX6_listed_25
      · replace hf := (if_neg c10).symm.trans hf
        cases hf
def fX2_canAdd_2 (σ : Mem) (x1 : Int) (x2 : Int) : Option Int := (fX2_hasOwner_2 σ x1).bind fun v1 => if v1 = 0 then some 0 else if x2 < 0 then some 0 else if x2 < (σ 2 3) then if (0 : Int) ≤ x1 ∧ (x1 : Int) < 6 then if (0 : Int) ≤ x2 ∧ (x2 : Int) < 6 then if (σ (4 + x1.toNat) x2) = (-1) then some 1 else some 0 else none else none else some 0
set_option maxHeartbeats 4000000 in
set_option maxRecDepth 100000 in
theorem kX2_canAdd_2 (l : Launch) (dC : Nat → ClassId) (dI : Nat → Nat → Nat) (cI : ClassId) (cA : ClassId) (a : Nat → Nat) (σ : Mem) (x1 : Int) (x2 : Int) (r : Int) (hf : fX2_canAdd_2 σ x1 x2 = some r) (hR : Rg σ) (rx1 : rng x1) (rx2 : rng x2) : Met l yX2_canAdd wsX2_canAdd ({ frames := 1, cells := 0, slots := 0, locals := 21 }) (va_Pc [.ref (a 2), .int (iN x1), .int (iN x2)] (preC dC dI cI cA a σ)) (qP r) 0 0 (fun _ => False) := by
  refine Met.ofW (cc := cX2_canAdd) (maxL := 3) (ret := (some .boolean)) (by decide) rfl ?_
  intro p e s m args below meth c s₁ B hml hv
  obtain ⟨hargs, hP, hK, hN⟩ := hv
  have hx := B.exec
  have hb := B.bytes
  have hr := B.returns
  have hts := atoms_spec (ws := wsX2_canAdd) B.pre
  have hown : s.vm.findClass RX2 = some m.cls := findClass_of_methodNamed B.named
  have hlocks := B.notSynchronized
  have iX2 : ∀ w ∈ wsX20, w ∈ wsX2_canAdd := by decide +kernel
  have fl11 := hts (.fieldLink RX2 11 "MatchHall$Lists" "places" "[[I") (by decide +kernel)
  have fl24 := hts (.fieldLink RX2 24 "MatchHall$Lists" "others" "I") (by decide +kernel)
  have hrm : 1 ≤ (headSpec wsX2_canAdd ({ frames := 1, cells := 0, slots := 0, locals := 21 })).room.frames ∧ 21 ≤ (headSpec wsX2_canAdd ({ frames := 1, cells := 0, slots := 0, locals := 21 })).room.locals := ⟨Nat.le_refl _, Nat.le_refl _⟩
  generalize (headSpec wsX2_canAdd ({ frames := 1, cells := 0, slots := 0, locals := 21 })).room = RR at hrm ⊢
  have hl := lv_entry ([.ref (a 2), .int (iN x1), .int (iN x2)]) (n := 3) (Nat.le_of_ble_eq_true rfl)
  rw [show entryFrame m args 3 = entryFrame m ([.ref (a 2), .int (iN x1), .int (iN x2)] : List Value).toArray 3 from by rw [hargs], lg_entry_eq]
  generalize (lg_sl ([.ref (a 2), .int (iN x1), .int (iN x2)]) ++ List.replicate (3 - (lg_sl ([.ref (a 2), .int (iN x1), .int (iN x2)])).length) Slot.unset).toArray = ls at hl ⊢
  have hl : lv_has ls 3 [(0, .ref (a 2)), (1, .int (iN x1)), (2, .int (iN x2))] := hl
  generalize hQQ : MQ below (qP r) args s 0 0 (fun _ => False) = QQ
  refine lv_aload_n hx hb dX2_canAdd_0 rfl (lv_at hl 0 rfl) ?_
  refine lv_iload_n hx hb dX2_canAdd_1 rfl (lv_at hl 1 rfl) ?_
  obtain ⟨v1, hv1, hf⟩ := bd hf
  refine x_callP (va_runV (As := [.int (iN x1)]) (rest := []) ⟨hx, hb, hml, hown, hts⟩ (kX2_hasOwner_2 l dC dI cI cA a σ x1 v1 hv1 hR rx1) (cwV 1 hts gX2_canAdd_X2_hasOwner rfl rfl rfl hX2_hasOwner_d ⟨Nat.le_trans (by decide) hrm.1, Nat.le_trans (by decide) hrm.2⟩) (pvC 2 (by decide) (cE_2 cI cA a (_)) rfl hP hK hN) rfl rfl hl.1 rfl (lv_room (Nat.le_of_ble_eq_true rfl)) dX2_canAdd_2 ⟨Nat.zero_le _, Nat.zero_le _⟩) (fun rv1 => ?_)
  refine x_if_eq (tgt := 36) hx hb rv1 dX2_canAdd_5 (by decide) (fun c7 => ?_) (fun c7 => ?_)
  · replace hf := (if_pos c7).symm.trans hf
    refine lv_iconst (v := iN 0) hx hb dX2_canAdd_36 rfl ?_
    rw [← hQQ]
    exact x_zret hx hb hr (by decide) (Option.some.inj hf) (by decide) hlocks dX2_canAdd_37
  · replace hf := (if_neg c7).symm.trans hf
    refine lv_iload_n hx hb dX2_canAdd_8 rfl (lv_at hl 2 rfl) ?_
    refine x_if_lt (tgt := 36) hx hb rx2 dX2_canAdd_9 (by decide) (fun c6 => ?_) (fun c6 => ?_)
    · replace hf := (if_pos c6).symm.trans hf
      refine lv_iconst (v := iN 0) hx hb dX2_canAdd_36 rfl ?_
      rw [← hQQ]
      exact x_zret hx hb hr (by decide) (Option.some.inj hf) (by decide) hlocks dX2_canAdd_37
    · replace hf := (if_neg c6).symm.trans hf
      refine lv_iload_n hx hb dX2_canAdd_12 rfl (lv_at hl 2 rfl) ?_
      refine lv_aload_n hx hb dX2_canAdd_13 rfl (lv_at hl 0 rfl) ?_
      refine x_get (C := RX2) (T := TX2) (NF := 4) (v := .int (iN (σ 2 3))) hx hb hts iX2 hown hK hP 2 (by decide) (cE_2 cI cA a (_)) rfl 3 (by decide) fl24 rfl dX2_canAdd_14 ?_
      refine x_icmp_ge (tgt := 36) hx hb rx2 (hR 2 3) dX2_canAdd_17 (by decide) (fun c5 => ?_) (fun c5 => ?_)
      · replace hf := (if_neg c5).symm.trans hf
        refine lv_iconst (v := iN 0) hx hb dX2_canAdd_36 rfl ?_
        rw [← hQQ]
        exact x_zret hx hb hr (by decide) (Option.some.inj hf) (by decide) hlocks dX2_canAdd_37
      · replace hf := (if_pos c5).symm.trans hf
        refine lv_aload_n hx hb dX2_canAdd_20 rfl (lv_at hl 0 rfl) ?_
        refine x_get (C := RX2) (T := TX2) (NF := 4) (v := .ref (a 3)) hx hb hts iX2 hown hK hP 2 (by decide) (cE_2 cI cA a (_)) rfl 0 (by decide) fl11 rfl dX2_canAdd_21 ?_
        refine lv_iload_n hx hb dX2_canAdd_24 rfl (lv_at hl 1 rfl) ?_
        obtain ⟨g2, hf⟩ := gd hf
        refine x_aald hx hb hK hP 3 1 (by decide) (cE_3 cI cA a (_)) (by decide) rfl g2 (row_f4 a g2) dX2_canAdd_25 ?_
        refine lv_iload_n hx hb dX2_canAdd_26 rfl (lv_at hl 2 rfl) ?_
        obtain ⟨g3, hf⟩ := gd hf
        refine x_iald hx hb hK hP (4 + x1.toNat) 0 (row_lt4 g2) (cE_row4 cI cA a g2 _) (by decide) rfl g3 dX2_canAdd_27 ?_
        refine lv_iconst (v := iN (-1)) hx hb dX2_canAdd_28 rfl ?_
        refine x_icmp_ne (tgt := 36) hx hb (hR (4 + x1.toNat) x2) (by decide) dX2_canAdd_29 (by decide) (fun c4 => ?_) (fun c4 => ?_)
        · replace hf := (if_neg c4).symm.trans hf
          refine lv_iconst (v := iN 0) hx hb dX2_canAdd_36 rfl ?_
          rw [← hQQ]
          exact x_zret hx hb hr (by decide) (Option.some.inj hf) (by decide) hlocks dX2_canAdd_37
        · replace hf := (if_pos c4).symm.trans hf
          refine lv_iconst (v := iN 1) hx hb dX2_canAdd_32 rfl ?_
          refine lv_goto (tgt := 37) hx hb dX2_canAdd_33 (by decide) ?_
          rw [← hQQ]
          exact x_zret hx hb hr (by decide) (Option.some.inj hf) (by decide) hlocks dX2_canAdd_37
def fX2_add_2 (σ : Mem) (x1 : Int) (x2 : Int) : Option (Int × Mem) := if (0 : Int) ≤ x1 ∧ (x1 : Int) < 6 then if (0 : Int) ≤ x1 ∧ (x1 : Int) < 6 then if (0 : Int) ≤ x2 ∧ (x2 : Int) < 6 then nx (mup σ (4 + x1.toNat) x2 (σ 10 x1)) fun σ4 => if (0 : Int) ≤ x1 ∧ (x1 : Int) < 6 then if rng ((σ4 10 x1) + 1) then if (0 : Int) ≤ x1 ∧ (x1 : Int) < 6 then nx (mup σ4 10 x1 ((σ4 10 x1) + 1)) fun σ8 => if (0 : Int) ≤ x1 ∧ (x1 : Int) < 6 then some ((σ8 10 x1), σ8) else none else none else none else none else none else none else none
set_option maxHeartbeats 4000000 in
set_option maxRecDepth 100000 in
theorem kX2_add_2 (l : Launch) (dC : Nat → ClassId) (dI : Nat → Nat → Nat) (cI : ClassId) (cA : ClassId) (a : Nat → Nat) (hi : ∀ i j, i < 37 → j < 37 → a i = a j → i = j) (σ : Mem) (x1 : Int) (x2 : Int) (r : (Int × Mem)) (hf : fX2_add_2 σ x1 x2 = some r) (hR : Rg σ) (rx1 : rng x1) (rx2 : rng x2) : Met l yX2_add wsX2_add ({ frames := 0, cells := 0, slots := 0, locals := 0 }) (va_Pc [.ref (a 2), .int (iN x1), .int (iN x2)] (preC dC dI cI cA a σ)) (qM (dC, dI) (gw 37 a (cE cI cA a)) (gA 37 a) r) 0 0 (gA 37 a) := by
  refine Met.ofW (cc := cX2_add) (maxL := 3) (ret := (some .int)) (by decide) rfl ?_
  intro p e s m args below meth c s₁ B hml hv
  obtain ⟨hargs, hP, hK, hN⟩ := hv
  have hx := B.exec
  have hb := B.bytes
  have hr := B.returns
  have hts := atoms_spec (ws := wsX2_add) B.pre
  have hown : s.vm.findClass RX2 = some m.cls := findClass_of_methodNamed B.named
  have hlocks := B.notSynchronized
  have hS : va_S (gA 37 a) s.heap s.heap [] := va_S.rf
  have iX2 : ∀ w ∈ wsX20, w ∈ wsX2_add := by decide +kernel
  have fl11 := hts (.fieldLink RX2 11 "MatchHall$Lists" "places" "[[I") (by decide +kernel)
  have fl16 := hts (.fieldLink RX2 16 "MatchHall$Lists" "sizes" "[I") (by decide +kernel)
  have hrm : 0 ≤ (headSpec wsX2_add ({ frames := 0, cells := 0, slots := 0, locals := 0 })).room.frames ∧ 0 ≤ (headSpec wsX2_add ({ frames := 0, cells := 0, slots := 0, locals := 0 })).room.locals := ⟨Nat.le_refl _, Nat.le_refl _⟩
  generalize (headSpec wsX2_add ({ frames := 0, cells := 0, slots := 0, locals := 0 })).room = RR at hrm ⊢
  have hl := lv_entry ([.ref (a 2), .int (iN x1), .int (iN x2)]) (n := 3) (Nat.le_of_ble_eq_true rfl)
  rw [show entryFrame m args 3 = entryFrame m ([.ref (a 2), .int (iN x1), .int (iN x2)] : List Value).toArray 3 from by rw [hargs], lg_entry_eq]
  generalize (lg_sl ([.ref (a 2), .int (iN x1), .int (iN x2)]) ++ List.replicate (3 - (lg_sl ([.ref (a 2), .int (iN x1), .int (iN x2)])).length) Slot.unset).toArray = ls at hl ⊢
  have hl : lv_has ls 3 [(0, .ref (a 2)), (1, .int (iN x1)), (2, .int (iN x2))] := hl
  generalize hQQ : MQ below (qM (dC, dI) (gw 37 a (cE cI cA a)) (gA 37 a) r) args s 0 0 (gA 37 a) = QQ
  refine lv_aload_n hx hb dX2_add_0 rfl (lv_at hl 0 rfl) ?_
  refine x_get (C := RX2) (T := TX2) (NF := 4) (v := .ref (a 3)) hx hb hts iX2 hown hK hP 2 (by decide) (cE_2 cI cA a (_)) rfl 0 (by decide) fl11 rfl dX2_add_1 ?_
  refine lv_iload_n hx hb dX2_add_4 rfl (lv_at hl 1 rfl) ?_
  obtain ⟨g1, hf⟩ := gd hf
  refine x_aald hx hb hK hP 3 1 (by decide) (cE_3 cI cA a (_)) (by decide) rfl g1 (row_f4 a g1) dX2_add_5 ?_
  refine lv_iload_n hx hb dX2_add_6 rfl (lv_at hl 2 rfl) ?_
  refine lv_aload_n hx hb dX2_add_7 rfl (lv_at hl 0 rfl) ?_
  refine x_get (C := RX2) (T := TX2) (NF := 4) (v := .ref (a 10)) hx hb hts iX2 hown hK hP 2 (by decide) (cE_2 cI cA a (_)) rfl 1 (by decide) fl16 rfl dX2_add_8 ?_
  refine lv_iload_n hx hb dX2_add_11 rfl (lv_at hl 1 rfl) ?_
  obtain ⟨g2, hf⟩ := gd hf
  refine x_iald hx hb hK hP 10 0 (by decide) (cE_10 cI cA a (_)) (by decide) rfl g2 dX2_add_12 ?_
  obtain ⟨g3, hf⟩ := gd hf
  obtain ⟨σ4, hσ4, hf⟩ := nxe hf
  refine x_iast (x := (σ 10 x1)) hx hb hi hK hP hS (4 + x1.toNat) 0 (row_lt4 g1) (cE_row4 cI cA a g1) (by decide) rfl g3 dX2_add_13 (fun H locs hP hS => ?_)
  rw [← hσ4] at hP
  have hRσ4 : Rg σ4 := by rw [hσ4]; exact Rg_up hR (hR 10 x1)
  refine lv_aload_n hx hb dX2_add_14 rfl (lv_at hl 0 rfl) ?_
  refine x_get (C := RX2) (T := TX2) (NF := 4) (v := .ref (a 10)) hx hb hts iX2 hown hK hP 2 (by decide) (cE_2 cI cA a (_)) rfl 1 (by decide) fl16 rfl dX2_add_15 ?_
  refine lv_iload_n hx hb dX2_add_18 rfl (lv_at hl 1 rfl) ?_
  refine lv_dup2_11 hx hb dX2_add_19 rfl rfl ?_
  obtain ⟨g5, hf⟩ := gd hf
  refine x_iald hx hb hK hP 10 0 (by decide) (cE_10 cI cA a (_)) (by decide) rfl g5 dX2_add_20 ?_
  refine lv_iconst (v := iN 1) hx hb dX2_add_21 rfl ?_
  obtain ⟨g6, hf⟩ := gd hf
  refine x_iadd hx hb dX2_add_22 ?_
  obtain ⟨g7, hf⟩ := gd hf
  obtain ⟨σ8, hσ8, hf⟩ := nxe hf
  refine x_iast (x := ((σ4 10 x1) + 1)) hx hb hi hK hP hS 10 0 (by decide) (cE_10 cI cA a) (by decide) rfl g7 dX2_add_23 (fun H locs hP hS => ?_)
  rw [← hσ8] at hP
  have hRσ8 : Rg σ8 := by rw [hσ8]; exact Rg_up hRσ4 g6
  refine lv_aload_n hx hb dX2_add_24 rfl (lv_at hl 0 rfl) ?_
  refine x_get (C := RX2) (T := TX2) (NF := 4) (v := .ref (a 10)) hx hb hts iX2 hown hK hP 2 (by decide) (cE_2 cI cA a (_)) rfl 1 (by decide) fl16 rfl dX2_add_25 ?_
  refine lv_iload_n hx hb dX2_add_28 rfl (lv_at hl 1 rfl) ?_
  obtain ⟨g9, hf⟩ := gd hf
  refine x_iald hx hb hK hP 10 0 (by decide) (cE_10 cI cA a (_)) (by decide) rfl g9 dX2_add_29 ?_
  rw [← hQQ]
  exact x_iretM hx hb hr (Option.some.inj hf) (hRσ8 10 x1) hRσ8 hP hS hlocks dX2_add_30
def fX2_canAdd_11 (σ : Mem) (x1 : Int) (x2 : Int) : Option Int := (fX2_hasOwner_11 σ x1).bind fun v1 => if v1 = 0 then some 0 else if x2 < 0 then some 0 else if x2 < (σ 11 3) then if (0 : Int) ≤ x1 ∧ (x1 : Int) < 6 then if (0 : Int) ≤ x2 ∧ (x2 : Int) < 6 then if (σ (13 + x1.toNat) x2) = (-1) then some 1 else some 0 else none else none else some 0
set_option maxHeartbeats 4000000 in
set_option maxRecDepth 100000 in
theorem kX2_canAdd_11 (l : Launch) (dC : Nat → ClassId) (dI : Nat → Nat → Nat) (cI : ClassId) (cA : ClassId) (a : Nat → Nat) (σ : Mem) (x1 : Int) (x2 : Int) (r : Int) (hf : fX2_canAdd_11 σ x1 x2 = some r) (hR : Rg σ) (rx1 : rng x1) (rx2 : rng x2) : Met l yX2_canAdd wsX2_canAdd ({ frames := 1, cells := 0, slots := 0, locals := 21 }) (va_Pc [.ref (a 11), .int (iN x1), .int (iN x2)] (preC dC dI cI cA a σ)) (qP r) 0 0 (fun _ => False) := by
  refine Met.ofW (cc := cX2_canAdd) (maxL := 3) (ret := (some .boolean)) (by decide) rfl ?_
  intro p e s m args below meth c s₁ B hml hv
  obtain ⟨hargs, hP, hK, hN⟩ := hv
  have hx := B.exec
  have hb := B.bytes
  have hr := B.returns
  have hts := atoms_spec (ws := wsX2_canAdd) B.pre
  have hown : s.vm.findClass RX2 = some m.cls := findClass_of_methodNamed B.named
  have hlocks := B.notSynchronized
  have iX2 : ∀ w ∈ wsX20, w ∈ wsX2_canAdd := by decide +kernel
  have fl11 := hts (.fieldLink RX2 11 "MatchHall$Lists" "places" "[[I") (by decide +kernel)
  have fl24 := hts (.fieldLink RX2 24 "MatchHall$Lists" "others" "I") (by decide +kernel)
  have hrm : 1 ≤ (headSpec wsX2_canAdd ({ frames := 1, cells := 0, slots := 0, locals := 21 })).room.frames ∧ 21 ≤ (headSpec wsX2_canAdd ({ frames := 1, cells := 0, slots := 0, locals := 21 })).room.locals := ⟨Nat.le_refl _, Nat.le_refl _⟩
  generalize (headSpec wsX2_canAdd ({ frames := 1, cells := 0, slots := 0, locals := 21 })).room = RR at hrm ⊢
  have hl := lv_entry ([.ref (a 11), .int (iN x1), .int (iN x2)]) (n := 3) (Nat.le_of_ble_eq_true rfl)
  rw [show entryFrame m args 3 = entryFrame m ([.ref (a 11), .int (iN x1), .int (iN x2)] : List Value).toArray 3 from by rw [hargs], lg_entry_eq]
  generalize (lg_sl ([.ref (a 11), .int (iN x1), .int (iN x2)]) ++ List.replicate (3 - (lg_sl ([.ref (a 11), .int (iN x1), .int (iN x2)])).length) Slot.unset).toArray = ls at hl ⊢
  have hl : lv_has ls 3 [(0, .ref (a 11)), (1, .int (iN x1)), (2, .int (iN x2))] := hl
  generalize hQQ : MQ below (qP r) args s 0 0 (fun _ => False) = QQ
  refine lv_aload_n hx hb dX2_canAdd_0 rfl (lv_at hl 0 rfl) ?_
  refine lv_iload_n hx hb dX2_canAdd_1 rfl (lv_at hl 1 rfl) ?_
  obtain ⟨v1, hv1, hf⟩ := bd hf
  refine x_callP (va_runV (As := [.int (iN x1)]) (rest := []) ⟨hx, hb, hml, hown, hts⟩ (kX2_hasOwner_11 l dC dI cI cA a σ x1 v1 hv1 hR rx1) (cwV 1 hts gX2_canAdd_X2_hasOwner rfl rfl rfl hX2_hasOwner_d ⟨Nat.le_trans (by decide) hrm.1, Nat.le_trans (by decide) hrm.2⟩) (pvC 11 (by decide) (cE_11 cI cA a (_)) rfl hP hK hN) rfl rfl hl.1 rfl (lv_room (Nat.le_of_ble_eq_true rfl)) dX2_canAdd_2 ⟨Nat.zero_le _, Nat.zero_le _⟩) (fun rv1 => ?_)
  refine x_if_eq (tgt := 36) hx hb rv1 dX2_canAdd_5 (by decide) (fun c7 => ?_) (fun c7 => ?_)
  · replace hf := (if_pos c7).symm.trans hf
    refine lv_iconst (v := iN 0) hx hb dX2_canAdd_36 rfl ?_
    rw [← hQQ]
    exact x_zret hx hb hr (by decide) (Option.some.inj hf) (by decide) hlocks dX2_canAdd_37
  · replace hf := (if_neg c7).symm.trans hf
    refine lv_iload_n hx hb dX2_canAdd_8 rfl (lv_at hl 2 rfl) ?_
    refine x_if_lt (tgt := 36) hx hb rx2 dX2_canAdd_9 (by decide) (fun c6 => ?_) (fun c6 => ?_)
    · replace hf := (if_pos c6).symm.trans hf
      refine lv_iconst (v := iN 0) hx hb dX2_canAdd_36 rfl ?_
      rw [← hQQ]
      exact x_zret hx hb hr (by decide) (Option.some.inj hf) (by decide) hlocks dX2_canAdd_37
    · replace hf := (if_neg c6).symm.trans hf
      refine lv_iload_n hx hb dX2_canAdd_12 rfl (lv_at hl 2 rfl) ?_
      refine lv_aload_n hx hb dX2_canAdd_13 rfl (lv_at hl 0 rfl) ?_
      refine x_get (C := RX2) (T := TX2) (NF := 4) (v := .int (iN (σ 11 3))) hx hb hts iX2 hown hK hP 11 (by decide) (cE_11 cI cA a (_)) rfl 3 (by decide) fl24 rfl dX2_canAdd_14 ?_
      refine x_icmp_ge (tgt := 36) hx hb rx2 (hR 11 3) dX2_canAdd_17 (by decide) (fun c5 => ?_) (fun c5 => ?_)
      · replace hf := (if_neg c5).symm.trans hf
        refine lv_iconst (v := iN 0) hx hb dX2_canAdd_36 rfl ?_
        rw [← hQQ]
        exact x_zret hx hb hr (by decide) (Option.some.inj hf) (by decide) hlocks dX2_canAdd_37
      · replace hf := (if_pos c5).symm.trans hf
        refine lv_aload_n hx hb dX2_canAdd_20 rfl (lv_at hl 0 rfl) ?_
        refine x_get (C := RX2) (T := TX2) (NF := 4) (v := .ref (a 12)) hx hb hts iX2 hown hK hP 11 (by decide) (cE_11 cI cA a (_)) rfl 0 (by decide) fl11 rfl dX2_canAdd_21 ?_
        refine lv_iload_n hx hb dX2_canAdd_24 rfl (lv_at hl 1 rfl) ?_
        obtain ⟨g2, hf⟩ := gd hf
        refine x_aald hx hb hK hP 12 1 (by decide) (cE_12 cI cA a (_)) (by decide) rfl g2 (row_f13 a g2) dX2_canAdd_25 ?_
        refine lv_iload_n hx hb dX2_canAdd_26 rfl (lv_at hl 2 rfl) ?_
        obtain ⟨g3, hf⟩ := gd hf
        refine x_iald hx hb hK hP (13 + x1.toNat) 0 (row_lt13 g2) (cE_row13 cI cA a g2 _) (by decide) rfl g3 dX2_canAdd_27 ?_
        refine lv_iconst (v := iN (-1)) hx hb dX2_canAdd_28 rfl ?_
        refine x_icmp_ne (tgt := 36) hx hb (hR (13 + x1.toNat) x2) (by decide) dX2_canAdd_29 (by decide) (fun c4 => ?_) (fun c4 => ?_)
        · replace hf := (if_neg c4).symm.trans hf
          refine lv_iconst (v := iN 0) hx hb dX2_canAdd_36 rfl ?_
          rw [← hQQ]
          exact x_zret hx hb hr (by decide) (Option.some.inj hf) (by decide) hlocks dX2_canAdd_37
        · replace hf := (if_pos c4).symm.trans hf
          refine lv_iconst (v := iN 1) hx hb dX2_canAdd_32 rfl ?_
          refine lv_goto (tgt := 37) hx hb dX2_canAdd_33 (by decide) ?_
          rw [← hQQ]
          exact x_zret hx hb hr (by decide) (Option.some.inj hf) (by decide) hlocks dX2_canAdd_37
def fX2_add_11 (σ : Mem) (x1 : Int) (x2 : Int) : Option (Int × Mem) := if (0 : Int) ≤ x1 ∧ (x1 : Int) < 6 then if (0 : Int) ≤ x1 ∧ (x1 : Int) < 6 then if (0 : Int) ≤ x2 ∧ (x2 : Int) < 6 then nx (mup σ (13 + x1.toNat) x2 (σ 19 x1)) fun σ4 => if (0 : Int) ≤ x1 ∧ (x1 : Int) < 6 then if rng ((σ4 19 x1) + 1) then if (0 : Int) ≤ x1 ∧ (x1 : Int) < 6 then nx (mup σ4 19 x1 ((σ4 19 x1) + 1)) fun σ8 => if (0 : Int) ≤ x1 ∧ (x1 : Int) < 6 then some ((σ8 19 x1), σ8) else none else none else none else none else none else none else none
set_option maxHeartbeats 4000000 in
set_option maxRecDepth 100000 in
theorem kX2_add_11 (l : Launch) (dC : Nat → ClassId) (dI : Nat → Nat → Nat) (cI : ClassId) (cA : ClassId) (a : Nat → Nat) (hi : ∀ i j, i < 37 → j < 37 → a i = a j → i = j) (σ : Mem) (x1 : Int) (x2 : Int) (r : (Int × Mem)) (hf : fX2_add_11 σ x1 x2 = some r) (hR : Rg σ) (rx1 : rng x1) (rx2 : rng x2) : Met l yX2_add wsX2_add ({ frames := 0, cells := 0, slots := 0, locals := 0 }) (va_Pc [.ref (a 11), .int (iN x1), .int (iN x2)] (preC dC dI cI cA a σ)) (qM (dC, dI) (gw 37 a (cE cI cA a)) (gA 37 a) r) 0 0 (gA 37 a) := by
  refine Met.ofW (cc := cX2_add) (maxL := 3) (ret := (some .int)) (by decide) rfl ?_
  intro p e s m args below meth c s₁ B hml hv
  obtain ⟨hargs, hP, hK, hN⟩ := hv
  have hx := B.exec
  have hb := B.bytes
  have hr := B.returns
  have hts := atoms_spec (ws := wsX2_add) B.pre
  have hown : s.vm.findClass RX2 = some m.cls := findClass_of_methodNamed B.named
  have hlocks := B.notSynchronized
  have hS : va_S (gA 37 a) s.heap s.heap [] := va_S.rf
  have iX2 : ∀ w ∈ wsX20, w ∈ wsX2_add := by decide +kernel
  have fl11 := hts (.fieldLink RX2 11 "MatchHall$Lists" "places" "[[I") (by decide +kernel)
  have fl16 := hts (.fieldLink RX2 16 "MatchHall$Lists" "sizes" "[I") (by decide +kernel)
  have hrm : 0 ≤ (headSpec wsX2_add ({ frames := 0, cells := 0, slots := 0, locals := 0 })).room.frames ∧ 0 ≤ (headSpec wsX2_add ({ frames := 0, cells := 0, slots := 0, locals := 0 })).room.locals := ⟨Nat.le_refl _, Nat.le_refl _⟩
  generalize (headSpec wsX2_add ({ frames := 0, cells := 0, slots := 0, locals := 0 })).room = RR at hrm ⊢
  have hl := lv_entry ([.ref (a 11), .int (iN x1), .int (iN x2)]) (n := 3) (Nat.le_of_ble_eq_true rfl)
  rw [show entryFrame m args 3 = entryFrame m ([.ref (a 11), .int (iN x1), .int (iN x2)] : List Value).toArray 3 from by rw [hargs], lg_entry_eq]
  generalize (lg_sl ([.ref (a 11), .int (iN x1), .int (iN x2)]) ++ List.replicate (3 - (lg_sl ([.ref (a 11), .int (iN x1), .int (iN x2)])).length) Slot.unset).toArray = ls at hl ⊢
  have hl : lv_has ls 3 [(0, .ref (a 11)), (1, .int (iN x1)), (2, .int (iN x2))] := hl
  generalize hQQ : MQ below (qM (dC, dI) (gw 37 a (cE cI cA a)) (gA 37 a) r) args s 0 0 (gA 37 a) = QQ
  refine lv_aload_n hx hb dX2_add_0 rfl (lv_at hl 0 rfl) ?_
  refine x_get (C := RX2) (T := TX2) (NF := 4) (v := .ref (a 12)) hx hb hts iX2 hown hK hP 11 (by decide) (cE_11 cI cA a (_)) rfl 0 (by decide) fl11 rfl dX2_add_1 ?_
  refine lv_iload_n hx hb dX2_add_4 rfl (lv_at hl 1 rfl) ?_
  obtain ⟨g1, hf⟩ := gd hf
  refine x_aald hx hb hK hP 12 1 (by decide) (cE_12 cI cA a (_)) (by decide) rfl g1 (row_f13 a g1) dX2_add_5 ?_
  refine lv_iload_n hx hb dX2_add_6 rfl (lv_at hl 2 rfl) ?_
  refine lv_aload_n hx hb dX2_add_7 rfl (lv_at hl 0 rfl) ?_
  refine x_get (C := RX2) (T := TX2) (NF := 4) (v := .ref (a 19)) hx hb hts iX2 hown hK hP 11 (by decide) (cE_11 cI cA a (_)) rfl 1 (by decide) fl16 rfl dX2_add_8 ?_
  refine lv_iload_n hx hb dX2_add_11 rfl (lv_at hl 1 rfl) ?_
  obtain ⟨g2, hf⟩ := gd hf
  refine x_iald hx hb hK hP 19 0 (by decide) (cE_19 cI cA a (_)) (by decide) rfl g2 dX2_add_12 ?_
  obtain ⟨g3, hf⟩ := gd hf
  obtain ⟨σ4, hσ4, hf⟩ := nxe hf
  refine x_iast (x := (σ 19 x1)) hx hb hi hK hP hS (13 + x1.toNat) 0 (row_lt13 g1) (cE_row13 cI cA a g1) (by decide) rfl g3 dX2_add_13 (fun H locs hP hS => ?_)
  rw [← hσ4] at hP
  have hRσ4 : Rg σ4 := by rw [hσ4]; exact Rg_up hR (hR 19 x1)
  refine lv_aload_n hx hb dX2_add_14 rfl (lv_at hl 0 rfl) ?_
  refine x_get (C := RX2) (T := TX2) (NF := 4) (v := .ref (a 19)) hx hb hts iX2 hown hK hP 11 (by decide) (cE_11 cI cA a (_)) rfl 1 (by decide) fl16 rfl dX2_add_15 ?_
  refine lv_iload_n hx hb dX2_add_18 rfl (lv_at hl 1 rfl) ?_
  refine lv_dup2_11 hx hb dX2_add_19 rfl rfl ?_
  obtain ⟨g5, hf⟩ := gd hf
  refine x_iald hx hb hK hP 19 0 (by decide) (cE_19 cI cA a (_)) (by decide) rfl g5 dX2_add_20 ?_
  refine lv_iconst (v := iN 1) hx hb dX2_add_21 rfl ?_
  obtain ⟨g6, hf⟩ := gd hf
  refine x_iadd hx hb dX2_add_22 ?_
  obtain ⟨g7, hf⟩ := gd hf
  obtain ⟨σ8, hσ8, hf⟩ := nxe hf
  refine x_iast (x := ((σ4 19 x1) + 1)) hx hb hi hK hP hS 19 0 (by decide) (cE_19 cI cA a) (by decide) rfl g7 dX2_add_23 (fun H locs hP hS => ?_)
  rw [← hσ8] at hP
  have hRσ8 : Rg σ8 := by rw [hσ8]; exact Rg_up hRσ4 g6
  refine lv_aload_n hx hb dX2_add_24 rfl (lv_at hl 0 rfl) ?_
  refine x_get (C := RX2) (T := TX2) (NF := 4) (v := .ref (a 19)) hx hb hts iX2 hown hK hP 11 (by decide) (cE_11 cI cA a (_)) rfl 1 (by decide) fl16 rfl dX2_add_25 ?_
  refine lv_iload_n hx hb dX2_add_28 rfl (lv_at hl 1 rfl) ?_
  obtain ⟨g9, hf⟩ := gd hf
  refine x_iald hx hb hK hP 19 0 (by decide) (cE_19 cI cA a (_)) (by decide) rfl g9 dX2_add_29 ?_
  rw [← hQQ]
  exact x_iretM hx hb hr (Option.some.inj hf) (hRσ8 19 x1) hRσ8 hP hS hlocks dX2_add_30
def fX6_prefer_0 (σ : Mem) (x1 : Int) (x2 : Int) (x3 : Int) : Option (Int × Mem) := (fX1_listsOf_1 σ x1).bind fun v1 => if v1 = 2 then (fX2_canAdd_2 σ x2 x3).bind fun v3 => if v3 = 0 then some ((-1), σ) else bnd2 (fX6_dropWork_0 σ ) fun v4 σ5 => bnd2 (fX2_add_2 σ5 x2 x3) fun v6 σ7 => some (v6, σ7) else if v1 = 11 then (fX2_canAdd_11 σ x2 x3).bind fun v10 => if v10 = 0 then some ((-1), σ) else bnd2 (fX6_dropWork_0 σ ) fun v11 σ12 => bnd2 (fX2_add_11 σ12 x2 x3) fun v13 σ14 => some (v13, σ14) else if v1 = (-1) then some ((-1), σ) else none
set_option maxHeartbeats 4000000 in
set_option maxRecDepth 100000 in
theorem kX6_prefer_0 (l : Launch) (dC : Nat → ClassId) (dI : Nat → Nat → Nat) (cI : ClassId) (cA : ClassId) (a : Nat → Nat) (hi : ∀ i j, i < 37 → j < 37 → a i = a j → i = j) (σ : Mem) (x1 : Int) (x2 : Int) (x3 : Int) (r : (Int × Mem)) (hf : fX6_prefer_0 σ x1 x2 x3 = some r) (hR : Rg σ) (rx1 : rng x1) (rx2 : rng x2) (rx3 : rng x3) : Met l yX6_prefer wsX6_prefer ({ frames := 2, cells := 0, slots := 0, locals := 43 }) (va_Pc [.ref (a 0), .int (iN x1), .int (iN x2), .int (iN x3)] (preC dC dI cI cA a σ)) (qM (dC, dI) (gw 37 a (cE cI cA a)) (gA 37 a) r) 0 0 (gA 37 a) := by
  refine Met.ofW (cc := cX6_prefer) (maxL := 5) (ret := (some .int)) (by decide) rfl ?_
  intro p e s m args below meth c s₁ B hml hv
  obtain ⟨hargs, hP, hK, hN⟩ := hv
  have hx := B.exec
  have hb := B.bytes
  have hr := B.returns
  have hts := atoms_spec (ws := wsX6_prefer) B.pre
  have hown : s.vm.findClass RX6 = some m.cls := findClass_of_methodNamed B.named
  have hlocks := B.notSynchronized
  have hS : va_S (gA 37 a) s.heap s.heap [] := va_S.rf
  have iX6 : ∀ w ∈ wsX60, w ∈ wsX6_prefer := by decide +kernel
  have fl12 := hts (.fieldLink RX6 12 "MatchHall" "hall" "LMatchHall$Hall;") (by decide +kernel)
  have hrm : 2 ≤ (headSpec wsX6_prefer ({ frames := 2, cells := 0, slots := 0, locals := 43 })).room.frames ∧ 43 ≤ (headSpec wsX6_prefer ({ frames := 2, cells := 0, slots := 0, locals := 43 })).room.locals := ⟨Nat.le_refl _, Nat.le_refl _⟩
  generalize (headSpec wsX6_prefer ({ frames := 2, cells := 0, slots := 0, locals := 43 })).room = RR at hrm ⊢
  have hl := lv_entry ([.ref (a 0), .int (iN x1), .int (iN x2), .int (iN x3)]) (n := 5) (Nat.le_of_ble_eq_true rfl)
  rw [show entryFrame m args 5 = entryFrame m ([.ref (a 0), .int (iN x1), .int (iN x2), .int (iN x3)] : List Value).toArray 5 from by rw [hargs], lg_entry_eq]
  generalize (lg_sl ([.ref (a 0), .int (iN x1), .int (iN x2), .int (iN x3)]) ++ List.replicate (5 - (lg_sl ([.ref (a 0), .int (iN x1), .int (iN x2), .int (iN x3)])).length) Slot.unset).toArray = ls at hl ⊢
  have hl : lv_has ls 5 [(0, .ref (a 0)), (1, .int (iN x1)), (2, .int (iN x2)), (3, .int (iN x3))] := hl
  generalize hQQ : MQ below (qM (dC, dI) (gw 37 a (cE cI cA a)) (gA 37 a) r) args s 0 0 (gA 37 a) = QQ
  refine lv_aload_n hx hb dX6_prefer_0 rfl (lv_at hl 0 rfl) ?_
  refine x_get (C := RX6) (T := TX6) (NF := 6) (v := .ref (a 1)) hx hb hts iX6 hown hK hP 0 (by decide) (cE_0 cI cA a (_)) rfl 0 (by decide) fl12 rfl dX6_prefer_1 ?_
  refine lv_iload_n hx hb dX6_prefer_4 rfl (lv_at hl 1 rfl) ?_
  obtain ⟨v1, hv1, hf⟩ := bd hf
  by_cases c2 : v1 = 2
  · replace hf := (if_pos c2).symm.trans hf
    subst c2
    refine x_callR (va_runV (As := [.int (iN x1)]) (rest := []) ⟨hx, hb, hml, hown, hts⟩ (kX1_listsOf_1 l dC dI cI cA a σ x1 2 hv1 hR rx1) (cwV 1 hts gX6_prefer_X1_listsOf rfl rfl rfl hX1_listsOf_d ⟨Nat.le_trans (by decide) hrm.1, Nat.le_trans (by decide) hrm.2⟩) (pvC 1 (by decide) (cE_1 cI cA a (_)) rfl hP hK hN) rfl rfl hl.1 rfl (lv_room (Nat.le_of_ble_eq_true rfl)) dX6_prefer_5 ⟨Nat.zero_le _, Nat.zero_le _⟩) ?_
    refine W.eq (g2 := F0 m 8 ls [.ref (a 2)]) rfl ?_
    refine lv_astore (lv' := [(4, .ref (a 2)), (0, .ref (a 0)), (1, .int (iN x1)), (2, .int (iN x2)), (3, .int (iN x3))]) hx hb dX6_prefer_8 hl (by decide) rfl (fun ls hl => ?_)
    refine lv_aload hx hb dX6_prefer_10 (lv_at hl 0 rfl) ?_
    refine lv_ifnull hx hb dX6_prefer_12 ?_
    refine lv_aload hx hb dX6_prefer_15 (lv_at hl 0 rfl) ?_
    refine lv_iload_n hx hb dX6_prefer_17 rfl (lv_at hl 3 rfl) ?_
    refine lv_iload_n hx hb dX6_prefer_18 rfl (lv_at hl 4 rfl) ?_
    obtain ⟨v3, hv3, hf⟩ := bd hf
    refine x_callP (va_runV (As := [.int (iN x2), .int (iN x3)]) (rest := []) ⟨hx, hb, hml, hown, hts⟩ (kX2_canAdd_2 l dC dI cI cA a σ x2 x3 v3 hv3 hR rx2 rx3) (cwV 2 hts gX6_prefer_X2_canAdd rfl rfl rfl hX2_canAdd_d ⟨Nat.le_trans (by decide) hrm.1, Nat.le_trans (by decide) hrm.2⟩) (pvC 2 (by decide) (cE_2 cI cA a (_)) rfl hP hK hN) rfl rfl hl.1 rfl (lv_room (Nat.le_of_ble_eq_true rfl)) dX6_prefer_19 ⟨Nat.zero_le _, Nat.zero_le _⟩) (fun rv3 => ?_)
    refine x_if_ne (tgt := 27) hx hb rv3 dX6_prefer_22 (by decide) (fun c8 => ?_) (fun c8 => ?_)
    · replace hf := (if_neg c8).symm.trans hf
      refine lv_aload_n hx hb dX6_prefer_27 rfl (lv_at hl 1 rfl) ?_
      obtain ⟨v4, σ5, hv4, hf⟩ := bd2 hf
      refine x_callMv (va_runV (As := []) (rest := []) ⟨hx, hb, hml, hown, hts⟩ (kX6_dropWork_0 l dC dI cI cA a hi σ  (v4, σ5) hv4 hR ) (cwV 0 hts gX6_prefer_X6_dropWork rfl rfl rfl hX6_dropWork_d ⟨Nat.le_trans (by decide) hrm.1, Nat.le_trans (by decide) hrm.2⟩) (pvC 0 (by decide) (cE_0 cI cA a (_)) rfl hP hK hN) rfl rfl hl.1 rfl (lv_room (Nat.le_of_ble_eq_true rfl)) dX6_prefer_28 ⟨Nat.zero_le _, Nat.zero_le _⟩) hS (fun rv4 hRσ5 H locs hP hS => ?_)
      refine lv_aload hx hb dX6_prefer_31 (lv_at hl 0 rfl) ?_
      refine lv_iload_n hx hb dX6_prefer_33 rfl (lv_at hl 3 rfl) ?_
      refine lv_iload_n hx hb dX6_prefer_34 rfl (lv_at hl 4 rfl) ?_
      obtain ⟨v6, σ7, hv6, hf⟩ := bd2 hf
      refine x_callM (va_runV (As := [.int (iN x2), .int (iN x3)]) (rest := []) ⟨hx, hb, hml, hown, hts⟩ (kX2_add_2 l dC dI cI cA a hi σ5 x2 x3 (v6, σ7) hv6 hRσ5 rx2 rx3) (cwV 2 hts gX6_prefer_X2_add rfl rfl rfl hX2_add_d ⟨Nat.le_trans (by decide) hrm.1, Nat.le_trans (by decide) hrm.2⟩) (pvC 2 (by decide) (cE_2 cI cA a (_)) rfl hP hK hN) rfl rfl hl.1 rfl (lv_room (Nat.le_of_ble_eq_true rfl)) dX6_prefer_35 ⟨Nat.zero_le _, Nat.zero_le _⟩) hS (fun rv6 hRσ7 H locs hP hS => ?_)
      rw [← hQQ]
      exact x_iretM hx hb hr (Option.some.inj hf) rv6 hRσ7 hP hS hlocks dX6_prefer_38
    · replace hf := (if_pos c8).symm.trans hf
      refine lv_iconst (v := iN (-1)) hx hb dX6_prefer_25 rfl ?_
      rw [← hQQ]
      exact x_iretM hx hb hr (Option.some.inj hf) (by decide) hR hP hS hlocks dX6_prefer_26
  · replace hf := (if_neg c2).symm.trans hf
    by_cases c9 : v1 = 11
    · replace hf := (if_pos c9).symm.trans hf
      subst c9
      refine x_callR (va_runV (As := [.int (iN x1)]) (rest := []) ⟨hx, hb, hml, hown, hts⟩ (kX1_listsOf_1 l dC dI cI cA a σ x1 11 hv1 hR rx1) (cwV 1 hts gX6_prefer_X1_listsOf rfl rfl rfl hX1_listsOf_d ⟨Nat.le_trans (by decide) hrm.1, Nat.le_trans (by decide) hrm.2⟩) (pvC 1 (by decide) (cE_1 cI cA a (_)) rfl hP hK hN) rfl rfl hl.1 rfl (lv_room (Nat.le_of_ble_eq_true rfl)) dX6_prefer_5 ⟨Nat.zero_le _, Nat.zero_le _⟩) ?_
      refine W.eq (g2 := F0 m 8 ls [.ref (a 11)]) rfl ?_
      refine lv_astore (lv' := [(4, .ref (a 11)), (0, .ref (a 0)), (1, .int (iN x1)), (2, .int (iN x2)), (3, .int (iN x3))]) hx hb dX6_prefer_8 hl (by decide) rfl (fun ls hl => ?_)
      refine lv_aload hx hb dX6_prefer_10 (lv_at hl 0 rfl) ?_
      refine lv_ifnull hx hb dX6_prefer_12 ?_
      refine lv_aload hx hb dX6_prefer_15 (lv_at hl 0 rfl) ?_
      refine lv_iload_n hx hb dX6_prefer_17 rfl (lv_at hl 3 rfl) ?_
      refine lv_iload_n hx hb dX6_prefer_18 rfl (lv_at hl 4 rfl) ?_
      obtain ⟨v10, hv10, hf⟩ := bd hf
      refine x_callP (va_runV (As := [.int (iN x2), .int (iN x3)]) (rest := []) ⟨hx, hb, hml, hown, hts⟩ (kX2_canAdd_11 l dC dI cI cA a σ x2 x3 v10 hv10 hR rx2 rx3) (cwV 2 hts gX6_prefer_X2_canAdd rfl rfl rfl hX2_canAdd_d ⟨Nat.le_trans (by decide) hrm.1, Nat.le_trans (by decide) hrm.2⟩) (pvC 11 (by decide) (cE_11 cI cA a (_)) rfl hP hK hN) rfl rfl hl.1 rfl (lv_room (Nat.le_of_ble_eq_true rfl)) dX6_prefer_19 ⟨Nat.zero_le _, Nat.zero_le _⟩) (fun rv10 => ?_)
      refine x_if_ne (tgt := 27) hx hb rv10 dX6_prefer_22 (by decide) (fun c15 => ?_) (fun c15 => ?_)
      · replace hf := (if_neg c15).symm.trans hf
        refine lv_aload_n hx hb dX6_prefer_27 rfl (lv_at hl 1 rfl) ?_
        obtain ⟨v11, σ12, hv11, hf⟩ := bd2 hf
        refine x_callMv (va_runV (As := []) (rest := []) ⟨hx, hb, hml, hown, hts⟩ (kX6_dropWork_0 l dC dI cI cA a hi σ  (v11, σ12) hv11 hR ) (cwV 0 hts gX6_prefer_X6_dropWork rfl rfl rfl hX6_dropWork_d ⟨Nat.le_trans (by decide) hrm.1, Nat.le_trans (by decide) hrm.2⟩) (pvC 0 (by decide) (cE_0 cI cA a (_)) rfl hP hK hN) rfl rfl hl.1 rfl (lv_room (Nat.le_of_ble_eq_true rfl)) dX6_prefer_28 ⟨Nat.zero_le _, Nat.zero_le _⟩) hS (fun rv11 hRσ12 H locs hP hS => ?_)
        refine lv_aload hx hb dX6_prefer_31 (lv_at hl 0 rfl) ?_
        refine lv_iload_n hx hb dX6_prefer_33 rfl (lv_at hl 3 rfl) ?_
        refine lv_iload_n hx hb dX6_prefer_34 rfl (lv_at hl 4 rfl) ?_
        obtain ⟨v13, σ14, hv13, hf⟩ := bd2 hf
        refine x_callM (va_runV (As := [.int (iN x2), .int (iN x3)]) (rest := []) ⟨hx, hb, hml, hown, hts⟩ (kX2_add_11 l dC dI cI cA a hi σ12 x2 x3 (v13, σ14) hv13 hRσ12 rx2 rx3) (cwV 2 hts gX6_prefer_X2_add rfl rfl rfl hX2_add_d ⟨Nat.le_trans (by decide) hrm.1, Nat.le_trans (by decide) hrm.2⟩) (pvC 11 (by decide) (cE_11 cI cA a (_)) rfl hP hK hN) rfl rfl hl.1 rfl (lv_room (Nat.le_of_ble_eq_true rfl)) dX6_prefer_35 ⟨Nat.zero_le _, Nat.zero_le _⟩) hS (fun rv13 hRσ14 H locs hP hS => ?_)
        rw [← hQQ]
        exact x_iretM hx hb hr (Option.some.inj hf) rv13 hRσ14 hP hS hlocks dX6_prefer_38
      · replace hf := (if_pos c15).symm.trans hf
        refine lv_iconst (v := iN (-1)) hx hb dX6_prefer_25 rfl ?_
        rw [← hQQ]
        exact x_iretM hx hb hr (Option.some.inj hf) (by decide) hR hP hS hlocks dX6_prefer_26
    · replace hf := (if_neg c9).symm.trans hf
      by_cases c16 : v1 = (-1)
      · replace hf := (if_pos c16).symm.trans hf
        subst c16
        refine x_callR (va_runV (As := [.int (iN x1)]) (rest := []) ⟨hx, hb, hml, hown, hts⟩ (kX1_listsOf_1 l dC dI cI cA a σ x1 (-1) hv1 hR rx1) (cwV 1 hts gX6_prefer_X1_listsOf rfl rfl rfl hX1_listsOf_d ⟨Nat.le_trans (by decide) hrm.1, Nat.le_trans (by decide) hrm.2⟩) (pvC 1 (by decide) (cE_1 cI cA a (_)) rfl hP hK hN) rfl rfl hl.1 rfl (lv_room (Nat.le_of_ble_eq_true rfl)) dX6_prefer_5 ⟨Nat.zero_le _, Nat.zero_le _⟩) ?_
        refine W.eq (g2 := F0 m 8 ls [.null]) rfl ?_
        refine lv_astoreN (lv' := [(4, .null), (0, .ref (a 0)), (1, .int (iN x1)), (2, .int (iN x2)), (3, .int (iN x3))]) hx hb dX6_prefer_8 hl (by decide) rfl (fun ls hl => ?_)
        refine lv_aloadN hx hb dX6_prefer_10 (lv_at hl 0 rfl) ?_
        refine lv_ifnullN (tgt := 25) hx hb dX6_prefer_12 (by decide) ?_
        refine lv_iconst (v := iN (-1)) hx hb dX6_prefer_25 rfl ?_
        rw [← hQQ]
        exact x_iretM hx hb hr (Option.some.inj hf) (by decide) hR hP hS hlocks dX6_prefer_26
      · replace hf := (if_neg c16).symm.trans hf
        cases hf
def fJ7_fill_53178_c_r4_L5 (y0 : Int) (x1 : Int) (ex0 : Mem → Int → Option (Int × Mem)) : Nat → Mem → Int → Option (Int × Mem)
  | 0, _, _ => none
  | n0 + 1, σ2, v1 => if v1 < 6 then if (0 : Int) ≤ v1 ∧ (v1 : Int) < 6 then nx (mup σ2 (4 + y0.toNat) v1 x1) fun σ4 => if rng (v1 + 1) then fJ7_fill_53178_c_r4_L5 y0 x1 ex0 n0 σ4 (v1 + 1) else none else none else ex0 σ2 v1
def fJ7_fill_53178_c_r4 (σ : Mem) (y0 : Int) (x1 : Int) : Option (Int × Mem) := fJ7_fill_53178_c_r4_L5 y0 x1 (fun σ8 v7 => some (0, σ8)) FU σ 0
set_option maxHeartbeats 4000000 in
set_option maxRecDepth 100000 in
theorem kJ7_fill_53178_c_r4 (l : Launch) (dC : Nat → ClassId) (dI : Nat → Nat → Nat) (cI : ClassId) (cA : ClassId) (a : Nat → Nat) (hi : ∀ i j, i < 37 → j < 37 → a i = a j → i = j) (σ : Mem) (y0 : Int) (x1 : Int) (r : (Int × Mem)) (hf : fJ7_fill_53178_c_r4 σ y0 x1 = some r) (hR : Rg σ) (ry0 : 0 ≤ y0 ∧ y0 < 6) (rx1 : rng x1) : Met l yJ7_fill_53178 wsJ7_fill_53178 ({ frames := 0, cells := 0, slots := 0, locals := 0 }) (va_Pc [.ref (a (4 + y0.toNat)), .int (iN x1)] (preC dC dI cI cA a σ)) (qMv (dC, dI) (gw 37 a (cE cI cA a)) (gA 37 a) r) 0 0 (gA 37 a) := by
  refine Met.ofW (cc := cJ7_fill_53178) (maxL := 4) (ret := none) (by decide) rfl ?_
  intro p e s m args below meth c s₁ B hml hv
  obtain ⟨hargs, hP, hK, hN⟩ := hv
  have hx := B.exec
  have hb := B.bytes
  have hr := B.returns
  have hts := atoms_spec (ws := wsJ7_fill_53178) B.pre
  have hown : s.vm.findClass RJ7 = some m.cls := findClass_of_methodNamed B.named
  have hlocks := B.notSynchronized
  have hS : va_S (gA 37 a) s.heap s.heap [] := va_S.rf
  have hrm : 0 ≤ (headSpec wsJ7_fill_53178 ({ frames := 0, cells := 0, slots := 0, locals := 0 })).room.frames ∧ 0 ≤ (headSpec wsJ7_fill_53178 ({ frames := 0, cells := 0, slots := 0, locals := 0 })).room.locals := ⟨Nat.le_refl _, Nat.le_refl _⟩
  generalize (headSpec wsJ7_fill_53178 ({ frames := 0, cells := 0, slots := 0, locals := 0 })).room = RR at hrm ⊢
  have hl := lv_entry ([.ref (a (4 + y0.toNat)), .int (iN x1)]) (n := 4) (Nat.le_of_ble_eq_true rfl)
  rw [show entryFrame m args 4 = entryFrame m ([.ref (a (4 + y0.toNat)), .int (iN x1)] : List Value).toArray 4 from by rw [hargs], lg_entry_eq]
  generalize (lg_sl ([.ref (a (4 + y0.toNat)), .int (iN x1)]) ++ List.replicate (4 - (lg_sl ([.ref (a (4 + y0.toNat)), .int (iN x1)])).length) Slot.unset).toArray = ls at hl ⊢
  have hl : lv_has ls 4 [(0, .ref (a (4 + y0.toNat))), (1, .int (iN x1))] := hl
  generalize hQQ : MQ below (qMv (dC, dI) (gw 37 a (cE cI cA a)) (gA 37 a) r) args s 0 0 (gA 37 a) = QQ
  refine lv_iconst (v := iN 0) hx hb dJ7_fill_53178_0 rfl ?_
  refine lv_istore_n (lv' := [(2, .int (iN 0)), (0, .ref (a (4 + y0.toNat))), (1, .int (iN x1))]) hx hb dJ7_fill_53178_1 rfl hl (by decide) rfl (fun ls hl => ?_)
  refine lv_aload_n hx hb dJ7_fill_53178_2 rfl (lv_at hl 1 rfl) ?_
  refine va_alen (v := iN 6) hx hb hK hP (4 + y0.toNat) 0 (gw_at (4 + y0.toNat) (row_lt4 ry0) (cE_row4 cI cA a ry0 _)) rfl (show Int32.ofNat 6 = iN 6 by decide) dJ7_fill_53178_3 ?_
  refine lv_istore_n (lv' := [(3, .int (iN 6)), (2, .int (iN 0)), (0, .ref (a (4 + y0.toNat))), (1, .int (iN x1))]) hx hb dJ7_fill_53178_4 rfl hl (by decide) rfl (fun ls hl => ?_)
  have L_fJ7_fill_53178_c_r4_L5 : ∀ (EX0 : Mem → Int → Option (Int × Mem)), (∀ (σ2 : Mem) (v1 : Int), Rg σ2 → rng v1 → EX0 σ2 v1 = some r → ∀ H locs ls, va_P (dC, dI) vwCl (gw 37 a (cE cI cA a) σ2) H → va_S (gA 37 a) s.heap H locs → lv_has ls 4 [(0, .ref (a (4 + y0.toNat))), (1, .int (iN x1)), (2, .int (iN v1)), (3, .int (iN 6))] → W p l e RR s m args below meth c H locs 0 0 QQ (F0 m 20 ls [])) → ∀ n0 : Nat, ∀ (σ2 : Mem) (v1 : Int), Rg σ2 → rng v1 → fJ7_fill_53178_c_r4_L5 y0 x1 EX0 n0 σ2 v1 = some r → ∀ H locs ls, va_P (dC, dI) vwCl (gw 37 a (cE cI cA a) σ2) H → va_S (gA 37 a) s.heap H locs → lv_has ls 4 [(0, .ref (a (4 + y0.toNat))), (1, .int (iN x1)), (2, .int (iN v1)), (3, .int (iN 6))] → W p l e RR s m args below meth c H locs 0 0 QQ (F0 m 5 ls []) := by
    intro EX0 hEX0 n0
    induction n0 with
    | zero => intro _ _ _ _ hf; cases hf
    | succ n0 ih0 =>
      intro σ2 v1 hRσ2 rv1 hf H locs ls hP hS hl
      rw [fJ7_fill_53178_c_r4_L5] at hf
      refine lv_iload_n hx hb dJ7_fill_53178_5 rfl (lv_at hl 2 rfl) ?_
      refine lv_iload_n hx hb dJ7_fill_53178_6 rfl (lv_at hl 3 rfl) ?_
      refine x_icmp_ge (tgt := 20) hx hb rv1 (by decide) dJ7_fill_53178_7 (by decide) (fun c6 => ?_) (fun c6 => ?_)
      · replace hf := (if_neg c6).symm.trans hf
        exact hEX0 _ _ hRσ2 rv1 hf _ _ _ hP hS (lv_sub hl [0, 1, 2, 3] rfl)
      · replace hf := (if_pos c6).symm.trans hf
        refine lv_aload_n hx hb dJ7_fill_53178_10 rfl (lv_at hl 0 rfl) ?_
        refine lv_iload_n hx hb dJ7_fill_53178_11 rfl (lv_at hl 2 rfl) ?_
        refine lv_iload_n hx hb dJ7_fill_53178_12 rfl (lv_at hl 1 rfl) ?_
        obtain ⟨g3, hf⟩ := gd hf
        obtain ⟨σ4, hσ4, hf⟩ := nxe hf
        refine x_iast (x := x1) hx hb hi hK hP hS (4 + y0.toNat) 0 (row_lt4 ry0) (cE_row4 cI cA a ry0) (by decide) rfl g3 dJ7_fill_53178_13 (fun H locs hP hS => ?_)
        rw [← hσ4] at hP
        have hRσ4 : Rg σ4 := by rw [hσ4]; exact Rg_up hRσ2 rx1
        obtain ⟨g5, hf⟩ := gd hf
        refine lv_iinc (v := iN (v1 + 1)) (lv' := [(2, .int (iN (v1 + 1))), (0, .ref (a (4 + y0.toNat))), (1, .int (iN x1)), (3, .int (iN 6))]) hx hb dJ7_fill_53178_14 hl (k := 2) rfl (iN_add v1 1) (by decide) rfl (fun ls hl => ?_)
        refine lv_goto (tgt := 5) hx hb dJ7_fill_53178_17 (by decide) ?_
        exact ih0 _ _ hRσ4 g5 hf _ _ _ hP hS (lv_sub hl [1, 2, 0, 3] rfl)
  refine L_fJ7_fill_53178_c_r4_L5 _ (fun σ8 v7 hRσ8 rv7 hf H locs ls hP hS hl => ?_) _ _ _ hR (by decide) hf _ _ _ hP hS (lv_sub hl [2, 3, 1, 0] rfl)
  rw [← hQQ]
  exact x_vretM hx hb hr (Option.some.inj hf) hRσ8 hP hS hlocks dJ7_fill_53178_20
def fX2_empty_2 (σ : Mem) (x1 : Int) : Option (Int × Mem) := if (0 : Int) ≤ x1 ∧ (x1 : Int) < 6 then if (0 : Int) ≤ x1 ∧ (x1 : Int) < 6 then bnd2 (fJ7_fill_53178_c_r4 σ x1 (-1)) fun v3 σ4 => if (0 : Int) ≤ x1 ∧ (x1 : Int) < 6 then nx (mup σ4 10 x1 0) fun σ6 => some ((σ 10 x1), σ6) else none else none else none
set_option maxHeartbeats 4000000 in
set_option maxRecDepth 100000 in
theorem kX2_empty_2 (l : Launch) (dC : Nat → ClassId) (dI : Nat → Nat → Nat) (cI : ClassId) (cA : ClassId) (a : Nat → Nat) (hi : ∀ i j, i < 37 → j < 37 → a i = a j → i = j) (σ : Mem) (x1 : Int) (r : (Int × Mem)) (hf : fX2_empty_2 σ x1 = some r) (hR : Rg σ) (rx1 : rng x1) : Met l yX2_empty wsX2_empty ({ frames := 1, cells := 0, slots := 0, locals := 23 }) (va_Pc [.ref (a 2), .int (iN x1)] (preC dC dI cI cA a σ)) (qM (dC, dI) (gw 37 a (cE cI cA a)) (gA 37 a) r) 0 0 (gA 37 a) := by
  refine Met.ofW (cc := cX2_empty) (maxL := 3) (ret := (some .int)) (by decide) rfl ?_
  intro p e s m args below meth c s₁ B hml hv
  obtain ⟨hargs, hP, hK, hN⟩ := hv
  have hx := B.exec
  have hb := B.bytes
  have hr := B.returns
  have hts := atoms_spec (ws := wsX2_empty) B.pre
  have hown : s.vm.findClass RX2 = some m.cls := findClass_of_methodNamed B.named
  have hlocks := B.notSynchronized
  have hS : va_S (gA 37 a) s.heap s.heap [] := va_S.rf
  have iX2 : ∀ w ∈ wsX20, w ∈ wsX2_empty := by decide +kernel
  have fl11 := hts (.fieldLink RX2 11 "MatchHall$Lists" "places" "[[I") (by decide +kernel)
  have fl16 := hts (.fieldLink RX2 16 "MatchHall$Lists" "sizes" "[I") (by decide +kernel)
  have hrm : 1 ≤ (headSpec wsX2_empty ({ frames := 1, cells := 0, slots := 0, locals := 23 })).room.frames ∧ 23 ≤ (headSpec wsX2_empty ({ frames := 1, cells := 0, slots := 0, locals := 23 })).room.locals := ⟨Nat.le_refl _, Nat.le_refl _⟩
  generalize (headSpec wsX2_empty ({ frames := 1, cells := 0, slots := 0, locals := 23 })).room = RR at hrm ⊢
  have hl := lv_entry ([.ref (a 2), .int (iN x1)]) (n := 3) (Nat.le_of_ble_eq_true rfl)
  rw [show entryFrame m args 3 = entryFrame m ([.ref (a 2), .int (iN x1)] : List Value).toArray 3 from by rw [hargs], lg_entry_eq]
  generalize (lg_sl ([.ref (a 2), .int (iN x1)]) ++ List.replicate (3 - (lg_sl ([.ref (a 2), .int (iN x1)])).length) Slot.unset).toArray = ls at hl ⊢
  have hl : lv_has ls 3 [(0, .ref (a 2)), (1, .int (iN x1))] := hl
  generalize hQQ : MQ below (qM (dC, dI) (gw 37 a (cE cI cA a)) (gA 37 a) r) args s 0 0 (gA 37 a) = QQ
  refine lv_aload_n hx hb dX2_empty_0 rfl (lv_at hl 0 rfl) ?_
  refine x_get (C := RX2) (T := TX2) (NF := 4) (v := .ref (a 10)) hx hb hts iX2 hown hK hP 2 (by decide) (cE_2 cI cA a (_)) rfl 1 (by decide) fl16 rfl dX2_empty_1 ?_
  refine lv_iload_n hx hb dX2_empty_4 rfl (lv_at hl 1 rfl) ?_
  obtain ⟨g1, hf⟩ := gd hf
  refine x_iald hx hb hK hP 10 0 (by decide) (cE_10 cI cA a (_)) (by decide) rfl g1 dX2_empty_5 ?_
  refine lv_istore_n (lv' := [(2, .int (iN (σ 10 x1))), (0, .ref (a 2)), (1, .int (iN x1))]) hx hb dX2_empty_6 rfl hl (by decide) rfl (fun ls hl => ?_)
  refine lv_aload_n hx hb dX2_empty_7 rfl (lv_at hl 1 rfl) ?_
  refine x_get (C := RX2) (T := TX2) (NF := 4) (v := .ref (a 3)) hx hb hts iX2 hown hK hP 2 (by decide) (cE_2 cI cA a (_)) rfl 0 (by decide) fl11 rfl dX2_empty_8 ?_
  refine lv_iload_n hx hb dX2_empty_11 rfl (lv_at hl 2 rfl) ?_
  obtain ⟨g2, hf⟩ := gd hf
  refine x_aald hx hb hK hP 3 1 (by decide) (cE_3 cI cA a (_)) (by decide) rfl g2 (row_f4 a g2) dX2_empty_12 ?_
  refine lv_iconst (v := iN (-1)) hx hb dX2_empty_13 rfl ?_
  obtain ⟨v3, σ4, hv3, hf⟩ := bd2 hf
  refine x_callMv (va_runS (As := [.ref (a (4 + x1.toNat)), .int (iN (-1))]) (rest := []) ⟨hx, hb, hml, hown, hts⟩ (kJ7_fill_53178_c_r4 l dC dI cI cA a hi σ x1 (-1) (v3, σ4) hv3 hR g2 (by decide)) (va_cwS 2 hts gX2_empty_J7_fill_53178 rfl rfl rfl hJ7_fill_53178_d ⟨Nat.le_trans (by decide) hrm.1, Nat.le_trans (by decide) hrm.2⟩) (psC hP hK hN) rfl rfl hl.1 rfl (lv_room (Nat.le_of_ble_eq_true rfl)) dX2_empty_14 ⟨Nat.zero_le _, Nat.zero_le _⟩) hS (fun rv3 hRσ4 H locs hP hS => ?_)
  refine lv_aload_n hx hb dX2_empty_17 rfl (lv_at hl 1 rfl) ?_
  refine x_get (C := RX2) (T := TX2) (NF := 4) (v := .ref (a 10)) hx hb hts iX2 hown hK hP 2 (by decide) (cE_2 cI cA a (_)) rfl 1 (by decide) fl16 rfl dX2_empty_18 ?_
  refine lv_iload_n hx hb dX2_empty_21 rfl (lv_at hl 2 rfl) ?_
  refine lv_iconst (v := iN 0) hx hb dX2_empty_22 rfl ?_
  obtain ⟨g5, hf⟩ := gd hf
  obtain ⟨σ6, hσ6, hf⟩ := nxe hf
  refine x_iast (x := 0) hx hb hi hK hP hS 10 0 (by decide) (cE_10 cI cA a) (by decide) rfl g5 dX2_empty_23 (fun H locs hP hS => ?_)
  rw [← hσ6] at hP
  have hRσ6 : Rg σ6 := by rw [hσ6]; exact Rg_up hRσ4 (by decide)
  refine lv_iload_n hx hb dX2_empty_24 rfl (lv_at hl 0 rfl) ?_
  rw [← hQQ]
  exact x_iretM hx hb hr (Option.some.inj hf) (hR 10 x1) hRσ6 hP hS hlocks dX2_empty_25
def fJ7_fill_53178_c_r13_L5 (y0 : Int) (x1 : Int) (ex0 : Mem → Int → Option (Int × Mem)) : Nat → Mem → Int → Option (Int × Mem)
  | 0, _, _ => none
  | n0 + 1, σ2, v1 => if v1 < 6 then if (0 : Int) ≤ v1 ∧ (v1 : Int) < 6 then nx (mup σ2 (13 + y0.toNat) v1 x1) fun σ4 => if rng (v1 + 1) then fJ7_fill_53178_c_r13_L5 y0 x1 ex0 n0 σ4 (v1 + 1) else none else none else ex0 σ2 v1
def fJ7_fill_53178_c_r13 (σ : Mem) (y0 : Int) (x1 : Int) : Option (Int × Mem) := fJ7_fill_53178_c_r13_L5 y0 x1 (fun σ8 v7 => some (0, σ8)) FU σ 0
set_option maxHeartbeats 4000000 in
set_option maxRecDepth 100000 in
theorem kJ7_fill_53178_c_r13 (l : Launch) (dC : Nat → ClassId) (dI : Nat → Nat → Nat) (cI : ClassId) (cA : ClassId) (a : Nat → Nat) (hi : ∀ i j, i < 37 → j < 37 → a i = a j → i = j) (σ : Mem) (y0 : Int) (x1 : Int) (r : (Int × Mem)) (hf : fJ7_fill_53178_c_r13 σ y0 x1 = some r) (hR : Rg σ) (ry0 : 0 ≤ y0 ∧ y0 < 6) (rx1 : rng x1) : Met l yJ7_fill_53178 wsJ7_fill_53178 ({ frames := 0, cells := 0, slots := 0, locals := 0 }) (va_Pc [.ref (a (13 + y0.toNat)), .int (iN x1)] (preC dC dI cI cA a σ)) (qMv (dC, dI) (gw 37 a (cE cI cA a)) (gA 37 a) r) 0 0 (gA 37 a) := by
  refine Met.ofW (cc := cJ7_fill_53178) (maxL := 4) (ret := none) (by decide) rfl ?_
  intro p e s m args below meth c s₁ B hml hv
  obtain ⟨hargs, hP, hK, hN⟩ := hv
  have hx := B.exec
  have hb := B.bytes
  have hr := B.returns
  have hts := atoms_spec (ws := wsJ7_fill_53178) B.pre
  have hown : s.vm.findClass RJ7 = some m.cls := findClass_of_methodNamed B.named
  have hlocks := B.notSynchronized
  have hS : va_S (gA 37 a) s.heap s.heap [] := va_S.rf
  have hrm : 0 ≤ (headSpec wsJ7_fill_53178 ({ frames := 0, cells := 0, slots := 0, locals := 0 })).room.frames ∧ 0 ≤ (headSpec wsJ7_fill_53178 ({ frames := 0, cells := 0, slots := 0, locals := 0 })).room.locals := ⟨Nat.le_refl _, Nat.le_refl _⟩
  generalize (headSpec wsJ7_fill_53178 ({ frames := 0, cells := 0, slots := 0, locals := 0 })).room = RR at hrm ⊢
  have hl := lv_entry ([.ref (a (13 + y0.toNat)), .int (iN x1)]) (n := 4) (Nat.le_of_ble_eq_true rfl)
  rw [show entryFrame m args 4 = entryFrame m ([.ref (a (13 + y0.toNat)), .int (iN x1)] : List Value).toArray 4 from by rw [hargs], lg_entry_eq]
  generalize (lg_sl ([.ref (a (13 + y0.toNat)), .int (iN x1)]) ++ List.replicate (4 - (lg_sl ([.ref (a (13 + y0.toNat)), .int (iN x1)])).length) Slot.unset).toArray = ls at hl ⊢
  have hl : lv_has ls 4 [(0, .ref (a (13 + y0.toNat))), (1, .int (iN x1))] := hl
  generalize hQQ : MQ below (qMv (dC, dI) (gw 37 a (cE cI cA a)) (gA 37 a) r) args s 0 0 (gA 37 a) = QQ
  refine lv_iconst (v := iN 0) hx hb dJ7_fill_53178_0 rfl ?_
  refine lv_istore_n (lv' := [(2, .int (iN 0)), (0, .ref (a (13 + y0.toNat))), (1, .int (iN x1))]) hx hb dJ7_fill_53178_1 rfl hl (by decide) rfl (fun ls hl => ?_)
  refine lv_aload_n hx hb dJ7_fill_53178_2 rfl (lv_at hl 1 rfl) ?_
  refine va_alen (v := iN 6) hx hb hK hP (13 + y0.toNat) 0 (gw_at (13 + y0.toNat) (row_lt13 ry0) (cE_row13 cI cA a ry0 _)) rfl (show Int32.ofNat 6 = iN 6 by decide) dJ7_fill_53178_3 ?_
  refine lv_istore_n (lv' := [(3, .int (iN 6)), (2, .int (iN 0)), (0, .ref (a (13 + y0.toNat))), (1, .int (iN x1))]) hx hb dJ7_fill_53178_4 rfl hl (by decide) rfl (fun ls hl => ?_)
  have L_fJ7_fill_53178_c_r13_L5 : ∀ (EX0 : Mem → Int → Option (Int × Mem)), (∀ (σ2 : Mem) (v1 : Int), Rg σ2 → rng v1 → EX0 σ2 v1 = some r → ∀ H locs ls, va_P (dC, dI) vwCl (gw 37 a (cE cI cA a) σ2) H → va_S (gA 37 a) s.heap H locs → lv_has ls 4 [(0, .ref (a (13 + y0.toNat))), (1, .int (iN x1)), (2, .int (iN v1)), (3, .int (iN 6))] → W p l e RR s m args below meth c H locs 0 0 QQ (F0 m 20 ls [])) → ∀ n0 : Nat, ∀ (σ2 : Mem) (v1 : Int), Rg σ2 → rng v1 → fJ7_fill_53178_c_r13_L5 y0 x1 EX0 n0 σ2 v1 = some r → ∀ H locs ls, va_P (dC, dI) vwCl (gw 37 a (cE cI cA a) σ2) H → va_S (gA 37 a) s.heap H locs → lv_has ls 4 [(0, .ref (a (13 + y0.toNat))), (1, .int (iN x1)), (2, .int (iN v1)), (3, .int (iN 6))] → W p l e RR s m args below meth c H locs 0 0 QQ (F0 m 5 ls []) := by
    intro EX0 hEX0 n0
    induction n0 with
    | zero => intro _ _ _ _ hf; cases hf
    | succ n0 ih0 =>
      intro σ2 v1 hRσ2 rv1 hf H locs ls hP hS hl
      rw [fJ7_fill_53178_c_r13_L5] at hf
      refine lv_iload_n hx hb dJ7_fill_53178_5 rfl (lv_at hl 2 rfl) ?_
      refine lv_iload_n hx hb dJ7_fill_53178_6 rfl (lv_at hl 3 rfl) ?_
      refine x_icmp_ge (tgt := 20) hx hb rv1 (by decide) dJ7_fill_53178_7 (by decide) (fun c6 => ?_) (fun c6 => ?_)
      · replace hf := (if_neg c6).symm.trans hf
        exact hEX0 _ _ hRσ2 rv1 hf _ _ _ hP hS (lv_sub hl [0, 1, 2, 3] rfl)
      · replace hf := (if_pos c6).symm.trans hf
        refine lv_aload_n hx hb dJ7_fill_53178_10 rfl (lv_at hl 0 rfl) ?_
        refine lv_iload_n hx hb dJ7_fill_53178_11 rfl (lv_at hl 2 rfl) ?_
        refine lv_iload_n hx hb dJ7_fill_53178_12 rfl (lv_at hl 1 rfl) ?_
        obtain ⟨g3, hf⟩ := gd hf
        obtain ⟨σ4, hσ4, hf⟩ := nxe hf
        refine x_iast (x := x1) hx hb hi hK hP hS (13 + y0.toNat) 0 (row_lt13 ry0) (cE_row13 cI cA a ry0) (by decide) rfl g3 dJ7_fill_53178_13 (fun H locs hP hS => ?_)
        rw [← hσ4] at hP
        have hRσ4 : Rg σ4 := by rw [hσ4]; exact Rg_up hRσ2 rx1
        obtain ⟨g5, hf⟩ := gd hf
        refine lv_iinc (v := iN (v1 + 1)) (lv' := [(2, .int (iN (v1 + 1))), (0, .ref (a (13 + y0.toNat))), (1, .int (iN x1)), (3, .int (iN 6))]) hx hb dJ7_fill_53178_14 hl (k := 2) rfl (iN_add v1 1) (by decide) rfl (fun ls hl => ?_)
        refine lv_goto (tgt := 5) hx hb dJ7_fill_53178_17 (by decide) ?_
        exact ih0 _ _ hRσ4 g5 hf _ _ _ hP hS (lv_sub hl [1, 2, 0, 3] rfl)
  refine L_fJ7_fill_53178_c_r13_L5 _ (fun σ8 v7 hRσ8 rv7 hf H locs ls hP hS hl => ?_) _ _ _ hR (by decide) hf _ _ _ hP hS (lv_sub hl [2, 3, 1, 0] rfl)
  rw [← hQQ]
  exact x_vretM hx hb hr (Option.some.inj hf) hRσ8 hP hS hlocks dJ7_fill_53178_20
def fX2_empty_11 (σ : Mem) (x1 : Int) : Option (Int × Mem) := if (0 : Int) ≤ x1 ∧ (x1 : Int) < 6 then if (0 : Int) ≤ x1 ∧ (x1 : Int) < 6 then bnd2 (fJ7_fill_53178_c_r13 σ x1 (-1)) fun v3 σ4 => if (0 : Int) ≤ x1 ∧ (x1 : Int) < 6 then nx (mup σ4 19 x1 0) fun σ6 => some ((σ 19 x1), σ6) else none else none else none
set_option maxHeartbeats 4000000 in
set_option maxRecDepth 100000 in
theorem kX2_empty_11 (l : Launch) (dC : Nat → ClassId) (dI : Nat → Nat → Nat) (cI : ClassId) (cA : ClassId) (a : Nat → Nat) (hi : ∀ i j, i < 37 → j < 37 → a i = a j → i = j) (σ : Mem) (x1 : Int) (r : (Int × Mem)) (hf : fX2_empty_11 σ x1 = some r) (hR : Rg σ) (rx1 : rng x1) : Met l yX2_empty wsX2_empty ({ frames := 1, cells := 0, slots := 0, locals := 23 }) (va_Pc [.ref (a 11), .int (iN x1)] (preC dC dI cI cA a σ)) (qM (dC, dI) (gw 37 a (cE cI cA a)) (gA 37 a) r) 0 0 (gA 37 a) := by
  refine Met.ofW (cc := cX2_empty) (maxL := 3) (ret := (some .int)) (by decide) rfl ?_
  intro p e s m args below meth c s₁ B hml hv
  obtain ⟨hargs, hP, hK, hN⟩ := hv
  have hx := B.exec
  have hb := B.bytes
  have hr := B.returns
  have hts := atoms_spec (ws := wsX2_empty) B.pre
  have hown : s.vm.findClass RX2 = some m.cls := findClass_of_methodNamed B.named
  have hlocks := B.notSynchronized
  have hS : va_S (gA 37 a) s.heap s.heap [] := va_S.rf
  have iX2 : ∀ w ∈ wsX20, w ∈ wsX2_empty := by decide +kernel
  have fl11 := hts (.fieldLink RX2 11 "MatchHall$Lists" "places" "[[I") (by decide +kernel)
  have fl16 := hts (.fieldLink RX2 16 "MatchHall$Lists" "sizes" "[I") (by decide +kernel)
  have hrm : 1 ≤ (headSpec wsX2_empty ({ frames := 1, cells := 0, slots := 0, locals := 23 })).room.frames ∧ 23 ≤ (headSpec wsX2_empty ({ frames := 1, cells := 0, slots := 0, locals := 23 })).room.locals := ⟨Nat.le_refl _, Nat.le_refl _⟩
  generalize (headSpec wsX2_empty ({ frames := 1, cells := 0, slots := 0, locals := 23 })).room = RR at hrm ⊢
  have hl := lv_entry ([.ref (a 11), .int (iN x1)]) (n := 3) (Nat.le_of_ble_eq_true rfl)
  rw [show entryFrame m args 3 = entryFrame m ([.ref (a 11), .int (iN x1)] : List Value).toArray 3 from by rw [hargs], lg_entry_eq]
  generalize (lg_sl ([.ref (a 11), .int (iN x1)]) ++ List.replicate (3 - (lg_sl ([.ref (a 11), .int (iN x1)])).length) Slot.unset).toArray = ls at hl ⊢
  have hl : lv_has ls 3 [(0, .ref (a 11)), (1, .int (iN x1))] := hl
  generalize hQQ : MQ below (qM (dC, dI) (gw 37 a (cE cI cA a)) (gA 37 a) r) args s 0 0 (gA 37 a) = QQ
  refine lv_aload_n hx hb dX2_empty_0 rfl (lv_at hl 0 rfl) ?_
  refine x_get (C := RX2) (T := TX2) (NF := 4) (v := .ref (a 19)) hx hb hts iX2 hown hK hP 11 (by decide) (cE_11 cI cA a (_)) rfl 1 (by decide) fl16 rfl dX2_empty_1 ?_
  refine lv_iload_n hx hb dX2_empty_4 rfl (lv_at hl 1 rfl) ?_
  obtain ⟨g1, hf⟩ := gd hf
  refine x_iald hx hb hK hP 19 0 (by decide) (cE_19 cI cA a (_)) (by decide) rfl g1 dX2_empty_5 ?_
  refine lv_istore_n (lv' := [(2, .int (iN (σ 19 x1))), (0, .ref (a 11)), (1, .int (iN x1))]) hx hb dX2_empty_6 rfl hl (by decide) rfl (fun ls hl => ?_)
  refine lv_aload_n hx hb dX2_empty_7 rfl (lv_at hl 1 rfl) ?_
  refine x_get (C := RX2) (T := TX2) (NF := 4) (v := .ref (a 12)) hx hb hts iX2 hown hK hP 11 (by decide) (cE_11 cI cA a (_)) rfl 0 (by decide) fl11 rfl dX2_empty_8 ?_
  refine lv_iload_n hx hb dX2_empty_11 rfl (lv_at hl 2 rfl) ?_
  obtain ⟨g2, hf⟩ := gd hf
  refine x_aald hx hb hK hP 12 1 (by decide) (cE_12 cI cA a (_)) (by decide) rfl g2 (row_f13 a g2) dX2_empty_12 ?_
  refine lv_iconst (v := iN (-1)) hx hb dX2_empty_13 rfl ?_
  obtain ⟨v3, σ4, hv3, hf⟩ := bd2 hf
  refine x_callMv (va_runS (As := [.ref (a (13 + x1.toNat)), .int (iN (-1))]) (rest := []) ⟨hx, hb, hml, hown, hts⟩ (kJ7_fill_53178_c_r13 l dC dI cI cA a hi σ x1 (-1) (v3, σ4) hv3 hR g2 (by decide)) (va_cwS 2 hts gX2_empty_J7_fill_53178 rfl rfl rfl hJ7_fill_53178_d ⟨Nat.le_trans (by decide) hrm.1, Nat.le_trans (by decide) hrm.2⟩) (psC hP hK hN) rfl rfl hl.1 rfl (lv_room (Nat.le_of_ble_eq_true rfl)) dX2_empty_14 ⟨Nat.zero_le _, Nat.zero_le _⟩) hS (fun rv3 hRσ4 H locs hP hS => ?_)
  refine lv_aload_n hx hb dX2_empty_17 rfl (lv_at hl 1 rfl) ?_
  refine x_get (C := RX2) (T := TX2) (NF := 4) (v := .ref (a 19)) hx hb hts iX2 hown hK hP 11 (by decide) (cE_11 cI cA a (_)) rfl 1 (by decide) fl16 rfl dX2_empty_18 ?_
  refine lv_iload_n hx hb dX2_empty_21 rfl (lv_at hl 2 rfl) ?_
  refine lv_iconst (v := iN 0) hx hb dX2_empty_22 rfl ?_
  obtain ⟨g5, hf⟩ := gd hf
  obtain ⟨σ6, hσ6, hf⟩ := nxe hf
  refine x_iast (x := 0) hx hb hi hK hP hS 19 0 (by decide) (cE_19 cI cA a) (by decide) rfl g5 dX2_empty_23 (fun H locs hP hS => ?_)
  rw [← hσ6] at hP
  have hRσ6 : Rg σ6 := by rw [hσ6]; exact Rg_up hRσ4 (by decide)
  refine lv_iload_n hx hb dX2_empty_24 rfl (lv_at hl 0 rfl) ?_
  rw [← hQQ]
  exact x_iretM hx hb hr (Option.some.inj hf) (hR 19 x1) hRσ6 hP hS hlocks dX2_empty_25
