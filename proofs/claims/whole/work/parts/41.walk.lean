def fX7_tell_0 (σ : Mem) (x1 : Int) (x2 : Int) : Option (Int × Mem) := if rng ((σ 0 1) - 1) then (fX7_in σ x1 0 ((σ 0 1) - 1)).bind fun v2 => if v2 = 0 then nx (mup σ 0 0 1) fun σ3 => if (σ3 0 0) = 0 then if (0 : Int) ≤ x1 ∧ (x1 : Int) < 6 then nx (mup σ3 4 x1 x2) fun σ5 => some (0, σ5) else none else some (0, σ3) else if x2 = (-1) then nx (mup σ 0 0 0) fun σ7 => if (σ7 0 0) = 0 then if (0 : Int) ≤ x1 ∧ (x1 : Int) < 6 then nx (mup σ7 4 x1 x2) fun σ9 => some (0, σ9) else none else some (0, σ7) else if rng ((σ 0 2) - 1) then (fX7_in σ x2 0 ((σ 0 2) - 1)).bind fun v12 => if v12 = 0 then nx (mup σ 0 0 1) fun σ17 => if (σ17 0 0) = 0 then if (0 : Int) ≤ x1 ∧ (x1 : Int) < 6 then nx (mup σ17 4 x1 x2) fun σ19 => some (0, σ19) else none else some (0, σ17) else nx (mup σ 0 0 0) fun σ13 => if (σ13 0 0) = 0 then if (0 : Int) ≤ x1 ∧ (x1 : Int) < 6 then nx (mup σ13 4 x1 x2) fun σ15 => some (0, σ15) else none else some (0, σ13) else none else none
set_option maxHeartbeats 4000000 in
set_option maxRecDepth 100000 in
theorem kX7_tell_0 (l : Launch) (dC : Nat → ClassId) (dI : Nat → Nat → Nat) (cI : ClassId) (a : Nat → Nat) (hi : ∀ i j, i < 12 → j < 12 → a i = a j → i = j) (σ : Mem) (x1 : Int) (x2 : Int) (r : (Int × Mem)) (hf : fX7_tell_0 σ x1 x2 = some r) (hR : Rg σ) (rx1 : rng x1) (rx2 : rng x2) : Met l yX7_tell wsX7_tell ({ frames := 1, cells := 0, slots := 0, locals := 22 }) (va_Pc [.ref (a 0), .int (iN x1), .int (iN x2)] (preM dC dI cI a σ)) (qMv (dC, dI) (gw 12 a (mE cI a)) (gA 12 a) r) 0 0 (gA 12 a) := by
  refine Met.ofW (cc := cX7_tell) (maxL := 3) (ret := none) (by decide) rfl ?_
  intro p e s m args below meth c s₁ B hml hv
  obtain ⟨hargs, hP, hK⟩ := hv
  have hx := B.exec
  have hb := B.bytes
  have hr := B.returns
  have hts := atoms_spec (ws := wsX7_tell) B.pre
  have hown : s.vm.findClass RX7 = some m.cls := findClass_of_methodNamed B.named
  have hlocks := B.notSynchronized
  have hS : va_S (gA 12 a) s.heap s.heap [] := va_S.rf
  have iX7 : ∀ w ∈ wsX70, w ∈ wsX7_tell := by decide +kernel
  have fl13 := hts (.fieldLink RX7 13 "MatchHallModel" "hospitals" "I") (by decide +kernel)
  have fl26 := hts (.fieldLink RX7 26 "MatchHallModel" "told" "[I") (by decide +kernel)
  have fl58 := hts (.fieldLink RX7 58 "MatchHallModel" "code" "I") (by decide +kernel)
  have fl7 := hts (.fieldLink RX7 7 "MatchHallModel" "residents" "I") (by decide +kernel)
  have hrm : 1 ≤ (headSpec wsX7_tell ({ frames := 1, cells := 0, slots := 0, locals := 22 })).room.frames ∧ 22 ≤ (headSpec wsX7_tell ({ frames := 1, cells := 0, slots := 0, locals := 22 })).room.locals := ⟨Nat.le_refl _, Nat.le_refl _⟩
  generalize (headSpec wsX7_tell ({ frames := 1, cells := 0, slots := 0, locals := 22 })).room = RR at hrm ⊢
  have hl := lv_entry ([.ref (a 0), .int (iN x1), .int (iN x2)]) (n := 3) (Nat.le_of_ble_eq_true rfl)
  rw [show entryFrame m args 3 = entryFrame m ([.ref (a 0), .int (iN x1), .int (iN x2)] : List Value).toArray 3 from by rw [hargs], lg_entry_eq]
  generalize (lg_sl ([.ref (a 0), .int (iN x1), .int (iN x2)]) ++ List.replicate (3 - (lg_sl ([.ref (a 0), .int (iN x1), .int (iN x2)])).length) Slot.unset).toArray = ls at hl ⊢
  have hl : lv_has ls 3 [(0, .ref (a 0)), (1, .int (iN x1)), (2, .int (iN x2))] := hl
  generalize hQQ : MQ below (qMv (dC, dI) (gw 12 a (mE cI a)) (gA 12 a) r) args s 0 0 (gA 12 a) = QQ
  refine lv_aload_n hx hb dX7_tell_0 rfl (lv_at hl 0 rfl) ?_
  refine lv_iload_n hx hb dX7_tell_1 rfl (lv_at hl 1 rfl) ?_
  refine lv_iconst (v := iN 0) hx hb dX7_tell_2 rfl ?_
  refine lv_aload_n hx hb dX7_tell_3 rfl (lv_at hl 0 rfl) ?_
  refine x_get (C := RX7) (T := TX7) (NF := 17) (v := .int (iN (σ 0 1))) hx hb hts iX7 hown hK hP 0 (by decide) (mE_0 cI a (_)) rfl 1 (by decide) fl7 rfl dX7_tell_4 ?_
  refine lv_iconst (v := iN 1) hx hb dX7_tell_7 rfl ?_
  obtain ⟨g1, hf⟩ := gd hf
  refine x_isub hx hb dX7_tell_8 ?_
  obtain ⟨v2, hv2, hf⟩ := bd hf
  refine x_callP (va_runS (As := [.int (iN x1), .int (iN 0), .int (iN ((σ 0 1) - 1))]) (rest := [.ref (a 0)]) ⟨hx, hb, hml, hown, hts⟩ (kX7_in l dC dI cI a σ x1 0 ((σ 0 1) - 1) v2 hv2 hR rx1 (by decide) g1) (va_cwS 3 hts gX7_tell_X7_in rfl rfl rfl hX7_in_d ⟨Nat.le_trans (by decide) hrm.1, Nat.le_trans (by decide) hrm.2⟩) (psM hP hK) rfl rfl hl.1 rfl (lv_room (Nat.le_of_ble_eq_true rfl)) dX7_tell_9 ⟨Nat.zero_le _, Nat.zero_le _⟩) (fun rv2 => ?_)
  refine x_if_eq (tgt := 34) hx hb rv2 dX7_tell_12 (by decide) (fun c23 => ?_) (fun c23 => ?_)
  · replace hf := (if_pos c23).symm.trans hf
    refine lv_iconst (v := iN 1) hx hb dX7_tell_34 rfl ?_
    refine lv_goto (tgt := 39) hx hb dX7_tell_35 (by decide) ?_
    obtain ⟨σ3, hσ3, hf⟩ := nxe hf
    refine x_put (C := RX7) (T := TX7) (NF := 17) (x := 1) (ty := .int) hx hb hts iX7 tyX7 tyX7_ok nmX7 hi hown hK hP hS 0 (by decide) (mE_0 cI a (_)) rfl 0 0 (by decide) fl58 rfl (by decide +kernel) rfl rfl (Nat.le_of_ble_eq_true rfl) rfl dX7_tell_39 (fun H locs hP hS => ?_)
    rw [← hσ3] at hP
    have hRσ3 : Rg σ3 := by rw [hσ3]; exact Rg_up hR (by decide)
    refine lv_aload_n hx hb dX7_tell_42 rfl (lv_at hl 0 rfl) ?_
    refine x_get (C := RX7) (T := TX7) (NF := 17) (v := .int (iN (σ3 0 0))) hx hb hts iX7 hown hK hP 0 (by decide) (mE_0 cI a (_)) rfl 0 (by decide) fl58 rfl dX7_tell_43 ?_
    refine x_if_ne (tgt := 56) hx hb (hRσ3 0 0) dX7_tell_46 (by decide) (fun c6 => ?_) (fun c6 => ?_)
    · replace hf := (if_neg c6).symm.trans hf
      rw [← hQQ]
      exact x_vretM hx hb hr (Option.some.inj hf) hRσ3 hP hS hlocks dX7_tell_56
    · replace hf := (if_pos c6).symm.trans hf
      refine lv_aload_n hx hb dX7_tell_49 rfl (lv_at hl 0 rfl) ?_
      refine x_get (C := RX7) (T := TX7) (NF := 17) (v := .ref (a 4)) hx hb hts iX7 hown hK hP 0 (by decide) (mE_0 cI a (_)) rfl 6 (by decide) fl26 rfl dX7_tell_50 ?_
      refine lv_iload_n hx hb dX7_tell_53 rfl (lv_at hl 1 rfl) ?_
      refine lv_iload_n hx hb dX7_tell_54 rfl (lv_at hl 2 rfl) ?_
      obtain ⟨g4, hf⟩ := gd hf
      obtain ⟨σ5, hσ5, hf⟩ := nxe hf
      refine x_iast (x := x2) hx hb hi hK hP hS 4 0 (by decide) (mE_4 cI a) (by decide) rfl g4 dX7_tell_55 (fun H locs hP hS => ?_)
      rw [← hσ5] at hP
      have hRσ5 : Rg σ5 := by rw [hσ5]; exact Rg_up hRσ3 rx2
      rw [← hQQ]
      exact x_vretM hx hb hr (Option.some.inj hf) hRσ5 hP hS hlocks dX7_tell_56
  · replace hf := (if_neg c23).symm.trans hf
    refine lv_iload_n hx hb dX7_tell_15 rfl (lv_at hl 2 rfl) ?_
    refine lv_iconst (v := iN (-1)) hx hb dX7_tell_16 rfl ?_
    refine x_icmp_eq (tgt := 38) hx hb rx2 (by decide) dX7_tell_17 (by decide) (fun c22 => ?_) (fun c22 => ?_)
    · replace hf := (if_pos c22).symm.trans hf
      refine lv_iconst (v := iN 0) hx hb dX7_tell_38 rfl ?_
      obtain ⟨σ7, hσ7, hf⟩ := nxe hf
      refine x_put (C := RX7) (T := TX7) (NF := 17) (x := 0) (ty := .int) hx hb hts iX7 tyX7 tyX7_ok nmX7 hi hown hK hP hS 0 (by decide) (mE_0 cI a (_)) rfl 0 0 (by decide) fl58 rfl (by decide +kernel) rfl rfl (Nat.le_of_ble_eq_true rfl) rfl dX7_tell_39 (fun H locs hP hS => ?_)
      rw [← hσ7] at hP
      have hRσ7 : Rg σ7 := by rw [hσ7]; exact Rg_up hR (by decide)
      refine lv_aload_n hx hb dX7_tell_42 rfl (lv_at hl 0 rfl) ?_
      refine x_get (C := RX7) (T := TX7) (NF := 17) (v := .int (iN (σ7 0 0))) hx hb hts iX7 hown hK hP 0 (by decide) (mE_0 cI a (_)) rfl 0 (by decide) fl58 rfl dX7_tell_43 ?_
      refine x_if_ne (tgt := 56) hx hb (hRσ7 0 0) dX7_tell_46 (by decide) (fun c10 => ?_) (fun c10 => ?_)
      · replace hf := (if_neg c10).symm.trans hf
        rw [← hQQ]
        exact x_vretM hx hb hr (Option.some.inj hf) hRσ7 hP hS hlocks dX7_tell_56
      · replace hf := (if_pos c10).symm.trans hf
        refine lv_aload_n hx hb dX7_tell_49 rfl (lv_at hl 0 rfl) ?_
        refine x_get (C := RX7) (T := TX7) (NF := 17) (v := .ref (a 4)) hx hb hts iX7 hown hK hP 0 (by decide) (mE_0 cI a (_)) rfl 6 (by decide) fl26 rfl dX7_tell_50 ?_
        refine lv_iload_n hx hb dX7_tell_53 rfl (lv_at hl 1 rfl) ?_
        refine lv_iload_n hx hb dX7_tell_54 rfl (lv_at hl 2 rfl) ?_
        obtain ⟨g8, hf⟩ := gd hf
        obtain ⟨σ9, hσ9, hf⟩ := nxe hf
        refine x_iast (x := x2) hx hb hi hK hP hS 4 0 (by decide) (mE_4 cI a) (by decide) rfl g8 dX7_tell_55 (fun H locs hP hS => ?_)
        rw [← hσ9] at hP
        have hRσ9 : Rg σ9 := by rw [hσ9]; exact Rg_up hRσ7 rx2
        rw [← hQQ]
        exact x_vretM hx hb hr (Option.some.inj hf) hRσ9 hP hS hlocks dX7_tell_56
    · replace hf := (if_neg c22).symm.trans hf
      refine lv_iload_n hx hb dX7_tell_20 rfl (lv_at hl 2 rfl) ?_
      refine lv_iconst (v := iN 0) hx hb dX7_tell_21 rfl ?_
      refine lv_aload_n hx hb dX7_tell_22 rfl (lv_at hl 0 rfl) ?_
      refine x_get (C := RX7) (T := TX7) (NF := 17) (v := .int (iN (σ 0 2))) hx hb hts iX7 hown hK hP 0 (by decide) (mE_0 cI a (_)) rfl 2 (by decide) fl13 rfl dX7_tell_23 ?_
      refine lv_iconst (v := iN 1) hx hb dX7_tell_26 rfl ?_
      obtain ⟨g11, hf⟩ := gd hf
      refine x_isub hx hb dX7_tell_27 ?_
      obtain ⟨v12, hv12, hf⟩ := bd hf
      refine x_callP (va_runS (As := [.int (iN x2), .int (iN 0), .int (iN ((σ 0 2) - 1))]) (rest := [.ref (a 0)]) ⟨hx, hb, hml, hown, hts⟩ (kX7_in l dC dI cI a σ x2 0 ((σ 0 2) - 1) v12 hv12 hR rx2 (by decide) g11) (va_cwS 3 hts gX7_tell_X7_in rfl rfl rfl hX7_in_d ⟨Nat.le_trans (by decide) hrm.1, Nat.le_trans (by decide) hrm.2⟩) (psM hP hK) rfl rfl hl.1 rfl (lv_room (Nat.le_of_ble_eq_true rfl)) dX7_tell_28 ⟨Nat.zero_le _, Nat.zero_le _⟩) (fun rv12 => ?_)
      refine x_if_ne (tgt := 38) hx hb rv12 dX7_tell_31 (by decide) (fun c21 => ?_) (fun c21 => ?_)
      · replace hf := (if_neg c21).symm.trans hf
        refine lv_iconst (v := iN 0) hx hb dX7_tell_38 rfl ?_
        obtain ⟨σ13, hσ13, hf⟩ := nxe hf
        refine x_put (C := RX7) (T := TX7) (NF := 17) (x := 0) (ty := .int) hx hb hts iX7 tyX7 tyX7_ok nmX7 hi hown hK hP hS 0 (by decide) (mE_0 cI a (_)) rfl 0 0 (by decide) fl58 rfl (by decide +kernel) rfl rfl (Nat.le_of_ble_eq_true rfl) rfl dX7_tell_39 (fun H locs hP hS => ?_)
        rw [← hσ13] at hP
        have hRσ13 : Rg σ13 := by rw [hσ13]; exact Rg_up hR (by decide)
        refine lv_aload_n hx hb dX7_tell_42 rfl (lv_at hl 0 rfl) ?_
        refine x_get (C := RX7) (T := TX7) (NF := 17) (v := .int (iN (σ13 0 0))) hx hb hts iX7 hown hK hP 0 (by decide) (mE_0 cI a (_)) rfl 0 (by decide) fl58 rfl dX7_tell_43 ?_
        refine x_if_ne (tgt := 56) hx hb (hRσ13 0 0) dX7_tell_46 (by decide) (fun c16 => ?_) (fun c16 => ?_)
        · replace hf := (if_neg c16).symm.trans hf
          rw [← hQQ]
          exact x_vretM hx hb hr (Option.some.inj hf) hRσ13 hP hS hlocks dX7_tell_56
        · replace hf := (if_pos c16).symm.trans hf
          refine lv_aload_n hx hb dX7_tell_49 rfl (lv_at hl 0 rfl) ?_
          refine x_get (C := RX7) (T := TX7) (NF := 17) (v := .ref (a 4)) hx hb hts iX7 hown hK hP 0 (by decide) (mE_0 cI a (_)) rfl 6 (by decide) fl26 rfl dX7_tell_50 ?_
          refine lv_iload_n hx hb dX7_tell_53 rfl (lv_at hl 1 rfl) ?_
          refine lv_iload_n hx hb dX7_tell_54 rfl (lv_at hl 2 rfl) ?_
          obtain ⟨g14, hf⟩ := gd hf
          obtain ⟨σ15, hσ15, hf⟩ := nxe hf
          refine x_iast (x := x2) hx hb hi hK hP hS 4 0 (by decide) (mE_4 cI a) (by decide) rfl g14 dX7_tell_55 (fun H locs hP hS => ?_)
          rw [← hσ15] at hP
          have hRσ15 : Rg σ15 := by rw [hσ15]; exact Rg_up hRσ13 rx2
          rw [← hQQ]
          exact x_vretM hx hb hr (Option.some.inj hf) hRσ15 hP hS hlocks dX7_tell_56
      · replace hf := (if_pos c21).symm.trans hf
        refine lv_iconst (v := iN 1) hx hb dX7_tell_34 rfl ?_
        refine lv_goto (tgt := 39) hx hb dX7_tell_35 (by decide) ?_
        obtain ⟨σ17, hσ17, hf⟩ := nxe hf
        refine x_put (C := RX7) (T := TX7) (NF := 17) (x := 1) (ty := .int) hx hb hts iX7 tyX7 tyX7_ok nmX7 hi hown hK hP hS 0 (by decide) (mE_0 cI a (_)) rfl 0 0 (by decide) fl58 rfl (by decide +kernel) rfl rfl (Nat.le_of_ble_eq_true rfl) rfl dX7_tell_39 (fun H locs hP hS => ?_)
        rw [← hσ17] at hP
        have hRσ17 : Rg σ17 := by rw [hσ17]; exact Rg_up hR (by decide)
        refine lv_aload_n hx hb dX7_tell_42 rfl (lv_at hl 0 rfl) ?_
        refine x_get (C := RX7) (T := TX7) (NF := 17) (v := .int (iN (σ17 0 0))) hx hb hts iX7 hown hK hP 0 (by decide) (mE_0 cI a (_)) rfl 0 (by decide) fl58 rfl dX7_tell_43 ?_
        refine x_if_ne (tgt := 56) hx hb (hRσ17 0 0) dX7_tell_46 (by decide) (fun c20 => ?_) (fun c20 => ?_)
        · replace hf := (if_neg c20).symm.trans hf
          rw [← hQQ]
          exact x_vretM hx hb hr (Option.some.inj hf) hRσ17 hP hS hlocks dX7_tell_56
        · replace hf := (if_pos c20).symm.trans hf
          refine lv_aload_n hx hb dX7_tell_49 rfl (lv_at hl 0 rfl) ?_
          refine x_get (C := RX7) (T := TX7) (NF := 17) (v := .ref (a 4)) hx hb hts iX7 hown hK hP 0 (by decide) (mE_0 cI a (_)) rfl 6 (by decide) fl26 rfl dX7_tell_50 ?_
          refine lv_iload_n hx hb dX7_tell_53 rfl (lv_at hl 1 rfl) ?_
          refine lv_iload_n hx hb dX7_tell_54 rfl (lv_at hl 2 rfl) ?_
          obtain ⟨g18, hf⟩ := gd hf
          obtain ⟨σ19, hσ19, hf⟩ := nxe hf
          refine x_iast (x := x2) hx hb hi hK hP hS 4 0 (by decide) (mE_4 cI a) (by decide) rfl g18 dX7_tell_55 (fun H locs hP hS => ?_)
          rw [← hσ19] at hP
          have hRσ19 : Rg σ19 := by rw [hσ19]; exact Rg_up hRσ17 rx2
          rw [← hQQ]
          exact x_vretM hx hb hr (Option.some.inj hf) hRσ19 hP hS hlocks dX7_tell_56
def fX7_take_0_L19 (x1 : Int) (ex0 : Mem → Int → Option (Int × Mem)) : Nat → Mem → Int → Option (Int × Mem)
  | 0, _, _ => none
  | n0 + 1, σ4, v3 => if v3 < (σ4 0 1) then if (σ4 0 0) = 0 then if rng (6 * x1) then if rng ((6 * x1) + v3) then if (0 : Int) ≤ ((6 * x1) + v3) ∧ (((6 * x1) + v3) : Int) < 4320 then if (0 : Int) ≤ v3 ∧ (v3 : Int) < 6 then nx (mup σ4 4 v3 (σ4 5 ((6 * x1) + v3))) fun σ9 => if rng (v3 + 1) then fX7_take_0_L19 x1 ex0 n0 σ9 (v3 + 1) else none else none else none else none else none else ex0 σ4 v3 else ex0 σ4 v3
def fX7_take_0 (σ : Mem) (x1 : Int) : Option (Int × Mem) := (fX7_isStable_0 σ x1).bind fun v1 => if v1 = 0 then nx (mup σ 0 0 1) fun σ2 => fX7_take_0_L19 x1 (fun σ14 v13 => some (0, σ14)) FU σ2 0 else nx (mup σ 0 0 0) fun σ15 => fX7_take_0_L19 x1 (fun σ27 v26 => some (0, σ27)) FU σ15 0
set_option maxHeartbeats 4000000 in
set_option maxRecDepth 100000 in
theorem kX7_take_0 (l : Launch) (dC : Nat → ClassId) (dI : Nat → Nat → Nat) (cI : ClassId) (a : Nat → Nat) (hi : ∀ i j, i < 12 → j < 12 → a i = a j → i = j) (σ : Mem) (x1 : Int) (r : (Int × Mem)) (hf : fX7_take_0 σ x1 = some r) (hR : Rg σ) (rx1 : rng x1) : Met l yX7_take wsX7_take ({ frames := 2, cells := 0, slots := 0, locals := 43 }) (va_Pc [.ref (a 0), .int (iN x1)] (preM dC dI cI a σ)) (qMv (dC, dI) (gw 12 a (mE cI a)) (gA 12 a) r) 0 0 (gA 12 a) := by
  refine Met.ofW (cc := cX7_take) (maxL := 3) (ret := none) (by decide) rfl ?_
  intro p e s m args below meth c s₁ B hml hv
  obtain ⟨hargs, hP, hK⟩ := hv
  have hx := B.exec
  have hb := B.bytes
  have hr := B.returns
  have hts := atoms_spec (ws := wsX7_take) B.pre
  have hown : s.vm.findClass RX7 = some m.cls := findClass_of_methodNamed B.named
  have hlocks := B.notSynchronized
  have hS : va_S (gA 12 a) s.heap s.heap [] := va_S.rf
  have iX7 : ∀ w ∈ wsX70, w ∈ wsX7_take := by decide +kernel
  have fl26 := hts (.fieldLink RX7 26 "MatchHallModel" "told" "[I") (by decide +kernel)
  have fl29 := hts (.fieldLink RX7 29 "MatchHallModel" "stable" "[I") (by decide +kernel)
  have fl58 := hts (.fieldLink RX7 58 "MatchHallModel" "code" "I") (by decide +kernel)
  have fl7 := hts (.fieldLink RX7 7 "MatchHallModel" "residents" "I") (by decide +kernel)
  have hrm : 2 ≤ (headSpec wsX7_take ({ frames := 2, cells := 0, slots := 0, locals := 43 })).room.frames ∧ 43 ≤ (headSpec wsX7_take ({ frames := 2, cells := 0, slots := 0, locals := 43 })).room.locals := ⟨Nat.le_refl _, Nat.le_refl _⟩
  generalize (headSpec wsX7_take ({ frames := 2, cells := 0, slots := 0, locals := 43 })).room = RR at hrm ⊢
  have hl := lv_entry ([.ref (a 0), .int (iN x1)]) (n := 3) (Nat.le_of_ble_eq_true rfl)
  rw [show entryFrame m args 3 = entryFrame m ([.ref (a 0), .int (iN x1)] : List Value).toArray 3 from by rw [hargs], lg_entry_eq]
  generalize (lg_sl ([.ref (a 0), .int (iN x1)]) ++ List.replicate (3 - (lg_sl ([.ref (a 0), .int (iN x1)])).length) Slot.unset).toArray = ls at hl ⊢
  have hl : lv_has ls 3 [(0, .ref (a 0)), (1, .int (iN x1))] := hl
  generalize hQQ : MQ below (qMv (dC, dI) (gw 12 a (mE cI a)) (gA 12 a) r) args s 0 0 (gA 12 a) = QQ
  refine lv_aload_n hx hb dX7_take_0 rfl (lv_at hl 0 rfl) ?_
  refine lv_aload_n hx hb dX7_take_1 rfl (lv_at hl 0 rfl) ?_
  refine lv_iload_n hx hb dX7_take_2 rfl (lv_at hl 1 rfl) ?_
  obtain ⟨v1, hv1, hf⟩ := bd hf
  refine x_callP (va_runV (As := [.int (iN x1)]) (rest := [.ref (a 0)]) ⟨hx, hb, hml, hown, hts⟩ (kX7_isStable_0 l dC dI cI a σ x1 v1 hv1 hR rx1) (cwV 1 hts gX7_take_X7_isStable rfl rfl rfl hX7_isStable_d ⟨Nat.le_trans (by decide) hrm.1, Nat.le_trans (by decide) hrm.2⟩) (pvM 0 (by decide) (mE_0 cI a (_)) rfl hP hK) rfl rfl hl.1 rfl (lv_room (Nat.le_of_ble_eq_true rfl)) dX7_take_3 ⟨Nat.zero_le _, Nat.zero_le _⟩) (fun rv1 => ?_)
  refine x_if_eq (tgt := 13) hx hb rv1 dX7_take_6 (by decide) (fun c28 => ?_) (fun c28 => ?_)
  · replace hf := (if_pos c28).symm.trans hf
    refine lv_iconst (v := iN 1) hx hb dX7_take_13 rfl ?_
    obtain ⟨σ2, hσ2, hf⟩ := nxe hf
    refine x_put (C := RX7) (T := TX7) (NF := 17) (x := 1) (ty := .int) hx hb hts iX7 tyX7 tyX7_ok nmX7 hi hown hK hP hS 0 (by decide) (mE_0 cI a (_)) rfl 0 0 (by decide) fl58 rfl (by decide +kernel) rfl rfl (Nat.le_of_ble_eq_true rfl) rfl dX7_take_14 (fun H locs hP hS => ?_)
    rw [← hσ2] at hP
    have hRσ2 : Rg σ2 := by rw [hσ2]; exact Rg_up hR (by decide)
    refine lv_iconst (v := iN 0) hx hb dX7_take_17 rfl ?_
    refine lv_istore_n (lv' := [(2, .int (iN 0)), (0, .ref (a 0)), (1, .int (iN x1))]) hx hb dX7_take_18 rfl hl (by decide) rfl (fun ls hl => ?_)
    have L_fX7_take_0_L19 : ∀ (EX0 : Mem → Int → Option (Int × Mem)), (∀ (σ4 : Mem) (v3 : Int), Rg σ4 → rng v3 → EX0 σ4 v3 = some r → ∀ H locs ls, va_P (dC, dI) vwCl (gw 12 a (mE cI a) σ4) H → va_S (gA 12 a) s.heap H locs → lv_has ls 3 [(0, .ref (a 0)), (1, .int (iN x1)), (2, .int (iN v3))] → W p l e RR s m args below meth c H locs 0 0 QQ (F0 m 57 ls [])) → ∀ n0 : Nat, ∀ (σ4 : Mem) (v3 : Int), Rg σ4 → rng v3 → fX7_take_0_L19 x1 EX0 n0 σ4 v3 = some r → ∀ H locs ls, va_P (dC, dI) vwCl (gw 12 a (mE cI a) σ4) H → va_S (gA 12 a) s.heap H locs → lv_has ls 3 [(0, .ref (a 0)), (1, .int (iN x1)), (2, .int (iN v3))] → W p l e RR s m args below meth c H locs 0 0 QQ (F0 m 19 ls []) := by
      intro EX0 hEX0 n0
      induction n0 with
      | zero => intro _ _ _ _ hf; cases hf
      | succ n0 ih0 =>
        intro σ4 v3 hRσ4 rv3 hf H locs ls hP hS hl
        rw [fX7_take_0_L19] at hf
        refine lv_iload_n hx hb dX7_take_19 rfl (lv_at hl 2 rfl) ?_
        refine lv_aload_n hx hb dX7_take_20 rfl (lv_at hl 0 rfl) ?_
        refine x_get (C := RX7) (T := TX7) (NF := 17) (v := .int (iN (σ4 0 1))) hx hb hts iX7 hown hK hP 0 (by decide) (mE_0 cI a (_)) rfl 1 (by decide) fl7 rfl dX7_take_21 ?_
        refine x_icmp_ge (tgt := 57) hx hb rv3 (hRσ4 0 1) dX7_take_24 (by decide) (fun c12 => ?_) (fun c12 => ?_)
        · replace hf := (if_neg c12).symm.trans hf
          exact hEX0 _ _ hRσ4 rv3 hf _ _ _ hP hS (lv_sub hl [0, 1, 2] rfl)
        · replace hf := (if_pos c12).symm.trans hf
          refine lv_aload_n hx hb dX7_take_27 rfl (lv_at hl 0 rfl) ?_
          refine x_get (C := RX7) (T := TX7) (NF := 17) (v := .int (iN (σ4 0 0))) hx hb hts iX7 hown hK hP 0 (by decide) (mE_0 cI a (_)) rfl 0 (by decide) fl58 rfl dX7_take_28 ?_
          refine x_if_ne (tgt := 57) hx hb (hRσ4 0 0) dX7_take_31 (by decide) (fun c11 => ?_) (fun c11 => ?_)
          · replace hf := (if_neg c11).symm.trans hf
            exact hEX0 _ _ hRσ4 rv3 hf _ _ _ hP hS (lv_sub hl [0, 1, 2] rfl)
          · replace hf := (if_pos c11).symm.trans hf
            refine lv_aload_n hx hb dX7_take_34 rfl (lv_at hl 0 rfl) ?_
            refine x_get (C := RX7) (T := TX7) (NF := 17) (v := .ref (a 4)) hx hb hts iX7 hown hK hP 0 (by decide) (mE_0 cI a (_)) rfl 6 (by decide) fl26 rfl dX7_take_35 ?_
            refine lv_iload_n hx hb dX7_take_38 rfl (lv_at hl 2 rfl) ?_
            refine lv_aload_n hx hb dX7_take_39 rfl (lv_at hl 0 rfl) ?_
            refine x_get (C := RX7) (T := TX7) (NF := 17) (v := .ref (a 5)) hx hb hts iX7 hown hK hP 0 (by decide) (mE_0 cI a (_)) rfl 9 (by decide) fl29 rfl dX7_take_40 ?_
            refine lv_bipush (v := iN 6) hx hb dX7_take_43 (by decide) ?_
            refine lv_iload_n hx hb dX7_take_45 rfl (lv_at hl 1 rfl) ?_
            obtain ⟨g5, hf⟩ := gd hf
            refine x_imul hx hb dX7_take_46 ?_
            refine lv_iload_n hx hb dX7_take_47 rfl (lv_at hl 2 rfl) ?_
            obtain ⟨g6, hf⟩ := gd hf
            refine x_iadd hx hb dX7_take_48 ?_
            obtain ⟨g7, hf⟩ := gd hf
            refine x_iald hx hb hK hP 5 0 (by decide) (mE_5 cI a (_)) (by decide) rfl g7 dX7_take_49 ?_
            obtain ⟨g8, hf⟩ := gd hf
            obtain ⟨σ9, hσ9, hf⟩ := nxe hf
            refine x_iast (x := (σ4 5 ((6 * x1) + v3))) hx hb hi hK hP hS 4 0 (by decide) (mE_4 cI a) (by decide) rfl g8 dX7_take_50 (fun H locs hP hS => ?_)
            rw [← hσ9] at hP
            have hRσ9 : Rg σ9 := by rw [hσ9]; exact Rg_up hRσ4 (hRσ4 5 ((6 * x1) + v3))
            obtain ⟨g10, hf⟩ := gd hf
            refine lv_iinc (v := iN (v3 + 1)) (lv' := [(2, .int (iN (v3 + 1))), (0, .ref (a 0)), (1, .int (iN x1))]) hx hb dX7_take_51 hl (k := 2) rfl (iN_add v3 1) (by decide) rfl (fun ls hl => ?_)
            refine lv_goto (tgt := 19) hx hb dX7_take_54 (by decide) ?_
            exact ih0 _ _ hRσ9 g10 hf _ _ _ hP hS (lv_sub hl [1, 2, 0] rfl)
    refine L_fX7_take_0_L19 _ (fun σ14 v13 hRσ14 rv13 hf H locs ls hP hS hl => ?_) _ _ _ hRσ2 (by decide) hf _ _ _ hP hS (lv_sub hl [1, 2, 0] rfl)
    rw [← hQQ]
    exact x_vretM hx hb hr (Option.some.inj hf) hRσ14 hP hS hlocks dX7_take_57
  · replace hf := (if_neg c28).symm.trans hf
    refine lv_iconst (v := iN 0) hx hb dX7_take_9 rfl ?_
    refine lv_goto (tgt := 14) hx hb dX7_take_10 (by decide) ?_
    obtain ⟨σ15, hσ15, hf⟩ := nxe hf
    refine x_put (C := RX7) (T := TX7) (NF := 17) (x := 0) (ty := .int) hx hb hts iX7 tyX7 tyX7_ok nmX7 hi hown hK hP hS 0 (by decide) (mE_0 cI a (_)) rfl 0 0 (by decide) fl58 rfl (by decide +kernel) rfl rfl (Nat.le_of_ble_eq_true rfl) rfl dX7_take_14 (fun H locs hP hS => ?_)
    rw [← hσ15] at hP
    have hRσ15 : Rg σ15 := by rw [hσ15]; exact Rg_up hR (by decide)
    refine lv_iconst (v := iN 0) hx hb dX7_take_17 rfl ?_
    refine lv_istore_n (lv' := [(2, .int (iN 0)), (0, .ref (a 0)), (1, .int (iN x1))]) hx hb dX7_take_18 rfl hl (by decide) rfl (fun ls hl => ?_)
    have L_fX7_take_0_L19_2 : ∀ (EX0 : Mem → Int → Option (Int × Mem)), (∀ (σ17 : Mem) (v16 : Int), Rg σ17 → rng v16 → EX0 σ17 v16 = some r → ∀ H locs ls, va_P (dC, dI) vwCl (gw 12 a (mE cI a) σ17) H → va_S (gA 12 a) s.heap H locs → lv_has ls 3 [(0, .ref (a 0)), (1, .int (iN x1)), (2, .int (iN v16))] → W p l e RR s m args below meth c H locs 0 0 QQ (F0 m 57 ls [])) → ∀ n0 : Nat, ∀ (σ17 : Mem) (v16 : Int), Rg σ17 → rng v16 → fX7_take_0_L19 x1 EX0 n0 σ17 v16 = some r → ∀ H locs ls, va_P (dC, dI) vwCl (gw 12 a (mE cI a) σ17) H → va_S (gA 12 a) s.heap H locs → lv_has ls 3 [(0, .ref (a 0)), (1, .int (iN x1)), (2, .int (iN v16))] → W p l e RR s m args below meth c H locs 0 0 QQ (F0 m 19 ls []) := by
      intro EX0 hEX0 n0
      induction n0 with
      | zero => intro _ _ _ _ hf; cases hf
      | succ n0 ih0 =>
        intro σ17 v16 hRσ17 rv16 hf H locs ls hP hS hl
        rw [fX7_take_0_L19] at hf
        refine lv_iload_n hx hb dX7_take_19 rfl (lv_at hl 2 rfl) ?_
        refine lv_aload_n hx hb dX7_take_20 rfl (lv_at hl 0 rfl) ?_
        refine x_get (C := RX7) (T := TX7) (NF := 17) (v := .int (iN (σ17 0 1))) hx hb hts iX7 hown hK hP 0 (by decide) (mE_0 cI a (_)) rfl 1 (by decide) fl7 rfl dX7_take_21 ?_
        refine x_icmp_ge (tgt := 57) hx hb rv16 (hRσ17 0 1) dX7_take_24 (by decide) (fun c25 => ?_) (fun c25 => ?_)
        · replace hf := (if_neg c25).symm.trans hf
          exact hEX0 _ _ hRσ17 rv16 hf _ _ _ hP hS (lv_sub hl [0, 1, 2] rfl)
        · replace hf := (if_pos c25).symm.trans hf
          refine lv_aload_n hx hb dX7_take_27 rfl (lv_at hl 0 rfl) ?_
          refine x_get (C := RX7) (T := TX7) (NF := 17) (v := .int (iN (σ17 0 0))) hx hb hts iX7 hown hK hP 0 (by decide) (mE_0 cI a (_)) rfl 0 (by decide) fl58 rfl dX7_take_28 ?_
          refine x_if_ne (tgt := 57) hx hb (hRσ17 0 0) dX7_take_31 (by decide) (fun c24 => ?_) (fun c24 => ?_)
          · replace hf := (if_neg c24).symm.trans hf
            exact hEX0 _ _ hRσ17 rv16 hf _ _ _ hP hS (lv_sub hl [0, 1, 2] rfl)
          · replace hf := (if_pos c24).symm.trans hf
            refine lv_aload_n hx hb dX7_take_34 rfl (lv_at hl 0 rfl) ?_
            refine x_get (C := RX7) (T := TX7) (NF := 17) (v := .ref (a 4)) hx hb hts iX7 hown hK hP 0 (by decide) (mE_0 cI a (_)) rfl 6 (by decide) fl26 rfl dX7_take_35 ?_
            refine lv_iload_n hx hb dX7_take_38 rfl (lv_at hl 2 rfl) ?_
            refine lv_aload_n hx hb dX7_take_39 rfl (lv_at hl 0 rfl) ?_
            refine x_get (C := RX7) (T := TX7) (NF := 17) (v := .ref (a 5)) hx hb hts iX7 hown hK hP 0 (by decide) (mE_0 cI a (_)) rfl 9 (by decide) fl29 rfl dX7_take_40 ?_
            refine lv_bipush (v := iN 6) hx hb dX7_take_43 (by decide) ?_
            refine lv_iload_n hx hb dX7_take_45 rfl (lv_at hl 1 rfl) ?_
            obtain ⟨g18, hf⟩ := gd hf
            refine x_imul hx hb dX7_take_46 ?_
            refine lv_iload_n hx hb dX7_take_47 rfl (lv_at hl 2 rfl) ?_
            obtain ⟨g19, hf⟩ := gd hf
            refine x_iadd hx hb dX7_take_48 ?_
            obtain ⟨g20, hf⟩ := gd hf
            refine x_iald hx hb hK hP 5 0 (by decide) (mE_5 cI a (_)) (by decide) rfl g20 dX7_take_49 ?_
            obtain ⟨g21, hf⟩ := gd hf
            obtain ⟨σ22, hσ22, hf⟩ := nxe hf
            refine x_iast (x := (σ17 5 ((6 * x1) + v16))) hx hb hi hK hP hS 4 0 (by decide) (mE_4 cI a) (by decide) rfl g21 dX7_take_50 (fun H locs hP hS => ?_)
            rw [← hσ22] at hP
            have hRσ22 : Rg σ22 := by rw [hσ22]; exact Rg_up hRσ17 (hRσ17 5 ((6 * x1) + v16))
            obtain ⟨g23, hf⟩ := gd hf
            refine lv_iinc (v := iN (v16 + 1)) (lv' := [(2, .int (iN (v16 + 1))), (0, .ref (a 0)), (1, .int (iN x1))]) hx hb dX7_take_51 hl (k := 2) rfl (iN_add v16 1) (by decide) rfl (fun ls hl => ?_)
            refine lv_goto (tgt := 19) hx hb dX7_take_54 (by decide) ?_
            exact ih0 _ _ hRσ22 g23 hf _ _ _ hP hS (lv_sub hl [1, 2, 0] rfl)
    refine L_fX7_take_0_L19_2 _ (fun σ27 v26 hRσ27 rv26 hf H locs ls hP hS hl => ?_) _ _ _ hRσ15 (by decide) hf _ _ _ hP hS (lv_sub hl [1, 2, 0] rfl)
    rw [← hQQ]
    exact x_vretM hx hb hr (Option.some.inj hf) hRσ27 hP hS hlocks dX7_take_57
def fX7_taken_4_L6 (σ : Mem) (x1 : Int) (x2 : Int) (x3 : Int) (ex0 : Int → Int → Option Int) : Nat → Int → Int → Option Int
  | 0, _, _ => none
  | n0 + 1, v1, v2 => if v2 < x2 then if rng (x1 + v2) then if (0 : Int) ≤ (x1 + v2) ∧ ((x1 + v2) : Int) < 6 then if (σ 4 (x1 + v2)) = x3 then if rng (v1 + 1) then if rng (v2 + 1) then fX7_taken_4_L6 σ x1 x2 x3 ex0 n0 (v1 + 1) (v2 + 1) else none else none else if rng (v1 + 0) then if rng (v2 + 1) then fX7_taken_4_L6 σ x1 x2 x3 ex0 n0 (v1 + 0) (v2 + 1) else none else none else none else none else ex0 v1 v2
def fX7_taken_4 (σ : Mem) (x1 : Int) (x2 : Int) (x3 : Int) : Option Int := fX7_taken_4_L6 σ x1 x2 x3 (fun v11 v12 => some v11) FU 0 0
set_option maxHeartbeats 4000000 in
set_option maxRecDepth 100000 in
theorem kX7_taken_4 (l : Launch) (dC : Nat → ClassId) (dI : Nat → Nat → Nat) (cI : ClassId) (a : Nat → Nat) (σ : Mem) (x1 : Int) (x2 : Int) (x3 : Int) (r : Int) (hf : fX7_taken_4 σ x1 x2 x3 = some r) (hR : Rg σ) (rx1 : rng x1) (rx2 : rng x2) (rx3 : rng x3) : Met l yX7_taken wsX7_taken ({ frames := 0, cells := 0, slots := 0, locals := 0 }) (va_Pc [.ref (a 4), .int (iN x1), .int (iN x2), .int (iN x3)] (preM dC dI cI a σ)) (qP r) 0 0 (fun _ => False) := by
  refine Met.ofW (cc := cX7_taken) (maxL := 6) (ret := (some .int)) (by decide) rfl ?_
  intro p e s m args below meth c s₁ B hml hv
  obtain ⟨hargs, hP, hK⟩ := hv
  have hx := B.exec
  have hb := B.bytes
  have hr := B.returns
  have hts := atoms_spec (ws := wsX7_taken) B.pre
  have hown : s.vm.findClass RX7 = some m.cls := findClass_of_methodNamed B.named
  have hlocks := B.notSynchronized
  have hrm : 0 ≤ (headSpec wsX7_taken ({ frames := 0, cells := 0, slots := 0, locals := 0 })).room.frames ∧ 0 ≤ (headSpec wsX7_taken ({ frames := 0, cells := 0, slots := 0, locals := 0 })).room.locals := ⟨Nat.le_refl _, Nat.le_refl _⟩
  generalize (headSpec wsX7_taken ({ frames := 0, cells := 0, slots := 0, locals := 0 })).room = RR at hrm ⊢
  have hl := lv_entry ([.ref (a 4), .int (iN x1), .int (iN x2), .int (iN x3)]) (n := 6) (Nat.le_of_ble_eq_true rfl)
  rw [show entryFrame m args 6 = entryFrame m ([.ref (a 4), .int (iN x1), .int (iN x2), .int (iN x3)] : List Value).toArray 6 from by rw [hargs], lg_entry_eq]
  generalize (lg_sl ([.ref (a 4), .int (iN x1), .int (iN x2), .int (iN x3)]) ++ List.replicate (6 - (lg_sl ([.ref (a 4), .int (iN x1), .int (iN x2), .int (iN x3)])).length) Slot.unset).toArray = ls at hl ⊢
  have hl : lv_has ls 6 [(0, .ref (a 4)), (1, .int (iN x1)), (2, .int (iN x2)), (3, .int (iN x3))] := hl
  generalize hQQ : MQ below (qP r) args s 0 0 (fun _ => False) = QQ
  refine lv_iconst (v := iN 0) hx hb dX7_taken_0 rfl ?_
  refine lv_istore (lv' := [(4, .int (iN 0)), (0, .ref (a 4)), (1, .int (iN x1)), (2, .int (iN x2)), (3, .int (iN x3))]) hx hb dX7_taken_1 hl (by decide) rfl (fun ls hl => ?_)
  refine lv_iconst (v := iN 0) hx hb dX7_taken_3 rfl ?_
  refine lv_istore (lv' := [(5, .int (iN 0)), (4, .int (iN 0)), (0, .ref (a 4)), (1, .int (iN x1)), (2, .int (iN x2)), (3, .int (iN x3))]) hx hb dX7_taken_4 hl (by decide) rfl (fun ls hl => ?_)
  have L_fX7_taken_4_L6 : ∀ (EX0 : Int → Int → Option Int), (∀ (v1 : Int) (v2 : Int), rng v1 → rng v2 → EX0 v1 v2 = some r → ∀ ls, lv_has ls 6 [(0, .ref (a 4)), (1, .int (iN x1)), (2, .int (iN x2)), (3, .int (iN x3)), (4, .int (iN v1)), (5, .int (iN v2))] → W p l e RR s m args below meth c s.heap [] 0 0 QQ (F0 m 38 ls [])) → ∀ n0 : Nat, ∀ (v1 : Int) (v2 : Int), rng v1 → rng v2 → fX7_taken_4_L6 σ x1 x2 x3 EX0 n0 v1 v2 = some r → ∀ ls, lv_has ls 6 [(0, .ref (a 4)), (1, .int (iN x1)), (2, .int (iN x2)), (3, .int (iN x3)), (4, .int (iN v1)), (5, .int (iN v2))] → W p l e RR s m args below meth c s.heap [] 0 0 QQ (F0 m 6 ls []) := by
    intro EX0 hEX0 n0
    induction n0 with
    | zero => intro _ _ _ _ hf; cases hf
    | succ n0 ih0 =>
      intro v1 v2 rv1 rv2 hf ls hl
      rw [fX7_taken_4_L6] at hf
      refine lv_iload hx hb dX7_taken_6 (lv_at hl 5 rfl) ?_
      refine lv_iload_n hx hb dX7_taken_8 rfl (lv_at hl 2 rfl) ?_
      refine x_icmp_ge (tgt := 38) hx hb rv2 rx2 dX7_taken_9 (by decide) (fun c10 => ?_) (fun c10 => ?_)
      · replace hf := (if_neg c10).symm.trans hf
        exact hEX0 _ _ rv1 rv2 hf _ (lv_sub hl [0, 1, 2, 3, 4, 5] rfl)
      · replace hf := (if_pos c10).symm.trans hf
        refine lv_iload hx hb dX7_taken_12 (lv_at hl 4 rfl) ?_
        refine lv_aload_n hx hb dX7_taken_14 rfl (lv_at hl 0 rfl) ?_
        refine lv_iload_n hx hb dX7_taken_15 rfl (lv_at hl 1 rfl) ?_
        refine lv_iload hx hb dX7_taken_16 (lv_at hl 5 rfl) ?_
        obtain ⟨g3, hf⟩ := gd hf
        refine x_iadd hx hb dX7_taken_18 ?_
        obtain ⟨g4, hf⟩ := gd hf
        refine x_iald hx hb hK hP 4 0 (by decide) (mE_4 cI a (_)) (by decide) rfl g4 dX7_taken_19 ?_
        refine lv_iload_n hx hb dX7_taken_20 rfl (lv_at hl 3 rfl) ?_
        refine x_icmp_ne (tgt := 28) hx hb (hR 4 (x1 + v2)) rx3 dX7_taken_21 (by decide) (fun c9 => ?_) (fun c9 => ?_)
        · replace hf := (if_neg c9).symm.trans hf
          refine lv_iconst (v := iN 0) hx hb dX7_taken_28 rfl ?_
          obtain ⟨g5, hf⟩ := gd hf
          refine x_iadd hx hb dX7_taken_29 ?_
          refine lv_istore (lv' := [(4, .int (iN (v1 + 0))), (0, .ref (a 4)), (1, .int (iN x1)), (2, .int (iN x2)), (3, .int (iN x3)), (5, .int (iN v2))]) hx hb dX7_taken_30 hl (by decide) rfl (fun ls hl => ?_)
          obtain ⟨g6, hf⟩ := gd hf
          refine lv_iinc (v := iN (v2 + 1)) (lv' := [(5, .int (iN (v2 + 1))), (4, .int (iN (v1 + 0))), (0, .ref (a 4)), (1, .int (iN x1)), (2, .int (iN x2)), (3, .int (iN x3))]) hx hb dX7_taken_32 hl (k := 5) rfl (iN_add v2 1) (by decide) rfl (fun ls hl => ?_)
          refine lv_goto (tgt := 6) hx hb dX7_taken_35 (by decide) ?_
          exact ih0 _ _ g5 g6 hf _ (lv_sub hl [2, 3, 4, 5, 1, 0] rfl)
        · replace hf := (if_pos c9).symm.trans hf
          refine lv_iconst (v := iN 1) hx hb dX7_taken_24 rfl ?_
          refine lv_goto (tgt := 29) hx hb dX7_taken_25 (by decide) ?_
          obtain ⟨g7, hf⟩ := gd hf
          refine x_iadd hx hb dX7_taken_29 ?_
          refine lv_istore (lv' := [(4, .int (iN (v1 + 1))), (0, .ref (a 4)), (1, .int (iN x1)), (2, .int (iN x2)), (3, .int (iN x3)), (5, .int (iN v2))]) hx hb dX7_taken_30 hl (by decide) rfl (fun ls hl => ?_)
          obtain ⟨g8, hf⟩ := gd hf
          refine lv_iinc (v := iN (v2 + 1)) (lv' := [(5, .int (iN (v2 + 1))), (4, .int (iN (v1 + 1))), (0, .ref (a 4)), (1, .int (iN x1)), (2, .int (iN x2)), (3, .int (iN x3))]) hx hb dX7_taken_32 hl (k := 5) rfl (iN_add v2 1) (by decide) rfl (fun ls hl => ?_)
          refine lv_goto (tgt := 6) hx hb dX7_taken_35 (by decide) ?_
          exact ih0 _ _ g7 g8 hf _ (lv_sub hl [2, 3, 4, 5, 1, 0] rfl)
  refine L_fX7_taken_4_L6 _ (fun v11 v12 rv11 rv12 hf ls hl => ?_) _ _ _ (by decide) (by decide) hf _ (lv_sub hl [2, 3, 4, 5, 1, 0] rfl)
  refine lv_iload hx hb dX7_taken_38 (lv_at hl 4 rfl) ?_
  rw [← hQQ]
  exact x_iret hx hb hr (Option.some.inj hf) rv11 hlocks dX7_taken_40
def fX7_isMatching_0_4_L5 (σ : Mem) (x2 : Int) (ex0 : Int → Int → Option Int) : Nat → Int → Int → Option Int
  | 0, _, _ => none
  | n0 + 1, v1, v2 => if v2 < (σ 0 1) then if rng (x2 + v2) then if (0 : Int) ≤ (x2 + v2) ∧ ((x2 + v2) : Int) < 6 then if v1 = 0 then if rng (v2 + 1) then fX7_isMatching_0_4_L5 σ x2 ex0 n0 0 (v2 + 1) else none else if (σ 4 (x2 + v2)) = (-1) then if rng (v2 + 1) then fX7_isMatching_0_4_L5 σ x2 ex0 n0 1 (v2 + 1) else none else if rng ((σ 0 2) - 1) then (fX7_in σ (σ 4 (x2 + v2)) 0 ((σ 0 2) - 1)).bind fun v8 => if v8 = 0 then if rng (v2 + 1) then fX7_isMatching_0_4_L5 σ x2 ex0 n0 0 (v2 + 1) else none else (fX7_isPair_0 σ v2 (σ 4 (x2 + v2))).bind fun v10 => if v10 = 0 then if rng (v2 + 1) then fX7_isMatching_0_4_L5 σ x2 ex0 n0 0 (v2 + 1) else none else if rng (v2 + 1) then fX7_isMatching_0_4_L5 σ x2 ex0 n0 1 (v2 + 1) else none else none else none else none else ex0 v1 v2
def fX7_isMatching_0_4_L73 (σ : Mem) (x2 : Int) (ex0 : Int → Int → Option Int) : Nat → Int → Int → Option Int
  | 0, _, _ => none
  | n0 + 1, v20, v21 => if v21 < (σ 0 2) then if v20 = 0 then if rng (v21 + 1) then fX7_isMatching_0_4_L73 σ x2 ex0 n0 0 (v21 + 1) else none else (fX7_taken_4 σ x2 (σ 0 1) v21).bind fun v23 => if (0 : Int) ≤ v21 ∧ (v21 : Int) < 6 then if (σ 1 v21) < v23 then if rng (v21 + 1) then fX7_isMatching_0_4_L73 σ x2 ex0 n0 0 (v21 + 1) else none else if rng (v21 + 1) then fX7_isMatching_0_4_L73 σ x2 ex0 n0 1 (v21 + 1) else none else none else ex0 v20 v21
def fX7_isMatching_0_4 (σ : Mem) (x2 : Int) : Option Int := fX7_isMatching_0_4_L5 σ x2 (fun v18 v19 => fX7_isMatching_0_4_L73 σ x2 (fun v30 v31 => if v30 = 0 ∨ v30 = 1 then some v30 else none) FU v18 0) FU 1 0
set_option maxHeartbeats 4000000 in
set_option maxRecDepth 100000 in
theorem kX7_isMatching_0_4 (l : Launch) (dC : Nat → ClassId) (dI : Nat → Nat → Nat) (cI : ClassId) (a : Nat → Nat) (σ : Mem) (x2 : Int) (r : Int) (hf : fX7_isMatching_0_4 σ x2 = some r) (hR : Rg σ) (rx2 : rng x2) : Met l yX7_isMatching wsX7_isMatching ({ frames := 2, cells := 0, slots := 0, locals := 47 }) (va_Pc [.ref (a 0), .ref (a 4), .int (iN x2)] (preM dC dI cI a σ)) (qP r) 0 0 (fun _ => False) := by
  refine Met.ofW (cc := cX7_isMatching) (maxL := 6) (ret := (some .boolean)) (by decide) rfl ?_
  intro p e s m args below meth c s₁ B hml hv
  obtain ⟨hargs, hP, hK⟩ := hv
  have hx := B.exec
  have hb := B.bytes
  have hr := B.returns
  have hts := atoms_spec (ws := wsX7_isMatching) B.pre
  have hown : s.vm.findClass RX7 = some m.cls := findClass_of_methodNamed B.named
  have hlocks := B.notSynchronized
  have iX7 : ∀ w ∈ wsX70, w ∈ wsX7_isMatching := by decide +kernel
  have fl13 := hts (.fieldLink RX7 13 "MatchHallModel" "hospitals" "I") (by decide +kernel)
  have fl16 := hts (.fieldLink RX7 16 "MatchHallModel" "seats" "[I") (by decide +kernel)
  have fl7 := hts (.fieldLink RX7 7 "MatchHallModel" "residents" "I") (by decide +kernel)
  have hrm : 2 ≤ (headSpec wsX7_isMatching ({ frames := 2, cells := 0, slots := 0, locals := 47 })).room.frames ∧ 47 ≤ (headSpec wsX7_isMatching ({ frames := 2, cells := 0, slots := 0, locals := 47 })).room.locals := ⟨Nat.le_refl _, Nat.le_refl _⟩
  generalize (headSpec wsX7_isMatching ({ frames := 2, cells := 0, slots := 0, locals := 47 })).room = RR at hrm ⊢
  have hl := lv_entry ([.ref (a 0), .ref (a 4), .int (iN x2)]) (n := 6) (Nat.le_of_ble_eq_true rfl)
  rw [show entryFrame m args 6 = entryFrame m ([.ref (a 0), .ref (a 4), .int (iN x2)] : List Value).toArray 6 from by rw [hargs], lg_entry_eq]
  generalize (lg_sl ([.ref (a 0), .ref (a 4), .int (iN x2)]) ++ List.replicate (6 - (lg_sl ([.ref (a 0), .ref (a 4), .int (iN x2)])).length) Slot.unset).toArray = ls at hl ⊢
  have hl : lv_has ls 6 [(0, .ref (a 0)), (1, .ref (a 4)), (2, .int (iN x2))] := hl
  generalize hQQ : MQ below (qP r) args s 0 0 (fun _ => False) = QQ
  refine lv_iconst (v := iN 1) hx hb dX7_isMatching_0 rfl ?_
  refine lv_istore_n (lv' := [(3, .int (iN 1)), (0, .ref (a 0)), (1, .ref (a 4)), (2, .int (iN x2))]) hx hb dX7_isMatching_1 rfl hl (by decide) rfl (fun ls hl => ?_)
  refine lv_iconst (v := iN 0) hx hb dX7_isMatching_2 rfl ?_
  refine lv_istore (lv' := [(4, .int (iN 0)), (3, .int (iN 1)), (0, .ref (a 0)), (1, .ref (a 4)), (2, .int (iN x2))]) hx hb dX7_isMatching_3 hl (by decide) rfl (fun ls hl => ?_)
  have L_fX7_isMatching_0_4_L5 : ∀ (EX0 : Int → Int → Option Int), (∀ (v1 : Int) (v2 : Int), rng v1 → rng v2 → EX0 v1 v2 = some r → ∀ ls, lv_has ls 6 [(0, .ref (a 0)), (1, .ref (a 4)), (2, .int (iN x2)), (3, .int (iN v1)), (4, .int (iN v2))] → W p l e RR s m args below meth c s.heap [] 0 0 QQ (F0 m 70 ls [])) → ∀ n0 : Nat, ∀ (v1 : Int) (v2 : Int), rng v1 → rng v2 → fX7_isMatching_0_4_L5 σ x2 EX0 n0 v1 v2 = some r → ∀ ls, lv_has ls 6 [(0, .ref (a 0)), (1, .ref (a 4)), (2, .int (iN x2)), (3, .int (iN v1)), (4, .int (iN v2))] → W p l e RR s m args below meth c s.heap [] 0 0 QQ (F0 m 5 ls []) := by
    intro EX0 hEX0 n0
    induction n0 with
    | zero => intro _ _ _ _ hf; cases hf
    | succ n0 ih0 =>
      intro v1 v2 rv1 rv2 hf ls hl
      rw [fX7_isMatching_0_4_L5] at hf
      refine lv_iload hx hb dX7_isMatching_5 (lv_at hl 4 rfl) ?_
      refine lv_aload_n hx hb dX7_isMatching_7 rfl (lv_at hl 0 rfl) ?_
      refine x_get (C := RX7) (T := TX7) (NF := 17) (v := .int (iN (σ 0 1))) hx hb hts iX7 hown hK hP 0 (by decide) (mE_0 cI a (_)) rfl 1 (by decide) fl7 rfl dX7_isMatching_8 ?_
      refine x_icmp_ge (tgt := 70) hx hb rv2 (hR 0 1) dX7_isMatching_11 (by decide) (fun c17 => ?_) (fun c17 => ?_)
      · replace hf := (if_neg c17).symm.trans hf
        exact hEX0 _ _ rv1 rv2 hf _ (lv_sub hl [0, 1, 2, 3, 4] rfl)
      · replace hf := (if_pos c17).symm.trans hf
        refine lv_aload_n hx hb dX7_isMatching_14 rfl (lv_at hl 1 rfl) ?_
        refine lv_iload_n hx hb dX7_isMatching_15 rfl (lv_at hl 2 rfl) ?_
        refine lv_iload hx hb dX7_isMatching_16 (lv_at hl 4 rfl) ?_
        obtain ⟨g3, hf⟩ := gd hf
        refine x_iadd hx hb dX7_isMatching_18 ?_
        obtain ⟨g4, hf⟩ := gd hf
        refine x_iald hx hb hK hP 4 0 (by decide) (mE_4 cI a (_)) (by decide) rfl g4 dX7_isMatching_19 ?_
        refine lv_istore (lv' := [(5, .int (iN (σ 4 (x2 + v2)))), (0, .ref (a 0)), (1, .ref (a 4)), (2, .int (iN x2)), (3, .int (iN v1)), (4, .int (iN v2))]) hx hb dX7_isMatching_20 hl (by decide) rfl (fun ls hl => ?_)
        refine lv_iload_n hx hb dX7_isMatching_22 rfl (lv_at hl 4 rfl) ?_
        refine x_if_eq (tgt := 62) hx hb rv1 dX7_isMatching_23 (by decide) (fun c16 => ?_) (fun c16 => ?_)
        · replace hf := (if_pos c16).symm.trans hf
          refine lv_iconst (v := iN 0) hx hb dX7_isMatching_62 rfl ?_
          refine lv_istore_n (lv' := [(3, .int (iN 0)), (5, .int (iN (σ 4 (x2 + v2)))), (0, .ref (a 0)), (1, .ref (a 4)), (2, .int (iN x2)), (4, .int (iN v2))]) hx hb dX7_isMatching_63 rfl hl (by decide) rfl (fun ls hl => ?_)
          obtain ⟨g5, hf⟩ := gd hf
          refine lv_iinc (v := iN (v2 + 1)) (lv' := [(4, .int (iN (v2 + 1))), (3, .int (iN 0)), (5, .int (iN (σ 4 (x2 + v2)))), (0, .ref (a 0)), (1, .ref (a 4)), (2, .int (iN x2))]) hx hb dX7_isMatching_64 hl (k := 5) rfl (iN_add v2 1) (by decide) rfl (fun ls hl => ?_)
          refine lv_goto (tgt := 5) hx hb dX7_isMatching_67 (by decide) ?_
          exact ih0 _ _ (by decide) g5 hf _ (lv_sub hl [3, 4, 5, 1, 0] rfl)
        · replace hf := (if_neg c16).symm.trans hf
          refine lv_iload hx hb dX7_isMatching_26 (lv_at hl 0 rfl) ?_
          refine lv_iconst (v := iN (-1)) hx hb dX7_isMatching_28 rfl ?_
          refine x_icmp_eq (tgt := 58) hx hb (hR 4 (x2 + v2)) (by decide) dX7_isMatching_29 (by decide) (fun c15 => ?_) (fun c15 => ?_)
          · replace hf := (if_pos c15).symm.trans hf
            refine lv_iconst (v := iN 1) hx hb dX7_isMatching_58 rfl ?_
            refine lv_goto (tgt := 63) hx hb dX7_isMatching_59 (by decide) ?_
            refine lv_istore_n (lv' := [(3, .int (iN 1)), (5, .int (iN (σ 4 (x2 + v2)))), (0, .ref (a 0)), (1, .ref (a 4)), (2, .int (iN x2)), (4, .int (iN v2))]) hx hb dX7_isMatching_63 rfl hl (by decide) rfl (fun ls hl => ?_)
            obtain ⟨g6, hf⟩ := gd hf
            refine lv_iinc (v := iN (v2 + 1)) (lv' := [(4, .int (iN (v2 + 1))), (3, .int (iN 1)), (5, .int (iN (σ 4 (x2 + v2)))), (0, .ref (a 0)), (1, .ref (a 4)), (2, .int (iN x2))]) hx hb dX7_isMatching_64 hl (k := 5) rfl (iN_add v2 1) (by decide) rfl (fun ls hl => ?_)
            refine lv_goto (tgt := 5) hx hb dX7_isMatching_67 (by decide) ?_
            exact ih0 _ _ (by decide) g6 hf _ (lv_sub hl [3, 4, 5, 1, 0] rfl)
          · replace hf := (if_neg c15).symm.trans hf
            refine lv_iload hx hb dX7_isMatching_32 (lv_at hl 0 rfl) ?_
            refine lv_iconst (v := iN 0) hx hb dX7_isMatching_34 rfl ?_
            refine lv_aload_n hx hb dX7_isMatching_35 rfl (lv_at hl 1 rfl) ?_
            refine x_get (C := RX7) (T := TX7) (NF := 17) (v := .int (iN (σ 0 2))) hx hb hts iX7 hown hK hP 0 (by decide) (mE_0 cI a (_)) rfl 2 (by decide) fl13 rfl dX7_isMatching_36 ?_
            refine lv_iconst (v := iN 1) hx hb dX7_isMatching_39 rfl ?_
            obtain ⟨g7, hf⟩ := gd hf
            refine x_isub hx hb dX7_isMatching_40 ?_
            obtain ⟨v8, hv8, hf⟩ := bd hf
            refine x_callP (va_runS (As := [.int (iN (σ 4 (x2 + v2))), .int (iN 0), .int (iN ((σ 0 2) - 1))]) (rest := []) ⟨hx, hb, hml, hown, hts⟩ (kX7_in l dC dI cI a σ (σ 4 (x2 + v2)) 0 ((σ 0 2) - 1) v8 hv8 hR (hR 4 (x2 + v2)) (by decide) g7) (va_cwS 3 hts gX7_isMatching_X7_in rfl rfl rfl hX7_in_d ⟨Nat.le_trans (by decide) hrm.1, Nat.le_trans (by decide) hrm.2⟩) (psM hP hK) rfl rfl hl.1 rfl (lv_room (Nat.le_of_ble_eq_true rfl)) dX7_isMatching_41 ⟨Nat.zero_le _, Nat.zero_le _⟩) (fun rv8 => ?_)
            refine x_if_eq (tgt := 62) hx hb rv8 dX7_isMatching_44 (by decide) (fun c14 => ?_) (fun c14 => ?_)
            · replace hf := (if_pos c14).symm.trans hf
              refine lv_iconst (v := iN 0) hx hb dX7_isMatching_62 rfl ?_
              refine lv_istore_n (lv' := [(3, .int (iN 0)), (5, .int (iN (σ 4 (x2 + v2)))), (0, .ref (a 0)), (1, .ref (a 4)), (2, .int (iN x2)), (4, .int (iN v2))]) hx hb dX7_isMatching_63 rfl hl (by decide) rfl (fun ls hl => ?_)
              obtain ⟨g9, hf⟩ := gd hf
              refine lv_iinc (v := iN (v2 + 1)) (lv' := [(4, .int (iN (v2 + 1))), (3, .int (iN 0)), (5, .int (iN (σ 4 (x2 + v2)))), (0, .ref (a 0)), (1, .ref (a 4)), (2, .int (iN x2))]) hx hb dX7_isMatching_64 hl (k := 5) rfl (iN_add v2 1) (by decide) rfl (fun ls hl => ?_)
              refine lv_goto (tgt := 5) hx hb dX7_isMatching_67 (by decide) ?_
              exact ih0 _ _ (by decide) g9 hf _ (lv_sub hl [3, 4, 5, 1, 0] rfl)
            · replace hf := (if_neg c14).symm.trans hf
              refine lv_aload_n hx hb dX7_isMatching_47 rfl (lv_at hl 1 rfl) ?_
              refine lv_iload hx hb dX7_isMatching_48 (lv_at hl 5 rfl) ?_
              refine lv_iload hx hb dX7_isMatching_50 (lv_at hl 0 rfl) ?_
              obtain ⟨v10, hv10, hf⟩ := bd hf
              refine x_callP (va_runV (As := [.int (iN v2), .int (iN (σ 4 (x2 + v2)))]) (rest := []) ⟨hx, hb, hml, hown, hts⟩ (kX7_isPair_0 l dC dI cI a σ v2 (σ 4 (x2 + v2)) v10 hv10 hR rv2 (hR 4 (x2 + v2))) (cwV 2 hts gX7_isMatching_X7_isPair rfl rfl rfl hX7_isPair_d ⟨Nat.le_trans (by decide) hrm.1, Nat.le_trans (by decide) hrm.2⟩) (pvM 0 (by decide) (mE_0 cI a (_)) rfl hP hK) rfl rfl hl.1 rfl (lv_room (Nat.le_of_ble_eq_true rfl)) dX7_isMatching_52 ⟨Nat.zero_le _, Nat.zero_le _⟩) (fun rv10 => ?_)
              refine x_if_eq (tgt := 62) hx hb rv10 dX7_isMatching_55 (by decide) (fun c13 => ?_) (fun c13 => ?_)
              · replace hf := (if_pos c13).symm.trans hf
                refine lv_iconst (v := iN 0) hx hb dX7_isMatching_62 rfl ?_
                refine lv_istore_n (lv' := [(3, .int (iN 0)), (5, .int (iN (σ 4 (x2 + v2)))), (0, .ref (a 0)), (1, .ref (a 4)), (2, .int (iN x2)), (4, .int (iN v2))]) hx hb dX7_isMatching_63 rfl hl (by decide) rfl (fun ls hl => ?_)
                obtain ⟨g11, hf⟩ := gd hf
                refine lv_iinc (v := iN (v2 + 1)) (lv' := [(4, .int (iN (v2 + 1))), (3, .int (iN 0)), (5, .int (iN (σ 4 (x2 + v2)))), (0, .ref (a 0)), (1, .ref (a 4)), (2, .int (iN x2))]) hx hb dX7_isMatching_64 hl (k := 5) rfl (iN_add v2 1) (by decide) rfl (fun ls hl => ?_)
                refine lv_goto (tgt := 5) hx hb dX7_isMatching_67 (by decide) ?_
                exact ih0 _ _ (by decide) g11 hf _ (lv_sub hl [3, 4, 5, 1, 0] rfl)
              · replace hf := (if_neg c13).symm.trans hf
                refine lv_iconst (v := iN 1) hx hb dX7_isMatching_58 rfl ?_
                refine lv_goto (tgt := 63) hx hb dX7_isMatching_59 (by decide) ?_
                refine lv_istore_n (lv' := [(3, .int (iN 1)), (5, .int (iN (σ 4 (x2 + v2)))), (0, .ref (a 0)), (1, .ref (a 4)), (2, .int (iN x2)), (4, .int (iN v2))]) hx hb dX7_isMatching_63 rfl hl (by decide) rfl (fun ls hl => ?_)
                obtain ⟨g12, hf⟩ := gd hf
                refine lv_iinc (v := iN (v2 + 1)) (lv' := [(4, .int (iN (v2 + 1))), (3, .int (iN 1)), (5, .int (iN (σ 4 (x2 + v2)))), (0, .ref (a 0)), (1, .ref (a 4)), (2, .int (iN x2))]) hx hb dX7_isMatching_64 hl (k := 5) rfl (iN_add v2 1) (by decide) rfl (fun ls hl => ?_)
                refine lv_goto (tgt := 5) hx hb dX7_isMatching_67 (by decide) ?_
                exact ih0 _ _ (by decide) g12 hf _ (lv_sub hl [3, 4, 5, 1, 0] rfl)
  refine L_fX7_isMatching_0_4_L5 _ (fun v18 v19 rv18 rv19 hf ls hl => ?_) _ _ _ (by decide) (by decide) hf _ (lv_sub hl [2, 3, 4, 1, 0] rfl)
  refine lv_iconst (v := iN 0) hx hb dX7_isMatching_70 rfl ?_
  refine lv_istore (lv' := [(4, .int (iN 0)), (0, .ref (a 0)), (1, .ref (a 4)), (2, .int (iN x2)), (3, .int (iN v18))]) hx hb dX7_isMatching_71 hl (by decide) rfl (fun ls hl => ?_)
  have L_fX7_isMatching_0_4_L73 : ∀ (EX0 : Int → Int → Option Int), (∀ (v20 : Int) (v21 : Int), rng v20 → rng v21 → EX0 v20 v21 = some r → ∀ ls, lv_has ls 6 [(0, .ref (a 0)), (1, .ref (a 4)), (2, .int (iN x2)), (3, .int (iN v20)), (4, .int (iN v21))] → W p l e RR s m args below meth c s.heap [] 0 0 QQ (F0 m 119 ls [])) → ∀ n0 : Nat, ∀ (v20 : Int) (v21 : Int), rng v20 → rng v21 → fX7_isMatching_0_4_L73 σ x2 EX0 n0 v20 v21 = some r → ∀ ls, lv_has ls 6 [(0, .ref (a 0)), (1, .ref (a 4)), (2, .int (iN x2)), (3, .int (iN v20)), (4, .int (iN v21))] → W p l e RR s m args below meth c s.heap [] 0 0 QQ (F0 m 73 ls []) := by
    intro EX0 hEX0 n0
    induction n0 with
    | zero => intro _ _ _ _ hf; cases hf
    | succ n0 ih0 =>
      intro v20 v21 rv20 rv21 hf ls hl
      rw [fX7_isMatching_0_4_L73] at hf
      refine lv_iload hx hb dX7_isMatching_73 (lv_at hl 4 rfl) ?_
      refine lv_aload_n hx hb dX7_isMatching_75 rfl (lv_at hl 0 rfl) ?_
      refine x_get (C := RX7) (T := TX7) (NF := 17) (v := .int (iN (σ 0 2))) hx hb hts iX7 hown hK hP 0 (by decide) (mE_0 cI a (_)) rfl 2 (by decide) fl13 rfl dX7_isMatching_76 ?_
      refine x_icmp_ge (tgt := 119) hx hb rv21 (hR 0 2) dX7_isMatching_79 (by decide) (fun c29 => ?_) (fun c29 => ?_)
      · replace hf := (if_neg c29).symm.trans hf
        exact hEX0 _ _ rv20 rv21 hf _ (lv_sub hl [0, 1, 2, 3, 4] rfl)
      · replace hf := (if_pos c29).symm.trans hf
        refine lv_iload_n hx hb dX7_isMatching_82 rfl (lv_at hl 3 rfl) ?_
        refine x_if_eq (tgt := 111) hx hb rv20 dX7_isMatching_83 (by decide) (fun c28 => ?_) (fun c28 => ?_)
        · replace hf := (if_pos c28).symm.trans hf
          refine lv_iconst (v := iN 0) hx hb dX7_isMatching_111 rfl ?_
          refine lv_istore_n (lv' := [(3, .int (iN 0)), (0, .ref (a 0)), (1, .ref (a 4)), (2, .int (iN x2)), (4, .int (iN v21))]) hx hb dX7_isMatching_112 rfl hl (by decide) rfl (fun ls hl => ?_)
          obtain ⟨g22, hf⟩ := gd hf
          refine lv_iinc (v := iN (v21 + 1)) (lv' := [(4, .int (iN (v21 + 1))), (3, .int (iN 0)), (0, .ref (a 0)), (1, .ref (a 4)), (2, .int (iN x2))]) hx hb dX7_isMatching_113 hl (k := 4) rfl (iN_add v21 1) (by decide) rfl (fun ls hl => ?_)
          refine lv_goto (tgt := 73) hx hb dX7_isMatching_116 (by decide) ?_
          exact ih0 _ _ (by decide) g22 hf _ (lv_sub hl [2, 3, 4, 1, 0] rfl)
        · replace hf := (if_neg c28).symm.trans hf
          refine lv_aload_n hx hb dX7_isMatching_86 rfl (lv_at hl 1 rfl) ?_
          refine lv_iload_n hx hb dX7_isMatching_87 rfl (lv_at hl 2 rfl) ?_
          refine lv_aload_n hx hb dX7_isMatching_88 rfl (lv_at hl 0 rfl) ?_
          refine x_get (C := RX7) (T := TX7) (NF := 17) (v := .int (iN (σ 0 1))) hx hb hts iX7 hown hK hP 0 (by decide) (mE_0 cI a (_)) rfl 1 (by decide) fl7 rfl dX7_isMatching_89 ?_
          refine lv_iload hx hb dX7_isMatching_92 (lv_at hl 4 rfl) ?_
          obtain ⟨v23, hv23, hf⟩ := bd hf
          refine x_callP (va_runS (As := [.ref (a 4), .int (iN x2), .int (iN (σ 0 1)), .int (iN v21)]) (rest := []) ⟨hx, hb, hml, hown, hts⟩ (kX7_taken_4 l dC dI cI a σ x2 (σ 0 1) v21 v23 hv23 hR rx2 (hR 0 1) rv21) (va_cwS 4 hts gX7_isMatching_X7_taken rfl rfl rfl hX7_taken_d ⟨Nat.le_trans (by decide) hrm.1, Nat.le_trans (by decide) hrm.2⟩) (psM hP hK) rfl rfl hl.1 rfl (lv_room (Nat.le_of_ble_eq_true rfl)) dX7_isMatching_94 ⟨Nat.zero_le _, Nat.zero_le _⟩) (fun rv23 => ?_)
          refine lv_aload_n hx hb dX7_isMatching_97 rfl (lv_at hl 0 rfl) ?_
          refine x_get (C := RX7) (T := TX7) (NF := 17) (v := .ref (a 1)) hx hb hts iX7 hown hK hP 0 (by decide) (mE_0 cI a (_)) rfl 3 (by decide) fl16 rfl dX7_isMatching_98 ?_
          refine lv_iload hx hb dX7_isMatching_101 (lv_at hl 4 rfl) ?_
          obtain ⟨g24, hf⟩ := gd hf
          refine x_iald hx hb hK hP 1 0 (by decide) (mE_1 cI a (_)) (by decide) rfl g24 dX7_isMatching_103 ?_
          refine x_icmp_gt (tgt := 111) hx hb rv23 (hR 1 v21) dX7_isMatching_104 (by decide) (fun c27 => ?_) (fun c27 => ?_)
          · replace hf := (if_pos c27).symm.trans hf
            refine lv_iconst (v := iN 0) hx hb dX7_isMatching_111 rfl ?_
            refine lv_istore_n (lv' := [(3, .int (iN 0)), (0, .ref (a 0)), (1, .ref (a 4)), (2, .int (iN x2)), (4, .int (iN v21))]) hx hb dX7_isMatching_112 rfl hl (by decide) rfl (fun ls hl => ?_)
            obtain ⟨g25, hf⟩ := gd hf
            refine lv_iinc (v := iN (v21 + 1)) (lv' := [(4, .int (iN (v21 + 1))), (3, .int (iN 0)), (0, .ref (a 0)), (1, .ref (a 4)), (2, .int (iN x2))]) hx hb dX7_isMatching_113 hl (k := 4) rfl (iN_add v21 1) (by decide) rfl (fun ls hl => ?_)
            refine lv_goto (tgt := 73) hx hb dX7_isMatching_116 (by decide) ?_
            exact ih0 _ _ (by decide) g25 hf _ (lv_sub hl [2, 3, 4, 1, 0] rfl)
          · replace hf := (if_neg c27).symm.trans hf
            refine lv_iconst (v := iN 1) hx hb dX7_isMatching_107 rfl ?_
            refine lv_goto (tgt := 112) hx hb dX7_isMatching_108 (by decide) ?_
            refine lv_istore_n (lv' := [(3, .int (iN 1)), (0, .ref (a 0)), (1, .ref (a 4)), (2, .int (iN x2)), (4, .int (iN v21))]) hx hb dX7_isMatching_112 rfl hl (by decide) rfl (fun ls hl => ?_)
            obtain ⟨g26, hf⟩ := gd hf
            refine lv_iinc (v := iN (v21 + 1)) (lv' := [(4, .int (iN (v21 + 1))), (3, .int (iN 1)), (0, .ref (a 0)), (1, .ref (a 4)), (2, .int (iN x2))]) hx hb dX7_isMatching_113 hl (k := 4) rfl (iN_add v21 1) (by decide) rfl (fun ls hl => ?_)
            refine lv_goto (tgt := 73) hx hb dX7_isMatching_116 (by decide) ?_
            exact ih0 _ _ (by decide) g26 hf _ (lv_sub hl [2, 3, 4, 1, 0] rfl)
  refine L_fX7_isMatching_0_4_L73 _ (fun v30 v31 rv30 rv31 hf ls hl => ?_) _ _ _ rv18 (by decide) hf _ (lv_sub hl [1, 2, 3, 4, 0] rfl)
  refine lv_iload_n hx hb dX7_isMatching_119 rfl (lv_at hl 3 rfl) ?_
  obtain ⟨g32, hf⟩ := gd hf
  rw [← hQQ]
  exact x_zret hx hb hr (znar g32) (Option.some.inj hf) rv30 hlocks dX7_isMatching_120
def fX7_fits_0 (σ : Mem) : Option (Int × Mem) := nx (mup σ 0 0 0) fun σ1 => (fX7_isMatching_0_4 σ1 0).bind fun v2 => if v2 = 0 then some (0, σ1) else some (1, σ1)
set_option maxHeartbeats 4000000 in
set_option maxRecDepth 100000 in
theorem kX7_fits_0 (l : Launch) (dC : Nat → ClassId) (dI : Nat → Nat → Nat) (cI : ClassId) (a : Nat → Nat) (hi : ∀ i j, i < 12 → j < 12 → a i = a j → i = j) (σ : Mem) (r : (Int × Mem)) (hf : fX7_fits_0 σ  = some r) (hR : Rg σ) : Met l yX7_fits wsX7_fits ({ frames := 3, cells := 0, slots := 0, locals := 72 }) (va_Pc [.ref (a 0)] (preM dC dI cI a σ)) (qM (dC, dI) (gw 12 a (mE cI a)) (gA 12 a) r) 0 0 (gA 12 a) := by
  refine Met.ofW (cc := cX7_fits) (maxL := 1) (ret := (some .int)) (by decide) rfl ?_
  intro p e s m args below meth c s₁ B hml hv
  obtain ⟨hargs, hP, hK⟩ := hv
  have hx := B.exec
  have hb := B.bytes
  have hr := B.returns
  have hts := atoms_spec (ws := wsX7_fits) B.pre
  have hown : s.vm.findClass RX7 = some m.cls := findClass_of_methodNamed B.named
  have hlocks := B.notSynchronized
  have hS : va_S (gA 12 a) s.heap s.heap [] := va_S.rf
  have iX7 : ∀ w ∈ wsX70, w ∈ wsX7_fits := by decide +kernel
  have fl26 := hts (.fieldLink RX7 26 "MatchHallModel" "told" "[I") (by decide +kernel)
  have fl58 := hts (.fieldLink RX7 58 "MatchHallModel" "code" "I") (by decide +kernel)
  have hrm : 3 ≤ (headSpec wsX7_fits ({ frames := 3, cells := 0, slots := 0, locals := 72 })).room.frames ∧ 72 ≤ (headSpec wsX7_fits ({ frames := 3, cells := 0, slots := 0, locals := 72 })).room.locals := ⟨Nat.le_refl _, Nat.le_refl _⟩
  generalize (headSpec wsX7_fits ({ frames := 3, cells := 0, slots := 0, locals := 72 })).room = RR at hrm ⊢
  have hl := lv_entry ([.ref (a 0)]) (n := 1) (Nat.le_of_ble_eq_true rfl)
  rw [show entryFrame m args 1 = entryFrame m ([.ref (a 0)] : List Value).toArray 1 from by rw [hargs], lg_entry_eq]
  generalize (lg_sl ([.ref (a 0)]) ++ List.replicate (1 - (lg_sl ([.ref (a 0)])).length) Slot.unset).toArray = ls at hl ⊢
  have hl : lv_has ls 1 [(0, .ref (a 0))] := hl
  generalize hQQ : MQ below (qM (dC, dI) (gw 12 a (mE cI a)) (gA 12 a) r) args s 0 0 (gA 12 a) = QQ
  refine lv_aload_n hx hb dX7_fits_0 rfl (lv_at hl 0 rfl) ?_
  refine lv_iconst (v := iN 0) hx hb dX7_fits_1 rfl ?_
  obtain ⟨σ1, hσ1, hf⟩ := nxe hf
  refine x_put (C := RX7) (T := TX7) (NF := 17) (x := 0) (ty := .int) hx hb hts iX7 tyX7 tyX7_ok nmX7 hi hown hK hP hS 0 (by decide) (mE_0 cI a (_)) rfl 0 0 (by decide) fl58 rfl (by decide +kernel) rfl rfl (Nat.le_of_ble_eq_true rfl) rfl dX7_fits_2 (fun H locs hP hS => ?_)
  rw [← hσ1] at hP
  have hRσ1 : Rg σ1 := by rw [hσ1]; exact Rg_up hR (by decide)
  refine lv_aload_n hx hb dX7_fits_5 rfl (lv_at hl 0 rfl) ?_
  refine lv_aload_n hx hb dX7_fits_6 rfl (lv_at hl 0 rfl) ?_
  refine x_get (C := RX7) (T := TX7) (NF := 17) (v := .ref (a 4)) hx hb hts iX7 hown hK hP 0 (by decide) (mE_0 cI a (_)) rfl 6 (by decide) fl26 rfl dX7_fits_7 ?_
  refine lv_iconst (v := iN 0) hx hb dX7_fits_10 rfl ?_
  obtain ⟨v2, hv2, hf⟩ := bd hf
  refine x_callP (va_runV (As := [.ref (a 4), .int (iN 0)]) (rest := []) ⟨hx, hb, hml, hown, hts⟩ (kX7_isMatching_0_4 l dC dI cI a σ1 0 v2 hv2 hRσ1 (by decide)) (cwV 2 hts gX7_fits_X7_isMatching rfl rfl rfl hX7_isMatching_d ⟨Nat.le_trans (by decide) hrm.1, Nat.le_trans (by decide) hrm.2⟩) (pvM 0 (by decide) (mE_0 cI a (_)) rfl hP hK) rfl rfl hl.1 rfl (lv_room (Nat.le_of_ble_eq_true rfl)) dX7_fits_11 ⟨Nat.zero_le _, Nat.zero_le _⟩) (fun rv2 => ?_)
  refine x_if_eq (tgt := 21) hx hb rv2 dX7_fits_14 (by decide) (fun c3 => ?_) (fun c3 => ?_)
  · replace hf := (if_pos c3).symm.trans hf
    refine lv_iconst (v := iN 0) hx hb dX7_fits_21 rfl ?_
    rw [← hQQ]
    exact x_iretM hx hb hr (Option.some.inj hf) (by decide) hRσ1 hP hS hlocks dX7_fits_22
  · replace hf := (if_neg c3).symm.trans hf
    refine lv_iconst (v := iN 1) hx hb dX7_fits_17 rfl ?_
    refine lv_goto (tgt := 22) hx hb dX7_fits_18 (by decide) ?_
    rw [← hQQ]
    exact x_iretM hx hb hr (Option.some.inj hf) (by decide) hRσ1 hP hS hlocks dX7_fits_22
