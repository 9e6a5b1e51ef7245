def fX7_goesBefore_0 (σ : Mem) (x1 : Int) (x2 : Int) : Option Int := if rng (6 * x1) then if (0 : Int) ≤ (6 * x1) ∧ ((6 * x1) : Int) < 384 then if rng (6 * x2) then if (0 : Int) ≤ (6 * x2) ∧ ((6 * x2) : Int) < 384 then if (σ 7 (6 * x1)) < (σ 7 (6 * x2)) then some 1 else if (σ 7 (6 * x1)) = (σ 7 (6 * x2)) then if rng (6 * x1) then if (0 : Int) ≤ (6 * x1) ∧ ((6 * x1) : Int) < 384 then (fX7_place_0 σ 0 (σ 7 (6 * x1)) (σ 8 (6 * x1))).bind fun v7 => if rng (6 * x2) then if (0 : Int) ≤ (6 * x2) ∧ ((6 * x2) : Int) < 384 then (fX7_place_0 σ 0 (σ 7 (6 * x2)) (σ 8 (6 * x2))).bind fun v10 => if v7 < v10 then some 1 else some 0 else none else none else none else none else some 0 else none else none else none else none
set_option maxHeartbeats 4000000 in
set_option maxRecDepth 100000 in
theorem kX7_goesBefore_0 (l : Launch) (dC : Nat → ClassId) (dI : Nat → Nat → Nat) (cI : ClassId) (a : Nat → Nat) (σ : Mem) (x1 : Int) (x2 : Int) (r : Int) (hf : fX7_goesBefore_0 σ x1 x2 = some r) (hR : Rg σ) (rx1 : rng x1) (rx2 : rng x2) : Met l yX7_goesBefore wsX7_goesBefore ({ frames := 1, cells := 0, slots := 0, locals := 25 }) (va_Pc [.ref (a 0), .int (iN x1), .int (iN x2)] (preM dC dI cI a σ)) (qP r) 0 0 (fun _ => False) := by
  refine Met.ofW (cc := cX7_goesBefore) (maxL := 5) (ret := (some .boolean)) (by decide) rfl ?_
  intro p e s m args below meth c s₁ B hml hv
  obtain ⟨hargs, hP, hK⟩ := hv
  have hx := B.exec
  have hb := B.bytes
  have hr := B.returns
  have hts := atoms_spec (ws := wsX7_goesBefore) B.pre
  have hown : s.vm.findClass RX7 = some m.cls := findClass_of_methodNamed B.named
  have hlocks := B.notSynchronized
  have iX7 : ∀ w ∈ wsX70, w ∈ wsX7_goesBefore := by decide +kernel
  have fl35 := hts (.fieldLink RX7 35 "MatchHallModel" "members" "[I") (by decide +kernel)
  have fl38 := hts (.fieldLink RX7 38 "MatchHallModel" "leaves" "[I") (by decide +kernel)
  have hrm : 1 ≤ (headSpec wsX7_goesBefore ({ frames := 1, cells := 0, slots := 0, locals := 25 })).room.frames ∧ 25 ≤ (headSpec wsX7_goesBefore ({ frames := 1, cells := 0, slots := 0, locals := 25 })).room.locals := ⟨Nat.le_refl _, Nat.le_refl _⟩
  generalize (headSpec wsX7_goesBefore ({ frames := 1, cells := 0, slots := 0, locals := 25 })).room = RR at hrm ⊢
  have hl := lv_entry ([.ref (a 0), .int (iN x1), .int (iN x2)]) (n := 5) (Nat.le_of_ble_eq_true rfl)
  rw [show entryFrame m args 5 = entryFrame m ([.ref (a 0), .int (iN x1), .int (iN x2)] : List Value).toArray 5 from by rw [hargs], lg_entry_eq]
  generalize (lg_sl ([.ref (a 0), .int (iN x1), .int (iN x2)]) ++ List.replicate (5 - (lg_sl ([.ref (a 0), .int (iN x1), .int (iN x2)])).length) Slot.unset).toArray = ls at hl ⊢
  have hl : lv_has ls 5 [(0, .ref (a 0)), (1, .int (iN x1)), (2, .int (iN x2))] := hl
  generalize hQQ : MQ below (qP r) args s 0 0 (fun _ => False) = QQ
  refine lv_aload_n hx hb dX7_goesBefore_0 rfl (lv_at hl 0 rfl) ?_
  refine x_get (C := RX7) (T := TX7) (NF := 17) (v := .ref (a 7)) hx hb hts iX7 hown hK hP 0 (by decide) (mE_0 cI a (_)) rfl 12 (by decide) fl35 rfl dX7_goesBefore_1 ?_
  refine lv_bipush (v := iN 6) hx hb dX7_goesBefore_4 (by decide) ?_
  refine lv_iload_n hx hb dX7_goesBefore_6 rfl (lv_at hl 1 rfl) ?_
  obtain ⟨g1, hf⟩ := gd hf
  refine x_imul hx hb dX7_goesBefore_7 ?_
  obtain ⟨g2, hf⟩ := gd hf
  refine x_iald hx hb hK hP 7 0 (by decide) (mE_7 cI a (_)) (by decide) rfl g2 dX7_goesBefore_8 ?_
  refine lv_istore_n (lv' := [(3, .int (iN (σ 7 (6 * x1)))), (0, .ref (a 0)), (1, .int (iN x1)), (2, .int (iN x2))]) hx hb dX7_goesBefore_9 rfl hl (by decide) rfl (fun ls hl => ?_)
  refine lv_aload_n hx hb dX7_goesBefore_10 rfl (lv_at hl 1 rfl) ?_
  refine x_get (C := RX7) (T := TX7) (NF := 17) (v := .ref (a 7)) hx hb hts iX7 hown hK hP 0 (by decide) (mE_0 cI a (_)) rfl 12 (by decide) fl35 rfl dX7_goesBefore_11 ?_
  refine lv_bipush (v := iN 6) hx hb dX7_goesBefore_14 (by decide) ?_
  refine lv_iload_n hx hb dX7_goesBefore_16 rfl (lv_at hl 3 rfl) ?_
  obtain ⟨g3, hf⟩ := gd hf
  refine x_imul hx hb dX7_goesBefore_17 ?_
  obtain ⟨g4, hf⟩ := gd hf
  refine x_iald hx hb hK hP 7 0 (by decide) (mE_7 cI a (_)) (by decide) rfl g4 dX7_goesBefore_18 ?_
  refine lv_istore (lv' := [(4, .int (iN (σ 7 (6 * x2)))), (3, .int (iN (σ 7 (6 * x1)))), (0, .ref (a 0)), (1, .int (iN x1)), (2, .int (iN x2))]) hx hb dX7_goesBefore_19 hl (by decide) rfl (fun ls hl => ?_)
  refine lv_iload_n hx hb dX7_goesBefore_21 rfl (lv_at hl 1 rfl) ?_
  refine lv_iload hx hb dX7_goesBefore_22 (lv_at hl 0 rfl) ?_
  refine x_icmp_lt (tgt := 67) hx hb (hR 7 (6 * x1)) (hR 7 (6 * x2)) dX7_goesBefore_24 (by decide) (fun c13 => ?_) (fun c13 => ?_)
  · replace hf := (if_pos c13).symm.trans hf
    refine lv_iconst (v := iN 1) hx hb dX7_goesBefore_67 rfl ?_
    refine lv_goto (tgt := 72) hx hb dX7_goesBefore_68 (by decide) ?_
    rw [← hQQ]
    exact x_zret hx hb hr (by decide) (Option.some.inj hf) (by decide) hlocks dX7_goesBefore_72
  · replace hf := (if_neg c13).symm.trans hf
    refine lv_iload_n hx hb dX7_goesBefore_27 rfl (lv_at hl 1 rfl) ?_
    refine lv_iload hx hb dX7_goesBefore_28 (lv_at hl 0 rfl) ?_
    refine x_icmp_ne (tgt := 71) hx hb (hR 7 (6 * x1)) (hR 7 (6 * x2)) dX7_goesBefore_30 (by decide) (fun c12 => ?_) (fun c12 => ?_)
    · replace hf := (if_neg c12).symm.trans hf
      refine lv_iconst (v := iN 0) hx hb dX7_goesBefore_71 rfl ?_
      rw [← hQQ]
      exact x_zret hx hb hr (by decide) (Option.some.inj hf) (by decide) hlocks dX7_goesBefore_72
    · replace hf := (if_pos c12).symm.trans hf
      refine lv_aload_n hx hb dX7_goesBefore_33 rfl (lv_at hl 2 rfl) ?_
      refine lv_iconst (v := iN 0) hx hb dX7_goesBefore_34 rfl ?_
      refine lv_iload_n hx hb dX7_goesBefore_35 rfl (lv_at hl 1 rfl) ?_
      refine lv_aload_n hx hb dX7_goesBefore_36 rfl (lv_at hl 2 rfl) ?_
      refine x_get (C := RX7) (T := TX7) (NF := 17) (v := .ref (a 8)) hx hb hts iX7 hown hK hP 0 (by decide) (mE_0 cI a (_)) rfl 13 (by decide) fl38 rfl dX7_goesBefore_37 ?_
      refine lv_bipush (v := iN 6) hx hb dX7_goesBefore_40 (by decide) ?_
      refine lv_iload_n hx hb dX7_goesBefore_42 rfl (lv_at hl 3 rfl) ?_
      obtain ⟨g5, hf⟩ := gd hf
      refine x_imul hx hb dX7_goesBefore_43 ?_
      obtain ⟨g6, hf⟩ := gd hf
      refine x_iald hx hb hK hP 8 0 (by decide) (mE_8 cI a (_)) (by decide) rfl g6 dX7_goesBefore_44 ?_
      obtain ⟨v7, hv7, hf⟩ := bd hf
      refine x_callP (va_runV (As := [.int (iN 0), .int (iN (σ 7 (6 * x1))), .int (iN (σ 8 (6 * x1)))]) (rest := []) ⟨hx, hb, hml, hown, hts⟩ (kX7_place_0 l dC dI cI a σ 0 (σ 7 (6 * x1)) (σ 8 (6 * x1)) v7 hv7 hR (by decide) (hR 7 (6 * x1)) (hR 8 (6 * x1))) (cwV 3 hts gX7_goesBefore_X7_place rfl rfl rfl hX7_place_d ⟨Nat.le_trans (by decide) hrm.1, Nat.le_trans (by decide) hrm.2⟩) (pvM 0 (by decide) (mE_0 cI a (_)) rfl hP hK) rfl rfl hl.1 rfl (lv_room (Nat.le_of_ble_eq_true rfl)) dX7_goesBefore_45 ⟨Nat.zero_le _, Nat.zero_le _⟩) (fun rv7 => ?_)
      refine lv_aload_n hx hb dX7_goesBefore_48 rfl (lv_at hl 2 rfl) ?_
      refine lv_iconst (v := iN 0) hx hb dX7_goesBefore_49 rfl ?_
      refine lv_iload hx hb dX7_goesBefore_50 (lv_at hl 0 rfl) ?_
      refine lv_aload_n hx hb dX7_goesBefore_52 rfl (lv_at hl 2 rfl) ?_
      refine x_get (C := RX7) (T := TX7) (NF := 17) (v := .ref (a 8)) hx hb hts iX7 hown hK hP 0 (by decide) (mE_0 cI a (_)) rfl 13 (by decide) fl38 rfl dX7_goesBefore_53 ?_
      refine lv_bipush (v := iN 6) hx hb dX7_goesBefore_56 (by decide) ?_
      refine lv_iload_n hx hb dX7_goesBefore_58 rfl (lv_at hl 4 rfl) ?_
      obtain ⟨g8, hf⟩ := gd hf
      refine x_imul hx hb dX7_goesBefore_59 ?_
      obtain ⟨g9, hf⟩ := gd hf
      refine x_iald hx hb hK hP 8 0 (by decide) (mE_8 cI a (_)) (by decide) rfl g9 dX7_goesBefore_60 ?_
      obtain ⟨v10, hv10, hf⟩ := bd hf
      refine x_callP (va_runV (As := [.int (iN 0), .int (iN (σ 7 (6 * x2))), .int (iN (σ 8 (6 * x2)))]) (rest := [.int (iN v7)]) ⟨hx, hb, hml, hown, hts⟩ (kX7_place_0 l dC dI cI a σ 0 (σ 7 (6 * x2)) (σ 8 (6 * x2)) v10 hv10 hR (by decide) (hR 7 (6 * x2)) (hR 8 (6 * x2))) (cwV 3 hts gX7_goesBefore_X7_place rfl rfl rfl hX7_place_d ⟨Nat.le_trans (by decide) hrm.1, Nat.le_trans (by decide) hrm.2⟩) (pvM 0 (by decide) (mE_0 cI a (_)) rfl hP hK) rfl rfl hl.1 rfl (lv_room (Nat.le_of_ble_eq_true rfl)) dX7_goesBefore_61 ⟨Nat.zero_le _, Nat.zero_le _⟩) (fun rv10 => ?_)
      refine x_icmp_ge (tgt := 71) hx hb rv7 rv10 dX7_goesBefore_64 (by decide) (fun c11 => ?_) (fun c11 => ?_)
      · replace hf := (if_neg c11).symm.trans hf
        refine lv_iconst (v := iN 0) hx hb dX7_goesBefore_71 rfl ?_
        rw [← hQQ]
        exact x_zret hx hb hr (by decide) (Option.some.inj hf) (by decide) hlocks dX7_goesBefore_72
      · replace hf := (if_pos c11).symm.trans hf
        refine lv_iconst (v := iN 1) hx hb dX7_goesBefore_67 rfl ?_
        refine lv_goto (tgt := 72) hx hb dX7_goesBefore_68 (by decide) ?_
        rw [← hQQ]
        exact x_zret hx hb hr (by decide) (Option.some.inj hf) (by decide) hlocks dX7_goesBefore_72
def fX7_swap_0_L29 (x1 : Int) (x2 : Int) (ex0 : Mem → Int → Option (Int × Mem)) : Nat → Mem → Int → Option (Int × Mem)
  | 0, _, _ => none
  | n0 + 1, σ8, v7 => if v7 < 6 then if rng (6 * x1) then if rng ((6 * x1) + v7) then if (0 : Int) ≤ ((6 * x1) + v7) ∧ (((6 * x1) + v7) : Int) < 384 then if rng (6 * x1) then if rng ((6 * x1) + v7) then if rng (6 * x2) then if rng ((6 * x2) + v7) then if (0 : Int) ≤ ((6 * x2) + v7) ∧ (((6 * x2) + v7) : Int) < 384 then if (0 : Int) ≤ ((6 * x1) + v7) ∧ (((6 * x1) + v7) : Int) < 384 then nx (mup σ8 7 ((6 * x1) + v7) (σ8 7 ((6 * x2) + v7))) fun σ18 => if rng (6 * x2) then if rng ((6 * x2) + v7) then if (0 : Int) ≤ ((6 * x2) + v7) ∧ (((6 * x2) + v7) : Int) < 384 then nx (mup σ18 7 ((6 * x2) + v7) (σ8 7 ((6 * x1) + v7))) fun σ22 => if rng (6 * x1) then if rng ((6 * x1) + v7) then if (0 : Int) ≤ ((6 * x1) + v7) ∧ (((6 * x1) + v7) : Int) < 384 then if rng (6 * x1) then if rng ((6 * x1) + v7) then if rng (6 * x2) then if rng ((6 * x2) + v7) then if (0 : Int) ≤ ((6 * x2) + v7) ∧ (((6 * x2) + v7) : Int) < 384 then if (0 : Int) ≤ ((6 * x1) + v7) ∧ (((6 * x1) + v7) : Int) < 384 then nx (mup σ22 8 ((6 * x1) + v7) (σ22 8 ((6 * x2) + v7))) fun σ32 => if rng (6 * x2) then if rng ((6 * x2) + v7) then if (0 : Int) ≤ ((6 * x2) + v7) ∧ (((6 * x2) + v7) : Int) < 384 then nx (mup σ32 8 ((6 * x2) + v7) (σ22 8 ((6 * x1) + v7))) fun σ36 => if rng (6 * x1) then if rng ((6 * x1) + v7) then if (0 : Int) ≤ ((6 * x1) + v7) ∧ (((6 * x1) + v7) : Int) < 384 then if rng (6 * x1) then if rng ((6 * x1) + v7) then if rng (6 * x2) then if rng ((6 * x2) + v7) then if (0 : Int) ≤ ((6 * x2) + v7) ∧ (((6 * x2) + v7) : Int) < 384 then if (0 : Int) ≤ ((6 * x1) + v7) ∧ (((6 * x1) + v7) : Int) < 384 then nx (mup σ36 9 ((6 * x1) + v7) (σ36 9 ((6 * x2) + v7))) fun σ46 => if rng (6 * x2) then if rng ((6 * x2) + v7) then if (0 : Int) ≤ ((6 * x2) + v7) ∧ (((6 * x2) + v7) : Int) < 384 then nx (mup σ46 9 ((6 * x2) + v7) (σ36 9 ((6 * x1) + v7))) fun σ50 => if rng (v7 + 1) then fX7_swap_0_L29 x1 x2 ex0 n0 σ50 (v7 + 1) else none else none else none else none else none else none else none else none else none else none else none else none else none else none else none else none else none else none else none else none else none else none else none else none else none else none else none else none else none else none else none else none else none else none else none else none else none else ex0 σ8 v7
def fX7_swap_0 (σ : Mem) (x1 : Int) (x2 : Int) : Option (Int × Mem) := if (0 : Int) ≤ x1 ∧ (x1 : Int) < 64 then if (0 : Int) ≤ x2 ∧ (x2 : Int) < 64 then if (0 : Int) ≤ x1 ∧ (x1 : Int) < 64 then nx (mup σ 6 x1 (σ 6 x2)) fun σ4 => if (0 : Int) ≤ x2 ∧ (x2 : Int) < 64 then nx (mup σ4 6 x2 (σ 6 x1)) fun σ6 => fX7_swap_0_L29 x1 x2 (fun σ54 v53 => some (0, σ54)) FU σ6 0 else none else none else none else none
set_option maxHeartbeats 4000000 in
set_option maxRecDepth 100000 in
theorem kX7_swap_0 (l : Launch) (dC : Nat → ClassId) (dI : Nat → Nat → Nat) (cI : ClassId) (a : Nat → Nat) (hi : ∀ i j, i < 12 → j < 12 → a i = a j → i = j) (σ : Mem) (x1 : Int) (x2 : Int) (r : (Int × Mem)) (hf : fX7_swap_0 σ x1 x2 = some r) (hR : Rg σ) (rx1 : rng x1) (rx2 : rng x2) : Met l yX7_swap wsX7_swap ({ frames := 0, cells := 0, slots := 0, locals := 0 }) (va_Pc [.ref (a 0), .int (iN x1), .int (iN x2)] (preM dC dI cI a σ)) (qMv (dC, dI) (gw 12 a (mE cI a)) (gA 12 a) r) 0 0 (gA 12 a) := by
  refine Met.ofW (cc := cX7_swap) (maxL := 6) (ret := none) (by decide) rfl ?_
  intro p e s m args below meth c s₁ B hml hv
  obtain ⟨hargs, hP, hK⟩ := hv
  have hx := B.exec
  have hb := B.bytes
  have hr := B.returns
  have hts := atoms_spec (ws := wsX7_swap) B.pre
  have hown : s.vm.findClass RX7 = some m.cls := findClass_of_methodNamed B.named
  have hlocks := B.notSynchronized
  have hS : va_S (gA 12 a) s.heap s.heap [] := va_S.rf
  have iX7 : ∀ w ∈ wsX70, w ∈ wsX7_swap := by decide +kernel
  have fl32 := hts (.fieldLink RX7 32 "MatchHallModel" "size" "[I") (by decide +kernel)
  have fl35 := hts (.fieldLink RX7 35 "MatchHallModel" "members" "[I") (by decide +kernel)
  have fl38 := hts (.fieldLink RX7 38 "MatchHallModel" "leaves" "[I") (by decide +kernel)
  have fl41 := hts (.fieldLink RX7 41 "MatchHallModel" "gets" "[I") (by decide +kernel)
  have hrm : 0 ≤ (headSpec wsX7_swap ({ frames := 0, cells := 0, slots := 0, locals := 0 })).room.frames ∧ 0 ≤ (headSpec wsX7_swap ({ frames := 0, cells := 0, slots := 0, locals := 0 })).room.locals := ⟨Nat.le_refl _, Nat.le_refl _⟩
  generalize (headSpec wsX7_swap ({ frames := 0, cells := 0, slots := 0, locals := 0 })).room = RR at hrm ⊢
  have hl := lv_entry ([.ref (a 0), .int (iN x1), .int (iN x2)]) (n := 6) (Nat.le_of_ble_eq_true rfl)
  rw [show entryFrame m args 6 = entryFrame m ([.ref (a 0), .int (iN x1), .int (iN x2)] : List Value).toArray 6 from by rw [hargs], lg_entry_eq]
  generalize (lg_sl ([.ref (a 0), .int (iN x1), .int (iN x2)]) ++ List.replicate (6 - (lg_sl ([.ref (a 0), .int (iN x1), .int (iN x2)])).length) Slot.unset).toArray = ls at hl ⊢
  have hl : lv_has ls 6 [(0, .ref (a 0)), (1, .int (iN x1)), (2, .int (iN x2))] := hl
  generalize hQQ : MQ below (qMv (dC, dI) (gw 12 a (mE cI a)) (gA 12 a) r) args s 0 0 (gA 12 a) = QQ
  refine lv_aload_n hx hb dX7_swap_0 rfl (lv_at hl 0 rfl) ?_
  refine x_get (C := RX7) (T := TX7) (NF := 17) (v := .ref (a 6)) hx hb hts iX7 hown hK hP 0 (by decide) (mE_0 cI a (_)) rfl 11 (by decide) fl32 rfl dX7_swap_1 ?_
  refine lv_iload_n hx hb dX7_swap_4 rfl (lv_at hl 1 rfl) ?_
  obtain ⟨g1, hf⟩ := gd hf
  refine x_iald hx hb hK hP 6 0 (by decide) (mE_6 cI a (_)) (by decide) rfl g1 dX7_swap_5 ?_
  refine lv_istore_n (lv' := [(3, .int (iN (σ 6 x1))), (0, .ref (a 0)), (1, .int (iN x1)), (2, .int (iN x2))]) hx hb dX7_swap_6 rfl hl (by decide) rfl (fun ls hl => ?_)
  refine lv_aload_n hx hb dX7_swap_7 rfl (lv_at hl 1 rfl) ?_
  refine x_get (C := RX7) (T := TX7) (NF := 17) (v := .ref (a 6)) hx hb hts iX7 hown hK hP 0 (by decide) (mE_0 cI a (_)) rfl 11 (by decide) fl32 rfl dX7_swap_8 ?_
  refine lv_iload_n hx hb dX7_swap_11 rfl (lv_at hl 2 rfl) ?_
  refine lv_aload_n hx hb dX7_swap_12 rfl (lv_at hl 1 rfl) ?_
  refine x_get (C := RX7) (T := TX7) (NF := 17) (v := .ref (a 6)) hx hb hts iX7 hown hK hP 0 (by decide) (mE_0 cI a (_)) rfl 11 (by decide) fl32 rfl dX7_swap_13 ?_
  refine lv_iload_n hx hb dX7_swap_16 rfl (lv_at hl 3 rfl) ?_
  obtain ⟨g2, hf⟩ := gd hf
  refine x_iald hx hb hK hP 6 0 (by decide) (mE_6 cI a (_)) (by decide) rfl g2 dX7_swap_17 ?_
  obtain ⟨g3, hf⟩ := gd hf
  obtain ⟨σ4, hσ4, hf⟩ := nxe hf
  refine x_iast (x := (σ 6 x2)) hx hb hi hK hP hS 6 0 (by decide) (mE_6 cI a) (by decide) rfl g3 dX7_swap_18 (fun H locs hP hS => ?_)
  rw [← hσ4] at hP
  have hRσ4 : Rg σ4 := by rw [hσ4]; exact Rg_up hR (hR 6 x2)
  refine lv_aload_n hx hb dX7_swap_19 rfl (lv_at hl 1 rfl) ?_
  refine x_get (C := RX7) (T := TX7) (NF := 17) (v := .ref (a 6)) hx hb hts iX7 hown hK hP 0 (by decide) (mE_0 cI a (_)) rfl 11 (by decide) fl32 rfl dX7_swap_20 ?_
  refine lv_iload_n hx hb dX7_swap_23 rfl (lv_at hl 3 rfl) ?_
  refine lv_iload_n hx hb dX7_swap_24 rfl (lv_at hl 0 rfl) ?_
  obtain ⟨g5, hf⟩ := gd hf
  obtain ⟨σ6, hσ6, hf⟩ := nxe hf
  refine x_iast (x := (σ 6 x1)) hx hb hi hK hP hS 6 0 (by decide) (mE_6 cI a) (by decide) rfl g5 dX7_swap_25 (fun H locs hP hS => ?_)
  rw [← hσ6] at hP
  have hRσ6 : Rg σ6 := by rw [hσ6]; exact Rg_up hRσ4 (hR 6 x1)
  refine lv_iconst (v := iN 0) hx hb dX7_swap_26 rfl ?_
  refine lv_istore (lv' := [(4, .int (iN 0)), (3, .int (iN (σ 6 x1))), (0, .ref (a 0)), (1, .int (iN x1)), (2, .int (iN x2))]) hx hb dX7_swap_27 hl (by decide) rfl (fun ls hl => ?_)
  have L_fX7_swap_0_L29 : ∀ (EX0 : Mem → Int → Option (Int × Mem)), (∀ (σ8 : Mem) (v7 : Int), Rg σ8 → rng v7 → EX0 σ8 v7 = some r → ∀ H locs ls, va_P (dC, dI) vwCl (gw 12 a (mE cI a) σ8) H → va_S (gA 12 a) s.heap H locs → lv_has ls 6 [(0, .ref (a 0)), (1, .int (iN x1)), (2, .int (iN x2)), (3, .int (iN (σ 6 x1))), (4, .int (iN v7))] → W p l e RR s m args below meth c H locs 0 0 QQ (F0 m 198 ls [])) → ∀ n0 : Nat, ∀ (σ8 : Mem) (v7 : Int), Rg σ8 → rng v7 → fX7_swap_0_L29 x1 x2 EX0 n0 σ8 v7 = some r → ∀ H locs ls, va_P (dC, dI) vwCl (gw 12 a (mE cI a) σ8) H → va_S (gA 12 a) s.heap H locs → lv_has ls 6 [(0, .ref (a 0)), (1, .int (iN x1)), (2, .int (iN x2)), (3, .int (iN (σ 6 x1))), (4, .int (iN v7))] → W p l e RR s m args below meth c H locs 0 0 QQ (F0 m 29 ls []) := by
    intro EX0 hEX0 n0
    induction n0 with
    | zero => intro _ _ _ _ hf; cases hf
    | succ n0 ih0 =>
      intro σ8 v7 hRσ8 rv7 hf H locs ls hP hS hl
      rw [fX7_swap_0_L29] at hf
      refine lv_iload hx hb dX7_swap_29 (lv_at hl 4 rfl) ?_
      refine lv_bipush (v := iN 6) hx hb dX7_swap_31 (by decide) ?_
      refine x_icmp_ge (tgt := 198) hx hb rv7 (by decide) dX7_swap_33 (by decide) (fun c52 => ?_) (fun c52 => ?_)
      · replace hf := (if_neg c52).symm.trans hf
        exact hEX0 _ _ hRσ8 rv7 hf _ _ _ hP hS (lv_sub hl [0, 1, 2, 3, 4] rfl)
      · replace hf := (if_pos c52).symm.trans hf
        refine lv_aload_n hx hb dX7_swap_36 rfl (lv_at hl 0 rfl) ?_
        refine x_get (C := RX7) (T := TX7) (NF := 17) (v := .ref (a 7)) hx hb hts iX7 hown hK hP 0 (by decide) (mE_0 cI a (_)) rfl 12 (by decide) fl35 rfl dX7_swap_37 ?_
        refine lv_bipush (v := iN 6) hx hb dX7_swap_40 (by decide) ?_
        refine lv_iload_n hx hb dX7_swap_42 rfl (lv_at hl 1 rfl) ?_
        obtain ⟨g9, hf⟩ := gd hf
        refine x_imul hx hb dX7_swap_43 ?_
        refine lv_iload hx hb dX7_swap_44 (lv_at hl 4 rfl) ?_
        obtain ⟨g10, hf⟩ := gd hf
        refine x_iadd hx hb dX7_swap_46 ?_
        obtain ⟨g11, hf⟩ := gd hf
        refine x_iald hx hb hK hP 7 0 (by decide) (mE_7 cI a (_)) (by decide) rfl g11 dX7_swap_47 ?_
        refine lv_istore (lv' := [(5, .int (iN (σ8 7 ((6 * x1) + v7)))), (0, .ref (a 0)), (1, .int (iN x1)), (2, .int (iN x2)), (3, .int (iN (σ 6 x1))), (4, .int (iN v7))]) hx hb dX7_swap_48 hl (by decide) rfl (fun ls hl => ?_)
        refine lv_aload_n hx hb dX7_swap_50 rfl (lv_at hl 1 rfl) ?_
        refine x_get (C := RX7) (T := TX7) (NF := 17) (v := .ref (a 7)) hx hb hts iX7 hown hK hP 0 (by decide) (mE_0 cI a (_)) rfl 12 (by decide) fl35 rfl dX7_swap_51 ?_
        refine lv_bipush (v := iN 6) hx hb dX7_swap_54 (by decide) ?_
        refine lv_iload_n hx hb dX7_swap_56 rfl (lv_at hl 2 rfl) ?_
        obtain ⟨g12, hf⟩ := gd hf
        refine x_imul hx hb dX7_swap_57 ?_
        refine lv_iload hx hb dX7_swap_58 (lv_at hl 5 rfl) ?_
        obtain ⟨g13, hf⟩ := gd hf
        refine x_iadd hx hb dX7_swap_60 ?_
        refine lv_aload_n hx hb dX7_swap_61 rfl (lv_at hl 1 rfl) ?_
        refine x_get (C := RX7) (T := TX7) (NF := 17) (v := .ref (a 7)) hx hb hts iX7 hown hK hP 0 (by decide) (mE_0 cI a (_)) rfl 12 (by decide) fl35 rfl dX7_swap_62 ?_
        refine lv_bipush (v := iN 6) hx hb dX7_swap_65 (by decide) ?_
        refine lv_iload_n hx hb dX7_swap_67 rfl (lv_at hl 3 rfl) ?_
        obtain ⟨g14, hf⟩ := gd hf
        refine x_imul hx hb dX7_swap_68 ?_
        refine lv_iload hx hb dX7_swap_69 (lv_at hl 5 rfl) ?_
        obtain ⟨g15, hf⟩ := gd hf
        refine x_iadd hx hb dX7_swap_71 ?_
        obtain ⟨g16, hf⟩ := gd hf
        refine x_iald hx hb hK hP 7 0 (by decide) (mE_7 cI a (_)) (by decide) rfl g16 dX7_swap_72 ?_
        obtain ⟨g17, hf⟩ := gd hf
        obtain ⟨σ18, hσ18, hf⟩ := nxe hf
        refine x_iast (x := (σ8 7 ((6 * x2) + v7))) hx hb hi hK hP hS 7 0 (by decide) (mE_7 cI a) (by decide) rfl g17 dX7_swap_73 (fun H locs hP hS => ?_)
        rw [← hσ18] at hP
        have hRσ18 : Rg σ18 := by rw [hσ18]; exact Rg_up hRσ8 (hRσ8 7 ((6 * x2) + v7))
        refine lv_aload_n hx hb dX7_swap_74 rfl (lv_at hl 1 rfl) ?_
        refine x_get (C := RX7) (T := TX7) (NF := 17) (v := .ref (a 7)) hx hb hts iX7 hown hK hP 0 (by decide) (mE_0 cI a (_)) rfl 12 (by decide) fl35 rfl dX7_swap_75 ?_
        refine lv_bipush (v := iN 6) hx hb dX7_swap_78 (by decide) ?_
        refine lv_iload_n hx hb dX7_swap_80 rfl (lv_at hl 3 rfl) ?_
        obtain ⟨g19, hf⟩ := gd hf
        refine x_imul hx hb dX7_swap_81 ?_
        refine lv_iload hx hb dX7_swap_82 (lv_at hl 5 rfl) ?_
        obtain ⟨g20, hf⟩ := gd hf
        refine x_iadd hx hb dX7_swap_84 ?_
        refine lv_iload hx hb dX7_swap_85 (lv_at hl 0 rfl) ?_
        obtain ⟨g21, hf⟩ := gd hf
        obtain ⟨σ22, hσ22, hf⟩ := nxe hf
        refine x_iast (x := (σ8 7 ((6 * x1) + v7))) hx hb hi hK hP hS 7 0 (by decide) (mE_7 cI a) (by decide) rfl g21 dX7_swap_87 (fun H locs hP hS => ?_)
        rw [← hσ22] at hP
        have hRσ22 : Rg σ22 := by rw [hσ22]; exact Rg_up hRσ18 (hRσ8 7 ((6 * x1) + v7))
        refine lv_aload_n hx hb dX7_swap_88 rfl (lv_at hl 1 rfl) ?_
        refine x_get (C := RX7) (T := TX7) (NF := 17) (v := .ref (a 8)) hx hb hts iX7 hown hK hP 0 (by decide) (mE_0 cI a (_)) rfl 13 (by decide) fl38 rfl dX7_swap_89 ?_
        refine lv_bipush (v := iN 6) hx hb dX7_swap_92 (by decide) ?_
        refine lv_iload_n hx hb dX7_swap_94 rfl (lv_at hl 2 rfl) ?_
        obtain ⟨g23, hf⟩ := gd hf
        refine x_imul hx hb dX7_swap_95 ?_
        refine lv_iload hx hb dX7_swap_96 (lv_at hl 5 rfl) ?_
        obtain ⟨g24, hf⟩ := gd hf
        refine x_iadd hx hb dX7_swap_98 ?_
        obtain ⟨g25, hf⟩ := gd hf
        refine x_iald hx hb hK hP 8 0 (by decide) (mE_8 cI a (_)) (by decide) rfl g25 dX7_swap_99 ?_
        refine lv_istore (lv' := [(5, .int (iN (σ22 8 ((6 * x1) + v7)))), (0, .ref (a 0)), (1, .int (iN x1)), (2, .int (iN x2)), (3, .int (iN (σ 6 x1))), (4, .int (iN v7))]) hx hb dX7_swap_100 hl (by decide) rfl (fun ls hl => ?_)
        refine lv_aload_n hx hb dX7_swap_102 rfl (lv_at hl 1 rfl) ?_
        refine x_get (C := RX7) (T := TX7) (NF := 17) (v := .ref (a 8)) hx hb hts iX7 hown hK hP 0 (by decide) (mE_0 cI a (_)) rfl 13 (by decide) fl38 rfl dX7_swap_103 ?_
        refine lv_bipush (v := iN 6) hx hb dX7_swap_106 (by decide) ?_
        refine lv_iload_n hx hb dX7_swap_108 rfl (lv_at hl 2 rfl) ?_
        obtain ⟨g26, hf⟩ := gd hf
        refine x_imul hx hb dX7_swap_109 ?_
        refine lv_iload hx hb dX7_swap_110 (lv_at hl 5 rfl) ?_
        obtain ⟨g27, hf⟩ := gd hf
        refine x_iadd hx hb dX7_swap_112 ?_
        refine lv_aload_n hx hb dX7_swap_113 rfl (lv_at hl 1 rfl) ?_
        refine x_get (C := RX7) (T := TX7) (NF := 17) (v := .ref (a 8)) hx hb hts iX7 hown hK hP 0 (by decide) (mE_0 cI a (_)) rfl 13 (by decide) fl38 rfl dX7_swap_114 ?_
        refine lv_bipush (v := iN 6) hx hb dX7_swap_117 (by decide) ?_
        refine lv_iload_n hx hb dX7_swap_119 rfl (lv_at hl 3 rfl) ?_
        obtain ⟨g28, hf⟩ := gd hf
        refine x_imul hx hb dX7_swap_120 ?_
        refine lv_iload hx hb dX7_swap_121 (lv_at hl 5 rfl) ?_
        obtain ⟨g29, hf⟩ := gd hf
        refine x_iadd hx hb dX7_swap_123 ?_
        obtain ⟨g30, hf⟩ := gd hf
        refine x_iald hx hb hK hP 8 0 (by decide) (mE_8 cI a (_)) (by decide) rfl g30 dX7_swap_124 ?_
        obtain ⟨g31, hf⟩ := gd hf
        obtain ⟨σ32, hσ32, hf⟩ := nxe hf
        refine x_iast (x := (σ22 8 ((6 * x2) + v7))) hx hb hi hK hP hS 8 0 (by decide) (mE_8 cI a) (by decide) rfl g31 dX7_swap_125 (fun H locs hP hS => ?_)
        rw [← hσ32] at hP
        have hRσ32 : Rg σ32 := by rw [hσ32]; exact Rg_up hRσ22 (hRσ22 8 ((6 * x2) + v7))
        refine lv_aload_n hx hb dX7_swap_126 rfl (lv_at hl 1 rfl) ?_
        refine x_get (C := RX7) (T := TX7) (NF := 17) (v := .ref (a 8)) hx hb hts iX7 hown hK hP 0 (by decide) (mE_0 cI a (_)) rfl 13 (by decide) fl38 rfl dX7_swap_127 ?_
        refine lv_bipush (v := iN 6) hx hb dX7_swap_130 (by decide) ?_
        refine lv_iload_n hx hb dX7_swap_132 rfl (lv_at hl 3 rfl) ?_
        obtain ⟨g33, hf⟩ := gd hf
        refine x_imul hx hb dX7_swap_133 ?_
        refine lv_iload hx hb dX7_swap_134 (lv_at hl 5 rfl) ?_
        obtain ⟨g34, hf⟩ := gd hf
        refine x_iadd hx hb dX7_swap_136 ?_
        refine lv_iload hx hb dX7_swap_137 (lv_at hl 0 rfl) ?_
        obtain ⟨g35, hf⟩ := gd hf
        obtain ⟨σ36, hσ36, hf⟩ := nxe hf
        refine x_iast (x := (σ22 8 ((6 * x1) + v7))) hx hb hi hK hP hS 8 0 (by decide) (mE_8 cI a) (by decide) rfl g35 dX7_swap_139 (fun H locs hP hS => ?_)
        rw [← hσ36] at hP
        have hRσ36 : Rg σ36 := by rw [hσ36]; exact Rg_up hRσ32 (hRσ22 8 ((6 * x1) + v7))
        refine lv_aload_n hx hb dX7_swap_140 rfl (lv_at hl 1 rfl) ?_
        refine x_get (C := RX7) (T := TX7) (NF := 17) (v := .ref (a 9)) hx hb hts iX7 hown hK hP 0 (by decide) (mE_0 cI a (_)) rfl 14 (by decide) fl41 rfl dX7_swap_141 ?_
        refine lv_bipush (v := iN 6) hx hb dX7_swap_144 (by decide) ?_
        refine lv_iload_n hx hb dX7_swap_146 rfl (lv_at hl 2 rfl) ?_
        obtain ⟨g37, hf⟩ := gd hf
        refine x_imul hx hb dX7_swap_147 ?_
        refine lv_iload hx hb dX7_swap_148 (lv_at hl 5 rfl) ?_
        obtain ⟨g38, hf⟩ := gd hf
        refine x_iadd hx hb dX7_swap_150 ?_
        obtain ⟨g39, hf⟩ := gd hf
        refine x_iald hx hb hK hP 9 0 (by decide) (mE_9 cI a (_)) (by decide) rfl g39 dX7_swap_151 ?_
        refine lv_istore (lv' := [(5, .int (iN (σ36 9 ((6 * x1) + v7)))), (0, .ref (a 0)), (1, .int (iN x1)), (2, .int (iN x2)), (3, .int (iN (σ 6 x1))), (4, .int (iN v7))]) hx hb dX7_swap_152 hl (by decide) rfl (fun ls hl => ?_)
        refine lv_aload_n hx hb dX7_swap_154 rfl (lv_at hl 1 rfl) ?_
        refine x_get (C := RX7) (T := TX7) (NF := 17) (v := .ref (a 9)) hx hb hts iX7 hown hK hP 0 (by decide) (mE_0 cI a (_)) rfl 14 (by decide) fl41 rfl dX7_swap_155 ?_
        refine lv_bipush (v := iN 6) hx hb dX7_swap_158 (by decide) ?_
        refine lv_iload_n hx hb dX7_swap_160 rfl (lv_at hl 2 rfl) ?_
        obtain ⟨g40, hf⟩ := gd hf
        refine x_imul hx hb dX7_swap_161 ?_
        refine lv_iload hx hb dX7_swap_162 (lv_at hl 5 rfl) ?_
        obtain ⟨g41, hf⟩ := gd hf
        refine x_iadd hx hb dX7_swap_164 ?_
        refine lv_aload_n hx hb dX7_swap_165 rfl (lv_at hl 1 rfl) ?_
        refine x_get (C := RX7) (T := TX7) (NF := 17) (v := .ref (a 9)) hx hb hts iX7 hown hK hP 0 (by decide) (mE_0 cI a (_)) rfl 14 (by decide) fl41 rfl dX7_swap_166 ?_
        refine lv_bipush (v := iN 6) hx hb dX7_swap_169 (by decide) ?_
        refine lv_iload_n hx hb dX7_swap_171 rfl (lv_at hl 3 rfl) ?_
        obtain ⟨g42, hf⟩ := gd hf
        refine x_imul hx hb dX7_swap_172 ?_
        refine lv_iload hx hb dX7_swap_173 (lv_at hl 5 rfl) ?_
        obtain ⟨g43, hf⟩ := gd hf
        refine x_iadd hx hb dX7_swap_175 ?_
        obtain ⟨g44, hf⟩ := gd hf
        refine x_iald hx hb hK hP 9 0 (by decide) (mE_9 cI a (_)) (by decide) rfl g44 dX7_swap_176 ?_
        obtain ⟨g45, hf⟩ := gd hf
        obtain ⟨σ46, hσ46, hf⟩ := nxe hf
        refine x_iast (x := (σ36 9 ((6 * x2) + v7))) hx hb hi hK hP hS 9 0 (by decide) (mE_9 cI a) (by decide) rfl g45 dX7_swap_177 (fun H locs hP hS => ?_)
        rw [← hσ46] at hP
        have hRσ46 : Rg σ46 := by rw [hσ46]; exact Rg_up hRσ36 (hRσ36 9 ((6 * x2) + v7))
        refine lv_aload_n hx hb dX7_swap_178 rfl (lv_at hl 1 rfl) ?_
        refine x_get (C := RX7) (T := TX7) (NF := 17) (v := .ref (a 9)) hx hb hts iX7 hown hK hP 0 (by decide) (mE_0 cI a (_)) rfl 14 (by decide) fl41 rfl dX7_swap_179 ?_
        refine lv_bipush (v := iN 6) hx hb dX7_swap_182 (by decide) ?_
        refine lv_iload_n hx hb dX7_swap_184 rfl (lv_at hl 3 rfl) ?_
        obtain ⟨g47, hf⟩ := gd hf
        refine x_imul hx hb dX7_swap_185 ?_
        refine lv_iload hx hb dX7_swap_186 (lv_at hl 5 rfl) ?_
        obtain ⟨g48, hf⟩ := gd hf
        refine x_iadd hx hb dX7_swap_188 ?_
        refine lv_iload hx hb dX7_swap_189 (lv_at hl 0 rfl) ?_
        obtain ⟨g49, hf⟩ := gd hf
        obtain ⟨σ50, hσ50, hf⟩ := nxe hf
        refine x_iast (x := (σ36 9 ((6 * x1) + v7))) hx hb hi hK hP hS 9 0 (by decide) (mE_9 cI a) (by decide) rfl g49 dX7_swap_191 (fun H locs hP hS => ?_)
        rw [← hσ50] at hP
        have hRσ50 : Rg σ50 := by rw [hσ50]; exact Rg_up hRσ46 (hRσ36 9 ((6 * x1) + v7))
        obtain ⟨g51, hf⟩ := gd hf
        refine lv_iinc (v := iN (v7 + 1)) (lv' := [(4, .int (iN (v7 + 1))), (5, .int (iN (σ36 9 ((6 * x1) + v7)))), (0, .ref (a 0)), (1, .int (iN x1)), (2, .int (iN x2)), (3, .int (iN (σ 6 x1)))]) hx hb dX7_swap_192 hl (k := 5) rfl (iN_add v7 1) (by decide) rfl (fun ls hl => ?_)
        refine lv_goto (tgt := 29) hx hb dX7_swap_195 (by decide) ?_
        exact ih0 _ _ hRσ50 g51 hf _ _ _ hP hS (lv_sub hl [2, 3, 4, 5, 0] rfl)
  refine L_fX7_swap_0_L29 _ (fun σ54 v53 hRσ54 rv53 hf H locs ls hP hS hl => ?_) _ _ _ hRσ6 (by decide) hf _ _ _ hP hS (lv_sub hl [2, 3, 4, 1, 0] rfl)
  rw [← hQQ]
  exact x_vretM hx hb hr (Option.some.inj hf) hRσ54 hP hS hlocks dX7_swap_198
def fX7_work_0_L28 (v5 : Int) (ex1 : Mem → Int → Option (Int × Mem)) : Nat → Mem → Int → Option (Int × Mem)
  | 0, _, _ => none
  | n1 + 1, σ9, v8 => if v8 < (σ9 0 8) then (fX7_isStep_0 σ9 v5 v8).bind fun v10 => if v10 = 0 then if rng (v8 + 1) then fX7_work_0_L28 v5 ex1 n1 σ9 (v8 + 1) else none else bnd2 (fX7_rotate_0 σ9 v5 v8) fun v12 σ13 => if rng (v8 + 1) then fX7_work_0_L28 v5 ex1 n1 σ13 (v8 + 1) else none else ex1 σ9 v8
def fX7_work_0_L16 (ex0 : Mem → Int → Option (Int × Mem)) : Nat → Mem → Int → Option (Int × Mem)
  | 0, _, _ => none
  | n0 + 1, σ6, v5 => if v5 < (σ6 0 8) then if rng (v5 + 1) then fX7_work_0_L28 v5 (fun σ18 v17 => if rng (v5 + 1) then fX7_work_0_L16  ex0 n0 σ18 (v5 + 1) else none) FU σ6 (v5 + 1) else none else ex0 σ6 v5
def fX7_work_0_L75 (ex1 : Mem → Int → Option (Int × Mem)) : Nat → Mem → Int → Option (Int × Mem)
  | 0, _, _ => none
  | n1 + 1, σ26, v25 => if 0 < v25 then if rng (v25 - 1) then (fX7_goesBefore_0 σ26 v25 (v25 - 1)).bind fun v28 => if v28 = 0 then ex1 σ26 v25 else if rng (v25 - 1) then bnd2 (fX7_swap_0 σ26 v25 (v25 - 1)) fun v30 σ31 => if rng (v25 + (-1)) then fX7_work_0_L75  ex1 n1 σ31 (v25 + (-1)) else none else none else none else ex1 σ26 v25
def fX7_work_0_L65 (ex0 : Mem → Int → Option (Int × Mem)) : Nat → Mem → Int → Option (Int × Mem)
  | 0, _, _ => none
  | n0 + 1, σ24, v23 => if v23 < (σ24 0 10) then fX7_work_0_L75  (fun σ36 v35 => if rng (v23 + 1) then fX7_work_0_L65  ex0 n0 σ36 (v23 + 1) else none) FU σ24 v23 else ex0 σ24 v23
def fX7_work_0 (σ : Mem) : Option (Int × Mem) := nx (mup σ 0 0 0) fun σ1 => bnd2 (fX7_findAll_0 σ1 ) fun v2 σ3 => nx (mup σ3 0 10 0) fun σ4 => fX7_work_0_L16  (fun σ22 v21 => fX7_work_0_L65  (fun σ40 v39 => nx (mup σ40 0 7 1) fun σ41 => some ((σ41 0 8), σ41)) FU σ22 1) FU σ4 0
set_option maxHeartbeats 4000000 in
set_option maxRecDepth 100000 in
theorem kX7_work_0 (l : Launch) (dC : Nat → ClassId) (dI : Nat → Nat → Nat) (cI : ClassId) (a : Nat → Nat) (hi : ∀ i j, i < 12 → j < 12 → a i = a j → i = j) (σ : Mem) (r : (Int × Mem)) (hf : fX7_work_0 σ  = some r) (hR : Rg σ) : Met l yX7_work wsX7_work ({ frames := 5, cells := 0, slots := 0, locals := 121 }) (va_Pc [.ref (a 0)] (preM dC dI cI a σ)) (qM (dC, dI) (gw 12 a (mE cI a)) (gA 12 a) r) 0 0 (gA 12 a) := by
  refine Met.ofW (cc := cX7_work) (maxL := 3) (ret := (some .int)) (by decide) rfl ?_
  intro p e s m args below meth c s₁ B hml hv
  obtain ⟨hargs, hP, hK⟩ := hv
  have hx := B.exec
  have hb := B.bytes
  have hr := B.returns
  have hts := atoms_spec (ws := wsX7_work) B.pre
  have hown : s.vm.findClass RX7 = some m.cls := findClass_of_methodNamed B.named
  have hlocks := B.notSynchronized
  have hS : va_S (gA 12 a) s.heap s.heap [] := va_S.rf
  have iX7 : ∀ w ∈ wsX70, w ∈ wsX7_work := by decide +kernel
  have fl102 := hts (.fieldLink RX7 102 "MatchHallModel" "rotations" "I") (by decide +kernel)
  have fl54 := hts (.fieldLink RX7 54 "MatchHallModel" "worked" "Z") (by decide +kernel)
  have fl58 := hts (.fieldLink RX7 58 "MatchHallModel" "code" "I") (by decide +kernel)
  have fl88 := hts (.fieldLink RX7 88 "MatchHallModel" "many" "I") (by decide +kernel)
  have hrm : 5 ≤ (headSpec wsX7_work ({ frames := 5, cells := 0, slots := 0, locals := 121 })).room.frames ∧ 121 ≤ (headSpec wsX7_work ({ frames := 5, cells := 0, slots := 0, locals := 121 })).room.locals := ⟨Nat.le_refl _, Nat.le_refl _⟩
  generalize (headSpec wsX7_work ({ frames := 5, cells := 0, slots := 0, locals := 121 })).room = RR at hrm ⊢
  have hl := lv_entry ([.ref (a 0)]) (n := 3) (Nat.le_of_ble_eq_true rfl)
  rw [show entryFrame m args 3 = entryFrame m ([.ref (a 0)] : List Value).toArray 3 from by rw [hargs], lg_entry_eq]
  generalize (lg_sl ([.ref (a 0)]) ++ List.replicate (3 - (lg_sl ([.ref (a 0)])).length) Slot.unset).toArray = ls at hl ⊢
  have hl : lv_has ls 3 [(0, .ref (a 0))] := hl
  generalize hQQ : MQ below (qM (dC, dI) (gw 12 a (mE cI a)) (gA 12 a) r) args s 0 0 (gA 12 a) = QQ
  refine lv_aload_n hx hb dX7_work_0 rfl (lv_at hl 0 rfl) ?_
  refine lv_iconst (v := iN 0) hx hb dX7_work_1 rfl ?_
  obtain ⟨σ1, hσ1, hf⟩ := nxe hf
  refine x_put (C := RX7) (T := TX7) (NF := 17) (x := 0) (ty := .int) hx hb hts iX7 tyX7 tyX7_ok nmX7 hi hown hK hP hS 0 (by decide) (mE_0 cI a (_)) rfl 0 0 (by decide) fl58 rfl (by decide +kernel) rfl rfl (Nat.le_of_ble_eq_true rfl) rfl dX7_work_2 (fun H locs hP hS => ?_)
  rw [← hσ1] at hP
  have hRσ1 : Rg σ1 := by rw [hσ1]; exact Rg_up hR (by decide)
  refine lv_aload_n hx hb dX7_work_5 rfl (lv_at hl 0 rfl) ?_
  obtain ⟨v2, σ3, hv2, hf⟩ := bd2 hf
  refine x_callMv (va_runV (As := []) (rest := []) ⟨hx, hb, hml, hown, hts⟩ (kX7_findAll_0 l dC dI cI a hi σ1  (v2, σ3) hv2 hRσ1 ) (cwV 0 hts gX7_work_X7_findAll rfl rfl rfl hX7_findAll_d ⟨Nat.le_trans (by decide) hrm.1, Nat.le_trans (by decide) hrm.2⟩) (pvM 0 (by decide) (mE_0 cI a (_)) rfl hP hK) rfl rfl hl.1 rfl (lv_room (Nat.le_of_ble_eq_true rfl)) dX7_work_6 ⟨Nat.zero_le _, Nat.zero_le _⟩) hS (fun rv2 hRσ3 H locs hP hS => ?_)
  refine lv_aload_n hx hb dX7_work_9 rfl (lv_at hl 0 rfl) ?_
  refine lv_iconst (v := iN 0) hx hb dX7_work_10 rfl ?_
  obtain ⟨σ4, hσ4, hf⟩ := nxe hf
  refine x_put (C := RX7) (T := TX7) (NF := 17) (x := 0) (ty := .int) hx hb hts iX7 tyX7 tyX7_ok nmX7 hi hown hK hP hS 0 (by decide) (mE_0 cI a (_)) rfl 10 10 (by decide) fl102 rfl (by decide +kernel) rfl rfl (Nat.le_of_ble_eq_true rfl) rfl dX7_work_11 (fun H locs hP hS => ?_)
  rw [← hσ4] at hP
  have hRσ4 : Rg σ4 := by rw [hσ4]; exact Rg_up hRσ3 (by decide)
  refine lv_iconst (v := iN 0) hx hb dX7_work_14 rfl ?_
  refine lv_istore_n (lv' := [(1, .int (iN 0)), (0, .ref (a 0))]) hx hb dX7_work_15 rfl hl (by decide) rfl (fun ls hl => ?_)
  have L_fX7_work_0_L16 : ∀ (EX0 : Mem → Int → Option (Int × Mem)), (∀ (σ6 : Mem) (v5 : Int), Rg σ6 → rng v5 → EX0 σ6 v5 = some r → ∀ H locs ls, va_P (dC, dI) vwCl (gw 12 a (mE cI a) σ6) H → va_S (gA 12 a) s.heap H locs → lv_has ls 3 [(0, .ref (a 0)), (1, .int (iN v5))] → W p l e RR s m args below meth c H locs 0 0 QQ (F0 m 63 ls [])) → ∀ n0 : Nat, ∀ (σ6 : Mem) (v5 : Int), Rg σ6 → rng v5 → fX7_work_0_L16  EX0 n0 σ6 v5 = some r → ∀ H locs ls, va_P (dC, dI) vwCl (gw 12 a (mE cI a) σ6) H → va_S (gA 12 a) s.heap H locs → lv_has ls 3 [(0, .ref (a 0)), (1, .int (iN v5))] → W p l e RR s m args below meth c H locs 0 0 QQ (F0 m 16 ls []) := by
    intro EX0 hEX0 n0
    induction n0 with
    | zero => intro _ _ _ _ hf; cases hf
    | succ n0 ih0 =>
      intro σ6 v5 hRσ6 rv5 hf H locs ls hP hS hl
      rw [fX7_work_0_L16] at hf
      refine lv_iload_n hx hb dX7_work_16 rfl (lv_at hl 1 rfl) ?_
      refine lv_aload_n hx hb dX7_work_17 rfl (lv_at hl 0 rfl) ?_
      refine x_get (C := RX7) (T := TX7) (NF := 17) (v := .int (iN (σ6 0 8))) hx hb hts iX7 hown hK hP 0 (by decide) (mE_0 cI a (_)) rfl 8 (by decide) fl88 rfl dX7_work_18 ?_
      refine x_icmp_ge (tgt := 63) hx hb rv5 (hRσ6 0 8) dX7_work_21 (by decide) (fun c20 => ?_) (fun c20 => ?_)
      · replace hf := (if_neg c20).symm.trans hf
        exact hEX0 _ _ hRσ6 rv5 hf _ _ _ hP hS (lv_sub hl [0, 1] rfl)
      · replace hf := (if_pos c20).symm.trans hf
        refine lv_iload_n hx hb dX7_work_24 rfl (lv_at hl 1 rfl) ?_
        refine lv_iconst (v := iN 1) hx hb dX7_work_25 rfl ?_
        obtain ⟨g7, hf⟩ := gd hf
        refine x_iadd hx hb dX7_work_26 ?_
        refine lv_istore_n (lv' := [(2, .int (iN (v5 + 1))), (0, .ref (a 0)), (1, .int (iN v5))]) hx hb dX7_work_27 rfl hl (by decide) rfl (fun ls hl => ?_)
        have L_fX7_work_0_L28 : ∀ (EX1 : Mem → Int → Option (Int × Mem)), (∀ (σ9 : Mem) (v8 : Int), Rg σ9 → rng v8 → EX1 σ9 v8 = some r → ∀ H locs ls, va_P (dC, dI) vwCl (gw 12 a (mE cI a) σ9) H → va_S (gA 12 a) s.heap H locs → lv_has ls 3 [(0, .ref (a 0)), (1, .int (iN v5)), (2, .int (iN v8))] → W p l e RR s m args below meth c H locs 0 0 QQ (F0 m 57 ls [])) → ∀ n1 : Nat, ∀ (σ9 : Mem) (v8 : Int), Rg σ9 → rng v8 → fX7_work_0_L28 v5 EX1 n1 σ9 v8 = some r → ∀ H locs ls, va_P (dC, dI) vwCl (gw 12 a (mE cI a) σ9) H → va_S (gA 12 a) s.heap H locs → lv_has ls 3 [(0, .ref (a 0)), (1, .int (iN v5)), (2, .int (iN v8))] → W p l e RR s m args below meth c H locs 0 0 QQ (F0 m 28 ls []) := by
          intro EX1 hEX1 n1
          induction n1 with
          | zero => intro _ _ _ _ hf; cases hf
          | succ n1 ih1 =>
            intro σ9 v8 hRσ9 rv8 hf H locs ls hP hS hl
            rw [fX7_work_0_L28] at hf
            refine lv_iload_n hx hb dX7_work_28 rfl (lv_at hl 2 rfl) ?_
            refine lv_aload_n hx hb dX7_work_29 rfl (lv_at hl 0 rfl) ?_
            refine x_get (C := RX7) (T := TX7) (NF := 17) (v := .int (iN (σ9 0 8))) hx hb hts iX7 hown hK hP 0 (by decide) (mE_0 cI a (_)) rfl 8 (by decide) fl88 rfl dX7_work_30 ?_
            refine x_icmp_ge (tgt := 57) hx hb rv8 (hRσ9 0 8) dX7_work_33 (by decide) (fun c16 => ?_) (fun c16 => ?_)
            · replace hf := (if_neg c16).symm.trans hf
              exact hEX1 _ _ hRσ9 rv8 hf _ _ _ hP hS (lv_sub hl [0, 1, 2] rfl)
            · replace hf := (if_pos c16).symm.trans hf
              refine lv_aload_n hx hb dX7_work_36 rfl (lv_at hl 0 rfl) ?_
              refine lv_iload_n hx hb dX7_work_37 rfl (lv_at hl 1 rfl) ?_
              refine lv_iload_n hx hb dX7_work_38 rfl (lv_at hl 2 rfl) ?_
              obtain ⟨v10, hv10, hf⟩ := bd hf
              refine x_callP (va_runV (As := [.int (iN v5), .int (iN v8)]) (rest := []) ⟨hx, hb, hml, hown, hts⟩ (kX7_isStep_0 l dC dI cI a σ9 v5 v8 v10 hv10 hRσ9 rv5 rv8) (cwV 2 hts gX7_work_X7_isStep rfl rfl rfl hX7_isStep_d ⟨Nat.le_trans (by decide) hrm.1, Nat.le_trans (by decide) hrm.2⟩) (pvM 0 (by decide) (mE_0 cI a (_)) rfl hP hK) rfl rfl hl.1 rfl (lv_room (Nat.le_of_ble_eq_true rfl)) dX7_work_39 ⟨Nat.zero_le _, Nat.zero_le _⟩) (fun rv10 => ?_)
              refine x_if_eq (tgt := 51) hx hb rv10 dX7_work_42 (by decide) (fun c15 => ?_) (fun c15 => ?_)
              · replace hf := (if_pos c15).symm.trans hf
                obtain ⟨g11, hf⟩ := gd hf
                refine lv_iinc (v := iN (v8 + 1)) (lv' := [(2, .int (iN (v8 + 1))), (0, .ref (a 0)), (1, .int (iN v5))]) hx hb dX7_work_51 hl (k := 2) rfl (iN_add v8 1) (by decide) rfl (fun ls hl => ?_)
                refine lv_goto (tgt := 28) hx hb dX7_work_54 (by decide) ?_
                exact ih1 _ _ hRσ9 g11 hf _ _ _ hP hS (lv_sub hl [1, 2, 0] rfl)
              · replace hf := (if_neg c15).symm.trans hf
                refine lv_aload_n hx hb dX7_work_45 rfl (lv_at hl 0 rfl) ?_
                refine lv_iload_n hx hb dX7_work_46 rfl (lv_at hl 1 rfl) ?_
                refine lv_iload_n hx hb dX7_work_47 rfl (lv_at hl 2 rfl) ?_
                obtain ⟨v12, σ13, hv12, hf⟩ := bd2 hf
                refine x_callMv (va_runV (As := [.int (iN v5), .int (iN v8)]) (rest := []) ⟨hx, hb, hml, hown, hts⟩ (kX7_rotate_0 l dC dI cI a hi σ9 v5 v8 (v12, σ13) hv12 hRσ9 rv5 rv8) (cwV 2 hts gX7_work_X7_rotate rfl rfl rfl hX7_rotate_d ⟨Nat.le_trans (by decide) hrm.1, Nat.le_trans (by decide) hrm.2⟩) (pvM 0 (by decide) (mE_0 cI a (_)) rfl hP hK) rfl rfl hl.1 rfl (lv_room (Nat.le_of_ble_eq_true rfl)) dX7_work_48 ⟨Nat.zero_le _, Nat.zero_le _⟩) hS (fun rv12 hRσ13 H locs hP hS => ?_)
                obtain ⟨g14, hf⟩ := gd hf
                refine lv_iinc (v := iN (v8 + 1)) (lv' := [(2, .int (iN (v8 + 1))), (0, .ref (a 0)), (1, .int (iN v5))]) hx hb dX7_work_51 hl (k := 2) rfl (iN_add v8 1) (by decide) rfl (fun ls hl => ?_)
                refine lv_goto (tgt := 28) hx hb dX7_work_54 (by decide) ?_
                exact ih1 _ _ hRσ13 g14 hf _ _ _ hP hS (lv_sub hl [1, 2, 0] rfl)
        refine L_fX7_work_0_L28 _ (fun σ18 v17 hRσ18 rv17 hf H locs ls hP hS hl => ?_) _ _ _ hRσ6 g7 hf _ _ _ hP hS (lv_sub hl [1, 2, 0] rfl)
        obtain ⟨g19, hf⟩ := gd hf
        refine lv_iinc (v := iN (v5 + 1)) (lv' := [(1, .int (iN (v5 + 1))), (0, .ref (a 0)), (2, .int (iN v17))]) hx hb dX7_work_57 hl (k := 1) rfl (iN_add v5 1) (by decide) rfl (fun ls hl => ?_)
        refine lv_goto (tgt := 16) hx hb dX7_work_60 (by decide) ?_
        exact ih0 _ _ hRσ18 g19 hf _ _ _ hP hS (lv_sub hl [1, 0] rfl)
  refine L_fX7_work_0_L16 _ (fun σ22 v21 hRσ22 rv21 hf H locs ls hP hS hl => ?_) _ _ _ hRσ4 (by decide) hf _ _ _ hP hS (lv_sub hl [1, 0] rfl)
  refine lv_iconst (v := iN 1) hx hb dX7_work_63 rfl ?_
  refine lv_istore_n (lv' := [(1, .int (iN 1)), (0, .ref (a 0))]) hx hb dX7_work_64 rfl hl (by decide) rfl (fun ls hl => ?_)
  have L_fX7_work_0_L65 : ∀ (EX0 : Mem → Int → Option (Int × Mem)), (∀ (σ24 : Mem) (v23 : Int), Rg σ24 → rng v23 → EX0 σ24 v23 = some r → ∀ H locs ls, va_P (dC, dI) vwCl (gw 12 a (mE cI a) σ24) H → va_S (gA 12 a) s.heap H locs → lv_has ls 3 [(0, .ref (a 0)), (1, .int (iN v23))] → W p l e RR s m args below meth c H locs 0 0 QQ (F0 m 110 ls [])) → ∀ n0 : Nat, ∀ (σ24 : Mem) (v23 : Int), Rg σ24 → rng v23 → fX7_work_0_L65  EX0 n0 σ24 v23 = some r → ∀ H locs ls, va_P (dC, dI) vwCl (gw 12 a (mE cI a) σ24) H → va_S (gA 12 a) s.heap H locs → lv_has ls 3 [(0, .ref (a 0)), (1, .int (iN v23))] → W p l e RR s m args below meth c H locs 0 0 QQ (F0 m 65 ls []) := by
    intro EX0 hEX0 n0
    induction n0 with
    | zero => intro _ _ _ _ hf; cases hf
    | succ n0 ih0 =>
      intro σ24 v23 hRσ24 rv23 hf H locs ls hP hS hl
      rw [fX7_work_0_L65] at hf
      refine lv_iload_n hx hb dX7_work_65 rfl (lv_at hl 1 rfl) ?_
      refine lv_aload_n hx hb dX7_work_66 rfl (lv_at hl 0 rfl) ?_
      refine x_get (C := RX7) (T := TX7) (NF := 17) (v := .int (iN (σ24 0 10))) hx hb hts iX7 hown hK hP 0 (by decide) (mE_0 cI a (_)) rfl 10 (by decide) fl102 rfl dX7_work_67 ?_
      refine x_icmp_ge (tgt := 110) hx hb rv23 (hRσ24 0 10) dX7_work_70 (by decide) (fun c38 => ?_) (fun c38 => ?_)
      · replace hf := (if_neg c38).symm.trans hf
        exact hEX0 _ _ hRσ24 rv23 hf _ _ _ hP hS (lv_sub hl [0, 1] rfl)
      · replace hf := (if_pos c38).symm.trans hf
        refine lv_iload_n hx hb dX7_work_73 rfl (lv_at hl 1 rfl) ?_
        refine lv_istore_n (lv' := [(2, .int (iN v23)), (0, .ref (a 0)), (1, .int (iN v23))]) hx hb dX7_work_74 rfl hl (by decide) rfl (fun ls hl => ?_)
        have L_fX7_work_0_L75 : ∀ (EX1 : Mem → Int → Option (Int × Mem)), (∀ (σ26 : Mem) (v25 : Int), Rg σ26 → rng v25 → EX1 σ26 v25 = some r → ∀ H locs ls, va_P (dC, dI) vwCl (gw 12 a (mE cI a) σ26) H → va_S (gA 12 a) s.heap H locs → lv_has ls 3 [(0, .ref (a 0)), (1, .int (iN v23)), (2, .int (iN v25))] → W p l e RR s m args below meth c H locs 0 0 QQ (F0 m 104 ls [])) → ∀ n1 : Nat, ∀ (σ26 : Mem) (v25 : Int), Rg σ26 → rng v25 → fX7_work_0_L75  EX1 n1 σ26 v25 = some r → ∀ H locs ls, va_P (dC, dI) vwCl (gw 12 a (mE cI a) σ26) H → va_S (gA 12 a) s.heap H locs → lv_has ls 3 [(0, .ref (a 0)), (1, .int (iN v23)), (2, .int (iN v25))] → W p l e RR s m args below meth c H locs 0 0 QQ (F0 m 75 ls []) := by
          intro EX1 hEX1 n1
          induction n1 with
          | zero => intro _ _ _ _ hf; cases hf
          | succ n1 ih1 =>
            intro σ26 v25 hRσ26 rv25 hf H locs ls hP hS hl
            rw [fX7_work_0_L75] at hf
            refine lv_iload_n hx hb dX7_work_75 rfl (lv_at hl 2 rfl) ?_
            refine x_if_le (tgt := 104) hx hb rv25 dX7_work_76 (by decide) (fun c34 => ?_) (fun c34 => ?_)
            · replace hf := (if_neg c34).symm.trans hf
              exact hEX1 _ _ hRσ26 rv25 hf _ _ _ hP hS (lv_sub hl [0, 1, 2] rfl)
            · replace hf := (if_pos c34).symm.trans hf
              refine lv_aload_n hx hb dX7_work_79 rfl (lv_at hl 0 rfl) ?_
              refine lv_iload_n hx hb dX7_work_80 rfl (lv_at hl 2 rfl) ?_
              refine lv_iload_n hx hb dX7_work_81 rfl (lv_at hl 2 rfl) ?_
              refine lv_iconst (v := iN 1) hx hb dX7_work_82 rfl ?_
              obtain ⟨g27, hf⟩ := gd hf
              refine x_isub hx hb dX7_work_83 ?_
              obtain ⟨v28, hv28, hf⟩ := bd hf
              refine x_callP (va_runV (As := [.int (iN v25), .int (iN (v25 - 1))]) (rest := []) ⟨hx, hb, hml, hown, hts⟩ (kX7_goesBefore_0 l dC dI cI a σ26 v25 (v25 - 1) v28 hv28 hRσ26 rv25 g27) (cwV 2 hts gX7_work_X7_goesBefore rfl rfl rfl hX7_goesBefore_d ⟨Nat.le_trans (by decide) hrm.1, Nat.le_trans (by decide) hrm.2⟩) (pvM 0 (by decide) (mE_0 cI a (_)) rfl hP hK) rfl rfl hl.1 rfl (lv_room (Nat.le_of_ble_eq_true rfl)) dX7_work_84 ⟨Nat.zero_le _, Nat.zero_le _⟩) (fun rv28 => ?_)
              refine x_if_eq (tgt := 104) hx hb rv28 dX7_work_87 (by decide) (fun c33 => ?_) (fun c33 => ?_)
              · replace hf := (if_pos c33).symm.trans hf
                exact hEX1 _ _ hRσ26 rv25 hf _ _ _ hP hS (lv_sub hl [0, 1, 2] rfl)
              · replace hf := (if_neg c33).symm.trans hf
                refine lv_aload_n hx hb dX7_work_90 rfl (lv_at hl 0 rfl) ?_
                refine lv_iload_n hx hb dX7_work_91 rfl (lv_at hl 2 rfl) ?_
                refine lv_iload_n hx hb dX7_work_92 rfl (lv_at hl 2 rfl) ?_
                refine lv_iconst (v := iN 1) hx hb dX7_work_93 rfl ?_
                obtain ⟨g29, hf⟩ := gd hf
                refine x_isub hx hb dX7_work_94 ?_
                obtain ⟨v30, σ31, hv30, hf⟩ := bd2 hf
                refine x_callMv (va_runV (As := [.int (iN v25), .int (iN (v25 - 1))]) (rest := []) ⟨hx, hb, hml, hown, hts⟩ (kX7_swap_0 l dC dI cI a hi σ26 v25 (v25 - 1) (v30, σ31) hv30 hRσ26 rv25 g29) (cwV 2 hts gX7_work_X7_swap rfl rfl rfl hX7_swap_d ⟨Nat.le_trans (by decide) hrm.1, Nat.le_trans (by decide) hrm.2⟩) (pvM 0 (by decide) (mE_0 cI a (_)) rfl hP hK) rfl rfl hl.1 rfl (lv_room (Nat.le_of_ble_eq_true rfl)) dX7_work_95 ⟨Nat.zero_le _, Nat.zero_le _⟩) hS (fun rv30 hRσ31 H locs hP hS => ?_)
                obtain ⟨g32, hf⟩ := gd hf
                refine lv_iinc (v := iN (v25 + (-1))) (lv' := [(2, .int (iN (v25 + (-1)))), (0, .ref (a 0)), (1, .int (iN v23))]) hx hb dX7_work_98 hl (k := 2) rfl (iN_add v25 (-1)) (by decide) rfl (fun ls hl => ?_)
                refine lv_goto (tgt := 75) hx hb dX7_work_101 (by decide) ?_
                exact ih1 _ _ hRσ31 g32 hf _ _ _ hP hS (lv_sub hl [1, 2, 0] rfl)
        refine L_fX7_work_0_L75 _ (fun σ36 v35 hRσ36 rv35 hf H locs ls hP hS hl => ?_) _ _ _ hRσ24 rv23 hf _ _ _ hP hS (lv_sub hl [1, 2, 0] rfl)
        obtain ⟨g37, hf⟩ := gd hf
        refine lv_iinc (v := iN (v23 + 1)) (lv' := [(1, .int (iN (v23 + 1))), (0, .ref (a 0)), (2, .int (iN v35))]) hx hb dX7_work_104 hl (k := 1) rfl (iN_add v23 1) (by decide) rfl (fun ls hl => ?_)
        refine lv_goto (tgt := 65) hx hb dX7_work_107 (by decide) ?_
        exact ih0 _ _ hRσ36 g37 hf _ _ _ hP hS (lv_sub hl [1, 0] rfl)
  refine L_fX7_work_0_L65 _ (fun σ40 v39 hRσ40 rv39 hf H locs ls hP hS hl => ?_) _ _ _ hRσ22 (by decide) hf _ _ _ hP hS (lv_sub hl [1, 0] rfl)
  refine lv_aload_n hx hb dX7_work_110 rfl (lv_at hl 0 rfl) ?_
  refine lv_iconst (v := iN 1) hx hb dX7_work_111 rfl ?_
  obtain ⟨σ41, hσ41, hf⟩ := nxe hf
  refine x_put (C := RX7) (T := TX7) (NF := 17) (x := 1) (ty := .boolean) hx hb hts iX7 tyX7 tyX7_ok nmX7 hi hown hK hP hS 0 (by decide) (mE_0 cI a (_)) rfl 7 7 (by decide) fl54 rfl (by decide +kernel) (by decide) (by decide) (Nat.le_of_ble_eq_true rfl) rfl dX7_work_112 (fun H locs hP hS => ?_)
  rw [← hσ41] at hP
  have hRσ41 : Rg σ41 := by rw [hσ41]; exact Rg_up hRσ40 (by decide)
  refine lv_aload_n hx hb dX7_work_115 rfl (lv_at hl 0 rfl) ?_
  refine x_get (C := RX7) (T := TX7) (NF := 17) (v := .int (iN (σ41 0 8))) hx hb hts iX7 hown hK hP 0 (by decide) (mE_0 cI a (_)) rfl 8 (by decide) fl88 rfl dX7_work_116 ?_
  rw [← hQQ]
  exact x_iretM hx hb hr (Option.some.inj hf) (hRσ41 0 8) hRσ41 hP hS hlocks dX7_work_119
