def fX4_add_28_L10 (σ : Mem) (v1 : Int) (ex0 : Int → Option (Int × Mem)) : Nat → Int → Option (Int × Mem)
  | 0, _ => none
  | n0 + 1, v2 => if v2 < (σ 28 5) then if (0 : Int) ≤ v2 ∧ (v2 : Int) < 15 then if (σ 31 v2) < v1 then if rng (v2 + 1) then fX4_add_28_L10 σ v1 ex0 n0 (v2 + 1) else none else ex0 v2 else none else ex0 v2
def fX4_add_28 (σ : Mem) (x1 : Int) (x2 : Int) : Option (Int × Mem) := (fX4_orderKey_28 σ x1 x2).bind fun v1 => fX4_add_28_L10 σ v1 (fun v7 => if v7 < (σ 28 5) then if (0 : Int) ≤ v7 ∧ (v7 : Int) < 15 then if (σ 31 v7) = v1 then some (0, σ) else if (σ 28 5) = 15 then some (0, σ) else bnd2 (fX4_makeRoomAt_28 σ v7) fun v21 σ22 => if (0 : Int) ≤ v7 ∧ (v7 : Int) < 15 then nx (mup σ22 29 v7 x1) fun σ24 => if (0 : Int) ≤ v7 ∧ (v7 : Int) < 15 then nx (mup σ24 30 v7 x2) fun σ26 => if (0 : Int) ≤ v7 ∧ (v7 : Int) < 15 then nx (mup σ26 31 v7 v1) fun σ28 => if rng ((σ28 28 5) + 1) then nx (mup σ28 28 5 ((σ28 28 5) + 1)) fun σ30 => some (0, σ30) else none else none else none else none else none else if (σ 28 5) = 15 then some (0, σ) else bnd2 (fX4_makeRoomAt_28 σ v7) fun v8 σ9 => if (0 : Int) ≤ v7 ∧ (v7 : Int) < 15 then nx (mup σ9 29 v7 x1) fun σ11 => if (0 : Int) ≤ v7 ∧ (v7 : Int) < 15 then nx (mup σ11 30 v7 x2) fun σ13 => if (0 : Int) ≤ v7 ∧ (v7 : Int) < 15 then nx (mup σ13 31 v7 v1) fun σ15 => if rng ((σ15 28 5) + 1) then nx (mup σ15 28 5 ((σ15 28 5) + 1)) fun σ17 => some (0, σ17) else none else none else none else none) FU 0
set_option maxHeartbeats 4000000 in
set_option maxRecDepth 100000 in
theorem kX4_add_28 (l : Launch) (dC : Nat → ClassId) (dI : Nat → Nat → Nat) (cI : ClassId) (cA : ClassId) (a : Nat → Nat) (hi : ∀ i j, i < 37 → j < 37 → a i = a j → i = j) (σ : Mem) (x1 : Int) (x2 : Int) (r : (Int × Mem)) (hf : fX4_add_28 σ x1 x2 = some r) (hR : Rg σ) (rx1 : rng x1) (rx2 : rng x2) : Met l yX4_add wsX4_add ({ frames := 3, cells := 0, slots := 0, locals := 70 }) (va_Pc [.ref (a 28), .int (iN x1), .int (iN x2)] (preC dC dI cI cA a σ)) (qMv (dC, dI) (gw 37 a (cE cI cA a)) (gA 37 a) r) 0 0 (gA 37 a) := by
  refine Met.ofW (cc := cX4_add) (maxL := 6) (ret := none) (by decide) rfl ?_
  intro p e s m args below meth c s₁ B hml hv
  obtain ⟨hargs, hP, hK, hN⟩ := hv
  have hx := B.exec
  have hb := B.bytes
  have hr := B.returns
  have hts := atoms_spec (ws := wsX4_add) B.pre
  have hown : s.vm.findClass RX4 = some m.cls := findClass_of_methodNamed B.named
  have hlocks := B.notSynchronized
  have hS : va_S (gA 37 a) s.heap s.heap [] := va_S.rf
  have iX4 : ∀ w ∈ wsX40, w ∈ wsX4_add := by decide +kernel
  have fl15 := hts (.fieldLink RX4 15 "MatchHall$Rotations" "to" "[I") (by decide +kernel)
  have fl18 := hts (.fieldLink RX4 18 "MatchHall$Rotations" "keys" "[I") (by decide +kernel)
  have fl28 := hts (.fieldLink RX4 28 "MatchHall$Rotations" "size" "I") (by decide +kernel)
  have fl9 := hts (.fieldLink RX4 9 "MatchHall$Rotations" "from" "[I") (by decide +kernel)
  have hrm : 3 ≤ (headSpec wsX4_add ({ frames := 3, cells := 0, slots := 0, locals := 70 })).room.frames ∧ 70 ≤ (headSpec wsX4_add ({ frames := 3, cells := 0, slots := 0, locals := 70 })).room.locals := ⟨Nat.le_refl _, Nat.le_refl _⟩
  generalize (headSpec wsX4_add ({ frames := 3, cells := 0, slots := 0, locals := 70 })).room = RR at hrm ⊢
  have hl := lv_entry ([.ref (a 28), .int (iN x1), .int (iN x2)]) (n := 6) (Nat.le_of_ble_eq_true rfl)
  rw [show entryFrame m args 6 = entryFrame m ([.ref (a 28), .int (iN x1), .int (iN x2)] : List Value).toArray 6 from by rw [hargs], lg_entry_eq]
  generalize (lg_sl ([.ref (a 28), .int (iN x1), .int (iN x2)]) ++ List.replicate (6 - (lg_sl ([.ref (a 28), .int (iN x1), .int (iN x2)])).length) Slot.unset).toArray = ls at hl ⊢
  have hl : lv_has ls 6 [(0, .ref (a 28)), (1, .int (iN x1)), (2, .int (iN x2))] := hl
  generalize hQQ : MQ below (qMv (dC, dI) (gw 37 a (cE cI cA a)) (gA 37 a) r) args s 0 0 (gA 37 a) = QQ
  refine lv_aload_n hx hb dX4_add_0 rfl (lv_at hl 0 rfl) ?_
  refine lv_iload_n hx hb dX4_add_1 rfl (lv_at hl 1 rfl) ?_
  refine lv_iload_n hx hb dX4_add_2 rfl (lv_at hl 2 rfl) ?_
  obtain ⟨v1, hv1, hf⟩ := bd hf
  refine x_callP (va_runV (As := [.int (iN x1), .int (iN x2)]) (rest := []) ⟨hx, hb, hml, hown, hts⟩ (kX4_orderKey_28 l dC dI cI cA a σ x1 x2 v1 hv1 hR rx1 rx2) (cwV 2 hts gX4_add_X4_orderKey rfl rfl rfl hX4_orderKey_d ⟨Nat.le_trans (by decide) hrm.1, Nat.le_trans (by decide) hrm.2⟩) (pvC 28 (by decide) (cE_28 cI cA a (_)) rfl hP hK hN) rfl rfl hl.1 rfl (lv_room (Nat.le_of_ble_eq_true rfl)) dX4_add_3 ⟨Nat.zero_le _, Nat.zero_le _⟩) (fun rv1 => ?_)
  refine lv_istore_n (lv' := [(3, .int (iN v1)), (0, .ref (a 28)), (1, .int (iN x1)), (2, .int (iN x2))]) hx hb dX4_add_6 rfl hl (by decide) rfl (fun ls hl => ?_)
  refine lv_iconst (v := iN 0) hx hb dX4_add_7 rfl ?_
  refine lv_istore (lv' := [(4, .int (iN 0)), (3, .int (iN v1)), (0, .ref (a 28)), (1, .int (iN x1)), (2, .int (iN x2))]) hx hb dX4_add_8 hl (by decide) rfl (fun ls hl => ?_)
  have L_fX4_add_28_L10 : ∀ (EX0 : Int → Option (Int × Mem)), (∀ (v2 : Int), rng v2 → EX0 v2 = some r → ∀ H locs ls, va_P (dC, dI) vwCl (gw 37 a (cE cI cA a) σ) H → va_S (gA 37 a) s.heap H locs → lv_has ls 6 [(0, .ref (a 28)), (1, .int (iN x1)), (2, .int (iN x2)), (3, .int (iN v1)), (4, .int (iN v2))] → W p l e RR s m args below meth c H locs 0 0 QQ (F0 m 36 ls [])) → ∀ n0 : Nat, ∀ (v2 : Int), rng v2 → fX4_add_28_L10 σ v1 EX0 n0 v2 = some r → ∀ H locs ls, va_P (dC, dI) vwCl (gw 37 a (cE cI cA a) σ) H → va_S (gA 37 a) s.heap H locs → lv_has ls 6 [(0, .ref (a 28)), (1, .int (iN x1)), (2, .int (iN x2)), (3, .int (iN v1)), (4, .int (iN v2))] → W p l e RR s m args below meth c H locs 0 0 QQ (F0 m 10 ls []) := by
    intro EX0 hEX0 n0
    induction n0 with
    | zero => intro _ _ hf; cases hf
    | succ n0 ih0 =>
      intro v2 rv2 hf H locs ls hP hS hl
      rw [fX4_add_28_L10] at hf
      refine lv_iload hx hb dX4_add_10 (lv_at hl 4 rfl) ?_
      refine lv_aload_n hx hb dX4_add_12 rfl (lv_at hl 0 rfl) ?_
      refine x_get (C := RX4) (T := TX4) (NF := 6) (v := .int (iN (σ 28 5))) hx hb hts iX4 hown hK hP 28 (by decide) (cE_28 cI cA a (_)) rfl 5 (by decide) fl28 rfl dX4_add_13 ?_
      refine x_icmp_ge (tgt := 36) hx hb rv2 (hR 28 5) dX4_add_16 (by decide) (fun c6 => ?_) (fun c6 => ?_)
      · replace hf := (if_neg c6).symm.trans hf
        exact hEX0 _ rv2 hf _ _ _ hP hS (lv_sub hl [0, 1, 2, 3, 4] rfl)
      · replace hf := (if_pos c6).symm.trans hf
        refine lv_aload_n hx hb dX4_add_19 rfl (lv_at hl 0 rfl) ?_
        refine x_get (C := RX4) (T := TX4) (NF := 6) (v := .ref (a 31)) hx hb hts iX4 hown hK hP 28 (by decide) (cE_28 cI cA a (_)) rfl 3 (by decide) fl18 rfl dX4_add_20 ?_
        refine lv_iload hx hb dX4_add_23 (lv_at hl 4 rfl) ?_
        obtain ⟨g3, hf⟩ := gd hf
        refine x_iald hx hb hK hP 31 0 (by decide) (cE_31 cI cA a (_)) (by decide) rfl g3 dX4_add_25 ?_
        refine lv_iload_n hx hb dX4_add_26 rfl (lv_at hl 3 rfl) ?_
        refine x_icmp_ge (tgt := 36) hx hb (hR 31 v2) rv1 dX4_add_27 (by decide) (fun c5 => ?_) (fun c5 => ?_)
        · replace hf := (if_neg c5).symm.trans hf
          exact hEX0 _ rv2 hf _ _ _ hP hS (lv_sub hl [0, 1, 2, 3, 4] rfl)
        · replace hf := (if_pos c5).symm.trans hf
          obtain ⟨g4, hf⟩ := gd hf
          refine lv_iinc (v := iN (v2 + 1)) (lv' := [(4, .int (iN (v2 + 1))), (0, .ref (a 28)), (1, .int (iN x1)), (2, .int (iN x2)), (3, .int (iN v1))]) hx hb dX4_add_30 hl (k := 4) rfl (iN_add v2 1) (by decide) rfl (fun ls hl => ?_)
          refine lv_goto (tgt := 10) hx hb dX4_add_33 (by decide) ?_
          exact ih0 _ g4 hf _ _ _ hP hS (lv_sub hl [1, 2, 3, 4, 0] rfl)
  refine L_fX4_add_28_L10 _ (fun v7 rv7 hf H locs ls hP hS hl => ?_) _ _ (by decide) hf _ _ _ hP hS (lv_sub hl [2, 3, 4, 1, 0] rfl)
  refine lv_iload hx hb dX4_add_36 (lv_at hl 4 rfl) ?_
  refine lv_aload_n hx hb dX4_add_38 rfl (lv_at hl 0 rfl) ?_
  refine x_get (C := RX4) (T := TX4) (NF := 6) (v := .int (iN (σ 28 5))) hx hb hts iX4 hown hK hP 28 (by decide) (cE_28 cI cA a (_)) rfl 5 (by decide) fl28 rfl dX4_add_39 ?_
  refine x_icmp_ge (tgt := 60) hx hb rv7 (hR 28 5) dX4_add_42 (by decide) (fun c35 => ?_) (fun c35 => ?_)
  · replace hf := (if_neg c35).symm.trans hf
    refine lv_iconst (v := iN 0) hx hb dX4_add_60 rfl ?_
    refine lv_istore (lv' := [(5, .int (iN 0)), (0, .ref (a 28)), (1, .int (iN x1)), (2, .int (iN x2)), (3, .int (iN v1)), (4, .int (iN v7))]) hx hb dX4_add_61 hl (by decide) rfl (fun ls hl => ?_)
    refine lv_iload hx hb dX4_add_63 (lv_at hl 0 rfl) ?_
    refine x_if_ne (tgt := 77) hx hb (by decide) dX4_add_65 (by decide) (fun c19 => ?_) (fun c19 => ?_)
    · exact absurd c19 (by decide)
    · refine lv_aload_n hx hb dX4_add_68 rfl (lv_at hl 1 rfl) ?_
      refine x_get (C := RX4) (T := TX4) (NF := 6) (v := .int (iN (σ 28 5))) hx hb hts iX4 hown hK hP 28 (by decide) (cE_28 cI cA a (_)) rfl 5 (by decide) fl28 rfl dX4_add_69 ?_
      refine lv_bipush (v := iN 15) hx hb dX4_add_72 (by decide) ?_
      refine x_icmp_ne (tgt := 78) hx hb (hR 28 5) (by decide) dX4_add_74 (by decide) (fun c18 => ?_) (fun c18 => ?_)
      · replace hf := (if_neg c18).symm.trans hf
        refine lv_aload_n hx hb dX4_add_78 rfl (lv_at hl 1 rfl) ?_
        refine lv_iload hx hb dX4_add_79 (lv_at hl 5 rfl) ?_
        obtain ⟨v8, σ9, hv8, hf⟩ := bd2 hf
        refine x_callMv (va_runV (As := [.int (iN v7)]) (rest := []) ⟨hx, hb, hml, hown, hts⟩ (kX4_makeRoomAt_28 l dC dI cI cA a hi σ v7 (v8, σ9) hv8 hR rv7) (cwV 1 hts gX4_add_X4_makeRoomAt rfl rfl rfl hX4_makeRoomAt_d ⟨Nat.le_trans (by decide) hrm.1, Nat.le_trans (by decide) hrm.2⟩) (pvC 28 (by decide) (cE_28 cI cA a (_)) rfl hP hK hN) rfl rfl hl.1 rfl (lv_room (Nat.le_of_ble_eq_true rfl)) dX4_add_81 ⟨Nat.zero_le _, Nat.zero_le _⟩) hS (fun rv8 hRσ9 H locs hP hS => ?_)
        refine lv_aload_n hx hb dX4_add_84 rfl (lv_at hl 1 rfl) ?_
        refine x_get (C := RX4) (T := TX4) (NF := 6) (v := .ref (a 29)) hx hb hts iX4 hown hK hP 28 (by decide) (cE_28 cI cA a (_)) rfl 1 (by decide) fl9 rfl dX4_add_85 ?_
        refine lv_iload hx hb dX4_add_88 (lv_at hl 5 rfl) ?_
        refine lv_iload_n hx hb dX4_add_90 rfl (lv_at hl 2 rfl) ?_
        obtain ⟨g10, hf⟩ := gd hf
        obtain ⟨σ11, hσ11, hf⟩ := nxe hf
        refine x_iast (x := x1) hx hb hi hK hP hS 29 0 (by decide) (cE_29 cI cA a) (by decide) rfl g10 dX4_add_91 (fun H locs hP hS => ?_)
        rw [← hσ11] at hP
        have hRσ11 : Rg σ11 := by rw [hσ11]; exact Rg_up hRσ9 rx1
        refine lv_aload_n hx hb dX4_add_92 rfl (lv_at hl 1 rfl) ?_
        refine x_get (C := RX4) (T := TX4) (NF := 6) (v := .ref (a 30)) hx hb hts iX4 hown hK hP 28 (by decide) (cE_28 cI cA a (_)) rfl 2 (by decide) fl15 rfl dX4_add_93 ?_
        refine lv_iload hx hb dX4_add_96 (lv_at hl 5 rfl) ?_
        refine lv_iload_n hx hb dX4_add_98 rfl (lv_at hl 3 rfl) ?_
        obtain ⟨g12, hf⟩ := gd hf
        obtain ⟨σ13, hσ13, hf⟩ := nxe hf
        refine x_iast (x := x2) hx hb hi hK hP hS 30 0 (by decide) (cE_30 cI cA a) (by decide) rfl g12 dX4_add_99 (fun H locs hP hS => ?_)
        rw [← hσ13] at hP
        have hRσ13 : Rg σ13 := by rw [hσ13]; exact Rg_up hRσ11 rx2
        refine lv_aload_n hx hb dX4_add_100 rfl (lv_at hl 1 rfl) ?_
        refine x_get (C := RX4) (T := TX4) (NF := 6) (v := .ref (a 31)) hx hb hts iX4 hown hK hP 28 (by decide) (cE_28 cI cA a (_)) rfl 3 (by decide) fl18 rfl dX4_add_101 ?_
        refine lv_iload hx hb dX4_add_104 (lv_at hl 5 rfl) ?_
        refine lv_iload_n hx hb dX4_add_106 rfl (lv_at hl 4 rfl) ?_
        obtain ⟨g14, hf⟩ := gd hf
        obtain ⟨σ15, hσ15, hf⟩ := nxe hf
        refine x_iast (x := v1) hx hb hi hK hP hS 31 0 (by decide) (cE_31 cI cA a) (by decide) rfl g14 dX4_add_107 (fun H locs hP hS => ?_)
        rw [← hσ15] at hP
        have hRσ15 : Rg σ15 := by rw [hσ15]; exact Rg_up hRσ13 rv1
        refine lv_aload_n hx hb dX4_add_108 rfl (lv_at hl 1 rfl) ?_
        refine lv_dup hx hb dX4_add_109 rfl ?_
        refine x_get (C := RX4) (T := TX4) (NF := 6) (v := .int (iN (σ15 28 5))) hx hb hts iX4 hown hK hP 28 (by decide) (cE_28 cI cA a (_)) rfl 5 (by decide) fl28 rfl dX4_add_110 ?_
        refine lv_iconst (v := iN 1) hx hb dX4_add_113 rfl ?_
        obtain ⟨g16, hf⟩ := gd hf
        refine x_iadd hx hb dX4_add_114 ?_
        obtain ⟨σ17, hσ17, hf⟩ := nxe hf
        refine x_put (C := RX4) (T := TX4) (NF := 6) (x := ((σ15 28 5) + 1)) (ty := .int) hx hb hts iX4 tyX4 tyX4_ok nmX4 hi hown hK hP hS 28 (by decide) (cE_28 cI cA a (_)) rfl 5 5 (by decide) fl28 rfl (by decide +kernel) rfl rfl (Nat.le_of_ble_eq_true rfl) rfl dX4_add_115 (fun H locs hP hS => ?_)
        rw [← hσ17] at hP
        have hRσ17 : Rg σ17 := by rw [hσ17]; exact Rg_up hRσ15 g16
        rw [← hQQ]
        exact x_vretM hx hb hr (Option.some.inj hf) hRσ17 hP hS hlocks dX4_add_118
      · replace hf := (if_pos c18).symm.trans hf
        rw [← hQQ]
        exact x_vretM hx hb hr (Option.some.inj hf) hR hP hS hlocks dX4_add_77
  · replace hf := (if_pos c35).symm.trans hf
    refine lv_aload_n hx hb dX4_add_45 rfl (lv_at hl 0 rfl) ?_
    refine x_get (C := RX4) (T := TX4) (NF := 6) (v := .ref (a 31)) hx hb hts iX4 hown hK hP 28 (by decide) (cE_28 cI cA a (_)) rfl 3 (by decide) fl18 rfl dX4_add_46 ?_
    refine lv_iload hx hb dX4_add_49 (lv_at hl 4 rfl) ?_
    obtain ⟨g20, hf⟩ := gd hf
    refine x_iald hx hb hK hP 31 0 (by decide) (cE_31 cI cA a (_)) (by decide) rfl g20 dX4_add_51 ?_
    refine lv_iload_n hx hb dX4_add_52 rfl (lv_at hl 3 rfl) ?_
    refine x_icmp_ne (tgt := 60) hx hb (hR 31 v7) rv1 dX4_add_53 (by decide) (fun c34 => ?_) (fun c34 => ?_)
    · replace hf := (if_neg c34).symm.trans hf
      refine lv_iconst (v := iN 0) hx hb dX4_add_60 rfl ?_
      refine lv_istore (lv' := [(5, .int (iN 0)), (0, .ref (a 28)), (1, .int (iN x1)), (2, .int (iN x2)), (3, .int (iN v1)), (4, .int (iN v7))]) hx hb dX4_add_61 hl (by decide) rfl (fun ls hl => ?_)
      refine lv_iload hx hb dX4_add_63 (lv_at hl 0 rfl) ?_
      refine x_if_ne (tgt := 77) hx hb (by decide) dX4_add_65 (by decide) (fun c32 => ?_) (fun c32 => ?_)
      · exact absurd c32 (by decide)
      · refine lv_aload_n hx hb dX4_add_68 rfl (lv_at hl 1 rfl) ?_
        refine x_get (C := RX4) (T := TX4) (NF := 6) (v := .int (iN (σ 28 5))) hx hb hts iX4 hown hK hP 28 (by decide) (cE_28 cI cA a (_)) rfl 5 (by decide) fl28 rfl dX4_add_69 ?_
        refine lv_bipush (v := iN 15) hx hb dX4_add_72 (by decide) ?_
        refine x_icmp_ne (tgt := 78) hx hb (hR 28 5) (by decide) dX4_add_74 (by decide) (fun c31 => ?_) (fun c31 => ?_)
        · replace hf := (if_neg c31).symm.trans hf
          refine lv_aload_n hx hb dX4_add_78 rfl (lv_at hl 1 rfl) ?_
          refine lv_iload hx hb dX4_add_79 (lv_at hl 5 rfl) ?_
          obtain ⟨v21, σ22, hv21, hf⟩ := bd2 hf
          refine x_callMv (va_runV (As := [.int (iN v7)]) (rest := []) ⟨hx, hb, hml, hown, hts⟩ (kX4_makeRoomAt_28 l dC dI cI cA a hi σ v7 (v21, σ22) hv21 hR rv7) (cwV 1 hts gX4_add_X4_makeRoomAt rfl rfl rfl hX4_makeRoomAt_d ⟨Nat.le_trans (by decide) hrm.1, Nat.le_trans (by decide) hrm.2⟩) (pvC 28 (by decide) (cE_28 cI cA a (_)) rfl hP hK hN) rfl rfl hl.1 rfl (lv_room (Nat.le_of_ble_eq_true rfl)) dX4_add_81 ⟨Nat.zero_le _, Nat.zero_le _⟩) hS (fun rv21 hRσ22 H locs hP hS => ?_)
          refine lv_aload_n hx hb dX4_add_84 rfl (lv_at hl 1 rfl) ?_
          refine x_get (C := RX4) (T := TX4) (NF := 6) (v := .ref (a 29)) hx hb hts iX4 hown hK hP 28 (by decide) (cE_28 cI cA a (_)) rfl 1 (by decide) fl9 rfl dX4_add_85 ?_
          refine lv_iload hx hb dX4_add_88 (lv_at hl 5 rfl) ?_
          refine lv_iload_n hx hb dX4_add_90 rfl (lv_at hl 2 rfl) ?_
          obtain ⟨g23, hf⟩ := gd hf
          obtain ⟨σ24, hσ24, hf⟩ := nxe hf
          refine x_iast (x := x1) hx hb hi hK hP hS 29 0 (by decide) (cE_29 cI cA a) (by decide) rfl g23 dX4_add_91 (fun H locs hP hS => ?_)
          rw [← hσ24] at hP
          have hRσ24 : Rg σ24 := by rw [hσ24]; exact Rg_up hRσ22 rx1
          refine lv_aload_n hx hb dX4_add_92 rfl (lv_at hl 1 rfl) ?_
          refine x_get (C := RX4) (T := TX4) (NF := 6) (v := .ref (a 30)) hx hb hts iX4 hown hK hP 28 (by decide) (cE_28 cI cA a (_)) rfl 2 (by decide) fl15 rfl dX4_add_93 ?_
          refine lv_iload hx hb dX4_add_96 (lv_at hl 5 rfl) ?_
          refine lv_iload_n hx hb dX4_add_98 rfl (lv_at hl 3 rfl) ?_
          obtain ⟨g25, hf⟩ := gd hf
          obtain ⟨σ26, hσ26, hf⟩ := nxe hf
          refine x_iast (x := x2) hx hb hi hK hP hS 30 0 (by decide) (cE_30 cI cA a) (by decide) rfl g25 dX4_add_99 (fun H locs hP hS => ?_)
          rw [← hσ26] at hP
          have hRσ26 : Rg σ26 := by rw [hσ26]; exact Rg_up hRσ24 rx2
          refine lv_aload_n hx hb dX4_add_100 rfl (lv_at hl 1 rfl) ?_
          refine x_get (C := RX4) (T := TX4) (NF := 6) (v := .ref (a 31)) hx hb hts iX4 hown hK hP 28 (by decide) (cE_28 cI cA a (_)) rfl 3 (by decide) fl18 rfl dX4_add_101 ?_
          refine lv_iload hx hb dX4_add_104 (lv_at hl 5 rfl) ?_
          refine lv_iload_n hx hb dX4_add_106 rfl (lv_at hl 4 rfl) ?_
          obtain ⟨g27, hf⟩ := gd hf
          obtain ⟨σ28, hσ28, hf⟩ := nxe hf
          refine x_iast (x := v1) hx hb hi hK hP hS 31 0 (by decide) (cE_31 cI cA a) (by decide) rfl g27 dX4_add_107 (fun H locs hP hS => ?_)
          rw [← hσ28] at hP
          have hRσ28 : Rg σ28 := by rw [hσ28]; exact Rg_up hRσ26 rv1
          refine lv_aload_n hx hb dX4_add_108 rfl (lv_at hl 1 rfl) ?_
          refine lv_dup hx hb dX4_add_109 rfl ?_
          refine x_get (C := RX4) (T := TX4) (NF := 6) (v := .int (iN (σ28 28 5))) hx hb hts iX4 hown hK hP 28 (by decide) (cE_28 cI cA a (_)) rfl 5 (by decide) fl28 rfl dX4_add_110 ?_
          refine lv_iconst (v := iN 1) hx hb dX4_add_113 rfl ?_
          obtain ⟨g29, hf⟩ := gd hf
          refine x_iadd hx hb dX4_add_114 ?_
          obtain ⟨σ30, hσ30, hf⟩ := nxe hf
          refine x_put (C := RX4) (T := TX4) (NF := 6) (x := ((σ28 28 5) + 1)) (ty := .int) hx hb hts iX4 tyX4 tyX4_ok nmX4 hi hown hK hP hS 28 (by decide) (cE_28 cI cA a (_)) rfl 5 5 (by decide) fl28 rfl (by decide +kernel) rfl rfl (Nat.le_of_ble_eq_true rfl) rfl dX4_add_115 (fun H locs hP hS => ?_)
          rw [← hσ30] at hP
          have hRσ30 : Rg σ30 := by rw [hσ30]; exact Rg_up hRσ28 g29
          rw [← hQQ]
          exact x_vretM hx hb hr (Option.some.inj hf) hRσ30 hP hS hlocks dX4_add_118
        · replace hf := (if_pos c31).symm.trans hf
          rw [← hQQ]
          exact x_vretM hx hb hr (Option.some.inj hf) hR hP hS hlocks dX4_add_77
    · replace hf := (if_pos c34).symm.trans hf
      refine lv_iconst (v := iN 1) hx hb dX4_add_56 rfl ?_
      refine lv_goto (tgt := 61) hx hb dX4_add_57 (by decide) ?_
      refine lv_istore (lv' := [(5, .int (iN 1)), (0, .ref (a 28)), (1, .int (iN x1)), (2, .int (iN x2)), (3, .int (iN v1)), (4, .int (iN v7))]) hx hb dX4_add_61 hl (by decide) rfl (fun ls hl => ?_)
      refine lv_iload hx hb dX4_add_63 (lv_at hl 0 rfl) ?_
      refine x_if_ne (tgt := 77) hx hb (by decide) dX4_add_65 (by decide) (fun c33 => ?_) (fun c33 => ?_)
      · rw [← hQQ]
        exact x_vretM hx hb hr (Option.some.inj hf) hR hP hS hlocks dX4_add_77
      · exact absurd c33 (by decide)
def fX4_addFirstStep_28_L4 (σ : Mem) (x1 : Int) (ex0 : Int → Option (Int × Mem)) : Nat → Int → Option (Int × Mem)
  | 0, _ => none
  | n0 + 1, v2 => if v2 < (σ 25 3) then (fX5_isBehind_25 σ x1 v2).bind fun v3 => if v3 = 0 then if rng (v2 + 1) then fX4_addFirstStep_28_L4 σ x1 ex0 n0 (v2 + 1) else none else bnd2 (fX4_add_28 σ x1 v2) fun v5 σ6 => some (0, σ6) else ex0 v2
def fX4_addFirstStep_28 (σ : Mem) (x1 : Int) : Option (Int × Mem) := if rng (x1 + 1) then fX4_addFirstStep_28_L4 σ x1 (fun v9 => some (0, σ)) FU (x1 + 1) else none
set_option maxHeartbeats 4000000 in
set_option maxRecDepth 100000 in
theorem kX4_addFirstStep_28 (l : Launch) (dC : Nat → ClassId) (dI : Nat → Nat → Nat) (cI : ClassId) (cA : ClassId) (a : Nat → Nat) (hi : ∀ i j, i < 37 → j < 37 → a i = a j → i = j) (σ : Mem) (x1 : Int) (r : (Int × Mem)) (hf : fX4_addFirstStep_28 σ x1 = some r) (hR : Rg σ) (rx1 : rng x1) : Met l yX4_addFirstStep wsX4_addFirstStep ({ frames := 4, cells := 0, slots := 0, locals := 95 }) (va_Pc [.ref (a 28), .int (iN x1)] (preC dC dI cI cA a σ)) (qMv (dC, dI) (gw 37 a (cE cI cA a)) (gA 37 a) r) 0 0 (gA 37 a) := by
  refine Met.ofW (cc := cX4_addFirstStep) (maxL := 3) (ret := none) (by decide) rfl ?_
  intro p e s m args below meth c s₁ B hml hv
  obtain ⟨hargs, hP, hK, hN⟩ := hv
  have hx := B.exec
  have hb := B.bytes
  have hr := B.returns
  have hts := atoms_spec (ws := wsX4_addFirstStep) B.pre
  have hown : s.vm.findClass RX4 = some m.cls := findClass_of_methodNamed B.named
  have hlocks := B.notSynchronized
  have hS : va_S (gA 37 a) s.heap s.heap [] := va_S.rf
  have iX4 : ∀ w ∈ wsX40, w ∈ wsX4_addFirstStep := by decide +kernel
  have iX5 : ∀ w ∈ wsX50, w ∈ wsX4_addFirstStep := by decide +kernel
  have fl24 := hts (.fieldLink RX4 24 "MatchHall$Rotations" "stables" "LMatchHall$Stables;") (by decide +kernel)
  have fn32 := va_Nw.use (A := args) rfl (hN (.fieldLinkNest RX4 32 "MatchHall$Stables" "size" "I" "MatchHall") (by decide +kernel))
  have hrm : 4 ≤ (headSpec wsX4_addFirstStep ({ frames := 4, cells := 0, slots := 0, locals := 95 })).room.frames ∧ 95 ≤ (headSpec wsX4_addFirstStep ({ frames := 4, cells := 0, slots := 0, locals := 95 })).room.locals := ⟨Nat.le_refl _, Nat.le_refl _⟩
  generalize (headSpec wsX4_addFirstStep ({ frames := 4, cells := 0, slots := 0, locals := 95 })).room = RR at hrm ⊢
  have hl := lv_entry ([.ref (a 28), .int (iN x1)]) (n := 3) (Nat.le_of_ble_eq_true rfl)
  rw [show entryFrame m args 3 = entryFrame m ([.ref (a 28), .int (iN x1)] : List Value).toArray 3 from by rw [hargs], lg_entry_eq]
  generalize (lg_sl ([.ref (a 28), .int (iN x1)]) ++ List.replicate (3 - (lg_sl ([.ref (a 28), .int (iN x1)])).length) Slot.unset).toArray = ls at hl ⊢
  have hl : lv_has ls 3 [(0, .ref (a 28)), (1, .int (iN x1))] := hl
  generalize hQQ : MQ below (qMv (dC, dI) (gw 37 a (cE cI cA a)) (gA 37 a) r) args s 0 0 (gA 37 a) = QQ
  refine lv_iload_n hx hb dX4_addFirstStep_0 rfl (lv_at hl 1 rfl) ?_
  refine lv_iconst (v := iN 1) hx hb dX4_addFirstStep_1 rfl ?_
  obtain ⟨g1, hf⟩ := gd hf
  refine x_iadd hx hb dX4_addFirstStep_2 ?_
  refine lv_istore_n (lv' := [(2, .int (iN (x1 + 1))), (0, .ref (a 28)), (1, .int (iN x1))]) hx hb dX4_addFirstStep_3 rfl hl (by decide) rfl (fun ls hl => ?_)
  have L_fX4_addFirstStep_28_L4 : ∀ (EX0 : Int → Option (Int × Mem)), (∀ (v2 : Int), rng v2 → EX0 v2 = some r → ∀ H locs ls, va_P (dC, dI) vwCl (gw 37 a (cE cI cA a) σ) H → va_S (gA 37 a) s.heap H locs → lv_has ls 3 [(0, .ref (a 28)), (1, .int (iN x1)), (2, .int (iN v2))] → W p l e RR s m args below meth c H locs 0 0 QQ (F0 m 40 ls [])) → ∀ n0 : Nat, ∀ (v2 : Int), rng v2 → fX4_addFirstStep_28_L4 σ x1 EX0 n0 v2 = some r → ∀ H locs ls, va_P (dC, dI) vwCl (gw 37 a (cE cI cA a) σ) H → va_S (gA 37 a) s.heap H locs → lv_has ls 3 [(0, .ref (a 28)), (1, .int (iN x1)), (2, .int (iN v2))] → W p l e RR s m args below meth c H locs 0 0 QQ (F0 m 4 ls []) := by
    intro EX0 hEX0 n0
    induction n0 with
    | zero => intro _ _ hf; cases hf
    | succ n0 ih0 =>
      intro v2 rv2 hf H locs ls hP hS hl
      rw [fX4_addFirstStep_28_L4] at hf
      refine lv_iload_n hx hb dX4_addFirstStep_4 rfl (lv_at hl 2 rfl) ?_
      refine lv_aload_n hx hb dX4_addFirstStep_5 rfl (lv_at hl 0 rfl) ?_
      refine x_get (C := RX4) (T := TX4) (NF := 6) (v := .ref (a 25)) hx hb hts iX4 hown hK hP 28 (by decide) (cE_28 cI cA a (_)) rfl 0 (by decide) fl24 rfl dX4_addFirstStep_6 ?_
      refine x_getN (C := RX5) (T := TX5) (NF := 4) (v := .int (iN (σ 25 3))) hx hb hts iX5 hown hK hP 25 (by decide) (cE_25 cI cA a (_)) rfl 3 (by decide) fn32 rfl dX4_addFirstStep_9 ?_
      refine x_icmp_ge (tgt := 40) hx hb rv2 (hR 25 3) dX4_addFirstStep_12 (by decide) (fun c8 => ?_) (fun c8 => ?_)
      · replace hf := (if_neg c8).symm.trans hf
        exact hEX0 _ rv2 hf _ _ _ hP hS (lv_sub hl [0, 1, 2] rfl)
      · replace hf := (if_pos c8).symm.trans hf
        refine lv_aload_n hx hb dX4_addFirstStep_15 rfl (lv_at hl 0 rfl) ?_
        refine x_get (C := RX4) (T := TX4) (NF := 6) (v := .ref (a 25)) hx hb hts iX4 hown hK hP 28 (by decide) (cE_28 cI cA a (_)) rfl 0 (by decide) fl24 rfl dX4_addFirstStep_16 ?_
        refine lv_iload_n hx hb dX4_addFirstStep_19 rfl (lv_at hl 1 rfl) ?_
        refine lv_iload_n hx hb dX4_addFirstStep_20 rfl (lv_at hl 2 rfl) ?_
        obtain ⟨v3, hv3, hf⟩ := bd hf
        refine x_callP (va_runV (As := [.int (iN x1), .int (iN v2)]) (rest := []) ⟨hx, hb, hml, hown, hts⟩ (kX5_isBehind_25 l dC dI cI cA a σ x1 v2 v3 hv3 hR rx1 rv2) (cwV 2 hts gX4_addFirstStep_X5_isBehind rfl rfl rfl hX5_isBehind_d ⟨Nat.le_trans (by decide) hrm.1, Nat.le_trans (by decide) hrm.2⟩) (pvC 25 (by decide) (cE_25 cI cA a (_)) rfl hP hK hN) rfl rfl hl.1 rfl (lv_room (Nat.le_of_ble_eq_true rfl)) dX4_addFirstStep_21 ⟨Nat.zero_le _, Nat.zero_le _⟩) (fun rv3 => ?_)
        refine x_if_eq (tgt := 34) hx hb rv3 dX4_addFirstStep_24 (by decide) (fun c7 => ?_) (fun c7 => ?_)
        · replace hf := (if_pos c7).symm.trans hf
          obtain ⟨g4, hf⟩ := gd hf
          refine lv_iinc (v := iN (v2 + 1)) (lv' := [(2, .int (iN (v2 + 1))), (0, .ref (a 28)), (1, .int (iN x1))]) hx hb dX4_addFirstStep_34 hl (k := 2) rfl (iN_add v2 1) (by decide) rfl (fun ls hl => ?_)
          refine lv_goto (tgt := 4) hx hb dX4_addFirstStep_37 (by decide) ?_
          exact ih0 _ g4 hf _ _ _ hP hS (lv_sub hl [1, 2, 0] rfl)
        · replace hf := (if_neg c7).symm.trans hf
          refine lv_aload_n hx hb dX4_addFirstStep_27 rfl (lv_at hl 0 rfl) ?_
          refine lv_iload_n hx hb dX4_addFirstStep_28 rfl (lv_at hl 1 rfl) ?_
          refine lv_iload_n hx hb dX4_addFirstStep_29 rfl (lv_at hl 2 rfl) ?_
          obtain ⟨v5, σ6, hv5, hf⟩ := bd2 hf
          refine x_callMv (va_runV (As := [.int (iN x1), .int (iN v2)]) (rest := []) ⟨hx, hb, hml, hown, hts⟩ (kX4_add_28 l dC dI cI cA a hi σ x1 v2 (v5, σ6) hv5 hR rx1 rv2) (cwV 2 hts gX4_addFirstStep_X4_add rfl rfl rfl hX4_add_d ⟨Nat.le_trans (by decide) hrm.1, Nat.le_trans (by decide) hrm.2⟩) (pvC 28 (by decide) (cE_28 cI cA a (_)) rfl hP hK hN) rfl rfl hl.1 rfl (lv_room (Nat.le_of_ble_eq_true rfl)) dX4_addFirstStep_30 ⟨Nat.zero_le _, Nat.zero_le _⟩) hS (fun rv5 hRσ6 H locs hP hS => ?_)
          rw [← hQQ]
          exact x_vretM hx hb hr (Option.some.inj hf) hRσ6 hP hS hlocks dX4_addFirstStep_33
  refine L_fX4_addFirstStep_28_L4 _ (fun v9 rv9 hf H locs ls hP hS hl => ?_) _ _ g1 hf _ _ _ hP hS (lv_sub hl [1, 2, 0] rfl)
  rw [← hQQ]
  exact x_vretM hx hb hr (Option.some.inj hf) hR hP hS hlocks dX4_addFirstStep_40
def fX4_doneMask_28_L4 (σ : Mem) (x1 : Int) (ex0 : Int → Int → Option Int) : Nat → Int → Int → Option Int
  | 0, _, _ => none
  | n0 + 1, v1, v2 => if v2 < (σ 28 5) then (fX4_mover_28 σ v2 0).bind fun v3 => if v3 = (-1) then if rng (v2 + 1) then fX4_doneMask_28_L4 σ x1 ex0 n0 v1 (v2 + 1) else none else (fX5_placeAt_25 σ x1 v3).bind fun v5 => if (0 : Int) ≤ v2 ∧ (v2 : Int) < 15 then (fX5_placeAt_25 σ (σ 30 v2) v3).bind fun v7 => if v5 < v7 then if rng (v2 + 1) then fX4_doneMask_28_L4 σ x1 ex0 n0 v1 (v2 + 1) else none else if rng (v2 + 1) then fX4_doneMask_28_L4 σ x1 ex0 n0 (bOr v1 (bShl 1 v2)) (v2 + 1) else none else none else ex0 v1 v2
def fX4_doneMask_28 (σ : Mem) (x1 : Int) : Option Int := fX4_doneMask_28_L4 σ x1 (fun v13 v14 => some v13) FU 0 0
set_option maxHeartbeats 4000000 in
set_option maxRecDepth 100000 in
theorem kX4_doneMask_28 (l : Launch) (dC : Nat → ClassId) (dI : Nat → Nat → Nat) (cI : ClassId) (cA : ClassId) (a : Nat → Nat) (σ : Mem) (x1 : Int) (r : Int) (hf : fX4_doneMask_28 σ x1 = some r) (hR : Rg σ) (rx1 : rng x1) : Met l yX4_doneMask wsX4_doneMask ({ frames := 3, cells := 0, slots := 0, locals := 69 }) (va_Pc [.ref (a 28), .int (iN x1)] (preC dC dI cI cA a σ)) (qP r) 0 0 (fun _ => False) := by
  refine Met.ofW (cc := cX4_doneMask) (maxL := 5) (ret := (some .int)) (by decide) rfl ?_
  intro p e s m args below meth c s₁ B hml hv
  obtain ⟨hargs, hP, hK, hN⟩ := hv
  have hx := B.exec
  have hb := B.bytes
  have hr := B.returns
  have hts := atoms_spec (ws := wsX4_doneMask) B.pre
  have hown : s.vm.findClass RX4 = some m.cls := findClass_of_methodNamed B.named
  have hlocks := B.notSynchronized
  have iX4 : ∀ w ∈ wsX40, w ∈ wsX4_doneMask := by decide +kernel
  have fl15 := hts (.fieldLink RX4 15 "MatchHall$Rotations" "to" "[I") (by decide +kernel)
  have fl24 := hts (.fieldLink RX4 24 "MatchHall$Rotations" "stables" "LMatchHall$Stables;") (by decide +kernel)
  have fl28 := hts (.fieldLink RX4 28 "MatchHall$Rotations" "size" "I") (by decide +kernel)
  have hrm : 3 ≤ (headSpec wsX4_doneMask ({ frames := 3, cells := 0, slots := 0, locals := 69 })).room.frames ∧ 69 ≤ (headSpec wsX4_doneMask ({ frames := 3, cells := 0, slots := 0, locals := 69 })).room.locals := ⟨Nat.le_refl _, Nat.le_refl _⟩
  generalize (headSpec wsX4_doneMask ({ frames := 3, cells := 0, slots := 0, locals := 69 })).room = RR at hrm ⊢
  have hl := lv_entry ([.ref (a 28), .int (iN x1)]) (n := 5) (Nat.le_of_ble_eq_true rfl)
  rw [show entryFrame m args 5 = entryFrame m ([.ref (a 28), .int (iN x1)] : List Value).toArray 5 from by rw [hargs], lg_entry_eq]
  generalize (lg_sl ([.ref (a 28), .int (iN x1)]) ++ List.replicate (5 - (lg_sl ([.ref (a 28), .int (iN x1)])).length) Slot.unset).toArray = ls at hl ⊢
  have hl : lv_has ls 5 [(0, .ref (a 28)), (1, .int (iN x1))] := hl
  generalize hQQ : MQ below (qP r) args s 0 0 (fun _ => False) = QQ
  refine lv_iconst (v := iN 0) hx hb dX4_doneMask_0 rfl ?_
  refine lv_istore_n (lv' := [(2, .int (iN 0)), (0, .ref (a 28)), (1, .int (iN x1))]) hx hb dX4_doneMask_1 rfl hl (by decide) rfl (fun ls hl => ?_)
  refine lv_iconst (v := iN 0) hx hb dX4_doneMask_2 rfl ?_
  refine lv_istore_n (lv' := [(3, .int (iN 0)), (2, .int (iN 0)), (0, .ref (a 28)), (1, .int (iN x1))]) hx hb dX4_doneMask_3 rfl hl (by decide) rfl (fun ls hl => ?_)
  have L_fX4_doneMask_28_L4 : ∀ (EX0 : Int → Int → Option Int), (∀ (v1 : Int) (v2 : Int), rng v1 → rng v2 → EX0 v1 v2 = some r → ∀ ls, lv_has ls 5 [(0, .ref (a 28)), (1, .int (iN x1)), (2, .int (iN v1)), (3, .int (iN v2))] → W p l e RR s m args below meth c s.heap [] 0 0 QQ (F0 m 66 ls [])) → ∀ n0 : Nat, ∀ (v1 : Int) (v2 : Int), rng v1 → rng v2 → fX4_doneMask_28_L4 σ x1 EX0 n0 v1 v2 = some r → ∀ ls, lv_has ls 5 [(0, .ref (a 28)), (1, .int (iN x1)), (2, .int (iN v1)), (3, .int (iN v2))] → W p l e RR s m args below meth c s.heap [] 0 0 QQ (F0 m 4 ls []) := by
    intro EX0 hEX0 n0
    induction n0 with
    | zero => intro _ _ _ _ hf; cases hf
    | succ n0 ih0 =>
      intro v1 v2 rv1 rv2 hf ls hl
      rw [fX4_doneMask_28_L4] at hf
      refine lv_iload_n hx hb dX4_doneMask_4 rfl (lv_at hl 3 rfl) ?_
      refine lv_aload_n hx hb dX4_doneMask_5 rfl (lv_at hl 0 rfl) ?_
      refine x_get (C := RX4) (T := TX4) (NF := 6) (v := .int (iN (σ 28 5))) hx hb hts iX4 hown hK hP 28 (by decide) (cE_28 cI cA a (_)) rfl 5 (by decide) fl28 rfl dX4_doneMask_6 ?_
      refine x_icmp_ge (tgt := 66) hx hb rv2 (hR 28 5) dX4_doneMask_9 (by decide) (fun c12 => ?_) (fun c12 => ?_)
      · replace hf := (if_neg c12).symm.trans hf
        exact hEX0 _ _ rv1 rv2 hf _ (lv_sub hl [0, 1, 2, 3] rfl)
      · replace hf := (if_pos c12).symm.trans hf
        refine lv_aload_n hx hb dX4_doneMask_12 rfl (lv_at hl 0 rfl) ?_
        refine lv_iload_n hx hb dX4_doneMask_13 rfl (lv_at hl 3 rfl) ?_
        refine lv_iconst (v := iN 0) hx hb dX4_doneMask_14 rfl ?_
        obtain ⟨v3, hv3, hf⟩ := bd hf
        refine x_callP (va_runV (As := [.int (iN v2), .int (iN 0)]) (rest := []) ⟨hx, hb, hml, hown, hts⟩ (kX4_mover_28 l dC dI cI cA a σ v2 0 v3 hv3 hR rv2 (by decide)) (cwV 2 hts gX4_doneMask_X4_mover rfl rfl rfl hX4_mover_d ⟨Nat.le_trans (by decide) hrm.1, Nat.le_trans (by decide) hrm.2⟩) (pvC 28 (by decide) (cE_28 cI cA a (_)) rfl hP hK hN) rfl rfl hl.1 rfl (lv_room (Nat.le_of_ble_eq_true rfl)) dX4_doneMask_15 ⟨Nat.zero_le _, Nat.zero_le _⟩) (fun rv3 => ?_)
        refine lv_istore (lv' := [(4, .int (iN v3)), (0, .ref (a 28)), (1, .int (iN x1)), (2, .int (iN v1)), (3, .int (iN v2))]) hx hb dX4_doneMask_18 hl (by decide) rfl (fun ls hl => ?_)
        refine lv_iload hx hb dX4_doneMask_20 (lv_at hl 0 rfl) ?_
        refine lv_iconst (v := iN (-1)) hx hb dX4_doneMask_22 rfl ?_
        refine x_icmp_eq (tgt := 60) hx hb rv3 (by decide) dX4_doneMask_23 (by decide) (fun c11 => ?_) (fun c11 => ?_)
        · replace hf := (if_pos c11).symm.trans hf
          obtain ⟨g4, hf⟩ := gd hf
          refine lv_iinc (v := iN (v2 + 1)) (lv' := [(3, .int (iN (v2 + 1))), (4, .int (iN v3)), (0, .ref (a 28)), (1, .int (iN x1)), (2, .int (iN v1))]) hx hb dX4_doneMask_60 hl (k := 4) rfl (iN_add v2 1) (by decide) rfl (fun ls hl => ?_)
          refine lv_goto (tgt := 4) hx hb dX4_doneMask_63 (by decide) ?_
          exact ih0 _ _ rv1 g4 hf _ (lv_sub hl [2, 3, 4, 0] rfl)
        · replace hf := (if_neg c11).symm.trans hf
          refine lv_aload_n hx hb dX4_doneMask_26 rfl (lv_at hl 1 rfl) ?_
          refine x_get (C := RX4) (T := TX4) (NF := 6) (v := .ref (a 25)) hx hb hts iX4 hown hK hP 28 (by decide) (cE_28 cI cA a (_)) rfl 0 (by decide) fl24 rfl dX4_doneMask_27 ?_
          refine lv_iload_n hx hb dX4_doneMask_30 rfl (lv_at hl 2 rfl) ?_
          refine lv_iload hx hb dX4_doneMask_31 (lv_at hl 0 rfl) ?_
          obtain ⟨v5, hv5, hf⟩ := bd hf
          refine x_callP (va_runV (As := [.int (iN x1), .int (iN v3)]) (rest := []) ⟨hx, hb, hml, hown, hts⟩ (kX5_placeAt_25 l dC dI cI cA a σ x1 v3 v5 hv5 hR rx1 rv3) (cwV 2 hts gX4_doneMask_X5_placeAt rfl rfl rfl hX5_placeAt_d ⟨Nat.le_trans (by decide) hrm.1, Nat.le_trans (by decide) hrm.2⟩) (pvC 25 (by decide) (cE_25 cI cA a (_)) rfl hP hK hN) rfl rfl hl.1 rfl (lv_room (Nat.le_of_ble_eq_true rfl)) dX4_doneMask_33 ⟨Nat.zero_le _, Nat.zero_le _⟩) (fun rv5 => ?_)
          refine lv_aload_n hx hb dX4_doneMask_36 rfl (lv_at hl 1 rfl) ?_
          refine x_get (C := RX4) (T := TX4) (NF := 6) (v := .ref (a 25)) hx hb hts iX4 hown hK hP 28 (by decide) (cE_28 cI cA a (_)) rfl 0 (by decide) fl24 rfl dX4_doneMask_37 ?_
          refine lv_aload_n hx hb dX4_doneMask_40 rfl (lv_at hl 1 rfl) ?_
          refine x_get (C := RX4) (T := TX4) (NF := 6) (v := .ref (a 30)) hx hb hts iX4 hown hK hP 28 (by decide) (cE_28 cI cA a (_)) rfl 2 (by decide) fl15 rfl dX4_doneMask_41 ?_
          refine lv_iload_n hx hb dX4_doneMask_44 rfl (lv_at hl 4 rfl) ?_
          obtain ⟨g6, hf⟩ := gd hf
          refine x_iald hx hb hK hP 30 0 (by decide) (cE_30 cI cA a (_)) (by decide) rfl g6 dX4_doneMask_45 ?_
          refine lv_iload hx hb dX4_doneMask_46 (lv_at hl 0 rfl) ?_
          obtain ⟨v7, hv7, hf⟩ := bd hf
          refine x_callP (va_runV (As := [.int (iN (σ 30 v2)), .int (iN v3)]) (rest := [.int (iN v5)]) ⟨hx, hb, hml, hown, hts⟩ (kX5_placeAt_25 l dC dI cI cA a σ (σ 30 v2) v3 v7 hv7 hR (hR 30 v2) rv3) (cwV 2 hts gX4_doneMask_X5_placeAt rfl rfl rfl hX5_placeAt_d ⟨Nat.le_trans (by decide) hrm.1, Nat.le_trans (by decide) hrm.2⟩) (pvC 25 (by decide) (cE_25 cI cA a (_)) rfl hP hK hN) rfl rfl hl.1 rfl (lv_room (Nat.le_of_ble_eq_true rfl)) dX4_doneMask_48 ⟨Nat.zero_le _, Nat.zero_le _⟩) (fun rv7 => ?_)
          refine x_icmp_lt (tgt := 60) hx hb rv5 rv7 dX4_doneMask_51 (by decide) (fun c10 => ?_) (fun c10 => ?_)
          · replace hf := (if_pos c10).symm.trans hf
            obtain ⟨g8, hf⟩ := gd hf
            refine lv_iinc (v := iN (v2 + 1)) (lv' := [(3, .int (iN (v2 + 1))), (4, .int (iN v3)), (0, .ref (a 28)), (1, .int (iN x1)), (2, .int (iN v1))]) hx hb dX4_doneMask_60 hl (k := 4) rfl (iN_add v2 1) (by decide) rfl (fun ls hl => ?_)
            refine lv_goto (tgt := 4) hx hb dX4_doneMask_63 (by decide) ?_
            exact ih0 _ _ rv1 g8 hf _ (lv_sub hl [2, 3, 4, 0] rfl)
          · replace hf := (if_neg c10).symm.trans hf
            refine lv_iload_n hx hb dX4_doneMask_54 rfl (lv_at hl 3 rfl) ?_
            refine lv_iconst (v := iN 1) hx hb dX4_doneMask_55 rfl ?_
            refine lv_iload_n hx hb dX4_doneMask_56 rfl (lv_at hl 4 rfl) ?_
            refine x_ishl hx hb dX4_doneMask_57 ?_
            refine x_ior hx hb dX4_doneMask_58 ?_
            refine lv_istore_n (lv' := [(2, .int (iN (bOr v1 (bShl 1 v2)))), (4, .int (iN v3)), (0, .ref (a 28)), (1, .int (iN x1)), (3, .int (iN v2))]) hx hb dX4_doneMask_59 rfl hl (by decide) rfl (fun ls hl => ?_)
            obtain ⟨g9, hf⟩ := gd hf
            refine lv_iinc (v := iN (v2 + 1)) (lv' := [(3, .int (iN (v2 + 1))), (2, .int (iN (bOr v1 (bShl 1 v2)))), (4, .int (iN v3)), (0, .ref (a 28)), (1, .int (iN x1))]) hx hb dX4_doneMask_60 hl (k := 4) rfl (iN_add v2 1) (by decide) rfl (fun ls hl => ?_)
            refine lv_goto (tgt := 4) hx hb dX4_doneMask_63 (by decide) ?_
            exact ih0 _ _ (bOr_rng _ _) g9 hf _ (lv_sub hl [3, 4, 1, 0] rfl)
  refine L_fX4_doneMask_28_L4 _ (fun v13 v14 rv13 rv14 hf ls hl => ?_) _ _ _ (by decide) (by decide) hf _ (lv_sub hl [2, 3, 1, 0] rfl)
  refine lv_iload_n hx hb dX4_doneMask_66 rfl (lv_at hl 2 rfl) ?_
  rw [← hQQ]
  exact x_iret hx hb hr (Option.some.inj hf) rv13 hlocks dX4_doneMask_67
def fX4_findAll_28_L2 (ex0 : Mem → Int → Option (Int × Mem)) : Nat → Mem → Int → Option (Int × Mem)
  | 0, _, _ => none
  | n0 + 1, σ2, v1 => if v1 < (σ2 25 3) then bnd2 (fX4_addFirstStep_28 σ2 v1) fun v3 σ4 => if rng (v1 + 1) then fX4_findAll_28_L2  ex0 n0 σ4 (v1 + 1) else none else ex0 σ2 v1
def fX4_findAll_28_L26 (ex0 : Mem → Int → Option (Int × Mem)) : Nat → Mem → Int → Option (Int × Mem)
  | 0, _, _ => none
  | n0 + 1, σ10, v9 => if v9 < (σ10 25 3) then (fX4_doneMask_28 σ10 v9).bind fun v11 => if (0 : Int) ≤ v9 ∧ (v9 : Int) < 216 then nx (mup σ10 32 v9 v11) fun σ13 => if rng (v9 + 1) then fX4_findAll_28_L26  ex0 n0 σ13 (v9 + 1) else none else none else ex0 σ10 v9
def fX4_findAll_28 (σ : Mem) : Option (Int × Mem) := fX4_findAll_28_L2  (fun σ8 v7 => fX4_findAll_28_L26  (fun σ17 v16 => some (0, σ17)) FU σ8 0) FU σ 0
set_option maxHeartbeats 4000000 in
set_option maxRecDepth 100000 in
theorem kX4_findAll_28 (l : Launch) (dC : Nat → ClassId) (dI : Nat → Nat → Nat) (cI : ClassId) (cA : ClassId) (a : Nat → Nat) (hi : ∀ i j, i < 37 → j < 37 → a i = a j → i = j) (σ : Mem) (r : (Int × Mem)) (hf : fX4_findAll_28 σ  = some r) (hR : Rg σ) : Met l yX4_findAll wsX4_findAll ({ frames := 5, cells := 0, slots := 0, locals := 117 }) (va_Pc [.ref (a 28)] (preC dC dI cI cA a σ)) (qMv (dC, dI) (gw 37 a (cE cI cA a)) (gA 37 a) r) 0 0 (gA 37 a) := by
  refine Met.ofW (cc := cX4_findAll) (maxL := 2) (ret := none) (by decide) rfl ?_
  intro p e s m args below meth c s₁ B hml hv
  obtain ⟨hargs, hP, hK, hN⟩ := hv
  have hx := B.exec
  have hb := B.bytes
  have hr := B.returns
  have hts := atoms_spec (ws := wsX4_findAll) B.pre
  have hown : s.vm.findClass RX4 = some m.cls := findClass_of_methodNamed B.named
  have hlocks := B.notSynchronized
  have hS : va_S (gA 37 a) s.heap s.heap [] := va_S.rf
  have iX4 : ∀ w ∈ wsX40, w ∈ wsX4_findAll := by decide +kernel
  have iX5 : ∀ w ∈ wsX50, w ∈ wsX4_findAll := by decide +kernel
  have fl21 := hts (.fieldLink RX4 21 "MatchHall$Rotations" "doneIn" "[I") (by decide +kernel)
  have fl24 := hts (.fieldLink RX4 24 "MatchHall$Rotations" "stables" "LMatchHall$Stables;") (by decide +kernel)
  have fn32 := va_Nw.use (A := args) rfl (hN (.fieldLinkNest RX4 32 "MatchHall$Stables" "size" "I" "MatchHall") (by decide +kernel))
  have hrm : 5 ≤ (headSpec wsX4_findAll ({ frames := 5, cells := 0, slots := 0, locals := 117 })).room.frames ∧ 117 ≤ (headSpec wsX4_findAll ({ frames := 5, cells := 0, slots := 0, locals := 117 })).room.locals := ⟨Nat.le_refl _, Nat.le_refl _⟩
  generalize (headSpec wsX4_findAll ({ frames := 5, cells := 0, slots := 0, locals := 117 })).room = RR at hrm ⊢
  have hl := lv_entry ([.ref (a 28)]) (n := 2) (Nat.le_of_ble_eq_true rfl)
  rw [show entryFrame m args 2 = entryFrame m ([.ref (a 28)] : List Value).toArray 2 from by rw [hargs], lg_entry_eq]
  generalize (lg_sl ([.ref (a 28)]) ++ List.replicate (2 - (lg_sl ([.ref (a 28)])).length) Slot.unset).toArray = ls at hl ⊢
  have hl : lv_has ls 2 [(0, .ref (a 28))] := hl
  generalize hQQ : MQ below (qMv (dC, dI) (gw 37 a (cE cI cA a)) (gA 37 a) r) args s 0 0 (gA 37 a) = QQ
  refine lv_iconst (v := iN 0) hx hb dX4_findAll_0 rfl ?_
  refine lv_istore_n (lv' := [(1, .int (iN 0)), (0, .ref (a 28))]) hx hb dX4_findAll_1 rfl hl (by decide) rfl (fun ls hl => ?_)
  have L_fX4_findAll_28_L2 : ∀ (EX0 : Mem → Int → Option (Int × Mem)), (∀ (σ2 : Mem) (v1 : Int), Rg σ2 → rng v1 → EX0 σ2 v1 = some r → ∀ H locs ls, va_P (dC, dI) vwCl (gw 37 a (cE cI cA a) σ2) H → va_S (gA 37 a) s.heap H locs → lv_has ls 2 [(0, .ref (a 28)), (1, .int (iN v1))] → W p l e RR s m args below meth c H locs 0 0 QQ (F0 m 24 ls [])) → ∀ n0 : Nat, ∀ (σ2 : Mem) (v1 : Int), Rg σ2 → rng v1 → fX4_findAll_28_L2  EX0 n0 σ2 v1 = some r → ∀ H locs ls, va_P (dC, dI) vwCl (gw 37 a (cE cI cA a) σ2) H → va_S (gA 37 a) s.heap H locs → lv_has ls 2 [(0, .ref (a 28)), (1, .int (iN v1))] → W p l e RR s m args below meth c H locs 0 0 QQ (F0 m 2 ls []) := by
    intro EX0 hEX0 n0
    induction n0 with
    | zero => intro _ _ _ _ hf; cases hf
    | succ n0 ih0 =>
      intro σ2 v1 hRσ2 rv1 hf H locs ls hP hS hl
      rw [fX4_findAll_28_L2] at hf
      refine lv_iload_n hx hb dX4_findAll_2 rfl (lv_at hl 1 rfl) ?_
      refine lv_aload_n hx hb dX4_findAll_3 rfl (lv_at hl 0 rfl) ?_
      refine x_get (C := RX4) (T := TX4) (NF := 6) (v := .ref (a 25)) hx hb hts iX4 hown hK hP 28 (by decide) (cE_28 cI cA a (_)) rfl 0 (by decide) fl24 rfl dX4_findAll_4 ?_
      refine x_getN (C := RX5) (T := TX5) (NF := 4) (v := .int (iN (σ2 25 3))) hx hb hts iX5 hown hK hP 25 (by decide) (cE_25 cI cA a (_)) rfl 3 (by decide) fn32 rfl dX4_findAll_7 ?_
      refine x_icmp_ge (tgt := 24) hx hb rv1 (hRσ2 25 3) dX4_findAll_10 (by decide) (fun c6 => ?_) (fun c6 => ?_)
      · replace hf := (if_neg c6).symm.trans hf
        exact hEX0 _ _ hRσ2 rv1 hf _ _ _ hP hS (lv_sub hl [0, 1] rfl)
      · replace hf := (if_pos c6).symm.trans hf
        refine lv_aload_n hx hb dX4_findAll_13 rfl (lv_at hl 0 rfl) ?_
        refine lv_iload_n hx hb dX4_findAll_14 rfl (lv_at hl 1 rfl) ?_
        obtain ⟨v3, σ4, hv3, hf⟩ := bd2 hf
        refine x_callMv (va_runV (As := [.int (iN v1)]) (rest := []) ⟨hx, hb, hml, hown, hts⟩ (kX4_addFirstStep_28 l dC dI cI cA a hi σ2 v1 (v3, σ4) hv3 hRσ2 rv1) (cwV 1 hts gX4_findAll_X4_addFirstStep rfl rfl rfl hX4_addFirstStep_d ⟨Nat.le_trans (by decide) hrm.1, Nat.le_trans (by decide) hrm.2⟩) (pvC 28 (by decide) (cE_28 cI cA a (_)) rfl hP hK hN) rfl rfl hl.1 rfl (lv_room (Nat.le_of_ble_eq_true rfl)) dX4_findAll_15 ⟨Nat.zero_le _, Nat.zero_le _⟩) hS (fun rv3 hRσ4 H locs hP hS => ?_)
        obtain ⟨g5, hf⟩ := gd hf
        refine lv_iinc (v := iN (v1 + 1)) (lv' := [(1, .int (iN (v1 + 1))), (0, .ref (a 28))]) hx hb dX4_findAll_18 hl (k := 1) rfl (iN_add v1 1) (by decide) rfl (fun ls hl => ?_)
        refine lv_goto (tgt := 2) hx hb dX4_findAll_21 (by decide) ?_
        exact ih0 _ _ hRσ4 g5 hf _ _ _ hP hS (lv_sub hl [1, 0] rfl)
  refine L_fX4_findAll_28_L2 _ (fun σ8 v7 hRσ8 rv7 hf H locs ls hP hS hl => ?_) _ _ _ hR (by decide) hf _ _ _ hP hS (lv_sub hl [1, 0] rfl)
  refine lv_iconst (v := iN 0) hx hb dX4_findAll_24 rfl ?_
  refine lv_istore_n (lv' := [(1, .int (iN 0)), (0, .ref (a 28))]) hx hb dX4_findAll_25 rfl hl (by decide) rfl (fun ls hl => ?_)
  have L_fX4_findAll_28_L26 : ∀ (EX0 : Mem → Int → Option (Int × Mem)), (∀ (σ10 : Mem) (v9 : Int), Rg σ10 → rng v9 → EX0 σ10 v9 = some r → ∀ H locs ls, va_P (dC, dI) vwCl (gw 37 a (cE cI cA a) σ10) H → va_S (gA 37 a) s.heap H locs → lv_has ls 2 [(0, .ref (a 28)), (1, .int (iN v9))] → W p l e RR s m args below meth c H locs 0 0 QQ (F0 m 54 ls [])) → ∀ n0 : Nat, ∀ (σ10 : Mem) (v9 : Int), Rg σ10 → rng v9 → fX4_findAll_28_L26  EX0 n0 σ10 v9 = some r → ∀ H locs ls, va_P (dC, dI) vwCl (gw 37 a (cE cI cA a) σ10) H → va_S (gA 37 a) s.heap H locs → lv_has ls 2 [(0, .ref (a 28)), (1, .int (iN v9))] → W p l e RR s m args below meth c H locs 0 0 QQ (F0 m 26 ls []) := by
    intro EX0 hEX0 n0
    induction n0 with
    | zero => intro _ _ _ _ hf; cases hf
    | succ n0 ih0 =>
      intro σ10 v9 hRσ10 rv9 hf H locs ls hP hS hl
      rw [fX4_findAll_28_L26] at hf
      refine lv_iload_n hx hb dX4_findAll_26 rfl (lv_at hl 1 rfl) ?_
      refine lv_aload_n hx hb dX4_findAll_27 rfl (lv_at hl 0 rfl) ?_
      refine x_get (C := RX4) (T := TX4) (NF := 6) (v := .ref (a 25)) hx hb hts iX4 hown hK hP 28 (by decide) (cE_28 cI cA a (_)) rfl 0 (by decide) fl24 rfl dX4_findAll_28 ?_
      refine x_getN (C := RX5) (T := TX5) (NF := 4) (v := .int (iN (σ10 25 3))) hx hb hts iX5 hown hK hP 25 (by decide) (cE_25 cI cA a (_)) rfl 3 (by decide) fn32 rfl dX4_findAll_31 ?_
      refine x_icmp_ge (tgt := 54) hx hb rv9 (hRσ10 25 3) dX4_findAll_34 (by decide) (fun c15 => ?_) (fun c15 => ?_)
      · replace hf := (if_neg c15).symm.trans hf
        exact hEX0 _ _ hRσ10 rv9 hf _ _ _ hP hS (lv_sub hl [0, 1] rfl)
      · replace hf := (if_pos c15).symm.trans hf
        refine lv_aload_n hx hb dX4_findAll_37 rfl (lv_at hl 0 rfl) ?_
        refine x_get (C := RX4) (T := TX4) (NF := 6) (v := .ref (a 32)) hx hb hts iX4 hown hK hP 28 (by decide) (cE_28 cI cA a (_)) rfl 4 (by decide) fl21 rfl dX4_findAll_38 ?_
        refine lv_iload_n hx hb dX4_findAll_41 rfl (lv_at hl 1 rfl) ?_
        refine lv_aload_n hx hb dX4_findAll_42 rfl (lv_at hl 0 rfl) ?_
        refine lv_iload_n hx hb dX4_findAll_43 rfl (lv_at hl 1 rfl) ?_
        obtain ⟨v11, hv11, hf⟩ := bd hf
        refine x_callP (va_runV (As := [.int (iN v9)]) (rest := [.int (iN v9), .ref (a 32)]) ⟨hx, hb, hml, hown, hts⟩ (kX4_doneMask_28 l dC dI cI cA a σ10 v9 v11 hv11 hRσ10 rv9) (cwV 1 hts gX4_findAll_X4_doneMask rfl rfl rfl hX4_doneMask_d ⟨Nat.le_trans (by decide) hrm.1, Nat.le_trans (by decide) hrm.2⟩) (pvC 28 (by decide) (cE_28 cI cA a (_)) rfl hP hK hN) rfl rfl hl.1 rfl (lv_room (Nat.le_of_ble_eq_true rfl)) dX4_findAll_44 ⟨Nat.zero_le _, Nat.zero_le _⟩) (fun rv11 => ?_)
        obtain ⟨g12, hf⟩ := gd hf
        obtain ⟨σ13, hσ13, hf⟩ := nxe hf
        refine x_iast (x := v11) hx hb hi hK hP hS 32 0 (by decide) (cE_32 cI cA a) (by decide) rfl g12 dX4_findAll_47 (fun H locs hP hS => ?_)
        rw [← hσ13] at hP
        have hRσ13 : Rg σ13 := by rw [hσ13]; exact Rg_up hRσ10 rv11
        obtain ⟨g14, hf⟩ := gd hf
        refine lv_iinc (v := iN (v9 + 1)) (lv' := [(1, .int (iN (v9 + 1))), (0, .ref (a 28))]) hx hb dX4_findAll_48 hl (k := 1) rfl (iN_add v9 1) (by decide) rfl (fun ls hl => ?_)
        refine lv_goto (tgt := 26) hx hb dX4_findAll_51 (by decide) ?_
        exact ih0 _ _ hRσ13 g14 hf _ _ _ hP hS (lv_sub hl [1, 0] rfl)
  refine L_fX4_findAll_28_L26 _ (fun σ17 v16 hRσ17 rv16 hf H locs ls hP hS hl => ?_) _ _ _ hRσ8 (by decide) hf _ _ _ hP hS (lv_sub hl [1, 0] rfl)
  rw [← hQQ]
  exact x_vretM hx hb hr (Option.some.inj hf) hRσ17 hP hS hlocks dX4_findAll_54
def fX6_work_0 (σ : Mem) : Option (Int × Mem) := bnd2 (fX6_dropWork_0 σ ) fun v1 σ2 => bnd2 (fX0_findAll_33 σ2 ) fun v3 σ4 => bnd2 (fX4_findAll_28 σ4 ) fun v5 σ6 => some ((σ6 25 3), σ6)
set_option maxHeartbeats 4000000 in
set_option maxRecDepth 100000 in
theorem kX6_work_0 (l : Launch) (dC : Nat → ClassId) (dI : Nat → Nat → Nat) (cI : ClassId) (cA : ClassId) (a : Nat → Nat) (hi : ∀ i j, i < 37 → j < 37 → a i = a j → i = j) (σ : Mem) (r : (Int × Mem)) (hf : fX6_work_0 σ  = some r) (hR : Rg σ) : Met l yX6_work wsX6_work ({ frames := 34, cells := 0, slots := 0, locals := 1083 }) (va_Pc [.ref (a 0)] (preC dC dI cI cA a σ)) (qM (dC, dI) (gw 37 a (cE cI cA a)) (gA 37 a) r) 0 0 (gA 37 a) := by
  refine Met.ofW (cc := cX6_work) (maxL := 1) (ret := (some .int)) (by decide) rfl ?_
  intro p e s m args below meth c s₁ B hml hv
  obtain ⟨hargs, hP, hK, hN⟩ := hv
  have hx := B.exec
  have hb := B.bytes
  have hr := B.returns
  have hts := atoms_spec (ws := wsX6_work) B.pre
  have hown : s.vm.findClass RX6 = some m.cls := findClass_of_methodNamed B.named
  have hlocks := B.notSynchronized
  have hS : va_S (gA 37 a) s.heap s.heap [] := va_S.rf
  have iX5 : ∀ w ∈ wsX50, w ∈ wsX6_work := by decide +kernel
  have iX6 : ∀ w ∈ wsX60, w ∈ wsX6_work := by decide +kernel
  have fl31 := hts (.fieldLink RX6 31 "MatchHall" "stables" "LMatchHall$Stables;") (by decide +kernel)
  have fl40 := hts (.fieldLink RX6 40 "MatchHall" "rotations" "LMatchHall$Rotations;") (by decide +kernel)
  have fl49 := hts (.fieldLink RX6 49 "MatchHall" "finder" "LMatchHall$Finder;") (by decide +kernel)
  have fn105 := va_Nw.use (A := args) rfl (hN (.fieldLinkNest RX6 105 "MatchHall$Stables" "size" "I" "MatchHall") (by decide +kernel))
  have hrm : 34 ≤ (headSpec wsX6_work ({ frames := 34, cells := 0, slots := 0, locals := 1083 })).room.frames ∧ 1083 ≤ (headSpec wsX6_work ({ frames := 34, cells := 0, slots := 0, locals := 1083 })).room.locals := ⟨Nat.le_refl _, Nat.le_refl _⟩
  generalize (headSpec wsX6_work ({ frames := 34, cells := 0, slots := 0, locals := 1083 })).room = RR at hrm ⊢
  have hl := lv_entry ([.ref (a 0)]) (n := 1) (Nat.le_of_ble_eq_true rfl)
  rw [show entryFrame m args 1 = entryFrame m ([.ref (a 0)] : List Value).toArray 1 from by rw [hargs], lg_entry_eq]
  generalize (lg_sl ([.ref (a 0)]) ++ List.replicate (1 - (lg_sl ([.ref (a 0)])).length) Slot.unset).toArray = ls at hl ⊢
  have hl : lv_has ls 1 [(0, .ref (a 0))] := hl
  generalize hQQ : MQ below (qM (dC, dI) (gw 37 a (cE cI cA a)) (gA 37 a) r) args s 0 0 (gA 37 a) = QQ
  refine lv_aload_n hx hb dX6_work_0 rfl (lv_at hl 0 rfl) ?_
  obtain ⟨v1, σ2, hv1, hf⟩ := bd2 hf
  refine x_callMv (va_runV (As := []) (rest := []) ⟨hx, hb, hml, hown, hts⟩ (kX6_dropWork_0 l dC dI cI cA a hi σ  (v1, σ2) hv1 hR ) (cwV 0 hts gX6_work_X6_dropWork rfl rfl rfl hX6_dropWork_d ⟨Nat.le_trans (by decide) hrm.1, Nat.le_trans (by decide) hrm.2⟩) (pvC 0 (by decide) (cE_0 cI cA a (_)) rfl hP hK hN) rfl rfl hl.1 rfl (lv_room (Nat.le_of_ble_eq_true rfl)) dX6_work_1 ⟨Nat.zero_le _, Nat.zero_le _⟩) hS (fun rv1 hRσ2 H locs hP hS => ?_)
  refine lv_aload_n hx hb dX6_work_4 rfl (lv_at hl 0 rfl) ?_
  refine x_get (C := RX6) (T := TX6) (NF := 6) (v := .ref (a 33)) hx hb hts iX6 hown hK hP 0 (by decide) (cE_0 cI cA a (_)) rfl 5 (by decide) fl49 rfl dX6_work_5 ?_
  obtain ⟨v3, σ4, hv3, hf⟩ := bd2 hf
  refine x_callMv (va_runV (As := []) (rest := []) ⟨hx, hb, hml, hown, hts⟩ (kX0_findAll_33 l dC dI cI cA a hi σ2  (v3, σ4) hv3 hRσ2 ) (cwV 0 hts gX6_work_X0_findAll rfl rfl rfl hX0_findAll_d ⟨Nat.le_trans (by decide) hrm.1, Nat.le_trans (by decide) hrm.2⟩) (pvC 33 (by decide) (cE_33 cI cA a (_)) rfl hP hK hN) rfl rfl hl.1 rfl (lv_room (Nat.le_of_ble_eq_true rfl)) dX6_work_8 ⟨Nat.zero_le _, Nat.zero_le _⟩) hS (fun rv3 hRσ4 H locs hP hS => ?_)
  refine lv_aload_n hx hb dX6_work_11 rfl (lv_at hl 0 rfl) ?_
  refine x_get (C := RX6) (T := TX6) (NF := 6) (v := .ref (a 28)) hx hb hts iX6 hown hK hP 0 (by decide) (cE_0 cI cA a (_)) rfl 4 (by decide) fl40 rfl dX6_work_12 ?_
  obtain ⟨v5, σ6, hv5, hf⟩ := bd2 hf
  refine x_callMv (va_runV (As := []) (rest := []) ⟨hx, hb, hml, hown, hts⟩ (kX4_findAll_28 l dC dI cI cA a hi σ4  (v5, σ6) hv5 hRσ4 ) (cwV 0 hts gX6_work_X4_findAll rfl rfl rfl hX4_findAll_d ⟨Nat.le_trans (by decide) hrm.1, Nat.le_trans (by decide) hrm.2⟩) (pvC 28 (by decide) (cE_28 cI cA a (_)) rfl hP hK hN) rfl rfl hl.1 rfl (lv_room (Nat.le_of_ble_eq_true rfl)) dX6_work_15 ⟨Nat.zero_le _, Nat.zero_le _⟩) hS (fun rv5 hRσ6 H locs hP hS => ?_)
  refine lv_aload_n hx hb dX6_work_18 rfl (lv_at hl 0 rfl) ?_
  refine x_get (C := RX6) (T := TX6) (NF := 6) (v := .ref (a 25)) hx hb hts iX6 hown hK hP 0 (by decide) (cE_0 cI cA a (_)) rfl 3 (by decide) fl31 rfl dX6_work_19 ?_
  refine x_getN (C := RX5) (T := TX5) (NF := 4) (v := .int (iN (σ6 25 3))) hx hb hts iX5 hown hK hP 25 (by decide) (cE_25 cI cA a (_)) rfl 3 (by decide) fn105 rfl dX6_work_22 ?_
  rw [← hQQ]
  exact x_iretM hx hb hr (Option.some.inj hf) (hRσ6 25 3) hRσ6 hP hS hlocks dX6_work_25
def fX7_thrown_0 (σ : Mem) : Option Int := some (σ 0 0)
set_option maxHeartbeats 4000000 in
set_option maxRecDepth 100000 in
theorem kX7_thrown_0 (l : Launch) (dC : Nat → ClassId) (dI : Nat → Nat → Nat) (cI : ClassId) (a : Nat → Nat) (σ : Mem) (r : Int) (hf : fX7_thrown_0 σ  = some r) (hR : Rg σ) : Met l yX7_thrown wsX7_thrown ({ frames := 0, cells := 0, slots := 0, locals := 0 }) (va_Pc [.ref (a 0)] (preM dC dI cI a σ)) (qP r) 0 0 (fun _ => False) := by
  refine Met.ofW (cc := cX7_thrown) (maxL := 1) (ret := (some .int)) (by decide) rfl ?_
  intro p e s m args below meth c s₁ B hml hv
  obtain ⟨hargs, hP, hK⟩ := hv
  have hx := B.exec
  have hb := B.bytes
  have hr := B.returns
  have hts := atoms_spec (ws := wsX7_thrown) B.pre
  have hown : s.vm.findClass RX7 = some m.cls := findClass_of_methodNamed B.named
  have hlocks := B.notSynchronized
  have iX7 : ∀ w ∈ wsX70, w ∈ wsX7_thrown := by decide +kernel
  have fl58 := hts (.fieldLink RX7 58 "MatchHallModel" "code" "I") (by decide +kernel)
  have hrm : 0 ≤ (headSpec wsX7_thrown ({ frames := 0, cells := 0, slots := 0, locals := 0 })).room.frames ∧ 0 ≤ (headSpec wsX7_thrown ({ frames := 0, cells := 0, slots := 0, locals := 0 })).room.locals := ⟨Nat.le_refl _, Nat.le_refl _⟩
  generalize (headSpec wsX7_thrown ({ frames := 0, cells := 0, slots := 0, locals := 0 })).room = RR at hrm ⊢
  have hl := lv_entry ([.ref (a 0)]) (n := 1) (Nat.le_of_ble_eq_true rfl)
  rw [show entryFrame m args 1 = entryFrame m ([.ref (a 0)] : List Value).toArray 1 from by rw [hargs], lg_entry_eq]
  generalize (lg_sl ([.ref (a 0)]) ++ List.replicate (1 - (lg_sl ([.ref (a 0)])).length) Slot.unset).toArray = ls at hl ⊢
  have hl : lv_has ls 1 [(0, .ref (a 0))] := hl
  generalize hQQ : MQ below (qP r) args s 0 0 (fun _ => False) = QQ
  refine lv_aload_n hx hb dX7_thrown_0 rfl (lv_at hl 0 rfl) ?_
  refine x_get (C := RX7) (T := TX7) (NF := 17) (v := .int (iN (σ 0 0))) hx hb hts iX7 hown hK hP 0 (by decide) (mE_0 cI a (_)) rfl 0 (by decide) fl58 rfl dX7_thrown_1 ?_
  rw [← hQQ]
  exact x_iret hx hb hr (Option.some.inj hf) (hR 0 0) hlocks dX7_thrown_4
def fX7_in (σ : Mem) (x0 : Int) (x1 : Int) (x2 : Int) : Option Int := if x0 < x1 then some 0 else if x2 < x0 then some 0 else some 1
set_option maxHeartbeats 4000000 in
set_option maxRecDepth 100000 in
theorem kX7_in (l : Launch) (dC : Nat → ClassId) (dI : Nat → Nat → Nat) (cI : ClassId) (a : Nat → Nat) (σ : Mem) (x0 : Int) (x1 : Int) (x2 : Int) (r : Int) (hf : fX7_in σ x0 x1 x2 = some r) (hR : Rg σ) (rx0 : rng x0) (rx1 : rng x1) (rx2 : rng x2) : Met l yX7_in wsX7_in ({ frames := 0, cells := 0, slots := 0, locals := 0 }) (va_Pc [.int (iN x0), .int (iN x1), .int (iN x2)] (preM dC dI cI a σ)) (qP r) 0 0 (fun _ => False) := by
  refine Met.ofW (cc := cX7_in) (maxL := 3) (ret := (some .boolean)) (by decide) rfl ?_
  intro p e s m args below meth c s₁ B hml hv
  obtain ⟨hargs, hP, hK⟩ := hv
  have hx := B.exec
  have hb := B.bytes
  have hr := B.returns
  have hts := atoms_spec (ws := wsX7_in) B.pre
  have hown : s.vm.findClass RX7 = some m.cls := findClass_of_methodNamed B.named
  have hlocks := B.notSynchronized
  have hrm : 0 ≤ (headSpec wsX7_in ({ frames := 0, cells := 0, slots := 0, locals := 0 })).room.frames ∧ 0 ≤ (headSpec wsX7_in ({ frames := 0, cells := 0, slots := 0, locals := 0 })).room.locals := ⟨Nat.le_refl _, Nat.le_refl _⟩
  generalize (headSpec wsX7_in ({ frames := 0, cells := 0, slots := 0, locals := 0 })).room = RR at hrm ⊢
  have hl := lv_entry ([.int (iN x0), .int (iN x1), .int (iN x2)]) (n := 3) (Nat.le_of_ble_eq_true rfl)
  rw [show entryFrame m args 3 = entryFrame m ([.int (iN x0), .int (iN x1), .int (iN x2)] : List Value).toArray 3 from by rw [hargs], lg_entry_eq]
  generalize (lg_sl ([.int (iN x0), .int (iN x1), .int (iN x2)]) ++ List.replicate (3 - (lg_sl ([.int (iN x0), .int (iN x1), .int (iN x2)])).length) Slot.unset).toArray = ls at hl ⊢
  have hl : lv_has ls 3 [(0, .int (iN x0)), (1, .int (iN x1)), (2, .int (iN x2))] := hl
  generalize hQQ : MQ below (qP r) args s 0 0 (fun _ => False) = QQ
  refine lv_iload_n hx hb dX7_in_0 rfl (lv_at hl 0 rfl) ?_
  refine lv_iload_n hx hb dX7_in_1 rfl (lv_at hl 1 rfl) ?_
  refine x_icmp_lt (tgt := 14) hx hb rx0 rx1 dX7_in_2 (by decide) (fun c2 => ?_) (fun c2 => ?_)
  · replace hf := (if_pos c2).symm.trans hf
    refine lv_iconst (v := iN 0) hx hb dX7_in_14 rfl ?_
    rw [← hQQ]
    exact x_zret hx hb hr (by decide) (Option.some.inj hf) (by decide) hlocks dX7_in_15
  · replace hf := (if_neg c2).symm.trans hf
    refine lv_iload_n hx hb dX7_in_5 rfl (lv_at hl 0 rfl) ?_
    refine lv_iload_n hx hb dX7_in_6 rfl (lv_at hl 2 rfl) ?_
    refine x_icmp_gt (tgt := 14) hx hb rx0 rx2 dX7_in_7 (by decide) (fun c1 => ?_) (fun c1 => ?_)
    · replace hf := (if_pos c1).symm.trans hf
      refine lv_iconst (v := iN 0) hx hb dX7_in_14 rfl ?_
      rw [← hQQ]
      exact x_zret hx hb hr (by decide) (Option.some.inj hf) (by decide) hlocks dX7_in_15
    · replace hf := (if_neg c1).symm.trans hf
      refine lv_iconst (v := iN 1) hx hb dX7_in_10 rfl ?_
      refine lv_goto (tgt := 15) hx hb dX7_in_11 (by decide) ?_
      rw [← hQQ]
      exact x_zret hx hb hr (by decide) (Option.some.inj hf) (by decide) hlocks dX7_in_15
def fX7_begin_0_L17 (ex0 : Mem → Int → Option (Int × Mem)) : Nat → Mem → Int → Option (Int × Mem)
  | 0, _, _ => none
  | n0 + 1, σ5, v4 => if v4 < 6 then if (0 : Int) ≤ v4 ∧ (v4 : Int) < 6 then nx (mup σ5 1 v4 1) fun σ7 => if (0 : Int) ≤ v4 ∧ (v4 : Int) < 6 then nx (mup σ7 4 v4 (-1)) fun σ9 => if rng (v4 + 1) then fX7_begin_0_L17  ex0 n0 σ9 (v4 + 1) else none else none else none else ex0 σ5 v4
def fX7_begin_0_L45 (ex0 : Mem → Int → Option (Int × Mem)) : Nat → Mem → Int → Option (Int × Mem)
  | 0, _, _ => none
  | n0 + 1, σ15, v14 => if v14 < 12 then if (0 : Int) ≤ v14 ∧ (v14 : Int) < 12 then nx (mup σ15 3 v14 0) fun σ17 => if rng (v14 + 1) then fX7_begin_0_L45  ex0 n0 σ17 (v14 + 1) else none else none else ex0 σ15 v14
def fX7_begin_0 (σ : Mem) (x1 : Int) (x2 : Int) : Option (Int × Mem) := nx (mup σ 0 1 x1) fun σ1 => nx (mup σ1 0 2 x2) fun σ2 => nx (mup σ2 0 7 0) fun σ3 => fX7_begin_0_L17  (fun σ13 v12 => fX7_begin_0_L45  (fun σ21 v20 => some (0, σ21)) FU σ13 0) FU σ3 0
set_option maxHeartbeats 4000000 in
set_option maxRecDepth 100000 in
theorem kX7_begin_0 (l : Launch) (dC : Nat → ClassId) (dI : Nat → Nat → Nat) (cI : ClassId) (a : Nat → Nat) (hi : ∀ i j, i < 12 → j < 12 → a i = a j → i = j) (σ : Mem) (x1 : Int) (x2 : Int) (r : (Int × Mem)) (hf : fX7_begin_0 σ x1 x2 = some r) (hR : Rg σ) (rx1 : rng x1) (rx2 : rng x2) : Met l yX7_begin wsX7_begin ({ frames := 0, cells := 0, slots := 0, locals := 0 }) (va_Pc [.ref (a 0), .int (iN x1), .int (iN x2)] (preM dC dI cI a σ)) (qMv (dC, dI) (gw 12 a (mE cI a)) (gA 12 a) r) 0 0 (gA 12 a) := by
  refine Met.ofW (cc := cX7_begin) (maxL := 4) (ret := none) (by decide) rfl ?_
  intro p e s m args below meth c s₁ B hml hv
  obtain ⟨hargs, hP, hK⟩ := hv
  have hx := B.exec
  have hb := B.bytes
  have hr := B.returns
  have hts := atoms_spec (ws := wsX7_begin) B.pre
  have hown : s.vm.findClass RX7 = some m.cls := findClass_of_methodNamed B.named
  have hlocks := B.notSynchronized
  have hS : va_S (gA 12 a) s.heap s.heap [] := va_S.rf
  have iX7 : ∀ w ∈ wsX70, w ∈ wsX7_begin := by decide +kernel
  have fl13 := hts (.fieldLink RX7 13 "MatchHallModel" "hospitals" "I") (by decide +kernel)
  have fl16 := hts (.fieldLink RX7 16 "MatchHallModel" "seats" "[I") (by decide +kernel)
  have fl23 := hts (.fieldLink RX7 23 "MatchHallModel" "longs" "[I") (by decide +kernel)
  have fl26 := hts (.fieldLink RX7 26 "MatchHallModel" "told" "[I") (by decide +kernel)
  have fl54 := hts (.fieldLink RX7 54 "MatchHallModel" "worked" "Z") (by decide +kernel)
  have fl7 := hts (.fieldLink RX7 7 "MatchHallModel" "residents" "I") (by decide +kernel)
  have hrm : 0 ≤ (headSpec wsX7_begin ({ frames := 0, cells := 0, slots := 0, locals := 0 })).room.frames ∧ 0 ≤ (headSpec wsX7_begin ({ frames := 0, cells := 0, slots := 0, locals := 0 })).room.locals := ⟨Nat.le_refl _, Nat.le_refl _⟩
  generalize (headSpec wsX7_begin ({ frames := 0, cells := 0, slots := 0, locals := 0 })).room = RR at hrm ⊢
  have hl := lv_entry ([.ref (a 0), .int (iN x1), .int (iN x2)]) (n := 4) (Nat.le_of_ble_eq_true rfl)
  rw [show entryFrame m args 4 = entryFrame m ([.ref (a 0), .int (iN x1), .int (iN x2)] : List Value).toArray 4 from by rw [hargs], lg_entry_eq]
  generalize (lg_sl ([.ref (a 0), .int (iN x1), .int (iN x2)]) ++ List.replicate (4 - (lg_sl ([.ref (a 0), .int (iN x1), .int (iN x2)])).length) Slot.unset).toArray = ls at hl ⊢
  have hl : lv_has ls 4 [(0, .ref (a 0)), (1, .int (iN x1)), (2, .int (iN x2))] := hl
  generalize hQQ : MQ below (qMv (dC, dI) (gw 12 a (mE cI a)) (gA 12 a) r) args s 0 0 (gA 12 a) = QQ
  refine lv_aload_n hx hb dX7_begin_0 rfl (lv_at hl 0 rfl) ?_
  refine lv_iload_n hx hb dX7_begin_1 rfl (lv_at hl 1 rfl) ?_
  obtain ⟨σ1, hσ1, hf⟩ := nxe hf
  refine x_put (C := RX7) (T := TX7) (NF := 17) (x := x1) (ty := .int) hx hb hts iX7 tyX7 tyX7_ok nmX7 hi hown hK hP hS 0 (by decide) (mE_0 cI a (_)) rfl 1 1 (by decide) fl7 rfl (by decide +kernel) rfl rfl (Nat.le_of_ble_eq_true rfl) rfl dX7_begin_2 (fun H locs hP hS => ?_)
  rw [← hσ1] at hP
  have hRσ1 : Rg σ1 := by rw [hσ1]; exact Rg_up hR rx1
  refine lv_aload_n hx hb dX7_begin_5 rfl (lv_at hl 0 rfl) ?_
  refine lv_iload_n hx hb dX7_begin_6 rfl (lv_at hl 2 rfl) ?_
  obtain ⟨σ2, hσ2, hf⟩ := nxe hf
  refine x_put (C := RX7) (T := TX7) (NF := 17) (x := x2) (ty := .int) hx hb hts iX7 tyX7 tyX7_ok nmX7 hi hown hK hP hS 0 (by decide) (mE_0 cI a (_)) rfl 2 2 (by decide) fl13 rfl (by decide +kernel) rfl rfl (Nat.le_of_ble_eq_true rfl) rfl dX7_begin_7 (fun H locs hP hS => ?_)
  rw [← hσ2] at hP
  have hRσ2 : Rg σ2 := by rw [hσ2]; exact Rg_up hRσ1 rx2
  refine lv_aload_n hx hb dX7_begin_10 rfl (lv_at hl 0 rfl) ?_
  refine lv_iconst (v := iN 0) hx hb dX7_begin_11 rfl ?_
  obtain ⟨σ3, hσ3, hf⟩ := nxe hf
  refine x_put (C := RX7) (T := TX7) (NF := 17) (x := 0) (ty := .boolean) hx hb hts iX7 tyX7 tyX7_ok nmX7 hi hown hK hP hS 0 (by decide) (mE_0 cI a (_)) rfl 7 7 (by decide) fl54 rfl (by decide +kernel) (by decide) (by decide) (Nat.le_of_ble_eq_true rfl) rfl dX7_begin_12 (fun H locs hP hS => ?_)
  rw [← hσ3] at hP
  have hRσ3 : Rg σ3 := by rw [hσ3]; exact Rg_up hRσ2 (by decide)
  refine lv_iconst (v := iN 0) hx hb dX7_begin_15 rfl ?_
  refine lv_istore_n (lv' := [(3, .int (iN 0)), (0, .ref (a 0)), (1, .int (iN x1)), (2, .int (iN x2))]) hx hb dX7_begin_16 rfl hl (by decide) rfl (fun ls hl => ?_)
  have L_fX7_begin_0_L17 : ∀ (EX0 : Mem → Int → Option (Int × Mem)), (∀ (σ5 : Mem) (v4 : Int), Rg σ5 → rng v4 → EX0 σ5 v4 = some r → ∀ H locs ls, va_P (dC, dI) vwCl (gw 12 a (mE cI a) σ5) H → va_S (gA 12 a) s.heap H locs → lv_has ls 4 [(0, .ref (a 0)), (1, .int (iN x1)), (2, .int (iN x2)), (3, .int (iN v4))] → W p l e RR s m args below meth c H locs 0 0 QQ (F0 m 43 ls [])) → ∀ n0 : Nat, ∀ (σ5 : Mem) (v4 : Int), Rg σ5 → rng v4 → fX7_begin_0_L17  EX0 n0 σ5 v4 = some r → ∀ H locs ls, va_P (dC, dI) vwCl (gw 12 a (mE cI a) σ5) H → va_S (gA 12 a) s.heap H locs → lv_has ls 4 [(0, .ref (a 0)), (1, .int (iN x1)), (2, .int (iN x2)), (3, .int (iN v4))] → W p l e RR s m args below meth c H locs 0 0 QQ (F0 m 17 ls []) := by
    intro EX0 hEX0 n0
    induction n0 with
    | zero => intro _ _ _ _ hf; cases hf
    | succ n0 ih0 =>
      intro σ5 v4 hRσ5 rv4 hf H locs ls hP hS hl
      rw [fX7_begin_0_L17] at hf
      refine lv_iload_n hx hb dX7_begin_17 rfl (lv_at hl 3 rfl) ?_
      refine lv_bipush (v := iN 6) hx hb dX7_begin_18 (by decide) ?_
      refine x_icmp_ge (tgt := 43) hx hb rv4 (by decide) dX7_begin_20 (by decide) (fun c11 => ?_) (fun c11 => ?_)
      · replace hf := (if_neg c11).symm.trans hf
        exact hEX0 _ _ hRσ5 rv4 hf _ _ _ hP hS (lv_sub hl [0, 1, 2, 3] rfl)
      · replace hf := (if_pos c11).symm.trans hf
        refine lv_aload_n hx hb dX7_begin_23 rfl (lv_at hl 0 rfl) ?_
        refine x_get (C := RX7) (T := TX7) (NF := 17) (v := .ref (a 1)) hx hb hts iX7 hown hK hP 0 (by decide) (mE_0 cI a (_)) rfl 3 (by decide) fl16 rfl dX7_begin_24 ?_
        refine lv_iload_n hx hb dX7_begin_27 rfl (lv_at hl 3 rfl) ?_
        refine lv_iconst (v := iN 1) hx hb dX7_begin_28 rfl ?_
        obtain ⟨g6, hf⟩ := gd hf
        obtain ⟨σ7, hσ7, hf⟩ := nxe hf
        refine x_iast (x := 1) hx hb hi hK hP hS 1 0 (by decide) (mE_1 cI a) (by decide) rfl g6 dX7_begin_29 (fun H locs hP hS => ?_)
        rw [← hσ7] at hP
        have hRσ7 : Rg σ7 := by rw [hσ7]; exact Rg_up hRσ5 (by decide)
        refine lv_aload_n hx hb dX7_begin_30 rfl (lv_at hl 0 rfl) ?_
        refine x_get (C := RX7) (T := TX7) (NF := 17) (v := .ref (a 4)) hx hb hts iX7 hown hK hP 0 (by decide) (mE_0 cI a (_)) rfl 6 (by decide) fl26 rfl dX7_begin_31 ?_
        refine lv_iload_n hx hb dX7_begin_34 rfl (lv_at hl 3 rfl) ?_
        refine lv_iconst (v := iN (-1)) hx hb dX7_begin_35 rfl ?_
        obtain ⟨g8, hf⟩ := gd hf
        obtain ⟨σ9, hσ9, hf⟩ := nxe hf
        refine x_iast (x := (-1)) hx hb hi hK hP hS 4 0 (by decide) (mE_4 cI a) (by decide) rfl g8 dX7_begin_36 (fun H locs hP hS => ?_)
        rw [← hσ9] at hP
        have hRσ9 : Rg σ9 := by rw [hσ9]; exact Rg_up hRσ7 (by decide)
        obtain ⟨g10, hf⟩ := gd hf
        refine lv_iinc (v := iN (v4 + 1)) (lv' := [(3, .int (iN (v4 + 1))), (0, .ref (a 0)), (1, .int (iN x1)), (2, .int (iN x2))]) hx hb dX7_begin_37 hl (k := 3) rfl (iN_add v4 1) (by decide) rfl (fun ls hl => ?_)
        refine lv_goto (tgt := 17) hx hb dX7_begin_40 (by decide) ?_
        exact ih0 _ _ hRσ9 g10 hf _ _ _ hP hS (lv_sub hl [1, 2, 3, 0] rfl)
  refine L_fX7_begin_0_L17 _ (fun σ13 v12 hRσ13 rv12 hf H locs ls hP hS hl => ?_) _ _ _ hRσ3 (by decide) hf _ _ _ hP hS (lv_sub hl [1, 2, 3, 0] rfl)
  refine lv_iconst (v := iN 0) hx hb dX7_begin_43 rfl ?_
  refine lv_istore_n (lv' := [(3, .int (iN 0)), (0, .ref (a 0)), (1, .int (iN x1)), (2, .int (iN x2))]) hx hb dX7_begin_44 rfl hl (by decide) rfl (fun ls hl => ?_)
  have L_fX7_begin_0_L45 : ∀ (EX0 : Mem → Int → Option (Int × Mem)), (∀ (σ15 : Mem) (v14 : Int), Rg σ15 → rng v14 → EX0 σ15 v14 = some r → ∀ H locs ls, va_P (dC, dI) vwCl (gw 12 a (mE cI a) σ15) H → va_S (gA 12 a) s.heap H locs → lv_has ls 4 [(0, .ref (a 0)), (1, .int (iN x1)), (2, .int (iN x2)), (3, .int (iN v14))] → W p l e RR s m args below meth c H locs 0 0 QQ (F0 m 64 ls [])) → ∀ n0 : Nat, ∀ (σ15 : Mem) (v14 : Int), Rg σ15 → rng v14 → fX7_begin_0_L45  EX0 n0 σ15 v14 = some r → ∀ H locs ls, va_P (dC, dI) vwCl (gw 12 a (mE cI a) σ15) H → va_S (gA 12 a) s.heap H locs → lv_has ls 4 [(0, .ref (a 0)), (1, .int (iN x1)), (2, .int (iN x2)), (3, .int (iN v14))] → W p l e RR s m args below meth c H locs 0 0 QQ (F0 m 45 ls []) := by
    intro EX0 hEX0 n0
    induction n0 with
    | zero => intro _ _ _ _ hf; cases hf
    | succ n0 ih0 =>
      intro σ15 v14 hRσ15 rv14 hf H locs ls hP hS hl
      rw [fX7_begin_0_L45] at hf
      refine lv_iload_n hx hb dX7_begin_45 rfl (lv_at hl 3 rfl) ?_
      refine lv_bipush (v := iN 12) hx hb dX7_begin_46 (by decide) ?_
      refine x_icmp_ge (tgt := 64) hx hb rv14 (by decide) dX7_begin_48 (by decide) (fun c19 => ?_) (fun c19 => ?_)
      · replace hf := (if_neg c19).symm.trans hf
        exact hEX0 _ _ hRσ15 rv14 hf _ _ _ hP hS (lv_sub hl [0, 1, 2, 3] rfl)
      · replace hf := (if_pos c19).symm.trans hf
        refine lv_aload_n hx hb dX7_begin_51 rfl (lv_at hl 0 rfl) ?_
        refine x_get (C := RX7) (T := TX7) (NF := 17) (v := .ref (a 3)) hx hb hts iX7 hown hK hP 0 (by decide) (mE_0 cI a (_)) rfl 5 (by decide) fl23 rfl dX7_begin_52 ?_
        refine lv_iload_n hx hb dX7_begin_55 rfl (lv_at hl 3 rfl) ?_
        refine lv_iconst (v := iN 0) hx hb dX7_begin_56 rfl ?_
        obtain ⟨g16, hf⟩ := gd hf
        obtain ⟨σ17, hσ17, hf⟩ := nxe hf
        refine x_iast (x := 0) hx hb hi hK hP hS 3 0 (by decide) (mE_3 cI a) (by decide) rfl g16 dX7_begin_57 (fun H locs hP hS => ?_)
        rw [← hσ17] at hP
        have hRσ17 : Rg σ17 := by rw [hσ17]; exact Rg_up hRσ15 (by decide)
        obtain ⟨g18, hf⟩ := gd hf
        refine lv_iinc (v := iN (v14 + 1)) (lv' := [(3, .int (iN (v14 + 1))), (0, .ref (a 0)), (1, .int (iN x1)), (2, .int (iN x2))]) hx hb dX7_begin_58 hl (k := 3) rfl (iN_add v14 1) (by decide) rfl (fun ls hl => ?_)
        refine lv_goto (tgt := 45) hx hb dX7_begin_61 (by decide) ?_
        exact ih0 _ _ hRσ17 g18 hf _ _ _ hP hS (lv_sub hl [1, 2, 3, 0] rfl)
  refine L_fX7_begin_0_L45 _ (fun σ21 v20 hRσ21 rv20 hf H locs ls hP hS hl => ?_) _ _ _ hRσ13 (by decide) hf _ _ _ hP hS (lv_sub hl [1, 2, 3, 0] rfl)
  rw [← hQQ]
  exact x_vretM hx hb hr (Option.some.inj hf) hRσ21 hP hS hlocks dX7_begin_64
def fX7_make_0 (σ : Mem) (x1 : Int) (x2 : Int) : Option (Int × Mem) := (fX7_in σ x1 1 6).bind fun v1 => if v1 = 0 then nx (mup σ 0 0 1) fun σ2 => if (σ2 0 0) = 0 then bnd2 (fX7_begin_0 σ2 x1 x2) fun v3 σ4 => some (0, σ4) else some (0, σ2) else (fX7_in σ x2 1 6).bind fun v6 => if v6 = 0 then nx (mup σ 0 0 1) fun σ7 => if (σ7 0 0) = 0 then bnd2 (fX7_begin_0 σ7 x1 x2) fun v8 σ9 => some (0, σ9) else some (0, σ7) else nx (mup σ 0 0 0) fun σ11 => if (σ11 0 0) = 0 then bnd2 (fX7_begin_0 σ11 x1 x2) fun v12 σ13 => some (0, σ13) else some (0, σ11)
set_option maxHeartbeats 4000000 in
set_option maxRecDepth 100000 in
theorem kX7_make_0 (l : Launch) (dC : Nat → ClassId) (dI : Nat → Nat → Nat) (cI : ClassId) (a : Nat → Nat) (hi : ∀ i j, i < 12 → j < 12 → a i = a j → i = j) (σ : Mem) (x1 : Int) (x2 : Int) (r : (Int × Mem)) (hf : fX7_make_0 σ x1 x2 = some r) (hR : Rg σ) (rx1 : rng x1) (rx2 : rng x2) : Met l yX7_make wsX7_make ({ frames := 1, cells := 0, slots := 0, locals := 23 }) (va_Pc [.ref (a 0), .int (iN x1), .int (iN x2)] (preM dC dI cI a σ)) (qMv (dC, dI) (gw 12 a (mE cI a)) (gA 12 a) r) 0 0 (gA 12 a) := by
  refine Met.ofW (cc := cX7_make) (maxL := 3) (ret := none) (by decide) rfl ?_
  intro p e s m args below meth c s₁ B hml hv
  obtain ⟨hargs, hP, hK⟩ := hv
  have hx := B.exec
  have hb := B.bytes
  have hr := B.returns
  have hts := atoms_spec (ws := wsX7_make) B.pre
  have hown : s.vm.findClass RX7 = some m.cls := findClass_of_methodNamed B.named
  have hlocks := B.notSynchronized
  have hS : va_S (gA 12 a) s.heap s.heap [] := va_S.rf
  have iX7 : ∀ w ∈ wsX70, w ∈ wsX7_make := by decide +kernel
  have fl58 := hts (.fieldLink RX7 58 "MatchHallModel" "code" "I") (by decide +kernel)
  have hrm : 1 ≤ (headSpec wsX7_make ({ frames := 1, cells := 0, slots := 0, locals := 23 })).room.frames ∧ 23 ≤ (headSpec wsX7_make ({ frames := 1, cells := 0, slots := 0, locals := 23 })).room.locals := ⟨Nat.le_refl _, Nat.le_refl _⟩
  generalize (headSpec wsX7_make ({ frames := 1, cells := 0, slots := 0, locals := 23 })).room = RR at hrm ⊢
  have hl := lv_entry ([.ref (a 0), .int (iN x1), .int (iN x2)]) (n := 3) (Nat.le_of_ble_eq_true rfl)
  rw [show entryFrame m args 3 = entryFrame m ([.ref (a 0), .int (iN x1), .int (iN x2)] : List Value).toArray 3 from by rw [hargs], lg_entry_eq]
  generalize (lg_sl ([.ref (a 0), .int (iN x1), .int (iN x2)]) ++ List.replicate (3 - (lg_sl ([.ref (a 0), .int (iN x1), .int (iN x2)])).length) Slot.unset).toArray = ls at hl ⊢
  have hl : lv_has ls 3 [(0, .ref (a 0)), (1, .int (iN x1)), (2, .int (iN x2))] := hl
  generalize hQQ : MQ below (qMv (dC, dI) (gw 12 a (mE cI a)) (gA 12 a) r) args s 0 0 (gA 12 a) = QQ
  refine lv_aload_n hx hb dX7_make_0 rfl (lv_at hl 0 rfl) ?_
  refine lv_iload_n hx hb dX7_make_1 rfl (lv_at hl 1 rfl) ?_
  refine lv_iconst (v := iN 1) hx hb dX7_make_2 rfl ?_
  refine lv_bipush (v := iN 6) hx hb dX7_make_3 (by decide) ?_
  obtain ⟨v1, hv1, hf⟩ := bd hf
  refine x_callP (va_runS (As := [.int (iN x1), .int (iN 1), .int (iN 6)]) (rest := [.ref (a 0)]) ⟨hx, hb, hml, hown, hts⟩ (kX7_in l dC dI cI a σ x1 1 6 v1 hv1 hR rx1 (by decide) (by decide)) (va_cwS 3 hts gX7_make_X7_in rfl rfl rfl hX7_in_d ⟨Nat.le_trans (by decide) hrm.1, Nat.le_trans (by decide) hrm.2⟩) (psM hP hK) rfl rfl hl.1 rfl (lv_room (Nat.le_of_ble_eq_true rfl)) dX7_make_5 ⟨Nat.zero_le _, Nat.zero_le _⟩) (fun rv1 => ?_)
  refine x_if_eq (tgt := 25) hx hb rv1 dX7_make_8 (by decide) (fun c16 => ?_) (fun c16 => ?_)
  · replace hf := (if_pos c16).symm.trans hf
    refine lv_iconst (v := iN 1) hx hb dX7_make_25 rfl ?_
    obtain ⟨σ2, hσ2, hf⟩ := nxe hf
    refine x_put (C := RX7) (T := TX7) (NF := 17) (x := 1) (ty := .int) hx hb hts iX7 tyX7 tyX7_ok nmX7 hi hown hK hP hS 0 (by decide) (mE_0 cI a (_)) rfl 0 0 (by decide) fl58 rfl (by decide +kernel) rfl rfl (Nat.le_of_ble_eq_true rfl) rfl dX7_make_26 (fun H locs hP hS => ?_)
    rw [← hσ2] at hP
    have hRσ2 : Rg σ2 := by rw [hσ2]; exact Rg_up hR (by decide)
    refine lv_aload_n hx hb dX7_make_29 rfl (lv_at hl 0 rfl) ?_
    refine x_get (C := RX7) (T := TX7) (NF := 17) (v := .int (iN (σ2 0 0))) hx hb hts iX7 hown hK hP 0 (by decide) (mE_0 cI a (_)) rfl 0 (by decide) fl58 rfl dX7_make_30 ?_
    refine x_if_ne (tgt := 42) hx hb (hRσ2 0 0) dX7_make_33 (by decide) (fun c5 => ?_) (fun c5 => ?_)
    · replace hf := (if_neg c5).symm.trans hf
      rw [← hQQ]
      exact x_vretM hx hb hr (Option.some.inj hf) hRσ2 hP hS hlocks dX7_make_42
    · replace hf := (if_pos c5).symm.trans hf
      refine lv_aload_n hx hb dX7_make_36 rfl (lv_at hl 0 rfl) ?_
      refine lv_iload_n hx hb dX7_make_37 rfl (lv_at hl 1 rfl) ?_
      refine lv_iload_n hx hb dX7_make_38 rfl (lv_at hl 2 rfl) ?_
      obtain ⟨v3, σ4, hv3, hf⟩ := bd2 hf
      refine x_callMv (va_runV (As := [.int (iN x1), .int (iN x2)]) (rest := []) ⟨hx, hb, hml, hown, hts⟩ (kX7_begin_0 l dC dI cI a hi σ2 x1 x2 (v3, σ4) hv3 hRσ2 rx1 rx2) (cwV 2 hts gX7_make_X7_begin rfl rfl rfl hX7_begin_d ⟨Nat.le_trans (by decide) hrm.1, Nat.le_trans (by decide) hrm.2⟩) (pvM 0 (by decide) (mE_0 cI a (_)) rfl hP hK) rfl rfl hl.1 rfl (lv_room (Nat.le_of_ble_eq_true rfl)) dX7_make_39 ⟨Nat.zero_le _, Nat.zero_le _⟩) hS (fun rv3 hRσ4 H locs hP hS => ?_)
      rw [← hQQ]
      exact x_vretM hx hb hr (Option.some.inj hf) hRσ4 hP hS hlocks dX7_make_42
  · replace hf := (if_neg c16).symm.trans hf
    refine lv_iload_n hx hb dX7_make_11 rfl (lv_at hl 2 rfl) ?_
    refine lv_iconst (v := iN 1) hx hb dX7_make_12 rfl ?_
    refine lv_bipush (v := iN 6) hx hb dX7_make_13 (by decide) ?_
    obtain ⟨v6, hv6, hf⟩ := bd hf
    refine x_callP (va_runS (As := [.int (iN x2), .int (iN 1), .int (iN 6)]) (rest := [.ref (a 0)]) ⟨hx, hb, hml, hown, hts⟩ (kX7_in l dC dI cI a σ x2 1 6 v6 hv6 hR rx2 (by decide) (by decide)) (va_cwS 3 hts gX7_make_X7_in rfl rfl rfl hX7_in_d ⟨Nat.le_trans (by decide) hrm.1, Nat.le_trans (by decide) hrm.2⟩) (psM hP hK) rfl rfl hl.1 rfl (lv_room (Nat.le_of_ble_eq_true rfl)) dX7_make_15 ⟨Nat.zero_le _, Nat.zero_le _⟩) (fun rv6 => ?_)
    refine x_if_eq (tgt := 25) hx hb rv6 dX7_make_18 (by decide) (fun c15 => ?_) (fun c15 => ?_)
    · replace hf := (if_pos c15).symm.trans hf
      refine lv_iconst (v := iN 1) hx hb dX7_make_25 rfl ?_
      obtain ⟨σ7, hσ7, hf⟩ := nxe hf
      refine x_put (C := RX7) (T := TX7) (NF := 17) (x := 1) (ty := .int) hx hb hts iX7 tyX7 tyX7_ok nmX7 hi hown hK hP hS 0 (by decide) (mE_0 cI a (_)) rfl 0 0 (by decide) fl58 rfl (by decide +kernel) rfl rfl (Nat.le_of_ble_eq_true rfl) rfl dX7_make_26 (fun H locs hP hS => ?_)
      rw [← hσ7] at hP
      have hRσ7 : Rg σ7 := by rw [hσ7]; exact Rg_up hR (by decide)
      refine lv_aload_n hx hb dX7_make_29 rfl (lv_at hl 0 rfl) ?_
      refine x_get (C := RX7) (T := TX7) (NF := 17) (v := .int (iN (σ7 0 0))) hx hb hts iX7 hown hK hP 0 (by decide) (mE_0 cI a (_)) rfl 0 (by decide) fl58 rfl dX7_make_30 ?_
      refine x_if_ne (tgt := 42) hx hb (hRσ7 0 0) dX7_make_33 (by decide) (fun c10 => ?_) (fun c10 => ?_)
      · replace hf := (if_neg c10).symm.trans hf
        rw [← hQQ]
        exact x_vretM hx hb hr (Option.some.inj hf) hRσ7 hP hS hlocks dX7_make_42
      · replace hf := (if_pos c10).symm.trans hf
        refine lv_aload_n hx hb dX7_make_36 rfl (lv_at hl 0 rfl) ?_
        refine lv_iload_n hx hb dX7_make_37 rfl (lv_at hl 1 rfl) ?_
        refine lv_iload_n hx hb dX7_make_38 rfl (lv_at hl 2 rfl) ?_
        obtain ⟨v8, σ9, hv8, hf⟩ := bd2 hf
        refine x_callMv (va_runV (As := [.int (iN x1), .int (iN x2)]) (rest := []) ⟨hx, hb, hml, hown, hts⟩ (kX7_begin_0 l dC dI cI a hi σ7 x1 x2 (v8, σ9) hv8 hRσ7 rx1 rx2) (cwV 2 hts gX7_make_X7_begin rfl rfl rfl hX7_begin_d ⟨Nat.le_trans (by decide) hrm.1, Nat.le_trans (by decide) hrm.2⟩) (pvM 0 (by decide) (mE_0 cI a (_)) rfl hP hK) rfl rfl hl.1 rfl (lv_room (Nat.le_of_ble_eq_true rfl)) dX7_make_39 ⟨Nat.zero_le _, Nat.zero_le _⟩) hS (fun rv8 hRσ9 H locs hP hS => ?_)
        rw [← hQQ]
        exact x_vretM hx hb hr (Option.some.inj hf) hRσ9 hP hS hlocks dX7_make_42
    · replace hf := (if_neg c15).symm.trans hf
      refine lv_iconst (v := iN 0) hx hb dX7_make_21 rfl ?_
      refine lv_goto (tgt := 26) hx hb dX7_make_22 (by decide) ?_
      obtain ⟨σ11, hσ11, hf⟩ := nxe hf
      refine x_put (C := RX7) (T := TX7) (NF := 17) (x := 0) (ty := .int) hx hb hts iX7 tyX7 tyX7_ok nmX7 hi hown hK hP hS 0 (by decide) (mE_0 cI a (_)) rfl 0 0 (by decide) fl58 rfl (by decide +kernel) rfl rfl (Nat.le_of_ble_eq_true rfl) rfl dX7_make_26 (fun H locs hP hS => ?_)
      rw [← hσ11] at hP
      have hRσ11 : Rg σ11 := by rw [hσ11]; exact Rg_up hR (by decide)
      refine lv_aload_n hx hb dX7_make_29 rfl (lv_at hl 0 rfl) ?_
      refine x_get (C := RX7) (T := TX7) (NF := 17) (v := .int (iN (σ11 0 0))) hx hb hts iX7 hown hK hP 0 (by decide) (mE_0 cI a (_)) rfl 0 (by decide) fl58 rfl dX7_make_30 ?_
      refine x_if_ne (tgt := 42) hx hb (hRσ11 0 0) dX7_make_33 (by decide) (fun c14 => ?_) (fun c14 => ?_)
      · replace hf := (if_neg c14).symm.trans hf
        rw [← hQQ]
        exact x_vretM hx hb hr (Option.some.inj hf) hRσ11 hP hS hlocks dX7_make_42
      · replace hf := (if_pos c14).symm.trans hf
        refine lv_aload_n hx hb dX7_make_36 rfl (lv_at hl 0 rfl) ?_
        refine lv_iload_n hx hb dX7_make_37 rfl (lv_at hl 1 rfl) ?_
        refine lv_iload_n hx hb dX7_make_38 rfl (lv_at hl 2 rfl) ?_
        obtain ⟨v12, σ13, hv12, hf⟩ := bd2 hf
        refine x_callMv (va_runV (As := [.int (iN x1), .int (iN x2)]) (rest := []) ⟨hx, hb, hml, hown, hts⟩ (kX7_begin_0 l dC dI cI a hi σ11 x1 x2 (v12, σ13) hv12 hRσ11 rx1 rx2) (cwV 2 hts gX7_make_X7_begin rfl rfl rfl hX7_begin_d ⟨Nat.le_trans (by decide) hrm.1, Nat.le_trans (by decide) hrm.2⟩) (pvM 0 (by decide) (mE_0 cI a (_)) rfl hP hK) rfl rfl hl.1 rfl (lv_room (Nat.le_of_ble_eq_true rfl)) dX7_make_39 ⟨Nat.zero_le _, Nat.zero_le _⟩) hS (fun rv12 hRσ13 H locs hP hS => ?_)
        rw [← hQQ]
        exact x_vretM hx hb hr (Option.some.inj hf) hRσ13 hP hS hlocks dX7_make_42
def fX7_seats_0 (σ : Mem) (x1 : Int) (x2 : Int) : Option (Int × Mem) := if rng ((σ 0 2) - 1) then (fX7_in σ x1 0 ((σ 0 2) - 1)).bind fun v2 => if v2 = 0 then nx (mup σ 0 0 1) fun σ15 => if (σ15 0 0) = 0 then if (0 : Int) ≤ x1 ∧ (x1 : Int) < 6 then nx (mup σ15 1 x1 x2) fun σ17 => nx (mup σ17 0 7 0) fun σ18 => some (0, σ18) else none else some (0, σ15) else (fX7_in σ x2 1 3).bind fun v3 => if v3 = 0 then nx (mup σ 0 0 2) fun σ9 => if (σ9 0 0) = 0 then if (0 : Int) ≤ x1 ∧ (x1 : Int) < 6 then nx (mup σ9 1 x1 x2) fun σ11 => nx (mup σ11 0 7 0) fun σ12 => some (0, σ12) else none else some (0, σ9) else nx (mup σ 0 0 0) fun σ4 => if (σ4 0 0) = 0 then if (0 : Int) ≤ x1 ∧ (x1 : Int) < 6 then nx (mup σ4 1 x1 x2) fun σ6 => nx (mup σ6 0 7 0) fun σ7 => some (0, σ7) else none else some (0, σ4) else none
set_option maxHeartbeats 4000000 in
set_option maxRecDepth 100000 in
theorem kX7_seats_0 (l : Launch) (dC : Nat → ClassId) (dI : Nat → Nat → Nat) (cI : ClassId) (a : Nat → Nat) (hi : ∀ i j, i < 12 → j < 12 → a i = a j → i = j) (σ : Mem) (x1 : Int) (x2 : Int) (r : (Int × Mem)) (hf : fX7_seats_0 σ x1 x2 = some r) (hR : Rg σ) (rx1 : rng x1) (rx2 : rng x2) : Met l yX7_seats wsX7_seats ({ frames := 1, cells := 0, slots := 0, locals := 22 }) (va_Pc [.ref (a 0), .int (iN x1), .int (iN x2)] (preM dC dI cI a σ)) (qMv (dC, dI) (gw 12 a (mE cI a)) (gA 12 a) r) 0 0 (gA 12 a) := by
  refine Met.ofW (cc := cX7_seats) (maxL := 3) (ret := none) (by decide) rfl ?_
  intro p e s m args below meth c s₁ B hml hv
  obtain ⟨hargs, hP, hK⟩ := hv
  have hx := B.exec
  have hb := B.bytes
  have hr := B.returns
  have hts := atoms_spec (ws := wsX7_seats) B.pre
  have hown : s.vm.findClass RX7 = some m.cls := findClass_of_methodNamed B.named
  have hlocks := B.notSynchronized
  have hS : va_S (gA 12 a) s.heap s.heap [] := va_S.rf
  have iX7 : ∀ w ∈ wsX70, w ∈ wsX7_seats := by decide +kernel
  have fl13 := hts (.fieldLink RX7 13 "MatchHallModel" "hospitals" "I") (by decide +kernel)
  have fl16 := hts (.fieldLink RX7 16 "MatchHallModel" "seats" "[I") (by decide +kernel)
  have fl54 := hts (.fieldLink RX7 54 "MatchHallModel" "worked" "Z") (by decide +kernel)
  have fl58 := hts (.fieldLink RX7 58 "MatchHallModel" "code" "I") (by decide +kernel)
  have hrm : 1 ≤ (headSpec wsX7_seats ({ frames := 1, cells := 0, slots := 0, locals := 22 })).room.frames ∧ 22 ≤ (headSpec wsX7_seats ({ frames := 1, cells := 0, slots := 0, locals := 22 })).room.locals := ⟨Nat.le_refl _, Nat.le_refl _⟩
  generalize (headSpec wsX7_seats ({ frames := 1, cells := 0, slots := 0, locals := 22 })).room = RR at hrm ⊢
  have hl := lv_entry ([.ref (a 0), .int (iN x1), .int (iN x2)]) (n := 3) (Nat.le_of_ble_eq_true rfl)
  rw [show entryFrame m args 3 = entryFrame m ([.ref (a 0), .int (iN x1), .int (iN x2)] : List Value).toArray 3 from by rw [hargs], lg_entry_eq]
  generalize (lg_sl ([.ref (a 0), .int (iN x1), .int (iN x2)]) ++ List.replicate (3 - (lg_sl ([.ref (a 0), .int (iN x1), .int (iN x2)])).length) Slot.unset).toArray = ls at hl ⊢
  have hl : lv_has ls 3 [(0, .ref (a 0)), (1, .int (iN x1)), (2, .int (iN x2))] := hl
  generalize hQQ : MQ below (qMv (dC, dI) (gw 12 a (mE cI a)) (gA 12 a) r) args s 0 0 (gA 12 a) = QQ
  refine lv_aload_n hx hb dX7_seats_0 rfl (lv_at hl 0 rfl) ?_
  refine lv_iload_n hx hb dX7_seats_1 rfl (lv_at hl 1 rfl) ?_
  refine lv_iconst (v := iN 0) hx hb dX7_seats_2 rfl ?_
  refine lv_aload_n hx hb dX7_seats_3 rfl (lv_at hl 0 rfl) ?_
  refine x_get (C := RX7) (T := TX7) (NF := 17) (v := .int (iN (σ 0 2))) hx hb hts iX7 hown hK hP 0 (by decide) (mE_0 cI a (_)) rfl 2 (by decide) fl13 rfl dX7_seats_4 ?_
  refine lv_iconst (v := iN 1) hx hb dX7_seats_7 rfl ?_
  obtain ⟨g1, hf⟩ := gd hf
  refine x_isub hx hb dX7_seats_8 ?_
  obtain ⟨v2, hv2, hf⟩ := bd hf
  refine x_callP (va_runS (As := [.int (iN x1), .int (iN 0), .int (iN ((σ 0 2) - 1))]) (rest := [.ref (a 0)]) ⟨hx, hb, hml, hown, hts⟩ (kX7_in l dC dI cI a σ x1 0 ((σ 0 2) - 1) v2 hv2 hR rx1 (by decide) g1) (va_cwS 3 hts gX7_seats_X7_in rfl rfl rfl hX7_in_d ⟨Nat.le_trans (by decide) hrm.1, Nat.le_trans (by decide) hrm.2⟩) (psM hP hK) rfl rfl hl.1 rfl (lv_room (Nat.le_of_ble_eq_true rfl)) dX7_seats_9 ⟨Nat.zero_le _, Nat.zero_le _⟩) (fun rv2 => ?_)
  refine x_if_ne (tgt := 19) hx hb rv2 dX7_seats_12 (by decide) (fun c20 => ?_) (fun c20 => ?_)
  · replace hf := (if_neg c20).symm.trans hf
    refine lv_iload_n hx hb dX7_seats_19 rfl (lv_at hl 2 rfl) ?_
    refine lv_iconst (v := iN 1) hx hb dX7_seats_20 rfl ?_
    refine lv_iconst (v := iN 3) hx hb dX7_seats_21 rfl ?_
    obtain ⟨v3, hv3, hf⟩ := bd hf
    refine x_callP (va_runS (As := [.int (iN x2), .int (iN 1), .int (iN 3)]) (rest := [.ref (a 0)]) ⟨hx, hb, hml, hown, hts⟩ (kX7_in l dC dI cI a σ x2 1 3 v3 hv3 hR rx2 (by decide) (by decide)) (va_cwS 3 hts gX7_seats_X7_in rfl rfl rfl hX7_in_d ⟨Nat.le_trans (by decide) hrm.1, Nat.le_trans (by decide) hrm.2⟩) (psM hP hK) rfl rfl hl.1 rfl (lv_room (Nat.le_of_ble_eq_true rfl)) dX7_seats_22 ⟨Nat.zero_le _, Nat.zero_le _⟩) (fun rv3 => ?_)
    refine x_if_ne (tgt := 32) hx hb rv3 dX7_seats_25 (by decide) (fun c14 => ?_) (fun c14 => ?_)
    · replace hf := (if_neg c14).symm.trans hf
      refine lv_iconst (v := iN 0) hx hb dX7_seats_32 rfl ?_
      obtain ⟨σ4, hσ4, hf⟩ := nxe hf
      refine x_put (C := RX7) (T := TX7) (NF := 17) (x := 0) (ty := .int) hx hb hts iX7 tyX7 tyX7_ok nmX7 hi hown hK hP hS 0 (by decide) (mE_0 cI a (_)) rfl 0 0 (by decide) fl58 rfl (by decide +kernel) rfl rfl (Nat.le_of_ble_eq_true rfl) rfl dX7_seats_33 (fun H locs hP hS => ?_)
      rw [← hσ4] at hP
      have hRσ4 : Rg σ4 := by rw [hσ4]; exact Rg_up hR (by decide)
      refine lv_aload_n hx hb dX7_seats_36 rfl (lv_at hl 0 rfl) ?_
      refine x_get (C := RX7) (T := TX7) (NF := 17) (v := .int (iN (σ4 0 0))) hx hb hts iX7 hown hK hP 0 (by decide) (mE_0 cI a (_)) rfl 0 (by decide) fl58 rfl dX7_seats_37 ?_
      refine x_if_ne (tgt := 55) hx hb (hRσ4 0 0) dX7_seats_40 (by decide) (fun c8 => ?_) (fun c8 => ?_)
      · replace hf := (if_neg c8).symm.trans hf
        rw [← hQQ]
        exact x_vretM hx hb hr (Option.some.inj hf) hRσ4 hP hS hlocks dX7_seats_55
      · replace hf := (if_pos c8).symm.trans hf
        refine lv_aload_n hx hb dX7_seats_43 rfl (lv_at hl 0 rfl) ?_
        refine x_get (C := RX7) (T := TX7) (NF := 17) (v := .ref (a 1)) hx hb hts iX7 hown hK hP 0 (by decide) (mE_0 cI a (_)) rfl 3 (by decide) fl16 rfl dX7_seats_44 ?_
        refine lv_iload_n hx hb dX7_seats_47 rfl (lv_at hl 1 rfl) ?_
        refine lv_iload_n hx hb dX7_seats_48 rfl (lv_at hl 2 rfl) ?_
        obtain ⟨g5, hf⟩ := gd hf
        obtain ⟨σ6, hσ6, hf⟩ := nxe hf
        refine x_iast (x := x2) hx hb hi hK hP hS 1 0 (by decide) (mE_1 cI a) (by decide) rfl g5 dX7_seats_49 (fun H locs hP hS => ?_)
        rw [← hσ6] at hP
        have hRσ6 : Rg σ6 := by rw [hσ6]; exact Rg_up hRσ4 rx2
        refine lv_aload_n hx hb dX7_seats_50 rfl (lv_at hl 0 rfl) ?_
        refine lv_iconst (v := iN 0) hx hb dX7_seats_51 rfl ?_
        obtain ⟨σ7, hσ7, hf⟩ := nxe hf
        refine x_put (C := RX7) (T := TX7) (NF := 17) (x := 0) (ty := .boolean) hx hb hts iX7 tyX7 tyX7_ok nmX7 hi hown hK hP hS 0 (by decide) (mE_0 cI a (_)) rfl 7 7 (by decide) fl54 rfl (by decide +kernel) (by decide) (by decide) (Nat.le_of_ble_eq_true rfl) rfl dX7_seats_52 (fun H locs hP hS => ?_)
        rw [← hσ7] at hP
        have hRσ7 : Rg σ7 := by rw [hσ7]; exact Rg_up hRσ6 (by decide)
        rw [← hQQ]
        exact x_vretM hx hb hr (Option.some.inj hf) hRσ7 hP hS hlocks dX7_seats_55
    · replace hf := (if_pos c14).symm.trans hf
      refine lv_iconst (v := iN 2) hx hb dX7_seats_28 rfl ?_
      refine lv_goto (tgt := 33) hx hb dX7_seats_29 (by decide) ?_
      obtain ⟨σ9, hσ9, hf⟩ := nxe hf
      refine x_put (C := RX7) (T := TX7) (NF := 17) (x := 2) (ty := .int) hx hb hts iX7 tyX7 tyX7_ok nmX7 hi hown hK hP hS 0 (by decide) (mE_0 cI a (_)) rfl 0 0 (by decide) fl58 rfl (by decide +kernel) rfl rfl (Nat.le_of_ble_eq_true rfl) rfl dX7_seats_33 (fun H locs hP hS => ?_)
      rw [← hσ9] at hP
      have hRσ9 : Rg σ9 := by rw [hσ9]; exact Rg_up hR (by decide)
      refine lv_aload_n hx hb dX7_seats_36 rfl (lv_at hl 0 rfl) ?_
      refine x_get (C := RX7) (T := TX7) (NF := 17) (v := .int (iN (σ9 0 0))) hx hb hts iX7 hown hK hP 0 (by decide) (mE_0 cI a (_)) rfl 0 (by decide) fl58 rfl dX7_seats_37 ?_
      refine x_if_ne (tgt := 55) hx hb (hRσ9 0 0) dX7_seats_40 (by decide) (fun c13 => ?_) (fun c13 => ?_)
      · replace hf := (if_neg c13).symm.trans hf
        rw [← hQQ]
        exact x_vretM hx hb hr (Option.some.inj hf) hRσ9 hP hS hlocks dX7_seats_55
      · replace hf := (if_pos c13).symm.trans hf
        refine lv_aload_n hx hb dX7_seats_43 rfl (lv_at hl 0 rfl) ?_
        refine x_get (C := RX7) (T := TX7) (NF := 17) (v := .ref (a 1)) hx hb hts iX7 hown hK hP 0 (by decide) (mE_0 cI a (_)) rfl 3 (by decide) fl16 rfl dX7_seats_44 ?_
        refine lv_iload_n hx hb dX7_seats_47 rfl (lv_at hl 1 rfl) ?_
        refine lv_iload_n hx hb dX7_seats_48 rfl (lv_at hl 2 rfl) ?_
        obtain ⟨g10, hf⟩ := gd hf
        obtain ⟨σ11, hσ11, hf⟩ := nxe hf
        refine x_iast (x := x2) hx hb hi hK hP hS 1 0 (by decide) (mE_1 cI a) (by decide) rfl g10 dX7_seats_49 (fun H locs hP hS => ?_)
        rw [← hσ11] at hP
        have hRσ11 : Rg σ11 := by rw [hσ11]; exact Rg_up hRσ9 rx2
        refine lv_aload_n hx hb dX7_seats_50 rfl (lv_at hl 0 rfl) ?_
        refine lv_iconst (v := iN 0) hx hb dX7_seats_51 rfl ?_
        obtain ⟨σ12, hσ12, hf⟩ := nxe hf
        refine x_put (C := RX7) (T := TX7) (NF := 17) (x := 0) (ty := .boolean) hx hb hts iX7 tyX7 tyX7_ok nmX7 hi hown hK hP hS 0 (by decide) (mE_0 cI a (_)) rfl 7 7 (by decide) fl54 rfl (by decide +kernel) (by decide) (by decide) (Nat.le_of_ble_eq_true rfl) rfl dX7_seats_52 (fun H locs hP hS => ?_)
        rw [← hσ12] at hP
        have hRσ12 : Rg σ12 := by rw [hσ12]; exact Rg_up hRσ11 (by decide)
        rw [← hQQ]
        exact x_vretM hx hb hr (Option.some.inj hf) hRσ12 hP hS hlocks dX7_seats_55
  · replace hf := (if_pos c20).symm.trans hf
    refine lv_iconst (v := iN 1) hx hb dX7_seats_15 rfl ?_
    refine lv_goto (tgt := 33) hx hb dX7_seats_16 (by decide) ?_
    obtain ⟨σ15, hσ15, hf⟩ := nxe hf
    refine x_put (C := RX7) (T := TX7) (NF := 17) (x := 1) (ty := .int) hx hb hts iX7 tyX7 tyX7_ok nmX7 hi hown hK hP hS 0 (by decide) (mE_0 cI a (_)) rfl 0 0 (by decide) fl58 rfl (by decide +kernel) rfl rfl (Nat.le_of_ble_eq_true rfl) rfl dX7_seats_33 (fun H locs hP hS => ?_)
    rw [← hσ15] at hP
    have hRσ15 : Rg σ15 := by rw [hσ15]; exact Rg_up hR (by decide)
    refine lv_aload_n hx hb dX7_seats_36 rfl (lv_at hl 0 rfl) ?_
    refine x_get (C := RX7) (T := TX7) (NF := 17) (v := .int (iN (σ15 0 0))) hx hb hts iX7 hown hK hP 0 (by decide) (mE_0 cI a (_)) rfl 0 (by decide) fl58 rfl dX7_seats_37 ?_
    refine x_if_ne (tgt := 55) hx hb (hRσ15 0 0) dX7_seats_40 (by decide) (fun c19 => ?_) (fun c19 => ?_)
    · replace hf := (if_neg c19).symm.trans hf
      rw [← hQQ]
      exact x_vretM hx hb hr (Option.some.inj hf) hRσ15 hP hS hlocks dX7_seats_55
    · replace hf := (if_pos c19).symm.trans hf
      refine lv_aload_n hx hb dX7_seats_43 rfl (lv_at hl 0 rfl) ?_
      refine x_get (C := RX7) (T := TX7) (NF := 17) (v := .ref (a 1)) hx hb hts iX7 hown hK hP 0 (by decide) (mE_0 cI a (_)) rfl 3 (by decide) fl16 rfl dX7_seats_44 ?_
      refine lv_iload_n hx hb dX7_seats_47 rfl (lv_at hl 1 rfl) ?_
      refine lv_iload_n hx hb dX7_seats_48 rfl (lv_at hl 2 rfl) ?_
      obtain ⟨g16, hf⟩ := gd hf
      obtain ⟨σ17, hσ17, hf⟩ := nxe hf
      refine x_iast (x := x2) hx hb hi hK hP hS 1 0 (by decide) (mE_1 cI a) (by decide) rfl g16 dX7_seats_49 (fun H locs hP hS => ?_)
      rw [← hσ17] at hP
      have hRσ17 : Rg σ17 := by rw [hσ17]; exact Rg_up hRσ15 rx2
      refine lv_aload_n hx hb dX7_seats_50 rfl (lv_at hl 0 rfl) ?_
      refine lv_iconst (v := iN 0) hx hb dX7_seats_51 rfl ?_
      obtain ⟨σ18, hσ18, hf⟩ := nxe hf
      refine x_put (C := RX7) (T := TX7) (NF := 17) (x := 0) (ty := .boolean) hx hb hts iX7 tyX7 tyX7_ok nmX7 hi hown hK hP hS 0 (by decide) (mE_0 cI a (_)) rfl 7 7 (by decide) fl54 rfl (by decide +kernel) (by decide) (by decide) (Nat.le_of_ble_eq_true rfl) rfl dX7_seats_52 (fun H locs hP hS => ?_)
      rw [← hσ18] at hP
      have hRσ18 : Rg σ18 := by rw [hσ18]; exact Rg_up hRσ17 (by decide)
      rw [← hQQ]
      exact x_vretM hx hb hr (Option.some.inj hf) hRσ18 hP hS hlocks dX7_seats_55
def fX7_sizeOf_0 (σ : Mem) (x1 : Int) : Option Int := if x1 = 0 then some (σ 0 1) else some (σ 0 2)
set_option maxHeartbeats 4000000 in
set_option maxRecDepth 100000 in
theorem kX7_sizeOf_0 (l : Launch) (dC : Nat → ClassId) (dI : Nat → Nat → Nat) (cI : ClassId) (a : Nat → Nat) (σ : Mem) (x1 : Int) (r : Int) (hf : fX7_sizeOf_0 σ x1 = some r) (hR : Rg σ) (rx1 : rng x1) : Met l yX7_sizeOf wsX7_sizeOf ({ frames := 0, cells := 0, slots := 0, locals := 0 }) (va_Pc [.ref (a 0), .int (iN x1)] (preM dC dI cI a σ)) (qP r) 0 0 (fun _ => False) := by
  refine Met.ofW (cc := cX7_sizeOf) (maxL := 2) (ret := (some .int)) (by decide) rfl ?_
  intro p e s m args below meth c s₁ B hml hv
  obtain ⟨hargs, hP, hK⟩ := hv
  have hx := B.exec
  have hb := B.bytes
  have hr := B.returns
  have hts := atoms_spec (ws := wsX7_sizeOf) B.pre
  have hown : s.vm.findClass RX7 = some m.cls := findClass_of_methodNamed B.named
  have hlocks := B.notSynchronized
  have iX7 : ∀ w ∈ wsX70, w ∈ wsX7_sizeOf := by decide +kernel
  have fl13 := hts (.fieldLink RX7 13 "MatchHallModel" "hospitals" "I") (by decide +kernel)
  have fl7 := hts (.fieldLink RX7 7 "MatchHallModel" "residents" "I") (by decide +kernel)
  have hrm : 0 ≤ (headSpec wsX7_sizeOf ({ frames := 0, cells := 0, slots := 0, locals := 0 })).room.frames ∧ 0 ≤ (headSpec wsX7_sizeOf ({ frames := 0, cells := 0, slots := 0, locals := 0 })).room.locals := ⟨Nat.le_refl _, Nat.le_refl _⟩
  generalize (headSpec wsX7_sizeOf ({ frames := 0, cells := 0, slots := 0, locals := 0 })).room = RR at hrm ⊢
  have hl := lv_entry ([.ref (a 0), .int (iN x1)]) (n := 2) (Nat.le_of_ble_eq_true rfl)
  rw [show entryFrame m args 2 = entryFrame m ([.ref (a 0), .int (iN x1)] : List Value).toArray 2 from by rw [hargs], lg_entry_eq]
  generalize (lg_sl ([.ref (a 0), .int (iN x1)]) ++ List.replicate (2 - (lg_sl ([.ref (a 0), .int (iN x1)])).length) Slot.unset).toArray = ls at hl ⊢
  have hl : lv_has ls 2 [(0, .ref (a 0)), (1, .int (iN x1))] := hl
  generalize hQQ : MQ below (qP r) args s 0 0 (fun _ => False) = QQ
  refine lv_iload_n hx hb dX7_sizeOf_0 rfl (lv_at hl 1 rfl) ?_
  refine x_if_ne (tgt := 11) hx hb rx1 dX7_sizeOf_1 (by decide) (fun c1 => ?_) (fun c1 => ?_)
  · replace hf := (if_neg c1).symm.trans hf
    refine lv_aload_n hx hb dX7_sizeOf_11 rfl (lv_at hl 0 rfl) ?_
    refine x_get (C := RX7) (T := TX7) (NF := 17) (v := .int (iN (σ 0 2))) hx hb hts iX7 hown hK hP 0 (by decide) (mE_0 cI a (_)) rfl 2 (by decide) fl13 rfl dX7_sizeOf_12 ?_
    rw [← hQQ]
    exact x_iret hx hb hr (Option.some.inj hf) (hR 0 2) hlocks dX7_sizeOf_15
  · replace hf := (if_pos c1).symm.trans hf
    refine lv_aload_n hx hb dX7_sizeOf_4 rfl (lv_at hl 0 rfl) ?_
    refine x_get (C := RX7) (T := TX7) (NF := 17) (v := .int (iN (σ 0 1))) hx hb hts iX7 hown hK hP 0 (by decide) (mE_0 cI a (_)) rfl 1 (by decide) fl7 rfl dX7_sizeOf_5 ?_
    refine lv_goto (tgt := 15) hx hb dX7_sizeOf_8 (by decide) ?_
    rw [← hQQ]
    exact x_iret hx hb hr (Option.some.inj hf) (hR 0 1) hlocks dX7_sizeOf_15
