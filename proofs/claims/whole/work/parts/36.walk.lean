def fX3_isRival_23 (σ : Mem) (x1 : Int) (x2 : Int) : Option Int := if (0 : Int) ≤ x2 ∧ (x2 : Int) < 6 then if (σ 24 x2) = (-1) then some 0 else (fX1_isPair_1 σ x1 (σ 24 x2)).bind fun v2 => if v2 = 0 then some 0 else (fX3_wouldGo_23 σ x1 (σ 24 x2)).bind fun v3 => if v3 = 0 then some 0 else (fX1_placeOfResident_1 σ (σ 24 x2) x1).bind fun v4 => (fX1_placeOfResident_1 σ (σ 24 x2) x2).bind fun v5 => if v4 < v5 then some 1 else some 0 else none
set_option maxHeartbeats 4000000 in
set_option maxRecDepth 100000 in
theorem kX3_isRival_23 (l : Launch) (dC : Nat → ClassId) (dI : Nat → Nat → Nat) (cI : ClassId) (cA : ClassId) (a : Nat → Nat) (σ : Mem) (x1 : Int) (x2 : Int) (r : Int) (hf : fX3_isRival_23 σ x1 x2 = some r) (hR : Rg σ) (rx1 : rng x1) (rx2 : rng x2) : Met l yX3_isRival wsX3_isRival ({ frames := 1, cells := 0, slots := 0, locals := 24 }) (va_Pc [.ref (a 23), .int (iN x1), .int (iN x2)] (preC dC dI cI cA a σ)) (qP r) 0 0 (fun _ => False) := by
  refine Met.ofW (cc := cX3_isRival) (maxL := 4) (ret := (some .boolean)) (by decide) rfl ?_
  intro p e s m args below meth c s₁ B hml hv
  obtain ⟨hargs, hP, hK, hN⟩ := hv
  have hx := B.exec
  have hb := B.bytes
  have hr := B.returns
  have hts := atoms_spec (ws := wsX3_isRival) B.pre
  have hown : s.vm.findClass RX3 = some m.cls := findClass_of_methodNamed B.named
  have hlocks := B.notSynchronized
  have iX3 : ∀ w ∈ wsX30, w ∈ wsX3_isRival := by decide +kernel
  have fl15 := hts (.fieldLink RX3 15 "MatchHall$Matching" "hall" "LMatchHall$Hall;") (by decide +kernel)
  have fl9 := hts (.fieldLink RX3 9 "MatchHall$Matching" "hospitalOf" "[I") (by decide +kernel)
  have hrm : 1 ≤ (headSpec wsX3_isRival ({ frames := 1, cells := 0, slots := 0, locals := 24 })).room.frames ∧ 24 ≤ (headSpec wsX3_isRival ({ frames := 1, cells := 0, slots := 0, locals := 24 })).room.locals := ⟨Nat.le_refl _, Nat.le_refl _⟩
  generalize (headSpec wsX3_isRival ({ frames := 1, cells := 0, slots := 0, locals := 24 })).room = RR at hrm ⊢
  have hl := lv_entry ([.ref (a 23), .int (iN x1), .int (iN x2)]) (n := 4) (Nat.le_of_ble_eq_true rfl)
  rw [show entryFrame m args 4 = entryFrame m ([.ref (a 23), .int (iN x1), .int (iN x2)] : List Value).toArray 4 from by rw [hargs], lg_entry_eq]
  generalize (lg_sl ([.ref (a 23), .int (iN x1), .int (iN x2)]) ++ List.replicate (4 - (lg_sl ([.ref (a 23), .int (iN x1), .int (iN x2)])).length) Slot.unset).toArray = ls at hl ⊢
  have hl : lv_has ls 4 [(0, .ref (a 23)), (1, .int (iN x1)), (2, .int (iN x2))] := hl
  generalize hQQ : MQ below (qP r) args s 0 0 (fun _ => False) = QQ
  refine lv_aload_n hx hb dX3_isRival_0 rfl (lv_at hl 0 rfl) ?_
  refine x_get (C := RX3) (T := TX3) (NF := 2) (v := .ref (a 24)) hx hb hts iX3 hown hK hP 23 (by decide) (cE_23 cI cA a (_)) rfl 1 (by decide) fl9 rfl dX3_isRival_1 ?_
  refine lv_iload_n hx hb dX3_isRival_4 rfl (lv_at hl 2 rfl) ?_
  obtain ⟨g1, hf⟩ := gd hf
  refine x_iald hx hb hK hP 24 0 (by decide) (cE_24 cI cA a (_)) (by decide) rfl g1 dX3_isRival_5 ?_
  refine lv_istore_n (lv' := [(3, .int (iN (σ 24 x2))), (0, .ref (a 23)), (1, .int (iN x1)), (2, .int (iN x2))]) hx hb dX3_isRival_6 rfl hl (by decide) rfl (fun ls hl => ?_)
  refine lv_iload_n hx hb dX3_isRival_7 rfl (lv_at hl 0 rfl) ?_
  refine lv_iconst (v := iN (-1)) hx hb dX3_isRival_8 rfl ?_
  refine x_icmp_eq (tgt := 58) hx hb (hR 24 x2) (by decide) dX3_isRival_9 (by decide) (fun c9 => ?_) (fun c9 => ?_)
  · replace hf := (if_pos c9).symm.trans hf
    refine lv_iconst (v := iN 0) hx hb dX3_isRival_58 rfl ?_
    rw [← hQQ]
    exact x_zret hx hb hr (by decide) (Option.some.inj hf) (by decide) hlocks dX3_isRival_59
  · replace hf := (if_neg c9).symm.trans hf
    refine lv_aload_n hx hb dX3_isRival_12 rfl (lv_at hl 1 rfl) ?_
    refine x_get (C := RX3) (T := TX3) (NF := 2) (v := .ref (a 1)) hx hb hts iX3 hown hK hP 23 (by decide) (cE_23 cI cA a (_)) rfl 0 (by decide) fl15 rfl dX3_isRival_13 ?_
    refine lv_iload_n hx hb dX3_isRival_16 rfl (lv_at hl 2 rfl) ?_
    refine lv_iload_n hx hb dX3_isRival_17 rfl (lv_at hl 0 rfl) ?_
    obtain ⟨v2, hv2, hf⟩ := bd hf
    refine x_callP (va_runV (As := [.int (iN x1), .int (iN (σ 24 x2))]) (rest := []) ⟨hx, hb, hml, hown, hts⟩ (kX1_isPair_1 l dC dI cI cA a σ x1 (σ 24 x2) v2 hv2 hR rx1 (hR 24 x2)) (cwV 2 hts gX3_isRival_X1_isPair rfl rfl rfl hX1_isPair_d ⟨Nat.le_trans (by decide) hrm.1, Nat.le_trans (by decide) hrm.2⟩) (pvC 1 (by decide) (cE_1 cI cA a (_)) rfl hP hK hN) rfl rfl hl.1 rfl (lv_room (Nat.le_of_ble_eq_true rfl)) dX3_isRival_18 ⟨Nat.zero_le _, Nat.zero_le _⟩) (fun rv2 => ?_)
    refine x_if_eq (tgt := 58) hx hb rv2 dX3_isRival_21 (by decide) (fun c8 => ?_) (fun c8 => ?_)
    · replace hf := (if_pos c8).symm.trans hf
      refine lv_iconst (v := iN 0) hx hb dX3_isRival_58 rfl ?_
      rw [← hQQ]
      exact x_zret hx hb hr (by decide) (Option.some.inj hf) (by decide) hlocks dX3_isRival_59
    · replace hf := (if_neg c8).symm.trans hf
      refine lv_aload_n hx hb dX3_isRival_24 rfl (lv_at hl 1 rfl) ?_
      refine lv_iload_n hx hb dX3_isRival_25 rfl (lv_at hl 2 rfl) ?_
      refine lv_iload_n hx hb dX3_isRival_26 rfl (lv_at hl 0 rfl) ?_
      obtain ⟨v3, hv3, hf⟩ := bd hf
      refine x_callP (va_runV (As := [.int (iN x1), .int (iN (σ 24 x2))]) (rest := []) ⟨hx, hb, hml, hown, hts⟩ (kX3_wouldGo_23 l dC dI cI cA a σ x1 (σ 24 x2) v3 hv3 hR rx1 (hR 24 x2)) (cwV 2 hts gX3_isRival_X3_wouldGo rfl rfl rfl hX3_wouldGo_d ⟨Nat.le_trans (by decide) hrm.1, Nat.le_trans (by decide) hrm.2⟩) (pvC 23 (by decide) (cE_23 cI cA a (_)) rfl hP hK hN) rfl rfl hl.1 rfl (lv_room (Nat.le_of_ble_eq_true rfl)) dX3_isRival_27 ⟨Nat.zero_le _, Nat.zero_le _⟩) (fun rv3 => ?_)
      refine x_if_eq (tgt := 58) hx hb rv3 dX3_isRival_30 (by decide) (fun c7 => ?_) (fun c7 => ?_)
      · replace hf := (if_pos c7).symm.trans hf
        refine lv_iconst (v := iN 0) hx hb dX3_isRival_58 rfl ?_
        rw [← hQQ]
        exact x_zret hx hb hr (by decide) (Option.some.inj hf) (by decide) hlocks dX3_isRival_59
      · replace hf := (if_neg c7).symm.trans hf
        refine lv_aload_n hx hb dX3_isRival_33 rfl (lv_at hl 1 rfl) ?_
        refine x_get (C := RX3) (T := TX3) (NF := 2) (v := .ref (a 1)) hx hb hts iX3 hown hK hP 23 (by decide) (cE_23 cI cA a (_)) rfl 0 (by decide) fl15 rfl dX3_isRival_34 ?_
        refine lv_iload_n hx hb dX3_isRival_37 rfl (lv_at hl 0 rfl) ?_
        refine lv_iload_n hx hb dX3_isRival_38 rfl (lv_at hl 2 rfl) ?_
        obtain ⟨v4, hv4, hf⟩ := bd hf
        refine x_callP (va_runV (As := [.int (iN (σ 24 x2)), .int (iN x1)]) (rest := []) ⟨hx, hb, hml, hown, hts⟩ (kX1_placeOfResident_1 l dC dI cI cA a σ (σ 24 x2) x1 v4 hv4 hR (hR 24 x2) rx1) (cwV 2 hts gX3_isRival_X1_placeOfResident rfl rfl rfl hX1_placeOfResident_d ⟨Nat.le_trans (by decide) hrm.1, Nat.le_trans (by decide) hrm.2⟩) (pvC 1 (by decide) (cE_1 cI cA a (_)) rfl hP hK hN) rfl rfl hl.1 rfl (lv_room (Nat.le_of_ble_eq_true rfl)) dX3_isRival_39 ⟨Nat.zero_le _, Nat.zero_le _⟩) (fun rv4 => ?_)
        refine lv_aload_n hx hb dX3_isRival_42 rfl (lv_at hl 1 rfl) ?_
        refine x_get (C := RX3) (T := TX3) (NF := 2) (v := .ref (a 1)) hx hb hts iX3 hown hK hP 23 (by decide) (cE_23 cI cA a (_)) rfl 0 (by decide) fl15 rfl dX3_isRival_43 ?_
        refine lv_iload_n hx hb dX3_isRival_46 rfl (lv_at hl 0 rfl) ?_
        refine lv_iload_n hx hb dX3_isRival_47 rfl (lv_at hl 3 rfl) ?_
        obtain ⟨v5, hv5, hf⟩ := bd hf
        refine x_callP (va_runV (As := [.int (iN (σ 24 x2)), .int (iN x2)]) (rest := [.int (iN v4)]) ⟨hx, hb, hml, hown, hts⟩ (kX1_placeOfResident_1 l dC dI cI cA a σ (σ 24 x2) x2 v5 hv5 hR (hR 24 x2) rx2) (cwV 2 hts gX3_isRival_X1_placeOfResident rfl rfl rfl hX1_placeOfResident_d ⟨Nat.le_trans (by decide) hrm.1, Nat.le_trans (by decide) hrm.2⟩) (pvC 1 (by decide) (cE_1 cI cA a (_)) rfl hP hK hN) rfl rfl hl.1 rfl (lv_room (Nat.le_of_ble_eq_true rfl)) dX3_isRival_48 ⟨Nat.zero_le _, Nat.zero_le _⟩) (fun rv5 => ?_)
        refine x_icmp_ge (tgt := 58) hx hb rv4 rv5 dX3_isRival_51 (by decide) (fun c6 => ?_) (fun c6 => ?_)
        · replace hf := (if_neg c6).symm.trans hf
          refine lv_iconst (v := iN 0) hx hb dX3_isRival_58 rfl ?_
          rw [← hQQ]
          exact x_zret hx hb hr (by decide) (Option.some.inj hf) (by decide) hlocks dX3_isRival_59
        · replace hf := (if_pos c6).symm.trans hf
          refine lv_iconst (v := iN 1) hx hb dX3_isRival_54 rfl ?_
          refine lv_goto (tgt := 59) hx hb dX3_isRival_55 (by decide) ?_
          rw [← hQQ]
          exact x_zret hx hb hr (by decide) (Option.some.inj hf) (by decide) hlocks dX3_isRival_59
def fX0_hasRivals_33_L2 (σ : Mem) (x1 : Int) (ex0 : Int → Option Int) : Nat → Int → Option Int
  | 0, _ => none
  | n0 + 1, v1 => if v1 < x1 then (fX3_isRival_23 σ x1 v1).bind fun v2 => if v2 = 0 then (fX3_isRival_23 σ v1 x1).bind fun v3 => if v3 = 0 then if rng (v1 + 1) then fX0_hasRivals_33_L2 σ x1 ex0 n0 (v1 + 1) else none else some 1 else some 1 else ex0 v1
def fX0_hasRivals_33 (σ : Mem) (x1 : Int) : Option Int := fX0_hasRivals_33_L2 σ x1 (fun v8 => some 0) FU 0
set_option maxHeartbeats 4000000 in
set_option maxRecDepth 100000 in
theorem kX0_hasRivals_33 (l : Launch) (dC : Nat → ClassId) (dI : Nat → Nat → Nat) (cI : ClassId) (cA : ClassId) (a : Nat → Nat) (σ : Mem) (x1 : Int) (r : Int) (hf : fX0_hasRivals_33 σ x1 = some r) (hR : Rg σ) (rx1 : rng x1) : Met l yX0_hasRivals wsX0_hasRivals ({ frames := 2, cells := 0, slots := 0, locals := 47 }) (va_Pc [.ref (a 33), .int (iN x1)] (preC dC dI cI cA a σ)) (qP r) 0 0 (fun _ => False) := by
  refine Met.ofW (cc := cX0_hasRivals) (maxL := 3) (ret := (some .boolean)) (by decide) rfl ?_
  intro p e s m args below meth c s₁ B hml hv
  obtain ⟨hargs, hP, hK, hN⟩ := hv
  have hx := B.exec
  have hb := B.bytes
  have hr := B.returns
  have hts := atoms_spec (ws := wsX0_hasRivals) B.pre
  have hown : s.vm.findClass RX0 = some m.cls := findClass_of_methodNamed B.named
  have hlocks := B.notSynchronized
  have iX0 : ∀ w ∈ wsX00, w ∈ wsX0_hasRivals := by decide +kernel
  have fl29 := hts (.fieldLink RX0 29 "MatchHall$Finder" "trial" "LMatchHall$Matching;") (by decide +kernel)
  have hrm : 2 ≤ (headSpec wsX0_hasRivals ({ frames := 2, cells := 0, slots := 0, locals := 47 })).room.frames ∧ 47 ≤ (headSpec wsX0_hasRivals ({ frames := 2, cells := 0, slots := 0, locals := 47 })).room.locals := ⟨Nat.le_refl _, Nat.le_refl _⟩
  generalize (headSpec wsX0_hasRivals ({ frames := 2, cells := 0, slots := 0, locals := 47 })).room = RR at hrm ⊢
  have hl := lv_entry ([.ref (a 33), .int (iN x1)]) (n := 3) (Nat.le_of_ble_eq_true rfl)
  rw [show entryFrame m args 3 = entryFrame m ([.ref (a 33), .int (iN x1)] : List Value).toArray 3 from by rw [hargs], lg_entry_eq]
  generalize (lg_sl ([.ref (a 33), .int (iN x1)]) ++ List.replicate (3 - (lg_sl ([.ref (a 33), .int (iN x1)])).length) Slot.unset).toArray = ls at hl ⊢
  have hl : lv_has ls 3 [(0, .ref (a 33)), (1, .int (iN x1))] := hl
  generalize hQQ : MQ below (qP r) args s 0 0 (fun _ => False) = QQ
  refine lv_iconst (v := iN 0) hx hb dX0_hasRivals_0 rfl ?_
  refine lv_istore_n (lv' := [(2, .int (iN 0)), (0, .ref (a 33)), (1, .int (iN x1))]) hx hb dX0_hasRivals_1 rfl hl (by decide) rfl (fun ls hl => ?_)
  have L_fX0_hasRivals_33_L2 : ∀ (EX0 : Int → Option Int), (∀ (v1 : Int), rng v1 → EX0 v1 = some r → ∀ ls, lv_has ls 3 [(0, .ref (a 33)), (1, .int (iN x1)), (2, .int (iN v1))] → W p l e RR s m args below meth c s.heap [] 0 0 QQ (F0 m 39 ls [])) → ∀ n0 : Nat, ∀ (v1 : Int), rng v1 → fX0_hasRivals_33_L2 σ x1 EX0 n0 v1 = some r → ∀ ls, lv_has ls 3 [(0, .ref (a 33)), (1, .int (iN x1)), (2, .int (iN v1))] → W p l e RR s m args below meth c s.heap [] 0 0 QQ (F0 m 2 ls []) := by
    intro EX0 hEX0 n0
    induction n0 with
    | zero => intro _ _ hf; cases hf
    | succ n0 ih0 =>
      intro v1 rv1 hf ls hl
      rw [fX0_hasRivals_33_L2] at hf
      refine lv_iload_n hx hb dX0_hasRivals_2 rfl (lv_at hl 2 rfl) ?_
      refine lv_iload_n hx hb dX0_hasRivals_3 rfl (lv_at hl 1 rfl) ?_
      refine x_icmp_ge (tgt := 39) hx hb rv1 rx1 dX0_hasRivals_4 (by decide) (fun c7 => ?_) (fun c7 => ?_)
      · replace hf := (if_neg c7).symm.trans hf
        exact hEX0 _ rv1 hf _ (lv_sub hl [0, 1, 2] rfl)
      · replace hf := (if_pos c7).symm.trans hf
        refine lv_aload_n hx hb dX0_hasRivals_7 rfl (lv_at hl 0 rfl) ?_
        refine x_get (C := RX0) (T := TX0) (NF := 6) (v := .ref (a 23)) hx hb hts iX0 hown hK hP 33 (by decide) (cE_33 cI cA a (_)) rfl 2 (by decide) fl29 rfl dX0_hasRivals_8 ?_
        refine lv_iload_n hx hb dX0_hasRivals_11 rfl (lv_at hl 1 rfl) ?_
        refine lv_iload_n hx hb dX0_hasRivals_12 rfl (lv_at hl 2 rfl) ?_
        obtain ⟨v2, hv2, hf⟩ := bd hf
        refine x_callP (va_runV (As := [.int (iN x1), .int (iN v1)]) (rest := []) ⟨hx, hb, hml, hown, hts⟩ (kX3_isRival_23 l dC dI cI cA a σ x1 v1 v2 hv2 hR rx1 rv1) (cwV 2 hts gX0_hasRivals_X3_isRival rfl rfl rfl hX3_isRival_d ⟨Nat.le_trans (by decide) hrm.1, Nat.le_trans (by decide) hrm.2⟩) (pvC 23 (by decide) (cE_23 cI cA a (_)) rfl hP hK hN) rfl rfl hl.1 rfl (lv_room (Nat.le_of_ble_eq_true rfl)) dX0_hasRivals_13 ⟨Nat.zero_le _, Nat.zero_le _⟩) (fun rv2 => ?_)
        refine x_if_ne (tgt := 31) hx hb rv2 dX0_hasRivals_16 (by decide) (fun c6 => ?_) (fun c6 => ?_)
        · replace hf := (if_neg c6).symm.trans hf
          refine lv_iconst (v := iN 1) hx hb dX0_hasRivals_31 rfl ?_
          rw [← hQQ]
          exact x_zret hx hb hr (by decide) (Option.some.inj hf) (by decide) hlocks dX0_hasRivals_32
        · replace hf := (if_pos c6).symm.trans hf
          refine lv_aload_n hx hb dX0_hasRivals_19 rfl (lv_at hl 0 rfl) ?_
          refine x_get (C := RX0) (T := TX0) (NF := 6) (v := .ref (a 23)) hx hb hts iX0 hown hK hP 33 (by decide) (cE_33 cI cA a (_)) rfl 2 (by decide) fl29 rfl dX0_hasRivals_20 ?_
          refine lv_iload_n hx hb dX0_hasRivals_23 rfl (lv_at hl 2 rfl) ?_
          refine lv_iload_n hx hb dX0_hasRivals_24 rfl (lv_at hl 1 rfl) ?_
          obtain ⟨v3, hv3, hf⟩ := bd hf
          refine x_callP (va_runV (As := [.int (iN v1), .int (iN x1)]) (rest := []) ⟨hx, hb, hml, hown, hts⟩ (kX3_isRival_23 l dC dI cI cA a σ v1 x1 v3 hv3 hR rv1 rx1) (cwV 2 hts gX0_hasRivals_X3_isRival rfl rfl rfl hX3_isRival_d ⟨Nat.le_trans (by decide) hrm.1, Nat.le_trans (by decide) hrm.2⟩) (pvC 23 (by decide) (cE_23 cI cA a (_)) rfl hP hK hN) rfl rfl hl.1 rfl (lv_room (Nat.le_of_ble_eq_true rfl)) dX0_hasRivals_25 ⟨Nat.zero_le _, Nat.zero_le _⟩) (fun rv3 => ?_)
          refine x_if_eq (tgt := 33) hx hb rv3 dX0_hasRivals_28 (by decide) (fun c5 => ?_) (fun c5 => ?_)
          · replace hf := (if_pos c5).symm.trans hf
            obtain ⟨g4, hf⟩ := gd hf
            refine lv_iinc (v := iN (v1 + 1)) (lv' := [(2, .int (iN (v1 + 1))), (0, .ref (a 33)), (1, .int (iN x1))]) hx hb dX0_hasRivals_33 hl (k := 2) rfl (iN_add v1 1) (by decide) rfl (fun ls hl => ?_)
            refine lv_goto (tgt := 2) hx hb dX0_hasRivals_36 (by decide) ?_
            exact ih0 _ g4 hf _ (lv_sub hl [1, 2, 0] rfl)
          · replace hf := (if_neg c5).symm.trans hf
            refine lv_iconst (v := iN 1) hx hb dX0_hasRivals_31 rfl ?_
            rw [← hQQ]
            exact x_zret hx hb hr (by decide) (Option.some.inj hf) (by decide) hlocks dX0_hasRivals_32
  refine L_fX0_hasRivals_33_L2 _ (fun v8 rv8 hf ls hl => ?_) _ _ (by decide) hf _ (lv_sub hl [1, 2, 0] rfl)
  refine lv_iconst (v := iN 0) hx hb dX0_hasRivals_39 rfl ?_
  rw [← hQQ]
  exact x_zret hx hb hr (by decide) (Option.some.inj hf) (by decide) hlocks dX0_hasRivals_40
def fX5_add_25_23_L34 (ex0 : Mem → Int → Option (Int × Mem)) : Nat → Mem → Int → Option (Int × Mem)
  | 0, _, _ => none
  | n0 + 1, σ5, v4 => if v4 < (σ5 1 3) then if rng ((σ5 25 3) * 6) then if rng (((σ5 25 3) * 6) + v4) then if (0 : Int) ≤ v4 ∧ (v4 : Int) < 6 then (fX1_placeOfHospital_1 σ5 v4 (σ5 24 v4)).bind fun v9 => if (0 : Int) ≤ (((σ5 25 3) * 6) + v4) ∧ ((((σ5 25 3) * 6) + v4) : Int) < 1296 then nx (mup σ5 27 (((σ5 25 3) * 6) + v4) v9) fun σ11 => if rng (v4 + 1) then fX5_add_25_23_L34  ex0 n0 σ11 (v4 + 1) else none else none else none else none else none else ex0 σ5 v4
def fX5_add_25_23 (σ : Mem) : Option (Int × Mem) := if (σ 25 3) = 216 then some (0, σ) else if rng ((σ 25 3) * 6) then if (0 : Int) ≤ 0 ∧ (0 : Int) ≤ ((σ 25 3) * 6) ∧ (0 : Int) ≤ 6 ∧ (0 : Int) + 6 ≤ 6 ∧ (((σ 25 3) * 6) : Int) + 6 ≤ 1296 then nx (mcpy σ 24 26 0 ((σ 25 3) * 6) 6) fun σ3 => fX5_add_25_23_L34  (fun σ15 v14 => if rng ((σ15 25 3) + 1) then nx (mup σ15 25 3 ((σ15 25 3) + 1)) fun σ17 => some (0, σ17) else none) FU σ3 0 else none else none
set_option maxHeartbeats 4000000 in
set_option maxRecDepth 100000 in
theorem kX5_add_25_23 (l : Launch) (dC : Nat → ClassId) (dI : Nat → Nat → Nat) (cI : ClassId) (cA : ClassId) (a : Nat → Nat) (hi : ∀ i j, i < 37 → j < 37 → a i = a j → i = j) (σ : Mem) (r : (Int × Mem)) (hf : fX5_add_25_23 σ  = some r) (hR : Rg σ) : Met l yX5_add wsX5_add ({ frames := 1, cells := 0, slots := 0, locals := 64 }) (va_Pc [.ref (a 25), .ref (a 23)] (preC dC dI cI cA a σ)) (qMv (dC, dI) (gw 37 a (cE cI cA a)) (gA 37 a) r) 0 0 (gA 37 a) := by
  refine Met.ofW (cc := cX5_add) (maxL := 3) (ret := none) (by decide) rfl ?_
  intro p e s m args below meth c s₁ B hml hv
  obtain ⟨hargs, hP, hK, hN⟩ := hv
  have hx := B.exec
  have hb := B.bytes
  have hr := B.returns
  have hts := atoms_spec (ws := wsX5_add) B.pre
  have hown : s.vm.findClass RX5 = some m.cls := findClass_of_methodNamed B.named
  have hlocks := B.notSynchronized
  have hS : va_S (gA 37 a) s.heap s.heap [] := va_S.rf
  have iX1 : ∀ w ∈ wsX10, w ∈ wsX5_add := by decide +kernel
  have iX3 : ∀ w ∈ wsX30, w ∈ wsX5_add := by decide +kernel
  have iX5 : ∀ w ∈ wsX50, w ∈ wsX5_add := by decide +kernel
  have fl15 := hts (.fieldLink RX5 15 "MatchHall$Stables" "places" "[I") (by decide +kernel)
  have fl18 := hts (.fieldLink RX5 18 "MatchHall$Stables" "hall" "LMatchHall$Hall;") (by decide +kernel)
  have fl22 := hts (.fieldLink RX5 22 "MatchHall$Stables" "size" "I") (by decide +kernel)
  have fl9 := hts (.fieldLink RX5 9 "MatchHall$Stables" "hospitals" "[I") (by decide +kernel)
  have fn26 := va_Nw.use (A := args) rfl (hN (.fieldLinkNest RX5 26 "MatchHall$Matching" "hospitalOf" "[I" "MatchHall") (by decide +kernel))
  have fn37 := va_Nw.use (A := args) rfl (hN (.fieldLinkNest RX5 37 "MatchHall$Hall" "residents" "I" "MatchHall") (by decide +kernel))
  have hrm : 1 ≤ (headSpec wsX5_add ({ frames := 1, cells := 0, slots := 0, locals := 64 })).room.frames ∧ 64 ≤ (headSpec wsX5_add ({ frames := 1, cells := 0, slots := 0, locals := 64 })).room.locals := ⟨Nat.le_refl _, Nat.le_refl _⟩
  generalize (headSpec wsX5_add ({ frames := 1, cells := 0, slots := 0, locals := 64 })).room = RR at hrm ⊢
  have hl := lv_entry ([.ref (a 25), .ref (a 23)]) (n := 3) (Nat.le_of_ble_eq_true rfl)
  rw [show entryFrame m args 3 = entryFrame m ([.ref (a 25), .ref (a 23)] : List Value).toArray 3 from by rw [hargs], lg_entry_eq]
  generalize (lg_sl ([.ref (a 25), .ref (a 23)]) ++ List.replicate (3 - (lg_sl ([.ref (a 25), .ref (a 23)])).length) Slot.unset).toArray = ls at hl ⊢
  have hl : lv_has ls 3 [(0, .ref (a 25)), (1, .ref (a 23))] := hl
  generalize hQQ : MQ below (qMv (dC, dI) (gw 37 a (cE cI cA a)) (gA 37 a) r) args s 0 0 (gA 37 a) = QQ
  refine lv_aload_n hx hb dX5_add_0 rfl (lv_at hl 0 rfl) ?_
  refine x_get (C := RX5) (T := TX5) (NF := 4) (v := .int (iN (σ 25 3))) hx hb hts iX5 hown hK hP 25 (by decide) (cE_25 cI cA a (_)) rfl 3 (by decide) fl22 rfl dX5_add_1 ?_
  refine lv_sipush (v := iN 216) hx hb dX5_add_4 (by decide) ?_
  refine x_icmp_ne (tgt := 11) hx hb (hR 25 3) (by decide) dX5_add_7 (by decide) (fun c18 => ?_) (fun c18 => ?_)
  · replace hf := (if_neg c18).symm.trans hf
    refine lv_aload_n hx hb dX5_add_11 rfl (lv_at hl 1 rfl) ?_
    refine x_getN (C := RX3) (T := TX3) (NF := 2) (v := .ref (a 24)) hx hb hts iX3 hown hK hP 23 (by decide) (cE_23 cI cA a (_)) rfl 1 (by decide) fn26 rfl dX5_add_12 ?_
    refine lv_iconst (v := iN 0) hx hb dX5_add_15 rfl ?_
    refine lv_aload_n hx hb dX5_add_16 rfl (lv_at hl 0 rfl) ?_
    refine x_get (C := RX5) (T := TX5) (NF := 4) (v := .ref (a 26)) hx hb hts iX5 hown hK hP 25 (by decide) (cE_25 cI cA a (_)) rfl 1 (by decide) fl9 rfl dX5_add_17 ?_
    refine lv_aload_n hx hb dX5_add_20 rfl (lv_at hl 0 rfl) ?_
    refine x_get (C := RX5) (T := TX5) (NF := 4) (v := .int (iN (σ 25 3))) hx hb hts iX5 hown hK hP 25 (by decide) (cE_25 cI cA a (_)) rfl 3 (by decide) fl22 rfl dX5_add_21 ?_
    refine lv_bipush (v := iN 6) hx hb dX5_add_24 (by decide) ?_
    obtain ⟨g1, hf⟩ := gd hf
    refine x_imul hx hb dX5_add_26 ?_
    refine lv_bipush (v := iN 6) hx hb dX5_add_27 (by decide) ?_
    obtain ⟨g2, hf⟩ := gd hf
    obtain ⟨σ3, hσ3, hf⟩ := nxe hf
    refine x_copy hx hb (hml.trans hl.1.symm) hown (hts (.methodLink RX5 31 arraycopyName) (by decide +kernel)) (hts (.native arraycopyName) (by decide +kernel)) (hts (.static arraycopyName) (by decide +kernel)) (hts (.initialized "java/lang/System") (by decide +kernel)) hi hK hP hS 24 26 0 (by decide) (by decide) (cE_24 cI cA a (_)) (cE_26 cI cA a) (by decide) (by decide) rfl g2 (Nat.le_trans (by decide) hrm.1) (Nat.le_trans (Nat.le_of_ble_eq_true rfl) hrm.2) dX5_add_29 (fun H locs hP hS => ?_)
    rw [← hσ3] at hP
    have hRσ3 : Rg σ3 := by rw [hσ3]; exact Rg_cpy hR
    refine lv_iconst (v := iN 0) hx hb dX5_add_32 rfl ?_
    refine lv_istore_n (lv' := [(2, .int (iN 0)), (0, .ref (a 25)), (1, .ref (a 23))]) hx hb dX5_add_33 rfl hl (by decide) rfl (fun ls hl => ?_)
    have L_fX5_add_25_23_L34 : ∀ (EX0 : Mem → Int → Option (Int × Mem)), (∀ (σ5 : Mem) (v4 : Int), Rg σ5 → rng v4 → EX0 σ5 v4 = some r → ∀ H locs ls, va_P (dC, dI) vwCl (gw 37 a (cE cI cA a) σ5) H → va_S (gA 37 a) s.heap H locs → lv_has ls 3 [(0, .ref (a 25)), (1, .ref (a 23)), (2, .int (iN v4))] → W p l e RR s m args below meth c H locs 0 0 QQ (F0 m 79 ls [])) → ∀ n0 : Nat, ∀ (σ5 : Mem) (v4 : Int), Rg σ5 → rng v4 → fX5_add_25_23_L34  EX0 n0 σ5 v4 = some r → ∀ H locs ls, va_P (dC, dI) vwCl (gw 37 a (cE cI cA a) σ5) H → va_S (gA 37 a) s.heap H locs → lv_has ls 3 [(0, .ref (a 25)), (1, .ref (a 23)), (2, .int (iN v4))] → W p l e RR s m args below meth c H locs 0 0 QQ (F0 m 34 ls []) := by
      intro EX0 hEX0 n0
      induction n0 with
      | zero => intro _ _ _ _ hf; cases hf
      | succ n0 ih0 =>
        intro σ5 v4 hRσ5 rv4 hf H locs ls hP hS hl
        rw [fX5_add_25_23_L34] at hf
        refine lv_iload_n hx hb dX5_add_34 rfl (lv_at hl 2 rfl) ?_
        refine lv_aload_n hx hb dX5_add_35 rfl (lv_at hl 0 rfl) ?_
        refine x_get (C := RX5) (T := TX5) (NF := 4) (v := .ref (a 1)) hx hb hts iX5 hown hK hP 25 (by decide) (cE_25 cI cA a (_)) rfl 0 (by decide) fl18 rfl dX5_add_36 ?_
        refine x_getN (C := RX1) (T := TX1) (NF := 5) (v := .int (iN (σ5 1 3))) hx hb hts iX1 hown hK hP 1 (by decide) (cE_1 cI cA a (_)) rfl 3 (by decide) fn37 rfl dX5_add_39 ?_
        refine x_icmp_ge (tgt := 79) hx hb rv4 (hRσ5 1 3) dX5_add_42 (by decide) (fun c13 => ?_) (fun c13 => ?_)
        · replace hf := (if_neg c13).symm.trans hf
          exact hEX0 _ _ hRσ5 rv4 hf _ _ _ hP hS (lv_sub hl [0, 1, 2] rfl)
        · replace hf := (if_pos c13).symm.trans hf
          refine lv_aload_n hx hb dX5_add_45 rfl (lv_at hl 0 rfl) ?_
          refine x_get (C := RX5) (T := TX5) (NF := 4) (v := .ref (a 27)) hx hb hts iX5 hown hK hP 25 (by decide) (cE_25 cI cA a (_)) rfl 2 (by decide) fl15 rfl dX5_add_46 ?_
          refine lv_aload_n hx hb dX5_add_49 rfl (lv_at hl 0 rfl) ?_
          refine x_get (C := RX5) (T := TX5) (NF := 4) (v := .int (iN (σ5 25 3))) hx hb hts iX5 hown hK hP 25 (by decide) (cE_25 cI cA a (_)) rfl 3 (by decide) fl22 rfl dX5_add_50 ?_
          refine lv_bipush (v := iN 6) hx hb dX5_add_53 (by decide) ?_
          obtain ⟨g6, hf⟩ := gd hf
          refine x_imul hx hb dX5_add_55 ?_
          refine lv_iload_n hx hb dX5_add_56 rfl (lv_at hl 2 rfl) ?_
          obtain ⟨g7, hf⟩ := gd hf
          refine x_iadd hx hb dX5_add_57 ?_
          refine lv_aload_n hx hb dX5_add_58 rfl (lv_at hl 0 rfl) ?_
          refine x_get (C := RX5) (T := TX5) (NF := 4) (v := .ref (a 1)) hx hb hts iX5 hown hK hP 25 (by decide) (cE_25 cI cA a (_)) rfl 0 (by decide) fl18 rfl dX5_add_59 ?_
          refine lv_iload_n hx hb dX5_add_62 rfl (lv_at hl 2 rfl) ?_
          refine lv_aload_n hx hb dX5_add_63 rfl (lv_at hl 1 rfl) ?_
          refine x_getN (C := RX3) (T := TX3) (NF := 2) (v := .ref (a 24)) hx hb hts iX3 hown hK hP 23 (by decide) (cE_23 cI cA a (_)) rfl 1 (by decide) fn26 rfl dX5_add_64 ?_
          refine lv_iload_n hx hb dX5_add_67 rfl (lv_at hl 2 rfl) ?_
          obtain ⟨g8, hf⟩ := gd hf
          refine x_iald hx hb hK hP 24 0 (by decide) (cE_24 cI cA a (_)) (by decide) rfl g8 dX5_add_68 ?_
          obtain ⟨v9, hv9, hf⟩ := bd hf
          refine x_callP (va_runV (As := [.int (iN v4), .int (iN (σ5 24 v4))]) (rest := [.int (iN (((σ5 25 3) * 6) + v4)), .ref (a 27)]) ⟨hx, hb, hml, hown, hts⟩ (kX1_placeOfHospital_1 l dC dI cI cA a σ5 v4 (σ5 24 v4) v9 hv9 hRσ5 rv4 (hRσ5 24 v4)) (cwV 2 hts gX5_add_X1_placeOfHospital rfl rfl rfl hX1_placeOfHospital_d ⟨Nat.le_trans (by decide) hrm.1, Nat.le_trans (by decide) hrm.2⟩) (pvC 1 (by decide) (cE_1 cI cA a (_)) rfl hP hK hN) rfl rfl hl.1 rfl (lv_room (Nat.le_of_ble_eq_true rfl)) dX5_add_69 ⟨Nat.zero_le _, Nat.zero_le _⟩) (fun rv9 => ?_)
          obtain ⟨g10, hf⟩ := gd hf
          obtain ⟨σ11, hσ11, hf⟩ := nxe hf
          refine x_iast (x := v9) hx hb hi hK hP hS 27 0 (by decide) (cE_27 cI cA a) (by decide) rfl g10 dX5_add_72 (fun H locs hP hS => ?_)
          rw [← hσ11] at hP
          have hRσ11 : Rg σ11 := by rw [hσ11]; exact Rg_up hRσ5 rv9
          obtain ⟨g12, hf⟩ := gd hf
          refine lv_iinc (v := iN (v4 + 1)) (lv' := [(2, .int (iN (v4 + 1))), (0, .ref (a 25)), (1, .ref (a 23))]) hx hb dX5_add_73 hl (k := 2) rfl (iN_add v4 1) (by decide) rfl (fun ls hl => ?_)
          refine lv_goto (tgt := 34) hx hb dX5_add_76 (by decide) ?_
          exact ih0 _ _ hRσ11 g12 hf _ _ _ hP hS (lv_sub hl [1, 2, 0] rfl)
    refine L_fX5_add_25_23_L34 _ (fun σ15 v14 hRσ15 rv14 hf H locs ls hP hS hl => ?_) _ _ _ hRσ3 (by decide) hf _ _ _ hP hS (lv_sub hl [1, 2, 0] rfl)
    refine lv_aload_n hx hb dX5_add_79 rfl (lv_at hl 0 rfl) ?_
    refine lv_dup hx hb dX5_add_80 rfl ?_
    refine x_get (C := RX5) (T := TX5) (NF := 4) (v := .int (iN (σ15 25 3))) hx hb hts iX5 hown hK hP 25 (by decide) (cE_25 cI cA a (_)) rfl 3 (by decide) fl22 rfl dX5_add_81 ?_
    refine lv_iconst (v := iN 1) hx hb dX5_add_84 rfl ?_
    obtain ⟨g16, hf⟩ := gd hf
    refine x_iadd hx hb dX5_add_85 ?_
    obtain ⟨σ17, hσ17, hf⟩ := nxe hf
    refine x_put (C := RX5) (T := TX5) (NF := 4) (x := ((σ15 25 3) + 1)) (ty := .int) hx hb hts iX5 tyX5 tyX5_ok nmX5 hi hown hK hP hS 25 (by decide) (cE_25 cI cA a (_)) rfl 3 3 (by decide) fl22 rfl (by decide +kernel) rfl rfl (Nat.le_of_ble_eq_true rfl) rfl dX5_add_86 (fun H locs hP hS => ?_)
    rw [← hσ17] at hP
    have hRσ17 : Rg σ17 := by rw [hσ17]; exact Rg_up hRσ15 g16
    rw [← hQQ]
    exact x_vretM hx hb hr (Option.some.inj hf) hRσ17 hP hS hlocks dX5_add_89
  · replace hf := (if_pos c18).symm.trans hf
    rw [← hQQ]
    exact x_vretM hx hb hr (Option.some.inj hf) hR hP hS hlocks dX5_add_10
def fX0_trySeat_33 (sf : Mem → Int → Option (Int × Mem)) (σ : Mem) (x1 : Int) (x2 : Int) : Option (Int × Mem) := if x2 = (-1) then some (0, σ) else if (0 : Int) ≤ x2 ∧ (x2 : Int) < 6 then if (σ 36 x2) = 0 then some (0, σ) else (fX1_isPair_1 σ x1 x2).bind fun v2 => if v2 = 0 then some (0, σ) else if (0 : Int) ≤ x1 ∧ (x1 : Int) < 6 then nx (mup σ 24 x1 x2) fun σ4 => if (0 : Int) ≤ x2 ∧ (x2 : Int) < 6 then if rng ((σ4 36 x2) - 1) then if (0 : Int) ≤ x2 ∧ (x2 : Int) < 6 then nx (mup σ4 36 x2 ((σ4 36 x2) - 1)) fun σ8 => (fX0_hasRivals_33 σ8 x1).bind fun v9 => if v9 = 0 then if rng (x1 + 1) then bnd2 (sf σ8 (x1 + 1)) fun v15 σ16 => if (0 : Int) ≤ x2 ∧ (x2 : Int) < 6 then if rng ((σ16 36 x2) + 1) then if (0 : Int) ≤ x2 ∧ (x2 : Int) < 6 then nx (mup σ16 36 x2 ((σ16 36 x2) + 1)) fun σ20 => some (0, σ20) else none else none else none else none else if (0 : Int) ≤ x2 ∧ (x2 : Int) < 6 then if rng ((σ8 36 x2) + 1) then if (0 : Int) ≤ x2 ∧ (x2 : Int) < 6 then nx (mup σ8 36 x2 ((σ8 36 x2) + 1)) fun σ13 => some (0, σ13) else none else none else none else none else none else none else none else none
set_option maxHeartbeats 4000000 in
set_option maxRecDepth 100000 in
theorem kX0_trySeat_33 (l : Launch) (dC : Nat → ClassId) (dI : Nat → Nat → Nat) (cI : ClassId) (cA : ClassId) (a : Nat → Nat) (hi : ∀ i j, i < 37 → j < 37 → a i = a j → i = j) (sf : Mem → Int → Option (Int × Mem)) (FR LO : Nat) (hsf : ∀ (σ : Mem) (x : Int) (r : Int × Mem), sf σ x = some r → Rg σ → rng x → Met l yX0_seatFrom wsX0_seatFrom ({ frames := FR, cells := 0, slots := 0, locals := LO }) (va_Pc [.ref (a 33), .int (iN x)] (preC dC dI cI cA a σ)) (qMv (dC, dI) (gw 37 a (cE cI cA a)) (gA 37 a) r) 0 0 (gA 37 a)) (σ : Mem) (x1 : Int) (x2 : Int) (r : (Int × Mem)) (hf : fX0_trySeat_33 sf σ x1 x2 = some r) (hR : Rg σ) (rx1 : rng x1) (rx2 : rng x2) : Met l yX0_trySeat wsX0_trySeat ({ frames := FR + 3, cells := 0, slots := 0, locals := LO + 100 }) (va_Pc [.ref (a 33), .int (iN x1), .int (iN x2)] (preC dC dI cI cA a σ)) (qMv (dC, dI) (gw 37 a (cE cI cA a)) (gA 37 a) r) 0 0 (gA 37 a) := by
  refine Met.ofW (cc := cX0_trySeat) (maxL := 3) (ret := none) (by decide) rfl ?_
  intro p e s m args below meth c s₁ B hml hv
  obtain ⟨hargs, hP, hK, hN⟩ := hv
  have hx := B.exec
  have hb := B.bytes
  have hr := B.returns
  have hts := atoms_spec (ws := wsX0_trySeat) B.pre
  have hown : s.vm.findClass RX0 = some m.cls := findClass_of_methodNamed B.named
  have hlocks := B.notSynchronized
  have hS : va_S (gA 37 a) s.heap s.heap [] := va_S.rf
  have iX0 : ∀ w ∈ wsX00, w ∈ wsX0_trySeat := by decide +kernel
  have iX3 : ∀ w ∈ wsX30, w ∈ wsX0_trySeat := by decide +kernel
  have fl18 := hts (.fieldLink RX0 18 "MatchHall$Finder" "toFill" "[I") (by decide +kernel)
  have fl21 := hts (.fieldLink RX0 21 "MatchHall$Finder" "hall" "LMatchHall$Hall;") (by decide +kernel)
  have fl29 := hts (.fieldLink RX0 29 "MatchHall$Finder" "trial" "LMatchHall$Matching;") (by decide +kernel)
  have fn67 := va_Nw.use (A := args) rfl (hN (.fieldLinkNest RX0 67 "MatchHall$Matching" "hospitalOf" "[I" "MatchHall") (by decide +kernel))
  have hrm : FR + 3 ≤ (headSpec wsX0_trySeat ({ frames := FR + 3, cells := 0, slots := 0, locals := LO + 100 })).room.frames ∧ LO + 100 ≤ (headSpec wsX0_trySeat ({ frames := FR + 3, cells := 0, slots := 0, locals := LO + 100 })).room.locals := ⟨Nat.le_refl _, Nat.le_refl _⟩
  generalize (headSpec wsX0_trySeat ({ frames := FR + 3, cells := 0, slots := 0, locals := LO + 100 })).room = RR at hrm ⊢
  have hl := lv_entry ([.ref (a 33), .int (iN x1), .int (iN x2)]) (n := 3) (Nat.le_of_ble_eq_true rfl)
  rw [show entryFrame m args 3 = entryFrame m ([.ref (a 33), .int (iN x1), .int (iN x2)] : List Value).toArray 3 from by rw [hargs], lg_entry_eq]
  generalize (lg_sl ([.ref (a 33), .int (iN x1), .int (iN x2)]) ++ List.replicate (3 - (lg_sl ([.ref (a 33), .int (iN x1), .int (iN x2)])).length) Slot.unset).toArray = ls at hl ⊢
  have hl : lv_has ls 3 [(0, .ref (a 33)), (1, .int (iN x1)), (2, .int (iN x2))] := hl
  generalize hQQ : MQ below (qMv (dC, dI) (gw 37 a (cE cI cA a)) (gA 37 a) r) args s 0 0 (gA 37 a) = QQ
  refine lv_iload_n hx hb dX0_trySeat_0 rfl (lv_at hl 2 rfl) ?_
  refine lv_iconst (v := iN (-1)) hx hb dX0_trySeat_1 rfl ?_
  refine x_icmp_eq (tgt := 26) hx hb rx2 (by decide) dX0_trySeat_2 (by decide) (fun c24 => ?_) (fun c24 => ?_)
  · replace hf := (if_pos c24).symm.trans hf
    rw [← hQQ]
    exact x_vretM hx hb hr (Option.some.inj hf) hR hP hS hlocks dX0_trySeat_26
  · replace hf := (if_neg c24).symm.trans hf
    refine lv_aload_n hx hb dX0_trySeat_5 rfl (lv_at hl 0 rfl) ?_
    refine x_get (C := RX0) (T := TX0) (NF := 6) (v := .ref (a 36)) hx hb hts iX0 hown hK hP 33 (by decide) (cE_33 cI cA a (_)) rfl 5 (by decide) fl18 rfl dX0_trySeat_6 ?_
    refine lv_iload_n hx hb dX0_trySeat_9 rfl (lv_at hl 2 rfl) ?_
    obtain ⟨g1, hf⟩ := gd hf
    refine x_iald hx hb hK hP 36 0 (by decide) (cE_36 cI cA a (_)) (by decide) rfl g1 dX0_trySeat_10 ?_
    refine x_if_eq (tgt := 26) hx hb (hR 36 x2) dX0_trySeat_11 (by decide) (fun c23 => ?_) (fun c23 => ?_)
    · replace hf := (if_pos c23).symm.trans hf
      rw [← hQQ]
      exact x_vretM hx hb hr (Option.some.inj hf) hR hP hS hlocks dX0_trySeat_26
    · replace hf := (if_neg c23).symm.trans hf
      refine lv_aload_n hx hb dX0_trySeat_14 rfl (lv_at hl 0 rfl) ?_
      refine x_get (C := RX0) (T := TX0) (NF := 6) (v := .ref (a 1)) hx hb hts iX0 hown hK hP 33 (by decide) (cE_33 cI cA a (_)) rfl 0 (by decide) fl21 rfl dX0_trySeat_15 ?_
      refine lv_iload_n hx hb dX0_trySeat_18 rfl (lv_at hl 1 rfl) ?_
      refine lv_iload_n hx hb dX0_trySeat_19 rfl (lv_at hl 2 rfl) ?_
      obtain ⟨v2, hv2, hf⟩ := bd hf
      refine x_callP (va_runV (As := [.int (iN x1), .int (iN x2)]) (rest := []) ⟨hx, hb, hml, hown, hts⟩ (kX1_isPair_1 l dC dI cI cA a σ x1 x2 v2 hv2 hR rx1 rx2) (cwV 2 hts gX0_trySeat_X1_isPair rfl rfl rfl hX1_isPair_d ⟨Nat.le_trans (show 0 + 1 ≤ FR + 3 by omega) hrm.1, Nat.le_trans (show 8 + (3 + 11) + (0) ≤ LO + 100 by omega) hrm.2⟩) (pvC 1 (by decide) (cE_1 cI cA a (_)) rfl hP hK hN) rfl rfl hl.1 rfl (lv_room (Nat.le_of_ble_eq_true rfl)) dX0_trySeat_20 ⟨Nat.zero_le _, Nat.zero_le _⟩) (fun rv2 => ?_)
      refine x_if_ne (tgt := 27) hx hb rv2 dX0_trySeat_23 (by decide) (fun c22 => ?_) (fun c22 => ?_)
      · replace hf := (if_neg c22).symm.trans hf
        refine lv_aload_n hx hb dX0_trySeat_27 rfl (lv_at hl 0 rfl) ?_
        refine x_get (C := RX0) (T := TX0) (NF := 6) (v := .ref (a 23)) hx hb hts iX0 hown hK hP 33 (by decide) (cE_33 cI cA a (_)) rfl 2 (by decide) fl29 rfl dX0_trySeat_28 ?_
        refine x_getN (C := RX3) (T := TX3) (NF := 2) (v := .ref (a 24)) hx hb hts iX3 hown hK hP 23 (by decide) (cE_23 cI cA a (_)) rfl 1 (by decide) fn67 rfl dX0_trySeat_31 ?_
        refine lv_iload_n hx hb dX0_trySeat_34 rfl (lv_at hl 1 rfl) ?_
        refine lv_iload_n hx hb dX0_trySeat_35 rfl (lv_at hl 2 rfl) ?_
        obtain ⟨g3, hf⟩ := gd hf
        obtain ⟨σ4, hσ4, hf⟩ := nxe hf
        refine x_iast (x := x2) hx hb hi hK hP hS 24 0 (by decide) (cE_24 cI cA a) (by decide) rfl g3 dX0_trySeat_36 (fun H locs hP hS => ?_)
        rw [← hσ4] at hP
        have hRσ4 : Rg σ4 := by rw [hσ4]; exact Rg_up hR rx2
        refine lv_aload_n hx hb dX0_trySeat_37 rfl (lv_at hl 0 rfl) ?_
        refine x_get (C := RX0) (T := TX0) (NF := 6) (v := .ref (a 36)) hx hb hts iX0 hown hK hP 33 (by decide) (cE_33 cI cA a (_)) rfl 5 (by decide) fl18 rfl dX0_trySeat_38 ?_
        refine lv_iload_n hx hb dX0_trySeat_41 rfl (lv_at hl 2 rfl) ?_
        refine lv_dup2_11 hx hb dX0_trySeat_42 rfl rfl ?_
        obtain ⟨g5, hf⟩ := gd hf
        refine x_iald hx hb hK hP 36 0 (by decide) (cE_36 cI cA a (_)) (by decide) rfl g5 dX0_trySeat_43 ?_
        refine lv_iconst (v := iN 1) hx hb dX0_trySeat_44 rfl ?_
        obtain ⟨g6, hf⟩ := gd hf
        refine x_isub hx hb dX0_trySeat_45 ?_
        obtain ⟨g7, hf⟩ := gd hf
        obtain ⟨σ8, hσ8, hf⟩ := nxe hf
        refine x_iast (x := ((σ4 36 x2) - 1)) hx hb hi hK hP hS 36 0 (by decide) (cE_36 cI cA a) (by decide) rfl g7 dX0_trySeat_46 (fun H locs hP hS => ?_)
        rw [← hσ8] at hP
        have hRσ8 : Rg σ8 := by rw [hσ8]; exact Rg_up hRσ4 g6
        refine lv_aload_n hx hb dX0_trySeat_47 rfl (lv_at hl 0 rfl) ?_
        refine lv_iload_n hx hb dX0_trySeat_48 rfl (lv_at hl 1 rfl) ?_
        obtain ⟨v9, hv9, hf⟩ := bd hf
        refine x_callP (va_runV (As := [.int (iN x1)]) (rest := []) ⟨hx, hb, hml, hown, hts⟩ (kX0_hasRivals_33 l dC dI cI cA a σ8 x1 v9 hv9 hRσ8 rx1) (cwV 1 hts gX0_trySeat_X0_hasRivals rfl rfl rfl hX0_hasRivals_d ⟨Nat.le_trans (show 2 + 1 ≤ FR + 3 by omega) hrm.1, Nat.le_trans (show 8 + (3 + 11) + (47) ≤ LO + 100 by omega) hrm.2⟩) (pvC 33 (by decide) (cE_33 cI cA a (_)) rfl hP hK hN) rfl rfl hl.1 rfl (lv_room (Nat.le_of_ble_eq_true rfl)) dX0_trySeat_49 ⟨Nat.zero_le _, Nat.zero_le _⟩) (fun rv9 => ?_)
        refine x_if_ne (tgt := 62) hx hb rv9 dX0_trySeat_52 (by decide) (fun c21 => ?_) (fun c21 => ?_)
        · replace hf := (if_neg c21).symm.trans hf
          refine lv_aload_n hx hb dX0_trySeat_62 rfl (lv_at hl 0 rfl) ?_
          refine x_get (C := RX0) (T := TX0) (NF := 6) (v := .ref (a 36)) hx hb hts iX0 hown hK hP 33 (by decide) (cE_33 cI cA a (_)) rfl 5 (by decide) fl18 rfl dX0_trySeat_63 ?_
          refine lv_iload_n hx hb dX0_trySeat_66 rfl (lv_at hl 2 rfl) ?_
          refine lv_dup2_11 hx hb dX0_trySeat_67 rfl rfl ?_
          obtain ⟨g10, hf⟩ := gd hf
          refine x_iald hx hb hK hP 36 0 (by decide) (cE_36 cI cA a (_)) (by decide) rfl g10 dX0_trySeat_68 ?_
          refine lv_iconst (v := iN 1) hx hb dX0_trySeat_69 rfl ?_
          obtain ⟨g11, hf⟩ := gd hf
          refine x_iadd hx hb dX0_trySeat_70 ?_
          obtain ⟨g12, hf⟩ := gd hf
          obtain ⟨σ13, hσ13, hf⟩ := nxe hf
          refine x_iast (x := ((σ8 36 x2) + 1)) hx hb hi hK hP hS 36 0 (by decide) (cE_36 cI cA a) (by decide) rfl g12 dX0_trySeat_71 (fun H locs hP hS => ?_)
          rw [← hσ13] at hP
          have hRσ13 : Rg σ13 := by rw [hσ13]; exact Rg_up hRσ8 g11
          rw [← hQQ]
          exact x_vretM hx hb hr (Option.some.inj hf) hRσ13 hP hS hlocks dX0_trySeat_72
        · replace hf := (if_pos c21).symm.trans hf
          refine lv_aload_n hx hb dX0_trySeat_55 rfl (lv_at hl 0 rfl) ?_
          refine lv_iload_n hx hb dX0_trySeat_56 rfl (lv_at hl 1 rfl) ?_
          refine lv_iconst (v := iN 1) hx hb dX0_trySeat_57 rfl ?_
          obtain ⟨g14, hf⟩ := gd hf
          refine x_iadd hx hb dX0_trySeat_58 ?_
          obtain ⟨v15, σ16, hv15, hf⟩ := bd2 hf
          refine x_callMv (va_runV (As := [.int (iN (x1 + 1))]) (rest := []) ⟨hx, hb, hml, hown, hts⟩ (hsf σ8 (x1 + 1) (v15, σ16) hv15 hRσ8 g14) (cwV 1 hts gX0_trySeat_X0_seatFrom rfl rfl rfl hX0_seatFrom_d ⟨Nat.le_trans (show FR + 1 ≤ FR + 3 by omega) hrm.1, Nat.le_trans (show 8 + (4 + 11) + (LO) ≤ LO + 100 by omega) hrm.2⟩) (pvC 33 (by decide) (cE_33 cI cA a (_)) rfl hP hK hN) rfl rfl hl.1 rfl (lv_room (Nat.le_of_ble_eq_true rfl)) dX0_trySeat_59 ⟨Nat.zero_le _, Nat.zero_le _⟩) hS (fun rv15 hRσ16 H locs hP hS => ?_)
          refine lv_aload_n hx hb dX0_trySeat_62 rfl (lv_at hl 0 rfl) ?_
          refine x_get (C := RX0) (T := TX0) (NF := 6) (v := .ref (a 36)) hx hb hts iX0 hown hK hP 33 (by decide) (cE_33 cI cA a (_)) rfl 5 (by decide) fl18 rfl dX0_trySeat_63 ?_
          refine lv_iload_n hx hb dX0_trySeat_66 rfl (lv_at hl 2 rfl) ?_
          refine lv_dup2_11 hx hb dX0_trySeat_67 rfl rfl ?_
          obtain ⟨g17, hf⟩ := gd hf
          refine x_iald hx hb hK hP 36 0 (by decide) (cE_36 cI cA a (_)) (by decide) rfl g17 dX0_trySeat_68 ?_
          refine lv_iconst (v := iN 1) hx hb dX0_trySeat_69 rfl ?_
          obtain ⟨g18, hf⟩ := gd hf
          refine x_iadd hx hb dX0_trySeat_70 ?_
          obtain ⟨g19, hf⟩ := gd hf
          obtain ⟨σ20, hσ20, hf⟩ := nxe hf
          refine x_iast (x := ((σ16 36 x2) + 1)) hx hb hi hK hP hS 36 0 (by decide) (cE_36 cI cA a) (by decide) rfl g19 dX0_trySeat_71 (fun H locs hP hS => ?_)
          rw [← hσ20] at hP
          have hRσ20 : Rg σ20 := by rw [hσ20]; exact Rg_up hRσ16 g18
          rw [← hQQ]
          exact x_vretM hx hb hr (Option.some.inj hf) hRσ20 hP hS hlocks dX0_trySeat_72
      · replace hf := (if_pos c22).symm.trans hf
        rw [← hQQ]
        exact x_vretM hx hb hr (Option.some.inj hf) hR hP hS hlocks dX0_trySeat_26
def fX0_nextToSeat_33_L2 (σ : Mem) (ex0 : Int → Option Int) : Nat → Int → Option Int
  | 0, _ => none
  | n0 + 1, v1 => if v1 < (σ 1 3) then if (0 : Int) ≤ v1 ∧ (v1 : Int) < 6 then if (σ 35 v1) = (-1) then if rng (v1 + 1) then fX0_nextToSeat_33_L2 σ ex0 n0 (v1 + 1) else none else some v1 else none else ex0 v1
def fX0_nextToSeat_33 (σ : Mem) (x1 : Int) : Option Int := fX0_nextToSeat_33_L2 σ (fun v6 => some (-1)) FU x1
set_option maxHeartbeats 4000000 in
set_option maxRecDepth 100000 in
theorem kX0_nextToSeat_33 (l : Launch) (dC : Nat → ClassId) (dI : Nat → Nat → Nat) (cI : ClassId) (cA : ClassId) (a : Nat → Nat) (σ : Mem) (x1 : Int) (r : Int) (hf : fX0_nextToSeat_33 σ x1 = some r) (hR : Rg σ) (rx1 : rng x1) : Met l yX0_nextToSeat wsX0_nextToSeat ({ frames := 0, cells := 0, slots := 0, locals := 0 }) (va_Pc [.ref (a 33), .int (iN x1)] (preC dC dI cI cA a σ)) (qP r) 0 0 (fun _ => False) := by
  refine Met.ofW (cc := cX0_nextToSeat) (maxL := 3) (ret := (some .int)) (by decide) rfl ?_
  intro p e s m args below meth c s₁ B hml hv
  obtain ⟨hargs, hP, hK, hN⟩ := hv
  have hx := B.exec
  have hb := B.bytes
  have hr := B.returns
  have hts := atoms_spec (ws := wsX0_nextToSeat) B.pre
  have hown : s.vm.findClass RX0 = some m.cls := findClass_of_methodNamed B.named
  have hlocks := B.notSynchronized
  have iX0 : ∀ w ∈ wsX00, w ∈ wsX0_nextToSeat := by decide +kernel
  have iX1 : ∀ w ∈ wsX10, w ∈ wsX0_nextToSeat := by decide +kernel
  have fl15 := hts (.fieldLink RX0 15 "MatchHall$Finder" "bestPlace" "[I") (by decide +kernel)
  have fl21 := hts (.fieldLink RX0 21 "MatchHall$Finder" "hall" "LMatchHall$Hall;") (by decide +kernel)
  have fn61 := va_Nw.use (A := args) rfl (hN (.fieldLinkNest RX0 61 "MatchHall$Hall" "residents" "I" "MatchHall") (by decide +kernel))
  have hrm : 0 ≤ (headSpec wsX0_nextToSeat ({ frames := 0, cells := 0, slots := 0, locals := 0 })).room.frames ∧ 0 ≤ (headSpec wsX0_nextToSeat ({ frames := 0, cells := 0, slots := 0, locals := 0 })).room.locals := ⟨Nat.le_refl _, Nat.le_refl _⟩
  generalize (headSpec wsX0_nextToSeat ({ frames := 0, cells := 0, slots := 0, locals := 0 })).room = RR at hrm ⊢
  have hl := lv_entry ([.ref (a 33), .int (iN x1)]) (n := 3) (Nat.le_of_ble_eq_true rfl)
  rw [show entryFrame m args 3 = entryFrame m ([.ref (a 33), .int (iN x1)] : List Value).toArray 3 from by rw [hargs], lg_entry_eq]
  generalize (lg_sl ([.ref (a 33), .int (iN x1)]) ++ List.replicate (3 - (lg_sl ([.ref (a 33), .int (iN x1)])).length) Slot.unset).toArray = ls at hl ⊢
  have hl : lv_has ls 3 [(0, .ref (a 33)), (1, .int (iN x1))] := hl
  generalize hQQ : MQ below (qP r) args s 0 0 (fun _ => False) = QQ
  refine lv_iload_n hx hb dX0_nextToSeat_0 rfl (lv_at hl 1 rfl) ?_
  refine lv_istore_n (lv' := [(2, .int (iN x1)), (0, .ref (a 33)), (1, .int (iN x1))]) hx hb dX0_nextToSeat_1 rfl hl (by decide) rfl (fun ls hl => ?_)
  have L_fX0_nextToSeat_33_L2 : ∀ (EX0 : Int → Option Int), (∀ (v1 : Int), rng v1 → EX0 v1 = some r → ∀ ls, lv_has ls 3 [(0, .ref (a 33)), (1, .int (iN x1)), (2, .int (iN v1))] → W p l e RR s m args below meth c s.heap [] 0 0 QQ (F0 m 31 ls [])) → ∀ n0 : Nat, ∀ (v1 : Int), rng v1 → fX0_nextToSeat_33_L2 σ EX0 n0 v1 = some r → ∀ ls, lv_has ls 3 [(0, .ref (a 33)), (1, .int (iN x1)), (2, .int (iN v1))] → W p l e RR s m args below meth c s.heap [] 0 0 QQ (F0 m 2 ls []) := by
    intro EX0 hEX0 n0
    induction n0 with
    | zero => intro _ _ hf; cases hf
    | succ n0 ih0 =>
      intro v1 rv1 hf ls hl
      rw [fX0_nextToSeat_33_L2] at hf
      refine lv_iload_n hx hb dX0_nextToSeat_2 rfl (lv_at hl 2 rfl) ?_
      refine lv_aload_n hx hb dX0_nextToSeat_3 rfl (lv_at hl 0 rfl) ?_
      refine x_get (C := RX0) (T := TX0) (NF := 6) (v := .ref (a 1)) hx hb hts iX0 hown hK hP 33 (by decide) (cE_33 cI cA a (_)) rfl 0 (by decide) fl21 rfl dX0_nextToSeat_4 ?_
      refine x_getN (C := RX1) (T := TX1) (NF := 5) (v := .int (iN (σ 1 3))) hx hb hts iX1 hown hK hP 1 (by decide) (cE_1 cI cA a (_)) rfl 3 (by decide) fn61 rfl dX0_nextToSeat_7 ?_
      refine x_icmp_ge (tgt := 31) hx hb rv1 (hR 1 3) dX0_nextToSeat_10 (by decide) (fun c5 => ?_) (fun c5 => ?_)
      · replace hf := (if_neg c5).symm.trans hf
        exact hEX0 _ rv1 hf _ (lv_sub hl [0, 1, 2] rfl)
      · replace hf := (if_pos c5).symm.trans hf
        refine lv_aload_n hx hb dX0_nextToSeat_13 rfl (lv_at hl 0 rfl) ?_
        refine x_get (C := RX0) (T := TX0) (NF := 6) (v := .ref (a 35)) hx hb hts iX0 hown hK hP 33 (by decide) (cE_33 cI cA a (_)) rfl 4 (by decide) fl15 rfl dX0_nextToSeat_14 ?_
        refine lv_iload_n hx hb dX0_nextToSeat_17 rfl (lv_at hl 2 rfl) ?_
        obtain ⟨g2, hf⟩ := gd hf
        refine x_iald hx hb hK hP 35 0 (by decide) (cE_35 cI cA a (_)) (by decide) rfl g2 dX0_nextToSeat_18 ?_
        refine lv_iconst (v := iN (-1)) hx hb dX0_nextToSeat_19 rfl ?_
        refine x_icmp_eq (tgt := 25) hx hb (hR 35 v1) (by decide) dX0_nextToSeat_20 (by decide) (fun c4 => ?_) (fun c4 => ?_)
        · replace hf := (if_pos c4).symm.trans hf
          obtain ⟨g3, hf⟩ := gd hf
          refine lv_iinc (v := iN (v1 + 1)) (lv' := [(2, .int (iN (v1 + 1))), (0, .ref (a 33)), (1, .int (iN x1))]) hx hb dX0_nextToSeat_25 hl (k := 2) rfl (iN_add v1 1) (by decide) rfl (fun ls hl => ?_)
          refine lv_goto (tgt := 2) hx hb dX0_nextToSeat_28 (by decide) ?_
          exact ih0 _ g3 hf _ (lv_sub hl [1, 2, 0] rfl)
        · replace hf := (if_neg c4).symm.trans hf
          refine lv_iload_n hx hb dX0_nextToSeat_23 rfl (lv_at hl 2 rfl) ?_
          rw [← hQQ]
          exact x_iret hx hb hr (Option.some.inj hf) rv1 hlocks dX0_nextToSeat_24
  refine L_fX0_nextToSeat_33_L2 _ (fun v6 rv6 hf ls hl => ?_) _ _ rx1 hf _ (lv_sub hl [1, 2, 0] rfl)
  refine lv_iconst (v := iN (-1)) hx hb dX0_nextToSeat_31 rfl ?_
  rw [← hQQ]
  exact x_iret hx hb hr (Option.some.inj hf) (by decide) hlocks dX0_nextToSeat_32
def fX0_seatFrom_33_L42 (sf : Mem → Int → Option (Int × Mem)) (v1 : Int) (ex0 : Mem → Int → Option (Int × Mem)) : Nat → Mem → Int → Option (Int × Mem)
  | 0, _, _ => none
  | n0 + 1, σ4, v3 => if (0 : Int) ≤ v1 ∧ (v1 : Int) < 6 then if v3 < (σ4 10 v1) then (fX2_at_2 σ4 v1 v3).bind fun v6 => bnd2 (fX0_trySeat_33 sf σ4 v1 v6) fun v7 σ8 => if rng (v3 + 1) then fX0_seatFrom_33_L42 sf v1 ex0 n0 σ8 (v3 + 1) else none else ex0 σ4 v3 else none
def fX0_seatFrom_33 (sf : Mem → Int → Option (Int × Mem)) (σ : Mem) (x1 : Int) : Option (Int × Mem) := (fX0_nextToSeat_33 σ x1).bind fun v1 => if v1 = (-1) then (fX3_blockingPair_23 σ 0).bind fun v13 => if v13 = (-1) then bnd2 (fX5_add_25_23 σ ) fun v14 σ15 => some (0, σ15) else some (0, σ) else if (0 : Int) ≤ v1 ∧ (v1 : Int) < 6 then fX0_seatFrom_33_L42 sf v1 (fun σ12 v11 => some (0, σ12)) FU σ (σ 35 v1) else none
set_option maxHeartbeats 4000000 in
set_option maxRecDepth 100000 in
theorem kX0_seatFrom_33 (l : Launch) (dC : Nat → ClassId) (dI : Nat → Nat → Nat) (cI : ClassId) (cA : ClassId) (a : Nat → Nat) (hi : ∀ i j, i < 37 → j < 37 → a i = a j → i = j) (sf : Mem → Int → Option (Int × Mem)) (FR LO : Nat) (hsf : ∀ (σ : Mem) (x : Int) (r : Int × Mem), sf σ x = some r → Rg σ → rng x → Met l yX0_seatFrom wsX0_seatFrom ({ frames := FR, cells := 0, slots := 0, locals := LO }) (va_Pc [.ref (a 33), .int (iN x)] (preC dC dI cI cA a σ)) (qMv (dC, dI) (gw 37 a (cE cI cA a)) (gA 37 a) r) 0 0 (gA 37 a)) (σ : Mem) (x1 : Int) (r : (Int × Mem)) (hf : fX0_seatFrom_33 sf σ x1 = some r) (hR : Rg σ) (rx1 : rng x1) : Met l yX0_seatFrom wsX0_seatFrom ({ frames := FR + 4, cells := 0, slots := 0, locals := LO + 130 }) (va_Pc [.ref (a 33), .int (iN x1)] (preC dC dI cI cA a σ)) (qMv (dC, dI) (gw 37 a (cE cI cA a)) (gA 37 a) r) 0 0 (gA 37 a) := by
  refine Met.ofW (cc := cX0_seatFrom) (maxL := 4) (ret := none) (by decide) rfl ?_
  intro p e s m args below meth c s₁ B hml hv
  obtain ⟨hargs, hP, hK, hN⟩ := hv
  have hx := B.exec
  have hb := B.bytes
  have hr := B.returns
  have hts := atoms_spec (ws := wsX0_seatFrom) B.pre
  have hown : s.vm.findClass RX0 = some m.cls := findClass_of_methodNamed B.named
  have hlocks := B.notSynchronized
  have hS : va_S (gA 37 a) s.heap s.heap [] := va_S.rf
  have iX0 : ∀ w ∈ wsX00, w ∈ wsX0_seatFrom := by decide +kernel
  have iX1 : ∀ w ∈ wsX10, w ∈ wsX0_seatFrom := by decide +kernel
  have iX2 : ∀ w ∈ wsX20, w ∈ wsX0_seatFrom := by decide +kernel
  have fl15 := hts (.fieldLink RX0 15 "MatchHall$Finder" "bestPlace" "[I") (by decide +kernel)
  have fl21 := hts (.fieldLink RX0 21 "MatchHall$Finder" "hall" "LMatchHall$Hall;") (by decide +kernel)
  have fl25 := hts (.fieldLink RX0 25 "MatchHall$Finder" "stables" "LMatchHall$Stables;") (by decide +kernel)
  have fl29 := hts (.fieldLink RX0 29 "MatchHall$Finder" "trial" "LMatchHall$Matching;") (by decide +kernel)
  have fn70 := va_Nw.use (A := args) rfl (hN (.fieldLinkNest RX0 70 "MatchHall$Hall" "ofResidents" "LMatchHall$Lists;" "MatchHall") (by decide +kernel))
  have fn74 := va_Nw.use (A := args) rfl (hN (.fieldLinkNest RX0 74 "MatchHall$Lists" "sizes" "[I" "MatchHall") (by decide +kernel))
  have hrm : FR + 4 ≤ (headSpec wsX0_seatFrom ({ frames := FR + 4, cells := 0, slots := 0, locals := LO + 130 })).room.frames ∧ LO + 130 ≤ (headSpec wsX0_seatFrom ({ frames := FR + 4, cells := 0, slots := 0, locals := LO + 130 })).room.locals := ⟨Nat.le_refl _, Nat.le_refl _⟩
  generalize (headSpec wsX0_seatFrom ({ frames := FR + 4, cells := 0, slots := 0, locals := LO + 130 })).room = RR at hrm ⊢
  have hl := lv_entry ([.ref (a 33), .int (iN x1)]) (n := 4) (Nat.le_of_ble_eq_true rfl)
  rw [show entryFrame m args 4 = entryFrame m ([.ref (a 33), .int (iN x1)] : List Value).toArray 4 from by rw [hargs], lg_entry_eq]
  generalize (lg_sl ([.ref (a 33), .int (iN x1)]) ++ List.replicate (4 - (lg_sl ([.ref (a 33), .int (iN x1)])).length) Slot.unset).toArray = ls at hl ⊢
  have hl : lv_has ls 4 [(0, .ref (a 33)), (1, .int (iN x1))] := hl
  generalize hQQ : MQ below (qMv (dC, dI) (gw 37 a (cE cI cA a)) (gA 37 a) r) args s 0 0 (gA 37 a) = QQ
  refine lv_aload_n hx hb dX0_seatFrom_0 rfl (lv_at hl 0 rfl) ?_
  refine lv_iload_n hx hb dX0_seatFrom_1 rfl (lv_at hl 1 rfl) ?_
  obtain ⟨v1, hv1, hf⟩ := bd hf
  refine x_callP (va_runV (As := [.int (iN x1)]) (rest := []) ⟨hx, hb, hml, hown, hts⟩ (kX0_nextToSeat_33 l dC dI cI cA a σ x1 v1 hv1 hR rx1) (cwV 1 hts gX0_seatFrom_X0_nextToSeat rfl rfl rfl hX0_nextToSeat_d ⟨Nat.le_trans (show 0 + 1 ≤ FR + 4 by omega) hrm.1, Nat.le_trans (show 8 + (3 + 11) + (0) ≤ LO + 130 by omega) hrm.2⟩) (pvC 33 (by decide) (cE_33 cI cA a (_)) rfl hP hK hN) rfl rfl hl.1 rfl (lv_room (Nat.le_of_ble_eq_true rfl)) dX0_seatFrom_2 ⟨Nat.zero_le _, Nat.zero_le _⟩) (fun rv1 => ?_)
  refine lv_istore_n (lv' := [(2, .int (iN v1)), (0, .ref (a 33)), (1, .int (iN x1))]) hx hb dX0_seatFrom_5 rfl hl (by decide) rfl (fun ls hl => ?_)
  refine lv_iload_n hx hb dX0_seatFrom_6 rfl (lv_at hl 0 rfl) ?_
  refine lv_iconst (v := iN (-1)) hx hb dX0_seatFrom_7 rfl ?_
  refine x_icmp_ne (tgt := 35) hx hb rv1 (by decide) dX0_seatFrom_8 (by decide) (fun c17 => ?_) (fun c17 => ?_)
  · replace hf := (if_neg c17).symm.trans hf
    refine lv_aload_n hx hb dX0_seatFrom_35 rfl (lv_at hl 1 rfl) ?_
    refine x_get (C := RX0) (T := TX0) (NF := 6) (v := .ref (a 35)) hx hb hts iX0 hown hK hP 33 (by decide) (cE_33 cI cA a (_)) rfl 4 (by decide) fl15 rfl dX0_seatFrom_36 ?_
    refine lv_iload_n hx hb dX0_seatFrom_39 rfl (lv_at hl 0 rfl) ?_
    obtain ⟨g2, hf⟩ := gd hf
    refine x_iald hx hb hK hP 35 0 (by decide) (cE_35 cI cA a (_)) (by decide) rfl g2 dX0_seatFrom_40 ?_
    refine lv_istore_n (lv' := [(3, .int (iN (σ 35 v1))), (2, .int (iN v1)), (0, .ref (a 33)), (1, .int (iN x1))]) hx hb dX0_seatFrom_41 rfl hl (by decide) rfl (fun ls hl => ?_)
    have L_fX0_seatFrom_33_L42 : ∀ (EX0 : Mem → Int → Option (Int × Mem)), (∀ (σ4 : Mem) (v3 : Int), Rg σ4 → rng v3 → EX0 σ4 v3 = some r → ∀ H locs ls, va_P (dC, dI) vwCl (gw 37 a (cE cI cA a) σ4) H → va_S (gA 37 a) s.heap H locs → lv_has ls 4 [(0, .ref (a 33)), (1, .int (iN x1)), (2, .int (iN v1)), (3, .int (iN v3))] → W p l e RR s m args below meth c H locs 0 0 QQ (F0 m 81 ls [])) → ∀ n0 : Nat, ∀ (σ4 : Mem) (v3 : Int), Rg σ4 → rng v3 → fX0_seatFrom_33_L42 sf v1 EX0 n0 σ4 v3 = some r → ∀ H locs ls, va_P (dC, dI) vwCl (gw 37 a (cE cI cA a) σ4) H → va_S (gA 37 a) s.heap H locs → lv_has ls 4 [(0, .ref (a 33)), (1, .int (iN x1)), (2, .int (iN v1)), (3, .int (iN v3))] → W p l e RR s m args below meth c H locs 0 0 QQ (F0 m 42 ls []) := by
      intro EX0 hEX0 n0
      induction n0 with
      | zero => intro _ _ _ _ hf; cases hf
      | succ n0 ih0 =>
        intro σ4 v3 hRσ4 rv3 hf H locs ls hP hS hl
        rw [fX0_seatFrom_33_L42] at hf
        refine lv_iload_n hx hb dX0_seatFrom_42 rfl (lv_at hl 3 rfl) ?_
        refine lv_aload_n hx hb dX0_seatFrom_43 rfl (lv_at hl 0 rfl) ?_
        refine x_get (C := RX0) (T := TX0) (NF := 6) (v := .ref (a 1)) hx hb hts iX0 hown hK hP 33 (by decide) (cE_33 cI cA a (_)) rfl 0 (by decide) fl21 rfl dX0_seatFrom_44 ?_
        refine x_getN (C := RX1) (T := TX1) (NF := 5) (v := .ref (a 2)) hx hb hts iX1 hown hK hP 1 (by decide) (cE_1 cI cA a (_)) rfl 0 (by decide) fn70 rfl dX0_seatFrom_47 ?_
        refine x_getN (C := RX2) (T := TX2) (NF := 4) (v := .ref (a 10)) hx hb hts iX2 hown hK hP 2 (by decide) (cE_2 cI cA a (_)) rfl 1 (by decide) fn74 rfl dX0_seatFrom_50 ?_
        refine lv_iload_n hx hb dX0_seatFrom_53 rfl (lv_at hl 2 rfl) ?_
        obtain ⟨g5, hf⟩ := gd hf
        refine x_iald hx hb hK hP 10 0 (by decide) (cE_10 cI cA a (_)) (by decide) rfl g5 dX0_seatFrom_54 ?_
        refine x_icmp_ge (tgt := 81) hx hb rv3 (hRσ4 10 v1) dX0_seatFrom_55 (by decide) (fun c10 => ?_) (fun c10 => ?_)
        · replace hf := (if_neg c10).symm.trans hf
          exact hEX0 _ _ hRσ4 rv3 hf _ _ _ hP hS (lv_sub hl [0, 1, 2, 3] rfl)
        · replace hf := (if_pos c10).symm.trans hf
          refine lv_aload_n hx hb dX0_seatFrom_58 rfl (lv_at hl 0 rfl) ?_
          refine lv_iload_n hx hb dX0_seatFrom_59 rfl (lv_at hl 2 rfl) ?_
          refine lv_aload_n hx hb dX0_seatFrom_60 rfl (lv_at hl 0 rfl) ?_
          refine x_get (C := RX0) (T := TX0) (NF := 6) (v := .ref (a 1)) hx hb hts iX0 hown hK hP 33 (by decide) (cE_33 cI cA a (_)) rfl 0 (by decide) fl21 rfl dX0_seatFrom_61 ?_
          refine x_getN (C := RX1) (T := TX1) (NF := 5) (v := .ref (a 2)) hx hb hts iX1 hown hK hP 1 (by decide) (cE_1 cI cA a (_)) rfl 0 (by decide) fn70 rfl dX0_seatFrom_64 ?_
          refine lv_iload_n hx hb dX0_seatFrom_67 rfl (lv_at hl 2 rfl) ?_
          refine lv_iload_n hx hb dX0_seatFrom_68 rfl (lv_at hl 3 rfl) ?_
          obtain ⟨v6, hv6, hf⟩ := bd hf
          refine x_callP (va_runV (As := [.int (iN v1), .int (iN v3)]) (rest := [.int (iN v1), .ref (a 33)]) ⟨hx, hb, hml, hown, hts⟩ (kX2_at_2 l dC dI cI cA a σ4 v1 v3 v6 hv6 hRσ4 rv1 rv3) (cwV 2 hts gX0_seatFrom_X2_at rfl rfl rfl hX2_at_d ⟨Nat.le_trans (show 0 + 1 ≤ FR + 4 by omega) hrm.1, Nat.le_trans (show 8 + (4 + 11) + (0) ≤ LO + 130 by omega) hrm.2⟩) (pvC 2 (by decide) (cE_2 cI cA a (_)) rfl hP hK hN) rfl rfl hl.1 rfl (lv_room (Nat.le_of_ble_eq_true rfl)) dX0_seatFrom_69 ⟨Nat.zero_le _, Nat.zero_le _⟩) (fun rv6 => ?_)
          obtain ⟨v7, σ8, hv7, hf⟩ := bd2 hf
          refine x_callMv (va_runV (As := [.int (iN v1), .int (iN v6)]) (rest := []) ⟨hx, hb, hml, hown, hts⟩ (kX0_trySeat_33 l dC dI cI cA a hi sf FR LO hsf σ4 v1 v6 (v7, σ8) hv7 hRσ4 rv1 rv6) (cwV 2 hts gX0_seatFrom_X0_trySeat rfl rfl rfl hX0_trySeat_d ⟨Nat.le_trans (show FR + 3 + 1 ≤ FR + 4 by omega) hrm.1, Nat.le_trans (show 8 + (3 + 11) + (LO + 100) ≤ LO + 130 by omega) hrm.2⟩) (pvC 33 (by decide) (cE_33 cI cA a (_)) rfl hP hK hN) rfl rfl hl.1 rfl (lv_room (Nat.le_of_ble_eq_true rfl)) dX0_seatFrom_72 ⟨Nat.zero_le _, Nat.zero_le _⟩) hS (fun rv7 hRσ8 H locs hP hS => ?_)
          obtain ⟨g9, hf⟩ := gd hf
          refine lv_iinc (v := iN (v3 + 1)) (lv' := [(3, .int (iN (v3 + 1))), (0, .ref (a 33)), (1, .int (iN x1)), (2, .int (iN v1))]) hx hb dX0_seatFrom_75 hl (k := 3) rfl (iN_add v3 1) (by decide) rfl (fun ls hl => ?_)
          refine lv_goto (tgt := 42) hx hb dX0_seatFrom_78 (by decide) ?_
          exact ih0 _ _ hRσ8 g9 hf _ _ _ hP hS (lv_sub hl [1, 2, 3, 0] rfl)
    refine L_fX0_seatFrom_33_L42 _ (fun σ12 v11 hRσ12 rv11 hf H locs ls hP hS hl => ?_) _ _ _ hR (hR 35 v1) hf _ _ _ hP hS (lv_sub hl [2, 3, 1, 0] rfl)
    rw [← hQQ]
    exact x_vretM hx hb hr (Option.some.inj hf) hRσ12 hP hS hlocks dX0_seatFrom_81
  · replace hf := (if_pos c17).symm.trans hf
    refine lv_aload_n hx hb dX0_seatFrom_11 rfl (lv_at hl 1 rfl) ?_
    refine x_get (C := RX0) (T := TX0) (NF := 6) (v := .ref (a 23)) hx hb hts iX0 hown hK hP 33 (by decide) (cE_33 cI cA a (_)) rfl 2 (by decide) fl29 rfl dX0_seatFrom_12 ?_
    refine lv_iconst (v := iN 0) hx hb dX0_seatFrom_15 rfl ?_
    obtain ⟨v13, hv13, hf⟩ := bd hf
    refine x_callP (va_runV (As := [.int (iN 0)]) (rest := []) ⟨hx, hb, hml, hown, hts⟩ (kX3_blockingPair_23 l dC dI cI cA a σ 0 v13 hv13 hR (by decide)) (cwV 1 hts gX0_seatFrom_X3_blockingPair rfl rfl rfl hX3_blockingPair_d ⟨Nat.le_trans (show 2 + 1 ≤ FR + 4 by omega) hrm.1, Nat.le_trans (show 8 + (5 + 11) + (47) ≤ LO + 130 by omega) hrm.2⟩) (pvC 23 (by decide) (cE_23 cI cA a (_)) rfl hP hK hN) rfl rfl hl.1 rfl (lv_room (Nat.le_of_ble_eq_true rfl)) dX0_seatFrom_16 ⟨Nat.zero_le _, Nat.zero_le _⟩) (fun rv13 => ?_)
    refine lv_iconst (v := iN (-1)) hx hb dX0_seatFrom_19 rfl ?_
    refine x_icmp_ne (tgt := 34) hx hb rv13 (by decide) dX0_seatFrom_20 (by decide) (fun c16 => ?_) (fun c16 => ?_)
    · replace hf := (if_neg c16).symm.trans hf
      rw [← hQQ]
      exact x_vretM hx hb hr (Option.some.inj hf) hR hP hS hlocks dX0_seatFrom_34
    · replace hf := (if_pos c16).symm.trans hf
      refine lv_aload_n hx hb dX0_seatFrom_23 rfl (lv_at hl 1 rfl) ?_
      refine x_get (C := RX0) (T := TX0) (NF := 6) (v := .ref (a 25)) hx hb hts iX0 hown hK hP 33 (by decide) (cE_33 cI cA a (_)) rfl 1 (by decide) fl25 rfl dX0_seatFrom_24 ?_
      refine lv_aload_n hx hb dX0_seatFrom_27 rfl (lv_at hl 1 rfl) ?_
      refine x_get (C := RX0) (T := TX0) (NF := 6) (v := .ref (a 23)) hx hb hts iX0 hown hK hP 33 (by decide) (cE_33 cI cA a (_)) rfl 2 (by decide) fl29 rfl dX0_seatFrom_28 ?_
      obtain ⟨v14, σ15, hv14, hf⟩ := bd2 hf
      refine x_callMv (va_runV (As := [.ref (a 23)]) (rest := []) ⟨hx, hb, hml, hown, hts⟩ (kX5_add_25_23 l dC dI cI cA a hi σ  (v14, σ15) hv14 hR ) (cwV 1 hts gX0_seatFrom_X5_add rfl rfl rfl hX5_add_d ⟨Nat.le_trans (show 1 + 1 ≤ FR + 4 by omega) hrm.1, Nat.le_trans (show 8 + (3 + 11) + (64) ≤ LO + 130 by omega) hrm.2⟩) (pvC 25 (by decide) (cE_25 cI cA a (_)) rfl hP hK hN) rfl rfl hl.1 rfl (lv_room (Nat.le_of_ble_eq_true rfl)) dX0_seatFrom_31 ⟨Nat.zero_le _, Nat.zero_le _⟩) hS (fun rv14 hRσ15 H locs hP hS => ?_)
      rw [← hQQ]
      exact x_vretM hx hb hr (Option.some.inj hf) hRσ15 hP hS hlocks dX0_seatFrom_34
def fX0_seatFrom : Nat → Mem → Int → Option (Int × Mem)
  | 0 => fun _ _ => none
  | d + 1 => fX0_seatFrom_33 (fX0_seatFrom d)
theorem kX0_seatFrom (l : Launch) (dC : Nat → ClassId) (dI : Nat → Nat → Nat) (cI cA : ClassId) (a : Nat → Nat) (hi : ∀ i j, i < 37 → j < 37 → a i = a j → i = j) : ∀ (d : Nat) (σ : Mem) (x : Int) (r : Int × Mem), fX0_seatFrom d σ x = some r → Rg σ → rng x → Met l yX0_seatFrom wsX0_seatFrom ({ frames := 4 * d, cells := 0, slots := 0, locals := 130 * d }) (va_Pc [.ref (a 33), .int (iN x)] (preC dC dI cI cA a σ)) (qMv (dC, dI) (gw 37 a (cE cI cA a)) (gA 37 a) r) 0 0 (gA 37 a) := by
  intro d
  induction d with
  | zero => intro σ x r hf; cases hf
  | succ d ih => intro σ x r hf hR rx; exact kX0_seatFrom_33 l dC dI cI cA a hi (fX0_seatFrom d) (4 * d) (130 * d) ih σ x r hf hR rx

def fJ7_fill_53178_c_24_L5 (x1 : Int) (ex0 : Mem → Int → Option (Int × Mem)) : Nat → Mem → Int → Option (Int × Mem)
  | 0, _, _ => none
  | n0 + 1, σ2, v1 => if v1 < 6 then if (0 : Int) ≤ v1 ∧ (v1 : Int) < 6 then nx (mup σ2 24 v1 x1) fun σ4 => if rng (v1 + 1) then fJ7_fill_53178_c_24_L5 x1 ex0 n0 σ4 (v1 + 1) else none else none else ex0 σ2 v1
def fJ7_fill_53178_c_24 (σ : Mem) (x1 : Int) : Option (Int × Mem) := fJ7_fill_53178_c_24_L5 x1 (fun σ8 v7 => some (0, σ8)) FU σ 0
set_option maxHeartbeats 4000000 in
set_option maxRecDepth 100000 in
theorem kJ7_fill_53178_c_24 (l : Launch) (dC : Nat → ClassId) (dI : Nat → Nat → Nat) (cI : ClassId) (cA : ClassId) (a : Nat → Nat) (hi : ∀ i j, i < 37 → j < 37 → a i = a j → i = j) (σ : Mem) (x1 : Int) (r : (Int × Mem)) (hf : fJ7_fill_53178_c_24 σ x1 = some r) (hR : Rg σ) (rx1 : rng x1) : Met l yJ7_fill_53178 wsJ7_fill_53178 ({ frames := 0, cells := 0, slots := 0, locals := 0 }) (va_Pc [.ref (a 24), .int (iN x1)] (preC dC dI cI cA a σ)) (qMv (dC, dI) (gw 37 a (cE cI cA a)) (gA 37 a) r) 0 0 (gA 37 a) := by
  refine Met.ofW (cc := cJ7_fill_53178) (maxL := 4) (ret := none) (by decide) rfl ?_
  intro p e s m args below meth c s₁ B hml hv
  obtain ⟨hargs, hP, hK, hN⟩ := hv
  have hx := B.exec
  have hb := B.bytes
  have hr := B.returns
  have hts := atoms_spec (ws := wsJ7_fill_53178) B.pre
  have hown : s.vm.findClass RJ7 = some m.cls := findClass_of_methodNamed B.named
  have hlocks := B.notSynchronized
  have hS : va_S (gA 37 a) s.heap s.heap [] := va_S.rf
  have hrm : 0 ≤ (headSpec wsJ7_fill_53178 ({ frames := 0, cells := 0, slots := 0, locals := 0 })).room.frames ∧ 0 ≤ (headSpec wsJ7_fill_53178 ({ frames := 0, cells := 0, slots := 0, locals := 0 })).room.locals := ⟨Nat.le_refl _, Nat.le_refl _⟩
  generalize (headSpec wsJ7_fill_53178 ({ frames := 0, cells := 0, slots := 0, locals := 0 })).room = RR at hrm ⊢
  have hl := lv_entry ([.ref (a 24), .int (iN x1)]) (n := 4) (Nat.le_of_ble_eq_true rfl)
  rw [show entryFrame m args 4 = entryFrame m ([.ref (a 24), .int (iN x1)] : List Value).toArray 4 from by rw [hargs], lg_entry_eq]
  generalize (lg_sl ([.ref (a 24), .int (iN x1)]) ++ List.replicate (4 - (lg_sl ([.ref (a 24), .int (iN x1)])).length) Slot.unset).toArray = ls at hl ⊢
  have hl : lv_has ls 4 [(0, .ref (a 24)), (1, .int (iN x1))] := hl
  generalize hQQ : MQ below (qMv (dC, dI) (gw 37 a (cE cI cA a)) (gA 37 a) r) args s 0 0 (gA 37 a) = QQ
  refine lv_iconst (v := iN 0) hx hb dJ7_fill_53178_0 rfl ?_
  refine lv_istore_n (lv' := [(2, .int (iN 0)), (0, .ref (a 24)), (1, .int (iN x1))]) hx hb dJ7_fill_53178_1 rfl hl (by decide) rfl (fun ls hl => ?_)
  refine lv_aload_n hx hb dJ7_fill_53178_2 rfl (lv_at hl 1 rfl) ?_
  refine va_alen (v := iN 6) hx hb hK hP 24 0 (gw_at 24 (by decide) (cE_24 cI cA a (_))) rfl (show Int32.ofNat 6 = iN 6 by decide) dJ7_fill_53178_3 ?_
  refine lv_istore_n (lv' := [(3, .int (iN 6)), (2, .int (iN 0)), (0, .ref (a 24)), (1, .int (iN x1))]) hx hb dJ7_fill_53178_4 rfl hl (by decide) rfl (fun ls hl => ?_)
  have L_fJ7_fill_53178_c_24_L5 : ∀ (EX0 : Mem → Int → Option (Int × Mem)), (∀ (σ2 : Mem) (v1 : Int), Rg σ2 → rng v1 → EX0 σ2 v1 = some r → ∀ H locs ls, va_P (dC, dI) vwCl (gw 37 a (cE cI cA a) σ2) H → va_S (gA 37 a) s.heap H locs → lv_has ls 4 [(0, .ref (a 24)), (1, .int (iN x1)), (2, .int (iN v1)), (3, .int (iN 6))] → W p l e RR s m args below meth c H locs 0 0 QQ (F0 m 20 ls [])) → ∀ n0 : Nat, ∀ (σ2 : Mem) (v1 : Int), Rg σ2 → rng v1 → fJ7_fill_53178_c_24_L5 x1 EX0 n0 σ2 v1 = some r → ∀ H locs ls, va_P (dC, dI) vwCl (gw 37 a (cE cI cA a) σ2) H → va_S (gA 37 a) s.heap H locs → lv_has ls 4 [(0, .ref (a 24)), (1, .int (iN x1)), (2, .int (iN v1)), (3, .int (iN 6))] → W p l e RR s m args below meth c H locs 0 0 QQ (F0 m 5 ls []) := by
    intro EX0 hEX0 n0
    induction n0 with
    | zero => intro _ _ _ _ hf; cases hf
    | succ n0 ih0 =>
      intro σ2 v1 hRσ2 rv1 hf H locs ls hP hS hl
      rw [fJ7_fill_53178_c_24_L5] at hf
      refine lv_iload_n hx hb dJ7_fill_53178_5 rfl (lv_at hl 2 rfl) ?_
      refine lv_iload_n hx hb dJ7_fill_53178_6 rfl (lv_at hl 3 rfl) ?_
      refine x_icmp_ge (tgt := 20) hx hb rv1 (by decide) dJ7_fill_53178_7 (by decide) (fun c6 => ?_) (fun c6 => ?_)
      · replace hf := (if_neg c6).symm.trans hf
        exact hEX0 _ _ hRσ2 rv1 hf _ _ _ hP hS (lv_sub hl [0, 1, 2, 3] rfl)
      · replace hf := (if_pos c6).symm.trans hf
        refine lv_aload_n hx hb dJ7_fill_53178_10 rfl (lv_at hl 0 rfl) ?_
        refine lv_iload_n hx hb dJ7_fill_53178_11 rfl (lv_at hl 2 rfl) ?_
        refine lv_iload_n hx hb dJ7_fill_53178_12 rfl (lv_at hl 1 rfl) ?_
        obtain ⟨g3, hf⟩ := gd hf
        obtain ⟨σ4, hσ4, hf⟩ := nxe hf
        refine x_iast (x := x1) hx hb hi hK hP hS 24 0 (by decide) (cE_24 cI cA a) (by decide) rfl g3 dJ7_fill_53178_13 (fun H locs hP hS => ?_)
        rw [← hσ4] at hP
        have hRσ4 : Rg σ4 := by rw [hσ4]; exact Rg_up hRσ2 rx1
        obtain ⟨g5, hf⟩ := gd hf
        refine lv_iinc (v := iN (v1 + 1)) (lv' := [(2, .int (iN (v1 + 1))), (0, .ref (a 24)), (1, .int (iN x1)), (3, .int (iN 6))]) hx hb dJ7_fill_53178_14 hl (k := 2) rfl (iN_add v1 1) (by decide) rfl (fun ls hl => ?_)
        refine lv_goto (tgt := 5) hx hb dJ7_fill_53178_17 (by decide) ?_
        exact ih0 _ _ hRσ4 g5 hf _ _ _ hP hS (lv_sub hl [1, 2, 0, 3] rfl)
  refine L_fJ7_fill_53178_c_24_L5 _ (fun σ8 v7 hRσ8 rv7 hf H locs ls hP hS hl => ?_) _ _ _ hR (by decide) hf _ _ _ hP hS (lv_sub hl [2, 3, 1, 0] rfl)
  rw [← hQQ]
  exact x_vretM hx hb hr (Option.some.inj hf) hRσ8 hP hS hlocks dJ7_fill_53178_20
def fX3_clear_23 (σ : Mem) : Option (Int × Mem) := bnd2 (fJ7_fill_53178_c_24 σ (-1)) fun v1 σ2 => some (0, σ2)
set_option maxHeartbeats 4000000 in
set_option maxRecDepth 100000 in
theorem kX3_clear_23 (l : Launch) (dC : Nat → ClassId) (dI : Nat → Nat → Nat) (cI : ClassId) (cA : ClassId) (a : Nat → Nat) (hi : ∀ i j, i < 37 → j < 37 → a i = a j → i = j) (σ : Mem) (r : (Int × Mem)) (hf : fX3_clear_23 σ  = some r) (hR : Rg σ) : Met l yX3_clear wsX3_clear ({ frames := 1, cells := 0, slots := 0, locals := 23 }) (va_Pc [.ref (a 23)] (preC dC dI cI cA a σ)) (qMv (dC, dI) (gw 37 a (cE cI cA a)) (gA 37 a) r) 0 0 (gA 37 a) := by
  refine Met.ofW (cc := cX3_clear) (maxL := 1) (ret := none) (by decide) rfl ?_
  intro p e s m args below meth c s₁ B hml hv
  obtain ⟨hargs, hP, hK, hN⟩ := hv
  have hx := B.exec
  have hb := B.bytes
  have hr := B.returns
  have hts := atoms_spec (ws := wsX3_clear) B.pre
  have hown : s.vm.findClass RX3 = some m.cls := findClass_of_methodNamed B.named
  have hlocks := B.notSynchronized
  have hS : va_S (gA 37 a) s.heap s.heap [] := va_S.rf
  have iX3 : ∀ w ∈ wsX30, w ∈ wsX3_clear := by decide +kernel
  have fl9 := hts (.fieldLink RX3 9 "MatchHall$Matching" "hospitalOf" "[I") (by decide +kernel)
  have hrm : 1 ≤ (headSpec wsX3_clear ({ frames := 1, cells := 0, slots := 0, locals := 23 })).room.frames ∧ 23 ≤ (headSpec wsX3_clear ({ frames := 1, cells := 0, slots := 0, locals := 23 })).room.locals := ⟨Nat.le_refl _, Nat.le_refl _⟩
  generalize (headSpec wsX3_clear ({ frames := 1, cells := 0, slots := 0, locals := 23 })).room = RR at hrm ⊢
  have hl := lv_entry ([.ref (a 23)]) (n := 1) (Nat.le_of_ble_eq_true rfl)
  rw [show entryFrame m args 1 = entryFrame m ([.ref (a 23)] : List Value).toArray 1 from by rw [hargs], lg_entry_eq]
  generalize (lg_sl ([.ref (a 23)]) ++ List.replicate (1 - (lg_sl ([.ref (a 23)])).length) Slot.unset).toArray = ls at hl ⊢
  have hl : lv_has ls 1 [(0, .ref (a 23))] := hl
  generalize hQQ : MQ below (qMv (dC, dI) (gw 37 a (cE cI cA a)) (gA 37 a) r) args s 0 0 (gA 37 a) = QQ
  refine lv_aload_n hx hb dX3_clear_0 rfl (lv_at hl 0 rfl) ?_
  refine x_get (C := RX3) (T := TX3) (NF := 2) (v := .ref (a 24)) hx hb hts iX3 hown hK hP 23 (by decide) (cE_23 cI cA a (_)) rfl 1 (by decide) fl9 rfl dX3_clear_1 ?_
  refine lv_iconst (v := iN (-1)) hx hb dX3_clear_4 rfl ?_
  obtain ⟨v1, σ2, hv1, hf⟩ := bd2 hf
  refine x_callMv (va_runS (As := [.ref (a 24), .int (iN (-1))]) (rest := []) ⟨hx, hb, hml, hown, hts⟩ (kJ7_fill_53178_c_24 l dC dI cI cA a hi σ (-1) (v1, σ2) hv1 hR (by decide)) (va_cwS 2 hts gX3_clear_J7_fill_53178 rfl rfl rfl hJ7_fill_53178_d ⟨Nat.le_trans (by decide) hrm.1, Nat.le_trans (by decide) hrm.2⟩) (psC hP hK hN) rfl rfl hl.1 rfl (lv_room (Nat.le_of_ble_eq_true rfl)) dX3_clear_5 ⟨Nat.zero_le _, Nat.zero_le _⟩) hS (fun rv1 hRσ2 H locs hP hS => ?_)
  rw [← hQQ]
  exact x_vretM hx hb hr (Option.some.inj hf) hRσ2 hP hS hlocks dX3_clear_8
def fX0_findAll_33 (σ : Mem) : Option (Int × Mem) := bnd2 (fX3_clear_23 σ ) fun v1 σ2 => bnd2 (fX0_letAllAsk_33 σ2 ) fun v3 σ4 => bnd2 (fX0_noteLimits_33 σ4 ) fun v5 σ6 => bnd2 (fX0_seatFrom 8 σ6 0) fun v7 σ8 => some (0, σ8)
set_option maxHeartbeats 4000000 in
set_option maxRecDepth 100000 in
theorem kX0_findAll_33 (l : Launch) (dC : Nat → ClassId) (dI : Nat → Nat → Nat) (cI : ClassId) (cA : ClassId) (a : Nat → Nat) (hi : ∀ i j, i < 37 → j < 37 → a i = a j → i = j) (σ : Mem) (r : (Int × Mem)) (hf : fX0_findAll_33 σ  = some r) (hR : Rg σ) : Met l yX0_findAll wsX0_findAll ({ frames := 33, cells := 0, slots := 0, locals := 1063 }) (va_Pc [.ref (a 33)] (preC dC dI cI cA a σ)) (qMv (dC, dI) (gw 37 a (cE cI cA a)) (gA 37 a) r) 0 0 (gA 37 a) := by
  refine Met.ofW (cc := cX0_findAll) (maxL := 1) (ret := none) (by decide) rfl ?_
  intro p e s m args below meth c s₁ B hml hv
  obtain ⟨hargs, hP, hK, hN⟩ := hv
  have hx := B.exec
  have hb := B.bytes
  have hr := B.returns
  have hts := atoms_spec (ws := wsX0_findAll) B.pre
  have hown : s.vm.findClass RX0 = some m.cls := findClass_of_methodNamed B.named
  have hlocks := B.notSynchronized
  have hS : va_S (gA 37 a) s.heap s.heap [] := va_S.rf
  have iX0 : ∀ w ∈ wsX00, w ∈ wsX0_findAll := by decide +kernel
  have fl29 := hts (.fieldLink RX0 29 "MatchHall$Finder" "trial" "LMatchHall$Matching;") (by decide +kernel)
  have hrm : 33 ≤ (headSpec wsX0_findAll ({ frames := 33, cells := 0, slots := 0, locals := 1063 })).room.frames ∧ 1063 ≤ (headSpec wsX0_findAll ({ frames := 33, cells := 0, slots := 0, locals := 1063 })).room.locals := ⟨Nat.le_refl _, Nat.le_refl _⟩
  generalize (headSpec wsX0_findAll ({ frames := 33, cells := 0, slots := 0, locals := 1063 })).room = RR at hrm ⊢
  have hl := lv_entry ([.ref (a 33)]) (n := 1) (Nat.le_of_ble_eq_true rfl)
  rw [show entryFrame m args 1 = entryFrame m ([.ref (a 33)] : List Value).toArray 1 from by rw [hargs], lg_entry_eq]
  generalize (lg_sl ([.ref (a 33)]) ++ List.replicate (1 - (lg_sl ([.ref (a 33)])).length) Slot.unset).toArray = ls at hl ⊢
  have hl : lv_has ls 1 [(0, .ref (a 33))] := hl
  generalize hQQ : MQ below (qMv (dC, dI) (gw 37 a (cE cI cA a)) (gA 37 a) r) args s 0 0 (gA 37 a) = QQ
  refine lv_aload_n hx hb dX0_findAll_0 rfl (lv_at hl 0 rfl) ?_
  refine x_get (C := RX0) (T := TX0) (NF := 6) (v := .ref (a 23)) hx hb hts iX0 hown hK hP 33 (by decide) (cE_33 cI cA a (_)) rfl 2 (by decide) fl29 rfl dX0_findAll_1 ?_
  obtain ⟨v1, σ2, hv1, hf⟩ := bd2 hf
  refine x_callMv (va_runV (As := []) (rest := []) ⟨hx, hb, hml, hown, hts⟩ (kX3_clear_23 l dC dI cI cA a hi σ  (v1, σ2) hv1 hR ) (cwV 0 hts gX0_findAll_X3_clear rfl rfl rfl hX3_clear_d ⟨Nat.le_trans (by decide) hrm.1, Nat.le_trans (by decide) hrm.2⟩) (pvC 23 (by decide) (cE_23 cI cA a (_)) rfl hP hK hN) rfl rfl hl.1 rfl (lv_room (Nat.le_of_ble_eq_true rfl)) dX0_findAll_4 ⟨Nat.zero_le _, Nat.zero_le _⟩) hS (fun rv1 hRσ2 H locs hP hS => ?_)
  refine lv_aload_n hx hb dX0_findAll_7 rfl (lv_at hl 0 rfl) ?_
  obtain ⟨v3, σ4, hv3, hf⟩ := bd2 hf
  refine x_callMv (va_runV (As := []) (rest := []) ⟨hx, hb, hml, hown, hts⟩ (kX0_letAllAsk_33 l dC dI cI cA a hi σ2  (v3, σ4) hv3 hRσ2 ) (cwV 0 hts gX0_findAll_X0_letAllAsk rfl rfl rfl hX0_letAllAsk_d ⟨Nat.le_trans (by decide) hrm.1, Nat.le_trans (by decide) hrm.2⟩) (pvC 33 (by decide) (cE_33 cI cA a (_)) rfl hP hK hN) rfl rfl hl.1 rfl (lv_room (Nat.le_of_ble_eq_true rfl)) dX0_findAll_8 ⟨Nat.zero_le _, Nat.zero_le _⟩) hS (fun rv3 hRσ4 H locs hP hS => ?_)
  refine lv_aload_n hx hb dX0_findAll_11 rfl (lv_at hl 0 rfl) ?_
  obtain ⟨v5, σ6, hv5, hf⟩ := bd2 hf
  refine x_callMv (va_runV (As := []) (rest := []) ⟨hx, hb, hml, hown, hts⟩ (kX0_noteLimits_33 l dC dI cI cA a hi σ4  (v5, σ6) hv5 hRσ4 ) (cwV 0 hts gX0_findAll_X0_noteLimits rfl rfl rfl hX0_noteLimits_d ⟨Nat.le_trans (by decide) hrm.1, Nat.le_trans (by decide) hrm.2⟩) (pvC 33 (by decide) (cE_33 cI cA a (_)) rfl hP hK hN) rfl rfl hl.1 rfl (lv_room (Nat.le_of_ble_eq_true rfl)) dX0_findAll_12 ⟨Nat.zero_le _, Nat.zero_le _⟩) hS (fun rv5 hRσ6 H locs hP hS => ?_)
  refine lv_aload_n hx hb dX0_findAll_15 rfl (lv_at hl 0 rfl) ?_
  refine lv_iconst (v := iN 0) hx hb dX0_findAll_16 rfl ?_
  obtain ⟨v7, σ8, hv7, hf⟩ := bd2 hf
  refine x_callMv (va_runV (As := [.int (iN 0)]) (rest := []) ⟨hx, hb, hml, hown, hts⟩ (kX0_seatFrom l dC dI cI cA a hi 8 σ6 0 (v7, σ8) hv7 hRσ6 (by decide)) (cwV 1 hts gX0_findAll_X0_seatFrom rfl rfl rfl hX0_seatFrom_d ⟨Nat.le_trans (by decide) hrm.1, Nat.le_trans (by decide) hrm.2⟩) (pvC 33 (by decide) (cE_33 cI cA a (_)) rfl hP hK hN) rfl rfl hl.1 rfl (lv_room (Nat.le_of_ble_eq_true rfl)) dX0_findAll_17 ⟨Nat.zero_le _, Nat.zero_le _⟩) hS (fun rv7 hRσ8 H locs hP hS => ?_)
  rw [← hQQ]
  exact x_vretM hx hb hr (Option.some.inj hf) hRσ8 hP hS hlocks dX0_findAll_20
def fX4_orderKey_28 (σ : Mem) (x1 : Int) (x2 : Int) : Option Int := (fX4_moverOf_28 σ x1 x2 0).bind fun v1 => if v1 = (-1) then some (-1) else if rng (v1 * 6) then (fX5_placeAt_25 σ x1 v1).bind fun v3 => if rng ((v1 * 6) + v3) then some ((v1 * 6) + v3) else none else none
set_option maxHeartbeats 4000000 in
set_option maxRecDepth 100000 in
theorem kX4_orderKey_28 (l : Launch) (dC : Nat → ClassId) (dI : Nat → Nat → Nat) (cI : ClassId) (cA : ClassId) (a : Nat → Nat) (σ : Mem) (x1 : Int) (x2 : Int) (r : Int) (hf : fX4_orderKey_28 σ x1 x2 = some r) (hR : Rg σ) (rx1 : rng x1) (rx2 : rng x2) : Met l yX4_orderKey wsX4_orderKey ({ frames := 2, cells := 0, slots := 0, locals := 47 }) (va_Pc [.ref (a 28), .int (iN x1), .int (iN x2)] (preC dC dI cI cA a σ)) (qP r) 0 0 (fun _ => False) := by
  refine Met.ofW (cc := cX4_orderKey) (maxL := 4) (ret := (some .int)) (by decide) rfl ?_
  intro p e s m args below meth c s₁ B hml hv
  obtain ⟨hargs, hP, hK, hN⟩ := hv
  have hx := B.exec
  have hb := B.bytes
  have hr := B.returns
  have hts := atoms_spec (ws := wsX4_orderKey) B.pre
  have hown : s.vm.findClass RX4 = some m.cls := findClass_of_methodNamed B.named
  have hlocks := B.notSynchronized
  have iX4 : ∀ w ∈ wsX40, w ∈ wsX4_orderKey := by decide +kernel
  have fl24 := hts (.fieldLink RX4 24 "MatchHall$Rotations" "stables" "LMatchHall$Stables;") (by decide +kernel)
  have hrm : 2 ≤ (headSpec wsX4_orderKey ({ frames := 2, cells := 0, slots := 0, locals := 47 })).room.frames ∧ 47 ≤ (headSpec wsX4_orderKey ({ frames := 2, cells := 0, slots := 0, locals := 47 })).room.locals := ⟨Nat.le_refl _, Nat.le_refl _⟩
  generalize (headSpec wsX4_orderKey ({ frames := 2, cells := 0, slots := 0, locals := 47 })).room = RR at hrm ⊢
  have hl := lv_entry ([.ref (a 28), .int (iN x1), .int (iN x2)]) (n := 4) (Nat.le_of_ble_eq_true rfl)
  rw [show entryFrame m args 4 = entryFrame m ([.ref (a 28), .int (iN x1), .int (iN x2)] : List Value).toArray 4 from by rw [hargs], lg_entry_eq]
  generalize (lg_sl ([.ref (a 28), .int (iN x1), .int (iN x2)]) ++ List.replicate (4 - (lg_sl ([.ref (a 28), .int (iN x1), .int (iN x2)])).length) Slot.unset).toArray = ls at hl ⊢
  have hl : lv_has ls 4 [(0, .ref (a 28)), (1, .int (iN x1)), (2, .int (iN x2))] := hl
  generalize hQQ : MQ below (qP r) args s 0 0 (fun _ => False) = QQ
  refine lv_aload_n hx hb dX4_orderKey_0 rfl (lv_at hl 0 rfl) ?_
  refine lv_iload_n hx hb dX4_orderKey_1 rfl (lv_at hl 1 rfl) ?_
  refine lv_iload_n hx hb dX4_orderKey_2 rfl (lv_at hl 2 rfl) ?_
  refine lv_iconst (v := iN 0) hx hb dX4_orderKey_3 rfl ?_
  obtain ⟨v1, hv1, hf⟩ := bd hf
  refine x_callP (va_runV (As := [.int (iN x1), .int (iN x2), .int (iN 0)]) (rest := []) ⟨hx, hb, hml, hown, hts⟩ (kX4_moverOf_28 l dC dI cI cA a σ x1 x2 0 v1 hv1 hR rx1 rx2 (by decide)) (cwV 3 hts gX4_orderKey_X4_moverOf rfl rfl rfl hX4_moverOf_d ⟨Nat.le_trans (by decide) hrm.1, Nat.le_trans (by decide) hrm.2⟩) (pvC 28 (by decide) (cE_28 cI cA a (_)) rfl hP hK hN) rfl rfl hl.1 rfl (lv_room (Nat.le_of_ble_eq_true rfl)) dX4_orderKey_4 ⟨Nat.zero_le _, Nat.zero_le _⟩) (fun rv1 => ?_)
  refine lv_istore_n (lv' := [(3, .int (iN v1)), (0, .ref (a 28)), (1, .int (iN x1)), (2, .int (iN x2))]) hx hb dX4_orderKey_7 rfl hl (by decide) rfl (fun ls hl => ?_)
  refine lv_iload_n hx hb dX4_orderKey_8 rfl (lv_at hl 0 rfl) ?_
  refine lv_iconst (v := iN (-1)) hx hb dX4_orderKey_9 rfl ?_
  refine x_icmp_ne (tgt := 17) hx hb rv1 (by decide) dX4_orderKey_10 (by decide) (fun c5 => ?_) (fun c5 => ?_)
  · replace hf := (if_neg c5).symm.trans hf
    refine lv_iload_n hx hb dX4_orderKey_17 rfl (lv_at hl 0 rfl) ?_
    refine lv_bipush (v := iN 6) hx hb dX4_orderKey_18 (by decide) ?_
    obtain ⟨g2, hf⟩ := gd hf
    refine x_imul hx hb dX4_orderKey_20 ?_
    refine lv_aload_n hx hb dX4_orderKey_21 rfl (lv_at hl 1 rfl) ?_
    refine x_get (C := RX4) (T := TX4) (NF := 6) (v := .ref (a 25)) hx hb hts iX4 hown hK hP 28 (by decide) (cE_28 cI cA a (_)) rfl 0 (by decide) fl24 rfl dX4_orderKey_22 ?_
    refine lv_iload_n hx hb dX4_orderKey_25 rfl (lv_at hl 2 rfl) ?_
    refine lv_iload_n hx hb dX4_orderKey_26 rfl (lv_at hl 0 rfl) ?_
    obtain ⟨v3, hv3, hf⟩ := bd hf
    refine x_callP (va_runV (As := [.int (iN x1), .int (iN v1)]) (rest := [.int (iN (v1 * 6))]) ⟨hx, hb, hml, hown, hts⟩ (kX5_placeAt_25 l dC dI cI cA a σ x1 v1 v3 hv3 hR rx1 rv1) (cwV 2 hts gX4_orderKey_X5_placeAt rfl rfl rfl hX5_placeAt_d ⟨Nat.le_trans (by decide) hrm.1, Nat.le_trans (by decide) hrm.2⟩) (pvC 25 (by decide) (cE_25 cI cA a (_)) rfl hP hK hN) rfl rfl hl.1 rfl (lv_room (Nat.le_of_ble_eq_true rfl)) dX4_orderKey_27 ⟨Nat.zero_le _, Nat.zero_le _⟩) (fun rv3 => ?_)
    obtain ⟨g4, hf⟩ := gd hf
    refine x_iadd hx hb dX4_orderKey_30 ?_
    rw [← hQQ]
    exact x_iret hx hb hr (Option.some.inj hf) g4 hlocks dX4_orderKey_31
  · replace hf := (if_pos c5).symm.trans hf
    refine lv_iconst (v := iN (-1)) hx hb dX4_orderKey_13 rfl ?_
    refine lv_goto (tgt := 31) hx hb dX4_orderKey_14 (by decide) ?_
    rw [← hQQ]
    exact x_iret hx hb hr (Option.some.inj hf) (by decide) hlocks dX4_orderKey_31
def fX4_makeRoomAt_28_L5 (x1 : Int) (ex0 : Mem → Int → Option (Int × Mem)) : Nat → Mem → Int → Option (Int × Mem)
  | 0, _, _ => none
  | n0 + 1, σ2, v1 => if x1 < v1 then if rng (v1 - 1) then if (0 : Int) ≤ (v1 - 1) ∧ ((v1 - 1) : Int) < 15 then if (0 : Int) ≤ v1 ∧ (v1 : Int) < 15 then nx (mup σ2 29 v1 (σ2 29 (v1 - 1))) fun σ6 => if rng (v1 - 1) then if (0 : Int) ≤ (v1 - 1) ∧ ((v1 - 1) : Int) < 15 then if (0 : Int) ≤ v1 ∧ (v1 : Int) < 15 then nx (mup σ6 30 v1 (σ6 30 (v1 - 1))) fun σ10 => if rng (v1 - 1) then if (0 : Int) ≤ (v1 - 1) ∧ ((v1 - 1) : Int) < 15 then if (0 : Int) ≤ v1 ∧ (v1 : Int) < 15 then nx (mup σ10 31 v1 (σ10 31 (v1 - 1))) fun σ14 => if rng (v1 + (-1)) then fX4_makeRoomAt_28_L5 x1 ex0 n0 σ14 (v1 + (-1)) else none else none else none else none else none else none else none else none else none else none else ex0 σ2 v1
def fX4_makeRoomAt_28 (σ : Mem) (x1 : Int) : Option (Int × Mem) := fX4_makeRoomAt_28_L5 x1 (fun σ18 v17 => some (0, σ18)) FU σ (σ 28 5)
set_option maxHeartbeats 4000000 in
set_option maxRecDepth 100000 in
theorem kX4_makeRoomAt_28 (l : Launch) (dC : Nat → ClassId) (dI : Nat → Nat → Nat) (cI : ClassId) (cA : ClassId) (a : Nat → Nat) (hi : ∀ i j, i < 37 → j < 37 → a i = a j → i = j) (σ : Mem) (x1 : Int) (r : (Int × Mem)) (hf : fX4_makeRoomAt_28 σ x1 = some r) (hR : Rg σ) (rx1 : rng x1) : Met l yX4_makeRoomAt wsX4_makeRoomAt ({ frames := 0, cells := 0, slots := 0, locals := 0 }) (va_Pc [.ref (a 28), .int (iN x1)] (preC dC dI cI cA a σ)) (qMv (dC, dI) (gw 37 a (cE cI cA a)) (gA 37 a) r) 0 0 (gA 37 a) := by
  refine Met.ofW (cc := cX4_makeRoomAt) (maxL := 3) (ret := none) (by decide) rfl ?_
  intro p e s m args below meth c s₁ B hml hv
  obtain ⟨hargs, hP, hK, hN⟩ := hv
  have hx := B.exec
  have hb := B.bytes
  have hr := B.returns
  have hts := atoms_spec (ws := wsX4_makeRoomAt) B.pre
  have hown : s.vm.findClass RX4 = some m.cls := findClass_of_methodNamed B.named
  have hlocks := B.notSynchronized
  have hS : va_S (gA 37 a) s.heap s.heap [] := va_S.rf
  have iX4 : ∀ w ∈ wsX40, w ∈ wsX4_makeRoomAt := by decide +kernel
  have fl15 := hts (.fieldLink RX4 15 "MatchHall$Rotations" "to" "[I") (by decide +kernel)
  have fl18 := hts (.fieldLink RX4 18 "MatchHall$Rotations" "keys" "[I") (by decide +kernel)
  have fl28 := hts (.fieldLink RX4 28 "MatchHall$Rotations" "size" "I") (by decide +kernel)
  have fl9 := hts (.fieldLink RX4 9 "MatchHall$Rotations" "from" "[I") (by decide +kernel)
  have hrm : 0 ≤ (headSpec wsX4_makeRoomAt ({ frames := 0, cells := 0, slots := 0, locals := 0 })).room.frames ∧ 0 ≤ (headSpec wsX4_makeRoomAt ({ frames := 0, cells := 0, slots := 0, locals := 0 })).room.locals := ⟨Nat.le_refl _, Nat.le_refl _⟩
  generalize (headSpec wsX4_makeRoomAt ({ frames := 0, cells := 0, slots := 0, locals := 0 })).room = RR at hrm ⊢
  have hl := lv_entry ([.ref (a 28), .int (iN x1)]) (n := 3) (Nat.le_of_ble_eq_true rfl)
  rw [show entryFrame m args 3 = entryFrame m ([.ref (a 28), .int (iN x1)] : List Value).toArray 3 from by rw [hargs], lg_entry_eq]
  generalize (lg_sl ([.ref (a 28), .int (iN x1)]) ++ List.replicate (3 - (lg_sl ([.ref (a 28), .int (iN x1)])).length) Slot.unset).toArray = ls at hl ⊢
  have hl : lv_has ls 3 [(0, .ref (a 28)), (1, .int (iN x1))] := hl
  generalize hQQ : MQ below (qMv (dC, dI) (gw 37 a (cE cI cA a)) (gA 37 a) r) args s 0 0 (gA 37 a) = QQ
  refine lv_aload_n hx hb dX4_makeRoomAt_0 rfl (lv_at hl 0 rfl) ?_
  refine x_get (C := RX4) (T := TX4) (NF := 6) (v := .int (iN (σ 28 5))) hx hb hts iX4 hown hK hP 28 (by decide) (cE_28 cI cA a (_)) rfl 5 (by decide) fl28 rfl dX4_makeRoomAt_1 ?_
  refine lv_istore_n (lv' := [(2, .int (iN (σ 28 5))), (0, .ref (a 28)), (1, .int (iN x1))]) hx hb dX4_makeRoomAt_4 rfl hl (by decide) rfl (fun ls hl => ?_)
  have L_fX4_makeRoomAt_28_L5 : ∀ (EX0 : Mem → Int → Option (Int × Mem)), (∀ (σ2 : Mem) (v1 : Int), Rg σ2 → rng v1 → EX0 σ2 v1 = some r → ∀ H locs ls, va_P (dC, dI) vwCl (gw 37 a (cE cI cA a) σ2) H → va_S (gA 37 a) s.heap H locs → lv_has ls 3 [(0, .ref (a 28)), (1, .int (iN x1)), (2, .int (iN v1))] → W p l e RR s m args below meth c H locs 0 0 QQ (F0 m 58 ls [])) → ∀ n0 : Nat, ∀ (σ2 : Mem) (v1 : Int), Rg σ2 → rng v1 → fX4_makeRoomAt_28_L5 x1 EX0 n0 σ2 v1 = some r → ∀ H locs ls, va_P (dC, dI) vwCl (gw 37 a (cE cI cA a) σ2) H → va_S (gA 37 a) s.heap H locs → lv_has ls 3 [(0, .ref (a 28)), (1, .int (iN x1)), (2, .int (iN v1))] → W p l e RR s m args below meth c H locs 0 0 QQ (F0 m 5 ls []) := by
    intro EX0 hEX0 n0
    induction n0 with
    | zero => intro _ _ _ _ hf; cases hf
    | succ n0 ih0 =>
      intro σ2 v1 hRσ2 rv1 hf H locs ls hP hS hl
      rw [fX4_makeRoomAt_28_L5] at hf
      refine lv_iload_n hx hb dX4_makeRoomAt_5 rfl (lv_at hl 2 rfl) ?_
      refine lv_iload_n hx hb dX4_makeRoomAt_6 rfl (lv_at hl 1 rfl) ?_
      refine x_icmp_le (tgt := 58) hx hb rv1 rx1 dX4_makeRoomAt_7 (by decide) (fun c16 => ?_) (fun c16 => ?_)
      · replace hf := (if_neg c16).symm.trans hf
        exact hEX0 _ _ hRσ2 rv1 hf _ _ _ hP hS (lv_sub hl [0, 1, 2] rfl)
      · replace hf := (if_pos c16).symm.trans hf
        refine lv_aload_n hx hb dX4_makeRoomAt_10 rfl (lv_at hl 0 rfl) ?_
        refine x_get (C := RX4) (T := TX4) (NF := 6) (v := .ref (a 29)) hx hb hts iX4 hown hK hP 28 (by decide) (cE_28 cI cA a (_)) rfl 1 (by decide) fl9 rfl dX4_makeRoomAt_11 ?_
        refine lv_iload_n hx hb dX4_makeRoomAt_14 rfl (lv_at hl 2 rfl) ?_
        refine lv_aload_n hx hb dX4_makeRoomAt_15 rfl (lv_at hl 0 rfl) ?_
        refine x_get (C := RX4) (T := TX4) (NF := 6) (v := .ref (a 29)) hx hb hts iX4 hown hK hP 28 (by decide) (cE_28 cI cA a (_)) rfl 1 (by decide) fl9 rfl dX4_makeRoomAt_16 ?_
        refine lv_iload_n hx hb dX4_makeRoomAt_19 rfl (lv_at hl 2 rfl) ?_
        refine lv_iconst (v := iN 1) hx hb dX4_makeRoomAt_20 rfl ?_
        obtain ⟨g3, hf⟩ := gd hf
        refine x_isub hx hb dX4_makeRoomAt_21 ?_
        obtain ⟨g4, hf⟩ := gd hf
        refine x_iald hx hb hK hP 29 0 (by decide) (cE_29 cI cA a (_)) (by decide) rfl g4 dX4_makeRoomAt_22 ?_
        obtain ⟨g5, hf⟩ := gd hf
        obtain ⟨σ6, hσ6, hf⟩ := nxe hf
        refine x_iast (x := (σ2 29 (v1 - 1))) hx hb hi hK hP hS 29 0 (by decide) (cE_29 cI cA a) (by decide) rfl g5 dX4_makeRoomAt_23 (fun H locs hP hS => ?_)
        rw [← hσ6] at hP
        have hRσ6 : Rg σ6 := by rw [hσ6]; exact Rg_up hRσ2 (hRσ2 29 (v1 - 1))
        refine lv_aload_n hx hb dX4_makeRoomAt_24 rfl (lv_at hl 0 rfl) ?_
        refine x_get (C := RX4) (T := TX4) (NF := 6) (v := .ref (a 30)) hx hb hts iX4 hown hK hP 28 (by decide) (cE_28 cI cA a (_)) rfl 2 (by decide) fl15 rfl dX4_makeRoomAt_25 ?_
        refine lv_iload_n hx hb dX4_makeRoomAt_28 rfl (lv_at hl 2 rfl) ?_
        refine lv_aload_n hx hb dX4_makeRoomAt_29 rfl (lv_at hl 0 rfl) ?_
        refine x_get (C := RX4) (T := TX4) (NF := 6) (v := .ref (a 30)) hx hb hts iX4 hown hK hP 28 (by decide) (cE_28 cI cA a (_)) rfl 2 (by decide) fl15 rfl dX4_makeRoomAt_30 ?_
        refine lv_iload_n hx hb dX4_makeRoomAt_33 rfl (lv_at hl 2 rfl) ?_
        refine lv_iconst (v := iN 1) hx hb dX4_makeRoomAt_34 rfl ?_
        obtain ⟨g7, hf⟩ := gd hf
        refine x_isub hx hb dX4_makeRoomAt_35 ?_
        obtain ⟨g8, hf⟩ := gd hf
        refine x_iald hx hb hK hP 30 0 (by decide) (cE_30 cI cA a (_)) (by decide) rfl g8 dX4_makeRoomAt_36 ?_
        obtain ⟨g9, hf⟩ := gd hf
        obtain ⟨σ10, hσ10, hf⟩ := nxe hf
        refine x_iast (x := (σ6 30 (v1 - 1))) hx hb hi hK hP hS 30 0 (by decide) (cE_30 cI cA a) (by decide) rfl g9 dX4_makeRoomAt_37 (fun H locs hP hS => ?_)
        rw [← hσ10] at hP
        have hRσ10 : Rg σ10 := by rw [hσ10]; exact Rg_up hRσ6 (hRσ6 30 (v1 - 1))
        refine lv_aload_n hx hb dX4_makeRoomAt_38 rfl (lv_at hl 0 rfl) ?_
        refine x_get (C := RX4) (T := TX4) (NF := 6) (v := .ref (a 31)) hx hb hts iX4 hown hK hP 28 (by decide) (cE_28 cI cA a (_)) rfl 3 (by decide) fl18 rfl dX4_makeRoomAt_39 ?_
        refine lv_iload_n hx hb dX4_makeRoomAt_42 rfl (lv_at hl 2 rfl) ?_
        refine lv_aload_n hx hb dX4_makeRoomAt_43 rfl (lv_at hl 0 rfl) ?_
        refine x_get (C := RX4) (T := TX4) (NF := 6) (v := .ref (a 31)) hx hb hts iX4 hown hK hP 28 (by decide) (cE_28 cI cA a (_)) rfl 3 (by decide) fl18 rfl dX4_makeRoomAt_44 ?_
        refine lv_iload_n hx hb dX4_makeRoomAt_47 rfl (lv_at hl 2 rfl) ?_
        refine lv_iconst (v := iN 1) hx hb dX4_makeRoomAt_48 rfl ?_
        obtain ⟨g11, hf⟩ := gd hf
        refine x_isub hx hb dX4_makeRoomAt_49 ?_
        obtain ⟨g12, hf⟩ := gd hf
        refine x_iald hx hb hK hP 31 0 (by decide) (cE_31 cI cA a (_)) (by decide) rfl g12 dX4_makeRoomAt_50 ?_
        obtain ⟨g13, hf⟩ := gd hf
        obtain ⟨σ14, hσ14, hf⟩ := nxe hf
        refine x_iast (x := (σ10 31 (v1 - 1))) hx hb hi hK hP hS 31 0 (by decide) (cE_31 cI cA a) (by decide) rfl g13 dX4_makeRoomAt_51 (fun H locs hP hS => ?_)
        rw [← hσ14] at hP
        have hRσ14 : Rg σ14 := by rw [hσ14]; exact Rg_up hRσ10 (hRσ10 31 (v1 - 1))
        obtain ⟨g15, hf⟩ := gd hf
        refine lv_iinc (v := iN (v1 + (-1))) (lv' := [(2, .int (iN (v1 + (-1)))), (0, .ref (a 28)), (1, .int (iN x1))]) hx hb dX4_makeRoomAt_52 hl (k := 2) rfl (iN_add v1 (-1)) (by decide) rfl (fun ls hl => ?_)
        refine lv_goto (tgt := 5) hx hb dX4_makeRoomAt_55 (by decide) ?_
        exact ih0 _ _ hRσ14 g15 hf _ _ _ hP hS (lv_sub hl [1, 2, 0] rfl)
  refine L_fX4_makeRoomAt_28_L5 _ (fun σ18 v17 hRσ18 rv17 hf H locs ls hP hS hl => ?_) _ _ _ hR (hR 28 5) hf _ _ _ hP hS (lv_sub hl [1, 2, 0] rfl)
  rw [← hQQ]
  exact x_vretM hx hb hr (Option.some.inj hf) hRσ18 hP hS hlocks dX4_makeRoomAt_58
