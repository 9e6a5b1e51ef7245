def fX7_isList_0 (σ : Mem) (x1 : Int) (x2 : Int) : Option Int := (fX7_in σ x1 0 1).bind fun v1 => if v1 = 0 then some 0 else (fX7_sizeOf_0 σ x1).bind fun v2 => if rng (v2 - 1) then (fX7_in σ x2 0 (v2 - 1)).bind fun v4 => if v4 = 0 then some 0 else some 1 else none
set_option maxHeartbeats 4000000 in
set_option maxRecDepth 100000 in
theorem kX7_isList_0 (l : Launch) (dC : Nat → ClassId) (dI : Nat → Nat → Nat) (cI : ClassId) (a : Nat → Nat) (σ : Mem) (x1 : Int) (x2 : Int) (r : Int) (hf : fX7_isList_0 σ x1 x2 = some r) (hR : Rg σ) (rx1 : rng x1) (rx2 : rng x2) : Met l yX7_isList wsX7_isList ({ frames := 1, cells := 0, slots := 0, locals := 22 }) (va_Pc [.ref (a 0), .int (iN x1), .int (iN x2)] (preM dC dI cI a σ)) (qP r) 0 0 (fun _ => False) := by
  refine Met.ofW (cc := cX7_isList) (maxL := 3) (ret := (some .boolean)) (by decide) rfl ?_
  intro p e s m args below meth c s₁ B hml hv
  obtain ⟨hargs, hP, hK⟩ := hv
  have hx := B.exec
  have hb := B.bytes
  have hr := B.returns
  have hts := atoms_spec (ws := wsX7_isList) B.pre
  have hown : s.vm.findClass RX7 = some m.cls := findClass_of_methodNamed B.named
  have hlocks := B.notSynchronized
  have hrm : 1 ≤ (headSpec wsX7_isList ({ frames := 1, cells := 0, slots := 0, locals := 22 })).room.frames ∧ 22 ≤ (headSpec wsX7_isList ({ frames := 1, cells := 0, slots := 0, locals := 22 })).room.locals := ⟨Nat.le_refl _, Nat.le_refl _⟩
  generalize (headSpec wsX7_isList ({ frames := 1, cells := 0, slots := 0, locals := 22 })).room = RR at hrm ⊢
  have hl := lv_entry ([.ref (a 0), .int (iN x1), .int (iN x2)]) (n := 3) (Nat.le_of_ble_eq_true rfl)
  rw [show entryFrame m args 3 = entryFrame m ([.ref (a 0), .int (iN x1), .int (iN x2)] : List Value).toArray 3 from by rw [hargs], lg_entry_eq]
  generalize (lg_sl ([.ref (a 0), .int (iN x1), .int (iN x2)]) ++ List.replicate (3 - (lg_sl ([.ref (a 0), .int (iN x1), .int (iN x2)])).length) Slot.unset).toArray = ls at hl ⊢
  have hl : lv_has ls 3 [(0, .ref (a 0)), (1, .int (iN x1)), (2, .int (iN x2))] := hl
  generalize hQQ : MQ below (qP r) args s 0 0 (fun _ => False) = QQ
  refine lv_iload_n hx hb dX7_isList_0 rfl (lv_at hl 1 rfl) ?_
  refine lv_iconst (v := iN 0) hx hb dX7_isList_1 rfl ?_
  refine lv_iconst (v := iN 1) hx hb dX7_isList_2 rfl ?_
  obtain ⟨v1, hv1, hf⟩ := bd hf
  refine x_callP (va_runS (As := [.int (iN x1), .int (iN 0), .int (iN 1)]) (rest := []) ⟨hx, hb, hml, hown, hts⟩ (kX7_in l dC dI cI a σ x1 0 1 v1 hv1 hR rx1 (by decide) (by decide)) (va_cwS 3 hts gX7_isList_X7_in rfl rfl rfl hX7_in_d ⟨Nat.le_trans (by decide) hrm.1, Nat.le_trans (by decide) hrm.2⟩) (psM hP hK) rfl rfl hl.1 rfl (lv_room (Nat.le_of_ble_eq_true rfl)) dX7_isList_3 ⟨Nat.zero_le _, Nat.zero_le _⟩) (fun rv1 => ?_)
  refine x_if_eq (tgt := 28) hx hb rv1 dX7_isList_6 (by decide) (fun c6 => ?_) (fun c6 => ?_)
  · replace hf := (if_pos c6).symm.trans hf
    refine lv_iconst (v := iN 0) hx hb dX7_isList_28 rfl ?_
    rw [← hQQ]
    exact x_zret hx hb hr (by decide) (Option.some.inj hf) (by decide) hlocks dX7_isList_29
  · replace hf := (if_neg c6).symm.trans hf
    refine lv_iload_n hx hb dX7_isList_9 rfl (lv_at hl 2 rfl) ?_
    refine lv_iconst (v := iN 0) hx hb dX7_isList_10 rfl ?_
    refine lv_aload_n hx hb dX7_isList_11 rfl (lv_at hl 0 rfl) ?_
    refine lv_iload_n hx hb dX7_isList_12 rfl (lv_at hl 1 rfl) ?_
    obtain ⟨v2, hv2, hf⟩ := bd hf
    refine x_callP (va_runV (As := [.int (iN x1)]) (rest := [.int (iN 0), .int (iN x2)]) ⟨hx, hb, hml, hown, hts⟩ (kX7_sizeOf_0 l dC dI cI a σ x1 v2 hv2 hR rx1) (cwV 1 hts gX7_isList_X7_sizeOf rfl rfl rfl hX7_sizeOf_d ⟨Nat.le_trans (by decide) hrm.1, Nat.le_trans (by decide) hrm.2⟩) (pvM 0 (by decide) (mE_0 cI a (_)) rfl hP hK) rfl rfl hl.1 rfl (lv_room (Nat.le_of_ble_eq_true rfl)) dX7_isList_13 ⟨Nat.zero_le _, Nat.zero_le _⟩) (fun rv2 => ?_)
    refine lv_iconst (v := iN 1) hx hb dX7_isList_16 rfl ?_
    obtain ⟨g3, hf⟩ := gd hf
    refine x_isub hx hb dX7_isList_17 ?_
    obtain ⟨v4, hv4, hf⟩ := bd hf
    refine x_callP (va_runS (As := [.int (iN x2), .int (iN 0), .int (iN (v2 - 1))]) (rest := []) ⟨hx, hb, hml, hown, hts⟩ (kX7_in l dC dI cI a σ x2 0 (v2 - 1) v4 hv4 hR rx2 (by decide) g3) (va_cwS 3 hts gX7_isList_X7_in rfl rfl rfl hX7_in_d ⟨Nat.le_trans (by decide) hrm.1, Nat.le_trans (by decide) hrm.2⟩) (psM hP hK) rfl rfl hl.1 rfl (lv_room (Nat.le_of_ble_eq_true rfl)) dX7_isList_18 ⟨Nat.zero_le _, Nat.zero_le _⟩) (fun rv4 => ?_)
    refine x_if_eq (tgt := 28) hx hb rv4 dX7_isList_21 (by decide) (fun c5 => ?_) (fun c5 => ?_)
    · replace hf := (if_pos c5).symm.trans hf
      refine lv_iconst (v := iN 0) hx hb dX7_isList_28 rfl ?_
      rw [← hQQ]
      exact x_zret hx hb hr (by decide) (Option.some.inj hf) (by decide) hlocks dX7_isList_29
    · replace hf := (if_neg c5).symm.trans hf
      refine lv_iconst (v := iN 1) hx hb dX7_isList_24 rfl ?_
      refine lv_goto (tgt := 29) hx hb dX7_isList_25 (by decide) ?_
      rw [← hQQ]
      exact x_zret hx hb hr (by decide) (Option.some.inj hf) (by decide) hlocks dX7_isList_29
def fX7_place_0_L6 (σ : Mem) (x1 : Int) (x2 : Int) (x3 : Int) (ex0 : Int → Int → Option Int) : Nat → Int → Int → Option Int
  | 0, _, _ => none
  | n0 + 1, v1, v2 => if rng (6 * x1) then if rng ((6 * x1) + x2) then if (0 : Int) ≤ ((6 * x1) + x2) ∧ (((6 * x1) + x2) : Int) < 12 then if v2 < (σ 3 ((6 * x1) + x2)) then if rng (36 * x1) then if rng (6 * x2) then if rng ((36 * x1) + (6 * x2)) then if rng (((36 * x1) + (6 * x2)) + v2) then if (0 : Int) ≤ (((36 * x1) + (6 * x2)) + v2) ∧ ((((36 * x1) + (6 * x2)) + v2) : Int) < 72 then if (σ 2 (((36 * x1) + (6 * x2)) + v2)) = x3 then if rng (v2 + 1) then fX7_place_0_L6 σ x1 x2 x3 ex0 n0 v2 (v2 + 1) else none else if rng (v2 + 1) then fX7_place_0_L6 σ x1 x2 x3 ex0 n0 v1 (v2 + 1) else none else none else none else none else none else none else ex0 v1 v2 else none else none else none
def fX7_place_0 (σ : Mem) (x1 : Int) (x2 : Int) (x3 : Int) : Option Int := fX7_place_0_L6 σ x1 x2 x3 (fun v15 v16 => some v15) FU (-1) 0
set_option maxHeartbeats 4000000 in
set_option maxRecDepth 100000 in
theorem kX7_place_0 (l : Launch) (dC : Nat → ClassId) (dI : Nat → Nat → Nat) (cI : ClassId) (a : Nat → Nat) (σ : Mem) (x1 : Int) (x2 : Int) (x3 : Int) (r : Int) (hf : fX7_place_0 σ x1 x2 x3 = some r) (hR : Rg σ) (rx1 : rng x1) (rx2 : rng x2) (rx3 : rng x3) : Met l yX7_place wsX7_place ({ frames := 0, cells := 0, slots := 0, locals := 0 }) (va_Pc [.ref (a 0), .int (iN x1), .int (iN x2), .int (iN x3)] (preM dC dI cI a σ)) (qP r) 0 0 (fun _ => False) := by
  refine Met.ofW (cc := cX7_place) (maxL := 6) (ret := (some .int)) (by decide) rfl ?_
  intro p e s m args below meth c s₁ B hml hv
  obtain ⟨hargs, hP, hK⟩ := hv
  have hx := B.exec
  have hb := B.bytes
  have hr := B.returns
  have hts := atoms_spec (ws := wsX7_place) B.pre
  have hown : s.vm.findClass RX7 = some m.cls := findClass_of_methodNamed B.named
  have hlocks := B.notSynchronized
  have iX7 : ∀ w ∈ wsX70, w ∈ wsX7_place := by decide +kernel
  have fl20 := hts (.fieldLink RX7 20 "MatchHallModel" "lists" "[I") (by decide +kernel)
  have fl23 := hts (.fieldLink RX7 23 "MatchHallModel" "longs" "[I") (by decide +kernel)
  have hrm : 0 ≤ (headSpec wsX7_place ({ frames := 0, cells := 0, slots := 0, locals := 0 })).room.frames ∧ 0 ≤ (headSpec wsX7_place ({ frames := 0, cells := 0, slots := 0, locals := 0 })).room.locals := ⟨Nat.le_refl _, Nat.le_refl _⟩
  generalize (headSpec wsX7_place ({ frames := 0, cells := 0, slots := 0, locals := 0 })).room = RR at hrm ⊢
  have hl := lv_entry ([.ref (a 0), .int (iN x1), .int (iN x2), .int (iN x3)]) (n := 6) (Nat.le_of_ble_eq_true rfl)
  rw [show entryFrame m args 6 = entryFrame m ([.ref (a 0), .int (iN x1), .int (iN x2), .int (iN x3)] : List Value).toArray 6 from by rw [hargs], lg_entry_eq]
  generalize (lg_sl ([.ref (a 0), .int (iN x1), .int (iN x2), .int (iN x3)]) ++ List.replicate (6 - (lg_sl ([.ref (a 0), .int (iN x1), .int (iN x2), .int (iN x3)])).length) Slot.unset).toArray = ls at hl ⊢
  have hl : lv_has ls 6 [(0, .ref (a 0)), (1, .int (iN x1)), (2, .int (iN x2)), (3, .int (iN x3))] := hl
  generalize hQQ : MQ below (qP r) args s 0 0 (fun _ => False) = QQ
  refine lv_iconst (v := iN (-1)) hx hb dX7_place_0 rfl ?_
  refine lv_istore (lv' := [(4, .int (iN (-1))), (0, .ref (a 0)), (1, .int (iN x1)), (2, .int (iN x2)), (3, .int (iN x3))]) hx hb dX7_place_1 hl (by decide) rfl (fun ls hl => ?_)
  refine lv_iconst (v := iN 0) hx hb dX7_place_3 rfl ?_
  refine lv_istore (lv' := [(5, .int (iN 0)), (4, .int (iN (-1))), (0, .ref (a 0)), (1, .int (iN x1)), (2, .int (iN x2)), (3, .int (iN x3))]) hx hb dX7_place_4 hl (by decide) rfl (fun ls hl => ?_)
  have L_fX7_place_0_L6 : ∀ (EX0 : Int → Int → Option Int), (∀ (v1 : Int) (v2 : Int), rng v1 → rng v2 → EX0 v1 v2 = some r → ∀ ls, lv_has ls 6 [(0, .ref (a 0)), (1, .int (iN x1)), (2, .int (iN x2)), (3, .int (iN x3)), (4, .int (iN v1)), (5, .int (iN v2))] → W p l e RR s m args below meth c s.heap [] 0 0 QQ (F0 m 58 ls [])) → ∀ n0 : Nat, ∀ (v1 : Int) (v2 : Int), rng v1 → rng v2 → fX7_place_0_L6 σ x1 x2 x3 EX0 n0 v1 v2 = some r → ∀ ls, lv_has ls 6 [(0, .ref (a 0)), (1, .int (iN x1)), (2, .int (iN x2)), (3, .int (iN x3)), (4, .int (iN v1)), (5, .int (iN v2))] → W p l e RR s m args below meth c s.heap [] 0 0 QQ (F0 m 6 ls []) := by
    intro EX0 hEX0 n0
    induction n0 with
    | zero => intro _ _ _ _ hf; cases hf
    | succ n0 ih0 =>
      intro v1 v2 rv1 rv2 hf ls hl
      rw [fX7_place_0_L6] at hf
      refine lv_iload hx hb dX7_place_6 (lv_at hl 5 rfl) ?_
      refine lv_aload_n hx hb dX7_place_8 rfl (lv_at hl 0 rfl) ?_
      refine x_get (C := RX7) (T := TX7) (NF := 17) (v := .ref (a 3)) hx hb hts iX7 hown hK hP 0 (by decide) (mE_0 cI a (_)) rfl 5 (by decide) fl23 rfl dX7_place_9 ?_
      refine lv_bipush (v := iN 6) hx hb dX7_place_12 (by decide) ?_
      refine lv_iload_n hx hb dX7_place_14 rfl (lv_at hl 1 rfl) ?_
      obtain ⟨g3, hf⟩ := gd hf
      refine x_imul hx hb dX7_place_15 ?_
      refine lv_iload_n hx hb dX7_place_16 rfl (lv_at hl 2 rfl) ?_
      obtain ⟨g4, hf⟩ := gd hf
      refine x_iadd hx hb dX7_place_17 ?_
      obtain ⟨g5, hf⟩ := gd hf
      refine x_iald hx hb hK hP 3 0 (by decide) (mE_3 cI a (_)) (by decide) rfl g5 dX7_place_18 ?_
      refine x_icmp_ge (tgt := 58) hx hb rv2 (hR 3 ((6 * x1) + x2)) dX7_place_19 (by decide) (fun c14 => ?_) (fun c14 => ?_)
      · replace hf := (if_neg c14).symm.trans hf
        exact hEX0 _ _ rv1 rv2 hf _ (lv_sub hl [0, 1, 2, 3, 4, 5] rfl)
      · replace hf := (if_pos c14).symm.trans hf
        refine lv_aload_n hx hb dX7_place_22 rfl (lv_at hl 0 rfl) ?_
        refine x_get (C := RX7) (T := TX7) (NF := 17) (v := .ref (a 2)) hx hb hts iX7 hown hK hP 0 (by decide) (mE_0 cI a (_)) rfl 4 (by decide) fl20 rfl dX7_place_23 ?_
        refine lv_bipush (v := iN 36) hx hb dX7_place_26 (by decide) ?_
        refine lv_iload_n hx hb dX7_place_28 rfl (lv_at hl 1 rfl) ?_
        obtain ⟨g6, hf⟩ := gd hf
        refine x_imul hx hb dX7_place_29 ?_
        refine lv_bipush (v := iN 6) hx hb dX7_place_30 (by decide) ?_
        refine lv_iload_n hx hb dX7_place_32 rfl (lv_at hl 2 rfl) ?_
        obtain ⟨g7, hf⟩ := gd hf
        refine x_imul hx hb dX7_place_33 ?_
        obtain ⟨g8, hf⟩ := gd hf
        refine x_iadd hx hb dX7_place_34 ?_
        refine lv_iload hx hb dX7_place_35 (lv_at hl 5 rfl) ?_
        obtain ⟨g9, hf⟩ := gd hf
        refine x_iadd hx hb dX7_place_37 ?_
        obtain ⟨g10, hf⟩ := gd hf
        refine x_iald hx hb hK hP 2 0 (by decide) (mE_2 cI a (_)) (by decide) rfl g10 dX7_place_38 ?_
        refine lv_iload_n hx hb dX7_place_39 rfl (lv_at hl 3 rfl) ?_
        refine x_icmp_ne (tgt := 48) hx hb (hR 2 (((36 * x1) + (6 * x2)) + v2)) rx3 dX7_place_40 (by decide) (fun c13 => ?_) (fun c13 => ?_)
        · replace hf := (if_neg c13).symm.trans hf
          refine lv_iload hx hb dX7_place_48 (lv_at hl 4 rfl) ?_
          refine lv_istore (lv' := [(4, .int (iN v1)), (0, .ref (a 0)), (1, .int (iN x1)), (2, .int (iN x2)), (3, .int (iN x3)), (5, .int (iN v2))]) hx hb dX7_place_50 hl (by decide) rfl (fun ls hl => ?_)
          obtain ⟨g11, hf⟩ := gd hf
          refine lv_iinc (v := iN (v2 + 1)) (lv' := [(5, .int (iN (v2 + 1))), (4, .int (iN v1)), (0, .ref (a 0)), (1, .int (iN x1)), (2, .int (iN x2)), (3, .int (iN x3))]) hx hb dX7_place_52 hl (k := 5) rfl (iN_add v2 1) (by decide) rfl (fun ls hl => ?_)
          refine lv_goto (tgt := 6) hx hb dX7_place_55 (by decide) ?_
          exact ih0 _ _ rv1 g11 hf _ (lv_sub hl [2, 3, 4, 5, 1, 0] rfl)
        · replace hf := (if_pos c13).symm.trans hf
          refine lv_iload hx hb dX7_place_43 (lv_at hl 5 rfl) ?_
          refine lv_goto (tgt := 50) hx hb dX7_place_45 (by decide) ?_
          refine lv_istore (lv' := [(4, .int (iN v2)), (0, .ref (a 0)), (1, .int (iN x1)), (2, .int (iN x2)), (3, .int (iN x3)), (5, .int (iN v2))]) hx hb dX7_place_50 hl (by decide) rfl (fun ls hl => ?_)
          obtain ⟨g12, hf⟩ := gd hf
          refine lv_iinc (v := iN (v2 + 1)) (lv' := [(5, .int (iN (v2 + 1))), (4, .int (iN v2)), (0, .ref (a 0)), (1, .int (iN x1)), (2, .int (iN x2)), (3, .int (iN x3))]) hx hb dX7_place_52 hl (k := 5) rfl (iN_add v2 1) (by decide) rfl (fun ls hl => ?_)
          refine lv_goto (tgt := 6) hx hb dX7_place_55 (by decide) ?_
          exact ih0 _ _ rv2 g12 hf _ (lv_sub hl [2, 3, 4, 5, 1, 0] rfl)
  refine L_fX7_place_0_L6 _ (fun v15 v16 rv15 rv16 hf ls hl => ?_) _ _ _ (by decide) (by decide) hf _ (lv_sub hl [2, 3, 4, 5, 1, 0] rfl)
  refine lv_iload hx hb dX7_place_58 (lv_at hl 4 rfl) ?_
  rw [← hQQ]
  exact x_iret hx hb hr (Option.some.inj hf) rv15 hlocks dX7_place_60
def fX7_prefer_0 (σ : Mem) (x1 : Int) (x2 : Int) (x3 : Int) : Option (Int × Mem) := nx (mup σ 0 0 0) fun σ1 => (fX7_isList_0 σ1 x1 x2).bind fun v2 => if v2 = 0 then some ((-1), σ1) else if rng (1 - x1) then (fX7_sizeOf_0 σ1 (1 - x1)).bind fun v4 => if rng (v4 - 1) then (fX7_in σ1 x3 0 (v4 - 1)).bind fun v6 => if v6 = 0 then some ((-1), σ1) else (fX7_place_0 σ1 x1 x2 x3).bind fun v7 => if v7 < 0 then if rng (36 * x1) then if rng (6 * x2) then if rng ((36 * x1) + (6 * x2)) then if rng (6 * x1) then if rng ((6 * x1) + x2) then if (0 : Int) ≤ ((6 * x1) + x2) ∧ (((6 * x1) + x2) : Int) < 12 then if rng (((36 * x1) + (6 * x2)) + (σ1 3 ((6 * x1) + x2))) then if (0 : Int) ≤ (((36 * x1) + (6 * x2)) + (σ1 3 ((6 * x1) + x2))) ∧ ((((36 * x1) + (6 * x2)) + (σ1 3 ((6 * x1) + x2))) : Int) < 72 then nx (mup σ1 2 (((36 * x1) + (6 * x2)) + (σ1 3 ((6 * x1) + x2))) x3) fun σ16 => if rng (6 * x1) then if rng ((6 * x1) + x2) then if (0 : Int) ≤ ((6 * x1) + x2) ∧ (((6 * x1) + x2) : Int) < 12 then if rng ((σ16 3 ((6 * x1) + x2)) + 1) then if (0 : Int) ≤ ((6 * x1) + x2) ∧ (((6 * x1) + x2) : Int) < 12 then nx (mup σ16 3 ((6 * x1) + x2) ((σ16 3 ((6 * x1) + x2)) + 1)) fun σ22 => nx (mup σ22 0 7 0) fun σ23 => if rng (6 * x1) then if rng ((6 * x1) + x2) then if (0 : Int) ≤ ((6 * x1) + x2) ∧ (((6 * x1) + x2) : Int) < 12 then some ((σ23 3 ((6 * x1) + x2)), σ23) else none else none else none else none else none else none else none else none else none else none else none else none else none else none else none else none else some ((-1), σ1) else none else none
set_option maxHeartbeats 4000000 in
set_option maxRecDepth 100000 in
theorem kX7_prefer_0 (l : Launch) (dC : Nat → ClassId) (dI : Nat → Nat → Nat) (cI : ClassId) (a : Nat → Nat) (hi : ∀ i j, i < 12 → j < 12 → a i = a j → i = j) (σ : Mem) (x1 : Int) (x2 : Int) (x3 : Int) (r : (Int × Mem)) (hf : fX7_prefer_0 σ x1 x2 x3 = some r) (hR : Rg σ) (rx1 : rng x1) (rx2 : rng x2) (rx3 : rng x3) : Met l yX7_prefer wsX7_prefer ({ frames := 2, cells := 0, slots := 0, locals := 44 }) (va_Pc [.ref (a 0), .int (iN x1), .int (iN x2), .int (iN x3)] (preM dC dI cI a σ)) (qM (dC, dI) (gw 12 a (mE cI a)) (gA 12 a) r) 0 0 (gA 12 a) := by
  refine Met.ofW (cc := cX7_prefer) (maxL := 4) (ret := (some .int)) (by decide) rfl ?_
  intro p e s m args below meth c s₁ B hml hv
  obtain ⟨hargs, hP, hK⟩ := hv
  have hx := B.exec
  have hb := B.bytes
  have hr := B.returns
  have hts := atoms_spec (ws := wsX7_prefer) B.pre
  have hown : s.vm.findClass RX7 = some m.cls := findClass_of_methodNamed B.named
  have hlocks := B.notSynchronized
  have hS : va_S (gA 12 a) s.heap s.heap [] := va_S.rf
  have iX7 : ∀ w ∈ wsX70, w ∈ wsX7_prefer := by decide +kernel
  have fl20 := hts (.fieldLink RX7 20 "MatchHallModel" "lists" "[I") (by decide +kernel)
  have fl23 := hts (.fieldLink RX7 23 "MatchHallModel" "longs" "[I") (by decide +kernel)
  have fl54 := hts (.fieldLink RX7 54 "MatchHallModel" "worked" "Z") (by decide +kernel)
  have fl58 := hts (.fieldLink RX7 58 "MatchHallModel" "code" "I") (by decide +kernel)
  have hrm : 2 ≤ (headSpec wsX7_prefer ({ frames := 2, cells := 0, slots := 0, locals := 44 })).room.frames ∧ 44 ≤ (headSpec wsX7_prefer ({ frames := 2, cells := 0, slots := 0, locals := 44 })).room.locals := ⟨Nat.le_refl _, Nat.le_refl _⟩
  generalize (headSpec wsX7_prefer ({ frames := 2, cells := 0, slots := 0, locals := 44 })).room = RR at hrm ⊢
  have hl := lv_entry ([.ref (a 0), .int (iN x1), .int (iN x2), .int (iN x3)]) (n := 4) (Nat.le_of_ble_eq_true rfl)
  rw [show entryFrame m args 4 = entryFrame m ([.ref (a 0), .int (iN x1), .int (iN x2), .int (iN x3)] : List Value).toArray 4 from by rw [hargs], lg_entry_eq]
  generalize (lg_sl ([.ref (a 0), .int (iN x1), .int (iN x2), .int (iN x3)]) ++ List.replicate (4 - (lg_sl ([.ref (a 0), .int (iN x1), .int (iN x2), .int (iN x3)])).length) Slot.unset).toArray = ls at hl ⊢
  have hl : lv_has ls 4 [(0, .ref (a 0)), (1, .int (iN x1)), (2, .int (iN x2)), (3, .int (iN x3))] := hl
  generalize hQQ : MQ below (qM (dC, dI) (gw 12 a (mE cI a)) (gA 12 a) r) args s 0 0 (gA 12 a) = QQ
  refine lv_aload_n hx hb dX7_prefer_0 rfl (lv_at hl 0 rfl) ?_
  refine lv_iconst (v := iN 0) hx hb dX7_prefer_1 rfl ?_
  obtain ⟨σ1, hσ1, hf⟩ := nxe hf
  refine x_put (C := RX7) (T := TX7) (NF := 17) (x := 0) (ty := .int) hx hb hts iX7 tyX7 tyX7_ok nmX7 hi hown hK hP hS 0 (by decide) (mE_0 cI a (_)) rfl 0 0 (by decide) fl58 rfl (by decide +kernel) rfl rfl (Nat.le_of_ble_eq_true rfl) rfl dX7_prefer_2 (fun H locs hP hS => ?_)
  rw [← hσ1] at hP
  have hRσ1 : Rg σ1 := by rw [hσ1]; exact Rg_up hR (by decide)
  refine lv_aload_n hx hb dX7_prefer_5 rfl (lv_at hl 0 rfl) ?_
  refine lv_iload_n hx hb dX7_prefer_6 rfl (lv_at hl 1 rfl) ?_
  refine lv_iload_n hx hb dX7_prefer_7 rfl (lv_at hl 2 rfl) ?_
  obtain ⟨v2, hv2, hf⟩ := bd hf
  refine x_callP (va_runV (As := [.int (iN x1), .int (iN x2)]) (rest := []) ⟨hx, hb, hml, hown, hts⟩ (kX7_isList_0 l dC dI cI a σ1 x1 x2 v2 hv2 hRσ1 rx1 rx2) (cwV 2 hts gX7_prefer_X7_isList rfl rfl rfl hX7_isList_d ⟨Nat.le_trans (by decide) hrm.1, Nat.le_trans (by decide) hrm.2⟩) (pvM 0 (by decide) (mE_0 cI a (_)) rfl hP hK) rfl rfl hl.1 rfl (lv_room (Nat.le_of_ble_eq_true rfl)) dX7_prefer_8 ⟨Nat.zero_le _, Nat.zero_le _⟩) (fun rv2 => ?_)
  refine x_if_eq (tgt := 41) hx hb rv2 dX7_prefer_11 (by decide) (fun c29 => ?_) (fun c29 => ?_)
  · replace hf := (if_pos c29).symm.trans hf
    refine lv_iconst (v := iN (-1)) hx hb dX7_prefer_41 rfl ?_
    rw [← hQQ]
    exact x_iretM hx hb hr (Option.some.inj hf) (by decide) hRσ1 hP hS hlocks dX7_prefer_42
  · replace hf := (if_neg c29).symm.trans hf
    refine lv_iload_n hx hb dX7_prefer_14 rfl (lv_at hl 3 rfl) ?_
    refine lv_iconst (v := iN 0) hx hb dX7_prefer_15 rfl ?_
    refine lv_aload_n hx hb dX7_prefer_16 rfl (lv_at hl 0 rfl) ?_
    refine lv_iconst (v := iN 1) hx hb dX7_prefer_17 rfl ?_
    refine lv_iload_n hx hb dX7_prefer_18 rfl (lv_at hl 1 rfl) ?_
    obtain ⟨g3, hf⟩ := gd hf
    refine x_isub hx hb dX7_prefer_19 ?_
    obtain ⟨v4, hv4, hf⟩ := bd hf
    refine x_callP (va_runV (As := [.int (iN (1 - x1))]) (rest := [.int (iN 0), .int (iN x3)]) ⟨hx, hb, hml, hown, hts⟩ (kX7_sizeOf_0 l dC dI cI a σ1 (1 - x1) v4 hv4 hRσ1 g3) (cwV 1 hts gX7_prefer_X7_sizeOf rfl rfl rfl hX7_sizeOf_d ⟨Nat.le_trans (by decide) hrm.1, Nat.le_trans (by decide) hrm.2⟩) (pvM 0 (by decide) (mE_0 cI a (_)) rfl hP hK) rfl rfl hl.1 rfl (lv_room (Nat.le_of_ble_eq_true rfl)) dX7_prefer_20 ⟨Nat.zero_le _, Nat.zero_le _⟩) (fun rv4 => ?_)
    refine lv_iconst (v := iN 1) hx hb dX7_prefer_23 rfl ?_
    obtain ⟨g5, hf⟩ := gd hf
    refine x_isub hx hb dX7_prefer_24 ?_
    obtain ⟨v6, hv6, hf⟩ := bd hf
    refine x_callP (va_runS (As := [.int (iN x3), .int (iN 0), .int (iN (v4 - 1))]) (rest := []) ⟨hx, hb, hml, hown, hts⟩ (kX7_in l dC dI cI a σ1 x3 0 (v4 - 1) v6 hv6 hRσ1 rx3 (by decide) g5) (va_cwS 3 hts gX7_prefer_X7_in rfl rfl rfl hX7_in_d ⟨Nat.le_trans (by decide) hrm.1, Nat.le_trans (by decide) hrm.2⟩) (psM hP hK) rfl rfl hl.1 rfl (lv_room (Nat.le_of_ble_eq_true rfl)) dX7_prefer_25 ⟨Nat.zero_le _, Nat.zero_le _⟩) (fun rv6 => ?_)
    refine x_if_eq (tgt := 41) hx hb rv6 dX7_prefer_28 (by decide) (fun c28 => ?_) (fun c28 => ?_)
    · replace hf := (if_pos c28).symm.trans hf
      refine lv_iconst (v := iN (-1)) hx hb dX7_prefer_41 rfl ?_
      rw [← hQQ]
      exact x_iretM hx hb hr (Option.some.inj hf) (by decide) hRσ1 hP hS hlocks dX7_prefer_42
    · replace hf := (if_neg c28).symm.trans hf
      refine lv_aload_n hx hb dX7_prefer_31 rfl (lv_at hl 0 rfl) ?_
      refine lv_iload_n hx hb dX7_prefer_32 rfl (lv_at hl 1 rfl) ?_
      refine lv_iload_n hx hb dX7_prefer_33 rfl (lv_at hl 2 rfl) ?_
      refine lv_iload_n hx hb dX7_prefer_34 rfl (lv_at hl 3 rfl) ?_
      obtain ⟨v7, hv7, hf⟩ := bd hf
      refine x_callP (va_runV (As := [.int (iN x1), .int (iN x2), .int (iN x3)]) (rest := []) ⟨hx, hb, hml, hown, hts⟩ (kX7_place_0 l dC dI cI a σ1 x1 x2 x3 v7 hv7 hRσ1 rx1 rx2 rx3) (cwV 3 hts gX7_prefer_X7_place rfl rfl rfl hX7_place_d ⟨Nat.le_trans (by decide) hrm.1, Nat.le_trans (by decide) hrm.2⟩) (pvM 0 (by decide) (mE_0 cI a (_)) rfl hP hK) rfl rfl hl.1 rfl (lv_room (Nat.le_of_ble_eq_true rfl)) dX7_prefer_35 ⟨Nat.zero_le _, Nat.zero_le _⟩) (fun rv7 => ?_)
      refine x_if_lt (tgt := 43) hx hb rv7 dX7_prefer_38 (by decide) (fun c27 => ?_) (fun c27 => ?_)
      · replace hf := (if_pos c27).symm.trans hf
        refine lv_aload_n hx hb dX7_prefer_43 rfl (lv_at hl 0 rfl) ?_
        refine x_get (C := RX7) (T := TX7) (NF := 17) (v := .ref (a 2)) hx hb hts iX7 hown hK hP 0 (by decide) (mE_0 cI a (_)) rfl 4 (by decide) fl20 rfl dX7_prefer_44 ?_
        refine lv_bipush (v := iN 36) hx hb dX7_prefer_47 (by decide) ?_
        refine lv_iload_n hx hb dX7_prefer_49 rfl (lv_at hl 1 rfl) ?_
        obtain ⟨g8, hf⟩ := gd hf
        refine x_imul hx hb dX7_prefer_50 ?_
        refine lv_bipush (v := iN 6) hx hb dX7_prefer_51 (by decide) ?_
        refine lv_iload_n hx hb dX7_prefer_53 rfl (lv_at hl 2 rfl) ?_
        obtain ⟨g9, hf⟩ := gd hf
        refine x_imul hx hb dX7_prefer_54 ?_
        obtain ⟨g10, hf⟩ := gd hf
        refine x_iadd hx hb dX7_prefer_55 ?_
        refine lv_aload_n hx hb dX7_prefer_56 rfl (lv_at hl 0 rfl) ?_
        refine x_get (C := RX7) (T := TX7) (NF := 17) (v := .ref (a 3)) hx hb hts iX7 hown hK hP 0 (by decide) (mE_0 cI a (_)) rfl 5 (by decide) fl23 rfl dX7_prefer_57 ?_
        refine lv_bipush (v := iN 6) hx hb dX7_prefer_60 (by decide) ?_
        refine lv_iload_n hx hb dX7_prefer_62 rfl (lv_at hl 1 rfl) ?_
        obtain ⟨g11, hf⟩ := gd hf
        refine x_imul hx hb dX7_prefer_63 ?_
        refine lv_iload_n hx hb dX7_prefer_64 rfl (lv_at hl 2 rfl) ?_
        obtain ⟨g12, hf⟩ := gd hf
        refine x_iadd hx hb dX7_prefer_65 ?_
        obtain ⟨g13, hf⟩ := gd hf
        refine x_iald hx hb hK hP 3 0 (by decide) (mE_3 cI a (_)) (by decide) rfl g13 dX7_prefer_66 ?_
        obtain ⟨g14, hf⟩ := gd hf
        refine x_iadd hx hb dX7_prefer_67 ?_
        refine lv_iload_n hx hb dX7_prefer_68 rfl (lv_at hl 3 rfl) ?_
        obtain ⟨g15, hf⟩ := gd hf
        obtain ⟨σ16, hσ16, hf⟩ := nxe hf
        refine x_iast (x := x3) hx hb hi hK hP hS 2 0 (by decide) (mE_2 cI a) (by decide) rfl g15 dX7_prefer_69 (fun H locs hP hS => ?_)
        rw [← hσ16] at hP
        have hRσ16 : Rg σ16 := by rw [hσ16]; exact Rg_up hRσ1 rx3
        refine lv_aload_n hx hb dX7_prefer_70 rfl (lv_at hl 0 rfl) ?_
        refine x_get (C := RX7) (T := TX7) (NF := 17) (v := .ref (a 3)) hx hb hts iX7 hown hK hP 0 (by decide) (mE_0 cI a (_)) rfl 5 (by decide) fl23 rfl dX7_prefer_71 ?_
        refine lv_bipush (v := iN 6) hx hb dX7_prefer_74 (by decide) ?_
        refine lv_iload_n hx hb dX7_prefer_76 rfl (lv_at hl 1 rfl) ?_
        obtain ⟨g17, hf⟩ := gd hf
        refine x_imul hx hb dX7_prefer_77 ?_
        refine lv_iload_n hx hb dX7_prefer_78 rfl (lv_at hl 2 rfl) ?_
        obtain ⟨g18, hf⟩ := gd hf
        refine x_iadd hx hb dX7_prefer_79 ?_
        refine lv_dup2_11 hx hb dX7_prefer_80 rfl rfl ?_
        obtain ⟨g19, hf⟩ := gd hf
        refine x_iald hx hb hK hP 3 0 (by decide) (mE_3 cI a (_)) (by decide) rfl g19 dX7_prefer_81 ?_
        refine lv_iconst (v := iN 1) hx hb dX7_prefer_82 rfl ?_
        obtain ⟨g20, hf⟩ := gd hf
        refine x_iadd hx hb dX7_prefer_83 ?_
        obtain ⟨g21, hf⟩ := gd hf
        obtain ⟨σ22, hσ22, hf⟩ := nxe hf
        refine x_iast (x := ((σ16 3 ((6 * x1) + x2)) + 1)) hx hb hi hK hP hS 3 0 (by decide) (mE_3 cI a) (by decide) rfl g21 dX7_prefer_84 (fun H locs hP hS => ?_)
        rw [← hσ22] at hP
        have hRσ22 : Rg σ22 := by rw [hσ22]; exact Rg_up hRσ16 g20
        refine lv_aload_n hx hb dX7_prefer_85 rfl (lv_at hl 0 rfl) ?_
        refine lv_iconst (v := iN 0) hx hb dX7_prefer_86 rfl ?_
        obtain ⟨σ23, hσ23, hf⟩ := nxe hf
        refine x_put (C := RX7) (T := TX7) (NF := 17) (x := 0) (ty := .boolean) hx hb hts iX7 tyX7 tyX7_ok nmX7 hi hown hK hP hS 0 (by decide) (mE_0 cI a (_)) rfl 7 7 (by decide) fl54 rfl (by decide +kernel) (by decide) (by decide) (Nat.le_of_ble_eq_true rfl) rfl dX7_prefer_87 (fun H locs hP hS => ?_)
        rw [← hσ23] at hP
        have hRσ23 : Rg σ23 := by rw [hσ23]; exact Rg_up hRσ22 (by decide)
        refine lv_aload_n hx hb dX7_prefer_90 rfl (lv_at hl 0 rfl) ?_
        refine x_get (C := RX7) (T := TX7) (NF := 17) (v := .ref (a 3)) hx hb hts iX7 hown hK hP 0 (by decide) (mE_0 cI a (_)) rfl 5 (by decide) fl23 rfl dX7_prefer_91 ?_
        refine lv_bipush (v := iN 6) hx hb dX7_prefer_94 (by decide) ?_
        refine lv_iload_n hx hb dX7_prefer_96 rfl (lv_at hl 1 rfl) ?_
        obtain ⟨g24, hf⟩ := gd hf
        refine x_imul hx hb dX7_prefer_97 ?_
        refine lv_iload_n hx hb dX7_prefer_98 rfl (lv_at hl 2 rfl) ?_
        obtain ⟨g25, hf⟩ := gd hf
        refine x_iadd hx hb dX7_prefer_99 ?_
        obtain ⟨g26, hf⟩ := gd hf
        refine x_iald hx hb hK hP 3 0 (by decide) (mE_3 cI a (_)) (by decide) rfl g26 dX7_prefer_100 ?_
        rw [← hQQ]
        exact x_iretM hx hb hr (Option.some.inj hf) (hRσ23 3 ((6 * x1) + x2)) hRσ23 hP hS hlocks dX7_prefer_101
      · replace hf := (if_neg c27).symm.trans hf
        refine lv_iconst (v := iN (-1)) hx hb dX7_prefer_41 rfl ?_
        rw [← hQQ]
        exact x_iretM hx hb hr (Option.some.inj hf) (by decide) hRσ1 hP hS hlocks dX7_prefer_42
def fX7_forget_0 (σ : Mem) (x1 : Int) (x2 : Int) : Option (Int × Mem) := nx (mup σ 0 0 0) fun σ1 => (fX7_isList_0 σ1 x1 x2).bind fun v2 => if v2 = 0 then some ((-1), σ1) else if rng (6 * x1) then if rng ((6 * x1) + x2) then if (0 : Int) ≤ ((6 * x1) + x2) ∧ (((6 * x1) + x2) : Int) < 12 then if rng (6 * x1) then if rng ((6 * x1) + x2) then if (0 : Int) ≤ ((6 * x1) + x2) ∧ (((6 * x1) + x2) : Int) < 12 then nx (mup σ1 3 ((6 * x1) + x2) 0) fun σ9 => nx (mup σ9 0 7 0) fun σ10 => some ((σ1 3 ((6 * x1) + x2)), σ10) else none else none else none else none else none else none
set_option maxHeartbeats 4000000 in
set_option maxRecDepth 100000 in
theorem kX7_forget_0 (l : Launch) (dC : Nat → ClassId) (dI : Nat → Nat → Nat) (cI : ClassId) (a : Nat → Nat) (hi : ∀ i j, i < 12 → j < 12 → a i = a j → i = j) (σ : Mem) (x1 : Int) (x2 : Int) (r : (Int × Mem)) (hf : fX7_forget_0 σ x1 x2 = some r) (hR : Rg σ) (rx1 : rng x1) (rx2 : rng x2) : Met l yX7_forget wsX7_forget ({ frames := 2, cells := 0, slots := 0, locals := 44 }) (va_Pc [.ref (a 0), .int (iN x1), .int (iN x2)] (preM dC dI cI a σ)) (qM (dC, dI) (gw 12 a (mE cI a)) (gA 12 a) r) 0 0 (gA 12 a) := by
  refine Met.ofW (cc := cX7_forget) (maxL := 4) (ret := (some .int)) (by decide) rfl ?_
  intro p e s m args below meth c s₁ B hml hv
  obtain ⟨hargs, hP, hK⟩ := hv
  have hx := B.exec
  have hb := B.bytes
  have hr := B.returns
  have hts := atoms_spec (ws := wsX7_forget) B.pre
  have hown : s.vm.findClass RX7 = some m.cls := findClass_of_methodNamed B.named
  have hlocks := B.notSynchronized
  have hS : va_S (gA 12 a) s.heap s.heap [] := va_S.rf
  have iX7 : ∀ w ∈ wsX70, w ∈ wsX7_forget := by decide +kernel
  have fl23 := hts (.fieldLink RX7 23 "MatchHallModel" "longs" "[I") (by decide +kernel)
  have fl54 := hts (.fieldLink RX7 54 "MatchHallModel" "worked" "Z") (by decide +kernel)
  have fl58 := hts (.fieldLink RX7 58 "MatchHallModel" "code" "I") (by decide +kernel)
  have hrm : 2 ≤ (headSpec wsX7_forget ({ frames := 2, cells := 0, slots := 0, locals := 44 })).room.frames ∧ 44 ≤ (headSpec wsX7_forget ({ frames := 2, cells := 0, slots := 0, locals := 44 })).room.locals := ⟨Nat.le_refl _, Nat.le_refl _⟩
  generalize (headSpec wsX7_forget ({ frames := 2, cells := 0, slots := 0, locals := 44 })).room = RR at hrm ⊢
  have hl := lv_entry ([.ref (a 0), .int (iN x1), .int (iN x2)]) (n := 4) (Nat.le_of_ble_eq_true rfl)
  rw [show entryFrame m args 4 = entryFrame m ([.ref (a 0), .int (iN x1), .int (iN x2)] : List Value).toArray 4 from by rw [hargs], lg_entry_eq]
  generalize (lg_sl ([.ref (a 0), .int (iN x1), .int (iN x2)]) ++ List.replicate (4 - (lg_sl ([.ref (a 0), .int (iN x1), .int (iN x2)])).length) Slot.unset).toArray = ls at hl ⊢
  have hl : lv_has ls 4 [(0, .ref (a 0)), (1, .int (iN x1)), (2, .int (iN x2))] := hl
  generalize hQQ : MQ below (qM (dC, dI) (gw 12 a (mE cI a)) (gA 12 a) r) args s 0 0 (gA 12 a) = QQ
  refine lv_aload_n hx hb dX7_forget_0 rfl (lv_at hl 0 rfl) ?_
  refine lv_iconst (v := iN 0) hx hb dX7_forget_1 rfl ?_
  obtain ⟨σ1, hσ1, hf⟩ := nxe hf
  refine x_put (C := RX7) (T := TX7) (NF := 17) (x := 0) (ty := .int) hx hb hts iX7 tyX7 tyX7_ok nmX7 hi hown hK hP hS 0 (by decide) (mE_0 cI a (_)) rfl 0 0 (by decide) fl58 rfl (by decide +kernel) rfl rfl (Nat.le_of_ble_eq_true rfl) rfl dX7_forget_2 (fun H locs hP hS => ?_)
  rw [← hσ1] at hP
  have hRσ1 : Rg σ1 := by rw [hσ1]; exact Rg_up hR (by decide)
  refine lv_aload_n hx hb dX7_forget_5 rfl (lv_at hl 0 rfl) ?_
  refine lv_iload_n hx hb dX7_forget_6 rfl (lv_at hl 1 rfl) ?_
  refine lv_iload_n hx hb dX7_forget_7 rfl (lv_at hl 2 rfl) ?_
  obtain ⟨v2, hv2, hf⟩ := bd hf
  refine x_callP (va_runV (As := [.int (iN x1), .int (iN x2)]) (rest := []) ⟨hx, hb, hml, hown, hts⟩ (kX7_isList_0 l dC dI cI a σ1 x1 x2 v2 hv2 hRσ1 rx1 rx2) (cwV 2 hts gX7_forget_X7_isList rfl rfl rfl hX7_isList_d ⟨Nat.le_trans (by decide) hrm.1, Nat.le_trans (by decide) hrm.2⟩) (pvM 0 (by decide) (mE_0 cI a (_)) rfl hP hK) rfl rfl hl.1 rfl (lv_room (Nat.le_of_ble_eq_true rfl)) dX7_forget_8 ⟨Nat.zero_le _, Nat.zero_le _⟩) (fun rv2 => ?_)
  refine x_if_ne (tgt := 16) hx hb rv2 dX7_forget_11 (by decide) (fun c11 => ?_) (fun c11 => ?_)
  · replace hf := (if_neg c11).symm.trans hf
    refine lv_aload_n hx hb dX7_forget_16 rfl (lv_at hl 0 rfl) ?_
    refine x_get (C := RX7) (T := TX7) (NF := 17) (v := .ref (a 3)) hx hb hts iX7 hown hK hP 0 (by decide) (mE_0 cI a (_)) rfl 5 (by decide) fl23 rfl dX7_forget_17 ?_
    refine lv_bipush (v := iN 6) hx hb dX7_forget_20 (by decide) ?_
    refine lv_iload_n hx hb dX7_forget_22 rfl (lv_at hl 1 rfl) ?_
    obtain ⟨g3, hf⟩ := gd hf
    refine x_imul hx hb dX7_forget_23 ?_
    refine lv_iload_n hx hb dX7_forget_24 rfl (lv_at hl 2 rfl) ?_
    obtain ⟨g4, hf⟩ := gd hf
    refine x_iadd hx hb dX7_forget_25 ?_
    obtain ⟨g5, hf⟩ := gd hf
    refine x_iald hx hb hK hP 3 0 (by decide) (mE_3 cI a (_)) (by decide) rfl g5 dX7_forget_26 ?_
    refine lv_istore_n (lv' := [(3, .int (iN (σ1 3 ((6 * x1) + x2)))), (0, .ref (a 0)), (1, .int (iN x1)), (2, .int (iN x2))]) hx hb dX7_forget_27 rfl hl (by decide) rfl (fun ls hl => ?_)
    refine lv_aload_n hx hb dX7_forget_28 rfl (lv_at hl 1 rfl) ?_
    refine x_get (C := RX7) (T := TX7) (NF := 17) (v := .ref (a 3)) hx hb hts iX7 hown hK hP 0 (by decide) (mE_0 cI a (_)) rfl 5 (by decide) fl23 rfl dX7_forget_29 ?_
    refine lv_bipush (v := iN 6) hx hb dX7_forget_32 (by decide) ?_
    refine lv_iload_n hx hb dX7_forget_34 rfl (lv_at hl 2 rfl) ?_
    obtain ⟨g6, hf⟩ := gd hf
    refine x_imul hx hb dX7_forget_35 ?_
    refine lv_iload_n hx hb dX7_forget_36 rfl (lv_at hl 3 rfl) ?_
    obtain ⟨g7, hf⟩ := gd hf
    refine x_iadd hx hb dX7_forget_37 ?_
    refine lv_iconst (v := iN 0) hx hb dX7_forget_38 rfl ?_
    obtain ⟨g8, hf⟩ := gd hf
    obtain ⟨σ9, hσ9, hf⟩ := nxe hf
    refine x_iast (x := 0) hx hb hi hK hP hS 3 0 (by decide) (mE_3 cI a) (by decide) rfl g8 dX7_forget_39 (fun H locs hP hS => ?_)
    rw [← hσ9] at hP
    have hRσ9 : Rg σ9 := by rw [hσ9]; exact Rg_up hRσ1 (by decide)
    refine lv_aload_n hx hb dX7_forget_40 rfl (lv_at hl 1 rfl) ?_
    refine lv_iconst (v := iN 0) hx hb dX7_forget_41 rfl ?_
    obtain ⟨σ10, hσ10, hf⟩ := nxe hf
    refine x_put (C := RX7) (T := TX7) (NF := 17) (x := 0) (ty := .boolean) hx hb hts iX7 tyX7 tyX7_ok nmX7 hi hown hK hP hS 0 (by decide) (mE_0 cI a (_)) rfl 7 7 (by decide) fl54 rfl (by decide +kernel) (by decide) (by decide) (Nat.le_of_ble_eq_true rfl) rfl dX7_forget_42 (fun H locs hP hS => ?_)
    rw [← hσ10] at hP
    have hRσ10 : Rg σ10 := by rw [hσ10]; exact Rg_up hRσ9 (by decide)
    refine lv_iload_n hx hb dX7_forget_45 rfl (lv_at hl 0 rfl) ?_
    rw [← hQQ]
    exact x_iretM hx hb hr (Option.some.inj hf) (hRσ1 3 ((6 * x1) + x2)) hRσ10 hP hS hlocks dX7_forget_46
  · replace hf := (if_pos c11).symm.trans hf
    refine lv_iconst (v := iN (-1)) hx hb dX7_forget_14 rfl ?_
    rw [← hQQ]
    exact x_iretM hx hb hr (Option.some.inj hf) (by decide) hRσ1 hP hS hlocks dX7_forget_15
def fX7_listed_0 (σ : Mem) (x1 : Int) (x2 : Int) (x3 : Int) : Option (Int × Mem) := nx (mup σ 0 0 0) fun σ1 => (fX7_isList_0 σ1 x1 x2).bind fun v2 => if v2 = 0 then some ((-1), σ1) else if rng (6 * x1) then if rng ((6 * x1) + x2) then if (0 : Int) ≤ ((6 * x1) + x2) ∧ (((6 * x1) + x2) : Int) < 12 then if rng ((σ1 3 ((6 * x1) + x2)) - 1) then (fX7_in σ1 x3 0 ((σ1 3 ((6 * x1) + x2)) - 1)).bind fun v7 => if v7 = 0 then some ((-1), σ1) else if rng (36 * x1) then if rng (6 * x2) then if rng ((36 * x1) + (6 * x2)) then if rng (((36 * x1) + (6 * x2)) + x3) then if (0 : Int) ≤ (((36 * x1) + (6 * x2)) + x3) ∧ ((((36 * x1) + (6 * x2)) + x3) : Int) < 72 then some ((σ1 2 (((36 * x1) + (6 * x2)) + x3)), σ1) else none else none else none else none else none else none else none else none else none
set_option maxHeartbeats 4000000 in
set_option maxRecDepth 100000 in
theorem kX7_listed_0 (l : Launch) (dC : Nat → ClassId) (dI : Nat → Nat → Nat) (cI : ClassId) (a : Nat → Nat) (hi : ∀ i j, i < 12 → j < 12 → a i = a j → i = j) (σ : Mem) (x1 : Int) (x2 : Int) (x3 : Int) (r : (Int × Mem)) (hf : fX7_listed_0 σ x1 x2 x3 = some r) (hR : Rg σ) (rx1 : rng x1) (rx2 : rng x2) (rx3 : rng x3) : Met l yX7_listed wsX7_listed ({ frames := 2, cells := 0, slots := 0, locals := 44 }) (va_Pc [.ref (a 0), .int (iN x1), .int (iN x2), .int (iN x3)] (preM dC dI cI a σ)) (qM (dC, dI) (gw 12 a (mE cI a)) (gA 12 a) r) 0 0 (gA 12 a) := by
  refine Met.ofW (cc := cX7_listed) (maxL := 4) (ret := (some .int)) (by decide) rfl ?_
  intro p e s m args below meth c s₁ B hml hv
  obtain ⟨hargs, hP, hK⟩ := hv
  have hx := B.exec
  have hb := B.bytes
  have hr := B.returns
  have hts := atoms_spec (ws := wsX7_listed) B.pre
  have hown : s.vm.findClass RX7 = some m.cls := findClass_of_methodNamed B.named
  have hlocks := B.notSynchronized
  have hS : va_S (gA 12 a) s.heap s.heap [] := va_S.rf
  have iX7 : ∀ w ∈ wsX70, w ∈ wsX7_listed := by decide +kernel
  have fl20 := hts (.fieldLink RX7 20 "MatchHallModel" "lists" "[I") (by decide +kernel)
  have fl23 := hts (.fieldLink RX7 23 "MatchHallModel" "longs" "[I") (by decide +kernel)
  have fl58 := hts (.fieldLink RX7 58 "MatchHallModel" "code" "I") (by decide +kernel)
  have hrm : 2 ≤ (headSpec wsX7_listed ({ frames := 2, cells := 0, slots := 0, locals := 44 })).room.frames ∧ 44 ≤ (headSpec wsX7_listed ({ frames := 2, cells := 0, slots := 0, locals := 44 })).room.locals := ⟨Nat.le_refl _, Nat.le_refl _⟩
  generalize (headSpec wsX7_listed ({ frames := 2, cells := 0, slots := 0, locals := 44 })).room = RR at hrm ⊢
  have hl := lv_entry ([.ref (a 0), .int (iN x1), .int (iN x2), .int (iN x3)]) (n := 4) (Nat.le_of_ble_eq_true rfl)
  rw [show entryFrame m args 4 = entryFrame m ([.ref (a 0), .int (iN x1), .int (iN x2), .int (iN x3)] : List Value).toArray 4 from by rw [hargs], lg_entry_eq]
  generalize (lg_sl ([.ref (a 0), .int (iN x1), .int (iN x2), .int (iN x3)]) ++ List.replicate (4 - (lg_sl ([.ref (a 0), .int (iN x1), .int (iN x2), .int (iN x3)])).length) Slot.unset).toArray = ls at hl ⊢
  have hl : lv_has ls 4 [(0, .ref (a 0)), (1, .int (iN x1)), (2, .int (iN x2)), (3, .int (iN x3))] := hl
  generalize hQQ : MQ below (qM (dC, dI) (gw 12 a (mE cI a)) (gA 12 a) r) args s 0 0 (gA 12 a) = QQ
  refine lv_aload_n hx hb dX7_listed_0 rfl (lv_at hl 0 rfl) ?_
  refine lv_iconst (v := iN 0) hx hb dX7_listed_1 rfl ?_
  obtain ⟨σ1, hσ1, hf⟩ := nxe hf
  refine x_put (C := RX7) (T := TX7) (NF := 17) (x := 0) (ty := .int) hx hb hts iX7 tyX7 tyX7_ok nmX7 hi hown hK hP hS 0 (by decide) (mE_0 cI a (_)) rfl 0 0 (by decide) fl58 rfl (by decide +kernel) rfl rfl (Nat.le_of_ble_eq_true rfl) rfl dX7_listed_2 (fun H locs hP hS => ?_)
  rw [← hσ1] at hP
  have hRσ1 : Rg σ1 := by rw [hσ1]; exact Rg_up hR (by decide)
  refine lv_aload_n hx hb dX7_listed_5 rfl (lv_at hl 0 rfl) ?_
  refine lv_iload_n hx hb dX7_listed_6 rfl (lv_at hl 1 rfl) ?_
  refine lv_iload_n hx hb dX7_listed_7 rfl (lv_at hl 2 rfl) ?_
  obtain ⟨v2, hv2, hf⟩ := bd hf
  refine x_callP (va_runV (As := [.int (iN x1), .int (iN x2)]) (rest := []) ⟨hx, hb, hml, hown, hts⟩ (kX7_isList_0 l dC dI cI a σ1 x1 x2 v2 hv2 hRσ1 rx1 rx2) (cwV 2 hts gX7_listed_X7_isList rfl rfl rfl hX7_isList_d ⟨Nat.le_trans (by decide) hrm.1, Nat.le_trans (by decide) hrm.2⟩) (pvM 0 (by decide) (mE_0 cI a (_)) rfl hP hK) rfl rfl hl.1 rfl (lv_room (Nat.le_of_ble_eq_true rfl)) dX7_listed_8 ⟨Nat.zero_le _, Nat.zero_le _⟩) (fun rv2 => ?_)
  refine x_if_eq (tgt := 54) hx hb rv2 dX7_listed_11 (by decide) (fun c14 => ?_) (fun c14 => ?_)
  · replace hf := (if_pos c14).symm.trans hf
    refine lv_iconst (v := iN (-1)) hx hb dX7_listed_54 rfl ?_
    rw [← hQQ]
    exact x_iretM hx hb hr (Option.some.inj hf) (by decide) hRσ1 hP hS hlocks dX7_listed_55
  · replace hf := (if_neg c14).symm.trans hf
    refine lv_iload_n hx hb dX7_listed_14 rfl (lv_at hl 3 rfl) ?_
    refine lv_iconst (v := iN 0) hx hb dX7_listed_15 rfl ?_
    refine lv_aload_n hx hb dX7_listed_16 rfl (lv_at hl 0 rfl) ?_
    refine x_get (C := RX7) (T := TX7) (NF := 17) (v := .ref (a 3)) hx hb hts iX7 hown hK hP 0 (by decide) (mE_0 cI a (_)) rfl 5 (by decide) fl23 rfl dX7_listed_17 ?_
    refine lv_bipush (v := iN 6) hx hb dX7_listed_20 (by decide) ?_
    refine lv_iload_n hx hb dX7_listed_22 rfl (lv_at hl 1 rfl) ?_
    obtain ⟨g3, hf⟩ := gd hf
    refine x_imul hx hb dX7_listed_23 ?_
    refine lv_iload_n hx hb dX7_listed_24 rfl (lv_at hl 2 rfl) ?_
    obtain ⟨g4, hf⟩ := gd hf
    refine x_iadd hx hb dX7_listed_25 ?_
    obtain ⟨g5, hf⟩ := gd hf
    refine x_iald hx hb hK hP 3 0 (by decide) (mE_3 cI a (_)) (by decide) rfl g5 dX7_listed_26 ?_
    refine lv_iconst (v := iN 1) hx hb dX7_listed_27 rfl ?_
    obtain ⟨g6, hf⟩ := gd hf
    refine x_isub hx hb dX7_listed_28 ?_
    obtain ⟨v7, hv7, hf⟩ := bd hf
    refine x_callP (va_runS (As := [.int (iN x3), .int (iN 0), .int (iN ((σ1 3 ((6 * x1) + x2)) - 1))]) (rest := []) ⟨hx, hb, hml, hown, hts⟩ (kX7_in l dC dI cI a σ1 x3 0 ((σ1 3 ((6 * x1) + x2)) - 1) v7 hv7 hRσ1 rx3 (by decide) g6) (va_cwS 3 hts gX7_listed_X7_in rfl rfl rfl hX7_in_d ⟨Nat.le_trans (by decide) hrm.1, Nat.le_trans (by decide) hrm.2⟩) (psM hP hK) rfl rfl hl.1 rfl (lv_room (Nat.le_of_ble_eq_true rfl)) dX7_listed_29 ⟨Nat.zero_le _, Nat.zero_le _⟩) (fun rv7 => ?_)
    refine x_if_eq (tgt := 54) hx hb rv7 dX7_listed_32 (by decide) (fun c13 => ?_) (fun c13 => ?_)
    · replace hf := (if_pos c13).symm.trans hf
      refine lv_iconst (v := iN (-1)) hx hb dX7_listed_54 rfl ?_
      rw [← hQQ]
      exact x_iretM hx hb hr (Option.some.inj hf) (by decide) hRσ1 hP hS hlocks dX7_listed_55
    · replace hf := (if_neg c13).symm.trans hf
      refine lv_aload_n hx hb dX7_listed_35 rfl (lv_at hl 0 rfl) ?_
      refine x_get (C := RX7) (T := TX7) (NF := 17) (v := .ref (a 2)) hx hb hts iX7 hown hK hP 0 (by decide) (mE_0 cI a (_)) rfl 4 (by decide) fl20 rfl dX7_listed_36 ?_
      refine lv_bipush (v := iN 36) hx hb dX7_listed_39 (by decide) ?_
      refine lv_iload_n hx hb dX7_listed_41 rfl (lv_at hl 1 rfl) ?_
      obtain ⟨g8, hf⟩ := gd hf
      refine x_imul hx hb dX7_listed_42 ?_
      refine lv_bipush (v := iN 6) hx hb dX7_listed_43 (by decide) ?_
      refine lv_iload_n hx hb dX7_listed_45 rfl (lv_at hl 2 rfl) ?_
      obtain ⟨g9, hf⟩ := gd hf
      refine x_imul hx hb dX7_listed_46 ?_
      obtain ⟨g10, hf⟩ := gd hf
      refine x_iadd hx hb dX7_listed_47 ?_
      refine lv_iload_n hx hb dX7_listed_48 rfl (lv_at hl 3 rfl) ?_
      obtain ⟨g11, hf⟩ := gd hf
      refine x_iadd hx hb dX7_listed_49 ?_
      obtain ⟨g12, hf⟩ := gd hf
      refine x_iald hx hb hK hP 2 0 (by decide) (mE_2 cI a (_)) (by decide) rfl g12 dX7_listed_50 ?_
      refine lv_goto (tgt := 55) hx hb dX7_listed_51 (by decide) ?_
      rw [← hQQ]
      exact x_iretM hx hb hr (Option.some.inj hf) (hRσ1 2 (((36 * x1) + (6 * x2)) + x3)) hRσ1 hP hS hlocks dX7_listed_55
def fX7_isPair_0 (σ : Mem) (x1 : Int) (x2 : Int) : Option Int := (fX7_place_0 σ 0 x1 x2).bind fun v1 => if v1 < 0 then some 0 else (fX7_place_0 σ 1 x2 x1).bind fun v2 => if v2 < 0 then some 0 else some 1
set_option maxHeartbeats 4000000 in
set_option maxRecDepth 100000 in
theorem kX7_isPair_0 (l : Launch) (dC : Nat → ClassId) (dI : Nat → Nat → Nat) (cI : ClassId) (a : Nat → Nat) (σ : Mem) (x1 : Int) (x2 : Int) (r : Int) (hf : fX7_isPair_0 σ x1 x2 = some r) (hR : Rg σ) (rx1 : rng x1) (rx2 : rng x2) : Met l yX7_isPair wsX7_isPair ({ frames := 1, cells := 0, slots := 0, locals := 25 }) (va_Pc [.ref (a 0), .int (iN x1), .int (iN x2)] (preM dC dI cI a σ)) (qP r) 0 0 (fun _ => False) := by
  refine Met.ofW (cc := cX7_isPair) (maxL := 3) (ret := (some .boolean)) (by decide) rfl ?_
  intro p e s m args below meth c s₁ B hml hv
  obtain ⟨hargs, hP, hK⟩ := hv
  have hx := B.exec
  have hb := B.bytes
  have hr := B.returns
  have hts := atoms_spec (ws := wsX7_isPair) B.pre
  have hown : s.vm.findClass RX7 = some m.cls := findClass_of_methodNamed B.named
  have hlocks := B.notSynchronized
  have hrm : 1 ≤ (headSpec wsX7_isPair ({ frames := 1, cells := 0, slots := 0, locals := 25 })).room.frames ∧ 25 ≤ (headSpec wsX7_isPair ({ frames := 1, cells := 0, slots := 0, locals := 25 })).room.locals := ⟨Nat.le_refl _, Nat.le_refl _⟩
  generalize (headSpec wsX7_isPair ({ frames := 1, cells := 0, slots := 0, locals := 25 })).room = RR at hrm ⊢
  have hl := lv_entry ([.ref (a 0), .int (iN x1), .int (iN x2)]) (n := 3) (Nat.le_of_ble_eq_true rfl)
  rw [show entryFrame m args 3 = entryFrame m ([.ref (a 0), .int (iN x1), .int (iN x2)] : List Value).toArray 3 from by rw [hargs], lg_entry_eq]
  generalize (lg_sl ([.ref (a 0), .int (iN x1), .int (iN x2)]) ++ List.replicate (3 - (lg_sl ([.ref (a 0), .int (iN x1), .int (iN x2)])).length) Slot.unset).toArray = ls at hl ⊢
  have hl : lv_has ls 3 [(0, .ref (a 0)), (1, .int (iN x1)), (2, .int (iN x2))] := hl
  generalize hQQ : MQ below (qP r) args s 0 0 (fun _ => False) = QQ
  refine lv_aload_n hx hb dX7_isPair_0 rfl (lv_at hl 0 rfl) ?_
  refine lv_iconst (v := iN 0) hx hb dX7_isPair_1 rfl ?_
  refine lv_iload_n hx hb dX7_isPair_2 rfl (lv_at hl 1 rfl) ?_
  refine lv_iload_n hx hb dX7_isPair_3 rfl (lv_at hl 2 rfl) ?_
  obtain ⟨v1, hv1, hf⟩ := bd hf
  refine x_callP (va_runV (As := [.int (iN 0), .int (iN x1), .int (iN x2)]) (rest := []) ⟨hx, hb, hml, hown, hts⟩ (kX7_place_0 l dC dI cI a σ 0 x1 x2 v1 hv1 hR (by decide) rx1 rx2) (cwV 3 hts gX7_isPair_X7_place rfl rfl rfl hX7_place_d ⟨Nat.le_trans (by decide) hrm.1, Nat.le_trans (by decide) hrm.2⟩) (pvM 0 (by decide) (mE_0 cI a (_)) rfl hP hK) rfl rfl hl.1 rfl (lv_room (Nat.le_of_ble_eq_true rfl)) dX7_isPair_4 ⟨Nat.zero_le _, Nat.zero_le _⟩) (fun rv1 => ?_)
  refine x_if_lt (tgt := 24) hx hb rv1 dX7_isPair_7 (by decide) (fun c4 => ?_) (fun c4 => ?_)
  · replace hf := (if_pos c4).symm.trans hf
    refine lv_iconst (v := iN 0) hx hb dX7_isPair_24 rfl ?_
    rw [← hQQ]
    exact x_zret hx hb hr (by decide) (Option.some.inj hf) (by decide) hlocks dX7_isPair_25
  · replace hf := (if_neg c4).symm.trans hf
    refine lv_aload_n hx hb dX7_isPair_10 rfl (lv_at hl 0 rfl) ?_
    refine lv_iconst (v := iN 1) hx hb dX7_isPair_11 rfl ?_
    refine lv_iload_n hx hb dX7_isPair_12 rfl (lv_at hl 2 rfl) ?_
    refine lv_iload_n hx hb dX7_isPair_13 rfl (lv_at hl 1 rfl) ?_
    obtain ⟨v2, hv2, hf⟩ := bd hf
    refine x_callP (va_runV (As := [.int (iN 1), .int (iN x2), .int (iN x1)]) (rest := []) ⟨hx, hb, hml, hown, hts⟩ (kX7_place_0 l dC dI cI a σ 1 x2 x1 v2 hv2 hR (by decide) rx2 rx1) (cwV 3 hts gX7_isPair_X7_place rfl rfl rfl hX7_place_d ⟨Nat.le_trans (by decide) hrm.1, Nat.le_trans (by decide) hrm.2⟩) (pvM 0 (by decide) (mE_0 cI a (_)) rfl hP hK) rfl rfl hl.1 rfl (lv_room (Nat.le_of_ble_eq_true rfl)) dX7_isPair_14 ⟨Nat.zero_le _, Nat.zero_le _⟩) (fun rv2 => ?_)
    refine x_if_lt (tgt := 24) hx hb rv2 dX7_isPair_17 (by decide) (fun c3 => ?_) (fun c3 => ?_)
    · replace hf := (if_pos c3).symm.trans hf
      refine lv_iconst (v := iN 0) hx hb dX7_isPair_24 rfl ?_
      rw [← hQQ]
      exact x_zret hx hb hr (by decide) (Option.some.inj hf) (by decide) hlocks dX7_isPair_25
    · replace hf := (if_neg c3).symm.trans hf
      refine lv_iconst (v := iN 1) hx hb dX7_isPair_20 rfl ?_
      refine lv_goto (tgt := 25) hx hb dX7_isPair_21 (by decide) ?_
      rw [← hQQ]
      exact x_zret hx hb hr (by decide) (Option.some.inj hf) (by decide) hlocks dX7_isPair_25
def fX7_count_0_L66 (x1 : Int) (σ1 : Mem) (v4 : Int) (ex1 : Int → Int → Option (Int × Mem)) : Nat → Int → Int → Option (Int × Mem)
  | 0, _, _ => none
  | n1 + 1, v5, v6 => if v6 < (σ1 0 2) then if x1 = 2 then (fX7_isPair_0 σ1 v4 v6).bind fun v7 => if v7 = 0 then if rng (v5 + 0) then if rng (v6 + 1) then fX7_count_0_L66 x1 σ1 v4 ex1 n1 (v5 + 0) (v6 + 1) else none else none else if rng (v5 + 1) then if rng (v6 + 1) then fX7_count_0_L66 x1 σ1 v4 ex1 n1 (v5 + 1) (v6 + 1) else none else none else ex1 v5 v6 else ex1 v5 v6
def fX7_count_0_L27 (x1 : Int) (σ1 : Mem) (ex0 : Int → Int → Option (Int × Mem)) : Nat → Int → Int → Option (Int × Mem)
  | 0, _, _ => none
  | n0 + 1, v3, v4 => if v4 < (σ1 0 1) then if x1 < 2 then ex0 v3 v4 else if x1 = 3 then if (0 : Int) ≤ v4 ∧ (v4 : Int) < 4320 then if (σ1 5 v4) = (-1) then if rng (v3 + 0) then fX7_count_0_L66 x1 σ1 v4 (fun v30 v31 => if rng (v4 + 1) then fX7_count_0_L27 x1 σ1 ex0 n0 v30 (v4 + 1) else none) FU (v3 + 0) 0 else none else if rng (v3 + 1) then fX7_count_0_L66 x1 σ1 v4 (fun v44 v45 => if rng (v4 + 1) then fX7_count_0_L27 x1 σ1 ex0 n0 v44 (v4 + 1) else none) FU (v3 + 1) 0 else none else none else fX7_count_0_L66 x1 σ1 v4 (fun v15 v16 => if rng (v4 + 1) then fX7_count_0_L27 x1 σ1 ex0 n0 v15 (v4 + 1) else none) FU v3 0 else ex0 v3 v4
def fX7_count_0 (σ : Mem) (x1 : Int) : Option (Int × Mem) := nx (mup σ 0 0 0) fun σ1 => if (σ1 0 7) = 0 then some ((-1), σ1) else (fX7_in σ1 x1 0 3).bind fun v2 => if v2 = 0 then some ((-1), σ1) else fX7_count_0_L27 x1 σ1 (fun v51 v52 => if x1 = 0 then some ((σ1 0 8), σ1) else if x1 = 1 then some ((σ1 0 10), σ1) else some (v51, σ1)) FU 0 0
set_option maxHeartbeats 4000000 in
set_option maxRecDepth 100000 in
theorem kX7_count_0 (l : Launch) (dC : Nat → ClassId) (dI : Nat → Nat → Nat) (cI : ClassId) (a : Nat → Nat) (hi : ∀ i j, i < 12 → j < 12 → a i = a j → i = j) (σ : Mem) (x1 : Int) (r : (Int × Mem)) (hf : fX7_count_0 σ x1 = some r) (hR : Rg σ) (rx1 : rng x1) : Met l yX7_count wsX7_count ({ frames := 2, cells := 0, slots := 0, locals := 47 }) (va_Pc [.ref (a 0), .int (iN x1)] (preM dC dI cI a σ)) (qM (dC, dI) (gw 12 a (mE cI a)) (gA 12 a) r) 0 0 (gA 12 a) := by
  refine Met.ofW (cc := cX7_count) (maxL := 5) (ret := (some .int)) (by decide) rfl ?_
  intro p e s m args below meth c s₁ B hml hv
  obtain ⟨hargs, hP, hK⟩ := hv
  have hx := B.exec
  have hb := B.bytes
  have hr := B.returns
  have hts := atoms_spec (ws := wsX7_count) B.pre
  have hown : s.vm.findClass RX7 = some m.cls := findClass_of_methodNamed B.named
  have hlocks := B.notSynchronized
  have hS : va_S (gA 12 a) s.heap s.heap [] := va_S.rf
  have iX7 : ∀ w ∈ wsX70, w ∈ wsX7_count := by decide +kernel
  have fl102 := hts (.fieldLink RX7 102 "MatchHallModel" "rotations" "I") (by decide +kernel)
  have fl13 := hts (.fieldLink RX7 13 "MatchHallModel" "hospitals" "I") (by decide +kernel)
  have fl29 := hts (.fieldLink RX7 29 "MatchHallModel" "stable" "[I") (by decide +kernel)
  have fl54 := hts (.fieldLink RX7 54 "MatchHallModel" "worked" "Z") (by decide +kernel)
  have fl58 := hts (.fieldLink RX7 58 "MatchHallModel" "code" "I") (by decide +kernel)
  have fl7 := hts (.fieldLink RX7 7 "MatchHallModel" "residents" "I") (by decide +kernel)
  have fl88 := hts (.fieldLink RX7 88 "MatchHallModel" "many" "I") (by decide +kernel)
  have hrm : 2 ≤ (headSpec wsX7_count ({ frames := 2, cells := 0, slots := 0, locals := 47 })).room.frames ∧ 47 ≤ (headSpec wsX7_count ({ frames := 2, cells := 0, slots := 0, locals := 47 })).room.locals := ⟨Nat.le_refl _, Nat.le_refl _⟩
  generalize (headSpec wsX7_count ({ frames := 2, cells := 0, slots := 0, locals := 47 })).room = RR at hrm ⊢
  have hl := lv_entry ([.ref (a 0), .int (iN x1)]) (n := 5) (Nat.le_of_ble_eq_true rfl)
  rw [show entryFrame m args 5 = entryFrame m ([.ref (a 0), .int (iN x1)] : List Value).toArray 5 from by rw [hargs], lg_entry_eq]
  generalize (lg_sl ([.ref (a 0), .int (iN x1)]) ++ List.replicate (5 - (lg_sl ([.ref (a 0), .int (iN x1)])).length) Slot.unset).toArray = ls at hl ⊢
  have hl : lv_has ls 5 [(0, .ref (a 0)), (1, .int (iN x1))] := hl
  generalize hQQ : MQ below (qM (dC, dI) (gw 12 a (mE cI a)) (gA 12 a) r) args s 0 0 (gA 12 a) = QQ
  refine lv_aload_n hx hb dX7_count_0 rfl (lv_at hl 0 rfl) ?_
  refine lv_iconst (v := iN 0) hx hb dX7_count_1 rfl ?_
  obtain ⟨σ1, hσ1, hf⟩ := nxe hf
  refine x_put (C := RX7) (T := TX7) (NF := 17) (x := 0) (ty := .int) hx hb hts iX7 tyX7 tyX7_ok nmX7 hi hown hK hP hS 0 (by decide) (mE_0 cI a (_)) rfl 0 0 (by decide) fl58 rfl (by decide +kernel) rfl rfl (Nat.le_of_ble_eq_true rfl) rfl dX7_count_2 (fun H locs hP hS => ?_)
  rw [← hσ1] at hP
  have hRσ1 : Rg σ1 := by rw [hσ1]; exact Rg_up hR (by decide)
  refine lv_aload_n hx hb dX7_count_5 rfl (lv_at hl 0 rfl) ?_
  refine x_get (C := RX7) (T := TX7) (NF := 17) (v := .int (iN (σ1 0 7))) hx hb hts iX7 hown hK hP 0 (by decide) (mE_0 cI a (_)) rfl 7 (by decide) fl54 rfl dX7_count_6 ?_
  refine x_if_eq (tgt := 21) hx hb (hRσ1 0 7) dX7_count_9 (by decide) (fun c56 => ?_) (fun c56 => ?_)
  · replace hf := (if_pos c56).symm.trans hf
    refine lv_iconst (v := iN (-1)) hx hb dX7_count_21 rfl ?_
    rw [← hQQ]
    exact x_iretM hx hb hr (Option.some.inj hf) (by decide) hRσ1 hP hS hlocks dX7_count_22
  · replace hf := (if_neg c56).symm.trans hf
    refine lv_iload_n hx hb dX7_count_12 rfl (lv_at hl 1 rfl) ?_
    refine lv_iconst (v := iN 0) hx hb dX7_count_13 rfl ?_
    refine lv_iconst (v := iN 3) hx hb dX7_count_14 rfl ?_
    obtain ⟨v2, hv2, hf⟩ := bd hf
    refine x_callP (va_runS (As := [.int (iN x1), .int (iN 0), .int (iN 3)]) (rest := []) ⟨hx, hb, hml, hown, hts⟩ (kX7_in l dC dI cI a σ1 x1 0 3 v2 hv2 hRσ1 rx1 (by decide) (by decide)) (va_cwS 3 hts gX7_count_X7_in rfl rfl rfl hX7_in_d ⟨Nat.le_trans (by decide) hrm.1, Nat.le_trans (by decide) hrm.2⟩) (psM hP hK) rfl rfl hl.1 rfl (lv_room (Nat.le_of_ble_eq_true rfl)) dX7_count_15 ⟨Nat.zero_le _, Nat.zero_le _⟩) (fun rv2 => ?_)
    refine x_if_ne (tgt := 23) hx hb rv2 dX7_count_18 (by decide) (fun c55 => ?_) (fun c55 => ?_)
    · replace hf := (if_neg c55).symm.trans hf
      refine lv_iconst (v := iN 0) hx hb dX7_count_23 rfl ?_
      refine lv_istore_n (lv' := [(2, .int (iN 0)), (0, .ref (a 0)), (1, .int (iN x1))]) hx hb dX7_count_24 rfl hl (by decide) rfl (fun ls hl => ?_)
      refine lv_iconst (v := iN 0) hx hb dX7_count_25 rfl ?_
      refine lv_istore_n (lv' := [(3, .int (iN 0)), (2, .int (iN 0)), (0, .ref (a 0)), (1, .int (iN x1))]) hx hb dX7_count_26 rfl hl (by decide) rfl (fun ls hl => ?_)
      have L_fX7_count_0_L27 : ∀ (EX0 : Int → Int → Option (Int × Mem)), (∀ (v3 : Int) (v4 : Int), rng v3 → rng v4 → EX0 v3 v4 = some r → ∀ H locs ls, va_P (dC, dI) vwCl (gw 12 a (mE cI a) σ1) H → va_S (gA 12 a) s.heap H locs → lv_has ls 5 [(0, .ref (a 0)), (1, .int (iN x1)), (2, .int (iN v3)), (3, .int (iN v4))] → W p l e RR s m args below meth c H locs 0 0 QQ (F0 m 110 ls [])) → ∀ n0 : Nat, ∀ (v3 : Int) (v4 : Int), rng v3 → rng v4 → fX7_count_0_L27 x1 σ1 EX0 n0 v3 v4 = some r → ∀ H locs ls, va_P (dC, dI) vwCl (gw 12 a (mE cI a) σ1) H → va_S (gA 12 a) s.heap H locs → lv_has ls 5 [(0, .ref (a 0)), (1, .int (iN x1)), (2, .int (iN v3)), (3, .int (iN v4))] → W p l e RR s m args below meth c H locs 0 0 QQ (F0 m 27 ls []) := by
        intro EX0 hEX0 n0
        induction n0 with
        | zero => intro _ _ _ _ hf; cases hf
        | succ n0 ih0 =>
          intro v3 v4 rv3 rv4 hf H locs ls hP hS hl
          rw [fX7_count_0_L27] at hf
          refine lv_iload_n hx hb dX7_count_27 rfl (lv_at hl 3 rfl) ?_
          refine lv_aload_n hx hb dX7_count_28 rfl (lv_at hl 0 rfl) ?_
          refine x_get (C := RX7) (T := TX7) (NF := 17) (v := .int (iN (σ1 0 1))) hx hb hts iX7 hown hK hP 0 (by decide) (mE_0 cI a (_)) rfl 1 (by decide) fl7 rfl dX7_count_29 ?_
          refine x_icmp_ge (tgt := 110) hx hb rv4 (hRσ1 0 1) dX7_count_32 (by decide) (fun c50 => ?_) (fun c50 => ?_)
          · replace hf := (if_neg c50).symm.trans hf
            exact hEX0 _ _ rv3 rv4 hf _ _ _ hP hS (lv_sub hl [0, 1, 2, 3] rfl)
          · replace hf := (if_pos c50).symm.trans hf
            refine lv_iload_n hx hb dX7_count_35 rfl (lv_at hl 1 rfl) ?_
            refine lv_iconst (v := iN 2) hx hb dX7_count_36 rfl ?_
            refine x_icmp_lt (tgt := 110) hx hb rx1 (by decide) dX7_count_37 (by decide) (fun c49 => ?_) (fun c49 => ?_)
            · replace hf := (if_pos c49).symm.trans hf
              exact hEX0 _ _ rv3 rv4 hf _ _ _ hP hS (lv_sub hl [0, 1, 2, 3] rfl)
            · replace hf := (if_neg c49).symm.trans hf
              refine lv_iload_n hx hb dX7_count_40 rfl (lv_at hl 1 rfl) ?_
              refine lv_iconst (v := iN 3) hx hb dX7_count_41 rfl ?_
              refine x_icmp_ne (tgt := 63) hx hb rx1 (by decide) dX7_count_42 (by decide) (fun c48 => ?_) (fun c48 => ?_)
              · replace hf := (if_neg c48).symm.trans hf
                refine lv_iconst (v := iN 0) hx hb dX7_count_63 rfl ?_
                refine lv_istore (lv' := [(4, .int (iN 0)), (0, .ref (a 0)), (1, .int (iN x1)), (2, .int (iN v3)), (3, .int (iN v4))]) hx hb dX7_count_64 hl (by decide) rfl (fun ls hl => ?_)
                have L_fX7_count_0_L66 : ∀ (EX1 : Int → Int → Option (Int × Mem)), (∀ (v5 : Int) (v6 : Int), rng v5 → rng v6 → EX1 v5 v6 = some r → ∀ H locs ls, va_P (dC, dI) vwCl (gw 12 a (mE cI a) σ1) H → va_S (gA 12 a) s.heap H locs → lv_has ls 5 [(0, .ref (a 0)), (1, .int (iN x1)), (2, .int (iN v5)), (3, .int (iN v4)), (4, .int (iN v6))] → W p l e RR s m args below meth c H locs 0 0 QQ (F0 m 104 ls [])) → ∀ n1 : Nat, ∀ (v5 : Int) (v6 : Int), rng v5 → rng v6 → fX7_count_0_L66 x1 σ1 v4 EX1 n1 v5 v6 = some r → ∀ H locs ls, va_P (dC, dI) vwCl (gw 12 a (mE cI a) σ1) H → va_S (gA 12 a) s.heap H locs → lv_has ls 5 [(0, .ref (a 0)), (1, .int (iN x1)), (2, .int (iN v5)), (3, .int (iN v4)), (4, .int (iN v6))] → W p l e RR s m args below meth c H locs 0 0 QQ (F0 m 66 ls []) := by
                  intro EX1 hEX1 n1
                  induction n1 with
                  | zero => intro _ _ _ _ hf; cases hf
                  | succ n1 ih1 =>
                    intro v5 v6 rv5 rv6 hf H locs ls hP hS hl
                    rw [fX7_count_0_L66] at hf
                    refine lv_iload hx hb dX7_count_66 (lv_at hl 4 rfl) ?_
                    refine lv_aload_n hx hb dX7_count_68 rfl (lv_at hl 0 rfl) ?_
                    refine x_get (C := RX7) (T := TX7) (NF := 17) (v := .int (iN (σ1 0 2))) hx hb hts iX7 hown hK hP 0 (by decide) (mE_0 cI a (_)) rfl 2 (by decide) fl13 rfl dX7_count_69 ?_
                    refine x_icmp_ge (tgt := 104) hx hb rv6 (hRσ1 0 2) dX7_count_72 (by decide) (fun c14 => ?_) (fun c14 => ?_)
                    · replace hf := (if_neg c14).symm.trans hf
                      exact hEX1 _ _ rv5 rv6 hf _ _ _ hP hS (lv_sub hl [0, 1, 2, 3, 4] rfl)
                    · replace hf := (if_pos c14).symm.trans hf
                      refine lv_iload_n hx hb dX7_count_75 rfl (lv_at hl 1 rfl) ?_
                      refine lv_iconst (v := iN 2) hx hb dX7_count_76 rfl ?_
                      refine x_icmp_ne (tgt := 104) hx hb rx1 (by decide) dX7_count_77 (by decide) (fun c13 => ?_) (fun c13 => ?_)
                      · replace hf := (if_neg c13).symm.trans hf
                        exact hEX1 _ _ rv5 rv6 hf _ _ _ hP hS (lv_sub hl [0, 1, 2, 3, 4] rfl)
                      · replace hf := (if_pos c13).symm.trans hf
                        refine lv_iload_n hx hb dX7_count_80 rfl (lv_at hl 2 rfl) ?_
                        refine lv_aload_n hx hb dX7_count_81 rfl (lv_at hl 0 rfl) ?_
                        refine lv_iload_n hx hb dX7_count_82 rfl (lv_at hl 3 rfl) ?_
                        refine lv_iload hx hb dX7_count_83 (lv_at hl 4 rfl) ?_
                        obtain ⟨v7, hv7, hf⟩ := bd hf
                        refine x_callP (va_runV (As := [.int (iN v4), .int (iN v6)]) (rest := [.int (iN v5)]) ⟨hx, hb, hml, hown, hts⟩ (kX7_isPair_0 l dC dI cI a σ1 v4 v6 v7 hv7 hRσ1 rv4 rv6) (cwV 2 hts gX7_count_X7_isPair rfl rfl rfl hX7_isPair_d ⟨Nat.le_trans (by decide) hrm.1, Nat.le_trans (by decide) hrm.2⟩) (pvM 0 (by decide) (mE_0 cI a (_)) rfl hP hK) rfl rfl hl.1 rfl (lv_room (Nat.le_of_ble_eq_true rfl)) dX7_count_85 ⟨Nat.zero_le _, Nat.zero_le _⟩) (fun rv7 => ?_)
                        refine x_if_eq (tgt := 95) hx hb rv7 dX7_count_88 (by decide) (fun c12 => ?_) (fun c12 => ?_)
                        · replace hf := (if_pos c12).symm.trans hf
                          refine lv_iconst (v := iN 0) hx hb dX7_count_95 rfl ?_
                          obtain ⟨g8, hf⟩ := gd hf
                          refine x_iadd hx hb dX7_count_96 ?_
                          refine lv_istore_n (lv' := [(2, .int (iN (v5 + 0))), (0, .ref (a 0)), (1, .int (iN x1)), (3, .int (iN v4)), (4, .int (iN v6))]) hx hb dX7_count_97 rfl hl (by decide) rfl (fun ls hl => ?_)
                          obtain ⟨g9, hf⟩ := gd hf
                          refine lv_iinc (v := iN (v6 + 1)) (lv' := [(4, .int (iN (v6 + 1))), (2, .int (iN (v5 + 0))), (0, .ref (a 0)), (1, .int (iN x1)), (3, .int (iN v4))]) hx hb dX7_count_98 hl (k := 4) rfl (iN_add v6 1) (by decide) rfl (fun ls hl => ?_)
                          refine lv_goto (tgt := 66) hx hb dX7_count_101 (by decide) ?_
                          exact ih1 _ _ g8 g9 hf _ _ _ hP hS (lv_sub hl [2, 3, 1, 4, 0] rfl)
                        · replace hf := (if_neg c12).symm.trans hf
                          refine lv_iconst (v := iN 1) hx hb dX7_count_91 rfl ?_
                          refine lv_goto (tgt := 96) hx hb dX7_count_92 (by decide) ?_
                          obtain ⟨g10, hf⟩ := gd hf
                          refine x_iadd hx hb dX7_count_96 ?_
                          refine lv_istore_n (lv' := [(2, .int (iN (v5 + 1))), (0, .ref (a 0)), (1, .int (iN x1)), (3, .int (iN v4)), (4, .int (iN v6))]) hx hb dX7_count_97 rfl hl (by decide) rfl (fun ls hl => ?_)
                          obtain ⟨g11, hf⟩ := gd hf
                          refine lv_iinc (v := iN (v6 + 1)) (lv' := [(4, .int (iN (v6 + 1))), (2, .int (iN (v5 + 1))), (0, .ref (a 0)), (1, .int (iN x1)), (3, .int (iN v4))]) hx hb dX7_count_98 hl (k := 4) rfl (iN_add v6 1) (by decide) rfl (fun ls hl => ?_)
                          refine lv_goto (tgt := 66) hx hb dX7_count_101 (by decide) ?_
                          exact ih1 _ _ g10 g11 hf _ _ _ hP hS (lv_sub hl [2, 3, 1, 4, 0] rfl)
                refine L_fX7_count_0_L66 _ (fun v15 v16 rv15 rv16 hf H locs ls hP hS hl => ?_) _ _ _ rv3 (by decide) hf _ _ _ hP hS (lv_sub hl [1, 2, 3, 4, 0] rfl)
                obtain ⟨g17, hf⟩ := gd hf
                refine lv_iinc (v := iN (v4 + 1)) (lv' := [(3, .int (iN (v4 + 1))), (0, .ref (a 0)), (1, .int (iN x1)), (2, .int (iN v15)), (4, .int (iN v16))]) hx hb dX7_count_104 hl (k := 3) rfl (iN_add v4 1) (by decide) rfl (fun ls hl => ?_)
                refine lv_goto (tgt := 27) hx hb dX7_count_107 (by decide) ?_
                exact ih0 _ _ rv15 g17 hf _ _ _ hP hS (lv_sub hl [1, 2, 3, 0] rfl)
              · replace hf := (if_pos c48).symm.trans hf
                refine lv_iload_n hx hb dX7_count_45 rfl (lv_at hl 2 rfl) ?_
                refine lv_aload_n hx hb dX7_count_46 rfl (lv_at hl 0 rfl) ?_
                refine x_get (C := RX7) (T := TX7) (NF := 17) (v := .ref (a 5)) hx hb hts iX7 hown hK hP 0 (by decide) (mE_0 cI a (_)) rfl 9 (by decide) fl29 rfl dX7_count_47 ?_
                refine lv_iload_n hx hb dX7_count_50 rfl (lv_at hl 3 rfl) ?_
                obtain ⟨g18, hf⟩ := gd hf
                refine x_iald hx hb hK hP 5 0 (by decide) (mE_5 cI a (_)) (by decide) rfl g18 dX7_count_51 ?_
                refine lv_iconst (v := iN (-1)) hx hb dX7_count_52 rfl ?_
                refine x_icmp_eq (tgt := 60) hx hb (hRσ1 5 v4) (by decide) dX7_count_53 (by decide) (fun c47 => ?_) (fun c47 => ?_)
                · replace hf := (if_pos c47).symm.trans hf
                  refine lv_iconst (v := iN 0) hx hb dX7_count_60 rfl ?_
                  obtain ⟨g19, hf⟩ := gd hf
                  refine x_iadd hx hb dX7_count_61 ?_
                  refine lv_istore_n (lv' := [(2, .int (iN (v3 + 0))), (0, .ref (a 0)), (1, .int (iN x1)), (3, .int (iN v4))]) hx hb dX7_count_62 rfl hl (by decide) rfl (fun ls hl => ?_)
                  refine lv_iconst (v := iN 0) hx hb dX7_count_63 rfl ?_
                  refine lv_istore (lv' := [(4, .int (iN 0)), (2, .int (iN (v3 + 0))), (0, .ref (a 0)), (1, .int (iN x1)), (3, .int (iN v4))]) hx hb dX7_count_64 hl (by decide) rfl (fun ls hl => ?_)
                  have L_fX7_count_0_L66_2 : ∀ (EX1 : Int → Int → Option (Int × Mem)), (∀ (v20 : Int) (v21 : Int), rng v20 → rng v21 → EX1 v20 v21 = some r → ∀ H locs ls, va_P (dC, dI) vwCl (gw 12 a (mE cI a) σ1) H → va_S (gA 12 a) s.heap H locs → lv_has ls 5 [(0, .ref (a 0)), (1, .int (iN x1)), (2, .int (iN v20)), (3, .int (iN v4)), (4, .int (iN v21))] → W p l e RR s m args below meth c H locs 0 0 QQ (F0 m 104 ls [])) → ∀ n1 : Nat, ∀ (v20 : Int) (v21 : Int), rng v20 → rng v21 → fX7_count_0_L66 x1 σ1 v4 EX1 n1 v20 v21 = some r → ∀ H locs ls, va_P (dC, dI) vwCl (gw 12 a (mE cI a) σ1) H → va_S (gA 12 a) s.heap H locs → lv_has ls 5 [(0, .ref (a 0)), (1, .int (iN x1)), (2, .int (iN v20)), (3, .int (iN v4)), (4, .int (iN v21))] → W p l e RR s m args below meth c H locs 0 0 QQ (F0 m 66 ls []) := by
                    intro EX1 hEX1 n1
                    induction n1 with
                    | zero => intro _ _ _ _ hf; cases hf
                    | succ n1 ih1 =>
                      intro v20 v21 rv20 rv21 hf H locs ls hP hS hl
                      rw [fX7_count_0_L66] at hf
                      refine lv_iload hx hb dX7_count_66 (lv_at hl 4 rfl) ?_
                      refine lv_aload_n hx hb dX7_count_68 rfl (lv_at hl 0 rfl) ?_
                      refine x_get (C := RX7) (T := TX7) (NF := 17) (v := .int (iN (σ1 0 2))) hx hb hts iX7 hown hK hP 0 (by decide) (mE_0 cI a (_)) rfl 2 (by decide) fl13 rfl dX7_count_69 ?_
                      refine x_icmp_ge (tgt := 104) hx hb rv21 (hRσ1 0 2) dX7_count_72 (by decide) (fun c29 => ?_) (fun c29 => ?_)
                      · replace hf := (if_neg c29).symm.trans hf
                        exact hEX1 _ _ rv20 rv21 hf _ _ _ hP hS (lv_sub hl [0, 1, 2, 3, 4] rfl)
                      · replace hf := (if_pos c29).symm.trans hf
                        refine lv_iload_n hx hb dX7_count_75 rfl (lv_at hl 1 rfl) ?_
                        refine lv_iconst (v := iN 2) hx hb dX7_count_76 rfl ?_
                        refine x_icmp_ne (tgt := 104) hx hb rx1 (by decide) dX7_count_77 (by decide) (fun c28 => ?_) (fun c28 => ?_)
                        · replace hf := (if_neg c28).symm.trans hf
                          exact hEX1 _ _ rv20 rv21 hf _ _ _ hP hS (lv_sub hl [0, 1, 2, 3, 4] rfl)
                        · replace hf := (if_pos c28).symm.trans hf
                          refine lv_iload_n hx hb dX7_count_80 rfl (lv_at hl 2 rfl) ?_
                          refine lv_aload_n hx hb dX7_count_81 rfl (lv_at hl 0 rfl) ?_
                          refine lv_iload_n hx hb dX7_count_82 rfl (lv_at hl 3 rfl) ?_
                          refine lv_iload hx hb dX7_count_83 (lv_at hl 4 rfl) ?_
                          obtain ⟨v22, hv22, hf⟩ := bd hf
                          refine x_callP (va_runV (As := [.int (iN v4), .int (iN v21)]) (rest := [.int (iN v20)]) ⟨hx, hb, hml, hown, hts⟩ (kX7_isPair_0 l dC dI cI a σ1 v4 v21 v22 hv22 hRσ1 rv4 rv21) (cwV 2 hts gX7_count_X7_isPair rfl rfl rfl hX7_isPair_d ⟨Nat.le_trans (by decide) hrm.1, Nat.le_trans (by decide) hrm.2⟩) (pvM 0 (by decide) (mE_0 cI a (_)) rfl hP hK) rfl rfl hl.1 rfl (lv_room (Nat.le_of_ble_eq_true rfl)) dX7_count_85 ⟨Nat.zero_le _, Nat.zero_le _⟩) (fun rv22 => ?_)
                          refine x_if_eq (tgt := 95) hx hb rv22 dX7_count_88 (by decide) (fun c27 => ?_) (fun c27 => ?_)
                          · replace hf := (if_pos c27).symm.trans hf
                            refine lv_iconst (v := iN 0) hx hb dX7_count_95 rfl ?_
                            obtain ⟨g23, hf⟩ := gd hf
                            refine x_iadd hx hb dX7_count_96 ?_
                            refine lv_istore_n (lv' := [(2, .int (iN (v20 + 0))), (0, .ref (a 0)), (1, .int (iN x1)), (3, .int (iN v4)), (4, .int (iN v21))]) hx hb dX7_count_97 rfl hl (by decide) rfl (fun ls hl => ?_)
                            obtain ⟨g24, hf⟩ := gd hf
                            refine lv_iinc (v := iN (v21 + 1)) (lv' := [(4, .int (iN (v21 + 1))), (2, .int (iN (v20 + 0))), (0, .ref (a 0)), (1, .int (iN x1)), (3, .int (iN v4))]) hx hb dX7_count_98 hl (k := 4) rfl (iN_add v21 1) (by decide) rfl (fun ls hl => ?_)
                            refine lv_goto (tgt := 66) hx hb dX7_count_101 (by decide) ?_
                            exact ih1 _ _ g23 g24 hf _ _ _ hP hS (lv_sub hl [2, 3, 1, 4, 0] rfl)
                          · replace hf := (if_neg c27).symm.trans hf
                            refine lv_iconst (v := iN 1) hx hb dX7_count_91 rfl ?_
                            refine lv_goto (tgt := 96) hx hb dX7_count_92 (by decide) ?_
                            obtain ⟨g25, hf⟩ := gd hf
                            refine x_iadd hx hb dX7_count_96 ?_
                            refine lv_istore_n (lv' := [(2, .int (iN (v20 + 1))), (0, .ref (a 0)), (1, .int (iN x1)), (3, .int (iN v4)), (4, .int (iN v21))]) hx hb dX7_count_97 rfl hl (by decide) rfl (fun ls hl => ?_)
                            obtain ⟨g26, hf⟩ := gd hf
                            refine lv_iinc (v := iN (v21 + 1)) (lv' := [(4, .int (iN (v21 + 1))), (2, .int (iN (v20 + 1))), (0, .ref (a 0)), (1, .int (iN x1)), (3, .int (iN v4))]) hx hb dX7_count_98 hl (k := 4) rfl (iN_add v21 1) (by decide) rfl (fun ls hl => ?_)
                            refine lv_goto (tgt := 66) hx hb dX7_count_101 (by decide) ?_
                            exact ih1 _ _ g25 g26 hf _ _ _ hP hS (lv_sub hl [2, 3, 1, 4, 0] rfl)
                  refine L_fX7_count_0_L66_2 _ (fun v30 v31 rv30 rv31 hf H locs ls hP hS hl => ?_) _ _ _ g19 (by decide) hf _ _ _ hP hS (lv_sub hl [2, 3, 1, 4, 0] rfl)
                  obtain ⟨g32, hf⟩ := gd hf
                  refine lv_iinc (v := iN (v4 + 1)) (lv' := [(3, .int (iN (v4 + 1))), (0, .ref (a 0)), (1, .int (iN x1)), (2, .int (iN v30)), (4, .int (iN v31))]) hx hb dX7_count_104 hl (k := 3) rfl (iN_add v4 1) (by decide) rfl (fun ls hl => ?_)
                  refine lv_goto (tgt := 27) hx hb dX7_count_107 (by decide) ?_
                  exact ih0 _ _ rv30 g32 hf _ _ _ hP hS (lv_sub hl [1, 2, 3, 0] rfl)
                · replace hf := (if_neg c47).symm.trans hf
                  refine lv_iconst (v := iN 1) hx hb dX7_count_56 rfl ?_
                  refine lv_goto (tgt := 61) hx hb dX7_count_57 (by decide) ?_
                  obtain ⟨g33, hf⟩ := gd hf
                  refine x_iadd hx hb dX7_count_61 ?_
                  refine lv_istore_n (lv' := [(2, .int (iN (v3 + 1))), (0, .ref (a 0)), (1, .int (iN x1)), (3, .int (iN v4))]) hx hb dX7_count_62 rfl hl (by decide) rfl (fun ls hl => ?_)
                  refine lv_iconst (v := iN 0) hx hb dX7_count_63 rfl ?_
                  refine lv_istore (lv' := [(4, .int (iN 0)), (2, .int (iN (v3 + 1))), (0, .ref (a 0)), (1, .int (iN x1)), (3, .int (iN v4))]) hx hb dX7_count_64 hl (by decide) rfl (fun ls hl => ?_)
                  have L_fX7_count_0_L66_2 : ∀ (EX1 : Int → Int → Option (Int × Mem)), (∀ (v34 : Int) (v35 : Int), rng v34 → rng v35 → EX1 v34 v35 = some r → ∀ H locs ls, va_P (dC, dI) vwCl (gw 12 a (mE cI a) σ1) H → va_S (gA 12 a) s.heap H locs → lv_has ls 5 [(0, .ref (a 0)), (1, .int (iN x1)), (2, .int (iN v34)), (3, .int (iN v4)), (4, .int (iN v35))] → W p l e RR s m args below meth c H locs 0 0 QQ (F0 m 104 ls [])) → ∀ n1 : Nat, ∀ (v34 : Int) (v35 : Int), rng v34 → rng v35 → fX7_count_0_L66 x1 σ1 v4 EX1 n1 v34 v35 = some r → ∀ H locs ls, va_P (dC, dI) vwCl (gw 12 a (mE cI a) σ1) H → va_S (gA 12 a) s.heap H locs → lv_has ls 5 [(0, .ref (a 0)), (1, .int (iN x1)), (2, .int (iN v34)), (3, .int (iN v4)), (4, .int (iN v35))] → W p l e RR s m args below meth c H locs 0 0 QQ (F0 m 66 ls []) := by
                    intro EX1 hEX1 n1
                    induction n1 with
                    | zero => intro _ _ _ _ hf; cases hf
                    | succ n1 ih1 =>
                      intro v34 v35 rv34 rv35 hf H locs ls hP hS hl
                      rw [fX7_count_0_L66] at hf
                      refine lv_iload hx hb dX7_count_66 (lv_at hl 4 rfl) ?_
                      refine lv_aload_n hx hb dX7_count_68 rfl (lv_at hl 0 rfl) ?_
                      refine x_get (C := RX7) (T := TX7) (NF := 17) (v := .int (iN (σ1 0 2))) hx hb hts iX7 hown hK hP 0 (by decide) (mE_0 cI a (_)) rfl 2 (by decide) fl13 rfl dX7_count_69 ?_
                      refine x_icmp_ge (tgt := 104) hx hb rv35 (hRσ1 0 2) dX7_count_72 (by decide) (fun c43 => ?_) (fun c43 => ?_)
                      · replace hf := (if_neg c43).symm.trans hf
                        exact hEX1 _ _ rv34 rv35 hf _ _ _ hP hS (lv_sub hl [0, 1, 2, 3, 4] rfl)
                      · replace hf := (if_pos c43).symm.trans hf
                        refine lv_iload_n hx hb dX7_count_75 rfl (lv_at hl 1 rfl) ?_
                        refine lv_iconst (v := iN 2) hx hb dX7_count_76 rfl ?_
                        refine x_icmp_ne (tgt := 104) hx hb rx1 (by decide) dX7_count_77 (by decide) (fun c42 => ?_) (fun c42 => ?_)
                        · replace hf := (if_neg c42).symm.trans hf
                          exact hEX1 _ _ rv34 rv35 hf _ _ _ hP hS (lv_sub hl [0, 1, 2, 3, 4] rfl)
                        · replace hf := (if_pos c42).symm.trans hf
                          refine lv_iload_n hx hb dX7_count_80 rfl (lv_at hl 2 rfl) ?_
                          refine lv_aload_n hx hb dX7_count_81 rfl (lv_at hl 0 rfl) ?_
                          refine lv_iload_n hx hb dX7_count_82 rfl (lv_at hl 3 rfl) ?_
                          refine lv_iload hx hb dX7_count_83 (lv_at hl 4 rfl) ?_
                          obtain ⟨v36, hv36, hf⟩ := bd hf
                          refine x_callP (va_runV (As := [.int (iN v4), .int (iN v35)]) (rest := [.int (iN v34)]) ⟨hx, hb, hml, hown, hts⟩ (kX7_isPair_0 l dC dI cI a σ1 v4 v35 v36 hv36 hRσ1 rv4 rv35) (cwV 2 hts gX7_count_X7_isPair rfl rfl rfl hX7_isPair_d ⟨Nat.le_trans (by decide) hrm.1, Nat.le_trans (by decide) hrm.2⟩) (pvM 0 (by decide) (mE_0 cI a (_)) rfl hP hK) rfl rfl hl.1 rfl (lv_room (Nat.le_of_ble_eq_true rfl)) dX7_count_85 ⟨Nat.zero_le _, Nat.zero_le _⟩) (fun rv36 => ?_)
                          refine x_if_eq (tgt := 95) hx hb rv36 dX7_count_88 (by decide) (fun c41 => ?_) (fun c41 => ?_)
                          · replace hf := (if_pos c41).symm.trans hf
                            refine lv_iconst (v := iN 0) hx hb dX7_count_95 rfl ?_
                            obtain ⟨g37, hf⟩ := gd hf
                            refine x_iadd hx hb dX7_count_96 ?_
                            refine lv_istore_n (lv' := [(2, .int (iN (v34 + 0))), (0, .ref (a 0)), (1, .int (iN x1)), (3, .int (iN v4)), (4, .int (iN v35))]) hx hb dX7_count_97 rfl hl (by decide) rfl (fun ls hl => ?_)
                            obtain ⟨g38, hf⟩ := gd hf
                            refine lv_iinc (v := iN (v35 + 1)) (lv' := [(4, .int (iN (v35 + 1))), (2, .int (iN (v34 + 0))), (0, .ref (a 0)), (1, .int (iN x1)), (3, .int (iN v4))]) hx hb dX7_count_98 hl (k := 4) rfl (iN_add v35 1) (by decide) rfl (fun ls hl => ?_)
                            refine lv_goto (tgt := 66) hx hb dX7_count_101 (by decide) ?_
                            exact ih1 _ _ g37 g38 hf _ _ _ hP hS (lv_sub hl [2, 3, 1, 4, 0] rfl)
                          · replace hf := (if_neg c41).symm.trans hf
                            refine lv_iconst (v := iN 1) hx hb dX7_count_91 rfl ?_
                            refine lv_goto (tgt := 96) hx hb dX7_count_92 (by decide) ?_
                            obtain ⟨g39, hf⟩ := gd hf
                            refine x_iadd hx hb dX7_count_96 ?_
                            refine lv_istore_n (lv' := [(2, .int (iN (v34 + 1))), (0, .ref (a 0)), (1, .int (iN x1)), (3, .int (iN v4)), (4, .int (iN v35))]) hx hb dX7_count_97 rfl hl (by decide) rfl (fun ls hl => ?_)
                            obtain ⟨g40, hf⟩ := gd hf
                            refine lv_iinc (v := iN (v35 + 1)) (lv' := [(4, .int (iN (v35 + 1))), (2, .int (iN (v34 + 1))), (0, .ref (a 0)), (1, .int (iN x1)), (3, .int (iN v4))]) hx hb dX7_count_98 hl (k := 4) rfl (iN_add v35 1) (by decide) rfl (fun ls hl => ?_)
                            refine lv_goto (tgt := 66) hx hb dX7_count_101 (by decide) ?_
                            exact ih1 _ _ g39 g40 hf _ _ _ hP hS (lv_sub hl [2, 3, 1, 4, 0] rfl)
                  refine L_fX7_count_0_L66_2 _ (fun v44 v45 rv44 rv45 hf H locs ls hP hS hl => ?_) _ _ _ g33 (by decide) hf _ _ _ hP hS (lv_sub hl [2, 3, 1, 4, 0] rfl)
                  obtain ⟨g46, hf⟩ := gd hf
                  refine lv_iinc (v := iN (v4 + 1)) (lv' := [(3, .int (iN (v4 + 1))), (0, .ref (a 0)), (1, .int (iN x1)), (2, .int (iN v44)), (4, .int (iN v45))]) hx hb dX7_count_104 hl (k := 3) rfl (iN_add v4 1) (by decide) rfl (fun ls hl => ?_)
                  refine lv_goto (tgt := 27) hx hb dX7_count_107 (by decide) ?_
                  exact ih0 _ _ rv44 g46 hf _ _ _ hP hS (lv_sub hl [1, 2, 3, 0] rfl)
      refine L_fX7_count_0_L27 _ (fun v51 v52 rv51 rv52 hf H locs ls hP hS hl => ?_) _ _ _ (by decide) (by decide) hf _ _ _ hP hS (lv_sub hl [2, 3, 1, 0] rfl)
      refine lv_iload_n hx hb dX7_count_110 rfl (lv_at hl 1 rfl) ?_
      refine x_if_ne (tgt := 121) hx hb rx1 dX7_count_111 (by decide) (fun c54 => ?_) (fun c54 => ?_)
      · replace hf := (if_neg c54).symm.trans hf
        refine lv_iload_n hx hb dX7_count_121 rfl (lv_at hl 1 rfl) ?_
        refine lv_iconst (v := iN 1) hx hb dX7_count_122 rfl ?_
        refine x_icmp_ne (tgt := 133) hx hb rx1 (by decide) dX7_count_123 (by decide) (fun c53 => ?_) (fun c53 => ?_)
        · replace hf := (if_neg c53).symm.trans hf
          refine lv_iload_n hx hb dX7_count_133 rfl (lv_at hl 2 rfl) ?_
          rw [← hQQ]
          exact x_iretM hx hb hr (Option.some.inj hf) rv51 hRσ1 hP hS hlocks dX7_count_134
        · replace hf := (if_pos c53).symm.trans hf
          refine lv_aload_n hx hb dX7_count_126 rfl (lv_at hl 0 rfl) ?_
          refine x_get (C := RX7) (T := TX7) (NF := 17) (v := .int (iN (σ1 0 10))) hx hb hts iX7 hown hK hP 0 (by decide) (mE_0 cI a (_)) rfl 10 (by decide) fl102 rfl dX7_count_127 ?_
          refine lv_goto (tgt := 134) hx hb dX7_count_130 (by decide) ?_
          rw [← hQQ]
          exact x_iretM hx hb hr (Option.some.inj hf) (hRσ1 0 10) hRσ1 hP hS hlocks dX7_count_134
      · replace hf := (if_pos c54).symm.trans hf
        refine lv_aload_n hx hb dX7_count_114 rfl (lv_at hl 0 rfl) ?_
        refine x_get (C := RX7) (T := TX7) (NF := 17) (v := .int (iN (σ1 0 8))) hx hb hts iX7 hown hK hP 0 (by decide) (mE_0 cI a (_)) rfl 8 (by decide) fl88 rfl dX7_count_115 ?_
        refine lv_goto (tgt := 134) hx hb dX7_count_118 (by decide) ?_
        rw [← hQQ]
        exact x_iretM hx hb hr (Option.some.inj hf) (hRσ1 0 8) hRσ1 hP hS hlocks dX7_count_134
    · replace hf := (if_pos c55).symm.trans hf
      refine lv_iconst (v := iN (-1)) hx hb dX7_count_21 rfl ?_
      rw [← hQQ]
      exact x_iretM hx hb hr (Option.some.inj hf) (by decide) hRσ1 hP hS hlocks dX7_count_22
def fX7_isStable_0 (σ : Mem) (x1 : Int) : Option Int := if (σ 0 7) = 0 then some 0 else if rng ((σ 0 8) - 1) then (fX7_in σ x1 0 ((σ 0 8) - 1)).bind fun v2 => if v2 = 0 then some 0 else some 1 else none
set_option maxHeartbeats 4000000 in
set_option maxRecDepth 100000 in
theorem kX7_isStable_0 (l : Launch) (dC : Nat → ClassId) (dI : Nat → Nat → Nat) (cI : ClassId) (a : Nat → Nat) (σ : Mem) (x1 : Int) (r : Int) (hf : fX7_isStable_0 σ x1 = some r) (hR : Rg σ) (rx1 : rng x1) : Met l yX7_isStable wsX7_isStable ({ frames := 1, cells := 0, slots := 0, locals := 22 }) (va_Pc [.ref (a 0), .int (iN x1)] (preM dC dI cI a σ)) (qP r) 0 0 (fun _ => False) := by
  refine Met.ofW (cc := cX7_isStable) (maxL := 2) (ret := (some .boolean)) (by decide) rfl ?_
  intro p e s m args below meth c s₁ B hml hv
  obtain ⟨hargs, hP, hK⟩ := hv
  have hx := B.exec
  have hb := B.bytes
  have hr := B.returns
  have hts := atoms_spec (ws := wsX7_isStable) B.pre
  have hown : s.vm.findClass RX7 = some m.cls := findClass_of_methodNamed B.named
  have hlocks := B.notSynchronized
  have iX7 : ∀ w ∈ wsX70, w ∈ wsX7_isStable := by decide +kernel
  have fl54 := hts (.fieldLink RX7 54 "MatchHallModel" "worked" "Z") (by decide +kernel)
  have fl88 := hts (.fieldLink RX7 88 "MatchHallModel" "many" "I") (by decide +kernel)
  have hrm : 1 ≤ (headSpec wsX7_isStable ({ frames := 1, cells := 0, slots := 0, locals := 22 })).room.frames ∧ 22 ≤ (headSpec wsX7_isStable ({ frames := 1, cells := 0, slots := 0, locals := 22 })).room.locals := ⟨Nat.le_refl _, Nat.le_refl _⟩
  generalize (headSpec wsX7_isStable ({ frames := 1, cells := 0, slots := 0, locals := 22 })).room = RR at hrm ⊢
  have hl := lv_entry ([.ref (a 0), .int (iN x1)]) (n := 2) (Nat.le_of_ble_eq_true rfl)
  rw [show entryFrame m args 2 = entryFrame m ([.ref (a 0), .int (iN x1)] : List Value).toArray 2 from by rw [hargs], lg_entry_eq]
  generalize (lg_sl ([.ref (a 0), .int (iN x1)]) ++ List.replicate (2 - (lg_sl ([.ref (a 0), .int (iN x1)])).length) Slot.unset).toArray = ls at hl ⊢
  have hl : lv_has ls 2 [(0, .ref (a 0)), (1, .int (iN x1))] := hl
  generalize hQQ : MQ below (qP r) args s 0 0 (fun _ => False) = QQ
  refine lv_aload_n hx hb dX7_isStable_0 rfl (lv_at hl 0 rfl) ?_
  refine x_get (C := RX7) (T := TX7) (NF := 17) (v := .int (iN (σ 0 7))) hx hb hts iX7 hown hK hP 0 (by decide) (mE_0 cI a (_)) rfl 7 (by decide) fl54 rfl dX7_isStable_1 ?_
  refine x_if_eq (tgt := 25) hx hb (hR 0 7) dX7_isStable_4 (by decide) (fun c4 => ?_) (fun c4 => ?_)
  · replace hf := (if_pos c4).symm.trans hf
    refine lv_iconst (v := iN 0) hx hb dX7_isStable_25 rfl ?_
    rw [← hQQ]
    exact x_zret hx hb hr (by decide) (Option.some.inj hf) (by decide) hlocks dX7_isStable_26
  · replace hf := (if_neg c4).symm.trans hf
    refine lv_iload_n hx hb dX7_isStable_7 rfl (lv_at hl 1 rfl) ?_
    refine lv_iconst (v := iN 0) hx hb dX7_isStable_8 rfl ?_
    refine lv_aload_n hx hb dX7_isStable_9 rfl (lv_at hl 0 rfl) ?_
    refine x_get (C := RX7) (T := TX7) (NF := 17) (v := .int (iN (σ 0 8))) hx hb hts iX7 hown hK hP 0 (by decide) (mE_0 cI a (_)) rfl 8 (by decide) fl88 rfl dX7_isStable_10 ?_
    refine lv_iconst (v := iN 1) hx hb dX7_isStable_13 rfl ?_
    obtain ⟨g1, hf⟩ := gd hf
    refine x_isub hx hb dX7_isStable_14 ?_
    obtain ⟨v2, hv2, hf⟩ := bd hf
    refine x_callP (va_runS (As := [.int (iN x1), .int (iN 0), .int (iN ((σ 0 8) - 1))]) (rest := []) ⟨hx, hb, hml, hown, hts⟩ (kX7_in l dC dI cI a σ x1 0 ((σ 0 8) - 1) v2 hv2 hR rx1 (by decide) g1) (va_cwS 3 hts gX7_isStable_X7_in rfl rfl rfl hX7_in_d ⟨Nat.le_trans (by decide) hrm.1, Nat.le_trans (by decide) hrm.2⟩) (psM hP hK) rfl rfl hl.1 rfl (lv_room (Nat.le_of_ble_eq_true rfl)) dX7_isStable_15 ⟨Nat.zero_le _, Nat.zero_le _⟩) (fun rv2 => ?_)
    refine x_if_eq (tgt := 25) hx hb rv2 dX7_isStable_18 (by decide) (fun c3 => ?_) (fun c3 => ?_)
    · replace hf := (if_pos c3).symm.trans hf
      refine lv_iconst (v := iN 0) hx hb dX7_isStable_25 rfl ?_
      rw [← hQQ]
      exact x_zret hx hb hr (by decide) (Option.some.inj hf) (by decide) hlocks dX7_isStable_26
    · replace hf := (if_neg c3).symm.trans hf
      refine lv_iconst (v := iN 1) hx hb dX7_isStable_21 rfl ?_
      refine lv_goto (tgt := 26) hx hb dX7_isStable_22 (by decide) ?_
      rw [← hQQ]
      exact x_zret hx hb hr (by decide) (Option.some.inj hf) (by decide) hlocks dX7_isStable_26
def fX7_hospital_0 (σ : Mem) (x1 : Int) (x2 : Int) : Option (Int × Mem) := nx (mup σ 0 0 0) fun σ1 => (fX7_isStable_0 σ1 x1).bind fun v2 => if v2 = 0 then some ((-1), σ1) else if rng ((σ1 0 1) - 1) then (fX7_in σ1 x2 0 ((σ1 0 1) - 1)).bind fun v4 => if v4 = 0 then some ((-1), σ1) else if rng (6 * x1) then if rng ((6 * x1) + x2) then if (0 : Int) ≤ ((6 * x1) + x2) ∧ (((6 * x1) + x2) : Int) < 4320 then some ((σ1 5 ((6 * x1) + x2)), σ1) else none else none else none else none
set_option maxHeartbeats 4000000 in
set_option maxRecDepth 100000 in
theorem kX7_hospital_0 (l : Launch) (dC : Nat → ClassId) (dI : Nat → Nat → Nat) (cI : ClassId) (a : Nat → Nat) (hi : ∀ i j, i < 12 → j < 12 → a i = a j → i = j) (σ : Mem) (x1 : Int) (x2 : Int) (r : (Int × Mem)) (hf : fX7_hospital_0 σ x1 x2 = some r) (hR : Rg σ) (rx1 : rng x1) (rx2 : rng x2) : Met l yX7_hospital wsX7_hospital ({ frames := 2, cells := 0, slots := 0, locals := 43 }) (va_Pc [.ref (a 0), .int (iN x1), .int (iN x2)] (preM dC dI cI a σ)) (qM (dC, dI) (gw 12 a (mE cI a)) (gA 12 a) r) 0 0 (gA 12 a) := by
  refine Met.ofW (cc := cX7_hospital) (maxL := 3) (ret := (some .int)) (by decide) rfl ?_
  intro p e s m args below meth c s₁ B hml hv
  obtain ⟨hargs, hP, hK⟩ := hv
  have hx := B.exec
  have hb := B.bytes
  have hr := B.returns
  have hts := atoms_spec (ws := wsX7_hospital) B.pre
  have hown : s.vm.findClass RX7 = some m.cls := findClass_of_methodNamed B.named
  have hlocks := B.notSynchronized
  have hS : va_S (gA 12 a) s.heap s.heap [] := va_S.rf
  have iX7 : ∀ w ∈ wsX70, w ∈ wsX7_hospital := by decide +kernel
  have fl29 := hts (.fieldLink RX7 29 "MatchHallModel" "stable" "[I") (by decide +kernel)
  have fl58 := hts (.fieldLink RX7 58 "MatchHallModel" "code" "I") (by decide +kernel)
  have fl7 := hts (.fieldLink RX7 7 "MatchHallModel" "residents" "I") (by decide +kernel)
  have hrm : 2 ≤ (headSpec wsX7_hospital ({ frames := 2, cells := 0, slots := 0, locals := 43 })).room.frames ∧ 43 ≤ (headSpec wsX7_hospital ({ frames := 2, cells := 0, slots := 0, locals := 43 })).room.locals := ⟨Nat.le_refl _, Nat.le_refl _⟩
  generalize (headSpec wsX7_hospital ({ frames := 2, cells := 0, slots := 0, locals := 43 })).room = RR at hrm ⊢
  have hl := lv_entry ([.ref (a 0), .int (iN x1), .int (iN x2)]) (n := 3) (Nat.le_of_ble_eq_true rfl)
  rw [show entryFrame m args 3 = entryFrame m ([.ref (a 0), .int (iN x1), .int (iN x2)] : List Value).toArray 3 from by rw [hargs], lg_entry_eq]
  generalize (lg_sl ([.ref (a 0), .int (iN x1), .int (iN x2)]) ++ List.replicate (3 - (lg_sl ([.ref (a 0), .int (iN x1), .int (iN x2)])).length) Slot.unset).toArray = ls at hl ⊢
  have hl : lv_has ls 3 [(0, .ref (a 0)), (1, .int (iN x1)), (2, .int (iN x2))] := hl
  generalize hQQ : MQ below (qM (dC, dI) (gw 12 a (mE cI a)) (gA 12 a) r) args s 0 0 (gA 12 a) = QQ
  refine lv_aload_n hx hb dX7_hospital_0 rfl (lv_at hl 0 rfl) ?_
  refine lv_iconst (v := iN 0) hx hb dX7_hospital_1 rfl ?_
  obtain ⟨σ1, hσ1, hf⟩ := nxe hf
  refine x_put (C := RX7) (T := TX7) (NF := 17) (x := 0) (ty := .int) hx hb hts iX7 tyX7 tyX7_ok nmX7 hi hown hK hP hS 0 (by decide) (mE_0 cI a (_)) rfl 0 0 (by decide) fl58 rfl (by decide +kernel) rfl rfl (Nat.le_of_ble_eq_true rfl) rfl dX7_hospital_2 (fun H locs hP hS => ?_)
  rw [← hσ1] at hP
  have hRσ1 : Rg σ1 := by rw [hσ1]; exact Rg_up hR (by decide)
  refine lv_aload_n hx hb dX7_hospital_5 rfl (lv_at hl 0 rfl) ?_
  refine lv_iload_n hx hb dX7_hospital_6 rfl (lv_at hl 1 rfl) ?_
  obtain ⟨v2, hv2, hf⟩ := bd hf
  refine x_callP (va_runV (As := [.int (iN x1)]) (rest := []) ⟨hx, hb, hml, hown, hts⟩ (kX7_isStable_0 l dC dI cI a σ1 x1 v2 hv2 hRσ1 rx1) (cwV 1 hts gX7_hospital_X7_isStable rfl rfl rfl hX7_isStable_d ⟨Nat.le_trans (by decide) hrm.1, Nat.le_trans (by decide) hrm.2⟩) (pvM 0 (by decide) (mE_0 cI a (_)) rfl hP hK) rfl rfl hl.1 rfl (lv_room (Nat.le_of_ble_eq_true rfl)) dX7_hospital_7 ⟨Nat.zero_le _, Nat.zero_le _⟩) (fun rv2 => ?_)
  refine x_if_eq (tgt := 41) hx hb rv2 dX7_hospital_10 (by decide) (fun c9 => ?_) (fun c9 => ?_)
  · replace hf := (if_pos c9).symm.trans hf
    refine lv_iconst (v := iN (-1)) hx hb dX7_hospital_41 rfl ?_
    rw [← hQQ]
    exact x_iretM hx hb hr (Option.some.inj hf) (by decide) hRσ1 hP hS hlocks dX7_hospital_42
  · replace hf := (if_neg c9).symm.trans hf
    refine lv_iload_n hx hb dX7_hospital_13 rfl (lv_at hl 2 rfl) ?_
    refine lv_iconst (v := iN 0) hx hb dX7_hospital_14 rfl ?_
    refine lv_aload_n hx hb dX7_hospital_15 rfl (lv_at hl 0 rfl) ?_
    refine x_get (C := RX7) (T := TX7) (NF := 17) (v := .int (iN (σ1 0 1))) hx hb hts iX7 hown hK hP 0 (by decide) (mE_0 cI a (_)) rfl 1 (by decide) fl7 rfl dX7_hospital_16 ?_
    refine lv_iconst (v := iN 1) hx hb dX7_hospital_19 rfl ?_
    obtain ⟨g3, hf⟩ := gd hf
    refine x_isub hx hb dX7_hospital_20 ?_
    obtain ⟨v4, hv4, hf⟩ := bd hf
    refine x_callP (va_runS (As := [.int (iN x2), .int (iN 0), .int (iN ((σ1 0 1) - 1))]) (rest := []) ⟨hx, hb, hml, hown, hts⟩ (kX7_in l dC dI cI a σ1 x2 0 ((σ1 0 1) - 1) v4 hv4 hRσ1 rx2 (by decide) g3) (va_cwS 3 hts gX7_hospital_X7_in rfl rfl rfl hX7_in_d ⟨Nat.le_trans (by decide) hrm.1, Nat.le_trans (by decide) hrm.2⟩) (psM hP hK) rfl rfl hl.1 rfl (lv_room (Nat.le_of_ble_eq_true rfl)) dX7_hospital_21 ⟨Nat.zero_le _, Nat.zero_le _⟩) (fun rv4 => ?_)
    refine x_if_eq (tgt := 41) hx hb rv4 dX7_hospital_24 (by decide) (fun c8 => ?_) (fun c8 => ?_)
    · replace hf := (if_pos c8).symm.trans hf
      refine lv_iconst (v := iN (-1)) hx hb dX7_hospital_41 rfl ?_
      rw [← hQQ]
      exact x_iretM hx hb hr (Option.some.inj hf) (by decide) hRσ1 hP hS hlocks dX7_hospital_42
    · replace hf := (if_neg c8).symm.trans hf
      refine lv_aload_n hx hb dX7_hospital_27 rfl (lv_at hl 0 rfl) ?_
      refine x_get (C := RX7) (T := TX7) (NF := 17) (v := .ref (a 5)) hx hb hts iX7 hown hK hP 0 (by decide) (mE_0 cI a (_)) rfl 9 (by decide) fl29 rfl dX7_hospital_28 ?_
      refine lv_bipush (v := iN 6) hx hb dX7_hospital_31 (by decide) ?_
      refine lv_iload_n hx hb dX7_hospital_33 rfl (lv_at hl 1 rfl) ?_
      obtain ⟨g5, hf⟩ := gd hf
      refine x_imul hx hb dX7_hospital_34 ?_
      refine lv_iload_n hx hb dX7_hospital_35 rfl (lv_at hl 2 rfl) ?_
      obtain ⟨g6, hf⟩ := gd hf
      refine x_iadd hx hb dX7_hospital_36 ?_
      obtain ⟨g7, hf⟩ := gd hf
      refine x_iald hx hb hK hP 5 0 (by decide) (mE_5 cI a (_)) (by decide) rfl g7 dX7_hospital_37 ?_
      refine lv_goto (tgt := 42) hx hb dX7_hospital_38 (by decide) ?_
      rw [← hQQ]
      exact x_iretM hx hb hr (Option.some.inj hf) (hRσ1 5 ((6 * x1) + x2)) hRσ1 hP hS hlocks dX7_hospital_42
