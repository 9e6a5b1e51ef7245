def fX7_blocking_0_L34 (x1 : Int) (σ1 : Mem) (v4 : Int) (ex1 : Int → Int → Option (Int × Mem)) : Nat → Int → Int → Option (Int × Mem)
  | 0, _, _ => none
  | n1 + 1, v5, v6 => if v6 < (σ1 0 2) then (fX7_isBlocking_0_4 σ1 0 v4 v6).bind fun v7 => if v7 = 0 then if rng (v6 + 1) then fX7_blocking_0_L34 x1 σ1 v4 ex1 n1 v5 (v6 + 1) else none else if v5 = x1 then if rng (8 * v4) then if rng ((8 * v4) + v6) then some (((8 * v4) + v6), σ1) else none else none else if rng (v5 + 1) then if rng (v6 + 1) then fX7_blocking_0_L34 x1 σ1 v4 ex1 n1 (v5 + 1) (v6 + 1) else none else none else ex1 v5 v6
def fX7_blocking_0_L23 (x1 : Int) (σ1 : Mem) (ex0 : Int → Int → Option (Int × Mem)) : Nat → Int → Int → Option (Int × Mem)
  | 0, _, _ => none
  | n0 + 1, v3, v4 => if v4 < (σ1 0 1) then fX7_blocking_0_L34 x1 σ1 v4 (fun v16 v17 => if rng (v4 + 1) then fX7_blocking_0_L23 x1 σ1 ex0 n0 v16 (v4 + 1) else none) FU v3 0 else ex0 v3 v4
def fX7_blocking_0 (σ : Mem) (x1 : Int) : Option (Int × Mem) := nx (mup σ 0 0 0) fun σ1 => (fX7_isMatching_0_4 σ1 0).bind fun v2 => if v2 = 0 then some ((-1), σ1) else fX7_blocking_0_L23 x1 σ1 (fun v20 v21 => some ((-1), σ1)) FU 0 0
set_option maxHeartbeats 4000000 in
set_option maxRecDepth 100000 in
theorem kX7_blocking_0 (l : Launch) (dC : Nat → ClassId) (dI : Nat → Nat → Nat) (cI : ClassId) (a : Nat → Nat) (hi : ∀ i j, i < 12 → j < 12 → a i = a j → i = j) (σ : Mem) (x1 : Int) (r : (Int × Mem)) (hf : fX7_blocking_0 σ x1 = some r) (hR : Rg σ) (rx1 : rng x1) : Met l yX7_blocking wsX7_blocking ({ frames := 3, cells := 0, slots := 0, locals := 74 }) (va_Pc [.ref (a 0), .int (iN x1)] (preM dC dI cI a σ)) (qM (dC, dI) (gw 12 a (mE cI a)) (gA 12 a) r) 0 0 (gA 12 a) := by
  refine Met.ofW (cc := cX7_blocking) (maxL := 5) (ret := (some .int)) (by decide) rfl ?_
  intro p e s m args below meth c s₁ B hml hv
  obtain ⟨hargs, hP, hK⟩ := hv
  have hx := B.exec
  have hb := B.bytes
  have hr := B.returns
  have hts := atoms_spec (ws := wsX7_blocking) B.pre
  have hown : s.vm.findClass RX7 = some m.cls := findClass_of_methodNamed B.named
  have hlocks := B.notSynchronized
  have hS : va_S (gA 12 a) s.heap s.heap [] := va_S.rf
  have iX7 : ∀ w ∈ wsX70, w ∈ wsX7_blocking := by decide +kernel
  have fl13 := hts (.fieldLink RX7 13 "MatchHallModel" "hospitals" "I") (by decide +kernel)
  have fl26 := hts (.fieldLink RX7 26 "MatchHallModel" "told" "[I") (by decide +kernel)
  have fl58 := hts (.fieldLink RX7 58 "MatchHallModel" "code" "I") (by decide +kernel)
  have fl7 := hts (.fieldLink RX7 7 "MatchHallModel" "residents" "I") (by decide +kernel)
  have hrm : 3 ≤ (headSpec wsX7_blocking ({ frames := 3, cells := 0, slots := 0, locals := 74 })).room.frames ∧ 74 ≤ (headSpec wsX7_blocking ({ frames := 3, cells := 0, slots := 0, locals := 74 })).room.locals := ⟨Nat.le_refl _, Nat.le_refl _⟩
  generalize (headSpec wsX7_blocking ({ frames := 3, cells := 0, slots := 0, locals := 74 })).room = RR at hrm ⊢
  have hl := lv_entry ([.ref (a 0), .int (iN x1)]) (n := 5) (Nat.le_of_ble_eq_true rfl)
  rw [show entryFrame m args 5 = entryFrame m ([.ref (a 0), .int (iN x1)] : List Value).toArray 5 from by rw [hargs], lg_entry_eq]
  generalize (lg_sl ([.ref (a 0), .int (iN x1)]) ++ List.replicate (5 - (lg_sl ([.ref (a 0), .int (iN x1)])).length) Slot.unset).toArray = ls at hl ⊢
  have hl : lv_has ls 5 [(0, .ref (a 0)), (1, .int (iN x1))] := hl
  generalize hQQ : MQ below (qM (dC, dI) (gw 12 a (mE cI a)) (gA 12 a) r) args s 0 0 (gA 12 a) = QQ
  refine lv_aload_n hx hb dX7_blocking_0 rfl (lv_at hl 0 rfl) ?_
  refine lv_iconst (v := iN 0) hx hb dX7_blocking_1 rfl ?_
  obtain ⟨σ1, hσ1, hf⟩ := nxe hf
  refine x_put (C := RX7) (T := TX7) (NF := 17) (x := 0) (ty := .int) hx hb hts iX7 tyX7 tyX7_ok nmX7 hi hown hK hP hS 0 (by decide) (mE_0 cI a (_)) rfl 0 0 (by decide) fl58 rfl (by decide +kernel) rfl rfl (Nat.le_of_ble_eq_true rfl) rfl dX7_blocking_2 (fun H locs hP hS => ?_)
  rw [← hσ1] at hP
  have hRσ1 : Rg σ1 := by rw [hσ1]; exact Rg_up hR (by decide)
  refine lv_aload_n hx hb dX7_blocking_5 rfl (lv_at hl 0 rfl) ?_
  refine lv_aload_n hx hb dX7_blocking_6 rfl (lv_at hl 0 rfl) ?_
  refine x_get (C := RX7) (T := TX7) (NF := 17) (v := .ref (a 4)) hx hb hts iX7 hown hK hP 0 (by decide) (mE_0 cI a (_)) rfl 6 (by decide) fl26 rfl dX7_blocking_7 ?_
  refine lv_iconst (v := iN 0) hx hb dX7_blocking_10 rfl ?_
  obtain ⟨v2, hv2, hf⟩ := bd hf
  refine x_callP (va_runV (As := [.ref (a 4), .int (iN 0)]) (rest := []) ⟨hx, hb, hml, hown, hts⟩ (kX7_isMatching_0_4 l dC dI cI a σ1 0 v2 hv2 hRσ1 (by decide)) (cwV 2 hts gX7_blocking_X7_isMatching rfl rfl rfl hX7_isMatching_d ⟨Nat.le_trans (by decide) hrm.1, Nat.le_trans (by decide) hrm.2⟩) (pvM 0 (by decide) (mE_0 cI a (_)) rfl hP hK) rfl rfl hl.1 rfl (lv_room (Nat.le_of_ble_eq_true rfl)) dX7_blocking_11 ⟨Nat.zero_le _, Nat.zero_le _⟩) (fun rv2 => ?_)
  refine x_if_ne (tgt := 19) hx hb rv2 dX7_blocking_14 (by decide) (fun c22 => ?_) (fun c22 => ?_)
  · replace hf := (if_neg c22).symm.trans hf
    refine lv_iconst (v := iN 0) hx hb dX7_blocking_19 rfl ?_
    refine lv_istore_n (lv' := [(2, .int (iN 0)), (0, .ref (a 0)), (1, .int (iN x1))]) hx hb dX7_blocking_20 rfl hl (by decide) rfl (fun ls hl => ?_)
    refine lv_iconst (v := iN 0) hx hb dX7_blocking_21 rfl ?_
    refine lv_istore_n (lv' := [(3, .int (iN 0)), (2, .int (iN 0)), (0, .ref (a 0)), (1, .int (iN x1))]) hx hb dX7_blocking_22 rfl hl (by decide) rfl (fun ls hl => ?_)
    have L_fX7_blocking_0_L23 : ∀ (EX0 : Int → Int → Option (Int × Mem)), (∀ (v3 : Int) (v4 : Int), rng v3 → rng v4 → EX0 v3 v4 = some r → ∀ H locs ls, va_P (dC, dI) vwCl (gw 12 a (mE cI a) σ1) H → va_S (gA 12 a) s.heap H locs → lv_has ls 5 [(0, .ref (a 0)), (1, .int (iN x1)), (2, .int (iN v3)), (3, .int (iN v4))] → W p l e RR s m args below meth c H locs 0 0 QQ (F0 m 86 ls [])) → ∀ n0 : Nat, ∀ (v3 : Int) (v4 : Int), rng v3 → rng v4 → fX7_blocking_0_L23 x1 σ1 EX0 n0 v3 v4 = some r → ∀ H locs ls, va_P (dC, dI) vwCl (gw 12 a (mE cI a) σ1) H → va_S (gA 12 a) s.heap H locs → lv_has ls 5 [(0, .ref (a 0)), (1, .int (iN x1)), (2, .int (iN v3)), (3, .int (iN v4))] → W p l e RR s m args below meth c H locs 0 0 QQ (F0 m 23 ls []) := by
      intro EX0 hEX0 n0
      induction n0 with
      | zero => intro _ _ _ _ hf; cases hf
      | succ n0 ih0 =>
        intro v3 v4 rv3 rv4 hf H locs ls hP hS hl
        rw [fX7_blocking_0_L23] at hf
        refine lv_iload_n hx hb dX7_blocking_23 rfl (lv_at hl 3 rfl) ?_
        refine lv_aload_n hx hb dX7_blocking_24 rfl (lv_at hl 0 rfl) ?_
        refine x_get (C := RX7) (T := TX7) (NF := 17) (v := .int (iN (σ1 0 1))) hx hb hts iX7 hown hK hP 0 (by decide) (mE_0 cI a (_)) rfl 1 (by decide) fl7 rfl dX7_blocking_25 ?_
        refine x_icmp_ge (tgt := 86) hx hb rv4 (hRσ1 0 1) dX7_blocking_28 (by decide) (fun c19 => ?_) (fun c19 => ?_)
        · replace hf := (if_neg c19).symm.trans hf
          exact hEX0 _ _ rv3 rv4 hf _ _ _ hP hS (lv_sub hl [0, 1, 2, 3] rfl)
        · replace hf := (if_pos c19).symm.trans hf
          refine lv_iconst (v := iN 0) hx hb dX7_blocking_31 rfl ?_
          refine lv_istore (lv' := [(4, .int (iN 0)), (0, .ref (a 0)), (1, .int (iN x1)), (2, .int (iN v3)), (3, .int (iN v4))]) hx hb dX7_blocking_32 hl (by decide) rfl (fun ls hl => ?_)
          have L_fX7_blocking_0_L34 : ∀ (EX1 : Int → Int → Option (Int × Mem)), (∀ (v5 : Int) (v6 : Int), rng v5 → rng v6 → EX1 v5 v6 = some r → ∀ H locs ls, va_P (dC, dI) vwCl (gw 12 a (mE cI a) σ1) H → va_S (gA 12 a) s.heap H locs → lv_has ls 5 [(0, .ref (a 0)), (1, .int (iN x1)), (2, .int (iN v5)), (3, .int (iN v4)), (4, .int (iN v6))] → W p l e RR s m args below meth c H locs 0 0 QQ (F0 m 80 ls [])) → ∀ n1 : Nat, ∀ (v5 : Int) (v6 : Int), rng v5 → rng v6 → fX7_blocking_0_L34 x1 σ1 v4 EX1 n1 v5 v6 = some r → ∀ H locs ls, va_P (dC, dI) vwCl (gw 12 a (mE cI a) σ1) H → va_S (gA 12 a) s.heap H locs → lv_has ls 5 [(0, .ref (a 0)), (1, .int (iN x1)), (2, .int (iN v5)), (3, .int (iN v4)), (4, .int (iN v6))] → W p l e RR s m args below meth c H locs 0 0 QQ (F0 m 34 ls []) := by
            intro EX1 hEX1 n1
            induction n1 with
            | zero => intro _ _ _ _ hf; cases hf
            | succ n1 ih1 =>
              intro v5 v6 rv5 rv6 hf H locs ls hP hS hl
              rw [fX7_blocking_0_L34] at hf
              refine lv_iload hx hb dX7_blocking_34 (lv_at hl 4 rfl) ?_
              refine lv_aload_n hx hb dX7_blocking_36 rfl (lv_at hl 0 rfl) ?_
              refine x_get (C := RX7) (T := TX7) (NF := 17) (v := .int (iN (σ1 0 2))) hx hb hts iX7 hown hK hP 0 (by decide) (mE_0 cI a (_)) rfl 2 (by decide) fl13 rfl dX7_blocking_37 ?_
              refine x_icmp_ge (tgt := 80) hx hb rv6 (hRσ1 0 2) dX7_blocking_40 (by decide) (fun c15 => ?_) (fun c15 => ?_)
              · replace hf := (if_neg c15).symm.trans hf
                exact hEX1 _ _ rv5 rv6 hf _ _ _ hP hS (lv_sub hl [0, 1, 2, 3, 4] rfl)
              · replace hf := (if_pos c15).symm.trans hf
                refine lv_aload_n hx hb dX7_blocking_43 rfl (lv_at hl 0 rfl) ?_
                refine lv_aload_n hx hb dX7_blocking_44 rfl (lv_at hl 0 rfl) ?_
                refine x_get (C := RX7) (T := TX7) (NF := 17) (v := .ref (a 4)) hx hb hts iX7 hown hK hP 0 (by decide) (mE_0 cI a (_)) rfl 6 (by decide) fl26 rfl dX7_blocking_45 ?_
                refine lv_iconst (v := iN 0) hx hb dX7_blocking_48 rfl ?_
                refine lv_iload_n hx hb dX7_blocking_49 rfl (lv_at hl 3 rfl) ?_
                refine lv_iload hx hb dX7_blocking_50 (lv_at hl 4 rfl) ?_
                obtain ⟨v7, hv7, hf⟩ := bd hf
                refine x_callP (va_runV (As := [.ref (a 4), .int (iN 0), .int (iN v4), .int (iN v6)]) (rest := []) ⟨hx, hb, hml, hown, hts⟩ (kX7_isBlocking_0_4 l dC dI cI a σ1 0 v4 v6 v7 hv7 hRσ1 (by decide) rv4 rv6) (cwV 4 hts gX7_blocking_X7_isBlocking rfl rfl rfl hX7_isBlocking_d ⟨Nat.le_trans (by decide) hrm.1, Nat.le_trans (by decide) hrm.2⟩) (pvM 0 (by decide) (mE_0 cI a (_)) rfl hP hK) rfl rfl hl.1 rfl (lv_room (Nat.le_of_ble_eq_true rfl)) dX7_blocking_52 ⟨Nat.zero_le _, Nat.zero_le _⟩) (fun rv7 => ?_)
                refine x_if_eq (tgt := 74) hx hb rv7 dX7_blocking_55 (by decide) (fun c14 => ?_) (fun c14 => ?_)
                · replace hf := (if_pos c14).symm.trans hf
                  obtain ⟨g8, hf⟩ := gd hf
                  refine lv_iinc (v := iN (v6 + 1)) (lv' := [(4, .int (iN (v6 + 1))), (0, .ref (a 0)), (1, .int (iN x1)), (2, .int (iN v5)), (3, .int (iN v4))]) hx hb dX7_blocking_74 hl (k := 4) rfl (iN_add v6 1) (by decide) rfl (fun ls hl => ?_)
                  refine lv_goto (tgt := 34) hx hb dX7_blocking_77 (by decide) ?_
                  exact ih1 _ _ rv5 g8 hf _ _ _ hP hS (lv_sub hl [1, 2, 3, 4, 0] rfl)
                · replace hf := (if_neg c14).symm.trans hf
                  refine lv_iload_n hx hb dX7_blocking_58 rfl (lv_at hl 2 rfl) ?_
                  refine lv_iload_n hx hb dX7_blocking_59 rfl (lv_at hl 1 rfl) ?_
                  refine x_icmp_ne (tgt := 71) hx hb rv5 rx1 dX7_blocking_60 (by decide) (fun c13 => ?_) (fun c13 => ?_)
                  · replace hf := (if_neg c13).symm.trans hf
                    obtain ⟨g9, hf⟩ := gd hf
                    refine lv_iinc (v := iN (v5 + 1)) (lv' := [(2, .int (iN (v5 + 1))), (0, .ref (a 0)), (1, .int (iN x1)), (3, .int (iN v4)), (4, .int (iN v6))]) hx hb dX7_blocking_71 hl (k := 2) rfl (iN_add v5 1) (by decide) rfl (fun ls hl => ?_)
                    obtain ⟨g10, hf⟩ := gd hf
                    refine lv_iinc (v := iN (v6 + 1)) (lv' := [(4, .int (iN (v6 + 1))), (2, .int (iN (v5 + 1))), (0, .ref (a 0)), (1, .int (iN x1)), (3, .int (iN v4))]) hx hb dX7_blocking_74 hl (k := 4) rfl (iN_add v6 1) (by decide) rfl (fun ls hl => ?_)
                    refine lv_goto (tgt := 34) hx hb dX7_blocking_77 (by decide) ?_
                    exact ih1 _ _ g9 g10 hf _ _ _ hP hS (lv_sub hl [2, 3, 1, 4, 0] rfl)
                  · replace hf := (if_pos c13).symm.trans hf
                    refine lv_bipush (v := iN 8) hx hb dX7_blocking_63 (by decide) ?_
                    refine lv_iload_n hx hb dX7_blocking_65 rfl (lv_at hl 3 rfl) ?_
                    obtain ⟨g11, hf⟩ := gd hf
                    refine x_imul hx hb dX7_blocking_66 ?_
                    refine lv_iload hx hb dX7_blocking_67 (lv_at hl 4 rfl) ?_
                    obtain ⟨g12, hf⟩ := gd hf
                    refine x_iadd hx hb dX7_blocking_69 ?_
                    rw [← hQQ]
                    exact x_iretM hx hb hr (Option.some.inj hf) g12 hRσ1 hP hS hlocks dX7_blocking_70
          refine L_fX7_blocking_0_L34 _ (fun v16 v17 rv16 rv17 hf H locs ls hP hS hl => ?_) _ _ _ rv3 (by decide) hf _ _ _ hP hS (lv_sub hl [1, 2, 3, 4, 0] rfl)
          obtain ⟨g18, hf⟩ := gd hf
          refine lv_iinc (v := iN (v4 + 1)) (lv' := [(3, .int (iN (v4 + 1))), (0, .ref (a 0)), (1, .int (iN x1)), (2, .int (iN v16)), (4, .int (iN v17))]) hx hb dX7_blocking_80 hl (k := 3) rfl (iN_add v4 1) (by decide) rfl (fun ls hl => ?_)
          refine lv_goto (tgt := 23) hx hb dX7_blocking_83 (by decide) ?_
          exact ih0 _ _ rv16 g18 hf _ _ _ hP hS (lv_sub hl [1, 2, 3, 0] rfl)
    refine L_fX7_blocking_0_L23 _ (fun v20 v21 rv20 rv21 hf H locs ls hP hS hl => ?_) _ _ _ (by decide) (by decide) hf _ _ _ hP hS (lv_sub hl [2, 3, 1, 0] rfl)
    refine lv_iconst (v := iN (-1)) hx hb dX7_blocking_86 rfl ?_
    rw [← hQQ]
    exact x_iretM hx hb hr (Option.some.inj hf) (by decide) hRσ1 hP hS hlocks dX7_blocking_87
  · replace hf := (if_pos c22).symm.trans hf
    refine lv_iconst (v := iN (-1)) hx hb dX7_blocking_17 rfl ?_
    rw [← hQQ]
    exact x_iretM hx hb hr (Option.some.inj hf) (by decide) hRσ1 hP hS hlocks dX7_blocking_18
def fX7_numberOf_0_4_L15 (σ : Mem) (v1 : Int) (ex1 : Int → Int → Option Int) : Nat → Int → Int → Option Int
  | 0, _, _ => none
  | n1 + 1, v2, v3 => if v3 < (σ 0 1) then if v2 = 0 then if rng (v3 + 1) then fX7_numberOf_0_4_L15 σ v1 ex1 n1 0 (v3 + 1) else none else if rng (6 * v1) then if rng ((6 * v1) + v3) then if (0 : Int) ≤ ((6 * v1) + v3) ∧ (((6 * v1) + v3) : Int) < 4320 then if (0 : Int) ≤ v3 ∧ (v3 : Int) < 6 then if (σ 5 ((6 * v1) + v3)) = (σ 4 v3) then if rng (v3 + 1) then fX7_numberOf_0_4_L15 σ v1 ex1 n1 1 (v3 + 1) else none else if rng (v3 + 1) then fX7_numberOf_0_4_L15 σ v1 ex1 n1 0 (v3 + 1) else none else none else none else none else none else ex1 v2 v3
def fX7_numberOf_0_4_L2 (σ : Mem) (ex0 : Int → Option Int) : Nat → Int → Option Int
  | 0, _ => none
  | n0 + 1, v1 => if v1 < (σ 0 8) then fX7_numberOf_0_4_L15 σ v1 (fun v14 v15 => if v14 = 0 then if rng (v1 + 1) then fX7_numberOf_0_4_L2 σ ex0 n0 (v1 + 1) else none else some v1) FU 1 0 else ex0 v1
def fX7_numberOf_0_4 (σ : Mem) : Option Int := fX7_numberOf_0_4_L2 σ (fun v19 => some (-1)) FU 0
set_option maxHeartbeats 4000000 in
set_option maxRecDepth 100000 in
theorem kX7_numberOf_0_4 (l : Launch) (dC : Nat → ClassId) (dI : Nat → Nat → Nat) (cI : ClassId) (a : Nat → Nat) (σ : Mem) (r : Int) (hf : fX7_numberOf_0_4 σ  = some r) (hR : Rg σ) : Met l yX7_numberOf wsX7_numberOf ({ frames := 0, cells := 0, slots := 0, locals := 0 }) (va_Pc [.ref (a 0), .ref (a 4)] (preM dC dI cI a σ)) (qP r) 0 0 (fun _ => False) := by
  refine Met.ofW (cc := cX7_numberOf) (maxL := 5) (ret := (some .int)) (by decide) rfl ?_
  intro p e s m args below meth c s₁ B hml hv
  obtain ⟨hargs, hP, hK⟩ := hv
  have hx := B.exec
  have hb := B.bytes
  have hr := B.returns
  have hts := atoms_spec (ws := wsX7_numberOf) B.pre
  have hown : s.vm.findClass RX7 = some m.cls := findClass_of_methodNamed B.named
  have hlocks := B.notSynchronized
  have iX7 : ∀ w ∈ wsX70, w ∈ wsX7_numberOf := by decide +kernel
  have fl29 := hts (.fieldLink RX7 29 "MatchHallModel" "stable" "[I") (by decide +kernel)
  have fl7 := hts (.fieldLink RX7 7 "MatchHallModel" "residents" "I") (by decide +kernel)
  have fl88 := hts (.fieldLink RX7 88 "MatchHallModel" "many" "I") (by decide +kernel)
  have hrm : 0 ≤ (headSpec wsX7_numberOf ({ frames := 0, cells := 0, slots := 0, locals := 0 })).room.frames ∧ 0 ≤ (headSpec wsX7_numberOf ({ frames := 0, cells := 0, slots := 0, locals := 0 })).room.locals := ⟨Nat.le_refl _, Nat.le_refl _⟩
  generalize (headSpec wsX7_numberOf ({ frames := 0, cells := 0, slots := 0, locals := 0 })).room = RR at hrm ⊢
  have hl := lv_entry ([.ref (a 0), .ref (a 4)]) (n := 5) (Nat.le_of_ble_eq_true rfl)
  rw [show entryFrame m args 5 = entryFrame m ([.ref (a 0), .ref (a 4)] : List Value).toArray 5 from by rw [hargs], lg_entry_eq]
  generalize (lg_sl ([.ref (a 0), .ref (a 4)]) ++ List.replicate (5 - (lg_sl ([.ref (a 0), .ref (a 4)])).length) Slot.unset).toArray = ls at hl ⊢
  have hl : lv_has ls 5 [(0, .ref (a 0)), (1, .ref (a 4))] := hl
  generalize hQQ : MQ below (qP r) args s 0 0 (fun _ => False) = QQ
  refine lv_iconst (v := iN 0) hx hb dX7_numberOf_0 rfl ?_
  refine lv_istore_n (lv' := [(2, .int (iN 0)), (0, .ref (a 0)), (1, .ref (a 4))]) hx hb dX7_numberOf_1 rfl hl (by decide) rfl (fun ls hl => ?_)
  have L_fX7_numberOf_0_4_L2 : ∀ (EX0 : Int → Option Int), (∀ (v1 : Int), rng v1 → EX0 v1 = some r → ∀ ls, lv_has ls 5 [(0, .ref (a 0)), (1, .ref (a 4)), (2, .int (iN v1))] → W p l e RR s m args below meth c s.heap [] 0 0 QQ (F0 m 71 ls [])) → ∀ n0 : Nat, ∀ (v1 : Int), rng v1 → fX7_numberOf_0_4_L2 σ EX0 n0 v1 = some r → ∀ ls, lv_has ls 5 [(0, .ref (a 0)), (1, .ref (a 4)), (2, .int (iN v1))] → W p l e RR s m args below meth c s.heap [] 0 0 QQ (F0 m 2 ls []) := by
    intro EX0 hEX0 n0
    induction n0 with
    | zero => intro _ _ hf; cases hf
    | succ n0 ih0 =>
      intro v1 rv1 hf ls hl
      rw [fX7_numberOf_0_4_L2] at hf
      refine lv_iload_n hx hb dX7_numberOf_2 rfl (lv_at hl 2 rfl) ?_
      refine lv_aload_n hx hb dX7_numberOf_3 rfl (lv_at hl 0 rfl) ?_
      refine x_get (C := RX7) (T := TX7) (NF := 17) (v := .int (iN (σ 0 8))) hx hb hts iX7 hown hK hP 0 (by decide) (mE_0 cI a (_)) rfl 8 (by decide) fl88 rfl dX7_numberOf_4 ?_
      refine x_icmp_ge (tgt := 71) hx hb rv1 (hR 0 8) dX7_numberOf_7 (by decide) (fun c18 => ?_) (fun c18 => ?_)
      · replace hf := (if_neg c18).symm.trans hf
        exact hEX0 _ rv1 hf _ (lv_sub hl [0, 1, 2] rfl)
      · replace hf := (if_pos c18).symm.trans hf
        refine lv_iconst (v := iN 1) hx hb dX7_numberOf_10 rfl ?_
        refine lv_istore_n (lv' := [(3, .int (iN 1)), (0, .ref (a 0)), (1, .ref (a 4)), (2, .int (iN v1))]) hx hb dX7_numberOf_11 rfl hl (by decide) rfl (fun ls hl => ?_)
        refine lv_iconst (v := iN 0) hx hb dX7_numberOf_12 rfl ?_
        refine lv_istore (lv' := [(4, .int (iN 0)), (3, .int (iN 1)), (0, .ref (a 0)), (1, .ref (a 4)), (2, .int (iN v1))]) hx hb dX7_numberOf_13 hl (by decide) rfl (fun ls hl => ?_)
        have L_fX7_numberOf_0_4_L15 : ∀ (EX1 : Int → Int → Option Int), (∀ (v2 : Int) (v3 : Int), rng v2 → rng v3 → EX1 v2 v3 = some r → ∀ ls, lv_has ls 5 [(0, .ref (a 0)), (1, .ref (a 4)), (2, .int (iN v1)), (3, .int (iN v2)), (4, .int (iN v3))] → W p l e RR s m args below meth c s.heap [] 0 0 QQ (F0 m 59 ls [])) → ∀ n1 : Nat, ∀ (v2 : Int) (v3 : Int), rng v2 → rng v3 → fX7_numberOf_0_4_L15 σ v1 EX1 n1 v2 v3 = some r → ∀ ls, lv_has ls 5 [(0, .ref (a 0)), (1, .ref (a 4)), (2, .int (iN v1)), (3, .int (iN v2)), (4, .int (iN v3))] → W p l e RR s m args below meth c s.heap [] 0 0 QQ (F0 m 15 ls []) := by
          intro EX1 hEX1 n1
          induction n1 with
          | zero => intro _ _ _ _ hf; cases hf
          | succ n1 ih1 =>
            intro v2 v3 rv2 rv3 hf ls hl
            rw [fX7_numberOf_0_4_L15] at hf
            refine lv_iload hx hb dX7_numberOf_15 (lv_at hl 4 rfl) ?_
            refine lv_aload_n hx hb dX7_numberOf_17 rfl (lv_at hl 0 rfl) ?_
            refine x_get (C := RX7) (T := TX7) (NF := 17) (v := .int (iN (σ 0 1))) hx hb hts iX7 hown hK hP 0 (by decide) (mE_0 cI a (_)) rfl 1 (by decide) fl7 rfl dX7_numberOf_18 ?_
            refine x_icmp_ge (tgt := 59) hx hb rv3 (hR 0 1) dX7_numberOf_21 (by decide) (fun c13 => ?_) (fun c13 => ?_)
            · replace hf := (if_neg c13).symm.trans hf
              exact hEX1 _ _ rv2 rv3 hf _ (lv_sub hl [0, 1, 2, 3, 4] rfl)
            · replace hf := (if_pos c13).symm.trans hf
              refine lv_iload_n hx hb dX7_numberOf_24 rfl (lv_at hl 3 rfl) ?_
              refine x_if_eq (tgt := 51) hx hb rv2 dX7_numberOf_25 (by decide) (fun c12 => ?_) (fun c12 => ?_)
              · replace hf := (if_pos c12).symm.trans hf
                refine lv_iconst (v := iN 0) hx hb dX7_numberOf_51 rfl ?_
                refine lv_istore_n (lv' := [(3, .int (iN 0)), (0, .ref (a 0)), (1, .ref (a 4)), (2, .int (iN v1)), (4, .int (iN v3))]) hx hb dX7_numberOf_52 rfl hl (by decide) rfl (fun ls hl => ?_)
                obtain ⟨g4, hf⟩ := gd hf
                refine lv_iinc (v := iN (v3 + 1)) (lv' := [(4, .int (iN (v3 + 1))), (3, .int (iN 0)), (0, .ref (a 0)), (1, .ref (a 4)), (2, .int (iN v1))]) hx hb dX7_numberOf_53 hl (k := 4) rfl (iN_add v3 1) (by decide) rfl (fun ls hl => ?_)
                refine lv_goto (tgt := 15) hx hb dX7_numberOf_56 (by decide) ?_
                exact ih1 _ _ (by decide) g4 hf _ (lv_sub hl [2, 3, 4, 1, 0] rfl)
              · replace hf := (if_neg c12).symm.trans hf
                refine lv_aload_n hx hb dX7_numberOf_28 rfl (lv_at hl 0 rfl) ?_
                refine x_get (C := RX7) (T := TX7) (NF := 17) (v := .ref (a 5)) hx hb hts iX7 hown hK hP 0 (by decide) (mE_0 cI a (_)) rfl 9 (by decide) fl29 rfl dX7_numberOf_29 ?_
                refine lv_bipush (v := iN 6) hx hb dX7_numberOf_32 (by decide) ?_
                refine lv_iload_n hx hb dX7_numberOf_34 rfl (lv_at hl 2 rfl) ?_
                obtain ⟨g5, hf⟩ := gd hf
                refine x_imul hx hb dX7_numberOf_35 ?_
                refine lv_iload hx hb dX7_numberOf_36 (lv_at hl 4 rfl) ?_
                obtain ⟨g6, hf⟩ := gd hf
                refine x_iadd hx hb dX7_numberOf_38 ?_
                obtain ⟨g7, hf⟩ := gd hf
                refine x_iald hx hb hK hP 5 0 (by decide) (mE_5 cI a (_)) (by decide) rfl g7 dX7_numberOf_39 ?_
                refine lv_aload_n hx hb dX7_numberOf_40 rfl (lv_at hl 1 rfl) ?_
                refine lv_iload hx hb dX7_numberOf_41 (lv_at hl 4 rfl) ?_
                obtain ⟨g8, hf⟩ := gd hf
                refine x_iald hx hb hK hP 4 0 (by decide) (mE_4 cI a (_)) (by decide) rfl g8 dX7_numberOf_43 ?_
                refine x_icmp_ne (tgt := 51) hx hb (hR 5 ((6 * v1) + v3)) (hR 4 v3) dX7_numberOf_44 (by decide) (fun c11 => ?_) (fun c11 => ?_)
                · replace hf := (if_neg c11).symm.trans hf
                  refine lv_iconst (v := iN 0) hx hb dX7_numberOf_51 rfl ?_
                  refine lv_istore_n (lv' := [(3, .int (iN 0)), (0, .ref (a 0)), (1, .ref (a 4)), (2, .int (iN v1)), (4, .int (iN v3))]) hx hb dX7_numberOf_52 rfl hl (by decide) rfl (fun ls hl => ?_)
                  obtain ⟨g9, hf⟩ := gd hf
                  refine lv_iinc (v := iN (v3 + 1)) (lv' := [(4, .int (iN (v3 + 1))), (3, .int (iN 0)), (0, .ref (a 0)), (1, .ref (a 4)), (2, .int (iN v1))]) hx hb dX7_numberOf_53 hl (k := 4) rfl (iN_add v3 1) (by decide) rfl (fun ls hl => ?_)
                  refine lv_goto (tgt := 15) hx hb dX7_numberOf_56 (by decide) ?_
                  exact ih1 _ _ (by decide) g9 hf _ (lv_sub hl [2, 3, 4, 1, 0] rfl)
                · replace hf := (if_pos c11).symm.trans hf
                  refine lv_iconst (v := iN 1) hx hb dX7_numberOf_47 rfl ?_
                  refine lv_goto (tgt := 52) hx hb dX7_numberOf_48 (by decide) ?_
                  refine lv_istore_n (lv' := [(3, .int (iN 1)), (0, .ref (a 0)), (1, .ref (a 4)), (2, .int (iN v1)), (4, .int (iN v3))]) hx hb dX7_numberOf_52 rfl hl (by decide) rfl (fun ls hl => ?_)
                  obtain ⟨g10, hf⟩ := gd hf
                  refine lv_iinc (v := iN (v3 + 1)) (lv' := [(4, .int (iN (v3 + 1))), (3, .int (iN 1)), (0, .ref (a 0)), (1, .ref (a 4)), (2, .int (iN v1))]) hx hb dX7_numberOf_53 hl (k := 4) rfl (iN_add v3 1) (by decide) rfl (fun ls hl => ?_)
                  refine lv_goto (tgt := 15) hx hb dX7_numberOf_56 (by decide) ?_
                  exact ih1 _ _ (by decide) g10 hf _ (lv_sub hl [2, 3, 4, 1, 0] rfl)
        refine L_fX7_numberOf_0_4_L15 _ (fun v14 v15 rv14 rv15 hf ls hl => ?_) _ _ _ (by decide) (by decide) hf _ (lv_sub hl [2, 3, 4, 1, 0] rfl)
        refine lv_iload_n hx hb dX7_numberOf_59 rfl (lv_at hl 3 rfl) ?_
        refine x_if_eq (tgt := 65) hx hb rv14 dX7_numberOf_60 (by decide) (fun c17 => ?_) (fun c17 => ?_)
        · replace hf := (if_pos c17).symm.trans hf
          obtain ⟨g16, hf⟩ := gd hf
          refine lv_iinc (v := iN (v1 + 1)) (lv' := [(2, .int (iN (v1 + 1))), (0, .ref (a 0)), (1, .ref (a 4)), (3, .int (iN v14)), (4, .int (iN v15))]) hx hb dX7_numberOf_65 hl (k := 2) rfl (iN_add v1 1) (by decide) rfl (fun ls hl => ?_)
          refine lv_goto (tgt := 2) hx hb dX7_numberOf_68 (by decide) ?_
          exact ih0 _ g16 hf _ (lv_sub hl [1, 2, 0] rfl)
        · replace hf := (if_neg c17).symm.trans hf
          refine lv_iload_n hx hb dX7_numberOf_63 rfl (lv_at hl 2 rfl) ?_
          rw [← hQQ]
          exact x_iret hx hb hr (Option.some.inj hf) rv1 hlocks dX7_numberOf_64
  refine L_fX7_numberOf_0_4_L2 _ (fun v19 rv19 hf ls hl => ?_) _ _ (by decide) hf _ (lv_sub hl [1, 2, 0] rfl)
  refine lv_iconst (v := iN (-1)) hx hb dX7_numberOf_71 rfl ?_
  rw [← hQQ]
  exact x_iret hx hb hr (Option.some.inj hf) (by decide) hlocks dX7_numberOf_72
def fX7_which_0 (σ : Mem) : Option (Int × Mem) := nx (mup σ 0 0 0) fun σ1 => if (σ1 0 7) = 0 then some ((-1), σ1) else (fX7_numberOf_0_4 σ1 ).bind fun v2 => some (v2, σ1)
set_option maxHeartbeats 4000000 in
set_option maxRecDepth 100000 in
theorem kX7_which_0 (l : Launch) (dC : Nat → ClassId) (dI : Nat → Nat → Nat) (cI : ClassId) (a : Nat → Nat) (hi : ∀ i j, i < 12 → j < 12 → a i = a j → i = j) (σ : Mem) (r : (Int × Mem)) (hf : fX7_which_0 σ  = some r) (hR : Rg σ) : Met l yX7_which wsX7_which ({ frames := 1, cells := 0, slots := 0, locals := 24 }) (va_Pc [.ref (a 0)] (preM dC dI cI a σ)) (qM (dC, dI) (gw 12 a (mE cI a)) (gA 12 a) r) 0 0 (gA 12 a) := by
  refine Met.ofW (cc := cX7_which) (maxL := 1) (ret := (some .int)) (by decide) rfl ?_
  intro p e s m args below meth c s₁ B hml hv
  obtain ⟨hargs, hP, hK⟩ := hv
  have hx := B.exec
  have hb := B.bytes
  have hr := B.returns
  have hts := atoms_spec (ws := wsX7_which) B.pre
  have hown : s.vm.findClass RX7 = some m.cls := findClass_of_methodNamed B.named
  have hlocks := B.notSynchronized
  have hS : va_S (gA 12 a) s.heap s.heap [] := va_S.rf
  have iX7 : ∀ w ∈ wsX70, w ∈ wsX7_which := by decide +kernel
  have fl26 := hts (.fieldLink RX7 26 "MatchHallModel" "told" "[I") (by decide +kernel)
  have fl54 := hts (.fieldLink RX7 54 "MatchHallModel" "worked" "Z") (by decide +kernel)
  have fl58 := hts (.fieldLink RX7 58 "MatchHallModel" "code" "I") (by decide +kernel)
  have hrm : 1 ≤ (headSpec wsX7_which ({ frames := 1, cells := 0, slots := 0, locals := 24 })).room.frames ∧ 24 ≤ (headSpec wsX7_which ({ frames := 1, cells := 0, slots := 0, locals := 24 })).room.locals := ⟨Nat.le_refl _, Nat.le_refl _⟩
  generalize (headSpec wsX7_which ({ frames := 1, cells := 0, slots := 0, locals := 24 })).room = RR at hrm ⊢
  have hl := lv_entry ([.ref (a 0)]) (n := 1) (Nat.le_of_ble_eq_true rfl)
  rw [show entryFrame m args 1 = entryFrame m ([.ref (a 0)] : List Value).toArray 1 from by rw [hargs], lg_entry_eq]
  generalize (lg_sl ([.ref (a 0)]) ++ List.replicate (1 - (lg_sl ([.ref (a 0)])).length) Slot.unset).toArray = ls at hl ⊢
  have hl : lv_has ls 1 [(0, .ref (a 0))] := hl
  generalize hQQ : MQ below (qM (dC, dI) (gw 12 a (mE cI a)) (gA 12 a) r) args s 0 0 (gA 12 a) = QQ
  refine lv_aload_n hx hb dX7_which_0 rfl (lv_at hl 0 rfl) ?_
  refine lv_iconst (v := iN 0) hx hb dX7_which_1 rfl ?_
  obtain ⟨σ1, hσ1, hf⟩ := nxe hf
  refine x_put (C := RX7) (T := TX7) (NF := 17) (x := 0) (ty := .int) hx hb hts iX7 tyX7 tyX7_ok nmX7 hi hown hK hP hS 0 (by decide) (mE_0 cI a (_)) rfl 0 0 (by decide) fl58 rfl (by decide +kernel) rfl rfl (Nat.le_of_ble_eq_true rfl) rfl dX7_which_2 (fun H locs hP hS => ?_)
  rw [← hσ1] at hP
  have hRσ1 : Rg σ1 := by rw [hσ1]; exact Rg_up hR (by decide)
  refine lv_aload_n hx hb dX7_which_5 rfl (lv_at hl 0 rfl) ?_
  refine x_get (C := RX7) (T := TX7) (NF := 17) (v := .int (iN (σ1 0 7))) hx hb hts iX7 hown hK hP 0 (by decide) (mE_0 cI a (_)) rfl 7 (by decide) fl54 rfl dX7_which_6 ?_
  refine x_if_eq (tgt := 23) hx hb (hRσ1 0 7) dX7_which_9 (by decide) (fun c3 => ?_) (fun c3 => ?_)
  · replace hf := (if_pos c3).symm.trans hf
    refine lv_iconst (v := iN (-1)) hx hb dX7_which_23 rfl ?_
    rw [← hQQ]
    exact x_iretM hx hb hr (Option.some.inj hf) (by decide) hRσ1 hP hS hlocks dX7_which_24
  · replace hf := (if_neg c3).symm.trans hf
    refine lv_aload_n hx hb dX7_which_12 rfl (lv_at hl 0 rfl) ?_
    refine lv_aload_n hx hb dX7_which_13 rfl (lv_at hl 0 rfl) ?_
    refine x_get (C := RX7) (T := TX7) (NF := 17) (v := .ref (a 4)) hx hb hts iX7 hown hK hP 0 (by decide) (mE_0 cI a (_)) rfl 6 (by decide) fl26 rfl dX7_which_14 ?_
    obtain ⟨v2, hv2, hf⟩ := bd hf
    refine x_callP (va_runV (As := [.ref (a 4)]) (rest := []) ⟨hx, hb, hml, hown, hts⟩ (kX7_numberOf_0_4 l dC dI cI a σ1  v2 hv2 hRσ1 ) (cwV 1 hts gX7_which_X7_numberOf rfl rfl rfl hX7_numberOf_d ⟨Nat.le_trans (by decide) hrm.1, Nat.le_trans (by decide) hrm.2⟩) (pvM 0 (by decide) (mE_0 cI a (_)) rfl hP hK) rfl rfl hl.1 rfl (lv_room (Nat.le_of_ble_eq_true rfl)) dX7_which_17 ⟨Nat.zero_le _, Nat.zero_le _⟩) (fun rv2 => ?_)
    refine lv_goto (tgt := 24) hx hb dX7_which_20 (by decide) ?_
    rw [← hQQ]
    exact x_iretM hx hb hr (Option.some.inj hf) rv2 hRσ1 hP hS hlocks dX7_which_24
def fX7_check_0 (σ : Mem) : Option (Int × Mem) := nx (mup σ 0 0 0) fun σ1 => if (σ1 0 7) = 0 then some ((-1), σ1) else some (1, σ1)
set_option maxHeartbeats 4000000 in
set_option maxRecDepth 100000 in
theorem kX7_check_0 (l : Launch) (dC : Nat → ClassId) (dI : Nat → Nat → Nat) (cI : ClassId) (a : Nat → Nat) (hi : ∀ i j, i < 12 → j < 12 → a i = a j → i = j) (σ : Mem) (r : (Int × Mem)) (hf : fX7_check_0 σ  = some r) (hR : Rg σ) : Met l yX7_check wsX7_check ({ frames := 0, cells := 0, slots := 0, locals := 0 }) (va_Pc [.ref (a 0)] (preM dC dI cI a σ)) (qM (dC, dI) (gw 12 a (mE cI a)) (gA 12 a) r) 0 0 (gA 12 a) := by
  refine Met.ofW (cc := cX7_check) (maxL := 1) (ret := (some .int)) (by decide) rfl ?_
  intro p e s m args below meth c s₁ B hml hv
  obtain ⟨hargs, hP, hK⟩ := hv
  have hx := B.exec
  have hb := B.bytes
  have hr := B.returns
  have hts := atoms_spec (ws := wsX7_check) B.pre
  have hown : s.vm.findClass RX7 = some m.cls := findClass_of_methodNamed B.named
  have hlocks := B.notSynchronized
  have hS : va_S (gA 12 a) s.heap s.heap [] := va_S.rf
  have iX7 : ∀ w ∈ wsX70, w ∈ wsX7_check := by decide +kernel
  have fl54 := hts (.fieldLink RX7 54 "MatchHallModel" "worked" "Z") (by decide +kernel)
  have fl58 := hts (.fieldLink RX7 58 "MatchHallModel" "code" "I") (by decide +kernel)
  have hrm : 0 ≤ (headSpec wsX7_check ({ frames := 0, cells := 0, slots := 0, locals := 0 })).room.frames ∧ 0 ≤ (headSpec wsX7_check ({ frames := 0, cells := 0, slots := 0, locals := 0 })).room.locals := ⟨Nat.le_refl _, Nat.le_refl _⟩
  generalize (headSpec wsX7_check ({ frames := 0, cells := 0, slots := 0, locals := 0 })).room = RR at hrm ⊢
  have hl := lv_entry ([.ref (a 0)]) (n := 1) (Nat.le_of_ble_eq_true rfl)
  rw [show entryFrame m args 1 = entryFrame m ([.ref (a 0)] : List Value).toArray 1 from by rw [hargs], lg_entry_eq]
  generalize (lg_sl ([.ref (a 0)]) ++ List.replicate (1 - (lg_sl ([.ref (a 0)])).length) Slot.unset).toArray = ls at hl ⊢
  have hl : lv_has ls 1 [(0, .ref (a 0))] := hl
  generalize hQQ : MQ below (qM (dC, dI) (gw 12 a (mE cI a)) (gA 12 a) r) args s 0 0 (gA 12 a) = QQ
  refine lv_aload_n hx hb dX7_check_0 rfl (lv_at hl 0 rfl) ?_
  refine lv_iconst (v := iN 0) hx hb dX7_check_1 rfl ?_
  obtain ⟨σ1, hσ1, hf⟩ := nxe hf
  refine x_put (C := RX7) (T := TX7) (NF := 17) (x := 0) (ty := .int) hx hb hts iX7 tyX7 tyX7_ok nmX7 hi hown hK hP hS 0 (by decide) (mE_0 cI a (_)) rfl 0 0 (by decide) fl58 rfl (by decide +kernel) rfl rfl (Nat.le_of_ble_eq_true rfl) rfl dX7_check_2 (fun H locs hP hS => ?_)
  rw [← hσ1] at hP
  have hRσ1 : Rg σ1 := by rw [hσ1]; exact Rg_up hR (by decide)
  refine lv_aload_n hx hb dX7_check_5 rfl (lv_at hl 0 rfl) ?_
  refine x_get (C := RX7) (T := TX7) (NF := 17) (v := .int (iN (σ1 0 7))) hx hb hts iX7 hown hK hP 0 (by decide) (mE_0 cI a (_)) rfl 7 (by decide) fl54 rfl dX7_check_6 ?_
  refine x_if_eq (tgt := 16) hx hb (hRσ1 0 7) dX7_check_9 (by decide) (fun c2 => ?_) (fun c2 => ?_)
  · replace hf := (if_pos c2).symm.trans hf
    refine lv_iconst (v := iN (-1)) hx hb dX7_check_16 rfl ?_
    rw [← hQQ]
    exact x_iretM hx hb hr (Option.some.inj hf) (by decide) hRσ1 hP hS hlocks dX7_check_17
  · replace hf := (if_neg c2).symm.trans hf
    refine lv_iconst (v := iN 1) hx hb dX7_check_12 rfl ?_
    refine lv_goto (tgt := 17) hx hb dX7_check_13 (by decide) ?_
    rw [← hQQ]
    exact x_iretM hx hb hr (Option.some.inj hf) (by decide) hRσ1 hP hS hlocks dX7_check_17
def fX7_taken_10_L6 (σ : Mem) (x1 : Int) (x2 : Int) (x3 : Int) (ex0 : Int → Int → Option Int) : Nat → Int → Int → Option Int
  | 0, _, _ => none
  | n0 + 1, v1, v2 => if v2 < x2 then if rng (x1 + v2) then if (0 : Int) ≤ (x1 + v2) ∧ ((x1 + v2) : Int) < 6 then if (σ 10 (x1 + v2)) = x3 then if rng (v1 + 1) then if rng (v2 + 1) then fX7_taken_10_L6 σ x1 x2 x3 ex0 n0 (v1 + 1) (v2 + 1) else none else none else if rng (v1 + 0) then if rng (v2 + 1) then fX7_taken_10_L6 σ x1 x2 x3 ex0 n0 (v1 + 0) (v2 + 1) else none else none else none else none else ex0 v1 v2
def fX7_taken_10 (σ : Mem) (x1 : Int) (x2 : Int) (x3 : Int) : Option Int := fX7_taken_10_L6 σ x1 x2 x3 (fun v11 v12 => some v11) FU 0 0
set_option maxHeartbeats 4000000 in
set_option maxRecDepth 100000 in
theorem kX7_taken_10 (l : Launch) (dC : Nat → ClassId) (dI : Nat → Nat → Nat) (cI : ClassId) (a : Nat → Nat) (σ : Mem) (x1 : Int) (x2 : Int) (x3 : Int) (r : Int) (hf : fX7_taken_10 σ x1 x2 x3 = some r) (hR : Rg σ) (rx1 : rng x1) (rx2 : rng x2) (rx3 : rng x3) : Met l yX7_taken wsX7_taken ({ frames := 0, cells := 0, slots := 0, locals := 0 }) (va_Pc [.ref (a 10), .int (iN x1), .int (iN x2), .int (iN x3)] (preM dC dI cI a σ)) (qP r) 0 0 (fun _ => False) := by
  refine Met.ofW (cc := cX7_taken) (maxL := 6) (ret := (some .int)) (by decide) rfl ?_
  intro p e s m args below meth c s₁ B hml hv
  obtain ⟨hargs, hP, hK⟩ := hv
  have hx := B.exec
  have hb := B.bytes
  have hr := B.returns
  have hts := atoms_spec (ws := wsX7_taken) B.pre
  have hown : s.vm.findClass RX7 = some m.cls := findClass_of_methodNamed B.named
  have hlocks := B.notSynchronized
  have hrm : 0 ≤ (headSpec wsX7_taken ({ frames := 0, cells := 0, slots := 0, locals := 0 })).room.frames ∧ 0 ≤ (headSpec wsX7_taken ({ frames := 0, cells := 0, slots := 0, locals := 0 })).room.locals := ⟨Nat.le_refl _, Nat.le_refl _⟩
  generalize (headSpec wsX7_taken ({ frames := 0, cells := 0, slots := 0, locals := 0 })).room = RR at hrm ⊢
  have hl := lv_entry ([.ref (a 10), .int (iN x1), .int (iN x2), .int (iN x3)]) (n := 6) (Nat.le_of_ble_eq_true rfl)
  rw [show entryFrame m args 6 = entryFrame m ([.ref (a 10), .int (iN x1), .int (iN x2), .int (iN x3)] : List Value).toArray 6 from by rw [hargs], lg_entry_eq]
  generalize (lg_sl ([.ref (a 10), .int (iN x1), .int (iN x2), .int (iN x3)]) ++ List.replicate (6 - (lg_sl ([.ref (a 10), .int (iN x1), .int (iN x2), .int (iN x3)])).length) Slot.unset).toArray = ls at hl ⊢
  have hl : lv_has ls 6 [(0, .ref (a 10)), (1, .int (iN x1)), (2, .int (iN x2)), (3, .int (iN x3))] := hl
  generalize hQQ : MQ below (qP r) args s 0 0 (fun _ => False) = QQ
  refine lv_iconst (v := iN 0) hx hb dX7_taken_0 rfl ?_
  refine lv_istore (lv' := [(4, .int (iN 0)), (0, .ref (a 10)), (1, .int (iN x1)), (2, .int (iN x2)), (3, .int (iN x3))]) hx hb dX7_taken_1 hl (by decide) rfl (fun ls hl => ?_)
  refine lv_iconst (v := iN 0) hx hb dX7_taken_3 rfl ?_
  refine lv_istore (lv' := [(5, .int (iN 0)), (4, .int (iN 0)), (0, .ref (a 10)), (1, .int (iN x1)), (2, .int (iN x2)), (3, .int (iN x3))]) hx hb dX7_taken_4 hl (by decide) rfl (fun ls hl => ?_)
  have L_fX7_taken_10_L6 : ∀ (EX0 : Int → Int → Option Int), (∀ (v1 : Int) (v2 : Int), rng v1 → rng v2 → EX0 v1 v2 = some r → ∀ ls, lv_has ls 6 [(0, .ref (a 10)), (1, .int (iN x1)), (2, .int (iN x2)), (3, .int (iN x3)), (4, .int (iN v1)), (5, .int (iN v2))] → W p l e RR s m args below meth c s.heap [] 0 0 QQ (F0 m 38 ls [])) → ∀ n0 : Nat, ∀ (v1 : Int) (v2 : Int), rng v1 → rng v2 → fX7_taken_10_L6 σ x1 x2 x3 EX0 n0 v1 v2 = some r → ∀ ls, lv_has ls 6 [(0, .ref (a 10)), (1, .int (iN x1)), (2, .int (iN x2)), (3, .int (iN x3)), (4, .int (iN v1)), (5, .int (iN v2))] → W p l e RR s m args below meth c s.heap [] 0 0 QQ (F0 m 6 ls []) := by
    intro EX0 hEX0 n0
    induction n0 with
    | zero => intro _ _ _ _ hf; cases hf
    | succ n0 ih0 =>
      intro v1 v2 rv1 rv2 hf ls hl
      rw [fX7_taken_10_L6] at hf
      refine lv_iload hx hb dX7_taken_6 (lv_at hl 5 rfl) ?_
      refine lv_iload_n hx hb dX7_taken_8 rfl (lv_at hl 2 rfl) ?_
      refine x_icmp_ge (tgt := 38) hx hb rv2 rx2 dX7_taken_9 (by decide) (fun c10 => ?_) (fun c10 => ?_)
      · replace hf := (if_neg c10).symm.trans hf
        exact hEX0 _ _ rv1 rv2 hf _ (lv_sub hl [0, 1, 2, 3, 4, 5] rfl)
      · replace hf := (if_pos c10).symm.trans hf
        refine lv_iload hx hb dX7_taken_12 (lv_at hl 4 rfl) ?_
        refine lv_aload_n hx hb dX7_taken_14 rfl (lv_at hl 0 rfl) ?_
        refine lv_iload_n hx hb dX7_taken_15 rfl (lv_at hl 1 rfl) ?_
        refine lv_iload hx hb dX7_taken_16 (lv_at hl 5 rfl) ?_
        obtain ⟨g3, hf⟩ := gd hf
        refine x_iadd hx hb dX7_taken_18 ?_
        obtain ⟨g4, hf⟩ := gd hf
        refine x_iald hx hb hK hP 10 0 (by decide) (mE_10 cI a (_)) (by decide) rfl g4 dX7_taken_19 ?_
        refine lv_iload_n hx hb dX7_taken_20 rfl (lv_at hl 3 rfl) ?_
        refine x_icmp_ne (tgt := 28) hx hb (hR 10 (x1 + v2)) rx3 dX7_taken_21 (by decide) (fun c9 => ?_) (fun c9 => ?_)
        · replace hf := (if_neg c9).symm.trans hf
          refine lv_iconst (v := iN 0) hx hb dX7_taken_28 rfl ?_
          obtain ⟨g5, hf⟩ := gd hf
          refine x_iadd hx hb dX7_taken_29 ?_
          refine lv_istore (lv' := [(4, .int (iN (v1 + 0))), (0, .ref (a 10)), (1, .int (iN x1)), (2, .int (iN x2)), (3, .int (iN x3)), (5, .int (iN v2))]) hx hb dX7_taken_30 hl (by decide) rfl (fun ls hl => ?_)
          obtain ⟨g6, hf⟩ := gd hf
          refine lv_iinc (v := iN (v2 + 1)) (lv' := [(5, .int (iN (v2 + 1))), (4, .int (iN (v1 + 0))), (0, .ref (a 10)), (1, .int (iN x1)), (2, .int (iN x2)), (3, .int (iN x3))]) hx hb dX7_taken_32 hl (k := 5) rfl (iN_add v2 1) (by decide) rfl (fun ls hl => ?_)
          refine lv_goto (tgt := 6) hx hb dX7_taken_35 (by decide) ?_
          exact ih0 _ _ g5 g6 hf _ (lv_sub hl [2, 3, 4, 5, 1, 0] rfl)
        · replace hf := (if_pos c9).symm.trans hf
          refine lv_iconst (v := iN 1) hx hb dX7_taken_24 rfl ?_
          refine lv_goto (tgt := 29) hx hb dX7_taken_25 (by decide) ?_
          obtain ⟨g7, hf⟩ := gd hf
          refine x_iadd hx hb dX7_taken_29 ?_
          refine lv_istore (lv' := [(4, .int (iN (v1 + 1))), (0, .ref (a 10)), (1, .int (iN x1)), (2, .int (iN x2)), (3, .int (iN x3)), (5, .int (iN v2))]) hx hb dX7_taken_30 hl (by decide) rfl (fun ls hl => ?_)
          obtain ⟨g8, hf⟩ := gd hf
          refine lv_iinc (v := iN (v2 + 1)) (lv' := [(5, .int (iN (v2 + 1))), (4, .int (iN (v1 + 1))), (0, .ref (a 10)), (1, .int (iN x1)), (2, .int (iN x2)), (3, .int (iN x3))]) hx hb dX7_taken_32 hl (k := 5) rfl (iN_add v2 1) (by decide) rfl (fun ls hl => ?_)
          refine lv_goto (tgt := 6) hx hb dX7_taken_35 (by decide) ?_
          exact ih0 _ _ g7 g8 hf _ (lv_sub hl [2, 3, 4, 5, 1, 0] rfl)
  refine L_fX7_taken_10_L6 _ (fun v11 v12 rv11 rv12 hf ls hl => ?_) _ _ _ (by decide) (by decide) hf _ (lv_sub hl [2, 3, 4, 5, 1, 0] rfl)
  refine lv_iload hx hb dX7_taken_38 (lv_at hl 4 rfl) ?_
  rw [← hQQ]
  exact x_iret hx hb hr (Option.some.inj hf) rv11 hlocks dX7_taken_40
def fX7_next_0_L2 (σ : Mem) (x1 : Int) (ex0 : Int → Option Int) : Nat → Int → Option Int
  | 0, _ => none
  | n0 + 1, v1 => if (0 : Int) ≤ x1 ∧ (x1 : Int) < 12 then if v1 < (σ 3 x1) then if rng (6 * x1) then if rng ((6 * x1) + v1) then if (0 : Int) ≤ ((6 * x1) + v1) ∧ (((6 * x1) + v1) : Int) < 72 then (fX7_place_0 σ 1 (σ 2 ((6 * x1) + v1)) x1).bind fun v6 => if v6 < 0 then if rng (v1 + 1) then fX7_next_0_L2 σ x1 ex0 n0 (v1 + 1) else none else (fX7_taken_10 σ 0 x1 (σ 2 ((6 * x1) + v1))).bind fun v8 => if (0 : Int) ≤ (σ 2 ((6 * x1) + v1)) ∧ ((σ 2 ((6 * x1) + v1)) : Int) < 6 then if v8 < (σ 1 (σ 2 ((6 * x1) + v1))) then some v1 else if rng (v1 + 1) then fX7_next_0_L2 σ x1 ex0 n0 (v1 + 1) else none else none else none else none else none else ex0 v1 else none
def fX7_next_0 (σ : Mem) (x1 : Int) (x2 : Int) : Option Int := fX7_next_0_L2 σ x1 (fun v14 => some v14) FU x2
set_option maxHeartbeats 4000000 in
set_option maxRecDepth 100000 in
theorem kX7_next_0 (l : Launch) (dC : Nat → ClassId) (dI : Nat → Nat → Nat) (cI : ClassId) (a : Nat → Nat) (σ : Mem) (x1 : Int) (x2 : Int) (r : Int) (hf : fX7_next_0 σ x1 x2 = some r) (hR : Rg σ) (rx1 : rng x1) (rx2 : rng x2) : Met l yX7_next wsX7_next ({ frames := 1, cells := 0, slots := 0, locals := 25 }) (va_Pc [.ref (a 0), .int (iN x1), .int (iN x2)] (preM dC dI cI a σ)) (qP r) 0 0 (fun _ => False) := by
  refine Met.ofW (cc := cX7_next) (maxL := 5) (ret := (some .int)) (by decide) rfl ?_
  intro p e s m args below meth c s₁ B hml hv
  obtain ⟨hargs, hP, hK⟩ := hv
  have hx := B.exec
  have hb := B.bytes
  have hr := B.returns
  have hts := atoms_spec (ws := wsX7_next) B.pre
  have hown : s.vm.findClass RX7 = some m.cls := findClass_of_methodNamed B.named
  have hlocks := B.notSynchronized
  have iX7 : ∀ w ∈ wsX70, w ∈ wsX7_next := by decide +kernel
  have fl16 := hts (.fieldLink RX7 16 "MatchHallModel" "seats" "[I") (by decide +kernel)
  have fl20 := hts (.fieldLink RX7 20 "MatchHallModel" "lists" "[I") (by decide +kernel)
  have fl23 := hts (.fieldLink RX7 23 "MatchHallModel" "longs" "[I") (by decide +kernel)
  have fl44 := hts (.fieldLink RX7 44 "MatchHallModel" "tried" "[I") (by decide +kernel)
  have hrm : 1 ≤ (headSpec wsX7_next ({ frames := 1, cells := 0, slots := 0, locals := 25 })).room.frames ∧ 25 ≤ (headSpec wsX7_next ({ frames := 1, cells := 0, slots := 0, locals := 25 })).room.locals := ⟨Nat.le_refl _, Nat.le_refl _⟩
  generalize (headSpec wsX7_next ({ frames := 1, cells := 0, slots := 0, locals := 25 })).room = RR at hrm ⊢
  have hl := lv_entry ([.ref (a 0), .int (iN x1), .int (iN x2)]) (n := 5) (Nat.le_of_ble_eq_true rfl)
  rw [show entryFrame m args 5 = entryFrame m ([.ref (a 0), .int (iN x1), .int (iN x2)] : List Value).toArray 5 from by rw [hargs], lg_entry_eq]
  generalize (lg_sl ([.ref (a 0), .int (iN x1), .int (iN x2)]) ++ List.replicate (5 - (lg_sl ([.ref (a 0), .int (iN x1), .int (iN x2)])).length) Slot.unset).toArray = ls at hl ⊢
  have hl : lv_has ls 5 [(0, .ref (a 0)), (1, .int (iN x1)), (2, .int (iN x2))] := hl
  generalize hQQ : MQ below (qP r) args s 0 0 (fun _ => False) = QQ
  refine lv_iload_n hx hb dX7_next_0 rfl (lv_at hl 2 rfl) ?_
  refine lv_istore_n (lv' := [(3, .int (iN x2)), (0, .ref (a 0)), (1, .int (iN x1)), (2, .int (iN x2))]) hx hb dX7_next_1 rfl hl (by decide) rfl (fun ls hl => ?_)
  have L_fX7_next_0_L2 : ∀ (EX0 : Int → Option Int), (∀ (v1 : Int), rng v1 → EX0 v1 = some r → ∀ ls, lv_has ls 5 [(0, .ref (a 0)), (1, .int (iN x1)), (2, .int (iN x2)), (3, .int (iN v1))] → W p l e RR s m args below meth c s.heap [] 0 0 QQ (F0 m 65 ls [])) → ∀ n0 : Nat, ∀ (v1 : Int), rng v1 → fX7_next_0_L2 σ x1 EX0 n0 v1 = some r → ∀ ls, lv_has ls 5 [(0, .ref (a 0)), (1, .int (iN x1)), (2, .int (iN x2)), (3, .int (iN v1))] → W p l e RR s m args below meth c s.heap [] 0 0 QQ (F0 m 2 ls []) := by
    intro EX0 hEX0 n0
    induction n0 with
    | zero => intro _ _ hf; cases hf
    | succ n0 ih0 =>
      intro v1 rv1 hf ls hl
      rw [fX7_next_0_L2] at hf
      refine lv_iload_n hx hb dX7_next_2 rfl (lv_at hl 3 rfl) ?_
      refine lv_aload_n hx hb dX7_next_3 rfl (lv_at hl 0 rfl) ?_
      refine x_get (C := RX7) (T := TX7) (NF := 17) (v := .ref (a 3)) hx hb hts iX7 hown hK hP 0 (by decide) (mE_0 cI a (_)) rfl 5 (by decide) fl23 rfl dX7_next_4 ?_
      refine lv_iload_n hx hb dX7_next_7 rfl (lv_at hl 1 rfl) ?_
      obtain ⟨g2, hf⟩ := gd hf
      refine x_iald hx hb hK hP 3 0 (by decide) (mE_3 cI a (_)) (by decide) rfl g2 dX7_next_8 ?_
      refine x_icmp_ge (tgt := 65) hx hb rv1 (hR 3 x1) dX7_next_9 (by decide) (fun c13 => ?_) (fun c13 => ?_)
      · replace hf := (if_neg c13).symm.trans hf
        exact hEX0 _ rv1 hf _ (lv_sub hl [0, 1, 2, 3] rfl)
      · replace hf := (if_pos c13).symm.trans hf
        refine lv_aload_n hx hb dX7_next_12 rfl (lv_at hl 0 rfl) ?_
        refine x_get (C := RX7) (T := TX7) (NF := 17) (v := .ref (a 2)) hx hb hts iX7 hown hK hP 0 (by decide) (mE_0 cI a (_)) rfl 4 (by decide) fl20 rfl dX7_next_13 ?_
        refine lv_bipush (v := iN 6) hx hb dX7_next_16 (by decide) ?_
        refine lv_iload_n hx hb dX7_next_18 rfl (lv_at hl 1 rfl) ?_
        obtain ⟨g3, hf⟩ := gd hf
        refine x_imul hx hb dX7_next_19 ?_
        refine lv_iload_n hx hb dX7_next_20 rfl (lv_at hl 3 rfl) ?_
        obtain ⟨g4, hf⟩ := gd hf
        refine x_iadd hx hb dX7_next_21 ?_
        obtain ⟨g5, hf⟩ := gd hf
        refine x_iald hx hb hK hP 2 0 (by decide) (mE_2 cI a (_)) (by decide) rfl g5 dX7_next_22 ?_
        refine lv_istore (lv' := [(4, .int (iN (σ 2 ((6 * x1) + v1)))), (0, .ref (a 0)), (1, .int (iN x1)), (2, .int (iN x2)), (3, .int (iN v1))]) hx hb dX7_next_23 hl (by decide) rfl (fun ls hl => ?_)
        refine lv_aload_n hx hb dX7_next_25 rfl (lv_at hl 1 rfl) ?_
        refine lv_iconst (v := iN 1) hx hb dX7_next_26 rfl ?_
        refine lv_iload hx hb dX7_next_27 (lv_at hl 0 rfl) ?_
        refine lv_iload_n hx hb dX7_next_29 rfl (lv_at hl 2 rfl) ?_
        obtain ⟨v6, hv6, hf⟩ := bd hf
        refine x_callP (va_runV (As := [.int (iN 1), .int (iN (σ 2 ((6 * x1) + v1))), .int (iN x1)]) (rest := []) ⟨hx, hb, hml, hown, hts⟩ (kX7_place_0 l dC dI cI a σ 1 (σ 2 ((6 * x1) + v1)) x1 v6 hv6 hR (by decide) (hR 2 ((6 * x1) + v1)) rx1) (cwV 3 hts gX7_next_X7_place rfl rfl rfl hX7_place_d ⟨Nat.le_trans (by decide) hrm.1, Nat.le_trans (by decide) hrm.2⟩) (pvM 0 (by decide) (mE_0 cI a (_)) rfl hP hK) rfl rfl hl.1 rfl (lv_room (Nat.le_of_ble_eq_true rfl)) dX7_next_30 ⟨Nat.zero_le _, Nat.zero_le _⟩) (fun rv6 => ?_)
        refine x_if_lt (tgt := 59) hx hb rv6 dX7_next_33 (by decide) (fun c12 => ?_) (fun c12 => ?_)
        · replace hf := (if_pos c12).symm.trans hf
          obtain ⟨g7, hf⟩ := gd hf
          refine lv_iinc (v := iN (v1 + 1)) (lv' := [(3, .int (iN (v1 + 1))), (4, .int (iN (σ 2 ((6 * x1) + v1)))), (0, .ref (a 0)), (1, .int (iN x1)), (2, .int (iN x2))]) hx hb dX7_next_59 hl (k := 4) rfl (iN_add v1 1) (by decide) rfl (fun ls hl => ?_)
          refine lv_goto (tgt := 2) hx hb dX7_next_62 (by decide) ?_
          exact ih0 _ g7 hf _ (lv_sub hl [2, 3, 4, 0] rfl)
        · replace hf := (if_neg c12).symm.trans hf
          refine lv_aload_n hx hb dX7_next_36 rfl (lv_at hl 1 rfl) ?_
          refine x_get (C := RX7) (T := TX7) (NF := 17) (v := .ref (a 10)) hx hb hts iX7 hown hK hP 0 (by decide) (mE_0 cI a (_)) rfl 15 (by decide) fl44 rfl dX7_next_37 ?_
          refine lv_iconst (v := iN 0) hx hb dX7_next_40 rfl ?_
          refine lv_iload_n hx hb dX7_next_41 rfl (lv_at hl 2 rfl) ?_
          refine lv_iload hx hb dX7_next_42 (lv_at hl 0 rfl) ?_
          obtain ⟨v8, hv8, hf⟩ := bd hf
          refine x_callP (va_runS (As := [.ref (a 10), .int (iN 0), .int (iN x1), .int (iN (σ 2 ((6 * x1) + v1)))]) (rest := []) ⟨hx, hb, hml, hown, hts⟩ (kX7_taken_10 l dC dI cI a σ 0 x1 (σ 2 ((6 * x1) + v1)) v8 hv8 hR (by decide) rx1 (hR 2 ((6 * x1) + v1))) (va_cwS 4 hts gX7_next_X7_taken rfl rfl rfl hX7_taken_d ⟨Nat.le_trans (by decide) hrm.1, Nat.le_trans (by decide) hrm.2⟩) (psM hP hK) rfl rfl hl.1 rfl (lv_room (Nat.le_of_ble_eq_true rfl)) dX7_next_44 ⟨Nat.zero_le _, Nat.zero_le _⟩) (fun rv8 => ?_)
          refine lv_aload_n hx hb dX7_next_47 rfl (lv_at hl 1 rfl) ?_
          refine x_get (C := RX7) (T := TX7) (NF := 17) (v := .ref (a 1)) hx hb hts iX7 hown hK hP 0 (by decide) (mE_0 cI a (_)) rfl 3 (by decide) fl16 rfl dX7_next_48 ?_
          refine lv_iload hx hb dX7_next_51 (lv_at hl 0 rfl) ?_
          obtain ⟨g9, hf⟩ := gd hf
          refine x_iald hx hb hK hP 1 0 (by decide) (mE_1 cI a (_)) (by decide) rfl g9 dX7_next_53 ?_
          refine x_icmp_ge (tgt := 59) hx hb rv8 (hR 1 (σ 2 ((6 * x1) + v1))) dX7_next_54 (by decide) (fun c11 => ?_) (fun c11 => ?_)
          · replace hf := (if_neg c11).symm.trans hf
            obtain ⟨g10, hf⟩ := gd hf
            refine lv_iinc (v := iN (v1 + 1)) (lv' := [(3, .int (iN (v1 + 1))), (4, .int (iN (σ 2 ((6 * x1) + v1)))), (0, .ref (a 0)), (1, .int (iN x1)), (2, .int (iN x2))]) hx hb dX7_next_59 hl (k := 4) rfl (iN_add v1 1) (by decide) rfl (fun ls hl => ?_)
            refine lv_goto (tgt := 2) hx hb dX7_next_62 (by decide) ?_
            exact ih0 _ g10 hf _ (lv_sub hl [2, 3, 4, 0] rfl)
          · replace hf := (if_pos c11).symm.trans hf
            refine lv_iload_n hx hb dX7_next_57 rfl (lv_at hl 4 rfl) ?_
            rw [← hQQ]
            exact x_iret hx hb hr (Option.some.inj hf) rv1 hlocks dX7_next_58
  refine L_fX7_next_0_L2 _ (fun v14 rv14 hf ls hl => ?_) _ _ rx2 hf _ (lv_sub hl [1, 2, 3, 0] rfl)
  refine lv_iload_n hx hb dX7_next_65 rfl (lv_at hl 3 rfl) ?_
  rw [← hQQ]
  exact x_iret hx hb hr (Option.some.inj hf) rv14 hlocks dX7_next_66
