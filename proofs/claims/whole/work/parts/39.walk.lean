def fX7_costOf_0_L11 (σ : Mem) (x1 : Int) (ex0 : Int → Int → Int → Int → Option Int) : Nat → Int → Int → Int → Int → Option Int
  | 0, _, _, _, _ => none
  | n0 + 1, v1, v2, v3, v4 => if v4 < (σ 0 1) then if rng (6 * x1) then if rng ((6 * x1) + v4) then if (0 : Int) ≤ ((6 * x1) + v4) ∧ (((6 * x1) + v4) : Int) < 4320 then if (σ 5 ((6 * x1) + v4)) = (-1) then if rng (v4 + 1) then fX7_costOf_0_L11 σ x1 ex0 n0 v1 v2 v3 (v4 + 1) else none else (fX7_place_0 σ 0 v4 (σ 5 ((6 * x1) + v4))).bind fun v9 => (fX7_place_0 σ 1 (σ 5 ((6 * x1) + v4)) v4).bind fun v10 => if rng (v1 + v9) then if rng (v2 + v10) then if v3 < v9 then if v9 < v10 then if rng (v4 + 1) then fX7_costOf_0_L11 σ x1 ex0 n0 (v1 + v9) (v2 + v10) v10 (v4 + 1) else none else if rng (v4 + 1) then fX7_costOf_0_L11 σ x1 ex0 n0 (v1 + v9) (v2 + v10) v9 (v4 + 1) else none else if v3 < v10 then if rng (v4 + 1) then fX7_costOf_0_L11 σ x1 ex0 n0 (v1 + v9) (v2 + v10) v10 (v4 + 1) else none else if rng (v4 + 1) then fX7_costOf_0_L11 σ x1 ex0 n0 (v1 + v9) (v2 + v10) v3 (v4 + 1) else none else none else none else none else none else none else ex0 v1 v2 v3 v4
def fX7_costOf_0 (σ : Mem) (x1 : Int) (x2 : Int) : Option Int := fX7_costOf_0_L11 σ x1 (fun v22 v23 v24 v25 => if x2 = 0 then some v22 else if x2 = 1 then some v23 else if x2 = 2 then if rng (v22 + v23) then some (v22 + v23) else none else if x2 = 3 then if v23 < v22 then if rng (v22 - v23) then some (v22 - v23) else none else if rng (v23 - v22) then some (v23 - v22) else none else some v24) FU 0 0 (-1) 0
set_option maxHeartbeats 4000000 in
set_option maxRecDepth 100000 in
theorem kX7_costOf_0 (l : Launch) (dC : Nat → ClassId) (dI : Nat → Nat → Nat) (cI : ClassId) (a : Nat → Nat) (σ : Mem) (x1 : Int) (x2 : Int) (r : Int) (hf : fX7_costOf_0 σ x1 x2 = some r) (hR : Rg σ) (rx1 : rng x1) (rx2 : rng x2) : Met l yX7_costOf wsX7_costOf ({ frames := 1, cells := 0, slots := 0, locals := 25 }) (va_Pc [.ref (a 0), .int (iN x1), .int (iN x2)] (preM dC dI cI a σ)) (qP r) 0 0 (fun _ => False) := by
  refine Met.ofW (cc := cX7_costOf) (maxL := 10) (ret := (some .int)) (by decide) rfl ?_
  intro p e s m args below meth c s₁ B hml hv
  obtain ⟨hargs, hP, hK⟩ := hv
  have hx := B.exec
  have hb := B.bytes
  have hr := B.returns
  have hts := atoms_spec (ws := wsX7_costOf) B.pre
  have hown : s.vm.findClass RX7 = some m.cls := findClass_of_methodNamed B.named
  have hlocks := B.notSynchronized
  have iX7 : ∀ w ∈ wsX70, w ∈ wsX7_costOf := by decide +kernel
  have fl29 := hts (.fieldLink RX7 29 "MatchHallModel" "stable" "[I") (by decide +kernel)
  have fl7 := hts (.fieldLink RX7 7 "MatchHallModel" "residents" "I") (by decide +kernel)
  have hrm : 1 ≤ (headSpec wsX7_costOf ({ frames := 1, cells := 0, slots := 0, locals := 25 })).room.frames ∧ 25 ≤ (headSpec wsX7_costOf ({ frames := 1, cells := 0, slots := 0, locals := 25 })).room.locals := ⟨Nat.le_refl _, Nat.le_refl _⟩
  generalize (headSpec wsX7_costOf ({ frames := 1, cells := 0, slots := 0, locals := 25 })).room = RR at hrm ⊢
  have hl := lv_entry ([.ref (a 0), .int (iN x1), .int (iN x2)]) (n := 10) (Nat.le_of_ble_eq_true rfl)
  rw [show entryFrame m args 10 = entryFrame m ([.ref (a 0), .int (iN x1), .int (iN x2)] : List Value).toArray 10 from by rw [hargs], lg_entry_eq]
  generalize (lg_sl ([.ref (a 0), .int (iN x1), .int (iN x2)]) ++ List.replicate (10 - (lg_sl ([.ref (a 0), .int (iN x1), .int (iN x2)])).length) Slot.unset).toArray = ls at hl ⊢
  have hl : lv_has ls 10 [(0, .ref (a 0)), (1, .int (iN x1)), (2, .int (iN x2))] := hl
  generalize hQQ : MQ below (qP r) args s 0 0 (fun _ => False) = QQ
  refine lv_iconst (v := iN 0) hx hb dX7_costOf_0 rfl ?_
  refine lv_istore_n (lv' := [(3, .int (iN 0)), (0, .ref (a 0)), (1, .int (iN x1)), (2, .int (iN x2))]) hx hb dX7_costOf_1 rfl hl (by decide) rfl (fun ls hl => ?_)
  refine lv_iconst (v := iN 0) hx hb dX7_costOf_2 rfl ?_
  refine lv_istore (lv' := [(4, .int (iN 0)), (3, .int (iN 0)), (0, .ref (a 0)), (1, .int (iN x1)), (2, .int (iN x2))]) hx hb dX7_costOf_3 hl (by decide) rfl (fun ls hl => ?_)
  refine lv_iconst (v := iN (-1)) hx hb dX7_costOf_5 rfl ?_
  refine lv_istore (lv' := [(5, .int (iN (-1))), (4, .int (iN 0)), (3, .int (iN 0)), (0, .ref (a 0)), (1, .int (iN x1)), (2, .int (iN x2))]) hx hb dX7_costOf_6 hl (by decide) rfl (fun ls hl => ?_)
  refine lv_iconst (v := iN 0) hx hb dX7_costOf_8 rfl ?_
  refine lv_istore (lv' := [(6, .int (iN 0)), (5, .int (iN (-1))), (4, .int (iN 0)), (3, .int (iN 0)), (0, .ref (a 0)), (1, .int (iN x1)), (2, .int (iN x2))]) hx hb dX7_costOf_9 hl (by decide) rfl (fun ls hl => ?_)
  have L_fX7_costOf_0_L11 : ∀ (EX0 : Int → Int → Int → Int → Option Int), (∀ (v1 : Int) (v2 : Int) (v3 : Int) (v4 : Int), rng v1 → rng v2 → rng v3 → rng v4 → EX0 v1 v2 v3 v4 = some r → ∀ ls, lv_has ls 10 [(0, .ref (a 0)), (1, .int (iN x1)), (2, .int (iN x2)), (3, .int (iN v1)), (4, .int (iN v2)), (5, .int (iN v3)), (6, .int (iN v4))] → W p l e RR s m args below meth c s.heap [] 0 0 QQ (F0 m 112 ls [])) → ∀ n0 : Nat, ∀ (v1 : Int) (v2 : Int) (v3 : Int) (v4 : Int), rng v1 → rng v2 → rng v3 → rng v4 → fX7_costOf_0_L11 σ x1 EX0 n0 v1 v2 v3 v4 = some r → ∀ ls, lv_has ls 10 [(0, .ref (a 0)), (1, .int (iN x1)), (2, .int (iN x2)), (3, .int (iN v1)), (4, .int (iN v2)), (5, .int (iN v3)), (6, .int (iN v4))] → W p l e RR s m args below meth c s.heap [] 0 0 QQ (F0 m 11 ls []) := by
    intro EX0 hEX0 n0
    induction n0 with
    | zero => intro _ _ _ _ _ _ _ _ hf; cases hf
    | succ n0 ih0 =>
      intro v1 v2 v3 v4 rv1 rv2 rv3 rv4 hf ls hl
      rw [fX7_costOf_0_L11] at hf
      refine lv_iload hx hb dX7_costOf_11 (lv_at hl 6 rfl) ?_
      refine lv_aload_n hx hb dX7_costOf_13 rfl (lv_at hl 0 rfl) ?_
      refine x_get (C := RX7) (T := TX7) (NF := 17) (v := .int (iN (σ 0 1))) hx hb hts iX7 hown hK hP 0 (by decide) (mE_0 cI a (_)) rfl 1 (by decide) fl7 rfl dX7_costOf_14 ?_
      refine x_icmp_ge (tgt := 112) hx hb rv4 (hR 0 1) dX7_costOf_17 (by decide) (fun c21 => ?_) (fun c21 => ?_)
      · replace hf := (if_neg c21).symm.trans hf
        exact hEX0 _ _ _ _ rv1 rv2 rv3 rv4 hf _ (lv_sub hl [0, 1, 2, 3, 4, 5, 6] rfl)
      · replace hf := (if_pos c21).symm.trans hf
        refine lv_aload_n hx hb dX7_costOf_20 rfl (lv_at hl 0 rfl) ?_
        refine x_get (C := RX7) (T := TX7) (NF := 17) (v := .ref (a 5)) hx hb hts iX7 hown hK hP 0 (by decide) (mE_0 cI a (_)) rfl 9 (by decide) fl29 rfl dX7_costOf_21 ?_
        refine lv_bipush (v := iN 6) hx hb dX7_costOf_24 (by decide) ?_
        refine lv_iload_n hx hb dX7_costOf_26 rfl (lv_at hl 1 rfl) ?_
        obtain ⟨g5, hf⟩ := gd hf
        refine x_imul hx hb dX7_costOf_27 ?_
        refine lv_iload hx hb dX7_costOf_28 (lv_at hl 6 rfl) ?_
        obtain ⟨g6, hf⟩ := gd hf
        refine x_iadd hx hb dX7_costOf_30 ?_
        obtain ⟨g7, hf⟩ := gd hf
        refine x_iald hx hb hK hP 5 0 (by decide) (mE_5 cI a (_)) (by decide) rfl g7 dX7_costOf_31 ?_
        refine lv_istore (lv' := [(7, .int (iN (σ 5 ((6 * x1) + v4)))), (0, .ref (a 0)), (1, .int (iN x1)), (2, .int (iN x2)), (3, .int (iN v1)), (4, .int (iN v2)), (5, .int (iN v3)), (6, .int (iN v4))]) hx hb dX7_costOf_32 hl (by decide) rfl (fun ls hl => ?_)
        refine lv_iload hx hb dX7_costOf_34 (lv_at hl 0 rfl) ?_
        refine lv_iconst (v := iN (-1)) hx hb dX7_costOf_36 rfl ?_
        refine x_icmp_eq (tgt := 106) hx hb (hR 5 ((6 * x1) + v4)) (by decide) dX7_costOf_37 (by decide) (fun c20 => ?_) (fun c20 => ?_)
        · replace hf := (if_pos c20).symm.trans hf
          obtain ⟨g8, hf⟩ := gd hf
          refine lv_iinc (v := iN (v4 + 1)) (lv' := [(6, .int (iN (v4 + 1))), (7, .int (iN (σ 5 ((6 * x1) + v4)))), (0, .ref (a 0)), (1, .int (iN x1)), (2, .int (iN x2)), (3, .int (iN v1)), (4, .int (iN v2)), (5, .int (iN v3))]) hx hb dX7_costOf_106 hl (k := 7) rfl (iN_add v4 1) (by decide) rfl (fun ls hl => ?_)
          refine lv_goto (tgt := 11) hx hb dX7_costOf_109 (by decide) ?_
          exact ih0 _ _ _ _ rv1 rv2 rv3 g8 hf _ (lv_sub hl [2, 3, 4, 5, 6, 7, 0] rfl)
        · replace hf := (if_neg c20).symm.trans hf
          refine lv_aload_n hx hb dX7_costOf_40 rfl (lv_at hl 1 rfl) ?_
          refine lv_iconst (v := iN 0) hx hb dX7_costOf_41 rfl ?_
          refine lv_iload hx hb dX7_costOf_42 (lv_at hl 7 rfl) ?_
          refine lv_iload hx hb dX7_costOf_44 (lv_at hl 0 rfl) ?_
          obtain ⟨v9, hv9, hf⟩ := bd hf
          refine x_callP (va_runV (As := [.int (iN 0), .int (iN v4), .int (iN (σ 5 ((6 * x1) + v4)))]) (rest := []) ⟨hx, hb, hml, hown, hts⟩ (kX7_place_0 l dC dI cI a σ 0 v4 (σ 5 ((6 * x1) + v4)) v9 hv9 hR (by decide) rv4 (hR 5 ((6 * x1) + v4))) (cwV 3 hts gX7_costOf_X7_place rfl rfl rfl hX7_place_d ⟨Nat.le_trans (by decide) hrm.1, Nat.le_trans (by decide) hrm.2⟩) (pvM 0 (by decide) (mE_0 cI a (_)) rfl hP hK) rfl rfl hl.1 rfl (lv_room (Nat.le_of_ble_eq_true rfl)) dX7_costOf_46 ⟨Nat.zero_le _, Nat.zero_le _⟩) (fun rv9 => ?_)
          refine lv_istore (lv' := [(8, .int (iN v9)), (7, .int (iN (σ 5 ((6 * x1) + v4)))), (0, .ref (a 0)), (1, .int (iN x1)), (2, .int (iN x2)), (3, .int (iN v1)), (4, .int (iN v2)), (5, .int (iN v3)), (6, .int (iN v4))]) hx hb dX7_costOf_49 hl (by decide) rfl (fun ls hl => ?_)
          refine lv_aload_n hx hb dX7_costOf_51 rfl (lv_at hl 2 rfl) ?_
          refine lv_iconst (v := iN 1) hx hb dX7_costOf_52 rfl ?_
          refine lv_iload hx hb dX7_costOf_53 (lv_at hl 1 rfl) ?_
          refine lv_iload hx hb dX7_costOf_55 (lv_at hl 8 rfl) ?_
          obtain ⟨v10, hv10, hf⟩ := bd hf
          refine x_callP (va_runV (As := [.int (iN 1), .int (iN (σ 5 ((6 * x1) + v4))), .int (iN v4)]) (rest := []) ⟨hx, hb, hml, hown, hts⟩ (kX7_place_0 l dC dI cI a σ 1 (σ 5 ((6 * x1) + v4)) v4 v10 hv10 hR (by decide) (hR 5 ((6 * x1) + v4)) rv4) (cwV 3 hts gX7_costOf_X7_place rfl rfl rfl hX7_place_d ⟨Nat.le_trans (by decide) hrm.1, Nat.le_trans (by decide) hrm.2⟩) (pvM 0 (by decide) (mE_0 cI a (_)) rfl hP hK) rfl rfl hl.1 rfl (lv_room (Nat.le_of_ble_eq_true rfl)) dX7_costOf_57 ⟨Nat.zero_le _, Nat.zero_le _⟩) (fun rv10 => ?_)
          refine lv_istore (lv' := [(9, .int (iN v10)), (8, .int (iN v9)), (7, .int (iN (σ 5 ((6 * x1) + v4)))), (0, .ref (a 0)), (1, .int (iN x1)), (2, .int (iN x2)), (3, .int (iN v1)), (4, .int (iN v2)), (5, .int (iN v3)), (6, .int (iN v4))]) hx hb dX7_costOf_60 hl (by decide) rfl (fun ls hl => ?_)
          refine lv_iload_n hx hb dX7_costOf_62 rfl (lv_at hl 6 rfl) ?_
          refine lv_iload hx hb dX7_costOf_63 (lv_at hl 1 rfl) ?_
          obtain ⟨g11, hf⟩ := gd hf
          refine x_iadd hx hb dX7_costOf_65 ?_
          refine lv_istore_n (lv' := [(3, .int (iN (v1 + v9))), (9, .int (iN v10)), (8, .int (iN v9)), (7, .int (iN (σ 5 ((6 * x1) + v4)))), (0, .ref (a 0)), (1, .int (iN x1)), (2, .int (iN x2)), (4, .int (iN v2)), (5, .int (iN v3)), (6, .int (iN v4))]) hx hb dX7_costOf_66 rfl hl (by decide) rfl (fun ls hl => ?_)
          refine lv_iload hx hb dX7_costOf_67 (lv_at hl 7 rfl) ?_
          refine lv_iload hx hb dX7_costOf_69 (lv_at hl 1 rfl) ?_
          obtain ⟨g12, hf⟩ := gd hf
          refine x_iadd hx hb dX7_costOf_71 ?_
          refine lv_istore (lv' := [(4, .int (iN (v2 + v10))), (3, .int (iN (v1 + v9))), (9, .int (iN v10)), (8, .int (iN v9)), (7, .int (iN (σ 5 ((6 * x1) + v4)))), (0, .ref (a 0)), (1, .int (iN x1)), (2, .int (iN x2)), (5, .int (iN v3)), (6, .int (iN v4))]) hx hb dX7_costOf_72 hl (by decide) rfl (fun ls hl => ?_)
          refine lv_iload hx hb dX7_costOf_74 (lv_at hl 3 rfl) ?_
          refine lv_iload hx hb dX7_costOf_76 (lv_at hl 8 rfl) ?_
          refine x_icmp_le (tgt := 86) hx hb rv9 rv3 dX7_costOf_78 (by decide) (fun c19 => ?_) (fun c19 => ?_)
          · replace hf := (if_neg c19).symm.trans hf
            refine lv_iload hx hb dX7_costOf_86 (lv_at hl 8 rfl) ?_
            refine lv_istore (lv' := [(5, .int (iN v3)), (4, .int (iN (v2 + v10))), (3, .int (iN (v1 + v9))), (9, .int (iN v10)), (8, .int (iN v9)), (7, .int (iN (σ 5 ((6 * x1) + v4)))), (0, .ref (a 0)), (1, .int (iN x1)), (2, .int (iN x2)), (6, .int (iN v4))]) hx hb dX7_costOf_88 hl (by decide) rfl (fun ls hl => ?_)
            refine lv_iload hx hb dX7_costOf_90 (lv_at hl 3 rfl) ?_
            refine lv_iload hx hb dX7_costOf_92 (lv_at hl 0 rfl) ?_
            refine x_icmp_le (tgt := 102) hx hb rv10 rv3 dX7_costOf_94 (by decide) (fun c15 => ?_) (fun c15 => ?_)
            · replace hf := (if_neg c15).symm.trans hf
              refine lv_iload hx hb dX7_costOf_102 (lv_at hl 0 rfl) ?_
              refine lv_istore (lv' := [(5, .int (iN v3)), (4, .int (iN (v2 + v10))), (3, .int (iN (v1 + v9))), (9, .int (iN v10)), (8, .int (iN v9)), (7, .int (iN (σ 5 ((6 * x1) + v4)))), (0, .ref (a 0)), (1, .int (iN x1)), (2, .int (iN x2)), (6, .int (iN v4))]) hx hb dX7_costOf_104 hl (by decide) rfl (fun ls hl => ?_)
              obtain ⟨g13, hf⟩ := gd hf
              refine lv_iinc (v := iN (v4 + 1)) (lv' := [(6, .int (iN (v4 + 1))), (5, .int (iN v3)), (4, .int (iN (v2 + v10))), (3, .int (iN (v1 + v9))), (9, .int (iN v10)), (8, .int (iN v9)), (7, .int (iN (σ 5 ((6 * x1) + v4)))), (0, .ref (a 0)), (1, .int (iN x1)), (2, .int (iN x2))]) hx hb dX7_costOf_106 hl (k := 9) rfl (iN_add v4 1) (by decide) rfl (fun ls hl => ?_)
              refine lv_goto (tgt := 11) hx hb dX7_costOf_109 (by decide) ?_
              exact ih0 _ _ _ _ g11 g12 rv3 g13 hf _ (lv_sub hl [7, 8, 9, 3, 2, 1, 0] rfl)
            · replace hf := (if_pos c15).symm.trans hf
              refine lv_iload hx hb dX7_costOf_97 (lv_at hl 3 rfl) ?_
              refine lv_goto (tgt := 104) hx hb dX7_costOf_99 (by decide) ?_
              refine lv_istore (lv' := [(5, .int (iN v10)), (4, .int (iN (v2 + v10))), (3, .int (iN (v1 + v9))), (9, .int (iN v10)), (8, .int (iN v9)), (7, .int (iN (σ 5 ((6 * x1) + v4)))), (0, .ref (a 0)), (1, .int (iN x1)), (2, .int (iN x2)), (6, .int (iN v4))]) hx hb dX7_costOf_104 hl (by decide) rfl (fun ls hl => ?_)
              obtain ⟨g14, hf⟩ := gd hf
              refine lv_iinc (v := iN (v4 + 1)) (lv' := [(6, .int (iN (v4 + 1))), (5, .int (iN v10)), (4, .int (iN (v2 + v10))), (3, .int (iN (v1 + v9))), (9, .int (iN v10)), (8, .int (iN v9)), (7, .int (iN (σ 5 ((6 * x1) + v4)))), (0, .ref (a 0)), (1, .int (iN x1)), (2, .int (iN x2))]) hx hb dX7_costOf_106 hl (k := 9) rfl (iN_add v4 1) (by decide) rfl (fun ls hl => ?_)
              refine lv_goto (tgt := 11) hx hb dX7_costOf_109 (by decide) ?_
              exact ih0 _ _ _ _ g11 g12 rv10 g14 hf _ (lv_sub hl [7, 8, 9, 3, 2, 1, 0] rfl)
          · replace hf := (if_pos c19).symm.trans hf
            refine lv_iload hx hb dX7_costOf_81 (lv_at hl 3 rfl) ?_
            refine lv_goto (tgt := 88) hx hb dX7_costOf_83 (by decide) ?_
            refine lv_istore (lv' := [(5, .int (iN v9)), (4, .int (iN (v2 + v10))), (3, .int (iN (v1 + v9))), (9, .int (iN v10)), (8, .int (iN v9)), (7, .int (iN (σ 5 ((6 * x1) + v4)))), (0, .ref (a 0)), (1, .int (iN x1)), (2, .int (iN x2)), (6, .int (iN v4))]) hx hb dX7_costOf_88 hl (by decide) rfl (fun ls hl => ?_)
            refine lv_iload hx hb dX7_costOf_90 (lv_at hl 3 rfl) ?_
            refine lv_iload hx hb dX7_costOf_92 (lv_at hl 0 rfl) ?_
            refine x_icmp_le (tgt := 102) hx hb rv10 rv9 dX7_costOf_94 (by decide) (fun c18 => ?_) (fun c18 => ?_)
            · replace hf := (if_neg c18).symm.trans hf
              refine lv_iload hx hb dX7_costOf_102 (lv_at hl 0 rfl) ?_
              refine lv_istore (lv' := [(5, .int (iN v9)), (4, .int (iN (v2 + v10))), (3, .int (iN (v1 + v9))), (9, .int (iN v10)), (8, .int (iN v9)), (7, .int (iN (σ 5 ((6 * x1) + v4)))), (0, .ref (a 0)), (1, .int (iN x1)), (2, .int (iN x2)), (6, .int (iN v4))]) hx hb dX7_costOf_104 hl (by decide) rfl (fun ls hl => ?_)
              obtain ⟨g16, hf⟩ := gd hf
              refine lv_iinc (v := iN (v4 + 1)) (lv' := [(6, .int (iN (v4 + 1))), (5, .int (iN v9)), (4, .int (iN (v2 + v10))), (3, .int (iN (v1 + v9))), (9, .int (iN v10)), (8, .int (iN v9)), (7, .int (iN (σ 5 ((6 * x1) + v4)))), (0, .ref (a 0)), (1, .int (iN x1)), (2, .int (iN x2))]) hx hb dX7_costOf_106 hl (k := 9) rfl (iN_add v4 1) (by decide) rfl (fun ls hl => ?_)
              refine lv_goto (tgt := 11) hx hb dX7_costOf_109 (by decide) ?_
              exact ih0 _ _ _ _ g11 g12 rv9 g16 hf _ (lv_sub hl [7, 8, 9, 3, 2, 1, 0] rfl)
            · replace hf := (if_pos c18).symm.trans hf
              refine lv_iload hx hb dX7_costOf_97 (lv_at hl 3 rfl) ?_
              refine lv_goto (tgt := 104) hx hb dX7_costOf_99 (by decide) ?_
              refine lv_istore (lv' := [(5, .int (iN v10)), (4, .int (iN (v2 + v10))), (3, .int (iN (v1 + v9))), (9, .int (iN v10)), (8, .int (iN v9)), (7, .int (iN (σ 5 ((6 * x1) + v4)))), (0, .ref (a 0)), (1, .int (iN x1)), (2, .int (iN x2)), (6, .int (iN v4))]) hx hb dX7_costOf_104 hl (by decide) rfl (fun ls hl => ?_)
              obtain ⟨g17, hf⟩ := gd hf
              refine lv_iinc (v := iN (v4 + 1)) (lv' := [(6, .int (iN (v4 + 1))), (5, .int (iN v10)), (4, .int (iN (v2 + v10))), (3, .int (iN (v1 + v9))), (9, .int (iN v10)), (8, .int (iN v9)), (7, .int (iN (σ 5 ((6 * x1) + v4)))), (0, .ref (a 0)), (1, .int (iN x1)), (2, .int (iN x2))]) hx hb dX7_costOf_106 hl (k := 9) rfl (iN_add v4 1) (by decide) rfl (fun ls hl => ?_)
              refine lv_goto (tgt := 11) hx hb dX7_costOf_109 (by decide) ?_
              exact ih0 _ _ _ _ g11 g12 rv10 g17 hf _ (lv_sub hl [7, 8, 9, 3, 2, 1, 0] rfl)
  refine L_fX7_costOf_0_L11 _ (fun v22 v23 v24 v25 rv22 rv23 rv24 rv25 hf ls hl => ?_) _ _ _ _ _ (by decide) (by decide) (by decide) (by decide) hf _ (lv_sub hl [4, 5, 6, 3, 2, 1, 0] rfl)
  refine lv_iload_n hx hb dX7_costOf_112 rfl (lv_at hl 2 rfl) ?_
  refine x_if_ne (tgt := 120) hx hb rx2 dX7_costOf_113 (by decide) (fun c33 => ?_) (fun c33 => ?_)
  · replace hf := (if_neg c33).symm.trans hf
    refine lv_iload_n hx hb dX7_costOf_120 rfl (lv_at hl 2 rfl) ?_
    refine lv_iconst (v := iN 1) hx hb dX7_costOf_121 rfl ?_
    refine x_icmp_ne (tgt := 130) hx hb rx2 (by decide) dX7_costOf_122 (by decide) (fun c32 => ?_) (fun c32 => ?_)
    · replace hf := (if_neg c32).symm.trans hf
      refine lv_iload_n hx hb dX7_costOf_130 rfl (lv_at hl 2 rfl) ?_
      refine lv_iconst (v := iN 2) hx hb dX7_costOf_131 rfl ?_
      refine x_icmp_ne (tgt := 142) hx hb rx2 (by decide) dX7_costOf_132 (by decide) (fun c31 => ?_) (fun c31 => ?_)
      · replace hf := (if_neg c31).symm.trans hf
        refine lv_iload_n hx hb dX7_costOf_142 rfl (lv_at hl 2 rfl) ?_
        refine lv_iconst (v := iN 3) hx hb dX7_costOf_143 rfl ?_
        refine x_icmp_ne (tgt := 167) hx hb rx2 (by decide) dX7_costOf_144 (by decide) (fun c29 => ?_) (fun c29 => ?_)
        · replace hf := (if_neg c29).symm.trans hf
          refine lv_iload hx hb dX7_costOf_167 (lv_at hl 5 rfl) ?_
          rw [← hQQ]
          exact x_iret hx hb hr (Option.some.inj hf) rv24 hlocks dX7_costOf_169
        · replace hf := (if_pos c29).symm.trans hf
          refine lv_iload_n hx hb dX7_costOf_147 rfl (lv_at hl 3 rfl) ?_
          refine lv_iload hx hb dX7_costOf_148 (lv_at hl 4 rfl) ?_
          refine x_icmp_le (tgt := 160) hx hb rv22 rv23 dX7_costOf_150 (by decide) (fun c28 => ?_) (fun c28 => ?_)
          · replace hf := (if_neg c28).symm.trans hf
            refine lv_iload hx hb dX7_costOf_160 (lv_at hl 4 rfl) ?_
            refine lv_iload_n hx hb dX7_costOf_162 rfl (lv_at hl 3 rfl) ?_
            obtain ⟨g26, hf⟩ := gd hf
            refine x_isub hx hb dX7_costOf_163 ?_
            refine lv_goto (tgt := 169) hx hb dX7_costOf_164 (by decide) ?_
            rw [← hQQ]
            exact x_iret hx hb hr (Option.some.inj hf) g26 hlocks dX7_costOf_169
          · replace hf := (if_pos c28).symm.trans hf
            refine lv_iload_n hx hb dX7_costOf_153 rfl (lv_at hl 3 rfl) ?_
            refine lv_iload hx hb dX7_costOf_154 (lv_at hl 4 rfl) ?_
            obtain ⟨g27, hf⟩ := gd hf
            refine x_isub hx hb dX7_costOf_156 ?_
            refine lv_goto (tgt := 169) hx hb dX7_costOf_157 (by decide) ?_
            rw [← hQQ]
            exact x_iret hx hb hr (Option.some.inj hf) g27 hlocks dX7_costOf_169
      · replace hf := (if_pos c31).symm.trans hf
        refine lv_iload_n hx hb dX7_costOf_135 rfl (lv_at hl 3 rfl) ?_
        refine lv_iload hx hb dX7_costOf_136 (lv_at hl 4 rfl) ?_
        obtain ⟨g30, hf⟩ := gd hf
        refine x_iadd hx hb dX7_costOf_138 ?_
        refine lv_goto (tgt := 169) hx hb dX7_costOf_139 (by decide) ?_
        rw [← hQQ]
        exact x_iret hx hb hr (Option.some.inj hf) g30 hlocks dX7_costOf_169
    · replace hf := (if_pos c32).symm.trans hf
      refine lv_iload hx hb dX7_costOf_125 (lv_at hl 4 rfl) ?_
      refine lv_goto (tgt := 169) hx hb dX7_costOf_127 (by decide) ?_
      rw [← hQQ]
      exact x_iret hx hb hr (Option.some.inj hf) rv23 hlocks dX7_costOf_169
  · replace hf := (if_pos c33).symm.trans hf
    refine lv_iload_n hx hb dX7_costOf_116 rfl (lv_at hl 3 rfl) ?_
    refine lv_goto (tgt := 169) hx hb dX7_costOf_117 (by decide) ?_
    rw [← hQQ]
    exact x_iret hx hb hr (Option.some.inj hf) rv22 hlocks dX7_costOf_169
def fX7_cost_0 (σ : Mem) (x1 : Int) (x2 : Int) : Option (Int × Mem) := nx (mup σ 0 0 0) fun σ1 => (fX7_isStable_0 σ1 x1).bind fun v2 => if v2 = 0 then some ((-1), σ1) else (fX7_in σ1 x2 0 4).bind fun v3 => if v3 = 0 then some ((-1), σ1) else (fX7_costOf_0 σ1 x1 x2).bind fun v4 => some (v4, σ1)
set_option maxHeartbeats 4000000 in
set_option maxRecDepth 100000 in
theorem kX7_cost_0 (l : Launch) (dC : Nat → ClassId) (dI : Nat → Nat → Nat) (cI : ClassId) (a : Nat → Nat) (hi : ∀ i j, i < 12 → j < 12 → a i = a j → i = j) (σ : Mem) (x1 : Int) (x2 : Int) (r : (Int × Mem)) (hf : fX7_cost_0 σ x1 x2 = some r) (hR : Rg σ) (rx1 : rng x1) (rx2 : rng x2) : Met l yX7_cost wsX7_cost ({ frames := 2, cells := 0, slots := 0, locals := 54 }) (va_Pc [.ref (a 0), .int (iN x1), .int (iN x2)] (preM dC dI cI a σ)) (qM (dC, dI) (gw 12 a (mE cI a)) (gA 12 a) r) 0 0 (gA 12 a) := by
  refine Met.ofW (cc := cX7_cost) (maxL := 3) (ret := (some .int)) (by decide) rfl ?_
  intro p e s m args below meth c s₁ B hml hv
  obtain ⟨hargs, hP, hK⟩ := hv
  have hx := B.exec
  have hb := B.bytes
  have hr := B.returns
  have hts := atoms_spec (ws := wsX7_cost) B.pre
  have hown : s.vm.findClass RX7 = some m.cls := findClass_of_methodNamed B.named
  have hlocks := B.notSynchronized
  have hS : va_S (gA 12 a) s.heap s.heap [] := va_S.rf
  have iX7 : ∀ w ∈ wsX70, w ∈ wsX7_cost := by decide +kernel
  have fl58 := hts (.fieldLink RX7 58 "MatchHallModel" "code" "I") (by decide +kernel)
  have hrm : 2 ≤ (headSpec wsX7_cost ({ frames := 2, cells := 0, slots := 0, locals := 54 })).room.frames ∧ 54 ≤ (headSpec wsX7_cost ({ frames := 2, cells := 0, slots := 0, locals := 54 })).room.locals := ⟨Nat.le_refl _, Nat.le_refl _⟩
  generalize (headSpec wsX7_cost ({ frames := 2, cells := 0, slots := 0, locals := 54 })).room = RR at hrm ⊢
  have hl := lv_entry ([.ref (a 0), .int (iN x1), .int (iN x2)]) (n := 3) (Nat.le_of_ble_eq_true rfl)
  rw [show entryFrame m args 3 = entryFrame m ([.ref (a 0), .int (iN x1), .int (iN x2)] : List Value).toArray 3 from by rw [hargs], lg_entry_eq]
  generalize (lg_sl ([.ref (a 0), .int (iN x1), .int (iN x2)]) ++ List.replicate (3 - (lg_sl ([.ref (a 0), .int (iN x1), .int (iN x2)])).length) Slot.unset).toArray = ls at hl ⊢
  have hl : lv_has ls 3 [(0, .ref (a 0)), (1, .int (iN x1)), (2, .int (iN x2))] := hl
  generalize hQQ : MQ below (qM (dC, dI) (gw 12 a (mE cI a)) (gA 12 a) r) args s 0 0 (gA 12 a) = QQ
  refine lv_aload_n hx hb dX7_cost_0 rfl (lv_at hl 0 rfl) ?_
  refine lv_iconst (v := iN 0) hx hb dX7_cost_1 rfl ?_
  obtain ⟨σ1, hσ1, hf⟩ := nxe hf
  refine x_put (C := RX7) (T := TX7) (NF := 17) (x := 0) (ty := .int) hx hb hts iX7 tyX7 tyX7_ok nmX7 hi hown hK hP hS 0 (by decide) (mE_0 cI a (_)) rfl 0 0 (by decide) fl58 rfl (by decide +kernel) rfl rfl (Nat.le_of_ble_eq_true rfl) rfl dX7_cost_2 (fun H locs hP hS => ?_)
  rw [← hσ1] at hP
  have hRσ1 : Rg σ1 := by rw [hσ1]; exact Rg_up hR (by decide)
  refine lv_aload_n hx hb dX7_cost_5 rfl (lv_at hl 0 rfl) ?_
  refine lv_iload_n hx hb dX7_cost_6 rfl (lv_at hl 1 rfl) ?_
  obtain ⟨v2, hv2, hf⟩ := bd hf
  refine x_callP (va_runV (As := [.int (iN x1)]) (rest := []) ⟨hx, hb, hml, hown, hts⟩ (kX7_isStable_0 l dC dI cI a σ1 x1 v2 hv2 hRσ1 rx1) (cwV 1 hts gX7_cost_X7_isStable rfl rfl rfl hX7_isStable_d ⟨Nat.le_trans (by decide) hrm.1, Nat.le_trans (by decide) hrm.2⟩) (pvM 0 (by decide) (mE_0 cI a (_)) rfl hP hK) rfl rfl hl.1 rfl (lv_room (Nat.le_of_ble_eq_true rfl)) dX7_cost_7 ⟨Nat.zero_le _, Nat.zero_le _⟩) (fun rv2 => ?_)
  refine x_if_eq (tgt := 31) hx hb rv2 dX7_cost_10 (by decide) (fun c6 => ?_) (fun c6 => ?_)
  · replace hf := (if_pos c6).symm.trans hf
    refine lv_iconst (v := iN (-1)) hx hb dX7_cost_31 rfl ?_
    rw [← hQQ]
    exact x_iretM hx hb hr (Option.some.inj hf) (by decide) hRσ1 hP hS hlocks dX7_cost_32
  · replace hf := (if_neg c6).symm.trans hf
    refine lv_iload_n hx hb dX7_cost_13 rfl (lv_at hl 2 rfl) ?_
    refine lv_iconst (v := iN 0) hx hb dX7_cost_14 rfl ?_
    refine lv_iconst (v := iN 4) hx hb dX7_cost_15 rfl ?_
    obtain ⟨v3, hv3, hf⟩ := bd hf
    refine x_callP (va_runS (As := [.int (iN x2), .int (iN 0), .int (iN 4)]) (rest := []) ⟨hx, hb, hml, hown, hts⟩ (kX7_in l dC dI cI a σ1 x2 0 4 v3 hv3 hRσ1 rx2 (by decide) (by decide)) (va_cwS 3 hts gX7_cost_X7_in rfl rfl rfl hX7_in_d ⟨Nat.le_trans (by decide) hrm.1, Nat.le_trans (by decide) hrm.2⟩) (psM hP hK) rfl rfl hl.1 rfl (lv_room (Nat.le_of_ble_eq_true rfl)) dX7_cost_16 ⟨Nat.zero_le _, Nat.zero_le _⟩) (fun rv3 => ?_)
    refine x_if_eq (tgt := 31) hx hb rv3 dX7_cost_19 (by decide) (fun c5 => ?_) (fun c5 => ?_)
    · replace hf := (if_pos c5).symm.trans hf
      refine lv_iconst (v := iN (-1)) hx hb dX7_cost_31 rfl ?_
      rw [← hQQ]
      exact x_iretM hx hb hr (Option.some.inj hf) (by decide) hRσ1 hP hS hlocks dX7_cost_32
    · replace hf := (if_neg c5).symm.trans hf
      refine lv_aload_n hx hb dX7_cost_22 rfl (lv_at hl 0 rfl) ?_
      refine lv_iload_n hx hb dX7_cost_23 rfl (lv_at hl 1 rfl) ?_
      refine lv_iload_n hx hb dX7_cost_24 rfl (lv_at hl 2 rfl) ?_
      obtain ⟨v4, hv4, hf⟩ := bd hf
      refine x_callP (va_runV (As := [.int (iN x1), .int (iN x2)]) (rest := []) ⟨hx, hb, hml, hown, hts⟩ (kX7_costOf_0 l dC dI cI a σ1 x1 x2 v4 hv4 hRσ1 rx1 rx2) (cwV 2 hts gX7_cost_X7_costOf rfl rfl rfl hX7_costOf_d ⟨Nat.le_trans (by decide) hrm.1, Nat.le_trans (by decide) hrm.2⟩) (pvM 0 (by decide) (mE_0 cI a (_)) rfl hP hK) rfl rfl hl.1 rfl (lv_room (Nat.le_of_ble_eq_true rfl)) dX7_cost_25 ⟨Nat.zero_le _, Nat.zero_le _⟩) (fun rv4 => ?_)
      refine lv_goto (tgt := 32) hx hb dX7_cost_28 (by decide) ?_
      rw [← hQQ]
      exact x_iretM hx hb hr (Option.some.inj hf) rv4 hRσ1 hP hS hlocks dX7_cost_32
def fX7_cheapest_0_L27 (x1 : Int) (σ1 : Mem) (ex0 : Int → Int → Option (Int × Mem)) : Nat → Int → Int → Option (Int × Mem)
  | 0, _, _ => none
  | n0 + 1, v3, v4 => if v4 < (σ1 0 8) then (fX7_costOf_0 σ1 v4 x1).bind fun v5 => (fX7_costOf_0 σ1 v3 x1).bind fun v6 => if v5 < v6 then if rng (v4 + 1) then fX7_cheapest_0_L27 x1 σ1 ex0 n0 v4 (v4 + 1) else none else if rng (v4 + 1) then fX7_cheapest_0_L27 x1 σ1 ex0 n0 v3 (v4 + 1) else none else ex0 v3 v4
def fX7_cheapest_0 (σ : Mem) (x1 : Int) : Option (Int × Mem) := nx (mup σ 0 0 0) fun σ1 => if (σ1 0 7) = 0 then some ((-1), σ1) else (fX7_in σ1 x1 0 4).bind fun v2 => if v2 = 0 then some ((-1), σ1) else fX7_cheapest_0_L27 x1 σ1 (fun v11 v12 => some (v11, σ1)) FU 0 1
set_option maxHeartbeats 4000000 in
set_option maxRecDepth 100000 in
theorem kX7_cheapest_0 (l : Launch) (dC : Nat → ClassId) (dI : Nat → Nat → Nat) (cI : ClassId) (a : Nat → Nat) (hi : ∀ i j, i < 12 → j < 12 → a i = a j → i = j) (σ : Mem) (x1 : Int) (r : (Int × Mem)) (hf : fX7_cheapest_0 σ x1 = some r) (hR : Rg σ) (rx1 : rng x1) : Met l yX7_cheapest wsX7_cheapest ({ frames := 2, cells := 0, slots := 0, locals := 54 }) (va_Pc [.ref (a 0), .int (iN x1)] (preM dC dI cI a σ)) (qM (dC, dI) (gw 12 a (mE cI a)) (gA 12 a) r) 0 0 (gA 12 a) := by
  refine Met.ofW (cc := cX7_cheapest) (maxL := 4) (ret := (some .int)) (by decide) rfl ?_
  intro p e s m args below meth c s₁ B hml hv
  obtain ⟨hargs, hP, hK⟩ := hv
  have hx := B.exec
  have hb := B.bytes
  have hr := B.returns
  have hts := atoms_spec (ws := wsX7_cheapest) B.pre
  have hown : s.vm.findClass RX7 = some m.cls := findClass_of_methodNamed B.named
  have hlocks := B.notSynchronized
  have hS : va_S (gA 12 a) s.heap s.heap [] := va_S.rf
  have iX7 : ∀ w ∈ wsX70, w ∈ wsX7_cheapest := by decide +kernel
  have fl54 := hts (.fieldLink RX7 54 "MatchHallModel" "worked" "Z") (by decide +kernel)
  have fl58 := hts (.fieldLink RX7 58 "MatchHallModel" "code" "I") (by decide +kernel)
  have fl88 := hts (.fieldLink RX7 88 "MatchHallModel" "many" "I") (by decide +kernel)
  have hrm : 2 ≤ (headSpec wsX7_cheapest ({ frames := 2, cells := 0, slots := 0, locals := 54 })).room.frames ∧ 54 ≤ (headSpec wsX7_cheapest ({ frames := 2, cells := 0, slots := 0, locals := 54 })).room.locals := ⟨Nat.le_refl _, Nat.le_refl _⟩
  generalize (headSpec wsX7_cheapest ({ frames := 2, cells := 0, slots := 0, locals := 54 })).room = RR at hrm ⊢
  have hl := lv_entry ([.ref (a 0), .int (iN x1)]) (n := 4) (Nat.le_of_ble_eq_true rfl)
  rw [show entryFrame m args 4 = entryFrame m ([.ref (a 0), .int (iN x1)] : List Value).toArray 4 from by rw [hargs], lg_entry_eq]
  generalize (lg_sl ([.ref (a 0), .int (iN x1)]) ++ List.replicate (4 - (lg_sl ([.ref (a 0), .int (iN x1)])).length) Slot.unset).toArray = ls at hl ⊢
  have hl : lv_has ls 4 [(0, .ref (a 0)), (1, .int (iN x1))] := hl
  generalize hQQ : MQ below (qM (dC, dI) (gw 12 a (mE cI a)) (gA 12 a) r) args s 0 0 (gA 12 a) = QQ
  refine lv_aload_n hx hb dX7_cheapest_0 rfl (lv_at hl 0 rfl) ?_
  refine lv_iconst (v := iN 0) hx hb dX7_cheapest_1 rfl ?_
  obtain ⟨σ1, hσ1, hf⟩ := nxe hf
  refine x_put (C := RX7) (T := TX7) (NF := 17) (x := 0) (ty := .int) hx hb hts iX7 tyX7 tyX7_ok nmX7 hi hown hK hP hS 0 (by decide) (mE_0 cI a (_)) rfl 0 0 (by decide) fl58 rfl (by decide +kernel) rfl rfl (Nat.le_of_ble_eq_true rfl) rfl dX7_cheapest_2 (fun H locs hP hS => ?_)
  rw [← hσ1] at hP
  have hRσ1 : Rg σ1 := by rw [hσ1]; exact Rg_up hR (by decide)
  refine lv_aload_n hx hb dX7_cheapest_5 rfl (lv_at hl 0 rfl) ?_
  refine x_get (C := RX7) (T := TX7) (NF := 17) (v := .int (iN (σ1 0 7))) hx hb hts iX7 hown hK hP 0 (by decide) (mE_0 cI a (_)) rfl 7 (by decide) fl54 rfl dX7_cheapest_6 ?_
  refine x_if_eq (tgt := 21) hx hb (hRσ1 0 7) dX7_cheapest_9 (by decide) (fun c14 => ?_) (fun c14 => ?_)
  · replace hf := (if_pos c14).symm.trans hf
    refine lv_iconst (v := iN (-1)) hx hb dX7_cheapest_21 rfl ?_
    rw [← hQQ]
    exact x_iretM hx hb hr (Option.some.inj hf) (by decide) hRσ1 hP hS hlocks dX7_cheapest_22
  · replace hf := (if_neg c14).symm.trans hf
    refine lv_iload_n hx hb dX7_cheapest_12 rfl (lv_at hl 1 rfl) ?_
    refine lv_iconst (v := iN 0) hx hb dX7_cheapest_13 rfl ?_
    refine lv_iconst (v := iN 4) hx hb dX7_cheapest_14 rfl ?_
    obtain ⟨v2, hv2, hf⟩ := bd hf
    refine x_callP (va_runS (As := [.int (iN x1), .int (iN 0), .int (iN 4)]) (rest := []) ⟨hx, hb, hml, hown, hts⟩ (kX7_in l dC dI cI a σ1 x1 0 4 v2 hv2 hRσ1 rx1 (by decide) (by decide)) (va_cwS 3 hts gX7_cheapest_X7_in rfl rfl rfl hX7_in_d ⟨Nat.le_trans (by decide) hrm.1, Nat.le_trans (by decide) hrm.2⟩) (psM hP hK) rfl rfl hl.1 rfl (lv_room (Nat.le_of_ble_eq_true rfl)) dX7_cheapest_15 ⟨Nat.zero_le _, Nat.zero_le _⟩) (fun rv2 => ?_)
    refine x_if_ne (tgt := 23) hx hb rv2 dX7_cheapest_18 (by decide) (fun c13 => ?_) (fun c13 => ?_)
    · replace hf := (if_neg c13).symm.trans hf
      refine lv_iconst (v := iN 0) hx hb dX7_cheapest_23 rfl ?_
      refine lv_istore_n (lv' := [(2, .int (iN 0)), (0, .ref (a 0)), (1, .int (iN x1))]) hx hb dX7_cheapest_24 rfl hl (by decide) rfl (fun ls hl => ?_)
      refine lv_iconst (v := iN 1) hx hb dX7_cheapest_25 rfl ?_
      refine lv_istore_n (lv' := [(3, .int (iN 1)), (2, .int (iN 0)), (0, .ref (a 0)), (1, .int (iN x1))]) hx hb dX7_cheapest_26 rfl hl (by decide) rfl (fun ls hl => ?_)
      have L_fX7_cheapest_0_L27 : ∀ (EX0 : Int → Int → Option (Int × Mem)), (∀ (v3 : Int) (v4 : Int), rng v3 → rng v4 → EX0 v3 v4 = some r → ∀ H locs ls, va_P (dC, dI) vwCl (gw 12 a (mE cI a) σ1) H → va_S (gA 12 a) s.heap H locs → lv_has ls 4 [(0, .ref (a 0)), (1, .int (iN x1)), (2, .int (iN v3)), (3, .int (iN v4))] → W p l e RR s m args below meth c H locs 0 0 QQ (F0 m 62 ls [])) → ∀ n0 : Nat, ∀ (v3 : Int) (v4 : Int), rng v3 → rng v4 → fX7_cheapest_0_L27 x1 σ1 EX0 n0 v3 v4 = some r → ∀ H locs ls, va_P (dC, dI) vwCl (gw 12 a (mE cI a) σ1) H → va_S (gA 12 a) s.heap H locs → lv_has ls 4 [(0, .ref (a 0)), (1, .int (iN x1)), (2, .int (iN v3)), (3, .int (iN v4))] → W p l e RR s m args below meth c H locs 0 0 QQ (F0 m 27 ls []) := by
        intro EX0 hEX0 n0
        induction n0 with
        | zero => intro _ _ _ _ hf; cases hf
        | succ n0 ih0 =>
          intro v3 v4 rv3 rv4 hf H locs ls hP hS hl
          rw [fX7_cheapest_0_L27] at hf
          refine lv_iload_n hx hb dX7_cheapest_27 rfl (lv_at hl 3 rfl) ?_
          refine lv_aload_n hx hb dX7_cheapest_28 rfl (lv_at hl 0 rfl) ?_
          refine x_get (C := RX7) (T := TX7) (NF := 17) (v := .int (iN (σ1 0 8))) hx hb hts iX7 hown hK hP 0 (by decide) (mE_0 cI a (_)) rfl 8 (by decide) fl88 rfl dX7_cheapest_29 ?_
          refine x_icmp_ge (tgt := 62) hx hb rv4 (hRσ1 0 8) dX7_cheapest_32 (by decide) (fun c10 => ?_) (fun c10 => ?_)
          · replace hf := (if_neg c10).symm.trans hf
            exact hEX0 _ _ rv3 rv4 hf _ _ _ hP hS (lv_sub hl [0, 1, 2, 3] rfl)
          · replace hf := (if_pos c10).symm.trans hf
            refine lv_aload_n hx hb dX7_cheapest_35 rfl (lv_at hl 0 rfl) ?_
            refine lv_iload_n hx hb dX7_cheapest_36 rfl (lv_at hl 3 rfl) ?_
            refine lv_iload_n hx hb dX7_cheapest_37 rfl (lv_at hl 1 rfl) ?_
            obtain ⟨v5, hv5, hf⟩ := bd hf
            refine x_callP (va_runV (As := [.int (iN v4), .int (iN x1)]) (rest := []) ⟨hx, hb, hml, hown, hts⟩ (kX7_costOf_0 l dC dI cI a σ1 v4 x1 v5 hv5 hRσ1 rv4 rx1) (cwV 2 hts gX7_cheapest_X7_costOf rfl rfl rfl hX7_costOf_d ⟨Nat.le_trans (by decide) hrm.1, Nat.le_trans (by decide) hrm.2⟩) (pvM 0 (by decide) (mE_0 cI a (_)) rfl hP hK) rfl rfl hl.1 rfl (lv_room (Nat.le_of_ble_eq_true rfl)) dX7_cheapest_38 ⟨Nat.zero_le _, Nat.zero_le _⟩) (fun rv5 => ?_)
            refine lv_aload_n hx hb dX7_cheapest_41 rfl (lv_at hl 0 rfl) ?_
            refine lv_iload_n hx hb dX7_cheapest_42 rfl (lv_at hl 2 rfl) ?_
            refine lv_iload_n hx hb dX7_cheapest_43 rfl (lv_at hl 1 rfl) ?_
            obtain ⟨v6, hv6, hf⟩ := bd hf
            refine x_callP (va_runV (As := [.int (iN v3), .int (iN x1)]) (rest := [.int (iN v5)]) ⟨hx, hb, hml, hown, hts⟩ (kX7_costOf_0 l dC dI cI a σ1 v3 x1 v6 hv6 hRσ1 rv3 rx1) (cwV 2 hts gX7_cheapest_X7_costOf rfl rfl rfl hX7_costOf_d ⟨Nat.le_trans (by decide) hrm.1, Nat.le_trans (by decide) hrm.2⟩) (pvM 0 (by decide) (mE_0 cI a (_)) rfl hP hK) rfl rfl hl.1 rfl (lv_room (Nat.le_of_ble_eq_true rfl)) dX7_cheapest_44 ⟨Nat.zero_le _, Nat.zero_le _⟩) (fun rv6 => ?_)
            refine x_icmp_ge (tgt := 54) hx hb rv5 rv6 dX7_cheapest_47 (by decide) (fun c9 => ?_) (fun c9 => ?_)
            · replace hf := (if_neg c9).symm.trans hf
              refine lv_iload_n hx hb dX7_cheapest_54 rfl (lv_at hl 2 rfl) ?_
              refine lv_istore_n (lv' := [(2, .int (iN v3)), (0, .ref (a 0)), (1, .int (iN x1)), (3, .int (iN v4))]) hx hb dX7_cheapest_55 rfl hl (by decide) rfl (fun ls hl => ?_)
              obtain ⟨g7, hf⟩ := gd hf
              refine lv_iinc (v := iN (v4 + 1)) (lv' := [(3, .int (iN (v4 + 1))), (2, .int (iN v3)), (0, .ref (a 0)), (1, .int (iN x1))]) hx hb dX7_cheapest_56 hl (k := 3) rfl (iN_add v4 1) (by decide) rfl (fun ls hl => ?_)
              refine lv_goto (tgt := 27) hx hb dX7_cheapest_59 (by decide) ?_
              exact ih0 _ _ rv3 g7 hf _ _ _ hP hS (lv_sub hl [2, 3, 1, 0] rfl)
            · replace hf := (if_pos c9).symm.trans hf
              refine lv_iload_n hx hb dX7_cheapest_50 rfl (lv_at hl 3 rfl) ?_
              refine lv_goto (tgt := 55) hx hb dX7_cheapest_51 (by decide) ?_
              refine lv_istore_n (lv' := [(2, .int (iN v4)), (0, .ref (a 0)), (1, .int (iN x1)), (3, .int (iN v4))]) hx hb dX7_cheapest_55 rfl hl (by decide) rfl (fun ls hl => ?_)
              obtain ⟨g8, hf⟩ := gd hf
              refine lv_iinc (v := iN (v4 + 1)) (lv' := [(3, .int (iN (v4 + 1))), (2, .int (iN v4)), (0, .ref (a 0)), (1, .int (iN x1))]) hx hb dX7_cheapest_56 hl (k := 3) rfl (iN_add v4 1) (by decide) rfl (fun ls hl => ?_)
              refine lv_goto (tgt := 27) hx hb dX7_cheapest_59 (by decide) ?_
              exact ih0 _ _ rv4 g8 hf _ _ _ hP hS (lv_sub hl [2, 3, 1, 0] rfl)
      refine L_fX7_cheapest_0_L27 _ (fun v11 v12 rv11 rv12 hf H locs ls hP hS hl => ?_) _ _ _ (by decide) (by decide) hf _ _ _ hP hS (lv_sub hl [2, 3, 1, 0] rfl)
      refine lv_iload_n hx hb dX7_cheapest_62 rfl (lv_at hl 2 rfl) ?_
      rw [← hQQ]
      exact x_iretM hx hb hr (Option.some.inj hf) rv11 hRσ1 hP hS hlocks dX7_cheapest_63
    · replace hf := (if_pos c13).symm.trans hf
      refine lv_iconst (v := iN (-1)) hx hb dX7_cheapest_21 rfl ?_
      rw [← hQQ]
      exact x_iretM hx hb hr (Option.some.inj hf) (by decide) hRσ1 hP hS hlocks dX7_cheapest_22
def fX7_numberOf_0_10_L15 (σ : Mem) (v1 : Int) (ex1 : Int → Int → Option Int) : Nat → Int → Int → Option Int
  | 0, _, _ => none
  | n1 + 1, v2, v3 => if v3 < (σ 0 1) then if v2 = 0 then if rng (v3 + 1) then fX7_numberOf_0_10_L15 σ v1 ex1 n1 0 (v3 + 1) else none else if rng (6 * v1) then if rng ((6 * v1) + v3) then if (0 : Int) ≤ ((6 * v1) + v3) ∧ (((6 * v1) + v3) : Int) < 4320 then if (0 : Int) ≤ v3 ∧ (v3 : Int) < 6 then if (σ 5 ((6 * v1) + v3)) = (σ 10 v3) then if rng (v3 + 1) then fX7_numberOf_0_10_L15 σ v1 ex1 n1 1 (v3 + 1) else none else if rng (v3 + 1) then fX7_numberOf_0_10_L15 σ v1 ex1 n1 0 (v3 + 1) else none else none else none else none else none else ex1 v2 v3
def fX7_numberOf_0_10_L2 (σ : Mem) (ex0 : Int → Option Int) : Nat → Int → Option Int
  | 0, _ => none
  | n0 + 1, v1 => if v1 < (σ 0 8) then fX7_numberOf_0_10_L15 σ v1 (fun v14 v15 => if v14 = 0 then if rng (v1 + 1) then fX7_numberOf_0_10_L2 σ ex0 n0 (v1 + 1) else none else some v1) FU 1 0 else ex0 v1
def fX7_numberOf_0_10 (σ : Mem) : Option Int := fX7_numberOf_0_10_L2 σ (fun v19 => some (-1)) FU 0
set_option maxHeartbeats 4000000 in
set_option maxRecDepth 100000 in
theorem kX7_numberOf_0_10 (l : Launch) (dC : Nat → ClassId) (dI : Nat → Nat → Nat) (cI : ClassId) (a : Nat → Nat) (σ : Mem) (r : Int) (hf : fX7_numberOf_0_10 σ  = some r) (hR : Rg σ) : Met l yX7_numberOf wsX7_numberOf ({ frames := 0, cells := 0, slots := 0, locals := 0 }) (va_Pc [.ref (a 0), .ref (a 10)] (preM dC dI cI a σ)) (qP r) 0 0 (fun _ => False) := by
  refine Met.ofW (cc := cX7_numberOf) (maxL := 5) (ret := (some .int)) (by decide) rfl ?_
  intro p e s m args below meth c s₁ B hml hv
  obtain ⟨hargs, hP, hK⟩ := hv
  have hx := B.exec
  have hb := B.bytes
  have hr := B.returns
  have hts := atoms_spec (ws := wsX7_numberOf) B.pre
  have hown : s.vm.findClass RX7 = some m.cls := findClass_of_methodNamed B.named
  have hlocks := B.notSynchronized
  have iX7 : ∀ w ∈ wsX70, w ∈ wsX7_numberOf := by decide +kernel
  have fl29 := hts (.fieldLink RX7 29 "MatchHallModel" "stable" "[I") (by decide +kernel)
  have fl7 := hts (.fieldLink RX7 7 "MatchHallModel" "residents" "I") (by decide +kernel)
  have fl88 := hts (.fieldLink RX7 88 "MatchHallModel" "many" "I") (by decide +kernel)
  have hrm : 0 ≤ (headSpec wsX7_numberOf ({ frames := 0, cells := 0, slots := 0, locals := 0 })).room.frames ∧ 0 ≤ (headSpec wsX7_numberOf ({ frames := 0, cells := 0, slots := 0, locals := 0 })).room.locals := ⟨Nat.le_refl _, Nat.le_refl _⟩
  generalize (headSpec wsX7_numberOf ({ frames := 0, cells := 0, slots := 0, locals := 0 })).room = RR at hrm ⊢
  have hl := lv_entry ([.ref (a 0), .ref (a 10)]) (n := 5) (Nat.le_of_ble_eq_true rfl)
  rw [show entryFrame m args 5 = entryFrame m ([.ref (a 0), .ref (a 10)] : List Value).toArray 5 from by rw [hargs], lg_entry_eq]
  generalize (lg_sl ([.ref (a 0), .ref (a 10)]) ++ List.replicate (5 - (lg_sl ([.ref (a 0), .ref (a 10)])).length) Slot.unset).toArray = ls at hl ⊢
  have hl : lv_has ls 5 [(0, .ref (a 0)), (1, .ref (a 10))] := hl
  generalize hQQ : MQ below (qP r) args s 0 0 (fun _ => False) = QQ
  refine lv_iconst (v := iN 0) hx hb dX7_numberOf_0 rfl ?_
  refine lv_istore_n (lv' := [(2, .int (iN 0)), (0, .ref (a 0)), (1, .ref (a 10))]) hx hb dX7_numberOf_1 rfl hl (by decide) rfl (fun ls hl => ?_)
  have L_fX7_numberOf_0_10_L2 : ∀ (EX0 : Int → Option Int), (∀ (v1 : Int), rng v1 → EX0 v1 = some r → ∀ ls, lv_has ls 5 [(0, .ref (a 0)), (1, .ref (a 10)), (2, .int (iN v1))] → W p l e RR s m args below meth c s.heap [] 0 0 QQ (F0 m 71 ls [])) → ∀ n0 : Nat, ∀ (v1 : Int), rng v1 → fX7_numberOf_0_10_L2 σ EX0 n0 v1 = some r → ∀ ls, lv_has ls 5 [(0, .ref (a 0)), (1, .ref (a 10)), (2, .int (iN v1))] → W p l e RR s m args below meth c s.heap [] 0 0 QQ (F0 m 2 ls []) := by
    intro EX0 hEX0 n0
    induction n0 with
    | zero => intro _ _ hf; cases hf
    | succ n0 ih0 =>
      intro v1 rv1 hf ls hl
      rw [fX7_numberOf_0_10_L2] at hf
      refine lv_iload_n hx hb dX7_numberOf_2 rfl (lv_at hl 2 rfl) ?_
      refine lv_aload_n hx hb dX7_numberOf_3 rfl (lv_at hl 0 rfl) ?_
      refine x_get (C := RX7) (T := TX7) (NF := 17) (v := .int (iN (σ 0 8))) hx hb hts iX7 hown hK hP 0 (by decide) (mE_0 cI a (_)) rfl 8 (by decide) fl88 rfl dX7_numberOf_4 ?_
      refine x_icmp_ge (tgt := 71) hx hb rv1 (hR 0 8) dX7_numberOf_7 (by decide) (fun c18 => ?_) (fun c18 => ?_)
      · replace hf := (if_neg c18).symm.trans hf
        exact hEX0 _ rv1 hf _ (lv_sub hl [0, 1, 2] rfl)
      · replace hf := (if_pos c18).symm.trans hf
        refine lv_iconst (v := iN 1) hx hb dX7_numberOf_10 rfl ?_
        refine lv_istore_n (lv' := [(3, .int (iN 1)), (0, .ref (a 0)), (1, .ref (a 10)), (2, .int (iN v1))]) hx hb dX7_numberOf_11 rfl hl (by decide) rfl (fun ls hl => ?_)
        refine lv_iconst (v := iN 0) hx hb dX7_numberOf_12 rfl ?_
        refine lv_istore (lv' := [(4, .int (iN 0)), (3, .int (iN 1)), (0, .ref (a 0)), (1, .ref (a 10)), (2, .int (iN v1))]) hx hb dX7_numberOf_13 hl (by decide) rfl (fun ls hl => ?_)
        have L_fX7_numberOf_0_10_L15 : ∀ (EX1 : Int → Int → Option Int), (∀ (v2 : Int) (v3 : Int), rng v2 → rng v3 → EX1 v2 v3 = some r → ∀ ls, lv_has ls 5 [(0, .ref (a 0)), (1, .ref (a 10)), (2, .int (iN v1)), (3, .int (iN v2)), (4, .int (iN v3))] → W p l e RR s m args below meth c s.heap [] 0 0 QQ (F0 m 59 ls [])) → ∀ n1 : Nat, ∀ (v2 : Int) (v3 : Int), rng v2 → rng v3 → fX7_numberOf_0_10_L15 σ v1 EX1 n1 v2 v3 = some r → ∀ ls, lv_has ls 5 [(0, .ref (a 0)), (1, .ref (a 10)), (2, .int (iN v1)), (3, .int (iN v2)), (4, .int (iN v3))] → W p l e RR s m args below meth c s.heap [] 0 0 QQ (F0 m 15 ls []) := by
          intro EX1 hEX1 n1
          induction n1 with
          | zero => intro _ _ _ _ hf; cases hf
          | succ n1 ih1 =>
            intro v2 v3 rv2 rv3 hf ls hl
            rw [fX7_numberOf_0_10_L15] at hf
            refine lv_iload hx hb dX7_numberOf_15 (lv_at hl 4 rfl) ?_
            refine lv_aload_n hx hb dX7_numberOf_17 rfl (lv_at hl 0 rfl) ?_
            refine x_get (C := RX7) (T := TX7) (NF := 17) (v := .int (iN (σ 0 1))) hx hb hts iX7 hown hK hP 0 (by decide) (mE_0 cI a (_)) rfl 1 (by decide) fl7 rfl dX7_numberOf_18 ?_
            refine x_icmp_ge (tgt := 59) hx hb rv3 (hR 0 1) dX7_numberOf_21 (by decide) (fun c13 => ?_) (fun c13 => ?_)
            · replace hf := (if_neg c13).symm.trans hf
              exact hEX1 _ _ rv2 rv3 hf _ (lv_sub hl [0, 1, 2, 3, 4] rfl)
            · replace hf := (if_pos c13).symm.trans hf
              refine lv_iload_n hx hb dX7_numberOf_24 rfl (lv_at hl 3 rfl) ?_
              refine x_if_eq (tgt := 51) hx hb rv2 dX7_numberOf_25 (by decide) (fun c12 => ?_) (fun c12 => ?_)
              · replace hf := (if_pos c12).symm.trans hf
                refine lv_iconst (v := iN 0) hx hb dX7_numberOf_51 rfl ?_
                refine lv_istore_n (lv' := [(3, .int (iN 0)), (0, .ref (a 0)), (1, .ref (a 10)), (2, .int (iN v1)), (4, .int (iN v3))]) hx hb dX7_numberOf_52 rfl hl (by decide) rfl (fun ls hl => ?_)
                obtain ⟨g4, hf⟩ := gd hf
                refine lv_iinc (v := iN (v3 + 1)) (lv' := [(4, .int (iN (v3 + 1))), (3, .int (iN 0)), (0, .ref (a 0)), (1, .ref (a 10)), (2, .int (iN v1))]) hx hb dX7_numberOf_53 hl (k := 4) rfl (iN_add v3 1) (by decide) rfl (fun ls hl => ?_)
                refine lv_goto (tgt := 15) hx hb dX7_numberOf_56 (by decide) ?_
                exact ih1 _ _ (by decide) g4 hf _ (lv_sub hl [2, 3, 4, 1, 0] rfl)
              · replace hf := (if_neg c12).symm.trans hf
                refine lv_aload_n hx hb dX7_numberOf_28 rfl (lv_at hl 0 rfl) ?_
                refine x_get (C := RX7) (T := TX7) (NF := 17) (v := .ref (a 5)) hx hb hts iX7 hown hK hP 0 (by decide) (mE_0 cI a (_)) rfl 9 (by decide) fl29 rfl dX7_numberOf_29 ?_
                refine lv_bipush (v := iN 6) hx hb dX7_numberOf_32 (by decide) ?_
                refine lv_iload_n hx hb dX7_numberOf_34 rfl (lv_at hl 2 rfl) ?_
                obtain ⟨g5, hf⟩ := gd hf
                refine x_imul hx hb dX7_numberOf_35 ?_
                refine lv_iload hx hb dX7_numberOf_36 (lv_at hl 4 rfl) ?_
                obtain ⟨g6, hf⟩ := gd hf
                refine x_iadd hx hb dX7_numberOf_38 ?_
                obtain ⟨g7, hf⟩ := gd hf
                refine x_iald hx hb hK hP 5 0 (by decide) (mE_5 cI a (_)) (by decide) rfl g7 dX7_numberOf_39 ?_
                refine lv_aload_n hx hb dX7_numberOf_40 rfl (lv_at hl 1 rfl) ?_
                refine lv_iload hx hb dX7_numberOf_41 (lv_at hl 4 rfl) ?_
                obtain ⟨g8, hf⟩ := gd hf
                refine x_iald hx hb hK hP 10 0 (by decide) (mE_10 cI a (_)) (by decide) rfl g8 dX7_numberOf_43 ?_
                refine x_icmp_ne (tgt := 51) hx hb (hR 5 ((6 * v1) + v3)) (hR 10 v3) dX7_numberOf_44 (by decide) (fun c11 => ?_) (fun c11 => ?_)
                · replace hf := (if_neg c11).symm.trans hf
                  refine lv_iconst (v := iN 0) hx hb dX7_numberOf_51 rfl ?_
                  refine lv_istore_n (lv' := [(3, .int (iN 0)), (0, .ref (a 0)), (1, .ref (a 10)), (2, .int (iN v1)), (4, .int (iN v3))]) hx hb dX7_numberOf_52 rfl hl (by decide) rfl (fun ls hl => ?_)
                  obtain ⟨g9, hf⟩ := gd hf
                  refine lv_iinc (v := iN (v3 + 1)) (lv' := [(4, .int (iN (v3 + 1))), (3, .int (iN 0)), (0, .ref (a 0)), (1, .ref (a 10)), (2, .int (iN v1))]) hx hb dX7_numberOf_53 hl (k := 4) rfl (iN_add v3 1) (by decide) rfl (fun ls hl => ?_)
                  refine lv_goto (tgt := 15) hx hb dX7_numberOf_56 (by decide) ?_
                  exact ih1 _ _ (by decide) g9 hf _ (lv_sub hl [2, 3, 4, 1, 0] rfl)
                · replace hf := (if_pos c11).symm.trans hf
                  refine lv_iconst (v := iN 1) hx hb dX7_numberOf_47 rfl ?_
                  refine lv_goto (tgt := 52) hx hb dX7_numberOf_48 (by decide) ?_
                  refine lv_istore_n (lv' := [(3, .int (iN 1)), (0, .ref (a 0)), (1, .ref (a 10)), (2, .int (iN v1)), (4, .int (iN v3))]) hx hb dX7_numberOf_52 rfl hl (by decide) rfl (fun ls hl => ?_)
                  obtain ⟨g10, hf⟩ := gd hf
                  refine lv_iinc (v := iN (v3 + 1)) (lv' := [(4, .int (iN (v3 + 1))), (3, .int (iN 1)), (0, .ref (a 0)), (1, .ref (a 10)), (2, .int (iN v1))]) hx hb dX7_numberOf_53 hl (k := 4) rfl (iN_add v3 1) (by decide) rfl (fun ls hl => ?_)
                  refine lv_goto (tgt := 15) hx hb dX7_numberOf_56 (by decide) ?_
                  exact ih1 _ _ (by decide) g10 hf _ (lv_sub hl [2, 3, 4, 1, 0] rfl)
        refine L_fX7_numberOf_0_10_L15 _ (fun v14 v15 rv14 rv15 hf ls hl => ?_) _ _ _ (by decide) (by decide) hf _ (lv_sub hl [2, 3, 4, 1, 0] rfl)
        refine lv_iload_n hx hb dX7_numberOf_59 rfl (lv_at hl 3 rfl) ?_
        refine x_if_eq (tgt := 65) hx hb rv14 dX7_numberOf_60 (by decide) (fun c17 => ?_) (fun c17 => ?_)
        · replace hf := (if_pos c17).symm.trans hf
          obtain ⟨g16, hf⟩ := gd hf
          refine lv_iinc (v := iN (v1 + 1)) (lv' := [(2, .int (iN (v1 + 1))), (0, .ref (a 0)), (1, .ref (a 10)), (3, .int (iN v14)), (4, .int (iN v15))]) hx hb dX7_numberOf_65 hl (k := 2) rfl (iN_add v1 1) (by decide) rfl (fun ls hl => ?_)
          refine lv_goto (tgt := 2) hx hb dX7_numberOf_68 (by decide) ?_
          exact ih0 _ g16 hf _ (lv_sub hl [1, 2, 0] rfl)
        · replace hf := (if_neg c17).symm.trans hf
          refine lv_iload_n hx hb dX7_numberOf_63 rfl (lv_at hl 2 rfl) ?_
          rw [← hQQ]
          exact x_iret hx hb hr (Option.some.inj hf) rv1 hlocks dX7_numberOf_64
  refine L_fX7_numberOf_0_10_L2 _ (fun v19 rv19 hf ls hl => ?_) _ _ (by decide) hf _ (lv_sub hl [1, 2, 0] rfl)
  refine lv_iconst (v := iN (-1)) hx hb dX7_numberOf_71 rfl ?_
  rw [← hQQ]
  exact x_iret hx hb hr (Option.some.inj hf) (by decide) hlocks dX7_numberOf_72
def fX7_bound_0_L35 (x1 : Int) (x2 : Int) (x3 : Int) (ex0 : Mem → Int → Option (Int × Mem)) : Nat → Mem → Int → Option (Int × Mem)
  | 0, _, _ => none
  | n0 + 1, σ6, v5 => if v5 < (σ6 0 1) then if rng (6 * x2) then if rng ((6 * x2) + v5) then if (0 : Int) ≤ ((6 * x2) + v5) ∧ (((6 * x2) + v5) : Int) < 4320 then if rng (6 * x3) then if rng ((6 * x3) + v5) then if (0 : Int) ≤ ((6 * x3) + v5) ∧ (((6 * x3) + v5) : Int) < 4320 then if (σ6 5 ((6 * x2) + v5)) = (σ6 5 ((6 * x3) + v5)) then if x1 = 0 then if (0 : Int) ≤ v5 ∧ (v5 : Int) < 6 then nx (mup σ6 10 v5 (σ6 5 ((6 * x2) + v5))) fun σ18 => if rng (v5 + 1) then fX7_bound_0_L35 x1 x2 x3 ex0 n0 σ18 (v5 + 1) else none else none else if (0 : Int) ≤ v5 ∧ (v5 : Int) < 6 then nx (mup σ6 10 v5 (σ6 5 ((6 * x3) + v5))) fun σ14 => if rng (v5 + 1) then fX7_bound_0_L35 x1 x2 x3 ex0 n0 σ14 (v5 + 1) else none else none else (fX7_place_0 σ6 0 v5 (σ6 5 ((6 * x2) + v5))).bind fun v22 => (fX7_place_0 σ6 0 v5 (σ6 5 ((6 * x3) + v5))).bind fun v23 => if v22 < v23 then if x1 = 0 then if (0 : Int) ≤ v5 ∧ (v5 : Int) < 6 then nx (mup σ6 10 v5 (σ6 5 ((6 * x2) + v5))) fun σ38 => if rng (v5 + 1) then fX7_bound_0_L35 x1 x2 x3 ex0 n0 σ38 (v5 + 1) else none else none else if (0 : Int) ≤ v5 ∧ (v5 : Int) < 6 then nx (mup σ6 10 v5 (σ6 5 ((6 * x3) + v5))) fun σ34 => if rng (v5 + 1) then fX7_bound_0_L35 x1 x2 x3 ex0 n0 σ34 (v5 + 1) else none else none else if x1 = 0 then if (0 : Int) ≤ v5 ∧ (v5 : Int) < 6 then nx (mup σ6 10 v5 (σ6 5 ((6 * x3) + v5))) fun σ29 => if rng (v5 + 1) then fX7_bound_0_L35 x1 x2 x3 ex0 n0 σ29 (v5 + 1) else none else none else if (0 : Int) ≤ v5 ∧ (v5 : Int) < 6 then nx (mup σ6 10 v5 (σ6 5 ((6 * x2) + v5))) fun σ25 => if rng (v5 + 1) then fX7_bound_0_L35 x1 x2 x3 ex0 n0 σ25 (v5 + 1) else none else none else none else none else none else none else none else none else ex0 σ6 v5
def fX7_bound_0 (σ : Mem) (x1 : Int) (x2 : Int) (x3 : Int) : Option (Int × Mem) := nx (mup σ 0 0 0) fun σ1 => (fX7_in σ1 x1 0 1).bind fun v2 => if v2 = 0 then some ((-1), σ1) else (fX7_isStable_0 σ1 x2).bind fun v3 => if v3 = 0 then some ((-1), σ1) else (fX7_isStable_0 σ1 x3).bind fun v4 => if v4 = 0 then some ((-1), σ1) else fX7_bound_0_L35 x1 x2 x3 (fun σ46 v45 => (fX7_numberOf_0_10 σ46 ).bind fun v47 => some (v47, σ46)) FU σ1 0
set_option maxHeartbeats 4000000 in
set_option maxRecDepth 100000 in
theorem kX7_bound_0 (l : Launch) (dC : Nat → ClassId) (dI : Nat → Nat → Nat) (cI : ClassId) (a : Nat → Nat) (hi : ∀ i j, i < 12 → j < 12 → a i = a j → i = j) (σ : Mem) (x1 : Int) (x2 : Int) (x3 : Int) (r : (Int × Mem)) (hf : fX7_bound_0 σ x1 x2 x3 = some r) (hR : Rg σ) (rx1 : rng x1) (rx2 : rng x2) (rx3 : rng x3) : Met l yX7_bound wsX7_bound ({ frames := 2, cells := 0, slots := 0, locals := 43 }) (va_Pc [.ref (a 0), .int (iN x1), .int (iN x2), .int (iN x3)] (preM dC dI cI a σ)) (qM (dC, dI) (gw 12 a (mE cI a)) (gA 12 a) r) 0 0 (gA 12 a) := by
  refine Met.ofW (cc := cX7_bound) (maxL := 8) (ret := (some .int)) (by decide) rfl ?_
  intro p e s m args below meth c s₁ B hml hv
  obtain ⟨hargs, hP, hK⟩ := hv
  have hx := B.exec
  have hb := B.bytes
  have hr := B.returns
  have hts := atoms_spec (ws := wsX7_bound) B.pre
  have hown : s.vm.findClass RX7 = some m.cls := findClass_of_methodNamed B.named
  have hlocks := B.notSynchronized
  have hS : va_S (gA 12 a) s.heap s.heap [] := va_S.rf
  have iX7 : ∀ w ∈ wsX70, w ∈ wsX7_bound := by decide +kernel
  have fl29 := hts (.fieldLink RX7 29 "MatchHallModel" "stable" "[I") (by decide +kernel)
  have fl44 := hts (.fieldLink RX7 44 "MatchHallModel" "tried" "[I") (by decide +kernel)
  have fl58 := hts (.fieldLink RX7 58 "MatchHallModel" "code" "I") (by decide +kernel)
  have fl7 := hts (.fieldLink RX7 7 "MatchHallModel" "residents" "I") (by decide +kernel)
  have hrm : 2 ≤ (headSpec wsX7_bound ({ frames := 2, cells := 0, slots := 0, locals := 43 })).room.frames ∧ 43 ≤ (headSpec wsX7_bound ({ frames := 2, cells := 0, slots := 0, locals := 43 })).room.locals := ⟨Nat.le_refl _, Nat.le_refl _⟩
  generalize (headSpec wsX7_bound ({ frames := 2, cells := 0, slots := 0, locals := 43 })).room = RR at hrm ⊢
  have hl := lv_entry ([.ref (a 0), .int (iN x1), .int (iN x2), .int (iN x3)]) (n := 8) (Nat.le_of_ble_eq_true rfl)
  rw [show entryFrame m args 8 = entryFrame m ([.ref (a 0), .int (iN x1), .int (iN x2), .int (iN x3)] : List Value).toArray 8 from by rw [hargs], lg_entry_eq]
  generalize (lg_sl ([.ref (a 0), .int (iN x1), .int (iN x2), .int (iN x3)]) ++ List.replicate (8 - (lg_sl ([.ref (a 0), .int (iN x1), .int (iN x2), .int (iN x3)])).length) Slot.unset).toArray = ls at hl ⊢
  have hl : lv_has ls 8 [(0, .ref (a 0)), (1, .int (iN x1)), (2, .int (iN x2)), (3, .int (iN x3))] := hl
  generalize hQQ : MQ below (qM (dC, dI) (gw 12 a (mE cI a)) (gA 12 a) r) args s 0 0 (gA 12 a) = QQ
  refine lv_aload_n hx hb dX7_bound_0 rfl (lv_at hl 0 rfl) ?_
  refine lv_iconst (v := iN 0) hx hb dX7_bound_1 rfl ?_
  obtain ⟨σ1, hσ1, hf⟩ := nxe hf
  refine x_put (C := RX7) (T := TX7) (NF := 17) (x := 0) (ty := .int) hx hb hts iX7 tyX7 tyX7_ok nmX7 hi hown hK hP hS 0 (by decide) (mE_0 cI a (_)) rfl 0 0 (by decide) fl58 rfl (by decide +kernel) rfl rfl (Nat.le_of_ble_eq_true rfl) rfl dX7_bound_2 (fun H locs hP hS => ?_)
  rw [← hσ1] at hP
  have hRσ1 : Rg σ1 := by rw [hσ1]; exact Rg_up hR (by decide)
  refine lv_iload_n hx hb dX7_bound_5 rfl (lv_at hl 1 rfl) ?_
  refine lv_iconst (v := iN 0) hx hb dX7_bound_6 rfl ?_
  refine lv_iconst (v := iN 1) hx hb dX7_bound_7 rfl ?_
  obtain ⟨v2, hv2, hf⟩ := bd hf
  refine x_callP (va_runS (As := [.int (iN x1), .int (iN 0), .int (iN 1)]) (rest := []) ⟨hx, hb, hml, hown, hts⟩ (kX7_in l dC dI cI a σ1 x1 0 1 v2 hv2 hRσ1 rx1 (by decide) (by decide)) (va_cwS 3 hts gX7_bound_X7_in rfl rfl rfl hX7_in_d ⟨Nat.le_trans (by decide) hrm.1, Nat.le_trans (by decide) hrm.2⟩) (psM hP hK) rfl rfl hl.1 rfl (lv_room (Nat.le_of_ble_eq_true rfl)) dX7_bound_8 ⟨Nat.zero_le _, Nat.zero_le _⟩) (fun rv2 => ?_)
  refine x_if_eq (tgt := 30) hx hb rv2 dX7_bound_11 (by decide) (fun c50 => ?_) (fun c50 => ?_)
  · replace hf := (if_pos c50).symm.trans hf
    refine lv_iconst (v := iN (-1)) hx hb dX7_bound_30 rfl ?_
    rw [← hQQ]
    exact x_iretM hx hb hr (Option.some.inj hf) (by decide) hRσ1 hP hS hlocks dX7_bound_31
  · replace hf := (if_neg c50).symm.trans hf
    refine lv_aload_n hx hb dX7_bound_14 rfl (lv_at hl 0 rfl) ?_
    refine lv_iload_n hx hb dX7_bound_15 rfl (lv_at hl 2 rfl) ?_
    obtain ⟨v3, hv3, hf⟩ := bd hf
    refine x_callP (va_runV (As := [.int (iN x2)]) (rest := []) ⟨hx, hb, hml, hown, hts⟩ (kX7_isStable_0 l dC dI cI a σ1 x2 v3 hv3 hRσ1 rx2) (cwV 1 hts gX7_bound_X7_isStable rfl rfl rfl hX7_isStable_d ⟨Nat.le_trans (by decide) hrm.1, Nat.le_trans (by decide) hrm.2⟩) (pvM 0 (by decide) (mE_0 cI a (_)) rfl hP hK) rfl rfl hl.1 rfl (lv_room (Nat.le_of_ble_eq_true rfl)) dX7_bound_16 ⟨Nat.zero_le _, Nat.zero_le _⟩) (fun rv3 => ?_)
    refine x_if_eq (tgt := 30) hx hb rv3 dX7_bound_19 (by decide) (fun c49 => ?_) (fun c49 => ?_)
    · replace hf := (if_pos c49).symm.trans hf
      refine lv_iconst (v := iN (-1)) hx hb dX7_bound_30 rfl ?_
      rw [← hQQ]
      exact x_iretM hx hb hr (Option.some.inj hf) (by decide) hRσ1 hP hS hlocks dX7_bound_31
    · replace hf := (if_neg c49).symm.trans hf
      refine lv_aload_n hx hb dX7_bound_22 rfl (lv_at hl 0 rfl) ?_
      refine lv_iload_n hx hb dX7_bound_23 rfl (lv_at hl 3 rfl) ?_
      obtain ⟨v4, hv4, hf⟩ := bd hf
      refine x_callP (va_runV (As := [.int (iN x3)]) (rest := []) ⟨hx, hb, hml, hown, hts⟩ (kX7_isStable_0 l dC dI cI a σ1 x3 v4 hv4 hRσ1 rx3) (cwV 1 hts gX7_bound_X7_isStable rfl rfl rfl hX7_isStable_d ⟨Nat.le_trans (by decide) hrm.1, Nat.le_trans (by decide) hrm.2⟩) (pvM 0 (by decide) (mE_0 cI a (_)) rfl hP hK) rfl rfl hl.1 rfl (lv_room (Nat.le_of_ble_eq_true rfl)) dX7_bound_24 ⟨Nat.zero_le _, Nat.zero_le _⟩) (fun rv4 => ?_)
      refine x_if_ne (tgt := 32) hx hb rv4 dX7_bound_27 (by decide) (fun c48 => ?_) (fun c48 => ?_)
      · replace hf := (if_neg c48).symm.trans hf
        refine lv_iconst (v := iN 0) hx hb dX7_bound_32 rfl ?_
        refine lv_istore (lv' := [(4, .int (iN 0)), (0, .ref (a 0)), (1, .int (iN x1)), (2, .int (iN x2)), (3, .int (iN x3))]) hx hb dX7_bound_33 hl (by decide) rfl (fun ls hl => ?_)
        have L_fX7_bound_0_L35 : ∀ (EX0 : Mem → Int → Option (Int × Mem)), (∀ (σ6 : Mem) (v5 : Int), Rg σ6 → rng v5 → EX0 σ6 v5 = some r → ∀ H locs ls, va_P (dC, dI) vwCl (gw 12 a (mE cI a) σ6) H → va_S (gA 12 a) s.heap H locs → lv_has ls 8 [(0, .ref (a 0)), (1, .int (iN x1)), (2, .int (iN x2)), (3, .int (iN x3)), (4, .int (iN v5))] → W p l e RR s m args below meth c H locs 0 0 QQ (F0 m 141 ls [])) → ∀ n0 : Nat, ∀ (σ6 : Mem) (v5 : Int), Rg σ6 → rng v5 → fX7_bound_0_L35 x1 x2 x3 EX0 n0 σ6 v5 = some r → ∀ H locs ls, va_P (dC, dI) vwCl (gw 12 a (mE cI a) σ6) H → va_S (gA 12 a) s.heap H locs → lv_has ls 8 [(0, .ref (a 0)), (1, .int (iN x1)), (2, .int (iN x2)), (3, .int (iN x3)), (4, .int (iN v5))] → W p l e RR s m args below meth c H locs 0 0 QQ (F0 m 35 ls []) := by
          intro EX0 hEX0 n0
          induction n0 with
          | zero => intro _ _ _ _ hf; cases hf
          | succ n0 ih0 =>
            intro σ6 v5 hRσ6 rv5 hf H locs ls hP hS hl
            rw [fX7_bound_0_L35] at hf
            refine lv_iload hx hb dX7_bound_35 (lv_at hl 4 rfl) ?_
            refine lv_aload_n hx hb dX7_bound_37 rfl (lv_at hl 0 rfl) ?_
            refine x_get (C := RX7) (T := TX7) (NF := 17) (v := .int (iN (σ6 0 1))) hx hb hts iX7 hown hK hP 0 (by decide) (mE_0 cI a (_)) rfl 1 (by decide) fl7 rfl dX7_bound_38 ?_
            refine x_icmp_ge (tgt := 141) hx hb rv5 (hRσ6 0 1) dX7_bound_41 (by decide) (fun c44 => ?_) (fun c44 => ?_)
            · replace hf := (if_neg c44).symm.trans hf
              exact hEX0 _ _ hRσ6 rv5 hf _ _ _ hP hS (lv_sub hl [0, 1, 2, 3, 4] rfl)
            · replace hf := (if_pos c44).symm.trans hf
              refine lv_aload_n hx hb dX7_bound_44 rfl (lv_at hl 0 rfl) ?_
              refine x_get (C := RX7) (T := TX7) (NF := 17) (v := .ref (a 5)) hx hb hts iX7 hown hK hP 0 (by decide) (mE_0 cI a (_)) rfl 9 (by decide) fl29 rfl dX7_bound_45 ?_
              refine lv_bipush (v := iN 6) hx hb dX7_bound_48 (by decide) ?_
              refine lv_iload_n hx hb dX7_bound_50 rfl (lv_at hl 2 rfl) ?_
              obtain ⟨g7, hf⟩ := gd hf
              refine x_imul hx hb dX7_bound_51 ?_
              refine lv_iload hx hb dX7_bound_52 (lv_at hl 4 rfl) ?_
              obtain ⟨g8, hf⟩ := gd hf
              refine x_iadd hx hb dX7_bound_54 ?_
              obtain ⟨g9, hf⟩ := gd hf
              refine x_iald hx hb hK hP 5 0 (by decide) (mE_5 cI a (_)) (by decide) rfl g9 dX7_bound_55 ?_
              refine lv_istore (lv' := [(5, .int (iN (σ6 5 ((6 * x2) + v5)))), (0, .ref (a 0)), (1, .int (iN x1)), (2, .int (iN x2)), (3, .int (iN x3)), (4, .int (iN v5))]) hx hb dX7_bound_56 hl (by decide) rfl (fun ls hl => ?_)
              refine lv_aload_n hx hb dX7_bound_58 rfl (lv_at hl 1 rfl) ?_
              refine x_get (C := RX7) (T := TX7) (NF := 17) (v := .ref (a 5)) hx hb hts iX7 hown hK hP 0 (by decide) (mE_0 cI a (_)) rfl 9 (by decide) fl29 rfl dX7_bound_59 ?_
              refine lv_bipush (v := iN 6) hx hb dX7_bound_62 (by decide) ?_
              refine lv_iload_n hx hb dX7_bound_64 rfl (lv_at hl 4 rfl) ?_
              obtain ⟨g10, hf⟩ := gd hf
              refine x_imul hx hb dX7_bound_65 ?_
              refine lv_iload hx hb dX7_bound_66 (lv_at hl 5 rfl) ?_
              obtain ⟨g11, hf⟩ := gd hf
              refine x_iadd hx hb dX7_bound_68 ?_
              obtain ⟨g12, hf⟩ := gd hf
              refine x_iald hx hb hK hP 5 0 (by decide) (mE_5 cI a (_)) (by decide) rfl g12 dX7_bound_69 ?_
              refine lv_istore (lv' := [(6, .int (iN (σ6 5 ((6 * x3) + v5)))), (5, .int (iN (σ6 5 ((6 * x2) + v5)))), (0, .ref (a 0)), (1, .int (iN x1)), (2, .int (iN x2)), (3, .int (iN x3)), (4, .int (iN v5))]) hx hb dX7_bound_70 hl (by decide) rfl (fun ls hl => ?_)
              refine lv_iload hx hb dX7_bound_72 (lv_at hl 1 rfl) ?_
              refine lv_iload hx hb dX7_bound_74 (lv_at hl 0 rfl) ?_
              refine x_icmp_eq (tgt := 100) hx hb (hRσ6 5 ((6 * x2) + v5)) (hRσ6 5 ((6 * x3) + v5)) dX7_bound_76 (by decide) (fun c43 => ?_) (fun c43 => ?_)
              · replace hf := (if_pos c43).symm.trans hf
                refine lv_iconst (v := iN 1) hx hb dX7_bound_100 rfl ?_
                refine lv_goto (tgt := 105) hx hb dX7_bound_101 (by decide) ?_
                refine lv_istore (lv' := [(7, .int (iN 1)), (6, .int (iN (σ6 5 ((6 * x3) + v5)))), (5, .int (iN (σ6 5 ((6 * x2) + v5)))), (0, .ref (a 0)), (1, .int (iN x1)), (2, .int (iN x2)), (3, .int (iN x3)), (4, .int (iN v5))]) hx hb dX7_bound_105 hl (by decide) rfl (fun ls hl => ?_)
                refine lv_aload_n hx hb dX7_bound_107 rfl (lv_at hl 3 rfl) ?_
                refine x_get (C := RX7) (T := TX7) (NF := 17) (v := .ref (a 10)) hx hb hts iX7 hown hK hP 0 (by decide) (mE_0 cI a (_)) rfl 15 (by decide) fl44 rfl dX7_bound_108 ?_
                refine lv_iload hx hb dX7_bound_111 (lv_at hl 7 rfl) ?_
                refine lv_iload hx hb dX7_bound_113 (lv_at hl 0 rfl) ?_
                refine lv_iload_n hx hb dX7_bound_115 rfl (lv_at hl 4 rfl) ?_
                refine x_if_ne (tgt := 123) hx hb rx1 dX7_bound_116 (by decide) (fun c21 => ?_) (fun c21 => ?_)
                · replace hf := (if_neg c21).symm.trans hf
                  refine lv_iconst (v := iN 0) hx hb dX7_bound_123 rfl ?_
                  refine x_icmp_ne (tgt := 132) hx hb (by decide) (by decide) dX7_bound_124 (by decide) (fun c16 => ?_) (fun c16 => ?_)
                  · refine lv_iload hx hb dX7_bound_132 (lv_at hl 1 rfl) ?_
                    obtain ⟨g13, hf⟩ := gd hf
                    obtain ⟨σ14, hσ14, hf⟩ := nxe hf
                    refine x_iast (x := (σ6 5 ((6 * x3) + v5))) hx hb hi hK hP hS 10 0 (by decide) (mE_10 cI a) (by decide) rfl g13 dX7_bound_134 (fun H locs hP hS => ?_)
                    rw [← hσ14] at hP
                    have hRσ14 : Rg σ14 := by rw [hσ14]; exact Rg_up hRσ6 (hRσ6 5 ((6 * x3) + v5))
                    obtain ⟨g15, hf⟩ := gd hf
                    refine lv_iinc (v := iN (v5 + 1)) (lv' := [(4, .int (iN (v5 + 1))), (7, .int (iN 1)), (6, .int (iN (σ6 5 ((6 * x3) + v5)))), (5, .int (iN (σ6 5 ((6 * x2) + v5)))), (0, .ref (a 0)), (1, .int (iN x1)), (2, .int (iN x2)), (3, .int (iN x3))]) hx hb dX7_bound_135 hl (k := 7) rfl (iN_add v5 1) (by decide) rfl (fun ls hl => ?_)
                    refine lv_goto (tgt := 35) hx hb dX7_bound_138 (by decide) ?_
                    exact ih0 _ _ hRσ14 g15 hf _ _ _ hP hS (lv_sub hl [4, 5, 6, 7, 0] rfl)
                  · exact absurd c16 (by decide)
                · replace hf := (if_pos c21).symm.trans hf
                  refine lv_iconst (v := iN 1) hx hb dX7_bound_119 rfl ?_
                  refine lv_goto (tgt := 124) hx hb dX7_bound_120 (by decide) ?_
                  refine x_icmp_ne (tgt := 132) hx hb (by decide) (by decide) dX7_bound_124 (by decide) (fun c20 => ?_) (fun c20 => ?_)
                  · exact absurd c20 (by decide)
                  · refine lv_iload hx hb dX7_bound_127 (lv_at hl 2 rfl) ?_
                    refine lv_goto (tgt := 134) hx hb dX7_bound_129 (by decide) ?_
                    obtain ⟨g17, hf⟩ := gd hf
                    obtain ⟨σ18, hσ18, hf⟩ := nxe hf
                    refine x_iast (x := (σ6 5 ((6 * x2) + v5))) hx hb hi hK hP hS 10 0 (by decide) (mE_10 cI a) (by decide) rfl g17 dX7_bound_134 (fun H locs hP hS => ?_)
                    rw [← hσ18] at hP
                    have hRσ18 : Rg σ18 := by rw [hσ18]; exact Rg_up hRσ6 (hRσ6 5 ((6 * x2) + v5))
                    obtain ⟨g19, hf⟩ := gd hf
                    refine lv_iinc (v := iN (v5 + 1)) (lv' := [(4, .int (iN (v5 + 1))), (7, .int (iN 1)), (6, .int (iN (σ6 5 ((6 * x3) + v5)))), (5, .int (iN (σ6 5 ((6 * x2) + v5)))), (0, .ref (a 0)), (1, .int (iN x1)), (2, .int (iN x2)), (3, .int (iN x3))]) hx hb dX7_bound_135 hl (k := 7) rfl (iN_add v5 1) (by decide) rfl (fun ls hl => ?_)
                    refine lv_goto (tgt := 35) hx hb dX7_bound_138 (by decide) ?_
                    exact ih0 _ _ hRσ18 g19 hf _ _ _ hP hS (lv_sub hl [4, 5, 6, 7, 0] rfl)
              · replace hf := (if_neg c43).symm.trans hf
                refine lv_aload_n hx hb dX7_bound_79 rfl (lv_at hl 2 rfl) ?_
                refine lv_iconst (v := iN 0) hx hb dX7_bound_80 rfl ?_
                refine lv_iload hx hb dX7_bound_81 (lv_at hl 6 rfl) ?_
                refine lv_iload hx hb dX7_bound_83 (lv_at hl 1 rfl) ?_
                obtain ⟨v22, hv22, hf⟩ := bd hf
                refine x_callP (va_runV (As := [.int (iN 0), .int (iN v5), .int (iN (σ6 5 ((6 * x2) + v5)))]) (rest := []) ⟨hx, hb, hml, hown, hts⟩ (kX7_place_0 l dC dI cI a σ6 0 v5 (σ6 5 ((6 * x2) + v5)) v22 hv22 hRσ6 (by decide) rv5 (hRσ6 5 ((6 * x2) + v5))) (cwV 3 hts gX7_bound_X7_place rfl rfl rfl hX7_place_d ⟨Nat.le_trans (by decide) hrm.1, Nat.le_trans (by decide) hrm.2⟩) (pvM 0 (by decide) (mE_0 cI a (_)) rfl hP hK) rfl rfl hl.1 rfl (lv_room (Nat.le_of_ble_eq_true rfl)) dX7_bound_85 ⟨Nat.zero_le _, Nat.zero_le _⟩) (fun rv22 => ?_)
                refine lv_aload_n hx hb dX7_bound_88 rfl (lv_at hl 2 rfl) ?_
                refine lv_iconst (v := iN 0) hx hb dX7_bound_89 rfl ?_
                refine lv_iload hx hb dX7_bound_90 (lv_at hl 6 rfl) ?_
                refine lv_iload hx hb dX7_bound_92 (lv_at hl 0 rfl) ?_
                obtain ⟨v23, hv23, hf⟩ := bd hf
                refine x_callP (va_runV (As := [.int (iN 0), .int (iN v5), .int (iN (σ6 5 ((6 * x3) + v5)))]) (rest := [.int (iN v22)]) ⟨hx, hb, hml, hown, hts⟩ (kX7_place_0 l dC dI cI a σ6 0 v5 (σ6 5 ((6 * x3) + v5)) v23 hv23 hRσ6 (by decide) rv5 (hRσ6 5 ((6 * x3) + v5))) (cwV 3 hts gX7_bound_X7_place rfl rfl rfl hX7_place_d ⟨Nat.le_trans (by decide) hrm.1, Nat.le_trans (by decide) hrm.2⟩) (pvM 0 (by decide) (mE_0 cI a (_)) rfl hP hK) rfl rfl hl.1 rfl (lv_room (Nat.le_of_ble_eq_true rfl)) dX7_bound_94 ⟨Nat.zero_le _, Nat.zero_le _⟩) (fun rv23 => ?_)
                refine x_icmp_ge (tgt := 104) hx hb rv22 rv23 dX7_bound_97 (by decide) (fun c42 => ?_) (fun c42 => ?_)
                · replace hf := (if_neg c42).symm.trans hf
                  refine lv_iconst (v := iN 0) hx hb dX7_bound_104 rfl ?_
                  refine lv_istore (lv' := [(7, .int (iN 0)), (6, .int (iN (σ6 5 ((6 * x3) + v5)))), (5, .int (iN (σ6 5 ((6 * x2) + v5)))), (0, .ref (a 0)), (1, .int (iN x1)), (2, .int (iN x2)), (3, .int (iN x3)), (4, .int (iN v5))]) hx hb dX7_bound_105 hl (by decide) rfl (fun ls hl => ?_)
                  refine lv_aload_n hx hb dX7_bound_107 rfl (lv_at hl 3 rfl) ?_
                  refine x_get (C := RX7) (T := TX7) (NF := 17) (v := .ref (a 10)) hx hb hts iX7 hown hK hP 0 (by decide) (mE_0 cI a (_)) rfl 15 (by decide) fl44 rfl dX7_bound_108 ?_
                  refine lv_iload hx hb dX7_bound_111 (lv_at hl 7 rfl) ?_
                  refine lv_iload hx hb dX7_bound_113 (lv_at hl 0 rfl) ?_
                  refine lv_iload_n hx hb dX7_bound_115 rfl (lv_at hl 4 rfl) ?_
                  refine x_if_ne (tgt := 123) hx hb rx1 dX7_bound_116 (by decide) (fun c32 => ?_) (fun c32 => ?_)
                  · replace hf := (if_neg c32).symm.trans hf
                    refine lv_iconst (v := iN 0) hx hb dX7_bound_123 rfl ?_
                    refine x_icmp_ne (tgt := 132) hx hb (by decide) (by decide) dX7_bound_124 (by decide) (fun c27 => ?_) (fun c27 => ?_)
                    · exact absurd c27 (by decide)
                    · refine lv_iload hx hb dX7_bound_127 (lv_at hl 2 rfl) ?_
                      refine lv_goto (tgt := 134) hx hb dX7_bound_129 (by decide) ?_
                      obtain ⟨g24, hf⟩ := gd hf
                      obtain ⟨σ25, hσ25, hf⟩ := nxe hf
                      refine x_iast (x := (σ6 5 ((6 * x2) + v5))) hx hb hi hK hP hS 10 0 (by decide) (mE_10 cI a) (by decide) rfl g24 dX7_bound_134 (fun H locs hP hS => ?_)
                      rw [← hσ25] at hP
                      have hRσ25 : Rg σ25 := by rw [hσ25]; exact Rg_up hRσ6 (hRσ6 5 ((6 * x2) + v5))
                      obtain ⟨g26, hf⟩ := gd hf
                      refine lv_iinc (v := iN (v5 + 1)) (lv' := [(4, .int (iN (v5 + 1))), (7, .int (iN 0)), (6, .int (iN (σ6 5 ((6 * x3) + v5)))), (5, .int (iN (σ6 5 ((6 * x2) + v5)))), (0, .ref (a 0)), (1, .int (iN x1)), (2, .int (iN x2)), (3, .int (iN x3))]) hx hb dX7_bound_135 hl (k := 7) rfl (iN_add v5 1) (by decide) rfl (fun ls hl => ?_)
                      refine lv_goto (tgt := 35) hx hb dX7_bound_138 (by decide) ?_
                      exact ih0 _ _ hRσ25 g26 hf _ _ _ hP hS (lv_sub hl [4, 5, 6, 7, 0] rfl)
                  · replace hf := (if_pos c32).symm.trans hf
                    refine lv_iconst (v := iN 1) hx hb dX7_bound_119 rfl ?_
                    refine lv_goto (tgt := 124) hx hb dX7_bound_120 (by decide) ?_
                    refine x_icmp_ne (tgt := 132) hx hb (by decide) (by decide) dX7_bound_124 (by decide) (fun c31 => ?_) (fun c31 => ?_)
                    · refine lv_iload hx hb dX7_bound_132 (lv_at hl 1 rfl) ?_
                      obtain ⟨g28, hf⟩ := gd hf
                      obtain ⟨σ29, hσ29, hf⟩ := nxe hf
                      refine x_iast (x := (σ6 5 ((6 * x3) + v5))) hx hb hi hK hP hS 10 0 (by decide) (mE_10 cI a) (by decide) rfl g28 dX7_bound_134 (fun H locs hP hS => ?_)
                      rw [← hσ29] at hP
                      have hRσ29 : Rg σ29 := by rw [hσ29]; exact Rg_up hRσ6 (hRσ6 5 ((6 * x3) + v5))
                      obtain ⟨g30, hf⟩ := gd hf
                      refine lv_iinc (v := iN (v5 + 1)) (lv' := [(4, .int (iN (v5 + 1))), (7, .int (iN 0)), (6, .int (iN (σ6 5 ((6 * x3) + v5)))), (5, .int (iN (σ6 5 ((6 * x2) + v5)))), (0, .ref (a 0)), (1, .int (iN x1)), (2, .int (iN x2)), (3, .int (iN x3))]) hx hb dX7_bound_135 hl (k := 7) rfl (iN_add v5 1) (by decide) rfl (fun ls hl => ?_)
                      refine lv_goto (tgt := 35) hx hb dX7_bound_138 (by decide) ?_
                      exact ih0 _ _ hRσ29 g30 hf _ _ _ hP hS (lv_sub hl [4, 5, 6, 7, 0] rfl)
                    · exact absurd c31 (by decide)
                · replace hf := (if_pos c42).symm.trans hf
                  refine lv_iconst (v := iN 1) hx hb dX7_bound_100 rfl ?_
                  refine lv_goto (tgt := 105) hx hb dX7_bound_101 (by decide) ?_
                  refine lv_istore (lv' := [(7, .int (iN 1)), (6, .int (iN (σ6 5 ((6 * x3) + v5)))), (5, .int (iN (σ6 5 ((6 * x2) + v5)))), (0, .ref (a 0)), (1, .int (iN x1)), (2, .int (iN x2)), (3, .int (iN x3)), (4, .int (iN v5))]) hx hb dX7_bound_105 hl (by decide) rfl (fun ls hl => ?_)
                  refine lv_aload_n hx hb dX7_bound_107 rfl (lv_at hl 3 rfl) ?_
                  refine x_get (C := RX7) (T := TX7) (NF := 17) (v := .ref (a 10)) hx hb hts iX7 hown hK hP 0 (by decide) (mE_0 cI a (_)) rfl 15 (by decide) fl44 rfl dX7_bound_108 ?_
                  refine lv_iload hx hb dX7_bound_111 (lv_at hl 7 rfl) ?_
                  refine lv_iload hx hb dX7_bound_113 (lv_at hl 0 rfl) ?_
                  refine lv_iload_n hx hb dX7_bound_115 rfl (lv_at hl 4 rfl) ?_
                  refine x_if_ne (tgt := 123) hx hb rx1 dX7_bound_116 (by decide) (fun c41 => ?_) (fun c41 => ?_)
                  · replace hf := (if_neg c41).symm.trans hf
                    refine lv_iconst (v := iN 0) hx hb dX7_bound_123 rfl ?_
                    refine x_icmp_ne (tgt := 132) hx hb (by decide) (by decide) dX7_bound_124 (by decide) (fun c36 => ?_) (fun c36 => ?_)
                    · refine lv_iload hx hb dX7_bound_132 (lv_at hl 1 rfl) ?_
                      obtain ⟨g33, hf⟩ := gd hf
                      obtain ⟨σ34, hσ34, hf⟩ := nxe hf
                      refine x_iast (x := (σ6 5 ((6 * x3) + v5))) hx hb hi hK hP hS 10 0 (by decide) (mE_10 cI a) (by decide) rfl g33 dX7_bound_134 (fun H locs hP hS => ?_)
                      rw [← hσ34] at hP
                      have hRσ34 : Rg σ34 := by rw [hσ34]; exact Rg_up hRσ6 (hRσ6 5 ((6 * x3) + v5))
                      obtain ⟨g35, hf⟩ := gd hf
                      refine lv_iinc (v := iN (v5 + 1)) (lv' := [(4, .int (iN (v5 + 1))), (7, .int (iN 1)), (6, .int (iN (σ6 5 ((6 * x3) + v5)))), (5, .int (iN (σ6 5 ((6 * x2) + v5)))), (0, .ref (a 0)), (1, .int (iN x1)), (2, .int (iN x2)), (3, .int (iN x3))]) hx hb dX7_bound_135 hl (k := 7) rfl (iN_add v5 1) (by decide) rfl (fun ls hl => ?_)
                      refine lv_goto (tgt := 35) hx hb dX7_bound_138 (by decide) ?_
                      exact ih0 _ _ hRσ34 g35 hf _ _ _ hP hS (lv_sub hl [4, 5, 6, 7, 0] rfl)
                    · exact absurd c36 (by decide)
                  · replace hf := (if_pos c41).symm.trans hf
                    refine lv_iconst (v := iN 1) hx hb dX7_bound_119 rfl ?_
                    refine lv_goto (tgt := 124) hx hb dX7_bound_120 (by decide) ?_
                    refine x_icmp_ne (tgt := 132) hx hb (by decide) (by decide) dX7_bound_124 (by decide) (fun c40 => ?_) (fun c40 => ?_)
                    · exact absurd c40 (by decide)
                    · refine lv_iload hx hb dX7_bound_127 (lv_at hl 2 rfl) ?_
                      refine lv_goto (tgt := 134) hx hb dX7_bound_129 (by decide) ?_
                      obtain ⟨g37, hf⟩ := gd hf
                      obtain ⟨σ38, hσ38, hf⟩ := nxe hf
                      refine x_iast (x := (σ6 5 ((6 * x2) + v5))) hx hb hi hK hP hS 10 0 (by decide) (mE_10 cI a) (by decide) rfl g37 dX7_bound_134 (fun H locs hP hS => ?_)
                      rw [← hσ38] at hP
                      have hRσ38 : Rg σ38 := by rw [hσ38]; exact Rg_up hRσ6 (hRσ6 5 ((6 * x2) + v5))
                      obtain ⟨g39, hf⟩ := gd hf
                      refine lv_iinc (v := iN (v5 + 1)) (lv' := [(4, .int (iN (v5 + 1))), (7, .int (iN 1)), (6, .int (iN (σ6 5 ((6 * x3) + v5)))), (5, .int (iN (σ6 5 ((6 * x2) + v5)))), (0, .ref (a 0)), (1, .int (iN x1)), (2, .int (iN x2)), (3, .int (iN x3))]) hx hb dX7_bound_135 hl (k := 7) rfl (iN_add v5 1) (by decide) rfl (fun ls hl => ?_)
                      refine lv_goto (tgt := 35) hx hb dX7_bound_138 (by decide) ?_
                      exact ih0 _ _ hRσ38 g39 hf _ _ _ hP hS (lv_sub hl [4, 5, 6, 7, 0] rfl)
        refine L_fX7_bound_0_L35 _ (fun σ46 v45 hRσ46 rv45 hf H locs ls hP hS hl => ?_) _ _ _ hRσ1 (by decide) hf _ _ _ hP hS (lv_sub hl [1, 2, 3, 4, 0] rfl)
        refine lv_aload_n hx hb dX7_bound_141 rfl (lv_at hl 0 rfl) ?_
        refine lv_aload_n hx hb dX7_bound_142 rfl (lv_at hl 0 rfl) ?_
        refine x_get (C := RX7) (T := TX7) (NF := 17) (v := .ref (a 10)) hx hb hts iX7 hown hK hP 0 (by decide) (mE_0 cI a (_)) rfl 15 (by decide) fl44 rfl dX7_bound_143 ?_
        obtain ⟨v47, hv47, hf⟩ := bd hf
        refine x_callP (va_runV (As := [.ref (a 10)]) (rest := []) ⟨hx, hb, hml, hown, hts⟩ (kX7_numberOf_0_10 l dC dI cI a σ46  v47 hv47 hRσ46 ) (cwV 1 hts gX7_bound_X7_numberOf rfl rfl rfl hX7_numberOf_d ⟨Nat.le_trans (by decide) hrm.1, Nat.le_trans (by decide) hrm.2⟩) (pvM 0 (by decide) (mE_0 cI a (_)) rfl hP hK) rfl rfl hl.1 rfl (lv_room (Nat.le_of_ble_eq_true rfl)) dX7_bound_146 ⟨Nat.zero_le _, Nat.zero_le _⟩) (fun rv47 => ?_)
        rw [← hQQ]
        exact x_iretM hx hb hr (Option.some.inj hf) rv47 hRσ46 hP hS hlocks dX7_bound_149
      · replace hf := (if_pos c48).symm.trans hf
        refine lv_iconst (v := iN (-1)) hx hb dX7_bound_30 rfl ?_
        rw [← hQQ]
        exact x_iretM hx hb hr (Option.some.inj hf) (by decide) hRσ1 hP hS hlocks dX7_bound_31
