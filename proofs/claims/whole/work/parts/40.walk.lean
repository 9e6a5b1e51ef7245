def fX7_isBehind_0_L8 (σ : Mem) (x1 : Int) (x2 : Int) (ex0 : Int → Int → Int → Option Int) : Nat → Int → Int → Int → Option Int
  | 0, _, _, _ => none
  | n0 + 1, v1, v2, v3 => if v3 < (σ 0 1) then if rng (6 * x1) then if rng ((6 * x1) + v3) then if (0 : Int) ≤ ((6 * x1) + v3) ∧ (((6 * x1) + v3) : Int) < 4320 then if rng (6 * x2) then if rng ((6 * x2) + v3) then if (0 : Int) ≤ ((6 * x2) + v3) ∧ (((6 * x2) + v3) : Int) < 4320 then if (σ 5 ((6 * x1) + v3)) = (σ 5 ((6 * x2) + v3)) then if v1 = 0 then if v2 = 0 then if rng (v3 + 1) then fX7_isBehind_0_L8 σ x1 x2 ex0 n0 0 0 (v3 + 1) else none else if rng (v3 + 1) then fX7_isBehind_0_L8 σ x1 x2 ex0 n0 0 1 (v3 + 1) else none else if v2 = 0 then if rng (v3 + 1) then fX7_isBehind_0_L8 σ x1 x2 ex0 n0 1 0 (v3 + 1) else none else if rng (v3 + 1) then fX7_isBehind_0_L8 σ x1 x2 ex0 n0 1 1 (v3 + 1) else none else if v1 = 0 then if v2 = 0 then if rng (v3 + 1) then fX7_isBehind_0_L8 σ x1 x2 ex0 n0 0 1 (v3 + 1) else none else if rng (v3 + 1) then fX7_isBehind_0_L8 σ x1 x2 ex0 n0 0 1 (v3 + 1) else none else if (σ 5 ((6 * x1) + v3)) = (-1) then if v2 = 0 then if rng (v3 + 1) then fX7_isBehind_0_L8 σ x1 x2 ex0 n0 0 1 (v3 + 1) else none else if rng (v3 + 1) then fX7_isBehind_0_L8 σ x1 x2 ex0 n0 0 1 (v3 + 1) else none else if (σ 5 ((6 * x2) + v3)) = (-1) then if v2 = 0 then if rng (v3 + 1) then fX7_isBehind_0_L8 σ x1 x2 ex0 n0 0 1 (v3 + 1) else none else if rng (v3 + 1) then fX7_isBehind_0_L8 σ x1 x2 ex0 n0 0 1 (v3 + 1) else none else (fX7_place_0 σ 0 v3 (σ 5 ((6 * x1) + v3))).bind fun v22 => (fX7_place_0 σ 0 v3 (σ 5 ((6 * x2) + v3))).bind fun v23 => if v22 < v23 then if v2 = 0 then if rng (v3 + 1) then fX7_isBehind_0_L8 σ x1 x2 ex0 n0 1 1 (v3 + 1) else none else if rng (v3 + 1) then fX7_isBehind_0_L8 σ x1 x2 ex0 n0 1 1 (v3 + 1) else none else if v2 = 0 then if rng (v3 + 1) then fX7_isBehind_0_L8 σ x1 x2 ex0 n0 0 1 (v3 + 1) else none else if rng (v3 + 1) then fX7_isBehind_0_L8 σ x1 x2 ex0 n0 0 1 (v3 + 1) else none else none else none else none else none else none else none else ex0 v1 v2 v3
def fX7_isBehind_0 (σ : Mem) (x1 : Int) (x2 : Int) : Option Int := fX7_isBehind_0_L8 σ x1 x2 (fun v49 v50 v51 => if v49 = 0 then some 0 else if v50 = 0 then some 0 else some 1) FU 1 0 0
set_option maxHeartbeats 4000000 in
set_option maxRecDepth 100000 in
theorem kX7_isBehind_0 (l : Launch) (dC : Nat → ClassId) (dI : Nat → Nat → Nat) (cI : ClassId) (a : Nat → Nat) (σ : Mem) (x1 : Int) (x2 : Int) (r : Int) (hf : fX7_isBehind_0 σ x1 x2 = some r) (hR : Rg σ) (rx1 : rng x1) (rx2 : rng x2) : Met l yX7_isBehind wsX7_isBehind ({ frames := 1, cells := 0, slots := 0, locals := 25 }) (va_Pc [.ref (a 0), .int (iN x1), .int (iN x2)] (preM dC dI cI a σ)) (qP r) 0 0 (fun _ => False) := by
  refine Met.ofW (cc := cX7_isBehind) (maxL := 9) (ret := (some .boolean)) (by decide) rfl ?_
  intro p e s m args below meth c s₁ B hml hv
  obtain ⟨hargs, hP, hK⟩ := hv
  have hx := B.exec
  have hb := B.bytes
  have hr := B.returns
  have hts := atoms_spec (ws := wsX7_isBehind) B.pre
  have hown : s.vm.findClass RX7 = some m.cls := findClass_of_methodNamed B.named
  have hlocks := B.notSynchronized
  have iX7 : ∀ w ∈ wsX70, w ∈ wsX7_isBehind := by decide +kernel
  have fl29 := hts (.fieldLink RX7 29 "MatchHallModel" "stable" "[I") (by decide +kernel)
  have fl7 := hts (.fieldLink RX7 7 "MatchHallModel" "residents" "I") (by decide +kernel)
  have hrm : 1 ≤ (headSpec wsX7_isBehind ({ frames := 1, cells := 0, slots := 0, locals := 25 })).room.frames ∧ 25 ≤ (headSpec wsX7_isBehind ({ frames := 1, cells := 0, slots := 0, locals := 25 })).room.locals := ⟨Nat.le_refl _, Nat.le_refl _⟩
  generalize (headSpec wsX7_isBehind ({ frames := 1, cells := 0, slots := 0, locals := 25 })).room = RR at hrm ⊢
  have hl := lv_entry ([.ref (a 0), .int (iN x1), .int (iN x2)]) (n := 9) (Nat.le_of_ble_eq_true rfl)
  rw [show entryFrame m args 9 = entryFrame m ([.ref (a 0), .int (iN x1), .int (iN x2)] : List Value).toArray 9 from by rw [hargs], lg_entry_eq]
  generalize (lg_sl ([.ref (a 0), .int (iN x1), .int (iN x2)]) ++ List.replicate (9 - (lg_sl ([.ref (a 0), .int (iN x1), .int (iN x2)])).length) Slot.unset).toArray = ls at hl ⊢
  have hl : lv_has ls 9 [(0, .ref (a 0)), (1, .int (iN x1)), (2, .int (iN x2))] := hl
  generalize hQQ : MQ below (qP r) args s 0 0 (fun _ => False) = QQ
  refine lv_iconst (v := iN 1) hx hb dX7_isBehind_0 rfl ?_
  refine lv_istore_n (lv' := [(3, .int (iN 1)), (0, .ref (a 0)), (1, .int (iN x1)), (2, .int (iN x2))]) hx hb dX7_isBehind_1 rfl hl (by decide) rfl (fun ls hl => ?_)
  refine lv_iconst (v := iN 0) hx hb dX7_isBehind_2 rfl ?_
  refine lv_istore (lv' := [(4, .int (iN 0)), (3, .int (iN 1)), (0, .ref (a 0)), (1, .int (iN x1)), (2, .int (iN x2))]) hx hb dX7_isBehind_3 hl (by decide) rfl (fun ls hl => ?_)
  refine lv_iconst (v := iN 0) hx hb dX7_isBehind_5 rfl ?_
  refine lv_istore (lv' := [(5, .int (iN 0)), (4, .int (iN 0)), (3, .int (iN 1)), (0, .ref (a 0)), (1, .int (iN x1)), (2, .int (iN x2))]) hx hb dX7_isBehind_6 hl (by decide) rfl (fun ls hl => ?_)
  have L_fX7_isBehind_0_L8 : ∀ (EX0 : Int → Int → Int → Option Int), (∀ (v1 : Int) (v2 : Int) (v3 : Int), rng v1 → rng v2 → rng v3 → EX0 v1 v2 v3 = some r → ∀ ls, lv_has ls 9 [(0, .ref (a 0)), (1, .int (iN x1)), (2, .int (iN x2)), (3, .int (iN v1)), (4, .int (iN v2)), (5, .int (iN v3))] → W p l e RR s m args below meth c s.heap [] 0 0 QQ (F0 m 130 ls [])) → ∀ n0 : Nat, ∀ (v1 : Int) (v2 : Int) (v3 : Int), rng v1 → rng v2 → rng v3 → fX7_isBehind_0_L8 σ x1 x2 EX0 n0 v1 v2 v3 = some r → ∀ ls, lv_has ls 9 [(0, .ref (a 0)), (1, .int (iN x1)), (2, .int (iN x2)), (3, .int (iN v1)), (4, .int (iN v2)), (5, .int (iN v3))] → W p l e RR s m args below meth c s.heap [] 0 0 QQ (F0 m 8 ls []) := by
    intro EX0 hEX0 n0
    induction n0 with
    | zero => intro _ _ _ _ _ _ hf; cases hf
    | succ n0 ih0 =>
      intro v1 v2 v3 rv1 rv2 rv3 hf ls hl
      rw [fX7_isBehind_0_L8] at hf
      refine lv_iload hx hb dX7_isBehind_8 (lv_at hl 5 rfl) ?_
      refine lv_aload_n hx hb dX7_isBehind_10 rfl (lv_at hl 0 rfl) ?_
      refine x_get (C := RX7) (T := TX7) (NF := 17) (v := .int (iN (σ 0 1))) hx hb hts iX7 hown hK hP 0 (by decide) (mE_0 cI a (_)) rfl 1 (by decide) fl7 rfl dX7_isBehind_11 ?_
      refine x_icmp_ge (tgt := 130) hx hb rv3 (hR 0 1) dX7_isBehind_14 (by decide) (fun c48 => ?_) (fun c48 => ?_)
      · replace hf := (if_neg c48).symm.trans hf
        exact hEX0 _ _ _ rv1 rv2 rv3 hf _ (lv_sub hl [0, 1, 2, 3, 4, 5] rfl)
      · replace hf := (if_pos c48).symm.trans hf
        refine lv_aload_n hx hb dX7_isBehind_17 rfl (lv_at hl 0 rfl) ?_
        refine x_get (C := RX7) (T := TX7) (NF := 17) (v := .ref (a 5)) hx hb hts iX7 hown hK hP 0 (by decide) (mE_0 cI a (_)) rfl 9 (by decide) fl29 rfl dX7_isBehind_18 ?_
        refine lv_bipush (v := iN 6) hx hb dX7_isBehind_21 (by decide) ?_
        refine lv_iload_n hx hb dX7_isBehind_23 rfl (lv_at hl 1 rfl) ?_
        obtain ⟨g4, hf⟩ := gd hf
        refine x_imul hx hb dX7_isBehind_24 ?_
        refine lv_iload hx hb dX7_isBehind_25 (lv_at hl 5 rfl) ?_
        obtain ⟨g5, hf⟩ := gd hf
        refine x_iadd hx hb dX7_isBehind_27 ?_
        obtain ⟨g6, hf⟩ := gd hf
        refine x_iald hx hb hK hP 5 0 (by decide) (mE_5 cI a (_)) (by decide) rfl g6 dX7_isBehind_28 ?_
        refine lv_istore (lv' := [(6, .int (iN (σ 5 ((6 * x1) + v3)))), (0, .ref (a 0)), (1, .int (iN x1)), (2, .int (iN x2)), (3, .int (iN v1)), (4, .int (iN v2)), (5, .int (iN v3))]) hx hb dX7_isBehind_29 hl (by decide) rfl (fun ls hl => ?_)
        refine lv_aload_n hx hb dX7_isBehind_31 rfl (lv_at hl 1 rfl) ?_
        refine x_get (C := RX7) (T := TX7) (NF := 17) (v := .ref (a 5)) hx hb hts iX7 hown hK hP 0 (by decide) (mE_0 cI a (_)) rfl 9 (by decide) fl29 rfl dX7_isBehind_32 ?_
        refine lv_bipush (v := iN 6) hx hb dX7_isBehind_35 (by decide) ?_
        refine lv_iload_n hx hb dX7_isBehind_37 rfl (lv_at hl 3 rfl) ?_
        obtain ⟨g7, hf⟩ := gd hf
        refine x_imul hx hb dX7_isBehind_38 ?_
        refine lv_iload hx hb dX7_isBehind_39 (lv_at hl 6 rfl) ?_
        obtain ⟨g8, hf⟩ := gd hf
        refine x_iadd hx hb dX7_isBehind_41 ?_
        obtain ⟨g9, hf⟩ := gd hf
        refine x_iald hx hb hK hP 5 0 (by decide) (mE_5 cI a (_)) (by decide) rfl g9 dX7_isBehind_42 ?_
        refine lv_istore (lv' := [(7, .int (iN (σ 5 ((6 * x2) + v3)))), (6, .int (iN (σ 5 ((6 * x1) + v3)))), (0, .ref (a 0)), (1, .int (iN x1)), (2, .int (iN x2)), (3, .int (iN v1)), (4, .int (iN v2)), (5, .int (iN v3))]) hx hb dX7_isBehind_43 hl (by decide) rfl (fun ls hl => ?_)
        refine lv_iload hx hb dX7_isBehind_45 (lv_at hl 1 rfl) ?_
        refine lv_iload hx hb dX7_isBehind_47 (lv_at hl 0 rfl) ?_
        refine x_icmp_ne (tgt := 56) hx hb (hR 5 ((6 * x1) + v3)) (hR 5 ((6 * x2) + v3)) dX7_isBehind_49 (by decide) (fun c47 => ?_) (fun c47 => ?_)
        · replace hf := (if_neg c47).symm.trans hf
          refine lv_iconst (v := iN 0) hx hb dX7_isBehind_56 rfl ?_
          refine lv_istore (lv' := [(8, .int (iN 0)), (7, .int (iN (σ 5 ((6 * x2) + v3)))), (6, .int (iN (σ 5 ((6 * x1) + v3)))), (0, .ref (a 0)), (1, .int (iN x1)), (2, .int (iN x2)), (3, .int (iN v1)), (4, .int (iN v2)), (5, .int (iN v3))]) hx hb dX7_isBehind_57 hl (by decide) rfl (fun ls hl => ?_)
          refine lv_iload_n hx hb dX7_isBehind_59 rfl (lv_at hl 6 rfl) ?_
          refine x_if_eq (tgt := 105) hx hb rv1 dX7_isBehind_60 (by decide) (fun c36 => ?_) (fun c36 => ?_)
          · replace hf := (if_pos c36).symm.trans hf
            refine lv_iconst (v := iN 0) hx hb dX7_isBehind_105 rfl ?_
            refine lv_istore_n (lv' := [(3, .int (iN 0)), (8, .int (iN 0)), (7, .int (iN (σ 5 ((6 * x2) + v3)))), (6, .int (iN (σ 5 ((6 * x1) + v3)))), (0, .ref (a 0)), (1, .int (iN x1)), (2, .int (iN x2)), (4, .int (iN v2)), (5, .int (iN v3))]) hx hb dX7_isBehind_106 rfl hl (by decide) rfl (fun ls hl => ?_)
            refine lv_iload hx hb dX7_isBehind_107 (lv_at hl 7 rfl) ?_
            refine x_if_ne (tgt := 117) hx hb rv2 dX7_isBehind_109 (by decide) (fun c13 => ?_) (fun c13 => ?_)
            · replace hf := (if_neg c13).symm.trans hf
              refine lv_iconst (v := iN 1) hx hb dX7_isBehind_117 rfl ?_
              refine lv_goto (tgt := 122) hx hb dX7_isBehind_118 (by decide) ?_
              refine lv_istore (lv' := [(4, .int (iN 1)), (3, .int (iN 0)), (8, .int (iN 0)), (7, .int (iN (σ 5 ((6 * x2) + v3)))), (6, .int (iN (σ 5 ((6 * x1) + v3)))), (0, .ref (a 0)), (1, .int (iN x1)), (2, .int (iN x2)), (5, .int (iN v3))]) hx hb dX7_isBehind_122 hl (by decide) rfl (fun ls hl => ?_)
              obtain ⟨g10, hf⟩ := gd hf
              refine lv_iinc (v := iN (v3 + 1)) (lv' := [(5, .int (iN (v3 + 1))), (4, .int (iN 1)), (3, .int (iN 0)), (8, .int (iN 0)), (7, .int (iN (σ 5 ((6 * x2) + v3)))), (6, .int (iN (σ 5 ((6 * x1) + v3)))), (0, .ref (a 0)), (1, .int (iN x1)), (2, .int (iN x2))]) hx hb dX7_isBehind_124 hl (k := 8) rfl (iN_add v3 1) (by decide) rfl (fun ls hl => ?_)
              refine lv_goto (tgt := 8) hx hb dX7_isBehind_127 (by decide) ?_
              exact ih0 _ _ _ (by decide) (by decide) g10 hf _ (lv_sub hl [6, 7, 8, 2, 1, 0] rfl)
            · replace hf := (if_pos c13).symm.trans hf
              refine lv_iload hx hb dX7_isBehind_112 (lv_at hl 1 rfl) ?_
              refine x_if_ne (tgt := 121) hx hb (by decide) dX7_isBehind_114 (by decide) (fun c12 => ?_) (fun c12 => ?_)
              · exact absurd c12 (by decide)
              · refine lv_iconst (v := iN 1) hx hb dX7_isBehind_117 rfl ?_
                refine lv_goto (tgt := 122) hx hb dX7_isBehind_118 (by decide) ?_
                refine lv_istore (lv' := [(4, .int (iN 1)), (3, .int (iN 0)), (8, .int (iN 0)), (7, .int (iN (σ 5 ((6 * x2) + v3)))), (6, .int (iN (σ 5 ((6 * x1) + v3)))), (0, .ref (a 0)), (1, .int (iN x1)), (2, .int (iN x2)), (5, .int (iN v3))]) hx hb dX7_isBehind_122 hl (by decide) rfl (fun ls hl => ?_)
                obtain ⟨g11, hf⟩ := gd hf
                refine lv_iinc (v := iN (v3 + 1)) (lv' := [(5, .int (iN (v3 + 1))), (4, .int (iN 1)), (3, .int (iN 0)), (8, .int (iN 0)), (7, .int (iN (σ 5 ((6 * x2) + v3)))), (6, .int (iN (σ 5 ((6 * x1) + v3)))), (0, .ref (a 0)), (1, .int (iN x1)), (2, .int (iN x2))]) hx hb dX7_isBehind_124 hl (k := 8) rfl (iN_add v3 1) (by decide) rfl (fun ls hl => ?_)
                refine lv_goto (tgt := 8) hx hb dX7_isBehind_127 (by decide) ?_
                exact ih0 _ _ _ (by decide) (by decide) g11 hf _ (lv_sub hl [6, 7, 8, 2, 1, 0] rfl)
          · replace hf := (if_neg c36).symm.trans hf
            refine lv_iload hx hb dX7_isBehind_63 (lv_at hl 0 rfl) ?_
            refine x_if_ne (tgt := 101) hx hb (by decide) dX7_isBehind_65 (by decide) (fun c35 => ?_) (fun c35 => ?_)
            · exact absurd c35 (by decide)
            · refine lv_iload hx hb dX7_isBehind_68 (lv_at hl 2 rfl) ?_
              refine lv_iconst (v := iN (-1)) hx hb dX7_isBehind_70 rfl ?_
              refine x_icmp_eq (tgt := 105) hx hb (hR 5 ((6 * x1) + v3)) (by decide) dX7_isBehind_71 (by decide) (fun c34 => ?_) (fun c34 => ?_)
              · replace hf := (if_pos c34).symm.trans hf
                refine lv_iconst (v := iN 0) hx hb dX7_isBehind_105 rfl ?_
                refine lv_istore_n (lv' := [(3, .int (iN 0)), (8, .int (iN 0)), (7, .int (iN (σ 5 ((6 * x2) + v3)))), (6, .int (iN (σ 5 ((6 * x1) + v3)))), (0, .ref (a 0)), (1, .int (iN x1)), (2, .int (iN x2)), (4, .int (iN v2)), (5, .int (iN v3))]) hx hb dX7_isBehind_106 rfl hl (by decide) rfl (fun ls hl => ?_)
                refine lv_iload hx hb dX7_isBehind_107 (lv_at hl 7 rfl) ?_
                refine x_if_ne (tgt := 117) hx hb rv2 dX7_isBehind_109 (by decide) (fun c17 => ?_) (fun c17 => ?_)
                · replace hf := (if_neg c17).symm.trans hf
                  refine lv_iconst (v := iN 1) hx hb dX7_isBehind_117 rfl ?_
                  refine lv_goto (tgt := 122) hx hb dX7_isBehind_118 (by decide) ?_
                  refine lv_istore (lv' := [(4, .int (iN 1)), (3, .int (iN 0)), (8, .int (iN 0)), (7, .int (iN (σ 5 ((6 * x2) + v3)))), (6, .int (iN (σ 5 ((6 * x1) + v3)))), (0, .ref (a 0)), (1, .int (iN x1)), (2, .int (iN x2)), (5, .int (iN v3))]) hx hb dX7_isBehind_122 hl (by decide) rfl (fun ls hl => ?_)
                  obtain ⟨g14, hf⟩ := gd hf
                  refine lv_iinc (v := iN (v3 + 1)) (lv' := [(5, .int (iN (v3 + 1))), (4, .int (iN 1)), (3, .int (iN 0)), (8, .int (iN 0)), (7, .int (iN (σ 5 ((6 * x2) + v3)))), (6, .int (iN (σ 5 ((6 * x1) + v3)))), (0, .ref (a 0)), (1, .int (iN x1)), (2, .int (iN x2))]) hx hb dX7_isBehind_124 hl (k := 8) rfl (iN_add v3 1) (by decide) rfl (fun ls hl => ?_)
                  refine lv_goto (tgt := 8) hx hb dX7_isBehind_127 (by decide) ?_
                  exact ih0 _ _ _ (by decide) (by decide) g14 hf _ (lv_sub hl [6, 7, 8, 2, 1, 0] rfl)
                · replace hf := (if_pos c17).symm.trans hf
                  refine lv_iload hx hb dX7_isBehind_112 (lv_at hl 1 rfl) ?_
                  refine x_if_ne (tgt := 121) hx hb (by decide) dX7_isBehind_114 (by decide) (fun c16 => ?_) (fun c16 => ?_)
                  · exact absurd c16 (by decide)
                  · refine lv_iconst (v := iN 1) hx hb dX7_isBehind_117 rfl ?_
                    refine lv_goto (tgt := 122) hx hb dX7_isBehind_118 (by decide) ?_
                    refine lv_istore (lv' := [(4, .int (iN 1)), (3, .int (iN 0)), (8, .int (iN 0)), (7, .int (iN (σ 5 ((6 * x2) + v3)))), (6, .int (iN (σ 5 ((6 * x1) + v3)))), (0, .ref (a 0)), (1, .int (iN x1)), (2, .int (iN x2)), (5, .int (iN v3))]) hx hb dX7_isBehind_122 hl (by decide) rfl (fun ls hl => ?_)
                    obtain ⟨g15, hf⟩ := gd hf
                    refine lv_iinc (v := iN (v3 + 1)) (lv' := [(5, .int (iN (v3 + 1))), (4, .int (iN 1)), (3, .int (iN 0)), (8, .int (iN 0)), (7, .int (iN (σ 5 ((6 * x2) + v3)))), (6, .int (iN (σ 5 ((6 * x1) + v3)))), (0, .ref (a 0)), (1, .int (iN x1)), (2, .int (iN x2))]) hx hb dX7_isBehind_124 hl (k := 8) rfl (iN_add v3 1) (by decide) rfl (fun ls hl => ?_)
                    refine lv_goto (tgt := 8) hx hb dX7_isBehind_127 (by decide) ?_
                    exact ih0 _ _ _ (by decide) (by decide) g15 hf _ (lv_sub hl [6, 7, 8, 2, 1, 0] rfl)
              · replace hf := (if_neg c34).symm.trans hf
                refine lv_iload hx hb dX7_isBehind_74 (lv_at hl 1 rfl) ?_
                refine lv_iconst (v := iN (-1)) hx hb dX7_isBehind_76 rfl ?_
                refine x_icmp_eq (tgt := 105) hx hb (hR 5 ((6 * x2) + v3)) (by decide) dX7_isBehind_77 (by decide) (fun c33 => ?_) (fun c33 => ?_)
                · replace hf := (if_pos c33).symm.trans hf
                  refine lv_iconst (v := iN 0) hx hb dX7_isBehind_105 rfl ?_
                  refine lv_istore_n (lv' := [(3, .int (iN 0)), (8, .int (iN 0)), (7, .int (iN (σ 5 ((6 * x2) + v3)))), (6, .int (iN (σ 5 ((6 * x1) + v3)))), (0, .ref (a 0)), (1, .int (iN x1)), (2, .int (iN x2)), (4, .int (iN v2)), (5, .int (iN v3))]) hx hb dX7_isBehind_106 rfl hl (by decide) rfl (fun ls hl => ?_)
                  refine lv_iload hx hb dX7_isBehind_107 (lv_at hl 7 rfl) ?_
                  refine x_if_ne (tgt := 117) hx hb rv2 dX7_isBehind_109 (by decide) (fun c21 => ?_) (fun c21 => ?_)
                  · replace hf := (if_neg c21).symm.trans hf
                    refine lv_iconst (v := iN 1) hx hb dX7_isBehind_117 rfl ?_
                    refine lv_goto (tgt := 122) hx hb dX7_isBehind_118 (by decide) ?_
                    refine lv_istore (lv' := [(4, .int (iN 1)), (3, .int (iN 0)), (8, .int (iN 0)), (7, .int (iN (σ 5 ((6 * x2) + v3)))), (6, .int (iN (σ 5 ((6 * x1) + v3)))), (0, .ref (a 0)), (1, .int (iN x1)), (2, .int (iN x2)), (5, .int (iN v3))]) hx hb dX7_isBehind_122 hl (by decide) rfl (fun ls hl => ?_)
                    obtain ⟨g18, hf⟩ := gd hf
                    refine lv_iinc (v := iN (v3 + 1)) (lv' := [(5, .int (iN (v3 + 1))), (4, .int (iN 1)), (3, .int (iN 0)), (8, .int (iN 0)), (7, .int (iN (σ 5 ((6 * x2) + v3)))), (6, .int (iN (σ 5 ((6 * x1) + v3)))), (0, .ref (a 0)), (1, .int (iN x1)), (2, .int (iN x2))]) hx hb dX7_isBehind_124 hl (k := 8) rfl (iN_add v3 1) (by decide) rfl (fun ls hl => ?_)
                    refine lv_goto (tgt := 8) hx hb dX7_isBehind_127 (by decide) ?_
                    exact ih0 _ _ _ (by decide) (by decide) g18 hf _ (lv_sub hl [6, 7, 8, 2, 1, 0] rfl)
                  · replace hf := (if_pos c21).symm.trans hf
                    refine lv_iload hx hb dX7_isBehind_112 (lv_at hl 1 rfl) ?_
                    refine x_if_ne (tgt := 121) hx hb (by decide) dX7_isBehind_114 (by decide) (fun c20 => ?_) (fun c20 => ?_)
                    · exact absurd c20 (by decide)
                    · refine lv_iconst (v := iN 1) hx hb dX7_isBehind_117 rfl ?_
                      refine lv_goto (tgt := 122) hx hb dX7_isBehind_118 (by decide) ?_
                      refine lv_istore (lv' := [(4, .int (iN 1)), (3, .int (iN 0)), (8, .int (iN 0)), (7, .int (iN (σ 5 ((6 * x2) + v3)))), (6, .int (iN (σ 5 ((6 * x1) + v3)))), (0, .ref (a 0)), (1, .int (iN x1)), (2, .int (iN x2)), (5, .int (iN v3))]) hx hb dX7_isBehind_122 hl (by decide) rfl (fun ls hl => ?_)
                      obtain ⟨g19, hf⟩ := gd hf
                      refine lv_iinc (v := iN (v3 + 1)) (lv' := [(5, .int (iN (v3 + 1))), (4, .int (iN 1)), (3, .int (iN 0)), (8, .int (iN 0)), (7, .int (iN (σ 5 ((6 * x2) + v3)))), (6, .int (iN (σ 5 ((6 * x1) + v3)))), (0, .ref (a 0)), (1, .int (iN x1)), (2, .int (iN x2))]) hx hb dX7_isBehind_124 hl (k := 8) rfl (iN_add v3 1) (by decide) rfl (fun ls hl => ?_)
                      refine lv_goto (tgt := 8) hx hb dX7_isBehind_127 (by decide) ?_
                      exact ih0 _ _ _ (by decide) (by decide) g19 hf _ (lv_sub hl [6, 7, 8, 2, 1, 0] rfl)
                · replace hf := (if_neg c33).symm.trans hf
                  refine lv_aload_n hx hb dX7_isBehind_80 rfl (lv_at hl 3 rfl) ?_
                  refine lv_iconst (v := iN 0) hx hb dX7_isBehind_81 rfl ?_
                  refine lv_iload hx hb dX7_isBehind_82 (lv_at hl 8 rfl) ?_
                  refine lv_iload hx hb dX7_isBehind_84 (lv_at hl 2 rfl) ?_
                  obtain ⟨v22, hv22, hf⟩ := bd hf
                  refine x_callP (va_runV (As := [.int (iN 0), .int (iN v3), .int (iN (σ 5 ((6 * x1) + v3)))]) (rest := []) ⟨hx, hb, hml, hown, hts⟩ (kX7_place_0 l dC dI cI a σ 0 v3 (σ 5 ((6 * x1) + v3)) v22 hv22 hR (by decide) rv3 (hR 5 ((6 * x1) + v3))) (cwV 3 hts gX7_isBehind_X7_place rfl rfl rfl hX7_place_d ⟨Nat.le_trans (by decide) hrm.1, Nat.le_trans (by decide) hrm.2⟩) (pvM 0 (by decide) (mE_0 cI a (_)) rfl hP hK) rfl rfl hl.1 rfl (lv_room (Nat.le_of_ble_eq_true rfl)) dX7_isBehind_86 ⟨Nat.zero_le _, Nat.zero_le _⟩) (fun rv22 => ?_)
                  refine lv_aload_n hx hb dX7_isBehind_89 rfl (lv_at hl 3 rfl) ?_
                  refine lv_iconst (v := iN 0) hx hb dX7_isBehind_90 rfl ?_
                  refine lv_iload hx hb dX7_isBehind_91 (lv_at hl 8 rfl) ?_
                  refine lv_iload hx hb dX7_isBehind_93 (lv_at hl 1 rfl) ?_
                  obtain ⟨v23, hv23, hf⟩ := bd hf
                  refine x_callP (va_runV (As := [.int (iN 0), .int (iN v3), .int (iN (σ 5 ((6 * x2) + v3)))]) (rest := [.int (iN v22)]) ⟨hx, hb, hml, hown, hts⟩ (kX7_place_0 l dC dI cI a σ 0 v3 (σ 5 ((6 * x2) + v3)) v23 hv23 hR (by decide) rv3 (hR 5 ((6 * x2) + v3))) (cwV 3 hts gX7_isBehind_X7_place rfl rfl rfl hX7_place_d ⟨Nat.le_trans (by decide) hrm.1, Nat.le_trans (by decide) hrm.2⟩) (pvM 0 (by decide) (mE_0 cI a (_)) rfl hP hK) rfl rfl hl.1 rfl (lv_room (Nat.le_of_ble_eq_true rfl)) dX7_isBehind_95 ⟨Nat.zero_le _, Nat.zero_le _⟩) (fun rv23 => ?_)
                  refine x_icmp_ge (tgt := 105) hx hb rv22 rv23 dX7_isBehind_98 (by decide) (fun c32 => ?_) (fun c32 => ?_)
                  · replace hf := (if_neg c32).symm.trans hf
                    refine lv_iconst (v := iN 0) hx hb dX7_isBehind_105 rfl ?_
                    refine lv_istore_n (lv' := [(3, .int (iN 0)), (8, .int (iN 0)), (7, .int (iN (σ 5 ((6 * x2) + v3)))), (6, .int (iN (σ 5 ((6 * x1) + v3)))), (0, .ref (a 0)), (1, .int (iN x1)), (2, .int (iN x2)), (4, .int (iN v2)), (5, .int (iN v3))]) hx hb dX7_isBehind_106 rfl hl (by decide) rfl (fun ls hl => ?_)
                    refine lv_iload hx hb dX7_isBehind_107 (lv_at hl 7 rfl) ?_
                    refine x_if_ne (tgt := 117) hx hb rv2 dX7_isBehind_109 (by decide) (fun c27 => ?_) (fun c27 => ?_)
                    · replace hf := (if_neg c27).symm.trans hf
                      refine lv_iconst (v := iN 1) hx hb dX7_isBehind_117 rfl ?_
                      refine lv_goto (tgt := 122) hx hb dX7_isBehind_118 (by decide) ?_
                      refine lv_istore (lv' := [(4, .int (iN 1)), (3, .int (iN 0)), (8, .int (iN 0)), (7, .int (iN (σ 5 ((6 * x2) + v3)))), (6, .int (iN (σ 5 ((6 * x1) + v3)))), (0, .ref (a 0)), (1, .int (iN x1)), (2, .int (iN x2)), (5, .int (iN v3))]) hx hb dX7_isBehind_122 hl (by decide) rfl (fun ls hl => ?_)
                      obtain ⟨g24, hf⟩ := gd hf
                      refine lv_iinc (v := iN (v3 + 1)) (lv' := [(5, .int (iN (v3 + 1))), (4, .int (iN 1)), (3, .int (iN 0)), (8, .int (iN 0)), (7, .int (iN (σ 5 ((6 * x2) + v3)))), (6, .int (iN (σ 5 ((6 * x1) + v3)))), (0, .ref (a 0)), (1, .int (iN x1)), (2, .int (iN x2))]) hx hb dX7_isBehind_124 hl (k := 8) rfl (iN_add v3 1) (by decide) rfl (fun ls hl => ?_)
                      refine lv_goto (tgt := 8) hx hb dX7_isBehind_127 (by decide) ?_
                      exact ih0 _ _ _ (by decide) (by decide) g24 hf _ (lv_sub hl [6, 7, 8, 2, 1, 0] rfl)
                    · replace hf := (if_pos c27).symm.trans hf
                      refine lv_iload hx hb dX7_isBehind_112 (lv_at hl 1 rfl) ?_
                      refine x_if_ne (tgt := 121) hx hb (by decide) dX7_isBehind_114 (by decide) (fun c26 => ?_) (fun c26 => ?_)
                      · exact absurd c26 (by decide)
                      · refine lv_iconst (v := iN 1) hx hb dX7_isBehind_117 rfl ?_
                        refine lv_goto (tgt := 122) hx hb dX7_isBehind_118 (by decide) ?_
                        refine lv_istore (lv' := [(4, .int (iN 1)), (3, .int (iN 0)), (8, .int (iN 0)), (7, .int (iN (σ 5 ((6 * x2) + v3)))), (6, .int (iN (σ 5 ((6 * x1) + v3)))), (0, .ref (a 0)), (1, .int (iN x1)), (2, .int (iN x2)), (5, .int (iN v3))]) hx hb dX7_isBehind_122 hl (by decide) rfl (fun ls hl => ?_)
                        obtain ⟨g25, hf⟩ := gd hf
                        refine lv_iinc (v := iN (v3 + 1)) (lv' := [(5, .int (iN (v3 + 1))), (4, .int (iN 1)), (3, .int (iN 0)), (8, .int (iN 0)), (7, .int (iN (σ 5 ((6 * x2) + v3)))), (6, .int (iN (σ 5 ((6 * x1) + v3)))), (0, .ref (a 0)), (1, .int (iN x1)), (2, .int (iN x2))]) hx hb dX7_isBehind_124 hl (k := 8) rfl (iN_add v3 1) (by decide) rfl (fun ls hl => ?_)
                        refine lv_goto (tgt := 8) hx hb dX7_isBehind_127 (by decide) ?_
                        exact ih0 _ _ _ (by decide) (by decide) g25 hf _ (lv_sub hl [6, 7, 8, 2, 1, 0] rfl)
                  · replace hf := (if_pos c32).symm.trans hf
                    refine lv_iconst (v := iN 1) hx hb dX7_isBehind_101 rfl ?_
                    refine lv_goto (tgt := 106) hx hb dX7_isBehind_102 (by decide) ?_
                    refine lv_istore_n (lv' := [(3, .int (iN 1)), (8, .int (iN 0)), (7, .int (iN (σ 5 ((6 * x2) + v3)))), (6, .int (iN (σ 5 ((6 * x1) + v3)))), (0, .ref (a 0)), (1, .int (iN x1)), (2, .int (iN x2)), (4, .int (iN v2)), (5, .int (iN v3))]) hx hb dX7_isBehind_106 rfl hl (by decide) rfl (fun ls hl => ?_)
                    refine lv_iload hx hb dX7_isBehind_107 (lv_at hl 7 rfl) ?_
                    refine x_if_ne (tgt := 117) hx hb rv2 dX7_isBehind_109 (by decide) (fun c31 => ?_) (fun c31 => ?_)
                    · replace hf := (if_neg c31).symm.trans hf
                      refine lv_iconst (v := iN 1) hx hb dX7_isBehind_117 rfl ?_
                      refine lv_goto (tgt := 122) hx hb dX7_isBehind_118 (by decide) ?_
                      refine lv_istore (lv' := [(4, .int (iN 1)), (3, .int (iN 1)), (8, .int (iN 0)), (7, .int (iN (σ 5 ((6 * x2) + v3)))), (6, .int (iN (σ 5 ((6 * x1) + v3)))), (0, .ref (a 0)), (1, .int (iN x1)), (2, .int (iN x2)), (5, .int (iN v3))]) hx hb dX7_isBehind_122 hl (by decide) rfl (fun ls hl => ?_)
                      obtain ⟨g28, hf⟩ := gd hf
                      refine lv_iinc (v := iN (v3 + 1)) (lv' := [(5, .int (iN (v3 + 1))), (4, .int (iN 1)), (3, .int (iN 1)), (8, .int (iN 0)), (7, .int (iN (σ 5 ((6 * x2) + v3)))), (6, .int (iN (σ 5 ((6 * x1) + v3)))), (0, .ref (a 0)), (1, .int (iN x1)), (2, .int (iN x2))]) hx hb dX7_isBehind_124 hl (k := 8) rfl (iN_add v3 1) (by decide) rfl (fun ls hl => ?_)
                      refine lv_goto (tgt := 8) hx hb dX7_isBehind_127 (by decide) ?_
                      exact ih0 _ _ _ (by decide) (by decide) g28 hf _ (lv_sub hl [6, 7, 8, 2, 1, 0] rfl)
                    · replace hf := (if_pos c31).symm.trans hf
                      refine lv_iload hx hb dX7_isBehind_112 (lv_at hl 1 rfl) ?_
                      refine x_if_ne (tgt := 121) hx hb (by decide) dX7_isBehind_114 (by decide) (fun c30 => ?_) (fun c30 => ?_)
                      · exact absurd c30 (by decide)
                      · refine lv_iconst (v := iN 1) hx hb dX7_isBehind_117 rfl ?_
                        refine lv_goto (tgt := 122) hx hb dX7_isBehind_118 (by decide) ?_
                        refine lv_istore (lv' := [(4, .int (iN 1)), (3, .int (iN 1)), (8, .int (iN 0)), (7, .int (iN (σ 5 ((6 * x2) + v3)))), (6, .int (iN (σ 5 ((6 * x1) + v3)))), (0, .ref (a 0)), (1, .int (iN x1)), (2, .int (iN x2)), (5, .int (iN v3))]) hx hb dX7_isBehind_122 hl (by decide) rfl (fun ls hl => ?_)
                        obtain ⟨g29, hf⟩ := gd hf
                        refine lv_iinc (v := iN (v3 + 1)) (lv' := [(5, .int (iN (v3 + 1))), (4, .int (iN 1)), (3, .int (iN 1)), (8, .int (iN 0)), (7, .int (iN (σ 5 ((6 * x2) + v3)))), (6, .int (iN (σ 5 ((6 * x1) + v3)))), (0, .ref (a 0)), (1, .int (iN x1)), (2, .int (iN x2))]) hx hb dX7_isBehind_124 hl (k := 8) rfl (iN_add v3 1) (by decide) rfl (fun ls hl => ?_)
                        refine lv_goto (tgt := 8) hx hb dX7_isBehind_127 (by decide) ?_
                        exact ih0 _ _ _ (by decide) (by decide) g29 hf _ (lv_sub hl [6, 7, 8, 2, 1, 0] rfl)
        · replace hf := (if_pos c47).symm.trans hf
          refine lv_iconst (v := iN 1) hx hb dX7_isBehind_52 rfl ?_
          refine lv_goto (tgt := 57) hx hb dX7_isBehind_53 (by decide) ?_
          refine lv_istore (lv' := [(8, .int (iN 1)), (7, .int (iN (σ 5 ((6 * x2) + v3)))), (6, .int (iN (σ 5 ((6 * x1) + v3)))), (0, .ref (a 0)), (1, .int (iN x1)), (2, .int (iN x2)), (3, .int (iN v1)), (4, .int (iN v2)), (5, .int (iN v3))]) hx hb dX7_isBehind_57 hl (by decide) rfl (fun ls hl => ?_)
          refine lv_iload_n hx hb dX7_isBehind_59 rfl (lv_at hl 6 rfl) ?_
          refine x_if_eq (tgt := 105) hx hb rv1 dX7_isBehind_60 (by decide) (fun c46 => ?_) (fun c46 => ?_)
          · replace hf := (if_pos c46).symm.trans hf
            refine lv_iconst (v := iN 0) hx hb dX7_isBehind_105 rfl ?_
            refine lv_istore_n (lv' := [(3, .int (iN 0)), (8, .int (iN 1)), (7, .int (iN (σ 5 ((6 * x2) + v3)))), (6, .int (iN (σ 5 ((6 * x1) + v3)))), (0, .ref (a 0)), (1, .int (iN x1)), (2, .int (iN x2)), (4, .int (iN v2)), (5, .int (iN v3))]) hx hb dX7_isBehind_106 rfl hl (by decide) rfl (fun ls hl => ?_)
            refine lv_iload hx hb dX7_isBehind_107 (lv_at hl 7 rfl) ?_
            refine x_if_ne (tgt := 117) hx hb rv2 dX7_isBehind_109 (by decide) (fun c40 => ?_) (fun c40 => ?_)
            · replace hf := (if_neg c40).symm.trans hf
              refine lv_iconst (v := iN 1) hx hb dX7_isBehind_117 rfl ?_
              refine lv_goto (tgt := 122) hx hb dX7_isBehind_118 (by decide) ?_
              refine lv_istore (lv' := [(4, .int (iN 1)), (3, .int (iN 0)), (8, .int (iN 1)), (7, .int (iN (σ 5 ((6 * x2) + v3)))), (6, .int (iN (σ 5 ((6 * x1) + v3)))), (0, .ref (a 0)), (1, .int (iN x1)), (2, .int (iN x2)), (5, .int (iN v3))]) hx hb dX7_isBehind_122 hl (by decide) rfl (fun ls hl => ?_)
              obtain ⟨g37, hf⟩ := gd hf
              refine lv_iinc (v := iN (v3 + 1)) (lv' := [(5, .int (iN (v3 + 1))), (4, .int (iN 1)), (3, .int (iN 0)), (8, .int (iN 1)), (7, .int (iN (σ 5 ((6 * x2) + v3)))), (6, .int (iN (σ 5 ((6 * x1) + v3)))), (0, .ref (a 0)), (1, .int (iN x1)), (2, .int (iN x2))]) hx hb dX7_isBehind_124 hl (k := 8) rfl (iN_add v3 1) (by decide) rfl (fun ls hl => ?_)
              refine lv_goto (tgt := 8) hx hb dX7_isBehind_127 (by decide) ?_
              exact ih0 _ _ _ (by decide) (by decide) g37 hf _ (lv_sub hl [6, 7, 8, 2, 1, 0] rfl)
            · replace hf := (if_pos c40).symm.trans hf
              refine lv_iload hx hb dX7_isBehind_112 (lv_at hl 1 rfl) ?_
              refine x_if_ne (tgt := 121) hx hb (by decide) dX7_isBehind_114 (by decide) (fun c39 => ?_) (fun c39 => ?_)
              · refine lv_iconst (v := iN 0) hx hb dX7_isBehind_121 rfl ?_
                refine lv_istore (lv' := [(4, .int (iN 0)), (3, .int (iN 0)), (8, .int (iN 1)), (7, .int (iN (σ 5 ((6 * x2) + v3)))), (6, .int (iN (σ 5 ((6 * x1) + v3)))), (0, .ref (a 0)), (1, .int (iN x1)), (2, .int (iN x2)), (5, .int (iN v3))]) hx hb dX7_isBehind_122 hl (by decide) rfl (fun ls hl => ?_)
                obtain ⟨g38, hf⟩ := gd hf
                refine lv_iinc (v := iN (v3 + 1)) (lv' := [(5, .int (iN (v3 + 1))), (4, .int (iN 0)), (3, .int (iN 0)), (8, .int (iN 1)), (7, .int (iN (σ 5 ((6 * x2) + v3)))), (6, .int (iN (σ 5 ((6 * x1) + v3)))), (0, .ref (a 0)), (1, .int (iN x1)), (2, .int (iN x2))]) hx hb dX7_isBehind_124 hl (k := 8) rfl (iN_add v3 1) (by decide) rfl (fun ls hl => ?_)
                refine lv_goto (tgt := 8) hx hb dX7_isBehind_127 (by decide) ?_
                exact ih0 _ _ _ (by decide) (by decide) g38 hf _ (lv_sub hl [6, 7, 8, 2, 1, 0] rfl)
              · exact absurd c39 (by decide)
          · replace hf := (if_neg c46).symm.trans hf
            refine lv_iload hx hb dX7_isBehind_63 (lv_at hl 0 rfl) ?_
            refine x_if_ne (tgt := 101) hx hb (by decide) dX7_isBehind_65 (by decide) (fun c45 => ?_) (fun c45 => ?_)
            · refine lv_iconst (v := iN 1) hx hb dX7_isBehind_101 rfl ?_
              refine lv_goto (tgt := 106) hx hb dX7_isBehind_102 (by decide) ?_
              refine lv_istore_n (lv' := [(3, .int (iN 1)), (8, .int (iN 1)), (7, .int (iN (σ 5 ((6 * x2) + v3)))), (6, .int (iN (σ 5 ((6 * x1) + v3)))), (0, .ref (a 0)), (1, .int (iN x1)), (2, .int (iN x2)), (4, .int (iN v2)), (5, .int (iN v3))]) hx hb dX7_isBehind_106 rfl hl (by decide) rfl (fun ls hl => ?_)
              refine lv_iload hx hb dX7_isBehind_107 (lv_at hl 7 rfl) ?_
              refine x_if_ne (tgt := 117) hx hb rv2 dX7_isBehind_109 (by decide) (fun c44 => ?_) (fun c44 => ?_)
              · replace hf := (if_neg c44).symm.trans hf
                refine lv_iconst (v := iN 1) hx hb dX7_isBehind_117 rfl ?_
                refine lv_goto (tgt := 122) hx hb dX7_isBehind_118 (by decide) ?_
                refine lv_istore (lv' := [(4, .int (iN 1)), (3, .int (iN 1)), (8, .int (iN 1)), (7, .int (iN (σ 5 ((6 * x2) + v3)))), (6, .int (iN (σ 5 ((6 * x1) + v3)))), (0, .ref (a 0)), (1, .int (iN x1)), (2, .int (iN x2)), (5, .int (iN v3))]) hx hb dX7_isBehind_122 hl (by decide) rfl (fun ls hl => ?_)
                obtain ⟨g41, hf⟩ := gd hf
                refine lv_iinc (v := iN (v3 + 1)) (lv' := [(5, .int (iN (v3 + 1))), (4, .int (iN 1)), (3, .int (iN 1)), (8, .int (iN 1)), (7, .int (iN (σ 5 ((6 * x2) + v3)))), (6, .int (iN (σ 5 ((6 * x1) + v3)))), (0, .ref (a 0)), (1, .int (iN x1)), (2, .int (iN x2))]) hx hb dX7_isBehind_124 hl (k := 8) rfl (iN_add v3 1) (by decide) rfl (fun ls hl => ?_)
                refine lv_goto (tgt := 8) hx hb dX7_isBehind_127 (by decide) ?_
                exact ih0 _ _ _ (by decide) (by decide) g41 hf _ (lv_sub hl [6, 7, 8, 2, 1, 0] rfl)
              · replace hf := (if_pos c44).symm.trans hf
                refine lv_iload hx hb dX7_isBehind_112 (lv_at hl 1 rfl) ?_
                refine x_if_ne (tgt := 121) hx hb (by decide) dX7_isBehind_114 (by decide) (fun c43 => ?_) (fun c43 => ?_)
                · refine lv_iconst (v := iN 0) hx hb dX7_isBehind_121 rfl ?_
                  refine lv_istore (lv' := [(4, .int (iN 0)), (3, .int (iN 1)), (8, .int (iN 1)), (7, .int (iN (σ 5 ((6 * x2) + v3)))), (6, .int (iN (σ 5 ((6 * x1) + v3)))), (0, .ref (a 0)), (1, .int (iN x1)), (2, .int (iN x2)), (5, .int (iN v3))]) hx hb dX7_isBehind_122 hl (by decide) rfl (fun ls hl => ?_)
                  obtain ⟨g42, hf⟩ := gd hf
                  refine lv_iinc (v := iN (v3 + 1)) (lv' := [(5, .int (iN (v3 + 1))), (4, .int (iN 0)), (3, .int (iN 1)), (8, .int (iN 1)), (7, .int (iN (σ 5 ((6 * x2) + v3)))), (6, .int (iN (σ 5 ((6 * x1) + v3)))), (0, .ref (a 0)), (1, .int (iN x1)), (2, .int (iN x2))]) hx hb dX7_isBehind_124 hl (k := 8) rfl (iN_add v3 1) (by decide) rfl (fun ls hl => ?_)
                  refine lv_goto (tgt := 8) hx hb dX7_isBehind_127 (by decide) ?_
                  exact ih0 _ _ _ (by decide) (by decide) g42 hf _ (lv_sub hl [6, 7, 8, 2, 1, 0] rfl)
                · exact absurd c43 (by decide)
            · exact absurd c45 (by decide)
  refine L_fX7_isBehind_0_L8 _ (fun v49 v50 v51 rv49 rv50 rv51 hf ls hl => ?_) _ _ _ _ (by decide) (by decide) (by decide) hf _ (lv_sub hl [3, 4, 5, 2, 1, 0] rfl)
  refine lv_iload_n hx hb dX7_isBehind_130 rfl (lv_at hl 3 rfl) ?_
  refine x_if_eq (tgt := 143) hx hb rv49 dX7_isBehind_131 (by decide) (fun c53 => ?_) (fun c53 => ?_)
  · replace hf := (if_pos c53).symm.trans hf
    refine lv_iconst (v := iN 0) hx hb dX7_isBehind_143 rfl ?_
    rw [← hQQ]
    exact x_zret hx hb hr (by decide) (Option.some.inj hf) (by decide) hlocks dX7_isBehind_144
  · replace hf := (if_neg c53).symm.trans hf
    refine lv_iload hx hb dX7_isBehind_134 (lv_at hl 4 rfl) ?_
    refine x_if_eq (tgt := 143) hx hb rv50 dX7_isBehind_136 (by decide) (fun c52 => ?_) (fun c52 => ?_)
    · replace hf := (if_pos c52).symm.trans hf
      refine lv_iconst (v := iN 0) hx hb dX7_isBehind_143 rfl ?_
      rw [← hQQ]
      exact x_zret hx hb hr (by decide) (Option.some.inj hf) (by decide) hlocks dX7_isBehind_144
    · replace hf := (if_neg c52).symm.trans hf
      refine lv_iconst (v := iN 1) hx hb dX7_isBehind_139 rfl ?_
      refine lv_goto (tgt := 144) hx hb dX7_isBehind_140 (by decide) ?_
      rw [← hQQ]
      exact x_zret hx hb hr (by decide) (Option.some.inj hf) (by decide) hlocks dX7_isBehind_144
def fX7_behind_0 (σ : Mem) (x1 : Int) (x2 : Int) : Option (Int × Mem) := nx (mup σ 0 0 0) fun σ1 => (fX7_isStable_0 σ1 x1).bind fun v2 => if v2 = 0 then some ((-1), σ1) else (fX7_isStable_0 σ1 x2).bind fun v3 => if v3 = 0 then some ((-1), σ1) else (fX7_isBehind_0 σ1 x1 x2).bind fun v4 => if v4 = 0 then some (0, σ1) else some (1, σ1)
set_option maxHeartbeats 4000000 in
set_option maxRecDepth 100000 in
theorem kX7_behind_0 (l : Launch) (dC : Nat → ClassId) (dI : Nat → Nat → Nat) (cI : ClassId) (a : Nat → Nat) (hi : ∀ i j, i < 12 → j < 12 → a i = a j → i = j) (σ : Mem) (x1 : Int) (x2 : Int) (r : (Int × Mem)) (hf : fX7_behind_0 σ x1 x2 = some r) (hR : Rg σ) (rx1 : rng x1) (rx2 : rng x2) : Met l yX7_behind wsX7_behind ({ frames := 2, cells := 0, slots := 0, locals := 53 }) (va_Pc [.ref (a 0), .int (iN x1), .int (iN x2)] (preM dC dI cI a σ)) (qM (dC, dI) (gw 12 a (mE cI a)) (gA 12 a) r) 0 0 (gA 12 a) := by
  refine Met.ofW (cc := cX7_behind) (maxL := 3) (ret := (some .int)) (by decide) rfl ?_
  intro p e s m args below meth c s₁ B hml hv
  obtain ⟨hargs, hP, hK⟩ := hv
  have hx := B.exec
  have hb := B.bytes
  have hr := B.returns
  have hts := atoms_spec (ws := wsX7_behind) B.pre
  have hown : s.vm.findClass RX7 = some m.cls := findClass_of_methodNamed B.named
  have hlocks := B.notSynchronized
  have hS : va_S (gA 12 a) s.heap s.heap [] := va_S.rf
  have iX7 : ∀ w ∈ wsX70, w ∈ wsX7_behind := by decide +kernel
  have fl58 := hts (.fieldLink RX7 58 "MatchHallModel" "code" "I") (by decide +kernel)
  have hrm : 2 ≤ (headSpec wsX7_behind ({ frames := 2, cells := 0, slots := 0, locals := 53 })).room.frames ∧ 53 ≤ (headSpec wsX7_behind ({ frames := 2, cells := 0, slots := 0, locals := 53 })).room.locals := ⟨Nat.le_refl _, Nat.le_refl _⟩
  generalize (headSpec wsX7_behind ({ frames := 2, cells := 0, slots := 0, locals := 53 })).room = RR at hrm ⊢
  have hl := lv_entry ([.ref (a 0), .int (iN x1), .int (iN x2)]) (n := 3) (Nat.le_of_ble_eq_true rfl)
  rw [show entryFrame m args 3 = entryFrame m ([.ref (a 0), .int (iN x1), .int (iN x2)] : List Value).toArray 3 from by rw [hargs], lg_entry_eq]
  generalize (lg_sl ([.ref (a 0), .int (iN x1), .int (iN x2)]) ++ List.replicate (3 - (lg_sl ([.ref (a 0), .int (iN x1), .int (iN x2)])).length) Slot.unset).toArray = ls at hl ⊢
  have hl : lv_has ls 3 [(0, .ref (a 0)), (1, .int (iN x1)), (2, .int (iN x2))] := hl
  generalize hQQ : MQ below (qM (dC, dI) (gw 12 a (mE cI a)) (gA 12 a) r) args s 0 0 (gA 12 a) = QQ
  refine lv_aload_n hx hb dX7_behind_0 rfl (lv_at hl 0 rfl) ?_
  refine lv_iconst (v := iN 0) hx hb dX7_behind_1 rfl ?_
  obtain ⟨σ1, hσ1, hf⟩ := nxe hf
  refine x_put (C := RX7) (T := TX7) (NF := 17) (x := 0) (ty := .int) hx hb hts iX7 tyX7 tyX7_ok nmX7 hi hown hK hP hS 0 (by decide) (mE_0 cI a (_)) rfl 0 0 (by decide) fl58 rfl (by decide +kernel) rfl rfl (Nat.le_of_ble_eq_true rfl) rfl dX7_behind_2 (fun H locs hP hS => ?_)
  rw [← hσ1] at hP
  have hRσ1 : Rg σ1 := by rw [hσ1]; exact Rg_up hR (by decide)
  refine lv_aload_n hx hb dX7_behind_5 rfl (lv_at hl 0 rfl) ?_
  refine lv_iload_n hx hb dX7_behind_6 rfl (lv_at hl 1 rfl) ?_
  obtain ⟨v2, hv2, hf⟩ := bd hf
  refine x_callP (va_runV (As := [.int (iN x1)]) (rest := []) ⟨hx, hb, hml, hown, hts⟩ (kX7_isStable_0 l dC dI cI a σ1 x1 v2 hv2 hRσ1 rx1) (cwV 1 hts gX7_behind_X7_isStable rfl rfl rfl hX7_isStable_d ⟨Nat.le_trans (by decide) hrm.1, Nat.le_trans (by decide) hrm.2⟩) (pvM 0 (by decide) (mE_0 cI a (_)) rfl hP hK) rfl rfl hl.1 rfl (lv_room (Nat.le_of_ble_eq_true rfl)) dX7_behind_7 ⟨Nat.zero_le _, Nat.zero_le _⟩) (fun rv2 => ?_)
  refine x_if_eq (tgt := 21) hx hb rv2 dX7_behind_10 (by decide) (fun c7 => ?_) (fun c7 => ?_)
  · replace hf := (if_pos c7).symm.trans hf
    refine lv_iconst (v := iN (-1)) hx hb dX7_behind_21 rfl ?_
    refine lv_goto (tgt := 39) hx hb dX7_behind_22 (by decide) ?_
    rw [← hQQ]
    exact x_iretM hx hb hr (Option.some.inj hf) (by decide) hRσ1 hP hS hlocks dX7_behind_39
  · replace hf := (if_neg c7).symm.trans hf
    refine lv_aload_n hx hb dX7_behind_13 rfl (lv_at hl 0 rfl) ?_
    refine lv_iload_n hx hb dX7_behind_14 rfl (lv_at hl 2 rfl) ?_
    obtain ⟨v3, hv3, hf⟩ := bd hf
    refine x_callP (va_runV (As := [.int (iN x2)]) (rest := []) ⟨hx, hb, hml, hown, hts⟩ (kX7_isStable_0 l dC dI cI a σ1 x2 v3 hv3 hRσ1 rx2) (cwV 1 hts gX7_behind_X7_isStable rfl rfl rfl hX7_isStable_d ⟨Nat.le_trans (by decide) hrm.1, Nat.le_trans (by decide) hrm.2⟩) (pvM 0 (by decide) (mE_0 cI a (_)) rfl hP hK) rfl rfl hl.1 rfl (lv_room (Nat.le_of_ble_eq_true rfl)) dX7_behind_15 ⟨Nat.zero_le _, Nat.zero_le _⟩) (fun rv3 => ?_)
    refine x_if_ne (tgt := 25) hx hb rv3 dX7_behind_18 (by decide) (fun c6 => ?_) (fun c6 => ?_)
    · replace hf := (if_neg c6).symm.trans hf
      refine lv_aload_n hx hb dX7_behind_25 rfl (lv_at hl 0 rfl) ?_
      refine lv_iload_n hx hb dX7_behind_26 rfl (lv_at hl 1 rfl) ?_
      refine lv_iload_n hx hb dX7_behind_27 rfl (lv_at hl 2 rfl) ?_
      obtain ⟨v4, hv4, hf⟩ := bd hf
      refine x_callP (va_runV (As := [.int (iN x1), .int (iN x2)]) (rest := []) ⟨hx, hb, hml, hown, hts⟩ (kX7_isBehind_0 l dC dI cI a σ1 x1 x2 v4 hv4 hRσ1 rx1 rx2) (cwV 2 hts gX7_behind_X7_isBehind rfl rfl rfl hX7_isBehind_d ⟨Nat.le_trans (by decide) hrm.1, Nat.le_trans (by decide) hrm.2⟩) (pvM 0 (by decide) (mE_0 cI a (_)) rfl hP hK) rfl rfl hl.1 rfl (lv_room (Nat.le_of_ble_eq_true rfl)) dX7_behind_28 ⟨Nat.zero_le _, Nat.zero_le _⟩) (fun rv4 => ?_)
      refine x_if_eq (tgt := 38) hx hb rv4 dX7_behind_31 (by decide) (fun c5 => ?_) (fun c5 => ?_)
      · replace hf := (if_pos c5).symm.trans hf
        refine lv_iconst (v := iN 0) hx hb dX7_behind_38 rfl ?_
        rw [← hQQ]
        exact x_iretM hx hb hr (Option.some.inj hf) (by decide) hRσ1 hP hS hlocks dX7_behind_39
      · replace hf := (if_neg c5).symm.trans hf
        refine lv_iconst (v := iN 1) hx hb dX7_behind_34 rfl ?_
        refine lv_goto (tgt := 39) hx hb dX7_behind_35 (by decide) ?_
        rw [← hQQ]
        exact x_iretM hx hb hr (Option.some.inj hf) (by decide) hRσ1 hP hS hlocks dX7_behind_39
    · replace hf := (if_pos c6).symm.trans hf
      refine lv_iconst (v := iN (-1)) hx hb dX7_behind_21 rfl ?_
      refine lv_goto (tgt := 39) hx hb dX7_behind_22 (by decide) ?_
      rw [← hQQ]
      exact x_iretM hx hb hr (Option.some.inj hf) (by decide) hRσ1 hP hS hlocks dX7_behind_39
def fX7_isRotation_0 (σ : Mem) (x1 : Int) : Option Int := if (σ 0 7) = 0 then some 0 else if rng ((σ 0 10) - 1) then (fX7_in σ x1 0 ((σ 0 10) - 1)).bind fun v2 => if v2 = 0 then some 0 else some 1 else none
set_option maxHeartbeats 4000000 in
set_option maxRecDepth 100000 in
theorem kX7_isRotation_0 (l : Launch) (dC : Nat → ClassId) (dI : Nat → Nat → Nat) (cI : ClassId) (a : Nat → Nat) (σ : Mem) (x1 : Int) (r : Int) (hf : fX7_isRotation_0 σ x1 = some r) (hR : Rg σ) (rx1 : rng x1) : Met l yX7_isRotation wsX7_isRotation ({ frames := 1, cells := 0, slots := 0, locals := 22 }) (va_Pc [.ref (a 0), .int (iN x1)] (preM dC dI cI a σ)) (qP r) 0 0 (fun _ => False) := by
  refine Met.ofW (cc := cX7_isRotation) (maxL := 2) (ret := (some .boolean)) (by decide) rfl ?_
  intro p e s m args below meth c s₁ B hml hv
  obtain ⟨hargs, hP, hK⟩ := hv
  have hx := B.exec
  have hb := B.bytes
  have hr := B.returns
  have hts := atoms_spec (ws := wsX7_isRotation) B.pre
  have hown : s.vm.findClass RX7 = some m.cls := findClass_of_methodNamed B.named
  have hlocks := B.notSynchronized
  have iX7 : ∀ w ∈ wsX70, w ∈ wsX7_isRotation := by decide +kernel
  have fl102 := hts (.fieldLink RX7 102 "MatchHallModel" "rotations" "I") (by decide +kernel)
  have fl54 := hts (.fieldLink RX7 54 "MatchHallModel" "worked" "Z") (by decide +kernel)
  have hrm : 1 ≤ (headSpec wsX7_isRotation ({ frames := 1, cells := 0, slots := 0, locals := 22 })).room.frames ∧ 22 ≤ (headSpec wsX7_isRotation ({ frames := 1, cells := 0, slots := 0, locals := 22 })).room.locals := ⟨Nat.le_refl _, Nat.le_refl _⟩
  generalize (headSpec wsX7_isRotation ({ frames := 1, cells := 0, slots := 0, locals := 22 })).room = RR at hrm ⊢
  have hl := lv_entry ([.ref (a 0), .int (iN x1)]) (n := 2) (Nat.le_of_ble_eq_true rfl)
  rw [show entryFrame m args 2 = entryFrame m ([.ref (a 0), .int (iN x1)] : List Value).toArray 2 from by rw [hargs], lg_entry_eq]
  generalize (lg_sl ([.ref (a 0), .int (iN x1)]) ++ List.replicate (2 - (lg_sl ([.ref (a 0), .int (iN x1)])).length) Slot.unset).toArray = ls at hl ⊢
  have hl : lv_has ls 2 [(0, .ref (a 0)), (1, .int (iN x1))] := hl
  generalize hQQ : MQ below (qP r) args s 0 0 (fun _ => False) = QQ
  refine lv_aload_n hx hb dX7_isRotation_0 rfl (lv_at hl 0 rfl) ?_
  refine x_get (C := RX7) (T := TX7) (NF := 17) (v := .int (iN (σ 0 7))) hx hb hts iX7 hown hK hP 0 (by decide) (mE_0 cI a (_)) rfl 7 (by decide) fl54 rfl dX7_isRotation_1 ?_
  refine x_if_eq (tgt := 25) hx hb (hR 0 7) dX7_isRotation_4 (by decide) (fun c4 => ?_) (fun c4 => ?_)
  · replace hf := (if_pos c4).symm.trans hf
    refine lv_iconst (v := iN 0) hx hb dX7_isRotation_25 rfl ?_
    rw [← hQQ]
    exact x_zret hx hb hr (by decide) (Option.some.inj hf) (by decide) hlocks dX7_isRotation_26
  · replace hf := (if_neg c4).symm.trans hf
    refine lv_iload_n hx hb dX7_isRotation_7 rfl (lv_at hl 1 rfl) ?_
    refine lv_iconst (v := iN 0) hx hb dX7_isRotation_8 rfl ?_
    refine lv_aload_n hx hb dX7_isRotation_9 rfl (lv_at hl 0 rfl) ?_
    refine x_get (C := RX7) (T := TX7) (NF := 17) (v := .int (iN (σ 0 10))) hx hb hts iX7 hown hK hP 0 (by decide) (mE_0 cI a (_)) rfl 10 (by decide) fl102 rfl dX7_isRotation_10 ?_
    refine lv_iconst (v := iN 1) hx hb dX7_isRotation_13 rfl ?_
    obtain ⟨g1, hf⟩ := gd hf
    refine x_isub hx hb dX7_isRotation_14 ?_
    obtain ⟨v2, hv2, hf⟩ := bd hf
    refine x_callP (va_runS (As := [.int (iN x1), .int (iN 0), .int (iN ((σ 0 10) - 1))]) (rest := []) ⟨hx, hb, hml, hown, hts⟩ (kX7_in l dC dI cI a σ x1 0 ((σ 0 10) - 1) v2 hv2 hR rx1 (by decide) g1) (va_cwS 3 hts gX7_isRotation_X7_in rfl rfl rfl hX7_in_d ⟨Nat.le_trans (by decide) hrm.1, Nat.le_trans (by decide) hrm.2⟩) (psM hP hK) rfl rfl hl.1 rfl (lv_room (Nat.le_of_ble_eq_true rfl)) dX7_isRotation_15 ⟨Nat.zero_le _, Nat.zero_le _⟩) (fun rv2 => ?_)
    refine x_if_eq (tgt := 25) hx hb rv2 dX7_isRotation_18 (by decide) (fun c3 => ?_) (fun c3 => ?_)
    · replace hf := (if_pos c3).symm.trans hf
      refine lv_iconst (v := iN 0) hx hb dX7_isRotation_25 rfl ?_
      rw [← hQQ]
      exact x_zret hx hb hr (by decide) (Option.some.inj hf) (by decide) hlocks dX7_isRotation_26
    · replace hf := (if_neg c3).symm.trans hf
      refine lv_iconst (v := iN 1) hx hb dX7_isRotation_21 rfl ?_
      refine lv_goto (tgt := 26) hx hb dX7_isRotation_22 (by decide) ?_
      rw [← hQQ]
      exact x_zret hx hb hr (by decide) (Option.some.inj hf) (by decide) hlocks dX7_isRotation_26
def fX7_rotation_0 (σ : Mem) (x1 : Int) (x2 : Int) (x3 : Int) : Option (Int × Mem) := nx (mup σ 0 0 0) fun σ1 => (fX7_isRotation_0 σ1 x1).bind fun v2 => if v2 = 0 then some ((-1), σ1) else if (0 : Int) ≤ x1 ∧ (x1 : Int) < 64 then if rng ((σ1 6 x1) - 1) then (fX7_in σ1 x2 0 ((σ1 6 x1) - 1)).bind fun v5 => if v5 = 0 then some ((-1), σ1) else (fX7_in σ1 x3 0 2).bind fun v6 => if v6 = 0 then some ((-1), σ1) else if x3 = 0 then if rng (6 * x1) then if rng ((6 * x1) + x2) then if (0 : Int) ≤ ((6 * x1) + x2) ∧ (((6 * x1) + x2) : Int) < 384 then some ((σ1 7 ((6 * x1) + x2)), σ1) else none else none else none else if x3 = 1 then if rng (6 * x1) then if rng ((6 * x1) + x2) then if (0 : Int) ≤ ((6 * x1) + x2) ∧ (((6 * x1) + x2) : Int) < 384 then some ((σ1 8 ((6 * x1) + x2)), σ1) else none else none else none else if rng (6 * x1) then if rng ((6 * x1) + x2) then if (0 : Int) ≤ ((6 * x1) + x2) ∧ (((6 * x1) + x2) : Int) < 384 then some ((σ1 9 ((6 * x1) + x2)), σ1) else none else none else none else none else none
set_option maxHeartbeats 4000000 in
set_option maxRecDepth 100000 in
theorem kX7_rotation_0 (l : Launch) (dC : Nat → ClassId) (dI : Nat → Nat → Nat) (cI : ClassId) (a : Nat → Nat) (hi : ∀ i j, i < 12 → j < 12 → a i = a j → i = j) (σ : Mem) (x1 : Int) (x2 : Int) (x3 : Int) (r : (Int × Mem)) (hf : fX7_rotation_0 σ x1 x2 x3 = some r) (hR : Rg σ) (rx1 : rng x1) (rx2 : rng x2) (rx3 : rng x3) : Met l yX7_rotation wsX7_rotation ({ frames := 2, cells := 0, slots := 0, locals := 43 }) (va_Pc [.ref (a 0), .int (iN x1), .int (iN x2), .int (iN x3)] (preM dC dI cI a σ)) (qM (dC, dI) (gw 12 a (mE cI a)) (gA 12 a) r) 0 0 (gA 12 a) := by
  refine Met.ofW (cc := cX7_rotation) (maxL := 4) (ret := (some .int)) (by decide) rfl ?_
  intro p e s m args below meth c s₁ B hml hv
  obtain ⟨hargs, hP, hK⟩ := hv
  have hx := B.exec
  have hb := B.bytes
  have hr := B.returns
  have hts := atoms_spec (ws := wsX7_rotation) B.pre
  have hown : s.vm.findClass RX7 = some m.cls := findClass_of_methodNamed B.named
  have hlocks := B.notSynchronized
  have hS : va_S (gA 12 a) s.heap s.heap [] := va_S.rf
  have iX7 : ∀ w ∈ wsX70, w ∈ wsX7_rotation := by decide +kernel
  have fl32 := hts (.fieldLink RX7 32 "MatchHallModel" "size" "[I") (by decide +kernel)
  have fl35 := hts (.fieldLink RX7 35 "MatchHallModel" "members" "[I") (by decide +kernel)
  have fl38 := hts (.fieldLink RX7 38 "MatchHallModel" "leaves" "[I") (by decide +kernel)
  have fl41 := hts (.fieldLink RX7 41 "MatchHallModel" "gets" "[I") (by decide +kernel)
  have fl58 := hts (.fieldLink RX7 58 "MatchHallModel" "code" "I") (by decide +kernel)
  have hrm : 2 ≤ (headSpec wsX7_rotation ({ frames := 2, cells := 0, slots := 0, locals := 43 })).room.frames ∧ 43 ≤ (headSpec wsX7_rotation ({ frames := 2, cells := 0, slots := 0, locals := 43 })).room.locals := ⟨Nat.le_refl _, Nat.le_refl _⟩
  generalize (headSpec wsX7_rotation ({ frames := 2, cells := 0, slots := 0, locals := 43 })).room = RR at hrm ⊢
  have hl := lv_entry ([.ref (a 0), .int (iN x1), .int (iN x2), .int (iN x3)]) (n := 4) (Nat.le_of_ble_eq_true rfl)
  rw [show entryFrame m args 4 = entryFrame m ([.ref (a 0), .int (iN x1), .int (iN x2), .int (iN x3)] : List Value).toArray 4 from by rw [hargs], lg_entry_eq]
  generalize (lg_sl ([.ref (a 0), .int (iN x1), .int (iN x2), .int (iN x3)]) ++ List.replicate (4 - (lg_sl ([.ref (a 0), .int (iN x1), .int (iN x2), .int (iN x3)])).length) Slot.unset).toArray = ls at hl ⊢
  have hl : lv_has ls 4 [(0, .ref (a 0)), (1, .int (iN x1)), (2, .int (iN x2)), (3, .int (iN x3))] := hl
  generalize hQQ : MQ below (qM (dC, dI) (gw 12 a (mE cI a)) (gA 12 a) r) args s 0 0 (gA 12 a) = QQ
  refine lv_aload_n hx hb dX7_rotation_0 rfl (lv_at hl 0 rfl) ?_
  refine lv_iconst (v := iN 0) hx hb dX7_rotation_1 rfl ?_
  obtain ⟨σ1, hσ1, hf⟩ := nxe hf
  refine x_put (C := RX7) (T := TX7) (NF := 17) (x := 0) (ty := .int) hx hb hts iX7 tyX7 tyX7_ok nmX7 hi hown hK hP hS 0 (by decide) (mE_0 cI a (_)) rfl 0 0 (by decide) fl58 rfl (by decide +kernel) rfl rfl (Nat.le_of_ble_eq_true rfl) rfl dX7_rotation_2 (fun H locs hP hS => ?_)
  rw [← hσ1] at hP
  have hRσ1 : Rg σ1 := by rw [hσ1]; exact Rg_up hR (by decide)
  refine lv_aload_n hx hb dX7_rotation_5 rfl (lv_at hl 0 rfl) ?_
  refine lv_iload_n hx hb dX7_rotation_6 rfl (lv_at hl 1 rfl) ?_
  obtain ⟨v2, hv2, hf⟩ := bd hf
  refine x_callP (va_runV (As := [.int (iN x1)]) (rest := []) ⟨hx, hb, hml, hown, hts⟩ (kX7_isRotation_0 l dC dI cI a σ1 x1 v2 hv2 hRσ1 rx1) (cwV 1 hts gX7_rotation_X7_isRotation rfl rfl rfl hX7_isRotation_d ⟨Nat.le_trans (by decide) hrm.1, Nat.le_trans (by decide) hrm.2⟩) (pvM 0 (by decide) (mE_0 cI a (_)) rfl hP hK) rfl rfl hl.1 rfl (lv_room (Nat.le_of_ble_eq_true rfl)) dX7_rotation_7 ⟨Nat.zero_le _, Nat.zero_le _⟩) (fun rv2 => ?_)
  refine x_if_eq (tgt := 38) hx hb rv2 dX7_rotation_10 (by decide) (fun c20 => ?_) (fun c20 => ?_)
  · replace hf := (if_pos c20).symm.trans hf
    refine lv_iconst (v := iN (-1)) hx hb dX7_rotation_38 rfl ?_
    rw [← hQQ]
    exact x_iretM hx hb hr (Option.some.inj hf) (by decide) hRσ1 hP hS hlocks dX7_rotation_39
  · replace hf := (if_neg c20).symm.trans hf
    refine lv_iload_n hx hb dX7_rotation_13 rfl (lv_at hl 2 rfl) ?_
    refine lv_iconst (v := iN 0) hx hb dX7_rotation_14 rfl ?_
    refine lv_aload_n hx hb dX7_rotation_15 rfl (lv_at hl 0 rfl) ?_
    refine x_get (C := RX7) (T := TX7) (NF := 17) (v := .ref (a 6)) hx hb hts iX7 hown hK hP 0 (by decide) (mE_0 cI a (_)) rfl 11 (by decide) fl32 rfl dX7_rotation_16 ?_
    refine lv_iload_n hx hb dX7_rotation_19 rfl (lv_at hl 1 rfl) ?_
    obtain ⟨g3, hf⟩ := gd hf
    refine x_iald hx hb hK hP 6 0 (by decide) (mE_6 cI a (_)) (by decide) rfl g3 dX7_rotation_20 ?_
    refine lv_iconst (v := iN 1) hx hb dX7_rotation_21 rfl ?_
    obtain ⟨g4, hf⟩ := gd hf
    refine x_isub hx hb dX7_rotation_22 ?_
    obtain ⟨v5, hv5, hf⟩ := bd hf
    refine x_callP (va_runS (As := [.int (iN x2), .int (iN 0), .int (iN ((σ1 6 x1) - 1))]) (rest := []) ⟨hx, hb, hml, hown, hts⟩ (kX7_in l dC dI cI a σ1 x2 0 ((σ1 6 x1) - 1) v5 hv5 hRσ1 rx2 (by decide) g4) (va_cwS 3 hts gX7_rotation_X7_in rfl rfl rfl hX7_in_d ⟨Nat.le_trans (by decide) hrm.1, Nat.le_trans (by decide) hrm.2⟩) (psM hP hK) rfl rfl hl.1 rfl (lv_room (Nat.le_of_ble_eq_true rfl)) dX7_rotation_23 ⟨Nat.zero_le _, Nat.zero_le _⟩) (fun rv5 => ?_)
    refine x_if_eq (tgt := 38) hx hb rv5 dX7_rotation_26 (by decide) (fun c19 => ?_) (fun c19 => ?_)
    · replace hf := (if_pos c19).symm.trans hf
      refine lv_iconst (v := iN (-1)) hx hb dX7_rotation_38 rfl ?_
      rw [← hQQ]
      exact x_iretM hx hb hr (Option.some.inj hf) (by decide) hRσ1 hP hS hlocks dX7_rotation_39
    · replace hf := (if_neg c19).symm.trans hf
      refine lv_iload_n hx hb dX7_rotation_29 rfl (lv_at hl 3 rfl) ?_
      refine lv_iconst (v := iN 0) hx hb dX7_rotation_30 rfl ?_
      refine lv_iconst (v := iN 2) hx hb dX7_rotation_31 rfl ?_
      obtain ⟨v6, hv6, hf⟩ := bd hf
      refine x_callP (va_runS (As := [.int (iN x3), .int (iN 0), .int (iN 2)]) (rest := []) ⟨hx, hb, hml, hown, hts⟩ (kX7_in l dC dI cI a σ1 x3 0 2 v6 hv6 hRσ1 rx3 (by decide) (by decide)) (va_cwS 3 hts gX7_rotation_X7_in rfl rfl rfl hX7_in_d ⟨Nat.le_trans (by decide) hrm.1, Nat.le_trans (by decide) hrm.2⟩) (psM hP hK) rfl rfl hl.1 rfl (lv_room (Nat.le_of_ble_eq_true rfl)) dX7_rotation_32 ⟨Nat.zero_le _, Nat.zero_le _⟩) (fun rv6 => ?_)
      refine x_if_ne (tgt := 40) hx hb rv6 dX7_rotation_35 (by decide) (fun c18 => ?_) (fun c18 => ?_)
      · replace hf := (if_neg c18).symm.trans hf
        refine lv_iload_n hx hb dX7_rotation_40 rfl (lv_at hl 3 rfl) ?_
        refine x_if_ne (tgt := 58) hx hb rx3 dX7_rotation_41 (by decide) (fun c17 => ?_) (fun c17 => ?_)
        · replace hf := (if_neg c17).symm.trans hf
          refine lv_iload_n hx hb dX7_rotation_58 rfl (lv_at hl 3 rfl) ?_
          refine lv_iconst (v := iN 1) hx hb dX7_rotation_59 rfl ?_
          refine x_icmp_ne (tgt := 77) hx hb rx3 (by decide) dX7_rotation_60 (by decide) (fun c13 => ?_) (fun c13 => ?_)
          · replace hf := (if_neg c13).symm.trans hf
            refine lv_aload_n hx hb dX7_rotation_77 rfl (lv_at hl 0 rfl) ?_
            refine x_get (C := RX7) (T := TX7) (NF := 17) (v := .ref (a 9)) hx hb hts iX7 hown hK hP 0 (by decide) (mE_0 cI a (_)) rfl 14 (by decide) fl41 rfl dX7_rotation_78 ?_
            refine lv_bipush (v := iN 6) hx hb dX7_rotation_81 (by decide) ?_
            refine lv_iload_n hx hb dX7_rotation_83 rfl (lv_at hl 1 rfl) ?_
            obtain ⟨g7, hf⟩ := gd hf
            refine x_imul hx hb dX7_rotation_84 ?_
            refine lv_iload_n hx hb dX7_rotation_85 rfl (lv_at hl 2 rfl) ?_
            obtain ⟨g8, hf⟩ := gd hf
            refine x_iadd hx hb dX7_rotation_86 ?_
            obtain ⟨g9, hf⟩ := gd hf
            refine x_iald hx hb hK hP 9 0 (by decide) (mE_9 cI a (_)) (by decide) rfl g9 dX7_rotation_87 ?_
            rw [← hQQ]
            exact x_iretM hx hb hr (Option.some.inj hf) (hRσ1 9 ((6 * x1) + x2)) hRσ1 hP hS hlocks dX7_rotation_88
          · replace hf := (if_pos c13).symm.trans hf
            refine lv_aload_n hx hb dX7_rotation_63 rfl (lv_at hl 0 rfl) ?_
            refine x_get (C := RX7) (T := TX7) (NF := 17) (v := .ref (a 8)) hx hb hts iX7 hown hK hP 0 (by decide) (mE_0 cI a (_)) rfl 13 (by decide) fl38 rfl dX7_rotation_64 ?_
            refine lv_bipush (v := iN 6) hx hb dX7_rotation_67 (by decide) ?_
            refine lv_iload_n hx hb dX7_rotation_69 rfl (lv_at hl 1 rfl) ?_
            obtain ⟨g10, hf⟩ := gd hf
            refine x_imul hx hb dX7_rotation_70 ?_
            refine lv_iload_n hx hb dX7_rotation_71 rfl (lv_at hl 2 rfl) ?_
            obtain ⟨g11, hf⟩ := gd hf
            refine x_iadd hx hb dX7_rotation_72 ?_
            obtain ⟨g12, hf⟩ := gd hf
            refine x_iald hx hb hK hP 8 0 (by decide) (mE_8 cI a (_)) (by decide) rfl g12 dX7_rotation_73 ?_
            refine lv_goto (tgt := 88) hx hb dX7_rotation_74 (by decide) ?_
            rw [← hQQ]
            exact x_iretM hx hb hr (Option.some.inj hf) (hRσ1 8 ((6 * x1) + x2)) hRσ1 hP hS hlocks dX7_rotation_88
        · replace hf := (if_pos c17).symm.trans hf
          refine lv_aload_n hx hb dX7_rotation_44 rfl (lv_at hl 0 rfl) ?_
          refine x_get (C := RX7) (T := TX7) (NF := 17) (v := .ref (a 7)) hx hb hts iX7 hown hK hP 0 (by decide) (mE_0 cI a (_)) rfl 12 (by decide) fl35 rfl dX7_rotation_45 ?_
          refine lv_bipush (v := iN 6) hx hb dX7_rotation_48 (by decide) ?_
          refine lv_iload_n hx hb dX7_rotation_50 rfl (lv_at hl 1 rfl) ?_
          obtain ⟨g14, hf⟩ := gd hf
          refine x_imul hx hb dX7_rotation_51 ?_
          refine lv_iload_n hx hb dX7_rotation_52 rfl (lv_at hl 2 rfl) ?_
          obtain ⟨g15, hf⟩ := gd hf
          refine x_iadd hx hb dX7_rotation_53 ?_
          obtain ⟨g16, hf⟩ := gd hf
          refine x_iald hx hb hK hP 7 0 (by decide) (mE_7 cI a (_)) (by decide) rfl g16 dX7_rotation_54 ?_
          refine lv_goto (tgt := 88) hx hb dX7_rotation_55 (by decide) ?_
          rw [← hQQ]
          exact x_iretM hx hb hr (Option.some.inj hf) (hRσ1 7 ((6 * x1) + x2)) hRσ1 hP hS hlocks dX7_rotation_88
      · replace hf := (if_pos c18).symm.trans hf
        refine lv_iconst (v := iN (-1)) hx hb dX7_rotation_38 rfl ?_
        rw [← hQQ]
        exact x_iretM hx hb hr (Option.some.inj hf) (by decide) hRσ1 hP hS hlocks dX7_rotation_39
def fX7_isDone_0 (σ : Mem) (x1 : Int) (x2 : Int) : Option Int := if rng (6 * x1) then if (0 : Int) ≤ (6 * x1) ∧ ((6 * x1) : Int) < 384 then if rng (6 * x2) then if rng ((6 * x2) + (σ 7 (6 * x1))) then if (0 : Int) ≤ ((6 * x2) + (σ 7 (6 * x1))) ∧ (((6 * x2) + (σ 7 (6 * x1))) : Int) < 4320 then (fX7_place_0 σ 0 (σ 7 (6 * x1)) (σ 5 ((6 * x2) + (σ 7 (6 * x1))))).bind fun v6 => if rng (6 * x1) then if (0 : Int) ≤ (6 * x1) ∧ ((6 * x1) : Int) < 384 then (fX7_place_0 σ 0 (σ 7 (6 * x1)) (σ 9 (6 * x1))).bind fun v9 => if v6 < v9 then some 0 else some 1 else none else none else none else none else none else none else none
set_option maxHeartbeats 4000000 in
set_option maxRecDepth 100000 in
theorem kX7_isDone_0 (l : Launch) (dC : Nat → ClassId) (dI : Nat → Nat → Nat) (cI : ClassId) (a : Nat → Nat) (σ : Mem) (x1 : Int) (x2 : Int) (r : Int) (hf : fX7_isDone_0 σ x1 x2 = some r) (hR : Rg σ) (rx1 : rng x1) (rx2 : rng x2) : Met l yX7_isDone wsX7_isDone ({ frames := 1, cells := 0, slots := 0, locals := 25 }) (va_Pc [.ref (a 0), .int (iN x1), .int (iN x2)] (preM dC dI cI a σ)) (qP r) 0 0 (fun _ => False) := by
  refine Met.ofW (cc := cX7_isDone) (maxL := 4) (ret := (some .boolean)) (by decide) rfl ?_
  intro p e s m args below meth c s₁ B hml hv
  obtain ⟨hargs, hP, hK⟩ := hv
  have hx := B.exec
  have hb := B.bytes
  have hr := B.returns
  have hts := atoms_spec (ws := wsX7_isDone) B.pre
  have hown : s.vm.findClass RX7 = some m.cls := findClass_of_methodNamed B.named
  have hlocks := B.notSynchronized
  have iX7 : ∀ w ∈ wsX70, w ∈ wsX7_isDone := by decide +kernel
  have fl29 := hts (.fieldLink RX7 29 "MatchHallModel" "stable" "[I") (by decide +kernel)
  have fl35 := hts (.fieldLink RX7 35 "MatchHallModel" "members" "[I") (by decide +kernel)
  have fl41 := hts (.fieldLink RX7 41 "MatchHallModel" "gets" "[I") (by decide +kernel)
  have hrm : 1 ≤ (headSpec wsX7_isDone ({ frames := 1, cells := 0, slots := 0, locals := 25 })).room.frames ∧ 25 ≤ (headSpec wsX7_isDone ({ frames := 1, cells := 0, slots := 0, locals := 25 })).room.locals := ⟨Nat.le_refl _, Nat.le_refl _⟩
  generalize (headSpec wsX7_isDone ({ frames := 1, cells := 0, slots := 0, locals := 25 })).room = RR at hrm ⊢
  have hl := lv_entry ([.ref (a 0), .int (iN x1), .int (iN x2)]) (n := 4) (Nat.le_of_ble_eq_true rfl)
  rw [show entryFrame m args 4 = entryFrame m ([.ref (a 0), .int (iN x1), .int (iN x2)] : List Value).toArray 4 from by rw [hargs], lg_entry_eq]
  generalize (lg_sl ([.ref (a 0), .int (iN x1), .int (iN x2)]) ++ List.replicate (4 - (lg_sl ([.ref (a 0), .int (iN x1), .int (iN x2)])).length) Slot.unset).toArray = ls at hl ⊢
  have hl : lv_has ls 4 [(0, .ref (a 0)), (1, .int (iN x1)), (2, .int (iN x2))] := hl
  generalize hQQ : MQ below (qP r) args s 0 0 (fun _ => False) = QQ
  refine lv_aload_n hx hb dX7_isDone_0 rfl (lv_at hl 0 rfl) ?_
  refine x_get (C := RX7) (T := TX7) (NF := 17) (v := .ref (a 7)) hx hb hts iX7 hown hK hP 0 (by decide) (mE_0 cI a (_)) rfl 12 (by decide) fl35 rfl dX7_isDone_1 ?_
  refine lv_bipush (v := iN 6) hx hb dX7_isDone_4 (by decide) ?_
  refine lv_iload_n hx hb dX7_isDone_6 rfl (lv_at hl 1 rfl) ?_
  obtain ⟨g1, hf⟩ := gd hf
  refine x_imul hx hb dX7_isDone_7 ?_
  obtain ⟨g2, hf⟩ := gd hf
  refine x_iald hx hb hK hP 7 0 (by decide) (mE_7 cI a (_)) (by decide) rfl g2 dX7_isDone_8 ?_
  refine lv_istore_n (lv' := [(3, .int (iN (σ 7 (6 * x1)))), (0, .ref (a 0)), (1, .int (iN x1)), (2, .int (iN x2))]) hx hb dX7_isDone_9 rfl hl (by decide) rfl (fun ls hl => ?_)
  refine lv_aload_n hx hb dX7_isDone_10 rfl (lv_at hl 1 rfl) ?_
  refine lv_iconst (v := iN 0) hx hb dX7_isDone_11 rfl ?_
  refine lv_iload_n hx hb dX7_isDone_12 rfl (lv_at hl 0 rfl) ?_
  refine lv_aload_n hx hb dX7_isDone_13 rfl (lv_at hl 1 rfl) ?_
  refine x_get (C := RX7) (T := TX7) (NF := 17) (v := .ref (a 5)) hx hb hts iX7 hown hK hP 0 (by decide) (mE_0 cI a (_)) rfl 9 (by decide) fl29 rfl dX7_isDone_14 ?_
  refine lv_bipush (v := iN 6) hx hb dX7_isDone_17 (by decide) ?_
  refine lv_iload_n hx hb dX7_isDone_19 rfl (lv_at hl 3 rfl) ?_
  obtain ⟨g3, hf⟩ := gd hf
  refine x_imul hx hb dX7_isDone_20 ?_
  refine lv_iload_n hx hb dX7_isDone_21 rfl (lv_at hl 0 rfl) ?_
  obtain ⟨g4, hf⟩ := gd hf
  refine x_iadd hx hb dX7_isDone_22 ?_
  obtain ⟨g5, hf⟩ := gd hf
  refine x_iald hx hb hK hP 5 0 (by decide) (mE_5 cI a (_)) (by decide) rfl g5 dX7_isDone_23 ?_
  obtain ⟨v6, hv6, hf⟩ := bd hf
  refine x_callP (va_runV (As := [.int (iN 0), .int (iN (σ 7 (6 * x1))), .int (iN (σ 5 ((6 * x2) + (σ 7 (6 * x1)))))]) (rest := []) ⟨hx, hb, hml, hown, hts⟩ (kX7_place_0 l dC dI cI a σ 0 (σ 7 (6 * x1)) (σ 5 ((6 * x2) + (σ 7 (6 * x1)))) v6 hv6 hR (by decide) (hR 7 (6 * x1)) (hR 5 ((6 * x2) + (σ 7 (6 * x1))))) (cwV 3 hts gX7_isDone_X7_place rfl rfl rfl hX7_place_d ⟨Nat.le_trans (by decide) hrm.1, Nat.le_trans (by decide) hrm.2⟩) (pvM 0 (by decide) (mE_0 cI a (_)) rfl hP hK) rfl rfl hl.1 rfl (lv_room (Nat.le_of_ble_eq_true rfl)) dX7_isDone_24 ⟨Nat.zero_le _, Nat.zero_le _⟩) (fun rv6 => ?_)
  refine lv_aload_n hx hb dX7_isDone_27 rfl (lv_at hl 1 rfl) ?_
  refine lv_iconst (v := iN 0) hx hb dX7_isDone_28 rfl ?_
  refine lv_iload_n hx hb dX7_isDone_29 rfl (lv_at hl 0 rfl) ?_
  refine lv_aload_n hx hb dX7_isDone_30 rfl (lv_at hl 1 rfl) ?_
  refine x_get (C := RX7) (T := TX7) (NF := 17) (v := .ref (a 9)) hx hb hts iX7 hown hK hP 0 (by decide) (mE_0 cI a (_)) rfl 14 (by decide) fl41 rfl dX7_isDone_31 ?_
  refine lv_bipush (v := iN 6) hx hb dX7_isDone_34 (by decide) ?_
  refine lv_iload_n hx hb dX7_isDone_36 rfl (lv_at hl 2 rfl) ?_
  obtain ⟨g7, hf⟩ := gd hf
  refine x_imul hx hb dX7_isDone_37 ?_
  obtain ⟨g8, hf⟩ := gd hf
  refine x_iald hx hb hK hP 9 0 (by decide) (mE_9 cI a (_)) (by decide) rfl g8 dX7_isDone_38 ?_
  obtain ⟨v9, hv9, hf⟩ := bd hf
  refine x_callP (va_runV (As := [.int (iN 0), .int (iN (σ 7 (6 * x1))), .int (iN (σ 9 (6 * x1)))]) (rest := [.int (iN v6)]) ⟨hx, hb, hml, hown, hts⟩ (kX7_place_0 l dC dI cI a σ 0 (σ 7 (6 * x1)) (σ 9 (6 * x1)) v9 hv9 hR (by decide) (hR 7 (6 * x1)) (hR 9 (6 * x1))) (cwV 3 hts gX7_isDone_X7_place rfl rfl rfl hX7_place_d ⟨Nat.le_trans (by decide) hrm.1, Nat.le_trans (by decide) hrm.2⟩) (pvM 0 (by decide) (mE_0 cI a (_)) rfl hP hK) rfl rfl hl.1 rfl (lv_room (Nat.le_of_ble_eq_true rfl)) dX7_isDone_39 ⟨Nat.zero_le _, Nat.zero_le _⟩) (fun rv9 => ?_)
  refine x_icmp_lt (tgt := 49) hx hb rv6 rv9 dX7_isDone_42 (by decide) (fun c10 => ?_) (fun c10 => ?_)
  · replace hf := (if_pos c10).symm.trans hf
    refine lv_iconst (v := iN 0) hx hb dX7_isDone_49 rfl ?_
    rw [← hQQ]
    exact x_zret hx hb hr (by decide) (Option.some.inj hf) (by decide) hlocks dX7_isDone_50
  · replace hf := (if_neg c10).symm.trans hf
    refine lv_iconst (v := iN 1) hx hb dX7_isDone_45 rfl ?_
    refine lv_goto (tgt := 50) hx hb dX7_isDone_46 (by decide) ?_
    rw [← hQQ]
    exact x_zret hx hb hr (by decide) (Option.some.inj hf) (by decide) hlocks dX7_isDone_50
def fX7_done_0 (σ : Mem) (x1 : Int) (x2 : Int) : Option (Int × Mem) := nx (mup σ 0 0 0) fun σ1 => (fX7_isRotation_0 σ1 x1).bind fun v2 => if v2 = 0 then some ((-1), σ1) else (fX7_isStable_0 σ1 x2).bind fun v3 => if v3 = 0 then some ((-1), σ1) else (fX7_isDone_0 σ1 x1 x2).bind fun v4 => if v4 = 0 then some (0, σ1) else some (1, σ1)
set_option maxHeartbeats 4000000 in
set_option maxRecDepth 100000 in
theorem kX7_done_0 (l : Launch) (dC : Nat → ClassId) (dI : Nat → Nat → Nat) (cI : ClassId) (a : Nat → Nat) (hi : ∀ i j, i < 12 → j < 12 → a i = a j → i = j) (σ : Mem) (x1 : Int) (x2 : Int) (r : (Int × Mem)) (hf : fX7_done_0 σ x1 x2 = some r) (hR : Rg σ) (rx1 : rng x1) (rx2 : rng x2) : Met l yX7_done wsX7_done ({ frames := 2, cells := 0, slots := 0, locals := 48 }) (va_Pc [.ref (a 0), .int (iN x1), .int (iN x2)] (preM dC dI cI a σ)) (qM (dC, dI) (gw 12 a (mE cI a)) (gA 12 a) r) 0 0 (gA 12 a) := by
  refine Met.ofW (cc := cX7_done) (maxL := 3) (ret := (some .int)) (by decide) rfl ?_
  intro p e s m args below meth c s₁ B hml hv
  obtain ⟨hargs, hP, hK⟩ := hv
  have hx := B.exec
  have hb := B.bytes
  have hr := B.returns
  have hts := atoms_spec (ws := wsX7_done) B.pre
  have hown : s.vm.findClass RX7 = some m.cls := findClass_of_methodNamed B.named
  have hlocks := B.notSynchronized
  have hS : va_S (gA 12 a) s.heap s.heap [] := va_S.rf
  have iX7 : ∀ w ∈ wsX70, w ∈ wsX7_done := by decide +kernel
  have fl58 := hts (.fieldLink RX7 58 "MatchHallModel" "code" "I") (by decide +kernel)
  have hrm : 2 ≤ (headSpec wsX7_done ({ frames := 2, cells := 0, slots := 0, locals := 48 })).room.frames ∧ 48 ≤ (headSpec wsX7_done ({ frames := 2, cells := 0, slots := 0, locals := 48 })).room.locals := ⟨Nat.le_refl _, Nat.le_refl _⟩
  generalize (headSpec wsX7_done ({ frames := 2, cells := 0, slots := 0, locals := 48 })).room = RR at hrm ⊢
  have hl := lv_entry ([.ref (a 0), .int (iN x1), .int (iN x2)]) (n := 3) (Nat.le_of_ble_eq_true rfl)
  rw [show entryFrame m args 3 = entryFrame m ([.ref (a 0), .int (iN x1), .int (iN x2)] : List Value).toArray 3 from by rw [hargs], lg_entry_eq]
  generalize (lg_sl ([.ref (a 0), .int (iN x1), .int (iN x2)]) ++ List.replicate (3 - (lg_sl ([.ref (a 0), .int (iN x1), .int (iN x2)])).length) Slot.unset).toArray = ls at hl ⊢
  have hl : lv_has ls 3 [(0, .ref (a 0)), (1, .int (iN x1)), (2, .int (iN x2))] := hl
  generalize hQQ : MQ below (qM (dC, dI) (gw 12 a (mE cI a)) (gA 12 a) r) args s 0 0 (gA 12 a) = QQ
  refine lv_aload_n hx hb dX7_done_0 rfl (lv_at hl 0 rfl) ?_
  refine lv_iconst (v := iN 0) hx hb dX7_done_1 rfl ?_
  obtain ⟨σ1, hσ1, hf⟩ := nxe hf
  refine x_put (C := RX7) (T := TX7) (NF := 17) (x := 0) (ty := .int) hx hb hts iX7 tyX7 tyX7_ok nmX7 hi hown hK hP hS 0 (by decide) (mE_0 cI a (_)) rfl 0 0 (by decide) fl58 rfl (by decide +kernel) rfl rfl (Nat.le_of_ble_eq_true rfl) rfl dX7_done_2 (fun H locs hP hS => ?_)
  rw [← hσ1] at hP
  have hRσ1 : Rg σ1 := by rw [hσ1]; exact Rg_up hR (by decide)
  refine lv_aload_n hx hb dX7_done_5 rfl (lv_at hl 0 rfl) ?_
  refine lv_iload_n hx hb dX7_done_6 rfl (lv_at hl 1 rfl) ?_
  obtain ⟨v2, hv2, hf⟩ := bd hf
  refine x_callP (va_runV (As := [.int (iN x1)]) (rest := []) ⟨hx, hb, hml, hown, hts⟩ (kX7_isRotation_0 l dC dI cI a σ1 x1 v2 hv2 hRσ1 rx1) (cwV 1 hts gX7_done_X7_isRotation rfl rfl rfl hX7_isRotation_d ⟨Nat.le_trans (by decide) hrm.1, Nat.le_trans (by decide) hrm.2⟩) (pvM 0 (by decide) (mE_0 cI a (_)) rfl hP hK) rfl rfl hl.1 rfl (lv_room (Nat.le_of_ble_eq_true rfl)) dX7_done_7 ⟨Nat.zero_le _, Nat.zero_le _⟩) (fun rv2 => ?_)
  refine x_if_eq (tgt := 21) hx hb rv2 dX7_done_10 (by decide) (fun c7 => ?_) (fun c7 => ?_)
  · replace hf := (if_pos c7).symm.trans hf
    refine lv_iconst (v := iN (-1)) hx hb dX7_done_21 rfl ?_
    refine lv_goto (tgt := 39) hx hb dX7_done_22 (by decide) ?_
    rw [← hQQ]
    exact x_iretM hx hb hr (Option.some.inj hf) (by decide) hRσ1 hP hS hlocks dX7_done_39
  · replace hf := (if_neg c7).symm.trans hf
    refine lv_aload_n hx hb dX7_done_13 rfl (lv_at hl 0 rfl) ?_
    refine lv_iload_n hx hb dX7_done_14 rfl (lv_at hl 2 rfl) ?_
    obtain ⟨v3, hv3, hf⟩ := bd hf
    refine x_callP (va_runV (As := [.int (iN x2)]) (rest := []) ⟨hx, hb, hml, hown, hts⟩ (kX7_isStable_0 l dC dI cI a σ1 x2 v3 hv3 hRσ1 rx2) (cwV 1 hts gX7_done_X7_isStable rfl rfl rfl hX7_isStable_d ⟨Nat.le_trans (by decide) hrm.1, Nat.le_trans (by decide) hrm.2⟩) (pvM 0 (by decide) (mE_0 cI a (_)) rfl hP hK) rfl rfl hl.1 rfl (lv_room (Nat.le_of_ble_eq_true rfl)) dX7_done_15 ⟨Nat.zero_le _, Nat.zero_le _⟩) (fun rv3 => ?_)
    refine x_if_ne (tgt := 25) hx hb rv3 dX7_done_18 (by decide) (fun c6 => ?_) (fun c6 => ?_)
    · replace hf := (if_neg c6).symm.trans hf
      refine lv_aload_n hx hb dX7_done_25 rfl (lv_at hl 0 rfl) ?_
      refine lv_iload_n hx hb dX7_done_26 rfl (lv_at hl 1 rfl) ?_
      refine lv_iload_n hx hb dX7_done_27 rfl (lv_at hl 2 rfl) ?_
      obtain ⟨v4, hv4, hf⟩ := bd hf
      refine x_callP (va_runV (As := [.int (iN x1), .int (iN x2)]) (rest := []) ⟨hx, hb, hml, hown, hts⟩ (kX7_isDone_0 l dC dI cI a σ1 x1 x2 v4 hv4 hRσ1 rx1 rx2) (cwV 2 hts gX7_done_X7_isDone rfl rfl rfl hX7_isDone_d ⟨Nat.le_trans (by decide) hrm.1, Nat.le_trans (by decide) hrm.2⟩) (pvM 0 (by decide) (mE_0 cI a (_)) rfl hP hK) rfl rfl hl.1 rfl (lv_room (Nat.le_of_ble_eq_true rfl)) dX7_done_28 ⟨Nat.zero_le _, Nat.zero_le _⟩) (fun rv4 => ?_)
      refine x_if_eq (tgt := 38) hx hb rv4 dX7_done_31 (by decide) (fun c5 => ?_) (fun c5 => ?_)
      · replace hf := (if_pos c5).symm.trans hf
        refine lv_iconst (v := iN 0) hx hb dX7_done_38 rfl ?_
        rw [← hQQ]
        exact x_iretM hx hb hr (Option.some.inj hf) (by decide) hRσ1 hP hS hlocks dX7_done_39
      · replace hf := (if_neg c5).symm.trans hf
        refine lv_iconst (v := iN 1) hx hb dX7_done_34 rfl ?_
        refine lv_goto (tgt := 39) hx hb dX7_done_35 (by decide) ?_
        rw [← hQQ]
        exact x_iretM hx hb hr (Option.some.inj hf) (by decide) hRσ1 hP hS hlocks dX7_done_39
    · replace hf := (if_pos c6).symm.trans hf
      refine lv_iconst (v := iN (-1)) hx hb dX7_done_21 rfl ?_
      refine lv_goto (tgt := 39) hx hb dX7_done_22 (by decide) ?_
      rw [← hQQ]
      exact x_iretM hx hb hr (Option.some.inj hf) (by decide) hRσ1 hP hS hlocks dX7_done_39
def fX7_before_0_L37 (x1 : Int) (x2 : Int) (σ1 : Mem) (ex0 : Int → Int → Option (Int × Mem)) : Nat → Int → Int → Option (Int × Mem)
  | 0, _, _ => none
  | n0 + 1, v4, v5 => if v5 < (σ1 0 8) then if v4 = 0 then if rng (v5 + 1) then fX7_before_0_L37 x1 x2 σ1 ex0 n0 0 (v5 + 1) else none else (fX7_isDone_0 σ1 x2 v5).bind fun v7 => if v7 = 0 then if rng (v5 + 1) then fX7_before_0_L37 x1 x2 σ1 ex0 n0 1 (v5 + 1) else none else (fX7_isDone_0 σ1 x1 v5).bind fun v9 => if v9 = 0 then if rng (v5 + 1) then fX7_before_0_L37 x1 x2 σ1 ex0 n0 0 (v5 + 1) else none else if rng (v5 + 1) then fX7_before_0_L37 x1 x2 σ1 ex0 n0 1 (v5 + 1) else none else ex0 v4 v5
def fX7_before_0 (σ : Mem) (x1 : Int) (x2 : Int) : Option (Int × Mem) := nx (mup σ 0 0 0) fun σ1 => (fX7_isRotation_0 σ1 x1).bind fun v2 => if v2 = 0 then some ((-1), σ1) else (fX7_isRotation_0 σ1 x2).bind fun v3 => if v3 = 0 then some ((-1), σ1) else if x1 = x2 then fX7_before_0_L37 x1 x2 σ1 (fun v16 v17 => if v16 = 0 then some (0, σ1) else some (1, σ1)) FU 0 0 else fX7_before_0_L37 x1 x2 σ1 (fun v31 v32 => if v31 = 0 then some (0, σ1) else some (1, σ1)) FU 1 0
set_option maxHeartbeats 4000000 in
set_option maxRecDepth 100000 in
theorem kX7_before_0 (l : Launch) (dC : Nat → ClassId) (dI : Nat → Nat → Nat) (cI : ClassId) (a : Nat → Nat) (hi : ∀ i j, i < 12 → j < 12 → a i = a j → i = j) (σ : Mem) (x1 : Int) (x2 : Int) (r : (Int × Mem)) (hf : fX7_before_0 σ x1 x2 = some r) (hR : Rg σ) (rx1 : rng x1) (rx2 : rng x2) : Met l yX7_before wsX7_before ({ frames := 2, cells := 0, slots := 0, locals := 48 }) (va_Pc [.ref (a 0), .int (iN x1), .int (iN x2)] (preM dC dI cI a σ)) (qM (dC, dI) (gw 12 a (mE cI a)) (gA 12 a) r) 0 0 (gA 12 a) := by
  refine Met.ofW (cc := cX7_before) (maxL := 5) (ret := (some .int)) (by decide) rfl ?_
  intro p e s m args below meth c s₁ B hml hv
  obtain ⟨hargs, hP, hK⟩ := hv
  have hx := B.exec
  have hb := B.bytes
  have hr := B.returns
  have hts := atoms_spec (ws := wsX7_before) B.pre
  have hown : s.vm.findClass RX7 = some m.cls := findClass_of_methodNamed B.named
  have hlocks := B.notSynchronized
  have hS : va_S (gA 12 a) s.heap s.heap [] := va_S.rf
  have iX7 : ∀ w ∈ wsX70, w ∈ wsX7_before := by decide +kernel
  have fl58 := hts (.fieldLink RX7 58 "MatchHallModel" "code" "I") (by decide +kernel)
  have fl88 := hts (.fieldLink RX7 88 "MatchHallModel" "many" "I") (by decide +kernel)
  have hrm : 2 ≤ (headSpec wsX7_before ({ frames := 2, cells := 0, slots := 0, locals := 48 })).room.frames ∧ 48 ≤ (headSpec wsX7_before ({ frames := 2, cells := 0, slots := 0, locals := 48 })).room.locals := ⟨Nat.le_refl _, Nat.le_refl _⟩
  generalize (headSpec wsX7_before ({ frames := 2, cells := 0, slots := 0, locals := 48 })).room = RR at hrm ⊢
  have hl := lv_entry ([.ref (a 0), .int (iN x1), .int (iN x2)]) (n := 5) (Nat.le_of_ble_eq_true rfl)
  rw [show entryFrame m args 5 = entryFrame m ([.ref (a 0), .int (iN x1), .int (iN x2)] : List Value).toArray 5 from by rw [hargs], lg_entry_eq]
  generalize (lg_sl ([.ref (a 0), .int (iN x1), .int (iN x2)]) ++ List.replicate (5 - (lg_sl ([.ref (a 0), .int (iN x1), .int (iN x2)])).length) Slot.unset).toArray = ls at hl ⊢
  have hl : lv_has ls 5 [(0, .ref (a 0)), (1, .int (iN x1)), (2, .int (iN x2))] := hl
  generalize hQQ : MQ below (qM (dC, dI) (gw 12 a (mE cI a)) (gA 12 a) r) args s 0 0 (gA 12 a) = QQ
  refine lv_aload_n hx hb dX7_before_0 rfl (lv_at hl 0 rfl) ?_
  refine lv_iconst (v := iN 0) hx hb dX7_before_1 rfl ?_
  obtain ⟨σ1, hσ1, hf⟩ := nxe hf
  refine x_put (C := RX7) (T := TX7) (NF := 17) (x := 0) (ty := .int) hx hb hts iX7 tyX7 tyX7_ok nmX7 hi hown hK hP hS 0 (by decide) (mE_0 cI a (_)) rfl 0 0 (by decide) fl58 rfl (by decide +kernel) rfl rfl (Nat.le_of_ble_eq_true rfl) rfl dX7_before_2 (fun H locs hP hS => ?_)
  rw [← hσ1] at hP
  have hRσ1 : Rg σ1 := by rw [hσ1]; exact Rg_up hR (by decide)
  refine lv_aload_n hx hb dX7_before_5 rfl (lv_at hl 0 rfl) ?_
  refine lv_iload_n hx hb dX7_before_6 rfl (lv_at hl 1 rfl) ?_
  obtain ⟨v2, hv2, hf⟩ := bd hf
  refine x_callP (va_runV (As := [.int (iN x1)]) (rest := []) ⟨hx, hb, hml, hown, hts⟩ (kX7_isRotation_0 l dC dI cI a σ1 x1 v2 hv2 hRσ1 rx1) (cwV 1 hts gX7_before_X7_isRotation rfl rfl rfl hX7_isRotation_d ⟨Nat.le_trans (by decide) hrm.1, Nat.le_trans (by decide) hrm.2⟩) (pvM 0 (by decide) (mE_0 cI a (_)) rfl hP hK) rfl rfl hl.1 rfl (lv_room (Nat.le_of_ble_eq_true rfl)) dX7_before_7 ⟨Nat.zero_le _, Nat.zero_le _⟩) (fun rv2 => ?_)
  refine x_if_eq (tgt := 21) hx hb rv2 dX7_before_10 (by decide) (fun c36 => ?_) (fun c36 => ?_)
  · replace hf := (if_pos c36).symm.trans hf
    refine lv_iconst (v := iN (-1)) hx hb dX7_before_21 rfl ?_
    rw [← hQQ]
    exact x_iretM hx hb hr (Option.some.inj hf) (by decide) hRσ1 hP hS hlocks dX7_before_22
  · replace hf := (if_neg c36).symm.trans hf
    refine lv_aload_n hx hb dX7_before_13 rfl (lv_at hl 0 rfl) ?_
    refine lv_iload_n hx hb dX7_before_14 rfl (lv_at hl 2 rfl) ?_
    obtain ⟨v3, hv3, hf⟩ := bd hf
    refine x_callP (va_runV (As := [.int (iN x2)]) (rest := []) ⟨hx, hb, hml, hown, hts⟩ (kX7_isRotation_0 l dC dI cI a σ1 x2 v3 hv3 hRσ1 rx2) (cwV 1 hts gX7_before_X7_isRotation rfl rfl rfl hX7_isRotation_d ⟨Nat.le_trans (by decide) hrm.1, Nat.le_trans (by decide) hrm.2⟩) (pvM 0 (by decide) (mE_0 cI a (_)) rfl hP hK) rfl rfl hl.1 rfl (lv_room (Nat.le_of_ble_eq_true rfl)) dX7_before_15 ⟨Nat.zero_le _, Nat.zero_le _⟩) (fun rv3 => ?_)
    refine x_if_ne (tgt := 23) hx hb rv3 dX7_before_18 (by decide) (fun c35 => ?_) (fun c35 => ?_)
    · replace hf := (if_neg c35).symm.trans hf
      refine lv_iload_n hx hb dX7_before_23 rfl (lv_at hl 1 rfl) ?_
      refine lv_iload_n hx hb dX7_before_24 rfl (lv_at hl 2 rfl) ?_
      refine x_icmp_eq (tgt := 32) hx hb rx1 rx2 dX7_before_25 (by decide) (fun c34 => ?_) (fun c34 => ?_)
      · replace hf := (if_pos c34).symm.trans hf
        refine lv_iconst (v := iN 0) hx hb dX7_before_32 rfl ?_
        refine lv_istore_n (lv' := [(3, .int (iN 0)), (0, .ref (a 0)), (1, .int (iN x1)), (2, .int (iN x2))]) hx hb dX7_before_33 rfl hl (by decide) rfl (fun ls hl => ?_)
        refine lv_iconst (v := iN 0) hx hb dX7_before_34 rfl ?_
        refine lv_istore (lv' := [(4, .int (iN 0)), (3, .int (iN 0)), (0, .ref (a 0)), (1, .int (iN x1)), (2, .int (iN x2))]) hx hb dX7_before_35 hl (by decide) rfl (fun ls hl => ?_)
        have L_fX7_before_0_L37 : ∀ (EX0 : Int → Int → Option (Int × Mem)), (∀ (v4 : Int) (v5 : Int), rng v4 → rng v5 → EX0 v4 v5 = some r → ∀ H locs ls, va_P (dC, dI) vwCl (gw 12 a (mE cI a) σ1) H → va_S (gA 12 a) s.heap H locs → lv_has ls 5 [(0, .ref (a 0)), (1, .int (iN x1)), (2, .int (iN x2)), (3, .int (iN v4)), (4, .int (iN v5))] → W p l e RR s m args below meth c H locs 0 0 QQ (F0 m 82 ls [])) → ∀ n0 : Nat, ∀ (v4 : Int) (v5 : Int), rng v4 → rng v5 → fX7_before_0_L37 x1 x2 σ1 EX0 n0 v4 v5 = some r → ∀ H locs ls, va_P (dC, dI) vwCl (gw 12 a (mE cI a) σ1) H → va_S (gA 12 a) s.heap H locs → lv_has ls 5 [(0, .ref (a 0)), (1, .int (iN x1)), (2, .int (iN x2)), (3, .int (iN v4)), (4, .int (iN v5))] → W p l e RR s m args below meth c H locs 0 0 QQ (F0 m 37 ls []) := by
          intro EX0 hEX0 n0
          induction n0 with
          | zero => intro _ _ _ _ hf; cases hf
          | succ n0 ih0 =>
            intro v4 v5 rv4 rv5 hf H locs ls hP hS hl
            rw [fX7_before_0_L37] at hf
            refine lv_iload hx hb dX7_before_37 (lv_at hl 4 rfl) ?_
            refine lv_aload_n hx hb dX7_before_39 rfl (lv_at hl 0 rfl) ?_
            refine x_get (C := RX7) (T := TX7) (NF := 17) (v := .int (iN (σ1 0 8))) hx hb hts iX7 hown hK hP 0 (by decide) (mE_0 cI a (_)) rfl 8 (by decide) fl88 rfl dX7_before_40 ?_
            refine x_icmp_ge (tgt := 82) hx hb rv5 (hRσ1 0 8) dX7_before_43 (by decide) (fun c15 => ?_) (fun c15 => ?_)
            · replace hf := (if_neg c15).symm.trans hf
              exact hEX0 _ _ rv4 rv5 hf _ _ _ hP hS (lv_sub hl [0, 1, 2, 3, 4] rfl)
            · replace hf := (if_pos c15).symm.trans hf
              refine lv_iload_n hx hb dX7_before_46 rfl (lv_at hl 3 rfl) ?_
              refine x_if_eq (tgt := 74) hx hb rv4 dX7_before_47 (by decide) (fun c14 => ?_) (fun c14 => ?_)
              · replace hf := (if_pos c14).symm.trans hf
                refine lv_iconst (v := iN 0) hx hb dX7_before_74 rfl ?_
                refine lv_istore_n (lv' := [(3, .int (iN 0)), (0, .ref (a 0)), (1, .int (iN x1)), (2, .int (iN x2)), (4, .int (iN v5))]) hx hb dX7_before_75 rfl hl (by decide) rfl (fun ls hl => ?_)
                obtain ⟨g6, hf⟩ := gd hf
                refine lv_iinc (v := iN (v5 + 1)) (lv' := [(4, .int (iN (v5 + 1))), (3, .int (iN 0)), (0, .ref (a 0)), (1, .int (iN x1)), (2, .int (iN x2))]) hx hb dX7_before_76 hl (k := 4) rfl (iN_add v5 1) (by decide) rfl (fun ls hl => ?_)
                refine lv_goto (tgt := 37) hx hb dX7_before_79 (by decide) ?_
                exact ih0 _ _ (by decide) g6 hf _ _ _ hP hS (lv_sub hl [2, 3, 4, 1, 0] rfl)
              · replace hf := (if_neg c14).symm.trans hf
                refine lv_aload_n hx hb dX7_before_50 rfl (lv_at hl 0 rfl) ?_
                refine lv_iload_n hx hb dX7_before_51 rfl (lv_at hl 2 rfl) ?_
                refine lv_iload hx hb dX7_before_52 (lv_at hl 4 rfl) ?_
                obtain ⟨v7, hv7, hf⟩ := bd hf
                refine x_callP (va_runV (As := [.int (iN x2), .int (iN v5)]) (rest := []) ⟨hx, hb, hml, hown, hts⟩ (kX7_isDone_0 l dC dI cI a σ1 x2 v5 v7 hv7 hRσ1 rx2 rv5) (cwV 2 hts gX7_before_X7_isDone rfl rfl rfl hX7_isDone_d ⟨Nat.le_trans (by decide) hrm.1, Nat.le_trans (by decide) hrm.2⟩) (pvM 0 (by decide) (mE_0 cI a (_)) rfl hP hK) rfl rfl hl.1 rfl (lv_room (Nat.le_of_ble_eq_true rfl)) dX7_before_54 ⟨Nat.zero_le _, Nat.zero_le _⟩) (fun rv7 => ?_)
                refine x_if_eq (tgt := 70) hx hb rv7 dX7_before_57 (by decide) (fun c13 => ?_) (fun c13 => ?_)
                · replace hf := (if_pos c13).symm.trans hf
                  refine lv_iconst (v := iN 1) hx hb dX7_before_70 rfl ?_
                  refine lv_goto (tgt := 75) hx hb dX7_before_71 (by decide) ?_
                  refine lv_istore_n (lv' := [(3, .int (iN 1)), (0, .ref (a 0)), (1, .int (iN x1)), (2, .int (iN x2)), (4, .int (iN v5))]) hx hb dX7_before_75 rfl hl (by decide) rfl (fun ls hl => ?_)
                  obtain ⟨g8, hf⟩ := gd hf
                  refine lv_iinc (v := iN (v5 + 1)) (lv' := [(4, .int (iN (v5 + 1))), (3, .int (iN 1)), (0, .ref (a 0)), (1, .int (iN x1)), (2, .int (iN x2))]) hx hb dX7_before_76 hl (k := 4) rfl (iN_add v5 1) (by decide) rfl (fun ls hl => ?_)
                  refine lv_goto (tgt := 37) hx hb dX7_before_79 (by decide) ?_
                  exact ih0 _ _ (by decide) g8 hf _ _ _ hP hS (lv_sub hl [2, 3, 4, 1, 0] rfl)
                · replace hf := (if_neg c13).symm.trans hf
                  refine lv_aload_n hx hb dX7_before_60 rfl (lv_at hl 0 rfl) ?_
                  refine lv_iload_n hx hb dX7_before_61 rfl (lv_at hl 1 rfl) ?_
                  refine lv_iload hx hb dX7_before_62 (lv_at hl 4 rfl) ?_
                  obtain ⟨v9, hv9, hf⟩ := bd hf
                  refine x_callP (va_runV (As := [.int (iN x1), .int (iN v5)]) (rest := []) ⟨hx, hb, hml, hown, hts⟩ (kX7_isDone_0 l dC dI cI a σ1 x1 v5 v9 hv9 hRσ1 rx1 rv5) (cwV 2 hts gX7_before_X7_isDone rfl rfl rfl hX7_isDone_d ⟨Nat.le_trans (by decide) hrm.1, Nat.le_trans (by decide) hrm.2⟩) (pvM 0 (by decide) (mE_0 cI a (_)) rfl hP hK) rfl rfl hl.1 rfl (lv_room (Nat.le_of_ble_eq_true rfl)) dX7_before_64 ⟨Nat.zero_le _, Nat.zero_le _⟩) (fun rv9 => ?_)
                  refine x_if_eq (tgt := 74) hx hb rv9 dX7_before_67 (by decide) (fun c12 => ?_) (fun c12 => ?_)
                  · replace hf := (if_pos c12).symm.trans hf
                    refine lv_iconst (v := iN 0) hx hb dX7_before_74 rfl ?_
                    refine lv_istore_n (lv' := [(3, .int (iN 0)), (0, .ref (a 0)), (1, .int (iN x1)), (2, .int (iN x2)), (4, .int (iN v5))]) hx hb dX7_before_75 rfl hl (by decide) rfl (fun ls hl => ?_)
                    obtain ⟨g10, hf⟩ := gd hf
                    refine lv_iinc (v := iN (v5 + 1)) (lv' := [(4, .int (iN (v5 + 1))), (3, .int (iN 0)), (0, .ref (a 0)), (1, .int (iN x1)), (2, .int (iN x2))]) hx hb dX7_before_76 hl (k := 4) rfl (iN_add v5 1) (by decide) rfl (fun ls hl => ?_)
                    refine lv_goto (tgt := 37) hx hb dX7_before_79 (by decide) ?_
                    exact ih0 _ _ (by decide) g10 hf _ _ _ hP hS (lv_sub hl [2, 3, 4, 1, 0] rfl)
                  · replace hf := (if_neg c12).symm.trans hf
                    refine lv_iconst (v := iN 1) hx hb dX7_before_70 rfl ?_
                    refine lv_goto (tgt := 75) hx hb dX7_before_71 (by decide) ?_
                    refine lv_istore_n (lv' := [(3, .int (iN 1)), (0, .ref (a 0)), (1, .int (iN x1)), (2, .int (iN x2)), (4, .int (iN v5))]) hx hb dX7_before_75 rfl hl (by decide) rfl (fun ls hl => ?_)
                    obtain ⟨g11, hf⟩ := gd hf
                    refine lv_iinc (v := iN (v5 + 1)) (lv' := [(4, .int (iN (v5 + 1))), (3, .int (iN 1)), (0, .ref (a 0)), (1, .int (iN x1)), (2, .int (iN x2))]) hx hb dX7_before_76 hl (k := 4) rfl (iN_add v5 1) (by decide) rfl (fun ls hl => ?_)
                    refine lv_goto (tgt := 37) hx hb dX7_before_79 (by decide) ?_
                    exact ih0 _ _ (by decide) g11 hf _ _ _ hP hS (lv_sub hl [2, 3, 4, 1, 0] rfl)
        refine L_fX7_before_0_L37 _ (fun v16 v17 rv16 rv17 hf H locs ls hP hS hl => ?_) _ _ _ (by decide) (by decide) hf _ _ _ hP hS (lv_sub hl [2, 3, 4, 1, 0] rfl)
        refine lv_iload_n hx hb dX7_before_82 rfl (lv_at hl 3 rfl) ?_
        refine x_if_eq (tgt := 90) hx hb rv16 dX7_before_83 (by decide) (fun c18 => ?_) (fun c18 => ?_)
        · replace hf := (if_pos c18).symm.trans hf
          refine lv_iconst (v := iN 0) hx hb dX7_before_90 rfl ?_
          rw [← hQQ]
          exact x_iretM hx hb hr (Option.some.inj hf) (by decide) hRσ1 hP hS hlocks dX7_before_91
        · replace hf := (if_neg c18).symm.trans hf
          refine lv_iconst (v := iN 1) hx hb dX7_before_86 rfl ?_
          refine lv_goto (tgt := 91) hx hb dX7_before_87 (by decide) ?_
          rw [← hQQ]
          exact x_iretM hx hb hr (Option.some.inj hf) (by decide) hRσ1 hP hS hlocks dX7_before_91
      · replace hf := (if_neg c34).symm.trans hf
        refine lv_iconst (v := iN 1) hx hb dX7_before_28 rfl ?_
        refine lv_goto (tgt := 33) hx hb dX7_before_29 (by decide) ?_
        refine lv_istore_n (lv' := [(3, .int (iN 1)), (0, .ref (a 0)), (1, .int (iN x1)), (2, .int (iN x2))]) hx hb dX7_before_33 rfl hl (by decide) rfl (fun ls hl => ?_)
        refine lv_iconst (v := iN 0) hx hb dX7_before_34 rfl ?_
        refine lv_istore (lv' := [(4, .int (iN 0)), (3, .int (iN 1)), (0, .ref (a 0)), (1, .int (iN x1)), (2, .int (iN x2))]) hx hb dX7_before_35 hl (by decide) rfl (fun ls hl => ?_)
        have L_fX7_before_0_L37_2 : ∀ (EX0 : Int → Int → Option (Int × Mem)), (∀ (v19 : Int) (v20 : Int), rng v19 → rng v20 → EX0 v19 v20 = some r → ∀ H locs ls, va_P (dC, dI) vwCl (gw 12 a (mE cI a) σ1) H → va_S (gA 12 a) s.heap H locs → lv_has ls 5 [(0, .ref (a 0)), (1, .int (iN x1)), (2, .int (iN x2)), (3, .int (iN v19)), (4, .int (iN v20))] → W p l e RR s m args below meth c H locs 0 0 QQ (F0 m 82 ls [])) → ∀ n0 : Nat, ∀ (v19 : Int) (v20 : Int), rng v19 → rng v20 → fX7_before_0_L37 x1 x2 σ1 EX0 n0 v19 v20 = some r → ∀ H locs ls, va_P (dC, dI) vwCl (gw 12 a (mE cI a) σ1) H → va_S (gA 12 a) s.heap H locs → lv_has ls 5 [(0, .ref (a 0)), (1, .int (iN x1)), (2, .int (iN x2)), (3, .int (iN v19)), (4, .int (iN v20))] → W p l e RR s m args below meth c H locs 0 0 QQ (F0 m 37 ls []) := by
          intro EX0 hEX0 n0
          induction n0 with
          | zero => intro _ _ _ _ hf; cases hf
          | succ n0 ih0 =>
            intro v19 v20 rv19 rv20 hf H locs ls hP hS hl
            rw [fX7_before_0_L37] at hf
            refine lv_iload hx hb dX7_before_37 (lv_at hl 4 rfl) ?_
            refine lv_aload_n hx hb dX7_before_39 rfl (lv_at hl 0 rfl) ?_
            refine x_get (C := RX7) (T := TX7) (NF := 17) (v := .int (iN (σ1 0 8))) hx hb hts iX7 hown hK hP 0 (by decide) (mE_0 cI a (_)) rfl 8 (by decide) fl88 rfl dX7_before_40 ?_
            refine x_icmp_ge (tgt := 82) hx hb rv20 (hRσ1 0 8) dX7_before_43 (by decide) (fun c30 => ?_) (fun c30 => ?_)
            · replace hf := (if_neg c30).symm.trans hf
              exact hEX0 _ _ rv19 rv20 hf _ _ _ hP hS (lv_sub hl [0, 1, 2, 3, 4] rfl)
            · replace hf := (if_pos c30).symm.trans hf
              refine lv_iload_n hx hb dX7_before_46 rfl (lv_at hl 3 rfl) ?_
              refine x_if_eq (tgt := 74) hx hb rv19 dX7_before_47 (by decide) (fun c29 => ?_) (fun c29 => ?_)
              · replace hf := (if_pos c29).symm.trans hf
                refine lv_iconst (v := iN 0) hx hb dX7_before_74 rfl ?_
                refine lv_istore_n (lv' := [(3, .int (iN 0)), (0, .ref (a 0)), (1, .int (iN x1)), (2, .int (iN x2)), (4, .int (iN v20))]) hx hb dX7_before_75 rfl hl (by decide) rfl (fun ls hl => ?_)
                obtain ⟨g21, hf⟩ := gd hf
                refine lv_iinc (v := iN (v20 + 1)) (lv' := [(4, .int (iN (v20 + 1))), (3, .int (iN 0)), (0, .ref (a 0)), (1, .int (iN x1)), (2, .int (iN x2))]) hx hb dX7_before_76 hl (k := 4) rfl (iN_add v20 1) (by decide) rfl (fun ls hl => ?_)
                refine lv_goto (tgt := 37) hx hb dX7_before_79 (by decide) ?_
                exact ih0 _ _ (by decide) g21 hf _ _ _ hP hS (lv_sub hl [2, 3, 4, 1, 0] rfl)
              · replace hf := (if_neg c29).symm.trans hf
                refine lv_aload_n hx hb dX7_before_50 rfl (lv_at hl 0 rfl) ?_
                refine lv_iload_n hx hb dX7_before_51 rfl (lv_at hl 2 rfl) ?_
                refine lv_iload hx hb dX7_before_52 (lv_at hl 4 rfl) ?_
                obtain ⟨v22, hv22, hf⟩ := bd hf
                refine x_callP (va_runV (As := [.int (iN x2), .int (iN v20)]) (rest := []) ⟨hx, hb, hml, hown, hts⟩ (kX7_isDone_0 l dC dI cI a σ1 x2 v20 v22 hv22 hRσ1 rx2 rv20) (cwV 2 hts gX7_before_X7_isDone rfl rfl rfl hX7_isDone_d ⟨Nat.le_trans (by decide) hrm.1, Nat.le_trans (by decide) hrm.2⟩) (pvM 0 (by decide) (mE_0 cI a (_)) rfl hP hK) rfl rfl hl.1 rfl (lv_room (Nat.le_of_ble_eq_true rfl)) dX7_before_54 ⟨Nat.zero_le _, Nat.zero_le _⟩) (fun rv22 => ?_)
                refine x_if_eq (tgt := 70) hx hb rv22 dX7_before_57 (by decide) (fun c28 => ?_) (fun c28 => ?_)
                · replace hf := (if_pos c28).symm.trans hf
                  refine lv_iconst (v := iN 1) hx hb dX7_before_70 rfl ?_
                  refine lv_goto (tgt := 75) hx hb dX7_before_71 (by decide) ?_
                  refine lv_istore_n (lv' := [(3, .int (iN 1)), (0, .ref (a 0)), (1, .int (iN x1)), (2, .int (iN x2)), (4, .int (iN v20))]) hx hb dX7_before_75 rfl hl (by decide) rfl (fun ls hl => ?_)
                  obtain ⟨g23, hf⟩ := gd hf
                  refine lv_iinc (v := iN (v20 + 1)) (lv' := [(4, .int (iN (v20 + 1))), (3, .int (iN 1)), (0, .ref (a 0)), (1, .int (iN x1)), (2, .int (iN x2))]) hx hb dX7_before_76 hl (k := 4) rfl (iN_add v20 1) (by decide) rfl (fun ls hl => ?_)
                  refine lv_goto (tgt := 37) hx hb dX7_before_79 (by decide) ?_
                  exact ih0 _ _ (by decide) g23 hf _ _ _ hP hS (lv_sub hl [2, 3, 4, 1, 0] rfl)
                · replace hf := (if_neg c28).symm.trans hf
                  refine lv_aload_n hx hb dX7_before_60 rfl (lv_at hl 0 rfl) ?_
                  refine lv_iload_n hx hb dX7_before_61 rfl (lv_at hl 1 rfl) ?_
                  refine lv_iload hx hb dX7_before_62 (lv_at hl 4 rfl) ?_
                  obtain ⟨v24, hv24, hf⟩ := bd hf
                  refine x_callP (va_runV (As := [.int (iN x1), .int (iN v20)]) (rest := []) ⟨hx, hb, hml, hown, hts⟩ (kX7_isDone_0 l dC dI cI a σ1 x1 v20 v24 hv24 hRσ1 rx1 rv20) (cwV 2 hts gX7_before_X7_isDone rfl rfl rfl hX7_isDone_d ⟨Nat.le_trans (by decide) hrm.1, Nat.le_trans (by decide) hrm.2⟩) (pvM 0 (by decide) (mE_0 cI a (_)) rfl hP hK) rfl rfl hl.1 rfl (lv_room (Nat.le_of_ble_eq_true rfl)) dX7_before_64 ⟨Nat.zero_le _, Nat.zero_le _⟩) (fun rv24 => ?_)
                  refine x_if_eq (tgt := 74) hx hb rv24 dX7_before_67 (by decide) (fun c27 => ?_) (fun c27 => ?_)
                  · replace hf := (if_pos c27).symm.trans hf
                    refine lv_iconst (v := iN 0) hx hb dX7_before_74 rfl ?_
                    refine lv_istore_n (lv' := [(3, .int (iN 0)), (0, .ref (a 0)), (1, .int (iN x1)), (2, .int (iN x2)), (4, .int (iN v20))]) hx hb dX7_before_75 rfl hl (by decide) rfl (fun ls hl => ?_)
                    obtain ⟨g25, hf⟩ := gd hf
                    refine lv_iinc (v := iN (v20 + 1)) (lv' := [(4, .int (iN (v20 + 1))), (3, .int (iN 0)), (0, .ref (a 0)), (1, .int (iN x1)), (2, .int (iN x2))]) hx hb dX7_before_76 hl (k := 4) rfl (iN_add v20 1) (by decide) rfl (fun ls hl => ?_)
                    refine lv_goto (tgt := 37) hx hb dX7_before_79 (by decide) ?_
                    exact ih0 _ _ (by decide) g25 hf _ _ _ hP hS (lv_sub hl [2, 3, 4, 1, 0] rfl)
                  · replace hf := (if_neg c27).symm.trans hf
                    refine lv_iconst (v := iN 1) hx hb dX7_before_70 rfl ?_
                    refine lv_goto (tgt := 75) hx hb dX7_before_71 (by decide) ?_
                    refine lv_istore_n (lv' := [(3, .int (iN 1)), (0, .ref (a 0)), (1, .int (iN x1)), (2, .int (iN x2)), (4, .int (iN v20))]) hx hb dX7_before_75 rfl hl (by decide) rfl (fun ls hl => ?_)
                    obtain ⟨g26, hf⟩ := gd hf
                    refine lv_iinc (v := iN (v20 + 1)) (lv' := [(4, .int (iN (v20 + 1))), (3, .int (iN 1)), (0, .ref (a 0)), (1, .int (iN x1)), (2, .int (iN x2))]) hx hb dX7_before_76 hl (k := 4) rfl (iN_add v20 1) (by decide) rfl (fun ls hl => ?_)
                    refine lv_goto (tgt := 37) hx hb dX7_before_79 (by decide) ?_
                    exact ih0 _ _ (by decide) g26 hf _ _ _ hP hS (lv_sub hl [2, 3, 4, 1, 0] rfl)
        refine L_fX7_before_0_L37_2 _ (fun v31 v32 rv31 rv32 hf H locs ls hP hS hl => ?_) _ _ _ (by decide) (by decide) hf _ _ _ hP hS (lv_sub hl [2, 3, 4, 1, 0] rfl)
        refine lv_iload_n hx hb dX7_before_82 rfl (lv_at hl 3 rfl) ?_
        refine x_if_eq (tgt := 90) hx hb rv31 dX7_before_83 (by decide) (fun c33 => ?_) (fun c33 => ?_)
        · replace hf := (if_pos c33).symm.trans hf
          refine lv_iconst (v := iN 0) hx hb dX7_before_90 rfl ?_
          rw [← hQQ]
          exact x_iretM hx hb hr (Option.some.inj hf) (by decide) hRσ1 hP hS hlocks dX7_before_91
        · replace hf := (if_neg c33).symm.trans hf
          refine lv_iconst (v := iN 1) hx hb dX7_before_86 rfl ?_
          refine lv_goto (tgt := 91) hx hb dX7_before_87 (by decide) ?_
          rw [← hQQ]
          exact x_iretM hx hb hr (Option.some.inj hf) (by decide) hRσ1 hP hS hlocks dX7_before_91
    · replace hf := (if_pos c35).symm.trans hf
      refine lv_iconst (v := iN (-1)) hx hb dX7_before_21 rfl ?_
      rw [← hQQ]
      exact x_iretM hx hb hr (Option.some.inj hf) (by decide) hRσ1 hP hS hlocks dX7_before_22
