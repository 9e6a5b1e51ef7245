/-! WHILE THE CLASS IS MADE: the first N cells stand, cell 0 as e0 (printed by wip/whole/gen/lay4.py) -/
def cH (e0 : va_E) (cI cA : ClassId) (a : Nat → Nat) : Nat → (Int → Int) → va_E := fun k f => match k with
  | 0 => e0
  | k + 1 => cE cI cA a (k + 1) f
theorem cH_1 (e0 : va_E) (cI cA : ClassId) (a : Nat → Nat) (f : Int → Int) : cH e0 cI cA a 1 f = .inr (1, [.ref (a 2), .ref (a 11), .ref (a 20), .int (iN (f 3)), .int (iN (f 4))]) := rfl
theorem cH_2 (e0 : va_E) (cI cA : ClassId) (a : Nat → Nat) (f : Int → Int) : cH e0 cI cA a 2 f = .inr (2, [.ref (a 3), .ref (a 10), .int (iN (f 2)), .int (iN (f 3))]) := rfl
theorem cH_3 (e0 : va_E) (cI cA : ClassId) (a : Nat → Nat) (f : Int → Int) : cH e0 cI cA a 3 f = .inl (cA, 6, .inr (.inr (.inr (.inr (fun j => if j < 6 then some (a (4 + j)) else none))))) := rfl
theorem cH_4 (e0 : va_E) (cI cA : ClassId) (a : Nat → Nat) (f : Int → Int) : cH e0 cI cA a 4 f = .inl (cI, 6, .inl (fun j : Nat => iN (f j))) := rfl
theorem cH_5 (e0 : va_E) (cI cA : ClassId) (a : Nat → Nat) (f : Int → Int) : cH e0 cI cA a 5 f = .inl (cI, 6, .inl (fun j : Nat => iN (f j))) := rfl
theorem cH_6 (e0 : va_E) (cI cA : ClassId) (a : Nat → Nat) (f : Int → Int) : cH e0 cI cA a 6 f = .inl (cI, 6, .inl (fun j : Nat => iN (f j))) := rfl
theorem cH_7 (e0 : va_E) (cI cA : ClassId) (a : Nat → Nat) (f : Int → Int) : cH e0 cI cA a 7 f = .inl (cI, 6, .inl (fun j : Nat => iN (f j))) := rfl
theorem cH_8 (e0 : va_E) (cI cA : ClassId) (a : Nat → Nat) (f : Int → Int) : cH e0 cI cA a 8 f = .inl (cI, 6, .inl (fun j : Nat => iN (f j))) := rfl
theorem cH_9 (e0 : va_E) (cI cA : ClassId) (a : Nat → Nat) (f : Int → Int) : cH e0 cI cA a 9 f = .inl (cI, 6, .inl (fun j : Nat => iN (f j))) := rfl
theorem cH_10 (e0 : va_E) (cI cA : ClassId) (a : Nat → Nat) (f : Int → Int) : cH e0 cI cA a 10 f = .inl (cI, 6, .inl (fun j : Nat => iN (f j))) := rfl
theorem cH_11 (e0 : va_E) (cI cA : ClassId) (a : Nat → Nat) (f : Int → Int) : cH e0 cI cA a 11 f = .inr (2, [.ref (a 12), .ref (a 19), .int (iN (f 2)), .int (iN (f 3))]) := rfl
theorem cH_12 (e0 : va_E) (cI cA : ClassId) (a : Nat → Nat) (f : Int → Int) : cH e0 cI cA a 12 f = .inl (cA, 6, .inr (.inr (.inr (.inr (fun j => if j < 6 then some (a (13 + j)) else none))))) := rfl
theorem cH_13 (e0 : va_E) (cI cA : ClassId) (a : Nat → Nat) (f : Int → Int) : cH e0 cI cA a 13 f = .inl (cI, 6, .inl (fun j : Nat => iN (f j))) := rfl
theorem cH_14 (e0 : va_E) (cI cA : ClassId) (a : Nat → Nat) (f : Int → Int) : cH e0 cI cA a 14 f = .inl (cI, 6, .inl (fun j : Nat => iN (f j))) := rfl
theorem cH_15 (e0 : va_E) (cI cA : ClassId) (a : Nat → Nat) (f : Int → Int) : cH e0 cI cA a 15 f = .inl (cI, 6, .inl (fun j : Nat => iN (f j))) := rfl
theorem cH_16 (e0 : va_E) (cI cA : ClassId) (a : Nat → Nat) (f : Int → Int) : cH e0 cI cA a 16 f = .inl (cI, 6, .inl (fun j : Nat => iN (f j))) := rfl
theorem cH_17 (e0 : va_E) (cI cA : ClassId) (a : Nat → Nat) (f : Int → Int) : cH e0 cI cA a 17 f = .inl (cI, 6, .inl (fun j : Nat => iN (f j))) := rfl
theorem cH_18 (e0 : va_E) (cI cA : ClassId) (a : Nat → Nat) (f : Int → Int) : cH e0 cI cA a 18 f = .inl (cI, 6, .inl (fun j : Nat => iN (f j))) := rfl
theorem cH_19 (e0 : va_E) (cI cA : ClassId) (a : Nat → Nat) (f : Int → Int) : cH e0 cI cA a 19 f = .inl (cI, 6, .inl (fun j : Nat => iN (f j))) := rfl
theorem cH_20 (e0 : va_E) (cI cA : ClassId) (a : Nat → Nat) (f : Int → Int) : cH e0 cI cA a 20 f = .inl (cI, 6, .inl (fun j : Nat => iN (f j))) := rfl
theorem cH_21 (e0 : va_E) (cI cA : ClassId) (a : Nat → Nat) (f : Int → Int) : cH e0 cI cA a 21 f = .inr (3, [.ref (a 1), .ref (a 22)]) := rfl
theorem cH_22 (e0 : va_E) (cI cA : ClassId) (a : Nat → Nat) (f : Int → Int) : cH e0 cI cA a 22 f = .inl (cI, 6, .inl (fun j : Nat => iN (f j))) := rfl
theorem cH_23 (e0 : va_E) (cI cA : ClassId) (a : Nat → Nat) (f : Int → Int) : cH e0 cI cA a 23 f = .inr (3, [.ref (a 1), .ref (a 24)]) := rfl
theorem cH_24 (e0 : va_E) (cI cA : ClassId) (a : Nat → Nat) (f : Int → Int) : cH e0 cI cA a 24 f = .inl (cI, 6, .inl (fun j : Nat => iN (f j))) := rfl
theorem cH_25 (e0 : va_E) (cI cA : ClassId) (a : Nat → Nat) (f : Int → Int) : cH e0 cI cA a 25 f = .inr (5, [.ref (a 1), .ref (a 26), .ref (a 27), .int (iN (f 3))]) := rfl
theorem cH_26 (e0 : va_E) (cI cA : ClassId) (a : Nat → Nat) (f : Int → Int) : cH e0 cI cA a 26 f = .inl (cI, 1296, .inl (fun j : Nat => iN (f j))) := rfl
theorem cH_27 (e0 : va_E) (cI cA : ClassId) (a : Nat → Nat) (f : Int → Int) : cH e0 cI cA a 27 f = .inl (cI, 1296, .inl (fun j : Nat => iN (f j))) := rfl
theorem cH_28 (e0 : va_E) (cI cA : ClassId) (a : Nat → Nat) (f : Int → Int) : cH e0 cI cA a 28 f = .inr (4, [.ref (a 25), .ref (a 29), .ref (a 30), .ref (a 31), .ref (a 32), .int (iN (f 5))]) := rfl
theorem cH_29 (e0 : va_E) (cI cA : ClassId) (a : Nat → Nat) (f : Int → Int) : cH e0 cI cA a 29 f = .inl (cI, 15, .inl (fun j : Nat => iN (f j))) := rfl
theorem cH_30 (e0 : va_E) (cI cA : ClassId) (a : Nat → Nat) (f : Int → Int) : cH e0 cI cA a 30 f = .inl (cI, 15, .inl (fun j : Nat => iN (f j))) := rfl
theorem cH_31 (e0 : va_E) (cI cA : ClassId) (a : Nat → Nat) (f : Int → Int) : cH e0 cI cA a 31 f = .inl (cI, 15, .inl (fun j : Nat => iN (f j))) := rfl
theorem cH_32 (e0 : va_E) (cI cA : ClassId) (a : Nat → Nat) (f : Int → Int) : cH e0 cI cA a 32 f = .inl (cI, 216, .inl (fun j : Nat => iN (f j))) := rfl
theorem cH_33 (e0 : va_E) (cI cA : ClassId) (a : Nat → Nat) (f : Int → Int) : cH e0 cI cA a 33 f = .inr (0, [.ref (a 1), .ref (a 25), .ref (a 23), .ref (a 34), .ref (a 35), .ref (a 36)]) := rfl
theorem cH_34 (e0 : va_E) (cI cA : ClassId) (a : Nat → Nat) (f : Int → Int) : cH e0 cI cA a 34 f = .inl (cI, 6, .inl (fun j : Nat => iN (f j))) := rfl
theorem cH_35 (e0 : va_E) (cI cA : ClassId) (a : Nat → Nat) (f : Int → Int) : cH e0 cI cA a 35 f = .inl (cI, 6, .inl (fun j : Nat => iN (f j))) := rfl
theorem cH_36 (e0 : va_E) (cI cA : ClassId) (a : Nat → Nat) (f : Int → Int) : cH e0 cI cA a 36 f = .inl (cI, 6, .inl (fun j : Nat => iN (f j))) := rfl
theorem rowH_lt4 {i : Int} (h : 0 ≤ i ∧ i < 6) : 4 + i.toNat < 21 := by omega
theorem cH_row4 (e0 : va_E) (cI cA : ClassId) (a : Nat → Nat) {i : Int} (h : 0 ≤ i ∧ i < 6) (f : Int → Int) : cH e0 cI cA a (4 + i.toNat) f = .inl (cI, 6, .inl (fun j : Nat => iN (f j))) := by
  have : i.toNat = 0 ∨ i.toNat = 1 ∨ i.toNat = 2 ∨ i.toNat = 3 ∨ i.toNat = 4 ∨ i.toNat = 5 := by omega
  rcases this with e | e | e | e | e | e <;> rw [e] <;> rfl
theorem rowH_lt13 {i : Int} (h : 0 ≤ i ∧ i < 6) : 13 + i.toNat < 21 := by omega
theorem cH_row13 (e0 : va_E) (cI cA : ClassId) (a : Nat → Nat) {i : Int} (h : 0 ≤ i ∧ i < 6) (f : Int → Int) : cH e0 cI cA a (13 + i.toNat) f = .inl (cI, 6, .inl (fun j : Nat => iN (f j))) := by
  have : i.toNat = 0 ∨ i.toNat = 1 ∨ i.toNat = 2 ∨ i.toNat = 3 ∨ i.toNat = 4 ∨ i.toNat = 5 := by omega
  rcases this with e | e | e | e | e | e <;> rw [e] <;> rfl
def preH (N : Nat) (dC : Nat → ClassId) (dI : Nat → Nat → Nat) (cI cA : ClassId) (e0 : va_E) (a : Nat → Nat) (σ : Mem) (U : State) : Prop := va_P (dC, dI) vwCl (gw N a (cH e0 cI cA a) σ) U.heap ∧ va_K (dC, dI) vwCl (tyL cI cA) U ∧ NW U
theorem fbH {N : Nat} {dC : Nat → ClassId} {dI : Nat → Nat → Nat} {cI cA : ClassId} {e0 : va_E} {a : Nat → Nat} {σ : Mem} {av : List Value} : FrameBlind (va_Pc av (preH N dC dI cI cA e0 a σ)) := fun _ U g mk q => ⟨q.1, q.2.1, va_K.moved (u := U) (U := U.calling g mk _) (Vm.Alike.refl U.vm) q.2.2.1, NW.same (u := U) (U := U.calling g mk _) rfl q.2.2.2⟩
theorem pvH {N : Nat} {dC : Nat → ClassId} {dI : Nat → Nat → Nat} {cI cA : ClassId} {e0 : va_E} {a : Nat → Nat} {σ : Mem} {s : State} {H : Heap} (k : Nat) (hk : k < N) {ci n : Nat} {fs : List Value} {Cn : String} {Tn : u_T} (hE : cH e0 cI cA a k (σ k) = .inr (ci, fs)) (hc : vwCl[ci]? = some (Cn, Tn, n)) (hP : va_P (dC, dI) vwCl (gw N a (cH e0 cI cA a) σ) H) (hK : va_K (dC, dI) vwCl (tyL cI cA) s) (hN : NW s) {As : List Value} : PreV s H Cn (a k) (va_Pc (Value.ref (a k) :: As) (preH N dC dI cI cA e0 a σ)) As :=
  ⟨fbH, va_recv hK hP hc (gw_at k hk hE), fun U hU hW => ⟨rfl, by rw [hU]; exact hP, va_K.moved hW.alike hK, hN.warm hW⟩⟩
theorem psH {N : Nat} {dC : Nat → ClassId} {dI : Nat → Nat → Nat} {cI cA : ClassId} {e0 : va_E} {a : Nat → Nat} {σ : Mem} {s : State} {H : Heap} (hP : va_P (dC, dI) vwCl (gw N a (cH e0 cI cA a) σ) H) (hK : va_K (dC, dI) vwCl (tyL cI cA) s) (hN : NW s) {As : List Value} : PreS s H (va_Pc As (preH N dC dI cI cA e0 a σ)) As :=
  ⟨fbH, fun U hU hW => ⟨rfl, by rw [hU]; exact hP, va_K.moved hW.alike hK, hN.warm hW⟩⟩
set_option maxHeartbeats 4000000 in
set_option maxRecDepth 100000 in
theorem hJ7_fill_53178_c_r4 (l : Launch) (dC : Nat → ClassId) (dI : Nat → Nat → Nat) (cI : ClassId) (cA : ClassId) (e0 : va_E) (a : Nat → Nat) (hi : ∀ i j, i < 21 → j < 21 → a i = a j → i = j) (σ : Mem) (y0 : Int) (x1 : Int) (r : (Int × Mem)) (hf : fJ7_fill_53178_c_r4 σ y0 x1 = some r) (hR : Rg σ) (ry0 : 0 ≤ y0 ∧ y0 < 6) (rx1 : rng x1) : Met l yJ7_fill_53178 wsJ7_fill_53178 ({ frames := 0, cells := 0, slots := 0, locals := 0 }) (va_Pc [.ref (a (4 + y0.toNat)), .int (iN x1)] (preH 21 dC dI cI cA e0 a σ)) (qMv (dC, dI) (gw 21 a (cH e0 cI cA a)) (gA 21 a) r) 0 0 (gA 21 a) := by
  refine Met.ofW (cc := cJ7_fill_53178) (maxL := 4) (ret := none) (by decide) rfl ?_
  intro p e s m args below meth c s₁ B hml hv
  obtain ⟨hargs, hP, hK, hN⟩ := hv
  have hx := B.exec
  have hb := B.bytes
  have hr := B.returns
  have hts := atoms_spec (ws := wsJ7_fill_53178) B.pre
  have hown : s.vm.findClass RJ7 = some m.cls := findClass_of_methodNamed B.named
  have hlocks := B.notSynchronized
  have hS : va_S (gA 21 a) s.heap s.heap [] := va_S.rf
  have hrm : 0 ≤ (headSpec wsJ7_fill_53178 ({ frames := 0, cells := 0, slots := 0, locals := 0 })).room.frames ∧ 0 ≤ (headSpec wsJ7_fill_53178 ({ frames := 0, cells := 0, slots := 0, locals := 0 })).room.locals := ⟨Nat.le_refl _, Nat.le_refl _⟩
  generalize (headSpec wsJ7_fill_53178 ({ frames := 0, cells := 0, slots := 0, locals := 0 })).room = RR at hrm ⊢
  have hl := lv_entry ([.ref (a (4 + y0.toNat)), .int (iN x1)]) (n := 4) (Nat.le_of_ble_eq_true rfl)
  rw [show entryFrame m args 4 = entryFrame m ([.ref (a (4 + y0.toNat)), .int (iN x1)] : List Value).toArray 4 from by rw [hargs], lg_entry_eq]
  generalize (lg_sl ([.ref (a (4 + y0.toNat)), .int (iN x1)]) ++ List.replicate (4 - (lg_sl ([.ref (a (4 + y0.toNat)), .int (iN x1)])).length) Slot.unset).toArray = ls at hl ⊢
  have hl : lv_has ls 4 [(0, .ref (a (4 + y0.toNat))), (1, .int (iN x1))] := hl
  generalize hQQ : MQ below (qMv (dC, dI) (gw 21 a (cH e0 cI cA a)) (gA 21 a) r) args s 0 0 (gA 21 a) = QQ
  refine lv_iconst (v := iN 0) hx hb dJ7_fill_53178_0 rfl ?_
  refine lv_istore_n (lv' := [(2, .int (iN 0)), (0, .ref (a (4 + y0.toNat))), (1, .int (iN x1))]) hx hb dJ7_fill_53178_1 rfl hl (by decide) rfl (fun ls hl => ?_)
  refine lv_aload_n hx hb dJ7_fill_53178_2 rfl (lv_at hl 1 rfl) ?_
  refine va_alen (v := iN 6) hx hb hK hP (4 + y0.toNat) 0 (gw_at (4 + y0.toNat) (rowH_lt4 ry0) (cH_row4 e0 cI cA a ry0 _)) rfl (show Int32.ofNat 6 = iN 6 by decide) dJ7_fill_53178_3 ?_
  refine lv_istore_n (lv' := [(3, .int (iN 6)), (2, .int (iN 0)), (0, .ref (a (4 + y0.toNat))), (1, .int (iN x1))]) hx hb dJ7_fill_53178_4 rfl hl (by decide) rfl (fun ls hl => ?_)
  have L_fJ7_fill_53178_c_r4_L5 : ∀ (EX0 : Mem → Int → Option (Int × Mem)), (∀ (σ2 : Mem) (v1 : Int), Rg σ2 → rng v1 → EX0 σ2 v1 = some r → ∀ H locs ls, va_P (dC, dI) vwCl (gw 21 a (cH e0 cI cA a) σ2) H → va_S (gA 21 a) s.heap H locs → lv_has ls 4 [(0, .ref (a (4 + y0.toNat))), (1, .int (iN x1)), (2, .int (iN v1)), (3, .int (iN 6))] → W p l e RR s m args below meth c H locs 0 0 QQ (F0 m 20 ls [])) → ∀ n0 : Nat, ∀ (σ2 : Mem) (v1 : Int), Rg σ2 → rng v1 → fJ7_fill_53178_c_r4_L5 y0 x1 EX0 n0 σ2 v1 = some r → ∀ H locs ls, va_P (dC, dI) vwCl (gw 21 a (cH e0 cI cA a) σ2) H → va_S (gA 21 a) s.heap H locs → lv_has ls 4 [(0, .ref (a (4 + y0.toNat))), (1, .int (iN x1)), (2, .int (iN v1)), (3, .int (iN 6))] → W p l e RR s m args below meth c H locs 0 0 QQ (F0 m 5 ls []) := by
    intro EX0 hEX0 n0
    induction n0 with
    | zero => intro _ _ _ _ hf; cases hf
    | succ n0 ih0 =>
      intro σ2 v1 hRσ2 rv1 hf H locs ls hP hS hl
      rw [fJ7_fill_53178_c_r4_L5] at hf
      refine lv_iload_n hx hb dJ7_fill_53178_5 rfl (lv_at hl 2 rfl) ?_
      refine lv_iload_n hx hb dJ7_fill_53178_6 rfl (lv_at hl 3 rfl) ?_
      refine x_icmp_ge (tgt := 20) hx hb rv1 (by decide) dJ7_fill_53178_7 (by decide) (fun c6 => ?_) (fun c6 => ?_)
      · replace hf := (if_neg c6).symm.trans hf
        exact hEX0 _ _ hRσ2 rv1 hf _ _ _ hP hS (lv_sub hl [0, 1, 2, 3] rfl)
      · replace hf := (if_pos c6).symm.trans hf
        refine lv_aload_n hx hb dJ7_fill_53178_10 rfl (lv_at hl 0 rfl) ?_
        refine lv_iload_n hx hb dJ7_fill_53178_11 rfl (lv_at hl 2 rfl) ?_
        refine lv_iload_n hx hb dJ7_fill_53178_12 rfl (lv_at hl 1 rfl) ?_
        obtain ⟨g3, hf⟩ := gd hf
        obtain ⟨σ4, hσ4, hf⟩ := nxe hf
        refine x_iast (x := x1) hx hb hi hK hP hS (4 + y0.toNat) 0 (rowH_lt4 ry0) (cH_row4 e0 cI cA a ry0) (by decide) rfl g3 dJ7_fill_53178_13 (fun H locs hP hS => ?_)
        rw [← hσ4] at hP
        have hRσ4 : Rg σ4 := by rw [hσ4]; exact Rg_up hRσ2 rx1
        obtain ⟨g5, hf⟩ := gd hf
        refine lv_iinc (v := iN (v1 + 1)) (lv' := [(2, .int (iN (v1 + 1))), (0, .ref (a (4 + y0.toNat))), (1, .int (iN x1)), (3, .int (iN 6))]) hx hb dJ7_fill_53178_14 hl (k := 2) rfl (iN_add v1 1) (by decide) rfl (fun ls hl => ?_)
        refine lv_goto (tgt := 5) hx hb dJ7_fill_53178_17 (by decide) ?_
        exact ih0 _ _ hRσ4 g5 hf _ _ _ hP hS (lv_sub hl [1, 2, 0, 3] rfl)
  refine L_fJ7_fill_53178_c_r4_L5 _ (fun σ8 v7 hRσ8 rv7 hf H locs ls hP hS hl => ?_) _ _ _ hR (by decide) hf _ _ _ hP hS (lv_sub hl [2, 3, 1, 0] rfl)
  rw [← hQQ]
  exact x_vretM hx hb hr (Option.some.inj hf) hRσ8 hP hS hlocks dJ7_fill_53178_20
set_option maxHeartbeats 4000000 in
set_option maxRecDepth 100000 in
theorem hX2_empty_2 (l : Launch) (dC : Nat → ClassId) (dI : Nat → Nat → Nat) (cI : ClassId) (cA : ClassId) (e0 : va_E) (a : Nat → Nat) (hi : ∀ i j, i < 21 → j < 21 → a i = a j → i = j) (σ : Mem) (x1 : Int) (r : (Int × Mem)) (hf : fX2_empty_2 σ x1 = some r) (hR : Rg σ) (rx1 : rng x1) : Met l yX2_empty wsX2_empty ({ frames := 1, cells := 0, slots := 0, locals := 23 }) (va_Pc [.ref (a 2), .int (iN x1)] (preH 21 dC dI cI cA e0 a σ)) (qM (dC, dI) (gw 21 a (cH e0 cI cA a)) (gA 21 a) r) 0 0 (gA 21 a) := by
  refine Met.ofW (cc := cX2_empty) (maxL := 3) (ret := (some .int)) (by decide) rfl ?_
  intro p e s m args below meth c s₁ B hml hv
  obtain ⟨hargs, hP, hK, hN⟩ := hv
  have hx := B.exec
  have hb := B.bytes
  have hr := B.returns
  have hts := atoms_spec (ws := wsX2_empty) B.pre
  have hown : s.vm.findClass RX2 = some m.cls := findClass_of_methodNamed B.named
  have hlocks := B.notSynchronized
  have hS : va_S (gA 21 a) s.heap s.heap [] := va_S.rf
  have iX2 : ∀ w ∈ wsX20, w ∈ wsX2_empty := by decide +kernel
  have fl11 := hts (.fieldLink RX2 11 "MatchHall$Lists" "places" "[[I") (by decide +kernel)
  have fl16 := hts (.fieldLink RX2 16 "MatchHall$Lists" "sizes" "[I") (by decide +kernel)
  have hrm : 1 ≤ (headSpec wsX2_empty ({ frames := 1, cells := 0, slots := 0, locals := 23 })).room.frames ∧ 23 ≤ (headSpec wsX2_empty ({ frames := 1, cells := 0, slots := 0, locals := 23 })).room.locals := ⟨Nat.le_refl _, Nat.le_refl _⟩
  generalize (headSpec wsX2_empty ({ frames := 1, cells := 0, slots := 0, locals := 23 })).room = RR at hrm ⊢
  have hl := lv_entry ([.ref (a 2), .int (iN x1)]) (n := 3) (Nat.le_of_ble_eq_true rfl)
  rw [show entryFrame m args 3 = entryFrame m ([.ref (a 2), .int (iN x1)] : List Value).toArray 3 from by rw [hargs], lg_entry_eq]
  generalize (lg_sl ([.ref (a 2), .int (iN x1)]) ++ List.replicate (3 - (lg_sl ([.ref (a 2), .int (iN x1)])).length) Slot.unset).toArray = ls at hl ⊢
  have hl : lv_has ls 3 [(0, .ref (a 2)), (1, .int (iN x1))] := hl
  generalize hQQ : MQ below (qM (dC, dI) (gw 21 a (cH e0 cI cA a)) (gA 21 a) r) args s 0 0 (gA 21 a) = QQ
  refine lv_aload_n hx hb dX2_empty_0 rfl (lv_at hl 0 rfl) ?_
  refine x_get (C := RX2) (T := TX2) (NF := 4) (v := .ref (a 10)) hx hb hts iX2 hown hK hP 2 (by decide) (cH_2 e0 cI cA a (_)) rfl 1 (by decide) fl16 rfl dX2_empty_1 ?_
  refine lv_iload_n hx hb dX2_empty_4 rfl (lv_at hl 1 rfl) ?_
  obtain ⟨g1, hf⟩ := gd hf
  refine x_iald hx hb hK hP 10 0 (by decide) (cH_10 e0 cI cA a (_)) (by decide) rfl g1 dX2_empty_5 ?_
  refine lv_istore_n (lv' := [(2, .int (iN (σ 10 x1))), (0, .ref (a 2)), (1, .int (iN x1))]) hx hb dX2_empty_6 rfl hl (by decide) rfl (fun ls hl => ?_)
  refine lv_aload_n hx hb dX2_empty_7 rfl (lv_at hl 1 rfl) ?_
  refine x_get (C := RX2) (T := TX2) (NF := 4) (v := .ref (a 3)) hx hb hts iX2 hown hK hP 2 (by decide) (cH_2 e0 cI cA a (_)) rfl 0 (by decide) fl11 rfl dX2_empty_8 ?_
  refine lv_iload_n hx hb dX2_empty_11 rfl (lv_at hl 2 rfl) ?_
  obtain ⟨g2, hf⟩ := gd hf
  refine x_aald hx hb hK hP 3 1 (by decide) (cH_3 e0 cI cA a (_)) (by decide) rfl g2 (row_f4 a g2) dX2_empty_12 ?_
  refine lv_iconst (v := iN (-1)) hx hb dX2_empty_13 rfl ?_
  obtain ⟨v3, σ4, hv3, hf⟩ := bd2 hf
  refine x_callMv (va_runS (As := [.ref (a (4 + x1.toNat)), .int (iN (-1))]) (rest := []) ⟨hx, hb, hml, hown, hts⟩ (hJ7_fill_53178_c_r4 l dC dI cI cA e0 a hi σ x1 (-1) (v3, σ4) hv3 hR g2 (by decide)) (va_cwS 2 hts gX2_empty_J7_fill_53178 rfl rfl rfl hJ7_fill_53178_d ⟨Nat.le_trans (by decide) hrm.1, Nat.le_trans (by decide) hrm.2⟩) (psH hP hK hN) rfl rfl hl.1 rfl (lv_room (Nat.le_of_ble_eq_true rfl)) dX2_empty_14 ⟨Nat.zero_le _, Nat.zero_le _⟩) hS (fun rv3 hRσ4 H locs hP hS => ?_)
  refine lv_aload_n hx hb dX2_empty_17 rfl (lv_at hl 1 rfl) ?_
  refine x_get (C := RX2) (T := TX2) (NF := 4) (v := .ref (a 10)) hx hb hts iX2 hown hK hP 2 (by decide) (cH_2 e0 cI cA a (_)) rfl 1 (by decide) fl16 rfl dX2_empty_18 ?_
  refine lv_iload_n hx hb dX2_empty_21 rfl (lv_at hl 2 rfl) ?_
  refine lv_iconst (v := iN 0) hx hb dX2_empty_22 rfl ?_
  obtain ⟨g5, hf⟩ := gd hf
  obtain ⟨σ6, hσ6, hf⟩ := nxe hf
  refine x_iast (x := 0) hx hb hi hK hP hS 10 0 (by decide) (cH_10 e0 cI cA a) (by decide) rfl g5 dX2_empty_23 (fun H locs hP hS => ?_)
  rw [← hσ6] at hP
  have hRσ6 : Rg σ6 := by rw [hσ6]; exact Rg_up hRσ4 (by decide)
  refine lv_iload_n hx hb dX2_empty_24 rfl (lv_at hl 0 rfl) ?_
  rw [← hQQ]
  exact x_iretM hx hb hr (Option.some.inj hf) (hR 10 x1) hRσ6 hP hS hlocks dX2_empty_25
set_option maxHeartbeats 4000000 in
set_option maxRecDepth 100000 in
theorem hX2_open_2 (l : Launch) (dC : Nat → ClassId) (dI : Nat → Nat → Nat) (cI : ClassId) (cA : ClassId) (e0 : va_E) (a : Nat → Nat) (hi : ∀ i j, i < 21 → j < 21 → a i = a j → i = j) (σ : Mem) (x1 : Int) (x2 : Int) (r : (Int × Mem)) (hf : fX2_open_2 σ x1 x2 = some r) (hR : Rg σ) (rx1 : rng x1) (rx2 : rng x2) : Met l yX2_open wsX2_open ({ frames := 2, cells := 0, slots := 0, locals := 45 }) (va_Pc [.ref (a 2), .int (iN x1), .int (iN x2)] (preH 21 dC dI cI cA e0 a σ)) (qMv (dC, dI) (gw 21 a (cH e0 cI cA a)) (gA 21 a) r) 0 0 (gA 21 a) := by
  refine Met.ofW (cc := cX2_open) (maxL := 4) (ret := none) (by decide) rfl ?_
  intro p e s m args below meth c s₁ B hml hv
  obtain ⟨hargs, hP, hK, hN⟩ := hv
  have hx := B.exec
  have hb := B.bytes
  have hr := B.returns
  have hts := atoms_spec (ws := wsX2_open) B.pre
  have hown : s.vm.findClass RX2 = some m.cls := findClass_of_methodNamed B.named
  have hlocks := B.notSynchronized
  have hS : va_S (gA 21 a) s.heap s.heap [] := va_S.rf
  have iX2 : ∀ w ∈ wsX20, w ∈ wsX2_open := by decide +kernel
  have fl20 := hts (.fieldLink RX2 20 "MatchHall$Lists" "owners" "I") (by decide +kernel)
  have fl24 := hts (.fieldLink RX2 24 "MatchHall$Lists" "others" "I") (by decide +kernel)
  have hrm : 2 ≤ (headSpec wsX2_open ({ frames := 2, cells := 0, slots := 0, locals := 45 })).room.frames ∧ 45 ≤ (headSpec wsX2_open ({ frames := 2, cells := 0, slots := 0, locals := 45 })).room.locals := ⟨Nat.le_refl _, Nat.le_refl _⟩
  generalize (headSpec wsX2_open ({ frames := 2, cells := 0, slots := 0, locals := 45 })).room = RR at hrm ⊢
  have hl := lv_entry ([.ref (a 2), .int (iN x1), .int (iN x2)]) (n := 4) (Nat.le_of_ble_eq_true rfl)
  rw [show entryFrame m args 4 = entryFrame m ([.ref (a 2), .int (iN x1), .int (iN x2)] : List Value).toArray 4 from by rw [hargs], lg_entry_eq]
  generalize (lg_sl ([.ref (a 2), .int (iN x1), .int (iN x2)]) ++ List.replicate (4 - (lg_sl ([.ref (a 2), .int (iN x1), .int (iN x2)])).length) Slot.unset).toArray = ls at hl ⊢
  have hl : lv_has ls 4 [(0, .ref (a 2)), (1, .int (iN x1)), (2, .int (iN x2))] := hl
  generalize hQQ : MQ below (qMv (dC, dI) (gw 21 a (cH e0 cI cA a)) (gA 21 a) r) args s 0 0 (gA 21 a) = QQ
  refine lv_aload_n hx hb dX2_open_0 rfl (lv_at hl 0 rfl) ?_
  refine lv_iload_n hx hb dX2_open_1 rfl (lv_at hl 1 rfl) ?_
  obtain ⟨σ1, hσ1, hf⟩ := nxe hf
  refine x_put (C := RX2) (T := TX2) (NF := 4) (x := x1) (ty := .int) hx hb hts iX2 tyX2 tyX2_ok nmX2 hi hown hK hP hS 2 (by decide) (cH_2 e0 cI cA a (_)) rfl 2 2 (by decide) fl20 rfl (by decide +kernel) rfl rfl (Nat.le_of_ble_eq_true rfl) rfl dX2_open_2 (fun H locs hP hS => ?_)
  rw [← hσ1] at hP
  have hRσ1 : Rg σ1 := by rw [hσ1]; exact Rg_up hR rx1
  refine lv_aload_n hx hb dX2_open_5 rfl (lv_at hl 0 rfl) ?_
  refine lv_iload_n hx hb dX2_open_6 rfl (lv_at hl 2 rfl) ?_
  obtain ⟨σ2, hσ2, hf⟩ := nxe hf
  refine x_put (C := RX2) (T := TX2) (NF := 4) (x := x2) (ty := .int) hx hb hts iX2 tyX2 tyX2_ok nmX2 hi hown hK hP hS 2 (by decide) (cH_2 e0 cI cA a (_)) rfl 3 3 (by decide) fl24 rfl (by decide +kernel) rfl rfl (Nat.le_of_ble_eq_true rfl) rfl dX2_open_7 (fun H locs hP hS => ?_)
  rw [← hσ2] at hP
  have hRσ2 : Rg σ2 := by rw [hσ2]; exact Rg_up hRσ1 rx2
  refine lv_iconst (v := iN 0) hx hb dX2_open_10 rfl ?_
  refine lv_istore_n (lv' := [(3, .int (iN 0)), (0, .ref (a 2)), (1, .int (iN x1)), (2, .int (iN x2))]) hx hb dX2_open_11 rfl hl (by decide) rfl (fun ls hl => ?_)
  have L_fX2_open_2_L12 : ∀ (EX0 : Mem → Int → Option (Int × Mem)), (∀ (σ4 : Mem) (v3 : Int), Rg σ4 → rng v3 → EX0 σ4 v3 = some r → ∀ H locs ls, va_P (dC, dI) vwCl (gw 21 a (cH e0 cI cA a) σ4) H → va_S (gA 21 a) s.heap H locs → lv_has ls 4 [(0, .ref (a 2)), (1, .int (iN x1)), (2, .int (iN x2)), (3, .int (iN v3))] → W p l e RR s m args below meth c H locs 0 0 QQ (F0 m 30 ls [])) → ∀ n0 : Nat, ∀ (σ4 : Mem) (v3 : Int), Rg σ4 → rng v3 → fX2_open_2_L12  EX0 n0 σ4 v3 = some r → ∀ H locs ls, va_P (dC, dI) vwCl (gw 21 a (cH e0 cI cA a) σ4) H → va_S (gA 21 a) s.heap H locs → lv_has ls 4 [(0, .ref (a 2)), (1, .int (iN x1)), (2, .int (iN x2)), (3, .int (iN v3))] → W p l e RR s m args below meth c H locs 0 0 QQ (F0 m 12 ls []) := by
    intro EX0 hEX0 n0
    induction n0 with
    | zero => intro _ _ _ _ hf; cases hf
    | succ n0 ih0 =>
      intro σ4 v3 hRσ4 rv3 hf H locs ls hP hS hl
      rw [fX2_open_2_L12] at hf
      refine lv_iload_n hx hb dX2_open_12 rfl (lv_at hl 3 rfl) ?_
      refine lv_bipush (v := iN 6) hx hb dX2_open_13 (by decide) ?_
      refine x_icmp_ge (tgt := 30) hx hb rv3 (by decide) dX2_open_15 (by decide) (fun c8 => ?_) (fun c8 => ?_)
      · replace hf := (if_neg c8).symm.trans hf
        exact hEX0 _ _ hRσ4 rv3 hf _ _ _ hP hS (lv_sub hl [0, 1, 2, 3] rfl)
      · replace hf := (if_pos c8).symm.trans hf
        refine lv_aload_n hx hb dX2_open_18 rfl (lv_at hl 0 rfl) ?_
        refine lv_iload_n hx hb dX2_open_19 rfl (lv_at hl 3 rfl) ?_
        obtain ⟨v5, σ6, hv5, hf⟩ := bd2 hf
        refine x_callM (va_runV (As := [.int (iN v3)]) (rest := []) ⟨hx, hb, hml, hown, hts⟩ (hX2_empty_2 l dC dI cI cA e0 a hi σ4 v3 (v5, σ6) hv5 hRσ4 rv3) (cwV 1 hts gX2_open_X2_empty rfl rfl rfl hX2_empty_d ⟨Nat.le_trans (by decide) hrm.1, Nat.le_trans (by decide) hrm.2⟩) (pvH 2 (by decide) (cH_2 e0 cI cA a (_)) rfl hP hK hN) rfl rfl hl.1 rfl (lv_room (Nat.le_of_ble_eq_true rfl)) dX2_open_20 ⟨Nat.zero_le _, Nat.zero_le _⟩) hS (fun rv5 hRσ6 H locs hP hS => ?_)
        refine lv_pop hx hb dX2_open_23 rfl ?_
        obtain ⟨g7, hf⟩ := gd hf
        refine lv_iinc (v := iN (v3 + 1)) (lv' := [(3, .int (iN (v3 + 1))), (0, .ref (a 2)), (1, .int (iN x1)), (2, .int (iN x2))]) hx hb dX2_open_24 hl (k := 3) rfl (iN_add v3 1) (by decide) rfl (fun ls hl => ?_)
        refine lv_goto (tgt := 12) hx hb dX2_open_27 (by decide) ?_
        exact ih0 _ _ hRσ6 g7 hf _ _ _ hP hS (lv_sub hl [1, 2, 3, 0] rfl)
  refine L_fX2_open_2_L12 _ (fun σ10 v9 hRσ10 rv9 hf H locs ls hP hS hl => ?_) _ _ _ hRσ2 (by decide) hf _ _ _ hP hS (lv_sub hl [1, 2, 3, 0] rfl)
  rw [← hQQ]
  exact x_vretM hx hb hr (Option.some.inj hf) hRσ10 hP hS hlocks dX2_open_30
set_option maxHeartbeats 4000000 in
set_option maxRecDepth 100000 in
theorem hJ7_fill_53178_c_r13 (l : Launch) (dC : Nat → ClassId) (dI : Nat → Nat → Nat) (cI : ClassId) (cA : ClassId) (e0 : va_E) (a : Nat → Nat) (hi : ∀ i j, i < 21 → j < 21 → a i = a j → i = j) (σ : Mem) (y0 : Int) (x1 : Int) (r : (Int × Mem)) (hf : fJ7_fill_53178_c_r13 σ y0 x1 = some r) (hR : Rg σ) (ry0 : 0 ≤ y0 ∧ y0 < 6) (rx1 : rng x1) : Met l yJ7_fill_53178 wsJ7_fill_53178 ({ frames := 0, cells := 0, slots := 0, locals := 0 }) (va_Pc [.ref (a (13 + y0.toNat)), .int (iN x1)] (preH 21 dC dI cI cA e0 a σ)) (qMv (dC, dI) (gw 21 a (cH e0 cI cA a)) (gA 21 a) r) 0 0 (gA 21 a) := by
  refine Met.ofW (cc := cJ7_fill_53178) (maxL := 4) (ret := none) (by decide) rfl ?_
  intro p e s m args below meth c s₁ B hml hv
  obtain ⟨hargs, hP, hK, hN⟩ := hv
  have hx := B.exec
  have hb := B.bytes
  have hr := B.returns
  have hts := atoms_spec (ws := wsJ7_fill_53178) B.pre
  have hown : s.vm.findClass RJ7 = some m.cls := findClass_of_methodNamed B.named
  have hlocks := B.notSynchronized
  have hS : va_S (gA 21 a) s.heap s.heap [] := va_S.rf
  have hrm : 0 ≤ (headSpec wsJ7_fill_53178 ({ frames := 0, cells := 0, slots := 0, locals := 0 })).room.frames ∧ 0 ≤ (headSpec wsJ7_fill_53178 ({ frames := 0, cells := 0, slots := 0, locals := 0 })).room.locals := ⟨Nat.le_refl _, Nat.le_refl _⟩
  generalize (headSpec wsJ7_fill_53178 ({ frames := 0, cells := 0, slots := 0, locals := 0 })).room = RR at hrm ⊢
  have hl := lv_entry ([.ref (a (13 + y0.toNat)), .int (iN x1)]) (n := 4) (Nat.le_of_ble_eq_true rfl)
  rw [show entryFrame m args 4 = entryFrame m ([.ref (a (13 + y0.toNat)), .int (iN x1)] : List Value).toArray 4 from by rw [hargs], lg_entry_eq]
  generalize (lg_sl ([.ref (a (13 + y0.toNat)), .int (iN x1)]) ++ List.replicate (4 - (lg_sl ([.ref (a (13 + y0.toNat)), .int (iN x1)])).length) Slot.unset).toArray = ls at hl ⊢
  have hl : lv_has ls 4 [(0, .ref (a (13 + y0.toNat))), (1, .int (iN x1))] := hl
  generalize hQQ : MQ below (qMv (dC, dI) (gw 21 a (cH e0 cI cA a)) (gA 21 a) r) args s 0 0 (gA 21 a) = QQ
  refine lv_iconst (v := iN 0) hx hb dJ7_fill_53178_0 rfl ?_
  refine lv_istore_n (lv' := [(2, .int (iN 0)), (0, .ref (a (13 + y0.toNat))), (1, .int (iN x1))]) hx hb dJ7_fill_53178_1 rfl hl (by decide) rfl (fun ls hl => ?_)
  refine lv_aload_n hx hb dJ7_fill_53178_2 rfl (lv_at hl 1 rfl) ?_
  refine va_alen (v := iN 6) hx hb hK hP (13 + y0.toNat) 0 (gw_at (13 + y0.toNat) (rowH_lt13 ry0) (cH_row13 e0 cI cA a ry0 _)) rfl (show Int32.ofNat 6 = iN 6 by decide) dJ7_fill_53178_3 ?_
  refine lv_istore_n (lv' := [(3, .int (iN 6)), (2, .int (iN 0)), (0, .ref (a (13 + y0.toNat))), (1, .int (iN x1))]) hx hb dJ7_fill_53178_4 rfl hl (by decide) rfl (fun ls hl => ?_)
  have L_fJ7_fill_53178_c_r13_L5 : ∀ (EX0 : Mem → Int → Option (Int × Mem)), (∀ (σ2 : Mem) (v1 : Int), Rg σ2 → rng v1 → EX0 σ2 v1 = some r → ∀ H locs ls, va_P (dC, dI) vwCl (gw 21 a (cH e0 cI cA a) σ2) H → va_S (gA 21 a) s.heap H locs → lv_has ls 4 [(0, .ref (a (13 + y0.toNat))), (1, .int (iN x1)), (2, .int (iN v1)), (3, .int (iN 6))] → W p l e RR s m args below meth c H locs 0 0 QQ (F0 m 20 ls [])) → ∀ n0 : Nat, ∀ (σ2 : Mem) (v1 : Int), Rg σ2 → rng v1 → fJ7_fill_53178_c_r13_L5 y0 x1 EX0 n0 σ2 v1 = some r → ∀ H locs ls, va_P (dC, dI) vwCl (gw 21 a (cH e0 cI cA a) σ2) H → va_S (gA 21 a) s.heap H locs → lv_has ls 4 [(0, .ref (a (13 + y0.toNat))), (1, .int (iN x1)), (2, .int (iN v1)), (3, .int (iN 6))] → W p l e RR s m args below meth c H locs 0 0 QQ (F0 m 5 ls []) := by
    intro EX0 hEX0 n0
    induction n0 with
    | zero => intro _ _ _ _ hf; cases hf
    | succ n0 ih0 =>
      intro σ2 v1 hRσ2 rv1 hf H locs ls hP hS hl
      rw [fJ7_fill_53178_c_r13_L5] at hf
      refine lv_iload_n hx hb dJ7_fill_53178_5 rfl (lv_at hl 2 rfl) ?_
      refine lv_iload_n hx hb dJ7_fill_53178_6 rfl (lv_at hl 3 rfl) ?_
      refine x_icmp_ge (tgt := 20) hx hb rv1 (by decide) dJ7_fill_53178_7 (by decide) (fun c6 => ?_) (fun c6 => ?_)
      · replace hf := (if_neg c6).symm.trans hf
        exact hEX0 _ _ hRσ2 rv1 hf _ _ _ hP hS (lv_sub hl [0, 1, 2, 3] rfl)
      · replace hf := (if_pos c6).symm.trans hf
        refine lv_aload_n hx hb dJ7_fill_53178_10 rfl (lv_at hl 0 rfl) ?_
        refine lv_iload_n hx hb dJ7_fill_53178_11 rfl (lv_at hl 2 rfl) ?_
        refine lv_iload_n hx hb dJ7_fill_53178_12 rfl (lv_at hl 1 rfl) ?_
        obtain ⟨g3, hf⟩ := gd hf
        obtain ⟨σ4, hσ4, hf⟩ := nxe hf
        refine x_iast (x := x1) hx hb hi hK hP hS (13 + y0.toNat) 0 (rowH_lt13 ry0) (cH_row13 e0 cI cA a ry0) (by decide) rfl g3 dJ7_fill_53178_13 (fun H locs hP hS => ?_)
        rw [← hσ4] at hP
        have hRσ4 : Rg σ4 := by rw [hσ4]; exact Rg_up hRσ2 rx1
        obtain ⟨g5, hf⟩ := gd hf
        refine lv_iinc (v := iN (v1 + 1)) (lv' := [(2, .int (iN (v1 + 1))), (0, .ref (a (13 + y0.toNat))), (1, .int (iN x1)), (3, .int (iN 6))]) hx hb dJ7_fill_53178_14 hl (k := 2) rfl (iN_add v1 1) (by decide) rfl (fun ls hl => ?_)
        refine lv_goto (tgt := 5) hx hb dJ7_fill_53178_17 (by decide) ?_
        exact ih0 _ _ hRσ4 g5 hf _ _ _ hP hS (lv_sub hl [1, 2, 0, 3] rfl)
  refine L_fJ7_fill_53178_c_r13_L5 _ (fun σ8 v7 hRσ8 rv7 hf H locs ls hP hS hl => ?_) _ _ _ hR (by decide) hf _ _ _ hP hS (lv_sub hl [2, 3, 1, 0] rfl)
  rw [← hQQ]
  exact x_vretM hx hb hr (Option.some.inj hf) hRσ8 hP hS hlocks dJ7_fill_53178_20
set_option maxHeartbeats 4000000 in
set_option maxRecDepth 100000 in
theorem hX2_empty_11 (l : Launch) (dC : Nat → ClassId) (dI : Nat → Nat → Nat) (cI : ClassId) (cA : ClassId) (e0 : va_E) (a : Nat → Nat) (hi : ∀ i j, i < 21 → j < 21 → a i = a j → i = j) (σ : Mem) (x1 : Int) (r : (Int × Mem)) (hf : fX2_empty_11 σ x1 = some r) (hR : Rg σ) (rx1 : rng x1) : Met l yX2_empty wsX2_empty ({ frames := 1, cells := 0, slots := 0, locals := 23 }) (va_Pc [.ref (a 11), .int (iN x1)] (preH 21 dC dI cI cA e0 a σ)) (qM (dC, dI) (gw 21 a (cH e0 cI cA a)) (gA 21 a) r) 0 0 (gA 21 a) := by
  refine Met.ofW (cc := cX2_empty) (maxL := 3) (ret := (some .int)) (by decide) rfl ?_
  intro p e s m args below meth c s₁ B hml hv
  obtain ⟨hargs, hP, hK, hN⟩ := hv
  have hx := B.exec
  have hb := B.bytes
  have hr := B.returns
  have hts := atoms_spec (ws := wsX2_empty) B.pre
  have hown : s.vm.findClass RX2 = some m.cls := findClass_of_methodNamed B.named
  have hlocks := B.notSynchronized
  have hS : va_S (gA 21 a) s.heap s.heap [] := va_S.rf
  have iX2 : ∀ w ∈ wsX20, w ∈ wsX2_empty := by decide +kernel
  have fl11 := hts (.fieldLink RX2 11 "MatchHall$Lists" "places" "[[I") (by decide +kernel)
  have fl16 := hts (.fieldLink RX2 16 "MatchHall$Lists" "sizes" "[I") (by decide +kernel)
  have hrm : 1 ≤ (headSpec wsX2_empty ({ frames := 1, cells := 0, slots := 0, locals := 23 })).room.frames ∧ 23 ≤ (headSpec wsX2_empty ({ frames := 1, cells := 0, slots := 0, locals := 23 })).room.locals := ⟨Nat.le_refl _, Nat.le_refl _⟩
  generalize (headSpec wsX2_empty ({ frames := 1, cells := 0, slots := 0, locals := 23 })).room = RR at hrm ⊢
  have hl := lv_entry ([.ref (a 11), .int (iN x1)]) (n := 3) (Nat.le_of_ble_eq_true rfl)
  rw [show entryFrame m args 3 = entryFrame m ([.ref (a 11), .int (iN x1)] : List Value).toArray 3 from by rw [hargs], lg_entry_eq]
  generalize (lg_sl ([.ref (a 11), .int (iN x1)]) ++ List.replicate (3 - (lg_sl ([.ref (a 11), .int (iN x1)])).length) Slot.unset).toArray = ls at hl ⊢
  have hl : lv_has ls 3 [(0, .ref (a 11)), (1, .int (iN x1))] := hl
  generalize hQQ : MQ below (qM (dC, dI) (gw 21 a (cH e0 cI cA a)) (gA 21 a) r) args s 0 0 (gA 21 a) = QQ
  refine lv_aload_n hx hb dX2_empty_0 rfl (lv_at hl 0 rfl) ?_
  refine x_get (C := RX2) (T := TX2) (NF := 4) (v := .ref (a 19)) hx hb hts iX2 hown hK hP 11 (by decide) (cH_11 e0 cI cA a (_)) rfl 1 (by decide) fl16 rfl dX2_empty_1 ?_
  refine lv_iload_n hx hb dX2_empty_4 rfl (lv_at hl 1 rfl) ?_
  obtain ⟨g1, hf⟩ := gd hf
  refine x_iald hx hb hK hP 19 0 (by decide) (cH_19 e0 cI cA a (_)) (by decide) rfl g1 dX2_empty_5 ?_
  refine lv_istore_n (lv' := [(2, .int (iN (σ 19 x1))), (0, .ref (a 11)), (1, .int (iN x1))]) hx hb dX2_empty_6 rfl hl (by decide) rfl (fun ls hl => ?_)
  refine lv_aload_n hx hb dX2_empty_7 rfl (lv_at hl 1 rfl) ?_
  refine x_get (C := RX2) (T := TX2) (NF := 4) (v := .ref (a 12)) hx hb hts iX2 hown hK hP 11 (by decide) (cH_11 e0 cI cA a (_)) rfl 0 (by decide) fl11 rfl dX2_empty_8 ?_
  refine lv_iload_n hx hb dX2_empty_11 rfl (lv_at hl 2 rfl) ?_
  obtain ⟨g2, hf⟩ := gd hf
  refine x_aald hx hb hK hP 12 1 (by decide) (cH_12 e0 cI cA a (_)) (by decide) rfl g2 (row_f13 a g2) dX2_empty_12 ?_
  refine lv_iconst (v := iN (-1)) hx hb dX2_empty_13 rfl ?_
  obtain ⟨v3, σ4, hv3, hf⟩ := bd2 hf
  refine x_callMv (va_runS (As := [.ref (a (13 + x1.toNat)), .int (iN (-1))]) (rest := []) ⟨hx, hb, hml, hown, hts⟩ (hJ7_fill_53178_c_r13 l dC dI cI cA e0 a hi σ x1 (-1) (v3, σ4) hv3 hR g2 (by decide)) (va_cwS 2 hts gX2_empty_J7_fill_53178 rfl rfl rfl hJ7_fill_53178_d ⟨Nat.le_trans (by decide) hrm.1, Nat.le_trans (by decide) hrm.2⟩) (psH hP hK hN) rfl rfl hl.1 rfl (lv_room (Nat.le_of_ble_eq_true rfl)) dX2_empty_14 ⟨Nat.zero_le _, Nat.zero_le _⟩) hS (fun rv3 hRσ4 H locs hP hS => ?_)
  refine lv_aload_n hx hb dX2_empty_17 rfl (lv_at hl 1 rfl) ?_
  refine x_get (C := RX2) (T := TX2) (NF := 4) (v := .ref (a 19)) hx hb hts iX2 hown hK hP 11 (by decide) (cH_11 e0 cI cA a (_)) rfl 1 (by decide) fl16 rfl dX2_empty_18 ?_
  refine lv_iload_n hx hb dX2_empty_21 rfl (lv_at hl 2 rfl) ?_
  refine lv_iconst (v := iN 0) hx hb dX2_empty_22 rfl ?_
  obtain ⟨g5, hf⟩ := gd hf
  obtain ⟨σ6, hσ6, hf⟩ := nxe hf
  refine x_iast (x := 0) hx hb hi hK hP hS 19 0 (by decide) (cH_19 e0 cI cA a) (by decide) rfl g5 dX2_empty_23 (fun H locs hP hS => ?_)
  rw [← hσ6] at hP
  have hRσ6 : Rg σ6 := by rw [hσ6]; exact Rg_up hRσ4 (by decide)
  refine lv_iload_n hx hb dX2_empty_24 rfl (lv_at hl 0 rfl) ?_
  rw [← hQQ]
  exact x_iretM hx hb hr (Option.some.inj hf) (hR 19 x1) hRσ6 hP hS hlocks dX2_empty_25
set_option maxHeartbeats 4000000 in
set_option maxRecDepth 100000 in
theorem hX2_open_11 (l : Launch) (dC : Nat → ClassId) (dI : Nat → Nat → Nat) (cI : ClassId) (cA : ClassId) (e0 : va_E) (a : Nat → Nat) (hi : ∀ i j, i < 21 → j < 21 → a i = a j → i = j) (σ : Mem) (x1 : Int) (x2 : Int) (r : (Int × Mem)) (hf : fX2_open_11 σ x1 x2 = some r) (hR : Rg σ) (rx1 : rng x1) (rx2 : rng x2) : Met l yX2_open wsX2_open ({ frames := 2, cells := 0, slots := 0, locals := 45 }) (va_Pc [.ref (a 11), .int (iN x1), .int (iN x2)] (preH 21 dC dI cI cA e0 a σ)) (qMv (dC, dI) (gw 21 a (cH e0 cI cA a)) (gA 21 a) r) 0 0 (gA 21 a) := by
  refine Met.ofW (cc := cX2_open) (maxL := 4) (ret := none) (by decide) rfl ?_
  intro p e s m args below meth c s₁ B hml hv
  obtain ⟨hargs, hP, hK, hN⟩ := hv
  have hx := B.exec
  have hb := B.bytes
  have hr := B.returns
  have hts := atoms_spec (ws := wsX2_open) B.pre
  have hown : s.vm.findClass RX2 = some m.cls := findClass_of_methodNamed B.named
  have hlocks := B.notSynchronized
  have hS : va_S (gA 21 a) s.heap s.heap [] := va_S.rf
  have iX2 : ∀ w ∈ wsX20, w ∈ wsX2_open := by decide +kernel
  have fl20 := hts (.fieldLink RX2 20 "MatchHall$Lists" "owners" "I") (by decide +kernel)
  have fl24 := hts (.fieldLink RX2 24 "MatchHall$Lists" "others" "I") (by decide +kernel)
  have hrm : 2 ≤ (headSpec wsX2_open ({ frames := 2, cells := 0, slots := 0, locals := 45 })).room.frames ∧ 45 ≤ (headSpec wsX2_open ({ frames := 2, cells := 0, slots := 0, locals := 45 })).room.locals := ⟨Nat.le_refl _, Nat.le_refl _⟩
  generalize (headSpec wsX2_open ({ frames := 2, cells := 0, slots := 0, locals := 45 })).room = RR at hrm ⊢
  have hl := lv_entry ([.ref (a 11), .int (iN x1), .int (iN x2)]) (n := 4) (Nat.le_of_ble_eq_true rfl)
  rw [show entryFrame m args 4 = entryFrame m ([.ref (a 11), .int (iN x1), .int (iN x2)] : List Value).toArray 4 from by rw [hargs], lg_entry_eq]
  generalize (lg_sl ([.ref (a 11), .int (iN x1), .int (iN x2)]) ++ List.replicate (4 - (lg_sl ([.ref (a 11), .int (iN x1), .int (iN x2)])).length) Slot.unset).toArray = ls at hl ⊢
  have hl : lv_has ls 4 [(0, .ref (a 11)), (1, .int (iN x1)), (2, .int (iN x2))] := hl
  generalize hQQ : MQ below (qMv (dC, dI) (gw 21 a (cH e0 cI cA a)) (gA 21 a) r) args s 0 0 (gA 21 a) = QQ
  refine lv_aload_n hx hb dX2_open_0 rfl (lv_at hl 0 rfl) ?_
  refine lv_iload_n hx hb dX2_open_1 rfl (lv_at hl 1 rfl) ?_
  obtain ⟨σ1, hσ1, hf⟩ := nxe hf
  refine x_put (C := RX2) (T := TX2) (NF := 4) (x := x1) (ty := .int) hx hb hts iX2 tyX2 tyX2_ok nmX2 hi hown hK hP hS 11 (by decide) (cH_11 e0 cI cA a (_)) rfl 2 2 (by decide) fl20 rfl (by decide +kernel) rfl rfl (Nat.le_of_ble_eq_true rfl) rfl dX2_open_2 (fun H locs hP hS => ?_)
  rw [← hσ1] at hP
  have hRσ1 : Rg σ1 := by rw [hσ1]; exact Rg_up hR rx1
  refine lv_aload_n hx hb dX2_open_5 rfl (lv_at hl 0 rfl) ?_
  refine lv_iload_n hx hb dX2_open_6 rfl (lv_at hl 2 rfl) ?_
  obtain ⟨σ2, hσ2, hf⟩ := nxe hf
  refine x_put (C := RX2) (T := TX2) (NF := 4) (x := x2) (ty := .int) hx hb hts iX2 tyX2 tyX2_ok nmX2 hi hown hK hP hS 11 (by decide) (cH_11 e0 cI cA a (_)) rfl 3 3 (by decide) fl24 rfl (by decide +kernel) rfl rfl (Nat.le_of_ble_eq_true rfl) rfl dX2_open_7 (fun H locs hP hS => ?_)
  rw [← hσ2] at hP
  have hRσ2 : Rg σ2 := by rw [hσ2]; exact Rg_up hRσ1 rx2
  refine lv_iconst (v := iN 0) hx hb dX2_open_10 rfl ?_
  refine lv_istore_n (lv' := [(3, .int (iN 0)), (0, .ref (a 11)), (1, .int (iN x1)), (2, .int (iN x2))]) hx hb dX2_open_11 rfl hl (by decide) rfl (fun ls hl => ?_)
  have L_fX2_open_11_L12 : ∀ (EX0 : Mem → Int → Option (Int × Mem)), (∀ (σ4 : Mem) (v3 : Int), Rg σ4 → rng v3 → EX0 σ4 v3 = some r → ∀ H locs ls, va_P (dC, dI) vwCl (gw 21 a (cH e0 cI cA a) σ4) H → va_S (gA 21 a) s.heap H locs → lv_has ls 4 [(0, .ref (a 11)), (1, .int (iN x1)), (2, .int (iN x2)), (3, .int (iN v3))] → W p l e RR s m args below meth c H locs 0 0 QQ (F0 m 30 ls [])) → ∀ n0 : Nat, ∀ (σ4 : Mem) (v3 : Int), Rg σ4 → rng v3 → fX2_open_11_L12  EX0 n0 σ4 v3 = some r → ∀ H locs ls, va_P (dC, dI) vwCl (gw 21 a (cH e0 cI cA a) σ4) H → va_S (gA 21 a) s.heap H locs → lv_has ls 4 [(0, .ref (a 11)), (1, .int (iN x1)), (2, .int (iN x2)), (3, .int (iN v3))] → W p l e RR s m args below meth c H locs 0 0 QQ (F0 m 12 ls []) := by
    intro EX0 hEX0 n0
    induction n0 with
    | zero => intro _ _ _ _ hf; cases hf
    | succ n0 ih0 =>
      intro σ4 v3 hRσ4 rv3 hf H locs ls hP hS hl
      rw [fX2_open_11_L12] at hf
      refine lv_iload_n hx hb dX2_open_12 rfl (lv_at hl 3 rfl) ?_
      refine lv_bipush (v := iN 6) hx hb dX2_open_13 (by decide) ?_
      refine x_icmp_ge (tgt := 30) hx hb rv3 (by decide) dX2_open_15 (by decide) (fun c8 => ?_) (fun c8 => ?_)
      · replace hf := (if_neg c8).symm.trans hf
        exact hEX0 _ _ hRσ4 rv3 hf _ _ _ hP hS (lv_sub hl [0, 1, 2, 3] rfl)
      · replace hf := (if_pos c8).symm.trans hf
        refine lv_aload_n hx hb dX2_open_18 rfl (lv_at hl 0 rfl) ?_
        refine lv_iload_n hx hb dX2_open_19 rfl (lv_at hl 3 rfl) ?_
        obtain ⟨v5, σ6, hv5, hf⟩ := bd2 hf
        refine x_callM (va_runV (As := [.int (iN v3)]) (rest := []) ⟨hx, hb, hml, hown, hts⟩ (hX2_empty_11 l dC dI cI cA e0 a hi σ4 v3 (v5, σ6) hv5 hRσ4 rv3) (cwV 1 hts gX2_open_X2_empty rfl rfl rfl hX2_empty_d ⟨Nat.le_trans (by decide) hrm.1, Nat.le_trans (by decide) hrm.2⟩) (pvH 11 (by decide) (cH_11 e0 cI cA a (_)) rfl hP hK hN) rfl rfl hl.1 rfl (lv_room (Nat.le_of_ble_eq_true rfl)) dX2_open_20 ⟨Nat.zero_le _, Nat.zero_le _⟩) hS (fun rv5 hRσ6 H locs hP hS => ?_)
        refine lv_pop hx hb dX2_open_23 rfl ?_
        obtain ⟨g7, hf⟩ := gd hf
        refine lv_iinc (v := iN (v3 + 1)) (lv' := [(3, .int (iN (v3 + 1))), (0, .ref (a 11)), (1, .int (iN x1)), (2, .int (iN x2))]) hx hb dX2_open_24 hl (k := 3) rfl (iN_add v3 1) (by decide) rfl (fun ls hl => ?_)
        refine lv_goto (tgt := 12) hx hb dX2_open_27 (by decide) ?_
        exact ih0 _ _ hRσ6 g7 hf _ _ _ hP hS (lv_sub hl [1, 2, 3, 0] rfl)
  refine L_fX2_open_11_L12 _ (fun σ10 v9 hRσ10 rv9 hf H locs ls hP hS hl => ?_) _ _ _ hRσ2 (by decide) hf _ _ _ hP hS (lv_sub hl [1, 2, 3, 0] rfl)
  rw [← hQQ]
  exact x_vretM hx hb hr (Option.some.inj hf) hRσ10 hP hS hlocks dX2_open_30
set_option maxHeartbeats 4000000 in
set_option maxRecDepth 100000 in
theorem hJ7_fill_53178_c_20 (l : Launch) (dC : Nat → ClassId) (dI : Nat → Nat → Nat) (cI : ClassId) (cA : ClassId) (e0 : va_E) (a : Nat → Nat) (hi : ∀ i j, i < 21 → j < 21 → a i = a j → i = j) (σ : Mem) (x1 : Int) (r : (Int × Mem)) (hf : fJ7_fill_53178_c_20 σ x1 = some r) (hR : Rg σ) (rx1 : rng x1) : Met l yJ7_fill_53178 wsJ7_fill_53178 ({ frames := 0, cells := 0, slots := 0, locals := 0 }) (va_Pc [.ref (a 20), .int (iN x1)] (preH 21 dC dI cI cA e0 a σ)) (qMv (dC, dI) (gw 21 a (cH e0 cI cA a)) (gA 21 a) r) 0 0 (gA 21 a) := by
  refine Met.ofW (cc := cJ7_fill_53178) (maxL := 4) (ret := none) (by decide) rfl ?_
  intro p e s m args below meth c s₁ B hml hv
  obtain ⟨hargs, hP, hK, hN⟩ := hv
  have hx := B.exec
  have hb := B.bytes
  have hr := B.returns
  have hts := atoms_spec (ws := wsJ7_fill_53178) B.pre
  have hown : s.vm.findClass RJ7 = some m.cls := findClass_of_methodNamed B.named
  have hlocks := B.notSynchronized
  have hS : va_S (gA 21 a) s.heap s.heap [] := va_S.rf
  have hrm : 0 ≤ (headSpec wsJ7_fill_53178 ({ frames := 0, cells := 0, slots := 0, locals := 0 })).room.frames ∧ 0 ≤ (headSpec wsJ7_fill_53178 ({ frames := 0, cells := 0, slots := 0, locals := 0 })).room.locals := ⟨Nat.le_refl _, Nat.le_refl _⟩
  generalize (headSpec wsJ7_fill_53178 ({ frames := 0, cells := 0, slots := 0, locals := 0 })).room = RR at hrm ⊢
  have hl := lv_entry ([.ref (a 20), .int (iN x1)]) (n := 4) (Nat.le_of_ble_eq_true rfl)
  rw [show entryFrame m args 4 = entryFrame m ([.ref (a 20), .int (iN x1)] : List Value).toArray 4 from by rw [hargs], lg_entry_eq]
  generalize (lg_sl ([.ref (a 20), .int (iN x1)]) ++ List.replicate (4 - (lg_sl ([.ref (a 20), .int (iN x1)])).length) Slot.unset).toArray = ls at hl ⊢
  have hl : lv_has ls 4 [(0, .ref (a 20)), (1, .int (iN x1))] := hl
  generalize hQQ : MQ below (qMv (dC, dI) (gw 21 a (cH e0 cI cA a)) (gA 21 a) r) args s 0 0 (gA 21 a) = QQ
  refine lv_iconst (v := iN 0) hx hb dJ7_fill_53178_0 rfl ?_
  refine lv_istore_n (lv' := [(2, .int (iN 0)), (0, .ref (a 20)), (1, .int (iN x1))]) hx hb dJ7_fill_53178_1 rfl hl (by decide) rfl (fun ls hl => ?_)
  refine lv_aload_n hx hb dJ7_fill_53178_2 rfl (lv_at hl 1 rfl) ?_
  refine va_alen (v := iN 6) hx hb hK hP 20 0 (gw_at 20 (by decide) (cH_20 e0 cI cA a (_))) rfl (show Int32.ofNat 6 = iN 6 by decide) dJ7_fill_53178_3 ?_
  refine lv_istore_n (lv' := [(3, .int (iN 6)), (2, .int (iN 0)), (0, .ref (a 20)), (1, .int (iN x1))]) hx hb dJ7_fill_53178_4 rfl hl (by decide) rfl (fun ls hl => ?_)
  have L_fJ7_fill_53178_c_20_L5 : ∀ (EX0 : Mem → Int → Option (Int × Mem)), (∀ (σ2 : Mem) (v1 : Int), Rg σ2 → rng v1 → EX0 σ2 v1 = some r → ∀ H locs ls, va_P (dC, dI) vwCl (gw 21 a (cH e0 cI cA a) σ2) H → va_S (gA 21 a) s.heap H locs → lv_has ls 4 [(0, .ref (a 20)), (1, .int (iN x1)), (2, .int (iN v1)), (3, .int (iN 6))] → W p l e RR s m args below meth c H locs 0 0 QQ (F0 m 20 ls [])) → ∀ n0 : Nat, ∀ (σ2 : Mem) (v1 : Int), Rg σ2 → rng v1 → fJ7_fill_53178_c_20_L5 x1 EX0 n0 σ2 v1 = some r → ∀ H locs ls, va_P (dC, dI) vwCl (gw 21 a (cH e0 cI cA a) σ2) H → va_S (gA 21 a) s.heap H locs → lv_has ls 4 [(0, .ref (a 20)), (1, .int (iN x1)), (2, .int (iN v1)), (3, .int (iN 6))] → W p l e RR s m args below meth c H locs 0 0 QQ (F0 m 5 ls []) := by
    intro EX0 hEX0 n0
    induction n0 with
    | zero => intro _ _ _ _ hf; cases hf
    | succ n0 ih0 =>
      intro σ2 v1 hRσ2 rv1 hf H locs ls hP hS hl
      rw [fJ7_fill_53178_c_20_L5] at hf
      refine lv_iload_n hx hb dJ7_fill_53178_5 rfl (lv_at hl 2 rfl) ?_
      refine lv_iload_n hx hb dJ7_fill_53178_6 rfl (lv_at hl 3 rfl) ?_
      refine x_icmp_ge (tgt := 20) hx hb rv1 (by decide) dJ7_fill_53178_7 (by decide) (fun c6 => ?_) (fun c6 => ?_)
      · replace hf := (if_neg c6).symm.trans hf
        exact hEX0 _ _ hRσ2 rv1 hf _ _ _ hP hS (lv_sub hl [0, 1, 2, 3] rfl)
      · replace hf := (if_pos c6).symm.trans hf
        refine lv_aload_n hx hb dJ7_fill_53178_10 rfl (lv_at hl 0 rfl) ?_
        refine lv_iload_n hx hb dJ7_fill_53178_11 rfl (lv_at hl 2 rfl) ?_
        refine lv_iload_n hx hb dJ7_fill_53178_12 rfl (lv_at hl 1 rfl) ?_
        obtain ⟨g3, hf⟩ := gd hf
        obtain ⟨σ4, hσ4, hf⟩ := nxe hf
        refine x_iast (x := x1) hx hb hi hK hP hS 20 0 (by decide) (cH_20 e0 cI cA a) (by decide) rfl g3 dJ7_fill_53178_13 (fun H locs hP hS => ?_)
        rw [← hσ4] at hP
        have hRσ4 : Rg σ4 := by rw [hσ4]; exact Rg_up hRσ2 rx1
        obtain ⟨g5, hf⟩ := gd hf
        refine lv_iinc (v := iN (v1 + 1)) (lv' := [(2, .int (iN (v1 + 1))), (0, .ref (a 20)), (1, .int (iN x1)), (3, .int (iN 6))]) hx hb dJ7_fill_53178_14 hl (k := 2) rfl (iN_add v1 1) (by decide) rfl (fun ls hl => ?_)
        refine lv_goto (tgt := 5) hx hb dJ7_fill_53178_17 (by decide) ?_
        exact ih0 _ _ hRσ4 g5 hf _ _ _ hP hS (lv_sub hl [1, 2, 0, 3] rfl)
  refine L_fJ7_fill_53178_c_20_L5 _ (fun σ8 v7 hRσ8 rv7 hf H locs ls hP hS hl => ?_) _ _ _ hR (by decide) hf _ _ _ hP hS (lv_sub hl [2, 3, 1, 0] rfl)
  rw [← hQQ]
  exact x_vretM hx hb hr (Option.some.inj hf) hRσ8 hP hS hlocks dJ7_fill_53178_20
set_option maxHeartbeats 4000000 in
set_option maxRecDepth 100000 in
theorem hX1_open_1 (l : Launch) (dC : Nat → ClassId) (dI : Nat → Nat → Nat) (cI : ClassId) (cA : ClassId) (e0 : va_E) (a : Nat → Nat) (hi : ∀ i j, i < 21 → j < 21 → a i = a j → i = j) (σ : Mem) (x1 : Int) (x2 : Int) (r : (Int × Mem)) (hf : fX1_open_1 σ x1 x2 = some r) (hR : Rg σ) (rx1 : rng x1) (rx2 : rng x2) : Met l yX1_open wsX1_open ({ frames := 3, cells := 0, slots := 0, locals := 68 }) (va_Pc [.ref (a 1), .int (iN x1), .int (iN x2)] (preH 21 dC dI cI cA e0 a σ)) (qMv (dC, dI) (gw 21 a (cH e0 cI cA a)) (gA 21 a) r) 0 0 (gA 21 a) := by
  refine Met.ofW (cc := cX1_open) (maxL := 3) (ret := none) (by decide) rfl ?_
  intro p e s m args below meth c s₁ B hml hv
  obtain ⟨hargs, hP, hK, hN⟩ := hv
  have hx := B.exec
  have hb := B.bytes
  have hr := B.returns
  have hts := atoms_spec (ws := wsX1_open) B.pre
  have hown : s.vm.findClass RX1 = some m.cls := findClass_of_methodNamed B.named
  have hlocks := B.notSynchronized
  have hS : va_S (gA 21 a) s.heap s.heap [] := va_S.rf
  have iX1 : ∀ w ∈ wsX10, w ∈ wsX1_open := by decide +kernel
  have fl12 := hts (.fieldLink RX1 12 "MatchHall$Hall" "ofResidents" "LMatchHall$Lists;") (by decide +kernel)
  have fl18 := hts (.fieldLink RX1 18 "MatchHall$Hall" "ofHospitals" "LMatchHall$Lists;") (by decide +kernel)
  have fl21 := hts (.fieldLink RX1 21 "MatchHall$Hall" "seatsOf" "[I") (by decide +kernel)
  have fl29 := hts (.fieldLink RX1 29 "MatchHall$Hall" "residents" "I") (by decide +kernel)
  have fl33 := hts (.fieldLink RX1 33 "MatchHall$Hall" "hospitals" "I") (by decide +kernel)
  have hrm : 3 ≤ (headSpec wsX1_open ({ frames := 3, cells := 0, slots := 0, locals := 68 })).room.frames ∧ 68 ≤ (headSpec wsX1_open ({ frames := 3, cells := 0, slots := 0, locals := 68 })).room.locals := ⟨Nat.le_refl _, Nat.le_refl _⟩
  generalize (headSpec wsX1_open ({ frames := 3, cells := 0, slots := 0, locals := 68 })).room = RR at hrm ⊢
  have hl := lv_entry ([.ref (a 1), .int (iN x1), .int (iN x2)]) (n := 3) (Nat.le_of_ble_eq_true rfl)
  rw [show entryFrame m args 3 = entryFrame m ([.ref (a 1), .int (iN x1), .int (iN x2)] : List Value).toArray 3 from by rw [hargs], lg_entry_eq]
  generalize (lg_sl ([.ref (a 1), .int (iN x1), .int (iN x2)]) ++ List.replicate (3 - (lg_sl ([.ref (a 1), .int (iN x1), .int (iN x2)])).length) Slot.unset).toArray = ls at hl ⊢
  have hl : lv_has ls 3 [(0, .ref (a 1)), (1, .int (iN x1)), (2, .int (iN x2))] := hl
  generalize hQQ : MQ below (qMv (dC, dI) (gw 21 a (cH e0 cI cA a)) (gA 21 a) r) args s 0 0 (gA 21 a) = QQ
  refine lv_aload_n hx hb dX1_open_0 rfl (lv_at hl 0 rfl) ?_
  refine lv_iload_n hx hb dX1_open_1 rfl (lv_at hl 1 rfl) ?_
  obtain ⟨σ1, hσ1, hf⟩ := nxe hf
  refine x_put (C := RX1) (T := TX1) (NF := 5) (x := x1) (ty := .int) hx hb hts iX1 tyX1 tyX1_ok nmX1 hi hown hK hP hS 1 (by decide) (cH_1 e0 cI cA a (_)) rfl 3 3 (by decide) fl29 rfl (by decide +kernel) rfl rfl (Nat.le_of_ble_eq_true rfl) rfl dX1_open_2 (fun H locs hP hS => ?_)
  rw [← hσ1] at hP
  have hRσ1 : Rg σ1 := by rw [hσ1]; exact Rg_up hR rx1
  refine lv_aload_n hx hb dX1_open_5 rfl (lv_at hl 0 rfl) ?_
  refine lv_iload_n hx hb dX1_open_6 rfl (lv_at hl 2 rfl) ?_
  obtain ⟨σ2, hσ2, hf⟩ := nxe hf
  refine x_put (C := RX1) (T := TX1) (NF := 5) (x := x2) (ty := .int) hx hb hts iX1 tyX1 tyX1_ok nmX1 hi hown hK hP hS 1 (by decide) (cH_1 e0 cI cA a (_)) rfl 4 4 (by decide) fl33 rfl (by decide +kernel) rfl rfl (Nat.le_of_ble_eq_true rfl) rfl dX1_open_7 (fun H locs hP hS => ?_)
  rw [← hσ2] at hP
  have hRσ2 : Rg σ2 := by rw [hσ2]; exact Rg_up hRσ1 rx2
  refine lv_aload_n hx hb dX1_open_10 rfl (lv_at hl 0 rfl) ?_
  refine x_get (C := RX1) (T := TX1) (NF := 5) (v := .ref (a 2)) hx hb hts iX1 hown hK hP 1 (by decide) (cH_1 e0 cI cA a (_)) rfl 0 (by decide) fl12 rfl dX1_open_11 ?_
  refine lv_aload_n hx hb dX1_open_14 rfl (lv_at hl 0 rfl) ?_
  refine x_get (C := RX1) (T := TX1) (NF := 5) (v := .int (iN (σ2 1 3))) hx hb hts iX1 hown hK hP 1 (by decide) (cH_1 e0 cI cA a (_)) rfl 3 (by decide) fl29 rfl dX1_open_15 ?_
  refine lv_aload_n hx hb dX1_open_18 rfl (lv_at hl 0 rfl) ?_
  refine x_get (C := RX1) (T := TX1) (NF := 5) (v := .int (iN (σ2 1 4))) hx hb hts iX1 hown hK hP 1 (by decide) (cH_1 e0 cI cA a (_)) rfl 4 (by decide) fl33 rfl dX1_open_19 ?_
  obtain ⟨v3, σ4, hv3, hf⟩ := bd2 hf
  refine x_callMv (va_runV (As := [.int (iN (σ2 1 3)), .int (iN (σ2 1 4))]) (rest := []) ⟨hx, hb, hml, hown, hts⟩ (hX2_open_2 l dC dI cI cA e0 a hi σ2 (σ2 1 3) (σ2 1 4) (v3, σ4) hv3 hRσ2 (hRσ2 1 3) (hRσ2 1 4)) (cwV 2 hts gX1_open_X2_open rfl rfl rfl hX2_open_d ⟨Nat.le_trans (by decide) hrm.1, Nat.le_trans (by decide) hrm.2⟩) (pvH 2 (by decide) (cH_2 e0 cI cA a (_)) rfl hP hK hN) rfl rfl hl.1 rfl (lv_room (Nat.le_of_ble_eq_true rfl)) dX1_open_22 ⟨Nat.zero_le _, Nat.zero_le _⟩) hS (fun rv3 hRσ4 H locs hP hS => ?_)
  refine lv_aload_n hx hb dX1_open_25 rfl (lv_at hl 0 rfl) ?_
  refine x_get (C := RX1) (T := TX1) (NF := 5) (v := .ref (a 11)) hx hb hts iX1 hown hK hP 1 (by decide) (cH_1 e0 cI cA a (_)) rfl 1 (by decide) fl18 rfl dX1_open_26 ?_
  refine lv_aload_n hx hb dX1_open_29 rfl (lv_at hl 0 rfl) ?_
  refine x_get (C := RX1) (T := TX1) (NF := 5) (v := .int (iN (σ4 1 4))) hx hb hts iX1 hown hK hP 1 (by decide) (cH_1 e0 cI cA a (_)) rfl 4 (by decide) fl33 rfl dX1_open_30 ?_
  refine lv_aload_n hx hb dX1_open_33 rfl (lv_at hl 0 rfl) ?_
  refine x_get (C := RX1) (T := TX1) (NF := 5) (v := .int (iN (σ4 1 3))) hx hb hts iX1 hown hK hP 1 (by decide) (cH_1 e0 cI cA a (_)) rfl 3 (by decide) fl29 rfl dX1_open_34 ?_
  obtain ⟨v5, σ6, hv5, hf⟩ := bd2 hf
  refine x_callMv (va_runV (As := [.int (iN (σ4 1 4)), .int (iN (σ4 1 3))]) (rest := []) ⟨hx, hb, hml, hown, hts⟩ (hX2_open_11 l dC dI cI cA e0 a hi σ4 (σ4 1 4) (σ4 1 3) (v5, σ6) hv5 hRσ4 (hRσ4 1 4) (hRσ4 1 3)) (cwV 2 hts gX1_open_X2_open rfl rfl rfl hX2_open_d ⟨Nat.le_trans (by decide) hrm.1, Nat.le_trans (by decide) hrm.2⟩) (pvH 11 (by decide) (cH_11 e0 cI cA a (_)) rfl hP hK hN) rfl rfl hl.1 rfl (lv_room (Nat.le_of_ble_eq_true rfl)) dX1_open_37 ⟨Nat.zero_le _, Nat.zero_le _⟩) hS (fun rv5 hRσ6 H locs hP hS => ?_)
  refine lv_aload_n hx hb dX1_open_40 rfl (lv_at hl 0 rfl) ?_
  refine x_get (C := RX1) (T := TX1) (NF := 5) (v := .ref (a 20)) hx hb hts iX1 hown hK hP 1 (by decide) (cH_1 e0 cI cA a (_)) rfl 2 (by decide) fl21 rfl dX1_open_41 ?_
  refine lv_iconst (v := iN 1) hx hb dX1_open_44 rfl ?_
  obtain ⟨v7, σ8, hv7, hf⟩ := bd2 hf
  refine x_callMv (va_runS (As := [.ref (a 20), .int (iN 1)]) (rest := []) ⟨hx, hb, hml, hown, hts⟩ (hJ7_fill_53178_c_20 l dC dI cI cA e0 a hi σ6 1 (v7, σ8) hv7 hRσ6 (by decide)) (va_cwS 2 hts gX1_open_J7_fill_53178 rfl rfl rfl hJ7_fill_53178_d ⟨Nat.le_trans (by decide) hrm.1, Nat.le_trans (by decide) hrm.2⟩) (psH hP hK hN) rfl rfl hl.1 rfl (lv_room (Nat.le_of_ble_eq_true rfl)) dX1_open_45 ⟨Nat.zero_le _, Nat.zero_le _⟩) hS (fun rv7 hRσ8 H locs hP hS => ?_)
  rw [← hQQ]
  exact x_vretM hx hb hr (Option.some.inj hf) hRσ8 hP hS hlocks dX1_open_48
set_option maxHeartbeats 4000000 in
set_option maxRecDepth 100000 in
theorem hJ7_fill_53178_c_22 (l : Launch) (dC : Nat → ClassId) (dI : Nat → Nat → Nat) (cI : ClassId) (cA : ClassId) (e0 : va_E) (a : Nat → Nat) (hi : ∀ i j, i < 23 → j < 23 → a i = a j → i = j) (σ : Mem) (x1 : Int) (r : (Int × Mem)) (hf : fJ7_fill_53178_c_22 σ x1 = some r) (hR : Rg σ) (rx1 : rng x1) : Met l yJ7_fill_53178 wsJ7_fill_53178 ({ frames := 0, cells := 0, slots := 0, locals := 0 }) (va_Pc [.ref (a 22), .int (iN x1)] (preH 23 dC dI cI cA e0 a σ)) (qMv (dC, dI) (gw 23 a (cH e0 cI cA a)) (gA 23 a) r) 0 0 (gA 23 a) := by
  refine Met.ofW (cc := cJ7_fill_53178) (maxL := 4) (ret := none) (by decide) rfl ?_
  intro p e s m args below meth c s₁ B hml hv
  obtain ⟨hargs, hP, hK, hN⟩ := hv
  have hx := B.exec
  have hb := B.bytes
  have hr := B.returns
  have hts := atoms_spec (ws := wsJ7_fill_53178) B.pre
  have hown : s.vm.findClass RJ7 = some m.cls := findClass_of_methodNamed B.named
  have hlocks := B.notSynchronized
  have hS : va_S (gA 23 a) s.heap s.heap [] := va_S.rf
  have hrm : 0 ≤ (headSpec wsJ7_fill_53178 ({ frames := 0, cells := 0, slots := 0, locals := 0 })).room.frames ∧ 0 ≤ (headSpec wsJ7_fill_53178 ({ frames := 0, cells := 0, slots := 0, locals := 0 })).room.locals := ⟨Nat.le_refl _, Nat.le_refl _⟩
  generalize (headSpec wsJ7_fill_53178 ({ frames := 0, cells := 0, slots := 0, locals := 0 })).room = RR at hrm ⊢
  have hl := lv_entry ([.ref (a 22), .int (iN x1)]) (n := 4) (Nat.le_of_ble_eq_true rfl)
  rw [show entryFrame m args 4 = entryFrame m ([.ref (a 22), .int (iN x1)] : List Value).toArray 4 from by rw [hargs], lg_entry_eq]
  generalize (lg_sl ([.ref (a 22), .int (iN x1)]) ++ List.replicate (4 - (lg_sl ([.ref (a 22), .int (iN x1)])).length) Slot.unset).toArray = ls at hl ⊢
  have hl : lv_has ls 4 [(0, .ref (a 22)), (1, .int (iN x1))] := hl
  generalize hQQ : MQ below (qMv (dC, dI) (gw 23 a (cH e0 cI cA a)) (gA 23 a) r) args s 0 0 (gA 23 a) = QQ
  refine lv_iconst (v := iN 0) hx hb dJ7_fill_53178_0 rfl ?_
  refine lv_istore_n (lv' := [(2, .int (iN 0)), (0, .ref (a 22)), (1, .int (iN x1))]) hx hb dJ7_fill_53178_1 rfl hl (by decide) rfl (fun ls hl => ?_)
  refine lv_aload_n hx hb dJ7_fill_53178_2 rfl (lv_at hl 1 rfl) ?_
  refine va_alen (v := iN 6) hx hb hK hP 22 0 (gw_at 22 (by decide) (cH_22 e0 cI cA a (_))) rfl (show Int32.ofNat 6 = iN 6 by decide) dJ7_fill_53178_3 ?_
  refine lv_istore_n (lv' := [(3, .int (iN 6)), (2, .int (iN 0)), (0, .ref (a 22)), (1, .int (iN x1))]) hx hb dJ7_fill_53178_4 rfl hl (by decide) rfl (fun ls hl => ?_)
  have L_fJ7_fill_53178_c_22_L5 : ∀ (EX0 : Mem → Int → Option (Int × Mem)), (∀ (σ2 : Mem) (v1 : Int), Rg σ2 → rng v1 → EX0 σ2 v1 = some r → ∀ H locs ls, va_P (dC, dI) vwCl (gw 23 a (cH e0 cI cA a) σ2) H → va_S (gA 23 a) s.heap H locs → lv_has ls 4 [(0, .ref (a 22)), (1, .int (iN x1)), (2, .int (iN v1)), (3, .int (iN 6))] → W p l e RR s m args below meth c H locs 0 0 QQ (F0 m 20 ls [])) → ∀ n0 : Nat, ∀ (σ2 : Mem) (v1 : Int), Rg σ2 → rng v1 → fJ7_fill_53178_c_22_L5 x1 EX0 n0 σ2 v1 = some r → ∀ H locs ls, va_P (dC, dI) vwCl (gw 23 a (cH e0 cI cA a) σ2) H → va_S (gA 23 a) s.heap H locs → lv_has ls 4 [(0, .ref (a 22)), (1, .int (iN x1)), (2, .int (iN v1)), (3, .int (iN 6))] → W p l e RR s m args below meth c H locs 0 0 QQ (F0 m 5 ls []) := by
    intro EX0 hEX0 n0
    induction n0 with
    | zero => intro _ _ _ _ hf; cases hf
    | succ n0 ih0 =>
      intro σ2 v1 hRσ2 rv1 hf H locs ls hP hS hl
      rw [fJ7_fill_53178_c_22_L5] at hf
      refine lv_iload_n hx hb dJ7_fill_53178_5 rfl (lv_at hl 2 rfl) ?_
      refine lv_iload_n hx hb dJ7_fill_53178_6 rfl (lv_at hl 3 rfl) ?_
      refine x_icmp_ge (tgt := 20) hx hb rv1 (by decide) dJ7_fill_53178_7 (by decide) (fun c6 => ?_) (fun c6 => ?_)
      · replace hf := (if_neg c6).symm.trans hf
        exact hEX0 _ _ hRσ2 rv1 hf _ _ _ hP hS (lv_sub hl [0, 1, 2, 3] rfl)
      · replace hf := (if_pos c6).symm.trans hf
        refine lv_aload_n hx hb dJ7_fill_53178_10 rfl (lv_at hl 0 rfl) ?_
        refine lv_iload_n hx hb dJ7_fill_53178_11 rfl (lv_at hl 2 rfl) ?_
        refine lv_iload_n hx hb dJ7_fill_53178_12 rfl (lv_at hl 1 rfl) ?_
        obtain ⟨g3, hf⟩ := gd hf
        obtain ⟨σ4, hσ4, hf⟩ := nxe hf
        refine x_iast (x := x1) hx hb hi hK hP hS 22 0 (by decide) (cH_22 e0 cI cA a) (by decide) rfl g3 dJ7_fill_53178_13 (fun H locs hP hS => ?_)
        rw [← hσ4] at hP
        have hRσ4 : Rg σ4 := by rw [hσ4]; exact Rg_up hRσ2 rx1
        obtain ⟨g5, hf⟩ := gd hf
        refine lv_iinc (v := iN (v1 + 1)) (lv' := [(2, .int (iN (v1 + 1))), (0, .ref (a 22)), (1, .int (iN x1)), (3, .int (iN 6))]) hx hb dJ7_fill_53178_14 hl (k := 2) rfl (iN_add v1 1) (by decide) rfl (fun ls hl => ?_)
        refine lv_goto (tgt := 5) hx hb dJ7_fill_53178_17 (by decide) ?_
        exact ih0 _ _ hRσ4 g5 hf _ _ _ hP hS (lv_sub hl [1, 2, 0, 3] rfl)
  refine L_fJ7_fill_53178_c_22_L5 _ (fun σ8 v7 hRσ8 rv7 hf H locs ls hP hS hl => ?_) _ _ _ hR (by decide) hf _ _ _ hP hS (lv_sub hl [2, 3, 1, 0] rfl)
  rw [← hQQ]
  exact x_vretM hx hb hr (Option.some.inj hf) hRσ8 hP hS hlocks dJ7_fill_53178_20
set_option maxHeartbeats 4000000 in
set_option maxRecDepth 100000 in
theorem hX3_clear_21 (l : Launch) (dC : Nat → ClassId) (dI : Nat → Nat → Nat) (cI : ClassId) (cA : ClassId) (e0 : va_E) (a : Nat → Nat) (hi : ∀ i j, i < 23 → j < 23 → a i = a j → i = j) (σ : Mem) (r : (Int × Mem)) (hf : fX3_clear_21 σ  = some r) (hR : Rg σ) : Met l yX3_clear wsX3_clear ({ frames := 1, cells := 0, slots := 0, locals := 23 }) (va_Pc [.ref (a 21)] (preH 23 dC dI cI cA e0 a σ)) (qMv (dC, dI) (gw 23 a (cH e0 cI cA a)) (gA 23 a) r) 0 0 (gA 23 a) := by
  refine Met.ofW (cc := cX3_clear) (maxL := 1) (ret := none) (by decide) rfl ?_
  intro p e s m args below meth c s₁ B hml hv
  obtain ⟨hargs, hP, hK, hN⟩ := hv
  have hx := B.exec
  have hb := B.bytes
  have hr := B.returns
  have hts := atoms_spec (ws := wsX3_clear) B.pre
  have hown : s.vm.findClass RX3 = some m.cls := findClass_of_methodNamed B.named
  have hlocks := B.notSynchronized
  have hS : va_S (gA 23 a) s.heap s.heap [] := va_S.rf
  have iX3 : ∀ w ∈ wsX30, w ∈ wsX3_clear := by decide +kernel
  have fl9 := hts (.fieldLink RX3 9 "MatchHall$Matching" "hospitalOf" "[I") (by decide +kernel)
  have hrm : 1 ≤ (headSpec wsX3_clear ({ frames := 1, cells := 0, slots := 0, locals := 23 })).room.frames ∧ 23 ≤ (headSpec wsX3_clear ({ frames := 1, cells := 0, slots := 0, locals := 23 })).room.locals := ⟨Nat.le_refl _, Nat.le_refl _⟩
  generalize (headSpec wsX3_clear ({ frames := 1, cells := 0, slots := 0, locals := 23 })).room = RR at hrm ⊢
  have hl := lv_entry ([.ref (a 21)]) (n := 1) (Nat.le_of_ble_eq_true rfl)
  rw [show entryFrame m args 1 = entryFrame m ([.ref (a 21)] : List Value).toArray 1 from by rw [hargs], lg_entry_eq]
  generalize (lg_sl ([.ref (a 21)]) ++ List.replicate (1 - (lg_sl ([.ref (a 21)])).length) Slot.unset).toArray = ls at hl ⊢
  have hl : lv_has ls 1 [(0, .ref (a 21))] := hl
  generalize hQQ : MQ below (qMv (dC, dI) (gw 23 a (cH e0 cI cA a)) (gA 23 a) r) args s 0 0 (gA 23 a) = QQ
  refine lv_aload_n hx hb dX3_clear_0 rfl (lv_at hl 0 rfl) ?_
  refine x_get (C := RX3) (T := TX3) (NF := 2) (v := .ref (a 22)) hx hb hts iX3 hown hK hP 21 (by decide) (cH_21 e0 cI cA a (_)) rfl 1 (by decide) fl9 rfl dX3_clear_1 ?_
  refine lv_iconst (v := iN (-1)) hx hb dX3_clear_4 rfl ?_
  obtain ⟨v1, σ2, hv1, hf⟩ := bd2 hf
  refine x_callMv (va_runS (As := [.ref (a 22), .int (iN (-1))]) (rest := []) ⟨hx, hb, hml, hown, hts⟩ (hJ7_fill_53178_c_22 l dC dI cI cA e0 a hi σ (-1) (v1, σ2) hv1 hR (by decide)) (va_cwS 2 hts gX3_clear_J7_fill_53178 rfl rfl rfl hJ7_fill_53178_d ⟨Nat.le_trans (by decide) hrm.1, Nat.le_trans (by decide) hrm.2⟩) (psH hP hK hN) rfl rfl hl.1 rfl (lv_room (Nat.le_of_ble_eq_true rfl)) dX3_clear_5 ⟨Nat.zero_le _, Nat.zero_le _⟩) hS (fun rv1 hRσ2 H locs hP hS => ?_)
  rw [← hQQ]
  exact x_vretM hx hb hr (Option.some.inj hf) hRσ2 hP hS hlocks dX3_clear_8
set_option maxHeartbeats 4000000 in
set_option maxRecDepth 100000 in
theorem hJ7_fill_53178_c_24 (l : Launch) (dC : Nat → ClassId) (dI : Nat → Nat → Nat) (cI : ClassId) (cA : ClassId) (e0 : va_E) (a : Nat → Nat) (hi : ∀ i j, i < 25 → j < 25 → a i = a j → i = j) (σ : Mem) (x1 : Int) (r : (Int × Mem)) (hf : fJ7_fill_53178_c_24 σ x1 = some r) (hR : Rg σ) (rx1 : rng x1) : Met l yJ7_fill_53178 wsJ7_fill_53178 ({ frames := 0, cells := 0, slots := 0, locals := 0 }) (va_Pc [.ref (a 24), .int (iN x1)] (preH 25 dC dI cI cA e0 a σ)) (qMv (dC, dI) (gw 25 a (cH e0 cI cA a)) (gA 25 a) r) 0 0 (gA 25 a) := by
  refine Met.ofW (cc := cJ7_fill_53178) (maxL := 4) (ret := none) (by decide) rfl ?_
  intro p e s m args below meth c s₁ B hml hv
  obtain ⟨hargs, hP, hK, hN⟩ := hv
  have hx := B.exec
  have hb := B.bytes
  have hr := B.returns
  have hts := atoms_spec (ws := wsJ7_fill_53178) B.pre
  have hown : s.vm.findClass RJ7 = some m.cls := findClass_of_methodNamed B.named
  have hlocks := B.notSynchronized
  have hS : va_S (gA 25 a) s.heap s.heap [] := va_S.rf
  have hrm : 0 ≤ (headSpec wsJ7_fill_53178 ({ frames := 0, cells := 0, slots := 0, locals := 0 })).room.frames ∧ 0 ≤ (headSpec wsJ7_fill_53178 ({ frames := 0, cells := 0, slots := 0, locals := 0 })).room.locals := ⟨Nat.le_refl _, Nat.le_refl _⟩
  generalize (headSpec wsJ7_fill_53178 ({ frames := 0, cells := 0, slots := 0, locals := 0 })).room = RR at hrm ⊢
  have hl := lv_entry ([.ref (a 24), .int (iN x1)]) (n := 4) (Nat.le_of_ble_eq_true rfl)
  rw [show entryFrame m args 4 = entryFrame m ([.ref (a 24), .int (iN x1)] : List Value).toArray 4 from by rw [hargs], lg_entry_eq]
  generalize (lg_sl ([.ref (a 24), .int (iN x1)]) ++ List.replicate (4 - (lg_sl ([.ref (a 24), .int (iN x1)])).length) Slot.unset).toArray = ls at hl ⊢
  have hl : lv_has ls 4 [(0, .ref (a 24)), (1, .int (iN x1))] := hl
  generalize hQQ : MQ below (qMv (dC, dI) (gw 25 a (cH e0 cI cA a)) (gA 25 a) r) args s 0 0 (gA 25 a) = QQ
  refine lv_iconst (v := iN 0) hx hb dJ7_fill_53178_0 rfl ?_
  refine lv_istore_n (lv' := [(2, .int (iN 0)), (0, .ref (a 24)), (1, .int (iN x1))]) hx hb dJ7_fill_53178_1 rfl hl (by decide) rfl (fun ls hl => ?_)
  refine lv_aload_n hx hb dJ7_fill_53178_2 rfl (lv_at hl 1 rfl) ?_
  refine va_alen (v := iN 6) hx hb hK hP 24 0 (gw_at 24 (by decide) (cH_24 e0 cI cA a (_))) rfl (show Int32.ofNat 6 = iN 6 by decide) dJ7_fill_53178_3 ?_
  refine lv_istore_n (lv' := [(3, .int (iN 6)), (2, .int (iN 0)), (0, .ref (a 24)), (1, .int (iN x1))]) hx hb dJ7_fill_53178_4 rfl hl (by decide) rfl (fun ls hl => ?_)
  have L_fJ7_fill_53178_c_24_L5 : ∀ (EX0 : Mem → Int → Option (Int × Mem)), (∀ (σ2 : Mem) (v1 : Int), Rg σ2 → rng v1 → EX0 σ2 v1 = some r → ∀ H locs ls, va_P (dC, dI) vwCl (gw 25 a (cH e0 cI cA a) σ2) H → va_S (gA 25 a) s.heap H locs → lv_has ls 4 [(0, .ref (a 24)), (1, .int (iN x1)), (2, .int (iN v1)), (3, .int (iN 6))] → W p l e RR s m args below meth c H locs 0 0 QQ (F0 m 20 ls [])) → ∀ n0 : Nat, ∀ (σ2 : Mem) (v1 : Int), Rg σ2 → rng v1 → fJ7_fill_53178_c_24_L5 x1 EX0 n0 σ2 v1 = some r → ∀ H locs ls, va_P (dC, dI) vwCl (gw 25 a (cH e0 cI cA a) σ2) H → va_S (gA 25 a) s.heap H locs → lv_has ls 4 [(0, .ref (a 24)), (1, .int (iN x1)), (2, .int (iN v1)), (3, .int (iN 6))] → W p l e RR s m args below meth c H locs 0 0 QQ (F0 m 5 ls []) := by
    intro EX0 hEX0 n0
    induction n0 with
    | zero => intro _ _ _ _ hf; cases hf
    | succ n0 ih0 =>
      intro σ2 v1 hRσ2 rv1 hf H locs ls hP hS hl
      rw [fJ7_fill_53178_c_24_L5] at hf
      refine lv_iload_n hx hb dJ7_fill_53178_5 rfl (lv_at hl 2 rfl) ?_
      refine lv_iload_n hx hb dJ7_fill_53178_6 rfl (lv_at hl 3 rfl) ?_
      refine x_icmp_ge (tgt := 20) hx hb rv1 (by decide) dJ7_fill_53178_7 (by decide) (fun c6 => ?_) (fun c6 => ?_)
      · replace hf := (if_neg c6).symm.trans hf
        exact hEX0 _ _ hRσ2 rv1 hf _ _ _ hP hS (lv_sub hl [0, 1, 2, 3] rfl)
      · replace hf := (if_pos c6).symm.trans hf
        refine lv_aload_n hx hb dJ7_fill_53178_10 rfl (lv_at hl 0 rfl) ?_
        refine lv_iload_n hx hb dJ7_fill_53178_11 rfl (lv_at hl 2 rfl) ?_
        refine lv_iload_n hx hb dJ7_fill_53178_12 rfl (lv_at hl 1 rfl) ?_
        obtain ⟨g3, hf⟩ := gd hf
        obtain ⟨σ4, hσ4, hf⟩ := nxe hf
        refine x_iast (x := x1) hx hb hi hK hP hS 24 0 (by decide) (cH_24 e0 cI cA a) (by decide) rfl g3 dJ7_fill_53178_13 (fun H locs hP hS => ?_)
        rw [← hσ4] at hP
        have hRσ4 : Rg σ4 := by rw [hσ4]; exact Rg_up hRσ2 rx1
        obtain ⟨g5, hf⟩ := gd hf
        refine lv_iinc (v := iN (v1 + 1)) (lv' := [(2, .int (iN (v1 + 1))), (0, .ref (a 24)), (1, .int (iN x1)), (3, .int (iN 6))]) hx hb dJ7_fill_53178_14 hl (k := 2) rfl (iN_add v1 1) (by decide) rfl (fun ls hl => ?_)
        refine lv_goto (tgt := 5) hx hb dJ7_fill_53178_17 (by decide) ?_
        exact ih0 _ _ hRσ4 g5 hf _ _ _ hP hS (lv_sub hl [1, 2, 0, 3] rfl)
  refine L_fJ7_fill_53178_c_24_L5 _ (fun σ8 v7 hRσ8 rv7 hf H locs ls hP hS hl => ?_) _ _ _ hR (by decide) hf _ _ _ hP hS (lv_sub hl [2, 3, 1, 0] rfl)
  rw [← hQQ]
  exact x_vretM hx hb hr (Option.some.inj hf) hRσ8 hP hS hlocks dJ7_fill_53178_20
set_option maxHeartbeats 4000000 in
set_option maxRecDepth 100000 in
theorem hX3_clear_23 (l : Launch) (dC : Nat → ClassId) (dI : Nat → Nat → Nat) (cI : ClassId) (cA : ClassId) (e0 : va_E) (a : Nat → Nat) (hi : ∀ i j, i < 25 → j < 25 → a i = a j → i = j) (σ : Mem) (r : (Int × Mem)) (hf : fX3_clear_23 σ  = some r) (hR : Rg σ) : Met l yX3_clear wsX3_clear ({ frames := 1, cells := 0, slots := 0, locals := 23 }) (va_Pc [.ref (a 23)] (preH 25 dC dI cI cA e0 a σ)) (qMv (dC, dI) (gw 25 a (cH e0 cI cA a)) (gA 25 a) r) 0 0 (gA 25 a) := by
  refine Met.ofW (cc := cX3_clear) (maxL := 1) (ret := none) (by decide) rfl ?_
  intro p e s m args below meth c s₁ B hml hv
  obtain ⟨hargs, hP, hK, hN⟩ := hv
  have hx := B.exec
  have hb := B.bytes
  have hr := B.returns
  have hts := atoms_spec (ws := wsX3_clear) B.pre
  have hown : s.vm.findClass RX3 = some m.cls := findClass_of_methodNamed B.named
  have hlocks := B.notSynchronized
  have hS : va_S (gA 25 a) s.heap s.heap [] := va_S.rf
  have iX3 : ∀ w ∈ wsX30, w ∈ wsX3_clear := by decide +kernel
  have fl9 := hts (.fieldLink RX3 9 "MatchHall$Matching" "hospitalOf" "[I") (by decide +kernel)
  have hrm : 1 ≤ (headSpec wsX3_clear ({ frames := 1, cells := 0, slots := 0, locals := 23 })).room.frames ∧ 23 ≤ (headSpec wsX3_clear ({ frames := 1, cells := 0, slots := 0, locals := 23 })).room.locals := ⟨Nat.le_refl _, Nat.le_refl _⟩
  generalize (headSpec wsX3_clear ({ frames := 1, cells := 0, slots := 0, locals := 23 })).room = RR at hrm ⊢
  have hl := lv_entry ([.ref (a 23)]) (n := 1) (Nat.le_of_ble_eq_true rfl)
  rw [show entryFrame m args 1 = entryFrame m ([.ref (a 23)] : List Value).toArray 1 from by rw [hargs], lg_entry_eq]
  generalize (lg_sl ([.ref (a 23)]) ++ List.replicate (1 - (lg_sl ([.ref (a 23)])).length) Slot.unset).toArray = ls at hl ⊢
  have hl : lv_has ls 1 [(0, .ref (a 23))] := hl
  generalize hQQ : MQ below (qMv (dC, dI) (gw 25 a (cH e0 cI cA a)) (gA 25 a) r) args s 0 0 (gA 25 a) = QQ
  refine lv_aload_n hx hb dX3_clear_0 rfl (lv_at hl 0 rfl) ?_
  refine x_get (C := RX3) (T := TX3) (NF := 2) (v := .ref (a 24)) hx hb hts iX3 hown hK hP 23 (by decide) (cH_23 e0 cI cA a (_)) rfl 1 (by decide) fl9 rfl dX3_clear_1 ?_
  refine lv_iconst (v := iN (-1)) hx hb dX3_clear_4 rfl ?_
  obtain ⟨v1, σ2, hv1, hf⟩ := bd2 hf
  refine x_callMv (va_runS (As := [.ref (a 24), .int (iN (-1))]) (rest := []) ⟨hx, hb, hml, hown, hts⟩ (hJ7_fill_53178_c_24 l dC dI cI cA e0 a hi σ (-1) (v1, σ2) hv1 hR (by decide)) (va_cwS 2 hts gX3_clear_J7_fill_53178 rfl rfl rfl hJ7_fill_53178_d ⟨Nat.le_trans (by decide) hrm.1, Nat.le_trans (by decide) hrm.2⟩) (psH hP hK hN) rfl rfl hl.1 rfl (lv_room (Nat.le_of_ble_eq_true rfl)) dX3_clear_5 ⟨Nat.zero_le _, Nat.zero_le _⟩) hS (fun rv1 hRσ2 H locs hP hS => ?_)
  rw [← hQQ]
  exact x_vretM hx hb hr (Option.some.inj hf) hRσ2 hP hS hlocks dX3_clear_8
