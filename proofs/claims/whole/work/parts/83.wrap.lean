/-! THE LAW'S FOUR HELPERS: what they answer, whether the class returns or throws (printed by wip/whole/pure/p83.py) -/
theorem pvX {dC : Nat → ClassId} {dI : Nat → Nat → Nat} {cI cA : ClassId} {a : Nat → Nat} {σ : Mem} {s : State} {H : Heap} (k : Nat) (hk : k < 37) {ci n : Nat} {fs : List Value} {Cn : String} {Tn : u_T} (hE : cE cI cA a k (σ k) = .inr (ci, fs)) (hc : vwCl[ci]? = some (Cn, Tn, n)) (hP : va_P (dC, dI) vwCl (gw 37 a (cE cI cA a) σ) H) (hK : va_K (dC, dI) vwCl (tyL cI cA) s) (hN : NW s) (hW : XW s) (hU : zqU (gA 37 a) s H) (hZ : zqS (gA 37 a) s H) {As : List Value} : PreV s H Cn (a k) (va_Pc (Value.ref (a k) :: As) (preX dC dI cI cA a σ)) As :=
  ⟨fbX, va_recv hK hP hc (gw_at k hk hE), fun U hU9 hW9 => ⟨rfl, ⟨by rw [hU9]; exact hP, va_K.moved hW9.alike hK, hN.warm hW9⟩, hW.warm hW9, by rw [hU9]; exact hU.moved hW9.alike, by rw [hU9]; exact hZ.moved hW9.alike⟩⟩
theorem psX {dC : Nat → ClassId} {dI : Nat → Nat → Nat} {cI cA : ClassId} {a : Nat → Nat} {σ : Mem} {s : State} {H : Heap} (hP : va_P (dC, dI) vwCl (gw 37 a (cE cI cA a) σ) H) (hK : va_K (dC, dI) vwCl (tyL cI cA) s) (hN : NW s) (hW : XW s) (hU : zqU (gA 37 a) s H) (hZ : zqS (gA 37 a) s H) {As : List Value} : PreS s H (va_Pc As (preX dC dI cI cA a σ)) As :=
  ⟨fbX, fun U hU9 hW9 => ⟨rfl, ⟨by rw [hU9]; exact hP, va_K.moved hW9.alike hK, hN.warm hW9⟩, hW.warm hW9, by rw [hU9]; exact hU.moved hW9.alike, by rw [hU9]; exact hZ.moved hW9.alike⟩⟩
section XT
variable {p : Program} {l : Launch} {e : Env} {R : Room} {s : State} {m : MethodId} {args : Array Value} {below : List Frame} {meth : Method} {c : Code} {H : Heap} {locs : List Loc} {cells slots : Nat} {Q : State → Prop}
variable {pc : Nat} {ls : Array Slot} {rest st0 : List Value}
theorem x_callT {XC : String → State → State → Prop} {mc ms : Nat} (hr : vx_Run p l e R s m args below meth c H locs cells slots mc ms (F0 m pc ls st0) rest (fun _ _ _ => False) XC (fun _ => False))
    (kx : ∀ (E : String) (ce : Cell) (q9 : Addr) (st t : State) (H1 : Heap), st.heap = H → t.heap = H1 → XC E st t → H1[q9]? = some ce → ce.vm = .none → s.vm.findClass E = some ce.cls → vx_W p l e R s m args below meth c H1 locs (cells + mc) (slots + ms) Q (F0 m pc ls rest) q9) : W p l e R s m args below meth c H locs cells slots Q (F0 m pc ls st0) := by
  intro T hT X
  rcases hr T hT X with ⟨v, st₀, t, T', L, h0, X', hL, e1, e2, hq, st⟩ | ⟨q, st₀, t, T', L, E, ce, h0, X', hL, e1, e2, hx, hce, hcv, hcl, st⟩
  · exact hq.elim
  · have hL0 : L = [] := by
      cases L with
      | nil => rfl
      | cons q _ => exact absurd (hL q List.mem_cons_self) id
    subst hL0
    rw [List.append_nil] at X'
    obtain ⟨t2, a1, b1⟩ := kx E ce q st₀ t T'.heap h0 e1.symm hx (by rw [e1]; exact hce) hcv hcl T' rfl X'
    exact ⟨t2, st.trans a1, b1⟩
end XT
theorem hX6_make_d : yX6_make.cls = RX6 ∧ yX6_make.cls ≠ "java/lang/invoke/MethodHandle" ∧ yX6_make.cls ≠ "java/lang/invoke/VarHandle" ∧ (parseMethodDescriptor yX6_make.desc).map (fun d => d.parameters.length) = some 2 := by decide +kernel
set_option maxHeartbeats 4000000 in
set_option maxRecDepth 100000 in
theorem wL_make (l : Launch) (dC : Nat → ClassId) (dI : Nat → Nat → Nat) (cI : ClassId) (cA : ClassId) (a : Nat → Nat) (hi : ∀ i j, i < 37 → j < 37 → a i = a j → i = j) (σ : Mem) (x1 : Int) (x2 : Int) (σ' : Mem) (hf : fX6_make_0 σ x1 x2 = some (0, σ')) (hR : Rg σ) (rx1 : rng x1) (rx2 : rng x2) : vx_Met l yL_make wsL_make ({ frames := 8, cells := 1, slots := 6, locals := 160 }) (va_Pc [.ref (a 0), .int (iN x1), .int (iN x2)] (preX dC dI cI cA a σ)) (qM (dC, dI) (gw 37 a (cE cI cA a)) (gA 37 a) (0, σ')) (fun _ _ _ => False) 1 6 (gA 37 a) := by
  refine vx_ofWH (cc := cL_make) (maxL := 4) (ret := (some .int)) (hh := [(0, 6, 9, 13)]) (by decide) rfl ?_
  intro p e s m args below meth c s₁ B hml hv
  obtain ⟨hargs, ⟨hP, hK, hN⟩, hW, hU, hZ⟩ := hv
  have hx := B.exec
  have hb := B.bytes
  have hr := B.returns
  have hts := atoms_spec (ws := wsL_make) B.pre
  have hown : s.vm.findClass RL = some m.cls := findClass_of_methodNamed B.named
  have hlocks := B.notSynchronized
  have hS : va_S (gA 37 a) s.heap s.heap [] := va_S.rf
  have hrm : 8 ≤ (headSpec wsL_make ({ frames := 8, cells := 1, slots := 6, locals := 160 })).room.frames ∧ 160 ≤ (headSpec wsL_make ({ frames := 8, cells := 1, slots := 6, locals := 160 })).room.locals := ⟨Nat.le_refl _, Nat.le_refl _⟩
  have hrc : 0 + 1 ≤ (headSpec wsL_make ({ frames := 8, cells := 1, slots := 6, locals := 160 })).room.cells ∧ 0 + 6 ≤ (headSpec wsL_make ({ frames := 8, cells := 1, slots := 6, locals := 160 })).room.slots := ⟨Nat.le_refl _, Nat.le_refl _⟩
  generalize (headSpec wsL_make ({ frames := 8, cells := 1, slots := 6, locals := 160 })).room = RR at hrm hrc ⊢
  have hl := lv_entry ([.ref (a 0), .int (iN x1), .int (iN x2)]) (n := 4) (Nat.le_of_ble_eq_true rfl)
  rw [show entryFrame m args 4 = entryFrame m ([.ref (a 0), .int (iN x1), .int (iN x2)] : List Value).toArray 4 from by rw [hargs], lg_entry_eq]
  generalize (lg_sl ([.ref (a 0), .int (iN x1), .int (iN x2)]) ++ List.replicate (4 - (lg_sl ([.ref (a 0), .int (iN x1), .int (iN x2)])).length) Slot.unset).toArray = ls at hl ⊢
  have hl : lv_has ls 4 [(0, .ref (a 0)), (1, .int (iN x1)), (2, .int (iN x2))] := hl
  refine lv_aload_n hx hb dL_make_0 rfl (lv_at hl 0 rfl) ?_
  refine lv_iload_n hx hb dL_make_1 rfl (lv_at hl 1 rfl) ?_
  refine lv_iload_n hx hb dL_make_2 rfl (lv_at hl 2 rfl) ?_
  refine x_callMv (va_runV (As := [.int (iN x1), .int (iN x2)]) (rest := []) ⟨hx, hb, hml, hown, hts⟩ (kX6_make_0 l dC dI cI cA a hi σ x1 x2 (0, σ') hf hR rx1 rx2) (cwV 2 hts gL_make_X6_make rfl rfl rfl hX6_make_d ⟨Nat.le_trans (by decide) hrm.1, Nat.le_trans (by decide) hrm.2⟩) (pvC 0 (by decide) (cE_0 cI cA a (_)) rfl hP hK hN) rfl rfl hl.1 rfl (lv_room (Nat.le_of_ble_eq_true rfl)) dL_make_3 ⟨Nat.zero_le _, Nat.zero_le _⟩) hS (fun _ hR' H locs hP hS => ?_)
  refine lv_goto (tgt := 12) hx hb dL_make_6 (by decide) ?_
  refine lv_iconst (v := iN 0) hx hb dL_make_12 rfl ?_
  refine vx_ret ?_
  refine W.widen (k := 1) (n := 6) (by decide) (by decide) ?_
  exact W.iret hx hb hr (fun t ht _ => ⟨rfl, show rng (0 : Int) by decide, hR', by rw [ht]; exact hP, hS.F ht⟩) hS.2.2 dL_make_13 hlocks
set_option maxHeartbeats 4000000 in
set_option maxRecDepth 100000 in
theorem wT_make (l : Launch) (dC : Nat → ClassId) (dI : Nat → Nat → Nat) (cI : ClassId) (cA : ClassId) (a : Nat → Nat) (hi : ∀ i j, i < 37 → j < 37 → a i = a j → i = j) (σ : Mem) (x1 : Int) (x2 : Int) (hf : gX6_make_0 σ x1 x2 = some "java/lang/IllegalArgumentException") (hst : l.stackTraces = false) (hR : Rg σ) (rx1 : rng x1) (rx2 : rng x2) : vx_Met l yL_make wsL_make ({ frames := 8, cells := 1, slots := 6, locals := 160 }) (va_Pc [.ref (a 0), .int (iN x1), .int (iN x2)] (preX dC dI cI cA a σ)) (qM (dC, dI) (gw 37 a (cE cI cA a)) (gA 37 a) (1, σ)) (fun _ _ _ => False) 1 6 (gA 37 a) := by
  refine vx_ofWH (cc := cL_make) (maxL := 4) (ret := (some .int)) (hh := [(0, 6, 9, 13)]) (by decide) rfl ?_
  intro p e s m args below meth c s₁ B hml hv
  obtain ⟨hargs, ⟨hP, hK, hN⟩, hW, hU, hZ⟩ := hv
  have hx := B.exec
  have hb := B.bytes
  have hr := B.returns
  have hts := atoms_spec (ws := wsL_make) B.pre
  have hown : s.vm.findClass RL = some m.cls := findClass_of_methodNamed B.named
  have hlocks := B.notSynchronized
  have hS : va_S (gA 37 a) s.heap s.heap [] := va_S.rf
  have hrm : 8 ≤ (headSpec wsL_make ({ frames := 8, cells := 1, slots := 6, locals := 160 })).room.frames ∧ 160 ≤ (headSpec wsL_make ({ frames := 8, cells := 1, slots := 6, locals := 160 })).room.locals := ⟨Nat.le_refl _, Nat.le_refl _⟩
  have hrc : 0 + 1 ≤ (headSpec wsL_make ({ frames := 8, cells := 1, slots := 6, locals := 160 })).room.cells ∧ 0 + 6 ≤ (headSpec wsL_make ({ frames := 8, cells := 1, slots := 6, locals := 160 })).room.slots := ⟨Nat.le_refl _, Nat.le_refl _⟩
  generalize (headSpec wsL_make ({ frames := 8, cells := 1, slots := 6, locals := 160 })).room = RR at hrm hrc ⊢
  have hl := lv_entry ([.ref (a 0), .int (iN x1), .int (iN x2)]) (n := 4) (Nat.le_of_ble_eq_true rfl)
  rw [show entryFrame m args 4 = entryFrame m ([.ref (a 0), .int (iN x1), .int (iN x2)] : List Value).toArray 4 from by rw [hargs], lg_entry_eq]
  generalize (lg_sl ([.ref (a 0), .int (iN x1), .int (iN x2)]) ++ List.replicate (4 - (lg_sl ([.ref (a 0), .int (iN x1), .int (iN x2)])).length) Slot.unset).toArray = ls at hl ⊢
  have hl : lv_has ls 4 [(0, .ref (a 0)), (1, .int (iN x1)), (2, .int (iN x2))] := hl
  refine lv_aload_n hx hb dL_make_0 rfl (lv_at hl 0 rfl) ?_
  refine lv_iload_n hx hb dL_make_1 rfl (lv_at hl 1 rfl) ?_
  refine lv_iload_n hx hb dL_make_2 rfl (lv_at hl 2 rfl) ?_
  refine x_callT (vx_runV (As := [.int (iN x1), .int (iN x2)]) (rest := []) ⟨hx, hb, hml, hown, hts⟩ (tX6_make_0 l dC dI cI cA a σ x1 x2 _ hf hst hR rx1 rx2) (cwV 2 hts gL_make_X6_make rfl rfl rfl hX6_make_d ⟨Nat.le_trans (by decide) hrm.1, Nat.le_trans (by decide) hrm.2⟩) (pvX 0 (by decide) (cE_0 cI cA a (_)) rfl hP hK hN hW hU hZ) rfl rfl hl.1 rfl (lv_room (Nat.le_of_ble_eq_true rfl)) dL_make_3 hrc) (fun E ce q9 st t H1 h0 h1 hx1 hce hcv hcl => ?_)
  obtain ⟨hE, hsz, hkeep⟩ := hx1
  subst hE
  rw [h0, h1] at hsz hkeep
  have hP1 : va_P (dC, dI) vwCl (gw 37 a (cE cI cA a) σ) H1 := hP.kept (fun k q hk => hkeep q.1 (vx_lt hP hk))
  have hS1 : va_S (gA 37 a) s.heap H1 [] := ⟨hsz, fun q h _ => hkeep q h, fun _ h => by cases h⟩
  refine vx_catch (own := RL) (name := "java/lang/IllegalArgumentException") hown [] _ [] (vx_table (x := yX6_make) B (hts _ List.mem_cons_self)) (fun _ h9 => by cases h9) (by decide) (by decide) (hts (.classLink RL 13 "java/lang/IllegalArgumentException") (by decide +kernel)) (XW.use hW (.castable "java/lang/IllegalArgumentException" "java/lang/IllegalArgumentException") (by decide)) hce hcv hcl ?_
  refine W.eq (g2 := F0 m 9 ls [.ref q9]) rfl ?_
  refine lv_astore_n (lv' := [(3, .ref q9), (0, .ref (a 0)), (1, .int (iN x1)), (2, .int (iN x2))]) hx hb dL_make_9 rfl hl (by decide) rfl (fun ls hl => ?_)
  refine lv_iconst (v := iN 1) hx hb dL_make_10 rfl ?_
  refine vx_ret ?_
  refine W.widen (k := 1) (n := 6) (by decide) (by decide) ?_
  exact W.iret hx hb hr (fun t ht _ => ⟨rfl, show rng (1 : Int) by decide, hR, by rw [ht]; exact hP1, hS1.F ht⟩) hS1.2.2 dL_make_11 hlocks
theorem hX6_tell_d : yX6_tell.cls = RX6 ∧ yX6_tell.cls ≠ "java/lang/invoke/MethodHandle" ∧ yX6_tell.cls ≠ "java/lang/invoke/VarHandle" ∧ (parseMethodDescriptor yX6_tell.desc).map (fun d => d.parameters.length) = some 2 := by decide +kernel
set_option maxHeartbeats 4000000 in
set_option maxRecDepth 100000 in
theorem wL_tell (l : Launch) (dC : Nat → ClassId) (dI : Nat → Nat → Nat) (cI : ClassId) (cA : ClassId) (a : Nat → Nat) (hi : ∀ i j, i < 37 → j < 37 → a i = a j → i = j) (σ : Mem) (x1 : Int) (x2 : Int) (σ' : Mem) (hf : fX6_tell_0 σ x1 x2 = some (0, σ')) (hR : Rg σ) (rx1 : rng x1) (rx2 : rng x2) : vx_Met l yL_tell wsL_tell ({ frames := 8, cells := 1, slots := 6, locals := 160 }) (va_Pc [.ref (a 0), .int (iN x1), .int (iN x2)] (preX dC dI cI cA a σ)) (qM (dC, dI) (gw 37 a (cE cI cA a)) (gA 37 a) (0, σ')) (fun _ _ _ => False) 1 6 (gA 37 a) := by
  refine vx_ofWH (cc := cL_tell) (maxL := 4) (ret := (some .int)) (hh := [(0, 6, 9, 18)]) (by decide) rfl ?_
  intro p e s m args below meth c s₁ B hml hv
  obtain ⟨hargs, ⟨hP, hK, hN⟩, hW, hU, hZ⟩ := hv
  have hx := B.exec
  have hb := B.bytes
  have hr := B.returns
  have hts := atoms_spec (ws := wsL_tell) B.pre
  have hown : s.vm.findClass RL = some m.cls := findClass_of_methodNamed B.named
  have hlocks := B.notSynchronized
  have hS : va_S (gA 37 a) s.heap s.heap [] := va_S.rf
  have hrm : 8 ≤ (headSpec wsL_tell ({ frames := 8, cells := 1, slots := 6, locals := 160 })).room.frames ∧ 160 ≤ (headSpec wsL_tell ({ frames := 8, cells := 1, slots := 6, locals := 160 })).room.locals := ⟨Nat.le_refl _, Nat.le_refl _⟩
  have hrc : 0 + 1 ≤ (headSpec wsL_tell ({ frames := 8, cells := 1, slots := 6, locals := 160 })).room.cells ∧ 0 + 6 ≤ (headSpec wsL_tell ({ frames := 8, cells := 1, slots := 6, locals := 160 })).room.slots := ⟨Nat.le_refl _, Nat.le_refl _⟩
  generalize (headSpec wsL_tell ({ frames := 8, cells := 1, slots := 6, locals := 160 })).room = RR at hrm hrc ⊢
  have hl := lv_entry ([.ref (a 0), .int (iN x1), .int (iN x2)]) (n := 4) (Nat.le_of_ble_eq_true rfl)
  rw [show entryFrame m args 4 = entryFrame m ([.ref (a 0), .int (iN x1), .int (iN x2)] : List Value).toArray 4 from by rw [hargs], lg_entry_eq]
  generalize (lg_sl ([.ref (a 0), .int (iN x1), .int (iN x2)]) ++ List.replicate (4 - (lg_sl ([.ref (a 0), .int (iN x1), .int (iN x2)])).length) Slot.unset).toArray = ls at hl ⊢
  have hl : lv_has ls 4 [(0, .ref (a 0)), (1, .int (iN x1)), (2, .int (iN x2))] := hl
  refine lv_aload_n hx hb dL_tell_0 rfl (lv_at hl 0 rfl) ?_
  refine lv_iload_n hx hb dL_tell_1 rfl (lv_at hl 1 rfl) ?_
  refine lv_iload_n hx hb dL_tell_2 rfl (lv_at hl 2 rfl) ?_
  refine x_callMv (va_runV (As := [.int (iN x1), .int (iN x2)]) (rest := []) ⟨hx, hb, hml, hown, hts⟩ (kX6_tell_0 l dC dI cI cA a hi σ x1 x2 (0, σ') hf hR rx1 rx2) (cwV 2 hts gL_tell_X6_tell rfl rfl rfl hX6_tell_d ⟨Nat.le_trans (by decide) hrm.1, Nat.le_trans (by decide) hrm.2⟩) (pvC 0 (by decide) (cE_0 cI cA a (_)) rfl hP hK hN) rfl rfl hl.1 rfl (lv_room (Nat.le_of_ble_eq_true rfl)) dL_tell_3 ⟨Nat.zero_le _, Nat.zero_le _⟩) hS (fun _ hR' H locs hP hS => ?_)
  refine lv_goto (tgt := 12) hx hb dL_tell_6 (by decide) ?_
  refine lv_iconst (v := iN 0) hx hb dL_tell_12 rfl ?_
  refine vx_ret ?_
  refine W.widen (k := 1) (n := 6) (by decide) (by decide) ?_
  exact W.iret hx hb hr (fun t ht _ => ⟨rfl, show rng (0 : Int) by decide, hR', by rw [ht]; exact hP, hS.F ht⟩) hS.2.2 dL_tell_13 hlocks
set_option maxHeartbeats 4000000 in
set_option maxRecDepth 100000 in
theorem wT_tell (l : Launch) (dC : Nat → ClassId) (dI : Nat → Nat → Nat) (cI : ClassId) (cA : ClassId) (a : Nat → Nat) (hi : ∀ i j, i < 37 → j < 37 → a i = a j → i = j) (σ : Mem) (x1 : Int) (x2 : Int) (hf : gX6_tell_0 σ x1 x2 = some "java/lang/IndexOutOfBoundsException") (hst : l.stackTraces = false) (hR : Rg σ) (rx1 : rng x1) (rx2 : rng x2) : vx_Met l yL_tell wsL_tell ({ frames := 8, cells := 1, slots := 6, locals := 160 }) (va_Pc [.ref (a 0), .int (iN x1), .int (iN x2)] (preX dC dI cI cA a σ)) (qM (dC, dI) (gw 37 a (cE cI cA a)) (gA 37 a) (1, σ)) (fun _ _ _ => False) 1 6 (gA 37 a) := by
  refine vx_ofWH (cc := cL_tell) (maxL := 4) (ret := (some .int)) (hh := [(0, 6, 9, 18)]) (by decide) rfl ?_
  intro p e s m args below meth c s₁ B hml hv
  obtain ⟨hargs, ⟨hP, hK, hN⟩, hW, hU, hZ⟩ := hv
  have hx := B.exec
  have hb := B.bytes
  have hr := B.returns
  have hts := atoms_spec (ws := wsL_tell) B.pre
  have hown : s.vm.findClass RL = some m.cls := findClass_of_methodNamed B.named
  have hlocks := B.notSynchronized
  have hS : va_S (gA 37 a) s.heap s.heap [] := va_S.rf
  have hrm : 8 ≤ (headSpec wsL_tell ({ frames := 8, cells := 1, slots := 6, locals := 160 })).room.frames ∧ 160 ≤ (headSpec wsL_tell ({ frames := 8, cells := 1, slots := 6, locals := 160 })).room.locals := ⟨Nat.le_refl _, Nat.le_refl _⟩
  have hrc : 0 + 1 ≤ (headSpec wsL_tell ({ frames := 8, cells := 1, slots := 6, locals := 160 })).room.cells ∧ 0 + 6 ≤ (headSpec wsL_tell ({ frames := 8, cells := 1, slots := 6, locals := 160 })).room.slots := ⟨Nat.le_refl _, Nat.le_refl _⟩
  generalize (headSpec wsL_tell ({ frames := 8, cells := 1, slots := 6, locals := 160 })).room = RR at hrm hrc ⊢
  have hl := lv_entry ([.ref (a 0), .int (iN x1), .int (iN x2)]) (n := 4) (Nat.le_of_ble_eq_true rfl)
  rw [show entryFrame m args 4 = entryFrame m ([.ref (a 0), .int (iN x1), .int (iN x2)] : List Value).toArray 4 from by rw [hargs], lg_entry_eq]
  generalize (lg_sl ([.ref (a 0), .int (iN x1), .int (iN x2)]) ++ List.replicate (4 - (lg_sl ([.ref (a 0), .int (iN x1), .int (iN x2)])).length) Slot.unset).toArray = ls at hl ⊢
  have hl : lv_has ls 4 [(0, .ref (a 0)), (1, .int (iN x1)), (2, .int (iN x2))] := hl
  refine lv_aload_n hx hb dL_tell_0 rfl (lv_at hl 0 rfl) ?_
  refine lv_iload_n hx hb dL_tell_1 rfl (lv_at hl 1 rfl) ?_
  refine lv_iload_n hx hb dL_tell_2 rfl (lv_at hl 2 rfl) ?_
  refine x_callT (vx_runV (As := [.int (iN x1), .int (iN x2)]) (rest := []) ⟨hx, hb, hml, hown, hts⟩ (tX6_tell_0 l dC dI cI cA a σ x1 x2 _ hf hst hR rx1 rx2) (cwV 2 hts gL_tell_X6_tell rfl rfl rfl hX6_tell_d ⟨Nat.le_trans (by decide) hrm.1, Nat.le_trans (by decide) hrm.2⟩) (pvX 0 (by decide) (cE_0 cI cA a (_)) rfl hP hK hN hW hU hZ) rfl rfl hl.1 rfl (lv_room (Nat.le_of_ble_eq_true rfl)) dL_tell_3 hrc) (fun E ce q9 st t H1 h0 h1 hx1 hce hcv hcl => ?_)
  obtain ⟨hE, hsz, hkeep⟩ := hx1
  subst hE
  rw [h0, h1] at hsz hkeep
  have hP1 : va_P (dC, dI) vwCl (gw 37 a (cE cI cA a) σ) H1 := hP.kept (fun k q hk => hkeep q.1 (vx_lt hP hk))
  have hS1 : va_S (gA 37 a) s.heap H1 [] := ⟨hsz, fun q h _ => hkeep q h, fun _ h => by cases h⟩
  refine vx_catch (own := RL) (name := "java/lang/IndexOutOfBoundsException") hown [] _ [] (vx_table (x := yX6_make) B (hts _ List.mem_cons_self)) (fun _ h9 => by cases h9) (by decide) (by decide) (hts (.classLink RL 18 "java/lang/IndexOutOfBoundsException") (by decide +kernel)) (XW.use hW (.castable "java/lang/IndexOutOfBoundsException" "java/lang/IndexOutOfBoundsException") (by decide)) hce hcv hcl ?_
  refine W.eq (g2 := F0 m 9 ls [.ref q9]) rfl ?_
  refine lv_astore_n (lv' := [(3, .ref q9), (0, .ref (a 0)), (1, .int (iN x1)), (2, .int (iN x2))]) hx hb dL_tell_9 rfl hl (by decide) rfl (fun ls hl => ?_)
  refine lv_iconst (v := iN 1) hx hb dL_tell_10 rfl ?_
  refine vx_ret ?_
  refine W.widen (k := 1) (n := 6) (by decide) (by decide) ?_
  exact W.iret hx hb hr (fun t ht _ => ⟨rfl, show rng (1 : Int) by decide, hR, by rw [ht]; exact hP1, hS1.F ht⟩) hS1.2.2 dL_tell_11 hlocks
theorem hX6_take_d : yX6_take.cls = RX6 ∧ yX6_take.cls ≠ "java/lang/invoke/MethodHandle" ∧ yX6_take.cls ≠ "java/lang/invoke/VarHandle" ∧ (parseMethodDescriptor yX6_take.desc).map (fun d => d.parameters.length) = some 1 := by decide +kernel
set_option maxHeartbeats 4000000 in
set_option maxRecDepth 100000 in
theorem wL_take (l : Launch) (dC : Nat → ClassId) (dI : Nat → Nat → Nat) (cI : ClassId) (cA : ClassId) (a : Nat → Nat) (hi : ∀ i j, i < 37 → j < 37 → a i = a j → i = j) (σ : Mem) (x1 : Int) (σ' : Mem) (hf : fX6_take_0 σ x1 = some (0, σ')) (hR : Rg σ) (rx1 : rng x1) : vx_Met l yL_take wsL_take ({ frames := 8, cells := 1, slots := 6, locals := 160 }) (va_Pc [.ref (a 0), .int (iN x1)] (preX dC dI cI cA a σ)) (qM (dC, dI) (gw 37 a (cE cI cA a)) (gA 37 a) (0, σ')) (fun _ _ _ => False) 1 6 (gA 37 a) := by
  refine vx_ofWH (cc := cL_take) (maxL := 3) (ret := (some .int)) (hh := [(0, 5, 8, 18)]) (by decide) rfl ?_
  intro p e s m args below meth c s₁ B hml hv
  obtain ⟨hargs, ⟨hP, hK, hN⟩, hW, hU, hZ⟩ := hv
  have hx := B.exec
  have hb := B.bytes
  have hr := B.returns
  have hts := atoms_spec (ws := wsL_take) B.pre
  have hown : s.vm.findClass RL = some m.cls := findClass_of_methodNamed B.named
  have hlocks := B.notSynchronized
  have hS : va_S (gA 37 a) s.heap s.heap [] := va_S.rf
  have hrm : 8 ≤ (headSpec wsL_take ({ frames := 8, cells := 1, slots := 6, locals := 160 })).room.frames ∧ 160 ≤ (headSpec wsL_take ({ frames := 8, cells := 1, slots := 6, locals := 160 })).room.locals := ⟨Nat.le_refl _, Nat.le_refl _⟩
  have hrc : 0 + 1 ≤ (headSpec wsL_take ({ frames := 8, cells := 1, slots := 6, locals := 160 })).room.cells ∧ 0 + 6 ≤ (headSpec wsL_take ({ frames := 8, cells := 1, slots := 6, locals := 160 })).room.slots := ⟨Nat.le_refl _, Nat.le_refl _⟩
  generalize (headSpec wsL_take ({ frames := 8, cells := 1, slots := 6, locals := 160 })).room = RR at hrm hrc ⊢
  have hl := lv_entry ([.ref (a 0), .int (iN x1)]) (n := 3) (Nat.le_of_ble_eq_true rfl)
  rw [show entryFrame m args 3 = entryFrame m ([.ref (a 0), .int (iN x1)] : List Value).toArray 3 from by rw [hargs], lg_entry_eq]
  generalize (lg_sl ([.ref (a 0), .int (iN x1)]) ++ List.replicate (3 - (lg_sl ([.ref (a 0), .int (iN x1)])).length) Slot.unset).toArray = ls at hl ⊢
  have hl : lv_has ls 3 [(0, .ref (a 0)), (1, .int (iN x1))] := hl
  refine lv_aload_n hx hb dL_take_0 rfl (lv_at hl 0 rfl) ?_
  refine lv_iload_n hx hb dL_take_1 rfl (lv_at hl 1 rfl) ?_
  refine x_callMv (va_runV (As := [.int (iN x1)]) (rest := []) ⟨hx, hb, hml, hown, hts⟩ (kX6_take_0 l dC dI cI cA a hi σ x1 (0, σ') hf hR rx1) (cwV 1 hts gL_take_X6_take rfl rfl rfl hX6_take_d ⟨Nat.le_trans (by decide) hrm.1, Nat.le_trans (by decide) hrm.2⟩) (pvC 0 (by decide) (cE_0 cI cA a (_)) rfl hP hK hN) rfl rfl hl.1 rfl (lv_room (Nat.le_of_ble_eq_true rfl)) dL_take_2 ⟨Nat.zero_le _, Nat.zero_le _⟩) hS (fun _ hR' H locs hP hS => ?_)
  refine lv_goto (tgt := 11) hx hb dL_take_5 (by decide) ?_
  refine lv_iconst (v := iN 0) hx hb dL_take_11 rfl ?_
  refine vx_ret ?_
  refine W.widen (k := 1) (n := 6) (by decide) (by decide) ?_
  exact W.iret hx hb hr (fun t ht _ => ⟨rfl, show rng (0 : Int) by decide, hR', by rw [ht]; exact hP, hS.F ht⟩) hS.2.2 dL_take_12 hlocks
set_option maxHeartbeats 4000000 in
set_option maxRecDepth 100000 in
theorem wT_take (l : Launch) (dC : Nat → ClassId) (dI : Nat → Nat → Nat) (cI : ClassId) (cA : ClassId) (a : Nat → Nat) (hi : ∀ i j, i < 37 → j < 37 → a i = a j → i = j) (σ : Mem) (x1 : Int) (hf : gX6_take_0 σ x1 = some "java/lang/IndexOutOfBoundsException") (hst : l.stackTraces = false) (hR : Rg σ) (rx1 : rng x1) : vx_Met l yL_take wsL_take ({ frames := 8, cells := 1, slots := 6, locals := 160 }) (va_Pc [.ref (a 0), .int (iN x1)] (preX dC dI cI cA a σ)) (qM (dC, dI) (gw 37 a (cE cI cA a)) (gA 37 a) (1, σ)) (fun _ _ _ => False) 1 6 (gA 37 a) := by
  refine vx_ofWH (cc := cL_take) (maxL := 3) (ret := (some .int)) (hh := [(0, 5, 8, 18)]) (by decide) rfl ?_
  intro p e s m args below meth c s₁ B hml hv
  obtain ⟨hargs, ⟨hP, hK, hN⟩, hW, hU, hZ⟩ := hv
  have hx := B.exec
  have hb := B.bytes
  have hr := B.returns
  have hts := atoms_spec (ws := wsL_take) B.pre
  have hown : s.vm.findClass RL = some m.cls := findClass_of_methodNamed B.named
  have hlocks := B.notSynchronized
  have hS : va_S (gA 37 a) s.heap s.heap [] := va_S.rf
  have hrm : 8 ≤ (headSpec wsL_take ({ frames := 8, cells := 1, slots := 6, locals := 160 })).room.frames ∧ 160 ≤ (headSpec wsL_take ({ frames := 8, cells := 1, slots := 6, locals := 160 })).room.locals := ⟨Nat.le_refl _, Nat.le_refl _⟩
  have hrc : 0 + 1 ≤ (headSpec wsL_take ({ frames := 8, cells := 1, slots := 6, locals := 160 })).room.cells ∧ 0 + 6 ≤ (headSpec wsL_take ({ frames := 8, cells := 1, slots := 6, locals := 160 })).room.slots := ⟨Nat.le_refl _, Nat.le_refl _⟩
  generalize (headSpec wsL_take ({ frames := 8, cells := 1, slots := 6, locals := 160 })).room = RR at hrm hrc ⊢
  have hl := lv_entry ([.ref (a 0), .int (iN x1)]) (n := 3) (Nat.le_of_ble_eq_true rfl)
  rw [show entryFrame m args 3 = entryFrame m ([.ref (a 0), .int (iN x1)] : List Value).toArray 3 from by rw [hargs], lg_entry_eq]
  generalize (lg_sl ([.ref (a 0), .int (iN x1)]) ++ List.replicate (3 - (lg_sl ([.ref (a 0), .int (iN x1)])).length) Slot.unset).toArray = ls at hl ⊢
  have hl : lv_has ls 3 [(0, .ref (a 0)), (1, .int (iN x1))] := hl
  refine lv_aload_n hx hb dL_take_0 rfl (lv_at hl 0 rfl) ?_
  refine lv_iload_n hx hb dL_take_1 rfl (lv_at hl 1 rfl) ?_
  refine x_callT (vx_runV (As := [.int (iN x1)]) (rest := []) ⟨hx, hb, hml, hown, hts⟩ (tX6_take_0 l dC dI cI cA a σ x1 _ hf hst hR rx1) (cwV 1 hts gL_take_X6_take rfl rfl rfl hX6_take_d ⟨Nat.le_trans (by decide) hrm.1, Nat.le_trans (by decide) hrm.2⟩) (pvX 0 (by decide) (cE_0 cI cA a (_)) rfl hP hK hN hW hU hZ) rfl rfl hl.1 rfl (lv_room (Nat.le_of_ble_eq_true rfl)) dL_take_2 hrc) (fun E ce q9 st t H1 h0 h1 hx1 hce hcv hcl => ?_)
  obtain ⟨hE, hsz, hkeep⟩ := hx1
  subst hE
  rw [h0, h1] at hsz hkeep
  have hP1 : va_P (dC, dI) vwCl (gw 37 a (cE cI cA a) σ) H1 := hP.kept (fun k q hk => hkeep q.1 (vx_lt hP hk))
  have hS1 : va_S (gA 37 a) s.heap H1 [] := ⟨hsz, fun q h _ => hkeep q h, fun _ h => by cases h⟩
  refine vx_catch (own := RL) (name := "java/lang/IndexOutOfBoundsException") hown [] _ [] (vx_table (x := yX6_make) B (hts _ List.mem_cons_self)) (fun _ h9 => by cases h9) (by decide) (by decide) (hts (.classLink RL 18 "java/lang/IndexOutOfBoundsException") (by decide +kernel)) (XW.use hW (.castable "java/lang/IndexOutOfBoundsException" "java/lang/IndexOutOfBoundsException") (by decide)) hce hcv hcl ?_
  refine W.eq (g2 := F0 m 8 ls [.ref q9]) rfl ?_
  refine lv_astore_n (lv' := [(2, .ref q9), (0, .ref (a 0)), (1, .int (iN x1))]) hx hb dL_take_8 rfl hl (by decide) rfl (fun ls hl => ?_)
  refine lv_iconst (v := iN 1) hx hb dL_take_9 rfl ?_
  refine vx_ret ?_
  refine W.widen (k := 1) (n := 6) (by decide) (by decide) ?_
  exact W.iret hx hb hr (fun t ht _ => ⟨rfl, show rng (1 : Int) by decide, hR, by rw [ht]; exact hP1, hS1.F ht⟩) hS1.2.2 dL_take_10 hlocks
theorem hX6_seats_d : yX6_seats.cls = RX6 ∧ yX6_seats.cls ≠ "java/lang/invoke/MethodHandle" ∧ yX6_seats.cls ≠ "java/lang/invoke/VarHandle" ∧ (parseMethodDescriptor yX6_seats.desc).map (fun d => d.parameters.length) = some 2 := by decide +kernel
set_option maxHeartbeats 4000000 in
set_option maxRecDepth 100000 in
theorem wL_seats (l : Launch) (dC : Nat → ClassId) (dI : Nat → Nat → Nat) (cI : ClassId) (cA : ClassId) (a : Nat → Nat) (hi : ∀ i j, i < 37 → j < 37 → a i = a j → i = j) (σ : Mem) (x1 : Int) (x2 : Int) (σ' : Mem) (hf : fX6_seats_0 σ x1 x2 = some (0, σ')) (hR : Rg σ) (rx1 : rng x1) (rx2 : rng x2) : vx_Met l yL_seats wsL_seats ({ frames := 8, cells := 1, slots := 6, locals := 160 }) (va_Pc [.ref (a 0), .int (iN x1), .int (iN x2)] (preX dC dI cI cA a σ)) (qM (dC, dI) (gw 37 a (cE cI cA a)) (gA 37 a) (0, σ')) (fun _ _ _ => False) 1 6 (gA 37 a) := by
  refine vx_ofWH (cc := cL_seats) (maxL := 4) (ret := (some .int)) (hh := [(0, 6, 9, 18), (0, 6, 12, 13)]) (by decide) rfl ?_
  intro p e s m args below meth c s₁ B hml hv
  obtain ⟨hargs, ⟨hP, hK, hN⟩, hW, hU, hZ⟩ := hv
  have hx := B.exec
  have hb := B.bytes
  have hr := B.returns
  have hts := atoms_spec (ws := wsL_seats) B.pre
  have hown : s.vm.findClass RL = some m.cls := findClass_of_methodNamed B.named
  have hlocks := B.notSynchronized
  have hS : va_S (gA 37 a) s.heap s.heap [] := va_S.rf
  have hrm : 8 ≤ (headSpec wsL_seats ({ frames := 8, cells := 1, slots := 6, locals := 160 })).room.frames ∧ 160 ≤ (headSpec wsL_seats ({ frames := 8, cells := 1, slots := 6, locals := 160 })).room.locals := ⟨Nat.le_refl _, Nat.le_refl _⟩
  have hrc : 0 + 1 ≤ (headSpec wsL_seats ({ frames := 8, cells := 1, slots := 6, locals := 160 })).room.cells ∧ 0 + 6 ≤ (headSpec wsL_seats ({ frames := 8, cells := 1, slots := 6, locals := 160 })).room.slots := ⟨Nat.le_refl _, Nat.le_refl _⟩
  generalize (headSpec wsL_seats ({ frames := 8, cells := 1, slots := 6, locals := 160 })).room = RR at hrm hrc ⊢
  have hl := lv_entry ([.ref (a 0), .int (iN x1), .int (iN x2)]) (n := 4) (Nat.le_of_ble_eq_true rfl)
  rw [show entryFrame m args 4 = entryFrame m ([.ref (a 0), .int (iN x1), .int (iN x2)] : List Value).toArray 4 from by rw [hargs], lg_entry_eq]
  generalize (lg_sl ([.ref (a 0), .int (iN x1), .int (iN x2)]) ++ List.replicate (4 - (lg_sl ([.ref (a 0), .int (iN x1), .int (iN x2)])).length) Slot.unset).toArray = ls at hl ⊢
  have hl : lv_has ls 4 [(0, .ref (a 0)), (1, .int (iN x1)), (2, .int (iN x2))] := hl
  refine lv_aload_n hx hb dL_seats_0 rfl (lv_at hl 0 rfl) ?_
  refine lv_iload_n hx hb dL_seats_1 rfl (lv_at hl 1 rfl) ?_
  refine lv_iload_n hx hb dL_seats_2 rfl (lv_at hl 2 rfl) ?_
  refine x_callMv (va_runV (As := [.int (iN x1), .int (iN x2)]) (rest := []) ⟨hx, hb, hml, hown, hts⟩ (kX6_seats_0 l dC dI cI cA a hi σ x1 x2 (0, σ') hf hR rx1 rx2) (cwV 2 hts gL_seats_X6_seats rfl rfl rfl hX6_seats_d ⟨Nat.le_trans (by decide) hrm.1, Nat.le_trans (by decide) hrm.2⟩) (pvC 0 (by decide) (cE_0 cI cA a (_)) rfl hP hK hN) rfl rfl hl.1 rfl (lv_room (Nat.le_of_ble_eq_true rfl)) dL_seats_3 ⟨Nat.zero_le _, Nat.zero_le _⟩) hS (fun _ hR' H locs hP hS => ?_)
  refine lv_goto (tgt := 15) hx hb dL_seats_6 (by decide) ?_
  refine lv_iconst (v := iN 0) hx hb dL_seats_15 rfl ?_
  refine vx_ret ?_
  refine W.widen (k := 1) (n := 6) (by decide) (by decide) ?_
  exact W.iret hx hb hr (fun t ht _ => ⟨rfl, show rng (0 : Int) by decide, hR', by rw [ht]; exact hP, hS.F ht⟩) hS.2.2 dL_seats_16 hlocks
set_option maxHeartbeats 4000000 in
set_option maxRecDepth 100000 in
theorem wT_seatsI (l : Launch) (dC : Nat → ClassId) (dI : Nat → Nat → Nat) (cI : ClassId) (cA : ClassId) (a : Nat → Nat) (hi : ∀ i j, i < 37 → j < 37 → a i = a j → i = j) (σ : Mem) (x1 : Int) (x2 : Int) (hf : gX6_seats_0 σ x1 x2 = some "java/lang/IndexOutOfBoundsException") (hst : l.stackTraces = false) (hR : Rg σ) (rx1 : rng x1) (rx2 : rng x2) : vx_Met l yL_seats wsL_seats ({ frames := 8, cells := 1, slots := 6, locals := 160 }) (va_Pc [.ref (a 0), .int (iN x1), .int (iN x2)] (preX dC dI cI cA a σ)) (qM (dC, dI) (gw 37 a (cE cI cA a)) (gA 37 a) (1, σ)) (fun _ _ _ => False) 1 6 (gA 37 a) := by
  refine vx_ofWH (cc := cL_seats) (maxL := 4) (ret := (some .int)) (hh := [(0, 6, 9, 18), (0, 6, 12, 13)]) (by decide) rfl ?_
  intro p e s m args below meth c s₁ B hml hv
  obtain ⟨hargs, ⟨hP, hK, hN⟩, hW, hU, hZ⟩ := hv
  have hx := B.exec
  have hb := B.bytes
  have hr := B.returns
  have hts := atoms_spec (ws := wsL_seats) B.pre
  have hown : s.vm.findClass RL = some m.cls := findClass_of_methodNamed B.named
  have hlocks := B.notSynchronized
  have hS : va_S (gA 37 a) s.heap s.heap [] := va_S.rf
  have hrm : 8 ≤ (headSpec wsL_seats ({ frames := 8, cells := 1, slots := 6, locals := 160 })).room.frames ∧ 160 ≤ (headSpec wsL_seats ({ frames := 8, cells := 1, slots := 6, locals := 160 })).room.locals := ⟨Nat.le_refl _, Nat.le_refl _⟩
  have hrc : 0 + 1 ≤ (headSpec wsL_seats ({ frames := 8, cells := 1, slots := 6, locals := 160 })).room.cells ∧ 0 + 6 ≤ (headSpec wsL_seats ({ frames := 8, cells := 1, slots := 6, locals := 160 })).room.slots := ⟨Nat.le_refl _, Nat.le_refl _⟩
  generalize (headSpec wsL_seats ({ frames := 8, cells := 1, slots := 6, locals := 160 })).room = RR at hrm hrc ⊢
  have hl := lv_entry ([.ref (a 0), .int (iN x1), .int (iN x2)]) (n := 4) (Nat.le_of_ble_eq_true rfl)
  rw [show entryFrame m args 4 = entryFrame m ([.ref (a 0), .int (iN x1), .int (iN x2)] : List Value).toArray 4 from by rw [hargs], lg_entry_eq]
  generalize (lg_sl ([.ref (a 0), .int (iN x1), .int (iN x2)]) ++ List.replicate (4 - (lg_sl ([.ref (a 0), .int (iN x1), .int (iN x2)])).length) Slot.unset).toArray = ls at hl ⊢
  have hl : lv_has ls 4 [(0, .ref (a 0)), (1, .int (iN x1)), (2, .int (iN x2))] := hl
  refine lv_aload_n hx hb dL_seats_0 rfl (lv_at hl 0 rfl) ?_
  refine lv_iload_n hx hb dL_seats_1 rfl (lv_at hl 1 rfl) ?_
  refine lv_iload_n hx hb dL_seats_2 rfl (lv_at hl 2 rfl) ?_
  refine x_callT (vx_runV (As := [.int (iN x1), .int (iN x2)]) (rest := []) ⟨hx, hb, hml, hown, hts⟩ (tX6_seats_0 l dC dI cI cA a σ x1 x2 _ hf hst hR rx1 rx2) (cwV 2 hts gL_seats_X6_seats rfl rfl rfl hX6_seats_d ⟨Nat.le_trans (by decide) hrm.1, Nat.le_trans (by decide) hrm.2⟩) (pvX 0 (by decide) (cE_0 cI cA a (_)) rfl hP hK hN hW hU hZ) rfl rfl hl.1 rfl (lv_room (Nat.le_of_ble_eq_true rfl)) dL_seats_3 hrc) (fun E ce q9 st t H1 h0 h1 hx1 hce hcv hcl => ?_)
  obtain ⟨hE, hsz, hkeep⟩ := hx1
  subst hE
  rw [h0, h1] at hsz hkeep
  have hP1 : va_P (dC, dI) vwCl (gw 37 a (cE cI cA a) σ) H1 := hP.kept (fun k q hk => hkeep q.1 (vx_lt hP hk))
  have hS1 : va_S (gA 37 a) s.heap H1 [] := ⟨hsz, fun q h _ => hkeep q h, fun _ h => by cases h⟩
  refine vx_catch (own := RL) (name := "java/lang/IndexOutOfBoundsException") hown [] _ [_] (vx_table (x := yX6_make) B (hts _ List.mem_cons_self)) (fun _ h9 => by cases h9) (by decide) (by decide) (hts (.classLink RL 18 "java/lang/IndexOutOfBoundsException") (by decide +kernel)) (XW.use hW (.castable "java/lang/IndexOutOfBoundsException" "java/lang/IndexOutOfBoundsException") (by decide)) hce hcv hcl ?_
  refine W.eq (g2 := F0 m 9 ls [.ref q9]) rfl ?_
  refine lv_astore_n (lv' := [(3, .ref q9), (0, .ref (a 0)), (1, .int (iN x1)), (2, .int (iN x2))]) hx hb dL_seats_9 rfl hl (by decide) rfl (fun ls hl => ?_)
  refine lv_iconst (v := iN 1) hx hb dL_seats_10 rfl ?_
  refine vx_ret ?_
  refine W.widen (k := 1) (n := 6) (by decide) (by decide) ?_
  exact W.iret hx hb hr (fun t ht _ => ⟨rfl, show rng (1 : Int) by decide, hR, by rw [ht]; exact hP1, hS1.F ht⟩) hS1.2.2 dL_seats_11 hlocks
set_option maxHeartbeats 4000000 in
set_option maxRecDepth 100000 in
theorem wT_seatsA (l : Launch) (dC : Nat → ClassId) (dI : Nat → Nat → Nat) (cI : ClassId) (cA : ClassId) (a : Nat → Nat) (hi : ∀ i j, i < 37 → j < 37 → a i = a j → i = j) (σ : Mem) (x1 : Int) (x2 : Int) (hf : gX6_seats_0 σ x1 x2 = some "java/lang/IllegalArgumentException") (hst : l.stackTraces = false) (hR : Rg σ) (rx1 : rng x1) (rx2 : rng x2) : vx_Met l yL_seats wsL_seats ({ frames := 8, cells := 1, slots := 6, locals := 160 }) (va_Pc [.ref (a 0), .int (iN x1), .int (iN x2)] (preX dC dI cI cA a σ)) (qM (dC, dI) (gw 37 a (cE cI cA a)) (gA 37 a) (2, σ)) (fun _ _ _ => False) 1 6 (gA 37 a) := by
  refine vx_ofWH (cc := cL_seats) (maxL := 4) (ret := (some .int)) (hh := [(0, 6, 9, 18), (0, 6, 12, 13)]) (by decide) rfl ?_
  intro p e s m args below meth c s₁ B hml hv
  obtain ⟨hargs, ⟨hP, hK, hN⟩, hW, hU, hZ⟩ := hv
  have hx := B.exec
  have hb := B.bytes
  have hr := B.returns
  have hts := atoms_spec (ws := wsL_seats) B.pre
  have hown : s.vm.findClass RL = some m.cls := findClass_of_methodNamed B.named
  have hlocks := B.notSynchronized
  have hS : va_S (gA 37 a) s.heap s.heap [] := va_S.rf
  have hrm : 8 ≤ (headSpec wsL_seats ({ frames := 8, cells := 1, slots := 6, locals := 160 })).room.frames ∧ 160 ≤ (headSpec wsL_seats ({ frames := 8, cells := 1, slots := 6, locals := 160 })).room.locals := ⟨Nat.le_refl _, Nat.le_refl _⟩
  have hrc : 0 + 1 ≤ (headSpec wsL_seats ({ frames := 8, cells := 1, slots := 6, locals := 160 })).room.cells ∧ 0 + 6 ≤ (headSpec wsL_seats ({ frames := 8, cells := 1, slots := 6, locals := 160 })).room.slots := ⟨Nat.le_refl _, Nat.le_refl _⟩
  generalize (headSpec wsL_seats ({ frames := 8, cells := 1, slots := 6, locals := 160 })).room = RR at hrm hrc ⊢
  have hl := lv_entry ([.ref (a 0), .int (iN x1), .int (iN x2)]) (n := 4) (Nat.le_of_ble_eq_true rfl)
  rw [show entryFrame m args 4 = entryFrame m ([.ref (a 0), .int (iN x1), .int (iN x2)] : List Value).toArray 4 from by rw [hargs], lg_entry_eq]
  generalize (lg_sl ([.ref (a 0), .int (iN x1), .int (iN x2)]) ++ List.replicate (4 - (lg_sl ([.ref (a 0), .int (iN x1), .int (iN x2)])).length) Slot.unset).toArray = ls at hl ⊢
  have hl : lv_has ls 4 [(0, .ref (a 0)), (1, .int (iN x1)), (2, .int (iN x2))] := hl
  refine lv_aload_n hx hb dL_seats_0 rfl (lv_at hl 0 rfl) ?_
  refine lv_iload_n hx hb dL_seats_1 rfl (lv_at hl 1 rfl) ?_
  refine lv_iload_n hx hb dL_seats_2 rfl (lv_at hl 2 rfl) ?_
  refine x_callT (vx_runV (As := [.int (iN x1), .int (iN x2)]) (rest := []) ⟨hx, hb, hml, hown, hts⟩ (tX6_seats_0 l dC dI cI cA a σ x1 x2 _ hf hst hR rx1 rx2) (cwV 2 hts gL_seats_X6_seats rfl rfl rfl hX6_seats_d ⟨Nat.le_trans (by decide) hrm.1, Nat.le_trans (by decide) hrm.2⟩) (pvX 0 (by decide) (cE_0 cI cA a (_)) rfl hP hK hN hW hU hZ) rfl rfl hl.1 rfl (lv_room (Nat.le_of_ble_eq_true rfl)) dL_seats_3 hrc) (fun E ce q9 st t H1 h0 h1 hx1 hce hcv hcl => ?_)
  obtain ⟨hE, hsz, hkeep⟩ := hx1
  subst hE
  rw [h0, h1] at hsz hkeep
  have hP1 : va_P (dC, dI) vwCl (gw 37 a (cE cI cA a) σ) H1 := hP.kept (fun k q hk => hkeep q.1 (vx_lt hP hk))
  have hS1 : va_S (gA 37 a) s.heap H1 [] := ⟨hsz, fun q h _ => hkeep q h, fun _ h => by cases h⟩
  have hNc9 : va_Nc "java/lang/IllegalArgumentException" "java/lang/IndexOutOfBoundsException" s := hW.2
  refine vx_catch (own := RL) (name := "java/lang/IllegalArgumentException") hown [_] _ [] (vx_table (x := yX6_make) B (hts _ List.mem_cons_self)) (fun z h9 => by rw [List.mem_singleton] at h9; subst h9; exact Or.inr ⟨by decide, "java/lang/IndexOutOfBoundsException", hts (.classLink RL 18 "java/lang/IndexOutOfBoundsException") (by decide +kernel), hNc9⟩) (by decide) (by decide) (hts (.classLink RL 13 "java/lang/IllegalArgumentException") (by decide +kernel)) (XW.use hW (.castable "java/lang/IllegalArgumentException" "java/lang/IllegalArgumentException") (by decide)) hce hcv hcl ?_
  refine W.eq (g2 := F0 m 12 ls [.ref q9]) rfl ?_
  refine lv_astore_n (lv' := [(3, .ref q9), (0, .ref (a 0)), (1, .int (iN x1)), (2, .int (iN x2))]) hx hb dL_seats_12 rfl hl (by decide) rfl (fun ls hl => ?_)
  refine lv_iconst (v := iN 2) hx hb dL_seats_13 rfl ?_
  refine vx_ret ?_
  refine W.widen (k := 1) (n := 6) (by decide) (by decide) ?_
  exact W.iret hx hb hr (fun t ht _ => ⟨rfl, show rng (2 : Int) by decide, hR, by rw [ht]; exact hP1, hS1.F ht⟩) hS1.2.2 dL_seats_14 hlocks
