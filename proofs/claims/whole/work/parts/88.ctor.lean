/-! THE CONSTRUCTOR of the class (printed by wip/whole/pure/p88.py) -/
def gwT (N : Nat) (cI cA : ClassId) (a : Nat → Nat) (σ : Mem) : va_W := (List.range N).map (fun k => (a (k + 1), cE cI cA a (k + 1) (σ (k + 1))))
theorem gw_hd (N : Nat) (e0 : va_E) (cI cA : ClassId) (a : Nat → Nat) (σ : Mem) : gw (N + 1) a (cH e0 cI cA a) σ = (a 0, e0) :: gwT N cI cA a σ := by
  unfold gw gwT
  rw [List.range_succ_eq_map, List.map_cons, List.map_map]
  rfl
theorem hallZ_same {σ σ' : Mem} (h : hallZ σ) (e : ∀ k, k < 21 → σ' k = σ k) : hallZ σ' := by
  obtain ⟨h1, h2, h3, h4, h5, h6, h7, h8, h9⟩ := h
  refine ⟨by rw [e 1 (by omega)]; exact h1, by rw [e 1 (by omega)]; exact h2, by rw [e 2 (by omega)]; exact h3, by rw [e 2 (by omega)]; exact h4, by rw [e 11 (by omega)]; exact h5, by rw [e 11 (by omega)]; exact h6, fun y y0 y1 => ?_, fun y y0 y1 => ?_, fun y y0 y1 => by rw [e 20 (by omega)]; exact h9 y y0 y1⟩
  · rw [e 10 (by omega), e _ (by omega)]; exact h7 y y0 y1
  · rw [e 19 (by omega), e _ (by omega)]; exact h8 y y0 y1
section X0
variable {p : Program} {l : Launch} {e : Env} {R : Room} {s : State} {m : MethodId} {args : Array Value} {below : List Frame} {meth : Method} {c : Code} {H : Heap} {locs : List Loc} {cells slots : Nat} {Q : State → Prop}
variable {cc : ByteArray} {pc : Nat} {ls : Array Slot} {rest : List Value} {D : va_G} {A : Nat → Prop} {tys : List (ClassId × FieldType)} {H0 : Heap} {Ts : List Cond} {index : Nat} {cI cA : ClassId} {a : Nat → Nat} {σ : Mem}
theorem x_put0 (hx : p.tables.exec = Jvm.exec) (hb : c.code = cc) (hts : ∀ w ∈ Ts, w.before args s = true) (hin : ∀ w ∈ wsX60, w ∈ Ts) (hown : s.vm.findClass RX6 = some m.cls) (hK : va_K D vwCl tys s) (N : Nat) (tl : va_W) {fs : List Value} (hP : va_P D vwCl (gw (N + 1) a (cH (.inr (6, fs)) cI cA a) σ ++ tl) H) (hD : va_D A (gw (N + 1) a (cH (.inr (6, fs)) cI cA a) σ ++ tl)) (hS : va_S A H0 H locs) (k : Nat) (hk : k < 6) (hlink : (Cond.fieldLink RX6 index (TX6 k).1 (TX6 k).2.1 (TX6 k).2.2.1).before args s = true) (hfin : (TX6 k).2.2.2 = true) (hin2 : meth.name = "<init>") (hdecl : (TX6 k).1 = RX6) {ty : FieldType} {v : Value} (hd : parseFieldDescriptor (TX6 k).2.2.1 = some ty) (hn : narrow ty v = v) (hfit : fits ty v = true) (hl : k < fs.length) (hdg : decode cc pc = .ok (.putfield index, 3))
    (kk : ∀ (H1 : Heap) (locs1 : List Loc), va_P D vwCl (gw (N + 1) a (cH (.inr (6, fs.set k v)) cI cA a) σ ++ tl) H1 → va_D A (gw (N + 1) a (cH (.inr (6, fs.set k v)) cI cA a) σ ++ tl) → va_S A H0 H1 locs1 → W p l e R s m args below meth c H1 locs1 cells slots Q (F0 m (pc + 3) ls rest)) : W p l e R s m args below meth c H locs cells slots Q (F0 m pc ls (v :: .ref (a 0) :: rest)) := by
  rw [gw_hd] at hP hD
  exact x_putI (C := RX6) (T := TX6) (NF := 6) hx hb hts hin tyX6 tyX6_ok nmX6 hown hK [] (gwT N cI cA a σ ++ tl) hP hD hS rfl k hk hlink hfin hin2 hdecl hd hn hfit hl hdg (fun H1 l1 h1 h2 h3 => kk H1 l1 (by rw [gw_hd]; exact h1) (by rw [gw_hd]; exact h2) h3)
theorem x_get0 (hx : p.tables.exec = Jvm.exec) (hb : c.code = cc) (hts : ∀ w ∈ Ts, w.before args s = true) (hin : ∀ w ∈ wsX60, w ∈ Ts) (hown : s.vm.findClass RX6 = some m.cls) (hK : va_K D vwCl tys s) (N : Nat) (tl : va_W) {fs : List Value} (hP : va_P D vwCl (gw (N + 1) a (cH (.inr (6, fs)) cI cA a) σ ++ tl) H) (k : Nat) (hk : k < 6) (hlink : (Cond.fieldLink RX6 index (TX6 k).1 (TX6 k).2.1 (TX6 k).2.2.1).before args s = true) {v : Value} (hv : fs[k]? = some v) (hdg : decode cc pc = .ok (.getfield index, 3))
    (kk : W p l e R s m args below meth c H locs cells slots Q (F0 m (pc + 3) ls (v :: rest))) : W p l e R s m args below meth c H locs cells slots Q (F0 m pc ls (.ref (a 0) :: rest)) := by
  rw [gw_hd] at hP
  exact va_get (D := D) (ci := 6) (v := v) (C := RX6) (T := TX6) (N := 6) hx hb hts hin hown hK hP 0 rfl rfl k hk hlink (fun _ h => h) hv hdg kk
end X0
def newC (σ : Mem) : Prop := hallZ σ ∧ (∀ j : Int, 0 ≤ j → j < 6 → σ 22 j = -1) ∧ σ 25 3 = 0 ∧ σ 28 5 = 0
def ay (a : Nat → Nat) (l : List Nat) : Nat → Nat := fun k => if k < 25 then a k else l.getD (k - 25) 0
def sy (σ : Mem) : Mem := fun k => if k < 25 then σ k else fun _ => 0
theorem ay_lt {a : Nat → Nat} {l : List Nat} {k : Nat} (h : k < 25) : ay a l k = a k := if_pos h
theorem sy_lt {σ : Mem} {k : Nat} (h : k < 25) : sy σ k = σ k := if_pos h
theorem sy_R {σ : Mem} (h : Rg σ) : Rg (sy σ) := by
  intro k j
  unfold sy
  split
  · exact h k j
  · exact rng_0
set_option maxRecDepth 20000 in
theorem gw37_of (cI cA : ClassId) (a : Nat → Nat) (σ : Mem) (q25 q26 q27 q28 q29 q30 q31 q32 q33 q34 q35 q36 : Nat) : gw 25 a (cH (.inr (6, [.ref (a 1), .ref (a 21), .ref (a 23), .ref q25, .ref q28, .ref q33])) cI cA a) σ ++ [(q25, .inr (5, [.ref (a 1), .ref q26, .ref q27, .int 0])), (q26, .inl (cI, 1296, .inl (fun _ => 0))), (q27, .inl (cI, 1296, .inl (fun _ => 0))), (q28, .inr (4, [.ref q25, .ref q29, .ref q30, .ref q31, .ref q32, .int 0])), (q29, .inl (cI, 15, .inl (fun _ => 0))), (q30, .inl (cI, 15, .inl (fun _ => 0))), (q31, .inl (cI, 15, .inl (fun _ => 0))), (q32, .inl (cI, 216, .inl (fun _ => 0))), (q33, .inr (0, [.ref (a 1), .ref q25, .ref (a 23), .ref q34, .ref q35, .ref q36])), (q34, .inl (cI, 6, .inl (fun _ => 0))), (q35, .inl (cI, 6, .inl (fun _ => 0))), (q36, .inl (cI, 6, .inl (fun _ => 0)))] = gw 37 (ay a [q25, q26, q27, q28, q29, q30, q31, q32, q33, q34, q35, q36]) (cE cI cA (ay a [q25, q26, q27, q28, q29, q30, q31, q32, q33, q34, q35, q36])) (sy σ) := by
  rw [show (37 : Nat) = 25 + 12 from rfl, gw_add]
  congr 1
  refine gw_ext (fun k hk => ⟨(ay_lt hk).symm, ?_⟩)
  rw [sy_lt hk]
  cases k with
  | zero => rfl
  | succ k =>
    rw [← cH_cong (a' := (ay a [q25, q26, q27, q28, q29, q30, q31, q32, q33, q34, q35, q36])) (N := 25) (Or.inr (Or.inr (Or.inl rfl))) (fun j hj => ay_lt hj) (k + 1) hk]
    rfl
set_option maxHeartbeats 4000000 in
set_option maxRecDepth 100000 in
theorem jX6 (l : Launch) (dC : Nat → ClassId) (dI : Nat → Nat → Nat) (cI cA : ClassId) (A : Nat → Prop) (h0 : Nat) : Met l yX6_init wsX6_init ({ frames := 10, cells := 36, slots := 3018, locals := 300 }) (va_Pc [.ref h0] (preI dC dI cI cA A ([(h0, .inr (6, [.null, .null, .null, .null, .null, .null]))]))) (qI A (fun H => ∃ a : Nat → Nat, ∃ σ : Mem, a 0 = h0 ∧ newC σ ∧ Rg σ ∧ va_P (dC, dI) vwCl (gw 37 a (cE cI cA a) σ) H ∧ apD A 37 a)) 36 3018 A := by
  refine Met.ofW (cc := cX6_init) (maxL := 1) (ret := none) (by decide) rfl ?_
  intro p e s m args below meth c s₁ B hml hv
  obtain ⟨hargs, hP, hD, hK, hN, hM, hA⟩ := hv
  have hx := B.exec
  have hb := B.bytes
  have hr := B.returns
  have hts := atoms_spec (ws := wsX6_init) B.pre
  have hown : s.vm.findClass RX6 = some m.cls := findClass_of_methodNamed B.named
  have hlocks := B.notSynchronized
  have hin : meth.name = "<init>" := (name_of_methodNamed B.named B.method).1
  have hS : va_S A s.heap s.heap [] := va_S.rf
  have iX0 : ∀ w ∈ wsX00, w ∈ wsX6_init := by decide +kernel
  have iX1 : ∀ w ∈ wsX10, w ∈ wsX6_init := by decide +kernel
  have iX2 : ∀ w ∈ wsX20, w ∈ wsX6_init := by decide +kernel
  have iX3 : ∀ w ∈ wsX30, w ∈ wsX6_init := by decide +kernel
  have iX4 : ∀ w ∈ wsX40, w ∈ wsX6_init := by decide +kernel
  have iX5 : ∀ w ∈ wsX50, w ∈ wsX6_init := by decide +kernel
  have iX6 : ∀ w ∈ wsX60, w ∈ wsX6_init := by decide +kernel
  have hrm : 10 ≤ (headSpec wsX6_init ({ frames := 10, cells := 36, slots := 3018, locals := 300 })).room.frames ∧ 300 ≤ (headSpec wsX6_init ({ frames := 10, cells := 36, slots := 3018, locals := 300 })).room.locals := ⟨Nat.le_refl _, Nat.le_refl _⟩
  have hrc : 36 ≤ (headSpec wsX6_init ({ frames := 10, cells := 36, slots := 3018, locals := 300 })).room.cells ∧ 3018 ≤ (headSpec wsX6_init ({ frames := 10, cells := 36, slots := 3018, locals := 300 })).room.slots := ⟨Nat.le_refl _, Nat.le_refl _⟩
  generalize (headSpec wsX6_init ({ frames := 10, cells := 36, slots := 3018, locals := 300 })).room = RR at hrm hrc ⊢
  have hl := lv_entry ([.ref h0]) (n := 1) (Nat.le_of_ble_eq_true rfl)
  rw [show entryFrame m args 1 = entryFrame m ([.ref h0] : List Value).toArray 1 from by rw [hargs], lg_entry_eq]
  generalize (lg_sl ([.ref h0]) ++ List.replicate (1 - (lg_sl ([.ref h0])).length) Slot.unset).toArray = ls at hl ⊢
  have hl : lv_has ls 1 [(0, .ref h0)] := hl
  refine lv_aload_n hx hb dX6_init_0 rfl (lv_at hl 0 rfl) ?_
  refine W.objInit hx hb hown (hts (.methodLink RX6 3 objectInit) (by decide +kernel)) (hts (.instanceMethod objectInit) (by decide +kernel)) (hts (.code objectInit ⟨#[0xb1]⟩ 1 none) (by decide +kernel)) rfl (by rw [hml]; exact hl.1) rfl dX6_init_1 (Nat.le_trans (by decide) hrm.1) (Nat.le_trans (Nat.le_of_ble_eq_true rfl) hrm.2) ?_
  refine W.eq (g2 := F0 m 4 ls []) rfl ?_
  refine lv_aload_n hx hb dX6_init_4 rfl (lv_at hl 0 rfl) ?_
  refine va_new (ci := 1) (fs := [.null, .null, .null, .int 0, .int 0]) (C := RX1) (T := TX1) (N := 5) hx hb hts iX1 tyX1 tyX1_ok hown (hts (.classLink RX6 9 RX1) (by decide +kernel)) (hts (.instantiable RX1 5) (by decide +kernel)) (hts (.initialized RX1) (by decide +kernel)) hK hP hD hS hA rfl (fun j hj => by rcases (show j = 0 ∨ j = 1 ∨ j = 2 ∨ j = 3 ∨ j = 4 by omega) with rfl | rfl | rfl | rfl | rfl <;> rfl) (Nat.le_trans (by decide) hrc.1) (Nat.le_trans (by decide) hrc.2) dX6_init_5 (fun h1 H hP hD hS => ?_)
  have hP : va_P (dC, dI) vwCl [(h0, .inr (6, [.null, .null, .null, .null, .null, .null])), (h1, .inr (1, [.null, .null, .null, .int 0, .int 0]))] H := hP
  have hD : va_D A [(h0, .inr (6, [.null, .null, .null, .null, .null, .null])), (h1, .inr (1, [.null, .null, .null, .int 0, .int 0]))] := hD
  refine lv_dup hx hb dX6_init_8 rfl ?_
  refine x_callI (va_runI (As := []) (rest := [.ref h1, .ref h0]) ⟨hx, hb, hml, hown, hts⟩ (jX1 l dC dI cI cA A (.inr (6, [.null, .null, .null, .null, .null, .null])) h0 h1) (cwI 0 hts gX6_init_X1_init rfl rfl rfl (hts (.initialized RX1) (by decide +kernel)) (hts (.methodLink RX6 11 yX1_init) (by decide +kernel)) (hts (.instanceMethod yX1_init) (by decide +kernel)) rfl hX1_init_d ⟨Nat.le_trans (by decide) hrm.1, Nat.le_trans (by decide) hrm.2⟩) (psI hP hD hK hN hM (fun q hq => hA q (Nat.le_trans hS.1 hq))) rfl rfl hl.1 rfl (lv_room (Nat.le_of_ble_eq_true rfl)) dX6_init_9 ⟨Nat.le_trans (by decide) hrc.1, Nat.le_trans (by decide) hrc.2⟩) hS (fun H locs hB hS => ?_)
  obtain ⟨a, σ, ha0, ha1, hz, hR, hP9, hap⟩ := hB
  subst ha0
  subst ha1
  have hP : va_P (dC, dI) vwCl (gw 21 a (cH (.inr (6, [.null, .null, .null, .null, .null, .null])) cI cA a) σ ++ []) H := by rw [List.append_nil]; exact hP9
  have hD : va_D A (gw 21 a (cH (.inr (6, [.null, .null, .null, .null, .null, .null])) cI cA a) σ ++ []) := by rw [List.append_nil]; exact apD_to hap
  refine x_put0 (v := .ref (a 1)) (ty := .object "MatchHall$Hall") hx hb hts iX6 hown hK 20 ([]) hP hD hS 0 (by decide) (hts (.fieldLink RX6 12 "MatchHall" "hall" "LMatchHall$Hall;") (by decide +kernel)) rfl hin rfl (by decide +kernel) rfl rfl (Nat.le_of_ble_eq_true rfl) dX6_init_12 (fun H locs hP hD hS => ?_)
  have hP : va_P (dC, dI) vwCl (gw 21 a (cH (.inr (6, [.ref (a 1), .null, .null, .null, .null, .null])) cI cA a) σ ++ []) H := hP
  have hD : va_D A (gw 21 a (cH (.inr (6, [.ref (a 1), .null, .null, .null, .null, .null])) cI cA a) σ ++ []) := hD
  have hP : va_P (dC, dI) vwCl (gw 21 a (cH (.inr (6, [.ref (a 1), .null, .null, .null, .null, .null])) cI cA a) σ) H := by rw [List.append_nil] at hP; exact hP
  have hD : va_D A (gw 21 a (cH (.inr (6, [.ref (a 1), .null, .null, .null, .null, .null])) cI cA a) σ) := by rw [List.append_nil] at hD; exact hD
  refine lv_aload_n hx hb dX6_init_15 rfl (lv_at hl 0 rfl) ?_
  refine va_new (ci := 3) (fs := [.null, .null]) (C := RX3) (T := TX3) (N := 2) hx hb hts iX3 tyX3 tyX3_ok hown (hts (.classLink RX6 16 RX3) (by decide +kernel)) (hts (.instantiable RX3 2) (by decide +kernel)) (hts (.initialized RX3) (by decide +kernel)) hK hP hD hS hA rfl (fun j hj => by rcases (show j = 0 ∨ j = 1 by omega) with rfl | rfl <;> rfl) (Nat.le_trans (by decide) hrc.1) (Nat.le_trans (by decide) hrc.2) dX6_init_16 (fun q21 H hP hD hS => ?_)
  have hP : va_P (dC, dI) vwCl (gw 21 a (cH (.inr (6, [.ref (a 1), .null, .null, .null, .null, .null])) cI cA a) σ ++ [(q21, .inr (3, [.null, .null]))]) H := hP
  have hD : va_D A (gw 21 a (cH (.inr (6, [.ref (a 1), .null, .null, .null, .null, .null])) cI cA a) σ ++ [(q21, .inr (3, [.null, .null]))]) := hD
  refine lv_dup hx hb dX6_init_19 rfl ?_
  refine lv_aload_n hx hb dX6_init_20 rfl (lv_at hl 0 rfl) ?_
  refine x_get0 (v := .ref (a 1)) hx hb hts iX6 hown hK 20 ([(q21, .inr (3, [.null, .null]))]) hP 0 (by decide) (hts (.fieldLink RX6 12 "MatchHall" "hall" "LMatchHall$Hall;") (by decide +kernel)) rfl dX6_init_21 ?_
  refine x_callI (va_runI (As := [.ref (a 1)]) (rest := [.ref q21, .ref (a 0)]) ⟨hx, hb, hml, hown, hts⟩ (jX3_21 l dC dI cI cA A (.inr (6, [.ref (a 1), .null, .null, .null, .null, .null])) a σ hR q21) (cwI 1 hts gX6_init_X3_init rfl rfl rfl (hts (.initialized RX3) (by decide +kernel)) (hts (.methodLink RX6 18 yX3_init) (by decide +kernel)) (hts (.instanceMethod yX3_init) (by decide +kernel)) rfl hX3_init_d ⟨Nat.le_trans (by decide) hrm.1, Nat.le_trans (by decide) hrm.2⟩) (psI hP hD hK hN hM (fun q hq => hA q (Nat.le_trans hS.1 hq))) rfl rfl hl.1 rfl (lv_room (Nat.le_of_ble_eq_true rfl)) dX6_init_24 ⟨Nat.le_trans (by decide) hrc.1, Nat.le_trans (by decide) hrc.2⟩) hS (fun H locs hB hS => ?_)
  obtain ⟨a', σ', k1, k2, k3, k4, hR9, hP9, hap⟩ := hB
  have e0 := k1 0 (by omega)
  have e1 := k1 1 (by omega)
  subst k2
  rw [← e1] at hP9
  rw [← e0] at hl ⊢
  have hz : hallZ σ' := hallZ_same hz (fun k hk => k3 k (by omega))
  have t22 : ∀ j : Int, 0 ≤ j → j < 6 → σ' 22 j = -1 := k4
  have hR := hR9
  clear e0 e1 k1 k3 k4 hR9
  generalize a' = a at hl hP9 hap ⊢
  generalize σ' = σ at hz t22 hR hP9 ⊢
  have hP : va_P (dC, dI) vwCl (gw 23 a (cH (.inr (6, [.ref (a 1), .null, .null, .null, .null, .null])) cI cA a) σ ++ []) H := by rw [List.append_nil]; exact hP9
  have hD : va_D A (gw 23 a (cH (.inr (6, [.ref (a 1), .null, .null, .null, .null, .null])) cI cA a) σ ++ []) := by rw [List.append_nil]; exact apD_to hap
  refine x_put0 (v := .ref (a 21)) (ty := .object "MatchHall$Matching") hx hb hts iX6 hown hK 22 ([]) hP hD hS 1 (by decide) (hts (.fieldLink RX6 21 "MatchHall" "told" "LMatchHall$Matching;") (by decide +kernel)) rfl hin rfl (by decide +kernel) rfl rfl (Nat.le_of_ble_eq_true rfl) dX6_init_27 (fun H locs hP hD hS => ?_)
  have hP : va_P (dC, dI) vwCl (gw 23 a (cH (.inr (6, [.ref (a 1), .ref (a 21), .null, .null, .null, .null])) cI cA a) σ ++ []) H := hP
  have hD : va_D A (gw 23 a (cH (.inr (6, [.ref (a 1), .ref (a 21), .null, .null, .null, .null])) cI cA a) σ ++ []) := hD
  have hP : va_P (dC, dI) vwCl (gw 23 a (cH (.inr (6, [.ref (a 1), .ref (a 21), .null, .null, .null, .null])) cI cA a) σ) H := by rw [List.append_nil] at hP; exact hP
  have hD : va_D A (gw 23 a (cH (.inr (6, [.ref (a 1), .ref (a 21), .null, .null, .null, .null])) cI cA a) σ) := by rw [List.append_nil] at hD; exact hD
  refine lv_aload_n hx hb dX6_init_30 rfl (lv_at hl 0 rfl) ?_
  refine va_new (ci := 3) (fs := [.null, .null]) (C := RX3) (T := TX3) (N := 2) hx hb hts iX3 tyX3 tyX3_ok hown (hts (.classLink RX6 16 RX3) (by decide +kernel)) (hts (.instantiable RX3 2) (by decide +kernel)) (hts (.initialized RX3) (by decide +kernel)) hK hP hD hS hA rfl (fun j hj => by rcases (show j = 0 ∨ j = 1 by omega) with rfl | rfl <;> rfl) (Nat.le_trans (by decide) hrc.1) (Nat.le_trans (by decide) hrc.2) dX6_init_31 (fun q23 H hP hD hS => ?_)
  have hP : va_P (dC, dI) vwCl (gw 23 a (cH (.inr (6, [.ref (a 1), .ref (a 21), .null, .null, .null, .null])) cI cA a) σ ++ [(q23, .inr (3, [.null, .null]))]) H := hP
  have hD : va_D A (gw 23 a (cH (.inr (6, [.ref (a 1), .ref (a 21), .null, .null, .null, .null])) cI cA a) σ ++ [(q23, .inr (3, [.null, .null]))]) := hD
  refine lv_dup hx hb dX6_init_34 rfl ?_
  refine lv_aload_n hx hb dX6_init_35 rfl (lv_at hl 0 rfl) ?_
  refine x_get0 (v := .ref (a 1)) hx hb hts iX6 hown hK 22 ([(q23, .inr (3, [.null, .null]))]) hP 0 (by decide) (hts (.fieldLink RX6 12 "MatchHall" "hall" "LMatchHall$Hall;") (by decide +kernel)) rfl dX6_init_36 ?_
  refine x_callI (va_runI (As := [.ref (a 1)]) (rest := [.ref q23, .ref (a 0)]) ⟨hx, hb, hml, hown, hts⟩ (jX3_23 l dC dI cI cA A (.inr (6, [.ref (a 1), .ref (a 21), .null, .null, .null, .null])) a σ hR q23) (cwI 1 hts gX6_init_X3_init rfl rfl rfl (hts (.initialized RX3) (by decide +kernel)) (hts (.methodLink RX6 18 yX3_init) (by decide +kernel)) (hts (.instanceMethod yX3_init) (by decide +kernel)) rfl hX3_init_d ⟨Nat.le_trans (by decide) hrm.1, Nat.le_trans (by decide) hrm.2⟩) (psI hP hD hK hN hM (fun q hq => hA q (Nat.le_trans hS.1 hq))) rfl rfl hl.1 rfl (lv_room (Nat.le_of_ble_eq_true rfl)) dX6_init_39 ⟨Nat.le_trans (by decide) hrc.1, Nat.le_trans (by decide) hrc.2⟩) hS (fun H locs hB hS => ?_)
  obtain ⟨a', σ', k1, k2, k3, k4, hR9, hP9, hap⟩ := hB
  have e0 := k1 0 (by omega)
  have e1 := k1 1 (by omega)
  have e21 := k1 21 (by omega)
  subst k2
  rw [← e1, ← e21] at hP9
  rw [← e0] at hl ⊢
  have hz : hallZ σ' := hallZ_same hz (fun k hk => k3 k (by omega))
  have t22 : ∀ j : Int, 0 ≤ j → j < 6 → σ' 22 j = -1 := fun j j0 j1 => by rw [k3 22 (by omega)]; exact t22 j j0 j1
  have hR := hR9
  clear e0 e1 e21 k1 k3 k4 hR9
  generalize a' = a at hl hP9 hap ⊢
  generalize σ' = σ at hz t22 hR hP9 ⊢
  have hP : va_P (dC, dI) vwCl (gw 25 a (cH (.inr (6, [.ref (a 1), .ref (a 21), .null, .null, .null, .null])) cI cA a) σ ++ []) H := by rw [List.append_nil]; exact hP9
  have hD : va_D A (gw 25 a (cH (.inr (6, [.ref (a 1), .ref (a 21), .null, .null, .null, .null])) cI cA a) σ ++ []) := by rw [List.append_nil]; exact apD_to hap
  refine x_put0 (v := .ref (a 23)) (ty := .object "MatchHall$Matching") hx hb hts iX6 hown hK 24 ([]) hP hD hS 2 (by decide) (hts (.fieldLink RX6 25 "MatchHall" "scratch" "LMatchHall$Matching;") (by decide +kernel)) rfl hin rfl (by decide +kernel) rfl rfl (Nat.le_of_ble_eq_true rfl) dX6_init_42 (fun H locs hP hD hS => ?_)
  have hP : va_P (dC, dI) vwCl (gw 25 a (cH (.inr (6, [.ref (a 1), .ref (a 21), .ref (a 23), .null, .null, .null])) cI cA a) σ ++ []) H := hP
  have hD : va_D A (gw 25 a (cH (.inr (6, [.ref (a 1), .ref (a 21), .ref (a 23), .null, .null, .null])) cI cA a) σ ++ []) := hD
  have hP : va_P (dC, dI) vwCl (gw 25 a (cH (.inr (6, [.ref (a 1), .ref (a 21), .ref (a 23), .null, .null, .null])) cI cA a) σ) H := by rw [List.append_nil] at hP; exact hP
  have hD : va_D A (gw 25 a (cH (.inr (6, [.ref (a 1), .ref (a 21), .ref (a 23), .null, .null, .null])) cI cA a) σ) := by rw [List.append_nil] at hD; exact hD
  refine lv_aload_n hx hb dX6_init_45 rfl (lv_at hl 0 rfl) ?_
  refine va_new (ci := 5) (fs := [.null, .null, .null, .int 0]) (C := RX5) (T := TX5) (N := 4) hx hb hts iX5 tyX5 tyX5_ok hown (hts (.classLink RX6 28 RX5) (by decide +kernel)) (hts (.instantiable RX5 4) (by decide +kernel)) (hts (.initialized RX5) (by decide +kernel)) hK hP hD hS hA rfl (fun j hj => by rcases (show j = 0 ∨ j = 1 ∨ j = 2 ∨ j = 3 by omega) with rfl | rfl | rfl | rfl <;> rfl) (Nat.le_trans (by decide) hrc.1) (Nat.le_trans (by decide) hrc.2) dX6_init_46 (fun q25 H hP hD hS => ?_)
  have hP : va_P (dC, dI) vwCl (gw 25 a (cH (.inr (6, [.ref (a 1), .ref (a 21), .ref (a 23), .null, .null, .null])) cI cA a) σ ++ [(q25, .inr (5, [.null, .null, .null, .int 0]))]) H := hP
  have hD : va_D A (gw 25 a (cH (.inr (6, [.ref (a 1), .ref (a 21), .ref (a 23), .null, .null, .null])) cI cA a) σ ++ [(q25, .inr (5, [.null, .null, .null, .int 0]))]) := hD
  refine lv_dup hx hb dX6_init_49 rfl ?_
  refine lv_aload_n hx hb dX6_init_50 rfl (lv_at hl 0 rfl) ?_
  refine x_get0 (v := .ref (a 1)) hx hb hts iX6 hown hK 24 ([(q25, .inr (5, [.null, .null, .null, .int 0]))]) hP 0 (by decide) (hts (.fieldLink RX6 12 "MatchHall" "hall" "LMatchHall$Hall;") (by decide +kernel)) rfl dX6_init_51 ?_
  refine x_callI (va_runI (As := [.ref (a 1)]) (rest := [.ref q25, .ref (a 0)]) ⟨hx, hb, hml, hown, hts⟩ (jX5 l dC dI cI cA A (gw 25 a (cH (.inr (6, [.ref (a 1), .ref (a 21), .ref (a 23), .null, .null, .null])) cI cA a) σ) q25 (a 1)) (cwI 1 hts gX6_init_X5_init rfl rfl rfl (hts (.initialized RX5) (by decide +kernel)) (hts (.methodLink RX6 30 yX5_init) (by decide +kernel)) (hts (.instanceMethod yX5_init) (by decide +kernel)) rfl hX5_init_d ⟨Nat.le_trans (by decide) hrm.1, Nat.le_trans (by decide) hrm.2⟩) (psI hP hD hK hN hM (fun q hq => hA q (Nat.le_trans hS.1 hq))) rfl rfl hl.1 rfl (lv_room (Nat.le_of_ble_eq_true rfl)) dX6_init_54 ⟨Nat.le_trans (by decide) hrc.1, Nat.le_trans (by decide) hrc.2⟩) hS (fun H locs hB hS => ?_)
  obtain ⟨q26, q27, hP, hD⟩ := hB
  have hP : va_P (dC, dI) vwCl (gw 25 a (cH (.inr (6, [.ref (a 1), .ref (a 21), .ref (a 23), .null, .null, .null])) cI cA a) σ ++ [(q25, .inr (5, [.ref (a 1), .ref q26, .ref q27, .int 0])), (q26, .inl (cI, 1296, .inl (fun _ => 0))), (q27, .inl (cI, 1296, .inl (fun _ => 0)))]) H := hP
  have hD : va_D A (gw 25 a (cH (.inr (6, [.ref (a 1), .ref (a 21), .ref (a 23), .null, .null, .null])) cI cA a) σ ++ [(q25, .inr (5, [.ref (a 1), .ref q26, .ref q27, .int 0])), (q26, .inl (cI, 1296, .inl (fun _ => 0))), (q27, .inl (cI, 1296, .inl (fun _ => 0)))]) := hD
  refine x_put0 (v := .ref q25) (ty := .object "MatchHall$Stables") hx hb hts iX6 hown hK 24 ([(q25, .inr (5, [.ref (a 1), .ref q26, .ref q27, .int 0])), (q26, .inl (cI, 1296, .inl (fun _ => 0))), (q27, .inl (cI, 1296, .inl (fun _ => 0)))]) hP hD hS 3 (by decide) (hts (.fieldLink RX6 31 "MatchHall" "stables" "LMatchHall$Stables;") (by decide +kernel)) rfl hin rfl (by decide +kernel) rfl rfl (Nat.le_of_ble_eq_true rfl) dX6_init_57 (fun H locs hP hD hS => ?_)
  have hP : va_P (dC, dI) vwCl (gw 25 a (cH (.inr (6, [.ref (a 1), .ref (a 21), .ref (a 23), .ref q25, .null, .null])) cI cA a) σ ++ [(q25, .inr (5, [.ref (a 1), .ref q26, .ref q27, .int 0])), (q26, .inl (cI, 1296, .inl (fun _ => 0))), (q27, .inl (cI, 1296, .inl (fun _ => 0)))]) H := hP
  have hD : va_D A (gw 25 a (cH (.inr (6, [.ref (a 1), .ref (a 21), .ref (a 23), .ref q25, .null, .null])) cI cA a) σ ++ [(q25, .inr (5, [.ref (a 1), .ref q26, .ref q27, .int 0])), (q26, .inl (cI, 1296, .inl (fun _ => 0))), (q27, .inl (cI, 1296, .inl (fun _ => 0)))]) := hD
  refine lv_aload_n hx hb dX6_init_60 rfl (lv_at hl 0 rfl) ?_
  refine va_new (ci := 4) (fs := [.null, .null, .null, .null, .null, .int 0]) (C := RX4) (T := TX4) (N := 6) hx hb hts iX4 tyX4 tyX4_ok hown (hts (.classLink RX6 35 RX4) (by decide +kernel)) (hts (.instantiable RX4 6) (by decide +kernel)) (hts (.initialized RX4) (by decide +kernel)) hK hP hD hS hA rfl (fun j hj => by rcases (show j = 0 ∨ j = 1 ∨ j = 2 ∨ j = 3 ∨ j = 4 ∨ j = 5 by omega) with rfl | rfl | rfl | rfl | rfl | rfl <;> rfl) (Nat.le_trans (by decide) hrc.1) (Nat.le_trans (by decide) hrc.2) dX6_init_61 (fun q28 H hP hD hS => ?_)
  rw [List.append_assoc] at hP hD
  have hP : va_P (dC, dI) vwCl (gw 25 a (cH (.inr (6, [.ref (a 1), .ref (a 21), .ref (a 23), .ref q25, .null, .null])) cI cA a) σ ++ [(q25, .inr (5, [.ref (a 1), .ref q26, .ref q27, .int 0])), (q26, .inl (cI, 1296, .inl (fun _ => 0))), (q27, .inl (cI, 1296, .inl (fun _ => 0))), (q28, .inr (4, [.null, .null, .null, .null, .null, .int 0]))]) H := hP
  have hD : va_D A (gw 25 a (cH (.inr (6, [.ref (a 1), .ref (a 21), .ref (a 23), .ref q25, .null, .null])) cI cA a) σ ++ [(q25, .inr (5, [.ref (a 1), .ref q26, .ref q27, .int 0])), (q26, .inl (cI, 1296, .inl (fun _ => 0))), (q27, .inl (cI, 1296, .inl (fun _ => 0))), (q28, .inr (4, [.null, .null, .null, .null, .null, .int 0]))]) := hD
  refine lv_dup hx hb dX6_init_64 rfl ?_
  refine lv_aload_n hx hb dX6_init_65 rfl (lv_at hl 0 rfl) ?_
  refine x_get0 (v := .ref q25) hx hb hts iX6 hown hK 24 ([(q25, .inr (5, [.ref (a 1), .ref q26, .ref q27, .int 0])), (q26, .inl (cI, 1296, .inl (fun _ => 0))), (q27, .inl (cI, 1296, .inl (fun _ => 0))), (q28, .inr (4, [.null, .null, .null, .null, .null, .int 0]))]) hP 3 (by decide) (hts (.fieldLink RX6 31 "MatchHall" "stables" "LMatchHall$Stables;") (by decide +kernel)) rfl dX6_init_66 ?_
  have hP : va_P (dC, dI) vwCl ((gw 25 a (cH (.inr (6, [.ref (a 1), .ref (a 21), .ref (a 23), .ref q25, .null, .null])) cI cA a) σ ++ [(q25, .inr (5, [.ref (a 1), .ref q26, .ref q27, .int 0])), (q26, .inl (cI, 1296, .inl (fun _ => 0))), (q27, .inl (cI, 1296, .inl (fun _ => 0)))]) ++ [(q28, .inr (4, [.null, .null, .null, .null, .null, .int 0]))]) H := by rw [List.append_assoc]; exact hP
  have hD : va_D A ((gw 25 a (cH (.inr (6, [.ref (a 1), .ref (a 21), .ref (a 23), .ref q25, .null, .null])) cI cA a) σ ++ [(q25, .inr (5, [.ref (a 1), .ref q26, .ref q27, .int 0])), (q26, .inl (cI, 1296, .inl (fun _ => 0))), (q27, .inl (cI, 1296, .inl (fun _ => 0)))]) ++ [(q28, .inr (4, [.null, .null, .null, .null, .null, .int 0]))]) := by rw [List.append_assoc]; exact hD
  refine x_callI (va_runI (As := [.ref q25]) (rest := [.ref q28, .ref (a 0)]) ⟨hx, hb, hml, hown, hts⟩ (jX4 l dC dI cI cA A (gw 25 a (cH (.inr (6, [.ref (a 1), .ref (a 21), .ref (a 23), .ref q25, .null, .null])) cI cA a) σ ++ [(q25, .inr (5, [.ref (a 1), .ref q26, .ref q27, .int 0])), (q26, .inl (cI, 1296, .inl (fun _ => 0))), (q27, .inl (cI, 1296, .inl (fun _ => 0)))]) q28 q25) (cwI 1 hts gX6_init_X4_init rfl rfl rfl (hts (.initialized RX4) (by decide +kernel)) (hts (.methodLink RX6 37 yX4_init) (by decide +kernel)) (hts (.instanceMethod yX4_init) (by decide +kernel)) rfl hX4_init_d ⟨Nat.le_trans (by decide) hrm.1, Nat.le_trans (by decide) hrm.2⟩) (psI hP hD hK hN hM (fun q hq => hA q (Nat.le_trans hS.1 hq))) rfl rfl hl.1 rfl (lv_room (Nat.le_of_ble_eq_true rfl)) dX6_init_69 ⟨Nat.le_trans (by decide) hrc.1, Nat.le_trans (by decide) hrc.2⟩) hS (fun H locs hB hS => ?_)
  obtain ⟨q29, q30, q31, q32, hP, hD⟩ := hB
  rw [List.append_assoc] at hP hD
  have hP : va_P (dC, dI) vwCl (gw 25 a (cH (.inr (6, [.ref (a 1), .ref (a 21), .ref (a 23), .ref q25, .null, .null])) cI cA a) σ ++ [(q25, .inr (5, [.ref (a 1), .ref q26, .ref q27, .int 0])), (q26, .inl (cI, 1296, .inl (fun _ => 0))), (q27, .inl (cI, 1296, .inl (fun _ => 0))), (q28, .inr (4, [.ref q25, .ref q29, .ref q30, .ref q31, .ref q32, .int 0])), (q29, .inl (cI, 15, .inl (fun _ => 0))), (q30, .inl (cI, 15, .inl (fun _ => 0))), (q31, .inl (cI, 15, .inl (fun _ => 0))), (q32, .inl (cI, 216, .inl (fun _ => 0)))]) H := hP
  have hD : va_D A (gw 25 a (cH (.inr (6, [.ref (a 1), .ref (a 21), .ref (a 23), .ref q25, .null, .null])) cI cA a) σ ++ [(q25, .inr (5, [.ref (a 1), .ref q26, .ref q27, .int 0])), (q26, .inl (cI, 1296, .inl (fun _ => 0))), (q27, .inl (cI, 1296, .inl (fun _ => 0))), (q28, .inr (4, [.ref q25, .ref q29, .ref q30, .ref q31, .ref q32, .int 0])), (q29, .inl (cI, 15, .inl (fun _ => 0))), (q30, .inl (cI, 15, .inl (fun _ => 0))), (q31, .inl (cI, 15, .inl (fun _ => 0))), (q32, .inl (cI, 216, .inl (fun _ => 0)))]) := hD
  refine x_put0 (v := .ref q28) (ty := .object "MatchHall$Rotations") hx hb hts iX6 hown hK 24 ([(q25, .inr (5, [.ref (a 1), .ref q26, .ref q27, .int 0])), (q26, .inl (cI, 1296, .inl (fun _ => 0))), (q27, .inl (cI, 1296, .inl (fun _ => 0))), (q28, .inr (4, [.ref q25, .ref q29, .ref q30, .ref q31, .ref q32, .int 0])), (q29, .inl (cI, 15, .inl (fun _ => 0))), (q30, .inl (cI, 15, .inl (fun _ => 0))), (q31, .inl (cI, 15, .inl (fun _ => 0))), (q32, .inl (cI, 216, .inl (fun _ => 0)))]) hP hD hS 4 (by decide) (hts (.fieldLink RX6 40 "MatchHall" "rotations" "LMatchHall$Rotations;") (by decide +kernel)) rfl hin rfl (by decide +kernel) rfl rfl (Nat.le_of_ble_eq_true rfl) dX6_init_72 (fun H locs hP hD hS => ?_)
  have hP : va_P (dC, dI) vwCl (gw 25 a (cH (.inr (6, [.ref (a 1), .ref (a 21), .ref (a 23), .ref q25, .ref q28, .null])) cI cA a) σ ++ [(q25, .inr (5, [.ref (a 1), .ref q26, .ref q27, .int 0])), (q26, .inl (cI, 1296, .inl (fun _ => 0))), (q27, .inl (cI, 1296, .inl (fun _ => 0))), (q28, .inr (4, [.ref q25, .ref q29, .ref q30, .ref q31, .ref q32, .int 0])), (q29, .inl (cI, 15, .inl (fun _ => 0))), (q30, .inl (cI, 15, .inl (fun _ => 0))), (q31, .inl (cI, 15, .inl (fun _ => 0))), (q32, .inl (cI, 216, .inl (fun _ => 0)))]) H := hP
  have hD : va_D A (gw 25 a (cH (.inr (6, [.ref (a 1), .ref (a 21), .ref (a 23), .ref q25, .ref q28, .null])) cI cA a) σ ++ [(q25, .inr (5, [.ref (a 1), .ref q26, .ref q27, .int 0])), (q26, .inl (cI, 1296, .inl (fun _ => 0))), (q27, .inl (cI, 1296, .inl (fun _ => 0))), (q28, .inr (4, [.ref q25, .ref q29, .ref q30, .ref q31, .ref q32, .int 0])), (q29, .inl (cI, 15, .inl (fun _ => 0))), (q30, .inl (cI, 15, .inl (fun _ => 0))), (q31, .inl (cI, 15, .inl (fun _ => 0))), (q32, .inl (cI, 216, .inl (fun _ => 0)))]) := hD
  refine lv_aload_n hx hb dX6_init_75 rfl (lv_at hl 0 rfl) ?_
  refine va_new (ci := 0) (fs := [.null, .null, .null, .null, .null, .null]) (C := RX0) (T := TX0) (N := 6) hx hb hts iX0 tyX0 tyX0_ok hown (hts (.classLink RX6 44 RX0) (by decide +kernel)) (hts (.instantiable RX0 6) (by decide +kernel)) (hts (.initialized RX0) (by decide +kernel)) hK hP hD hS hA rfl (fun j hj => by rcases (show j = 0 ∨ j = 1 ∨ j = 2 ∨ j = 3 ∨ j = 4 ∨ j = 5 by omega) with rfl | rfl | rfl | rfl | rfl | rfl <;> rfl) (Nat.le_trans (by decide) hrc.1) (Nat.le_trans (by decide) hrc.2) dX6_init_76 (fun q33 H hP hD hS => ?_)
  rw [List.append_assoc] at hP hD
  have hP : va_P (dC, dI) vwCl (gw 25 a (cH (.inr (6, [.ref (a 1), .ref (a 21), .ref (a 23), .ref q25, .ref q28, .null])) cI cA a) σ ++ [(q25, .inr (5, [.ref (a 1), .ref q26, .ref q27, .int 0])), (q26, .inl (cI, 1296, .inl (fun _ => 0))), (q27, .inl (cI, 1296, .inl (fun _ => 0))), (q28, .inr (4, [.ref q25, .ref q29, .ref q30, .ref q31, .ref q32, .int 0])), (q29, .inl (cI, 15, .inl (fun _ => 0))), (q30, .inl (cI, 15, .inl (fun _ => 0))), (q31, .inl (cI, 15, .inl (fun _ => 0))), (q32, .inl (cI, 216, .inl (fun _ => 0))), (q33, .inr (0, [.null, .null, .null, .null, .null, .null]))]) H := hP
  have hD : va_D A (gw 25 a (cH (.inr (6, [.ref (a 1), .ref (a 21), .ref (a 23), .ref q25, .ref q28, .null])) cI cA a) σ ++ [(q25, .inr (5, [.ref (a 1), .ref q26, .ref q27, .int 0])), (q26, .inl (cI, 1296, .inl (fun _ => 0))), (q27, .inl (cI, 1296, .inl (fun _ => 0))), (q28, .inr (4, [.ref q25, .ref q29, .ref q30, .ref q31, .ref q32, .int 0])), (q29, .inl (cI, 15, .inl (fun _ => 0))), (q30, .inl (cI, 15, .inl (fun _ => 0))), (q31, .inl (cI, 15, .inl (fun _ => 0))), (q32, .inl (cI, 216, .inl (fun _ => 0))), (q33, .inr (0, [.null, .null, .null, .null, .null, .null]))]) := hD
  refine lv_dup hx hb dX6_init_79 rfl ?_
  refine lv_aload_n hx hb dX6_init_80 rfl (lv_at hl 0 rfl) ?_
  refine x_get0 (v := .ref (a 1)) hx hb hts iX6 hown hK 24 ([(q25, .inr (5, [.ref (a 1), .ref q26, .ref q27, .int 0])), (q26, .inl (cI, 1296, .inl (fun _ => 0))), (q27, .inl (cI, 1296, .inl (fun _ => 0))), (q28, .inr (4, [.ref q25, .ref q29, .ref q30, .ref q31, .ref q32, .int 0])), (q29, .inl (cI, 15, .inl (fun _ => 0))), (q30, .inl (cI, 15, .inl (fun _ => 0))), (q31, .inl (cI, 15, .inl (fun _ => 0))), (q32, .inl (cI, 216, .inl (fun _ => 0))), (q33, .inr (0, [.null, .null, .null, .null, .null, .null]))]) hP 0 (by decide) (hts (.fieldLink RX6 12 "MatchHall" "hall" "LMatchHall$Hall;") (by decide +kernel)) rfl dX6_init_81 ?_
  refine lv_aload_n hx hb dX6_init_84 rfl (lv_at hl 0 rfl) ?_
  refine x_get0 (v := .ref q25) hx hb hts iX6 hown hK 24 ([(q25, .inr (5, [.ref (a 1), .ref q26, .ref q27, .int 0])), (q26, .inl (cI, 1296, .inl (fun _ => 0))), (q27, .inl (cI, 1296, .inl (fun _ => 0))), (q28, .inr (4, [.ref q25, .ref q29, .ref q30, .ref q31, .ref q32, .int 0])), (q29, .inl (cI, 15, .inl (fun _ => 0))), (q30, .inl (cI, 15, .inl (fun _ => 0))), (q31, .inl (cI, 15, .inl (fun _ => 0))), (q32, .inl (cI, 216, .inl (fun _ => 0))), (q33, .inr (0, [.null, .null, .null, .null, .null, .null]))]) hP 3 (by decide) (hts (.fieldLink RX6 31 "MatchHall" "stables" "LMatchHall$Stables;") (by decide +kernel)) rfl dX6_init_85 ?_
  refine lv_aload_n hx hb dX6_init_88 rfl (lv_at hl 0 rfl) ?_
  refine x_get0 (v := .ref (a 23)) hx hb hts iX6 hown hK 24 ([(q25, .inr (5, [.ref (a 1), .ref q26, .ref q27, .int 0])), (q26, .inl (cI, 1296, .inl (fun _ => 0))), (q27, .inl (cI, 1296, .inl (fun _ => 0))), (q28, .inr (4, [.ref q25, .ref q29, .ref q30, .ref q31, .ref q32, .int 0])), (q29, .inl (cI, 15, .inl (fun _ => 0))), (q30, .inl (cI, 15, .inl (fun _ => 0))), (q31, .inl (cI, 15, .inl (fun _ => 0))), (q32, .inl (cI, 216, .inl (fun _ => 0))), (q33, .inr (0, [.null, .null, .null, .null, .null, .null]))]) hP 2 (by decide) (hts (.fieldLink RX6 25 "MatchHall" "scratch" "LMatchHall$Matching;") (by decide +kernel)) rfl dX6_init_89 ?_
  have hP : va_P (dC, dI) vwCl ((gw 25 a (cH (.inr (6, [.ref (a 1), .ref (a 21), .ref (a 23), .ref q25, .ref q28, .null])) cI cA a) σ ++ [(q25, .inr (5, [.ref (a 1), .ref q26, .ref q27, .int 0])), (q26, .inl (cI, 1296, .inl (fun _ => 0))), (q27, .inl (cI, 1296, .inl (fun _ => 0))), (q28, .inr (4, [.ref q25, .ref q29, .ref q30, .ref q31, .ref q32, .int 0])), (q29, .inl (cI, 15, .inl (fun _ => 0))), (q30, .inl (cI, 15, .inl (fun _ => 0))), (q31, .inl (cI, 15, .inl (fun _ => 0))), (q32, .inl (cI, 216, .inl (fun _ => 0)))]) ++ [(q33, .inr (0, [.null, .null, .null, .null, .null, .null]))]) H := by rw [List.append_assoc]; exact hP
  have hD : va_D A ((gw 25 a (cH (.inr (6, [.ref (a 1), .ref (a 21), .ref (a 23), .ref q25, .ref q28, .null])) cI cA a) σ ++ [(q25, .inr (5, [.ref (a 1), .ref q26, .ref q27, .int 0])), (q26, .inl (cI, 1296, .inl (fun _ => 0))), (q27, .inl (cI, 1296, .inl (fun _ => 0))), (q28, .inr (4, [.ref q25, .ref q29, .ref q30, .ref q31, .ref q32, .int 0])), (q29, .inl (cI, 15, .inl (fun _ => 0))), (q30, .inl (cI, 15, .inl (fun _ => 0))), (q31, .inl (cI, 15, .inl (fun _ => 0))), (q32, .inl (cI, 216, .inl (fun _ => 0)))]) ++ [(q33, .inr (0, [.null, .null, .null, .null, .null, .null]))]) := by rw [List.append_assoc]; exact hD
  refine x_callI (va_runI (As := [.ref (a 1), .ref q25, .ref (a 23)]) (rest := [.ref q33, .ref (a 0)]) ⟨hx, hb, hml, hown, hts⟩ (jX0 l dC dI cI cA A (gw 25 a (cH (.inr (6, [.ref (a 1), .ref (a 21), .ref (a 23), .ref q25, .ref q28, .null])) cI cA a) σ ++ [(q25, .inr (5, [.ref (a 1), .ref q26, .ref q27, .int 0])), (q26, .inl (cI, 1296, .inl (fun _ => 0))), (q27, .inl (cI, 1296, .inl (fun _ => 0))), (q28, .inr (4, [.ref q25, .ref q29, .ref q30, .ref q31, .ref q32, .int 0])), (q29, .inl (cI, 15, .inl (fun _ => 0))), (q30, .inl (cI, 15, .inl (fun _ => 0))), (q31, .inl (cI, 15, .inl (fun _ => 0))), (q32, .inl (cI, 216, .inl (fun _ => 0)))]) q33 (a 1) q25 (a 23)) (cwI 3 hts gX6_init_X0_init rfl rfl rfl (hts (.initialized RX0) (by decide +kernel)) (hts (.methodLink RX6 46 yX0_init) (by decide +kernel)) (hts (.instanceMethod yX0_init) (by decide +kernel)) rfl hX0_init_d ⟨Nat.le_trans (by decide) hrm.1, Nat.le_trans (by decide) hrm.2⟩) (psI hP hD hK hN hM (fun q hq => hA q (Nat.le_trans hS.1 hq))) rfl rfl hl.1 rfl (lv_room (Nat.le_of_ble_eq_true rfl)) dX6_init_92 ⟨Nat.le_trans (by decide) hrc.1, Nat.le_trans (by decide) hrc.2⟩) hS (fun H locs hB hS => ?_)
  obtain ⟨q34, q35, q36, hP, hD⟩ := hB
  rw [List.append_assoc] at hP hD
  have hP : va_P (dC, dI) vwCl (gw 25 a (cH (.inr (6, [.ref (a 1), .ref (a 21), .ref (a 23), .ref q25, .ref q28, .null])) cI cA a) σ ++ [(q25, .inr (5, [.ref (a 1), .ref q26, .ref q27, .int 0])), (q26, .inl (cI, 1296, .inl (fun _ => 0))), (q27, .inl (cI, 1296, .inl (fun _ => 0))), (q28, .inr (4, [.ref q25, .ref q29, .ref q30, .ref q31, .ref q32, .int 0])), (q29, .inl (cI, 15, .inl (fun _ => 0))), (q30, .inl (cI, 15, .inl (fun _ => 0))), (q31, .inl (cI, 15, .inl (fun _ => 0))), (q32, .inl (cI, 216, .inl (fun _ => 0))), (q33, .inr (0, [.ref (a 1), .ref q25, .ref (a 23), .ref q34, .ref q35, .ref q36])), (q34, .inl (cI, 6, .inl (fun _ => 0))), (q35, .inl (cI, 6, .inl (fun _ => 0))), (q36, .inl (cI, 6, .inl (fun _ => 0)))]) H := hP
  have hD : va_D A (gw 25 a (cH (.inr (6, [.ref (a 1), .ref (a 21), .ref (a 23), .ref q25, .ref q28, .null])) cI cA a) σ ++ [(q25, .inr (5, [.ref (a 1), .ref q26, .ref q27, .int 0])), (q26, .inl (cI, 1296, .inl (fun _ => 0))), (q27, .inl (cI, 1296, .inl (fun _ => 0))), (q28, .inr (4, [.ref q25, .ref q29, .ref q30, .ref q31, .ref q32, .int 0])), (q29, .inl (cI, 15, .inl (fun _ => 0))), (q30, .inl (cI, 15, .inl (fun _ => 0))), (q31, .inl (cI, 15, .inl (fun _ => 0))), (q32, .inl (cI, 216, .inl (fun _ => 0))), (q33, .inr (0, [.ref (a 1), .ref q25, .ref (a 23), .ref q34, .ref q35, .ref q36])), (q34, .inl (cI, 6, .inl (fun _ => 0))), (q35, .inl (cI, 6, .inl (fun _ => 0))), (q36, .inl (cI, 6, .inl (fun _ => 0)))]) := hD
  refine x_put0 (v := .ref q33) (ty := .object "MatchHall$Finder") hx hb hts iX6 hown hK 24 ([(q25, .inr (5, [.ref (a 1), .ref q26, .ref q27, .int 0])), (q26, .inl (cI, 1296, .inl (fun _ => 0))), (q27, .inl (cI, 1296, .inl (fun _ => 0))), (q28, .inr (4, [.ref q25, .ref q29, .ref q30, .ref q31, .ref q32, .int 0])), (q29, .inl (cI, 15, .inl (fun _ => 0))), (q30, .inl (cI, 15, .inl (fun _ => 0))), (q31, .inl (cI, 15, .inl (fun _ => 0))), (q32, .inl (cI, 216, .inl (fun _ => 0))), (q33, .inr (0, [.ref (a 1), .ref q25, .ref (a 23), .ref q34, .ref q35, .ref q36])), (q34, .inl (cI, 6, .inl (fun _ => 0))), (q35, .inl (cI, 6, .inl (fun _ => 0))), (q36, .inl (cI, 6, .inl (fun _ => 0)))]) hP hD hS 5 (by decide) (hts (.fieldLink RX6 49 "MatchHall" "finder" "LMatchHall$Finder;") (by decide +kernel)) rfl hin rfl (by decide +kernel) rfl rfl (Nat.le_of_ble_eq_true rfl) dX6_init_95 (fun H locs hP hD hS => ?_)
  have hP : va_P (dC, dI) vwCl (gw 25 a (cH (.inr (6, [.ref (a 1), .ref (a 21), .ref (a 23), .ref q25, .ref q28, .ref q33])) cI cA a) σ ++ [(q25, .inr (5, [.ref (a 1), .ref q26, .ref q27, .int 0])), (q26, .inl (cI, 1296, .inl (fun _ => 0))), (q27, .inl (cI, 1296, .inl (fun _ => 0))), (q28, .inr (4, [.ref q25, .ref q29, .ref q30, .ref q31, .ref q32, .int 0])), (q29, .inl (cI, 15, .inl (fun _ => 0))), (q30, .inl (cI, 15, .inl (fun _ => 0))), (q31, .inl (cI, 15, .inl (fun _ => 0))), (q32, .inl (cI, 216, .inl (fun _ => 0))), (q33, .inr (0, [.ref (a 1), .ref q25, .ref (a 23), .ref q34, .ref q35, .ref q36])), (q34, .inl (cI, 6, .inl (fun _ => 0))), (q35, .inl (cI, 6, .inl (fun _ => 0))), (q36, .inl (cI, 6, .inl (fun _ => 0)))]) H := hP
  have hD : va_D A (gw 25 a (cH (.inr (6, [.ref (a 1), .ref (a 21), .ref (a 23), .ref q25, .ref q28, .ref q33])) cI cA a) σ ++ [(q25, .inr (5, [.ref (a 1), .ref q26, .ref q27, .int 0])), (q26, .inl (cI, 1296, .inl (fun _ => 0))), (q27, .inl (cI, 1296, .inl (fun _ => 0))), (q28, .inr (4, [.ref q25, .ref q29, .ref q30, .ref q31, .ref q32, .int 0])), (q29, .inl (cI, 15, .inl (fun _ => 0))), (q30, .inl (cI, 15, .inl (fun _ => 0))), (q31, .inl (cI, 15, .inl (fun _ => 0))), (q32, .inl (cI, 216, .inl (fun _ => 0))), (q33, .inr (0, [.ref (a 1), .ref q25, .ref (a 23), .ref q34, .ref q35, .ref q36])), (q34, .inl (cI, 6, .inl (fun _ => 0))), (q35, .inl (cI, 6, .inl (fun _ => 0))), (q36, .inl (cI, 6, .inl (fun _ => 0)))]) := hD
  rw [gw37_of] at hP hD
  refine W.widen (k := 36) (n := 3018) (by decide) (by decide) ?_
  exact W.vret hx hb hr (fun t ht hW => ⟨rfl, ⟨(ay a [q25, q26, q27, q28, q29, q30, q31, q32, q33, q34, q35, q36]), sy σ, rfl, ⟨hallZ_same hz (fun k hk => sy_lt (by omega)), fun j j0 j1 => by rw [sy_lt (by omega)]; exact t22 j j0 j1, rfl, rfl⟩, sy_R hR, by rw [ht]; exact hP, apD_of hD⟩, hS.F ht⟩) hS.2.2 dX6_init_98 hlocks
