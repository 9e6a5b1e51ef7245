/-! OWN ROWS for what is made: new arrays at the end of a world, fields put in a constructor; worlds by numbers that grow -/
theorem va_AOA.like {t : FieldType} {s U : State} (hW : s.vm.Alike U.vm) (h : va_AOA t s) : va_AOA t U := by
  have h1 : va_AOA t (s.setVm U.vm) := by
    unfold va_AOA
    rw [Cond.arrayOver_setVmC hW]
    exact h
  exact h1
theorem va_AOA.warm {t : FieldType} {s U : State} (hW : s.WarmedH U.vm) (h : va_AOA t s) : va_AOA t U := h.like hW.alike
theorem va_AOA.same {t : FieldType} {u U : State} (e : u.vm = U.vm) (h : va_AOA t u) : va_AOA t U := h.like (by rw [e]; exact Vm.Alike.refl _)
/-- what the making needs of the tables beside the words -/
def MK (U : State) : Prop := va_AOA .int U ∧ va_Nw (.methodLinkNest RX1 11 yX2_init "MatchHall") U
theorem MK.warm {s U : State} (hW : s.WarmedH U.vm) (h : MK s) : MK U := ⟨h.1.warm hW, va_Nw.warmM hW h.2⟩
theorem MK.same {u U : State} (e : u.vm = U.vm) (h : MK u) : MK U := ⟨h.1.same e, va_Nw.same rfl e h.2⟩
def preI (dC : Nat → ClassId) (dI : Nat → Nat → Nat) (cI cA : ClassId) (A : Nat → Prop) (ws : va_W) (U : State) : Prop := va_P (dC, dI) vwCl ws U.heap ∧ va_D A ws ∧ va_K (dC, dI) vwCl (tyL cI cA) U ∧ NW U ∧ MK U ∧ ∀ q : Nat, U.heap.size ≤ q → A q
theorem fbI {dC : Nat → ClassId} {dI : Nat → Nat → Nat} {cI cA : ClassId} {A : Nat → Prop} {ws : va_W} {av : List Value} : FrameBlind (va_Pc av (preI dC dI cI cA A ws)) := fun _ U g mk q => ⟨q.1, q.2.1, q.2.2.1, va_K.moved (u := U) (U := U.calling g mk _) (Vm.Alike.refl U.vm) q.2.2.2.1, NW.same (u := U) (U := U.calling g mk _) rfl q.2.2.2.2.1, MK.same (u := U) (U := U.calling g mk _) rfl q.2.2.2.2.2.1, q.2.2.2.2.2.2⟩
theorem psI {dC : Nat → ClassId} {dI : Nat → Nat → Nat} {cI cA : ClassId} {A : Nat → Prop} {ws : va_W} {s : State} {H : Heap} (hP : va_P (dC, dI) vwCl ws H) (hD : va_D A ws) (hK : va_K (dC, dI) vwCl (tyL cI cA) s) (hN : NW s) (hM : MK s) (hA : ∀ q : Nat, H.size ≤ q → A q) {As : List Value} : PreS s H (va_Pc As (preI dC dI cI cA A ws)) As :=
  ⟨fbI, fun U hU hW => ⟨rfl, by rw [hU]; exact hP, hD, va_K.moved hW.alike hK, hN.warm hW, hM.warm hW, by rw [hU]; exact hA⟩⟩
/-- the end of a constructor: the new world, nothing outside A changed -/
def qI (A : Nat → Prop) (B : Heap → Prop) : Array Value → State → Outcome → State → Prop := fun _ st oc t => oc = .returned none ∧ B t.heap ∧ va_F A st t
theorem mid_at {α : Type} (ws : List α) (x : α) (tl : List α) : (ws ++ x :: tl)[ws.length]? = some x := by simp
theorem mid_set {α : Type} (ws : List α) (x y : α) (tl : List α) : (ws ++ x :: tl).set ws.length y = ws ++ y :: tl := by simp
section XN
variable {p : Program} {l : Launch} {e : Env} {R : Room} {s : State} {m : MethodId} {args : Array Value} {below : List Frame} {meth : Method} {c : Code} {H : Heap} {locs : List Loc} {cells slots : Nat} {Q : State → Prop}
variable {cc : ByteArray} {pc : Nat} {ls : Array Slot} {rest st0 : List Value} {D : va_G} {cl : List vw_C} {A A1 : Nat → Prop} {tys : List (ClassId × FieldType)} {H0 : Heap} {ar : Array Value}
theorem x_newa (hexec : p.tables.exec = Jvm.exec) (hb : c.code = cc) (harr : (Cond.arrayClass .int).before args s = true) (hK : va_K D cl tys s) (t0 : Nat) {cI : ClassId} (ht : tys[t0]? = some (cI, .int)) {ws tl : va_W} (hP : va_P D cl (ws ++ tl) H) (hD : va_D A (ws ++ tl)) (hS : va_S A H0 H locs) (hA : ∀ q, H0.size ≤ q → A q) {n : Int} {N' : Nat} (hn : n = N') (hN : N' < 100000) (hcells : cells + 1 ≤ R.cells) (hslots : slots + N' ≤ R.slots) (hdg : decode cc pc = .ok (.newarray .int, 2))
    (kk : ∀ (q : Nat) (H1 : Heap), va_P D cl (ws ++ (tl ++ [(q, .inl (cI, N', .inl (fun _ => 0)))])) H1 → va_D A (ws ++ (tl ++ [(q, .inl (cI, N', .inl (fun _ => 0)))])) → va_S A H0 H1 locs → W p l e R s m args below meth c H1 locs (cells + 1) (slots + N') Q (F0 m (pc + 2) ls (.ref q :: rest))) : W p l e R s m args below meth c H locs cells slots Q (F0 m pc ls (.int (iN n) :: rest)) := by
  subst hn
  refine va_newa (atype := .int) (ty := .int) (a0 := (N', .inl (fun _ => 0))) (N' := N') hexec hb harr rfl hK hP hD hS hA (fun cA => rfl) (fun h => by have := (iN_lt (a := (N' : Int)) (b := 0) ⟨by omega, by omega⟩ rng_0).mp h; omega) (by rw [iN_cl (by omega) (by omega)]; omega) (by show N' * 4 ≤ 536870912; omega) hcells hslots hdg (fun q cA H1 hK1 hP1 hD1 hS1 => ?_)
  have e1 : s.vm.findClass ("[" ++ FieldType.int.toString) = some cI := (hK.2 t0 _ ht).2
  have e2 : s.vm.findClass ("[" ++ FieldType.int.toString) = some cA := (hK1.2 tys.length (cA, .int) (by simp)).2
  have e3 : cI = cA := Option.some.inj (e1.symm.trans e2)
  subst e3
  rw [List.append_assoc] at hP1 hD1
  exact kk q H1 hP1 hD1 hS1
theorem x_mna (hexec : p.tables.exec = Jvm.exec) (hb : c.code = cc) {own : String} {index : Nat} (hown : s.vm.findClass own = some m.cls) (hclink : (Cond.classLink own index "[[I").before args s = true) (hov : va_AOA .int s) (harr : (Cond.arrayClass .int).before args s = true) {cI cA : ClassId} (hK : va_K D cl (tyL cI cA) s) {ws tl : va_W} (hP : va_P D cl (ws ++ tl) H) (hD : va_D A (ws ++ tl)) (hS : va_S A H0 H locs) (hA : ∀ q, H0.size ≤ q → A q) (hcells : cells + 7 ≤ R.cells) (hslots : slots + 42 ≤ R.slots) (hdg : decode cc pc = .ok (.multianewarray index 2, 4))
    (kk : ∀ (q : Nat) (r : Nat → Nat) (H1 : Heap), va_P D cl (ws ++ (tl ++ [(q, .inl (cA, 6, .inr (.inr (.inr (.inr (fun i => if i < 6 then some (r i) else none)))))), (r 0, .inl (cI, 6, .inl (fun _ => 0))), (r 1, .inl (cI, 6, .inl (fun _ => 0))), (r 2, .inl (cI, 6, .inl (fun _ => 0))), (r 3, .inl (cI, 6, .inl (fun _ => 0))), (r 4, .inl (cI, 6, .inl (fun _ => 0))), (r 5, .inl (cI, 6, .inl (fun _ => 0)))])) H1 → va_D A (ws ++ (tl ++ [(q, .inl (cA, 6, .inr (.inr (.inr (.inr (fun i => if i < 6 then some (r i) else none)))))), (r 0, .inl (cI, 6, .inl (fun _ => 0))), (r 1, .inl (cI, 6, .inl (fun _ => 0))), (r 2, .inl (cI, 6, .inl (fun _ => 0))), (r 3, .inl (cI, 6, .inl (fun _ => 0))), (r 4, .inl (cI, 6, .inl (fun _ => 0))), (r 5, .inl (cI, 6, .inl (fun _ => 0)))])) → va_S A H0 H1 locs → W p l e R s m args below meth c H1 locs (cells + 7) (slots + 42) Q (F0 m (pc + 4) ls (.ref q :: rest))) : W p l e R s m args below meth c H locs cells slots Q (F0 m pc ls (.int (iN 6) :: .int (iN 6) :: rest)) := by
  have e1 : s.vm.findClass "[I" = some cI := (hK.2 0 _ rfl).2
  have e9 : s.vm.findClass ("[" ++ (FieldType.array .int).toString) = some cA := (hK.2 1 _ rfl).2
  refine va_mna (X := ws ++ tl) (L := []) (f := fun _ => .inr (0, [])) (ty := .int) (cy := cI) (N' := 6) (K' := 6) (z := (6, .inl (fun _ => 0))) hexec hb hown hclink hov harr e1 hK (by rw [show va_pl [] (fun _ => (.inr (0, []) : va_E)) = [] from rfl, List.append_nil]; exact hP) (by rw [show va_pl [] (fun _ => (.inr (0, []) : va_E)) = [] from rfl, List.append_nil]; exact hD) hS hA (by decide) (by decide) (by decide) (by decide) (by decide) (by decide) (by decide) (by decide) (by decide) hcells hslots (fun _ => rfl) hdg (fun q r cA' H1 _ _ hK1 hP1 hD1 hS1 => ?_)
  have e2 : s.vm.findClass ("[" ++ (FieldType.array .int).toString) = some cA' := (hK1.2 2 (cA', .array .int) rfl).2
  have e3 : cA = cA' := Option.some.inj (e9.symm.trans e2)
  subst e3
  have hr : va_pl ([] ++ (List.range 6).map r) (vr_up (fun _ => (.inr (0, []) : va_E)) ((List.range 6).map r) (.inl (cI, 6, .inl (fun _ => 0)))) = [(r 0, .inl (cI, 6, .inl (fun _ => 0))), (r 1, .inl (cI, 6, .inl (fun _ => 0))), (r 2, .inl (cI, 6, .inl (fun _ => 0))), (r 3, .inl (cI, 6, .inl (fun _ => 0))), (r 4, .inl (cI, 6, .inl (fun _ => 0))), (r 5, .inl (cI, 6, .inl (fun _ => 0)))] := by
    have h : ∀ i, i < 6 → vr_up (fun _ => (.inr (0, []) : va_E)) ((List.range 6).map r) (.inl (cI, 6, .inl (fun _ => 0))) (r i) = .inl (cI, 6, .inl (fun _ => 0)) := fun i hi => vr_up_in (List.mem_map.mpr ⟨i, List.mem_range.mpr hi, rfl⟩)
    show [(r 0, _), (r 1, _), (r 2, _), (r 3, _), (r 4, _), (r 5, _)] = _
    rw [h 0 (by omega), h 1 (by omega), h 2 (by omega), h 3 (by omega), h 4 (by omega), h 5 (by omega)]
  rw [hr, List.append_assoc, List.append_assoc] at hP1 hD1
  exact kk q r H1 hP1 hD1 hS1
theorem x_putI (hx : p.tables.exec = Jvm.exec) (hb : c.code = cc) {own C : String} {T : u_T} {NF ci index : Nat} {Ts : List Cond} (hts : ∀ w ∈ Ts, w.before args s = true) (hin : ∀ w ∈ u_ws C T NF, w ∈ Ts) (ty0 : Nat → FieldType) (hty : ∀ k, k < NF → parseFieldDescriptor (T k).2.2.1 = some (ty0 k)) (hnm : ∀ a, a < NF → ∀ b, b < NF → a ≠ b → (T a).2.1 ≠ (T b).2.1) (hown : s.vm.findClass own = some m.cls) (hK : va_K D cl tys s) (ws tl : va_W) {a : Nat} {fs : List Value} (hP : va_P D cl (ws ++ (a, .inr (ci, fs)) :: tl) H) (hD : va_D A (ws ++ (a, .inr (ci, fs)) :: tl)) (hS : va_S A H0 H locs) (hc : cl[ci]? = some (C, T, NF)) (k : Nat) (hk : k < NF) (hlink : (Cond.fieldLink own index (T k).1 (T k).2.1 (T k).2.2.1).before args s = true) (hfin : (T k).2.2.2 = true) (hin2 : meth.name = "<init>") (hdecl : (T k).1 = own) {ty : FieldType} {v : Value} (hd : parseFieldDescriptor (T k).2.2.1 = some ty) (hn : narrow ty v = v) (hfit : fits ty v = true) (hl : k < fs.length) (hdg : decode cc pc = .ok (.putfield index, 3))
    (kk : ∀ (H1 : Heap) (locs1 : List Loc), va_P D cl (ws ++ (a, .inr (ci, fs.set k v)) :: tl) H1 → va_D A (ws ++ (a, .inr (ci, fs.set k v)) :: tl) → va_S A H0 H1 locs1 → W p l e R s m args below meth c H1 locs1 cells slots Q (F0 m (pc + 3) ls rest)) : W p l e R s m args below meth c H locs cells slots Q (F0 m pc ls (v :: .ref a :: rest)) :=
  va_putF hx hb hts hin ty0 hty hnm hown hK hP hD hS ws.length (mid_at ws _ tl) hc k hk hlink (fun _ h => h) hfin hin2 hdecl hd hn hfit hl hdg (fun H1 l1 h1 h2 h3 => kk H1 l1 (by rw [mid_set] at h1; exact h1) (by rw [mid_set] at h2; exact h2) h3)
theorem x_putJ (hx : p.tables.exec = Jvm.exec) (hb : c.code = cc) {own C : String} {T : u_T} {NF ci index : Nat} {Ts : List Cond} (hts : ∀ w ∈ Ts, w.before args s = true) (hin : ∀ w ∈ u_ws C T NF, w ∈ Ts) (ty0 : Nat → FieldType) (hty : ∀ k, k < NF → parseFieldDescriptor (T k).2.2.1 = some (ty0 k)) (hnm : ∀ a, a < NF → ∀ b, b < NF → a ≠ b → (T a).2.1 ≠ (T b).2.1) (hown : s.vm.findClass own = some m.cls) (hK : va_K D cl tys s) (ws tl : va_W) {a : Nat} {fs : List Value} (hP : va_P D cl (ws ++ (a, .inr (ci, fs)) :: tl) H) (hD : va_D A (ws ++ (a, .inr (ci, fs)) :: tl)) (hS : va_S A H0 H locs) (hc : cl[ci]? = some (C, T, NF)) (k : Nat) (hk : k < NF) (hlink : (Cond.fieldLink own index (T k).1 (T k).2.1 (T k).2.2.1).before args s = true) (hfin : (T k).2.2.2 = false) {ty : FieldType} {v : Value} (hd : parseFieldDescriptor (T k).2.2.1 = some ty) (hn : narrow ty v = v) (hfit : fits ty v = true) (hl : k < fs.length) (hdg : decode cc pc = .ok (.putfield index, 3))
    (kk : ∀ (H1 : Heap) (locs1 : List Loc), va_P D cl (ws ++ (a, .inr (ci, fs.set k v)) :: tl) H1 → va_D A (ws ++ (a, .inr (ci, fs.set k v)) :: tl) → va_S A H0 H1 locs1 → W p l e R s m args below meth c H1 locs1 cells slots Q (F0 m (pc + 3) ls rest)) : W p l e R s m args below meth c H locs cells slots Q (F0 m pc ls (v :: .ref a :: rest)) :=
  va_put hx hb hts hin ty0 hty hnm hown hK hP hD hS ws.length (mid_at ws _ tl) hc k hk hlink (fun _ h => h) hfin hd hn hfit hl hdg (fun H1 l1 h1 h2 h3 => kk H1 l1 (by rw [mid_set] at h1; exact h1) (by rw [mid_set] at h2; exact h2) h3)
theorem x_SA {st₀ t T' : State} {L : List Loc} (hS : va_S A H0 H locs) (hsub : ∀ q, A1 q → A q) (h0 : st₀.heap = H) (e1 : T'.heap = t.heap) (hL : ∀ q ∈ L, A1 q.base) (hF : va_F A1 st₀ t) : va_S A H0 T'.heap (locs ++ L) := by
  obtain ⟨hz, hk⟩ := hF
  rw [h0] at hz hk
  exact ⟨Nat.le_trans hS.1 (by rw [e1]; exact hz), fun q h1 h2 => by rw [e1, hk q (Nat.lt_of_lt_of_le h1 hS.1) (fun z => h2 (hsub q z))]; exact hS.2.1 q h1 h2, fun q hq => by
      rcases List.mem_append.mp hq with h | h
      · exact hS.2.2 q h
      · exact hsub _ (hL q h)⟩
/-- behind a constructor -/
theorem x_callI {mc ms : Nat} {B : Heap → Prop} (hr : va_Run p l e R s m args below meth c H locs cells slots mc ms (F0 m pc ls st0) rest (qI A B ar) A) (hS : va_S A H0 H locs) (kk : ∀ (H1 : Heap) (locs1 : List Loc), B H1 → va_S A H0 H1 locs1 → W p l e R s m args below meth c H1 locs1 (cells + mc) (slots + ms) Q (F0 m (pc + 3) ls rest)) : W p l e R s m args below meth c H locs cells slots Q (F0 m pc ls st0) := by
  intro T hT X
  obtain ⟨w, st₀, t, T', L, h0, X', hL, e1, e2, ⟨hv, hB, hF⟩, st⟩ := hr T hT X
  cases hv
  obtain ⟨t2, a1, b1⟩ := kk T'.heap (locs ++ L) (by rw [e1]; exact hB) (x_SA hS (fun _ h => h) h0 e1 hL hF) T' rfl X'
  exact ⟨t2, st t2 a1, b1⟩
/-- behind a method of a world inside A -/
theorem x_callMvA {Wf : Mem → va_W} {v : Int} {σ' : Mem} (hsub : ∀ q, A1 q → A q) (hr : va_Run p l e R s m args below meth c H locs cells slots 0 0 (F0 m pc ls st0) rest (qMv D Wf A1 (v, σ') ar) A1) (hS : va_S A H0 H locs) (kk : Rg σ' → ∀ (H1 : Heap) (locs1 : List Loc), va_P D vwCl (Wf σ') H1 → va_S A H0 H1 locs1 → (∀ q : Nat, q < H.size → ¬ A1 q → H1[q]? = H[q]?) → H.size ≤ H1.size → W p l e R s m args below meth c H1 locs1 cells slots Q (F0 m (pc + 3) ls rest)) : W p l e R s m args below meth c H locs cells slots Q (F0 m pc ls st0) := by
  intro T hT X
  obtain ⟨w, st₀, t, T', L, h0, X', hL, e1, e2, ⟨hv, hR, hP, hF⟩, st⟩ := hr T hT X
  cases hv
  obtain ⟨t2, a1, b1⟩ := kk hR T'.heap (locs ++ L) (by rw [e1]; exact hP) (x_SA hS hsub h0 e1 hL hF) (by rw [e1, ← h0]; exact hF.2) (by rw [e1, ← h0]; exact hF.1) T' rfl X'
  exact ⟨t2, st t2 a1, b1⟩
theorem x_callMA {Wf : Mem → va_W} {v : Int} {σ' : Mem} (hsub : ∀ q, A1 q → A q) (hr : va_Run p l e R s m args below meth c H locs cells slots 0 0 (F0 m pc ls st0) rest (qM D Wf A1 (v, σ') ar) A1) (hS : va_S A H0 H locs) (kk : rng v → Rg σ' → ∀ (H1 : Heap) (locs1 : List Loc), va_P D vwCl (Wf σ') H1 → va_S A H0 H1 locs1 → (∀ q : Nat, q < H.size → ¬ A1 q → H1[q]? = H[q]?) → H.size ≤ H1.size → W p l e R s m args below meth c H1 locs1 cells slots Q (F0 m (pc + 3) ls (.int (iN v) :: rest))) : W p l e R s m args below meth c H locs cells slots Q (F0 m pc ls st0) := by
  intro T hT X
  obtain ⟨w, st₀, t, T', L, h0, X', hL, e1, e2, ⟨hv, hg, hR, hP, hF⟩, st⟩ := hr T hT X
  cases hv
  obtain ⟨t2, a1, b1⟩ := kk hg hR T'.heap (locs ++ L) (by rw [e1]; exact hP) (x_SA hS hsub h0 e1 hL hF) (by rw [e1, ← h0]; exact hF.2) (by rw [e1, ← h0]; exact hF.1) T' rfl X'
  exact ⟨t2, st t2 a1, b1⟩
/-- behind one of the law's helpers -/
theorem x_callMX {Wf : Mem → va_W} {v : Int} {σ' : Mem} {mc ms : Nat} (hsub : ∀ q, A1 q → A q) (hr : vx_Run p l e R s m args below meth c H locs cells slots mc ms (F0 m pc ls st0) rest (qM D Wf A1 (v, σ') ar) (fun _ _ _ => False) A1) (hS : va_S A H0 H locs) (kk : rng v → Rg σ' → ∀ (H1 : Heap) (locs1 : List Loc), va_P D vwCl (Wf σ') H1 → va_S A H0 H1 locs1 → (∀ q : Nat, q < H.size → ¬ A1 q → H1[q]? = H[q]?) → H.size ≤ H1.size → W p l e R s m args below meth c H1 locs1 (cells + mc) (slots + ms) Q (F0 m (pc + 3) ls (.int (iN v) :: rest))) : W p l e R s m args below meth c H locs cells slots Q (F0 m pc ls st0) := by
  intro T hT X
  rcases hr T hT X with ⟨w, st₀, t, T', L, h0, X', hL, e1, e2, ⟨hv, hg, hR, hP, hF⟩, st⟩ | ⟨q, st₀, t, T', L, E, ce, h0, X', hL, e1, e2, hf, -⟩
  · cases hv
    obtain ⟨t2, a1, b1⟩ := kk hg hR T'.heap (locs ++ L) (by rw [e1]; exact hP) (x_SA hS hsub h0 e1 hL hF) (by rw [e1, ← h0]; exact hF.2) (by rw [e1, ← h0]; exact hF.1) T' rfl X'
    exact ⟨t2, st t2 a1, b1⟩
  · exact hf.elim
end XN
/-- the addresses of the first N are apart and in A -/
def apD (A : Nat → Prop) (N : Nat) (a : Nat → Nat) : Prop := (∀ i j, i < N → j < N → a i = a j → i = j) ∧ ∀ k, k < N → A (a k)
theorem gw_get {N : Nat} {a : Nat → Nat} {E : Nat → (Int → Int) → va_E} {σ : Mem} {k : Nat} {q : Nat × va_E} (h : (gw N a E σ)[k]? = some q) : k < N ∧ q = (a k, E k (σ k)) := by
  simp only [gw, List.getElem?_map] at h
  by_cases hk : k < N
  · simp [hk] at h; exact ⟨hk, h.symm⟩
  · simp [hk] at h
theorem apD_of {A : Nat → Prop} {N : Nat} {a : Nat → Nat} {E : Nat → (Int → Int) → va_E} {σ : Mem} (h : va_D A (gw N a E σ)) : apD A N a := by
  have at' : ∀ k, k < N → (gw N a E σ)[k]? = some (a k, E k (σ k)) := fun k hk => gw_at k hk rfl
  exact ⟨fun i j hi hj e => h.1 i j _ _ (at' i hi) (at' j hj) e, fun k hk => h.2 k _ (at' k hk)⟩
theorem apD_to {A : Nat → Prop} {N : Nat} {a : Nat → Nat} {E : Nat → (Int → Int) → va_E} {σ : Mem} (h : apD A N a) : va_D A (gw N a E σ) := by
  refine ⟨fun i j p q h1 h2 e => ?_, fun k q hq => ?_⟩
  · obtain ⟨a1, a2⟩ := gw_get h1
    obtain ⟨b1, b2⟩ := gw_get h2
    exact h.1 i j a1 b1 (by rw [a2, b2] at e; exact e)
  · obtain ⟨a1, a2⟩ := gw_get hq
    rw [a2]; exact h.2 k a1
theorem gw_ext {N : Nat} {a a' : Nat → Nat} {E E' : Nat → (Int → Int) → va_E} {σ σ' : Mem} (h : ∀ k, k < N → a k = a' k ∧ E k (σ k) = E' k (σ' k)) : gw N a E σ = gw N a' E' σ' := by
  unfold gw
  apply List.map_congr_left
  intro k hk
  rw [List.mem_range] at hk
  obtain ⟨h1, h2⟩ := h k hk
  rw [h1, h2]
theorem gw_add (N M : Nat) (a : Nat → Nat) (E : Nat → (Int → Int) → va_E) (σ : Mem) : gw (N + M) a E σ = gw N a E σ ++ (List.range M).map (fun k => (a (N + k), E (N + k) (σ (N + k)))) := by
  unfold gw
  rw [List.range_add, List.map_append, List.map_map]
  rfl
theorem gA_sub {A : Nat → Prop} {N : Nat} {a : Nat → Nat} (h : apD A N a) : ∀ q, gA N a q → A q := fun q ⟨k, hk, e⟩ => by rw [e]; exact h.2 k hk
