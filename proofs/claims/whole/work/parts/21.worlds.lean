/-! THE WORLDS: the class has 37 cells, the reference 12 (printed by wip/whole/gen/worlds.py) -/
def clen : Nat → Nat := fun k => match k with
  | 26 => 1296
  | 27 => 1296
  | 29 => 15
  | 30 => 15
  | 31 => 15
  | 32 => 216
  | _ => 6
def cE (cI cA : ClassId) (a : Nat → Nat) : Nat → (Int → Int) → va_E := fun k f => match k with
  | 0 => .inr (6, [.ref (a 1), .ref (a 21), .ref (a 23), .ref (a 25), .ref (a 28), .ref (a 33)])
  | 1 => .inr (1, [.ref (a 2), .ref (a 11), .ref (a 20), .int (iN (f 3)), .int (iN (f 4))])
  | 2 => .inr (2, [.ref (a 3), .ref (a 10), .int (iN (f 2)), .int (iN (f 3))])
  | 3 => .inl (cA, 6, .inr (.inr (.inr (.inr (fun j => if j < 6 then some (a (4 + j)) else none)))))
  | 11 => .inr (2, [.ref (a 12), .ref (a 19), .int (iN (f 2)), .int (iN (f 3))])
  | 12 => .inl (cA, 6, .inr (.inr (.inr (.inr (fun j => if j < 6 then some (a (13 + j)) else none)))))
  | 21 => .inr (3, [.ref (a 1), .ref (a 22)])
  | 23 => .inr (3, [.ref (a 1), .ref (a 24)])
  | 25 => .inr (5, [.ref (a 1), .ref (a 26), .ref (a 27), .int (iN (f 3))])
  | 28 => .inr (4, [.ref (a 25), .ref (a 29), .ref (a 30), .ref (a 31), .ref (a 32), .int (iN (f 5))])
  | 33 => .inr (0, [.ref (a 1), .ref (a 25), .ref (a 23), .ref (a 34), .ref (a 35), .ref (a 36)])
  | k => .inl (cI, clen k, .inl (fun j : Nat => iN (f j)))
theorem cE_0 (cI cA : ClassId) (a : Nat → Nat) (f : Int → Int) : cE cI cA a 0 f = .inr (6, [.ref (a 1), .ref (a 21), .ref (a 23), .ref (a 25), .ref (a 28), .ref (a 33)]) := rfl
theorem cE_1 (cI cA : ClassId) (a : Nat → Nat) (f : Int → Int) : cE cI cA a 1 f = .inr (1, [.ref (a 2), .ref (a 11), .ref (a 20), .int (iN (f 3)), .int (iN (f 4))]) := rfl
theorem cE_2 (cI cA : ClassId) (a : Nat → Nat) (f : Int → Int) : cE cI cA a 2 f = .inr (2, [.ref (a 3), .ref (a 10), .int (iN (f 2)), .int (iN (f 3))]) := rfl
theorem cE_3 (cI cA : ClassId) (a : Nat → Nat) (f : Int → Int) : cE cI cA a 3 f = .inl (cA, 6, .inr (.inr (.inr (.inr (fun j => if j < 6 then some (a (4 + j)) else none))))) := rfl
theorem cE_4 (cI cA : ClassId) (a : Nat → Nat) (f : Int → Int) : cE cI cA a 4 f = .inl (cI, 6, .inl (fun j : Nat => iN (f j))) := rfl
theorem cE_5 (cI cA : ClassId) (a : Nat → Nat) (f : Int → Int) : cE cI cA a 5 f = .inl (cI, 6, .inl (fun j : Nat => iN (f j))) := rfl
theorem cE_6 (cI cA : ClassId) (a : Nat → Nat) (f : Int → Int) : cE cI cA a 6 f = .inl (cI, 6, .inl (fun j : Nat => iN (f j))) := rfl
theorem cE_7 (cI cA : ClassId) (a : Nat → Nat) (f : Int → Int) : cE cI cA a 7 f = .inl (cI, 6, .inl (fun j : Nat => iN (f j))) := rfl
theorem cE_8 (cI cA : ClassId) (a : Nat → Nat) (f : Int → Int) : cE cI cA a 8 f = .inl (cI, 6, .inl (fun j : Nat => iN (f j))) := rfl
theorem cE_9 (cI cA : ClassId) (a : Nat → Nat) (f : Int → Int) : cE cI cA a 9 f = .inl (cI, 6, .inl (fun j : Nat => iN (f j))) := rfl
theorem cE_10 (cI cA : ClassId) (a : Nat → Nat) (f : Int → Int) : cE cI cA a 10 f = .inl (cI, 6, .inl (fun j : Nat => iN (f j))) := rfl
theorem cE_11 (cI cA : ClassId) (a : Nat → Nat) (f : Int → Int) : cE cI cA a 11 f = .inr (2, [.ref (a 12), .ref (a 19), .int (iN (f 2)), .int (iN (f 3))]) := rfl
theorem cE_12 (cI cA : ClassId) (a : Nat → Nat) (f : Int → Int) : cE cI cA a 12 f = .inl (cA, 6, .inr (.inr (.inr (.inr (fun j => if j < 6 then some (a (13 + j)) else none))))) := rfl
theorem cE_13 (cI cA : ClassId) (a : Nat → Nat) (f : Int → Int) : cE cI cA a 13 f = .inl (cI, 6, .inl (fun j : Nat => iN (f j))) := rfl
theorem cE_14 (cI cA : ClassId) (a : Nat → Nat) (f : Int → Int) : cE cI cA a 14 f = .inl (cI, 6, .inl (fun j : Nat => iN (f j))) := rfl
theorem cE_15 (cI cA : ClassId) (a : Nat → Nat) (f : Int → Int) : cE cI cA a 15 f = .inl (cI, 6, .inl (fun j : Nat => iN (f j))) := rfl
theorem cE_16 (cI cA : ClassId) (a : Nat → Nat) (f : Int → Int) : cE cI cA a 16 f = .inl (cI, 6, .inl (fun j : Nat => iN (f j))) := rfl
theorem cE_17 (cI cA : ClassId) (a : Nat → Nat) (f : Int → Int) : cE cI cA a 17 f = .inl (cI, 6, .inl (fun j : Nat => iN (f j))) := rfl
theorem cE_18 (cI cA : ClassId) (a : Nat → Nat) (f : Int → Int) : cE cI cA a 18 f = .inl (cI, 6, .inl (fun j : Nat => iN (f j))) := rfl
theorem cE_19 (cI cA : ClassId) (a : Nat → Nat) (f : Int → Int) : cE cI cA a 19 f = .inl (cI, 6, .inl (fun j : Nat => iN (f j))) := rfl
theorem cE_20 (cI cA : ClassId) (a : Nat → Nat) (f : Int → Int) : cE cI cA a 20 f = .inl (cI, 6, .inl (fun j : Nat => iN (f j))) := rfl
theorem cE_21 (cI cA : ClassId) (a : Nat → Nat) (f : Int → Int) : cE cI cA a 21 f = .inr (3, [.ref (a 1), .ref (a 22)]) := rfl
theorem cE_22 (cI cA : ClassId) (a : Nat → Nat) (f : Int → Int) : cE cI cA a 22 f = .inl (cI, 6, .inl (fun j : Nat => iN (f j))) := rfl
theorem cE_23 (cI cA : ClassId) (a : Nat → Nat) (f : Int → Int) : cE cI cA a 23 f = .inr (3, [.ref (a 1), .ref (a 24)]) := rfl
theorem cE_24 (cI cA : ClassId) (a : Nat → Nat) (f : Int → Int) : cE cI cA a 24 f = .inl (cI, 6, .inl (fun j : Nat => iN (f j))) := rfl
theorem cE_25 (cI cA : ClassId) (a : Nat → Nat) (f : Int → Int) : cE cI cA a 25 f = .inr (5, [.ref (a 1), .ref (a 26), .ref (a 27), .int (iN (f 3))]) := rfl
theorem cE_26 (cI cA : ClassId) (a : Nat → Nat) (f : Int → Int) : cE cI cA a 26 f = .inl (cI, 1296, .inl (fun j : Nat => iN (f j))) := rfl
theorem cE_27 (cI cA : ClassId) (a : Nat → Nat) (f : Int → Int) : cE cI cA a 27 f = .inl (cI, 1296, .inl (fun j : Nat => iN (f j))) := rfl
theorem cE_28 (cI cA : ClassId) (a : Nat → Nat) (f : Int → Int) : cE cI cA a 28 f = .inr (4, [.ref (a 25), .ref (a 29), .ref (a 30), .ref (a 31), .ref (a 32), .int (iN (f 5))]) := rfl
theorem cE_29 (cI cA : ClassId) (a : Nat → Nat) (f : Int → Int) : cE cI cA a 29 f = .inl (cI, 15, .inl (fun j : Nat => iN (f j))) := rfl
theorem cE_30 (cI cA : ClassId) (a : Nat → Nat) (f : Int → Int) : cE cI cA a 30 f = .inl (cI, 15, .inl (fun j : Nat => iN (f j))) := rfl
theorem cE_31 (cI cA : ClassId) (a : Nat → Nat) (f : Int → Int) : cE cI cA a 31 f = .inl (cI, 15, .inl (fun j : Nat => iN (f j))) := rfl
theorem cE_32 (cI cA : ClassId) (a : Nat → Nat) (f : Int → Int) : cE cI cA a 32 f = .inl (cI, 216, .inl (fun j : Nat => iN (f j))) := rfl
theorem cE_33 (cI cA : ClassId) (a : Nat → Nat) (f : Int → Int) : cE cI cA a 33 f = .inr (0, [.ref (a 1), .ref (a 25), .ref (a 23), .ref (a 34), .ref (a 35), .ref (a 36)]) := rfl
theorem cE_34 (cI cA : ClassId) (a : Nat → Nat) (f : Int → Int) : cE cI cA a 34 f = .inl (cI, 6, .inl (fun j : Nat => iN (f j))) := rfl
theorem cE_35 (cI cA : ClassId) (a : Nat → Nat) (f : Int → Int) : cE cI cA a 35 f = .inl (cI, 6, .inl (fun j : Nat => iN (f j))) := rfl
theorem cE_36 (cI cA : ClassId) (a : Nat → Nat) (f : Int → Int) : cE cI cA a 36 f = .inl (cI, 6, .inl (fun j : Nat => iN (f j))) := rfl
def mlen : Nat → Nat := fun k => match k with
  | 2 => 72
  | 3 => 12
  | 5 => 4320
  | 6 => 64
  | 7 => 384
  | 8 => 384
  | 9 => 384
  | _ => 6
def mE (cI : ClassId) (a : Nat → Nat) : Nat → (Int → Int) → va_E := fun k f => match k with
  | 0 => .inr (7, [.int (iN (f 0)), .int (iN (f 1)), .int (iN (f 2)), .ref (a 1), .ref (a 2), .ref (a 3), .ref (a 4), .int (iN (f 7)), .int (iN (f 8)), .ref (a 5), .int (iN (f 10)), .ref (a 6), .ref (a 7), .ref (a 8), .ref (a 9), .ref (a 10), .ref (a 11)])
  | k => .inl (cI, mlen k, .inl (fun j : Nat => iN (f j)))
theorem mE_0 (cI : ClassId) (a : Nat → Nat) (f : Int → Int) : mE cI a 0 f = .inr (7, [.int (iN (f 0)), .int (iN (f 1)), .int (iN (f 2)), .ref (a 1), .ref (a 2), .ref (a 3), .ref (a 4), .int (iN (f 7)), .int (iN (f 8)), .ref (a 5), .int (iN (f 10)), .ref (a 6), .ref (a 7), .ref (a 8), .ref (a 9), .ref (a 10), .ref (a 11)]) := rfl
theorem mE_1 (cI : ClassId) (a : Nat → Nat) (f : Int → Int) : mE cI a 1 f = .inl (cI, 6, .inl (fun j : Nat => iN (f j))) := rfl
theorem mE_2 (cI : ClassId) (a : Nat → Nat) (f : Int → Int) : mE cI a 2 f = .inl (cI, 72, .inl (fun j : Nat => iN (f j))) := rfl
theorem mE_3 (cI : ClassId) (a : Nat → Nat) (f : Int → Int) : mE cI a 3 f = .inl (cI, 12, .inl (fun j : Nat => iN (f j))) := rfl
theorem mE_4 (cI : ClassId) (a : Nat → Nat) (f : Int → Int) : mE cI a 4 f = .inl (cI, 6, .inl (fun j : Nat => iN (f j))) := rfl
theorem mE_5 (cI : ClassId) (a : Nat → Nat) (f : Int → Int) : mE cI a 5 f = .inl (cI, 4320, .inl (fun j : Nat => iN (f j))) := rfl
theorem mE_6 (cI : ClassId) (a : Nat → Nat) (f : Int → Int) : mE cI a 6 f = .inl (cI, 64, .inl (fun j : Nat => iN (f j))) := rfl
theorem mE_7 (cI : ClassId) (a : Nat → Nat) (f : Int → Int) : mE cI a 7 f = .inl (cI, 384, .inl (fun j : Nat => iN (f j))) := rfl
theorem mE_8 (cI : ClassId) (a : Nat → Nat) (f : Int → Int) : mE cI a 8 f = .inl (cI, 384, .inl (fun j : Nat => iN (f j))) := rfl
theorem mE_9 (cI : ClassId) (a : Nat → Nat) (f : Int → Int) : mE cI a 9 f = .inl (cI, 384, .inl (fun j : Nat => iN (f j))) := rfl
theorem mE_10 (cI : ClassId) (a : Nat → Nat) (f : Int → Int) : mE cI a 10 f = .inl (cI, 6, .inl (fun j : Nat => iN (f j))) := rfl
theorem mE_11 (cI : ClassId) (a : Nat → Nat) (f : Int → Int) : mE cI a 11 f = .inl (cI, 6, .inl (fun j : Nat => iN (f j))) := rfl
theorem row_lt4 {i : Int} (h : 0 ≤ i ∧ i < 6) : 4 + i.toNat < 37 := by omega
theorem row_f4 (a : Nat → Nat) {i : Int} (h : 0 ≤ i ∧ i < 6) : (fun j : Nat => if j < 6 then some (a (4 + j)) else none) i.toNat = some (a (4 + i.toNat)) := by
  have : i.toNat < 6 := by omega
  simp [this]
theorem cE_row4 (cI cA : ClassId) (a : Nat → Nat) {i : Int} (h : 0 ≤ i ∧ i < 6) (f : Int → Int) : cE cI cA a (4 + i.toNat) f = .inl (cI, 6, .inl (fun j : Nat => iN (f j))) := by
  have : i.toNat = 0 ∨ i.toNat = 1 ∨ i.toNat = 2 ∨ i.toNat = 3 ∨ i.toNat = 4 ∨ i.toNat = 5 := by omega
  rcases this with e | e | e | e | e | e <;> rw [e] <;> rfl
theorem row_lt13 {i : Int} (h : 0 ≤ i ∧ i < 6) : 13 + i.toNat < 37 := by omega
theorem row_f13 (a : Nat → Nat) {i : Int} (h : 0 ≤ i ∧ i < 6) : (fun j : Nat => if j < 6 then some (a (13 + j)) else none) i.toNat = some (a (13 + i.toNat)) := by
  have : i.toNat < 6 := by omega
  simp [this]
theorem cE_row13 (cI cA : ClassId) (a : Nat → Nat) {i : Int} (h : 0 ≤ i ∧ i < 6) (f : Int → Int) : cE cI cA a (13 + i.toNat) f = .inl (cI, 6, .inl (fun j : Nat => iN (f j))) := by
  have : i.toNat = 0 ∨ i.toNat = 1 ∨ i.toNat = 2 ∨ i.toNat = 3 ∨ i.toNat = 4 ∨ i.toNat = 5 := by omega
  rcases this with e | e | e | e | e | e <;> rw [e] <;> rfl
def nwL : List Cond := [.fieldLinkNest RX6 73 "MatchHall$Hall" "seatsOf" "[I" "MatchHall", .fieldLinkNest RX6 105 "MatchHall$Stables" "size" "I" "MatchHall", .fieldLinkNest RX6 113 "MatchHall$Rotations" "size" "I" "MatchHall", .fieldLinkNest RX6 133 "MatchHall$Hall" "residents" "I" "MatchHall", .fieldLinkNest RX6 139 "MatchHall$Matching" "hospitalOf" "[I" "MatchHall", .fieldLinkNest RX6 153 "MatchHall$Rotations" "from" "[I" "MatchHall", .fieldLinkNest RX6 156 "MatchHall$Rotations" "to" "[I" "MatchHall", .fieldLinkNest RX0 61 "MatchHall$Hall" "residents" "I" "MatchHall", .fieldLinkNest RX0 67 "MatchHall$Matching" "hospitalOf" "[I" "MatchHall", .fieldLinkNest RX0 70 "MatchHall$Hall" "ofResidents" "LMatchHall$Lists;" "MatchHall", .fieldLinkNest RX0 74 "MatchHall$Lists" "sizes" "[I" "MatchHall", .fieldLinkNest RX0 94 "MatchHall$Hall" "seatsOf" "[I" "MatchHall", .fieldLinkNest RX0 100 "MatchHall$Hall" "hospitals" "I" "MatchHall", .fieldLinkNest RX1 43 "MatchHall$Lists" "places" "[[I" "MatchHall", .fieldLinkNest RX3 28 "MatchHall$Hall" "residents" "I" "MatchHall", .fieldLinkNest RX3 46 "MatchHall$Hall" "seatsOf" "[I" "MatchHall", .fieldLinkNest RX3 56 "MatchHall$Hall" "hospitals" "I" "MatchHall", .fieldLinkNest RX3 68 "MatchHall$Hall" "ofResidents" "LMatchHall$Lists;" "MatchHall", .fieldLinkNest RX3 72 "MatchHall$Lists" "places" "[[I" "MatchHall", .fieldLinkNest RX3 78 "MatchHall$Hall" "ofHospitals" "LMatchHall$Lists;" "MatchHall", .fieldLinkNest RX4 32 "MatchHall$Stables" "size" "I" "MatchHall", .fieldLinkNest RX4 65 "MatchHall$Stables" "hall" "LMatchHall$Hall;" "MatchHall", .fieldLinkNest RX4 69 "MatchHall$Hall" "residents" "I" "MatchHall", .fieldLinkNest RX5 26 "MatchHall$Matching" "hospitalOf" "[I" "MatchHall", .fieldLinkNest RX5 37 "MatchHall$Hall" "residents" "I" "MatchHall"]
theorem nwL_form : ∀ w ∈ nwL, ∃ a i b n d h, w = .fieldLinkNest a i b n d h := by
  intro w hw
  simp only [nwL, List.mem_cons, List.not_mem_nil, or_false] at hw
  rcases hw with rfl | rfl | rfl | rfl | rfl | rfl | rfl | rfl | rfl | rfl | rfl | rfl | rfl | rfl | rfl | rfl | rfl | rfl | rfl | rfl | rfl | rfl | rfl | rfl | rfl <;> exact ⟨_, _, _, _, _, _, rfl⟩
def NW (U : State) : Prop := ∀ w ∈ nwL, va_Nw w U
theorem NW.warm {s U : State} (hW : s.WarmedH U.vm) (h : NW s) : NW U := fun w hw => by
  obtain ⟨a, i, b, n, d, h', rfl⟩ := nwL_form w hw
  exact va_Nw.warmF hW (h _ hw)
theorem NW.same {u U : State} (e : u.vm = U.vm) (h : NW u) : NW U := fun w hw => by
  obtain ⟨a, i, b, n, d, h', rfl⟩ := nwL_form w hw
  exact va_Nw.same rfl e (h _ hw)
abbrev tyL (cI cA : ClassId) : List (ClassId × FieldType) := [(cI, .int), (cA, .array .int)]
def preC (dC : Nat → ClassId) (dI : Nat → Nat → Nat) (cI cA : ClassId) (a : Nat → Nat) (σ : Mem) (U : State) : Prop := va_P (dC, dI) vwCl (gw 37 a (cE cI cA a) σ) U.heap ∧ va_K (dC, dI) vwCl (tyL cI cA) U ∧ NW U
def preM (dC : Nat → ClassId) (dI : Nat → Nat → Nat) (cI : ClassId) (a : Nat → Nat) (σ : Mem) (U : State) : Prop := va_P (dC, dI) vwCl (gw 12 a (mE cI a) σ) U.heap ∧ va_K (dC, dI) vwCl [(cI, .int)] U
theorem fbC {dC : Nat → ClassId} {dI : Nat → Nat → Nat} {cI cA : ClassId} {a : Nat → Nat} {σ : Mem} {av : List Value} : FrameBlind (va_Pc av (preC dC dI cI cA a σ)) := fun _ U g mk q => ⟨q.1, q.2.1, va_K.moved (u := U) (U := U.calling g mk _) (Vm.Alike.refl U.vm) q.2.2.1, NW.same (u := U) (U := U.calling g mk _) rfl q.2.2.2⟩
theorem fbM {dC : Nat → ClassId} {dI : Nat → Nat → Nat} {cI : ClassId} {a : Nat → Nat} {σ : Mem} {av : List Value} : FrameBlind (va_Pc av (preM dC dI cI a σ)) := fun _ U g mk q => ⟨q.1, q.2.1, va_K.moved (u := U) (U := U.calling g mk _) (Vm.Alike.refl U.vm) q.2.2⟩
theorem pvC {dC : Nat → ClassId} {dI : Nat → Nat → Nat} {cI cA : ClassId} {a : Nat → Nat} {σ : Mem} {s : State} {H : Heap} (k : Nat) (hk : k < 37) {ci n : Nat} {fs : List Value} {Cn : String} {Tn : u_T} (hE : cE cI cA a k (σ k) = .inr (ci, fs)) (hc : vwCl[ci]? = some (Cn, Tn, n)) (hP : va_P (dC, dI) vwCl (gw 37 a (cE cI cA a) σ) H) (hK : va_K (dC, dI) vwCl (tyL cI cA) s) (hN : NW s) {As : List Value} : PreV s H Cn (a k) (va_Pc (Value.ref (a k) :: As) (preC dC dI cI cA a σ)) As :=
  ⟨fbC, va_recv hK hP hc (gw_at k hk hE), fun U hU hW => ⟨rfl, by rw [hU]; exact hP, va_K.moved hW.alike hK, hN.warm hW⟩⟩
theorem psC {dC : Nat → ClassId} {dI : Nat → Nat → Nat} {cI cA : ClassId} {a : Nat → Nat} {σ : Mem} {s : State} {H : Heap} (hP : va_P (dC, dI) vwCl (gw 37 a (cE cI cA a) σ) H) (hK : va_K (dC, dI) vwCl (tyL cI cA) s) (hN : NW s) {As : List Value} : PreS s H (va_Pc As (preC dC dI cI cA a σ)) As :=
  ⟨fbC, fun U hU hW => ⟨rfl, by rw [hU]; exact hP, va_K.moved hW.alike hK, hN.warm hW⟩⟩
theorem pvM {dC : Nat → ClassId} {dI : Nat → Nat → Nat} {cI : ClassId} {a : Nat → Nat} {σ : Mem} {s : State} {H : Heap} (k : Nat) (hk : k < 12) {ci n : Nat} {fs : List Value} {Cn : String} {Tn : u_T} (hE : mE cI a k (σ k) = .inr (ci, fs)) (hc : vwCl[ci]? = some (Cn, Tn, n)) (hP : va_P (dC, dI) vwCl (gw 12 a (mE cI a) σ) H) (hK : va_K (dC, dI) vwCl [(cI, .int)] s) {As : List Value} : PreV s H Cn (a k) (va_Pc (Value.ref (a k) :: As) (preM dC dI cI a σ)) As :=
  ⟨fbM, va_recv hK hP hc (gw_at k hk hE), fun U hU hW => ⟨rfl, by rw [hU]; exact hP, va_K.moved hW.alike hK⟩⟩
theorem psM {dC : Nat → ClassId} {dI : Nat → Nat → Nat} {cI : ClassId} {a : Nat → Nat} {σ : Mem} {s : State} {H : Heap} (hP : va_P (dC, dI) vwCl (gw 12 a (mE cI a) σ) H) (hK : va_K (dC, dI) vwCl [(cI, .int)] s) {As : List Value} : PreS s H (va_Pc As (preM dC dI cI a σ)) As :=
  ⟨fbM, fun U hU hW => ⟨rfl, by rw [hU]; exact hP, va_K.moved hW.alike hK⟩⟩
theorem hJ7_fill_53178_d : yJ7_fill_53178.cls ≠ "java/lang/invoke/MethodHandle" ∧ yJ7_fill_53178.cls ≠ "java/lang/invoke/VarHandle" ∧ (parseMethodDescriptor yJ7_fill_53178.desc).map (fun d => d.parameters.length) = some 2 := by decide +kernel
theorem hX0_ask_d : yX0_ask.cls = RX0 ∧ yX0_ask.cls ≠ "java/lang/invoke/MethodHandle" ∧ yX0_ask.cls ≠ "java/lang/invoke/VarHandle" ∧ (parseMethodDescriptor yX0_ask.desc).map (fun d => d.parameters.length) = some 1 := by decide +kernel
theorem hX0_findAll_d : yX0_findAll.cls = RX0 ∧ yX0_findAll.cls ≠ "java/lang/invoke/MethodHandle" ∧ yX0_findAll.cls ≠ "java/lang/invoke/VarHandle" ∧ (parseMethodDescriptor yX0_findAll.desc).map (fun d => d.parameters.length) = some 0 := by decide +kernel
theorem hX0_hasRivals_d : yX0_hasRivals.cls = RX0 ∧ yX0_hasRivals.cls ≠ "java/lang/invoke/MethodHandle" ∧ yX0_hasRivals.cls ≠ "java/lang/invoke/VarHandle" ∧ (parseMethodDescriptor yX0_hasRivals.desc).map (fun d => d.parameters.length) = some 1 := by decide +kernel
theorem hX0_letAllAsk_d : yX0_letAllAsk.cls = RX0 ∧ yX0_letAllAsk.cls ≠ "java/lang/invoke/MethodHandle" ∧ yX0_letAllAsk.cls ≠ "java/lang/invoke/VarHandle" ∧ (parseMethodDescriptor yX0_letAllAsk.desc).map (fun d => d.parameters.length) = some 0 := by decide +kernel
theorem hX0_nextAsker_d : yX0_nextAsker.cls = RX0 ∧ yX0_nextAsker.cls ≠ "java/lang/invoke/MethodHandle" ∧ yX0_nextAsker.cls ≠ "java/lang/invoke/VarHandle" ∧ (parseMethodDescriptor yX0_nextAsker.desc).map (fun d => d.parameters.length) = some 0 := by decide +kernel
theorem hX0_nextToSeat_d : yX0_nextToSeat.cls = RX0 ∧ yX0_nextToSeat.cls ≠ "java/lang/invoke/MethodHandle" ∧ yX0_nextToSeat.cls ≠ "java/lang/invoke/VarHandle" ∧ (parseMethodDescriptor yX0_nextToSeat.desc).map (fun d => d.parameters.length) = some 1 := by decide +kernel
theorem hX0_noteLimits_d : yX0_noteLimits.cls = RX0 ∧ yX0_noteLimits.cls ≠ "java/lang/invoke/MethodHandle" ∧ yX0_noteLimits.cls ≠ "java/lang/invoke/VarHandle" ∧ (parseMethodDescriptor yX0_noteLimits.desc).map (fun d => d.parameters.length) = some 0 := by decide +kernel
theorem hX0_seatFrom_d : yX0_seatFrom.cls = RX0 ∧ yX0_seatFrom.cls ≠ "java/lang/invoke/MethodHandle" ∧ yX0_seatFrom.cls ≠ "java/lang/invoke/VarHandle" ∧ (parseMethodDescriptor yX0_seatFrom.desc).map (fun d => d.parameters.length) = some 1 := by decide +kernel
theorem hX0_trySeat_d : yX0_trySeat.cls = RX0 ∧ yX0_trySeat.cls ≠ "java/lang/invoke/MethodHandle" ∧ yX0_trySeat.cls ≠ "java/lang/invoke/VarHandle" ∧ (parseMethodDescriptor yX0_trySeat.desc).map (fun d => d.parameters.length) = some 2 := by decide +kernel
theorem hX1_countPairs_d : yX1_countPairs.cls = RX1 ∧ yX1_countPairs.cls ≠ "java/lang/invoke/MethodHandle" ∧ yX1_countPairs.cls ≠ "java/lang/invoke/VarHandle" ∧ (parseMethodDescriptor yX1_countPairs.desc).map (fun d => d.parameters.length) = some 0 := by decide +kernel
theorem hX1_hasResident_d : yX1_hasResident.cls = RX1 ∧ yX1_hasResident.cls ≠ "java/lang/invoke/MethodHandle" ∧ yX1_hasResident.cls ≠ "java/lang/invoke/VarHandle" ∧ (parseMethodDescriptor yX1_hasResident.desc).map (fun d => d.parameters.length) = some 1 := by decide +kernel
theorem hX1_isPair_d : yX1_isPair.cls = RX1 ∧ yX1_isPair.cls ≠ "java/lang/invoke/MethodHandle" ∧ yX1_isPair.cls ≠ "java/lang/invoke/VarHandle" ∧ (parseMethodDescriptor yX1_isPair.desc).map (fun d => d.parameters.length) = some 2 := by decide +kernel
theorem hX1_listsOf_d : yX1_listsOf.cls = RX1 ∧ yX1_listsOf.cls ≠ "java/lang/invoke/MethodHandle" ∧ yX1_listsOf.cls ≠ "java/lang/invoke/VarHandle" ∧ (parseMethodDescriptor yX1_listsOf.desc).map (fun d => d.parameters.length) = some 1 := by decide +kernel
theorem hX1_placeOfHospital_d : yX1_placeOfHospital.cls = RX1 ∧ yX1_placeOfHospital.cls ≠ "java/lang/invoke/MethodHandle" ∧ yX1_placeOfHospital.cls ≠ "java/lang/invoke/VarHandle" ∧ (parseMethodDescriptor yX1_placeOfHospital.desc).map (fun d => d.parameters.length) = some 2 := by decide +kernel
theorem hX1_placeOfResident_d : yX1_placeOfResident.cls = RX1 ∧ yX1_placeOfResident.cls ≠ "java/lang/invoke/MethodHandle" ∧ yX1_placeOfResident.cls ≠ "java/lang/invoke/VarHandle" ∧ (parseMethodDescriptor yX1_placeOfResident.desc).map (fun d => d.parameters.length) = some 2 := by decide +kernel
theorem hX2_add_d : yX2_add.cls = RX2 ∧ yX2_add.cls ≠ "java/lang/invoke/MethodHandle" ∧ yX2_add.cls ≠ "java/lang/invoke/VarHandle" ∧ (parseMethodDescriptor yX2_add.desc).map (fun d => d.parameters.length) = some 2 := by decide +kernel
theorem hX2_at_d : yX2_at.cls = RX2 ∧ yX2_at.cls ≠ "java/lang/invoke/MethodHandle" ∧ yX2_at.cls ≠ "java/lang/invoke/VarHandle" ∧ (parseMethodDescriptor yX2_at.desc).map (fun d => d.parameters.length) = some 2 := by decide +kernel
theorem hX2_canAdd_d : yX2_canAdd.cls = RX2 ∧ yX2_canAdd.cls ≠ "java/lang/invoke/MethodHandle" ∧ yX2_canAdd.cls ≠ "java/lang/invoke/VarHandle" ∧ (parseMethodDescriptor yX2_canAdd.desc).map (fun d => d.parameters.length) = some 2 := by decide +kernel
theorem hX2_empty_d : yX2_empty.cls = RX2 ∧ yX2_empty.cls ≠ "java/lang/invoke/MethodHandle" ∧ yX2_empty.cls ≠ "java/lang/invoke/VarHandle" ∧ (parseMethodDescriptor yX2_empty.desc).map (fun d => d.parameters.length) = some 1 := by decide +kernel
theorem hX2_hasOwner_d : yX2_hasOwner.cls = RX2 ∧ yX2_hasOwner.cls ≠ "java/lang/invoke/MethodHandle" ∧ yX2_hasOwner.cls ≠ "java/lang/invoke/VarHandle" ∧ (parseMethodDescriptor yX2_hasOwner.desc).map (fun d => d.parameters.length) = some 1 := by decide +kernel
theorem hX2_open_d : yX2_open.cls = RX2 ∧ yX2_open.cls ≠ "java/lang/invoke/MethodHandle" ∧ yX2_open.cls ≠ "java/lang/invoke/VarHandle" ∧ (parseMethodDescriptor yX2_open.desc).map (fun d => d.parameters.length) = some 2 := by decide +kernel
theorem hX3_blockingPair_d : yX3_blockingPair.cls = RX3 ∧ yX3_blockingPair.cls ≠ "java/lang/invoke/MethodHandle" ∧ yX3_blockingPair.cls ≠ "java/lang/invoke/VarHandle" ∧ (parseMethodDescriptor yX3_blockingPair.desc).map (fun d => d.parameters.length) = some 1 := by decide +kernel
theorem hX3_clear_d : yX3_clear.cls = RX3 ∧ yX3_clear.cls ≠ "java/lang/invoke/MethodHandle" ∧ yX3_clear.cls ≠ "java/lang/invoke/VarHandle" ∧ (parseMethodDescriptor yX3_clear.desc).map (fun d => d.parameters.length) = some 0 := by decide +kernel
theorem hX3_countAt_d : yX3_countAt.cls = RX3 ∧ yX3_countAt.cls ≠ "java/lang/invoke/MethodHandle" ∧ yX3_countAt.cls ≠ "java/lang/invoke/VarHandle" ∧ (parseMethodDescriptor yX3_countAt.desc).map (fun d => d.parameters.length) = some 1 := by decide +kernel
theorem hX3_countBlocking_d : yX3_countBlocking.cls = RX3 ∧ yX3_countBlocking.cls ≠ "java/lang/invoke/MethodHandle" ∧ yX3_countBlocking.cls ≠ "java/lang/invoke/VarHandle" ∧ (parseMethodDescriptor yX3_countBlocking.desc).map (fun d => d.parameters.length) = some 0 := by decide +kernel
theorem hX3_isBlockedBy_d : yX3_isBlockedBy.cls = RX3 ∧ yX3_isBlockedBy.cls ≠ "java/lang/invoke/MethodHandle" ∧ yX3_isBlockedBy.cls ≠ "java/lang/invoke/VarHandle" ∧ (parseMethodDescriptor yX3_isBlockedBy.desc).map (fun d => d.parameters.length) = some 2 := by decide +kernel
theorem hX3_isMatching_d : yX3_isMatching.cls = RX3 ∧ yX3_isMatching.cls ≠ "java/lang/invoke/MethodHandle" ∧ yX3_isMatching.cls ≠ "java/lang/invoke/VarHandle" ∧ (parseMethodDescriptor yX3_isMatching.desc).map (fun d => d.parameters.length) = some 0 := by decide +kernel
theorem hX3_isRival_d : yX3_isRival.cls = RX3 ∧ yX3_isRival.cls ≠ "java/lang/invoke/MethodHandle" ∧ yX3_isRival.cls ≠ "java/lang/invoke/VarHandle" ∧ (parseMethodDescriptor yX3_isRival.desc).map (fun d => d.parameters.length) = some 2 := by decide +kernel
theorem hX3_isStable_d : yX3_isStable.cls = RX3 ∧ yX3_isStable.cls ≠ "java/lang/invoke/MethodHandle" ∧ yX3_isStable.cls ≠ "java/lang/invoke/VarHandle" ∧ (parseMethodDescriptor yX3_isStable.desc).map (fun d => d.parameters.length) = some 0 := by decide +kernel
theorem hX3_lastAt_d : yX3_lastAt.cls = RX3 ∧ yX3_lastAt.cls ≠ "java/lang/invoke/MethodHandle" ∧ yX3_lastAt.cls ≠ "java/lang/invoke/VarHandle" ∧ (parseMethodDescriptor yX3_lastAt.desc).map (fun d => d.parameters.length) = some 1 := by decide +kernel
theorem hX3_wouldGet_d : yX3_wouldGet.cls = RX3 ∧ yX3_wouldGet.cls ≠ "java/lang/invoke/MethodHandle" ∧ yX3_wouldGet.cls ≠ "java/lang/invoke/VarHandle" ∧ (parseMethodDescriptor yX3_wouldGet.desc).map (fun d => d.parameters.length) = some 2 := by decide +kernel
theorem hX3_wouldGo_d : yX3_wouldGo.cls = RX3 ∧ yX3_wouldGo.cls ≠ "java/lang/invoke/MethodHandle" ∧ yX3_wouldGo.cls ≠ "java/lang/invoke/VarHandle" ∧ (parseMethodDescriptor yX3_wouldGo.desc).map (fun d => d.parameters.length) = some 2 := by decide +kernel
theorem hX4_add_d : yX4_add.cls = RX4 ∧ yX4_add.cls ≠ "java/lang/invoke/MethodHandle" ∧ yX4_add.cls ≠ "java/lang/invoke/VarHandle" ∧ (parseMethodDescriptor yX4_add.desc).map (fun d => d.parameters.length) = some 2 := by decide +kernel
theorem hX4_addFirstStep_d : yX4_addFirstStep.cls = RX4 ∧ yX4_addFirstStep.cls ≠ "java/lang/invoke/MethodHandle" ∧ yX4_addFirstStep.cls ≠ "java/lang/invoke/VarHandle" ∧ (parseMethodDescriptor yX4_addFirstStep.desc).map (fun d => d.parameters.length) = some 1 := by decide +kernel
theorem hX4_doneMask_d : yX4_doneMask.cls = RX4 ∧ yX4_doneMask.cls ≠ "java/lang/invoke/MethodHandle" ∧ yX4_doneMask.cls ≠ "java/lang/invoke/VarHandle" ∧ (parseMethodDescriptor yX4_doneMask.desc).map (fun d => d.parameters.length) = some 1 := by decide +kernel
theorem hX4_findAll_d : yX4_findAll.cls = RX4 ∧ yX4_findAll.cls ≠ "java/lang/invoke/MethodHandle" ∧ yX4_findAll.cls ≠ "java/lang/invoke/VarHandle" ∧ (parseMethodDescriptor yX4_findAll.desc).map (fun d => d.parameters.length) = some 0 := by decide +kernel
theorem hX4_has_d : yX4_has.cls = RX4 ∧ yX4_has.cls ≠ "java/lang/invoke/MethodHandle" ∧ yX4_has.cls ≠ "java/lang/invoke/VarHandle" ∧ (parseMethodDescriptor yX4_has.desc).map (fun d => d.parameters.length) = some 1 := by decide +kernel
theorem hX4_isBefore_d : yX4_isBefore.cls = RX4 ∧ yX4_isBefore.cls ≠ "java/lang/invoke/MethodHandle" ∧ yX4_isBefore.cls ≠ "java/lang/invoke/VarHandle" ∧ (parseMethodDescriptor yX4_isBefore.desc).map (fun d => d.parameters.length) = some 2 := by decide +kernel
theorem hX4_isDone_d : yX4_isDone.cls = RX4 ∧ yX4_isDone.cls ≠ "java/lang/invoke/MethodHandle" ∧ yX4_isDone.cls ≠ "java/lang/invoke/VarHandle" ∧ (parseMethodDescriptor yX4_isDone.desc).map (fun d => d.parameters.length) = some 2 := by decide +kernel
theorem hX4_isKnownByDone_d : yX4_isKnownByDone.cls = RX4 ∧ yX4_isKnownByDone.cls ≠ "java/lang/invoke/MethodHandle" ∧ yX4_isKnownByDone.cls ≠ "java/lang/invoke/VarHandle" ∧ (parseMethodDescriptor yX4_isKnownByDone.desc).map (fun d => d.parameters.length) = some 1 := by decide +kernel
theorem hX4_makeRoomAt_d : yX4_makeRoomAt.cls = RX4 ∧ yX4_makeRoomAt.cls ≠ "java/lang/invoke/MethodHandle" ∧ yX4_makeRoomAt.cls ≠ "java/lang/invoke/VarHandle" ∧ (parseMethodDescriptor yX4_makeRoomAt.desc).map (fun d => d.parameters.length) = some 1 := by decide +kernel
theorem hX4_mover_d : yX4_mover.cls = RX4 ∧ yX4_mover.cls ≠ "java/lang/invoke/MethodHandle" ∧ yX4_mover.cls ≠ "java/lang/invoke/VarHandle" ∧ (parseMethodDescriptor yX4_mover.desc).map (fun d => d.parameters.length) = some 2 := by decide +kernel
theorem hX4_moverOf_d : yX4_moverOf.cls = RX4 ∧ yX4_moverOf.cls ≠ "java/lang/invoke/MethodHandle" ∧ yX4_moverOf.cls ≠ "java/lang/invoke/VarHandle" ∧ (parseMethodDescriptor yX4_moverOf.desc).map (fun d => d.parameters.length) = some 3 := by decide +kernel
theorem hX4_orderKey_d : yX4_orderKey.cls = RX4 ∧ yX4_orderKey.cls ≠ "java/lang/invoke/MethodHandle" ∧ yX4_orderKey.cls ≠ "java/lang/invoke/VarHandle" ∧ (parseMethodDescriptor yX4_orderKey.desc).map (fun d => d.parameters.length) = some 2 := by decide +kernel
theorem hX5_add_d : yX5_add.cls = RX5 ∧ yX5_add.cls ≠ "java/lang/invoke/MethodHandle" ∧ yX5_add.cls ≠ "java/lang/invoke/VarHandle" ∧ (parseMethodDescriptor yX5_add.desc).map (fun d => d.parameters.length) = some 1 := by decide +kernel
theorem hX5_copyTo_d : yX5_copyTo.cls = RX5 ∧ yX5_copyTo.cls ≠ "java/lang/invoke/MethodHandle" ∧ yX5_copyTo.cls ≠ "java/lang/invoke/VarHandle" ∧ (parseMethodDescriptor yX5_copyTo.desc).map (fun d => d.parameters.length) = some 2 := by decide +kernel
theorem hX5_costOf_d : yX5_costOf.cls = RX5 ∧ yX5_costOf.cls ≠ "java/lang/invoke/MethodHandle" ∧ yX5_costOf.cls ≠ "java/lang/invoke/VarHandle" ∧ (parseMethodDescriptor yX5_costOf.desc).map (fun d => d.parameters.length) = some 2 := by decide +kernel
theorem hX5_countSeated_d : yX5_countSeated.cls = RX5 ∧ yX5_countSeated.cls ≠ "java/lang/invoke/MethodHandle" ∧ yX5_countSeated.cls ≠ "java/lang/invoke/VarHandle" ∧ (parseMethodDescriptor yX5_countSeated.desc).map (fun d => d.parameters.length) = some 0 := by decide +kernel
theorem hX5_find_d : yX5_find.cls = RX5 ∧ yX5_find.cls ≠ "java/lang/invoke/MethodHandle" ∧ yX5_find.cls ≠ "java/lang/invoke/VarHandle" ∧ (parseMethodDescriptor yX5_find.desc).map (fun d => d.parameters.length) = some 1 := by decide +kernel
theorem hX5_has_d : yX5_has.cls = RX5 ∧ yX5_has.cls ≠ "java/lang/invoke/MethodHandle" ∧ yX5_has.cls ≠ "java/lang/invoke/VarHandle" ∧ (parseMethodDescriptor yX5_has.desc).map (fun d => d.parameters.length) = some 1 := by decide +kernel
theorem hX5_hospitalAt_d : yX5_hospitalAt.cls = RX5 ∧ yX5_hospitalAt.cls ≠ "java/lang/invoke/MethodHandle" ∧ yX5_hospitalAt.cls ≠ "java/lang/invoke/VarHandle" ∧ (parseMethodDescriptor yX5_hospitalAt.desc).map (fun d => d.parameters.length) = some 2 := by decide +kernel
theorem hX5_isBehind_d : yX5_isBehind.cls = RX5 ∧ yX5_isBehind.cls ≠ "java/lang/invoke/MethodHandle" ∧ yX5_isBehind.cls ≠ "java/lang/invoke/VarHandle" ∧ (parseMethodDescriptor yX5_isBehind.desc).map (fun d => d.parameters.length) = some 2 := by decide +kernel
theorem hX5_isSame_d : yX5_isSame.cls = RX5 ∧ yX5_isSame.cls ≠ "java/lang/invoke/MethodHandle" ∧ yX5_isSame.cls ≠ "java/lang/invoke/VarHandle" ∧ (parseMethodDescriptor yX5_isSame.desc).map (fun d => d.parameters.length) = some 2 := by decide +kernel
theorem hX5_placeAt_d : yX5_placeAt.cls = RX5 ∧ yX5_placeAt.cls ≠ "java/lang/invoke/MethodHandle" ∧ yX5_placeAt.cls ≠ "java/lang/invoke/VarHandle" ∧ (parseMethodDescriptor yX5_placeAt.desc).map (fun d => d.parameters.length) = some 2 := by decide +kernel
theorem hX6_dropWork_d : yX6_dropWork.cls = RX6 ∧ yX6_dropWork.cls ≠ "java/lang/invoke/MethodHandle" ∧ yX6_dropWork.cls ≠ "java/lang/invoke/VarHandle" ∧ (parseMethodDescriptor yX6_dropWork.desc).map (fun d => d.parameters.length) = some 0 := by decide +kernel
theorem hX6_isWorked_d : yX6_isWorked.cls = RX6 ∧ yX6_isWorked.cls ≠ "java/lang/invoke/MethodHandle" ∧ yX6_isWorked.cls ≠ "java/lang/invoke/VarHandle" ∧ (parseMethodDescriptor yX6_isWorked.desc).map (fun d => d.parameters.length) = some 0 := by decide +kernel
theorem hX7_begin_d : yX7_begin.cls = RX7 ∧ yX7_begin.cls ≠ "java/lang/invoke/MethodHandle" ∧ yX7_begin.cls ≠ "java/lang/invoke/VarHandle" ∧ (parseMethodDescriptor yX7_begin.desc).map (fun d => d.parameters.length) = some 2 := by decide +kernel
theorem hX7_blocksOf_d : yX7_blocksOf.cls = RX7 ∧ yX7_blocksOf.cls ≠ "java/lang/invoke/MethodHandle" ∧ yX7_blocksOf.cls ≠ "java/lang/invoke/VarHandle" ∧ (parseMethodDescriptor yX7_blocksOf.desc).map (fun d => d.parameters.length) = some 2 := by decide +kernel
theorem hX7_costOf_d : yX7_costOf.cls = RX7 ∧ yX7_costOf.cls ≠ "java/lang/invoke/MethodHandle" ∧ yX7_costOf.cls ≠ "java/lang/invoke/VarHandle" ∧ (parseMethodDescriptor yX7_costOf.desc).map (fun d => d.parameters.length) = some 2 := by decide +kernel
theorem hX7_findAll_d : yX7_findAll.cls = RX7 ∧ yX7_findAll.cls ≠ "java/lang/invoke/MethodHandle" ∧ yX7_findAll.cls ≠ "java/lang/invoke/VarHandle" ∧ (parseMethodDescriptor yX7_findAll.desc).map (fun d => d.parameters.length) = some 0 := by decide +kernel
theorem hX7_goesBefore_d : yX7_goesBefore.cls = RX7 ∧ yX7_goesBefore.cls ≠ "java/lang/invoke/MethodHandle" ∧ yX7_goesBefore.cls ≠ "java/lang/invoke/VarHandle" ∧ (parseMethodDescriptor yX7_goesBefore.desc).map (fun d => d.parameters.length) = some 2 := by decide +kernel
theorem hX7_in_d : yX7_in.cls ≠ "java/lang/invoke/MethodHandle" ∧ yX7_in.cls ≠ "java/lang/invoke/VarHandle" ∧ (parseMethodDescriptor yX7_in.desc).map (fun d => d.parameters.length) = some 3 := by decide +kernel
theorem hX7_isBehind_d : yX7_isBehind.cls = RX7 ∧ yX7_isBehind.cls ≠ "java/lang/invoke/MethodHandle" ∧ yX7_isBehind.cls ≠ "java/lang/invoke/VarHandle" ∧ (parseMethodDescriptor yX7_isBehind.desc).map (fun d => d.parameters.length) = some 2 := by decide +kernel
theorem hX7_isBlocking_d : yX7_isBlocking.cls = RX7 ∧ yX7_isBlocking.cls ≠ "java/lang/invoke/MethodHandle" ∧ yX7_isBlocking.cls ≠ "java/lang/invoke/VarHandle" ∧ (parseMethodDescriptor yX7_isBlocking.desc).map (fun d => d.parameters.length) = some 4 := by decide +kernel
theorem hX7_isDone_d : yX7_isDone.cls = RX7 ∧ yX7_isDone.cls ≠ "java/lang/invoke/MethodHandle" ∧ yX7_isDone.cls ≠ "java/lang/invoke/VarHandle" ∧ (parseMethodDescriptor yX7_isDone.desc).map (fun d => d.parameters.length) = some 2 := by decide +kernel
theorem hX7_isList_d : yX7_isList.cls = RX7 ∧ yX7_isList.cls ≠ "java/lang/invoke/MethodHandle" ∧ yX7_isList.cls ≠ "java/lang/invoke/VarHandle" ∧ (parseMethodDescriptor yX7_isList.desc).map (fun d => d.parameters.length) = some 2 := by decide +kernel
theorem hX7_isMatching_d : yX7_isMatching.cls = RX7 ∧ yX7_isMatching.cls ≠ "java/lang/invoke/MethodHandle" ∧ yX7_isMatching.cls ≠ "java/lang/invoke/VarHandle" ∧ (parseMethodDescriptor yX7_isMatching.desc).map (fun d => d.parameters.length) = some 2 := by decide +kernel
theorem hX7_isPair_d : yX7_isPair.cls = RX7 ∧ yX7_isPair.cls ≠ "java/lang/invoke/MethodHandle" ∧ yX7_isPair.cls ≠ "java/lang/invoke/VarHandle" ∧ (parseMethodDescriptor yX7_isPair.desc).map (fun d => d.parameters.length) = some 2 := by decide +kernel
theorem hX7_isRotation_d : yX7_isRotation.cls = RX7 ∧ yX7_isRotation.cls ≠ "java/lang/invoke/MethodHandle" ∧ yX7_isRotation.cls ≠ "java/lang/invoke/VarHandle" ∧ (parseMethodDescriptor yX7_isRotation.desc).map (fun d => d.parameters.length) = some 1 := by decide +kernel
theorem hX7_isStable_d : yX7_isStable.cls = RX7 ∧ yX7_isStable.cls ≠ "java/lang/invoke/MethodHandle" ∧ yX7_isStable.cls ≠ "java/lang/invoke/VarHandle" ∧ (parseMethodDescriptor yX7_isStable.desc).map (fun d => d.parameters.length) = some 1 := by decide +kernel
theorem hX7_isStep_d : yX7_isStep.cls = RX7 ∧ yX7_isStep.cls ≠ "java/lang/invoke/MethodHandle" ∧ yX7_isStep.cls ≠ "java/lang/invoke/VarHandle" ∧ (parseMethodDescriptor yX7_isStep.desc).map (fun d => d.parameters.length) = some 2 := by decide +kernel
theorem hX7_next_d : yX7_next.cls = RX7 ∧ yX7_next.cls ≠ "java/lang/invoke/MethodHandle" ∧ yX7_next.cls ≠ "java/lang/invoke/VarHandle" ∧ (parseMethodDescriptor yX7_next.desc).map (fun d => d.parameters.length) = some 2 := by decide +kernel
theorem hX7_numberOf_d : yX7_numberOf.cls = RX7 ∧ yX7_numberOf.cls ≠ "java/lang/invoke/MethodHandle" ∧ yX7_numberOf.cls ≠ "java/lang/invoke/VarHandle" ∧ (parseMethodDescriptor yX7_numberOf.desc).map (fun d => d.parameters.length) = some 1 := by decide +kernel
theorem hX7_place_d : yX7_place.cls = RX7 ∧ yX7_place.cls ≠ "java/lang/invoke/MethodHandle" ∧ yX7_place.cls ≠ "java/lang/invoke/VarHandle" ∧ (parseMethodDescriptor yX7_place.desc).map (fun d => d.parameters.length) = some 3 := by decide +kernel
theorem hX7_rotate_d : yX7_rotate.cls = RX7 ∧ yX7_rotate.cls ≠ "java/lang/invoke/MethodHandle" ∧ yX7_rotate.cls ≠ "java/lang/invoke/VarHandle" ∧ (parseMethodDescriptor yX7_rotate.desc).map (fun d => d.parameters.length) = some 2 := by decide +kernel
theorem hX7_sizeOf_d : yX7_sizeOf.cls = RX7 ∧ yX7_sizeOf.cls ≠ "java/lang/invoke/MethodHandle" ∧ yX7_sizeOf.cls ≠ "java/lang/invoke/VarHandle" ∧ (parseMethodDescriptor yX7_sizeOf.desc).map (fun d => d.parameters.length) = some 1 := by decide +kernel
theorem hX7_swap_d : yX7_swap.cls = RX7 ∧ yX7_swap.cls ≠ "java/lang/invoke/MethodHandle" ∧ yX7_swap.cls ≠ "java/lang/invoke/VarHandle" ∧ (parseMethodDescriptor yX7_swap.desc).map (fun d => d.parameters.length) = some 2 := by decide +kernel
theorem hX7_taken_d : yX7_taken.cls ≠ "java/lang/invoke/MethodHandle" ∧ yX7_taken.cls ≠ "java/lang/invoke/VarHandle" ∧ (parseMethodDescriptor yX7_taken.desc).map (fun d => d.parameters.length) = some 4 := by decide +kernel
