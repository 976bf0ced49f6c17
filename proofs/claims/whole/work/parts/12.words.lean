theorem lyX0_0 : u_lay RX0 TX0 0 ∈ GB := gb_1 183 rfl rfl
theorem lyX0_1 : u_lay RX0 TX0 1 ∈ GB := gb_1 185 rfl rfl
theorem lyX0_2 : u_lay RX0 TX0 2 ∈ GB := gb_1 187 rfl rfl
theorem iX0 : ∀ w ∈ u_ws RX0 TX0 3, w ∈ GB := List.forall_mem_cons.mpr ⟨lyX0_0, List.forall_mem_cons.mpr ⟨lyX0_1, List.forall_mem_cons.mpr ⟨lyX0_2, fun _ h => absurd h List.not_mem_nil⟩⟩⟩
theorem tcX0 : ∀ k, k < 3 → (TX0 k).1 = RX0 := by decide +kernel
theorem lyX1_0 : u_lay RX1 TX1 0 ∈ GB := gb_1 76 rfl rfl
theorem lyX1_1 : u_lay RX1 TX1 1 ∈ GB := gb_1 78 rfl rfl
theorem lyX1_2 : u_lay RX1 TX1 2 ∈ GB := gb_1 80 rfl rfl
theorem lyX1_3 : u_lay RX1 TX1 3 ∈ GB := gb_1 82 rfl rfl
theorem lyX1_4 : u_lay RX1 TX1 4 ∈ GB := gb_1 84 rfl rfl
theorem lyX1_5 : u_lay RX1 TX1 5 ∈ GB := gb_1 86 rfl rfl
theorem lyX1_6 : u_lay RX1 TX1 6 ∈ GB := gb_1 88 rfl rfl
theorem lyX1_7 : u_lay RX1 TX1 7 ∈ GB := gb_1 90 rfl rfl
theorem lyX1_8 : u_lay RX1 TX1 8 ∈ GB := gb_1 92 rfl rfl
theorem lyX1_9 : u_lay RX1 TX1 9 ∈ GB := gb_1 94 rfl rfl
theorem lyX1_10 : u_lay RX1 TX1 10 ∈ GB := gb_1 96 rfl rfl
theorem lyX1_11 : u_lay RX1 TX1 11 ∈ GB := gb_1 98 rfl rfl
theorem lyX1_12 : u_lay RX1 TX1 12 ∈ GB := gb_1 100 rfl rfl
theorem lyX1_13 : u_lay RX1 TX1 13 ∈ GB := gb_1 102 rfl rfl
theorem lyX1_14 : u_lay RX1 TX1 14 ∈ GB := gb_1 104 rfl rfl
theorem lyX1_15 : u_lay RX1 TX1 15 ∈ GB := gb_1 106 rfl rfl
theorem lyX1_16 : u_lay RX1 TX1 16 ∈ GB := gb_1 108 rfl rfl
theorem lyX1_17 : u_lay RX1 TX1 17 ∈ GB := gb_1 110 rfl rfl
theorem iX1 : ∀ w ∈ u_ws RX1 TX1 18, w ∈ GB := List.forall_mem_cons.mpr ⟨lyX1_0, List.forall_mem_cons.mpr ⟨lyX1_1, List.forall_mem_cons.mpr ⟨lyX1_2, List.forall_mem_cons.mpr ⟨lyX1_3, List.forall_mem_cons.mpr ⟨lyX1_4, List.forall_mem_cons.mpr ⟨lyX1_5, List.forall_mem_cons.mpr ⟨lyX1_6, List.forall_mem_cons.mpr ⟨lyX1_7, List.forall_mem_cons.mpr ⟨lyX1_8, List.forall_mem_cons.mpr ⟨lyX1_9, List.forall_mem_cons.mpr ⟨lyX1_10, List.forall_mem_cons.mpr ⟨lyX1_11, List.forall_mem_cons.mpr ⟨lyX1_12, List.forall_mem_cons.mpr ⟨lyX1_13, List.forall_mem_cons.mpr ⟨lyX1_14, List.forall_mem_cons.mpr ⟨lyX1_15, List.forall_mem_cons.mpr ⟨lyX1_16, List.forall_mem_cons.mpr ⟨lyX1_17, fun _ h => absurd h List.not_mem_nil⟩⟩⟩⟩⟩⟩⟩⟩⟩⟩⟩⟩⟩⟩⟩⟩⟩⟩
theorem tcX1 : ∀ k, k < 18 → (TX1 k).1 = RX1 := by decide +kernel
theorem lyX3_0 : u_lay RX3 TX3 0 ∈ GB := gb_1 155 rfl rfl
theorem lyX3_1 : u_lay RX3 TX3 1 ∈ GB := gb_1 157 rfl rfl
theorem lyX3_2 : u_lay RX3 TX3 2 ∈ GB := gb_1 159 rfl rfl
theorem lyX3_3 : u_lay RX3 TX3 3 ∈ GB := gb_1 161 rfl rfl
theorem lyX3_4 : u_lay RX3 TX3 4 ∈ GB := gb_1 163 rfl rfl
theorem lyX3_5 : u_lay RX3 TX3 5 ∈ GB := gb_1 165 rfl rfl
theorem lyX3_6 : u_lay RX3 TX3 6 ∈ GB := gb_1 167 rfl rfl
theorem iX3 : ∀ w ∈ u_ws RX3 TX3 7, w ∈ GB := List.forall_mem_cons.mpr ⟨lyX3_0, List.forall_mem_cons.mpr ⟨lyX3_1, List.forall_mem_cons.mpr ⟨lyX3_2, List.forall_mem_cons.mpr ⟨lyX3_3, List.forall_mem_cons.mpr ⟨lyX3_4, List.forall_mem_cons.mpr ⟨lyX3_5, List.forall_mem_cons.mpr ⟨lyX3_6, fun _ h => absurd h List.not_mem_nil⟩⟩⟩⟩⟩⟩⟩
theorem tcX3 : ∀ k, k < 7 → (TX3 k).1 = RX3 := by decide +kernel
theorem lyX4_0 : u_lay RX4 TX4 0 ∈ GB := gb_1 200 rfl rfl
theorem lyX4_1 : u_lay RX4 TX4 1 ∈ GB := gb_1 202 rfl rfl
theorem iX4 : ∀ w ∈ u_ws RX4 TX4 2, w ∈ GB := List.forall_mem_cons.mpr ⟨lyX4_0, List.forall_mem_cons.mpr ⟨lyX4_1, fun _ h => absurd h List.not_mem_nil⟩⟩
theorem tcX4 : ∀ k, k < 2 → (TX4 k).1 = RX4 := by decide +kernel
theorem lyX5_0 : u_lay RX5 TX5 0 ∈ GB := gb_1 211 rfl rfl
theorem lyX5_1 : u_lay RX5 TX5 1 ∈ GB := gb_1 213 rfl rfl
theorem lyX5_2 : u_lay RX5 TX5 2 ∈ GB := gb_1 215 rfl rfl
theorem lyX5_3 : u_lay RX5 TX5 3 ∈ GB := gb_1 217 rfl rfl
theorem lyX5_4 : u_lay RX5 TX5 4 ∈ GB := gb_1 219 rfl rfl
theorem lyX5_5 : u_lay RX5 TX5 5 ∈ GB := gb_1 221 rfl rfl
theorem iX5 : ∀ w ∈ u_ws RX5 TX5 6, w ∈ GB := List.forall_mem_cons.mpr ⟨lyX5_0, List.forall_mem_cons.mpr ⟨lyX5_1, List.forall_mem_cons.mpr ⟨lyX5_2, List.forall_mem_cons.mpr ⟨lyX5_3, List.forall_mem_cons.mpr ⟨lyX5_4, List.forall_mem_cons.mpr ⟨lyX5_5, fun _ h => absurd h List.not_mem_nil⟩⟩⟩⟩⟩⟩
theorem tcX5 : ∀ k, k < 6 → (TX5 k).1 = RX5 := by decide +kernel
theorem lyX6_0 : u_lay RX6 TX6 0 ∈ GB := gb_5 38 rfl rfl
theorem lyX6_1 : u_lay RX6 TX6 1 ∈ GB := gb_5 40 rfl rfl
theorem lyX6_2 : u_lay RX6 TX6 2 ∈ GB := gb_5 42 rfl rfl
theorem lyX6_3 : u_lay RX6 TX6 3 ∈ GB := gb_5 44 rfl rfl
theorem lyX6_4 : u_lay RX6 TX6 4 ∈ GB := gb_5 46 rfl rfl
theorem lyX6_5 : u_lay RX6 TX6 5 ∈ GB := gb_5 48 rfl rfl
theorem lyX6_6 : u_lay RX6 TX6 6 ∈ GB := gb_5 50 rfl rfl
theorem lyX6_7 : u_lay RX6 TX6 7 ∈ GB := gb_5 52 rfl rfl
theorem lyX6_8 : u_lay RX6 TX6 8 ∈ GB := gb_5 54 rfl rfl
theorem lyX6_9 : u_lay RX6 TX6 9 ∈ GB := gb_5 56 rfl rfl
theorem lyX6_10 : u_lay RX6 TX6 10 ∈ GB := gb_5 58 rfl rfl
theorem lyX6_11 : u_lay RX6 TX6 11 ∈ GB := gb_5 60 rfl rfl
theorem lyX6_12 : u_lay RX6 TX6 12 ∈ GB := gb_5 62 rfl rfl
theorem lyX6_13 : u_lay RX6 TX6 13 ∈ GB := gb_5 64 rfl rfl
theorem lyX6_14 : u_lay RX6 TX6 14 ∈ GB := gb_5 66 rfl rfl
theorem lyX6_15 : u_lay RX6 TX6 15 ∈ GB := gb_5 68 rfl rfl
theorem lyX6_16 : u_lay RX6 TX6 16 ∈ GB := gb_5 70 rfl rfl
theorem lyX6_17 : u_lay RX6 TX6 17 ∈ GB := gb_5 72 rfl rfl
theorem lyX6_18 : u_lay RX6 TX6 18 ∈ GB := gb_5 74 rfl rfl
theorem iX6 : ∀ w ∈ u_ws RX6 TX6 19, w ∈ GB := List.forall_mem_cons.mpr ⟨lyX6_0, List.forall_mem_cons.mpr ⟨lyX6_1, List.forall_mem_cons.mpr ⟨lyX6_2, List.forall_mem_cons.mpr ⟨lyX6_3, List.forall_mem_cons.mpr ⟨lyX6_4, List.forall_mem_cons.mpr ⟨lyX6_5, List.forall_mem_cons.mpr ⟨lyX6_6, List.forall_mem_cons.mpr ⟨lyX6_7, List.forall_mem_cons.mpr ⟨lyX6_8, List.forall_mem_cons.mpr ⟨lyX6_9, List.forall_mem_cons.mpr ⟨lyX6_10, List.forall_mem_cons.mpr ⟨lyX6_11, List.forall_mem_cons.mpr ⟨lyX6_12, List.forall_mem_cons.mpr ⟨lyX6_13, List.forall_mem_cons.mpr ⟨lyX6_14, List.forall_mem_cons.mpr ⟨lyX6_15, List.forall_mem_cons.mpr ⟨lyX6_16, List.forall_mem_cons.mpr ⟨lyX6_17, List.forall_mem_cons.mpr ⟨lyX6_18, fun _ h => absurd h List.not_mem_nil⟩⟩⟩⟩⟩⟩⟩⟩⟩⟩⟩⟩⟩⟩⟩⟩⟩⟩⟩
theorem tcX6 : ∀ k, k < 19 → (TX6 k).1 = RX6 := by decide +kernel
section GX
variable {p : Program} {l : Launch} {e : Env} {R : Room} {s : State} {m : MethodId} {args : Array Value} {below : List Frame} {meth : Method} {c : Code} {H : Heap} {locs : List Loc} {cells slots : Nat} {Q : State → Prop}
variable {cc : ByteArray} {nL : Nat} {ret : Option FieldType} {own : String} {D : va_G} {cy : Nat → ClassId} {ad : Nat → Nat} {x : SX} {M : Mem} {pc : Nat} {ls : Array Slot} {rest st0 : List Value}
theorem gX0_get (fx : FX p s m args meth c cc nL ret own D cy ad x) (hw : WD D cy ad s M H locs) {q : Nat} {fs : (Nat → Nat) → (Nat → Int32) → List Value} (hO : isO 0 q fs) (k : Nat) (hk : k < 3) {index : Nat} (hlink : Cond.fieldLink own index RX0 (TX0 k).2.1 (TX0 k).2.2.1 ∈ GB) {v : Value} (hv : (fs ad (M q))[k]? = some v) (hdg : decode cc pc = .ok (.getfield index, 3))
    (kk : W p l e R s m args below meth c H locs cells slots Q (F0 m (pc + 3) ls (v :: rest))) : W p l e R s m args below meth c H locs cells slots Q (F0 m pc ls (.ref (ad q) :: rest)) := g_get fx hw hO rfl iX0 tcX0 k hk hlink hv hdg kk
theorem gX0_put (fx : FX p s m args meth c cc nL ret own D cy ad x) (hw : WD D cy ad s M H locs) {q : Nat} {fs : (Nat → Nat) → (Nat → Int32) → List Value} (hO : isO 0 q fs) (k : Nat) (hk : k < 3) {index : Nat} (hlink : Cond.fieldLink own index RX0 (TX0 k).2.1 (TX0 k).2.2.1 ∈ GB) (hI : (TX0 k).2.2 = ("I", false)) {v : Int32} {M' : Mem} (hM : M' = mput M q k v) (hset : (fs ad (M q)).set k (.int v) = fs ad (upd (M q) k v)) (hl : k < (fs ad (M q)).length) (hdg : decode cc pc = .ok (.putfield index, 3))
    (kk : ∀ (H1 : Heap) (locs1 : List Loc), WD D cy ad s M' H1 locs1 → W p l e R s m args below meth c H1 locs1 cells slots Q (F0 m (pc + 3) ls rest)) : W p l e R s m args below meth c H locs cells slots Q (F0 m pc ls (.int v :: .ref (ad q) :: rest)) := g_put fx hw hO rfl iX0 tcX0 tyX0 tyX0_ok nmX0 k hk hlink hI hM hset hl hdg kk
theorem gX1_get (fx : FX p s m args meth c cc nL ret own D cy ad x) (hw : WD D cy ad s M H locs) {q : Nat} {fs : (Nat → Nat) → (Nat → Int32) → List Value} (hO : isO 1 q fs) (k : Nat) (hk : k < 18) {index : Nat} (hlink : Cond.fieldLink own index RX1 (TX1 k).2.1 (TX1 k).2.2.1 ∈ GB) {v : Value} (hv : (fs ad (M q))[k]? = some v) (hdg : decode cc pc = .ok (.getfield index, 3))
    (kk : W p l e R s m args below meth c H locs cells slots Q (F0 m (pc + 3) ls (v :: rest))) : W p l e R s m args below meth c H locs cells slots Q (F0 m pc ls (.ref (ad q) :: rest)) := g_get fx hw hO rfl iX1 tcX1 k hk hlink hv hdg kk
theorem gX1_put (fx : FX p s m args meth c cc nL ret own D cy ad x) (hw : WD D cy ad s M H locs) {q : Nat} {fs : (Nat → Nat) → (Nat → Int32) → List Value} (hO : isO 1 q fs) (k : Nat) (hk : k < 18) {index : Nat} (hlink : Cond.fieldLink own index RX1 (TX1 k).2.1 (TX1 k).2.2.1 ∈ GB) (hI : (TX1 k).2.2 = ("I", false)) {v : Int32} {M' : Mem} (hM : M' = mput M q k v) (hset : (fs ad (M q)).set k (.int v) = fs ad (upd (M q) k v)) (hl : k < (fs ad (M q)).length) (hdg : decode cc pc = .ok (.putfield index, 3))
    (kk : ∀ (H1 : Heap) (locs1 : List Loc), WD D cy ad s M' H1 locs1 → W p l e R s m args below meth c H1 locs1 cells slots Q (F0 m (pc + 3) ls rest)) : W p l e R s m args below meth c H locs cells slots Q (F0 m pc ls (.int v :: .ref (ad q) :: rest)) := g_put fx hw hO rfl iX1 tcX1 tyX1 tyX1_ok nmX1 k hk hlink hI hM hset hl hdg kk
theorem gX3_get (fx : FX p s m args meth c cc nL ret own D cy ad x) (hw : WD D cy ad s M H locs) {q : Nat} {fs : (Nat → Nat) → (Nat → Int32) → List Value} (hO : isO 2 q fs) (k : Nat) (hk : k < 7) {index : Nat} (hlink : Cond.fieldLink own index RX3 (TX3 k).2.1 (TX3 k).2.2.1 ∈ GB) {v : Value} (hv : (fs ad (M q))[k]? = some v) (hdg : decode cc pc = .ok (.getfield index, 3))
    (kk : W p l e R s m args below meth c H locs cells slots Q (F0 m (pc + 3) ls (v :: rest))) : W p l e R s m args below meth c H locs cells slots Q (F0 m pc ls (.ref (ad q) :: rest)) := g_get fx hw hO rfl iX3 tcX3 k hk hlink hv hdg kk
theorem gX3_put (fx : FX p s m args meth c cc nL ret own D cy ad x) (hw : WD D cy ad s M H locs) {q : Nat} {fs : (Nat → Nat) → (Nat → Int32) → List Value} (hO : isO 2 q fs) (k : Nat) (hk : k < 7) {index : Nat} (hlink : Cond.fieldLink own index RX3 (TX3 k).2.1 (TX3 k).2.2.1 ∈ GB) (hI : (TX3 k).2.2 = ("I", false)) {v : Int32} {M' : Mem} (hM : M' = mput M q k v) (hset : (fs ad (M q)).set k (.int v) = fs ad (upd (M q) k v)) (hl : k < (fs ad (M q)).length) (hdg : decode cc pc = .ok (.putfield index, 3))
    (kk : ∀ (H1 : Heap) (locs1 : List Loc), WD D cy ad s M' H1 locs1 → W p l e R s m args below meth c H1 locs1 cells slots Q (F0 m (pc + 3) ls rest)) : W p l e R s m args below meth c H locs cells slots Q (F0 m pc ls (.int v :: .ref (ad q) :: rest)) := g_put fx hw hO rfl iX3 tcX3 tyX3 tyX3_ok nmX3 k hk hlink hI hM hset hl hdg kk
theorem gX4_get (fx : FX p s m args meth c cc nL ret own D cy ad x) (hw : WD D cy ad s M H locs) {q : Nat} {fs : (Nat → Nat) → (Nat → Int32) → List Value} (hO : isO 3 q fs) (k : Nat) (hk : k < 2) {index : Nat} (hlink : Cond.fieldLink own index RX4 (TX4 k).2.1 (TX4 k).2.2.1 ∈ GB) {v : Value} (hv : (fs ad (M q))[k]? = some v) (hdg : decode cc pc = .ok (.getfield index, 3))
    (kk : W p l e R s m args below meth c H locs cells slots Q (F0 m (pc + 3) ls (v :: rest))) : W p l e R s m args below meth c H locs cells slots Q (F0 m pc ls (.ref (ad q) :: rest)) := g_get fx hw hO rfl iX4 tcX4 k hk hlink hv hdg kk
theorem gX4_put (fx : FX p s m args meth c cc nL ret own D cy ad x) (hw : WD D cy ad s M H locs) {q : Nat} {fs : (Nat → Nat) → (Nat → Int32) → List Value} (hO : isO 3 q fs) (k : Nat) (hk : k < 2) {index : Nat} (hlink : Cond.fieldLink own index RX4 (TX4 k).2.1 (TX4 k).2.2.1 ∈ GB) (hI : (TX4 k).2.2 = ("I", false)) {v : Int32} {M' : Mem} (hM : M' = mput M q k v) (hset : (fs ad (M q)).set k (.int v) = fs ad (upd (M q) k v)) (hl : k < (fs ad (M q)).length) (hdg : decode cc pc = .ok (.putfield index, 3))
    (kk : ∀ (H1 : Heap) (locs1 : List Loc), WD D cy ad s M' H1 locs1 → W p l e R s m args below meth c H1 locs1 cells slots Q (F0 m (pc + 3) ls rest)) : W p l e R s m args below meth c H locs cells slots Q (F0 m pc ls (.int v :: .ref (ad q) :: rest)) := g_put fx hw hO rfl iX4 tcX4 tyX4 tyX4_ok nmX4 k hk hlink hI hM hset hl hdg kk
theorem gX5_get (fx : FX p s m args meth c cc nL ret own D cy ad x) (hw : WD D cy ad s M H locs) {q : Nat} {fs : (Nat → Nat) → (Nat → Int32) → List Value} (hO : isO 4 q fs) (k : Nat) (hk : k < 6) {index : Nat} (hlink : Cond.fieldLink own index RX5 (TX5 k).2.1 (TX5 k).2.2.1 ∈ GB) {v : Value} (hv : (fs ad (M q))[k]? = some v) (hdg : decode cc pc = .ok (.getfield index, 3))
    (kk : W p l e R s m args below meth c H locs cells slots Q (F0 m (pc + 3) ls (v :: rest))) : W p l e R s m args below meth c H locs cells slots Q (F0 m pc ls (.ref (ad q) :: rest)) := g_get fx hw hO rfl iX5 tcX5 k hk hlink hv hdg kk
theorem gX5_put (fx : FX p s m args meth c cc nL ret own D cy ad x) (hw : WD D cy ad s M H locs) {q : Nat} {fs : (Nat → Nat) → (Nat → Int32) → List Value} (hO : isO 4 q fs) (k : Nat) (hk : k < 6) {index : Nat} (hlink : Cond.fieldLink own index RX5 (TX5 k).2.1 (TX5 k).2.2.1 ∈ GB) (hI : (TX5 k).2.2 = ("I", false)) {v : Int32} {M' : Mem} (hM : M' = mput M q k v) (hset : (fs ad (M q)).set k (.int v) = fs ad (upd (M q) k v)) (hl : k < (fs ad (M q)).length) (hdg : decode cc pc = .ok (.putfield index, 3))
    (kk : ∀ (H1 : Heap) (locs1 : List Loc), WD D cy ad s M' H1 locs1 → W p l e R s m args below meth c H1 locs1 cells slots Q (F0 m (pc + 3) ls rest)) : W p l e R s m args below meth c H locs cells slots Q (F0 m pc ls (.int v :: .ref (ad q) :: rest)) := g_put fx hw hO rfl iX5 tcX5 tyX5 tyX5_ok nmX5 k hk hlink hI hM hset hl hdg kk
theorem gX6_get (fx : FX p s m args meth c cc nL ret own D cy ad x) (hw : WD D cy ad s M H locs) {q : Nat} {fs : (Nat → Nat) → (Nat → Int32) → List Value} (hO : isO 5 q fs) (k : Nat) (hk : k < 19) {index : Nat} (hlink : Cond.fieldLink own index RX6 (TX6 k).2.1 (TX6 k).2.2.1 ∈ GB) {v : Value} (hv : (fs ad (M q))[k]? = some v) (hdg : decode cc pc = .ok (.getfield index, 3))
    (kk : W p l e R s m args below meth c H locs cells slots Q (F0 m (pc + 3) ls (v :: rest))) : W p l e R s m args below meth c H locs cells slots Q (F0 m pc ls (.ref (ad q) :: rest)) := g_get fx hw hO rfl iX6 tcX6 k hk hlink hv hdg kk
theorem gX6_put (fx : FX p s m args meth c cc nL ret own D cy ad x) (hw : WD D cy ad s M H locs) {q : Nat} {fs : (Nat → Nat) → (Nat → Int32) → List Value} (hO : isO 5 q fs) (k : Nat) (hk : k < 19) {index : Nat} (hlink : Cond.fieldLink own index RX6 (TX6 k).2.1 (TX6 k).2.2.1 ∈ GB) (hI : (TX6 k).2.2 = ("I", false)) {v : Int32} {M' : Mem} (hM : M' = mput M q k v) (hset : (fs ad (M q)).set k (.int v) = fs ad (upd (M q) k v)) (hl : k < (fs ad (M q)).length) (hdg : decode cc pc = .ok (.putfield index, 3))
    (kk : ∀ (H1 : Heap) (locs1 : List Loc), WD D cy ad s M' H1 locs1 → W p l e R s m args below meth c H1 locs1 cells slots Q (F0 m (pc + 3) ls rest)) : W p l e R s m args below meth c H locs cells slots Q (F0 m pc ls (.int v :: .ref (ad q) :: rest)) := g_put fx hw hO rfl iX6 tcX6 tyX6 tyX6_ok nmX6 k hk hlink hI hM hset hl hdg kk
end GX
