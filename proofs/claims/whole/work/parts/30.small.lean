/-! SMALL WORLDS: some of the rows alone, as they stand while the objects are made -/
def wr (rs : List Nat) (cy : Nat → ClassId) (ad : Nat → Nat) (M : Mem) : va_W := rs.map (fun k => (ad k, rc cy ad k (M k)))
theorem wr_at {rs : List Nat} {cy : Nat → ClassId} {ad : Nat → Nat} {M : Mem} {i k : Nat} (h : rs[i]? = some k) : (wr rs cy ad M)[i]? = some (ad k, rc cy ad k (M k)) := by
  simp [wr, h]
theorem wr_set {rs : List Nat} {cy : Nat → ClassId} {ad : Nat → Nat} {M : Mem} {A : Nat → Prop} (hD : va_D A (wr rs cy ad M)) {i k : Nat} (h : rs[i]? = some k) (r : Nat → Int32) : (wr rs cy ad M).set i (ad k, rc cy ad k r) = wr rs cy ad (va_up M k r) := by
  apply List.ext_getElem?
  intro j
  have hl := (List.getElem?_eq_some_iff.mp h).1
  by_cases hj : i = j
  · subst hj
    rw [List.getElem?_set_self (by simpa [wr] using hl), wr_at h]
    simp [va_up]
  · rw [List.getElem?_set_ne hj]
    cases hk : rs[j]? with
    | none => simp [wr, hk]
    | some k' =>
      have hne : k' ≠ k := fun e => hj (hD.1 i j _ _ (wr_at h) (wr_at hk) (by rw [e]))
      rw [wr_at hk, wr_at hk]
      simp [va_up, hne]
def rAA (rs : List Nat) (ad : Nat → Nat) (sz : Nat) : Nat → Prop := fun q => (∃ k, k ∈ rs ∧ q = ad k) ∨ sz ≤ q
theorem rAA_mono {rs : List Nat} {ad : Nat → Nat} {sz sz' : Nat} (h : sz ≤ sz') {q : Nat} (hq : rAA rs ad sz' q) : rAA rs ad sz q := hq.elim Or.inl (fun z => Or.inr (Nat.le_trans h z))
theorem wr_mem {rs : List Nat} {cy : Nat → ClassId} {ad : Nat → Nat} {M : Mem} {k : Nat} {q : Nat × va_E} (h : (wr rs cy ad M)[k]? = some q) : ∃ j, rs[k]? = some j ∧ q = (ad j, rc cy ad j (M j)) := by
  simp only [wr, List.getElem?_map] at h
  cases hk : rs[k]? with
  | none => rw [hk] at h; cases h
  | some j => rw [hk] at h; exact ⟨j, rfl, (Option.some.inj h).symm⟩
theorem wr_D {rs : List Nat} {cy : Nat → ClassId} {ad : Nat → Nat} {M : Mem} {A : Nat → Prop} {sz : Nat} (h : va_D A (wr rs cy ad M)) : va_D (rAA rs ad sz) (wr rs cy ad M) := by
  refine ⟨h.1, fun k q hk => ?_⟩
  obtain ⟨j, hj, rfl⟩ := wr_mem hk
  exact Or.inl ⟨j, List.mem_of_getElem? hj, rfl⟩
def rWD (rs : List Nat) (D : va_G) (cy : Nat → ClassId) (ad : Nat → Nat) (s : State) (M : Mem) (H : Heap) (locs : List Loc) : Prop := va_P D vwCl (wr rs cy ad M) H ∧ va_D (rAA rs ad s.heap.size) (wr rs cy ad M) ∧ va_S (rAA rs ad s.heap.size) s.heap H locs
def rFX (_ : List Nat) (p : Program) (s : State) (m : MethodId) (args : Array Value) (meth : Method) (c : Code) (cc : ByteArray) (nL : Nat) (ret : Option FieldType) (own : String) (D : va_G) (cy : Nat → ClassId) (_ : Nat → Nat) (_ : SX) : Prop :=
  CallFix p m c cc nL s args GB own ∧ meth.sig.returnType = ret ∧ meth.locks = false ∧ va_K D vwCl (tys cy) s ∧ True
def rPcW (rs : List Nat) (D : va_G) (cy : Nat → ClassId) (ad : Nat → Nat) (_ : SX) (sz : Nat) (M : Mem) (av : List Value) : Array Value → State → Prop := va_Pc av (fun U => U.heap.size = sz ∧ va_P D vwCl (wr rs cy ad M) U.heap ∧ va_K D vwCl (tys cy) U ∧ va_D (fun _ => True) (wr rs cy ad M))
def rBW (rs : List Nat) (D : va_G) (cy : Nat → ClassId) (ad : Nat → Nat) (sz : Nat) (M : Mem) : Unit → State → Prop := fun _ t => va_P D vwCl (wr rs cy ad M) t.heap ∧ va_K D vwCl (tys cy) t ∧ va_D (rAA rs ad sz) (wr rs cy ad M)
def rQiW (rs : List Nat) (D : va_G) (cy : Nat → ClassId) (ad : Nat → Nat) (sz : Nat) (z : Int32) (M : Mem) : Array Value → State → Outcome → State → Prop := va_Qi (fun (r : Int32) (_ : Unit) => r = z) (rBW rs D cy ad sz M) (rAA rs ad sz)
def rQvW (rs : List Nat) (D : va_G) (cy : Nat → ClassId) (ad : Nat → Nat) (sz : Nat) (M : Mem) : Array Value → State → Outcome → State → Prop := va_Qv (fun (_ : Unit) => True) (rBW rs D cy ad sz M) (rAA rs ad sz)
theorem rPcW_blind {rs : List Nat} {D : va_G} {cy : Nat → ClassId} {ad : Nat → Nat} {x : SX} {sz : Nat} {M : Mem} {av : List Value} : FrameBlind (rPcW rs D cy ad x sz M av) := by
  intro a U g mk q
  obtain ⟨q0, q1, qP, qK, qD⟩ := q
  exact ⟨q0, q1, qP, va_K.moved (u := U) (U := U.calling g mk a) (Vm.Alike.refl U.vm) qK, qD⟩
section RMK
variable {rs : List Nat} {l : Launch} {y : MethodName} {cc : ByteArray} {maxL fr lo mc ms : Nat} {ret : Option FieldType} {own : String} {D : va_G} {cy : Nat → ClassId} {ad : Nat → Nat} {x : SX} {sz : Nat} {M : Mem} {av : List Value} {Qc : Array Value → State → Outcome → State → Prop}
theorem r_mk_m (hy : plainName y.cls = true) (ho : y.cls = own) (hv : (lg_sl av).length ≤ maxL)
    (body : ∀ p e s m args below meth c ls, rFX rs p s m args meth c cc maxL ret own D cy ad x → rWD rs D cy ad s M s.heap [] → lv_has ls maxL (lv_args 0 av) → s.heap.size = sz →
      W p l e ({ frames := fr, cells := mc, slots := ms, locals := lo } : Room) s m args below meth c s.heap [] 0 0 (MQ below Qc args s mc ms (rAA rs ad sz)) (F0 m 0 ls [])) :
    Met l y (.code y cc maxL ret :: GB) ({ frames := fr, cells := mc, slots := ms, locals := lo } : Room) (rPcW rs D cy ad x sz M av) Qc mc ms (rAA rs ad sz) := by
  refine Met.ofW (cc := cc) (maxL := maxL) (ret := ret) hy rfl ?_
  intro p e s m args below meth c s₁ B hml hv9
  obtain ⟨rfl, hsz, hP, hK, hD0⟩ := hv9
  have hts := atoms_spec (ws := .code y cc maxL ret :: GB) B.pre
  have hown : s.vm.findClass own = some m.cls := by rw [← ho]; exact findClass_of_methodNamed B.named
  rw [lg_entry_eq]
  subst hsz
  exact body p e s m av.toArray below meth c _ ⟨⟨B.exec, B.bytes, hml, hown, fun w h => hts w (List.mem_cons_of_mem _ h)⟩, B.returns, B.notSynchronized, hK, trivial⟩ ⟨hP, wr_D hD0, va_S.rf⟩ (lv_entry av hv) rfl
end RMK
def rA (rs : List Nat) (q n : Nat) : Prop := isA q n ∧ q ∈ rs
def rO (rs : List Nat) (ci q : Nat) (fs : (Nat → Nat) → (Nat → Int32) → List Value) : Prop := isO ci q fs ∧ q ∈ rs
section RROWS
variable {rs : List Nat} {p : Program} {l : Launch} {e : Env} {R : Room} {s : State} {m : MethodId} {args : Array Value} {below : List Frame} {meth : Method} {c : Code} {H : Heap} {locs : List Loc} {cells slots : Nat} {Q : State → Prop}
variable {cc : ByteArray} {nL : Nat} {ret : Option FieldType} {own : String} {D : va_G} {cy : Nat → ClassId} {ad : Nat → Nat} {x : SX} {M : Mem} {pc : Nat} {ls : Array Slot} {rest st0 : List Value}
theorem rg_iret {mc ms : Nat} {v z : Int32} (fx : rFX rs p s m args meth c cc nL (some .int) own D cy ad x) (hw : rWD rs D cy ad s M H locs) (hz : v = z) (hdg : decode cc pc = .ok (.ireturn, 1)) : W p l e R s m args below meth c H locs mc ms (MQ below (rQiW rs D cy ad s.heap.size z M) args s mc ms (rAA rs ad s.heap.size)) (F0 m pc ls [.int v]) := by
  obtain ⟨S, hr, hlk, hK, -⟩ := fx
  obtain ⟨hP, hD, hS⟩ := hw
  exact W.iret (hlocks := hlk) S.1 S.2.1 hr (fun t ht hW => ⟨⟨v, (), rfl, hz, by rw [ht]; exact hP, va_K.moved hW.alike hK, hD⟩, hS.F ht⟩) hS.2.2 hdg
theorem rg_vret {mc ms : Nat} (fx : rFX rs p s m args meth c cc nL none own D cy ad x) (hw : rWD rs D cy ad s M H locs) (hdg : decode cc pc = .ok (.return_, 1)) : W p l e R s m args below meth c H locs mc ms (MQ below (rQvW rs D cy ad s.heap.size M) args s mc ms (rAA rs ad s.heap.size)) (F0 m pc ls []) := by
  obtain ⟨S, hr, hlk, hK, -⟩ := fx
  obtain ⟨hP, hD, hS⟩ := hw
  exact W.vret (hlocks := hlk) S.1 S.2.1 hr (fun t ht hW => ⟨⟨(), rfl, trivial, by rw [ht]; exact hP, va_K.moved hW.alike hK, hD⟩, hS.F ht⟩) hS.2.2 hdg
theorem rg_get (fx : rFX rs p s m args meth c cc nL ret own D cy ad x) (hw : rWD rs D cy ad s M H locs) {ci q : Nat} {fs : (Nat → Nat) → (Nat → Int32) → List Value} (hO : rO rs ci q fs) {C : String} {T : u_T} {N : Nat} (hc : vwCl[ci]? = some (C, T, N)) (hin : ∀ w ∈ u_ws C T N, w ∈ GB) (hTC : ∀ k, k < N → (T k).1 = C) (k : Nat) (hk : k < N) {index : Nat} (hlink : Cond.fieldLink own index C (T k).2.1 (T k).2.2.1 ∈ GB) {v : Value} (hv : (fs ad (M q))[k]? = some v) (hdg : decode cc pc = .ok (.getfield index, 3))
    (kk : W p l e R s m args below meth c H locs cells slots Q (F0 m (pc + 3) ls (v :: rest))) : W p l e R s m args below meth c H locs cells slots Q (F0 m pc ls (.ref (ad q) :: rest)) := by
  obtain ⟨⟨hx, hb, hml, hown, hts⟩, -, -, hK, -⟩ := fx
  obtain ⟨i, hi⟩ := List.getElem?_of_mem hO.2
  exact va_get hx hb hts hin hown hK hw.1 i (by rw [wr_at hi, hO.1.2]) hc k hk (hts _ hlink) (fun _ h9 => by rw [hTC k hk] at h9; exact h9) hv hdg kk
theorem rg_put (fx : rFX rs p s m args meth c cc nL ret own D cy ad x) (hw : rWD rs D cy ad s M H locs) {ci q : Nat} {fs : (Nat → Nat) → (Nat → Int32) → List Value} (hO : rO rs ci q fs) {C : String} {T : u_T} {N : Nat} (hc : vwCl[ci]? = some (C, T, N)) (hin : ∀ w ∈ u_ws C T N, w ∈ GB) (hTC : ∀ k, k < N → (T k).1 = C) (ty0 : Nat → FieldType) (hty : ∀ k, k < N → parseFieldDescriptor (T k).2.2.1 = some (ty0 k)) (hnm : ∀ a, a < N → ∀ b, b < N → a ≠ b → (T a).2.1 ≠ (T b).2.1) (k : Nat) (hk : k < N) {index : Nat} (hlink : Cond.fieldLink own index C (T k).2.1 (T k).2.2.1 ∈ GB) (hI : (T k).2.2 = ("I", false)) {v : Int32} {M' : Mem} (hM : M' = mput M q k v) (hset : (fs ad (M q)).set k (.int v) = fs ad (upd (M q) k v)) (hl : k < (fs ad (M q)).length) (hdg : decode cc pc = .ok (.putfield index, 3))
    (kk : ∀ (H1 : Heap) (locs1 : List Loc), rWD rs D cy ad s M' H1 locs1 → W p l e R s m args below meth c H1 locs1 cells slots Q (F0 m (pc + 3) ls rest)) : W p l e R s m args below meth c H locs cells slots Q (F0 m pc ls (.int v :: .ref (ad q) :: rest)) := by
  obtain ⟨⟨hx, hb, hml, hown, hts⟩, -, -, hK, -⟩ := fx
  obtain ⟨hP, hD, hS⟩ := hw
  obtain ⟨i, hi⟩ := List.getElem?_of_mem hO.2
  subst hM
  have he := wr_set hD hi (upd (M q) k v)
  refine va_put (ty := .int) hx hb hts hin ty0 hty hnm hown hK hP hD hS i (by rw [wr_at hi, hO.1.2]) hc k hk (hts _ hlink) (fun _ h9 => by rw [hTC k hk] at h9; exact h9) (by rw [hI]) (by rw [hI]; rfl) rfl rfl hl hdg (fun H1 locs1 hP hD hS => ?_)
  rw [hset, ← hO.1.2 cy ad, he] at hP hD
  exact kk H1 locs1 ⟨hP, hD, hS⟩
theorem rg_iald (fx : rFX rs p s m args meth c cc nL ret own D cy ad x) (hw : rWD rs D cy ad s M H locs) {q n : Nat} (hA : rA rs q n) {i : Int32} (hin : inB i n = true) (hdg : decode cc pc = .ok (.iaload, 1))
    (kk : W p l e R s m args below meth c H locs cells slots Q (F0 m (pc + 1) ls (.int (M q (ix i)) :: rest))) : W p l e R s m args below meth c H locs cells slots Q (F0 m pc ls (.int i :: .ref (ad q) :: rest)) := by
  obtain ⟨⟨hx, hb, hml, hown, hts⟩, -, -, hK, -⟩ := fx
  obtain ⟨j, hj⟩ := List.getElem?_of_mem hA.2
  exact va_iald hx hb hK hw.1 j 0 (by rw [wr_at hj, hA.1.2]) rfl (inB_in hin) hdg kk
theorem rg_ialdc (fx : rFX rs p s m args meth c cc nL ret own D cy ad x) (hw : rWD rs D cy ad s M H locs) {q n : Nat} (hA : rA rs q n) {i : Int32} {k : Nat} (hi : ix i = k) (hin : inB i n = true) (hdg : decode cc pc = .ok (.iaload, 1))
    (kk : W p l e R s m args below meth c H locs cells slots Q (F0 m (pc + 1) ls (.int (M q k) :: rest))) : W p l e R s m args below meth c H locs cells slots Q (F0 m pc ls (.int i :: .ref (ad q) :: rest)) := by
  subst hi
  exact rg_iald fx hw hA hin hdg kk
theorem rg_iast (fx : rFX rs p s m args meth c cc nL ret own D cy ad x) (hw : rWD rs D cy ad s M H locs) {q n : Nat} (hA : rA rs q n) {i v : Int32} {M' : Mem} (hin : inB i n = true) (hM : M' = mput M q (ix i) v) (hdg : decode cc pc = .ok (.iastore, 1))
    (kk : ∀ (H1 : Heap) (locs1 : List Loc), rWD rs D cy ad s M' H1 locs1 → W p l e R s m args below meth c H1 locs1 cells slots Q (F0 m (pc + 1) ls rest)) : W p l e R s m args below meth c H locs cells slots Q (F0 m pc ls (.int v :: .int i :: .ref (ad q) :: rest)) := by
  obtain ⟨⟨hx, hb, hml, hown, hts⟩, -, -, hK, -⟩ := fx
  obtain ⟨hP, hD, hS⟩ := hw
  obtain ⟨j, hj⟩ := List.getElem?_of_mem hA.2
  subst hM
  have he := wr_set hD hj (upd (M q) i.toNatClampNeg v)
  refine va_iast hx hb hK hP hD hS j 0 (by rw [wr_at hj, hA.1.2]) rfl (inB_in hin) hdg (fun H1 locs1 hP hD hS => ?_)
  rw [← hA.1.2 cy ad, he] at hP hD
  exact kk H1 locs1 ⟨hP, hD, hS⟩
theorem rg_iastc (fx : rFX rs p s m args meth c cc nL ret own D cy ad x) (hw : rWD rs D cy ad s M H locs) {q n : Nat} (hA : rA rs q n) {i v : Int32} {k : Nat} (hi : ix i = k) {M' : Mem} (hin : inB i n = true) (hM : M' = mput M q k v) (hdg : decode cc pc = .ok (.iastore, 1))
    (kk : ∀ (H1 : Heap) (locs1 : List Loc), rWD rs D cy ad s M' H1 locs1 → W p l e R s m args below meth c H1 locs1 cells slots Q (F0 m (pc + 1) ls rest)) : W p l e R s m args below meth c H locs cells slots Q (F0 m pc ls (.int v :: .int i :: .ref (ad q) :: rest)) := by
  subst hi
  exact rg_iast fx hw hA hin hM hdg kk
theorem rg_alen (fx : rFX rs p s m args meth c cc nL ret own D cy ad x) (hw : rWD rs D cy ad s M H locs) {q n : Nat} (hA : rA rs q n) {v : Int32} (hv : Int32.ofNat n = v) (hdg : decode cc pc = .ok (.arraylength, 1))
    (kk : W p l e R s m args below meth c H locs cells slots Q (F0 m (pc + 1) ls (.int v :: rest))) : W p l e R s m args below meth c H locs cells slots Q (F0 m pc ls (.ref (ad q) :: rest)) := by
  obtain ⟨⟨hx, hb, hml, hown, hts⟩, -, -, hK, -⟩ := fx
  obtain ⟨j, hj⟩ := List.getElem?_of_mem hA.2
  exact va_alen hx hb hK hw.1 j 0 (by rw [wr_at hj, hA.1.2]) rfl hv hdg kk
theorem rg_pre (fx : rFX rs p s m args meth c cc nL ret own D cy ad x) (hw : rWD rs D cy ad s M H locs) {av : List Value} : ∀ U : State, U.heap = H → s.WarmedH U.vm → rPcW rs D cy ad x H.size M av av.toArray U := by
  intro U hU hW
  obtain ⟨-, -, -, hK, hF⟩ := fx
  obtain ⟨hP, hD, hS⟩ := hw
  exact ⟨rfl, by rw [hU], by rw [hU]; exact hP, va_K.moved hW.alike hK, hD.weaken (fun _ _ _ _ => trivial)⟩
theorem rg_runV (fx : rFX rs p s m args meth c cc nL ret own D cy ad x) (hw : rWD rs D cy ad s M H locs) {ci q : Nat} {fs : (Nat → Nat) → (Nat → Int32) → List Value} (hO : rO rs ci q fs) {C : String} {T : u_T} {N : Nat} (hc : vwCl[ci]? = some (C, T, N))
    {y : MethodName} {bytes : ByteArray} {maxL fr lo mc ms n index : Nat} {rt : Option FieldType} {As : List Value} {Qc : Array Value → State → Outcome → State → Prop}
    (hM : Met l y (.code y bytes maxL rt :: GB) ({ frames := fr, cells := mc, slots := ms, locals := lo } : Room) (rPcW rs D cy ad x H.size M (.ref (ad q) :: As)) Qc mc ms (rAA rs ad H.size))
    (hl : Cond.methodLink own index y ∈ GB) (hi : Cond.instanceMethod y ∈ GB) (hs : Cond.selects C y y ∈ GB) (hini : Cond.initialized y.cls ∈ GB) (hcode : Cond.code y bytes maxL rt ∈ GB) (hd : y.cls ≠ "java/lang/invoke/MethodHandle" ∧ y.cls ≠ "java/lang/invoke/VarHandle" ∧ (parseMethodDescriptor y.desc).map (fun d => d.parameters.length) = some n) (hn : As.length = n)
    (hst : st0 = As.reverse ++ .ref (ad q) :: rest) (hcat : (rest.map fun v => v.category).sum ≤ 8) (hsz : ls.size = nL) (hR : fr + 1 ≤ R.frames ∧ 8 + (maxL + 11) + lo ≤ R.locals) (hf : cells + mc ≤ R.cells ∧ slots + ms ≤ R.slots) (hdg : decode cc pc = .ok (.invokevirtual index, 3)) :
    va_Run p l e R s m args below meth c H locs cells slots mc ms (F0 m pc ls st0) rest (Qc (Value.ref (ad q) :: As).toArray) (rAA rs ad H.size) := by
  have hpre := rg_pre fx hw (av := .ref (ad q) :: As)
  obtain ⟨S, -, -, hK, hF⟩ := fx
  have hts := S.2.2.2.2
  obtain ⟨j, hj⟩ := List.getElem?_of_mem hO.2
  exact va_runV (C := C) (As := As) (rest := rest) S hM ⟨cwG hts hl hini hcode hd hR, hts _ hi, hts _ hs⟩ ⟨rPcW_blind, va_recv hK hw.1 hc (show (wr rs cy ad M)[j]? = some (ad q, .inr (ci, fs ad (M q))) by rw [wr_at hj, hO.1.2]), hpre⟩ rfl hn hsz hst (lv_room hcat) hdg hf
theorem rg_runS (fx : rFX rs p s m args meth c cc nL ret own D cy ad x) (hw : rWD rs D cy ad s M H locs)
    {y : MethodName} {bytes : ByteArray} {maxL fr lo mc ms n index : Nat} {rt : Option FieldType} {As : List Value} {Qc : Array Value → State → Outcome → State → Prop}
    (hM : Met l y (.code y bytes maxL rt :: GB) ({ frames := fr, cells := mc, slots := ms, locals := lo } : Room) (rPcW rs D cy ad x H.size M As) Qc mc ms (rAA rs ad H.size))
    (hl : Cond.methodLink own index y ∈ GB) (hi : Cond.static y ∈ GB) (hini : Cond.initialized y.cls ∈ GB) (hcode : Cond.code y bytes maxL rt ∈ GB) (hd : y.cls ≠ "java/lang/invoke/MethodHandle" ∧ y.cls ≠ "java/lang/invoke/VarHandle" ∧ (parseMethodDescriptor y.desc).map (fun d => d.parameters.length) = some n) (hn : As.length = n)
    (hst : st0 = As.reverse ++ rest) (hcat : (rest.map fun v => v.category).sum ≤ 8) (hsz : ls.size = nL) (hR : fr + 1 ≤ R.frames ∧ 8 + (maxL + 11) + lo ≤ R.locals) (hf : cells + mc ≤ R.cells ∧ slots + ms ≤ R.slots) (hdg : decode cc pc = .ok (.invokestatic index, 3)) :
    va_Run p l e R s m args below meth c H locs cells slots mc ms (F0 m pc ls st0) rest (Qc As.toArray) (rAA rs ad H.size) := by
  have hpre := rg_pre fx hw (av := As)
  obtain ⟨S, -, -, hK, hF⟩ := fx
  have hts := S.2.2.2.2
  exact va_runS (As := As) (rest := rest) S hM ⟨cwG hts hl hini hcode hd hR, hts _ hi⟩ ⟨rPcW_blind, hpre⟩ rfl hn hsz hst (lv_room hcat) hdg hf
theorem rg_ci (hw : rWD rs D cy ad s M H locs) {mc ms : Nat} {z : Int32} {M' : Mem} {a : Array Value} (hr : va_Run p l e R s m args below meth c H locs cells slots mc ms (F0 m pc ls st0) rest (rQiW rs D cy ad H.size z M' a) (rAA rs ad H.size))
    (kk : ∀ (H1 : Heap) (locs1 : List Loc), rWD rs D cy ad s M' H1 locs1 → W p l e R s m args below meth c H1 locs1 (cells + mc) (slots + ms) Q (F0 m (pc + 3) ls (.int z :: rest))) : W p l e R s m args below meth c H locs cells slots Q (F0 m pc ls st0) := by
  obtain ⟨hP, hD, hS⟩ := hw
  refine va_calli hr hS (fun q _ h => rAA_mono hS.1 h) (fun q h => rAA_mono hS.1 h) (fun r u t H1 locs1 ht hvm hw' hB hz1 hk1 hS1 => ?_)
  subst hw'
  obtain ⟨hP1, hK1, hD1⟩ := hB
  rw [ht] at hP1
  exact kk H1 locs1 ⟨hP1, wr_D hD1, hS1⟩
theorem rg_cv (hw : rWD rs D cy ad s M H locs) {mc ms : Nat} {M' : Mem} {a : Array Value} (hr : va_Run p l e R s m args below meth c H locs cells slots mc ms (F0 m pc ls st0) rest (rQvW rs D cy ad H.size M' a) (rAA rs ad H.size))
    (kk : ∀ (H1 : Heap) (locs1 : List Loc), rWD rs D cy ad s M' H1 locs1 → W p l e R s m args below meth c H1 locs1 (cells + mc) (slots + ms) Q (F0 m (pc + 3) ls rest)) : W p l e R s m args below meth c H locs cells slots Q (F0 m pc ls st0) := by
  obtain ⟨hP, hD, hS⟩ := hw
  refine va_callv hr hS (fun q _ h => rAA_mono hS.1 h) (fun q h => rAA_mono hS.1 h) (fun u t H1 locs1 ht hvm hw' hB hz1 hk1 hS1 => ?_)
  obtain ⟨hP1, hK1, hD1⟩ := hB
  rw [ht] at hP1
  exact kk H1 locs1 ⟨hP1, wr_D hD1, hS1⟩
theorem rgX1_get (fx : rFX rs p s m args meth c cc nL ret own D cy ad x) (hw : rWD rs D cy ad s M H locs) {q : Nat} {fs : (Nat → Nat) → (Nat → Int32) → List Value} (hO : rO rs 1 q fs) (k : Nat) (hk : k < 18) {index : Nat} (hlink : Cond.fieldLink own index RX1 (TX1 k).2.1 (TX1 k).2.2.1 ∈ GB) {v : Value} (hv : (fs ad (M q))[k]? = some v) (hdg : decode cc pc = .ok (.getfield index, 3))
    (kk : W p l e R s m args below meth c H locs cells slots Q (F0 m (pc + 3) ls (v :: rest))) : W p l e R s m args below meth c H locs cells slots Q (F0 m pc ls (.ref (ad q) :: rest)) := rg_get fx hw hO rfl iX1 tcX1 k hk hlink hv hdg kk
theorem rgX1_put (fx : rFX rs p s m args meth c cc nL ret own D cy ad x) (hw : rWD rs D cy ad s M H locs) {q : Nat} {fs : (Nat → Nat) → (Nat → Int32) → List Value} (hO : rO rs 1 q fs) (k : Nat) (hk : k < 18) {index : Nat} (hlink : Cond.fieldLink own index RX1 (TX1 k).2.1 (TX1 k).2.2.1 ∈ GB) (hI : (TX1 k).2.2 = ("I", false)) {v : Int32} {M' : Mem} (hM : M' = mput M q k v) (hset : (fs ad (M q)).set k (.int v) = fs ad (upd (M q) k v)) (hl : k < (fs ad (M q)).length) (hdg : decode cc pc = .ok (.putfield index, 3))
    (kk : ∀ (H1 : Heap) (locs1 : List Loc), rWD rs D cy ad s M' H1 locs1 → W p l e R s m args below meth c H1 locs1 cells slots Q (F0 m (pc + 3) ls rest)) : W p l e R s m args below meth c H locs cells slots Q (F0 m pc ls (.int v :: .ref (ad q) :: rest)) := rg_put fx hw hO rfl iX1 tcX1 tyX1 tyX1_ok nmX1 k hk hlink hI hM hset hl hdg kk
theorem rgX6_get (fx : rFX rs p s m args meth c cc nL ret own D cy ad x) (hw : rWD rs D cy ad s M H locs) {q : Nat} {fs : (Nat → Nat) → (Nat → Int32) → List Value} (hO : rO rs 5 q fs) (k : Nat) (hk : k < 19) {index : Nat} (hlink : Cond.fieldLink own index RX6 (TX6 k).2.1 (TX6 k).2.2.1 ∈ GB) {v : Value} (hv : (fs ad (M q))[k]? = some v) (hdg : decode cc pc = .ok (.getfield index, 3))
    (kk : W p l e R s m args below meth c H locs cells slots Q (F0 m (pc + 3) ls (v :: rest))) : W p l e R s m args below meth c H locs cells slots Q (F0 m pc ls (.ref (ad q) :: rest)) := rg_get fx hw hO rfl iX6 tcX6 k hk hlink hv hdg kk
end RROWS
/-! a house alone -/
def rH (rs : List Nat) (o : Nat) : Prop := isH o ∧ ∀ j, j < 13 → o + j ∈ rs
theorem rH.O {rs : List Nat} {o : Nat} (h : rH rs o) : rO rs 1 o (fH o) := ⟨h.1.O, h.2 0 (by decide)⟩
theorem rH.arr {rs : List Nat} {o : Nat} (h : rH rs o) (j : Nat) (hj : j < 12) {n : Nat} (hn : hlen j = n) : rA rs (o + (j + 1)) n := ⟨h.1.arr j hj hn, h.2 (j + 1) (by omega)⟩
theorem rH.a1 {rs : List Nat} {o : Nat} (h : rH rs o) : rA rs (o + 1) 12 := h.arr 0 (by decide) rfl
theorem rH.a2 {rs : List Nat} {o : Nat} (h : rH rs o) : rA rs (o + 2) 12 := h.arr 1 (by decide) rfl
theorem rH.a3 {rs : List Nat} {o : Nat} (h : rH rs o) : rA rs (o + 3) 12 := h.arr 2 (by decide) rfl
theorem rH.a4 {rs : List Nat} {o : Nat} (h : rH rs o) : rA rs (o + 4) 12 := h.arr 3 (by decide) rfl
theorem rH.a5 {rs : List Nat} {o : Nat} (h : rH rs o) : rA rs (o + 5) 12 := h.arr 4 (by decide) rfl
theorem rH.a6 {rs : List Nat} {o : Nat} (h : rH rs o) : rA rs (o + 6) 12 := h.arr 5 (by decide) rfl
theorem rH.a7 {rs : List Nat} {o : Nat} (h : rH rs o) : rA rs (o + 7) 12 := h.arr 6 (by decide) rfl
theorem rH.a8 {rs : List Nat} {o : Nat} (h : rH rs o) : rA rs (o + 8) 12 := h.arr 7 (by decide) rfl
theorem rH.a9 {rs : List Nat} {o : Nat} (h : rH rs o) : rA rs (o + 9) 8 := h.arr 8 (by decide) rfl
theorem rH.a10 {rs : List Nat} {o : Nat} (h : rH rs o) : rA rs (o + 10) 8 := h.arr 9 (by decide) rfl
theorem rH.a11 {rs : List Nat} {o : Nat} (h : rH rs o) : rA rs (o + 11) 24 := h.arr 10 (by decide) rfl
theorem rH.a12 {rs : List Nat} {o : Nat} (h : rH rs o) : rA rs (o + 12) 14 := h.arr 11 (by decide) rfl
section SMALL
variable {rs : List Nat}
set_option maxHeartbeats 4000000 in
set_option maxRecDepth 100000 in
theorem sb_J7_fill_53178 {p : Program} {l : Launch} {e : Env} {R : Room} {s : State} {m : MethodId} {args : Array Value} {below : List Frame} {meth : Method} {c : Code} {Q : State → Prop} {D : va_G} {cy : Nat → ClassId} {ad : Nat → Nat} {x : SX} (fx : rFX rs p s m args meth c cJ7_fill_53178 4 none RJ7 D cy ad x) (hR : 0 ≤ R.frames ∧ 0 ≤ R.locals ∧ 0 ≤ R.cells ∧ 0 ≤ R.slots) (n1 q1 : Nat) (hq1 : rA rs q1 n1) (p2 : Int32) (M : Mem) (M' : Mem) (hF : f_J7_fill_53178 n1 q1 p2 M = some M') (E : ∀ (pc : Nat) (ls : Array Slot) (H : Heap) (locs : List Loc) (M1 : Mem), decode cJ7_fill_53178 pc = .ok (.return_, 1) → rWD rs D cy ad s M1 H locs → some M1 = some M' → W p l e R s m args below meth c H locs 0 0 Q (F0 m pc ls [])) (H : Heap) (locs : List Loc) (ls : Array Slot) (hl : lv_has ls 4 [(0, .ref (ad q1)), (1, .int p2)]) (hw : rWD rs D cy ad s M H locs) : W p l e R s m args below meth c H locs 0 0 Q (F0 m 0 ls []) := by
  have hx := fx.1.1
  have hb := fx.1.2.1
  have hown := fx.1.2.2.2.1
  have hts := fx.1.2.2.2.2
  have n_5 : ∀ (n9 : Nat), ∀ (a1 : Int32) (a2 : Int32) (a3 : Int32) (M : Mem) (H : Heap) (locs : List Loc) (ls : Array Slot), lv_has ls 4 [(0, .ref (ad q1)), (1, .int a1), (2, .int a2), (3, .int a3)] → rWD rs D cy ad s M H locs → (lp (fun _ _ _ _ => none) (f_J7_fill_53178_5 n1 q1) n9) a1 a2 a3 M = some M' → W p l e R s m args below meth c H locs 0 0 Q (F0 m 5 ls []) := by
    intro n9
    refine lp_ind (fun (rec5 : Int32 → Int32 → Int32 → Mem → Option Mem) => ∀ (a1 : Int32) (a2 : Int32) (a3 : Int32) (M : Mem) (H : Heap) (locs : List Loc) (ls : Array Slot), lv_has ls 4 [(0, .ref (ad q1)), (1, .int a1), (2, .int a2), (3, .int a3)] → rWD rs D cy ad s M H locs → rec5 a1 a2 a3 M = some M' → W p l e R s m args below meth c H locs 0 0 Q (F0 m 5 ls [])) ?_ ?_ n9
    · intro a1 a2 a3 M H locs ls hl hw hF
      exact nomatch hF
    · intro rec5 hr5 a1 a2 a3 M H locs ls hl hw hF
      unfold f_J7_fill_53178_5 at hF
      refine lv_iload_n hx hb dJ7_fill_53178_5 rfl (lv_at hl 2 rfl) ?_
      refine lv_iload_n hx hb dJ7_fill_53178_6 rfl (lv_at hl 3 rfl) ?_
      refine lv_icmp_ge (tgt := 20) hx hb dJ7_fill_53178_7 (by decide) (fun hc7 => ?_) (fun hc7 => ?_)
      · replace hF := st_t hc7 hF
        exact E _ _ _ _ _ dJ7_fill_53178_20 hw hF
      · replace hF := st_f hc7 hF
        refine lv_aload_n hx hb dJ7_fill_53178_10 rfl (lv_at hl 0 rfl) ?_
        refine lv_iload_n hx hb dJ7_fill_53178_11 rfl (lv_at hl 2 rfl) ?_
        refine lv_iload_n hx hb dJ7_fill_53178_12 rfl (lv_at hl 1 rfl) ?_
        obtain ⟨hi6, hF⟩ := st_chk hF
        obtain ⟨M5, eM5, hF⟩ := st_letM hF
        refine rg_iast fx hw hq1 hi6 eM5 dJ7_fill_53178_13 (fun H locs hw => ?_)
        refine lv_iinc (v := (a2 + 1)) (lv' := [(2, .int (a2 + 1)), (0, .ref (ad q1)), (1, .int a1), (3, .int a3)]) hx hb dJ7_fill_53178_14 hl (k := 2) rfl rfl (by decide) rfl (fun ls hl => ?_)
        refine lv_goto (tgt := 5) hx hb dJ7_fill_53178_17 (by decide) ?_
        exact hr5 a1 (a2 + 1) a3 M5 H locs ls (lv_sub hl [1, 2, 0, 3] rfl) hw hF
  unfold f_J7_fill_53178 at hF
  refine lv_iconst (v := 0) hx hb dJ7_fill_53178_0 (by decide) ?_
  refine lv_istore_n (lv' := [(2, .int 0), (0, .ref (ad q1)), (1, .int p2)]) hx hb dJ7_fill_53178_1 rfl hl (by decide) rfl (fun ls hl => ?_)
  refine lv_aload_n hx hb dJ7_fill_53178_2 rfl (lv_at hl 1 rfl) ?_
  refine rg_alen (v := (nI n1)) fx hw hq1 rfl dJ7_fill_53178_3 ?_
  refine lv_istore_n (lv' := [(3, .int (nI n1)), (2, .int 0), (0, .ref (ad q1)), (1, .int p2)]) hx hb dJ7_fill_53178_4 rfl hl (by decide) rfl (fun ls hl => ?_)
  exact n_5 FU p2 0 (nI n1) M H locs ls (lv_sub hl [2, 3, 1, 0] rfl) hw hF
theorem sc_J7_fill_53178 (l : Launch) (x : SX) (D : va_G) (cy : Nat → ClassId) (ad : Nat → Nat) (n1 q1 : Nat) (hq1 : rA rs q1 n1) (p2 : Int32) (sz : Nat) (M : Mem) (M' : Mem) (hF : f_J7_fill_53178 n1 q1 p2 M = some M') : Met l yJ7_fill_53178 (.code yJ7_fill_53178 cJ7_fill_53178 4 none :: GB) ({ frames := 0, cells := 0, slots := 0, locals := 0 } : Room) (rPcW rs D cy ad x sz M [.ref (ad q1), .int p2]) (rQvW rs D cy ad sz M') 0 0 (rAA rs ad sz) := by
  refine r_mk_m (own := RJ7) (by decide) rfl (Nat.le_of_ble_eq_true rfl) ?_
  intro p e s m args below meth c ls fx hw hl hsz
  subst hsz
  exact sb_J7_fill_53178 fx ⟨Nat.le_refl _, Nat.le_refl _, Nat.le_refl _, Nat.le_refl _⟩ n1 q1 hq1 p2 M M' hF (fun pc ls H locs M1 hd hw h => by cases h; exact rg_vret fx hw hd) _ _ ls hl hw
set_option maxHeartbeats 4000000 in
set_option maxRecDepth 100000 in
theorem sb_X2_with {p : Program} {l : Launch} {e : Env} {R : Room} {s : State} {m : MethodId} {args : Array Value} {below : List Frame} {meth : Method} {c : Code} {Q : State → Prop} {D : va_G} {cy : Nat → ClassId} {ad : Nat → Nat} {x : SX} (fx : rFX rs p s m args meth c cX2_with 2 (some .int) RX2 D cy ad x) (hR : 0 ≤ R.frames ∧ 0 ≤ R.locals ∧ 0 ≤ R.cells ∧ 0 ≤ R.slots) (p1 p2 : Int32) (M : Mem) (z : Int32) (hF : f_X2_with p1 p2 M = some z) (E : ∀ (pc : Nat) (ls : Array Slot) (H : Heap) (locs : List Loc) (v : Int32), decode cX2_with pc = .ok (.ireturn, 1) → rWD rs D cy ad s M H locs → some v = some z → W p l e R s m args below meth c H locs 0 0 Q (F0 m pc ls [.int v])) (H : Heap) (locs : List Loc) (ls : Array Slot) (hl : lv_has ls 2 [(0, .int p1), (1, .int p2)]) (hw : rWD rs D cy ad s M H locs) : W p l e R s m args below meth c H locs 0 0 Q (F0 m 0 ls []) := by
  have hx := fx.1.1
  have hb := fx.1.2.1
  have hown := fx.1.2.2.2.1
  have hts := fx.1.2.2.2.2
  unfold f_X2_with at hF
  refine lv_iload_n hx hb dX2_with_0 rfl (lv_at hl 0 rfl) ?_
  refine lv_iconst (v := 5) hx hb dX2_with_1 (by decide) ?_
  refine g_ishl hx hb dX2_with_2 ?_
  refine lv_iload_n hx hb dX2_with_3 rfl (lv_at hl 1 rfl) ?_
  refine lv_bipush (v := 96) hx hb dX2_with_4 (by decide) ?_
  refine lv_isub hx hb dX2_with_6 ?_
  refine lv_ior hx hb dX2_with_7 ?_
  exact E _ _ _ _ _ dX2_with_8 hw hF
theorem sc_X2_with (l : Launch) (x : SX) (D : va_G) (cy : Nat → ClassId) (ad : Nat → Nat) (p1 p2 : Int32) (sz : Nat) (M : Mem) (z : Int32) (hF : f_X2_with p1 p2 M = some z) : Met l yX2_with (.code yX2_with cX2_with 2 (some .int) :: GB) ({ frames := 0, cells := 0, slots := 0, locals := 0 } : Room) (rPcW rs D cy ad x sz M [.int p1, .int p2]) (rQiW rs D cy ad sz z M) 0 0 (rAA rs ad sz) := by
  refine r_mk_m (own := RX2) (by decide) rfl (Nat.le_of_ble_eq_true rfl) ?_
  intro p e s m args below meth c ls fx hw hl hsz
  subst hsz
  exact sb_X2_with fx ⟨Nat.le_refl _, Nat.le_refl _, Nat.le_refl _, Nat.le_refl _⟩ p1 p2 M z hF (fun pc ls H locs v hd hw h => by cases h; exact rg_iret fx hw rfl hd) _ _ ls hl hw
set_option maxHeartbeats 4000000 in
set_option maxRecDepth 100000 in
theorem sb_X1_clear {p : Program} {l : Launch} {e : Env} {R : Room} {s : State} {m : MethodId} {args : Array Value} {below : List Frame} {meth : Method} {c : Code} {Q : State → Prop} {D : va_G} {cy : Nat → ClassId} {ad : Nat → Nat} {x : SX} (fx : rFX rs p s m args meth c cX1_clear 1 none RX1 D cy ad x) (hR : 1 ≤ R.frames ∧ 23 ≤ R.locals ∧ 0 ≤ R.cells ∧ 0 ≤ R.slots) (o : Nat) (ho : rH rs o) (M : Mem) (M' : Mem) (hF : f_X1_clear o M = some M') (E : ∀ (pc : Nat) (ls : Array Slot) (H : Heap) (locs : List Loc) (M1 : Mem), decode cX1_clear pc = .ok (.return_, 1) → rWD rs D cy ad s M1 H locs → some M1 = some M' → W p l e R s m args below meth c H locs 0 0 Q (F0 m pc ls [])) (H : Heap) (locs : List Loc) (ls : Array Slot) (hl : lv_has ls 1 [(0, .ref (ad o))]) (hw : rWD rs D cy ad s M H locs) : W p l e R s m args below meth c H locs 0 0 Q (F0 m 0 ls []) := by
  have hx := fx.1.1
  have hb := fx.1.2.1
  have hown := fx.1.2.2.2.1
  have hts := fx.1.2.2.2.2
  unfold f_X1_clear at hF
  refine lv_aload_n hx hb dX1_clear_0 rfl (lv_at hl 0 rfl) ?_
  refine lv_iconst (v := 0) hx hb dX1_clear_1 (by decide) ?_
  obtain ⟨M11, eM11, hF⟩ := st_letM hF
  refine rgX1_put fx hw ho.O 12 (by decide) wd1_61 rfl eM11 rfl (Nat.le_of_ble_eq_true rfl) dX1_clear_2 (fun H locs hw => ?_)
  refine lv_aload_n hx hb dX1_clear_5 rfl (lv_at hl 0 rfl) ?_
  refine lv_iconst (v := 0) hx hb dX1_clear_6 (by decide) ?_
  obtain ⟨M12, eM12, hF⟩ := st_letM hF
  refine rgX1_put fx hw ho.O 13 (by decide) wd1_63 rfl eM12 rfl (Nat.le_of_ble_eq_true rfl) dX1_clear_7 (fun H locs hw => ?_)
  refine lv_aload_n hx hb dX1_clear_10 rfl (lv_at hl 0 rfl) ?_
  refine lv_bipush (v := 20) hx hb dX1_clear_11 (by decide) ?_
  obtain ⟨M13, eM13, hF⟩ := st_letM hF
  refine rgX1_put fx hw ho.O 14 (by decide) wd1_66 rfl eM13 rfl (Nat.le_of_ble_eq_true rfl) dX1_clear_13 (fun H locs hw => ?_)
  refine lv_aload_n hx hb dX1_clear_16 rfl (lv_at hl 0 rfl) ?_
  refine lv_bipush (v := 10) hx hb dX1_clear_17 (by decide) ?_
  obtain ⟨M14, eM14, hF⟩ := st_letM hF
  refine rgX1_put fx hw ho.O 15 (by decide) wd1_69 rfl eM14 rfl (Nat.le_of_ble_eq_true rfl) dX1_clear_19 (fun H locs hw => ?_)
  refine lv_aload_n hx hb dX1_clear_22 rfl (lv_at hl 0 rfl) ?_
  refine lv_iconst (v := 0) hx hb dX1_clear_23 (by decide) ?_
  obtain ⟨M15, eM15, hF⟩ := st_letM hF
  refine rgX1_put fx hw ho.O 16 (by decide) wd1_72 rfl eM15 rfl (Nat.le_of_ble_eq_true rfl) dX1_clear_24 (fun H locs hw => ?_)
  refine lv_aload_n hx hb dX1_clear_27 rfl (lv_at hl 0 rfl) ?_
  refine lv_iconst (v := 0) hx hb dX1_clear_28 (by decide) ?_
  obtain ⟨M16, eM16, hF⟩ := st_letM hF
  refine rgX1_put fx hw ho.O 17 (by decide) wd1_74 rfl eM16 rfl (Nat.le_of_ble_eq_true rfl) dX1_clear_29 (fun H locs hw => ?_)
  refine lv_aload_n hx hb dX1_clear_32 rfl (lv_at hl 0 rfl) ?_
  refine rgX1_get fx hw ho.O 10 (by decide) wd1_56 rfl dX1_clear_33 ?_
  refine lv_iconst (v := 0) hx hb dX1_clear_36 (by decide) ?_
  obtain ⟨M18, hgr17, hF⟩ := st_bnd hF
  refine rg_cv hw (rg_runS (As := [.ref (ad (o + 11)), .int 0]) (rest := []) fx hw (sc_J7_fill_53178 l x D cy ad 24 (o + 11) ho.a11 0 H.size M16 M18 hgr17) wd1_122 wd1_123 wd1_3 wd1_124 yd_J7_fill_53178 rfl rfl (Nat.le_of_ble_eq_true rfl) hl.1 ⟨Nat.le_trans (Nat.le_of_ble_eq_true rfl) hR.1, Nat.le_trans (Nat.le_of_ble_eq_true rfl) hR.2.1⟩ ⟨Nat.le_trans (Nat.le_of_ble_eq_true rfl) hR.2.2.1, Nat.le_trans (Nat.le_of_ble_eq_true rfl) hR.2.2.2⟩ dX1_clear_37) (fun H locs hw => ?_)
  refine lv_aload_n hx hb dX1_clear_40 rfl (lv_at hl 0 rfl) ?_
  refine rgX1_get fx hw ho.O 11 (by decide) wd1_59 rfl dX1_clear_41 ?_
  refine lv_iconst (v := 0) hx hb dX1_clear_44 (by decide) ?_
  obtain ⟨M20, hgr19, hF⟩ := st_bnd hF
  refine rg_cv hw (rg_runS (As := [.ref (ad (o + 12)), .int 0]) (rest := []) fx hw (sc_J7_fill_53178 l x D cy ad 14 (o + 12) ho.a12 0 H.size M18 M20 hgr19) wd1_122 wd1_123 wd1_3 wd1_124 yd_J7_fill_53178 rfl rfl (Nat.le_of_ble_eq_true rfl) hl.1 ⟨Nat.le_trans (Nat.le_of_ble_eq_true rfl) hR.1, Nat.le_trans (Nat.le_of_ble_eq_true rfl) hR.2.1⟩ ⟨Nat.le_trans (Nat.le_of_ble_eq_true rfl) hR.2.2.1, Nat.le_trans (Nat.le_of_ble_eq_true rfl) hR.2.2.2⟩ dX1_clear_45) (fun H locs hw => ?_)
  exact E _ _ _ _ _ dX1_clear_48 hw hF
theorem sc_X1_clear (l : Launch) (x : SX) (D : va_G) (cy : Nat → ClassId) (ad : Nat → Nat) (o : Nat) (ho : rH rs o) (sz : Nat) (M : Mem) (M' : Mem) (hF : f_X1_clear o M = some M') : Met l yX1_clear (.code yX1_clear cX1_clear 1 none :: GB) ({ frames := 1, cells := 0, slots := 0, locals := 23 } : Room) (rPcW rs D cy ad x sz M [.ref (ad o)]) (rQvW rs D cy ad sz M') 0 0 (rAA rs ad sz) := by
  refine r_mk_m (own := RX1) (by decide) rfl (Nat.le_of_ble_eq_true rfl) ?_
  intro p e s m args below meth c ls fx hw hl hsz
  subst hsz
  exact sb_X1_clear fx ⟨Nat.le_refl _, Nat.le_refl _, Nat.le_refl _, Nat.le_refl _⟩ o ho M M' hF (fun pc ls H locs M1 hd hw h => by cases h; exact rg_vret fx hw hd) _ _ ls hl hw
set_option maxHeartbeats 4000000 in
set_option maxRecDepth 100000 in
theorem sb_X1_addNeed {p : Program} {l : Launch} {e : Env} {R : Room} {s : State} {m : MethodId} {args : Array Value} {below : List Frame} {meth : Method} {c : Code} {Q : State → Prop} {D : va_G} {cy : Nat → ClassId} {ad : Nat → Nat} {x : SX} (fx : rFX rs p s m args meth c cX1_addNeed 3 none RX1 D cy ad x) (hR : 0 ≤ R.frames ∧ 0 ≤ R.locals ∧ 0 ≤ R.cells ∧ 0 ≤ R.slots) (o : Nat) (ho : rH rs o) (p1 p2 : Int32) (M : Mem) (M' : Mem) (hF : f_X1_addNeed o p1 p2 M = some M') (E : ∀ (pc : Nat) (ls : Array Slot) (H : Heap) (locs : List Loc) (M1 : Mem), decode cX1_addNeed pc = .ok (.return_, 1) → rWD rs D cy ad s M1 H locs → some M1 = some M' → W p l e R s m args below meth c H locs 0 0 Q (F0 m pc ls [])) (H : Heap) (locs : List Loc) (ls : Array Slot) (hl : lv_has ls 3 [(0, .ref (ad o)), (1, .int p1), (2, .int p2)]) (hw : rWD rs D cy ad s M H locs) : W p l e R s m args below meth c H locs 0 0 Q (F0 m 0 ls []) := by
  have hx := fx.1.1
  have hb := fx.1.2.1
  have hown := fx.1.2.2.2.1
  have hts := fx.1.2.2.2.2
  unfold f_X1_addNeed at hF
  refine lv_aload_n hx hb dX1_addNeed_0 rfl (lv_at hl 0 rfl) ?_
  refine rgX1_get fx hw ho.O 13 (by decide) wd1_63 rfl dX1_addNeed_1 ?_
  refine lv_bipush (v := 8) hx hb dX1_addNeed_4 (by decide) ?_
  refine lv_icmp_ge (tgt := 39) hx hb dX1_addNeed_6 (by decide) (fun hc6 => ?_) (fun hc6 => ?_)
  · replace hF := st_t hc6 hF
    exact E _ _ _ _ _ dX1_addNeed_39 hw hF
  · replace hF := st_f hc6 hF
    refine lv_aload_n hx hb dX1_addNeed_9 rfl (lv_at hl 0 rfl) ?_
    refine rgX1_get fx hw ho.O 8 (by decide) wd1_52 rfl dX1_addNeed_10 ?_
    refine lv_aload_n hx hb dX1_addNeed_13 rfl (lv_at hl 0 rfl) ?_
    refine rgX1_get fx hw ho.O 13 (by decide) wd1_63 rfl dX1_addNeed_14 ?_
    refine lv_iload_n hx hb dX1_addNeed_17 rfl (lv_at hl 1 rfl) ?_
    obtain ⟨hi7, hF⟩ := st_chk hF
    obtain ⟨M6, eM6, hF⟩ := st_letM hF
    refine rg_iast fx hw ho.a9 hi7 eM6 dX1_addNeed_18 (fun H locs hw => ?_)
    refine lv_aload_n hx hb dX1_addNeed_19 rfl (lv_at hl 0 rfl) ?_
    refine rgX1_get fx hw ho.O 9 (by decide) wd1_54 rfl dX1_addNeed_20 ?_
    refine lv_aload_n hx hb dX1_addNeed_23 rfl (lv_at hl 0 rfl) ?_
    refine rgX1_get fx hw ho.O 13 (by decide) wd1_63 rfl dX1_addNeed_24 ?_
    refine lv_iload_n hx hb dX1_addNeed_27 rfl (lv_at hl 2 rfl) ?_
    obtain ⟨hi9, hF⟩ := st_chk hF
    obtain ⟨M8, eM8, hF⟩ := st_letM hF
    refine rg_iast fx hw ho.a10 hi9 eM8 dX1_addNeed_28 (fun H locs hw => ?_)
    refine lv_aload_n hx hb dX1_addNeed_29 rfl (lv_at hl 0 rfl) ?_
    refine lv_dup hx hb dX1_addNeed_30 rfl ?_
    refine rgX1_get fx hw ho.O 13 (by decide) wd1_63 rfl dX1_addNeed_31 ?_
    refine lv_iconst (v := 1) hx hb dX1_addNeed_34 (by decide) ?_
    refine lv_iadd hx hb dX1_addNeed_35 ?_
    obtain ⟨M10, eM10, hF⟩ := st_letM hF
    refine rgX1_put fx hw ho.O 13 (by decide) wd1_63 rfl eM10 rfl (Nat.le_of_ble_eq_true rfl) dX1_addNeed_36 (fun H locs hw => ?_)
    exact E _ _ _ _ _ dX1_addNeed_39 hw hF
theorem sc_X1_addNeed (l : Launch) (x : SX) (D : va_G) (cy : Nat → ClassId) (ad : Nat → Nat) (o : Nat) (ho : rH rs o) (p1 p2 : Int32) (sz : Nat) (M : Mem) (M' : Mem) (hF : f_X1_addNeed o p1 p2 M = some M') : Met l yX1_addNeed (.code yX1_addNeed cX1_addNeed 3 none :: GB) ({ frames := 0, cells := 0, slots := 0, locals := 0 } : Room) (rPcW rs D cy ad x sz M [.ref (ad o), .int p1, .int p2]) (rQvW rs D cy ad sz M') 0 0 (rAA rs ad sz) := by
  refine r_mk_m (own := RX1) (by decide) rfl (Nat.le_of_ble_eq_true rfl) ?_
  intro p e s m args below meth c ls fx hw hl hsz
  subst hsz
  exact sb_X1_addNeed fx ⟨Nat.le_refl _, Nat.le_refl _, Nat.le_refl _, Nat.le_refl _⟩ o ho p1 p2 M M' hF (fun pc ls H locs M1 hd hw h => by cases h; exact rg_vret fx hw hd) _ _ ls hl hw
set_option maxHeartbeats 4000000 in
set_option maxRecDepth 100000 in
theorem sb_X1_addMonk {p : Program} {l : Launch} {e : Env} {R : Room} {s : State} {m : MethodId} {args : Array Value} {below : List Frame} {meth : Method} {c : Code} {Q : State → Prop} {D : va_G} {cy : Nat → ClassId} {ad : Nat → Nat} {x : SX} (fx : rFX rs p s m args meth c cX1_addMonk 4 none RX1 D cy ad x) (hR : 0 ≤ R.frames ∧ 0 ≤ R.locals ∧ 0 ≤ R.cells ∧ 0 ≤ R.slots) (o : Nat) (ho : rH rs o) (p1 p2 p3 : Int32) (M : Mem) (M' : Mem) (hF : f_X1_addMonk o p1 p2 p3 M = some M') (E : ∀ (pc : Nat) (ls : Array Slot) (H : Heap) (locs : List Loc) (M1 : Mem), decode cX1_addMonk pc = .ok (.return_, 1) → rWD rs D cy ad s M1 H locs → some M1 = some M' → W p l e R s m args below meth c H locs 0 0 Q (F0 m pc ls [])) (H : Heap) (locs : List Loc) (ls : Array Slot) (hl : lv_has ls 4 [(0, .ref (ad o)), (1, .int p1), (2, .int p2), (3, .int p3)]) (hw : rWD rs D cy ad s M H locs) : W p l e R s m args below meth c H locs 0 0 Q (F0 m 0 ls []) := by
  have hx := fx.1.1
  have hb := fx.1.2.1
  have hown := fx.1.2.2.2.1
  have hts := fx.1.2.2.2.2
  unfold f_X1_addMonk at hF
  refine lv_aload_n hx hb dX1_addMonk_0 rfl (lv_at hl 0 rfl) ?_
  refine rgX1_get fx hw ho.O 12 (by decide) wd1_61 rfl dX1_addMonk_1 ?_
  refine lv_bipush (v := 12) hx hb dX1_addMonk_4 (by decide) ?_
  refine lv_icmp_ge (tgt := 99) hx hb dX1_addMonk_6 (by decide) (fun hc6 => ?_) (fun hc6 => ?_)
  · replace hF := st_t hc6 hF
    exact E _ _ _ _ _ dX1_addMonk_99 hw hF
  · replace hF := st_f hc6 hF
    refine lv_aload_n hx hb dX1_addMonk_9 rfl (lv_at hl 0 rfl) ?_
    refine rgX1_get fx hw ho.O 0 (by decide) wd1_36 rfl dX1_addMonk_10 ?_
    refine lv_aload_n hx hb dX1_addMonk_13 rfl (lv_at hl 0 rfl) ?_
    refine rgX1_get fx hw ho.O 12 (by decide) wd1_61 rfl dX1_addMonk_14 ?_
    refine lv_iload_n hx hb dX1_addMonk_17 rfl (lv_at hl 1 rfl) ?_
    obtain ⟨hi19, hF⟩ := st_chk hF
    obtain ⟨M18, eM18, hF⟩ := st_letM hF
    refine rg_iast fx hw ho.a1 hi19 eM18 dX1_addMonk_18 (fun H locs hw => ?_)
    refine lv_aload_n hx hb dX1_addMonk_19 rfl (lv_at hl 0 rfl) ?_
    refine rgX1_get fx hw ho.O 1 (by decide) wd1_38 rfl dX1_addMonk_20 ?_
    refine lv_aload_n hx hb dX1_addMonk_23 rfl (lv_at hl 0 rfl) ?_
    refine rgX1_get fx hw ho.O 12 (by decide) wd1_61 rfl dX1_addMonk_24 ?_
    refine lv_iload_n hx hb dX1_addMonk_27 rfl (lv_at hl 2 rfl) ?_
    obtain ⟨hi21, hF⟩ := st_chk hF
    obtain ⟨M20, eM20, hF⟩ := st_letM hF
    refine rg_iast fx hw ho.a2 hi21 eM20 dX1_addMonk_28 (fun H locs hw => ?_)
    refine lv_aload_n hx hb dX1_addMonk_29 rfl (lv_at hl 0 rfl) ?_
    refine rgX1_get fx hw ho.O 2 (by decide) wd1_40 rfl dX1_addMonk_30 ?_
    refine lv_aload_n hx hb dX1_addMonk_33 rfl (lv_at hl 0 rfl) ?_
    refine rgX1_get fx hw ho.O 12 (by decide) wd1_61 rfl dX1_addMonk_34 ?_
    refine lv_iload_n hx hb dX1_addMonk_37 rfl (lv_at hl 3 rfl) ?_
    obtain ⟨hi23, hF⟩ := st_chk hF
    obtain ⟨M22, eM22, hF⟩ := st_letM hF
    refine rg_iast fx hw ho.a3 hi23 eM22 dX1_addMonk_38 (fun H locs hw => ?_)
    refine lv_aload_n hx hb dX1_addMonk_39 rfl (lv_at hl 0 rfl) ?_
    refine rgX1_get fx hw ho.O 3 (by decide) wd1_42 rfl dX1_addMonk_40 ?_
    refine lv_aload_n hx hb dX1_addMonk_43 rfl (lv_at hl 0 rfl) ?_
    refine rgX1_get fx hw ho.O 12 (by decide) wd1_61 rfl dX1_addMonk_44 ?_
    refine lv_iconst (v := 0) hx hb dX1_addMonk_47 (by decide) ?_
    obtain ⟨hi25, hF⟩ := st_chk hF
    obtain ⟨M24, eM24, hF⟩ := st_letM hF
    refine rg_iast fx hw ho.a4 hi25 eM24 dX1_addMonk_48 (fun H locs hw => ?_)
    refine lv_aload_n hx hb dX1_addMonk_49 rfl (lv_at hl 0 rfl) ?_
    refine rgX1_get fx hw ho.O 4 (by decide) wd1_44 rfl dX1_addMonk_50 ?_
    refine lv_aload_n hx hb dX1_addMonk_53 rfl (lv_at hl 0 rfl) ?_
    refine rgX1_get fx hw ho.O 12 (by decide) wd1_61 rfl dX1_addMonk_54 ?_
    refine lv_iconst (v := 0) hx hb dX1_addMonk_57 (by decide) ?_
    obtain ⟨hi27, hF⟩ := st_chk hF
    obtain ⟨M26, eM26, hF⟩ := st_letM hF
    refine rg_iast fx hw ho.a5 hi27 eM26 dX1_addMonk_58 (fun H locs hw => ?_)
    refine lv_aload_n hx hb dX1_addMonk_59 rfl (lv_at hl 0 rfl) ?_
    refine rgX1_get fx hw ho.O 5 (by decide) wd1_46 rfl dX1_addMonk_60 ?_
    refine lv_aload_n hx hb dX1_addMonk_63 rfl (lv_at hl 0 rfl) ?_
    refine rgX1_get fx hw ho.O 12 (by decide) wd1_61 rfl dX1_addMonk_64 ?_
    refine lv_iconst (v := 0) hx hb dX1_addMonk_67 (by decide) ?_
    obtain ⟨hi29, hF⟩ := st_chk hF
    obtain ⟨M28, eM28, hF⟩ := st_letM hF
    refine rg_iast fx hw ho.a6 hi29 eM28 dX1_addMonk_68 (fun H locs hw => ?_)
    refine lv_aload_n hx hb dX1_addMonk_69 rfl (lv_at hl 0 rfl) ?_
    refine rgX1_get fx hw ho.O 6 (by decide) wd1_48 rfl dX1_addMonk_70 ?_
    refine lv_aload_n hx hb dX1_addMonk_73 rfl (lv_at hl 0 rfl) ?_
    refine rgX1_get fx hw ho.O 12 (by decide) wd1_61 rfl dX1_addMonk_74 ?_
    refine lv_iconst (v := 0) hx hb dX1_addMonk_77 (by decide) ?_
    obtain ⟨hi31, hF⟩ := st_chk hF
    obtain ⟨M30, eM30, hF⟩ := st_letM hF
    refine rg_iast fx hw ho.a7 hi31 eM30 dX1_addMonk_78 (fun H locs hw => ?_)
    refine lv_aload_n hx hb dX1_addMonk_79 rfl (lv_at hl 0 rfl) ?_
    refine rgX1_get fx hw ho.O 7 (by decide) wd1_50 rfl dX1_addMonk_80 ?_
    refine lv_aload_n hx hb dX1_addMonk_83 rfl (lv_at hl 0 rfl) ?_
    refine rgX1_get fx hw ho.O 12 (by decide) wd1_61 rfl dX1_addMonk_84 ?_
    refine lv_iconst (v := 0) hx hb dX1_addMonk_87 (by decide) ?_
    obtain ⟨hi33, hF⟩ := st_chk hF
    obtain ⟨M32, eM32, hF⟩ := st_letM hF
    refine rg_iast fx hw ho.a8 hi33 eM32 dX1_addMonk_88 (fun H locs hw => ?_)
    refine lv_aload_n hx hb dX1_addMonk_89 rfl (lv_at hl 0 rfl) ?_
    refine lv_dup hx hb dX1_addMonk_90 rfl ?_
    refine rgX1_get fx hw ho.O 12 (by decide) wd1_61 rfl dX1_addMonk_91 ?_
    refine lv_iconst (v := 1) hx hb dX1_addMonk_94 (by decide) ?_
    refine lv_iadd hx hb dX1_addMonk_95 ?_
    obtain ⟨M34, eM34, hF⟩ := st_letM hF
    refine rgX1_put fx hw ho.O 12 (by decide) wd1_61 rfl eM34 rfl (Nat.le_of_ble_eq_true rfl) dX1_addMonk_96 (fun H locs hw => ?_)
    exact E _ _ _ _ _ dX1_addMonk_99 hw hF
theorem sc_X1_addMonk (l : Launch) (x : SX) (D : va_G) (cy : Nat → ClassId) (ad : Nat → Nat) (o : Nat) (ho : rH rs o) (p1 p2 p3 : Int32) (sz : Nat) (M : Mem) (M' : Mem) (hF : f_X1_addMonk o p1 p2 p3 M = some M') : Met l yX1_addMonk (.code yX1_addMonk cX1_addMonk 4 none :: GB) ({ frames := 0, cells := 0, slots := 0, locals := 0 } : Room) (rPcW rs D cy ad x sz M [.ref (ad o), .int p1, .int p2, .int p3]) (rQvW rs D cy ad sz M') 0 0 (rAA rs ad sz) := by
  refine r_mk_m (own := RX1) (by decide) rfl (Nat.le_of_ble_eq_true rfl) ?_
  intro p e s m args below meth c ls fx hw hl hsz
  subst hsz
  exact sb_X1_addMonk fx ⟨Nat.le_refl _, Nat.le_refl _, Nat.le_refl _, Nat.le_refl _⟩ o ho p1 p2 p3 M M' hF (fun pc ls H locs M1 hd hw h => by cases h; exact rg_vret fx hw hd) _ _ ls hl hw
set_option maxHeartbeats 4000000 in
set_option maxRecDepth 100000 in
theorem sb_X1_becomeFirst {p : Program} {l : Launch} {e : Env} {R : Room} {s : State} {m : MethodId} {args : Array Value} {below : List Frame} {meth : Method} {c : Code} {Q : State → Prop} {D : va_G} {cy : Nat → ClassId} {ad : Nat → Nat} {x : SX} (fx : rFX rs p s m args meth c cX1_becomeFirst 1 none RX1 D cy ad x) (hR : 2 ≤ R.frames ∧ 43 ≤ R.locals ∧ 0 ≤ R.cells ∧ 0 ≤ R.slots) (o : Nat) (ho : rH rs o) (M : Mem) (M' : Mem) (hF : f_X1_becomeFirst o M = some M') (E : ∀ (pc : Nat) (ls : Array Slot) (H : Heap) (locs : List Loc) (M1 : Mem), decode cX1_becomeFirst pc = .ok (.return_, 1) → rWD rs D cy ad s M1 H locs → some M1 = some M' → W p l e R s m args below meth c H locs 0 0 Q (F0 m pc ls [])) (H : Heap) (locs : List Loc) (ls : Array Slot) (hl : lv_has ls 1 [(0, .ref (ad o))]) (hw : rWD rs D cy ad s M H locs) : W p l e R s m args below meth c H locs 0 0 Q (F0 m 0 ls []) := by
  have hx := fx.1.1
  have hb := fx.1.2.1
  have hown := fx.1.2.2.2.1
  have hts := fx.1.2.2.2.2
  unfold f_X1_becomeFirst at hF
  refine lv_aload_n hx hb dX1_becomeFirst_0 rfl (lv_at hl 0 rfl) ?_
  obtain ⟨M10, hgr9, hF⟩ := st_bnd hF
  refine rg_cv hw (rg_runV (C := RX1) (As := []) (rest := []) fx hw ho.O rfl (sc_X1_clear l x D cy ad o ho H.size M M10 hgr9) wd1_118 wd1_119 wd1_120 wd1_2 wd1_121 yd_X1_clear rfl rfl (Nat.le_of_ble_eq_true rfl) hl.1 ⟨Nat.le_trans (Nat.le_of_ble_eq_true rfl) hR.1, Nat.le_trans (Nat.le_of_ble_eq_true rfl) hR.2.1⟩ ⟨Nat.le_trans (Nat.le_of_ble_eq_true rfl) hR.2.2.1, Nat.le_trans (Nat.le_of_ble_eq_true rfl) hR.2.2.2⟩ dX1_becomeFirst_1) (fun H locs hw => ?_)
  refine lv_aload_n hx hb dX1_becomeFirst_4 rfl (lv_at hl 0 rfl) ?_
  refine lv_iconst (v := 0) hx hb dX1_becomeFirst_5 (by decide) ?_
  refine lv_bipush (v := 97) hx hb dX1_becomeFirst_6 (by decide) ?_
  obtain ⟨r11, hgr11, hF⟩ := st_bnd hF
  refine rg_ci hw (rg_runS (As := [.int 0, .int 97]) (rest := [.ref (ad o)]) fx hw (sc_X2_with l x D cy ad 0 97 H.size M10 r11 hgr11) wd1_125 wd1_126 wd1_4 wd1_127 yd_X2_with rfl rfl (Nat.le_of_ble_eq_true rfl) hl.1 ⟨Nat.le_trans (Nat.le_of_ble_eq_true rfl) hR.1, Nat.le_trans (Nat.le_of_ble_eq_true rfl) hR.2.1⟩ ⟨Nat.le_trans (Nat.le_of_ble_eq_true rfl) hR.2.2.1, Nat.le_trans (Nat.le_of_ble_eq_true rfl) hR.2.2.2⟩ dX1_becomeFirst_8) (fun H locs hw => ?_)
  refine lv_iconst (v := 1) hx hb dX1_becomeFirst_11 (by decide) ?_
  obtain ⟨M13, hgr12, hF⟩ := st_bnd hF
  refine rg_cv hw (rg_runV (C := RX1) (As := [.int r11, .int 1]) (rest := []) fx hw ho.O rfl (sc_X1_addNeed l x D cy ad o ho r11 1 H.size M10 M13 hgr12) wd1_128 wd1_129 wd1_130 wd1_2 wd1_131 yd_X1_addNeed rfl rfl (Nat.le_of_ble_eq_true rfl) hl.1 ⟨Nat.le_trans (Nat.le_of_ble_eq_true rfl) hR.1, Nat.le_trans (Nat.le_of_ble_eq_true rfl) hR.2.1⟩ ⟨Nat.le_trans (Nat.le_of_ble_eq_true rfl) hR.2.2.1, Nat.le_trans (Nat.le_of_ble_eq_true rfl) hR.2.2.2⟩ dX1_becomeFirst_12) (fun H locs hw => ?_)
  refine lv_aload_n hx hb dX1_becomeFirst_15 rfl (lv_at hl 0 rfl) ?_
  refine lv_iconst (v := 0) hx hb dX1_becomeFirst_16 (by decide) ?_
  refine lv_bipush (v := 98) hx hb dX1_becomeFirst_17 (by decide) ?_
  obtain ⟨r14, hgr14, hF⟩ := st_bnd hF
  refine rg_ci hw (rg_runS (As := [.int 0, .int 98]) (rest := [.ref (ad o)]) fx hw (sc_X2_with l x D cy ad 0 98 H.size M13 r14 hgr14) wd1_125 wd1_126 wd1_4 wd1_127 yd_X2_with rfl rfl (Nat.le_of_ble_eq_true rfl) hl.1 ⟨Nat.le_trans (Nat.le_of_ble_eq_true rfl) hR.1, Nat.le_trans (Nat.le_of_ble_eq_true rfl) hR.2.1⟩ ⟨Nat.le_trans (Nat.le_of_ble_eq_true rfl) hR.2.2.1, Nat.le_trans (Nat.le_of_ble_eq_true rfl) hR.2.2.2⟩ dX1_becomeFirst_19) (fun H locs hw => ?_)
  refine lv_iconst (v := 2) hx hb dX1_becomeFirst_22 (by decide) ?_
  refine lv_iconst (v := 0) hx hb dX1_becomeFirst_23 (by decide) ?_
  obtain ⟨M16, hgr15, hF⟩ := st_bnd hF
  refine rg_cv hw (rg_runV (C := RX1) (As := [.int r14, .int 2, .int 0]) (rest := []) fx hw ho.O rfl (sc_X1_addMonk l x D cy ad o ho r14 2 0 H.size M13 M16 hgr15) wd1_132 wd1_133 wd1_134 wd1_2 wd1_135 yd_X1_addMonk rfl rfl (Nat.le_of_ble_eq_true rfl) hl.1 ⟨Nat.le_trans (Nat.le_of_ble_eq_true rfl) hR.1, Nat.le_trans (Nat.le_of_ble_eq_true rfl) hR.2.1⟩ ⟨Nat.le_trans (Nat.le_of_ble_eq_true rfl) hR.2.2.1, Nat.le_trans (Nat.le_of_ble_eq_true rfl) hR.2.2.2⟩ dX1_becomeFirst_24) (fun H locs hw => ?_)
  exact E _ _ _ _ _ dX1_becomeFirst_27 hw hF
theorem sc_X1_becomeFirst (l : Launch) (x : SX) (D : va_G) (cy : Nat → ClassId) (ad : Nat → Nat) (o : Nat) (ho : rH rs o) (sz : Nat) (M : Mem) (M' : Mem) (hF : f_X1_becomeFirst o M = some M') : Met l yX1_becomeFirst (.code yX1_becomeFirst cX1_becomeFirst 1 none :: GB) ({ frames := 2, cells := 0, slots := 0, locals := 43 } : Room) (rPcW rs D cy ad x sz M [.ref (ad o)]) (rQvW rs D cy ad sz M') 0 0 (rAA rs ad sz) := by
  refine r_mk_m (own := RX1) (by decide) rfl (Nat.le_of_ble_eq_true rfl) ?_
  intro p e s m args below meth c ls fx hw hl hsz
  subst hsz
  exact sb_X1_becomeFirst fx ⟨Nat.le_refl _, Nat.le_refl _, Nat.le_refl _, Nat.le_refl _⟩ o ho M M' hF (fun pc ls H locs M1 hd hw h => by cases h; exact rg_vret fx hw hd) _ _ ls hl hw
end SMALL
/-! the reference alone -/
abbrev RM : List Nat := [9, 10, 11, 12, 13, 14, 15, 16]
theorem rA_10 : rA RM 10 156 := ⟨isA_10, by decide⟩
theorem rO_9 : rO RM 5 9 fM := ⟨isO_9, by decide⟩
set_option maxHeartbeats 4000000 in
set_option maxRecDepth 100000 in
theorem sb_X6_mo {p : Program} {l : Launch} {e : Env} {R : Room} {s : State} {m : MethodId} {args : Array Value} {below : List Frame} {meth : Method} {c : Code} {Q : State → Prop} {D : va_G} {cy : Nat → ClassId} {ad : Nat → Nat} {x : SX} (fx : rFX RM p s m args meth c cX6_mo 2 (some .int) RX6 D cy ad x) (hR : 0 ≤ R.frames ∧ 0 ≤ R.locals ∧ 0 ≤ R.cells ∧ 0 ≤ R.slots) (p1 p2 : Int32) (M : Mem) (z : Int32) (hF : f_X6_mo p1 p2 M = some z) (E : ∀ (pc : Nat) (ls : Array Slot) (H : Heap) (locs : List Loc) (v : Int32), decode cX6_mo pc = .ok (.ireturn, 1) → rWD RM D cy ad s M H locs → some v = some z → W p l e R s m args below meth c H locs 0 0 Q (F0 m pc ls [.int v])) (H : Heap) (locs : List Loc) (ls : Array Slot) (hl : lv_has ls 2 [(0, .int p1), (1, .int p2)]) (hw : rWD RM D cy ad s M H locs) : W p l e R s m args below meth c H locs 0 0 Q (F0 m 0 ls []) := by
  have hx := fx.1.1
  have hb := fx.1.2.1
  have hown := fx.1.2.2.2.1
  have hts := fx.1.2.2.2.2
  unfold f_X6_mo at hF
  refine lv_bipush (v := 60) hx hb dX6_mo_0 (by decide) ?_
  refine lv_bipush (v := 8) hx hb dX6_mo_2 (by decide) ?_
  refine lv_iload_n hx hb dX6_mo_4 rfl (lv_at hl 0 rfl) ?_
  refine lv_imul hx hb dX6_mo_5 ?_
  refine lv_iadd hx hb dX6_mo_6 ?_
  refine lv_iload_n hx hb dX6_mo_7 rfl (lv_at hl 1 rfl) ?_
  refine lv_iadd hx hb dX6_mo_8 ?_
  exact E _ _ _ _ _ dX6_mo_9 hw hF
theorem sc_X6_mo (l : Launch) (x : SX) (D : va_G) (cy : Nat → ClassId) (ad : Nat → Nat) (p1 p2 : Int32) (sz : Nat) (M : Mem) (z : Int32) (hF : f_X6_mo p1 p2 M = some z) : Met l yX6_mo (.code yX6_mo cX6_mo 2 (some .int) :: GB) ({ frames := 0, cells := 0, slots := 0, locals := 0 } : Room) (rPcW RM D cy ad x sz M [.int p1, .int p2]) (rQiW RM D cy ad sz z M) 0 0 (rAA RM ad sz) := by
  refine r_mk_m (own := RX6) (by decide) rfl (Nat.le_of_ble_eq_true rfl) ?_
  intro p e s m args below meth c ls fx hw hl hsz
  subst hsz
  exact sb_X6_mo fx ⟨Nat.le_refl _, Nat.le_refl _, Nat.le_refl _, Nat.le_refl _⟩ p1 p2 M z hF (fun pc ls H locs v hd hw h => by cases h; exact rg_iret fx hw rfl hd) _ _ ls hl hw
set_option maxHeartbeats 4000000 in
set_option maxRecDepth 100000 in
theorem sb_X6_begins {p : Program} {l : Launch} {e : Env} {R : Room} {s : State} {m : MethodId} {args : Array Value} {below : List Frame} {meth : Method} {c : Code} {Q : State → Prop} {D : va_G} {cy : Nat → ClassId} {ad : Nat → Nat} {x : SX} (fx : rFX RM p s m args meth c cX6_begins 2 none RX6 D cy ad x) (hR : 0 ≤ R.frames ∧ 0 ≤ R.locals ∧ 0 ≤ R.cells ∧ 0 ≤ R.slots) (M : Mem) (M' : Mem) (hF : f_X6_begins M = some M') (E : ∀ (pc : Nat) (ls : Array Slot) (H : Heap) (locs : List Loc) (M1 : Mem), decode cX6_begins pc = .ok (.return_, 1) → rWD RM D cy ad s M1 H locs → some M1 = some M' → W p l e R s m args below meth c H locs 0 0 Q (F0 m pc ls [])) (H : Heap) (locs : List Loc) (ls : Array Slot) (hl : lv_has ls 2 [(0, .ref (ad 9))]) (hw : rWD RM D cy ad s M H locs) : W p l e R s m args below meth c H locs 0 0 Q (F0 m 0 ls []) := by
  have hx := fx.1.1
  have hb := fx.1.2.1
  have hown := fx.1.2.2.2.1
  have hts := fx.1.2.2.2.2
  have n_2 : ∀ (n9 : Nat), ∀ (a1 : Int32) (M : Mem) (H : Heap) (locs : List Loc) (ls : Array Slot), lv_has ls 2 [(0, .ref (ad 9)), (1, .int a1)] → rWD RM D cy ad s M H locs → (lp (fun _ _ => none) (f_X6_begins_2) n9) a1 M = some M' → W p l e R s m args below meth c H locs 0 0 Q (F0 m 2 ls []) := by
    intro n9
    refine lp_ind (fun (rec2 : Int32 → Mem → Option Mem) => ∀ (a1 : Int32) (M : Mem) (H : Heap) (locs : List Loc) (ls : Array Slot), lv_has ls 2 [(0, .ref (ad 9)), (1, .int a1)] → rWD RM D cy ad s M H locs → rec2 a1 M = some M' → W p l e R s m args below meth c H locs 0 0 Q (F0 m 2 ls [])) ?_ ?_ n9
    · intro a1 M H locs ls hl hw hF
      exact nomatch hF
    · intro rec2 hr2 a1 M H locs ls hl hw hF
      unfold f_X6_begins_2 at hF
      refine lv_iload_n hx hb dX6_begins_2 rfl (lv_at hl 1 rfl) ?_
      refine lv_sipush (v := 156) hx hb dX6_begins_3 (by decide) ?_
      refine lv_icmp_ge (tgt := 22) hx hb dX6_begins_6 (by decide) (fun hc6 => ?_) (fun hc6 => ?_)
      · replace hF := st_t hc6 hF
        refine lv_aload_n hx hb dX6_begins_22 rfl (lv_at hl 0 rfl) ?_
        refine rgX6_get fx hw rO_9 0 (by decide) wd5_19 rfl dX6_begins_23 ?_
        refine lv_iconst (v := 2) hx hb dX6_begins_26 (by decide) ?_
        refine lv_bipush (v := 20) hx hb dX6_begins_27 (by decide) ?_
        obtain ⟨M9, eM9, hF⟩ := st_letM hF
        refine rg_iastc fx hw rA_10 (k := 2) rfl (by decide) eM9 dX6_begins_29 (fun H locs hw => ?_)
        refine lv_aload_n hx hb dX6_begins_30 rfl (lv_at hl 0 rfl) ?_
        refine rgX6_get fx hw rO_9 0 (by decide) wd5_19 rfl dX6_begins_31 ?_
        refine lv_iconst (v := 3) hx hb dX6_begins_34 (by decide) ?_
        refine lv_bipush (v := 10) hx hb dX6_begins_35 (by decide) ?_
        obtain ⟨M10, eM10, hF⟩ := st_letM hF
        refine rg_iastc fx hw rA_10 (k := 3) rfl (by decide) eM10 dX6_begins_37 (fun H locs hw => ?_)
        exact E _ _ _ _ _ dX6_begins_38 hw hF
      · replace hF := st_f hc6 hF
        refine lv_aload_n hx hb dX6_begins_9 rfl (lv_at hl 0 rfl) ?_
        refine rgX6_get fx hw rO_9 0 (by decide) wd5_19 rfl dX6_begins_10 ?_
        refine lv_iload_n hx hb dX6_begins_13 rfl (lv_at hl 1 rfl) ?_
        refine lv_iconst (v := 0) hx hb dX6_begins_14 (by decide) ?_
        obtain ⟨hi12, hF⟩ := st_chk hF
        obtain ⟨M11, eM11, hF⟩ := st_letM hF
        refine rg_iast fx hw rA_10 hi12 eM11 dX6_begins_15 (fun H locs hw => ?_)
        refine lv_iinc (v := (a1 + 1)) (lv' := [(1, .int (a1 + 1)), (0, .ref (ad 9))]) hx hb dX6_begins_16 hl (k := 1) rfl rfl (by decide) rfl (fun ls hl => ?_)
        refine lv_goto (tgt := 2) hx hb dX6_begins_19 (by decide) ?_
        exact hr2 (a1 + 1) M11 H locs ls (lv_sub hl [1, 0] rfl) hw hF
  unfold f_X6_begins at hF
  refine lv_iconst (v := 0) hx hb dX6_begins_0 (by decide) ?_
  refine lv_istore_n (lv' := [(1, .int 0), (0, .ref (ad 9))]) hx hb dX6_begins_1 rfl hl (by decide) rfl (fun ls hl => ?_)
  exact n_2 FU 0 M H locs ls (lv_sub hl [1, 0] rfl) hw hF
theorem sc_X6_begins (l : Launch) (x : SX) (D : va_G) (cy : Nat → ClassId) (ad : Nat → Nat) (sz : Nat) (M : Mem) (M' : Mem) (hF : f_X6_begins M = some M') : Met l yX6_begins (.code yX6_begins cX6_begins 2 none :: GB) ({ frames := 0, cells := 0, slots := 0, locals := 0 } : Room) (rPcW RM D cy ad x sz M [.ref (ad 9)]) (rQvW RM D cy ad sz M') 0 0 (rAA RM ad sz) := by
  refine r_mk_m (own := RX6) (by decide) rfl (Nat.le_of_ble_eq_true rfl) ?_
  intro p e s m args below meth c ls fx hw hl hsz
  subst hsz
  exact sb_X6_begins fx ⟨Nat.le_refl _, Nat.le_refl _, Nat.le_refl _, Nat.le_refl _⟩ M M' hF (fun pc ls H locs M1 hd hw h => by cases h; exact rg_vret fx hw hd) _ _ ls hl hw
set_option maxHeartbeats 4000000 in
set_option maxRecDepth 100000 in
theorem sb_X6_addsMonk {p : Program} {l : Launch} {e : Env} {R : Room} {s : State} {m : MethodId} {args : Array Value} {below : List Frame} {meth : Method} {c : Code} {Q : State → Prop} {D : va_G} {cy : Nat → ClassId} {ad : Nat → Nat} {x : SX} (fx : rFX RM p s m args meth c cX6_addsMonk 5 (some .int) RX6 D cy ad x) (hR : 1 ≤ R.frames ∧ 21 ≤ R.locals ∧ 0 ≤ R.cells ∧ 0 ≤ R.slots) (p1 p2 : Int32) (M : Mem) (z : Int32) (M' : Mem) (hF : f_X6_addsMonk p1 p2 M = some (z, M')) (E : ∀ (pc : Nat) (ls : Array Slot) (H : Heap) (locs : List Loc) (v : Int32) (M1 : Mem), decode cX6_addsMonk pc = .ok (.ireturn, 1) → rWD RM D cy ad s M1 H locs → some (v, M1) = some (z, M') → W p l e R s m args below meth c H locs 0 0 Q (F0 m pc ls [.int v])) (H : Heap) (locs : List Loc) (ls : Array Slot) (hl : lv_has ls 5 [(0, .ref (ad 9)), (1, .int p1), (2, .int p2)]) (hw : rWD RM D cy ad s M H locs) : W p l e R s m args below meth c H locs 0 0 Q (F0 m 0 ls []) := by
  have hx := fx.1.1
  have hb := fx.1.2.1
  have hown := fx.1.2.2.2.1
  have hts := fx.1.2.2.2.2
  have n_20 : ∀ (n9 : Nat), ∀ (a1 : Int32) (a2 : Int32) (a3 : Int32) (a4 : Int32) (M : Mem) (H : Heap) (locs : List Loc) (ls : Array Slot), lv_has ls 5 [(0, .ref (ad 9)), (1, .int a1), (2, .int a2), (3, .int a3), (4, .int a4)] → rWD RM D cy ad s M H locs → (lp (fun _ _ _ _ _ => none) (f_X6_addsMonk_20) n9) a1 a2 a3 a4 M = some (z, M') → W p l e R s m args below meth c H locs 0 0 Q (F0 m 20 ls []) := by
    intro n9
    refine lp_ind (fun (rec20 : Int32 → Int32 → Int32 → Int32 → Mem → Option (Int32 × Mem)) => ∀ (a1 : Int32) (a2 : Int32) (a3 : Int32) (a4 : Int32) (M : Mem) (H : Heap) (locs : List Loc) (ls : Array Slot), lv_has ls 5 [(0, .ref (ad 9)), (1, .int a1), (2, .int a2), (3, .int a3), (4, .int a4)] → rWD RM D cy ad s M H locs → rec20 a1 a2 a3 a4 M = some (z, M') → W p l e R s m args below meth c H locs 0 0 Q (F0 m 20 ls [])) ?_ ?_ n9
    · intro a1 a2 a3 a4 M H locs ls hl hw hF
      exact nomatch hF
    · intro rec20 hr20 a1 a2 a3 a4 M H locs ls hl hw hF
      unfold f_X6_addsMonk_20 at hF
      refine lv_iload hx hb dX6_addsMonk_20 (lv_at hl 4 rfl) ?_
      refine lv_bipush (v := 8) hx hb dX6_addsMonk_22 (by decide) ?_
      refine lv_icmp_ge (tgt := 45) hx hb dX6_addsMonk_24 (by decide) (fun hc24 => ?_) (fun hc24 => ?_)
      · replace hF := st_t hc24 hF
        refine lv_aload_n hx hb dX6_addsMonk_45 rfl (lv_at hl 0 rfl) ?_
        refine rgX6_get fx hw rO_9 0 (by decide) wd5_19 rfl dX6_addsMonk_46 ?_
        refine lv_iload_n hx hb dX6_addsMonk_49 rfl (lv_at hl 3 rfl) ?_
        refine lv_iconst (v := 0) hx hb dX6_addsMonk_50 (by decide) ?_
        obtain ⟨r21, hgr21, hF⟩ := st_bnd hF
        refine rg_ci hw (rg_runS (As := [.int a3, .int 0]) (rest := [.ref (ad 10)]) fx hw (sc_X6_mo l x D cy ad a3 0 H.size M r21 hgr21) wd5_16 wd5_17 wd1_8 wd5_18 yd_X6_mo rfl rfl (Nat.le_of_ble_eq_true rfl) hl.1 ⟨Nat.le_trans (Nat.le_of_ble_eq_true rfl) hR.1, Nat.le_trans (Nat.le_of_ble_eq_true rfl) hR.2.1⟩ ⟨Nat.le_trans (Nat.le_of_ble_eq_true rfl) hR.2.2.1, Nat.le_trans (Nat.le_of_ble_eq_true rfl) hR.2.2.2⟩ dX6_addsMonk_51) (fun H locs hw => ?_)
        refine lv_iload_n hx hb dX6_addsMonk_54 rfl (lv_at hl 1 rfl) ?_
        obtain ⟨hi23, hF⟩ := st_chk hF
        obtain ⟨M22, eM22, hF⟩ := st_letM hF
        refine rg_iast fx hw rA_10 hi23 eM22 dX6_addsMonk_55 (fun H locs hw => ?_)
        refine lv_aload_n hx hb dX6_addsMonk_56 rfl (lv_at hl 0 rfl) ?_
        refine rgX6_get fx hw rO_9 0 (by decide) wd5_19 rfl dX6_addsMonk_57 ?_
        refine lv_iload_n hx hb dX6_addsMonk_60 rfl (lv_at hl 3 rfl) ?_
        refine lv_iconst (v := 1) hx hb dX6_addsMonk_61 (by decide) ?_
        obtain ⟨r24, hgr24, hF⟩ := st_bnd hF
        refine rg_ci hw (rg_runS (As := [.int a3, .int 1]) (rest := [.ref (ad 10)]) fx hw (sc_X6_mo l x D cy ad a3 1 H.size M22 r24 hgr24) wd5_16 wd5_17 wd1_8 wd5_18 yd_X6_mo rfl rfl (Nat.le_of_ble_eq_true rfl) hl.1 ⟨Nat.le_trans (Nat.le_of_ble_eq_true rfl) hR.1, Nat.le_trans (Nat.le_of_ble_eq_true rfl) hR.2.1⟩ ⟨Nat.le_trans (Nat.le_of_ble_eq_true rfl) hR.2.2.1, Nat.le_trans (Nat.le_of_ble_eq_true rfl) hR.2.2.2⟩ dX6_addsMonk_62) (fun H locs hw => ?_)
        refine lv_iload_n hx hb dX6_addsMonk_65 rfl (lv_at hl 2 rfl) ?_
        obtain ⟨hi26, hF⟩ := st_chk hF
        obtain ⟨M25, eM25, hF⟩ := st_letM hF
        refine rg_iast fx hw rA_10 hi26 eM25 dX6_addsMonk_66 (fun H locs hw => ?_)
        refine lv_iload_n hx hb dX6_addsMonk_67 rfl (lv_at hl 3 rfl) ?_
        exact E _ _ _ _ _ _ dX6_addsMonk_68 hw hF
      · replace hF := st_f hc24 hF
        refine lv_aload_n hx hb dX6_addsMonk_27 rfl (lv_at hl 0 rfl) ?_
        refine rgX6_get fx hw rO_9 0 (by decide) wd5_19 rfl dX6_addsMonk_28 ?_
        refine lv_iload_n hx hb dX6_addsMonk_31 rfl (lv_at hl 3 rfl) ?_
        refine lv_iload hx hb dX6_addsMonk_32 (lv_at hl 4 rfl) ?_
        obtain ⟨r27, hgr27, hF⟩ := st_bnd hF
        refine rg_ci hw (rg_runS (As := [.int a3, .int a4]) (rest := [.ref (ad 10)]) fx hw (sc_X6_mo l x D cy ad a3 a4 H.size M r27 hgr27) wd5_16 wd5_17 wd1_8 wd5_18 yd_X6_mo rfl rfl (Nat.le_of_ble_eq_true rfl) hl.1 ⟨Nat.le_trans (Nat.le_of_ble_eq_true rfl) hR.1, Nat.le_trans (Nat.le_of_ble_eq_true rfl) hR.2.1⟩ ⟨Nat.le_trans (Nat.le_of_ble_eq_true rfl) hR.2.2.1, Nat.le_trans (Nat.le_of_ble_eq_true rfl) hR.2.2.2⟩ dX6_addsMonk_34) (fun H locs hw => ?_)
        refine lv_iconst (v := 0) hx hb dX6_addsMonk_37 (by decide) ?_
        obtain ⟨hi29, hF⟩ := st_chk hF
        obtain ⟨M28, eM28, hF⟩ := st_letM hF
        refine rg_iast fx hw rA_10 hi29 eM28 dX6_addsMonk_38 (fun H locs hw => ?_)
        refine lv_iinc (v := (a4 + 1)) (lv' := [(4, .int (a4 + 1)), (0, .ref (ad 9)), (1, .int a1), (2, .int a2), (3, .int a3)]) hx hb dX6_addsMonk_39 hl (k := 4) rfl rfl (by decide) rfl (fun ls hl => ?_)
        refine lv_goto (tgt := 20) hx hb dX6_addsMonk_42 (by decide) ?_
        exact hr20 a1 a2 a3 (a4 + 1) M28 H locs ls (lv_sub hl [1, 2, 3, 4, 0] rfl) hw hF
  unfold f_X6_addsMonk at hF
  refine lv_aload_n hx hb dX6_addsMonk_0 rfl (lv_at hl 0 rfl) ?_
  refine rgX6_get fx hw rO_9 0 (by decide) wd5_19 rfl dX6_addsMonk_1 ?_
  refine lv_iconst (v := 0) hx hb dX6_addsMonk_4 (by decide) ?_
  refine rg_ialdc fx hw rA_10 (k := 0) rfl (by decide) dX6_addsMonk_5 ?_
  refine lv_istore_n (lv' := [(3, .int (M 10 0)), (0, .ref (ad 9)), (1, .int p1), (2, .int p2)]) hx hb dX6_addsMonk_6 rfl hl (by decide) rfl (fun ls hl => ?_)
  refine lv_aload_n hx hb dX6_addsMonk_7 rfl (lv_at hl 1 rfl) ?_
  refine rgX6_get fx hw rO_9 0 (by decide) wd5_19 rfl dX6_addsMonk_8 ?_
  refine lv_iconst (v := 0) hx hb dX6_addsMonk_11 (by decide) ?_
  refine lv_dup2_11 hx hb dX6_addsMonk_12 rfl rfl ?_
  refine rg_ialdc fx hw rA_10 (k := 0) rfl (by decide) dX6_addsMonk_13 ?_
  refine lv_iconst (v := 1) hx hb dX6_addsMonk_14 (by decide) ?_
  refine lv_iadd hx hb dX6_addsMonk_15 ?_
  obtain ⟨M30, eM30, hF⟩ := st_letM hF
  refine rg_iastc fx hw rA_10 (k := 0) rfl (by decide) eM30 dX6_addsMonk_16 (fun H locs hw => ?_)
  refine lv_iconst (v := 0) hx hb dX6_addsMonk_17 (by decide) ?_
  refine lv_istore (lv' := [(4, .int 0), (3, .int (M 10 0)), (0, .ref (ad 9)), (1, .int p1), (2, .int p2)]) hx hb dX6_addsMonk_18 hl (by decide) rfl (fun ls hl => ?_)
  exact n_20 FU p1 p2 (M 10 0) 0 M30 H locs ls (lv_sub hl [2, 3, 4, 1, 0] rfl) hw hF
theorem sc_X6_addsMonk (l : Launch) (x : SX) (D : va_G) (cy : Nat → ClassId) (ad : Nat → Nat) (p1 p2 : Int32) (sz : Nat) (M : Mem) (z : Int32) (M' : Mem) (hF : f_X6_addsMonk p1 p2 M = some (z, M')) : Met l yX6_addsMonk (.code yX6_addsMonk cX6_addsMonk 5 (some .int) :: GB) ({ frames := 1, cells := 0, slots := 0, locals := 21 } : Room) (rPcW RM D cy ad x sz M [.ref (ad 9), .int p1, .int p2]) (rQiW RM D cy ad sz z M') 0 0 (rAA RM ad sz) := by
  refine r_mk_m (own := RX6) (by decide) rfl (Nat.le_of_ble_eq_true rfl) ?_
  intro p e s m args below meth c ls fx hw hl hsz
  subst hsz
  exact sb_X6_addsMonk fx ⟨Nat.le_refl _, Nat.le_refl _, Nat.le_refl _, Nat.le_refl _⟩ p1 p2 M z M' hF (fun pc ls H locs v M1 hd hw h => by cases h; exact rg_iret fx hw rfl hd) _ _ ls hl hw
