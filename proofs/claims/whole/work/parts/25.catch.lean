/-! METHODS THAT CATCH, and the law's long row -/
def lcm2 (a b : Int32) : Int32 := lg_cmp a.toInt64 b.toInt64
theorem lcm2_0 (a b : Int32) : lcm2 a b = 0 ↔ a = b := by
  have k : ∀ x y : Int64, lg_cmp x y = 0 ↔ x = y := by
    intro x y
    constructor
    · intro h
      have h1 := (lg_cmp_ge x y).mp (by rw [h]; decide)
      have h2 := (lg_cmp_le x y).mp (by rw [h]; decide)
      rw [Int64.le_iff_toInt_le] at h1 h2
      exact Int64.toInt_inj.mp (by omega)
    · intro h
      subst h
      have h1 := (lg_cmp_ge x x).mpr (by rw [Int64.le_iff_toInt_le]; omega)
      have h2 := (lg_cmp_le x x).mpr (by rw [Int64.le_iff_toInt_le]; omega)
      rw [Int32.le_iff_toInt_le] at h1 h2
      exact Int32.toInt_inj.mp (by simp at h1 h2 ⊢; omega)
  rw [lcm2, k]
  constructor
  · intro h
    have h2 := congrArg Int64.toInt h
    rw [Int32.toInt_toInt64, Int32.toInt_toInt64] at h2
    exact Int32.toInt_inj.mp h2
  · intro h; rw [h]
section MKW
variable {l : Launch} {y : MethodName} {cc : ByteArray} {maxL fr lo mc ms : Nat} {ret : Option FieldType} {own : String} {D : va_G} {cy : Nat → ClassId} {ad : Nat → Nat} {x : SX} {sz : Nat} {M : Mem} {av : List Value} {Qc : Array Value → State → Outcome → State → Prop} {hh : List (Nat × Nat × Nat × Nat)}
theorem mk_w (hy : plainName y.cls = true) (ho : y.cls = own) (hv : (lg_sl av).length ≤ maxL)
    (body : ∀ p e s m args below meth c ls, FX p s m args meth c cc maxL ret own D cy ad x → c.exceptionTable.toList = tableOf hh → WD D cy ad s M s.heap [] → lv_has ls maxL (lv_args 0 av) → s.heap.size = sz →
      W p l e ({ frames := fr, cells := mc, slots := ms, locals := lo } : Room) s m args below meth c s.heap [] 0 0 (MQ below Qc args s mc ms (AA ad sz)) (F0 m 0 ls [])) :
    Met l y (.codeWith y cc maxL ret hh :: GB) ({ frames := fr, cells := mc, slots := ms, locals := lo } : Room) (PcW D cy ad x sz M av) Qc mc ms (AA ad sz) := by
  refine va_MetW (cc := cc) (maxL := maxL) (ret := ret) (hh := hh) hy rfl ?_
  intro p e s m args below meth c s₁ B hml hv9
  obtain ⟨rfl, hsz, hP, hK, hD0, hF⟩ := hv9
  have hts := atoms_spec (ws := .codeWith y cc maxL ret hh :: GB) B.pre
  have hown : s.vm.findClass own = some m.cls := by rw [← ho]; exact findClass_of_methodNamed B.named
  have htab := vx_table (x := y) B (hts _ List.mem_cons_self)
  rw [lg_entry_eq]
  subst hsz
  exact body p e s m av.toArray below meth c _ ⟨⟨B.exec, B.bytes, hml, hown, fun w h => hts w (List.mem_cons_of_mem _ h)⟩, B.returns, B.notSynchronized, hK, hF⟩ htab ⟨hP, wl_D hD0, va_S.rf⟩ (lv_entry av hv) rfl
end MKW
section WROWS
variable {p : Program} {l : Launch} {e : Env} {R : Room} {s : State} {m : MethodId} {args : Array Value} {below : List Frame} {meth : Method} {c : Code} {H : Heap} {locs : List Loc} {cells slots : Nat} {Q : State → Prop}
variable {cc : ByteArray} {nL : Nat} {ret : Option FieldType} {own : String} {D : va_G} {cy : Nat → ClassId} {ad : Nat → Nat} {x : SX} {M : Mem} {pc : Nat} {ls : Array Slot} {rest st0 : List Value}
theorem g_last (fx : FX p s m args meth c cc nL ret own D cy ad x) (hw : WD D cy ad s M H locs) {q n : Nat} (hA : isL q n) {i v : Int32} {k : Nat} (hi : ix i = k) {M' : Mem} (hin : inB i n = true) (hM : M' = mput M q k v) (hdg : decode cc pc = .ok (.lastore, 1))
    (kk : ∀ (H1 : Heap) (locs1 : List Loc), WD D cy ad s M' H1 locs1 → W p l e R s m args below meth c H1 locs1 cells slots Q (F0 m (pc + 1) ls rest)) : W p l e R s m args below meth c H locs cells slots Q (F0 m pc ls (.long v.toInt64 :: .int i :: .ref (ad q) :: rest)) := by
  obtain ⟨⟨hx, hb, hml, hown, hts⟩, -, -, hK, -⟩ := fx
  obtain ⟨hP, hD, hS⟩ := hw
  subst hM
  subst hi
  refine va_last hx hb hK hP hD hS q 3 (by rw [wl_at hA.1, hA.2]) rfl (inB_in hin) hdg (fun H1 locs1 hP hD hS => ?_)
  have e : vp_updL (fun j => (M q j).toInt64) i.toNatClampNeg v.toInt64 = fun j => (upd (M q) (ix i) v j).toInt64 := by
    funext j
    by_cases hj : j = i.toNatClampNeg
    · simp [vp_updL, upd, ix, hj]
    · simp [vp_updL, upd, ix, hj]
  rw [e, ← hA.2 cy ad, wl_set hA.1] at hP hD
  exact kk H1 locs1 ⟨hP, hD, hS⟩
theorem g_lald (fx : FX p s m args meth c cc nL ret own D cy ad x) (hw : WD D cy ad s M H locs) {q n : Nat} (hA : isL q n) {i : Int32} {k : Nat} (hi : ix i = k) (hin : inB i n = true) (hdg : decode cc pc = .ok (.laload, 1))
    (kk : W p l e R s m args below meth c H locs cells slots Q (F0 m (pc + 1) ls (.long (M q k).toInt64 :: rest))) : W p l e R s m args below meth c H locs cells slots Q (F0 m pc ls (.int i :: .ref (ad q) :: rest)) := by
  obtain ⟨⟨hx, hb, hml, hown, hts⟩, -, -, hK, -⟩ := fx
  subst hi
  exact va_lald hx hb hK hw.1 q 3 (by rw [wl_at hA.1, hA.2]) rfl (inB_in hin) hdg kk
theorem g_lcmp (hexec : p.tables.exec = Jvm.exec) (hb : c.code = cc) {a b : Int32} (hdg : decode cc pc = .ok (.lcmp, 1))
    (k : W p l e R s m args below meth c H locs cells slots Q (F0 m (pc + 1) ls (.int (lcm2 a b) :: rest))) : W p l e R s m args below meth c H locs cells slots Q (F0 m pc ls (.long b.toInt64 :: .long a.toInt64 :: rest)) := W.lcmp hexec hb hdg k
theorem g_runSW (fx : FX p s m args meth c cc nL ret own D cy ad x) (hw : WD D cy ad s M H locs)
    {y : MethodName} {bytes : ByteArray} {maxL fr lo mc ms n index : Nat} {rt : Option FieldType} {hh : List (Nat × Nat × Nat × Nat)} {As : List Value} {Qc : Array Value → State → Outcome → State → Prop}
    (hM : Met l y (.codeWith y bytes maxL rt hh :: GB) ({ frames := fr, cells := mc, slots := ms, locals := lo } : Room) (PcW D cy ad x H.size M As) Qc mc ms (AA ad H.size))
    (hl : Cond.methodLink own index y ∈ GB) (hi : Cond.static y ∈ GB) (hini : Cond.initialized y.cls ∈ GB) (hcode : Cond.codeWith y bytes maxL rt hh ∈ GB) (hd : y.cls ≠ "java/lang/invoke/MethodHandle" ∧ y.cls ≠ "java/lang/invoke/VarHandle" ∧ (parseMethodDescriptor y.desc).map (fun d => d.parameters.length) = some n) (hn : As.length = n)
    (hst : st0 = As.reverse ++ rest) (hcat : (rest.map fun v => v.category).sum ≤ 8) (hsz : ls.size = nL) (hR : fr + 1 ≤ R.frames ∧ 8 + (maxL + 11) + lo ≤ R.locals) (hf : cells + mc ≤ R.cells ∧ slots + ms ≤ R.slots) (hdg : decode cc pc = .ok (.invokestatic index, 3)) :
    va_Run p l e R s m args below meth c H locs cells slots mc ms (F0 m pc ls st0) rest (Qc As.toArray) (AA ad H.size) := by
  have hpre := g_pre fx hw (av := As)
  obtain ⟨S, -, -, hK, hF⟩ := fx
  have hts := S.2.2.2.2
  have hG : GoodIn GB (va_wsS own index y (.codeWith y bytes maxL rt hh :: GB)) := by
    intro w h
    simp only [va_wsS, List.cons_append, List.nil_append, List.mem_cons] at h
    rcases h with h | h | h | h | h
    · rw [h]; exact gb_good _ hl
    · rw [h]; exact gb_good _ hi
    · rw [h]; exact gb_good _ hini
    · rw [h]; exact gb_good _ hcode
    · exact gb_good _ h
  exact vx_runSW (As := As) (rest := rest) S hM (vx_cwSW n hts hG rfl rfl rfl hd hR) ⟨PcW_blind, hpre⟩ rfl hn hsz hst (lv_room hcat) hdg hf
end WROWS
