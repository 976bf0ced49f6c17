/-! THE TEXTS: 0 to 15 the reader's words, 16 to 31 the reference's; and those of the exceptions -/
def sTab : List (String × Nat × String × List Int32) := [
  ("SilentMonks$TextReader", 108, "paper", [112, 97, 112, 101, 114]),
  ("SilentMonks$TextReader", 121, "grant", [103, 114, 97, 110, 116]),
  ("SilentMonks$TextReader", 125, "need", [110, 101, 101, 100]),
  ("SilentMonks$TextReader", 140, "novice", [110, 111, 118, 105, 99, 101]),
  ("SilentMonks$TextReader", 142, "brother", [98, 114, 111, 116, 104, 101, 114]),
  ("SilentMonks$TextReader", 144, "elder", [101, 108, 100, 101, 114]),
  ("SilentMonks$TextReader", 153, "bell", [98, 101, 108, 108]),
  ("SilentMonks$TextReader", 158, "speech", [115, 112, 101, 101, 99, 104]),
  ("SilentMonks$TextReader", 163, "silence", [115, 105, 108, 101, 110, 99, 101]),
  ("SilentMonks$TextReader", 165, "want", [119, 97, 110, 116]),
  ("SilentMonks$TextReader", 170, "tell", [116, 101, 108, 108]),
  ("SilentMonks$TextReader", 175, "give", [103, 105, 118, 101]),
  ("SilentMonks$TextReader", 180, "wait", [119, 97, 105, 116]),
  ("SilentMonks$TextReader", 207, "sign", [115, 105, 103, 110]),
  ("SilentMonks$TextReader", 209, "slip", [115, 108, 105, 112]),
  ("SilentMonks$TextReader", 211, "voice", [118, 111, 105, 99, 101]),
  ("SilentMonksModel", 331, "paper", [112, 97, 112, 101, 114]),
  ("SilentMonksModel", 337, "grant", [103, 114, 97, 110, 116]),
  ("SilentMonksModel", 279, "need", [110, 101, 101, 100]),
  ("SilentMonksModel", 281, "novice", [110, 111, 118, 105, 99, 101]),
  ("SilentMonksModel", 283, "brother", [98, 114, 111, 116, 104, 101, 114]),
  ("SilentMonksModel", 285, "elder", [101, 108, 100, 101, 114]),
  ("SilentMonksModel", 293, "bell", [98, 101, 108, 108]),
  ("SilentMonksModel", 295, "speech", [115, 112, 101, 101, 99, 104]),
  ("SilentMonksModel", 297, "silence", [115, 105, 108, 101, 110, 99, 101]),
  ("SilentMonksModel", 314, "want", [119, 97, 110, 116]),
  ("SilentMonksModel", 316, "tell", [116, 101, 108, 108]),
  ("SilentMonksModel", 318, "give", [103, 105, 118, 101]),
  ("SilentMonksModel", 320, "wait", [119, 97, 105, 116]),
  ("SilentMonksModel", 308, "sign", [115, 105, 103, 110]),
  ("SilentMonksModel", 310, "slip", [115, 108, 105, 112]),
  ("SilentMonksModel", 312, "voice", [118, 111, 105, 99, 101])]
def xTab : List (String × Nat × String) := [
  ("SilentMonks", 58, "the text would be too long"),
  ("SilentMonks", 138, "no such number of the house"),
  ("SilentMonks", 141, "no such account"),
  ("SilentMonks", 174, "no such number of a monk"),
  ("SilentMonks", 193, "no such number of a need"),
  ("SilentMonks", 270, "there is no change to undo"),
  ("SilentMonks", 278, "nothing is saved there"),
  ("SilentMonks", 296, "no such byte"),
  ("SilentMonks", 302, "no such monk"),
  ("SilentMonks", 304, "no such need"),
  ("SilentMonks", 306, "no such hour"),
  ("SilentMonks", 308, "no such slot"),
  ("SilentMonks", 310, "both monks are the same one"),
  ("SilentMonks", 312, "out of range")]
def eTab : List String := ["java/lang/IndexOutOfBoundsException", "java/lang/IllegalArgumentException", "java/lang/IllegalStateException"]
def cTab : List (String × String) := [("java/lang/IndexOutOfBoundsException", "java/lang/IllegalArgumentException"), ("java/lang/IndexOutOfBoundsException", "java/lang/IllegalStateException"), ("java/lang/IllegalArgumentException", "java/lang/IndexOutOfBoundsException"), ("java/lang/IllegalArgumentException", "java/lang/IllegalStateException"), ("java/lang/IllegalStateException", "java/lang/IndexOutOfBoundsException"), ("java/lang/IllegalStateException", "java/lang/IllegalArgumentException")]
def nTab : List (String × Nat × MethodName × String) := [("SilentMonks", 9, yX1_init, "SilentMonks"), ("SilentMonks", 21, yX3_init, "SilentMonks"), ("SilentMonks", 35, yX4_init, "SilentMonks"), ("SilentMonks$History", 17, yX1_init, "SilentMonks"), ("SilentMonks$TextReader", 17, yX1_init, "SilentMonks")]
def dTab : List MethodName := [⟨"java/lang/RuntimeException", "<init>", "(Ljava/lang/String;)V"⟩, ⟨"java/lang/Exception", "<init>", "(Ljava/lang/String;)V"⟩, ⟨"java/lang/Throwable", "<init>", "(Ljava/lang/String;)V"⟩]
abbrev SX : Type := (Nat → Nat) × (Nat → Nat) × (Nat → Nat)
/-- what stands outside the cells that a method may change: the String constants, the JDK's statics, words of the tables alone -/
def SF (x : SX) (A : Nat → Prop) (U : State) (H : Heap) : Prop :=
  (∀ (i : Nat) (q : String × Nat × String × List Int32), sTab[i]? = some q → vk_R q.1 q.2.1 q.2.2.1 (x.1 i) U ∧ va_O "java/lang/String" (x.1 i) A U H ∧ va_OF "java/lang/String" "coder" "B" (.int 0) (x.1 i) A U H ∧ va_OF "java/lang/String" "value" "[B" (.ref (x.2.1 i)) (x.1 i) A U H ∧ va_T .byte (x.2.1 i) q.2.2.2.length (fun j => .int (q.2.2.2.getD j 0)) A U H) ∧
  (∀ (i : Nat) (q : String × Nat × String), xTab[i]? = some q → vk_R q.1 q.2.1 q.2.2 (x.2.2 i) U) ∧
  va_Z "java/lang/String" "COMPACT_STRINGS" "Z" (.int 1) A U H ∧ va_Zq "jdk/internal/util/Preconditions" "SIOOBE_FORMATTER" "Ljava/util/function/BiFunction;" A U H ∧
  vx_Zq Bundle.tN "UNASSIGNED_STACK" Bundle.steD A U H ∧ vx_Zq Bundle.tN "SUPPRESSED_SENTINEL" Bundle.listD A U H ∧
  (∀ E ∈ eTab, va_Nw (.castable E E) U) ∧ (∀ q ∈ cTab, va_Nc q.1 q.2 U) ∧ (∀ q ∈ nTab, va_Nw (.methodLinkNest q.1 q.2.1 q.2.2.1 q.2.2.2) U) ∧ (∀ y ∈ dTab, va_Nw (.declares y) U)
theorem SF.to {x : SX} {A B : Nat → Prop} {s U : State} {H H1 : Heap} (h : SF x A s H) (hW : s.WarmedH U.vm) (hq : ∀ a : Nat, a < H.size → ¬ A a → H1[a]? = H[a]?) (hAB : ∀ q, B q → A q) : SF x B U H1 := by
  obtain ⟨h1, h2, h3, h4, h5, h6, h7, h8, h9, h10⟩ := h
  have hv := hW.alike
  refine ⟨fun i q hi => ?_, fun i q hi => (h2 i q hi).warm hW, va_Z.narrow (va_Z.moved hv (h3.kept hq)) hAB, va_Zq.narrow (va_Zq.moved hv (h4.kept hq)) hAB, vx_Zq.narrow (vx_Zq.moved hv (h5.kept hq)) hAB, vx_Zq.narrow (vx_Zq.moved hv (h6.kept hq)) hAB, fun E hE => va_Nw.warmC hW (h7 E hE), fun q hq => va_Nc.moved hv (h8 q hq), fun q hq => va_Nw.warmM hW (h9 q hq), fun y hy => va_Nw.warmD hW (h10 y hy)⟩
  obtain ⟨k1, k2, k3, k4, k5⟩ := h1 i q hi
  exact ⟨k1.warm hW, va_O.narrow (va_O.moved hv (k2.kept hq)) hAB, va_OF.narrow (va_OF.moved hv (k3.kept hq)) hAB, va_OF.narrow (va_OF.moved hv (k4.kept hq)) hAB, va_T.narrow (va_T.moved hv (k5.kept hq)) hAB⟩
/-! THE WORDS: those of the tables that every method may be handed -/
def GB : List Cond := lw_tbl.filter goodWord
theorem gb_mem {w : Cond} (h : w ∈ lw_tbl) (hg : goodWord w = true) : w ∈ GB := List.mem_filter.mpr ⟨h, hg⟩
theorem gb_tbl {w : Cond} (h : w ∈ GB) : w ∈ lw_tbl := (List.mem_filter.mp h).1
theorem gb_good : GoodIn GB GB := fun w h => ⟨h, good_of_word (List.mem_filter.mp h).2⟩
theorem gb_0 {w : Cond} (i : Nat) (h : (k2_sels lw_privs)[i]? = some w) (hg : goodWord w = true) : w ∈ GB := gb_mem (List.mem_append_left _ (List.mem_of_getElem? h)) hg
theorem gb_1 {w : Cond} (i : Nat) (h : tables_1_1[i]? = some w) (hg : goodWord w = true) : w ∈ GB := gb_mem (List.mem_append_right _ (List.mem_append_left _ (List.mem_of_getElem? h))) hg
theorem gb_2 {w : Cond} (i : Nat) (h : tables_1_2[i]? = some w) (hg : goodWord w = true) : w ∈ GB := gb_mem (List.mem_append_right _ (List.mem_append_right _ (List.mem_append_left _ (List.mem_of_getElem? h)))) hg
theorem gb_3 {w : Cond} (i : Nat) (h : tables_1_3[i]? = some w) (hg : goodWord w = true) : w ∈ GB := gb_mem (List.mem_append_right _ (List.mem_append_right _ (List.mem_append_right _ (List.mem_append_left _ (List.mem_of_getElem? h))))) hg
theorem gb_4 {w : Cond} (i : Nat) (h : tables_1_4[i]? = some w) (hg : goodWord w = true) : w ∈ GB := gb_mem (List.mem_append_right _ (List.mem_append_right _ (List.mem_append_right _ (List.mem_append_right _ (List.mem_append_left _ (List.mem_of_getElem? h)))))) hg
theorem gb_5 {w : Cond} (i : Nat) (h : tables_1_5[i]? = some w) (hg : goodWord w = true) : w ∈ GB := gb_mem (List.mem_append_right _ (List.mem_append_right _ (List.mem_append_right _ (List.mem_append_right _ (List.mem_append_right _ (List.mem_append_left _ (List.mem_of_getElem? h))))))) hg
theorem gb_6 {w : Cond} (i : Nat) (h : tables_1_6[i]? = some w) (hg : goodWord w = true) : w ∈ GB := gb_mem (List.mem_append_right _ (List.mem_append_right _ (List.mem_append_right _ (List.mem_append_right _ (List.mem_append_right _ (List.mem_append_right _ (List.mem_append_left _ (List.mem_of_getElem? h)))))))) hg
theorem gb_7 {w : Cond} (i : Nat) (h : tables_1_7[i]? = some w) (hg : goodWord w = true) : w ∈ GB := gb_mem (List.mem_append_right _ (List.mem_append_right _ (List.mem_append_right _ (List.mem_append_right _ (List.mem_append_right _ (List.mem_append_right _ (List.mem_append_right _ (List.mem_of_getElem? h)))))))) hg
/-! A METHOD'S BODY -/
def WD (D : va_G) (cy : Nat → ClassId) (ad : Nat → Nat) (s : State) (M : Mem) (H : Heap) (locs : List Loc) : Prop := va_P D vwCl (wl cy ad M) H ∧ va_D (AA ad s.heap.size) (wl cy ad M) ∧ va_S (AA ad s.heap.size) s.heap H locs
def FX (p : Program) (s : State) (m : MethodId) (args : Array Value) (meth : Method) (c : Code) (cc : ByteArray) (nL : Nat) (ret : Option FieldType) (own : String) (D : va_G) (cy : Nat → ClassId) (ad : Nat → Nat) (x : SX) : Prop :=
  CallFix p m c cc nL s args GB own ∧ meth.sig.returnType = ret ∧ meth.locks = false ∧ va_K D vwCl (tys cy) s ∧ SF x (AA ad s.heap.size) s s.heap
def PcW (D : va_G) (cy : Nat → ClassId) (ad : Nat → Nat) (x : SX) (sz : Nat) (M : Mem) (av : List Value) : Array Value → State → Prop := va_Pc av (fun U => U.heap.size = sz ∧ va_P D vwCl (wl cy ad M) U.heap ∧ va_K D vwCl (tys cy) U ∧ va_D (fun _ => True) (wl cy ad M) ∧ SF x (AA ad sz) U U.heap)
def BW (D : va_G) (cy : Nat → ClassId) (ad : Nat → Nat) (sz : Nat) (M : Mem) : Unit → State → Prop := fun _ t => va_P D vwCl (wl cy ad M) t.heap ∧ va_K D vwCl (tys cy) t ∧ va_D (AA ad sz) (wl cy ad M)
def QiW (D : va_G) (cy : Nat → ClassId) (ad : Nat → Nat) (sz : Nat) (z : Int32) (M : Mem) : Array Value → State → Outcome → State → Prop := va_Qi (fun (r : Int32) (_ : Unit) => r = z) (BW D cy ad sz M) (AA ad sz)
def QzW (D : va_G) (cy : Nat → ClassId) (ad : Nat → Nat) (sz : Nat) (z : Int32) (M : Mem) : Array Value → State → Outcome → State → Prop := va_Qi (fun (r : Int32) (_ : Unit) => r = z ∧ (z = 0 ∨ z = 1)) (BW D cy ad sz M) (AA ad sz)
def QvW (D : va_G) (cy : Nat → ClassId) (ad : Nat → Nat) (sz : Nat) (M : Mem) : Array Value → State → Outcome → State → Prop := va_Qv (fun (_ : Unit) => True) (BW D cy ad sz M) (AA ad sz)
theorem PcW_blind {D : va_G} {cy : Nat → ClassId} {ad : Nat → Nat} {x : SX} {sz : Nat} {M : Mem} {av : List Value} : FrameBlind (PcW D cy ad x sz M av) := by
  intro a U g mk q
  obtain ⟨q0, q1, qP, qK, qD, qF⟩ := q
  exact ⟨q0, q1, qP, va_K.moved (u := U) (U := U.calling g mk a) (Vm.Alike.refl U.vm) qK, qD, qF.to (U := U.calling g mk a) (State.WarmedH.refl U) (fun _ _ _ => rfl) (fun _ h => h)⟩
section MK
variable {l : Launch} {y : MethodName} {cc : ByteArray} {maxL fr lo mc ms : Nat} {ret : Option FieldType} {own : String} {D : va_G} {cy : Nat → ClassId} {ad : Nat → Nat} {x : SX} {sz : Nat} {M : Mem} {av : List Value} {Qc : Array Value → State → Outcome → State → Prop}
theorem mk_m (hy : plainName y.cls = true) (ho : y.cls = own) (hv : (lg_sl av).length ≤ maxL)
    (body : ∀ p e s m args below meth c ls, FX p s m args meth c cc maxL ret own D cy ad x → WD D cy ad s M s.heap [] → lv_has ls maxL (lv_args 0 av) → s.heap.size = sz →
      W p l e ({ frames := fr, cells := mc, slots := ms, locals := lo } : Room) s m args below meth c s.heap [] 0 0 (MQ below Qc args s mc ms (AA ad sz)) (F0 m 0 ls [])) :
    Met l y (.code y cc maxL ret :: GB) ({ frames := fr, cells := mc, slots := ms, locals := lo } : Room) (PcW D cy ad x sz M av) Qc mc ms (AA ad sz) := by
  refine Met.ofW (cc := cc) (maxL := maxL) (ret := ret) hy rfl ?_
  intro p e s m args below meth c s₁ B hml hv9
  obtain ⟨rfl, hsz, hP, hK, hD0, hF⟩ := hv9
  have hts := atoms_spec (ws := .code y cc maxL ret :: GB) B.pre
  have hown : s.vm.findClass own = some m.cls := by rw [← ho]; exact findClass_of_methodNamed B.named
  rw [lg_entry_eq]
  subst hsz
  exact body p e s m av.toArray below meth c _ ⟨⟨B.exec, B.bytes, hml, hown, fun w h => hts w (List.mem_cons_of_mem _ h)⟩, B.returns, B.notSynchronized, hK, hF⟩ ⟨hP, wl_D hD0, va_S.rf⟩ (lv_entry av hv) rfl
end MK
section ROWS
variable {p : Program} {l : Launch} {e : Env} {R : Room} {s : State} {m : MethodId} {args : Array Value} {below : List Frame} {meth : Method} {c : Code} {H : Heap} {locs : List Loc} {cells slots : Nat} {Q : State → Prop}
variable {cc : ByteArray} {nL : Nat} {ret : Option FieldType} {own : String} {D : va_G} {cy : Nat → ClassId} {ad : Nat → Nat} {x : SX} {M : Mem} {pc : Nat} {ls : Array Slot} {rest st0 : List Value}
theorem g_iret {mc ms : Nat} {v z : Int32} (fx : FX p s m args meth c cc nL (some .int) own D cy ad x) (hw : WD D cy ad s M H locs) (hz : v = z) (hdg : decode cc pc = .ok (.ireturn, 1)) : W p l e R s m args below meth c H locs mc ms (MQ below (QiW D cy ad s.heap.size z M) args s mc ms (AA ad s.heap.size)) (F0 m pc ls [.int v]) := by
  obtain ⟨S, hr, hlk, hK, -⟩ := fx
  obtain ⟨hP, hD, hS⟩ := hw
  exact W.iret (hlocks := hlk) S.1 S.2.1 hr (fun t ht hW => ⟨⟨v, (), rfl, hz, by rw [ht]; exact hP, va_K.moved hW.alike hK, hD⟩, hS.F ht⟩) hS.2.2 hdg
theorem g_zret {mc ms : Nat} {v z : Int32} (fx : FX p s m args meth c cc nL (some .boolean) own D cy ad x) (hw : WD D cy ad s M H locs) (hz : v = z) (hb : v = 0 ∨ v = 1) (hdg : decode cc pc = .ok (.ireturn, 1)) : W p l e R s m args below meth c H locs mc ms (MQ below (QzW D cy ad s.heap.size z M) args s mc ms (AA ad s.heap.size)) (F0 m pc ls [.int v]) := by
  obtain ⟨S, hr, hlk, hK, -⟩ := fx
  obtain ⟨hP, hD, hS⟩ := hw
  exact W.zret (hlocks := hlk) S.1 S.2.1 hr (by rcases hb with h | h <;> subst h <;> rfl) (fun t ht hW => ⟨⟨v, (), rfl, ⟨hz, by rw [← hz]; exact hb⟩, by rw [ht]; exact hP, va_K.moved hW.alike hK, hD⟩, hS.F ht⟩) hS.2.2 hdg
theorem g_vret {mc ms : Nat} (fx : FX p s m args meth c cc nL none own D cy ad x) (hw : WD D cy ad s M H locs) (hdg : decode cc pc = .ok (.return_, 1)) : W p l e R s m args below meth c H locs mc ms (MQ below (QvW D cy ad s.heap.size M) args s mc ms (AA ad s.heap.size)) (F0 m pc ls []) := by
  obtain ⟨S, hr, hlk, hK, -⟩ := fx
  obtain ⟨hP, hD, hS⟩ := hw
  exact W.vret (hlocks := hlk) S.1 S.2.1 hr (fun t ht hW => ⟨⟨(), rfl, trivial, by rw [ht]; exact hP, va_K.moved hW.alike hK, hD⟩, hS.F ht⟩) hS.2.2 hdg
/-! arithmetic under names -/
theorem g_irem (hexec : p.tables.exec = Jvm.exec) (hb : c.code = cc) {a b : Int32} (hdg : decode cc pc = .ok (.irem, 1)) (hne : ¬ b = 0)
    (k : W p l e R s m args below meth c H locs cells slots Q (F0 m (pc + 1) ls (.int (irem a b) :: rest))) : W p l e R s m args below meth c H locs cells slots Q (F0 m pc ls (.int b :: .int a :: rest)) := lv_irem hexec hb hdg hne k
theorem g_ishl (hexec : p.tables.exec = Jvm.exec) (hb : c.code = cc) {a b : Int32} (hdg : decode cc pc = .ok (.ishl, 1))
    (k : W p l e R s m args below meth c H locs cells slots Q (F0 m (pc + 1) ls (.int (ishl a b) :: rest))) : W p l e R s m args below meth c H locs cells slots Q (F0 m pc ls (.int b :: .int a :: rest)) := lv_ishl hexec hb hdg k
theorem g_ishr (hexec : p.tables.exec = Jvm.exec) (hb : c.code = cc) {a b : Int32} (hdg : decode cc pc = .ok (.ishr, 1))
    (k : W p l e R s m args below meth c H locs cells slots Q (F0 m (pc + 1) ls (.int (ishr a b) :: rest))) : W p l e R s m args below meth c H locs cells slots Q (F0 m pc ls (.int b :: .int a :: rest)) := lv_ishr hexec hb hdg k
theorem g_iushr (hexec : p.tables.exec = Jvm.exec) (hb : c.code = cc) {a b : Int32} (hdg : decode cc pc = .ok (.iushr, 1))
    (k : W p l e R s m args below meth c H locs cells slots Q (F0 m (pc + 1) ls (.int (iushr a b) :: rest))) : W p l e R s m args below meth c H locs cells slots Q (F0 m pc ls (.int b :: .int a :: rest)) := lv_iushr hexec hb hdg rfl k
theorem g_top {a b : Int32} (h : b = a) (k : W p l e R s m args below meth c H locs cells slots Q (F0 m pc ls (.int b :: rest))) : W p l e R s m args below meth c H locs cells slots Q (F0 m pc ls (.int a :: rest)) := by
  subst h
  exact k
/-! fields and places -/
theorem g_get (fx : FX p s m args meth c cc nL ret own D cy ad x) (hw : WD D cy ad s M H locs) {ci q : Nat} {fs : (Nat → Nat) → (Nat → Int32) → List Value} (hO : isO ci q fs) {C : String} {T : u_T} {N : Nat} (hc : vwCl[ci]? = some (C, T, N)) (hin : ∀ w ∈ u_ws C T N, w ∈ GB) (hTC : ∀ k, k < N → (T k).1 = C) (k : Nat) (hk : k < N) {index : Nat} (hlink : Cond.fieldLink own index C (T k).2.1 (T k).2.2.1 ∈ GB) {v : Value} (hv : (fs ad (M q))[k]? = some v) (hdg : decode cc pc = .ok (.getfield index, 3))
    (kk : W p l e R s m args below meth c H locs cells slots Q (F0 m (pc + 3) ls (v :: rest))) : W p l e R s m args below meth c H locs cells slots Q (F0 m pc ls (.ref (ad q) :: rest)) := by
  obtain ⟨⟨hx, hb, hml, hown, hts⟩, -, -, hK, -⟩ := fx
  exact va_get hx hb hts hin hown hK hw.1 q (by rw [wl_at hO.1, hO.2]) hc k hk (hts _ hlink) (fun _ h9 => by rw [hTC k hk] at h9; exact h9) hv hdg kk
theorem g_put (fx : FX p s m args meth c cc nL ret own D cy ad x) (hw : WD D cy ad s M H locs) {ci q : Nat} {fs : (Nat → Nat) → (Nat → Int32) → List Value} (hO : isO ci q fs) {C : String} {T : u_T} {N : Nat} (hc : vwCl[ci]? = some (C, T, N)) (hin : ∀ w ∈ u_ws C T N, w ∈ GB) (hTC : ∀ k, k < N → (T k).1 = C) (ty0 : Nat → FieldType) (hty : ∀ k, k < N → parseFieldDescriptor (T k).2.2.1 = some (ty0 k)) (hnm : ∀ a, a < N → ∀ b, b < N → a ≠ b → (T a).2.1 ≠ (T b).2.1) (k : Nat) (hk : k < N) {index : Nat} (hlink : Cond.fieldLink own index C (T k).2.1 (T k).2.2.1 ∈ GB) (hI : (T k).2.2 = ("I", false)) {v : Int32} {M' : Mem} (hM : M' = mput M q k v) (hset : (fs ad (M q)).set k (.int v) = fs ad (upd (M q) k v)) (hl : k < (fs ad (M q)).length) (hdg : decode cc pc = .ok (.putfield index, 3))
    (kk : ∀ (H1 : Heap) (locs1 : List Loc), WD D cy ad s M' H1 locs1 → W p l e R s m args below meth c H1 locs1 cells slots Q (F0 m (pc + 3) ls rest)) : W p l e R s m args below meth c H locs cells slots Q (F0 m pc ls (.int v :: .ref (ad q) :: rest)) := by
  obtain ⟨⟨hx, hb, hml, hown, hts⟩, -, -, hK, -⟩ := fx
  obtain ⟨hP, hD, hS⟩ := hw
  subst hM
  refine va_put (ty := .int) hx hb hts hin ty0 hty hnm hown hK hP hD hS q (by rw [wl_at hO.1, hO.2]) hc k hk (hts _ hlink) (fun _ h9 => by rw [hTC k hk] at h9; exact h9) (by rw [hI]) (by rw [hI]; rfl) rfl rfl hl hdg (fun H1 locs1 hP hD hS => ?_)
  rw [hset, ← hO.2 cy ad, wl_set hO.1] at hP hD
  exact kk H1 locs1 ⟨hP, hD, hS⟩
theorem g_iald (fx : FX p s m args meth c cc nL ret own D cy ad x) (hw : WD D cy ad s M H locs) {q n : Nat} (hA : isA q n) {i : Int32} (hin : inB i n = true) (hdg : decode cc pc = .ok (.iaload, 1))
    (kk : W p l e R s m args below meth c H locs cells slots Q (F0 m (pc + 1) ls (.int (M q (ix i)) :: rest))) : W p l e R s m args below meth c H locs cells slots Q (F0 m pc ls (.int i :: .ref (ad q) :: rest)) := by
  obtain ⟨⟨hx, hb, hml, hown, hts⟩, -, -, hK, -⟩ := fx
  exact va_iald hx hb hK hw.1 q 0 (by rw [wl_at hA.1, hA.2]) rfl (inB_in hin) hdg kk
theorem g_ialdc (fx : FX p s m args meth c cc nL ret own D cy ad x) (hw : WD D cy ad s M H locs) {q n : Nat} (hA : isA q n) {i : Int32} {k : Nat} (hi : ix i = k) (hin : inB i n = true) (hdg : decode cc pc = .ok (.iaload, 1))
    (kk : W p l e R s m args below meth c H locs cells slots Q (F0 m (pc + 1) ls (.int (M q k) :: rest))) : W p l e R s m args below meth c H locs cells slots Q (F0 m pc ls (.int i :: .ref (ad q) :: rest)) := by
  subst hi
  exact g_iald fx hw hA hin hdg kk
theorem g_zald (fx : FX p s m args meth c cc nL ret own D cy ad x) (hw : WD D cy ad s M H locs) {q n : Nat} (hA : isZ q n) {i : Int32} (hin : inB i n = true) (hdg : decode cc pc = .ok (.baload, 1))
    (kk : W p l e R s m args below meth c H locs cells slots Q (F0 m (pc + 1) ls (.int (M q (ix i)) :: rest))) : W p l e R s m args below meth c H locs cells slots Q (F0 m pc ls (.int i :: .ref (ad q) :: rest)) := by
  obtain ⟨⟨hx, hb, hml, hown, hts⟩, -, -, hK, -⟩ := fx
  exact va_zald hx hb hK hw.1 q 1 (by rw [wl_at hA.1, hA.2]) rfl (inB_in hin) hdg kk
theorem g_iast (fx : FX p s m args meth c cc nL ret own D cy ad x) (hw : WD D cy ad s M H locs) {q n : Nat} (hA : isA q n) {i v : Int32} {M' : Mem} (hin : inB i n = true) (hM : M' = mput M q (ix i) v) (hdg : decode cc pc = .ok (.iastore, 1))
    (kk : ∀ (H1 : Heap) (locs1 : List Loc), WD D cy ad s M' H1 locs1 → W p l e R s m args below meth c H1 locs1 cells slots Q (F0 m (pc + 1) ls rest)) : W p l e R s m args below meth c H locs cells slots Q (F0 m pc ls (.int v :: .int i :: .ref (ad q) :: rest)) := by
  obtain ⟨⟨hx, hb, hml, hown, hts⟩, -, -, hK, -⟩ := fx
  obtain ⟨hP, hD, hS⟩ := hw
  subst hM
  refine va_iast hx hb hK hP hD hS q 0 (by rw [wl_at hA.1, hA.2]) rfl (inB_in hin) hdg (fun H1 locs1 hP hD hS => ?_)
  rw [← hA.2 cy ad, wl_set hA.1] at hP hD
  exact kk H1 locs1 ⟨hP, hD, hS⟩
theorem g_iastc (fx : FX p s m args meth c cc nL ret own D cy ad x) (hw : WD D cy ad s M H locs) {q n : Nat} (hA : isA q n) {i v : Int32} {k : Nat} (hi : ix i = k) {M' : Mem} (hin : inB i n = true) (hM : M' = mput M q k v) (hdg : decode cc pc = .ok (.iastore, 1))
    (kk : ∀ (H1 : Heap) (locs1 : List Loc), WD D cy ad s M' H1 locs1 → W p l e R s m args below meth c H1 locs1 cells slots Q (F0 m (pc + 1) ls rest)) : W p l e R s m args below meth c H locs cells slots Q (F0 m pc ls (.int v :: .int i :: .ref (ad q) :: rest)) := by
  subst hi
  exact g_iast fx hw hA hin hM hdg kk
theorem g_zast (fx : FX p s m args meth c cc nL ret own D cy ad x) (hw : WD D cy ad s M H locs) {q n : Nat} (hA : isZ q n) {i v : Int32} {M' : Mem} (hin : inB i n = true) (hv : vp_nar .boolean v = v) (hM : M' = mput M q (ix i) v) (hdg : decode cc pc = .ok (.bastore, 1))
    (kk : ∀ (H1 : Heap) (locs1 : List Loc), WD D cy ad s M' H1 locs1 → W p l e R s m args below meth c H1 locs1 cells slots Q (F0 m (pc + 1) ls rest)) : W p l e R s m args below meth c H locs cells slots Q (F0 m pc ls (.int v :: .int i :: .ref (ad q) :: rest)) := by
  obtain ⟨⟨hx, hb, hml, hown, hts⟩, -, -, hK, -⟩ := fx
  obtain ⟨hP, hD, hS⟩ := hw
  subst hM
  refine va_zast hx hb hK hP hD hS q 1 (by rw [wl_at hA.1, hA.2]) rfl (inB_in hin) hdg (fun H1 locs1 hP hD hS => ?_)
  rw [hv, ← hA.2 cy ad, wl_set hA.1] at hP hD
  exact kk H1 locs1 ⟨hP, hD, hS⟩
theorem g_aald (fx : FX p s m args meth c cc nL ret own D cy ad x) (hw : WD D cy ad s M H locs) {q n : Nat} {t : Nat → Nat} (hA : isQ q n t) {i : Int32} (hin : inB i n = true) (hdg : decode cc pc = .ok (.aaload, 1))
    (kk : W p l e R s m args below meth c H locs cells slots Q (F0 m (pc + 1) ls (.ref (ad (t (ix i))) :: rest))) : W p l e R s m args below meth c H locs cells slots Q (F0 m pc ls (.int i :: .ref (ad q) :: rest)) := by
  obtain ⟨⟨hx, hb, hml, hown, hts⟩, -, -, hK, -⟩ := fx
  exact va_aldq (f := fun j => some (ad (t j))) hx hb hK hw.1 q 2 (by rw [wl_at hA.1, hA.2]) rfl (inB_in hin) hdg kk
theorem g_alen (fx : FX p s m args meth c cc nL ret own D cy ad x) (hw : WD D cy ad s M H locs) {q n : Nat} (hA : isA q n) {v : Int32} (hv : Int32.ofNat n = v) (hdg : decode cc pc = .ok (.arraylength, 1))
    (kk : W p l e R s m args below meth c H locs cells slots Q (F0 m (pc + 1) ls (.int v :: rest))) : W p l e R s m args below meth c H locs cells slots Q (F0 m pc ls (.ref (ad q) :: rest)) := by
  obtain ⟨⟨hx, hb, hml, hown, hts⟩, -, -, hK, -⟩ := fx
  exact va_alen hx hb hK hw.1 q 0 (by rw [wl_at hA.1, hA.2]) rfl hv hdg kk
theorem g_copy (fx : FX p s m args meth c cc nL ret own D cy ad x) (hw : WD D cy ad s M H locs) {q0 q1 n0 n1 : Nat} (hA0 : isA q0 n0) (hA1 : isA q1 n1) {index : Nat} (hlink : Cond.methodLink own index arraycopyName ∈ GB) (hnat : Cond.native arraycopyName ∈ GB) (hstat : Cond.static arraycopyName ∈ GB) (hini : Cond.initialized "java/lang/System" ∈ GB)
    {sp dp n : Int32} (h1 : ¬ sp < 0) (h2 : ¬ dp < 0) (h3 : ¬ n < 0) (h4 : ix sp + ix n ≤ n0) (h5 : ix dp + ix n ≤ n1) {M' : Mem} (hM : M' = mcpy M q1 q0 (ix sp) (ix dp) (ix n)) (hsz : ls.size = nL) (hframes : 1 ≤ R.frames) (hlocals : (rest.map fun v => v.category).sum + (nativeFrameWords "java/lang/System" "arraycopy" 5 + 11) ≤ R.locals) (hdg : decode cc pc = .ok (.invokestatic index, 3))
    (kk : ∀ (H1 : Heap) (locs1 : List Loc), WD D cy ad s M' H1 locs1 → W p l e R s m args below meth c H1 locs1 cells slots Q (F0 m (pc + 3) ls rest)) : W p l e R s m args below meth c H locs cells slots Q (F0 m pc ls (.int n :: .int dp :: .ref (ad q1) :: .int sp :: .ref (ad q0) :: rest)) := by
  obtain ⟨⟨hx, hb, hml, hown, hts⟩, -, -, hK, -⟩ := fx
  obtain ⟨hP, hD, hS⟩ := hw
  subst hM
  refine va_copyi (ty := .int) hx hb (by rw [hml, hsz]) hown (hts _ hlink) (hts _ hnat) (hts _ hstat) (hts _ hini) hK hP hD hS q0 q1 0 0 (by rw [wl_at hA0.1, hA0.2]) (by rw [wl_at hA1.1, hA1.2]) rfl rfl rfl h1 h2 h3 h4 h5 (fun _ _ => rfl) hframes hlocals hdg (fun H1 locs1 hP hD hS => ?_)
  rw [← hA1.2 cy ad, wl_set hA1.1] at hP hD
  exact kk H1 locs1 ⟨hP, hD, hS⟩
/-! calls -/
theorem cwG {index n mc ms fr lo maxL : Nat} {y : MethodName} {bytes : ByteArray} {rt : Option FieldType} (hts : ∀ w ∈ GB, w.before args s = true) (hl : Cond.methodLink own index y ∈ GB) (hini : Cond.initialized y.cls ∈ GB) (hcode : Cond.code y bytes maxL rt ∈ GB) (hd : y.cls ≠ "java/lang/invoke/MethodHandle" ∧ y.cls ≠ "java/lang/invoke/VarHandle" ∧ (parseMethodDescriptor y.desc).map (fun d => d.parameters.length) = some n) (hR : fr + 1 ≤ R.frames ∧ 8 + (maxL + 11) + lo ≤ R.locals) :
    CallB R s args own index y bytes maxL rt (.code y bytes maxL rt :: GB) ({ frames := fr, cells := mc, slots := ms, locals := lo } : Room) mc ms n :=
  callB_of n hts (fun w h => (List.mem_cons.mp h).elim (fun e => by rw [e]; exact gb_good _ hcode) (fun h => gb_good _ h)) rfl rfl rfl (hts _ hini) (hts _ hl) hd hR
theorem g_pre (fx : FX p s m args meth c cc nL ret own D cy ad x) (hw : WD D cy ad s M H locs) {av : List Value} : ∀ U : State, U.heap = H → s.WarmedH U.vm → PcW D cy ad x H.size M av av.toArray U := by
  intro U hU hW
  obtain ⟨-, -, -, hK, hF⟩ := fx
  obtain ⟨hP, hD, hS⟩ := hw
  exact ⟨rfl, by rw [hU], by rw [hU]; exact hP, va_K.moved hW.alike hK, hD.weaken (fun _ _ _ _ => trivial), by rw [hU]; exact hF.to hW hS.2.1 (fun q h => AA_mono hS.1 h)⟩
theorem g_runV (fx : FX p s m args meth c cc nL ret own D cy ad x) (hw : WD D cy ad s M H locs) {ci q : Nat} {fs : (Nat → Nat) → (Nat → Int32) → List Value} (hO : isO ci q fs) {C : String} {T : u_T} {N : Nat} (hc : vwCl[ci]? = some (C, T, N))
    {y : MethodName} {bytes : ByteArray} {maxL fr lo mc ms n index : Nat} {rt : Option FieldType} {As : List Value} {Qc : Array Value → State → Outcome → State → Prop}
    (hM : Met l y (.code y bytes maxL rt :: GB) ({ frames := fr, cells := mc, slots := ms, locals := lo } : Room) (PcW D cy ad x H.size M (.ref (ad q) :: As)) Qc mc ms (AA ad H.size))
    (hl : Cond.methodLink own index y ∈ GB) (hi : Cond.instanceMethod y ∈ GB) (hs : Cond.selects C y y ∈ GB) (hini : Cond.initialized y.cls ∈ GB) (hcode : Cond.code y bytes maxL rt ∈ GB) (hd : y.cls ≠ "java/lang/invoke/MethodHandle" ∧ y.cls ≠ "java/lang/invoke/VarHandle" ∧ (parseMethodDescriptor y.desc).map (fun d => d.parameters.length) = some n) (hn : As.length = n)
    (hst : st0 = As.reverse ++ .ref (ad q) :: rest) (hcat : (rest.map fun v => v.category).sum ≤ 8) (hsz : ls.size = nL) (hR : fr + 1 ≤ R.frames ∧ 8 + (maxL + 11) + lo ≤ R.locals) (hf : cells + mc ≤ R.cells ∧ slots + ms ≤ R.slots) (hdg : decode cc pc = .ok (.invokevirtual index, 3)) :
    va_Run p l e R s m args below meth c H locs cells slots mc ms (F0 m pc ls st0) rest (Qc (Value.ref (ad q) :: As).toArray) (AA ad H.size) := by
  have hpre := g_pre fx hw (av := .ref (ad q) :: As)
  obtain ⟨S, -, -, hK, hF⟩ := fx
  have hts := S.2.2.2.2
  exact va_runV (C := C) (As := As) (rest := rest) S hM ⟨cwG hts hl hini hcode hd hR, hts _ hi, hts _ hs⟩ ⟨PcW_blind, va_recv hK hw.1 hc (show (wl cy ad M)[q]? = some (ad q, .inr (ci, fs ad (M q))) by rw [wl_at hO.1, hO.2]), hpre⟩ rfl hn hsz hst (lv_room hcat) hdg hf
theorem g_runS (fx : FX p s m args meth c cc nL ret own D cy ad x) (hw : WD D cy ad s M H locs)
    {y : MethodName} {bytes : ByteArray} {maxL fr lo mc ms n index : Nat} {rt : Option FieldType} {As : List Value} {Qc : Array Value → State → Outcome → State → Prop}
    (hM : Met l y (.code y bytes maxL rt :: GB) ({ frames := fr, cells := mc, slots := ms, locals := lo } : Room) (PcW D cy ad x H.size M As) Qc mc ms (AA ad H.size))
    (hl : Cond.methodLink own index y ∈ GB) (hi : Cond.static y ∈ GB) (hini : Cond.initialized y.cls ∈ GB) (hcode : Cond.code y bytes maxL rt ∈ GB) (hd : y.cls ≠ "java/lang/invoke/MethodHandle" ∧ y.cls ≠ "java/lang/invoke/VarHandle" ∧ (parseMethodDescriptor y.desc).map (fun d => d.parameters.length) = some n) (hn : As.length = n)
    (hst : st0 = As.reverse ++ rest) (hcat : (rest.map fun v => v.category).sum ≤ 8) (hsz : ls.size = nL) (hR : fr + 1 ≤ R.frames ∧ 8 + (maxL + 11) + lo ≤ R.locals) (hf : cells + mc ≤ R.cells ∧ slots + ms ≤ R.slots) (hdg : decode cc pc = .ok (.invokestatic index, 3)) :
    va_Run p l e R s m args below meth c H locs cells slots mc ms (F0 m pc ls st0) rest (Qc As.toArray) (AA ad H.size) := by
  have hpre := g_pre fx hw (av := As)
  obtain ⟨S, -, -, hK, hF⟩ := fx
  have hts := S.2.2.2.2
  exact va_runS (As := As) (rest := rest) S hM ⟨cwG hts hl hini hcode hd hR, hts _ hi⟩ ⟨PcW_blind, hpre⟩ rfl hn hsz hst (lv_room hcat) hdg hf
theorem g_ci (hw : WD D cy ad s M H locs) {mc ms : Nat} {z : Int32} {M' : Mem} {a : Array Value} (hr : va_Run p l e R s m args below meth c H locs cells slots mc ms (F0 m pc ls st0) rest (QiW D cy ad H.size z M' a) (AA ad H.size))
    (kk : ∀ (H1 : Heap) (locs1 : List Loc), WD D cy ad s M' H1 locs1 → W p l e R s m args below meth c H1 locs1 (cells + mc) (slots + ms) Q (F0 m (pc + 3) ls (.int z :: rest))) : W p l e R s m args below meth c H locs cells slots Q (F0 m pc ls st0) := by
  obtain ⟨hP, hD, hS⟩ := hw
  refine va_calli hr hS (fun q _ h => AA_mono hS.1 h) (fun q h => AA_mono hS.1 h) (fun r u t H1 locs1 ht hvm hw' hB hz1 hk1 hS1 => ?_)
  subst hw'
  obtain ⟨hP1, hK1, hD1⟩ := hB
  rw [ht] at hP1
  exact kk H1 locs1 ⟨hP1, wl_D hD1, hS1⟩
theorem g_cz (hw : WD D cy ad s M H locs) {mc ms : Nat} {z : Int32} {M' : Mem} {a : Array Value} (hr : va_Run p l e R s m args below meth c H locs cells slots mc ms (F0 m pc ls st0) rest (QzW D cy ad H.size z M' a) (AA ad H.size))
    (kk : ∀ (H1 : Heap) (locs1 : List Loc), (z = 0 ∨ z = 1) → WD D cy ad s M' H1 locs1 → W p l e R s m args below meth c H1 locs1 (cells + mc) (slots + ms) Q (F0 m (pc + 3) ls (.int z :: rest))) : W p l e R s m args below meth c H locs cells slots Q (F0 m pc ls st0) := by
  obtain ⟨hP, hD, hS⟩ := hw
  refine va_calli hr hS (fun q _ h => AA_mono hS.1 h) (fun q h => AA_mono hS.1 h) (fun r u t H1 locs1 ht hvm hw' hB hz1 hk1 hS1 => ?_)
  obtain ⟨hw', hb⟩ := hw'
  subst hw'
  obtain ⟨hP1, hK1, hD1⟩ := hB
  rw [ht] at hP1
  exact kk H1 locs1 hb ⟨hP1, wl_D hD1, hS1⟩
theorem g_cv (hw : WD D cy ad s M H locs) {mc ms : Nat} {M' : Mem} {a : Array Value} (hr : va_Run p l e R s m args below meth c H locs cells slots mc ms (F0 m pc ls st0) rest (QvW D cy ad H.size M' a) (AA ad H.size))
    (kk : ∀ (H1 : Heap) (locs1 : List Loc), WD D cy ad s M' H1 locs1 → W p l e R s m args below meth c H1 locs1 (cells + mc) (slots + ms) Q (F0 m (pc + 3) ls rest)) : W p l e R s m args below meth c H locs cells slots Q (F0 m pc ls st0) := by
  obtain ⟨hP, hD, hS⟩ := hw
  refine va_callv hr hS (fun q _ h => AA_mono hS.1 h) (fun q h => AA_mono hS.1 h) (fun u t H1 locs1 ht hvm hw' hB hz1 hk1 hS1 => ?_)
  obtain ⟨hP1, hK1, hD1⟩ := hB
  rw [ht] at hP1
  exact kk H1 locs1 ⟨hP1, wl_D hD1, hS1⟩
theorem g_mmax (fx : FX p s m args meth c cc nL ret own D cy ad x) {index : Nat} (hl : Cond.methodLink own index Lib.Math.max.name ∈ GB) (hi : Cond.static Lib.Math.max.name ∈ GB) (hini : Cond.initialized "java/lang/Math" ∈ GB) (hcode : Cond.code Lib.Math.max.name Lib.Math.max.code 2 (some .int) ∈ GB) (hsz : ls.size = nL) (hframes : 1 ≤ R.frames) (hlocals : (rest.map fun v => v.category).sum + 13 ≤ R.locals) (hf : cells ≤ R.cells ∧ slots ≤ R.slots) {a b : Int32} (hdg : decode cc pc = .ok (.invokestatic index, 3))
    (kk : W p l e R s m args below meth c H locs cells slots Q (F0 m (pc + 3) ls (.int (imax a b) :: rest))) : W p l e R s m args below meth c H locs cells slots Q (F0 m pc ls (.int b :: .int a :: rest)) := by
  obtain ⟨⟨hx, hb, hml, hown, hts⟩, -⟩ := fx
  exact va_mmax hx hb (by rw [hml, hsz]) hown (hts _ hl) (hts _ hi) (hts _ hini) (hts _ hcode) hframes hlocals hf.1 hf.2 hdg kk
theorem g_mmin (fx : FX p s m args meth c cc nL ret own D cy ad x) {index : Nat} (hl : Cond.methodLink own index Lib.Math.min.name ∈ GB) (hi : Cond.static Lib.Math.min.name ∈ GB) (hini : Cond.initialized "java/lang/Math" ∈ GB) (hcode : Cond.code Lib.Math.min.name Lib.Math.min.code 2 (some .int) ∈ GB) (hsz : ls.size = nL) (hframes : 1 ≤ R.frames) (hlocals : (rest.map fun v => v.category).sum + 13 ≤ R.locals) (hf : cells ≤ R.cells ∧ slots ≤ R.slots) {a b : Int32} (hdg : decode cc pc = .ok (.invokestatic index, 3))
    (kk : W p l e R s m args below meth c H locs cells slots Q (F0 m (pc + 3) ls (.int (imin a b) :: rest))) : W p l e R s m args below meth c H locs cells slots Q (F0 m pc ls (.int b :: .int a :: rest)) := by
  obtain ⟨⟨hx, hb, hml, hown, hts⟩, -⟩ := fx
  exact va_mmin hx hb (by rw [hml, hsz]) hown (hts _ hl) (hts _ hi) (hts _ hini) (hts _ hcode) hframes hlocals hf.1 hf.2 hdg kk
end ROWS
