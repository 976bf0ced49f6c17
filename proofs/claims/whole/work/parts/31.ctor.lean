/-! CONSTRUCTORS: a world is a list that grows; the object itself stands first -/
def wordGB_note : Nat := 0
theorem wI_oi : Cond.instanceMethod Lib.objectInit ∈ GB := gb_1 28 rfl rfl
theorem wI_oc : Cond.code Lib.objectInit ⟨#[0xb1]⟩ 1 none ∈ GB := gb_1 29 rfl rfl
theorem wI_aI : Cond.arrayClass .int ∈ GB := gb_1 113 rfl rfl
theorem wI_aZ : Cond.arrayClass .boolean ∈ GB := gb_1 224 rfl rfl
theorem wI_aL : Cond.arrayClass .long ∈ GB := gb_7 20 rfl rfl
def GW (D : va_G) (A : Nat → Prop) (s : State) (ws : va_W) (H : Heap) (locs : List Loc) : Prop := va_P D vwCl ws H ∧ va_D A ws ∧ va_S A s.heap H locs
def XW (U : State) : Prop := va_AO "SilentMonks$House" U ∧ ∀ q ∈ nTab, va_Nw (.methodLinkNest q.1 q.2.1 q.2.2.1 q.2.2.2) U
theorem XW.to {s U : State} (h : XW s) (hW : s.WarmedH U.vm) : XW U := ⟨h.1.moved hW.alike, fun q hq => va_Nw.warmM hW (h.2 q hq)⟩
def IX (p : Program) (s : State) (m : MethodId) (args : Array Value) (meth : Method) (c : Code) (cc : ByteArray) (nL : Nat) (own : String) (D : va_G) (cy : Nat → ClassId) (A : Nat → Prop) : Prop :=
  CallFix p m c cc nL s args GB own ∧ va_K D vwCl (tys cy) s ∧ (∀ q, s.heap.size ≤ q → A q) ∧ XW s
/-- the arrays of houses as far as they reach -/
def fP (b : Nat) (ad : Nat → Nat) (i : Nat) : Nat → Option Nat := fun j => if j < i then some (ad (b + 13 * j)) else none
def rb (cy : Nat → ClassId) (ad : Nat → Nat) (k : Nat) (r : Nat → Int32) : va_E :=
  if k = 4 then .inl (cy 2, 8, .inr (.inr (.inr (.inr (fP 44 ad 8))))) else if k = 7 then .inl (cy 2, 2, .inr (.inr (.inr (.inr (fP 148 ad 2))))) else rc cy ad k r
theorem rb_rc {cy : Nat → ClassId} {ad : Nat → Nat} {k : Nat} {r : Nat → Int32} (h4 : k ≠ 4) (h7 : k ≠ 7) : rb cy ad k r = rc cy ad k r := by
  unfold rb
  rw [if_neg h4, if_neg h7]
def wb (rs : List Nat) (cy : Nat → ClassId) (ad : Nat → Nat) (M : Mem) : va_W := rs.map (fun k => (ad k, rb cy ad k (M k)))
theorem wb_wr {rs : List Nat} {cy : Nat → ClassId} {ad : Nat → Nat} {M : Mem} (h : ∀ k, k ∈ rs → k ≠ 4 ∧ k ≠ 7) : wb rs cy ad M = wr rs cy ad M := by
  unfold wb wr
  apply List.map_congr_left
  intro k hk
  rw [rb_rc (h k hk).1 (h k hk).2]
def A1 (h0 sz : Nat) : Nat → Prop := fun q => q = h0 ∨ sz ≤ q
def PcI (D : va_G) (cy : Nat → ClassId) (h0 ci : Nat) (fs : List Value) (sz : Nat) : Array Value → State → Prop := va_Pc [.ref h0] (fun U => U.heap.size = sz ∧ va_P D vwCl [(h0, .inr (ci, fs))] U.heap ∧ va_K D vwCl (tys cy) U ∧ va_D (fun _ => True) [(h0, .inr (ci, fs))] ∧ XW U)
def QcI (D : va_G) (cy : Nat → ClassId) (h0 sz o : Nat) (rs : List Nat) (M : Mem) : Array Value → State → Outcome → State → Prop := va_Qv (fun ad : Nat → Nat => ad o = h0) (fun ad t => va_P D vwCl (wb rs cy ad M) t.heap ∧ va_K D vwCl (tys cy) t ∧ va_D (A1 h0 sz) (wb rs cy ad M)) (A1 h0 sz)
theorem PcI_blind {D : va_G} {cy : Nat → ClassId} {h0 ci : Nat} {fs : List Value} {sz : Nat} : FrameBlind (PcI D cy h0 ci fs sz) := by
  intro a U g mk q
  obtain ⟨q0, q1, qP, qK, qD, qX⟩ := q
  exact ⟨q0, q1, qP, va_K.moved (u := U) (U := U.calling g mk a) (Vm.Alike.refl U.vm) qK, qD, qX.to (U := U.calling g mk a) (State.WarmedH.refl U)⟩
section IMK
variable {l : Launch} {y : MethodName} {cc : ByteArray} {maxL fr lo mc ms : Nat} {own : String} {D : va_G} {cy : Nat → ClassId} {h0 ci : Nat} {fs : List Value} {sz o : Nat} {rs : List Nat} {M : Mem}
theorem i_mk (hy : plainName y.cls = true) (ho : y.cls = own) (hin : y.name = "<init>") (hv : 1 ≤ maxL)
    (body : ∀ p e s m args below meth c ls, IX p s m args meth c cc maxL own D cy (A1 h0 sz) → meth.sig.returnType = none → meth.locks = false → meth.name = "<init>" → GW D (A1 h0 sz) s [(h0, .inr (ci, fs))] s.heap [] → lv_has ls maxL [(0, .ref h0)] → s.heap.size = sz →
      W p l e ({ frames := fr, cells := mc, slots := ms, locals := lo } : Room) s m args below meth c s.heap [] 0 0 (MQ below (QcI D cy h0 sz o rs M) args s mc ms (A1 h0 sz)) (F0 m 0 ls [])) :
    Met l y (.code y cc maxL none :: GB) ({ frames := fr, cells := mc, slots := ms, locals := lo } : Room) (PcI D cy h0 ci fs sz) (QcI D cy h0 sz o rs M) mc ms (A1 h0 sz) := by
  refine Met.ofW (cc := cc) (maxL := maxL) (ret := none) hy rfl ?_
  intro p e s m args below meth c s₁ B hml hv9
  obtain ⟨rfl, hsz, hP, hK, hD0, hX⟩ := hv9
  have hts := atoms_spec (ws := .code y cc maxL none :: GB) B.pre
  have hown : s.vm.findClass own = some m.cls := by rw [← ho]; exact findClass_of_methodNamed B.named
  have hinit : meth.name = "<init>" := by rw [← hin]; exact (name_of_methodNamed B.named B.method).1
  rw [lg_entry_eq]
  subst hsz
  have hD : va_D (A1 h0 s.heap.size) [(h0, .inr (ci, fs))] := ⟨hD0.1, fun k q hk => by
    have hz : k < 1 := (List.getElem?_eq_some_iff.mp hk).1
    rw [show k = 0 by omega] at hk
    cases hk
    exact Or.inl rfl⟩
  exact body p e s m [Value.ref h0].toArray below meth c _ ⟨⟨B.exec, B.bytes, hml, hown, fun w h => hts w (List.mem_cons_of_mem _ h)⟩, hK, fun q h => Or.inr h, hX⟩ B.returns B.notSynchronized hinit ⟨hP, hD, va_S.rf⟩ (lv_entry [.ref h0] (n := maxL) hv) rfl
end IMK
section IROWS
variable {p : Program} {l : Launch} {e : Env} {R : Room} {s : State} {m : MethodId} {args : Array Value} {below : List Frame} {meth : Method} {c : Code} {H : Heap} {locs : List Loc} {cells slots : Nat} {Q : State → Prop}
variable {cc : ByteArray} {nL : Nat} {own : String} {D : va_G} {cy : Nat → ClassId} {A : Nat → Prop} {pc : Nat} {ls : Array Slot} {rest st0 : List Value} {ws w0 : va_W}
theorem i_obj (ix : IX p s m args meth c cc nL own D cy A) {idx : Nat} (hlink : Cond.methodLink own idx Lib.objectInit ∈ GB) (hsz : ls.size = nL) {a : Nat} (hd : decode cc pc = .ok (.invokespecial idx, 3)) (hfr : 1 ≤ R.frames) (hlo : (rest.map fun v => v.category).sum + 12 ≤ R.locals)
    (kk : W p l e R s m args below meth c H locs cells slots Q (F0 m (pc + 3) ls rest)) : W p l e R s m args below meth c H locs cells slots Q (F0 m pc ls (.ref a :: rest)) := by
  obtain ⟨⟨hx, hb, hml, hown, hts⟩, -⟩ := ix
  refine W.objInit hx hb hown (hts _ hlink) (hts _ wI_oi) (hts _ wI_oc) rfl (by rw [hml]; exact hsz) rfl hd hfr (by simpa [F0] using hlo) ?_
  exact kk
theorem i_newI (ix : IX p s m args meth c cc nL own D cy A) (hw : GW D A s ws H locs) {n : Int32} (N : Nat) (hn : ¬ n < 0) (hN : n.toNatClampNeg = N) (hb4 : N * 4 ≤ 536870912) (hcells : cells + 1 ≤ R.cells) (hslots : slots + N ≤ R.slots) (hdg : decode cc pc = .ok (.newarray .int, 2))
    (kk : ∀ (q : Nat) (H1 : Heap), GW D A s (ws ++ [(q, .inl (cy 0, N, .inl (fun _ => 0)))]) H1 locs → W p l e R s m args below meth c H1 locs (cells + 1) (slots + N) Q (F0 m (pc + 2) ls (.ref q :: rest))) : W p l e R s m args below meth c H locs cells slots Q (F0 m pc ls (.int n :: rest)) := by
  obtain ⟨⟨hx, hb, hml, hown, hts⟩, hK, hA, -⟩ := ix
  obtain ⟨hP, hD, hS⟩ := hw
  refine va_newa (atype := .int) (ty := .int) (a0 := (N, .inl (fun _ => 0))) hx hb (hts _ wI_aI) rfl hK hP hD hS hA (fun _ => rfl) hn hN hb4 hcells hslots hdg (fun q cA H1 hK1 hP1 hD1 hS1 => ?_)
  have e : cA = cy 0 := Option.some.inj (((hK1.2 4 (cA, .int) rfl).2).symm.trans (hK.2 0 (cy 0, .int) rfl).2)
  subst e
  exact kk q H1 ⟨hP1, hD1, hS1⟩
theorem i_newZ (ix : IX p s m args meth c cc nL own D cy A) (hw : GW D A s ws H locs) {n : Int32} (N : Nat) (hn : ¬ n < 0) (hN : n.toNatClampNeg = N) (hb4 : N * 1 ≤ 536870912) (hcells : cells + 1 ≤ R.cells) (hslots : slots + N ≤ R.slots) (hdg : decode cc pc = .ok (.newarray .boolean, 2))
    (kk : ∀ (q : Nat) (H1 : Heap), GW D A s (ws ++ [(q, .inl (cy 1, N, .inl (fun _ => 0)))]) H1 locs → W p l e R s m args below meth c H1 locs (cells + 1) (slots + N) Q (F0 m (pc + 2) ls (.ref q :: rest))) : W p l e R s m args below meth c H locs cells slots Q (F0 m pc ls (.int n :: rest)) := by
  obtain ⟨⟨hx, hb, hml, hown, hts⟩, hK, hA, -⟩ := ix
  obtain ⟨hP, hD, hS⟩ := hw
  refine va_newa (atype := .boolean) (ty := .boolean) (a0 := (N, .inl (fun _ => 0))) hx hb (hts _ wI_aZ) rfl hK hP hD hS hA (fun _ => rfl) hn hN hb4 hcells hslots hdg (fun q cA H1 hK1 hP1 hD1 hS1 => ?_)
  have e : cA = cy 1 := Option.some.inj (((hK1.2 4 (cA, .boolean) rfl).2).symm.trans (hK.2 1 (cy 1, .boolean) rfl).2)
  subst e
  exact kk q H1 ⟨hP1, hD1, hS1⟩
theorem i_newQ (ix : IX p s m args meth c cc nL own D cy A) (hw : GW D A s ws H locs) {n : Int32} (N : Nat) {index : Nat} (hcl : Cond.classLink own index "SilentMonks$House" ∈ GB) (hn : ¬ n < 0) (hN : n.toNatClampNeg = N) (hb4 : N * 4 ≤ 536870912) (hcells : cells + 1 ≤ R.cells) (hslots : slots + N ≤ R.slots) (hdg : decode cc pc = .ok (.anewarray index, 3))
    (kk : ∀ (q : Nat) (H1 : Heap), GW D A s (ws ++ [(q, .inl (cy 2, N, .inr (.inr (.inr (.inr (fun _ => none))))))]) H1 locs → W p l e R s m args below meth c H1 locs (cells + 1) (slots + N) Q (F0 m (pc + 3) ls (.ref q :: rest))) : W p l e R s m args below meth c H locs cells slots Q (F0 m pc ls (.int n :: rest)) := by
  obtain ⟨⟨hx, hb, hml, hown, hts⟩, hK, hA, hX⟩ := ix
  obtain ⟨hP, hD, hS⟩ := hw
  refine va_newq hx hb hown (hts _ hcl) hX.1 hK hP hD hS hA hn hN hb4 hcells hslots hdg (fun q cA H1 hK1 hP1 hD1 hS1 => ?_)
  obtain ⟨-, -, -, -, -, e1⟩ := (hK1.2 4 (cA, .object "SilentMonks$House") rfl).2
  obtain ⟨-, -, -, -, -, e2⟩ := (hK.2 2 (cy 2, .object "SilentMonks$House") rfl).2
  have e : cA = cy 2 := Option.some.inj (e1.symm.trans e2)
  subst e
  exact kk q H1 ⟨hP1, hD1, hS1⟩
theorem i_new (ix : IX p s m args meth c cc nL own D cy A) (hw : GW D A s ws H locs) {C : String} {T : u_T} {N ci index : Nat} (hc : vwCl[ci]? = some (C, T, N)) (hin : ∀ w ∈ u_ws C T N, w ∈ GB) (ty : Nat → FieldType) (hty : ∀ k, k < N → parseFieldDescriptor (T k).2.2.1 = some (ty k)) (hcl : Cond.classLink own index C ∈ GB) (hinst : Cond.instantiable C N ∈ GB) (hini : Cond.initialized C ∈ GB) (fs : List Value) (hfs : ∀ j, j < N → defaultValue (ty j) = vp_V fs j) (hcells : cells + 1 ≤ R.cells) (hslots : slots + N ≤ R.slots) (hdg : decode cc pc = .ok (.new index, 3))
    (kk : ∀ (q : Nat) (H1 : Heap), GW D A s (ws ++ [(q, .inr (ci, fs))]) H1 locs → W p l e R s m args below meth c H1 locs (cells + 1) (slots + N) Q (F0 m (pc + 3) ls (.ref q :: rest))) : W p l e R s m args below meth c H locs cells slots Q (F0 m pc ls rest) := by
  obtain ⟨⟨hx, hb, hml, hown, hts⟩, hK, hA, hX⟩ := ix
  obtain ⟨hP, hD, hS⟩ := hw
  exact va_new hx hb hts hin ty hty hown (hts _ hcl) (hts _ hinst) (hts _ hini) hK hP hD hS hA hc hfs hcells hslots hdg (fun q H1 hP1 hD1 hS1 => kk q H1 ⟨hP1, hD1, hS1⟩)
theorem i_putF (ix : IX p s m args meth c cc nL own D cy A) {h0 ci : Nat} {fs : List Value} (hw : GW D A s ((h0, .inr (ci, fs)) :: w0) H locs) {T : u_T} {N : Nat} (hc : vwCl[ci]? = some (own, T, N)) (hin : ∀ w ∈ u_ws own T N, w ∈ GB) (ty0 : Nat → FieldType) (hty : ∀ k, k < N → parseFieldDescriptor (T k).2.2.1 = some (ty0 k)) (hnm : ∀ a, a < N → ∀ b, b < N → a ≠ b → (T a).2.1 ≠ (T b).2.1) (hTC : ∀ k, k < N → (T k).1 = own) (hinit : meth.name = "<init>") (k : Nat) (hk : k < N) {index : Nat} (hlink : Cond.fieldLink own index own (T k).2.1 (T k).2.2.1 ∈ GB) (hfin : (T k).2.2.2 = true) {ty : FieldType} {v : Value} (hd : parseFieldDescriptor (T k).2.2.1 = some ty) (hn : narrow ty v = v) (hfit : fits ty v = true) (hl : k < fs.length) (hdg : decode cc pc = .ok (.putfield index, 3))
    (kk : ∀ (H1 : Heap) (locs1 : List Loc), GW D A s ((h0, .inr (ci, fs.set k v)) :: w0) H1 locs1 → W p l e R s m args below meth c H1 locs1 cells slots Q (F0 m (pc + 3) ls rest)) : W p l e R s m args below meth c H locs cells slots Q (F0 m pc ls (v :: .ref h0 :: rest)) := by
  obtain ⟨⟨hx, hb, hml, hown, hts⟩, hK, hA, hX⟩ := ix
  obtain ⟨hP, hD, hS⟩ := hw
  exact va_putF hx hb hts hin ty0 hty hnm hown hK hP hD hS 0 rfl hc k hk (hts _ hlink) (fun _ h9 => by rw [hTC k hk] at h9; exact h9) hfin hinit (hTC k hk) hd hn hfit hl hdg (fun H1 locs1 hP hD hS => kk H1 locs1 ⟨hP, hD, hS⟩)
theorem i_put (ix : IX p s m args meth c cc nL own D cy A) {h0 ci : Nat} {fs : List Value} (hw : GW D A s ((h0, .inr (ci, fs)) :: w0) H locs) {T : u_T} {N : Nat} (hc : vwCl[ci]? = some (own, T, N)) (hin : ∀ w ∈ u_ws own T N, w ∈ GB) (ty0 : Nat → FieldType) (hty : ∀ k, k < N → parseFieldDescriptor (T k).2.2.1 = some (ty0 k)) (hnm : ∀ a, a < N → ∀ b, b < N → a ≠ b → (T a).2.1 ≠ (T b).2.1) (hTC : ∀ k, k < N → (T k).1 = own) (k : Nat) (hk : k < N) {index : Nat} (hlink : Cond.fieldLink own index own (T k).2.1 (T k).2.2.1 ∈ GB) (hI : (T k).2.2 = ("I", false)) {v : Int32} (hl : k < fs.length) (hdg : decode cc pc = .ok (.putfield index, 3))
    (kk : ∀ (H1 : Heap) (locs1 : List Loc), GW D A s ((h0, .inr (ci, fs.set k (.int v))) :: w0) H1 locs1 → W p l e R s m args below meth c H1 locs1 cells slots Q (F0 m (pc + 3) ls rest)) : W p l e R s m args below meth c H locs cells slots Q (F0 m pc ls (.int v :: .ref h0 :: rest)) := by
  obtain ⟨⟨hx, hb, hml, hown, hts⟩, hK, hA, hX⟩ := ix
  obtain ⟨hP, hD, hS⟩ := hw
  exact va_put (ty := .int) hx hb hts hin ty0 hty hnm hown hK hP hD hS 0 rfl hc k hk (hts _ hlink) (fun _ h9 => by rw [hTC k hk] at h9; exact h9) (by rw [hI]) (by rw [hI]; rfl) rfl rfl hl hdg (fun H1 locs1 hP hD hS => kk H1 locs1 ⟨hP, hD, hS⟩)
theorem i_get (ix : IX p s m args meth c cc nL own D cy A) {h0 ci : Nat} {fs : List Value} (hw : GW D A s ((h0, .inr (ci, fs)) :: w0) H locs) {T : u_T} {N : Nat} (hc : vwCl[ci]? = some (own, T, N)) (hin : ∀ w ∈ u_ws own T N, w ∈ GB) (hTC : ∀ k, k < N → (T k).1 = own) (k : Nat) (hk : k < N) {index : Nat} (hlink : Cond.fieldLink own index own (T k).2.1 (T k).2.2.1 ∈ GB) {v : Value} (hv : fs[k]? = some v) (hdg : decode cc pc = .ok (.getfield index, 3))
    (kk : W p l e R s m args below meth c H locs cells slots Q (F0 m (pc + 3) ls (v :: rest))) : W p l e R s m args below meth c H locs cells slots Q (F0 m pc ls (.ref h0 :: rest)) := by
  obtain ⟨⟨hx, hb, hml, hown, hts⟩, hK, hA, hX⟩ := ix
  exact va_get hx hb hts hin hown hK hw.1 0 rfl hc k hk (hts _ hlink) (fun _ h9 => by rw [hTC k hk] at h9; exact h9) hv hdg kk
/-- the last cell of a list is let go of -/
theorem va_D.init {B : Nat → Prop} {w : va_W} {x : Nat × va_E} (h : va_D B (w ++ [x])) : va_D B w := by
  have key : ∀ (k : Nat) (q : Nat × va_E), w[k]? = some q → (w ++ [x])[k]? = some q := fun k q hk => by
    rw [List.getElem?_append_left (List.getElem?_eq_some_iff.mp hk).1]
    exact hk
  exact ⟨fun i j p q hi hj hpq => h.1 i j p q (key i p hi) (key j q hj) hpq, fun k q hk => h.2 k q (key k q hk)⟩
theorem va_D.left {B : Nat → Prop} {w v : va_W} (h : va_D B (w ++ v)) : va_D B w := by
  have key : ∀ (k : Nat) (q : Nat × va_E), w[k]? = some q → (w ++ v)[k]? = some q := fun k q hk => by
    rw [List.getElem?_append_left (List.getElem?_eq_some_iff.mp hk).1]
    exact hk
  exact ⟨fun i j p q hi hj hpq => h.1 i j p q (key i p hi) (key j q hj) hpq, fun k q hk => h.2 k q (key k q hk)⟩
theorem va_D.right {B : Nat → Prop} {w v : va_W} (h : va_D B (w ++ v)) : va_D B v := by
  have key : ∀ (k : Nat) (q : Nat × va_E), v[k]? = some q → (w ++ v)[w.length + k]? = some q := fun k q hk => by
    rw [List.getElem?_append_right (by omega), Nat.add_sub_cancel_left]
    exact hk
  exact ⟨fun i j p q hi hj hpq => by have := h.1 _ _ p q (key i p hi) (key j q hj) hpq; omega, fun k q hk => h.2 _ q (key k q hk)⟩
theorem va_P.left {w v : va_W} (h : va_P D vwCl (w ++ v) H) : va_P D vwCl w H := fun k q hk => h k q (by
  rw [List.getElem?_append_left (List.getElem?_eq_some_iff.mp hk).1]
  exact hk)
theorem va_P.right {w v : va_W} (h : va_P D vwCl (w ++ v) H) : va_P D vwCl v H := fun k q hk => h (w.length + k) q (by
  rw [List.getElem?_append_right (by omega), Nat.add_sub_cancel_left]
  exact hk)
/-- behind a call: the caller's cells ahead, the callee's behind -/
theorem i_join {B : Nat → Prop} {wc w1 : va_W} {H1 : Heap} (hP : va_P D vwCl (w0 ++ wc) H) (hD : va_D A (w0 ++ wc)) (hB : ∀ q, B q → (∃ (k : Nat) (e : va_E), wc[k]? = some (q, e)) ∨ H.size ≤ q) (hBA : ∀ q, B q → A q) (hk : ∀ q : Nat, q < H.size → ¬ B q → H1[q]? = H[q]?) (hP1 : va_P D vwCl w1 H1) (hD1 : va_D B w1) : va_P D vwCl (w0 ++ w1) H1 ∧ va_D A (w0 ++ w1) := by
  have hP0 := hP.left
  have apart : ∀ (k : Nat) (q : Nat × va_E), w0[k]? = some q → q.1 < H.size ∧ ¬ B q.1 := by
    intro k q hq
    have hlt := (hP0 k q hq).lt
    refine ⟨hlt, fun h => ?_⟩
    have hkl := (List.getElem?_eq_some_iff.mp hq).1
    rcases hB _ h with ⟨k2, e, h2⟩ | h2
    · have := hD.1 k (w0.length + k2) q (q.1, e) (by rw [List.getElem?_append_left hkl]; exact hq) (by rw [List.getElem?_append_right (by omega), Nat.add_sub_cancel_left]; exact h2) rfl
      omega
    · omega
  refine ⟨va_P.app (fun k q hq => (hP0 k q hq).kept (hk q.1 (apart k q hq).1 (apart k q hq).2)) hP1, va_D.app hD.left (hD1.weaken (fun k q _ h => hBA q.1 h)) (fun i j x y hx hy hxy => ?_)⟩
  exact (apart i x hx).2 (by rw [hxy]; exact hD1.2 j y hy)
/-- a constructor's call -/
theorem i_pre (ix : IX p s m args meth c cc nL own D cy A) {q ci : Nat} {fs : List Value} (hw : GW D A s (w0 ++ [(q, .inr (ci, fs))]) H locs) : ∀ U : State, U.heap = H → s.WarmedH U.vm → PcI D cy q ci fs H.size [Value.ref q].toArray U := by
  intro U hU hW
  obtain ⟨-, hK, -, hX⟩ := ix
  obtain ⟨hP, hD, hS⟩ := hw
  exact ⟨rfl, by rw [hU], by rw [hU]; exact hP.right, va_K.moved hW.alike hK, hD.right.weaken (fun _ _ _ _ => trivial), hX.to hW⟩
theorem i_cv (ix : IX p s m args meth c cc nL own D cy A) {q ci : Nat} {fs : List Value} (hw : GW D A s (w0 ++ [(q, .inr (ci, fs))]) H locs) {mc ms o : Nat} {rs : List Nat} {M : Mem} {a : Array Value} (hr : va_Run p l e R s m args below meth c H locs cells slots mc ms (F0 m pc ls st0) rest (QcI D cy q H.size o rs M a) (A1 q H.size))
    (kk : ∀ (ad : Nat → Nat) (H1 : Heap) (locs1 : List Loc), ad o = q → GW D A s (w0 ++ wb rs cy ad M) H1 locs1 → W p l e R s m args below meth c H1 locs1 (cells + mc) (slots + ms) Q (F0 m (pc + 3) ls rest)) : W p l e R s m args below meth c H locs cells slots Q (F0 m pc ls st0) := by
  obtain ⟨hP, hD, hS⟩ := hw
  have hBA : ∀ x, A1 q H.size x → A x := fun x hx => by
    rcases hx with hx | hx
    · rw [hx]
      exact hD.2 w0.length (q, .inr (ci, fs)) (by rw [List.getElem?_append_right (Nat.le_refl _), Nat.sub_self]; rfl)
    · exact ix.2.2.1 x (Nat.le_trans hS.1 hx)
  refine va_callv hr hS (fun x _ h => hBA x h) hBA (fun ad t H1 locs1 ht hvm hw' hB hz1 hk1 hS1 => ?_)
  obtain ⟨hP1, hK1, hD1⟩ := hB
  rw [ht] at hP1
  have hj := i_join hP hD (fun x hx => hx.elim (fun h => Or.inl ⟨0, .inr (ci, fs), by rw [h]; rfl⟩) Or.inr) hBA hk1 hP1 hD1
  exact kk ad H1 locs1 hw' ⟨hj.1, hj.2, hS1⟩
/-- a constructor of a class beside it, or of its nest -/
theorem i_runI (ix : IX p s m args meth c cc nL own D cy A) {q ci : Nat} {fs : List Value} (hw : GW D A s (w0 ++ [(q, .inr (ci, fs))]) H locs) {y : MethodName} {bytes : ByteArray} {maxL fr lo mc ms index : Nat} {Qc : Array Value → State → Outcome → State → Prop} {free : Addr → Prop}
    (hM : Met l y (.code y bytes maxL none :: GB) ({ frames := fr, cells := mc, slots := ms, locals := lo } : Room) (PcI D cy q ci fs H.size) Qc mc ms free)
    (hl : Cond.methodLink own index y ∈ GB) (hi : Cond.instanceMethod y ∈ GB) (hini : Cond.initialized y.cls ∈ GB) (hcode : Cond.code y bytes maxL none ∈ GB) (hnm : y.name = "<init>") (hd : y.cls ≠ "java/lang/invoke/MethodHandle" ∧ y.cls ≠ "java/lang/invoke/VarHandle" ∧ (parseMethodDescriptor y.desc).map (fun d => d.parameters.length) = some 0)
    (hst : st0 = .ref q :: rest) (hcat : (rest.map fun v => v.category).sum ≤ 8) (hsz : ls.size = nL) (hR : fr + 1 ≤ R.frames ∧ 8 + (maxL + 11) + lo ≤ R.locals) (hf : cells + mc ≤ R.cells ∧ slots + ms ≤ R.slots) (hdg : decode cc pc = .ok (.invokespecial index, 3)) :
    va_Run p l e R s m args below meth c H locs cells slots mc ms (F0 m pc ls st0) rest (Qc [Value.ref q].toArray) free := by
  have hpre := i_pre ix hw
  obtain ⟨S, hK, hA, hX⟩ := ix
  have hts := S.2.2.2.2
  exact va_runI (As := []) (rest := rest) S hM ⟨cwG hts hl hini hcode hd hR, hnm, hts _ hi⟩ ⟨PcI_blind, hpre⟩ rfl rfl hsz hst (lv_room hcat) hdg hf
theorem i_runN (ix : IX p s m args meth c cc nL own D cy A) {q ci : Nat} {fs : List Value} (hw : GW D A s (w0 ++ [(q, .inr (ci, fs))]) H locs) {y : MethodName} {bytes : ByteArray} {maxL fr lo mc ms index : Nat} {Qc : Array Value → State → Outcome → State → Prop} {free : Addr → Prop}
    (hM : Met l y (.code y bytes maxL none :: GB) ({ frames := fr, cells := mc, slots := ms, locals := lo } : Room) (PcI D cy q ci fs H.size) Qc mc ms free)
    (hl : (own, index, y, "SilentMonks") ∈ nTab) (hi : Cond.instanceMethod y ∈ GB) (hini : Cond.initialized y.cls ∈ GB) (hcode : Cond.code y bytes maxL none ∈ GB) (hnm : y.name = "<init>") (hd : y.cls ≠ "java/lang/invoke/MethodHandle" ∧ y.cls ≠ "java/lang/invoke/VarHandle" ∧ (parseMethodDescriptor y.desc).map (fun d => d.parameters.length) = some 0)
    (hst : st0 = .ref q :: rest) (hcat : (rest.map fun v => v.category).sum ≤ 8) (hsz : ls.size = nL) (hR : fr + 1 ≤ R.frames ∧ 8 + (maxL + 11) + lo ≤ R.locals) (hf : cells + mc ≤ R.cells ∧ slots + ms ≤ R.slots) (hdg : decode cc pc = .ok (.invokespecial index, 3)) :
    va_Run p l e R s m args below meth c H locs cells slots mc ms (F0 m pc ls st0) rest (Qc [Value.ref q].toArray) free := by
  have hpre := i_pre ix hw
  obtain ⟨S, hK, hA, hX⟩ := ix
  have hts := S.2.2.2.2
  exact va_runIN (As := []) (rest := rest) (host := "SilentMonks") S hM ⟨va_cnB 0 hts (fun w h => (List.mem_cons.mp h).elim (fun e => by rw [e]; exact gb_good _ hcode) (fun h => gb_good _ h)) rfl rfl rfl (hX.2 _ hl) (hts _ hini) hd hR, hnm, hts _ hi⟩ ⟨PcI_blind, hpre⟩ rfl rfl hsz hst (lv_room hcat) hdg hf
/-- the end of a constructor -/
theorem i_ret {mc ms h0 sz o : Nat} {rs : List Nat} {M : Mem} {ad : Nat → Nat} (ix : IX p s m args meth c cc nL own D cy (A1 h0 sz)) (hr : meth.sig.returnType = none) (hlk : meth.locks = false) (hw : GW D (A1 h0 sz) s ws H locs) (hsz : s.heap.size = sz) (ho : ad o = h0) (hP9 : va_P D vwCl (wb rs cy ad M) H) (hD9 : va_D (A1 h0 sz) (wb rs cy ad M)) (hdg : decode cc pc = .ok (.return_, 1)) : W p l e R s m args below meth c H locs mc ms (MQ below (QcI D cy h0 sz o rs M) args s mc ms (A1 h0 sz)) (F0 m pc ls []) := by
  obtain ⟨S, hK, hA, hX⟩ := ix
  obtain ⟨hP, hD, hS⟩ := hw
  exact W.vret (hlocks := hlk) S.1 S.2.1 hr (fun t ht hW => ⟨⟨ad, rfl, ho, by rw [ht]; exact hP9, va_K.moved hW.alike hK, hD9⟩, hS.F ht⟩) hS.2.2 hdg
end IROWS
/-! the memory as the constructors leave it -/
def Mz : Mem := fun k => if k = 1 then (fun c => if c = 4 then -1 else 0) else if k = 9 then (fun c => if c = 17 then -1 else 0) else fun _ => 0
theorem Mz_h {k : Nat} (h : 10 ≤ k) : Mz k = fun _ => 0 := by
  unfold Mz
  rw [if_neg (by omega), if_neg (by omega)]
def hr (o : Nat) : List Nat := [o, o + 1, o + 2, o + 3, o + 4, o + 5, o + 6, o + 7, o + 8, o + 9, o + 10, o + 11, o + 12]
theorem mem_hr {k o : Nat} : k ∈ hr o ↔ o ≤ k ∧ k < o + 13 := by
  simp only [hr, List.mem_cons, List.not_mem_nil, or_false]
  omega
theorem wr_house {cy : Nat → ClassId} {ad : Nat → Nat} {M : Mem} {o : Nat} (ho : isH o) : wr (hr o) cy ad M = [(ad o, .inr (1, fH o ad (M o))), (ad (o + 1), .inl (cy 0, 12, .inl (M (o + 1)))), (ad (o + 2), .inl (cy 0, 12, .inl (M (o + 2)))), (ad (o + 3), .inl (cy 0, 12, .inl (M (o + 3)))), (ad (o + 4), .inl (cy 0, 12, .inl (M (o + 4)))), (ad (o + 5), .inl (cy 0, 12, .inl (M (o + 5)))), (ad (o + 6), .inl (cy 0, 12, .inl (M (o + 6)))), (ad (o + 7), .inl (cy 0, 12, .inl (M (o + 7)))), (ad (o + 8), .inl (cy 0, 12, .inl (M (o + 8)))), (ad (o + 9), .inl (cy 0, 8, .inl (M (o + 9)))), (ad (o + 10), .inl (cy 0, 8, .inl (M (o + 10)))), (ad (o + 11), .inl (cy 0, 24, .inl (M (o + 11)))), (ad (o + 12), .inl (cy 0, 14, .inl (M (o + 12))))] := by
  simp only [wr, hr, List.map_cons, List.map_nil, ho.O.2, ho.a1.2, ho.a2.2, ho.a3.2, ho.a4.2, ho.a5.2, ho.a6.2, ho.a7.2, ho.a8.2, ho.a9.2, ho.a10.2, ho.a11.2, ho.a12.2]
/-! a house is made -/
def fs0_H : List Value := [.null, .null, .null, .null, .null, .null, .null, .null, .null, .null, .null, .null, .int 0, .int 0, .int 0, .int 0, .int 0, .int 0]
def ld (L : List Nat) (o : Nat) : Nat → Nat := fun k => L.getD (k - o) 0
set_option maxHeartbeats 4000000 in
set_option maxRecDepth 100000 in
theorem c_X1_init (l : Launch) (D : va_G) (cy : Nat → ClassId) (o : Nat) (ho : isH o) (h0 sz : Nat) : Met l yX1_init (.code yX1_init cX1_init 1 none :: GB) ({ frames := 1, cells := 12, slots := 150, locals := 13 } : Room) (PcI D cy h0 1 fs0_H sz) (QcI D cy h0 sz o (hr o) Mz) 12 150 (A1 h0 sz) := by
  refine i_mk (own := RX1) (by decide) rfl rfl (Nat.le_refl _) ?_
  intro p e s m args below meth c ls ix hrt hlk hinit hw hl hsz
  have hx := ix.1.1
  have hb := ix.1.2.1
  refine lv_aload_n hx hb dX1_init_0 rfl (lv_at hl 0 rfl) ?_
  refine i_obj ix (gb_1 35 rfl rfl) hl.1 dX1_init_1 (Nat.le_of_ble_eq_true rfl) (Nat.le_of_ble_eq_true rfl) ?_
  refine lv_aload_n hx hb dX1_init_4 rfl (lv_at hl 0 rfl) ?_
  refine lv_bipush (v := 12) hx hb dX1_init_5 (by decide) ?_
  refine i_newI ix hw 12 (by decide) (by decide) (by decide) (Nat.le_of_ble_eq_true rfl) (Nat.le_of_ble_eq_true rfl) dX1_init_7 (fun q1 H hw => ?_)
  replace hw : GW D (A1 h0 sz) s ([(h0, .inr (1, [.null, .null, .null, .null, .null, .null, .null, .null, .null, .null, .null, .null, .int 0, .int 0, .int 0, .int 0, .int 0, .int 0])), (q1, .inl (cy 0, 12, .inl (fun _ => 0)))]) H _ := hw
  refine i_putF ix hw rfl iX1 tyX1 tyX1_ok nmX1 tcX1 hinit 0 (by decide) (gb_1 36 rfl rfl) rfl (v := .ref q1) rfl rfl rfl (Nat.le_of_ble_eq_true rfl) dX1_init_9 (fun H locs hw => ?_)
  replace hw : GW D (A1 h0 sz) s ([(h0, .inr (1, [.ref q1, .null, .null, .null, .null, .null, .null, .null, .null, .null, .null, .null, .int 0, .int 0, .int 0, .int 0, .int 0, .int 0])), (q1, .inl (cy 0, 12, .inl (fun _ => 0)))]) H _ := hw
  refine lv_aload_n hx hb dX1_init_12 rfl (lv_at hl 0 rfl) ?_
  refine lv_bipush (v := 12) hx hb dX1_init_13 (by decide) ?_
  refine i_newI ix hw 12 (by decide) (by decide) (by decide) (Nat.le_of_ble_eq_true rfl) (Nat.le_of_ble_eq_true rfl) dX1_init_15 (fun q2 H hw => ?_)
  replace hw : GW D (A1 h0 sz) s ([(h0, .inr (1, [.ref q1, .null, .null, .null, .null, .null, .null, .null, .null, .null, .null, .null, .int 0, .int 0, .int 0, .int 0, .int 0, .int 0])), (q1, .inl (cy 0, 12, .inl (fun _ => 0))), (q2, .inl (cy 0, 12, .inl (fun _ => 0)))]) H _ := hw
  refine i_putF ix hw rfl iX1 tyX1 tyX1_ok nmX1 tcX1 hinit 1 (by decide) (gb_1 38 rfl rfl) rfl (v := .ref q2) rfl rfl rfl (Nat.le_of_ble_eq_true rfl) dX1_init_17 (fun H locs hw => ?_)
  replace hw : GW D (A1 h0 sz) s ([(h0, .inr (1, [.ref q1, .ref q2, .null, .null, .null, .null, .null, .null, .null, .null, .null, .null, .int 0, .int 0, .int 0, .int 0, .int 0, .int 0])), (q1, .inl (cy 0, 12, .inl (fun _ => 0))), (q2, .inl (cy 0, 12, .inl (fun _ => 0)))]) H _ := hw
  refine lv_aload_n hx hb dX1_init_20 rfl (lv_at hl 0 rfl) ?_
  refine lv_bipush (v := 12) hx hb dX1_init_21 (by decide) ?_
  refine i_newI ix hw 12 (by decide) (by decide) (by decide) (Nat.le_of_ble_eq_true rfl) (Nat.le_of_ble_eq_true rfl) dX1_init_23 (fun q3 H hw => ?_)
  replace hw : GW D (A1 h0 sz) s ([(h0, .inr (1, [.ref q1, .ref q2, .null, .null, .null, .null, .null, .null, .null, .null, .null, .null, .int 0, .int 0, .int 0, .int 0, .int 0, .int 0])), (q1, .inl (cy 0, 12, .inl (fun _ => 0))), (q2, .inl (cy 0, 12, .inl (fun _ => 0))), (q3, .inl (cy 0, 12, .inl (fun _ => 0)))]) H _ := hw
  refine i_putF ix hw rfl iX1 tyX1 tyX1_ok nmX1 tcX1 hinit 2 (by decide) (gb_1 40 rfl rfl) rfl (v := .ref q3) rfl rfl rfl (Nat.le_of_ble_eq_true rfl) dX1_init_25 (fun H locs hw => ?_)
  replace hw : GW D (A1 h0 sz) s ([(h0, .inr (1, [.ref q1, .ref q2, .ref q3, .null, .null, .null, .null, .null, .null, .null, .null, .null, .int 0, .int 0, .int 0, .int 0, .int 0, .int 0])), (q1, .inl (cy 0, 12, .inl (fun _ => 0))), (q2, .inl (cy 0, 12, .inl (fun _ => 0))), (q3, .inl (cy 0, 12, .inl (fun _ => 0)))]) H _ := hw
  refine lv_aload_n hx hb dX1_init_28 rfl (lv_at hl 0 rfl) ?_
  refine lv_bipush (v := 12) hx hb dX1_init_29 (by decide) ?_
  refine i_newI ix hw 12 (by decide) (by decide) (by decide) (Nat.le_of_ble_eq_true rfl) (Nat.le_of_ble_eq_true rfl) dX1_init_31 (fun q4 H hw => ?_)
  replace hw : GW D (A1 h0 sz) s ([(h0, .inr (1, [.ref q1, .ref q2, .ref q3, .null, .null, .null, .null, .null, .null, .null, .null, .null, .int 0, .int 0, .int 0, .int 0, .int 0, .int 0])), (q1, .inl (cy 0, 12, .inl (fun _ => 0))), (q2, .inl (cy 0, 12, .inl (fun _ => 0))), (q3, .inl (cy 0, 12, .inl (fun _ => 0))), (q4, .inl (cy 0, 12, .inl (fun _ => 0)))]) H _ := hw
  refine i_putF ix hw rfl iX1 tyX1 tyX1_ok nmX1 tcX1 hinit 3 (by decide) (gb_1 42 rfl rfl) rfl (v := .ref q4) rfl rfl rfl (Nat.le_of_ble_eq_true rfl) dX1_init_33 (fun H locs hw => ?_)
  replace hw : GW D (A1 h0 sz) s ([(h0, .inr (1, [.ref q1, .ref q2, .ref q3, .ref q4, .null, .null, .null, .null, .null, .null, .null, .null, .int 0, .int 0, .int 0, .int 0, .int 0, .int 0])), (q1, .inl (cy 0, 12, .inl (fun _ => 0))), (q2, .inl (cy 0, 12, .inl (fun _ => 0))), (q3, .inl (cy 0, 12, .inl (fun _ => 0))), (q4, .inl (cy 0, 12, .inl (fun _ => 0)))]) H _ := hw
  refine lv_aload_n hx hb dX1_init_36 rfl (lv_at hl 0 rfl) ?_
  refine lv_bipush (v := 12) hx hb dX1_init_37 (by decide) ?_
  refine i_newI ix hw 12 (by decide) (by decide) (by decide) (Nat.le_of_ble_eq_true rfl) (Nat.le_of_ble_eq_true rfl) dX1_init_39 (fun q5 H hw => ?_)
  replace hw : GW D (A1 h0 sz) s ([(h0, .inr (1, [.ref q1, .ref q2, .ref q3, .ref q4, .null, .null, .null, .null, .null, .null, .null, .null, .int 0, .int 0, .int 0, .int 0, .int 0, .int 0])), (q1, .inl (cy 0, 12, .inl (fun _ => 0))), (q2, .inl (cy 0, 12, .inl (fun _ => 0))), (q3, .inl (cy 0, 12, .inl (fun _ => 0))), (q4, .inl (cy 0, 12, .inl (fun _ => 0))), (q5, .inl (cy 0, 12, .inl (fun _ => 0)))]) H _ := hw
  refine i_putF ix hw rfl iX1 tyX1 tyX1_ok nmX1 tcX1 hinit 4 (by decide) (gb_1 44 rfl rfl) rfl (v := .ref q5) rfl rfl rfl (Nat.le_of_ble_eq_true rfl) dX1_init_41 (fun H locs hw => ?_)
  replace hw : GW D (A1 h0 sz) s ([(h0, .inr (1, [.ref q1, .ref q2, .ref q3, .ref q4, .ref q5, .null, .null, .null, .null, .null, .null, .null, .int 0, .int 0, .int 0, .int 0, .int 0, .int 0])), (q1, .inl (cy 0, 12, .inl (fun _ => 0))), (q2, .inl (cy 0, 12, .inl (fun _ => 0))), (q3, .inl (cy 0, 12, .inl (fun _ => 0))), (q4, .inl (cy 0, 12, .inl (fun _ => 0))), (q5, .inl (cy 0, 12, .inl (fun _ => 0)))]) H _ := hw
  refine lv_aload_n hx hb dX1_init_44 rfl (lv_at hl 0 rfl) ?_
  refine lv_bipush (v := 12) hx hb dX1_init_45 (by decide) ?_
  refine i_newI ix hw 12 (by decide) (by decide) (by decide) (Nat.le_of_ble_eq_true rfl) (Nat.le_of_ble_eq_true rfl) dX1_init_47 (fun q6 H hw => ?_)
  replace hw : GW D (A1 h0 sz) s ([(h0, .inr (1, [.ref q1, .ref q2, .ref q3, .ref q4, .ref q5, .null, .null, .null, .null, .null, .null, .null, .int 0, .int 0, .int 0, .int 0, .int 0, .int 0])), (q1, .inl (cy 0, 12, .inl (fun _ => 0))), (q2, .inl (cy 0, 12, .inl (fun _ => 0))), (q3, .inl (cy 0, 12, .inl (fun _ => 0))), (q4, .inl (cy 0, 12, .inl (fun _ => 0))), (q5, .inl (cy 0, 12, .inl (fun _ => 0))), (q6, .inl (cy 0, 12, .inl (fun _ => 0)))]) H _ := hw
  refine i_putF ix hw rfl iX1 tyX1 tyX1_ok nmX1 tcX1 hinit 5 (by decide) (gb_1 46 rfl rfl) rfl (v := .ref q6) rfl rfl rfl (Nat.le_of_ble_eq_true rfl) dX1_init_49 (fun H locs hw => ?_)
  replace hw : GW D (A1 h0 sz) s ([(h0, .inr (1, [.ref q1, .ref q2, .ref q3, .ref q4, .ref q5, .ref q6, .null, .null, .null, .null, .null, .null, .int 0, .int 0, .int 0, .int 0, .int 0, .int 0])), (q1, .inl (cy 0, 12, .inl (fun _ => 0))), (q2, .inl (cy 0, 12, .inl (fun _ => 0))), (q3, .inl (cy 0, 12, .inl (fun _ => 0))), (q4, .inl (cy 0, 12, .inl (fun _ => 0))), (q5, .inl (cy 0, 12, .inl (fun _ => 0))), (q6, .inl (cy 0, 12, .inl (fun _ => 0)))]) H _ := hw
  refine lv_aload_n hx hb dX1_init_52 rfl (lv_at hl 0 rfl) ?_
  refine lv_bipush (v := 12) hx hb dX1_init_53 (by decide) ?_
  refine i_newI ix hw 12 (by decide) (by decide) (by decide) (Nat.le_of_ble_eq_true rfl) (Nat.le_of_ble_eq_true rfl) dX1_init_55 (fun q7 H hw => ?_)
  replace hw : GW D (A1 h0 sz) s ([(h0, .inr (1, [.ref q1, .ref q2, .ref q3, .ref q4, .ref q5, .ref q6, .null, .null, .null, .null, .null, .null, .int 0, .int 0, .int 0, .int 0, .int 0, .int 0])), (q1, .inl (cy 0, 12, .inl (fun _ => 0))), (q2, .inl (cy 0, 12, .inl (fun _ => 0))), (q3, .inl (cy 0, 12, .inl (fun _ => 0))), (q4, .inl (cy 0, 12, .inl (fun _ => 0))), (q5, .inl (cy 0, 12, .inl (fun _ => 0))), (q6, .inl (cy 0, 12, .inl (fun _ => 0))), (q7, .inl (cy 0, 12, .inl (fun _ => 0)))]) H _ := hw
  refine i_putF ix hw rfl iX1 tyX1 tyX1_ok nmX1 tcX1 hinit 6 (by decide) (gb_1 48 rfl rfl) rfl (v := .ref q7) rfl rfl rfl (Nat.le_of_ble_eq_true rfl) dX1_init_57 (fun H locs hw => ?_)
  replace hw : GW D (A1 h0 sz) s ([(h0, .inr (1, [.ref q1, .ref q2, .ref q3, .ref q4, .ref q5, .ref q6, .ref q7, .null, .null, .null, .null, .null, .int 0, .int 0, .int 0, .int 0, .int 0, .int 0])), (q1, .inl (cy 0, 12, .inl (fun _ => 0))), (q2, .inl (cy 0, 12, .inl (fun _ => 0))), (q3, .inl (cy 0, 12, .inl (fun _ => 0))), (q4, .inl (cy 0, 12, .inl (fun _ => 0))), (q5, .inl (cy 0, 12, .inl (fun _ => 0))), (q6, .inl (cy 0, 12, .inl (fun _ => 0))), (q7, .inl (cy 0, 12, .inl (fun _ => 0)))]) H _ := hw
  refine lv_aload_n hx hb dX1_init_60 rfl (lv_at hl 0 rfl) ?_
  refine lv_bipush (v := 12) hx hb dX1_init_61 (by decide) ?_
  refine i_newI ix hw 12 (by decide) (by decide) (by decide) (Nat.le_of_ble_eq_true rfl) (Nat.le_of_ble_eq_true rfl) dX1_init_63 (fun q8 H hw => ?_)
  replace hw : GW D (A1 h0 sz) s ([(h0, .inr (1, [.ref q1, .ref q2, .ref q3, .ref q4, .ref q5, .ref q6, .ref q7, .null, .null, .null, .null, .null, .int 0, .int 0, .int 0, .int 0, .int 0, .int 0])), (q1, .inl (cy 0, 12, .inl (fun _ => 0))), (q2, .inl (cy 0, 12, .inl (fun _ => 0))), (q3, .inl (cy 0, 12, .inl (fun _ => 0))), (q4, .inl (cy 0, 12, .inl (fun _ => 0))), (q5, .inl (cy 0, 12, .inl (fun _ => 0))), (q6, .inl (cy 0, 12, .inl (fun _ => 0))), (q7, .inl (cy 0, 12, .inl (fun _ => 0))), (q8, .inl (cy 0, 12, .inl (fun _ => 0)))]) H _ := hw
  refine i_putF ix hw rfl iX1 tyX1 tyX1_ok nmX1 tcX1 hinit 7 (by decide) (gb_1 50 rfl rfl) rfl (v := .ref q8) rfl rfl rfl (Nat.le_of_ble_eq_true rfl) dX1_init_65 (fun H locs hw => ?_)
  replace hw : GW D (A1 h0 sz) s ([(h0, .inr (1, [.ref q1, .ref q2, .ref q3, .ref q4, .ref q5, .ref q6, .ref q7, .ref q8, .null, .null, .null, .null, .int 0, .int 0, .int 0, .int 0, .int 0, .int 0])), (q1, .inl (cy 0, 12, .inl (fun _ => 0))), (q2, .inl (cy 0, 12, .inl (fun _ => 0))), (q3, .inl (cy 0, 12, .inl (fun _ => 0))), (q4, .inl (cy 0, 12, .inl (fun _ => 0))), (q5, .inl (cy 0, 12, .inl (fun _ => 0))), (q6, .inl (cy 0, 12, .inl (fun _ => 0))), (q7, .inl (cy 0, 12, .inl (fun _ => 0))), (q8, .inl (cy 0, 12, .inl (fun _ => 0)))]) H _ := hw
  refine lv_aload_n hx hb dX1_init_68 rfl (lv_at hl 0 rfl) ?_
  refine lv_bipush (v := 8) hx hb dX1_init_69 (by decide) ?_
  refine i_newI ix hw 8 (by decide) (by decide) (by decide) (Nat.le_of_ble_eq_true rfl) (Nat.le_of_ble_eq_true rfl) dX1_init_71 (fun q9 H hw => ?_)
  replace hw : GW D (A1 h0 sz) s ([(h0, .inr (1, [.ref q1, .ref q2, .ref q3, .ref q4, .ref q5, .ref q6, .ref q7, .ref q8, .null, .null, .null, .null, .int 0, .int 0, .int 0, .int 0, .int 0, .int 0])), (q1, .inl (cy 0, 12, .inl (fun _ => 0))), (q2, .inl (cy 0, 12, .inl (fun _ => 0))), (q3, .inl (cy 0, 12, .inl (fun _ => 0))), (q4, .inl (cy 0, 12, .inl (fun _ => 0))), (q5, .inl (cy 0, 12, .inl (fun _ => 0))), (q6, .inl (cy 0, 12, .inl (fun _ => 0))), (q7, .inl (cy 0, 12, .inl (fun _ => 0))), (q8, .inl (cy 0, 12, .inl (fun _ => 0))), (q9, .inl (cy 0, 8, .inl (fun _ => 0)))]) H _ := hw
  refine i_putF ix hw rfl iX1 tyX1 tyX1_ok nmX1 tcX1 hinit 8 (by decide) (gb_1 52 rfl rfl) rfl (v := .ref q9) rfl rfl rfl (Nat.le_of_ble_eq_true rfl) dX1_init_73 (fun H locs hw => ?_)
  replace hw : GW D (A1 h0 sz) s ([(h0, .inr (1, [.ref q1, .ref q2, .ref q3, .ref q4, .ref q5, .ref q6, .ref q7, .ref q8, .ref q9, .null, .null, .null, .int 0, .int 0, .int 0, .int 0, .int 0, .int 0])), (q1, .inl (cy 0, 12, .inl (fun _ => 0))), (q2, .inl (cy 0, 12, .inl (fun _ => 0))), (q3, .inl (cy 0, 12, .inl (fun _ => 0))), (q4, .inl (cy 0, 12, .inl (fun _ => 0))), (q5, .inl (cy 0, 12, .inl (fun _ => 0))), (q6, .inl (cy 0, 12, .inl (fun _ => 0))), (q7, .inl (cy 0, 12, .inl (fun _ => 0))), (q8, .inl (cy 0, 12, .inl (fun _ => 0))), (q9, .inl (cy 0, 8, .inl (fun _ => 0)))]) H _ := hw
  refine lv_aload_n hx hb dX1_init_76 rfl (lv_at hl 0 rfl) ?_
  refine lv_bipush (v := 8) hx hb dX1_init_77 (by decide) ?_
  refine i_newI ix hw 8 (by decide) (by decide) (by decide) (Nat.le_of_ble_eq_true rfl) (Nat.le_of_ble_eq_true rfl) dX1_init_79 (fun q10 H hw => ?_)
  replace hw : GW D (A1 h0 sz) s ([(h0, .inr (1, [.ref q1, .ref q2, .ref q3, .ref q4, .ref q5, .ref q6, .ref q7, .ref q8, .ref q9, .null, .null, .null, .int 0, .int 0, .int 0, .int 0, .int 0, .int 0])), (q1, .inl (cy 0, 12, .inl (fun _ => 0))), (q2, .inl (cy 0, 12, .inl (fun _ => 0))), (q3, .inl (cy 0, 12, .inl (fun _ => 0))), (q4, .inl (cy 0, 12, .inl (fun _ => 0))), (q5, .inl (cy 0, 12, .inl (fun _ => 0))), (q6, .inl (cy 0, 12, .inl (fun _ => 0))), (q7, .inl (cy 0, 12, .inl (fun _ => 0))), (q8, .inl (cy 0, 12, .inl (fun _ => 0))), (q9, .inl (cy 0, 8, .inl (fun _ => 0))), (q10, .inl (cy 0, 8, .inl (fun _ => 0)))]) H _ := hw
  refine i_putF ix hw rfl iX1 tyX1 tyX1_ok nmX1 tcX1 hinit 9 (by decide) (gb_1 54 rfl rfl) rfl (v := .ref q10) rfl rfl rfl (Nat.le_of_ble_eq_true rfl) dX1_init_81 (fun H locs hw => ?_)
  replace hw : GW D (A1 h0 sz) s ([(h0, .inr (1, [.ref q1, .ref q2, .ref q3, .ref q4, .ref q5, .ref q6, .ref q7, .ref q8, .ref q9, .ref q10, .null, .null, .int 0, .int 0, .int 0, .int 0, .int 0, .int 0])), (q1, .inl (cy 0, 12, .inl (fun _ => 0))), (q2, .inl (cy 0, 12, .inl (fun _ => 0))), (q3, .inl (cy 0, 12, .inl (fun _ => 0))), (q4, .inl (cy 0, 12, .inl (fun _ => 0))), (q5, .inl (cy 0, 12, .inl (fun _ => 0))), (q6, .inl (cy 0, 12, .inl (fun _ => 0))), (q7, .inl (cy 0, 12, .inl (fun _ => 0))), (q8, .inl (cy 0, 12, .inl (fun _ => 0))), (q9, .inl (cy 0, 8, .inl (fun _ => 0))), (q10, .inl (cy 0, 8, .inl (fun _ => 0)))]) H _ := hw
  refine lv_aload_n hx hb dX1_init_84 rfl (lv_at hl 0 rfl) ?_
  refine lv_bipush (v := 24) hx hb dX1_init_85 (by decide) ?_
  refine i_newI ix hw 24 (by decide) (by decide) (by decide) (Nat.le_of_ble_eq_true rfl) (Nat.le_of_ble_eq_true rfl) dX1_init_87 (fun q11 H hw => ?_)
  replace hw : GW D (A1 h0 sz) s ([(h0, .inr (1, [.ref q1, .ref q2, .ref q3, .ref q4, .ref q5, .ref q6, .ref q7, .ref q8, .ref q9, .ref q10, .null, .null, .int 0, .int 0, .int 0, .int 0, .int 0, .int 0])), (q1, .inl (cy 0, 12, .inl (fun _ => 0))), (q2, .inl (cy 0, 12, .inl (fun _ => 0))), (q3, .inl (cy 0, 12, .inl (fun _ => 0))), (q4, .inl (cy 0, 12, .inl (fun _ => 0))), (q5, .inl (cy 0, 12, .inl (fun _ => 0))), (q6, .inl (cy 0, 12, .inl (fun _ => 0))), (q7, .inl (cy 0, 12, .inl (fun _ => 0))), (q8, .inl (cy 0, 12, .inl (fun _ => 0))), (q9, .inl (cy 0, 8, .inl (fun _ => 0))), (q10, .inl (cy 0, 8, .inl (fun _ => 0))), (q11, .inl (cy 0, 24, .inl (fun _ => 0)))]) H _ := hw
  refine i_putF ix hw rfl iX1 tyX1 tyX1_ok nmX1 tcX1 hinit 10 (by decide) (gb_1 56 rfl rfl) rfl (v := .ref q11) rfl rfl rfl (Nat.le_of_ble_eq_true rfl) dX1_init_89 (fun H locs hw => ?_)
  replace hw : GW D (A1 h0 sz) s ([(h0, .inr (1, [.ref q1, .ref q2, .ref q3, .ref q4, .ref q5, .ref q6, .ref q7, .ref q8, .ref q9, .ref q10, .ref q11, .null, .int 0, .int 0, .int 0, .int 0, .int 0, .int 0])), (q1, .inl (cy 0, 12, .inl (fun _ => 0))), (q2, .inl (cy 0, 12, .inl (fun _ => 0))), (q3, .inl (cy 0, 12, .inl (fun _ => 0))), (q4, .inl (cy 0, 12, .inl (fun _ => 0))), (q5, .inl (cy 0, 12, .inl (fun _ => 0))), (q6, .inl (cy 0, 12, .inl (fun _ => 0))), (q7, .inl (cy 0, 12, .inl (fun _ => 0))), (q8, .inl (cy 0, 12, .inl (fun _ => 0))), (q9, .inl (cy 0, 8, .inl (fun _ => 0))), (q10, .inl (cy 0, 8, .inl (fun _ => 0))), (q11, .inl (cy 0, 24, .inl (fun _ => 0)))]) H _ := hw
  refine lv_aload_n hx hb dX1_init_92 rfl (lv_at hl 0 rfl) ?_
  refine lv_bipush (v := 14) hx hb dX1_init_93 (by decide) ?_
  refine i_newI ix hw 14 (by decide) (by decide) (by decide) (Nat.le_of_ble_eq_true rfl) (Nat.le_of_ble_eq_true rfl) dX1_init_95 (fun q12 H hw => ?_)
  replace hw : GW D (A1 h0 sz) s ([(h0, .inr (1, [.ref q1, .ref q2, .ref q3, .ref q4, .ref q5, .ref q6, .ref q7, .ref q8, .ref q9, .ref q10, .ref q11, .null, .int 0, .int 0, .int 0, .int 0, .int 0, .int 0])), (q1, .inl (cy 0, 12, .inl (fun _ => 0))), (q2, .inl (cy 0, 12, .inl (fun _ => 0))), (q3, .inl (cy 0, 12, .inl (fun _ => 0))), (q4, .inl (cy 0, 12, .inl (fun _ => 0))), (q5, .inl (cy 0, 12, .inl (fun _ => 0))), (q6, .inl (cy 0, 12, .inl (fun _ => 0))), (q7, .inl (cy 0, 12, .inl (fun _ => 0))), (q8, .inl (cy 0, 12, .inl (fun _ => 0))), (q9, .inl (cy 0, 8, .inl (fun _ => 0))), (q10, .inl (cy 0, 8, .inl (fun _ => 0))), (q11, .inl (cy 0, 24, .inl (fun _ => 0))), (q12, .inl (cy 0, 14, .inl (fun _ => 0)))]) H _ := hw
  refine i_putF ix hw rfl iX1 tyX1 tyX1_ok nmX1 tcX1 hinit 11 (by decide) (gb_1 59 rfl rfl) rfl (v := .ref q12) rfl rfl rfl (Nat.le_of_ble_eq_true rfl) dX1_init_97 (fun H locs hw => ?_)
  replace hw : GW D (A1 h0 sz) s ([(h0, .inr (1, [.ref q1, .ref q2, .ref q3, .ref q4, .ref q5, .ref q6, .ref q7, .ref q8, .ref q9, .ref q10, .ref q11, .ref q12, .int 0, .int 0, .int 0, .int 0, .int 0, .int 0])), (q1, .inl (cy 0, 12, .inl (fun _ => 0))), (q2, .inl (cy 0, 12, .inl (fun _ => 0))), (q3, .inl (cy 0, 12, .inl (fun _ => 0))), (q4, .inl (cy 0, 12, .inl (fun _ => 0))), (q5, .inl (cy 0, 12, .inl (fun _ => 0))), (q6, .inl (cy 0, 12, .inl (fun _ => 0))), (q7, .inl (cy 0, 12, .inl (fun _ => 0))), (q8, .inl (cy 0, 12, .inl (fun _ => 0))), (q9, .inl (cy 0, 8, .inl (fun _ => 0))), (q10, .inl (cy 0, 8, .inl (fun _ => 0))), (q11, .inl (cy 0, 24, .inl (fun _ => 0))), (q12, .inl (cy 0, 14, .inl (fun _ => 0)))]) H _ := hw
  have he : wb (hr o) cy (ld [h0, q1, q2, q3, q4, q5, q6, q7, q8, q9, q10, q11, q12] o) Mz = [(h0, .inr (1, [.ref q1, .ref q2, .ref q3, .ref q4, .ref q5, .ref q6, .ref q7, .ref q8, .ref q9, .ref q10, .ref q11, .ref q12, .int 0, .int 0, .int 0, .int 0, .int 0, .int 0])), (q1, .inl (cy 0, 12, .inl (fun _ => 0))), (q2, .inl (cy 0, 12, .inl (fun _ => 0))), (q3, .inl (cy 0, 12, .inl (fun _ => 0))), (q4, .inl (cy 0, 12, .inl (fun _ => 0))), (q5, .inl (cy 0, 12, .inl (fun _ => 0))), (q6, .inl (cy 0, 12, .inl (fun _ => 0))), (q7, .inl (cy 0, 12, .inl (fun _ => 0))), (q8, .inl (cy 0, 12, .inl (fun _ => 0))), (q9, .inl (cy 0, 8, .inl (fun _ => 0))), (q10, .inl (cy 0, 8, .inl (fun _ => 0))), (q11, .inl (cy 0, 24, .inl (fun _ => 0))), (q12, .inl (cy 0, 14, .inl (fun _ => 0)))] := by
    have h10 : 10 ≤ o := by obtain ⟨i, -, rfl⟩ := ho; omega
    rw [wb_wr (fun k hk => by have := mem_hr.mp hk; omega), wr_house ho]
    simp only [Mz_h (show 10 ≤ o + 0 by omega), Mz_h (show 10 ≤ o + 1 by omega), Mz_h (show 10 ≤ o + 2 by omega), Mz_h (show 10 ≤ o + 3 by omega), Mz_h (show 10 ≤ o + 4 by omega), Mz_h (show 10 ≤ o + 5 by omega), Mz_h (show 10 ≤ o + 6 by omega), Mz_h (show 10 ≤ o + 7 by omega), Mz_h (show 10 ≤ o + 8 by omega), Mz_h (show 10 ≤ o + 9 by omega), Mz_h (show 10 ≤ o + 10 by omega), Mz_h (show 10 ≤ o + 11 by omega), Mz_h (show 10 ≤ o + 12 by omega), Mz_h h10, ld, fH, Nat.add_sub_cancel_left, Nat.sub_self]
    rfl
  exact i_ret (ad := ld [h0, q1, q2, q3, q4, q5, q6, q7, q8, q9, q10, q11, q12] o) ix hrt hlk hw hsz (by simp [ld]) (by rw [he]; exact hw.1) (by rw [he]; exact hw.2.1) dX1_init_100
