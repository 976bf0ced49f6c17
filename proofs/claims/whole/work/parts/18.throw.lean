theorem gb_ot {w : Cond} (h : w ∈ GB) : vx_ot w = true := by
  have h2 : goodWord w = true := (List.mem_filter.mp h).2
  simp [vx_ot, h2]
def XXW (D : va_G) (cy : Nat → ClassId) (ad : Nat → Nat) (sz : Nat) (ee : Nat) (M : Mem) : String → State → State → Prop := vx_X (fun (_ : Unit) => ee ≠ 0) (fun E u t => E = exN ee ∧ BW D cy ad sz M u t) (AA ad sz)
def QxiW (D : va_G) (cy : Nat → ClassId) (ad : Nat → Nat) (sz : Nat) (ee : Nat) (z : Int32) (M : Mem) : Array Value → State → Outcome → State → Prop := va_Qi (fun (r : Int32) (_ : Unit) => ee = 0 ∧ r = z) (BW D cy ad sz M) (AA ad sz)
def QxzW (D : va_G) (cy : Nat → ClassId) (ad : Nat → Nat) (sz : Nat) (ee : Nat) (z : Int32) (M : Mem) : Array Value → State → Outcome → State → Prop := va_Qi (fun (r : Int32) (_ : Unit) => ee = 0 ∧ r = z ∧ (z = 0 ∨ z = 1)) (BW D cy ad sz M) (AA ad sz)
def QxvW (D : va_G) (cy : Nat → ClassId) (ad : Nat → Nat) (sz : Nat) (ee : Nat) (M : Mem) : Array Value → State → Outcome → State → Prop := va_Qv (fun (_ : Unit) => ee = 0) (BW D cy ad sz M) (AA ad sz)
section MKX
variable {l : Launch} {y : MethodName} {cc : ByteArray} {maxL fr lo mc ms : Nat} {ret : Option FieldType} {own : String} {D : va_G} {cy : Nat → ClassId} {ad : Nat → Nat} {x : SX} {sz : Nat} {M : Mem} {av : List Value} {Qc : Array Value → State → Outcome → State → Prop} {XC : String → State → State → Prop}
theorem mk_x (hy : plainName y.cls = true) (ho : y.cls = own) (hv : (lg_sl av).length ≤ maxL)
    (body : ∀ p e s m args below meth c ls, FX p s m args meth c cc maxL ret own D cy ad x → (∀ z ∈ c.exceptionTable.toList, False) → WD D cy ad s M s.heap [] → lv_has ls maxL (lv_args 0 av) → s.heap.size = sz →
      W p l e ({ frames := fr, cells := mc, slots := ms, locals := lo } : Room) s m args below meth c s.heap [] 0 0 (vx_MQ below Qc XC args s mc ms (AA ad sz)) (F0 m 0 ls [])) :
    vx_Met l y (.code y cc maxL ret :: GB) ({ frames := fr, cells := mc, slots := ms, locals := lo } : Room) (PcW D cy ad x sz M av) Qc XC mc ms (AA ad sz) := by
  refine vx_ofW (cc := cc) (maxL := maxL) (ret := ret) hy rfl ?_
  intro p e s m args below meth c s₁ B hml htab hv9
  obtain ⟨rfl, hsz, hP, hK, hD0, hF⟩ := hv9
  have hts := atoms_spec (ws := .code y cc maxL ret :: GB) B.pre
  have hown : s.vm.findClass own = some m.cls := by rw [← ho]; exact findClass_of_methodNamed B.named
  rw [lg_entry_eq]
  subst hsz
  exact body p e s m av.toArray below meth c _ ⟨⟨B.exec, B.bytes, hml, hown, fun w h => hts w (List.mem_cons_of_mem _ h)⟩, B.returns, B.notSynchronized, hK, hF⟩ htab ⟨hP, wl_D hD0, va_S.rf⟩ (lv_entry av hv) rfl
end MKX
section XROWS
variable {p : Program} {l : Launch} {e : Env} {R : Room} {s : State} {m : MethodId} {args : Array Value} {below : List Frame} {meth : Method} {c : Code} {H : Heap} {locs : List Loc} {cells slots : Nat} {Q : State → Prop}
variable {cc : ByteArray} {nL : Nat} {ret : Option FieldType} {own : String} {D : va_G} {cy : Nat → ClassId} {ad : Nat → Nat} {x : SX} {M : Mem} {pc : Nat} {ls : Array Slot} {rest st0 : List Value} {Qc : Array Value → State → Outcome → State → Prop} {XC : String → State → State → Prop}
theorem g_xiret {mc ms ee : Nat} {v z : Int32} {M' : Mem} (fx : FX p s m args meth c cc nL (some .int) own D cy ad x) (hw : WD D cy ad s M H locs) (h : some ((0 : Nat), v, M) = some (ee, z, M')) (hdg : decode cc pc = .ok (.ireturn, 1)) : W p l e R s m args below meth c H locs mc ms (vx_MQ below (QxiW D cy ad s.heap.size ee z M') XC args s mc ms (AA ad s.heap.size)) (F0 m pc ls [.int v]) := by
  cases h
  obtain ⟨S, hr, hlk, hK, -⟩ := fx
  obtain ⟨hP, hD, hS⟩ := hw
  exact vx_ret (W.iret (hlocks := hlk) S.1 S.2.1 hr (fun t ht hW => ⟨⟨v, (), rfl, ⟨rfl, rfl⟩, by rw [ht]; exact hP, va_K.moved hW.alike hK, hD⟩, hS.F ht⟩) hS.2.2 hdg)
theorem g_xzret {mc ms ee : Nat} {v z : Int32} {M' : Mem} (fx : FX p s m args meth c cc nL (some .boolean) own D cy ad x) (hw : WD D cy ad s M H locs) (h : some ((0 : Nat), v, M) = some (ee, z, M')) (hb : v = 0 ∨ v = 1) (hdg : decode cc pc = .ok (.ireturn, 1)) : W p l e R s m args below meth c H locs mc ms (vx_MQ below (QxzW D cy ad s.heap.size ee z M') XC args s mc ms (AA ad s.heap.size)) (F0 m pc ls [.int v]) := by
  cases h
  obtain ⟨S, hr, hlk, hK, -⟩ := fx
  obtain ⟨hP, hD, hS⟩ := hw
  exact vx_ret (W.zret (hlocks := hlk) S.1 S.2.1 hr (by rcases hb with h | h <;> subst h <;> rfl) (fun t ht hW => ⟨⟨v, (), rfl, ⟨rfl, rfl, hb⟩, by rw [ht]; exact hP, va_K.moved hW.alike hK, hD⟩, hS.F ht⟩) hS.2.2 hdg)
theorem g_xvret {mc ms ee : Nat} {z : Int32} {M' : Mem} (fx : FX p s m args meth c cc nL none own D cy ad x) (hw : WD D cy ad s M H locs) (h : some ((0 : Nat), (0 : Int32), M) = some (ee, z, M')) (hdg : decode cc pc = .ok (.return_, 1)) : W p l e R s m args below meth c H locs mc ms (vx_MQ below (QxvW D cy ad s.heap.size ee M') XC args s mc ms (AA ad s.heap.size)) (F0 m pc ls []) := by
  cases h
  obtain ⟨S, hr, hlk, hK, -⟩ := fx
  obtain ⟨hP, hD, hS⟩ := hw
  exact vx_ret (W.vret (hlocks := hlk) S.1 S.2.1 hr (fun t ht hW => ⟨⟨(), rfl, rfl, by rw [ht]; exact hP, va_K.moved hW.alike hK, hD⟩, hS.F ht⟩) hS.2.2 hdg)
theorem g_newW {k : Nat} (hw : WD D cy ad s M H locs) (hK : va_K D vwCl (tys cy) s) (hk : k ≠ 0) : ∀ t : State, s.vm.Alike t.vm → H.size ≤ t.heap.size → (∀ q : Nat, q < H.size → t.heap[q]? = H[q]?) → XXW D cy ad s.heap.size k M (exN k) s t := by
  intro t hv hz hq
  obtain ⟨hP, hD, hS⟩ := hw
  exact ⟨(), hk, ⟨rfl, hP.kept (fun k q h => hq q.1 (hP k q h).lt), va_K.moved hv hK, hD⟩, Nat.le_trans hS.1 hz, fun q h1 h2 => (hq q (Nat.lt_of_lt_of_le h1 hS.1)).trans (hS.2.1 q h1 h2)⟩
theorem g_throwS {k i ee mc ms : Nat} {z : Int32} {M' : Mem} {tx : String} {ik is ic : Nat} (fx : FX p s m args meth c cc nL ret own D cy ad x) (hl9 : l.stackTraces = false) (htab : ∀ z ∈ c.exceptionTable.toList, False) (hw : WD D cy ad s M H locs) (h : some (k, (0 : Int32), M) = some (ee, z, M')) (hk0 : k ≠ 0) (hE : exN k ∈ eTab) (hfit : Bundle.fit (exN k) = true)
    (hk : Cond.classLink own ik (exN k) ∈ GB) (hini : Cond.initialized (exN k) ∈ GB) (hi : xTab[i]? = some (own, is, tx)) (xa : ∀ w ∈ (vx_atS own ic (exN k) xNames).filter goodWord, w ∈ lw_tbl) (xb : ∀ w ∈ (vx_atS own ic (exN k) xNames).filter (fun w => !goodWord w), w ∈ Cond.castable (exN k) (exN k) :: dTab.map Cond.declares) (xg : ∀ w ∈ vx_atS own ic (exN k) xNames, vx_ot w = true) (hsz : ls.size = nL)
    (d0 : decode cc pc = .ok (.new ik, 3)) (d3 : decode cc (pc + 3) = .ok (.dup, 1)) (d4 : decode cc (pc + 4) = .ok (.ldc is, 2)) (d6 : decode cc (pc + 6) = .ok (.invokespecial ic, 3)) (d9 : decode cc (pc + 9) = .ok (.athrow, 1))
    (hRf : 6 ≤ R.frames) (hRl : (rest.map fun v => v.category).sum + 82 ≤ R.locals) (hRc : cells + 1 ≤ R.cells) (hRs : slots + 6 ≤ R.slots) (hc : cells + 1 ≤ mc) (hs : slots + 6 ≤ ms) :
    W p l e R s m args below meth c H locs cells slots (vx_MQ below Qc (XXW D cy ad s.heap.size ee M') args s mc ms (AA ad s.heap.size)) (F0 m pc ls rest) := by
  cases h
  obtain ⟨⟨hx, hb, hml, hown, hts⟩, hr, hlk, hK, hF⟩ := fx
  exact vx_throwS (names := xNames) hx hb hl9 hown hfit (by decide) (hts _ hk) (hts _ hini) (hF.2.1 i _ hi)
    (vx_hat (fun w h => hts w (gb_mem (xa w h) (List.mem_filter.mp h).2)) xb (fun w h => by
      rcases List.mem_cons.mp h with h | h
      · rw [h]; exact va_Nw.use rfl (hF.2.2.2.2.2.2.1 _ hE)
      · obtain ⟨y, hy, rfl⟩ := List.mem_map.mp h
        exact va_Nw.use rfl (hF.2.2.2.2.2.2.2.2.2 y hy)))
    (fun w h => by
      rcases List.mem_cons.mp h with h | h
      · rw [h]; exact gb_ot hk
      · rcases List.mem_cons.mp h with h | h
        · rw [h]; exact gb_ot hini
        · exact xg w h)
    hF.2.2.2.2.1 hF.2.2.2.2.2.1 hw.2.2 (hsz.trans hml.symm) d0 d3 d4 d6 d9 (fun z hz => (htab z hz).elim) (by show 2 + 3 < R.frames; omega) (by show _ + (13 * (2 + 1) + 43) ≤ _; omega) hRc hRs hlk (g_newW hw hK hk0) hw.2.2.2.2 hc hs
theorem g_throwSW {k i ee mc ms : Nat} {z : Int32} {M' : Mem} {tx : String} {ik is ic : Nat} (fx : FX p s m args meth c cc nL ret own D cy ad x) (hl9 : l.stackTraces = false) (htab : ∀ z ∈ c.exceptionTable.toList, False) (hw : WD D cy ad s M H locs) (h : some (k, (0 : Int32), M) = some (ee, z, M')) (hk0 : k ≠ 0) (hE : exN k ∈ eTab) (hfit : Bundle.fit (exN k) = true)
    (hk : Cond.classLink own ik (exN k) ∈ GB) (hini : Cond.initialized (exN k) ∈ GB) (hi : xTab[i]? = some (own, is, tx)) (xa : ∀ w ∈ (vx_atS own ic (exN k) xNames).filter goodWord, w ∈ lw_tbl) (xb : ∀ w ∈ (vx_atS own ic (exN k) xNames).filter (fun w => !goodWord w), w ∈ Cond.castable (exN k) (exN k) :: dTab.map Cond.declares) (xg : ∀ w ∈ vx_atS own ic (exN k) xNames, vx_ot w = true) (hsz : ls.size = nL)
    (d0 : decode cc pc = .ok (.new ik, 3)) (d3 : decode cc (pc + 3) = .ok (.dup, 1)) (d4 : decode cc (pc + 4) = .ok (.ldc_w is, 3)) (d6 : decode cc (pc + 7) = .ok (.invokespecial ic, 3)) (d9 : decode cc (pc + 10) = .ok (.athrow, 1))
    (hRf : 6 ≤ R.frames) (hRl : (rest.map fun v => v.category).sum + 82 ≤ R.locals) (hRc : cells + 1 ≤ R.cells) (hRs : slots + 6 ≤ R.slots) (hc : cells + 1 ≤ mc) (hs : slots + 6 ≤ ms) :
    W p l e R s m args below meth c H locs cells slots (vx_MQ below Qc (XXW D cy ad s.heap.size ee M') args s mc ms (AA ad s.heap.size)) (F0 m pc ls rest) := by
  cases h
  obtain ⟨⟨hx, hb, hml, hown, hts⟩, hr, hlk, hK, hF⟩ := fx
  exact vx_throwSW (names := xNames) hx hb hl9 hown hfit (by decide) (hts _ hk) (hts _ hini) (hF.2.1 i _ hi)
    (vx_hat (fun w h => hts w (gb_mem (xa w h) (List.mem_filter.mp h).2)) xb (fun w h => by
      rcases List.mem_cons.mp h with h | h
      · rw [h]; exact va_Nw.use rfl (hF.2.2.2.2.2.2.1 _ hE)
      · obtain ⟨y, hy, rfl⟩ := List.mem_map.mp h
        exact va_Nw.use rfl (hF.2.2.2.2.2.2.2.2.2 y hy)))
    (fun w h => by
      rcases List.mem_cons.mp h with h | h
      · rw [h]; exact gb_ot hk
      · rcases List.mem_cons.mp h with h | h
        · rw [h]; exact gb_ot hini
        · exact xg w h)
    hF.2.2.2.2.1 hF.2.2.2.2.2.1 hw.2.2 (hsz.trans hml.symm) d0 d3 d4 d6 d9 (fun z hz => (htab z hz).elim) (by show 2 + 3 < R.frames; omega) (by show _ + (13 * (2 + 1) + 43) ≤ _; omega) hRc hRs hlk (g_newW hw hK hk0) hw.2.2.2.2 hc hs
theorem g_xrunV (fx : FX p s m args meth c cc nL ret own D cy ad x) (hw : WD D cy ad s M H locs) {ci q : Nat} {fs : (Nat → Nat) → (Nat → Int32) → List Value} (hO : isO ci q fs) {C : String} {T : u_T} {N : Nat} (hc : vwCl[ci]? = some (C, T, N))
    {y : MethodName} {bytes : ByteArray} {maxL fr lo mc ms n index : Nat} {rt : Option FieldType} {As : List Value} {Qc : Array Value → State → Outcome → State → Prop} {XC : String → State → State → Prop}
    (hM : vx_Met l y (.code y bytes maxL rt :: GB) ({ frames := fr, cells := mc, slots := ms, locals := lo } : Room) (PcW D cy ad x H.size M (.ref (ad q) :: As)) Qc XC mc ms (AA ad H.size))
    (hl : Cond.methodLink own index y ∈ GB) (hi : Cond.instanceMethod y ∈ GB) (hs : Cond.selects C y y ∈ GB) (hini : Cond.initialized y.cls ∈ GB) (hcode : Cond.code y bytes maxL rt ∈ GB) (hd : y.cls ≠ "java/lang/invoke/MethodHandle" ∧ y.cls ≠ "java/lang/invoke/VarHandle" ∧ (parseMethodDescriptor y.desc).map (fun d => d.parameters.length) = some n) (hn : As.length = n)
    (hst : st0 = As.reverse ++ .ref (ad q) :: rest) (hcat : (rest.map fun v => v.category).sum ≤ 8) (hsz : ls.size = nL) (hR : fr + 1 ≤ R.frames ∧ 8 + (maxL + 11) + lo ≤ R.locals) (hf : cells + mc ≤ R.cells ∧ slots + ms ≤ R.slots) (hdg : decode cc pc = .ok (.invokevirtual index, 3)) :
    vx_Run p l e R s m args below meth c H locs cells slots mc ms (F0 m pc ls st0) rest (Qc (Value.ref (ad q) :: As).toArray) XC (AA ad H.size) := by
  have hpre := g_pre fx hw (av := .ref (ad q) :: As)
  obtain ⟨S, -, -, hK, hF⟩ := fx
  have hts := S.2.2.2.2
  exact vx_runV (C := C) (As := As) (rest := rest) S hM ⟨cwG hts hl hini hcode hd hR, hts _ hi, hts _ hs⟩ ⟨PcW_blind, va_recv hK hw.1 hc (show (wl cy ad M)[q]? = some (ad q, .inr (ci, fs ad (M q))) by rw [wl_at hO.1, hO.2]), hpre⟩ rfl hn hsz hst (lv_room hcat) hdg hf
theorem g_xrunS (fx : FX p s m args meth c cc nL ret own D cy ad x) (hw : WD D cy ad s M H locs)
    {y : MethodName} {bytes : ByteArray} {maxL fr lo mc ms n index : Nat} {rt : Option FieldType} {As : List Value} {Qc : Array Value → State → Outcome → State → Prop} {XC : String → State → State → Prop}
    (hM : vx_Met l y (.code y bytes maxL rt :: GB) ({ frames := fr, cells := mc, slots := ms, locals := lo } : Room) (PcW D cy ad x H.size M As) Qc XC mc ms (AA ad H.size))
    (hl : Cond.methodLink own index y ∈ GB) (hi : Cond.static y ∈ GB) (hini : Cond.initialized y.cls ∈ GB) (hcode : Cond.code y bytes maxL rt ∈ GB) (hd : y.cls ≠ "java/lang/invoke/MethodHandle" ∧ y.cls ≠ "java/lang/invoke/VarHandle" ∧ (parseMethodDescriptor y.desc).map (fun d => d.parameters.length) = some n) (hn : As.length = n)
    (hst : st0 = As.reverse ++ rest) (hcat : (rest.map fun v => v.category).sum ≤ 8) (hsz : ls.size = nL) (hR : fr + 1 ≤ R.frames ∧ 8 + (maxL + 11) + lo ≤ R.locals) (hf : cells + mc ≤ R.cells ∧ slots + ms ≤ R.slots) (hdg : decode cc pc = .ok (.invokestatic index, 3)) :
    vx_Run p l e R s m args below meth c H locs cells slots mc ms (F0 m pc ls st0) rest (Qc As.toArray) XC (AA ad H.size) := by
  have hpre := g_pre fx hw (av := As)
  obtain ⟨S, -, -, hK, hF⟩ := fx
  have hts := S.2.2.2.2
  exact vx_runS (As := As) (rest := rest) S hM ⟨cwG hts hl hini hcode hd hR, hts _ hi⟩ ⟨PcW_blind, hpre⟩ rfl hn hsz hst (lv_room hcat) hdg hf
theorem g_xci (hw : WD D cy ad s M H locs) {mc ms ee : Nat} {z : Int32} {M' : Mem} {a : Array Value} (hr : vx_Run p l e R s m args below meth c H locs cells slots mc ms (F0 m pc ls st0) rest (QxiW D cy ad H.size ee z M' a) (XXW D cy ad H.size ee M') (AA ad H.size))
    (kx : ¬ ee = 0 → ∀ (ce : Cell) (q9 : Addr) (H1 : Heap) (locs1 : List Loc), WD D cy ad s M' H1 locs1 → H1[q9]? = some ce → ce.vm = .none → s.vm.findClass (exN ee) = some ce.cls → vx_W p l e R s m args below meth c H1 locs1 (cells + mc) (slots + ms) Q (F0 m pc ls rest) q9)
    (kk : ee = 0 → ∀ (H1 : Heap) (locs1 : List Loc), WD D cy ad s M' H1 locs1 → W p l e R s m args below meth c H1 locs1 (cells + mc) (slots + ms) Q (F0 m (pc + 3) ls (.int z :: rest))) : W p l e R s m args below meth c H locs cells slots Q (F0 m pc ls st0) := by
  obtain ⟨hP, hD, hS⟩ := hw
  refine vx_calli hr hS (fun q _ h => AA_mono hS.1 h) (fun q h => AA_mono hS.1 h) (fun q _ h => AA_mono hS.1 h) (fun E ce q9 u t H1 locs1 ht hvm hx hB hz1 hk1 hS1 hce hcv hcl => ?_) (fun r u t H1 locs1 ht hvm hw' hB hz1 hk1 hS1 => ?_)
  · obtain ⟨rfl, hP1, hK1, hD1⟩ := hB
    rw [ht] at hP1
    exact kx hx ce q9 H1 locs1 ⟨hP1, wl_D hD1, hS1⟩ hce hcv hcl
  · obtain ⟨h0, rfl⟩ := hw'
    obtain ⟨hP1, hK1, hD1⟩ := hB
    rw [ht] at hP1
    exact kk h0 H1 locs1 ⟨hP1, wl_D hD1, hS1⟩
theorem g_xcz (hw : WD D cy ad s M H locs) {mc ms ee : Nat} {z : Int32} {M' : Mem} {a : Array Value} (hr : vx_Run p l e R s m args below meth c H locs cells slots mc ms (F0 m pc ls st0) rest (QxzW D cy ad H.size ee z M' a) (XXW D cy ad H.size ee M') (AA ad H.size))
    (kx : ¬ ee = 0 → ∀ (ce : Cell) (q9 : Addr) (H1 : Heap) (locs1 : List Loc), WD D cy ad s M' H1 locs1 → H1[q9]? = some ce → ce.vm = .none → s.vm.findClass (exN ee) = some ce.cls → vx_W p l e R s m args below meth c H1 locs1 (cells + mc) (slots + ms) Q (F0 m pc ls rest) q9)
    (kk : ee = 0 → ∀ (H1 : Heap) (locs1 : List Loc), (z = 0 ∨ z = 1) → WD D cy ad s M' H1 locs1 → W p l e R s m args below meth c H1 locs1 (cells + mc) (slots + ms) Q (F0 m (pc + 3) ls (.int z :: rest))) : W p l e R s m args below meth c H locs cells slots Q (F0 m pc ls st0) := by
  obtain ⟨hP, hD, hS⟩ := hw
  refine vx_calli hr hS (fun q _ h => AA_mono hS.1 h) (fun q h => AA_mono hS.1 h) (fun q _ h => AA_mono hS.1 h) (fun E ce q9 u t H1 locs1 ht hvm hx hB hz1 hk1 hS1 hce hcv hcl => ?_) (fun r u t H1 locs1 ht hvm hw' hB hz1 hk1 hS1 => ?_)
  · obtain ⟨rfl, hP1, hK1, hD1⟩ := hB
    rw [ht] at hP1
    exact kx hx ce q9 H1 locs1 ⟨hP1, wl_D hD1, hS1⟩ hce hcv hcl
  · obtain ⟨h0, rfl, hb⟩ := hw'
    obtain ⟨hP1, hK1, hD1⟩ := hB
    rw [ht] at hP1
    exact kk h0 H1 locs1 hb ⟨hP1, wl_D hD1, hS1⟩
theorem g_xcv (hw : WD D cy ad s M H locs) {mc ms ee : Nat} {M' : Mem} {a : Array Value} (hr : vx_Run p l e R s m args below meth c H locs cells slots mc ms (F0 m pc ls st0) rest (QxvW D cy ad H.size ee M' a) (XXW D cy ad H.size ee M') (AA ad H.size))
    (kx : ¬ ee = 0 → ∀ (ce : Cell) (q9 : Addr) (H1 : Heap) (locs1 : List Loc), WD D cy ad s M' H1 locs1 → H1[q9]? = some ce → ce.vm = .none → s.vm.findClass (exN ee) = some ce.cls → vx_W p l e R s m args below meth c H1 locs1 (cells + mc) (slots + ms) Q (F0 m pc ls rest) q9)
    (kk : ee = 0 → ∀ (H1 : Heap) (locs1 : List Loc), WD D cy ad s M' H1 locs1 → W p l e R s m args below meth c H1 locs1 (cells + mc) (slots + ms) Q (F0 m (pc + 3) ls rest)) : W p l e R s m args below meth c H locs cells slots Q (F0 m pc ls st0) := by
  obtain ⟨hP, hD, hS⟩ := hw
  refine vx_callv hr hS (fun q _ h => AA_mono hS.1 h) (fun q h => AA_mono hS.1 h) (fun q _ h => AA_mono hS.1 h) (fun E ce q9 u t H1 locs1 ht hvm hx hB hz1 hk1 hS1 hce hcv hcl => ?_) (fun u t H1 locs1 ht hvm hw' hB hz1 hk1 hS1 => ?_)
  · obtain ⟨rfl, hP1, hK1, hD1⟩ := hB
    rw [ht] at hP1
    exact kx hx ce q9 H1 locs1 ⟨hP1, wl_D hD1, hS1⟩ hce hcv hcl
  · obtain ⟨hP1, hK1, hD1⟩ := hB
    rw [ht] at hP1
    exact kk hw' H1 locs1 ⟨hP1, wl_D hD1, hS1⟩
theorem g_xout {k ee mc ms : Nat} {z : Int32} {M' : Mem} {ce : Cell} {q : Addr} (fx : FX p s m args meth c cc nL ret own D cy ad x) (htab : ∀ z ∈ c.exceptionTable.toList, False) (hw : WD D cy ad s M H locs) (h : some (k, (0 : Int32), M) = some (ee, z, M')) (hk0 : ¬ k = 0) (hce : H[q]? = some ce) (hcv : ce.vm = .none) (hcl : s.vm.findClass (exN k) = some ce.cls) (hc : cells ≤ mc) (hs : slots ≤ ms) :
    vx_W p l e R s m args below meth c H locs cells slots (vx_MQ below Qc (XXW D cy ad s.heap.size ee M') args s mc ms (AA ad s.heap.size)) (F0 m pc ls rest) q := by
  cases h
  obtain ⟨S, hr, hlk, hK, hF⟩ := fx
  obtain ⟨hP, hD, hS⟩ := hw
  exact vx_out (fun z hz => (htab z hz).elim) hlk hce hcv hcl (fun t ht hv => ⟨(), hk0, ⟨rfl, by rw [ht]; exact hP, va_K.moved hv hK, hD⟩, hS.F ht⟩) hS.2.2 hc hs
end XROWS
