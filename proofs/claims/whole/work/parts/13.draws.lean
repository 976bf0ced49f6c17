/-! METHODS THAT MAY DRAW -/
theorem FX.drawn {p : Program} {s : State} {m : MethodId} {args : Array Value} {meth : Method} {c : Code} {cc : ByteArray} {nL : Nat} {ret : Option FieldType} {own : String} {D : va_G} {cy : Nat → ClassId} {ad : Nat → Nat} {x : SX} (h : FX p s m args meth c cc nL ret own D cy ad x) (d : Drawn) : FX p (s.setDrawn d) m args meth c cc nL ret own D cy ad x := by
  obtain ⟨⟨h1, h2, h3, h4, h5⟩, h6, h7, h8, h9⟩ := h
  exact ⟨⟨h1, h2, h3, h4, dr_words h5 d⟩, h6, h7, h8, h9.to (U := s.setDrawn d) (State.WarmedH.refl s) (fun _ _ _ => rfl) (fun _ q => q)⟩
theorem al64 (a : UInt64) : alike64 a a = true := by simp [alike64]
theorem al32 (a : UInt32) : alike32 a a = true := by simp [alike32]
def QdW (D : va_G) (cy : Nat → ClassId) (ad : Nat → Nat) (sz : Nat) (z : UInt64) (M : Mem) : Array Value → State → Outcome → State → Prop := va_Qd (fun (r : UInt64) (_ : Unit) => alike64 r z = true) (BW D cy ad sz M) (AA ad sz)
def QfW (D : va_G) (cy : Nat → ClassId) (ad : Nat → Nat) (sz : Nat) (z : UInt32) (M : Mem) : Array Value → State → Outcome → State → Prop := va_Qf (fun (r : UInt32) (_ : Unit) => alike32 r z = true) (BW D cy ad sz M) (AA ad sz)
section MKD
variable {l : Launch} {y : MethodName} {cc : ByteArray} {maxL fr lo mc ms : Nat} {ret : Option FieldType} {own : String} {D : va_G} {cy : Nat → ClassId} {ad : Nat → Nat} {x : SX} {sz : Nat} {M : Mem} {av : List Value} {Qc : Array Value → State → Outcome → State → Prop}
theorem mk_d (hy : plainName y.cls = true) (ho : y.cls = own) (hv : (lg_sl av).length ≤ maxL)
    (body : ∀ p e s m args below meth c ls, FX p s m args meth c cc maxL ret own D cy ad x → WD D cy ad s M s.heap [] → lv_has ls maxL (lv_args 0 av) → s.heap.size = sz → s.drawn.sameBut s.drawn lw_cs →
      W p l e ({ frames := fr, cells := mc, slots := ms, locals := lo } : Room) (s.setDrawn s.drawn) m args below meth c s.heap [] 0 0 (MQD lw_cs below Qc args s mc ms (AA ad sz)) (F0 m 0 ls [])) :
    MetD lw_cs l y (.code y cc maxL ret :: GB) ({ frames := fr, cells := mc, slots := ms, locals := lo } : Room) (PcW D cy ad x sz M av) Qc mc ms (AA ad sz) := by
  refine MetD.ofW (cc := cc) (maxL := maxL) (ret := ret) hy rfl ?_
  intro p e s m args below meth c s₁ B hml hv9 hd0
  obtain ⟨rfl, hsz, hP, hK, hD0, hF⟩ := hv9
  have hts := atoms_spec (ws := .code y cc maxL ret :: GB) B.pre
  have hown : s.vm.findClass own = some m.cls := by rw [← ho]; exact findClass_of_methodNamed B.named
  rw [lg_entry_eq]
  subst hsz
  exact body p e s m av.toArray below meth c _ ⟨⟨B.exec, B.bytes, hml, hown, fun w h => hts w (List.mem_cons_of_mem _ h)⟩, B.returns, B.notSynchronized, hK, hF⟩ ⟨hP, wl_D hD0, va_S.rf⟩ (lv_entry av hv) rfl hd0
end MKD
section DROWS
variable {p : Program} {l : Launch} {e : Env} {R : Room} {s : State} {m : MethodId} {args : Array Value} {below : List Frame} {meth : Method} {c : Code} {H : Heap} {locs : List Loc} {cells slots : Nat} {Q : State → Prop}
variable {cc : ByteArray} {nL : Nat} {ret : Option FieldType} {own : String} {D : va_G} {cy : Nat → ClassId} {ad : Nat → Nat} {x : SX} {M : Mem} {pc : Nat} {ls : Array Slot} {rest st0 : List Value}
theorem g_dret {mc ms : Nat} {v z : UInt64} (fx : FX p s m args meth c cc nL (some .double) own D cy ad x) (hw : WD D cy ad s M H locs) (hz : alike64 v z = true) (hdg : decode cc pc = .ok (.dreturn, 1)) : W p l e R s m args below meth c H locs mc ms (MQ below (QdW D cy ad s.heap.size z M) args s mc ms (AA ad s.heap.size)) (F0 m pc ls [.double v]) := by
  obtain ⟨S, hr, hlk, hK, -⟩ := fx
  obtain ⟨hP, hD, hS⟩ := hw
  exact W.dret (hlocks := hlk) S.1 S.2.1 hr (fun t ht hW => ⟨⟨v, (), rfl, hz, by rw [ht]; exact hP, va_K.moved hW.alike hK, hD⟩, hS.F ht⟩) hS.2.2 hdg
theorem g_fret {mc ms : Nat} {v z : UInt32} (fx : FX p s m args meth c cc nL (some .float) own D cy ad x) (hw : WD D cy ad s M H locs) (hz : alike32 v z = true) (hdg : decode cc pc = .ok (.freturn, 1)) : W p l e R s m args below meth c H locs mc ms (MQ below (QfW D cy ad s.heap.size z M) args s mc ms (AA ad s.heap.size)) (F0 m pc ls [.float v]) := by
  obtain ⟨S, hr, hlk, hK, -⟩ := fx
  obtain ⟨hP, hD, hS⟩ := hw
  exact W.fret (hlocks := hlk) S.1 S.2.1 hr (fun t ht hW => ⟨⟨v, (), rfl, hz, by rw [ht]; exact hP, va_K.moved hW.alike hK, hD⟩, hS.F ht⟩) hS.2.2 hdg
end DROWS
