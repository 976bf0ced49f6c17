/-! THE LAW'S OWN ROWS: doubles that are alike, the script, calls that may draw -/
theorem dec_nan64 {n : Nat} (h : 9218868437227405312 < n % 9223372036854775808) : FP.Core.decode FP.Core.b64 n = .nan := by
  unfold FP.Core.decode
  have e1 : FP.Core.fieldE FP.Core.b64 n = FP.Core.b64.exps - 1 := by
    show n / 2 ^ 52 % 2 ^ 11 = 2 ^ 11 - 1
    omega
  have e2 : ¬ FP.Core.fieldT FP.Core.b64 n = 0 := by
    show ¬ n % 2 ^ 52 = 0
    omega
  rw [if_pos e1, if_neg e2]
theorem dec_nan32 {n : Nat} (h : 2139095040 < n % 2147483648) : FP.Core.decode FP.Core.b32 n = .nan := by
  unfold FP.Core.decode
  have e1 : FP.Core.fieldE FP.Core.b32 n = FP.Core.b32.exps - 1 := by
    show n / 2 ^ 23 % 2 ^ 8 = 2 ^ 8 - 1
    omega
  have e2 : ¬ FP.Core.fieldT FP.Core.b32 n = 0 := by
    show ¬ n % 2 ^ 23 = 0
    omega
  rw [if_pos e1, if_neg e2]
theorem nan_bits {a : UInt64} (h : isNaN64 a = true) : FP.Core.decode FP.Core.b64 a.toNat = .nan := by
  have h2 := isNaN64_iff.mp h
  rw [show (0x7fffffffffffffff : Nat) = 2 ^ 63 - 1 from rfl, Nat.and_two_pow_sub_one_eq_mod] at h2
  exact dec_nan64 (by omega)
theorem dcmp_nan {a b : UInt64} (h : isNaN64 a = true) : FP.dcmp a b = none := by
  show FP.Core.order (FP.Core.decode FP.Core.b64 a.toNat) (FP.Core.decode FP.Core.b64 b.toNat) = none
  rw [nan_bits h]
  rfl
theorem al_both {r1 r2 z : UInt64} (h1 : alike64 r1 z = true) (h2 : alike64 r2 z = true) : r1 = r2 ∨ (isNaN64 r1 = true ∧ isNaN64 r2 = true) := by
  simp only [alike64, Bool.or_eq_true, decide_eq_true_eq, Bool.and_eq_true] at h1 h2
  rcases h1 with h1 | h1 <;> rcases h2 with h2 | h2
  · exact Or.inl (h1.trans h2.symm)
  · exact Or.inr ⟨by rw [h1]; exact h2.2, h2.1⟩
  · exact Or.inr ⟨h1.1, by rw [h2]; exact h1.2⟩
  · exact Or.inr ⟨h1.1, h2.1⟩
theorem cmp_al {r1 r2 z : UInt64} (h1 : alike64 r1 z = true) (h2 : alike64 r2 z = true) : Op.cmpValue (FP.dcmp r1 r2) CmpOp.l = 0 ∨ (¬ Op.cmpValue (FP.dcmp r1 r1) CmpOp.l = 0 ∧ ¬ Op.cmpValue (FP.dcmp r2 r2) CmpOp.l = 0) := by
  rcases al_both h1 h2 with h | ⟨h, h'⟩
  · subst h
    by_cases q : Op.cmpValue (FP.dcmp r1 r1) CmpOp.l = 0
    · exact Or.inl q
    · exact Or.inr ⟨q, q⟩
  · exact Or.inr ⟨by rw [dcmp_nan h]; decide, by rw [dcmp_nan h']; decide⟩
theorem nan32_bits {a : UInt32} (h : isNaN32 a = true) : FP.Core.fIsNaN a = true := by
  have h2 := isNaN32_iff.mp h
  rw [show (0x7fffffff : Nat) = 2 ^ 31 - 1 from rfl, Nat.and_two_pow_sub_one_eq_mod] at h2
  show decide (FP.Core.decode FP.Core.b32 a.toNat = .nan) = true
  rw [dec_nan32 (by omega)]
  rfl
theorem f2d_nan {a : UInt32} (h : isNaN32 a = true) : isNaN64 (FP.f2d a) = true := by
  have e : FP.f2d a = FP.nanF2D a := by
    show (if FP.Core.fIsNaN a then FP.nanF2D a else FP.Core.f2d a) = _
    rw [if_pos (nan32_bits h)]
  rw [e]
  exact isNaN64_or_left (isNaN64_or_right (by decide))
theorem al_f2d {r z : UInt32} {d : UInt64} (h1 : alike32 r z = true) (h2 : alike64 d (FP.f2d r) = true) : alike64 d (FP.f2d z) = true := by
  simp only [alike32, Bool.or_eq_true, decide_eq_true_eq, Bool.and_eq_true] at h1
  rcases h1 with h1 | h1
  · rw [← h1]; exact h2
  · simp only [alike64, Bool.or_eq_true, decide_eq_true_eq, Bool.and_eq_true] at h2 ⊢
    rcases h2 with h2 | h2
    · exact Or.inr ⟨by rw [h2]; exact f2d_nan h1.1, f2d_nan h1.2⟩
    · exact Or.inr ⟨h2.1, f2d_nan h1.2⟩
section LROWS
variable {p : Program} {l : Launch} {e : Env} {R : Room} {s : State} {m : MethodId} {args : Array Value} {below : List Frame} {meth : Method} {c : Code} {H : Heap} {locs : List Loc} {cells slots : Nat} {Q : State → Prop}
variable {cc : ByteArray} {nL : Nat} {ret : Option FieldType} {own : String} {D : va_G} {cy : Nat → ClassId} {ad : Nat → Nat} {x : SX} {M : Mem} {pc : Nat} {ls : Array Slot} {rest st0 : List Value}
theorem g_runVD (fx : FX p s m args meth c cc nL ret own D cy ad x) (hw : WD D cy ad s M H locs) {ci q : Nat} {fs : (Nat → Nat) → (Nat → Int32) → List Value} (hO : isO ci q fs) {C : String} {T : u_T} {N : Nat} (hc : vwCl[ci]? = some (C, T, N))
    {y : MethodName} {bytes : ByteArray} {maxL fr lo mc ms n index : Nat} {rt : Option FieldType} {As : List Value} {Qc : Array Value → State → Outcome → State → Prop}
    (hM : MetD lw_cs l y (.code y bytes maxL rt :: GB) ({ frames := fr, cells := mc, slots := ms, locals := lo } : Room) (PcW D cy ad x H.size M (.ref (ad q) :: As)) Qc mc ms (AA ad H.size))
    (hl : Cond.methodLink own index y ∈ GB) (hi : Cond.instanceMethod y ∈ GB) (hs : Cond.selects C y y ∈ GB) (hini : Cond.initialized y.cls ∈ GB) (hcode : Cond.code y bytes maxL rt ∈ GB) (hd : y.cls ≠ "java/lang/invoke/MethodHandle" ∧ y.cls ≠ "java/lang/invoke/VarHandle" ∧ (parseMethodDescriptor y.desc).map (fun d => d.parameters.length) = some n) (hn : As.length = n)
    (hst : st0 = As.reverse ++ .ref (ad q) :: rest) (hcat : (rest.map fun v => v.category).sum ≤ 8) (hsz : ls.size = nL) (hR : fr + 1 ≤ R.frames ∧ 8 + (maxL + 11) + lo ≤ R.locals) (hf : cells + mc ≤ R.cells ∧ slots + ms ≤ R.slots) (hdg : decode cc pc = .ok (.invokevirtual index, 3)) :
    va_RunD lw_cs p l e R s m args below meth c H locs cells slots mc ms (F0 m pc ls st0) rest (Qc (Value.ref (ad q) :: As).toArray) (AA ad H.size) := by
  have hpre := g_pre fx hw (av := .ref (ad q) :: As)
  obtain ⟨S, -, -, hK, hF⟩ := fx
  have hts := S.2.2.2.2
  exact va_runV_D (C := C) (As := As) (rest := rest) S hM ⟨cwG hts hl hini hcode hd hR, hts _ hi, hts _ hs⟩ ⟨PcW_blind, va_recv hK hw.1 hc (show (wl cy ad M)[q]? = some (ad q, .inr (ci, fs ad (M q))) by rw [wl_at hO.1, hO.2]), hpre⟩ rfl hn hsz hst (lv_room hcat) hdg hf
theorem g_cd {d0 : Drawn} (hd0 : s.drawn.sameBut d0 lw_cs) (hw : WD D cy ad s M H locs) {mc ms : Nat} {z : UInt64} {M' : Mem} {a : Array Value} (hr : va_RunD lw_cs p l e R (s.setDrawn d0) m args below meth c H locs cells slots mc ms (F0 m pc ls st0) rest (QdW D cy ad H.size z M' a) (AA ad H.size))
    (kk : ∀ (r : UInt64) (H1 : Heap) (locs1 : List Loc) (d1 : Drawn), s.drawn.sameBut d1 lw_cs → alike64 r z = true → WD D cy ad s M' H1 locs1 → W p l e R (s.setDrawn d1) m args below meth c H1 locs1 (cells + mc) (slots + ms) Q (F0 m (pc + 3) ls (.double r :: rest))) : W p l e R (s.setDrawn d0) m args below meth c H locs cells slots Q (F0 m pc ls st0) := by
  obtain ⟨hP, hD, hS⟩ := hw
  refine va_calldD hd0 hr hS (fun q _ h => AA_mono hS.1 h) (fun q h => AA_mono hS.1 h) (fun r u t H1 locs1 ht hvm hw' hB hz1 hk1 hS1 d1 hd1 => ?_)
  obtain ⟨hP1, hK1, hD1⟩ := hB
  rw [ht] at hP1
  exact kk r H1 locs1 d1 hd1 hw' ⟨hP1, wl_D hD1, hS1⟩
theorem g_cf {d0 : Drawn} (hd0 : s.drawn.sameBut d0 lw_cs) (hw : WD D cy ad s M H locs) {mc ms : Nat} {z : UInt32} {M' : Mem} {a : Array Value} (hr : va_RunD lw_cs p l e R (s.setDrawn d0) m args below meth c H locs cells slots mc ms (F0 m pc ls st0) rest (QfW D cy ad H.size z M' a) (AA ad H.size))
    (kk : ∀ (r : UInt32) (H1 : Heap) (locs1 : List Loc) (d1 : Drawn), s.drawn.sameBut d1 lw_cs → alike32 r z = true → WD D cy ad s M' H1 locs1 → W p l e R (s.setDrawn d1) m args below meth c H1 locs1 (cells + mc) (slots + ms) Q (F0 m (pc + 3) ls (.float r :: rest))) : W p l e R (s.setDrawn d0) m args below meth c H locs cells slots Q (F0 m pc ls st0) := by
  obtain ⟨hP, hD, hS⟩ := hw
  refine va_callfD hd0 hr hS (fun q _ h => AA_mono hS.1 h) (fun q h => AA_mono hS.1 h) (fun r u t H1 locs1 ht hvm hw' hB hz1 hk1 hS1 d1 hd1 => ?_)
  obtain ⟨hP1, hK1, hD1⟩ := hB
  rw [ht] at hP1
  exact kk r H1 locs1 d1 hd1 hw' ⟨hP1, wl_D hD1, hS1⟩
end LROWS
