/-! THE MEMORY: a row for each object and array of the run (class, reference, the law's own long row), a column for each field or place -/
abbrev Mem : Type := Nat → Nat → Int32
def mput (M : Mem) (k c : Nat) (v : Int32) : Mem := va_up M k (upd (M k) c v)
def mrow (M : Mem) (k : Nat) (f : Nat → Int32) : Mem := va_up M k f
def mcpy (M : Mem) (d s sp dp n : Nat) : Mem := va_up M d (va_cpy (M s) (M d) sp dp n)
theorem mput_row {M : Mem} {k c j : Nat} {v : Int32} (h : j ≠ k) : mput M k c v j = M j := by simp [mput, va_up, h]
theorem mput_self {M : Mem} {k c : Nat} {v : Int32} : mput M k c v k = upd (M k) c v := by simp [mput, va_up]
theorem mput_at {M : Mem} {k c : Nat} {v : Int32} : mput M k c v k c = v := by simp [mput, va_up, upd]
theorem mput_col {M : Mem} {k c j : Nat} {v : Int32} (h : j ≠ c) : mput M k c v k j = M k j := by simp [mput, va_up, upd, h]
theorem mput_ne {M : Mem} {k c i j : Nat} {v : Int32} (h : i ≠ k ∨ j ≠ c) : mput M k c v i j = M i j := by
  by_cases hi : i = k
  · subst hi
    rcases h with h | h
    · exact absurd rfl h
    · exact mput_col h
  · rw [mput_row hi]
/-! THE STEPS OF THE PURE FUNCTIONS -/
def inB (i : Int32) (n : Nat) : Bool := !(decide (i < 0) || decide (n ≤ i.toNatClampNeg))
theorem inB_in {i : Int32} {n : Nat} (h : inB i n = true) : vp_in i n := by
  intro q
  simp only [inB, Bool.not_eq_true', Bool.or_eq_false_iff, decide_eq_false_iff_not] at h
  exact q.elim h.1 h.2
theorem inB_of {i : Int32} {n : Nat} (h : vp_in i n) : inB i n = true := by
  simp only [inB, Bool.not_eq_true', Bool.or_eq_false_iff, decide_eq_false_iff_not]
  exact ⟨fun q => h (Or.inl q), fun q => h (Or.inr q)⟩
def ix (i : Int32) : Nat := i.toNatClampNeg
theorem inB_lt {i : Int32} {n : Nat} (h : inB i n = true) : ix i < n := Nat.not_le.mp fun q => inB_in h (Or.inr q)
theorem inB_nI {k n : Nat} (h : k < n) (hn : n < 2 ^ 31) : inB (nI k) n = true := inB_of (vp_in_nI h hn)
theorem ix_nI {k : Nat} (h : k < 2 ^ 31) : ix (nI k) = k := nI_clamp h
def nz (y : Int32) : Bool := !(decide (y = 0))
theorem nz_of {y : Int32} (h : nz y = true) : ¬ y = 0 := by simpa [nz] using h
def chk {α : Type} (b : Bool) (k : Option α) : Option α := if b = true then k else none
def bnd {α β : Type} (o : Option α) (k : α → Option β) : Option β := match o with
  | none => none
  | some a => k a
def bnd2 {β : Type} (o : Option (Int32 × Mem)) (k : Int32 → Mem → Option β) : Option β := match o with
  | none => none
  | some a => k a.1 a.2
def bnd3 {β : Type} (o : Option (Nat × Int32 × Mem)) (k : Nat → Int32 → Mem → Option β) : Option β := match o with
  | none => none
  | some a => k a.1 a.2.1 a.2.2
def letM {β : Type} (M : Mem) (k : Mem → Option β) : Option β := k M
def letV {β : Type} (x : Int32) (k : Int32 → Option β) : Option β := k x
def lp {σ : Type} (z : σ) (b : σ → σ) (n : Nat) : σ := Nat.rec z (fun _ f => b f) n
theorem lp_0 {σ : Type} (z : σ) (b : σ → σ) : lp z b 0 = z := rfl
theorem lp_s {σ : Type} (z : σ) (b : σ → σ) (n : Nat) : lp z b (n + 1) = b (lp z b n) := rfl
theorem lp_ind {σ : Type} (P : σ → Prop) {z : σ} {b : σ → σ} (h0 : P z) (hs : ∀ f, P f → P (b f)) : ∀ n, P (lp z b n)
  | 0 => h0
  | n + 1 => hs _ (lp_ind P h0 hs n)
def FU : Nat := 4096
theorem st_chk {α : Type} {b : Bool} {k : Option α} {o : α} (h : chk b k = some o) : b = true ∧ k = some o := by
  cases b with
  | false => cases h
  | true => exact ⟨rfl, h⟩
theorem st_t {α : Type} {c : Prop} [d : Decidable c] {a b o : α} (hc : c) (h : (if c then a else b) = o) : a = o := by rw [if_pos hc] at h; exact h
theorem st_f {α : Type} {c : Prop} [d : Decidable c] {a b o : α} (hc : ¬ c) (h : (if c then a else b) = o) : b = o := by rw [if_neg hc] at h; exact h
theorem st_bnd {α β : Type} {o : Option α} {k : α → Option β} {z : β} (h : bnd o k = some z) : ∃ a, o = some a ∧ k a = some z := by
  cases o with
  | none => cases h
  | some a => exact ⟨a, rfl, h⟩
theorem st_bnd2 {β : Type} {o : Option (Int32 × Mem)} {k : Int32 → Mem → Option β} {z : β} (h : bnd2 o k = some z) : ∃ r M, o = some (r, M) ∧ k r M = some z := by
  cases o with
  | none => cases h
  | some a => exact ⟨a.1, a.2, rfl, h⟩
theorem st_bnd3 {β : Type} {o : Option (Nat × Int32 × Mem)} {k : Nat → Int32 → Mem → Option β} {z : β} (h : bnd3 o k = some z) : ∃ e r M, o = some (e, r, M) ∧ k e r M = some z := by
  cases o with
  | none => cases h
  | some a => exact ⟨a.1, a.2.1, a.2.2, rfl, h⟩
theorem st_letM {β : Type} {M : Mem} {k : Mem → Option β} {z : β} (h : letM M k = some z) : ∃ M1, M1 = M ∧ k M1 = some z := ⟨M, rfl, h⟩
theorem st_letV {β : Type} {x : Int32} {k : Int32 → Option β} {z : β} (h : letV x k = some z) : ∃ y, y = x ∧ k y = some z := ⟨x, rfl, h⟩
def irem (x y : Int32) : Int32 := x - x / y * y
def ishl (x y : Int32) : Int32 := x <<< (y &&& 31)
def ishr (x y : Int32) : Int32 := x >>> (y &&& 31)
def iushr (x y : Int32) : Int32 := (x.toUInt32 >>> (y.toUInt32 &&& Int32.toUInt32 31)).toInt32
def imax (x y : Int32) : Int32 := if x < y then y else x
def imin (x y : Int32) : Int32 := if y < x then y else x
/-! THE ROWS: 0 the object, 1 its reader, 2 the text, 3 the history, 4 its ring, 5 the written text, 6 its bytes, 7 the saved, 8 whether they are, 9 the reference, 10 to 16 its arrays, 17 the law's long row, 18 + 13 i the house i (0 the object's own, 1 the reader's, 2 to 9 the ring's, 10 and 11 the saved), each ahead of its 12 arrays -/
def hlen (j : Nat) : Nat := if j < 8 then 12 else if j < 10 then 8 else if j = 10 then 24 else 14
def fH (o : Nat) (ad : Nat → Nat) (r : Nat → Int32) : List Value := [.ref (ad (o + 1)), .ref (ad (o + 2)), .ref (ad (o + 3)), .ref (ad (o + 4)), .ref (ad (o + 5)), .ref (ad (o + 6)), .ref (ad (o + 7)), .ref (ad (o + 8)), .ref (ad (o + 9)), .ref (ad (o + 10)), .ref (ad (o + 11)), .ref (ad (o + 12)), .int (r 12), .int (r 13), .int (r 14), .int (r 15), .int (r 16), .int (r 17)]
def fY (ad : Nat → Nat) (r : Nat → Int32) : List Value := [.ref (ad 4), .int (r 1), .int (r 2)]
def fT (ad : Nat → Nat) (r : Nat → Int32) : List Value := [.ref (ad 2), .ref (ad 31), .int (r 2), .int (r 3), .int (r 4), .int (r 5), .int (r 6)]
def fW (ad : Nat → Nat) (r : Nat → Int32) : List Value := [.ref (ad 6), .int (r 1)]
def fS (ad : Nat → Nat) (_ : Nat → Int32) : List Value := [.ref (ad 18), .ref (ad 1), .ref (ad 3), .ref (ad 5), .ref (ad 7), .ref (ad 8)]
def fM (ad : Nat → Nat) (r : Nat → Int32) : List Value := [.ref (ad 10), .ref (ad 11), .ref (ad 12), .ref (ad 13), .ref (ad 14), .int (r 5), .int (r 6), .ref (ad 15), .int (r 8), .ref (ad 16), .int (r 10), .int (r 11), .int (r 12), .int (r 13), .int (r 14), .int (r 15), .int (r 16), .int (r 17), .int (r 18)]
def rc (cy : Nat → ClassId) (ad : Nat → Nat) (k : Nat) (r : Nat → Int32) : va_E :=
  if 18 ≤ k then (if (k - 18) % 13 = 0 then .inr (1, fH k ad r) else .inl (cy 0, hlen ((k - 18) % 13 - 1), .inl r))
  else match k with
    | 0 => .inr (4, fS ad r)
    | 1 => .inr (2, fT ad r)
    | 2 => .inl (cy 0, 800, .inl r)
    | 3 => .inr (0, fY ad r)
    | 4 => .inl (cy 2, 8, .inr (.inr (.inr (.inr (fun j => some (ad (44 + 13 * j)))))))
    | 5 => .inr (3, fW ad r)
    | 6 => .inl (cy 0, 119, .inl r)
    | 7 => .inl (cy 2, 2, .inr (.inr (.inr (.inr (fun j => some (ad (148 + 13 * j)))))))
    | 8 => .inl (cy 1, 2, .inl r)
    | 9 => .inr (5, fM ad r)
    | 10 => .inl (cy 0, 156, .inl r)
    | 11 => .inl (cy 0, 156, .inl r)
    | 12 => .inl (cy 0, 1248, .inl r)
    | 13 => .inl (cy 0, 312, .inl r)
    | 14 => .inl (cy 1, 2, .inl r)
    | 15 => .inl (cy 0, 200, .inl r)
    | 16 => .inl (cy 0, 800, .inl r)
    | _ => .inl (cy 3, 1, .inr (.inl (fun j => (r j).toInt64)))
def NR : Nat := 174
def isO (ci q : Nat) (fs : (Nat → Nat) → (Nat → Int32) → List Value) : Prop := q < NR ∧ ∀ cy ad r, rc cy ad q r = .inr (ci, fs ad r)
def isA (q n : Nat) : Prop := q < NR ∧ ∀ cy ad r, rc cy ad q r = .inl (cy 0, n, .inl r)
def isZ (q n : Nat) : Prop := q < NR ∧ ∀ cy ad r, rc cy ad q r = .inl (cy 1, n, .inl r)
def isQ (q n : Nat) (t : Nat → Nat) : Prop := q < NR ∧ ∀ cy ad r, rc cy ad q r = .inl (cy 2, n, .inr (.inr (.inr (.inr (fun j => some (ad (t j)))))))
def isL (q n : Nat) : Prop := q < NR ∧ ∀ cy ad r, rc cy ad q r = .inl (cy 3, n, .inr (.inl (fun j => (r j).toInt64)))
def isH (o : Nat) : Prop := ∃ i, i < 12 ∧ o = 18 + 13 * i
theorem isH.O {o : Nat} (h : isH o) : isO 1 o (fH o) := by
  obtain ⟨i, hi, rfl⟩ := h
  refine ⟨by unfold NR; omega, fun cy ad r => ?_⟩
  unfold rc
  rw [if_pos (by omega), if_pos (by omega)]
theorem isH.arr {o : Nat} (h : isH o) (j : Nat) (hj : j < 12) {n : Nat} (hn : hlen j = n) : isA (o + (j + 1)) n := by
  obtain ⟨i, hi, rfl⟩ := h
  refine ⟨by unfold NR; omega, fun cy ad r => ?_⟩
  unfold rc
  rw [if_pos (by omega), if_neg (by omega), show (18 + 13 * i + (j + 1) - 18) % 13 - 1 = j by omega, hn]
theorem isH.a1 {o : Nat} (h : isH o) : isA (o + 1) 12 := h.arr 0 (by decide) rfl
theorem isH.a2 {o : Nat} (h : isH o) : isA (o + 2) 12 := h.arr 1 (by decide) rfl
theorem isH.a3 {o : Nat} (h : isH o) : isA (o + 3) 12 := h.arr 2 (by decide) rfl
theorem isH.a4 {o : Nat} (h : isH o) : isA (o + 4) 12 := h.arr 3 (by decide) rfl
theorem isH.a5 {o : Nat} (h : isH o) : isA (o + 5) 12 := h.arr 4 (by decide) rfl
theorem isH.a6 {o : Nat} (h : isH o) : isA (o + 6) 12 := h.arr 5 (by decide) rfl
theorem isH.a7 {o : Nat} (h : isH o) : isA (o + 7) 12 := h.arr 6 (by decide) rfl
theorem isH.a8 {o : Nat} (h : isH o) : isA (o + 8) 12 := h.arr 7 (by decide) rfl
theorem isH.a9 {o : Nat} (h : isH o) : isA (o + 9) 8 := h.arr 8 (by decide) rfl
theorem isH.a10 {o : Nat} (h : isH o) : isA (o + 10) 8 := h.arr 9 (by decide) rfl
theorem isH.a11 {o : Nat} (h : isH o) : isA (o + 11) 24 := h.arr 10 (by decide) rfl
theorem isH.a12 {o : Nat} (h : isH o) : isA (o + 12) 14 := h.arr 11 (by decide) rfl
theorem isH_18 : isH 18 := ⟨0, by decide, rfl⟩
theorem isH_31 : isH 31 := ⟨1, by decide, rfl⟩
theorem isH_past {j : Nat} (h : j < 8) : isH (44 + 13 * j) := ⟨j + 2, by omega, by omega⟩
theorem isH_saved {j : Nat} (h : j < 2) : isH (148 + 13 * j) := ⟨j + 10, by omega, by omega⟩
theorem isO_0 : isO 4 0 fS := ⟨by decide, fun _ _ _ => rfl⟩
theorem isO_1 : isO 2 1 fT := ⟨by decide, fun _ _ _ => rfl⟩
theorem isA_2 : isA 2 800 := ⟨by decide, fun _ _ _ => rfl⟩
theorem isO_3 : isO 0 3 fY := ⟨by decide, fun _ _ _ => rfl⟩
theorem isQ_4 : isQ 4 8 (fun j => 44 + 13 * j) := ⟨by decide, fun _ _ _ => rfl⟩
theorem isO_5 : isO 3 5 fW := ⟨by decide, fun _ _ _ => rfl⟩
theorem isA_6 : isA 6 119 := ⟨by decide, fun _ _ _ => rfl⟩
theorem isQ_7 : isQ 7 2 (fun j => 148 + 13 * j) := ⟨by decide, fun _ _ _ => rfl⟩
theorem isZ_8 : isZ 8 2 := ⟨by decide, fun _ _ _ => rfl⟩
theorem isO_9 : isO 5 9 fM := ⟨by decide, fun _ _ _ => rfl⟩
theorem isA_10 : isA 10 156 := ⟨by decide, fun _ _ _ => rfl⟩
theorem isA_11 : isA 11 156 := ⟨by decide, fun _ _ _ => rfl⟩
theorem isA_12 : isA 12 1248 := ⟨by decide, fun _ _ _ => rfl⟩
theorem isA_13 : isA 13 312 := ⟨by decide, fun _ _ _ => rfl⟩
theorem isZ_14 : isZ 14 2 := ⟨by decide, fun _ _ _ => rfl⟩
theorem isA_15 : isA 15 200 := ⟨by decide, fun _ _ _ => rfl⟩
theorem isA_16 : isA 16 800 := ⟨by decide, fun _ _ _ => rfl⟩
theorem isL_17 : isL 17 1 := ⟨by decide, fun _ _ _ => rfl⟩
/-! THE WORLD -/
def wl (cy : Nat → ClassId) (ad : Nat → Nat) (M : Mem) : va_W := (List.range NR).map (fun k => (ad k, rc cy ad k (M k)))
theorem wl_at {cy : Nat → ClassId} {ad : Nat → Nat} {M : Mem} {k : Nat} (h : k < NR) : (wl cy ad M)[k]? = some (ad k, rc cy ad k (M k)) := by
  simp [wl, List.getElem?_range h]
theorem wl_set {cy : Nat → ClassId} {ad : Nat → Nat} {M : Mem} {k : Nat} (h : k < NR) (r : Nat → Int32) : (wl cy ad M).set k (ad k, rc cy ad k r) = wl cy ad (va_up M k r) := by
  apply List.ext_getElem?
  intro j
  by_cases hj : j < NR
  · rw [wl_at hj]
    by_cases hk : k = j
    · subst hk
      rw [List.getElem?_set_self (by simp [wl]; exact h)]
      simp [va_up]
    · rw [List.getElem?_set_ne hk, wl_at hj]
      simp [va_up, Ne.symm hk]
  · rw [List.getElem?_eq_none (by simp [wl]; omega), List.getElem?_eq_none (by simp [wl]; omega)]
def AA (ad : Nat → Nat) (sz : Nat) : Nat → Prop := fun q => (∃ k, k < NR ∧ q = ad k) ∨ sz ≤ q
theorem AA_new {ad : Nat → Nat} {sz q : Nat} (h : sz ≤ q) : AA ad sz q := Or.inr h
theorem AA_mono {ad : Nat → Nat} {sz sz' : Nat} (h : sz ≤ sz') {q : Nat} (hq : AA ad sz' q) : AA ad sz q := hq.elim Or.inl (fun z => Or.inr (Nat.le_trans h z))
theorem wl_D {cy : Nat → ClassId} {ad : Nat → Nat} {M : Mem} {A : Nat → Prop} {sz : Nat} (h : va_D A (wl cy ad M)) : va_D (AA ad sz) (wl cy ad M) := by
  refine ⟨h.1, fun k q hk => ?_⟩
  have hl : k < NR := by have := (List.getElem?_eq_some_iff.mp hk).1; simpa [wl] using this
  rw [wl_at hl] at hk
  cases hk
  exact Or.inl ⟨k, hl, rfl⟩
def tys (cy : Nat → ClassId) : List (ClassId × FieldType) := [(cy 0, .int), (cy 1, .boolean), (cy 2, .object "SilentMonks$House"), (cy 3, .long)]
