/-! THE START: what the Statement gives of it -/
def fN : List Cond := flatC narrow_1
theorem tb_1 {w : Cond} (i : Nat) (h : tables_1_1[i]? = some w) : w ∈ lw_tbl := List.mem_append_right _ (List.mem_append_left _ (List.mem_of_getElem? h))
theorem tb_2 {w : Cond} (i : Nat) (h : tables_1_2[i]? = some w) : w ∈ lw_tbl := List.mem_append_right _ (List.mem_append_right _ (List.mem_append_left _ (List.mem_of_getElem? h)))
theorem tb_3 {w : Cond} (i : Nat) (h : tables_1_3[i]? = some w) : w ∈ lw_tbl := List.mem_append_right _ (List.mem_append_right _ (List.mem_append_right _ (List.mem_append_left _ (List.mem_of_getElem? h))))
theorem tb_4 {w : Cond} (i : Nat) (h : tables_1_4[i]? = some w) : w ∈ lw_tbl := List.mem_append_right _ (List.mem_append_right _ (List.mem_append_right _ (List.mem_append_right _ (List.mem_append_left _ (List.mem_of_getElem? h)))))
theorem tb_5 {w : Cond} (i : Nat) (h : tables_1_5[i]? = some w) : w ∈ lw_tbl := List.mem_append_right _ (List.mem_append_right _ (List.mem_append_right _ (List.mem_append_right _ (List.mem_append_right _ (List.mem_append_left _ (List.mem_of_getElem? h))))))
theorem tb_6 {w : Cond} (i : Nat) (h : tables_1_6[i]? = some w) : w ∈ lw_tbl := List.mem_append_right _ (List.mem_append_right _ (List.mem_append_right _ (List.mem_append_right _ (List.mem_append_right _ (List.mem_append_right _ (List.mem_append_left _ (List.mem_of_getElem? h)))))))
theorem tb_7 {w : Cond} (i : Nat) (h : tables_1_7[i]? = some w) : w ∈ lw_tbl := List.mem_append_right _ (List.mem_append_right _ (List.mem_append_right _ (List.mem_append_right _ (List.mem_append_right _ (List.mem_append_right _ (List.mem_append_right _ (List.mem_of_getElem? h)))))))
def sG (q : String × Nat × String × List Int32) : List Cond := [.exactly (.string q.1 q.2.1) "java/lang/String", .eq (.field (.string q.1 q.2.1) "java/lang/String" "coder" "B") (.int 0), .arrayOf (.field (.string q.1 q.2.1) "java/lang/String" "value" "[B") .byte, .eq (.length (.field (.string q.1 q.2.1) "java/lang/String" "value" "[B")) (.int (Int32.ofNat q.2.2.2.length))] ++ (List.range q.2.2.2.length).map (fun j => .eq (.elem (.field (.string q.1 q.2.1) "java/lang/String" "value" "[B") (.int (Int32.ofNat j))) (.int (q.2.2.2.getD j 0)))
def sOK (q : String × Nat × String × List Int32) : Prop := (∀ c ∈ sG q, c ∈ fN) ∧ Cond.stringRef q.1 q.2.1 q.2.2.1 ∈ lw_tbl ∧ q.2.2.2.length < 2 ^ 31
theorem sOK_of {q : String × Nat × String × List Int32} (o n : Nat) (h : (fN.drop o).take n = sG q) (h2 : Cond.stringRef q.1 q.2.1 q.2.2.1 ∈ lw_tbl) (h3 : q.2.2.2.length < 2 ^ 31) : sOK q :=
  ⟨fun c hc => List.mem_of_mem_drop (List.mem_of_mem_take (by rw [h]; exact hc)), h2, h3⟩
theorem sok_0 : sOK ("SilentMonks$TextReader", 108, "paper", [112, 97, 112, 101, 114]) := sOK_of 33 9 (by decide +kernel) (tb_2 2 rfl) (by decide)
theorem sok_1 : sOK ("SilentMonks$TextReader", 121, "grant", [103, 114, 97, 110, 116]) := sOK_of 42 9 (by decide +kernel) (tb_2 82 rfl) (by decide)
theorem sok_2 : sOK ("SilentMonks$TextReader", 125, "need", [110, 101, 101, 100]) := sOK_of 51 8 (by decide +kernel) (tb_2 87 rfl) (by decide)
theorem sok_3 : sOK ("SilentMonks$TextReader", 140, "novice", [110, 111, 118, 105, 99, 101]) := sOK_of 59 10 (by decide +kernel) (tb_2 110 rfl) (by decide)
theorem sok_4 : sOK ("SilentMonks$TextReader", 142, "brother", [98, 114, 111, 116, 104, 101, 114]) := sOK_of 69 11 (by decide +kernel) (tb_2 111 rfl) (by decide)
theorem sok_5 : sOK ("SilentMonks$TextReader", 144, "elder", [101, 108, 100, 101, 114]) := sOK_of 80 9 (by decide +kernel) (tb_2 112 rfl) (by decide)
theorem sok_6 : sOK ("SilentMonks$TextReader", 153, "bell", [98, 101, 108, 108]) := sOK_of 89 8 (by decide +kernel) (tb_2 133 rfl) (by decide)
theorem sok_7 : sOK ("SilentMonks$TextReader", 158, "speech", [115, 112, 101, 101, 99, 104]) := sOK_of 97 10 (by decide +kernel) (tb_2 138 rfl) (by decide)
theorem sok_8 : sOK ("SilentMonks$TextReader", 163, "silence", [115, 105, 108, 101, 110, 99, 101]) := sOK_of 107 11 (by decide +kernel) (tb_2 139 rfl) (by decide)
theorem sok_9 : sOK ("SilentMonks$TextReader", 165, "want", [119, 97, 110, 116]) := sOK_of 118 8 (by decide +kernel) (tb_2 144 rfl) (by decide)
theorem sok_10 : sOK ("SilentMonks$TextReader", 170, "tell", [116, 101, 108, 108]) := sOK_of 126 8 (by decide +kernel) (tb_2 172 rfl) (by decide)
theorem sok_11 : sOK ("SilentMonks$TextReader", 175, "give", [103, 105, 118, 101]) := sOK_of 159 8 (by decide +kernel) (tb_3 2 rfl) (by decide)
theorem sok_12 : sOK ("SilentMonks$TextReader", 180, "wait", [119, 97, 105, 116]) := sOK_of 167 8 (by decide +kernel) (tb_3 15 rfl) (by decide)
theorem sok_13 : sOK ("SilentMonks$TextReader", 207, "sign", [115, 105, 103, 110]) := sOK_of 134 8 (by decide +kernel) (tb_2 181 rfl) (by decide)
theorem sok_14 : sOK ("SilentMonks$TextReader", 209, "slip", [115, 108, 105, 112]) := sOK_of 142 8 (by decide +kernel) (tb_2 182 rfl) (by decide)
theorem sok_15 : sOK ("SilentMonks$TextReader", 211, "voice", [118, 111, 105, 99, 101]) := sOK_of 150 9 (by decide +kernel) (tb_2 183 rfl) (by decide)
theorem sok_16 : sOK ("SilentMonksModel", 331, "paper", [112, 97, 112, 101, 114]) := sOK_of 494 9 (by decide +kernel) (tb_6 158 rfl) (by decide)
theorem sok_17 : sOK ("SilentMonksModel", 337, "grant", [103, 114, 97, 110, 116]) := sOK_of 504 9 (by decide +kernel) (tb_6 185 rfl) (by decide)
theorem sok_18 : sOK ("SilentMonksModel", 279, "need", [110, 101, 101, 100]) := sOK_of 514 8 (by decide +kernel) (tb_6 186 rfl) (by decide)
theorem sok_19 : sOK ("SilentMonksModel", 281, "novice", [110, 111, 118, 105, 99, 101]) := sOK_of 523 10 (by decide +kernel) (tb_6 203 rfl) (by decide)
theorem sok_20 : sOK ("SilentMonksModel", 283, "brother", [98, 114, 111, 116, 104, 101, 114]) := sOK_of 534 11 (by decide +kernel) (tb_6 204 rfl) (by decide)
theorem sok_21 : sOK ("SilentMonksModel", 285, "elder", [101, 108, 100, 101, 114]) := sOK_of 546 9 (by decide +kernel) (tb_6 205 rfl) (by decide)
theorem sok_22 : sOK ("SilentMonksModel", 293, "bell", [98, 101, 108, 108]) := sOK_of 556 8 (by decide +kernel) (tb_6 222 rfl) (by decide)
theorem sok_23 : sOK ("SilentMonksModel", 295, "speech", [115, 112, 101, 101, 99, 104]) := sOK_of 565 10 (by decide +kernel) (tb_6 223 rfl) (by decide)
theorem sok_24 : sOK ("SilentMonksModel", 297, "silence", [115, 105, 108, 101, 110, 99, 101]) := sOK_of 576 11 (by decide +kernel) (tb_6 224 rfl) (by decide)
theorem sok_25 : sOK ("SilentMonksModel", 314, "want", [119, 97, 110, 116]) := sOK_of 588 8 (by decide +kernel) (tb_6 229 rfl) (by decide)
theorem sok_26 : sOK ("SilentMonksModel", 316, "tell", [116, 101, 108, 108]) := sOK_of 597 8 (by decide +kernel) (tb_6 230 rfl) (by decide)
theorem sok_27 : sOK ("SilentMonksModel", 318, "give", [103, 105, 118, 101]) := sOK_of 606 8 (by decide +kernel) (tb_6 231 rfl) (by decide)
theorem sok_28 : sOK ("SilentMonksModel", 320, "wait", [119, 97, 105, 116]) := sOK_of 615 8 (by decide +kernel) (tb_6 232 rfl) (by decide)
theorem sok_29 : sOK ("SilentMonksModel", 308, "sign", [115, 105, 103, 110]) := sOK_of 624 8 (by decide +kernel) (tb_7 9 rfl) (by decide)
theorem sok_30 : sOK ("SilentMonksModel", 310, "slip", [115, 108, 105, 112]) := sOK_of 633 8 (by decide +kernel) (tb_7 10 rfl) (by decide)
theorem sok_31 : sOK ("SilentMonksModel", 312, "voice", [118, 111, 105, 99, 101]) := sOK_of 642 9 (by decide +kernel) (tb_7 11 rfl) (by decide)
theorem sok_all : ∀ q ∈ sTab, sOK q := List.forall_mem_cons.mpr ⟨sok_0, List.forall_mem_cons.mpr ⟨sok_1, List.forall_mem_cons.mpr ⟨sok_2, List.forall_mem_cons.mpr ⟨sok_3, List.forall_mem_cons.mpr ⟨sok_4, List.forall_mem_cons.mpr ⟨sok_5, List.forall_mem_cons.mpr ⟨sok_6, List.forall_mem_cons.mpr ⟨sok_7, List.forall_mem_cons.mpr ⟨sok_8, List.forall_mem_cons.mpr ⟨sok_9, List.forall_mem_cons.mpr ⟨sok_10, List.forall_mem_cons.mpr ⟨sok_11, List.forall_mem_cons.mpr ⟨sok_12, List.forall_mem_cons.mpr ⟨sok_13, List.forall_mem_cons.mpr ⟨sok_14, List.forall_mem_cons.mpr ⟨sok_15, List.forall_mem_cons.mpr ⟨sok_16, List.forall_mem_cons.mpr ⟨sok_17, List.forall_mem_cons.mpr ⟨sok_18, List.forall_mem_cons.mpr ⟨sok_19, List.forall_mem_cons.mpr ⟨sok_20, List.forall_mem_cons.mpr ⟨sok_21, List.forall_mem_cons.mpr ⟨sok_22, List.forall_mem_cons.mpr ⟨sok_23, List.forall_mem_cons.mpr ⟨sok_24, List.forall_mem_cons.mpr ⟨sok_25, List.forall_mem_cons.mpr ⟨sok_26, List.forall_mem_cons.mpr ⟨sok_27, List.forall_mem_cons.mpr ⟨sok_28, List.forall_mem_cons.mpr ⟨sok_29, List.forall_mem_cons.mpr ⟨sok_30, List.forall_mem_cons.mpr ⟨sok_31, fun _ h => absurd h List.not_mem_nil⟩⟩⟩⟩⟩⟩⟩⟩⟩⟩⟩⟩⟩⟩⟩⟩⟩⟩⟩⟩⟩⟩⟩⟩⟩⟩⟩⟩⟩⟩⟩⟩
def xOK (q : String × Nat × String) : Prop := Cond.exactly (.string q.1 q.2.1) "java/lang/String" ∈ fN ∧ Cond.stringRef q.1 q.2.1 q.2.2 ∈ lw_tbl
theorem fN_at {c : Cond} (i : Nat) (h : (fN.drop i).take 1 = [c]) : c ∈ fN := List.mem_of_mem_drop (List.mem_of_mem_take (i := 1) (by rw [h]; exact List.mem_cons_self))
theorem xok_0 : xOK ("SilentMonks", 58, "the text would be too long") := ⟨fN_at 175 (by decide +kernel), tb_3 163 rfl⟩
theorem xok_1 : xOK ("SilentMonks", 138, "no such number of the house") := ⟨fN_at 205 (by decide +kernel), tb_3 218 rfl⟩
theorem xok_2 : xOK ("SilentMonks", 141, "no such account") := ⟨fN_at 236 (by decide +kernel), tb_3 232 rfl⟩
theorem xok_3 : xOK ("SilentMonks", 174, "no such number of a monk") := ⟨fN_at 271 (by decide +kernel), tb_4 32 rfl⟩
theorem xok_4 : xOK ("SilentMonks", 193, "no such number of a need") := ⟨fN_at 315 (by decide +kernel), tb_4 51 rfl⟩
theorem xok_5 : xOK ("SilentMonks", 270, "there is no change to undo") := ⟨fN_at 406 (by decide +kernel), tb_4 192 rfl⟩
theorem xok_6 : xOK ("SilentMonks", 278, "nothing is saved there") := ⟨fN_at 452 (by decide +kernel), tb_4 215 rfl⟩
theorem xok_7 : xOK ("SilentMonks", 296, "no such byte") := ⟨fN_at 478 (by decide +kernel), tb_5 1 rfl⟩
theorem xok_8 : xOK ("SilentMonks", 302, "no such monk") := ⟨fN_at 255 (by decide +kernel), tb_4 14 rfl⟩
theorem xok_9 : xOK ("SilentMonks", 304, "no such need") := ⟨fN_at 299 (by decide +kernel), tb_4 44 rfl⟩
theorem xok_10 : xOK ("SilentMonks", 306, "no such hour") := ⟨fN_at 343 (by decide +kernel), tb_4 70 rfl⟩
theorem xok_11 : xOK ("SilentMonks", 308, "no such slot") := ⟨fN_at 436 (by decide +kernel), tb_4 207 rfl⟩
theorem xok_12 : xOK ("SilentMonks", 310, "both monks are the same one") := ⟨fN_at 359 (by decide +kernel), tb_4 85 rfl⟩
theorem xok_13 : xOK ("SilentMonks", 312, "out of range") := ⟨fN_at 390 (by decide +kernel), tb_4 89 rfl⟩
theorem xok_all : ∀ q ∈ xTab, xOK q := List.forall_mem_cons.mpr ⟨xok_0, List.forall_mem_cons.mpr ⟨xok_1, List.forall_mem_cons.mpr ⟨xok_2, List.forall_mem_cons.mpr ⟨xok_3, List.forall_mem_cons.mpr ⟨xok_4, List.forall_mem_cons.mpr ⟨xok_5, List.forall_mem_cons.mpr ⟨xok_6, List.forall_mem_cons.mpr ⟨xok_7, List.forall_mem_cons.mpr ⟨xok_8, List.forall_mem_cons.mpr ⟨xok_9, List.forall_mem_cons.mpr ⟨xok_10, List.forall_mem_cons.mpr ⟨xok_11, List.forall_mem_cons.mpr ⟨xok_12, List.forall_mem_cons.mpr ⟨xok_13, fun _ h => absurd h List.not_mem_nil⟩⟩⟩⟩⟩⟩⟩⟩⟩⟩⟩⟩⟩⟩
theorem eok_all : ∀ E ∈ eTab, Cond.castable E E ∈ lw_tbl := List.forall_mem_cons.mpr ⟨tb_4 7 rfl, List.forall_mem_cons.mpr ⟨tb_3 211 rfl, List.forall_mem_cons.mpr ⟨tb_3 124 rfl, fun _ h => absurd h List.not_mem_nil⟩⟩⟩
theorem cok_all : ∀ q ∈ cTab, Cond.not (.castable q.1 q.2) ∈ fN := List.forall_mem_cons.mpr ⟨fN_at 24 (by decide +kernel), List.forall_mem_cons.mpr ⟨fN_at 16 (by decide +kernel), List.forall_mem_cons.mpr ⟨fN_at 32 (by decide +kernel), List.forall_mem_cons.mpr ⟨fN_at 15 (by decide +kernel), List.forall_mem_cons.mpr ⟨fN_at 31 (by decide +kernel), List.forall_mem_cons.mpr ⟨fN_at 23 (by decide +kernel), fun _ h => absurd h List.not_mem_nil⟩⟩⟩⟩⟩⟩
theorem nok_all : ∀ q ∈ nTab, Cond.methodLinkNest q.1 q.2.1 q.2.2.1 q.2.2.2 ∈ lw_tbl := List.forall_mem_cons.mpr ⟨tb_1 32 rfl, List.forall_mem_cons.mpr ⟨tb_1 138 rfl, List.forall_mem_cons.mpr ⟨tb_1 192 rfl, List.forall_mem_cons.mpr ⟨tb_1 178 rfl, List.forall_mem_cons.mpr ⟨tb_1 143 rfl, fun _ h => absurd h List.not_mem_nil⟩⟩⟩⟩⟩
theorem dok_all : ∀ y ∈ dTab, Cond.declares y ∈ lw_tbl := List.forall_mem_cons.mpr ⟨tb_3 126 rfl, List.forall_mem_cons.mpr ⟨tb_3 128 rfl, List.forall_mem_cons.mpr ⟨tb_3 130 rfl, fun _ h => absurd h List.not_mem_nil⟩⟩⟩
set_option maxHeartbeats 1000000 in
theorem SF_of {args : Array Value} {s : State} (hts : ∀ w ∈ lw_tbl, w.before args s = true) (hn : ∀ c ∈ fN, c.before args s = true) {A : Nat → Prop} (hA : ∀ a : Nat, a < s.heap.size → ¬ A a) : ∃ x : SX, SF x A s s.heap := by
  have h0 : ∀ i : Nat, ∃ q : Nat × Nat, ∀ r, sTab[i]? = some r → vk_R r.1 r.2.1 r.2.2.1 q.1 s ∧ va_O "java/lang/String" q.1 A s s.heap ∧ va_OF "java/lang/String" "coder" "B" (.int 0) q.1 A s s.heap ∧ va_OF "java/lang/String" "value" "[B" (.ref q.2) q.1 A s s.heap ∧ va_T .byte q.2 r.2.2.2.length (fun j => .int (r.2.2.2.getD j 0)) A s s.heap := by
    intro i
    cases hr : sTab[i]? with
    | none => exact ⟨(0, 0), fun r h => by cases h⟩
    | some r =>
      obtain ⟨k1, k2, k3⟩ := sok_all r (List.mem_of_getElem? hr)
      have g : ∀ c ∈ sG r, c.before args s = true := fun c hc => hn c (k1 c hc)
      have hex : (Cond.exactly (.string r.1 r.2.1) "java/lang/String").before args s = true := g _ (by unfold sG; exact List.mem_append_left _ List.mem_cons_self)
      have hco : (Cond.eq (.field (.string r.1 r.2.1) "java/lang/String" "coder" "B") (.int 0)).before args s = true := g _ (by unfold sG; exact List.mem_append_left _ (List.mem_cons_of_mem _ List.mem_cons_self))
      have har : (Cond.arrayOf (.field (.string r.1 r.2.1) "java/lang/String" "value" "[B") .byte).before args s = true := g _ (by unfold sG; exact List.mem_append_left _ (List.mem_cons_of_mem _ (List.mem_cons_of_mem _ List.mem_cons_self)))
      have hle : (Cond.eq (.length (.field (.string r.1 r.2.1) "java/lang/String" "value" "[B")) (.int (Int32.ofNat r.2.2.2.length))).before args s = true := g _ (by unfold sG; exact List.mem_append_left _ (List.mem_cons_of_mem _ (List.mem_cons_of_mem _ (List.mem_cons_of_mem _ List.mem_cons_self))))
      have hel : ∀ j : Nat, j < r.2.2.2.length → (Cond.eq (.elem (.field (.string r.1 r.2.1) "java/lang/String" "value" "[B") (.int (Int32.ofNat j))) (.int (r.2.2.2.getD j 0))).before args s = true := fun j hj => g _ (by unfold sG; exact List.mem_append_right _ (List.mem_map.mpr ⟨j, List.mem_range.mpr hj, rfl⟩))
      obtain ⟨a, c, cA, kA, q1, q2, q3, q4, q5, q6, -⟩ := Cond.exactly_spec (args := args) (first := s) (o := none) (s := s) (idx := []) (t := .string r.1 r.2.1) (cls := "java/lang/String") hex
      obtain ⟨t, ht, hT⟩ := va_Tof (f := fun j => .int (r.2.2.2.getD j 0)) (A := A) k3 har (va_eqt hle) (fun j hj => va_eqt (hel j hj)) hA
      refine ⟨(a, t), fun r' h => ?_⟩
      cases h
      exact ⟨vk_R.of (hts _ k2) q1, ⟨cA, q3, q5, by rw [q6]; exact q2, hA a (Array.getElem?_eq_some_iff.mp q3).1⟩, vk_OFof q1 (va_eqt hco) hA, vk_OFof q1 ht hA, hT⟩
  have h1 : ∀ i : Nat, ∃ q : Nat, ∀ r, xTab[i]? = some r → vk_R r.1 r.2.1 r.2.2 q s := by
    intro i
    cases hr : xTab[i]? with
    | none => exact ⟨0, fun r h => by cases h⟩
    | some r =>
      obtain ⟨k1, k2⟩ := xok_all r (List.mem_of_getElem? hr)
      obtain ⟨a, c, cA, kA, q1, -⟩ := Cond.exactly_spec (args := args) (first := s) (o := none) (s := s) (idx := []) (t := .string r.1 r.2.1) (cls := "java/lang/String") (hn _ k1)
      refine ⟨a, fun r' h => ?_⟩
      cases h
      exact vk_R.of (hts _ k2) q1
  obtain ⟨f0, hf0⟩ := Classical.axiomOfChoice h0
  obtain ⟨f1, hf1⟩ := Classical.axiomOfChoice h1
  refine ⟨(fun i => (f0 i).1, fun i => (f0 i).2, f1), fun i q hi => hf0 i q hi, fun i q hi => hf1 i q hi, ?_, ?_, ?_, ?_, ?_, ?_, ?_, ?_⟩
  · exact va_Zof (hts _ (tb_2 20 rfl)) (hts _ (tb_1 13 rfl)) (va_eqt (hn _ (fN_at 2 (by decide +kernel)))) hA
  · exact va_Zqof (hts _ (tb_2 36 rfl)) (hts _ (tb_1 15 rfl)) (hn _ (fN_at 3 (by decide +kernel))) hA
  · exact vx_Zqof (hts _ (tb_3 149 rfl)) (hts _ (tb_1 9 rfl)) (hn _ (fN_at 7 (by decide +kernel))) hA
  · exact vx_Zqof (hts _ (tb_3 151 rfl)) (hts _ (tb_1 9 rfl)) (hn _ (fN_at 8 (by decide +kernel))) hA
  · exact fun E hE => va_Nw.of rfl (hts _ (eok_all E hE))
  · exact fun q hq => va_Nc.of (hn _ (cok_all q hq))
  · exact fun q hq => va_Nw.of rfl (hts _ (nok_all q hq))
  · exact fun y hy => va_Nw.of rfl (hts _ (dok_all y hy))
theorem XW_of {args : Array Value} {s : State} (hts : ∀ w ∈ lw_tbl, w.before args s = true) : XW s := ⟨va_AO.of (hts _ (tb_1 177 rfl)), fun q hq => va_Nw.of rfl (hts _ (nok_all q hq))⟩
/-- the classes and the arrays -/
theorem tys_of {args : Array Value} {s : State} (hts : ∀ w ∈ lw_tbl, w.before args s = true) {D : va_G} (hD : ∀ (c : Nat) (q : vw_C), vwCl[c]? = some q → u_Kn s q.1 q.2.1 q.2.2 (D.1 c) (D.2 c)) : ∃ cy : Nat → ClassId, va_K D vwCl (tys cy) s := by
  obtain ⟨c0, k0, p0, a1, a2, a3⟩ := Cond.arrayClass_spec (args := args) (first := s) (o := none) (s := s) (idx := []) (hts _ (tb_1 113 rfl))
  obtain ⟨c1, k1, p1, b1, b2, b3⟩ := Cond.arrayClass_spec (args := args) (first := s) (o := none) (s := s) (idx := []) (hts _ (tb_1 224 rfl))
  obtain ⟨p2, c2, k2, d1, d2, d3, d4, d5⟩ := Cond.arrayOver_spec (args := args) (first := s) (o := none) (s := s) (idx := []) (hts _ (tb_1 177 rfl))
  obtain ⟨c3, k3, p3, e1, e2, e3⟩ := Cond.arrayClass_spec (args := args) (first := s) (o := none) (s := s) (idx := []) (hts _ (tb_7 20 rfl))
  refine ⟨fun k => if k = 0 then c0 else if k = 1 then c1 else if k = 2 then c2 else c3, hD, fun k q hk => ?_⟩
  match k with
  | 0 =>
    cases hk
    exact ⟨fun n z => ⟨fun k h => (by cases h), k0, a2, p0, a3⟩, a1⟩
  | 1 =>
    cases hk
    exact ⟨fun n z => ⟨fun k h => (by cases h), k1, b2, p1, b3⟩, b1⟩
  | 2 =>
    cases hk
    exact ⟨fun n z => ⟨fun k h => (by cases h), k2, d3, p2, d4⟩, ⟨k2, p2, d3, d4, d1, d5⟩⟩
  | 3 =>
    cases hk
    exact ⟨fun n z => ⟨fun k h => (by cases h), k3, e2, p3, e3⟩, e1⟩
  | k + 4 => exact absurd hk (by simp [tys])
theorem D_of {args : Array Value} {s : State} (hts : ∀ w ∈ lw_tbl, w.before args s = true) : ∃ D : va_G, ∀ (c : Nat) (q : vw_C), vwCl[c]? = some q → u_Kn s q.1 q.2.1 q.2.2 (D.1 c) (D.2 c) := by
  have hG : ∀ w ∈ GB, w.before args s = true := fun w h => hts w (gb_tbl h)
  obtain ⟨c0, i0, h0⟩ := u_known hG iX0 (hts _ (tb_1 171 rfl))
  obtain ⟨c1, i1, h1⟩ := u_known hG iX1 (hts _ (tb_1 31 rfl))
  obtain ⟨c2, i2, h2⟩ := u_known hG iX3 (hts _ (tb_1 137 rfl))
  obtain ⟨c3, i3, h3⟩ := u_known hG iX4 (hts _ (tb_1 191 rfl))
  obtain ⟨c4, i4, h4⟩ := u_known hG iX5 (hts _ (tb_1 23 rfl))
  obtain ⟨c5, i5, h5⟩ := u_known hG iX6 (hts _ (tb_5 3 rfl))
  refine ⟨(fun k => if k = 0 then c0 else if k = 1 then c1 else if k = 2 then c2 else if k = 3 then c3 else if k = 4 then c4 else c5, fun k => if k = 0 then i0 else if k = 1 then i1 else if k = 2 then i2 else if k = 3 then i3 else if k = 4 then i4 else i5), fun c q hc => ?_⟩
  match c with
  | 0 =>
    cases hc
    exact h0
  | 1 =>
    cases hc
    exact h1
  | 2 =>
    cases hc
    exact h2
  | 3 =>
    cases hc
    exact h3
  | 4 =>
    cases hc
    exact h4
  | 5 =>
    cases hc
    exact h5
  | c + 6 => exact absurd hc (by simp [vwCl])
