/-! THE REFERENCE IS MADE -/
def x0 : SX := (fun _ => 0, fun _ => 0, fun _ => 0)
noncomputable def f_X6_init : Option Mem := bnd (f_X6_begins Mz) (fun M1 => letM (mput M1 10 1 1) (fun M2 => letM (mput M2 10 44 1) (fun M3 => letM (mput M3 10 45 1) (fun M4 => bnd2 (f_X6_addsMonk 2 2 M4) (fun _ M5 => some M5)))))
theorem rAA_A1 {rs : List Nat} {cy : Nat → ClassId} {ad : Nat → Nat} {M : Mem} {h0 sz o : Nat} (hD : va_D (A1 h0 sz) (wr rs cy ad M)) (ho : o ∈ rs) (h : ad o = h0) : rAA rs ad sz = A1 h0 sz := by
  funext q
  apply propext
  refine ⟨fun hq => ?_, fun hq => ?_⟩
  · rcases hq with ⟨k, hk, rfl⟩ | hq
    · obtain ⟨i, hi⟩ := List.getElem?_of_mem hk
      exact hD.2 i _ (wr_at hi)
    · exact Or.inr hq
  · rcases hq with hq | hq
    · exact Or.inl ⟨o, ho, by rw [hq, h]⟩
    · exact Or.inr hq
set_option maxHeartbeats 4000000 in
set_option maxRecDepth 100000 in
theorem c_X6_init (l : Launch) (D : va_G) (cy : Nat → ClassId) (h0 sz : Nat) (M' : Mem) (hF : f_X6_init = some M') : Met l yX6_init (.code yX6_init cX6_init 2 none :: GB) ({ frames := 2, cells := 7, slots := 2874, locals := 45 } : Room) (PcI D cy h0 5 [.null, .null, .null, .null, .null, .int 0, .int 0, .null, .int 0, .null, .int 0, .int 0, .int 0, .int 0, .int 0, .int 0, .int 0, .int 0, .int 0] sz) (QcI D cy h0 sz 9 RM M') 7 2874 (A1 h0 sz) := by
  refine i_mk (own := RX6) (by decide) rfl rfl (Nat.le_of_ble_eq_true rfl) ?_
  intro p e s m args below meth c ls iy hrt hlk hinit hw hl hsz
  have hx := iy.1.1
  have hb := iy.1.2.1
  refine lv_aload_n hx hb dX6_init_0 rfl (lv_at hl 0 rfl) ?_
  refine i_obj iy (gb_5 7 rfl rfl) hl.1 dX6_init_1 (Nat.le_of_ble_eq_true rfl) (Nat.le_of_ble_eq_true rfl) ?_
  refine lv_aload_n hx hb dX6_init_4 rfl (lv_at hl 0 rfl) ?_
  refine lv_sipush (v := 156) hx hb dX6_init_5 (by decide) ?_
  refine i_newI iy hw 156 (by decide) (by decide) (by decide) (Nat.le_of_ble_eq_true rfl) (Nat.le_of_ble_eq_true rfl) dX6_init_8 (fun q1 H hw => ?_)
  replace hw : GW D (A1 h0 sz) s ([(h0, .inr (5, [.null, .null, .null, .null, .null, .int 0, .int 0, .null, .int 0, .null, .int 0, .int 0, .int 0, .int 0, .int 0, .int 0, .int 0, .int 0, .int 0])), (q1, .inl (cy 0, 156, .inl (fun _ => 0)))]) H _ := hw
  refine i_putF iy hw rfl iX6 tyX6 tyX6_ok nmX6 tcX6 hinit 0 (by decide) (gb_5 19 rfl rfl) rfl (v := .ref q1) rfl rfl rfl (Nat.le_of_ble_eq_true rfl) dX6_init_10 (fun H locs hw => ?_)
  replace hw : GW D (A1 h0 sz) s ([(h0, .inr (5, [.ref q1, .null, .null, .null, .null, .int 0, .int 0, .null, .int 0, .null, .int 0, .int 0, .int 0, .int 0, .int 0, .int 0, .int 0, .int 0, .int 0])), (q1, .inl (cy 0, 156, .inl (fun _ => 0)))]) H _ := hw
  refine lv_aload_n hx hb dX6_init_13 rfl (lv_at hl 0 rfl) ?_
  refine lv_sipush (v := 156) hx hb dX6_init_14 (by decide) ?_
  refine i_newI iy hw 156 (by decide) (by decide) (by decide) (Nat.le_of_ble_eq_true rfl) (Nat.le_of_ble_eq_true rfl) dX6_init_17 (fun q2 H hw => ?_)
  replace hw : GW D (A1 h0 sz) s ([(h0, .inr (5, [.ref q1, .null, .null, .null, .null, .int 0, .int 0, .null, .int 0, .null, .int 0, .int 0, .int 0, .int 0, .int 0, .int 0, .int 0, .int 0, .int 0])), (q1, .inl (cy 0, 156, .inl (fun _ => 0))), (q2, .inl (cy 0, 156, .inl (fun _ => 0)))]) H _ := hw
  refine i_putF iy hw rfl iX6 tyX6 tyX6_ok nmX6 tcX6 hinit 1 (by decide) (gb_5 20 rfl rfl) rfl (v := .ref q2) rfl rfl rfl (Nat.le_of_ble_eq_true rfl) dX6_init_19 (fun H locs hw => ?_)
  replace hw : GW D (A1 h0 sz) s ([(h0, .inr (5, [.ref q1, .ref q2, .null, .null, .null, .int 0, .int 0, .null, .int 0, .null, .int 0, .int 0, .int 0, .int 0, .int 0, .int 0, .int 0, .int 0, .int 0])), (q1, .inl (cy 0, 156, .inl (fun _ => 0))), (q2, .inl (cy 0, 156, .inl (fun _ => 0)))]) H _ := hw
  refine lv_aload_n hx hb dX6_init_22 rfl (lv_at hl 0 rfl) ?_
  refine lv_sipush (v := 1248) hx hb dX6_init_23 (by decide) ?_
  refine i_newI iy hw 1248 (by decide) (by decide) (by decide) (Nat.le_of_ble_eq_true rfl) (Nat.le_of_ble_eq_true rfl) dX6_init_26 (fun q3 H hw => ?_)
  replace hw : GW D (A1 h0 sz) s ([(h0, .inr (5, [.ref q1, .ref q2, .null, .null, .null, .int 0, .int 0, .null, .int 0, .null, .int 0, .int 0, .int 0, .int 0, .int 0, .int 0, .int 0, .int 0, .int 0])), (q1, .inl (cy 0, 156, .inl (fun _ => 0))), (q2, .inl (cy 0, 156, .inl (fun _ => 0))), (q3, .inl (cy 0, 1248, .inl (fun _ => 0)))]) H _ := hw
  refine i_putF iy hw rfl iX6 tyX6 tyX6_ok nmX6 tcX6 hinit 2 (by decide) (gb_5 21 rfl rfl) rfl (v := .ref q3) rfl rfl rfl (Nat.le_of_ble_eq_true rfl) dX6_init_28 (fun H locs hw => ?_)
  replace hw : GW D (A1 h0 sz) s ([(h0, .inr (5, [.ref q1, .ref q2, .ref q3, .null, .null, .int 0, .int 0, .null, .int 0, .null, .int 0, .int 0, .int 0, .int 0, .int 0, .int 0, .int 0, .int 0, .int 0])), (q1, .inl (cy 0, 156, .inl (fun _ => 0))), (q2, .inl (cy 0, 156, .inl (fun _ => 0))), (q3, .inl (cy 0, 1248, .inl (fun _ => 0)))]) H _ := hw
  refine lv_aload_n hx hb dX6_init_31 rfl (lv_at hl 0 rfl) ?_
  refine lv_sipush (v := 312) hx hb dX6_init_32 (by decide) ?_
  refine i_newI iy hw 312 (by decide) (by decide) (by decide) (Nat.le_of_ble_eq_true rfl) (Nat.le_of_ble_eq_true rfl) dX6_init_35 (fun q4 H hw => ?_)
  replace hw : GW D (A1 h0 sz) s ([(h0, .inr (5, [.ref q1, .ref q2, .ref q3, .null, .null, .int 0, .int 0, .null, .int 0, .null, .int 0, .int 0, .int 0, .int 0, .int 0, .int 0, .int 0, .int 0, .int 0])), (q1, .inl (cy 0, 156, .inl (fun _ => 0))), (q2, .inl (cy 0, 156, .inl (fun _ => 0))), (q3, .inl (cy 0, 1248, .inl (fun _ => 0))), (q4, .inl (cy 0, 312, .inl (fun _ => 0)))]) H _ := hw
  refine i_putF iy hw rfl iX6 tyX6 tyX6_ok nmX6 tcX6 hinit 3 (by decide) (gb_5 22 rfl rfl) rfl (v := .ref q4) rfl rfl rfl (Nat.le_of_ble_eq_true rfl) dX6_init_37 (fun H locs hw => ?_)
  replace hw : GW D (A1 h0 sz) s ([(h0, .inr (5, [.ref q1, .ref q2, .ref q3, .ref q4, .null, .int 0, .int 0, .null, .int 0, .null, .int 0, .int 0, .int 0, .int 0, .int 0, .int 0, .int 0, .int 0, .int 0])), (q1, .inl (cy 0, 156, .inl (fun _ => 0))), (q2, .inl (cy 0, 156, .inl (fun _ => 0))), (q3, .inl (cy 0, 1248, .inl (fun _ => 0))), (q4, .inl (cy 0, 312, .inl (fun _ => 0)))]) H _ := hw
  refine lv_aload_n hx hb dX6_init_40 rfl (lv_at hl 0 rfl) ?_
  refine lv_iconst (v := 2) hx hb dX6_init_41 (by decide) ?_
  refine i_newZ iy hw 2 (by decide) (by decide) (by decide) (Nat.le_of_ble_eq_true rfl) (Nat.le_of_ble_eq_true rfl) dX6_init_42 (fun q5 H hw => ?_)
  replace hw : GW D (A1 h0 sz) s ([(h0, .inr (5, [.ref q1, .ref q2, .ref q3, .ref q4, .null, .int 0, .int 0, .null, .int 0, .null, .int 0, .int 0, .int 0, .int 0, .int 0, .int 0, .int 0, .int 0, .int 0])), (q1, .inl (cy 0, 156, .inl (fun _ => 0))), (q2, .inl (cy 0, 156, .inl (fun _ => 0))), (q3, .inl (cy 0, 1248, .inl (fun _ => 0))), (q4, .inl (cy 0, 312, .inl (fun _ => 0))), (q5, .inl (cy 1, 2, .inl (fun _ => 0)))]) H _ := hw
  refine i_putF iy hw rfl iX6 tyX6 tyX6_ok nmX6 tcX6 hinit 4 (by decide) (gb_5 23 rfl rfl) rfl (v := .ref q5) rfl rfl rfl (Nat.le_of_ble_eq_true rfl) dX6_init_44 (fun H locs hw => ?_)
  replace hw : GW D (A1 h0 sz) s ([(h0, .inr (5, [.ref q1, .ref q2, .ref q3, .ref q4, .ref q5, .int 0, .int 0, .null, .int 0, .null, .int 0, .int 0, .int 0, .int 0, .int 0, .int 0, .int 0, .int 0, .int 0])), (q1, .inl (cy 0, 156, .inl (fun _ => 0))), (q2, .inl (cy 0, 156, .inl (fun _ => 0))), (q3, .inl (cy 0, 1248, .inl (fun _ => 0))), (q4, .inl (cy 0, 312, .inl (fun _ => 0))), (q5, .inl (cy 1, 2, .inl (fun _ => 0)))]) H _ := hw
  refine lv_aload_n hx hb dX6_init_47 rfl (lv_at hl 0 rfl) ?_
  refine lv_sipush (v := 200) hx hb dX6_init_48 (by decide) ?_
  refine i_newI iy hw 200 (by decide) (by decide) (by decide) (Nat.le_of_ble_eq_true rfl) (Nat.le_of_ble_eq_true rfl) dX6_init_51 (fun q6 H hw => ?_)
  replace hw : GW D (A1 h0 sz) s ([(h0, .inr (5, [.ref q1, .ref q2, .ref q3, .ref q4, .ref q5, .int 0, .int 0, .null, .int 0, .null, .int 0, .int 0, .int 0, .int 0, .int 0, .int 0, .int 0, .int 0, .int 0])), (q1, .inl (cy 0, 156, .inl (fun _ => 0))), (q2, .inl (cy 0, 156, .inl (fun _ => 0))), (q3, .inl (cy 0, 1248, .inl (fun _ => 0))), (q4, .inl (cy 0, 312, .inl (fun _ => 0))), (q5, .inl (cy 1, 2, .inl (fun _ => 0))), (q6, .inl (cy 0, 200, .inl (fun _ => 0)))]) H _ := hw
  refine i_putF iy hw rfl iX6 tyX6 tyX6_ok nmX6 tcX6 hinit 7 (by decide) (gb_5 26 rfl rfl) rfl (v := .ref q6) rfl rfl rfl (Nat.le_of_ble_eq_true rfl) dX6_init_53 (fun H locs hw => ?_)
  replace hw : GW D (A1 h0 sz) s ([(h0, .inr (5, [.ref q1, .ref q2, .ref q3, .ref q4, .ref q5, .int 0, .int 0, .ref q6, .int 0, .null, .int 0, .int 0, .int 0, .int 0, .int 0, .int 0, .int 0, .int 0, .int 0])), (q1, .inl (cy 0, 156, .inl (fun _ => 0))), (q2, .inl (cy 0, 156, .inl (fun _ => 0))), (q3, .inl (cy 0, 1248, .inl (fun _ => 0))), (q4, .inl (cy 0, 312, .inl (fun _ => 0))), (q5, .inl (cy 1, 2, .inl (fun _ => 0))), (q6, .inl (cy 0, 200, .inl (fun _ => 0)))]) H _ := hw
  refine lv_aload_n hx hb dX6_init_56 rfl (lv_at hl 0 rfl) ?_
  refine lv_sipush (v := 800) hx hb dX6_init_57 (by decide) ?_
  refine i_newI iy hw 800 (by decide) (by decide) (by decide) (Nat.le_of_ble_eq_true rfl) (Nat.le_of_ble_eq_true rfl) dX6_init_60 (fun q7 H hw => ?_)
  replace hw : GW D (A1 h0 sz) s ([(h0, .inr (5, [.ref q1, .ref q2, .ref q3, .ref q4, .ref q5, .int 0, .int 0, .ref q6, .int 0, .null, .int 0, .int 0, .int 0, .int 0, .int 0, .int 0, .int 0, .int 0, .int 0])), (q1, .inl (cy 0, 156, .inl (fun _ => 0))), (q2, .inl (cy 0, 156, .inl (fun _ => 0))), (q3, .inl (cy 0, 1248, .inl (fun _ => 0))), (q4, .inl (cy 0, 312, .inl (fun _ => 0))), (q5, .inl (cy 1, 2, .inl (fun _ => 0))), (q6, .inl (cy 0, 200, .inl (fun _ => 0))), (q7, .inl (cy 0, 800, .inl (fun _ => 0)))]) H _ := hw
  refine i_putF iy hw rfl iX6 tyX6 tyX6_ok nmX6 tcX6 hinit 9 (by decide) (gb_5 28 rfl rfl) rfl (v := .ref q7) rfl rfl rfl (Nat.le_of_ble_eq_true rfl) dX6_init_62 (fun H locs hw => ?_)
  replace hw : GW D (A1 h0 sz) s ([(h0, .inr (5, [.ref q1, .ref q2, .ref q3, .ref q4, .ref q5, .int 0, .int 0, .ref q6, .int 0, .ref q7, .int 0, .int 0, .int 0, .int 0, .int 0, .int 0, .int 0, .int 0, .int 0])), (q1, .inl (cy 0, 156, .inl (fun _ => 0))), (q2, .inl (cy 0, 156, .inl (fun _ => 0))), (q3, .inl (cy 0, 1248, .inl (fun _ => 0))), (q4, .inl (cy 0, 312, .inl (fun _ => 0))), (q5, .inl (cy 1, 2, .inl (fun _ => 0))), (q6, .inl (cy 0, 200, .inl (fun _ => 0))), (q7, .inl (cy 0, 800, .inl (fun _ => 0)))]) H _ := hw
  refine lv_aload_n hx hb dX6_init_65 rfl (lv_at hl 0 rfl) ?_
  refine lv_iconst (v := -1) hx hb dX6_init_66 (by decide) ?_
  refine i_put iy hw rfl iX6 tyX6 tyX6_ok nmX6 tcX6 17 (by decide) (gb_5 36 rfl rfl) rfl (Nat.le_of_ble_eq_true rfl) dX6_init_67 (fun H locs hw => ?_)
  replace hw : GW D (A1 h0 sz) s ([(h0, .inr (5, [.ref q1, .ref q2, .ref q3, .ref q4, .ref q5, .int 0, .int 0, .ref q6, .int 0, .ref q7, .int 0, .int 0, .int 0, .int 0, .int 0, .int 0, .int 0, .int (-1), .int 0])), (q1, .inl (cy 0, 156, .inl (fun _ => 0))), (q2, .inl (cy 0, 156, .inl (fun _ => 0))), (q3, .inl (cy 0, 1248, .inl (fun _ => 0))), (q4, .inl (cy 0, 312, .inl (fun _ => 0))), (q5, .inl (cy 1, 2, .inl (fun _ => 0))), (q6, .inl (cy 0, 200, .inl (fun _ => 0))), (q7, .inl (cy 0, 800, .inl (fun _ => 0)))]) H _ := hw
  have he : wr RM cy (ld [h0, q1, q2, q3, q4, q5, q6, q7] 9) Mz = [(h0, .inr (5, [.ref q1, .ref q2, .ref q3, .ref q4, .ref q5, .int 0, .int 0, .ref q6, .int 0, .ref q7, .int 0, .int 0, .int 0, .int 0, .int 0, .int 0, .int 0, .int (-1), .int 0])), (q1, .inl (cy 0, 156, .inl (fun _ => 0))), (q2, .inl (cy 0, 156, .inl (fun _ => 0))), (q3, .inl (cy 0, 1248, .inl (fun _ => 0))), (q4, .inl (cy 0, 312, .inl (fun _ => 0))), (q5, .inl (cy 1, 2, .inl (fun _ => 0))), (q6, .inl (cy 0, 200, .inl (fun _ => 0))), (q7, .inl (cy 0, 800, .inl (fun _ => 0)))] := rfl
  have h9 : ld [h0, q1, q2, q3, q4, q5, q6, q7] 9 9 = h0 := rfl
  rw [← he] at hw
  generalize hade : ld [h0, q1, q2, q3, q4, q5, q6, q7] 9 = ad at hw h9
  have hAA := rAA_A1 hw.2.1 (show 9 ∈ RM by decide) h9
  rw [← h9] at hl
  have fx : rFX RM p s m args meth c cX6_init 2 none RX6 D cy ad x0 := ⟨iy.1, hrt, hlk, iy.2.1, trivial⟩
  have hw : rWD RM D cy ad s Mz H locs := by
    unfold rWD
    rw [hsz, hAA]
    exact hw
  unfold f_X6_init at hF
  refine lv_aload_n hx hb dX6_init_70 rfl (lv_at hl 0 rfl) ?_
  obtain ⟨M1, hg1, hF⟩ := st_bnd hF
  refine rg_cv hw (rg_runV (C := RX6) (As := []) (rest := []) fx hw rO_9 rfl (sc_X6_begins l x0 D cy ad H.size Mz M1 hg1) wd5_8 wd5_10 wd0_40 wd1_8 wd5_11 yd_X6_begins rfl rfl (Nat.le_of_ble_eq_true rfl) hl.1 ⟨Nat.le_of_ble_eq_true rfl, Nat.le_of_ble_eq_true rfl⟩ ⟨Nat.le_of_ble_eq_true rfl, Nat.le_of_ble_eq_true rfl⟩ dX6_init_71) (fun H locs hw => ?_)
  refine lv_aload_n hx hb dX6_init_74 rfl (lv_at hl 0 rfl) ?_
  refine rgX6_get fx hw rO_9 0 (by decide) wd5_19 rfl dX6_init_75 ?_
  refine lv_iconst (v := 1) hx hb dX6_init_78 (by decide) ?_
  refine lv_iconst (v := 1) hx hb dX6_init_79 (by decide) ?_
  obtain ⟨N1, eM, hF⟩ := st_letM hF
  refine rg_iastc fx hw rA_10 (k := 1) rfl (by decide) eM dX6_init_80 (fun H locs hw => ?_)
  refine lv_aload_n hx hb dX6_init_81 rfl (lv_at hl 0 rfl) ?_
  refine rgX6_get fx hw rO_9 0 (by decide) wd5_19 rfl dX6_init_82 ?_
  refine lv_bipush (v := 44) hx hb dX6_init_85 (by decide) ?_
  refine lv_iconst (v := 1) hx hb dX6_init_87 (by decide) ?_
  obtain ⟨N44, eM, hF⟩ := st_letM hF
  refine rg_iastc fx hw rA_10 (k := 44) rfl (by decide) eM dX6_init_88 (fun H locs hw => ?_)
  refine lv_aload_n hx hb dX6_init_89 rfl (lv_at hl 0 rfl) ?_
  refine rgX6_get fx hw rO_9 0 (by decide) wd5_19 rfl dX6_init_90 ?_
  refine lv_bipush (v := 45) hx hb dX6_init_93 (by decide) ?_
  refine lv_iconst (v := 1) hx hb dX6_init_95 (by decide) ?_
  obtain ⟨N45, eM, hF⟩ := st_letM hF
  refine rg_iastc fx hw rA_10 (k := 45) rfl (by decide) eM dX6_init_96 (fun H locs hw => ?_)
  refine lv_aload_n hx hb dX6_init_97 rfl (lv_at hl 0 rfl) ?_
  refine lv_iconst (v := 2) hx hb dX6_init_98 (by decide) ?_
  refine lv_iconst (v := 2) hx hb dX6_init_99 (by decide) ?_
  obtain ⟨r9, N9, hg9, hF⟩ := st_bnd2 hF
  refine rg_ci hw (rg_runV (C := RX6) (As := [.int 2, .int 2]) (rest := []) fx hw rO_9 rfl (sc_X6_addsMonk l x0 D cy ad 2 2 H.size N45 r9 N9 hg9) wd5_12 wd5_14 wd0_41 wd1_8 wd5_15 yd_X6_addsMonk rfl rfl (Nat.le_of_ble_eq_true rfl) hl.1 ⟨Nat.le_of_ble_eq_true rfl, Nat.le_of_ble_eq_true rfl⟩ ⟨Nat.le_of_ble_eq_true rfl, Nat.le_of_ble_eq_true rfl⟩ dX6_init_100) (fun H locs hw => ?_)
  refine lv_istore_n (lv' := [(1, .int r9), (0, .ref (ad 9))]) hx hb dX6_init_103 rfl hl (by decide) rfl (fun ls hl => ?_)
  cases hF
  have hw : GW D (A1 h0 sz) s (wr RM cy ad M') H locs := by
    unfold rWD at hw
    rw [hsz, hAA] at hw
    exact hw
  have hbw : wb RM cy ad M' = wr RM cy ad M' := wb_wr (by decide)
  exact i_ret (ad := ad) iy hrt hlk hw hsz h9 (by rw [hbw]; exact hw.1) (by rw [hbw]; exact hw.2.1) dX6_init_104
/-! THE OBJECT IS MADE -/
theorem mem_R {k : Nat} : k ∈ RR1 ↔ k = 1 ∨ k = 2 ∨ (31 ≤ k ∧ k < 44) := by
  simp only [RR1, List.mem_append, mem_hr, List.mem_cons, List.not_mem_nil, or_false]
  omega
theorem mem_Y {k : Nat} : k ∈ RY3 ↔ k = 3 ∨ k = 4 ∨ (44 ≤ k ∧ k < 148) := by
  simp only [RY3, List.mem_append, mem_hs, List.mem_cons, List.not_mem_nil, or_false]
  omega
theorem mem_W {k : Nat} : k ∈ RW5 ↔ k = 5 ∨ k = 6 := by
  simp only [RW5, List.mem_cons, List.not_mem_nil, or_false]
abbrev Ra : List Nat := hr 18 ++ RR1
abbrev Rb : List Nat := Ra ++ RY3
abbrev Rc : List Nat := Rb ++ RW5
abbrev Rd : List Nat := Rc ++ hs 148 2
theorem Cl_a : Cl Ra := (Cl_house isH_18).app Cl_R
theorem Cl_b : Cl Rb := Cl_a.app Cl_Y
theorem Cl_c : Cl Rc := Cl_b.app Cl_W
theorem Cl_d : Cl Rd := Cl_c.app (Cl_hs isH_s)
theorem mem_a {k : Nat} : k ∈ Ra ↔ k = 1 ∨ k = 2 ∨ (18 ≤ k ∧ k < 44) := by
  simp only [Ra, RR1, List.mem_append, mem_hr, mem_hs, List.mem_cons, List.not_mem_nil, or_false]
  omega
theorem mem_b {k : Nat} : k ∈ Rb ↔ k = 1 ∨ k = 2 ∨ k = 3 ∨ k = 4 ∨ (18 ≤ k ∧ k < 148) := by
  simp only [Rb, Ra, RR1, RY3, List.mem_append, mem_hr, mem_hs, List.mem_cons, List.not_mem_nil, or_false]
  omega
theorem mem_c {k : Nat} : k ∈ Rc ↔ (1 ≤ k ∧ k ≤ 6) ∨ (18 ≤ k ∧ k < 148) := by
  simp only [Rc, Rb, Ra, RR1, RY3, RW5, List.mem_append, mem_hr, mem_hs, List.mem_cons, List.not_mem_nil, or_false]
  omega
theorem mem_d {k : Nat} : k ∈ Rd ↔ (1 ≤ k ∧ k ≤ 6) ∨ (18 ≤ k ∧ k < 174) := by
  simp only [Rd, Rc, Rb, Ra, RR1, RY3, RW5, List.mem_append, mem_hr, mem_hs, List.mem_cons, List.not_mem_nil, or_false]
  omega
abbrev RX : List Nat := [0, 7] ++ Rd ++ [8]
section RUNR
variable {p : Program} {l : Launch} {e : Env} {R : Room} {s : State} {m : MethodId} {args : Array Value} {below : List Frame} {meth : Method} {c : Code} {H : Heap} {locs : List Loc} {cells slots : Nat}
variable {cc : ByteArray} {nL : Nat} {own : String} {D : va_G} {cy : Nat → ClassId} {A : Nat → Prop} {pc : Nat} {ls : Array Slot} {rest st0 : List Value} {w0 : va_W} {rs : List Nat} {ad : Nat → Nat} {M : Mem} {x : SX}
theorem i_runR (iy : IX p s m args meth c cc nL own D cy A) (hw : GW D A s (w0 ++ wr rs cy ad M) H locs) {ci q : Nat} {fs : (Nat → Nat) → (Nat → Int32) → List Value} (hO : rO rs ci q fs) {C : String} {T : u_T} {N : Nat} (hc : vwCl[ci]? = some (C, T, N))
    {y : MethodName} {bytes : ByteArray} {maxL fr lo mc ms n index : Nat} {rt : Option FieldType} {As : List Value} {Qc : Array Value → State → Outcome → State → Prop}
    (hM : Met l y (.code y bytes maxL rt :: GB) ({ frames := fr, cells := mc, slots := ms, locals := lo } : Room) (rPcW rs D cy ad x H.size M (.ref (ad q) :: As)) Qc mc ms (rAA rs ad H.size))
    (hl : Cond.methodLink own index y ∈ GB) (hi : Cond.instanceMethod y ∈ GB) (hs : Cond.selects C y y ∈ GB) (hini : Cond.initialized y.cls ∈ GB) (hcode : Cond.code y bytes maxL rt ∈ GB) (hd : y.cls ≠ "java/lang/invoke/MethodHandle" ∧ y.cls ≠ "java/lang/invoke/VarHandle" ∧ (parseMethodDescriptor y.desc).map (fun d => d.parameters.length) = some n) (hn : As.length = n)
    (hst : st0 = As.reverse ++ .ref (ad q) :: rest) (hcat : (rest.map fun v => v.category).sum ≤ 8) (hsz : ls.size = nL) (hR : fr + 1 ≤ R.frames ∧ 8 + (maxL + 11) + lo ≤ R.locals) (hf : cells + mc ≤ R.cells ∧ slots + ms ≤ R.slots) (hdg : decode cc pc = .ok (.invokevirtual index, 3)) :
    va_Run p l e R s m args below meth c H locs cells slots mc ms (F0 m pc ls st0) rest (Qc (Value.ref (ad q) :: As).toArray) (rAA rs ad H.size) := by
  obtain ⟨S, hK, hA, hX⟩ := iy
  have hts := S.2.2.2.2
  obtain ⟨j, hj⟩ := List.getElem?_of_mem hO.2
  have hP := hw.1.right
  have hD := hw.2.1.right
  exact va_runV (C := C) (As := As) (rest := rest) S hM ⟨cwG hts hl hini hcode hd hR, hts _ hi, hts _ hs⟩ ⟨rPcW_blind, va_recv hK hP hc (show (wr rs cy ad M)[j]? = some (ad q, .inr (ci, fs ad (M q))) by rw [wr_at hj, hO.1.2]), fun U hU hW => ⟨rfl, by rw [hU], by rw [hU]; exact hP, va_K.moved hW.alike hK, hD.weaken (fun _ _ _ _ => trivial)⟩⟩ rfl hn hsz hst (lv_room hcat) hdg hf
end RUNR
theorem rH_18 : rH (hr 18) 18 := ⟨isH_18, fun j hj => mem_hr.mpr ⟨by omega, by omega⟩⟩

set_option maxHeartbeats 4000000 in
set_option maxRecDepth 100000 in
theorem c_X5_init (l : Launch) (D : va_G) (cy : Nat → ClassId) (h0 sz : Nat) (M5 : Mem) (hF : f_X1_becomeFirst 18 Mz = some M5) (hM : ∀ k, ¬ (18 ≤ k ∧ k < 31) → M5 k = Mz k) : Met l yX5_init (.code yX5_init cX5_init 2 none :: GB) ({ frames := 3, cells := 164, slots := 2959, locals := 63 } : Room) (PcI D cy h0 4 [.null, .null, .null, .null, .null, .null] sz) (QcI D cy h0 sz 0 RX M5) 164 2959 (A1 h0 sz) := by
  refine i_mk (own := RX5) (by decide) rfl rfl (Nat.le_of_ble_eq_true rfl) ?_
  intro p e s m args below meth c ls iy hrt hlk hinit hw hl hsz
  have hx := iy.1.1
  have hb := iy.1.2.1
  refine lv_aload_n hx hb dX5_init_0 rfl (lv_at hl 0 rfl) ?_
  refine i_obj iy (gb_1 27 rfl rfl) hl.1 dX5_init_1 (Nat.le_of_ble_eq_true rfl) (Nat.le_of_ble_eq_true rfl) ?_
  refine lv_aload_n hx hb dX5_init_4 rfl (lv_at hl 0 rfl) ?_
  refine i_new iy hw (ci := 1) (C := RX1) (T := TX1) (N := 18) rfl iX1 tyX1 tyX1_ok (gb_1 30 rfl rfl) (gb_1 31 rfl rfl) wd1_2 fs0_H fs0_ok (Nat.le_of_ble_eq_true rfl) (Nat.le_of_ble_eq_true rfl) dX5_init_5 (fun q1 H hw => ?_)
  refine lv_dup hx hb dX5_init_8 rfl ?_
  refine i_cv iy hw (i_runN (rest := [.ref q1, .ref h0]) iy hw (c_X1_init l D cy 18 isH_18 q1 H.size) (by decide +kernel) (gb_1 33 rfl rfl) wd1_2 (gb_1 34 rfl rfl) rfl (by decide +kernel) rfl (Nat.le_of_ble_eq_true rfl) hl.1 ⟨Nat.le_of_ble_eq_true rfl, Nat.le_of_ble_eq_true rfl⟩ ⟨Nat.le_of_ble_eq_true rfl, Nat.le_of_ble_eq_true rfl⟩ dX5_init_9) (fun ad1 H locs hq hv => ?_)
  subst hq
  have hw : GW D (A1 h0 sz) s ((h0, .inr (4, [.null, .null, .null, .null, .null, .null])) :: wb (hr 18) cy ad1 Mz) H locs := hv
  refine i_putF iy hw rfl iX5 tyX5 tyX5_ok nmX5 tcX5 hinit 0 (by decide) (gb_1 205 rfl rfl) rfl (v := .ref (ad1 18)) rfl rfl rfl (Nat.le_of_ble_eq_true rfl) dX5_init_12 (fun H locs hw => ?_)
  replace hw : GW D (A1 h0 sz) s ((h0, .inr (4, [.ref (ad1 18), .null, .null, .null, .null, .null])) :: wb (hr 18) cy ad1 Mz) H locs := hw
  refine lv_aload_n hx hb dX5_init_15 rfl (lv_at hl 0 rfl) ?_
  refine i_get iy hw rfl iX5 tcX5 0 (by decide) (gb_1 205 rfl rfl) (v := .ref (ad1 18)) rfl dX5_init_16 ?_
  have hbw : ∀ M : Mem, wb (hr 18) cy ad1 M = wr (hr 18) cy ad1 M := fun M => wb_wr (fun k hk => by have := mem_hr.mp hk; omega)
  rw [hbw] at hw
  replace hw : GW D (A1 h0 sz) s ([(h0, .inr (4, [.ref (ad1 18), .null, .null, .null, .null, .null]))] ++ wr (hr 18) cy ad1 Mz) H locs := hw
  refine i_cr iy hw (i_runR (C := RX1) (As := []) (rest := []) iy hw rH_18.O rfl (sc_X1_becomeFirst l x0 D cy ad1 18 rH_18 H.size Mz M5 hF) (gb_1 114 rfl rfl) (gb_1 115 rfl rfl) (gb_1 116 rfl rfl) wd1_2 (gb_1 117 rfl rfl) (by decide +kernel) rfl rfl (Nat.le_of_ble_eq_true rfl) hl.1 ⟨Nat.le_of_ble_eq_true rfl, Nat.le_of_ble_eq_true rfl⟩ ⟨Nat.le_of_ble_eq_true rfl, Nat.le_of_ble_eq_true rfl⟩ dX5_init_19) (fun H locs hw => ?_)
  rw [← hbw] at hw
  replace hw : GW D (A1 h0 sz) s ((h0, .inr (4, [.ref (ad1 18), .null, .null, .null, .null, .null])) :: wb (hr 18) cy ad1 M5) H locs := hw
  refine lv_aload_n hx hb dX5_init_22 rfl (lv_at hl 0 rfl) ?_
  refine i_new iy hw (ci := 2) (C := RX3) (T := TX3) (N := 7) rfl iX3 tyX3 tyX3_ok (gb_1 136 rfl rfl) (gb_1 137 rfl rfl) (gb_1 5 rfl rfl) [.null, .null, .int 0, .int 0, .int 0, .int 0, .int 0] (fun j hj => by rcases (show j = 0 ∨ j = 1 ∨ j = 2 ∨ j = 3 ∨ j = 4 ∨ j = 5 ∨ j = 6 by omega) with rfl | rfl | rfl | rfl | rfl | rfl | rfl <;> rfl) (Nat.le_of_ble_eq_true rfl) (Nat.le_of_ble_eq_true rfl) dX5_init_23 (fun q2 H hw => ?_)
  refine lv_dup hx hb dX5_init_26 rfl ?_
  refine i_cv iy hw (i_runN (rest := [.ref q2, .ref h0]) iy hw (c_X3_init l D cy q2 H.size) (by decide +kernel) (gb_1 139 rfl rfl) (gb_1 5 rfl rfl) (gb_1 140 rfl rfl) rfl (by decide +kernel) rfl (Nat.le_of_ble_eq_true rfl) hl.1 ⟨Nat.le_of_ble_eq_true rfl, Nat.le_of_ble_eq_true rfl⟩ ⟨Nat.le_of_ble_eq_true rfl, Nat.le_of_ble_eq_true rfl⟩ dX5_init_27) (fun ad2 H locs hq hv => ?_)
  subst hq
  have hw : GW D (A1 h0 sz) s ((h0, .inr (4, [.ref (ad1 18), .null, .null, .null, .null, .null])) :: (wb (hr 18) cy (ad1) M5 ++ wb RR1 cy ad2 Mz)) H locs := hv
  rw [wb_merge (Cl_house isH_18) Cl_R (fun k h1 h2 => by have h1 := mem_hr.mp h1; have h2 := mem_R.mp h2; omega) (fun k hk => (hM k (fun h => by have hk := mem_R.mp hk; omega)).symm)] at hw
  refine i_putF iy hw rfl iX5 tyX5 tyX5_ok nmX5 tcX5 hinit 1 (by decide) (gb_1 206 rfl rfl) rfl (v := .ref (ad2 1)) rfl rfl rfl (Nat.le_of_ble_eq_true rfl) dX5_init_30 (fun H locs hw => ?_)
  replace hw : GW D (A1 h0 sz) s ((h0, .inr (4, [.ref (ad1 18), .ref (ad2 1), .null, .null, .null, .null])) :: wb Ra cy (mg RR1 ad2 (ad1)) M5) H locs := hw
  refine lv_aload_n hx hb dX5_init_33 rfl (lv_at hl 0 rfl) ?_
  refine i_new iy hw (ci := 0) (C := RX0) (T := TX0) (N := 3) rfl iX0 tyX0 tyX0_ok (gb_1 170 rfl rfl) (gb_1 171 rfl rfl) (gb_1 6 rfl rfl) [.null, .int 0, .int 0] (fun j hj => by rcases (show j = 0 ∨ j = 1 ∨ j = 2 by omega) with rfl | rfl | rfl <;> rfl) (Nat.le_of_ble_eq_true rfl) (Nat.le_of_ble_eq_true rfl) dX5_init_34 (fun q3 H hw => ?_)
  refine lv_dup hx hb dX5_init_37 rfl ?_
  refine i_cv iy hw (i_runI (rest := [.ref q3, .ref h0]) iy hw (c_X0_init l D cy q3 H.size) (gb_1 172 rfl rfl) (gb_1 173 rfl rfl) (gb_1 6 rfl rfl) (gb_1 174 rfl rfl) rfl (by decide +kernel) rfl (Nat.le_of_ble_eq_true rfl) hl.1 ⟨Nat.le_of_ble_eq_true rfl, Nat.le_of_ble_eq_true rfl⟩ ⟨Nat.le_of_ble_eq_true rfl, Nat.le_of_ble_eq_true rfl⟩ dX5_init_38) (fun ad3 H locs hq hv => ?_)
  subst hq
  have hw : GW D (A1 h0 sz) s ((h0, .inr (4, [.ref (ad1 18), .ref (ad2 1), .null, .null, .null, .null])) :: (wb (Ra) cy (mg RR1 ad2 (ad1)) M5 ++ wb RY3 cy ad3 Mz)) H locs := hv
  rw [wb_merge Cl_a Cl_Y (fun k h1 h2 => by have h1 := mem_a.mp h1; have h2 := mem_Y.mp h2; omega) (fun k hk => (hM k (fun h => by have hk := mem_Y.mp hk; omega)).symm)] at hw
  refine i_putF iy hw rfl iX5 tyX5 tyX5_ok nmX5 tcX5 hinit 2 (by decide) (gb_1 207 rfl rfl) rfl (v := .ref (ad3 3)) rfl rfl rfl (Nat.le_of_ble_eq_true rfl) dX5_init_41 (fun H locs hw => ?_)
  replace hw : GW D (A1 h0 sz) s ((h0, .inr (4, [.ref (ad1 18), .ref (ad2 1), .ref (ad3 3), .null, .null, .null])) :: wb Rb cy (mg RY3 ad3 (mg RR1 ad2 (ad1))) M5) H locs := hw
  refine lv_aload_n hx hb dX5_init_44 rfl (lv_at hl 0 rfl) ?_
  refine i_new iy hw (ci := 3) (C := RX4) (T := TX4) (N := 2) rfl iX4 tyX4 tyX4_ok (gb_1 190 rfl rfl) (gb_1 191 rfl rfl) (gb_1 7 rfl rfl) [.null, .int 0] (fun j hj => by rcases (show j = 0 ∨ j = 1 by omega) with rfl | rfl <;> rfl) (Nat.le_of_ble_eq_true rfl) (Nat.le_of_ble_eq_true rfl) dX5_init_45 (fun q4 H hw => ?_)
  refine lv_dup hx hb dX5_init_48 rfl ?_
  refine i_cv iy hw (i_runN (rest := [.ref q4, .ref h0]) iy hw (c_X4_init l D cy q4 H.size) (by decide +kernel) (gb_1 193 rfl rfl) (gb_1 7 rfl rfl) (gb_1 194 rfl rfl) rfl (by decide +kernel) rfl (Nat.le_of_ble_eq_true rfl) hl.1 ⟨Nat.le_of_ble_eq_true rfl, Nat.le_of_ble_eq_true rfl⟩ ⟨Nat.le_of_ble_eq_true rfl, Nat.le_of_ble_eq_true rfl⟩ dX5_init_49) (fun ad4 H locs hq hv => ?_)
  subst hq
  have hw : GW D (A1 h0 sz) s ((h0, .inr (4, [.ref (ad1 18), .ref (ad2 1), .ref (ad3 3), .null, .null, .null])) :: (wb (Rb) cy (mg RY3 ad3 (mg RR1 ad2 (ad1))) M5 ++ wb RW5 cy ad4 Mz)) H locs := hv
  rw [wb_merge Cl_b Cl_W (fun k h1 h2 => by have h1 := mem_b.mp h1; have h2 := mem_W.mp h2; omega) (fun k hk => (hM k (fun h => by have hk := mem_W.mp hk; omega)).symm)] at hw
  refine i_putF iy hw rfl iX5 tyX5 tyX5_ok nmX5 tcX5 hinit 3 (by decide) (gb_1 208 rfl rfl) rfl (v := .ref (ad4 5)) rfl rfl rfl (Nat.le_of_ble_eq_true rfl) dX5_init_52 (fun H locs hw => ?_)
  replace hw : GW D (A1 h0 sz) s ((h0, .inr (4, [.ref (ad1 18), .ref (ad2 1), .ref (ad3 3), .ref (ad4 5), .null, .null])) :: wb Rc cy (mg RW5 ad4 (mg RY3 ad3 (mg RR1 ad2 (ad1)))) M5) H locs := hw
  generalize had : mg RW5 ad4 (mg RY3 ad3 (mg RR1 ad2 (ad1))) = adc at hw
  refine lv_aload_n hx hb dX5_init_55 rfl (lv_at hl 0 rfl) ?_
  refine lv_iconst (v := 2) hx hb dX5_init_56 (by decide) ?_
  refine i_newQ iy hw 2 (gb_1 30 rfl rfl) (by decide) (by decide) (by decide) (Nat.le_of_ble_eq_true rfl) (Nat.le_of_ble_eq_true rfl) dX5_init_57 (fun qs H hw => ?_)
  replace hw := GW.sw hw
  refine i_putF iy hw rfl iX5 tyX5 tyX5_ok nmX5 tcX5 hinit 4 (by decide) (gb_1 209 rfl rfl) rfl (v := .ref qs) rfl rfl rfl (Nat.le_of_ble_eq_true rfl) dX5_init_60 (fun H locs hw => ?_)
  have e0 : fP 148 (fun _ => 0) 0 = fun _ => none := by funext j; simp [fP]
  replace hw : GW D (A1 h0 sz) s ((h0, .inr (4, [.ref (ad1 18), .ref (ad2 1), .ref (ad3 3), .ref (ad4 5), .ref qs, .null])) :: (qs, .inl (cy 2, 2, .inr (.inr (.inr (.inr (fP 148 (fun _ => 0) 0)))))) :: (wb Rc cy adc M5 ++ wb (hs 148 0) cy (fun _ => 0) Mz)) H locs := by
    rw [e0, show wb (hs 148 0) cy (fun _ => 0) Mz = [] from rfl, List.append_nil]
    exact hw
  have hend : ∀ (ad : Nat → Nat) (H : Heap) (locs : List Loc) (ls : Array Slot), lv_has ls 2 [(1, .int (nI 2)), (0, .ref h0)] → GW D (A1 h0 sz) s ((h0, .inr (4, [.ref (ad1 18), .ref (ad2 1), .ref (ad3 3), .ref (ad4 5), .ref qs, .null])) :: (qs, .inl (cy 2, 2, .inr (.inr (.inr (.inr (fP 148 ad 2)))))) :: (wb Rc cy adc M5 ++ wb (hs 148 2) cy ad Mz)) H locs →
      W p l e ({ frames := 3, cells := 164, slots := 2959, locals := 63 } : Room) s m args below meth c H locs 163 2957 (MQ below (QcI D cy h0 sz 0 RX M5) args s 164 2959 (A1 h0 sz)) (F0 m 89 ls []) := by
    intro ad H locs ls hl hw
    refine lv_aload_n hx hb dX5_init_89 rfl (lv_at hl 1 rfl) ?_
    refine lv_iconst (v := 2) hx hb dX5_init_90 (by decide) ?_
    refine i_newZ iy hw 2 (by decide) (by decide) (by decide) (Nat.le_of_ble_eq_true rfl) (Nat.le_of_ble_eq_true rfl) dX5_init_91 (fun qi H hw => ?_)
    refine i_putF iy hw rfl iX5 tyX5 tyX5_ok nmX5 tcX5 hinit 5 (by decide) (gb_1 210 rfl rfl) rfl (v := .ref qi) rfl rfl rfl (Nat.le_of_ble_eq_true rfl) dX5_init_93 (fun H locs hw => ?_)
    replace hw : GW D (A1 h0 sz) s ((h0, .inr (4, [.ref (ad1 18), .ref (ad2 1), .ref (ad3 3), .ref (ad4 5), .ref qs, .ref qi])) :: (qs, .inl (cy 2, 2, .inr (.inr (.inr (.inr (fP 148 ad 2)))))) :: ((wb Rc cy adc M5 ++ wb (hs 148 2) cy ad Mz) ++ [(qi, .inl (cy 1, 2, .inl (fun _ => 0)))])) H locs := hw
    rw [wb_merge Cl_c (Cl_hs isH_s) (fun k h1 h2 => by have h1 := mem_c.mp h1; have h2 := mem_hs.mp h2; omega) (fun k hk => (hM k (fun h => by have hk := mem_hs.mp hk; omega)).symm)] at hw
    generalize hadF : mg [0, 7, 8] (fun k => if k = 0 then h0 else if k = 7 then qs else qi) (mg (hs 148 2) ad adc) = adF
    have hF0 : adF 0 = h0 := by rw [← hadF]; rfl
    have hF7 : adF 7 = qs := by rw [← hadF]; rfl
    have hF8 : adF 8 = qi := by rw [← hadF]; rfl
    have hFd : ∀ k, k ∈ Rd → adF k = mg (hs 148 2) ad adc k := fun k hk => by
      rw [← hadF]
      exact mg_out (fun h => by
        have hk := mem_d.mp hk
        simp only [List.mem_cons, List.not_mem_nil, or_false] at h
        omega)
    have hFc : ∀ k, k ∈ Rc → adF k = adc k := fun k hk => by
      rw [hFd k (List.mem_append_left _ hk)]
      exact mg_out (fun h => by
        have h1 := mem_c.mp hk
        have h2 := mem_hs.mp h
        omega)
    have h18 : adF 18 = ad1 18 := by
      rw [hFc 18 (mem_c.mpr (by omega)), ← had, mg_out (fun h => by have := mem_W.mp h; omega), mg_out (fun h => by have := mem_Y.mp h; omega), mg_out (fun h => by have := mem_R.mp h; omega)]
    have h1 : adF 1 = ad2 1 := by
      rw [hFc 1 (mem_c.mpr (by omega)), ← had, mg_out (fun h => by have := mem_W.mp h; omega), mg_out (fun h => by have := mem_Y.mp h; omega), mg_in (mem_R.mpr (by omega))]
    have h3 : adF 3 = ad3 3 := by
      rw [hFc 3 (mem_c.mpr (by omega)), ← had, mg_out (fun h => by have := mem_W.mp h; omega), mg_in (mem_Y.mpr (by omega))]
    have h5 : adF 5 = ad4 5 := by
      rw [hFc 5 (mem_c.mpr (by omega)), ← had, mg_in (mem_W.mpr (by omega))]
    have hf7 : fP 148 adF 2 = fP 148 ad 2 := by
      funext j
      unfold fP
      by_cases hj : j < 2
      · rw [if_pos hj, if_pos hj, hFd _ (mem_d.mpr (by omega)), mg_in (mem_hs.mpr ⟨by omega, by omega⟩)]
      · rw [if_neg hj, if_neg hj]
    have he : wb RX cy adF M5 = (h0, .inr (4, [.ref (ad1 18), .ref (ad2 1), .ref (ad3 3), .ref (ad4 5), .ref qs, .ref qi])) :: (qs, .inl (cy 2, 2, .inr (.inr (.inr (.inr (fP 148 ad 2)))))) :: (wb Rd cy (mg (hs 148 2) ad adc) M5 ++ [(qi, .inl (cy 1, 2, .inl (fun _ => 0)))]) := by
      rw [show RX = [0, 7] ++ Rd ++ [8] from rfl, wb_app, wb_app, wb_congr Cl_d (ad' := mg (hs 148 2) ad adc) (M' := M5) hFd (fun _ _ => rfl), ← hf7]
      have e0 : rb cy adF 0 (M5 0) = .inr (4, [.ref (ad1 18), .ref (ad2 1), .ref (ad3 3), .ref (ad4 5), .ref qs, .ref qi]) := by
        rw [rb_rc (by decide) (by decide), isO_0.2]
        simp only [fS, h18, h1, h3, h5, hF7, hF8]
      have e8 : rb cy adF 8 (M5 8) = .inl (cy 1, 2, .inl (fun _ => 0)) := by
        rw [rb_rc (by decide) (by decide), isZ_8.2, hM 8 (by omega)]
        rfl
      show (adF 0, rb cy adF 0 (M5 0)) :: (adF 7, rb cy adF 7 (M5 7)) :: (_ ++ [(adF 8, rb cy adF 8 (M5 8))]) = _
      rw [e0, e8, hF0, hF7, hF8]
      rfl
    exact i_ret (ad := adF) iy hrt hlk hw hsz hF0 (by rw [he]; exact hw.1) (by rw [he]; exact hw.2.1) dX5_init_96
  have hloop : ∀ (n i : Nat), i + n = 2 → ∀ (ad : Nat → Nat) (H : Heap) (locs : List Loc) (ls : Array Slot), lv_has ls 2 [(1, .int (nI i)), (0, .ref h0)] → GW D (A1 h0 sz) s ((h0, .inr (4, [.ref (ad1 18), .ref (ad2 1), .ref (ad3 3), .ref (ad4 5), .ref qs, .null])) :: (qs, .inl (cy 2, 2, .inr (.inr (.inr (.inr (fP 148 ad i)))))) :: (wb Rc cy adc M5 ++ wb (hs 148 i) cy ad Mz)) H locs →
      W p l e ({ frames := 3, cells := 164, slots := 2959, locals := 63 } : Room) s m args below meth c H locs (137 + 13 * i) (2621 + 168 * i) (MQ below (QcI D cy h0 sz 0 RX M5) args s 164 2959 (A1 h0 sz)) (F0 m 65 ls []) := by
    intro n
    induction n with
    | zero =>
      intro i hi ad H locs ls hl hw
      obtain rfl : i = 2 := by omega
      refine lv_iload_n hx hb dX5_init_65 rfl (lv_at hl 0 rfl) ?_
      refine lv_iconst (v := 2) hx hb dX5_init_66 (by decide) ?_
      refine lv_icmp_ge (tgt := 89) hx hb dX5_init_67 (by decide) (fun hc => ?_) (fun hc => absurd (by decide) hc)
      exact hend ad H locs ls hl hw
    | succ n ih =>
      intro i hi ad H locs ls hl hw
      have hi8 : i < 2 := by omega
      refine lv_iload_n hx hb dX5_init_65 rfl (lv_at hl 0 rfl) ?_
      refine lv_iconst (v := 2) hx hb dX5_init_66 (by decide) ?_
      refine lv_icmp_ge (tgt := 89) hx hb dX5_init_67 (by decide) (fun hc => absurd hc (by rcases (show i = 0 ∨ i = 1 by omega) with rfl | rfl <;> decide)) (fun hc => ?_)
      refine lv_aload_n hx hb dX5_init_70 rfl (lv_at hl 1 rfl) ?_
      refine i_get iy hw rfl iX5 tcX5 4 (by decide) (gb_1 209 rfl rfl) (v := .ref qs) rfl dX5_init_71 ?_
      refine lv_iload_n hx hb dX5_init_74 rfl (lv_at hl 0 rfl) ?_
      refine i_new iy hw (ci := 1) (C := RX1) (T := TX1) (N := 18) rfl iX1 tyX1 tyX1_ok (gb_1 30 rfl rfl) (gb_1 31 rfl rfl) wd1_2 fs0_H fs0_ok (by show 137 + 13 * i + 1 ≤ 164; omega) (by show 2621 + 168 * i + 18 ≤ 2959; omega) dX5_init_75 (fun q2 H hw => ?_)
      refine lv_dup hx hb dX5_init_78 rfl ?_
      refine i_cv iy hw (i_runN (rest := [.ref q2, .int (nI i), .ref qs]) iy hw (c_X1_init l D cy (148 + 13 * i) (isH_s i hi8) q2 H.size) (by decide +kernel) (gb_1 33 rfl rfl) wd1_2 (gb_1 34 rfl rfl) rfl (by decide +kernel) rfl (Nat.le_of_ble_eq_true rfl) hl.1 ⟨Nat.le_of_ble_eq_true rfl, Nat.le_of_ble_eq_true rfl⟩ ⟨by show 137 + 13 * i + 1 + 12 ≤ 164; omega, by show 2621 + 168 * i + 18 + 150 ≤ 2959; omega⟩ dX5_init_79) (fun ad' H locs hq hw => ?_)
      refine i_hst (w9 := wb Rc cy adc M5) iy (by simpa only [List.cons_append, List.nil_append] using hw) (fun j hj => isH_s j (by omega)) hq (ix_nI (by omega)) (inB_nI hi8 (by decide)) dX5_init_82 (fun H locs hw => ?_)
      refine lv_iinc (v := nI (i + 1)) (lv' := [(1, .int (nI (i + 1))), (0, .ref h0)]) hx hb dX5_init_83 hl (k := 0) rfl (nI_succ i).symm (by decide) rfl (fun ls hl => ?_)
      refine lv_goto (tgt := 65) hx hb dX5_init_86 (by decide) ?_
      exact W.widen (by omega) (by omega) (ih (i + 1) (by omega) _ H locs ls hl hw)
  refine lv_iconst (v := 0) hx hb dX5_init_63 (by decide) ?_
  refine lv_istore_n (lv' := [(1, .int (nI 0)), (0, .ref h0)]) hx hb dX5_init_64 rfl hl (by decide) rfl (fun ls hl => ?_)
  exact hloop 2 0 rfl _ H locs ls hl hw
