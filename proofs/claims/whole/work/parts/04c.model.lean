abbrev wlX11_note (cI cZ cO : ClassId) (q_t q_t_text q_t_holds q_t_had q_t_worth q_t_wants q_t_readHolds q_t_readHad q_t_readWorth q_t_rows q_t_kept q_t_isKept q_t_sort q_t_took q_t_tried q_t_planned q_t_from q_t_best q_t_outcome q_t_value q_t_act : Nat) (t_thrown : Int32) (t_textSize : Int32) (t_place : Int32) (t_people : Int32) (t_readPeople : Int32) (t_acts : Int32) (t_sights : Int32) (t_longest : Int32) (t_shortest : Int32) (t_runs : Int32) (t_came : Int32) (t_bestMore : Int32) (t_had : Nat → Int32) (t_holds : Nat → Int32) (t_rows : Nat → Int32) : va_W := [(q_t, .inr (10, [.int t_thrown, .ref q_t_text, .int t_textSize, .int t_place, .int t_people, .ref q_t_holds, .ref q_t_had, .ref q_t_worth, .ref q_t_wants, .int t_readPeople, .ref q_t_readHolds, .ref q_t_readHad, .ref q_t_readWorth, .ref q_t_rows, .int t_acts, .ref q_t_kept, .ref q_t_isKept, .int t_sights, .ref q_t_sort, .ref q_t_took, .ref q_t_tried, .int t_longest, .int t_shortest, .int t_runs, .int t_came, .ref q_t_planned, .ref q_t_from, .ref q_t_best, .int t_bestMore, .ref q_t_outcome, .ref q_t_value, .ref q_t_act])), (q_t_had, .inl (cI, 56, .inl t_had)), (q_t_holds, .inl (cI, 56, .inl t_holds)), (q_t_rows, .inl (cI, 128, .inl t_rows))]
def fX11_note_B50 (t_had : Nat → Int32) (t_holds : Nat → Int32) (t_acts_1 : Int32) (k50 : Int32 → (Nat → Int32) → Option (Int32 × (Nat → Int32))) (r50 : Int32 → (Nat → Int32) → Option (Int32 × (Nat → Int32))) (x1_3 : Int32) (t_rows_4 : Nat → Int32) : Option (Int32 × (Nat → Int32)) :=
  (if 4 ≤ x1_3 then k50 x1_3 t_rows_4
 else nh_chk (nh_in x1_3 56) (nh_chk (nh_in ((8 * t_acts_1) + x1_3) 128) (nh_let (α := Nat → Int32) (upd t_rows_4 (Int32.toNatClampNeg ((8 * t_acts_1) + x1_3)) (t_holds (Int32.toNatClampNeg x1_3))) (fun t_rows_10 => nh_chk (nh_in x1_3 56) (nh_chk (nh_in (((8 * t_acts_1) + 4) + x1_3) 128) (nh_let (α := Nat → Int32) (upd t_rows_10 (Int32.toNatClampNeg (((8 * t_acts_1) + 4) + x1_3)) (t_had (Int32.toNatClampNeg x1_3))) (fun t_rows_13 => nh_let (α := Int32) (x1_3 + 1) (fun x1_14 => r50 x1_14 t_rows_13))))))))
def fX11_note_L50 (t_had : Nat → Int32) (t_holds : Nat → Int32) (t_acts_1 : Int32) (k50 : Int32 → (Nat → Int32) → Option (Int32 × (Nat → Int32))) : Nat → Int32 → (Nat → Int32) → Option (Int32 × (Nat → Int32))
  | 0 => fun _ _ => none
  | n + 1 => fX11_note_B50 t_had t_holds t_acts_1 k50 (fX11_note_L50 t_had t_holds t_acts_1 k50 n)
def fX11_note_J48 (t_had : Nat → Int32) (t_holds : Nat → Int32) (F : Nat) (t_acts_1 : Int32) (t_rows_2 : Nat → Int32) : Option (Int32 × (Nat → Int32)) :=
  fX11_note_L50 t_had t_holds t_acts_1 (fun x1_5 t_rows_6 => nh_let (α := Int32) ((t_acts_1 + 1)) (fun y_15 => some (y_15, t_rows_6))) F 0 t_rows_2
def fX11_note_B11  (k11 : Int32 → (Nat → Int32) → Option (Int32 × (Nat → Int32))) (r11 : Int32 → (Nat → Int32) → Option (Int32 × (Nat → Int32))) (x1_17 : Int32) (t_rows_18 : Nat → Int32) : Option (Int32 × (Nat → Int32)) :=
  (if 120 ≤ x1_17 then k11 x1_17 t_rows_18
 else nh_chk (nh_in (x1_17 + 8) 128) (nh_chk (nh_in x1_17 128) (nh_let (α := Nat → Int32) (upd t_rows_18 (Int32.toNatClampNeg x1_17) (t_rows_18 (Int32.toNatClampNeg (x1_17 + 8)))) (fun t_rows_24 => nh_let (α := Int32) (x1_17 + 1) (fun x1_25 => r11 x1_25 t_rows_24)))))
def fX11_note_L11  (k11 : Int32 → (Nat → Int32) → Option (Int32 × (Nat → Int32))) : Nat → Int32 → (Nat → Int32) → Option (Int32 × (Nat → Int32))
  | 0 => fun _ _ => none
  | n + 1 => fX11_note_B11  k11 (fX11_note_L11  k11 n)
def fX11_note (F : Nat) (t_acts : Int32) (t_had : Nat → Int32) (t_holds : Nat → Int32) (t_rows : Nat → Int32) : Option (Int32 × (Nat → Int32)) :=
  (if t_acts = 16 then fX11_note_L11  (fun x1_19 t_rows_20 => nh_let (α := Int32) ((t_acts - 1)) (fun y_26 => fX11_note_J48 t_had t_holds F y_26 t_rows_20)) F 0 t_rows
 else fX11_note_J48 t_had t_holds F t_acts t_rows)
set_option maxHeartbeats 4000000 in
set_option maxRecDepth 100000 in
theorem kX11_note (F : Nat) (l : Launch) (D : va_G) (cI cZ cO : ClassId) (sz : Nat) (q_t q_t_text q_t_holds q_t_had q_t_worth q_t_wants q_t_readHolds q_t_readHad q_t_readWorth q_t_rows q_t_kept q_t_isKept q_t_sort q_t_took q_t_tried q_t_planned q_t_from q_t_best q_t_outcome q_t_value q_t_act : Nat) (t_thrown : Int32) (t_textSize : Int32) (t_place : Int32) (t_people : Int32) (t_readPeople : Int32) (t_acts : Int32) (t_sights : Int32) (t_longest : Int32) (t_shortest : Int32) (t_runs : Int32) (t_came : Int32) (t_bestMore : Int32) (t_had : Nat → Int32) (t_holds : Nat → Int32) (t_rows : Nat → Int32)  (o_t_acts : Int32) (o_t_rows : Nat → Int32) (h : fX11_note F t_acts t_had t_holds t_rows = some (o_t_acts, o_t_rows)) : Met l yX11_note (nh_w (.code yX11_note cX11_note 2 none)) (nh_rm 0) (nh_Pc D cI cZ cO (wlX11_note cI cZ cO q_t q_t_text q_t_holds q_t_had q_t_worth q_t_wants q_t_readHolds q_t_readHad q_t_readWorth q_t_rows q_t_kept q_t_isKept q_t_sort q_t_took q_t_tried q_t_planned q_t_from q_t_best q_t_outcome q_t_value q_t_act t_thrown t_textSize t_place t_people t_readPeople t_acts t_sights t_longest t_shortest t_runs t_came t_bestMore t_had t_holds t_rows) [.ref q_t] sz) ((nh_Qv D (wlX11_note cI cZ cO q_t q_t_text q_t_holds q_t_had q_t_worth q_t_wants q_t_readHolds q_t_readHad q_t_readWorth q_t_rows q_t_kept q_t_isKept q_t_sort q_t_took q_t_tried q_t_planned q_t_from q_t_best q_t_outcome q_t_value q_t_act t_thrown t_textSize t_place t_people t_readPeople o_t_acts t_sights t_longest t_shortest t_runs t_came t_bestMore t_had t_holds o_t_rows)) (va_A (wlX11_note cI cZ cO q_t q_t_text q_t_holds q_t_had q_t_worth q_t_wants q_t_readHolds q_t_readHad q_t_readWorth q_t_rows q_t_kept q_t_isKept q_t_sort q_t_took q_t_tried q_t_planned q_t_from q_t_best q_t_outcome q_t_value q_t_act t_thrown t_textSize t_place t_people t_readPeople t_acts t_sights t_longest t_shortest t_runs t_came t_bestMore t_had t_holds t_rows) sz)) 0 0 (va_A (wlX11_note cI cZ cO q_t q_t_text q_t_holds q_t_had q_t_worth q_t_wants q_t_readHolds q_t_readHad q_t_readWorth q_t_rows q_t_kept q_t_isKept q_t_sort q_t_took q_t_tried q_t_planned q_t_from q_t_best q_t_outcome q_t_value q_t_act t_thrown t_textSize t_place t_people t_readPeople t_acts t_sights t_longest t_shortest t_runs t_came t_bestMore t_had t_holds t_rows) sz) := by
  unfold fX11_note at h
  refine nh_met (cc := cX11_note) (maxL := 2) (ret := none) (nh_Qv D (wlX11_note cI cZ cO q_t q_t_text q_t_holds q_t_had q_t_worth q_t_wants q_t_readHolds q_t_readHad q_t_readWorth q_t_rows q_t_kept q_t_isKept q_t_sort q_t_took q_t_tried q_t_planned q_t_from q_t_best q_t_outcome q_t_value q_t_act t_thrown t_textSize t_place t_people t_readPeople o_t_acts t_sights t_longest t_shortest t_runs t_came t_bestMore t_had t_holds o_t_rows)) (by decide) rfl (Nat.le_of_ble_eq_true rfl) ?_
  intro p e s m args below meth c A H locs ls hx hb hml hr hown hts hlocks hinit hP hK hN hD hA hS hl
  have hl : lv_has ls 2 [(0, .ref q_t)] := hl
  have hts : ∀ w ∈ nh_words, w.before args s = true := fun w h => hts w (List.mem_cons_of_mem _ h)
  have J48 : ∀ (t_acts_1 : Int32) (t_rows_2 : Nat → Int32) (H : Heap) (locs : List Loc) (ls : Array Slot), va_P D vwCl (wlX11_note cI cZ cO q_t q_t_text q_t_holds q_t_had q_t_worth q_t_wants q_t_readHolds q_t_readHad q_t_readWorth q_t_rows q_t_kept q_t_isKept q_t_sort q_t_took q_t_tried q_t_planned q_t_from q_t_best q_t_outcome q_t_value q_t_act t_thrown t_textSize t_place t_people t_readPeople t_acts_1 t_sights t_longest t_shortest t_runs t_came t_bestMore t_had t_holds t_rows_2) H → va_D A (wlX11_note cI cZ cO q_t q_t_text q_t_holds q_t_had q_t_worth q_t_wants q_t_readHolds q_t_readHad q_t_readWorth q_t_rows q_t_kept q_t_isKept q_t_sort q_t_took q_t_tried q_t_planned q_t_from q_t_best q_t_outcome q_t_value q_t_act t_thrown t_textSize t_place t_people t_readPeople t_acts_1 t_sights t_longest t_shortest t_runs t_came t_bestMore t_had t_holds t_rows_2) → va_S A s.heap H locs → lv_has ls 2 [(0, .ref q_t)] → fX11_note_J48 t_had t_holds F t_acts_1 t_rows_2 = some (o_t_acts, o_t_rows) → W p l e (nh_rm 0) s m args below meth c H locs 0 0 (MQ below ((nh_Qv D (wlX11_note cI cZ cO q_t q_t_text q_t_holds q_t_had q_t_worth q_t_wants q_t_readHolds q_t_readHad q_t_readWorth q_t_rows q_t_kept q_t_isKept q_t_sort q_t_took q_t_tried q_t_planned q_t_from q_t_best q_t_outcome q_t_value q_t_act t_thrown t_textSize t_place t_people t_readPeople o_t_acts t_sights t_longest t_shortest t_runs t_came t_bestMore t_had t_holds o_t_rows)) A) args s 0 0 A) (F0 m 48 ls []) := by
    intro t_acts_1 t_rows_2 H locs ls hP hD hS hl h
    unfold fX11_note_J48 at h
    refine lv_iconst (v := 0) hx hb dX11_note_48 (by decide) ?_
    refine lv_istore_n (lv' := [(1, .int 0), (0, .ref q_t)]) hx hb dX11_note_49 rfl hl (by decide) rfl (fun ls hl => ?_)
    have L50 : ∀ (k50 : Int32 → (Nat → Int32) → Option (Int32 × (Nat → Int32))), (∀ (x1_5 : Int32) (t_rows_6 : Nat → Int32) (H : Heap) (locs : List Loc) (ls : Array Slot), va_P D vwCl (wlX11_note cI cZ cO q_t q_t_text q_t_holds q_t_had q_t_worth q_t_wants q_t_readHolds q_t_readHad q_t_readWorth q_t_rows q_t_kept q_t_isKept q_t_sort q_t_took q_t_tried q_t_planned q_t_from q_t_best q_t_outcome q_t_value q_t_act t_thrown t_textSize t_place t_people t_readPeople t_acts_1 t_sights t_longest t_shortest t_runs t_came t_bestMore t_had t_holds t_rows_6) H → va_D A (wlX11_note cI cZ cO q_t q_t_text q_t_holds q_t_had q_t_worth q_t_wants q_t_readHolds q_t_readHad q_t_readWorth q_t_rows q_t_kept q_t_isKept q_t_sort q_t_took q_t_tried q_t_planned q_t_from q_t_best q_t_outcome q_t_value q_t_act t_thrown t_textSize t_place t_people t_readPeople t_acts_1 t_sights t_longest t_shortest t_runs t_came t_bestMore t_had t_holds t_rows_6) → va_S A s.heap H locs → lv_has ls 2 [(0, .ref q_t), (1, .int x1_5)] → k50 x1_5 t_rows_6 = some (o_t_acts, o_t_rows) → W p l e (nh_rm 0) s m args below meth c H locs 0 0 (MQ below ((nh_Qv D (wlX11_note cI cZ cO q_t q_t_text q_t_holds q_t_had q_t_worth q_t_wants q_t_readHolds q_t_readHad q_t_readWorth q_t_rows q_t_kept q_t_isKept q_t_sort q_t_took q_t_tried q_t_planned q_t_from q_t_best q_t_outcome q_t_value q_t_act t_thrown t_textSize t_place t_people t_readPeople o_t_acts t_sights t_longest t_shortest t_runs t_came t_bestMore t_had t_holds o_t_rows)) A) args s 0 0 A) (F0 m 103 ls [])) → ∀ (n : Nat) (x1_3 : Int32) (t_rows_4 : Nat → Int32) (H : Heap) (locs : List Loc) (ls : Array Slot), va_P D vwCl (wlX11_note cI cZ cO q_t q_t_text q_t_holds q_t_had q_t_worth q_t_wants q_t_readHolds q_t_readHad q_t_readWorth q_t_rows q_t_kept q_t_isKept q_t_sort q_t_took q_t_tried q_t_planned q_t_from q_t_best q_t_outcome q_t_value q_t_act t_thrown t_textSize t_place t_people t_readPeople t_acts_1 t_sights t_longest t_shortest t_runs t_came t_bestMore t_had t_holds t_rows_4) H → va_D A (wlX11_note cI cZ cO q_t q_t_text q_t_holds q_t_had q_t_worth q_t_wants q_t_readHolds q_t_readHad q_t_readWorth q_t_rows q_t_kept q_t_isKept q_t_sort q_t_took q_t_tried q_t_planned q_t_from q_t_best q_t_outcome q_t_value q_t_act t_thrown t_textSize t_place t_people t_readPeople t_acts_1 t_sights t_longest t_shortest t_runs t_came t_bestMore t_had t_holds t_rows_4) → va_S A s.heap H locs → lv_has ls 2 [(0, .ref q_t), (1, .int x1_3)] → fX11_note_L50 t_had t_holds t_acts_1 k50 n x1_3 t_rows_4 = some (o_t_acts, o_t_rows) → W p l e (nh_rm 0) s m args below meth c H locs 0 0 (MQ below ((nh_Qv D (wlX11_note cI cZ cO q_t q_t_text q_t_holds q_t_had q_t_worth q_t_wants q_t_readHolds q_t_readHad q_t_readWorth q_t_rows q_t_kept q_t_isKept q_t_sort q_t_took q_t_tried q_t_planned q_t_from q_t_best q_t_outcome q_t_value q_t_act t_thrown t_textSize t_place t_people t_readPeople o_t_acts t_sights t_longest t_shortest t_runs t_came t_bestMore t_had t_holds o_t_rows)) A) args s 0 0 A) (F0 m 50 ls []) := by
      intro k50 hk50 n
      induction n with
      | zero => intro x1_3 t_rows_4 H locs ls hP hD hS hl h; exact (nh_none h).elim
      | succ n50 ih50 =>
        intro x1_3 t_rows_4 H locs ls hP hD hS hl h
        replace h : fX11_note_B50 t_had t_holds t_acts_1 k50 (fX11_note_L50 t_had t_holds t_acts_1 k50 n50) x1_3 t_rows_4 = some (o_t_acts, o_t_rows) := h
        unfold fX11_note_B50 at h
        refine lv_iload_n hx hb dX11_note_50 rfl (lv_at hl 1 rfl) ?_
        refine lv_iconst (v := 4) hx hb dX11_note_51 (by decide) ?_
        refine lv_icmp_ge (tgt := 103) hx hb dX11_note_52 (by decide) (fun c7 => ?_) (fun c7 => ?_)
        · replace h := nh_t h c7
          exact hk50 x1_3 t_rows_4 H locs ls hP hD hS (lv_sub hl [0, 1] rfl) h
        · replace h := nh_f h c7
          refine lv_aload_n hx hb dX11_note_55 rfl (lv_at hl 0 rfl) ?_
          refine va_get (D := D) (ci := 10) (v := .ref q_t_rows) (C := RX11) (T := TX11) (N := 32) hx hb hts nhu_X11 hown hK hP 0 rfl rfl 13 (by decide) (hts _ nhw_245) (fun _ h9 => h9) rfl dX11_note_56 ?_
          refine lv_bipush (v := 8) hx hb dX11_note_59 (by decide) ?_
          refine lv_aload_n hx hb dX11_note_61 rfl (lv_at hl 0 rfl) ?_
          refine va_get (D := D) (ci := 10) (v := .int t_acts_1) (C := RX11) (T := TX11) (N := 32) hx hb hts nhu_X11 hown hK hP 0 rfl rfl 14 (by decide) (hts _ nhw_231) (fun _ h9 => h9) rfl dX11_note_62 ?_
          refine lv_imul hx hb dX11_note_65 ?_
          refine lv_iload_n hx hb dX11_note_66 rfl (lv_at hl 1 rfl) ?_
          refine lv_iadd hx hb dX11_note_67 ?_
          refine lv_aload_n hx hb dX11_note_68 rfl (lv_at hl 0 rfl) ?_
          refine va_get (D := D) (ci := 10) (v := .ref q_t_holds) (C := RX11) (T := TX11) (N := 32) hx hb hts nhu_X11 hown hK hP 0 rfl rfl 5 (by decide) (hts _ nhw_232) (fun _ h9 => h9) rfl dX11_note_69 ?_
          refine lv_iload_n hx hb dX11_note_72 rfl (lv_at hl 1 rfl) ?_
          obtain ⟨z8, h⟩ := nh_chk_some h
          refine va_iald hx hb hK hP 2 0 rfl rfl (nh_in_in z8) dX11_note_73 ?_
          obtain ⟨z9, h⟩ := nh_chk_some h
          refine va_iast hx hb hK hP hD hS 3 0 rfl rfl (nh_in_in z9) dX11_note_74 (fun H locs hP hD hS => ?_)
          obtain ⟨t_rows_10, et_rows_10⟩ : ∃ y : Nat → Int32, y = upd t_rows_4 (Int32.toNatClampNeg ((8 * t_acts_1) + x1_3)) (t_holds (Int32.toNatClampNeg x1_3)) := ⟨_, rfl⟩
          replace h := nh_to h et_rows_10
          have hP : va_P D vwCl (wlX11_note cI cZ cO q_t q_t_text q_t_holds q_t_had q_t_worth q_t_wants q_t_readHolds q_t_readHad q_t_readWorth q_t_rows q_t_kept q_t_isKept q_t_sort q_t_took q_t_tried q_t_planned q_t_from q_t_best q_t_outcome q_t_value q_t_act t_thrown t_textSize t_place t_people t_readPeople t_acts_1 t_sights t_longest t_shortest t_runs t_came t_bestMore t_had t_holds t_rows_10) H := by rw [et_rows_10]; exact hP
          have hD : va_D A (wlX11_note cI cZ cO q_t q_t_text q_t_holds q_t_had q_t_worth q_t_wants q_t_readHolds q_t_readHad q_t_readWorth q_t_rows q_t_kept q_t_isKept q_t_sort q_t_took q_t_tried q_t_planned q_t_from q_t_best q_t_outcome q_t_value q_t_act t_thrown t_textSize t_place t_people t_readPeople t_acts_1 t_sights t_longest t_shortest t_runs t_came t_bestMore t_had t_holds t_rows_10) := by rw [et_rows_10]; exact hD
          refine lv_aload_n hx hb dX11_note_75 rfl (lv_at hl 0 rfl) ?_
          refine va_get (D := D) (ci := 10) (v := .ref q_t_rows) (C := RX11) (T := TX11) (N := 32) hx hb hts nhu_X11 hown hK hP 0 rfl rfl 13 (by decide) (hts _ nhw_245) (fun _ h9 => h9) rfl dX11_note_76 ?_
          refine lv_bipush (v := 8) hx hb dX11_note_79 (by decide) ?_
          refine lv_aload_n hx hb dX11_note_81 rfl (lv_at hl 0 rfl) ?_
          refine va_get (D := D) (ci := 10) (v := .int t_acts_1) (C := RX11) (T := TX11) (N := 32) hx hb hts nhu_X11 hown hK hP 0 rfl rfl 14 (by decide) (hts _ nhw_231) (fun _ h9 => h9) rfl dX11_note_82 ?_
          refine lv_imul hx hb dX11_note_85 ?_
          refine lv_iconst (v := 4) hx hb dX11_note_86 (by decide) ?_
          refine lv_iadd hx hb dX11_note_87 ?_
          refine lv_iload_n hx hb dX11_note_88 rfl (lv_at hl 1 rfl) ?_
          refine lv_iadd hx hb dX11_note_89 ?_
          refine lv_aload_n hx hb dX11_note_90 rfl (lv_at hl 0 rfl) ?_
          refine va_get (D := D) (ci := 10) (v := .ref q_t_had) (C := RX11) (T := TX11) (N := 32) hx hb hts nhu_X11 hown hK hP 0 rfl rfl 6 (by decide) (hts _ nhw_234) (fun _ h9 => h9) rfl dX11_note_91 ?_
          refine lv_iload_n hx hb dX11_note_94 rfl (lv_at hl 1 rfl) ?_
          obtain ⟨z11, h⟩ := nh_chk_some h
          refine va_iald hx hb hK hP 1 0 rfl rfl (nh_in_in z11) dX11_note_95 ?_
          obtain ⟨z12, h⟩ := nh_chk_some h
          refine va_iast hx hb hK hP hD hS 3 0 rfl rfl (nh_in_in z12) dX11_note_96 (fun H locs hP hD hS => ?_)
          obtain ⟨t_rows_13, et_rows_13⟩ : ∃ y : Nat → Int32, y = upd t_rows_10 (Int32.toNatClampNeg (((8 * t_acts_1) + 4) + x1_3)) (t_had (Int32.toNatClampNeg x1_3)) := ⟨_, rfl⟩
          replace h := nh_to h et_rows_13
          have hP : va_P D vwCl (wlX11_note cI cZ cO q_t q_t_text q_t_holds q_t_had q_t_worth q_t_wants q_t_readHolds q_t_readHad q_t_readWorth q_t_rows q_t_kept q_t_isKept q_t_sort q_t_took q_t_tried q_t_planned q_t_from q_t_best q_t_outcome q_t_value q_t_act t_thrown t_textSize t_place t_people t_readPeople t_acts_1 t_sights t_longest t_shortest t_runs t_came t_bestMore t_had t_holds t_rows_13) H := by rw [et_rows_13]; exact hP
          have hD : va_D A (wlX11_note cI cZ cO q_t q_t_text q_t_holds q_t_had q_t_worth q_t_wants q_t_readHolds q_t_readHad q_t_readWorth q_t_rows q_t_kept q_t_isKept q_t_sort q_t_took q_t_tried q_t_planned q_t_from q_t_best q_t_outcome q_t_value q_t_act t_thrown t_textSize t_place t_people t_readPeople t_acts_1 t_sights t_longest t_shortest t_runs t_came t_bestMore t_had t_holds t_rows_13) := by rw [et_rows_13]; exact hD
          obtain ⟨x1_14, ex1_14⟩ : ∃ y : Int32, y = x1_3 + 1 := ⟨_, rfl⟩
          replace h := nh_to h ex1_14
          refine lv_iinc (v := x1_14) (lv' := [(1, .int x1_14), (0, .ref q_t)]) hx hb dX11_note_97 hl (k := 1) rfl (by rw [ex1_14]; rfl) (by decide) rfl (fun ls hl => ?_)
          refine lv_goto (tgt := 50) hx hb dX11_note_100 (by decide) ?_
          exact ih50 x1_14 t_rows_13 H locs ls hP hD hS (lv_sub hl [1, 0] rfl) h
    refine L50 _ (fun x1_5 t_rows_6 H locs ls hP hD hS hl h => ?_) _ 0 t_rows_2 H locs ls hP hD hS (lv_sub hl [1, 0] rfl) h
    refine lv_aload_n hx hb dX11_note_103 rfl (lv_at hl 0 rfl) ?_
    refine lv_dup hx hb dX11_note_104 rfl ?_
    refine va_get (D := D) (ci := 10) (v := .int t_acts_1) (C := RX11) (T := TX11) (N := 32) hx hb hts nhu_X11 hown hK hP 0 rfl rfl 14 (by decide) (hts _ nhw_231) (fun _ h9 => h9) rfl dX11_note_105 ?_
    refine lv_iconst (v := 1) hx hb dX11_note_108 (by decide) ?_
    refine lv_iadd hx hb dX11_note_109 ?_
    refine lv_topi (fun y_15 ey_15 => ?_)
    replace h := nh_to h ey_15
    refine va_put (D := D) (ci := 10) (v := .int y_15) (ty := .int) (C := RX11) (T := TX11) (N := 32) hx hb hts nhu_X11 tyX11 tyX11_ok nmX11 hown hK hP hD hS 0 rfl rfl 14 (by decide) (hts _ nhw_231) (fun _ h9 => h9) rfl (by decide +kernel) rfl rfl (Nat.le_of_ble_eq_true rfl) dX11_note_110 (fun H locs hP hD hS => ?_)
    have hP : va_P D vwCl (wlX11_note cI cZ cO q_t q_t_text q_t_holds q_t_had q_t_worth q_t_wants q_t_readHolds q_t_readHad q_t_readWorth q_t_rows q_t_kept q_t_isKept q_t_sort q_t_took q_t_tried q_t_planned q_t_from q_t_best q_t_outcome q_t_value q_t_act t_thrown t_textSize t_place t_people t_readPeople y_15 t_sights t_longest t_shortest t_runs t_came t_bestMore t_had t_holds t_rows_6) H := hP
    have hD : va_D A (wlX11_note cI cZ cO q_t q_t_text q_t_holds q_t_had q_t_worth q_t_wants q_t_readHolds q_t_readHad q_t_readWorth q_t_rows q_t_kept q_t_isKept q_t_sort q_t_took q_t_tried q_t_planned q_t_from q_t_best q_t_outcome q_t_value q_t_act t_thrown t_textSize t_place t_people t_readPeople y_15 t_sights t_longest t_shortest t_runs t_came t_bestMore t_had t_holds t_rows_6) := hD
    obtain ⟨g0, g1⟩ := nh_i2 h
    exact nh_rv hx hb hr hlocks (by rw [← g0, ← g1]; exact hP) hS dX11_note_113
  refine lv_aload_n hx hb dX11_note_0 rfl (lv_at hl 0 rfl) ?_
  refine va_get (D := D) (ci := 10) (v := .int t_acts) (C := RX11) (T := TX11) (N := 32) hx hb hts nhu_X11 hown hK hP 0 rfl rfl 14 (by decide) (hts _ nhw_231) (fun _ h9 => h9) rfl dX11_note_1 ?_
  refine lv_bipush (v := 16) hx hb dX11_note_4 (by decide) ?_
  refine lv_icmp_ne (tgt := 48) hx hb dX11_note_6 (by decide) (fun c16 => ?_) (fun c16 => ?_)
  · replace h := nh_f h c16
    exact J48 t_acts t_rows H locs ls hP hD hS (lv_sub hl [0] rfl) h
  · replace h := nh_t h c16
    refine lv_iconst (v := 0) hx hb dX11_note_9 (by decide) ?_
    refine lv_istore_n (lv' := [(1, .int 0), (0, .ref q_t)]) hx hb dX11_note_10 rfl hl (by decide) rfl (fun ls hl => ?_)
    have L11 : ∀ (k11 : Int32 → (Nat → Int32) → Option (Int32 × (Nat → Int32))), (∀ (x1_19 : Int32) (t_rows_20 : Nat → Int32) (H : Heap) (locs : List Loc) (ls : Array Slot), va_P D vwCl (wlX11_note cI cZ cO q_t q_t_text q_t_holds q_t_had q_t_worth q_t_wants q_t_readHolds q_t_readHad q_t_readWorth q_t_rows q_t_kept q_t_isKept q_t_sort q_t_took q_t_tried q_t_planned q_t_from q_t_best q_t_outcome q_t_value q_t_act t_thrown t_textSize t_place t_people t_readPeople t_acts t_sights t_longest t_shortest t_runs t_came t_bestMore t_had t_holds t_rows_20) H → va_D A (wlX11_note cI cZ cO q_t q_t_text q_t_holds q_t_had q_t_worth q_t_wants q_t_readHolds q_t_readHad q_t_readWorth q_t_rows q_t_kept q_t_isKept q_t_sort q_t_took q_t_tried q_t_planned q_t_from q_t_best q_t_outcome q_t_value q_t_act t_thrown t_textSize t_place t_people t_readPeople t_acts t_sights t_longest t_shortest t_runs t_came t_bestMore t_had t_holds t_rows_20) → va_S A s.heap H locs → lv_has ls 2 [(0, .ref q_t), (1, .int x1_19)] → k11 x1_19 t_rows_20 = some (o_t_acts, o_t_rows) → W p l e (nh_rm 0) s m args below meth c H locs 0 0 (MQ below ((nh_Qv D (wlX11_note cI cZ cO q_t q_t_text q_t_holds q_t_had q_t_worth q_t_wants q_t_readHolds q_t_readHad q_t_readWorth q_t_rows q_t_kept q_t_isKept q_t_sort q_t_took q_t_tried q_t_planned q_t_from q_t_best q_t_outcome q_t_value q_t_act t_thrown t_textSize t_place t_people t_readPeople o_t_acts t_sights t_longest t_shortest t_runs t_came t_bestMore t_had t_holds o_t_rows)) A) args s 0 0 A) (F0 m 38 ls [])) → ∀ (n : Nat) (x1_17 : Int32) (t_rows_18 : Nat → Int32) (H : Heap) (locs : List Loc) (ls : Array Slot), va_P D vwCl (wlX11_note cI cZ cO q_t q_t_text q_t_holds q_t_had q_t_worth q_t_wants q_t_readHolds q_t_readHad q_t_readWorth q_t_rows q_t_kept q_t_isKept q_t_sort q_t_took q_t_tried q_t_planned q_t_from q_t_best q_t_outcome q_t_value q_t_act t_thrown t_textSize t_place t_people t_readPeople t_acts t_sights t_longest t_shortest t_runs t_came t_bestMore t_had t_holds t_rows_18) H → va_D A (wlX11_note cI cZ cO q_t q_t_text q_t_holds q_t_had q_t_worth q_t_wants q_t_readHolds q_t_readHad q_t_readWorth q_t_rows q_t_kept q_t_isKept q_t_sort q_t_took q_t_tried q_t_planned q_t_from q_t_best q_t_outcome q_t_value q_t_act t_thrown t_textSize t_place t_people t_readPeople t_acts t_sights t_longest t_shortest t_runs t_came t_bestMore t_had t_holds t_rows_18) → va_S A s.heap H locs → lv_has ls 2 [(0, .ref q_t), (1, .int x1_17)] → fX11_note_L11  k11 n x1_17 t_rows_18 = some (o_t_acts, o_t_rows) → W p l e (nh_rm 0) s m args below meth c H locs 0 0 (MQ below ((nh_Qv D (wlX11_note cI cZ cO q_t q_t_text q_t_holds q_t_had q_t_worth q_t_wants q_t_readHolds q_t_readHad q_t_readWorth q_t_rows q_t_kept q_t_isKept q_t_sort q_t_took q_t_tried q_t_planned q_t_from q_t_best q_t_outcome q_t_value q_t_act t_thrown t_textSize t_place t_people t_readPeople o_t_acts t_sights t_longest t_shortest t_runs t_came t_bestMore t_had t_holds o_t_rows)) A) args s 0 0 A) (F0 m 11 ls []) := by
      intro k11 hk11 n
      induction n with
      | zero => intro x1_17 t_rows_18 H locs ls hP hD hS hl h; exact (nh_none h).elim
      | succ n11 ih11 =>
        intro x1_17 t_rows_18 H locs ls hP hD hS hl h
        replace h : fX11_note_B11  k11 (fX11_note_L11  k11 n11) x1_17 t_rows_18 = some (o_t_acts, o_t_rows) := h
        unfold fX11_note_B11 at h
        refine lv_iload_n hx hb dX11_note_11 rfl (lv_at hl 1 rfl) ?_
        refine lv_bipush (v := 120) hx hb dX11_note_12 (by decide) ?_
        refine lv_icmp_ge (tgt := 38) hx hb dX11_note_14 (by decide) (fun c21 => ?_) (fun c21 => ?_)
        · replace h := nh_t h c21
          exact hk11 x1_17 t_rows_18 H locs ls hP hD hS (lv_sub hl [0, 1] rfl) h
        · replace h := nh_f h c21
          refine lv_aload_n hx hb dX11_note_17 rfl (lv_at hl 0 rfl) ?_
          refine va_get (D := D) (ci := 10) (v := .ref q_t_rows) (C := RX11) (T := TX11) (N := 32) hx hb hts nhu_X11 hown hK hP 0 rfl rfl 13 (by decide) (hts _ nhw_245) (fun _ h9 => h9) rfl dX11_note_18 ?_
          refine lv_iload_n hx hb dX11_note_21 rfl (lv_at hl 1 rfl) ?_
          refine lv_aload_n hx hb dX11_note_22 rfl (lv_at hl 0 rfl) ?_
          refine va_get (D := D) (ci := 10) (v := .ref q_t_rows) (C := RX11) (T := TX11) (N := 32) hx hb hts nhu_X11 hown hK hP 0 rfl rfl 13 (by decide) (hts _ nhw_245) (fun _ h9 => h9) rfl dX11_note_23 ?_
          refine lv_iload_n hx hb dX11_note_26 rfl (lv_at hl 1 rfl) ?_
          refine lv_bipush (v := 8) hx hb dX11_note_27 (by decide) ?_
          refine lv_iadd hx hb dX11_note_29 ?_
          obtain ⟨z22, h⟩ := nh_chk_some h
          refine va_iald hx hb hK hP 3 0 rfl rfl (nh_in_in z22) dX11_note_30 ?_
          obtain ⟨z23, h⟩ := nh_chk_some h
          refine va_iast hx hb hK hP hD hS 3 0 rfl rfl (nh_in_in z23) dX11_note_31 (fun H locs hP hD hS => ?_)
          obtain ⟨t_rows_24, et_rows_24⟩ : ∃ y : Nat → Int32, y = upd t_rows_18 (Int32.toNatClampNeg x1_17) (t_rows_18 (Int32.toNatClampNeg (x1_17 + 8))) := ⟨_, rfl⟩
          replace h := nh_to h et_rows_24
          have hP : va_P D vwCl (wlX11_note cI cZ cO q_t q_t_text q_t_holds q_t_had q_t_worth q_t_wants q_t_readHolds q_t_readHad q_t_readWorth q_t_rows q_t_kept q_t_isKept q_t_sort q_t_took q_t_tried q_t_planned q_t_from q_t_best q_t_outcome q_t_value q_t_act t_thrown t_textSize t_place t_people t_readPeople t_acts t_sights t_longest t_shortest t_runs t_came t_bestMore t_had t_holds t_rows_24) H := by rw [et_rows_24]; exact hP
          have hD : va_D A (wlX11_note cI cZ cO q_t q_t_text q_t_holds q_t_had q_t_worth q_t_wants q_t_readHolds q_t_readHad q_t_readWorth q_t_rows q_t_kept q_t_isKept q_t_sort q_t_took q_t_tried q_t_planned q_t_from q_t_best q_t_outcome q_t_value q_t_act t_thrown t_textSize t_place t_people t_readPeople t_acts t_sights t_longest t_shortest t_runs t_came t_bestMore t_had t_holds t_rows_24) := by rw [et_rows_24]; exact hD
          obtain ⟨x1_25, ex1_25⟩ : ∃ y : Int32, y = x1_17 + 1 := ⟨_, rfl⟩
          replace h := nh_to h ex1_25
          refine lv_iinc (v := x1_25) (lv' := [(1, .int x1_25), (0, .ref q_t)]) hx hb dX11_note_32 hl (k := 1) rfl (by rw [ex1_25]; rfl) (by decide) rfl (fun ls hl => ?_)
          refine lv_goto (tgt := 11) hx hb dX11_note_35 (by decide) ?_
          exact ih11 x1_25 t_rows_24 H locs ls hP hD hS (lv_sub hl [1, 0] rfl) h
    refine L11 _ (fun x1_19 t_rows_20 H locs ls hP hD hS hl h => ?_) _ 0 t_rows H locs ls hP hD hS (lv_sub hl [1, 0] rfl) h
    refine lv_aload_n hx hb dX11_note_38 rfl (lv_at hl 0 rfl) ?_
    refine lv_dup hx hb dX11_note_39 rfl ?_
    refine va_get (D := D) (ci := 10) (v := .int t_acts) (C := RX11) (T := TX11) (N := 32) hx hb hts nhu_X11 hown hK hP 0 rfl rfl 14 (by decide) (hts _ nhw_231) (fun _ h9 => h9) rfl dX11_note_40 ?_
    refine lv_iconst (v := 1) hx hb dX11_note_43 (by decide) ?_
    refine lv_isub hx hb dX11_note_44 ?_
    refine lv_topi (fun y_26 ey_26 => ?_)
    replace h := nh_to h ey_26
    refine va_put (D := D) (ci := 10) (v := .int y_26) (ty := .int) (C := RX11) (T := TX11) (N := 32) hx hb hts nhu_X11 tyX11 tyX11_ok nmX11 hown hK hP hD hS 0 rfl rfl 14 (by decide) (hts _ nhw_231) (fun _ h9 => h9) rfl (by decide +kernel) rfl rfl (Nat.le_of_ble_eq_true rfl) dX11_note_45 (fun H locs hP hD hS => ?_)
    have hP : va_P D vwCl (wlX11_note cI cZ cO q_t q_t_text q_t_holds q_t_had q_t_worth q_t_wants q_t_readHolds q_t_readHad q_t_readWorth q_t_rows q_t_kept q_t_isKept q_t_sort q_t_took q_t_tried q_t_planned q_t_from q_t_best q_t_outcome q_t_value q_t_act t_thrown t_textSize t_place t_people t_readPeople y_26 t_sights t_longest t_shortest t_runs t_came t_bestMore t_had t_holds t_rows_20) H := hP
    have hD : va_D A (wlX11_note cI cZ cO q_t q_t_text q_t_holds q_t_had q_t_worth q_t_wants q_t_readHolds q_t_readHad q_t_readWorth q_t_rows q_t_kept q_t_isKept q_t_sort q_t_took q_t_tried q_t_planned q_t_from q_t_best q_t_outcome q_t_value q_t_act t_thrown t_textSize t_place t_people t_readPeople y_26 t_sights t_longest t_shortest t_runs t_came t_bestMore t_had t_holds t_rows_20) := hD
    exact J48 y_26 t_rows_20 H locs ls hP hD hS (lv_sub hl [0] rfl) h
abbrev wlX11_exchange (cI cZ cO : ClassId) (q_t q_t_text q_t_holds q_t_had q_t_worth q_t_wants q_t_readHolds q_t_readHad q_t_readWorth q_t_rows q_t_kept q_t_isKept q_t_sort q_t_took q_t_tried q_t_planned q_t_from q_t_best q_t_outcome q_t_value q_t_act : Nat) (t_thrown : Int32) (t_textSize : Int32) (t_place : Int32) (t_people : Int32) (t_readPeople : Int32) (t_acts : Int32) (t_sights : Int32) (t_longest : Int32) (t_shortest : Int32) (t_runs : Int32) (t_came : Int32) (t_bestMore : Int32) (t_had : Nat → Int32) (t_holds : Nat → Int32) (t_rows : Nat → Int32) (t_worth : Nat → Int32) : va_W := [(q_t, .inr (10, [.int t_thrown, .ref q_t_text, .int t_textSize, .int t_place, .int t_people, .ref q_t_holds, .ref q_t_had, .ref q_t_worth, .ref q_t_wants, .int t_readPeople, .ref q_t_readHolds, .ref q_t_readHad, .ref q_t_readWorth, .ref q_t_rows, .int t_acts, .ref q_t_kept, .ref q_t_isKept, .int t_sights, .ref q_t_sort, .ref q_t_took, .ref q_t_tried, .int t_longest, .int t_shortest, .int t_runs, .int t_came, .ref q_t_planned, .ref q_t_from, .ref q_t_best, .int t_bestMore, .ref q_t_outcome, .ref q_t_value, .ref q_t_act])), (q_t_had, .inl (cI, 56, .inl t_had)), (q_t_holds, .inl (cI, 56, .inl t_holds)), (q_t_rows, .inl (cI, 128, .inl t_rows)), (q_t_worth, .inl (cI, 24, .inl t_worth))]
def fX11_exchange (F : Nat) (t_thrown : Int32) (t_people : Int32) (t_acts : Int32) (t_had : Nat → Int32) (t_holds : Nat → Int32) (t_rows : Nat → Int32) (t_worth : Nat → Int32) (i1 : Int32) (i2 : Int32) : Option (Int32 × Int32 × Int32 × (Nat → Int32) × (Nat → Int32) × (Nat → Int32)) :=
  (if (fX11_noOne t_people i1) = 0 then (if (fX11_noOne t_people i2) = 0 then (if i1 = i2 then some ((-2), 0, t_acts, t_had, t_holds, t_rows)
 else nh_b1 (fX11_mayAt t_had t_holds 0 i1 i2) (fun r_4 => (if r_4 = 0 then some ((-3), 0, t_acts, t_had, t_holds, t_rows)
 else nh_b2 (fX11_note F t_acts t_had t_holds t_rows) (fun t_acts_7 t_rows_8 => nh_chk (nh_in i1 56) (nh_b1 (fX11_worthOf t_worth i1 (t_holds (Int32.toNatClampNeg i1))) (fun r_11 => nh_chk (nh_in i2 56) (nh_b1 (fX11_worthOf t_worth i2 (t_holds (Int32.toNatClampNeg i2))) (fun r_14 => nh_let (α := Int32) ((r_11 + r_14)) (fun y_16 => nh_b2 (fX11_goAt t_had t_holds 0 i1 i2) (fun t_had_17 t_holds_18 => nh_chk (nh_in i1 56) (nh_b1 (fX11_worthOf t_worth i1 (t_holds_18 (Int32.toNatClampNeg i1))) (fun r_21 => nh_chk (nh_in i2 56) (nh_b1 (fX11_worthOf t_worth i2 (t_holds_18 (Int32.toNatClampNeg i2))) (fun r_24 => some ((((100 + r_21) + r_24) - y_16), 0, t_acts_7, t_had_17, t_holds_18, t_rows_8)))))))))))))))
 else some ((-1), 0, t_acts, t_had, t_holds, t_rows))
 else some ((-1), 0, t_acts, t_had, t_holds, t_rows))
set_option maxHeartbeats 4000000 in
set_option maxRecDepth 100000 in
theorem kX11_exchange (F : Nat) (l : Launch) (D : va_G) (cI cZ cO : ClassId) (sz : Nat) (q_t q_t_text q_t_holds q_t_had q_t_worth q_t_wants q_t_readHolds q_t_readHad q_t_readWorth q_t_rows q_t_kept q_t_isKept q_t_sort q_t_took q_t_tried q_t_planned q_t_from q_t_best q_t_outcome q_t_value q_t_act : Nat) (t_thrown : Int32) (t_textSize : Int32) (t_place : Int32) (t_people : Int32) (t_readPeople : Int32) (t_acts : Int32) (t_sights : Int32) (t_longest : Int32) (t_shortest : Int32) (t_runs : Int32) (t_came : Int32) (t_bestMore : Int32) (t_had : Nat → Int32) (t_holds : Nat → Int32) (t_rows : Nat → Int32) (t_worth : Nat → Int32) (i1 : Int32) (i2 : Int32) (o_r : Int32) (o_t_thrown : Int32) (o_t_acts : Int32) (o_t_had : Nat → Int32) (o_t_holds : Nat → Int32) (o_t_rows : Nat → Int32) (h : fX11_exchange F t_thrown t_people t_acts t_had t_holds t_rows t_worth i1 i2 = some (o_r, o_t_thrown, o_t_acts, o_t_had, o_t_holds, o_t_rows)) : Met l yX11_exchange (nh_w (.code yX11_exchange cX11_exchange 4 (some .int))) (nh_rm 2) (nh_Pc D cI cZ cO (wlX11_exchange cI cZ cO q_t q_t_text q_t_holds q_t_had q_t_worth q_t_wants q_t_readHolds q_t_readHad q_t_readWorth q_t_rows q_t_kept q_t_isKept q_t_sort q_t_took q_t_tried q_t_planned q_t_from q_t_best q_t_outcome q_t_value q_t_act t_thrown t_textSize t_place t_people t_readPeople t_acts t_sights t_longest t_shortest t_runs t_came t_bestMore t_had t_holds t_rows t_worth) [.ref q_t, .int i1, .int i2] sz) ((nh_Qi D (wlX11_exchange cI cZ cO q_t q_t_text q_t_holds q_t_had q_t_worth q_t_wants q_t_readHolds q_t_readHad q_t_readWorth q_t_rows q_t_kept q_t_isKept q_t_sort q_t_took q_t_tried q_t_planned q_t_from q_t_best q_t_outcome q_t_value q_t_act o_t_thrown t_textSize t_place t_people t_readPeople o_t_acts t_sights t_longest t_shortest t_runs t_came t_bestMore o_t_had o_t_holds o_t_rows t_worth) o_r) (va_A (wlX11_exchange cI cZ cO q_t q_t_text q_t_holds q_t_had q_t_worth q_t_wants q_t_readHolds q_t_readHad q_t_readWorth q_t_rows q_t_kept q_t_isKept q_t_sort q_t_took q_t_tried q_t_planned q_t_from q_t_best q_t_outcome q_t_value q_t_act t_thrown t_textSize t_place t_people t_readPeople t_acts t_sights t_longest t_shortest t_runs t_came t_bestMore t_had t_holds t_rows t_worth) sz)) 0 0 (va_A (wlX11_exchange cI cZ cO q_t q_t_text q_t_holds q_t_had q_t_worth q_t_wants q_t_readHolds q_t_readHad q_t_readWorth q_t_rows q_t_kept q_t_isKept q_t_sort q_t_took q_t_tried q_t_planned q_t_from q_t_best q_t_outcome q_t_value q_t_act t_thrown t_textSize t_place t_people t_readPeople t_acts t_sights t_longest t_shortest t_runs t_came t_bestMore t_had t_holds t_rows t_worth) sz) := by
  unfold fX11_exchange at h
  refine nh_met (cc := cX11_exchange) (maxL := 4) (ret := (some .int)) (nh_Qi D (wlX11_exchange cI cZ cO q_t q_t_text q_t_holds q_t_had q_t_worth q_t_wants q_t_readHolds q_t_readHad q_t_readWorth q_t_rows q_t_kept q_t_isKept q_t_sort q_t_took q_t_tried q_t_planned q_t_from q_t_best q_t_outcome q_t_value q_t_act o_t_thrown t_textSize t_place t_people t_readPeople o_t_acts t_sights t_longest t_shortest t_runs t_came t_bestMore o_t_had o_t_holds o_t_rows t_worth) o_r) (by decide) rfl (Nat.le_of_ble_eq_true rfl) ?_
  intro p e s m args below meth c A H locs ls hx hb hml hr hown hts hlocks hinit hP hK hN hD hA hS hl
  have hl : lv_has ls 4 [(0, .ref q_t), (1, .int i1), (2, .int i2)] := hl
  have hts : ∀ w ∈ nh_words, w.before args s = true := fun w h => hts w (List.mem_cons_of_mem _ h)
  refine lv_aload_n hx hb dX11_exchange_0 rfl (lv_at hl 0 rfl) ?_
  refine lv_iconst (v := 0) hx hb dX11_exchange_1 (by decide) ?_
  refine va_put (D := D) (ci := 10) (v := .int 0) (ty := .int) (C := RX11) (T := TX11) (N := 32) hx hb hts nhu_X11 tyX11 tyX11_ok nmX11 hown hK hP hD hS 0 rfl rfl 0 (by decide) (hts _ nhw_258) (fun _ h9 => h9) rfl (by decide +kernel) rfl rfl (Nat.le_of_ble_eq_true rfl) dX11_exchange_2 (fun H locs hP hD hS => ?_)
  have hP : va_P D vwCl (wlX11_exchange cI cZ cO q_t q_t_text q_t_holds q_t_had q_t_worth q_t_wants q_t_readHolds q_t_readHad q_t_readWorth q_t_rows q_t_kept q_t_isKept q_t_sort q_t_took q_t_tried q_t_planned q_t_from q_t_best q_t_outcome q_t_value q_t_act 0 t_textSize t_place t_people t_readPeople t_acts t_sights t_longest t_shortest t_runs t_came t_bestMore t_had t_holds t_rows t_worth) H := hP
  have hD : va_D A (wlX11_exchange cI cZ cO q_t q_t_text q_t_holds q_t_had q_t_worth q_t_wants q_t_readHolds q_t_readHad q_t_readWorth q_t_rows q_t_kept q_t_isKept q_t_sort q_t_took q_t_tried q_t_planned q_t_from q_t_best q_t_outcome q_t_value q_t_act 0 t_textSize t_place t_people t_readPeople t_acts t_sights t_longest t_shortest t_runs t_came t_bestMore t_had t_holds t_rows t_worth) := hD
  refine lv_aload_n hx hb dX11_exchange_5 rfl (lv_at hl 0 rfl) ?_
  refine lv_iload_n hx hb dX11_exchange_6 rfl (lv_at hl 1 rfl) ?_
  refine nh_goi (nh_V (As := [.int i1]) (rest := []) ⟨hx, hb, hml, hown, hts⟩ (kX11_noOne  l D cI cZ cO H.size q_t q_t_text q_t_holds q_t_had q_t_worth q_t_wants q_t_readHolds q_t_readHad q_t_readWorth q_t_rows q_t_kept q_t_isKept q_t_sort q_t_took q_t_tried q_t_planned q_t_from q_t_best q_t_outcome q_t_value q_t_act 0 t_textSize t_place t_people t_readPeople t_acts t_sights t_longest t_shortest t_runs t_came t_bestMore i1 (fX11_noOne t_people i1) rfl) (cwV 1 hts (nh_gV nhw_594 nhw_390 nhw_758 nhw_305 nhw_98) rfl rfl rfl (by decide +kernel) ⟨Nat.le_of_ble_eq_true rfl, Nat.le_of_ble_eq_true rfl⟩) hK hN hP hD (isC := [0]) rfl rfl 0 10 rfl rfl rfl rfl hl.1 rfl (Nat.le_of_ble_eq_true rfl) dX11_exchange_7 ⟨Nat.zero_le _, Nat.zero_le _⟩) hP hD hS hA (isC := [0]) rfl rfl rfl (w' := (wlX11_exchange cI cZ cO q_t q_t_text q_t_holds q_t_had q_t_worth q_t_wants q_t_readHolds q_t_readHad q_t_readWorth q_t_rows q_t_kept q_t_isKept q_t_sort q_t_took q_t_tried q_t_planned q_t_from q_t_best q_t_outcome q_t_value q_t_act 0 t_textSize t_place t_people t_readPeople t_acts t_sights t_longest t_shortest t_runs t_came t_bestMore t_had t_holds t_rows t_worth)) rfl (fun H locs hP hD hS => ?_)
  refine lv_if_ne (tgt := 21) hx hb dX11_exchange_10 (by decide) (fun c1 => ?_) (fun c1 => ?_)
  · replace h := nh_f h c1
    refine lv_iconst (v := (-1)) hx hb dX11_exchange_21 (by decide) ?_
    obtain ⟨g0, g1, g2, g3, g4, g5⟩ := nh_i6 h
    exact nh_ri hx hb hr hlocks g0 (by rw [← g1, ← g2, ← g3, ← g4, ← g5]; exact hP) hS dX11_exchange_22
  · replace h := nh_t h c1
    refine lv_aload_n hx hb dX11_exchange_13 rfl (lv_at hl 0 rfl) ?_
    refine lv_iload_n hx hb dX11_exchange_14 rfl (lv_at hl 2 rfl) ?_
    refine nh_goi (nh_V (As := [.int i2]) (rest := []) ⟨hx, hb, hml, hown, hts⟩ (kX11_noOne  l D cI cZ cO H.size q_t q_t_text q_t_holds q_t_had q_t_worth q_t_wants q_t_readHolds q_t_readHad q_t_readWorth q_t_rows q_t_kept q_t_isKept q_t_sort q_t_took q_t_tried q_t_planned q_t_from q_t_best q_t_outcome q_t_value q_t_act 0 t_textSize t_place t_people t_readPeople t_acts t_sights t_longest t_shortest t_runs t_came t_bestMore i2 (fX11_noOne t_people i2) rfl) (cwV 1 hts (nh_gV nhw_594 nhw_390 nhw_758 nhw_305 nhw_98) rfl rfl rfl (by decide +kernel) ⟨Nat.le_of_ble_eq_true rfl, Nat.le_of_ble_eq_true rfl⟩) hK hN hP hD (isC := [0]) rfl rfl 0 10 rfl rfl rfl rfl hl.1 rfl (Nat.le_of_ble_eq_true rfl) dX11_exchange_15 ⟨Nat.zero_le _, Nat.zero_le _⟩) hP hD hS hA (isC := [0]) rfl rfl rfl (w' := (wlX11_exchange cI cZ cO q_t q_t_text q_t_holds q_t_had q_t_worth q_t_wants q_t_readHolds q_t_readHad q_t_readWorth q_t_rows q_t_kept q_t_isKept q_t_sort q_t_took q_t_tried q_t_planned q_t_from q_t_best q_t_outcome q_t_value q_t_act 0 t_textSize t_place t_people t_readPeople t_acts t_sights t_longest t_shortest t_runs t_came t_bestMore t_had t_holds t_rows t_worth)) rfl (fun H locs hP hD hS => ?_)
    refine lv_if_eq (tgt := 23) hx hb dX11_exchange_18 (by decide) (fun c2 => ?_) (fun c2 => ?_)
    · replace h := nh_t h c2
      refine lv_iload_n hx hb dX11_exchange_23 rfl (lv_at hl 1 rfl) ?_
      refine lv_iload_n hx hb dX11_exchange_24 rfl (lv_at hl 2 rfl) ?_
      refine lv_icmp_ne (tgt := 31) hx hb dX11_exchange_25 (by decide) (fun c3 => ?_) (fun c3 => ?_)
      · replace h := nh_f h c3
        refine lv_aload_n hx hb dX11_exchange_31 rfl (lv_at hl 0 rfl) ?_
        refine lv_iconst (v := 0) hx hb dX11_exchange_32 (by decide) ?_
        refine lv_iload_n hx hb dX11_exchange_33 rfl (lv_at hl 1 rfl) ?_
        refine lv_iload_n hx hb dX11_exchange_34 rfl (lv_at hl 2 rfl) ?_
        obtain ⟨r_4, hc5, h⟩ := nh_b1_some h
        refine nh_goi (nh_V (As := [.int 0, .int i1, .int i2]) (rest := []) ⟨hx, hb, hml, hown, hts⟩ (kX11_mayAt  l D cI cZ cO H.size q_t q_t_text q_t_holds q_t_had q_t_worth q_t_wants q_t_readHolds q_t_readHad q_t_readWorth q_t_rows q_t_kept q_t_isKept q_t_sort q_t_took q_t_tried q_t_planned q_t_from q_t_best q_t_outcome q_t_value q_t_act 0 t_textSize t_place t_people t_readPeople t_acts t_sights t_longest t_shortest t_runs t_came t_bestMore t_had t_holds 0 i1 i2 r_4 hc5) (cwV 3 hts (nh_gV nhw_596 nhw_384 nhw_752 nhw_305 nhw_92) rfl rfl rfl (by decide +kernel) ⟨Nat.le_of_ble_eq_true rfl, Nat.le_of_ble_eq_true rfl⟩) hK hN hP hD (isC := [0, 1, 2]) rfl rfl 0 10 rfl rfl rfl rfl hl.1 rfl (Nat.le_of_ble_eq_true rfl) dX11_exchange_35 ⟨Nat.zero_le _, Nat.zero_le _⟩) hP hD hS hA (isC := [0, 1, 2]) rfl rfl rfl (w' := (wlX11_exchange cI cZ cO q_t q_t_text q_t_holds q_t_had q_t_worth q_t_wants q_t_readHolds q_t_readHad q_t_readWorth q_t_rows q_t_kept q_t_isKept q_t_sort q_t_took q_t_tried q_t_planned q_t_from q_t_best q_t_outcome q_t_value q_t_act 0 t_textSize t_place t_people t_readPeople t_acts t_sights t_longest t_shortest t_runs t_came t_bestMore t_had t_holds t_rows t_worth)) rfl (fun H locs hP hD hS => ?_)
        refine lv_if_ne (tgt := 44) hx hb dX11_exchange_38 (by decide) (fun c6 => ?_) (fun c6 => ?_)
        · replace h := nh_f h c6
          refine lv_aload_n hx hb dX11_exchange_44 rfl (lv_at hl 0 rfl) ?_
          obtain ⟨t_acts_7, t_rows_8, hc9, h⟩ := nh_b2_some h
          refine nh_gov (nh_V (As := []) (rest := []) ⟨hx, hb, hml, hown, hts⟩ (kX11_note F l D cI cZ cO H.size q_t q_t_text q_t_holds q_t_had q_t_worth q_t_wants q_t_readHolds q_t_readHad q_t_readWorth q_t_rows q_t_kept q_t_isKept q_t_sort q_t_took q_t_tried q_t_planned q_t_from q_t_best q_t_outcome q_t_value q_t_act 0 t_textSize t_place t_people t_readPeople t_acts t_sights t_longest t_shortest t_runs t_came t_bestMore t_had t_holds t_rows t_acts_7 t_rows_8 hc9) (cwV 0 hts (nh_gV nhw_597 nhw_391 nhw_759 nhw_305 nhw_100) rfl rfl rfl (by decide +kernel) ⟨Nat.le_of_ble_eq_true rfl, Nat.le_of_ble_eq_true rfl⟩) hK hN hP hD (isC := [0, 1, 2, 3]) rfl rfl 0 10 rfl rfl rfl rfl hl.1 rfl (Nat.le_of_ble_eq_true rfl) dX11_exchange_45 ⟨Nat.zero_le _, Nat.zero_le _⟩) hP hD hS hA (isC := [0, 1, 2, 3]) rfl rfl rfl (w' := (wlX11_exchange cI cZ cO q_t q_t_text q_t_holds q_t_had q_t_worth q_t_wants q_t_readHolds q_t_readHad q_t_readWorth q_t_rows q_t_kept q_t_isKept q_t_sort q_t_took q_t_tried q_t_planned q_t_from q_t_best q_t_outcome q_t_value q_t_act 0 t_textSize t_place t_people t_readPeople t_acts_7 t_sights t_longest t_shortest t_runs t_came t_bestMore t_had t_holds t_rows_8 t_worth)) rfl (fun H locs hP hD hS => ?_)
          refine lv_aload_n hx hb dX11_exchange_48 rfl (lv_at hl 0 rfl) ?_
          refine lv_iload_n hx hb dX11_exchange_49 rfl (lv_at hl 1 rfl) ?_
          refine lv_aload_n hx hb dX11_exchange_50 rfl (lv_at hl 0 rfl) ?_
          refine va_get (D := D) (ci := 10) (v := .ref q_t_holds) (C := RX11) (T := TX11) (N := 32) hx hb hts nhu_X11 hown hK hP 0 rfl rfl 5 (by decide) (hts _ nhw_232) (fun _ h9 => h9) rfl dX11_exchange_51 ?_
          refine lv_iload_n hx hb dX11_exchange_54 rfl (lv_at hl 1 rfl) ?_
          obtain ⟨z10, h⟩ := nh_chk_some h
          refine va_iald hx hb hK hP 2 0 rfl rfl (nh_in_in z10) dX11_exchange_55 ?_
          obtain ⟨r_11, hc12, h⟩ := nh_b1_some h
          refine nh_goi (nh_V (As := [.int i1, .int (t_holds (Int32.toNatClampNeg i1))]) (rest := []) ⟨hx, hb, hml, hown, hts⟩ (kX11_worthOf  l D cI cZ cO H.size q_t q_t_text q_t_holds q_t_had q_t_worth q_t_wants q_t_readHolds q_t_readHad q_t_readWorth q_t_rows q_t_kept q_t_isKept q_t_sort q_t_took q_t_tried q_t_planned q_t_from q_t_best q_t_outcome q_t_value q_t_act 0 t_textSize t_place t_people t_readPeople t_acts_7 t_sights t_longest t_shortest t_runs t_came t_bestMore t_worth i1 (t_holds (Int32.toNatClampNeg i1)) r_11 hc12) (cwV 2 hts (nh_gV nhw_592 nhw_411 nhw_779 nhw_305 nhw_120) rfl rfl rfl (by decide +kernel) ⟨Nat.le_of_ble_eq_true rfl, Nat.le_of_ble_eq_true rfl⟩) hK hN hP hD (isC := [0, 4]) rfl rfl 0 10 rfl rfl rfl rfl hl.1 rfl (Nat.le_of_ble_eq_true rfl) dX11_exchange_56 ⟨Nat.zero_le _, Nat.zero_le _⟩) hP hD hS hA (isC := [0, 4]) rfl rfl rfl (w' := (wlX11_exchange cI cZ cO q_t q_t_text q_t_holds q_t_had q_t_worth q_t_wants q_t_readHolds q_t_readHad q_t_readWorth q_t_rows q_t_kept q_t_isKept q_t_sort q_t_took q_t_tried q_t_planned q_t_from q_t_best q_t_outcome q_t_value q_t_act 0 t_textSize t_place t_people t_readPeople t_acts_7 t_sights t_longest t_shortest t_runs t_came t_bestMore t_had t_holds t_rows_8 t_worth)) rfl (fun H locs hP hD hS => ?_)
          refine lv_aload_n hx hb dX11_exchange_59 rfl (lv_at hl 0 rfl) ?_
          refine lv_iload_n hx hb dX11_exchange_60 rfl (lv_at hl 2 rfl) ?_
          refine lv_aload_n hx hb dX11_exchange_61 rfl (lv_at hl 0 rfl) ?_
          refine va_get (D := D) (ci := 10) (v := .ref q_t_holds) (C := RX11) (T := TX11) (N := 32) hx hb hts nhu_X11 hown hK hP 0 rfl rfl 5 (by decide) (hts _ nhw_232) (fun _ h9 => h9) rfl dX11_exchange_62 ?_
          refine lv_iload_n hx hb dX11_exchange_65 rfl (lv_at hl 2 rfl) ?_
          obtain ⟨z13, h⟩ := nh_chk_some h
          refine va_iald hx hb hK hP 2 0 rfl rfl (nh_in_in z13) dX11_exchange_66 ?_
          obtain ⟨r_14, hc15, h⟩ := nh_b1_some h
          refine nh_goi (nh_V (As := [.int i2, .int (t_holds (Int32.toNatClampNeg i2))]) (rest := [.int r_11]) ⟨hx, hb, hml, hown, hts⟩ (kX11_worthOf  l D cI cZ cO H.size q_t q_t_text q_t_holds q_t_had q_t_worth q_t_wants q_t_readHolds q_t_readHad q_t_readWorth q_t_rows q_t_kept q_t_isKept q_t_sort q_t_took q_t_tried q_t_planned q_t_from q_t_best q_t_outcome q_t_value q_t_act 0 t_textSize t_place t_people t_readPeople t_acts_7 t_sights t_longest t_shortest t_runs t_came t_bestMore t_worth i2 (t_holds (Int32.toNatClampNeg i2)) r_14 hc15) (cwV 2 hts (nh_gV nhw_592 nhw_411 nhw_779 nhw_305 nhw_120) rfl rfl rfl (by decide +kernel) ⟨Nat.le_of_ble_eq_true rfl, Nat.le_of_ble_eq_true rfl⟩) hK hN hP hD (isC := [0, 4]) rfl rfl 0 10 rfl rfl rfl rfl hl.1 rfl (Nat.le_of_ble_eq_true rfl) dX11_exchange_67 ⟨Nat.zero_le _, Nat.zero_le _⟩) hP hD hS hA (isC := [0, 4]) rfl rfl rfl (w' := (wlX11_exchange cI cZ cO q_t q_t_text q_t_holds q_t_had q_t_worth q_t_wants q_t_readHolds q_t_readHad q_t_readWorth q_t_rows q_t_kept q_t_isKept q_t_sort q_t_took q_t_tried q_t_planned q_t_from q_t_best q_t_outcome q_t_value q_t_act 0 t_textSize t_place t_people t_readPeople t_acts_7 t_sights t_longest t_shortest t_runs t_came t_bestMore t_had t_holds t_rows_8 t_worth)) rfl (fun H locs hP hD hS => ?_)
          refine lv_iadd hx hb dX11_exchange_70 ?_
          refine lv_topi (fun y_16 ey_16 => ?_)
          replace h := nh_to h ey_16
          refine lv_istore_n (lv' := [(3, .int y_16), (0, .ref q_t), (1, .int i1), (2, .int i2)]) hx hb dX11_exchange_71 rfl hl (by decide) rfl (fun ls hl => ?_)
          refine lv_aload_n hx hb dX11_exchange_72 rfl (lv_at hl 1 rfl) ?_
          refine lv_iconst (v := 0) hx hb dX11_exchange_73 (by decide) ?_
          refine lv_iload_n hx hb dX11_exchange_74 rfl (lv_at hl 2 rfl) ?_
          refine lv_iload_n hx hb dX11_exchange_75 rfl (lv_at hl 3 rfl) ?_
          obtain ⟨t_had_17, t_holds_18, hc19, h⟩ := nh_b2_some h
          refine nh_gov (nh_V (As := [.int 0, .int i1, .int i2]) (rest := []) ⟨hx, hb, hml, hown, hts⟩ (kX11_goAt  l D cI cZ cO H.size q_t q_t_text q_t_holds q_t_had q_t_worth q_t_wants q_t_readHolds q_t_readHad q_t_readWorth q_t_rows q_t_kept q_t_isKept q_t_sort q_t_took q_t_tried q_t_planned q_t_from q_t_best q_t_outcome q_t_value q_t_act 0 t_textSize t_place t_people t_readPeople t_acts_7 t_sights t_longest t_shortest t_runs t_came t_bestMore t_had t_holds 0 i1 i2 t_had_17 t_holds_18 hc19) (cwV 3 hts (nh_gV nhw_598 nhw_369 nhw_738 nhw_305 nhw_75) rfl rfl rfl (by decide +kernel) ⟨Nat.le_of_ble_eq_true rfl, Nat.le_of_ble_eq_true rfl⟩) hK hN hP hD (isC := [0, 1, 2]) rfl rfl 0 10 rfl rfl rfl rfl hl.1 rfl (Nat.le_of_ble_eq_true rfl) dX11_exchange_76 ⟨Nat.zero_le _, Nat.zero_le _⟩) hP hD hS hA (isC := [0, 1, 2]) rfl rfl rfl (w' := (wlX11_exchange cI cZ cO q_t q_t_text q_t_holds q_t_had q_t_worth q_t_wants q_t_readHolds q_t_readHad q_t_readWorth q_t_rows q_t_kept q_t_isKept q_t_sort q_t_took q_t_tried q_t_planned q_t_from q_t_best q_t_outcome q_t_value q_t_act 0 t_textSize t_place t_people t_readPeople t_acts_7 t_sights t_longest t_shortest t_runs t_came t_bestMore t_had_17 t_holds_18 t_rows_8 t_worth)) rfl (fun H locs hP hD hS => ?_)
          refine lv_bipush (v := 100) hx hb dX11_exchange_79 (by decide) ?_
          refine lv_aload_n hx hb dX11_exchange_81 rfl (lv_at hl 1 rfl) ?_
          refine lv_iload_n hx hb dX11_exchange_82 rfl (lv_at hl 2 rfl) ?_
          refine lv_aload_n hx hb dX11_exchange_83 rfl (lv_at hl 1 rfl) ?_
          refine va_get (D := D) (ci := 10) (v := .ref q_t_holds) (C := RX11) (T := TX11) (N := 32) hx hb hts nhu_X11 hown hK hP 0 rfl rfl 5 (by decide) (hts _ nhw_232) (fun _ h9 => h9) rfl dX11_exchange_84 ?_
          refine lv_iload_n hx hb dX11_exchange_87 rfl (lv_at hl 2 rfl) ?_
          obtain ⟨z20, h⟩ := nh_chk_some h
          refine va_iald hx hb hK hP 2 0 rfl rfl (nh_in_in z20) dX11_exchange_88 ?_
          obtain ⟨r_21, hc22, h⟩ := nh_b1_some h
          refine nh_goi (nh_V (As := [.int i1, .int (t_holds_18 (Int32.toNatClampNeg i1))]) (rest := [.int 100]) ⟨hx, hb, hml, hown, hts⟩ (kX11_worthOf  l D cI cZ cO H.size q_t q_t_text q_t_holds q_t_had q_t_worth q_t_wants q_t_readHolds q_t_readHad q_t_readWorth q_t_rows q_t_kept q_t_isKept q_t_sort q_t_took q_t_tried q_t_planned q_t_from q_t_best q_t_outcome q_t_value q_t_act 0 t_textSize t_place t_people t_readPeople t_acts_7 t_sights t_longest t_shortest t_runs t_came t_bestMore t_worth i1 (t_holds_18 (Int32.toNatClampNeg i1)) r_21 hc22) (cwV 2 hts (nh_gV nhw_592 nhw_411 nhw_779 nhw_305 nhw_120) rfl rfl rfl (by decide +kernel) ⟨Nat.le_of_ble_eq_true rfl, Nat.le_of_ble_eq_true rfl⟩) hK hN hP hD (isC := [0, 4]) rfl rfl 0 10 rfl rfl rfl rfl hl.1 rfl (Nat.le_of_ble_eq_true rfl) dX11_exchange_89 ⟨Nat.zero_le _, Nat.zero_le _⟩) hP hD hS hA (isC := [0, 4]) rfl rfl rfl (w' := (wlX11_exchange cI cZ cO q_t q_t_text q_t_holds q_t_had q_t_worth q_t_wants q_t_readHolds q_t_readHad q_t_readWorth q_t_rows q_t_kept q_t_isKept q_t_sort q_t_took q_t_tried q_t_planned q_t_from q_t_best q_t_outcome q_t_value q_t_act 0 t_textSize t_place t_people t_readPeople t_acts_7 t_sights t_longest t_shortest t_runs t_came t_bestMore t_had_17 t_holds_18 t_rows_8 t_worth)) rfl (fun H locs hP hD hS => ?_)
          refine lv_iadd hx hb dX11_exchange_92 ?_
          refine lv_aload_n hx hb dX11_exchange_93 rfl (lv_at hl 1 rfl) ?_
          refine lv_iload_n hx hb dX11_exchange_94 rfl (lv_at hl 3 rfl) ?_
          refine lv_aload_n hx hb dX11_exchange_95 rfl (lv_at hl 1 rfl) ?_
          refine va_get (D := D) (ci := 10) (v := .ref q_t_holds) (C := RX11) (T := TX11) (N := 32) hx hb hts nhu_X11 hown hK hP 0 rfl rfl 5 (by decide) (hts _ nhw_232) (fun _ h9 => h9) rfl dX11_exchange_96 ?_
          refine lv_iload_n hx hb dX11_exchange_99 rfl (lv_at hl 3 rfl) ?_
          obtain ⟨z23, h⟩ := nh_chk_some h
          refine va_iald hx hb hK hP 2 0 rfl rfl (nh_in_in z23) dX11_exchange_100 ?_
          obtain ⟨r_24, hc25, h⟩ := nh_b1_some h
          refine nh_goi (nh_V (As := [.int i2, .int (t_holds_18 (Int32.toNatClampNeg i2))]) (rest := [.int (100 + r_21)]) ⟨hx, hb, hml, hown, hts⟩ (kX11_worthOf  l D cI cZ cO H.size q_t q_t_text q_t_holds q_t_had q_t_worth q_t_wants q_t_readHolds q_t_readHad q_t_readWorth q_t_rows q_t_kept q_t_isKept q_t_sort q_t_took q_t_tried q_t_planned q_t_from q_t_best q_t_outcome q_t_value q_t_act 0 t_textSize t_place t_people t_readPeople t_acts_7 t_sights t_longest t_shortest t_runs t_came t_bestMore t_worth i2 (t_holds_18 (Int32.toNatClampNeg i2)) r_24 hc25) (cwV 2 hts (nh_gV nhw_592 nhw_411 nhw_779 nhw_305 nhw_120) rfl rfl rfl (by decide +kernel) ⟨Nat.le_of_ble_eq_true rfl, Nat.le_of_ble_eq_true rfl⟩) hK hN hP hD (isC := [0, 4]) rfl rfl 0 10 rfl rfl rfl rfl hl.1 rfl (Nat.le_of_ble_eq_true rfl) dX11_exchange_101 ⟨Nat.zero_le _, Nat.zero_le _⟩) hP hD hS hA (isC := [0, 4]) rfl rfl rfl (w' := (wlX11_exchange cI cZ cO q_t q_t_text q_t_holds q_t_had q_t_worth q_t_wants q_t_readHolds q_t_readHad q_t_readWorth q_t_rows q_t_kept q_t_isKept q_t_sort q_t_took q_t_tried q_t_planned q_t_from q_t_best q_t_outcome q_t_value q_t_act 0 t_textSize t_place t_people t_readPeople t_acts_7 t_sights t_longest t_shortest t_runs t_came t_bestMore t_had_17 t_holds_18 t_rows_8 t_worth)) rfl (fun H locs hP hD hS => ?_)
          refine lv_iadd hx hb dX11_exchange_104 ?_
          refine lv_iload_n hx hb dX11_exchange_105 rfl (lv_at hl 0 rfl) ?_
          refine lv_isub hx hb dX11_exchange_106 ?_
          obtain ⟨g0, g1, g2, g3, g4, g5⟩ := nh_i6 h
          exact nh_ri hx hb hr hlocks g0 (by rw [← g1, ← g2, ← g3, ← g4, ← g5]; exact hP) hS dX11_exchange_107
        · replace h := nh_t h c6
          refine lv_bipush (v := (-3)) hx hb dX11_exchange_41 (by decide) ?_
          obtain ⟨g0, g1, g2, g3, g4, g5⟩ := nh_i6 h
          exact nh_ri hx hb hr hlocks g0 (by rw [← g1, ← g2, ← g3, ← g4, ← g5]; exact hP) hS dX11_exchange_43
      · replace h := nh_t h c3
        refine lv_bipush (v := (-2)) hx hb dX11_exchange_28 (by decide) ?_
        obtain ⟨g0, g1, g2, g3, g4, g5⟩ := nh_i6 h
        exact nh_ri hx hb hr hlocks g0 (by rw [← g1, ← g2, ← g3, ← g4, ← g5]; exact hP) hS dX11_exchange_30
    · replace h := nh_f h c2
      refine lv_iconst (v := (-1)) hx hb dX11_exchange_21 (by decide) ?_
      obtain ⟨g0, g1, g2, g3, g4, g5⟩ := nh_i6 h
      exact nh_ri hx hb hr hlocks g0 (by rw [← g1, ← g2, ← g3, ← g4, ← g5]; exact hP) hS dX11_exchange_22
abbrev wlX11_sea (cI cZ cO : ClassId) (q_t q_t_text q_t_holds q_t_had q_t_worth q_t_wants q_t_readHolds q_t_readHad q_t_readWorth q_t_rows q_t_kept q_t_isKept q_t_sort q_t_took q_t_tried q_t_planned q_t_from q_t_best q_t_outcome q_t_value q_t_act : Nat) (t_thrown : Int32) (t_textSize : Int32) (t_place : Int32) (t_people : Int32) (t_readPeople : Int32) (t_acts : Int32) (t_sights : Int32) (t_longest : Int32) (t_shortest : Int32) (t_runs : Int32) (t_came : Int32) (t_bestMore : Int32) (t_had : Nat → Int32) (t_holds : Nat → Int32) (t_rows : Nat → Int32) : va_W := [(q_t, .inr (10, [.int t_thrown, .ref q_t_text, .int t_textSize, .int t_place, .int t_people, .ref q_t_holds, .ref q_t_had, .ref q_t_worth, .ref q_t_wants, .int t_readPeople, .ref q_t_readHolds, .ref q_t_readHad, .ref q_t_readWorth, .ref q_t_rows, .int t_acts, .ref q_t_kept, .ref q_t_isKept, .int t_sights, .ref q_t_sort, .ref q_t_took, .ref q_t_tried, .int t_longest, .int t_shortest, .int t_runs, .int t_came, .ref q_t_planned, .ref q_t_from, .ref q_t_best, .int t_bestMore, .ref q_t_outcome, .ref q_t_value, .ref q_t_act])), (q_t_had, .inl (cI, 56, .inl t_had)), (q_t_holds, .inl (cI, 56, .inl t_holds)), (q_t_rows, .inl (cI, 128, .inl t_rows))]
def fX11_sea (F : Nat) (t_thrown : Int32) (t_people : Int32) (t_acts : Int32) (t_had : Nat → Int32) (t_holds : Nat → Int32) (t_rows : Nat → Int32) (i1 : Int32) : Option (Int32 × Int32 × Int32 × (Nat → Int32) × (Nat → Int32)) :=
  (if (fX11_noOne t_people i1) = 0 then nh_b1 (fX11_isDead F t_people t_had t_holds i1) (fun r_2 => (if r_2 = 0 then some ((-3), 0, t_acts, t_holds, t_rows)
 else nh_b2 (fX11_note F t_acts t_had t_holds t_rows) (fun t_acts_5 t_rows_6 => nh_chk (nh_in i1 56) (nh_let (α := Int32) ((t_holds (Int32.toNatClampNeg i1))) (fun y_9 => nh_chk (nh_in i1 56) (nh_let (α := Nat → Int32) (upd t_holds (Int32.toNatClampNeg i1) 6) (fun t_holds_11 => some (y_9, 0, t_acts_5, t_holds_11, t_rows_6))))))))
 else some ((-1), 0, t_acts, t_holds, t_rows))
set_option maxHeartbeats 4000000 in
set_option maxRecDepth 100000 in
theorem kX11_sea (F : Nat) (l : Launch) (D : va_G) (cI cZ cO : ClassId) (sz : Nat) (q_t q_t_text q_t_holds q_t_had q_t_worth q_t_wants q_t_readHolds q_t_readHad q_t_readWorth q_t_rows q_t_kept q_t_isKept q_t_sort q_t_took q_t_tried q_t_planned q_t_from q_t_best q_t_outcome q_t_value q_t_act : Nat) (t_thrown : Int32) (t_textSize : Int32) (t_place : Int32) (t_people : Int32) (t_readPeople : Int32) (t_acts : Int32) (t_sights : Int32) (t_longest : Int32) (t_shortest : Int32) (t_runs : Int32) (t_came : Int32) (t_bestMore : Int32) (t_had : Nat → Int32) (t_holds : Nat → Int32) (t_rows : Nat → Int32) (i1 : Int32) (o_r : Int32) (o_t_thrown : Int32) (o_t_acts : Int32) (o_t_holds : Nat → Int32) (o_t_rows : Nat → Int32) (h : fX11_sea F t_thrown t_people t_acts t_had t_holds t_rows i1 = some (o_r, o_t_thrown, o_t_acts, o_t_holds, o_t_rows)) : Met l yX11_sea (nh_w (.code yX11_sea cX11_sea 3 (some .int))) (nh_rm 2) (nh_Pc D cI cZ cO (wlX11_sea cI cZ cO q_t q_t_text q_t_holds q_t_had q_t_worth q_t_wants q_t_readHolds q_t_readHad q_t_readWorth q_t_rows q_t_kept q_t_isKept q_t_sort q_t_took q_t_tried q_t_planned q_t_from q_t_best q_t_outcome q_t_value q_t_act t_thrown t_textSize t_place t_people t_readPeople t_acts t_sights t_longest t_shortest t_runs t_came t_bestMore t_had t_holds t_rows) [.ref q_t, .int i1] sz) ((nh_Qi D (wlX11_sea cI cZ cO q_t q_t_text q_t_holds q_t_had q_t_worth q_t_wants q_t_readHolds q_t_readHad q_t_readWorth q_t_rows q_t_kept q_t_isKept q_t_sort q_t_took q_t_tried q_t_planned q_t_from q_t_best q_t_outcome q_t_value q_t_act o_t_thrown t_textSize t_place t_people t_readPeople o_t_acts t_sights t_longest t_shortest t_runs t_came t_bestMore t_had o_t_holds o_t_rows) o_r) (va_A (wlX11_sea cI cZ cO q_t q_t_text q_t_holds q_t_had q_t_worth q_t_wants q_t_readHolds q_t_readHad q_t_readWorth q_t_rows q_t_kept q_t_isKept q_t_sort q_t_took q_t_tried q_t_planned q_t_from q_t_best q_t_outcome q_t_value q_t_act t_thrown t_textSize t_place t_people t_readPeople t_acts t_sights t_longest t_shortest t_runs t_came t_bestMore t_had t_holds t_rows) sz)) 0 0 (va_A (wlX11_sea cI cZ cO q_t q_t_text q_t_holds q_t_had q_t_worth q_t_wants q_t_readHolds q_t_readHad q_t_readWorth q_t_rows q_t_kept q_t_isKept q_t_sort q_t_took q_t_tried q_t_planned q_t_from q_t_best q_t_outcome q_t_value q_t_act t_thrown t_textSize t_place t_people t_readPeople t_acts t_sights t_longest t_shortest t_runs t_came t_bestMore t_had t_holds t_rows) sz) := by
  unfold fX11_sea at h
  refine nh_met (cc := cX11_sea) (maxL := 3) (ret := (some .int)) (nh_Qi D (wlX11_sea cI cZ cO q_t q_t_text q_t_holds q_t_had q_t_worth q_t_wants q_t_readHolds q_t_readHad q_t_readWorth q_t_rows q_t_kept q_t_isKept q_t_sort q_t_took q_t_tried q_t_planned q_t_from q_t_best q_t_outcome q_t_value q_t_act o_t_thrown t_textSize t_place t_people t_readPeople o_t_acts t_sights t_longest t_shortest t_runs t_came t_bestMore t_had o_t_holds o_t_rows) o_r) (by decide) rfl (Nat.le_of_ble_eq_true rfl) ?_
  intro p e s m args below meth c A H locs ls hx hb hml hr hown hts hlocks hinit hP hK hN hD hA hS hl
  have hl : lv_has ls 3 [(0, .ref q_t), (1, .int i1)] := hl
  have hts : ∀ w ∈ nh_words, w.before args s = true := fun w h => hts w (List.mem_cons_of_mem _ h)
  refine lv_aload_n hx hb dX11_sea_0 rfl (lv_at hl 0 rfl) ?_
  refine lv_iconst (v := 0) hx hb dX11_sea_1 (by decide) ?_
  refine va_put (D := D) (ci := 10) (v := .int 0) (ty := .int) (C := RX11) (T := TX11) (N := 32) hx hb hts nhu_X11 tyX11 tyX11_ok nmX11 hown hK hP hD hS 0 rfl rfl 0 (by decide) (hts _ nhw_258) (fun _ h9 => h9) rfl (by decide +kernel) rfl rfl (Nat.le_of_ble_eq_true rfl) dX11_sea_2 (fun H locs hP hD hS => ?_)
  have hP : va_P D vwCl (wlX11_sea cI cZ cO q_t q_t_text q_t_holds q_t_had q_t_worth q_t_wants q_t_readHolds q_t_readHad q_t_readWorth q_t_rows q_t_kept q_t_isKept q_t_sort q_t_took q_t_tried q_t_planned q_t_from q_t_best q_t_outcome q_t_value q_t_act 0 t_textSize t_place t_people t_readPeople t_acts t_sights t_longest t_shortest t_runs t_came t_bestMore t_had t_holds t_rows) H := hP
  have hD : va_D A (wlX11_sea cI cZ cO q_t q_t_text q_t_holds q_t_had q_t_worth q_t_wants q_t_readHolds q_t_readHad q_t_readWorth q_t_rows q_t_kept q_t_isKept q_t_sort q_t_took q_t_tried q_t_planned q_t_from q_t_best q_t_outcome q_t_value q_t_act 0 t_textSize t_place t_people t_readPeople t_acts t_sights t_longest t_shortest t_runs t_came t_bestMore t_had t_holds t_rows) := hD
  refine lv_aload_n hx hb dX11_sea_5 rfl (lv_at hl 0 rfl) ?_
  refine lv_iload_n hx hb dX11_sea_6 rfl (lv_at hl 1 rfl) ?_
  refine nh_goi (nh_V (As := [.int i1]) (rest := []) ⟨hx, hb, hml, hown, hts⟩ (kX11_noOne  l D cI cZ cO H.size q_t q_t_text q_t_holds q_t_had q_t_worth q_t_wants q_t_readHolds q_t_readHad q_t_readWorth q_t_rows q_t_kept q_t_isKept q_t_sort q_t_took q_t_tried q_t_planned q_t_from q_t_best q_t_outcome q_t_value q_t_act 0 t_textSize t_place t_people t_readPeople t_acts t_sights t_longest t_shortest t_runs t_came t_bestMore i1 (fX11_noOne t_people i1) rfl) (cwV 1 hts (nh_gV nhw_594 nhw_390 nhw_758 nhw_305 nhw_98) rfl rfl rfl (by decide +kernel) ⟨Nat.le_of_ble_eq_true rfl, Nat.le_of_ble_eq_true rfl⟩) hK hN hP hD (isC := [0]) rfl rfl 0 10 rfl rfl rfl rfl hl.1 rfl (Nat.le_of_ble_eq_true rfl) dX11_sea_7 ⟨Nat.zero_le _, Nat.zero_le _⟩) hP hD hS hA (isC := [0]) rfl rfl rfl (w' := (wlX11_sea cI cZ cO q_t q_t_text q_t_holds q_t_had q_t_worth q_t_wants q_t_readHolds q_t_readHad q_t_readWorth q_t_rows q_t_kept q_t_isKept q_t_sort q_t_took q_t_tried q_t_planned q_t_from q_t_best q_t_outcome q_t_value q_t_act 0 t_textSize t_place t_people t_readPeople t_acts t_sights t_longest t_shortest t_runs t_came t_bestMore t_had t_holds t_rows)) rfl (fun H locs hP hD hS => ?_)
  refine lv_if_eq (tgt := 15) hx hb dX11_sea_10 (by decide) (fun c1 => ?_) (fun c1 => ?_)
  · replace h := nh_t h c1
    refine lv_aload_n hx hb dX11_sea_15 rfl (lv_at hl 0 rfl) ?_
    refine lv_iload_n hx hb dX11_sea_16 rfl (lv_at hl 1 rfl) ?_
    obtain ⟨r_2, hc3, h⟩ := nh_b1_some h
    refine nh_goi (nh_V (As := [.int i1]) (rest := []) ⟨hx, hb, hml, hown, hts⟩ (kX11_isDead F l D cI cZ cO H.size q_t q_t_text q_t_holds q_t_had q_t_worth q_t_wants q_t_readHolds q_t_readHad q_t_readWorth q_t_rows q_t_kept q_t_isKept q_t_sort q_t_took q_t_tried q_t_planned q_t_from q_t_best q_t_outcome q_t_value q_t_act 0 t_textSize t_place t_people t_readPeople t_acts t_sights t_longest t_shortest t_runs t_came t_bestMore t_had t_holds i1 r_2 hc3) (cwV 1 hts (nh_gV nhw_591 nhw_376 nhw_744 nhw_305 nhw_84) rfl rfl rfl (by decide +kernel) ⟨Nat.le_of_ble_eq_true rfl, Nat.le_of_ble_eq_true rfl⟩) hK hN hP hD (isC := [0, 1, 2]) rfl rfl 0 10 rfl rfl rfl rfl hl.1 rfl (Nat.le_of_ble_eq_true rfl) dX11_sea_17 ⟨Nat.zero_le _, Nat.zero_le _⟩) hP hD hS hA (isC := [0, 1, 2]) rfl rfl rfl (w' := (wlX11_sea cI cZ cO q_t q_t_text q_t_holds q_t_had q_t_worth q_t_wants q_t_readHolds q_t_readHad q_t_readWorth q_t_rows q_t_kept q_t_isKept q_t_sort q_t_took q_t_tried q_t_planned q_t_from q_t_best q_t_outcome q_t_value q_t_act 0 t_textSize t_place t_people t_readPeople t_acts t_sights t_longest t_shortest t_runs t_came t_bestMore t_had t_holds t_rows)) rfl (fun H locs hP hD hS => ?_)
    refine lv_if_ne (tgt := 26) hx hb dX11_sea_20 (by decide) (fun c4 => ?_) (fun c4 => ?_)
    · replace h := nh_f h c4
      refine lv_aload_n hx hb dX11_sea_26 rfl (lv_at hl 0 rfl) ?_
      obtain ⟨t_acts_5, t_rows_6, hc7, h⟩ := nh_b2_some h
      refine nh_gov (nh_V (As := []) (rest := []) ⟨hx, hb, hml, hown, hts⟩ (kX11_note F l D cI cZ cO H.size q_t q_t_text q_t_holds q_t_had q_t_worth q_t_wants q_t_readHolds q_t_readHad q_t_readWorth q_t_rows q_t_kept q_t_isKept q_t_sort q_t_took q_t_tried q_t_planned q_t_from q_t_best q_t_outcome q_t_value q_t_act 0 t_textSize t_place t_people t_readPeople t_acts t_sights t_longest t_shortest t_runs t_came t_bestMore t_had t_holds t_rows t_acts_5 t_rows_6 hc7) (cwV 0 hts (nh_gV nhw_597 nhw_391 nhw_759 nhw_305 nhw_100) rfl rfl rfl (by decide +kernel) ⟨Nat.le_of_ble_eq_true rfl, Nat.le_of_ble_eq_true rfl⟩) hK hN hP hD (isC := [0, 1, 2, 3]) rfl rfl 0 10 rfl rfl rfl rfl hl.1 rfl (Nat.le_of_ble_eq_true rfl) dX11_sea_27 ⟨Nat.zero_le _, Nat.zero_le _⟩) hP hD hS hA (isC := [0, 1, 2, 3]) rfl rfl rfl (w' := (wlX11_sea cI cZ cO q_t q_t_text q_t_holds q_t_had q_t_worth q_t_wants q_t_readHolds q_t_readHad q_t_readWorth q_t_rows q_t_kept q_t_isKept q_t_sort q_t_took q_t_tried q_t_planned q_t_from q_t_best q_t_outcome q_t_value q_t_act 0 t_textSize t_place t_people t_readPeople t_acts_5 t_sights t_longest t_shortest t_runs t_came t_bestMore t_had t_holds t_rows_6)) rfl (fun H locs hP hD hS => ?_)
      refine lv_aload_n hx hb dX11_sea_30 rfl (lv_at hl 0 rfl) ?_
      refine va_get (D := D) (ci := 10) (v := .ref q_t_holds) (C := RX11) (T := TX11) (N := 32) hx hb hts nhu_X11 hown hK hP 0 rfl rfl 5 (by decide) (hts _ nhw_232) (fun _ h9 => h9) rfl dX11_sea_31 ?_
      refine lv_iload_n hx hb dX11_sea_34 rfl (lv_at hl 1 rfl) ?_
      obtain ⟨z8, h⟩ := nh_chk_some h
      refine va_iald hx hb hK hP 2 0 rfl rfl (nh_in_in z8) dX11_sea_35 ?_
      refine lv_topi (fun y_9 ey_9 => ?_)
      replace h := nh_to h ey_9
      refine lv_istore_n (lv' := [(2, .int y_9), (0, .ref q_t), (1, .int i1)]) hx hb dX11_sea_36 rfl hl (by decide) rfl (fun ls hl => ?_)
      refine lv_aload_n hx hb dX11_sea_37 rfl (lv_at hl 1 rfl) ?_
      refine va_get (D := D) (ci := 10) (v := .ref q_t_holds) (C := RX11) (T := TX11) (N := 32) hx hb hts nhu_X11 hown hK hP 0 rfl rfl 5 (by decide) (hts _ nhw_232) (fun _ h9 => h9) rfl dX11_sea_38 ?_
      refine lv_iload_n hx hb dX11_sea_41 rfl (lv_at hl 2 rfl) ?_
      refine lv_bipush (v := 6) hx hb dX11_sea_42 (by decide) ?_
      obtain ⟨z10, h⟩ := nh_chk_some h
      refine va_iast hx hb hK hP hD hS 2 0 rfl rfl (nh_in_in z10) dX11_sea_44 (fun H locs hP hD hS => ?_)
      obtain ⟨t_holds_11, et_holds_11⟩ : ∃ y : Nat → Int32, y = upd t_holds (Int32.toNatClampNeg i1) 6 := ⟨_, rfl⟩
      replace h := nh_to h et_holds_11
      have hP : va_P D vwCl (wlX11_sea cI cZ cO q_t q_t_text q_t_holds q_t_had q_t_worth q_t_wants q_t_readHolds q_t_readHad q_t_readWorth q_t_rows q_t_kept q_t_isKept q_t_sort q_t_took q_t_tried q_t_planned q_t_from q_t_best q_t_outcome q_t_value q_t_act 0 t_textSize t_place t_people t_readPeople t_acts_5 t_sights t_longest t_shortest t_runs t_came t_bestMore t_had t_holds_11 t_rows_6) H := by rw [et_holds_11]; exact hP
      have hD : va_D A (wlX11_sea cI cZ cO q_t q_t_text q_t_holds q_t_had q_t_worth q_t_wants q_t_readHolds q_t_readHad q_t_readWorth q_t_rows q_t_kept q_t_isKept q_t_sort q_t_took q_t_tried q_t_planned q_t_from q_t_best q_t_outcome q_t_value q_t_act 0 t_textSize t_place t_people t_readPeople t_acts_5 t_sights t_longest t_shortest t_runs t_came t_bestMore t_had t_holds_11 t_rows_6) := by rw [et_holds_11]; exact hD
      refine lv_iload_n hx hb dX11_sea_45 rfl (lv_at hl 0 rfl) ?_
      obtain ⟨g0, g1, g2, g3, g4⟩ := nh_i5 h
      exact nh_ri hx hb hr hlocks g0 (by rw [← g1, ← g2, ← g3, ← g4]; exact hP) hS dX11_sea_46
    · replace h := nh_t h c4
      refine lv_bipush (v := (-3)) hx hb dX11_sea_23 (by decide) ?_
      obtain ⟨g0, g1, g2, g3, g4⟩ := nh_i5 h
      exact nh_ri hx hb hr hlocks g0 (by rw [← g1, ← g2, ← g3, ← g4]; exact hP) hS dX11_sea_25
  · replace h := nh_f h c1
    refine lv_iconst (v := (-1)) hx hb dX11_sea_13 (by decide) ?_
    obtain ⟨g0, g1, g2, g3, g4⟩ := nh_i5 h
    exact nh_ri hx hb hr hlocks g0 (by rw [← g1, ← g2, ← g3, ← g4]; exact hP) hS dX11_sea_14
abbrev wlX11_undo (cI cZ cO : ClassId) (q_t q_t_text q_t_holds q_t_had q_t_worth q_t_wants q_t_readHolds q_t_readHad q_t_readWorth q_t_rows q_t_kept q_t_isKept q_t_sort q_t_took q_t_tried q_t_planned q_t_from q_t_best q_t_outcome q_t_value q_t_act : Nat) (t_thrown : Int32) (t_textSize : Int32) (t_place : Int32) (t_people : Int32) (t_readPeople : Int32) (t_acts : Int32) (t_sights : Int32) (t_longest : Int32) (t_shortest : Int32) (t_runs : Int32) (t_came : Int32) (t_bestMore : Int32) (t_had : Nat → Int32) (t_holds : Nat → Int32) (t_rows : Nat → Int32) : va_W := [(q_t, .inr (10, [.int t_thrown, .ref q_t_text, .int t_textSize, .int t_place, .int t_people, .ref q_t_holds, .ref q_t_had, .ref q_t_worth, .ref q_t_wants, .int t_readPeople, .ref q_t_readHolds, .ref q_t_readHad, .ref q_t_readWorth, .ref q_t_rows, .int t_acts, .ref q_t_kept, .ref q_t_isKept, .int t_sights, .ref q_t_sort, .ref q_t_took, .ref q_t_tried, .int t_longest, .int t_shortest, .int t_runs, .int t_came, .ref q_t_planned, .ref q_t_from, .ref q_t_best, .int t_bestMore, .ref q_t_outcome, .ref q_t_value, .ref q_t_act])), (q_t_had, .inl (cI, 56, .inl t_had)), (q_t_holds, .inl (cI, 56, .inl t_holds)), (q_t_rows, .inl (cI, 128, .inl t_rows))]
def fX11_undo_B27 (t_rows : Nat → Int32) (y_2 : Int32) (k27 : Int32 → (Nat → Int32) → (Nat → Int32) → Option (Int32 × Int32 × Int32 × (Nat → Int32) × (Nat → Int32))) (r27 : Int32 → (Nat → Int32) → (Nat → Int32) → Option (Int32 × Int32 × Int32 × (Nat → Int32) × (Nat → Int32))) (x1_3 : Int32) (t_had_4 : Nat → Int32) (t_holds_5 : Nat → Int32) : Option (Int32 × Int32 × Int32 × (Nat → Int32) × (Nat → Int32)) :=
  (if 4 ≤ x1_3 then k27 x1_3 t_had_4 t_holds_5
 else nh_chk (nh_in ((8 * y_2) + x1_3) 128) (nh_chk (nh_in x1_3 56) (nh_let (α := Nat → Int32) (upd t_holds_5 (Int32.toNatClampNeg x1_3) (t_rows (Int32.toNatClampNeg ((8 * y_2) + x1_3)))) (fun t_holds_12 => nh_chk (nh_in (((8 * y_2) + 4) + x1_3) 128) (nh_chk (nh_in x1_3 56) (nh_let (α := Nat → Int32) (upd t_had_4 (Int32.toNatClampNeg x1_3) (t_rows (Int32.toNatClampNeg (((8 * y_2) + 4) + x1_3)))) (fun t_had_15 => nh_let (α := Int32) (x1_3 + 1) (fun x1_16 => r27 x1_16 t_had_15 t_holds_12))))))))
def fX11_undo_L27 (t_rows : Nat → Int32) (y_2 : Int32) (k27 : Int32 → (Nat → Int32) → (Nat → Int32) → Option (Int32 × Int32 × Int32 × (Nat → Int32) × (Nat → Int32))) : Nat → Int32 → (Nat → Int32) → (Nat → Int32) → Option (Int32 × Int32 × Int32 × (Nat → Int32) × (Nat → Int32))
  | 0 => fun _ _ _ => none
  | n + 1 => fX11_undo_B27 t_rows y_2 k27 (fX11_undo_L27 t_rows y_2 k27 n)
def fX11_undo (F : Nat) (t_thrown : Int32) (t_acts : Int32) (t_had : Nat → Int32) (t_holds : Nat → Int32) (t_rows : Nat → Int32) : Option (Int32 × Int32 × Int32 × (Nat → Int32) × (Nat → Int32)) :=
  (if t_acts = 0 then some ((-3), 0, t_acts, t_had, t_holds)
 else nh_let (α := Int32) ((t_acts - 1)) (fun y_2 => fX11_undo_L27 t_rows y_2 (fun x1_6 t_had_7 t_holds_8 => some (y_2, 0, y_2, t_had_7, t_holds_8)) F 0 t_had t_holds))
set_option maxHeartbeats 4000000 in
set_option maxRecDepth 100000 in
theorem kX11_undo (F : Nat) (l : Launch) (D : va_G) (cI cZ cO : ClassId) (sz : Nat) (q_t q_t_text q_t_holds q_t_had q_t_worth q_t_wants q_t_readHolds q_t_readHad q_t_readWorth q_t_rows q_t_kept q_t_isKept q_t_sort q_t_took q_t_tried q_t_planned q_t_from q_t_best q_t_outcome q_t_value q_t_act : Nat) (t_thrown : Int32) (t_textSize : Int32) (t_place : Int32) (t_people : Int32) (t_readPeople : Int32) (t_acts : Int32) (t_sights : Int32) (t_longest : Int32) (t_shortest : Int32) (t_runs : Int32) (t_came : Int32) (t_bestMore : Int32) (t_had : Nat → Int32) (t_holds : Nat → Int32) (t_rows : Nat → Int32)  (o_r : Int32) (o_t_thrown : Int32) (o_t_acts : Int32) (o_t_had : Nat → Int32) (o_t_holds : Nat → Int32) (h : fX11_undo F t_thrown t_acts t_had t_holds t_rows = some (o_r, o_t_thrown, o_t_acts, o_t_had, o_t_holds)) : Met l yX11_undo (nh_w (.code yX11_undo cX11_undo 2 (some .int))) (nh_rm 0) (nh_Pc D cI cZ cO (wlX11_undo cI cZ cO q_t q_t_text q_t_holds q_t_had q_t_worth q_t_wants q_t_readHolds q_t_readHad q_t_readWorth q_t_rows q_t_kept q_t_isKept q_t_sort q_t_took q_t_tried q_t_planned q_t_from q_t_best q_t_outcome q_t_value q_t_act t_thrown t_textSize t_place t_people t_readPeople t_acts t_sights t_longest t_shortest t_runs t_came t_bestMore t_had t_holds t_rows) [.ref q_t] sz) ((nh_Qi D (wlX11_undo cI cZ cO q_t q_t_text q_t_holds q_t_had q_t_worth q_t_wants q_t_readHolds q_t_readHad q_t_readWorth q_t_rows q_t_kept q_t_isKept q_t_sort q_t_took q_t_tried q_t_planned q_t_from q_t_best q_t_outcome q_t_value q_t_act o_t_thrown t_textSize t_place t_people t_readPeople o_t_acts t_sights t_longest t_shortest t_runs t_came t_bestMore o_t_had o_t_holds t_rows) o_r) (va_A (wlX11_undo cI cZ cO q_t q_t_text q_t_holds q_t_had q_t_worth q_t_wants q_t_readHolds q_t_readHad q_t_readWorth q_t_rows q_t_kept q_t_isKept q_t_sort q_t_took q_t_tried q_t_planned q_t_from q_t_best q_t_outcome q_t_value q_t_act t_thrown t_textSize t_place t_people t_readPeople t_acts t_sights t_longest t_shortest t_runs t_came t_bestMore t_had t_holds t_rows) sz)) 0 0 (va_A (wlX11_undo cI cZ cO q_t q_t_text q_t_holds q_t_had q_t_worth q_t_wants q_t_readHolds q_t_readHad q_t_readWorth q_t_rows q_t_kept q_t_isKept q_t_sort q_t_took q_t_tried q_t_planned q_t_from q_t_best q_t_outcome q_t_value q_t_act t_thrown t_textSize t_place t_people t_readPeople t_acts t_sights t_longest t_shortest t_runs t_came t_bestMore t_had t_holds t_rows) sz) := by
  unfold fX11_undo at h
  refine nh_met (cc := cX11_undo) (maxL := 2) (ret := (some .int)) (nh_Qi D (wlX11_undo cI cZ cO q_t q_t_text q_t_holds q_t_had q_t_worth q_t_wants q_t_readHolds q_t_readHad q_t_readWorth q_t_rows q_t_kept q_t_isKept q_t_sort q_t_took q_t_tried q_t_planned q_t_from q_t_best q_t_outcome q_t_value q_t_act o_t_thrown t_textSize t_place t_people t_readPeople o_t_acts t_sights t_longest t_shortest t_runs t_came t_bestMore o_t_had o_t_holds t_rows) o_r) (by decide) rfl (Nat.le_of_ble_eq_true rfl) ?_
  intro p e s m args below meth c A H locs ls hx hb hml hr hown hts hlocks hinit hP hK hN hD hA hS hl
  have hl : lv_has ls 2 [(0, .ref q_t)] := hl
  have hts : ∀ w ∈ nh_words, w.before args s = true := fun w h => hts w (List.mem_cons_of_mem _ h)
  refine lv_aload_n hx hb dX11_undo_0 rfl (lv_at hl 0 rfl) ?_
  refine lv_iconst (v := 0) hx hb dX11_undo_1 (by decide) ?_
  refine va_put (D := D) (ci := 10) (v := .int 0) (ty := .int) (C := RX11) (T := TX11) (N := 32) hx hb hts nhu_X11 tyX11 tyX11_ok nmX11 hown hK hP hD hS 0 rfl rfl 0 (by decide) (hts _ nhw_258) (fun _ h9 => h9) rfl (by decide +kernel) rfl rfl (Nat.le_of_ble_eq_true rfl) dX11_undo_2 (fun H locs hP hD hS => ?_)
  have hP : va_P D vwCl (wlX11_undo cI cZ cO q_t q_t_text q_t_holds q_t_had q_t_worth q_t_wants q_t_readHolds q_t_readHad q_t_readWorth q_t_rows q_t_kept q_t_isKept q_t_sort q_t_took q_t_tried q_t_planned q_t_from q_t_best q_t_outcome q_t_value q_t_act 0 t_textSize t_place t_people t_readPeople t_acts t_sights t_longest t_shortest t_runs t_came t_bestMore t_had t_holds t_rows) H := hP
  have hD : va_D A (wlX11_undo cI cZ cO q_t q_t_text q_t_holds q_t_had q_t_worth q_t_wants q_t_readHolds q_t_readHad q_t_readWorth q_t_rows q_t_kept q_t_isKept q_t_sort q_t_took q_t_tried q_t_planned q_t_from q_t_best q_t_outcome q_t_value q_t_act 0 t_textSize t_place t_people t_readPeople t_acts t_sights t_longest t_shortest t_runs t_came t_bestMore t_had t_holds t_rows) := hD
  refine lv_aload_n hx hb dX11_undo_5 rfl (lv_at hl 0 rfl) ?_
  refine va_get (D := D) (ci := 10) (v := .int t_acts) (C := RX11) (T := TX11) (N := 32) hx hb hts nhu_X11 hown hK hP 0 rfl rfl 14 (by decide) (hts _ nhw_231) (fun _ h9 => h9) rfl dX11_undo_6 ?_
  refine lv_if_ne (tgt := 15) hx hb dX11_undo_9 (by decide) (fun c1 => ?_) (fun c1 => ?_)
  · replace h := nh_f h c1
    refine lv_aload_n hx hb dX11_undo_15 rfl (lv_at hl 0 rfl) ?_
    refine lv_dup hx hb dX11_undo_16 rfl ?_
    refine va_get (D := D) (ci := 10) (v := .int t_acts) (C := RX11) (T := TX11) (N := 32) hx hb hts nhu_X11 hown hK hP 0 rfl rfl 14 (by decide) (hts _ nhw_231) (fun _ h9 => h9) rfl dX11_undo_17 ?_
    refine lv_iconst (v := 1) hx hb dX11_undo_20 (by decide) ?_
    refine lv_isub hx hb dX11_undo_21 ?_
    refine lv_topi (fun y_2 ey_2 => ?_)
    replace h := nh_to h ey_2
    refine va_put (D := D) (ci := 10) (v := .int y_2) (ty := .int) (C := RX11) (T := TX11) (N := 32) hx hb hts nhu_X11 tyX11 tyX11_ok nmX11 hown hK hP hD hS 0 rfl rfl 14 (by decide) (hts _ nhw_231) (fun _ h9 => h9) rfl (by decide +kernel) rfl rfl (Nat.le_of_ble_eq_true rfl) dX11_undo_22 (fun H locs hP hD hS => ?_)
    have hP : va_P D vwCl (wlX11_undo cI cZ cO q_t q_t_text q_t_holds q_t_had q_t_worth q_t_wants q_t_readHolds q_t_readHad q_t_readWorth q_t_rows q_t_kept q_t_isKept q_t_sort q_t_took q_t_tried q_t_planned q_t_from q_t_best q_t_outcome q_t_value q_t_act 0 t_textSize t_place t_people t_readPeople y_2 t_sights t_longest t_shortest t_runs t_came t_bestMore t_had t_holds t_rows) H := hP
    have hD : va_D A (wlX11_undo cI cZ cO q_t q_t_text q_t_holds q_t_had q_t_worth q_t_wants q_t_readHolds q_t_readHad q_t_readWorth q_t_rows q_t_kept q_t_isKept q_t_sort q_t_took q_t_tried q_t_planned q_t_from q_t_best q_t_outcome q_t_value q_t_act 0 t_textSize t_place t_people t_readPeople y_2 t_sights t_longest t_shortest t_runs t_came t_bestMore t_had t_holds t_rows) := hD
    refine lv_iconst (v := 0) hx hb dX11_undo_25 (by decide) ?_
    refine lv_istore_n (lv' := [(1, .int 0), (0, .ref q_t)]) hx hb dX11_undo_26 rfl hl (by decide) rfl (fun ls hl => ?_)
    have L27 : ∀ (k27 : Int32 → (Nat → Int32) → (Nat → Int32) → Option (Int32 × Int32 × Int32 × (Nat → Int32) × (Nat → Int32))), (∀ (x1_6 : Int32) (t_had_7 : Nat → Int32) (t_holds_8 : Nat → Int32) (H : Heap) (locs : List Loc) (ls : Array Slot), va_P D vwCl (wlX11_undo cI cZ cO q_t q_t_text q_t_holds q_t_had q_t_worth q_t_wants q_t_readHolds q_t_readHad q_t_readWorth q_t_rows q_t_kept q_t_isKept q_t_sort q_t_took q_t_tried q_t_planned q_t_from q_t_best q_t_outcome q_t_value q_t_act 0 t_textSize t_place t_people t_readPeople y_2 t_sights t_longest t_shortest t_runs t_came t_bestMore t_had_7 t_holds_8 t_rows) H → va_D A (wlX11_undo cI cZ cO q_t q_t_text q_t_holds q_t_had q_t_worth q_t_wants q_t_readHolds q_t_readHad q_t_readWorth q_t_rows q_t_kept q_t_isKept q_t_sort q_t_took q_t_tried q_t_planned q_t_from q_t_best q_t_outcome q_t_value q_t_act 0 t_textSize t_place t_people t_readPeople y_2 t_sights t_longest t_shortest t_runs t_came t_bestMore t_had_7 t_holds_8 t_rows) → va_S A s.heap H locs → lv_has ls 2 [(0, .ref q_t), (1, .int x1_6)] → k27 x1_6 t_had_7 t_holds_8 = some (o_r, o_t_thrown, o_t_acts, o_t_had, o_t_holds) → W p l e (nh_rm 0) s m args below meth c H locs 0 0 (MQ below ((nh_Qi D (wlX11_undo cI cZ cO q_t q_t_text q_t_holds q_t_had q_t_worth q_t_wants q_t_readHolds q_t_readHad q_t_readWorth q_t_rows q_t_kept q_t_isKept q_t_sort q_t_took q_t_tried q_t_planned q_t_from q_t_best q_t_outcome q_t_value q_t_act o_t_thrown t_textSize t_place t_people t_readPeople o_t_acts t_sights t_longest t_shortest t_runs t_came t_bestMore o_t_had o_t_holds t_rows) o_r) A) args s 0 0 A) (F0 m 80 ls [])) → ∀ (n : Nat) (x1_3 : Int32) (t_had_4 : Nat → Int32) (t_holds_5 : Nat → Int32) (H : Heap) (locs : List Loc) (ls : Array Slot), va_P D vwCl (wlX11_undo cI cZ cO q_t q_t_text q_t_holds q_t_had q_t_worth q_t_wants q_t_readHolds q_t_readHad q_t_readWorth q_t_rows q_t_kept q_t_isKept q_t_sort q_t_took q_t_tried q_t_planned q_t_from q_t_best q_t_outcome q_t_value q_t_act 0 t_textSize t_place t_people t_readPeople y_2 t_sights t_longest t_shortest t_runs t_came t_bestMore t_had_4 t_holds_5 t_rows) H → va_D A (wlX11_undo cI cZ cO q_t q_t_text q_t_holds q_t_had q_t_worth q_t_wants q_t_readHolds q_t_readHad q_t_readWorth q_t_rows q_t_kept q_t_isKept q_t_sort q_t_took q_t_tried q_t_planned q_t_from q_t_best q_t_outcome q_t_value q_t_act 0 t_textSize t_place t_people t_readPeople y_2 t_sights t_longest t_shortest t_runs t_came t_bestMore t_had_4 t_holds_5 t_rows) → va_S A s.heap H locs → lv_has ls 2 [(0, .ref q_t), (1, .int x1_3)] → fX11_undo_L27 t_rows y_2 k27 n x1_3 t_had_4 t_holds_5 = some (o_r, o_t_thrown, o_t_acts, o_t_had, o_t_holds) → W p l e (nh_rm 0) s m args below meth c H locs 0 0 (MQ below ((nh_Qi D (wlX11_undo cI cZ cO q_t q_t_text q_t_holds q_t_had q_t_worth q_t_wants q_t_readHolds q_t_readHad q_t_readWorth q_t_rows q_t_kept q_t_isKept q_t_sort q_t_took q_t_tried q_t_planned q_t_from q_t_best q_t_outcome q_t_value q_t_act o_t_thrown t_textSize t_place t_people t_readPeople o_t_acts t_sights t_longest t_shortest t_runs t_came t_bestMore o_t_had o_t_holds t_rows) o_r) A) args s 0 0 A) (F0 m 27 ls []) := by
      intro k27 hk27 n
      induction n with
      | zero => intro x1_3 t_had_4 t_holds_5 H locs ls hP hD hS hl h; exact (nh_none h).elim
      | succ n27 ih27 =>
        intro x1_3 t_had_4 t_holds_5 H locs ls hP hD hS hl h
        replace h : fX11_undo_B27 t_rows y_2 k27 (fX11_undo_L27 t_rows y_2 k27 n27) x1_3 t_had_4 t_holds_5 = some (o_r, o_t_thrown, o_t_acts, o_t_had, o_t_holds) := h
        unfold fX11_undo_B27 at h
        refine lv_iload_n hx hb dX11_undo_27 rfl (lv_at hl 1 rfl) ?_
        refine lv_iconst (v := 4) hx hb dX11_undo_28 (by decide) ?_
        refine lv_icmp_ge (tgt := 80) hx hb dX11_undo_29 (by decide) (fun c9 => ?_) (fun c9 => ?_)
        · replace h := nh_t h c9
          exact hk27 x1_3 t_had_4 t_holds_5 H locs ls hP hD hS (lv_sub hl [0, 1] rfl) h
        · replace h := nh_f h c9
          refine lv_aload_n hx hb dX11_undo_32 rfl (lv_at hl 0 rfl) ?_
          refine va_get (D := D) (ci := 10) (v := .ref q_t_holds) (C := RX11) (T := TX11) (N := 32) hx hb hts nhu_X11 hown hK hP 0 rfl rfl 5 (by decide) (hts _ nhw_232) (fun _ h9 => h9) rfl dX11_undo_33 ?_
          refine lv_iload_n hx hb dX11_undo_36 rfl (lv_at hl 1 rfl) ?_
          refine lv_aload_n hx hb dX11_undo_37 rfl (lv_at hl 0 rfl) ?_
          refine va_get (D := D) (ci := 10) (v := .ref q_t_rows) (C := RX11) (T := TX11) (N := 32) hx hb hts nhu_X11 hown hK hP 0 rfl rfl 13 (by decide) (hts _ nhw_245) (fun _ h9 => h9) rfl dX11_undo_38 ?_
          refine lv_bipush (v := 8) hx hb dX11_undo_41 (by decide) ?_
          refine lv_aload_n hx hb dX11_undo_43 rfl (lv_at hl 0 rfl) ?_
          refine va_get (D := D) (ci := 10) (v := .int y_2) (C := RX11) (T := TX11) (N := 32) hx hb hts nhu_X11 hown hK hP 0 rfl rfl 14 (by decide) (hts _ nhw_231) (fun _ h9 => h9) rfl dX11_undo_44 ?_
          refine lv_imul hx hb dX11_undo_47 ?_
          refine lv_iload_n hx hb dX11_undo_48 rfl (lv_at hl 1 rfl) ?_
          refine lv_iadd hx hb dX11_undo_49 ?_
          obtain ⟨z10, h⟩ := nh_chk_some h
          refine va_iald hx hb hK hP 3 0 rfl rfl (nh_in_in z10) dX11_undo_50 ?_
          obtain ⟨z11, h⟩ := nh_chk_some h
          refine va_iast hx hb hK hP hD hS 2 0 rfl rfl (nh_in_in z11) dX11_undo_51 (fun H locs hP hD hS => ?_)
          obtain ⟨t_holds_12, et_holds_12⟩ : ∃ y : Nat → Int32, y = upd t_holds_5 (Int32.toNatClampNeg x1_3) (t_rows (Int32.toNatClampNeg ((8 * y_2) + x1_3))) := ⟨_, rfl⟩
          replace h := nh_to h et_holds_12
          have hP : va_P D vwCl (wlX11_undo cI cZ cO q_t q_t_text q_t_holds q_t_had q_t_worth q_t_wants q_t_readHolds q_t_readHad q_t_readWorth q_t_rows q_t_kept q_t_isKept q_t_sort q_t_took q_t_tried q_t_planned q_t_from q_t_best q_t_outcome q_t_value q_t_act 0 t_textSize t_place t_people t_readPeople y_2 t_sights t_longest t_shortest t_runs t_came t_bestMore t_had_4 t_holds_12 t_rows) H := by rw [et_holds_12]; exact hP
          have hD : va_D A (wlX11_undo cI cZ cO q_t q_t_text q_t_holds q_t_had q_t_worth q_t_wants q_t_readHolds q_t_readHad q_t_readWorth q_t_rows q_t_kept q_t_isKept q_t_sort q_t_took q_t_tried q_t_planned q_t_from q_t_best q_t_outcome q_t_value q_t_act 0 t_textSize t_place t_people t_readPeople y_2 t_sights t_longest t_shortest t_runs t_came t_bestMore t_had_4 t_holds_12 t_rows) := by rw [et_holds_12]; exact hD
          refine lv_aload_n hx hb dX11_undo_52 rfl (lv_at hl 0 rfl) ?_
          refine va_get (D := D) (ci := 10) (v := .ref q_t_had) (C := RX11) (T := TX11) (N := 32) hx hb hts nhu_X11 hown hK hP 0 rfl rfl 6 (by decide) (hts _ nhw_234) (fun _ h9 => h9) rfl dX11_undo_53 ?_
          refine lv_iload_n hx hb dX11_undo_56 rfl (lv_at hl 1 rfl) ?_
          refine lv_aload_n hx hb dX11_undo_57 rfl (lv_at hl 0 rfl) ?_
          refine va_get (D := D) (ci := 10) (v := .ref q_t_rows) (C := RX11) (T := TX11) (N := 32) hx hb hts nhu_X11 hown hK hP 0 rfl rfl 13 (by decide) (hts _ nhw_245) (fun _ h9 => h9) rfl dX11_undo_58 ?_
          refine lv_bipush (v := 8) hx hb dX11_undo_61 (by decide) ?_
          refine lv_aload_n hx hb dX11_undo_63 rfl (lv_at hl 0 rfl) ?_
          refine va_get (D := D) (ci := 10) (v := .int y_2) (C := RX11) (T := TX11) (N := 32) hx hb hts nhu_X11 hown hK hP 0 rfl rfl 14 (by decide) (hts _ nhw_231) (fun _ h9 => h9) rfl dX11_undo_64 ?_
          refine lv_imul hx hb dX11_undo_67 ?_
          refine lv_iconst (v := 4) hx hb dX11_undo_68 (by decide) ?_
          refine lv_iadd hx hb dX11_undo_69 ?_
          refine lv_iload_n hx hb dX11_undo_70 rfl (lv_at hl 1 rfl) ?_
          refine lv_iadd hx hb dX11_undo_71 ?_
          obtain ⟨z13, h⟩ := nh_chk_some h
          refine va_iald hx hb hK hP 3 0 rfl rfl (nh_in_in z13) dX11_undo_72 ?_
          obtain ⟨z14, h⟩ := nh_chk_some h
          refine va_iast hx hb hK hP hD hS 1 0 rfl rfl (nh_in_in z14) dX11_undo_73 (fun H locs hP hD hS => ?_)
          obtain ⟨t_had_15, et_had_15⟩ : ∃ y : Nat → Int32, y = upd t_had_4 (Int32.toNatClampNeg x1_3) (t_rows (Int32.toNatClampNeg (((8 * y_2) + 4) + x1_3))) := ⟨_, rfl⟩
          replace h := nh_to h et_had_15
          have hP : va_P D vwCl (wlX11_undo cI cZ cO q_t q_t_text q_t_holds q_t_had q_t_worth q_t_wants q_t_readHolds q_t_readHad q_t_readWorth q_t_rows q_t_kept q_t_isKept q_t_sort q_t_took q_t_tried q_t_planned q_t_from q_t_best q_t_outcome q_t_value q_t_act 0 t_textSize t_place t_people t_readPeople y_2 t_sights t_longest t_shortest t_runs t_came t_bestMore t_had_15 t_holds_12 t_rows) H := by rw [et_had_15]; exact hP
          have hD : va_D A (wlX11_undo cI cZ cO q_t q_t_text q_t_holds q_t_had q_t_worth q_t_wants q_t_readHolds q_t_readHad q_t_readWorth q_t_rows q_t_kept q_t_isKept q_t_sort q_t_took q_t_tried q_t_planned q_t_from q_t_best q_t_outcome q_t_value q_t_act 0 t_textSize t_place t_people t_readPeople y_2 t_sights t_longest t_shortest t_runs t_came t_bestMore t_had_15 t_holds_12 t_rows) := by rw [et_had_15]; exact hD
          obtain ⟨x1_16, ex1_16⟩ : ∃ y : Int32, y = x1_3 + 1 := ⟨_, rfl⟩
          replace h := nh_to h ex1_16
          refine lv_iinc (v := x1_16) (lv' := [(1, .int x1_16), (0, .ref q_t)]) hx hb dX11_undo_74 hl (k := 1) rfl (by rw [ex1_16]; rfl) (by decide) rfl (fun ls hl => ?_)
          refine lv_goto (tgt := 27) hx hb dX11_undo_77 (by decide) ?_
          exact ih27 x1_16 t_had_15 t_holds_12 H locs ls hP hD hS (lv_sub hl [1, 0] rfl) h
    refine L27 _ (fun x1_6 t_had_7 t_holds_8 H locs ls hP hD hS hl h => ?_) _ 0 t_had t_holds H locs ls hP hD hS (lv_sub hl [1, 0] rfl) h
    refine lv_aload_n hx hb dX11_undo_80 rfl (lv_at hl 0 rfl) ?_
    refine va_get (D := D) (ci := 10) (v := .int y_2) (C := RX11) (T := TX11) (N := 32) hx hb hts nhu_X11 hown hK hP 0 rfl rfl 14 (by decide) (hts _ nhw_231) (fun _ h9 => h9) rfl dX11_undo_81 ?_
    obtain ⟨g0, g1, g2, g3, g4⟩ := nh_i5 h
    exact nh_ri hx hb hr hlocks g0 (by rw [← g1, ← g2, ← g3, ← g4]; exact hP) hS dX11_undo_84
  · replace h := nh_t h c1
    refine lv_bipush (v := (-3)) hx hb dX11_undo_12 (by decide) ?_
    obtain ⟨g0, g1, g2, g3, g4⟩ := nh_i5 h
    exact nh_ri hx hb hr hlocks g0 (by rw [← g1, ← g2, ← g3, ← g4]; exact hP) hS dX11_undo_14
abbrev wlX11_judge (cI cZ cO : ClassId) (q_t q_t_text q_t_holds q_t_had q_t_worth q_t_wants q_t_readHolds q_t_readHad q_t_readWorth q_t_rows q_t_kept q_t_isKept q_t_sort q_t_took q_t_tried q_t_planned q_t_from q_t_best q_t_outcome q_t_value q_t_act : Nat) (t_thrown : Int32) (t_textSize : Int32) (t_place : Int32) (t_people : Int32) (t_readPeople : Int32) (t_acts : Int32) (t_sights : Int32) (t_longest : Int32) (t_shortest : Int32) (t_runs : Int32) (t_came : Int32) (t_bestMore : Int32) (t_had : Nat → Int32) (t_holds : Nat → Int32) : va_W := [(q_t, .inr (10, [.int t_thrown, .ref q_t_text, .int t_textSize, .int t_place, .int t_people, .ref q_t_holds, .ref q_t_had, .ref q_t_worth, .ref q_t_wants, .int t_readPeople, .ref q_t_readHolds, .ref q_t_readHad, .ref q_t_readWorth, .ref q_t_rows, .int t_acts, .ref q_t_kept, .ref q_t_isKept, .int t_sights, .ref q_t_sort, .ref q_t_took, .ref q_t_tried, .int t_longest, .int t_shortest, .int t_runs, .int t_came, .ref q_t_planned, .ref q_t_from, .ref q_t_best, .int t_bestMore, .ref q_t_outcome, .ref q_t_value, .ref q_t_act])), (q_t_had, .inl (cI, 56, .inl t_had)), (q_t_holds, .inl (cI, 56, .inl t_holds))]
def fX11_judge_B10 (i1 : Int32) (k10 : Int32 → Int32 → Option (Int32 × Int32 × (Nat → Int32) × (Nat → Int32))) (r10 : Int32 → Int32 → Option (Int32 × Int32 × (Nat → Int32) × (Nat → Int32))) (x3_1 : Int32) (x4_2 : Int32) : Option (Int32 × Int32 × (Nat → Int32) × (Nat → Int32)) :=
  (if i1 ≤ x4_2 then k10 x3_1 x4_2
 else (if 4 ≤ x4_2 then k10 x3_1 x4_2
 else nh_let (α := Int32) ((x3_1 * 100)) (fun y_7 => nh_let (α := Int32) (x4_2 + 1) (fun x4_8 => r10 y_7 x4_8))))
def fX11_judge_L10 (i1 : Int32) (k10 : Int32 → Int32 → Option (Int32 × Int32 × (Nat → Int32) × (Nat → Int32))) : Nat → Int32 → Int32 → Option (Int32 × Int32 × (Nat → Int32) × (Nat → Int32))
  | 0 => fun _ _ => none
  | n + 1 => fX11_judge_B10 i1 k10 (fX11_judge_L10 i1 k10 n)
def fX11_judge_B70 (t_people : Int32) (i1 : Int32) (i2 : Int32) (k70 : Int32 → Int32 → (Nat → Int32) → (Nat → Int32) → Option (Int32 × Int32 × (Nat → Int32) × (Nat → Int32))) (r70 : Int32 → Int32 → (Nat → Int32) → (Nat → Int32) → Option (Int32 × Int32 × (Nat → Int32) × (Nat → Int32))) (x3_14 : Int32) (x4_15 : Int32) (t_had_16 : Nat → Int32) (t_holds_17 : Nat → Int32) : Option (Int32 × Int32 × (Nat → Int32) × (Nat → Int32)) :=
  (if i1 ≤ x4_15 then k70 x3_14 x4_15 t_had_16 t_holds_17
 else nh_let (α := Int32) ((x3_14 / 100)) (fun y_23 => nh_chk (decide (¬ y_23 = 0)) (nh_let (α := Int32) (((i2 / y_23) - (i2 / y_23) / 100 * 100)) (fun y_25 => nh_let (α := Int32) ((y_25 / 10)) (fun y_26 => nh_let (α := Int32) ((y_25 - y_25 / 10 * 10)) (fun y_27 => (if (fX11_noOne t_people y_26) = 0 then (if (fX11_noOne t_people y_27) = 0 then nh_b1 (fX11_mayAt t_had_16 t_holds_17 1 y_26 y_27) (fun r_30 => (if r_30 = 0 then some (x4_15, 0, t_had_16, t_holds_17)
 else nh_b2 (fX11_goAt t_had_16 t_holds_17 1 y_26 y_27) (fun t_had_33 t_holds_34 => nh_let (α := Int32) (x4_15 + 1) (fun x4_36 => r70 y_23 x4_36 t_had_33 t_holds_34))))
 else some (x4_15, 0, t_had_16, t_holds_17))
 else some (x4_15, 0, t_had_16, t_holds_17))))))))
def fX11_judge_L70 (t_people : Int32) (i1 : Int32) (i2 : Int32) (k70 : Int32 → Int32 → (Nat → Int32) → (Nat → Int32) → Option (Int32 × Int32 × (Nat → Int32) × (Nat → Int32))) : Nat → Int32 → Int32 → (Nat → Int32) → (Nat → Int32) → Option (Int32 × Int32 × (Nat → Int32) × (Nat → Int32))
  | 0 => fun _ _ _ _ => none
  | n + 1 => fX11_judge_B70 t_people i1 i2 k70 (fX11_judge_L70 t_people i1 i2 k70 n)
def fX11_judge (F : Nat) (t_thrown : Int32) (t_people : Int32) (t_had : Nat → Int32) (t_holds : Nat → Int32) (i1 : Int32) (i2 : Int32) : Option (Int32 × Int32 × (Nat → Int32) × (Nat → Int32)) :=
  fX11_judge_L10 i1 (fun x3_3 x4_4 => (if (fX11_in (Int32.toInt64 i1) 1 4) = 0 then some ((-2), 0, t_had, t_holds)
 else (if (fX11_in (Int32.toInt64 i2) 0 (Int32.toInt64 (x3_3 - 1))) = 0 then some ((-2), 0, t_had, t_holds)
 else nh_b2 (fX11_layAt F t_people t_had t_holds 0 1) (fun t_had_11 t_holds_12 => fX11_judge_L70 t_people i1 i2 (fun x3_18 x4_19 t_had_20 t_holds_21 => some ((-9), 0, t_had_20, t_holds_21)) F x3_3 0 t_had_11 t_holds_12)))) F 1 0
set_option maxHeartbeats 4000000 in
set_option maxRecDepth 100000 in
theorem kX11_judge (F : Nat) (l : Launch) (D : va_G) (cI cZ cO : ClassId) (sz : Nat) (q_t q_t_text q_t_holds q_t_had q_t_worth q_t_wants q_t_readHolds q_t_readHad q_t_readWorth q_t_rows q_t_kept q_t_isKept q_t_sort q_t_took q_t_tried q_t_planned q_t_from q_t_best q_t_outcome q_t_value q_t_act : Nat) (t_thrown : Int32) (t_textSize : Int32) (t_place : Int32) (t_people : Int32) (t_readPeople : Int32) (t_acts : Int32) (t_sights : Int32) (t_longest : Int32) (t_shortest : Int32) (t_runs : Int32) (t_came : Int32) (t_bestMore : Int32) (t_had : Nat → Int32) (t_holds : Nat → Int32) (i1 : Int32) (i2 : Int32) (o_r : Int32) (o_t_thrown : Int32) (o_t_had : Nat → Int32) (o_t_holds : Nat → Int32) (h : fX11_judge F t_thrown t_people t_had t_holds i1 i2 = some (o_r, o_t_thrown, o_t_had, o_t_holds)) : Met l yX11_judge (nh_w (.code yX11_judge cX11_judge 8 (some .int))) (nh_rm 2) (nh_Pc D cI cZ cO (wlX11_judge cI cZ cO q_t q_t_text q_t_holds q_t_had q_t_worth q_t_wants q_t_readHolds q_t_readHad q_t_readWorth q_t_rows q_t_kept q_t_isKept q_t_sort q_t_took q_t_tried q_t_planned q_t_from q_t_best q_t_outcome q_t_value q_t_act t_thrown t_textSize t_place t_people t_readPeople t_acts t_sights t_longest t_shortest t_runs t_came t_bestMore t_had t_holds) [.ref q_t, .int i1, .int i2] sz) ((nh_Qi D (wlX11_judge cI cZ cO q_t q_t_text q_t_holds q_t_had q_t_worth q_t_wants q_t_readHolds q_t_readHad q_t_readWorth q_t_rows q_t_kept q_t_isKept q_t_sort q_t_took q_t_tried q_t_planned q_t_from q_t_best q_t_outcome q_t_value q_t_act o_t_thrown t_textSize t_place t_people t_readPeople t_acts t_sights t_longest t_shortest t_runs t_came t_bestMore o_t_had o_t_holds) o_r) (va_A (wlX11_judge cI cZ cO q_t q_t_text q_t_holds q_t_had q_t_worth q_t_wants q_t_readHolds q_t_readHad q_t_readWorth q_t_rows q_t_kept q_t_isKept q_t_sort q_t_took q_t_tried q_t_planned q_t_from q_t_best q_t_outcome q_t_value q_t_act t_thrown t_textSize t_place t_people t_readPeople t_acts t_sights t_longest t_shortest t_runs t_came t_bestMore t_had t_holds) sz)) 0 0 (va_A (wlX11_judge cI cZ cO q_t q_t_text q_t_holds q_t_had q_t_worth q_t_wants q_t_readHolds q_t_readHad q_t_readWorth q_t_rows q_t_kept q_t_isKept q_t_sort q_t_took q_t_tried q_t_planned q_t_from q_t_best q_t_outcome q_t_value q_t_act t_thrown t_textSize t_place t_people t_readPeople t_acts t_sights t_longest t_shortest t_runs t_came t_bestMore t_had t_holds) sz) := by
  unfold fX11_judge at h
  refine nh_met (cc := cX11_judge) (maxL := 8) (ret := (some .int)) (nh_Qi D (wlX11_judge cI cZ cO q_t q_t_text q_t_holds q_t_had q_t_worth q_t_wants q_t_readHolds q_t_readHad q_t_readWorth q_t_rows q_t_kept q_t_isKept q_t_sort q_t_took q_t_tried q_t_planned q_t_from q_t_best q_t_outcome q_t_value q_t_act o_t_thrown t_textSize t_place t_people t_readPeople t_acts t_sights t_longest t_shortest t_runs t_came t_bestMore o_t_had o_t_holds) o_r) (by decide) rfl (Nat.le_of_ble_eq_true rfl) ?_
  intro p e s m args below meth c A H locs ls hx hb hml hr hown hts hlocks hinit hP hK hN hD hA hS hl
  have hl : lv_has ls 8 [(0, .ref q_t), (1, .int i1), (2, .int i2)] := hl
  have hts : ∀ w ∈ nh_words, w.before args s = true := fun w h => hts w (List.mem_cons_of_mem _ h)
  refine lv_aload_n hx hb dX11_judge_0 rfl (lv_at hl 0 rfl) ?_
  refine lv_iconst (v := 0) hx hb dX11_judge_1 (by decide) ?_
  refine va_put (D := D) (ci := 10) (v := .int 0) (ty := .int) (C := RX11) (T := TX11) (N := 32) hx hb hts nhu_X11 tyX11 tyX11_ok nmX11 hown hK hP hD hS 0 rfl rfl 0 (by decide) (hts _ nhw_258) (fun _ h9 => h9) rfl (by decide +kernel) rfl rfl (Nat.le_of_ble_eq_true rfl) dX11_judge_2 (fun H locs hP hD hS => ?_)
  have hP : va_P D vwCl (wlX11_judge cI cZ cO q_t q_t_text q_t_holds q_t_had q_t_worth q_t_wants q_t_readHolds q_t_readHad q_t_readWorth q_t_rows q_t_kept q_t_isKept q_t_sort q_t_took q_t_tried q_t_planned q_t_from q_t_best q_t_outcome q_t_value q_t_act 0 t_textSize t_place t_people t_readPeople t_acts t_sights t_longest t_shortest t_runs t_came t_bestMore t_had t_holds) H := hP
  have hD : va_D A (wlX11_judge cI cZ cO q_t q_t_text q_t_holds q_t_had q_t_worth q_t_wants q_t_readHolds q_t_readHad q_t_readWorth q_t_rows q_t_kept q_t_isKept q_t_sort q_t_took q_t_tried q_t_planned q_t_from q_t_best q_t_outcome q_t_value q_t_act 0 t_textSize t_place t_people t_readPeople t_acts t_sights t_longest t_shortest t_runs t_came t_bestMore t_had t_holds) := hD
  refine lv_iconst (v := 1) hx hb dX11_judge_5 (by decide) ?_
  refine lv_istore_n (lv' := [(3, .int 1), (0, .ref q_t), (1, .int i1), (2, .int i2)]) hx hb dX11_judge_6 rfl hl (by decide) rfl (fun ls hl => ?_)
  refine lv_iconst (v := 0) hx hb dX11_judge_7 (by decide) ?_
  refine lv_istore (lv' := [(4, .int 0), (3, .int 1), (0, .ref q_t), (1, .int i1), (2, .int i2)]) hx hb dX11_judge_8 hl (by decide) rfl (fun ls hl => ?_)
  have L10 : ∀ (k10 : Int32 → Int32 → Option (Int32 × Int32 × (Nat → Int32) × (Nat → Int32))), (∀ (x3_3 : Int32) (x4_4 : Int32) (H : Heap) (locs : List Loc) (ls : Array Slot), va_P D vwCl (wlX11_judge cI cZ cO q_t q_t_text q_t_holds q_t_had q_t_worth q_t_wants q_t_readHolds q_t_readHad q_t_readWorth q_t_rows q_t_kept q_t_isKept q_t_sort q_t_took q_t_tried q_t_planned q_t_from q_t_best q_t_outcome q_t_value q_t_act 0 t_textSize t_place t_people t_readPeople t_acts t_sights t_longest t_shortest t_runs t_came t_bestMore t_had t_holds) H → va_D A (wlX11_judge cI cZ cO q_t q_t_text q_t_holds q_t_had q_t_worth q_t_wants q_t_readHolds q_t_readHad q_t_readWorth q_t_rows q_t_kept q_t_isKept q_t_sort q_t_took q_t_tried q_t_planned q_t_from q_t_best q_t_outcome q_t_value q_t_act 0 t_textSize t_place t_people t_readPeople t_acts t_sights t_longest t_shortest t_runs t_came t_bestMore t_had t_holds) → va_S A s.heap H locs → lv_has ls 8 [(0, .ref q_t), (1, .int i1), (2, .int i2), (3, .int x3_3), (4, .int x4_4)] → k10 x3_3 x4_4 = some (o_r, o_t_thrown, o_t_had, o_t_holds) → W p l e (nh_rm 2) s m args below meth c H locs 0 0 (MQ below ((nh_Qi D (wlX11_judge cI cZ cO q_t q_t_text q_t_holds q_t_had q_t_worth q_t_wants q_t_readHolds q_t_readHad q_t_readWorth q_t_rows q_t_kept q_t_isKept q_t_sort q_t_took q_t_tried q_t_planned q_t_from q_t_best q_t_outcome q_t_value q_t_act o_t_thrown t_textSize t_place t_people t_readPeople t_acts t_sights t_longest t_shortest t_runs t_came t_bestMore o_t_had o_t_holds) o_r) A) args s 0 0 A) (F0 m 33 ls [])) → ∀ (n : Nat) (x3_1 : Int32) (x4_2 : Int32) (H : Heap) (locs : List Loc) (ls : Array Slot), va_P D vwCl (wlX11_judge cI cZ cO q_t q_t_text q_t_holds q_t_had q_t_worth q_t_wants q_t_readHolds q_t_readHad q_t_readWorth q_t_rows q_t_kept q_t_isKept q_t_sort q_t_took q_t_tried q_t_planned q_t_from q_t_best q_t_outcome q_t_value q_t_act 0 t_textSize t_place t_people t_readPeople t_acts t_sights t_longest t_shortest t_runs t_came t_bestMore t_had t_holds) H → va_D A (wlX11_judge cI cZ cO q_t q_t_text q_t_holds q_t_had q_t_worth q_t_wants q_t_readHolds q_t_readHad q_t_readWorth q_t_rows q_t_kept q_t_isKept q_t_sort q_t_took q_t_tried q_t_planned q_t_from q_t_best q_t_outcome q_t_value q_t_act 0 t_textSize t_place t_people t_readPeople t_acts t_sights t_longest t_shortest t_runs t_came t_bestMore t_had t_holds) → va_S A s.heap H locs → lv_has ls 8 [(0, .ref q_t), (1, .int i1), (2, .int i2), (3, .int x3_1), (4, .int x4_2)] → fX11_judge_L10 i1 k10 n x3_1 x4_2 = some (o_r, o_t_thrown, o_t_had, o_t_holds) → W p l e (nh_rm 2) s m args below meth c H locs 0 0 (MQ below ((nh_Qi D (wlX11_judge cI cZ cO q_t q_t_text q_t_holds q_t_had q_t_worth q_t_wants q_t_readHolds q_t_readHad q_t_readWorth q_t_rows q_t_kept q_t_isKept q_t_sort q_t_took q_t_tried q_t_planned q_t_from q_t_best q_t_outcome q_t_value q_t_act o_t_thrown t_textSize t_place t_people t_readPeople t_acts t_sights t_longest t_shortest t_runs t_came t_bestMore o_t_had o_t_holds) o_r) A) args s 0 0 A) (F0 m 10 ls []) := by
    intro k10 hk10 n
    induction n with
    | zero => intro x3_1 x4_2 H locs ls hP hD hS hl h; exact (nh_none h).elim
    | succ n10 ih10 =>
      intro x3_1 x4_2 H locs ls hP hD hS hl h
      replace h : fX11_judge_B10 i1 k10 (fX11_judge_L10 i1 k10 n10) x3_1 x4_2 = some (o_r, o_t_thrown, o_t_had, o_t_holds) := h
      unfold fX11_judge_B10 at h
      refine lv_iload hx hb dX11_judge_10 (lv_at hl 4 rfl) ?_
      refine lv_iload_n hx hb dX11_judge_12 rfl (lv_at hl 1 rfl) ?_
      refine lv_icmp_ge (tgt := 33) hx hb dX11_judge_13 (by decide) (fun c5 => ?_) (fun c5 => ?_)
      · replace h := nh_t h c5
        exact hk10 x3_1 x4_2 H locs ls hP hD hS (lv_sub hl [0, 1, 2, 3, 4] rfl) h
      · replace h := nh_f h c5
        refine lv_iload hx hb dX11_judge_16 (lv_at hl 4 rfl) ?_
        refine lv_iconst (v := 4) hx hb dX11_judge_18 (by decide) ?_
        refine lv_icmp_ge (tgt := 33) hx hb dX11_judge_19 (by decide) (fun c6 => ?_) (fun c6 => ?_)
        · replace h := nh_t h c6
          exact hk10 x3_1 x4_2 H locs ls hP hD hS (lv_sub hl [0, 1, 2, 3, 4] rfl) h
        · replace h := nh_f h c6
          refine lv_iload_n hx hb dX11_judge_22 rfl (lv_at hl 3 rfl) ?_
          refine lv_bipush (v := 100) hx hb dX11_judge_23 (by decide) ?_
          refine lv_imul hx hb dX11_judge_25 ?_
          refine lv_topi (fun y_7 ey_7 => ?_)
          replace h := nh_to h ey_7
          refine lv_istore_n (lv' := [(3, .int y_7), (0, .ref q_t), (1, .int i1), (2, .int i2), (4, .int x4_2)]) hx hb dX11_judge_26 rfl hl (by decide) rfl (fun ls hl => ?_)
          obtain ⟨x4_8, ex4_8⟩ : ∃ y : Int32, y = x4_2 + 1 := ⟨_, rfl⟩
          replace h := nh_to h ex4_8
          refine lv_iinc (v := x4_8) (lv' := [(4, .int x4_8), (3, .int y_7), (0, .ref q_t), (1, .int i1), (2, .int i2)]) hx hb dX11_judge_27 hl (k := 4) rfl (by rw [ex4_8]; rfl) (by decide) rfl (fun ls hl => ?_)
          refine lv_goto (tgt := 10) hx hb dX11_judge_30 (by decide) ?_
          exact ih10 y_7 x4_8 H locs ls hP hD hS (lv_sub hl [2, 3, 4, 1, 0] rfl) h
  refine L10 _ (fun x3_3 x4_4 H locs ls hP hD hS hl h => ?_) _ 1 0 H locs ls hP hD hS (lv_sub hl [2, 3, 4, 1, 0] rfl) h
  refine lv_iload_n hx hb dX11_judge_33 rfl (lv_at hl 1 rfl) ?_
  refine lv_i2l hx hb dX11_judge_34 rfl ?_
  refine lv_lconst (v := 1) hx hb dX11_judge_35 rfl ?_
  refine lv_ldc2 (v := 4) hx hb hown (hts _ nhw_190) dX11_judge_36 ?_
  refine nh_goi (nh_S (As := [.long (Int32.toInt64 i1), .long 1, .long 4]) (rest := []) ⟨hx, hb, hml, hown, hts⟩ (kX11_in  l D cI cZ cO H.size (Int32.toInt64 i1) 1 4 (fX11_in (Int32.toInt64 i1) 1 4) rfl) (va_cwS 3 hts (nh_gS nhw_613 nhw_809 nhw_305 nhw_82) rfl rfl rfl (by decide +kernel) ⟨Nat.le_of_ble_eq_true rfl, Nat.le_of_ble_eq_true rfl⟩) hK hN hP hD (isC := []) rfl rfl rfl hl.1 rfl (Nat.le_of_ble_eq_true rfl) dX11_judge_39 ⟨Nat.zero_le _, Nat.zero_le _⟩) hP hD hS hA (isC := []) rfl rfl rfl (w' := (wlX11_judge cI cZ cO q_t q_t_text q_t_holds q_t_had q_t_worth q_t_wants q_t_readHolds q_t_readHad q_t_readWorth q_t_rows q_t_kept q_t_isKept q_t_sort q_t_took q_t_tried q_t_planned q_t_from q_t_best q_t_outcome q_t_value q_t_act 0 t_textSize t_place t_people t_readPeople t_acts t_sights t_longest t_shortest t_runs t_came t_bestMore t_had t_holds)) rfl (fun H locs hP hD hS => ?_)
  refine lv_if_eq (tgt := 58) hx hb dX11_judge_42 (by decide) (fun c9 => ?_) (fun c9 => ?_)
  · replace h := nh_t h c9
    refine lv_bipush (v := (-2)) hx hb dX11_judge_58 (by decide) ?_
    obtain ⟨g0, g1, g2, g3⟩ := nh_i4 h
    exact nh_ri hx hb hr hlocks g0 (by rw [← g1, ← g2, ← g3]; exact hP) hS dX11_judge_60
  · replace h := nh_f h c9
    refine lv_iload_n hx hb dX11_judge_45 rfl (lv_at hl 2 rfl) ?_
    refine lv_i2l hx hb dX11_judge_46 rfl ?_
    refine lv_lconst (v := 0) hx hb dX11_judge_47 rfl ?_
    refine lv_iload_n hx hb dX11_judge_48 rfl (lv_at hl 3 rfl) ?_
    refine lv_iconst (v := 1) hx hb dX11_judge_49 (by decide) ?_
    refine lv_isub hx hb dX11_judge_50 ?_
    refine lv_i2l hx hb dX11_judge_51 rfl ?_
    refine nh_goi (nh_S (As := [.long (Int32.toInt64 i2), .long 0, .long (Int32.toInt64 (x3_3 - 1))]) (rest := []) ⟨hx, hb, hml, hown, hts⟩ (kX11_in  l D cI cZ cO H.size (Int32.toInt64 i2) 0 (Int32.toInt64 (x3_3 - 1)) (fX11_in (Int32.toInt64 i2) 0 (Int32.toInt64 (x3_3 - 1))) rfl) (va_cwS 3 hts (nh_gS nhw_613 nhw_809 nhw_305 nhw_82) rfl rfl rfl (by decide +kernel) ⟨Nat.le_of_ble_eq_true rfl, Nat.le_of_ble_eq_true rfl⟩) hK hN hP hD (isC := []) rfl rfl rfl hl.1 rfl (Nat.le_of_ble_eq_true rfl) dX11_judge_52 ⟨Nat.zero_le _, Nat.zero_le _⟩) hP hD hS hA (isC := []) rfl rfl rfl (w' := (wlX11_judge cI cZ cO q_t q_t_text q_t_holds q_t_had q_t_worth q_t_wants q_t_readHolds q_t_readHad q_t_readWorth q_t_rows q_t_kept q_t_isKept q_t_sort q_t_took q_t_tried q_t_planned q_t_from q_t_best q_t_outcome q_t_value q_t_act 0 t_textSize t_place t_people t_readPeople t_acts t_sights t_longest t_shortest t_runs t_came t_bestMore t_had t_holds)) rfl (fun H locs hP hD hS => ?_)
    refine lv_if_ne (tgt := 61) hx hb dX11_judge_55 (by decide) (fun c10 => ?_) (fun c10 => ?_)
    · replace h := nh_f h c10
      refine lv_aload_n hx hb dX11_judge_61 rfl (lv_at hl 0 rfl) ?_
      refine lv_iconst (v := 0) hx hb dX11_judge_62 (by decide) ?_
      refine lv_iconst (v := 1) hx hb dX11_judge_63 (by decide) ?_
      obtain ⟨t_had_11, t_holds_12, hc13, h⟩ := nh_b2_some h
      refine nh_gov (nh_V (As := [.int 0, .int 1]) (rest := []) ⟨hx, hb, hml, hown, hts⟩ (kX11_layAt F l D cI cZ cO H.size q_t q_t_text q_t_holds q_t_had q_t_worth q_t_wants q_t_readHolds q_t_readHad q_t_readWorth q_t_rows q_t_kept q_t_isKept q_t_sort q_t_took q_t_tried q_t_planned q_t_from q_t_best q_t_outcome q_t_value q_t_act 0 t_textSize t_place t_people t_readPeople t_acts t_sights t_longest t_shortest t_runs t_came t_bestMore t_had t_holds 0 1 t_had_11 t_holds_12 hc13) (cwV 2 hts (nh_gV nhw_599 nhw_379 nhw_747 nhw_305 nhw_87) rfl rfl rfl (by decide +kernel) ⟨Nat.le_of_ble_eq_true rfl, Nat.le_of_ble_eq_true rfl⟩) hK hN hP hD (isC := [0, 1, 2]) rfl rfl 0 10 rfl rfl rfl rfl hl.1 rfl (Nat.le_of_ble_eq_true rfl) dX11_judge_64 ⟨Nat.zero_le _, Nat.zero_le _⟩) hP hD hS hA (isC := [0, 1, 2]) rfl rfl rfl (w' := (wlX11_judge cI cZ cO q_t q_t_text q_t_holds q_t_had q_t_worth q_t_wants q_t_readHolds q_t_readHad q_t_readWorth q_t_rows q_t_kept q_t_isKept q_t_sort q_t_took q_t_tried q_t_planned q_t_from q_t_best q_t_outcome q_t_value q_t_act 0 t_textSize t_place t_people t_readPeople t_acts t_sights t_longest t_shortest t_runs t_came t_bestMore t_had_11 t_holds_12)) rfl (fun H locs hP hD hS => ?_)
      refine lv_iconst (v := 0) hx hb dX11_judge_67 (by decide) ?_
      refine lv_istore (lv' := [(4, .int 0), (0, .ref q_t), (1, .int i1), (2, .int i2), (3, .int x3_3)]) hx hb dX11_judge_68 hl (by decide) rfl (fun ls hl => ?_)
      have L70 : ∀ (k70 : Int32 → Int32 → (Nat → Int32) → (Nat → Int32) → Option (Int32 × Int32 × (Nat → Int32) × (Nat → Int32))), (∀ (x3_18 : Int32) (x4_19 : Int32) (t_had_20 : Nat → Int32) (t_holds_21 : Nat → Int32) (H : Heap) (locs : List Loc) (ls : Array Slot), va_P D vwCl (wlX11_judge cI cZ cO q_t q_t_text q_t_holds q_t_had q_t_worth q_t_wants q_t_readHolds q_t_readHad q_t_readWorth q_t_rows q_t_kept q_t_isKept q_t_sort q_t_took q_t_tried q_t_planned q_t_from q_t_best q_t_outcome q_t_value q_t_act 0 t_textSize t_place t_people t_readPeople t_acts t_sights t_longest t_shortest t_runs t_came t_bestMore t_had_20 t_holds_21) H → va_D A (wlX11_judge cI cZ cO q_t q_t_text q_t_holds q_t_had q_t_worth q_t_wants q_t_readHolds q_t_readHad q_t_readWorth q_t_rows q_t_kept q_t_isKept q_t_sort q_t_took q_t_tried q_t_planned q_t_from q_t_best q_t_outcome q_t_value q_t_act 0 t_textSize t_place t_people t_readPeople t_acts t_sights t_longest t_shortest t_runs t_came t_bestMore t_had_20 t_holds_21) → va_S A s.heap H locs → lv_has ls 8 [(0, .ref q_t), (1, .int i1), (2, .int i2), (3, .int x3_18), (4, .int x4_19)] → k70 x3_18 x4_19 t_had_20 t_holds_21 = some (o_r, o_t_thrown, o_t_had, o_t_holds) → W p l e (nh_rm 2) s m args below meth c H locs 0 0 (MQ below ((nh_Qi D (wlX11_judge cI cZ cO q_t q_t_text q_t_holds q_t_had q_t_worth q_t_wants q_t_readHolds q_t_readHad q_t_readWorth q_t_rows q_t_kept q_t_isKept q_t_sort q_t_took q_t_tried q_t_planned q_t_from q_t_best q_t_outcome q_t_value q_t_act o_t_thrown t_textSize t_place t_people t_readPeople t_acts t_sights t_longest t_shortest t_runs t_came t_bestMore o_t_had o_t_holds) o_r) A) args s 0 0 A) (F0 m 151 ls [])) → ∀ (n : Nat) (x3_14 : Int32) (x4_15 : Int32) (t_had_16 : Nat → Int32) (t_holds_17 : Nat → Int32) (H : Heap) (locs : List Loc) (ls : Array Slot), va_P D vwCl (wlX11_judge cI cZ cO q_t q_t_text q_t_holds q_t_had q_t_worth q_t_wants q_t_readHolds q_t_readHad q_t_readWorth q_t_rows q_t_kept q_t_isKept q_t_sort q_t_took q_t_tried q_t_planned q_t_from q_t_best q_t_outcome q_t_value q_t_act 0 t_textSize t_place t_people t_readPeople t_acts t_sights t_longest t_shortest t_runs t_came t_bestMore t_had_16 t_holds_17) H → va_D A (wlX11_judge cI cZ cO q_t q_t_text q_t_holds q_t_had q_t_worth q_t_wants q_t_readHolds q_t_readHad q_t_readWorth q_t_rows q_t_kept q_t_isKept q_t_sort q_t_took q_t_tried q_t_planned q_t_from q_t_best q_t_outcome q_t_value q_t_act 0 t_textSize t_place t_people t_readPeople t_acts t_sights t_longest t_shortest t_runs t_came t_bestMore t_had_16 t_holds_17) → va_S A s.heap H locs → lv_has ls 8 [(0, .ref q_t), (1, .int i1), (2, .int i2), (3, .int x3_14), (4, .int x4_15)] → fX11_judge_L70 t_people i1 i2 k70 n x3_14 x4_15 t_had_16 t_holds_17 = some (o_r, o_t_thrown, o_t_had, o_t_holds) → W p l e (nh_rm 2) s m args below meth c H locs 0 0 (MQ below ((nh_Qi D (wlX11_judge cI cZ cO q_t q_t_text q_t_holds q_t_had q_t_worth q_t_wants q_t_readHolds q_t_readHad q_t_readWorth q_t_rows q_t_kept q_t_isKept q_t_sort q_t_took q_t_tried q_t_planned q_t_from q_t_best q_t_outcome q_t_value q_t_act o_t_thrown t_textSize t_place t_people t_readPeople t_acts t_sights t_longest t_shortest t_runs t_came t_bestMore o_t_had o_t_holds) o_r) A) args s 0 0 A) (F0 m 70 ls []) := by
        intro k70 hk70 n
        induction n with
        | zero => intro x3_14 x4_15 t_had_16 t_holds_17 H locs ls hP hD hS hl h; exact (nh_none h).elim
        | succ n70 ih70 =>
          intro x3_14 x4_15 t_had_16 t_holds_17 H locs ls hP hD hS hl h
          replace h : fX11_judge_B70 t_people i1 i2 k70 (fX11_judge_L70 t_people i1 i2 k70 n70) x3_14 x4_15 t_had_16 t_holds_17 = some (o_r, o_t_thrown, o_t_had, o_t_holds) := h
          unfold fX11_judge_B70 at h
          refine lv_iload hx hb dX11_judge_70 (lv_at hl 4 rfl) ?_
          refine lv_iload_n hx hb dX11_judge_72 rfl (lv_at hl 1 rfl) ?_
          refine lv_icmp_ge (tgt := 151) hx hb dX11_judge_73 (by decide) (fun c22 => ?_) (fun c22 => ?_)
          · replace h := nh_t h c22
            exact hk70 x3_14 x4_15 t_had_16 t_holds_17 H locs ls hP hD hS (lv_sub hl [0, 1, 2, 3, 4] rfl) h
          · replace h := nh_f h c22
            refine lv_iload_n hx hb dX11_judge_76 rfl (lv_at hl 3 rfl) ?_
            refine lv_bipush (v := 100) hx hb dX11_judge_77 (by decide) ?_
            refine lv_idiv hx hb dX11_judge_79 (by decide) ?_
            refine lv_topi (fun y_23 ey_23 => ?_)
            replace h := nh_to h ey_23
            refine lv_istore_n (lv' := [(3, .int y_23), (0, .ref q_t), (1, .int i1), (2, .int i2), (4, .int x4_15)]) hx hb dX11_judge_80 rfl hl (by decide) rfl (fun ls hl => ?_)
            refine lv_iload_n hx hb dX11_judge_81 rfl (lv_at hl 3 rfl) ?_
            refine lv_iload_n hx hb dX11_judge_82 rfl (lv_at hl 0 rfl) ?_
            obtain ⟨z24, h⟩ := nh_chk_some h
            refine lv_idiv hx hb dX11_judge_83 (of_decide_eq_true z24) ?_
            refine lv_bipush (v := 100) hx hb dX11_judge_84 (by decide) ?_
            refine lv_irem hx hb dX11_judge_86 (by decide) ?_
            refine lv_topi (fun y_25 ey_25 => ?_)
            replace h := nh_to h ey_25
            refine lv_istore (lv' := [(5, .int y_25), (3, .int y_23), (0, .ref q_t), (1, .int i1), (2, .int i2), (4, .int x4_15)]) hx hb dX11_judge_87 hl (by decide) rfl (fun ls hl => ?_)
            refine lv_iload hx hb dX11_judge_89 (lv_at hl 0 rfl) ?_
            refine lv_bipush (v := 10) hx hb dX11_judge_91 (by decide) ?_
            refine lv_idiv hx hb dX11_judge_93 (by decide) ?_
            refine lv_topi (fun y_26 ey_26 => ?_)
            replace h := nh_to h ey_26
            refine lv_istore (lv' := [(6, .int y_26), (5, .int y_25), (3, .int y_23), (0, .ref q_t), (1, .int i1), (2, .int i2), (4, .int x4_15)]) hx hb dX11_judge_94 hl (by decide) rfl (fun ls hl => ?_)
            refine lv_iload hx hb dX11_judge_96 (lv_at hl 1 rfl) ?_
            refine lv_bipush (v := 10) hx hb dX11_judge_98 (by decide) ?_
            refine lv_irem hx hb dX11_judge_100 (by decide) ?_
            refine lv_topi (fun y_27 ey_27 => ?_)
            replace h := nh_to h ey_27
            refine lv_istore (lv' := [(7, .int y_27), (6, .int y_26), (5, .int y_25), (3, .int y_23), (0, .ref q_t), (1, .int i1), (2, .int i2), (4, .int x4_15)]) hx hb dX11_judge_101 hl (by decide) rfl (fun ls hl => ?_)
            refine lv_aload_n hx hb dX11_judge_103 rfl (lv_at hl 4 rfl) ?_
            refine lv_iload hx hb dX11_judge_104 (lv_at hl 1 rfl) ?_
            refine nh_goi (nh_V (As := [.int y_26]) (rest := []) ⟨hx, hb, hml, hown, hts⟩ (kX11_noOne  l D cI cZ cO H.size q_t q_t_text q_t_holds q_t_had q_t_worth q_t_wants q_t_readHolds q_t_readHad q_t_readWorth q_t_rows q_t_kept q_t_isKept q_t_sort q_t_took q_t_tried q_t_planned q_t_from q_t_best q_t_outcome q_t_value q_t_act 0 t_textSize t_place t_people t_readPeople t_acts t_sights t_longest t_shortest t_runs t_came t_bestMore y_26 (fX11_noOne t_people y_26) rfl) (cwV 1 hts (nh_gV nhw_594 nhw_390 nhw_758 nhw_305 nhw_98) rfl rfl rfl (by decide +kernel) ⟨Nat.le_of_ble_eq_true rfl, Nat.le_of_ble_eq_true rfl⟩) hK hN hP hD (isC := [0]) rfl rfl 0 10 rfl rfl rfl rfl hl.1 rfl (Nat.le_of_ble_eq_true rfl) dX11_judge_106 ⟨Nat.zero_le _, Nat.zero_le _⟩) hP hD hS hA (isC := [0]) rfl rfl rfl (w' := (wlX11_judge cI cZ cO q_t q_t_text q_t_holds q_t_had q_t_worth q_t_wants q_t_readHolds q_t_readHad q_t_readWorth q_t_rows q_t_kept q_t_isKept q_t_sort q_t_took q_t_tried q_t_planned q_t_from q_t_best q_t_outcome q_t_value q_t_act 0 t_textSize t_place t_people t_readPeople t_acts t_sights t_longest t_shortest t_runs t_came t_bestMore t_had_16 t_holds_17)) rfl (fun H locs hP hD hS => ?_)
            refine lv_if_ne (tgt := 133) hx hb dX11_judge_109 (by decide) (fun c28 => ?_) (fun c28 => ?_)
            · replace h := nh_f h c28
              refine lv_iload hx hb dX11_judge_133 (lv_at hl 7 rfl) ?_
              obtain ⟨g0, g1, g2, g3⟩ := nh_i4 h
              exact nh_ri hx hb hr hlocks g0 (by rw [← g1, ← g2, ← g3]; exact hP) hS dX11_judge_135
            · replace h := nh_t h c28
              refine lv_aload_n hx hb dX11_judge_112 rfl (lv_at hl 4 rfl) ?_
              refine lv_iload hx hb dX11_judge_113 (lv_at hl 0 rfl) ?_
              refine nh_goi (nh_V (As := [.int y_27]) (rest := []) ⟨hx, hb, hml, hown, hts⟩ (kX11_noOne  l D cI cZ cO H.size q_t q_t_text q_t_holds q_t_had q_t_worth q_t_wants q_t_readHolds q_t_readHad q_t_readWorth q_t_rows q_t_kept q_t_isKept q_t_sort q_t_took q_t_tried q_t_planned q_t_from q_t_best q_t_outcome q_t_value q_t_act 0 t_textSize t_place t_people t_readPeople t_acts t_sights t_longest t_shortest t_runs t_came t_bestMore y_27 (fX11_noOne t_people y_27) rfl) (cwV 1 hts (nh_gV nhw_594 nhw_390 nhw_758 nhw_305 nhw_98) rfl rfl rfl (by decide +kernel) ⟨Nat.le_of_ble_eq_true rfl, Nat.le_of_ble_eq_true rfl⟩) hK hN hP hD (isC := [0]) rfl rfl 0 10 rfl rfl rfl rfl hl.1 rfl (Nat.le_of_ble_eq_true rfl) dX11_judge_115 ⟨Nat.zero_le _, Nat.zero_le _⟩) hP hD hS hA (isC := [0]) rfl rfl rfl (w' := (wlX11_judge cI cZ cO q_t q_t_text q_t_holds q_t_had q_t_worth q_t_wants q_t_readHolds q_t_readHad q_t_readWorth q_t_rows q_t_kept q_t_isKept q_t_sort q_t_took q_t_tried q_t_planned q_t_from q_t_best q_t_outcome q_t_value q_t_act 0 t_textSize t_place t_people t_readPeople t_acts t_sights t_longest t_shortest t_runs t_came t_bestMore t_had_16 t_holds_17)) rfl (fun H locs hP hD hS => ?_)
              refine lv_if_ne (tgt := 133) hx hb dX11_judge_118 (by decide) (fun c29 => ?_) (fun c29 => ?_)
              · replace h := nh_f h c29
                refine lv_iload hx hb dX11_judge_133 (lv_at hl 7 rfl) ?_
                obtain ⟨g0, g1, g2, g3⟩ := nh_i4 h
                exact nh_ri hx hb hr hlocks g0 (by rw [← g1, ← g2, ← g3]; exact hP) hS dX11_judge_135
              · replace h := nh_t h c29
                refine lv_aload_n hx hb dX11_judge_121 rfl (lv_at hl 4 rfl) ?_
                refine lv_iconst (v := 1) hx hb dX11_judge_122 (by decide) ?_
                refine lv_iload hx hb dX11_judge_123 (lv_at hl 1 rfl) ?_
                refine lv_iload hx hb dX11_judge_125 (lv_at hl 0 rfl) ?_
                obtain ⟨r_30, hc31, h⟩ := nh_b1_some h
                refine nh_goi (nh_V (As := [.int 1, .int y_26, .int y_27]) (rest := []) ⟨hx, hb, hml, hown, hts⟩ (kX11_mayAt  l D cI cZ cO H.size q_t q_t_text q_t_holds q_t_had q_t_worth q_t_wants q_t_readHolds q_t_readHad q_t_readWorth q_t_rows q_t_kept q_t_isKept q_t_sort q_t_took q_t_tried q_t_planned q_t_from q_t_best q_t_outcome q_t_value q_t_act 0 t_textSize t_place t_people t_readPeople t_acts t_sights t_longest t_shortest t_runs t_came t_bestMore t_had_16 t_holds_17 1 y_26 y_27 r_30 hc31) (cwV 3 hts (nh_gV nhw_596 nhw_384 nhw_752 nhw_305 nhw_92) rfl rfl rfl (by decide +kernel) ⟨Nat.le_of_ble_eq_true rfl, Nat.le_of_ble_eq_true rfl⟩) hK hN hP hD (isC := [0, 1, 2]) rfl rfl 0 10 rfl rfl rfl rfl hl.1 rfl (Nat.le_of_ble_eq_true rfl) dX11_judge_127 ⟨Nat.zero_le _, Nat.zero_le _⟩) hP hD hS hA (isC := [0, 1, 2]) rfl rfl rfl (w' := (wlX11_judge cI cZ cO q_t q_t_text q_t_holds q_t_had q_t_worth q_t_wants q_t_readHolds q_t_readHad q_t_readWorth q_t_rows q_t_kept q_t_isKept q_t_sort q_t_took q_t_tried q_t_planned q_t_from q_t_best q_t_outcome q_t_value q_t_act 0 t_textSize t_place t_people t_readPeople t_acts t_sights t_longest t_shortest t_runs t_came t_bestMore t_had_16 t_holds_17)) rfl (fun H locs hP hD hS => ?_)
                refine lv_if_ne (tgt := 136) hx hb dX11_judge_130 (by decide) (fun c32 => ?_) (fun c32 => ?_)
                · replace h := nh_f h c32
                  refine lv_aload_n hx hb dX11_judge_136 rfl (lv_at hl 4 rfl) ?_
                  refine lv_iconst (v := 1) hx hb dX11_judge_137 (by decide) ?_
                  refine lv_iload hx hb dX11_judge_138 (lv_at hl 1 rfl) ?_
                  refine lv_iload hx hb dX11_judge_140 (lv_at hl 0 rfl) ?_
                  obtain ⟨t_had_33, t_holds_34, hc35, h⟩ := nh_b2_some h
                  refine nh_gov (nh_V (As := [.int 1, .int y_26, .int y_27]) (rest := []) ⟨hx, hb, hml, hown, hts⟩ (kX11_goAt  l D cI cZ cO H.size q_t q_t_text q_t_holds q_t_had q_t_worth q_t_wants q_t_readHolds q_t_readHad q_t_readWorth q_t_rows q_t_kept q_t_isKept q_t_sort q_t_took q_t_tried q_t_planned q_t_from q_t_best q_t_outcome q_t_value q_t_act 0 t_textSize t_place t_people t_readPeople t_acts t_sights t_longest t_shortest t_runs t_came t_bestMore t_had_16 t_holds_17 1 y_26 y_27 t_had_33 t_holds_34 hc35) (cwV 3 hts (nh_gV nhw_598 nhw_369 nhw_738 nhw_305 nhw_75) rfl rfl rfl (by decide +kernel) ⟨Nat.le_of_ble_eq_true rfl, Nat.le_of_ble_eq_true rfl⟩) hK hN hP hD (isC := [0, 1, 2]) rfl rfl 0 10 rfl rfl rfl rfl hl.1 rfl (Nat.le_of_ble_eq_true rfl) dX11_judge_142 ⟨Nat.zero_le _, Nat.zero_le _⟩) hP hD hS hA (isC := [0, 1, 2]) rfl rfl rfl (w' := (wlX11_judge cI cZ cO q_t q_t_text q_t_holds q_t_had q_t_worth q_t_wants q_t_readHolds q_t_readHad q_t_readWorth q_t_rows q_t_kept q_t_isKept q_t_sort q_t_took q_t_tried q_t_planned q_t_from q_t_best q_t_outcome q_t_value q_t_act 0 t_textSize t_place t_people t_readPeople t_acts t_sights t_longest t_shortest t_runs t_came t_bestMore t_had_33 t_holds_34)) rfl (fun H locs hP hD hS => ?_)
                  obtain ⟨x4_36, ex4_36⟩ : ∃ y : Int32, y = x4_15 + 1 := ⟨_, rfl⟩
                  replace h := nh_to h ex4_36
                  refine lv_iinc (v := x4_36) (lv' := [(4, .int x4_36), (7, .int y_27), (6, .int y_26), (5, .int y_25), (3, .int y_23), (0, .ref q_t), (1, .int i1), (2, .int i2)]) hx hb dX11_judge_145 hl (k := 7) rfl (by rw [ex4_36]; rfl) (by decide) rfl (fun ls hl => ?_)
                  refine lv_goto (tgt := 70) hx hb dX11_judge_148 (by decide) ?_
                  exact ih70 y_23 x4_36 t_had_33 t_holds_34 H locs ls hP hD hS (lv_sub hl [5, 6, 7, 4, 0] rfl) h
                · replace h := nh_t h c32
                  refine lv_iload hx hb dX11_judge_133 (lv_at hl 7 rfl) ?_
                  obtain ⟨g0, g1, g2, g3⟩ := nh_i4 h
                  exact nh_ri hx hb hr hlocks g0 (by rw [← g1, ← g2, ← g3]; exact hP) hS dX11_judge_135
      refine L70 _ (fun x3_18 x4_19 t_had_20 t_holds_21 H locs ls hP hD hS hl h => ?_) _ x3_3 0 t_had_11 t_holds_12 H locs ls hP hD hS (lv_sub hl [1, 2, 3, 4, 0] rfl) h
      refine lv_bipush (v := (-9)) hx hb dX11_judge_151 (by decide) ?_
      obtain ⟨g0, g1, g2, g3⟩ := nh_i4 h
      exact nh_ri hx hb hr hlocks g0 (by rw [← g1, ← g2, ← g3]; exact hP) hS dX11_judge_153
    · replace h := nh_t h c10
      refine lv_bipush (v := (-2)) hx hb dX11_judge_58 (by decide) ?_
      obtain ⟨g0, g1, g2, g3⟩ := nh_i4 h
      exact nh_ri hx hb hr hlocks g0 (by rw [← g1, ← g2, ← g3]; exact hP) hS dX11_judge_60
abbrev wlX11_next (cI cZ cO : ClassId) (q_t q_t_text q_t_holds q_t_had q_t_worth q_t_wants q_t_readHolds q_t_readHad q_t_readWorth q_t_rows q_t_kept q_t_isKept q_t_sort q_t_took q_t_tried q_t_planned q_t_from q_t_best q_t_outcome q_t_value q_t_act : Nat) (t_thrown : Int32) (t_textSize : Int32) (t_place : Int32) (t_people : Int32) (t_readPeople : Int32) (t_acts : Int32) (t_sights : Int32) (t_longest : Int32) (t_shortest : Int32) (t_runs : Int32) (t_came : Int32) (t_bestMore : Int32) (t_had : Nat → Int32) (t_holds : Nat → Int32) (t_tried : Nat → Int32) : va_W := [(q_t, .inr (10, [.int t_thrown, .ref q_t_text, .int t_textSize, .int t_place, .int t_people, .ref q_t_holds, .ref q_t_had, .ref q_t_worth, .ref q_t_wants, .int t_readPeople, .ref q_t_readHolds, .ref q_t_readHad, .ref q_t_readWorth, .ref q_t_rows, .int t_acts, .ref q_t_kept, .ref q_t_isKept, .int t_sights, .ref q_t_sort, .ref q_t_took, .ref q_t_tried, .int t_longest, .int t_shortest, .int t_runs, .int t_came, .ref q_t_planned, .ref q_t_from, .ref q_t_best, .int t_bestMore, .ref q_t_outcome, .ref q_t_value, .ref q_t_act])), (q_t_had, .inl (cI, 56, .inl t_had)), (q_t_holds, .inl (cI, 56, .inl t_holds)), (q_t_tried, .inl (cI, 14, .inl t_tried))]
def fX11_next_B9 (t_people : Int32) (t_had : Nat → Int32) (t_holds : Nat → Int32) (t_tried : Nat → Int32) (i1 : Int32) (F : Nat) (k9 : Int32 → Option (Int32 × (Nat → Int32) × (Nat → Int32) × (Nat → Int32))) (r9 : Int32 → Option (Int32 × (Nat → Int32) × (Nat → Int32) × (Nat → Int32))) (x2_3 : Int32) : Option (Int32 × (Nat → Int32) × (Nat → Int32) × (Nat → Int32)) :=
  (if 40 ≤ x2_3 then k9 x2_3
 else nh_let (α := Int32) ((x2_3 / 10)) (fun y_6 => nh_let (α := Int32) ((x2_3 - x2_3 / 10 * 10)) (fun y_7 => (if y_7 ≤ y_6 then nh_let (α := Int32) (x2_3 + 1) (fun x2_9 => r9 x2_9)
 else (if t_people ≤ y_7 then nh_let (α := Int32) (x2_3 + 1) (fun x2_11 => r9 x2_11)
 else nh_b1 (fX11_mayAt t_had t_holds i1 y_6 y_7) (fun r_12 => (if r_12 = 0 then nh_let (α := Int32) (x2_3 + 1) (fun x2_15 => r9 x2_15)
 else nh_chk (nh_in i1 14) (nh_let (α := Nat → Int32) (upd t_tried (Int32.toNatClampNeg i1) x2_3) (fun t_tried_17 => nh_b2 (fX11_layAt F t_people t_had t_holds i1 (i1 + 1)) (fun t_had_18 t_holds_19 => nh_b2 (fX11_goAt t_had_18 t_holds_19 (i1 + 1) y_6 y_7) (fun t_had_21 t_holds_22 => some (1, t_had_21, t_holds_22, t_tried_17))))))))))))
def fX11_next_L9 (t_people : Int32) (t_had : Nat → Int32) (t_holds : Nat → Int32) (t_tried : Nat → Int32) (i1 : Int32) (F : Nat) (k9 : Int32 → Option (Int32 × (Nat → Int32) × (Nat → Int32) × (Nat → Int32))) : Nat → Int32 → Option (Int32 × (Nat → Int32) × (Nat → Int32) × (Nat → Int32))
  | 0 => fun _ => none
  | n + 1 => fX11_next_B9 t_people t_had t_holds t_tried i1 F k9 (fX11_next_L9 t_people t_had t_holds t_tried i1 F k9 n)
def fX11_next (F : Nat) (t_people : Int32) (t_had : Nat → Int32) (t_holds : Nat → Int32) (t_tried : Nat → Int32) (i1 : Int32) : Option (Int32 × (Nat → Int32) × (Nat → Int32) × (Nat → Int32)) :=
  nh_chk (nh_in i1 14) (nh_let (α := Int32) (((t_tried (Int32.toNatClampNeg i1)) + 1)) (fun y_2 => fX11_next_L9 t_people t_had t_holds t_tried i1 F (fun x2_4 => some (0, t_had, t_holds, t_tried)) F y_2))
set_option maxHeartbeats 4000000 in
set_option maxRecDepth 100000 in
theorem kX11_next (F : Nat) (l : Launch) (D : va_G) (cI cZ cO : ClassId) (sz : Nat) (q_t q_t_text q_t_holds q_t_had q_t_worth q_t_wants q_t_readHolds q_t_readHad q_t_readWorth q_t_rows q_t_kept q_t_isKept q_t_sort q_t_took q_t_tried q_t_planned q_t_from q_t_best q_t_outcome q_t_value q_t_act : Nat) (t_thrown : Int32) (t_textSize : Int32) (t_place : Int32) (t_people : Int32) (t_readPeople : Int32) (t_acts : Int32) (t_sights : Int32) (t_longest : Int32) (t_shortest : Int32) (t_runs : Int32) (t_came : Int32) (t_bestMore : Int32) (t_had : Nat → Int32) (t_holds : Nat → Int32) (t_tried : Nat → Int32) (i1 : Int32) (o_r : Int32) (o_t_had : Nat → Int32) (o_t_holds : Nat → Int32) (o_t_tried : Nat → Int32) (h : fX11_next F t_people t_had t_holds t_tried i1 = some (o_r, o_t_had, o_t_holds, o_t_tried)) : Met l yX11_next (nh_w (.code yX11_next cX11_next 5 (some .boolean))) (nh_rm 2) (nh_Pc D cI cZ cO (wlX11_next cI cZ cO q_t q_t_text q_t_holds q_t_had q_t_worth q_t_wants q_t_readHolds q_t_readHad q_t_readWorth q_t_rows q_t_kept q_t_isKept q_t_sort q_t_took q_t_tried q_t_planned q_t_from q_t_best q_t_outcome q_t_value q_t_act t_thrown t_textSize t_place t_people t_readPeople t_acts t_sights t_longest t_shortest t_runs t_came t_bestMore t_had t_holds t_tried) [.ref q_t, .int i1] sz) ((nh_Qi D (wlX11_next cI cZ cO q_t q_t_text q_t_holds q_t_had q_t_worth q_t_wants q_t_readHolds q_t_readHad q_t_readWorth q_t_rows q_t_kept q_t_isKept q_t_sort q_t_took q_t_tried q_t_planned q_t_from q_t_best q_t_outcome q_t_value q_t_act t_thrown t_textSize t_place t_people t_readPeople t_acts t_sights t_longest t_shortest t_runs t_came t_bestMore o_t_had o_t_holds o_t_tried) o_r) (va_A (wlX11_next cI cZ cO q_t q_t_text q_t_holds q_t_had q_t_worth q_t_wants q_t_readHolds q_t_readHad q_t_readWorth q_t_rows q_t_kept q_t_isKept q_t_sort q_t_took q_t_tried q_t_planned q_t_from q_t_best q_t_outcome q_t_value q_t_act t_thrown t_textSize t_place t_people t_readPeople t_acts t_sights t_longest t_shortest t_runs t_came t_bestMore t_had t_holds t_tried) sz)) 0 0 (va_A (wlX11_next cI cZ cO q_t q_t_text q_t_holds q_t_had q_t_worth q_t_wants q_t_readHolds q_t_readHad q_t_readWorth q_t_rows q_t_kept q_t_isKept q_t_sort q_t_took q_t_tried q_t_planned q_t_from q_t_best q_t_outcome q_t_value q_t_act t_thrown t_textSize t_place t_people t_readPeople t_acts t_sights t_longest t_shortest t_runs t_came t_bestMore t_had t_holds t_tried) sz) := by
  unfold fX11_next at h
  refine nh_met (cc := cX11_next) (maxL := 5) (ret := (some .boolean)) (nh_Qi D (wlX11_next cI cZ cO q_t q_t_text q_t_holds q_t_had q_t_worth q_t_wants q_t_readHolds q_t_readHad q_t_readWorth q_t_rows q_t_kept q_t_isKept q_t_sort q_t_took q_t_tried q_t_planned q_t_from q_t_best q_t_outcome q_t_value q_t_act t_thrown t_textSize t_place t_people t_readPeople t_acts t_sights t_longest t_shortest t_runs t_came t_bestMore o_t_had o_t_holds o_t_tried) o_r) (by decide) rfl (Nat.le_of_ble_eq_true rfl) ?_
  intro p e s m args below meth c A H locs ls hx hb hml hr hown hts hlocks hinit hP hK hN hD hA hS hl
  have hl : lv_has ls 5 [(0, .ref q_t), (1, .int i1)] := hl
  have hts : ∀ w ∈ nh_words, w.before args s = true := fun w h => hts w (List.mem_cons_of_mem _ h)
  refine lv_aload_n hx hb dX11_next_0 rfl (lv_at hl 0 rfl) ?_
  refine va_get (D := D) (ci := 10) (v := .ref q_t_tried) (C := RX11) (T := TX11) (N := 32) hx hb hts nhu_X11 hown hK hP 0 rfl rfl 20 (by decide) (hts _ nhw_250) (fun _ h9 => h9) rfl dX11_next_1 ?_
  refine lv_iload_n hx hb dX11_next_4 rfl (lv_at hl 1 rfl) ?_
  obtain ⟨z1, h⟩ := nh_chk_some h
  refine va_iald hx hb hK hP 3 0 rfl rfl (nh_in_in z1) dX11_next_5 ?_
  refine lv_iconst (v := 1) hx hb dX11_next_6 (by decide) ?_
  refine lv_iadd hx hb dX11_next_7 ?_
  refine lv_topi (fun y_2 ey_2 => ?_)
  replace h := nh_to h ey_2
  refine lv_istore_n (lv' := [(2, .int y_2), (0, .ref q_t), (1, .int i1)]) hx hb dX11_next_8 rfl hl (by decide) rfl (fun ls hl => ?_)
  have L9 : ∀ (k9 : Int32 → Option (Int32 × (Nat → Int32) × (Nat → Int32) × (Nat → Int32))), (∀ (x2_4 : Int32) (H : Heap) (locs : List Loc) (ls : Array Slot), va_P D vwCl (wlX11_next cI cZ cO q_t q_t_text q_t_holds q_t_had q_t_worth q_t_wants q_t_readHolds q_t_readHad q_t_readWorth q_t_rows q_t_kept q_t_isKept q_t_sort q_t_took q_t_tried q_t_planned q_t_from q_t_best q_t_outcome q_t_value q_t_act t_thrown t_textSize t_place t_people t_readPeople t_acts t_sights t_longest t_shortest t_runs t_came t_bestMore t_had t_holds t_tried) H → va_D A (wlX11_next cI cZ cO q_t q_t_text q_t_holds q_t_had q_t_worth q_t_wants q_t_readHolds q_t_readHad q_t_readWorth q_t_rows q_t_kept q_t_isKept q_t_sort q_t_took q_t_tried q_t_planned q_t_from q_t_best q_t_outcome q_t_value q_t_act t_thrown t_textSize t_place t_people t_readPeople t_acts t_sights t_longest t_shortest t_runs t_came t_bestMore t_had t_holds t_tried) → va_S A s.heap H locs → lv_has ls 5 [(0, .ref q_t), (1, .int i1), (2, .int x2_4)] → k9 x2_4 = some (o_r, o_t_had, o_t_holds, o_t_tried) → W p l e (nh_rm 2) s m args below meth c H locs 0 0 (MQ below ((nh_Qi D (wlX11_next cI cZ cO q_t q_t_text q_t_holds q_t_had q_t_worth q_t_wants q_t_readHolds q_t_readHad q_t_readWorth q_t_rows q_t_kept q_t_isKept q_t_sort q_t_took q_t_tried q_t_planned q_t_from q_t_best q_t_outcome q_t_value q_t_act t_thrown t_textSize t_place t_people t_readPeople t_acts t_sights t_longest t_shortest t_runs t_came t_bestMore o_t_had o_t_holds o_t_tried) o_r) A) args s 0 0 A) (F0 m 85 ls [])) → ∀ (n : Nat) (x2_3 : Int32) (H : Heap) (locs : List Loc) (ls : Array Slot), va_P D vwCl (wlX11_next cI cZ cO q_t q_t_text q_t_holds q_t_had q_t_worth q_t_wants q_t_readHolds q_t_readHad q_t_readWorth q_t_rows q_t_kept q_t_isKept q_t_sort q_t_took q_t_tried q_t_planned q_t_from q_t_best q_t_outcome q_t_value q_t_act t_thrown t_textSize t_place t_people t_readPeople t_acts t_sights t_longest t_shortest t_runs t_came t_bestMore t_had t_holds t_tried) H → va_D A (wlX11_next cI cZ cO q_t q_t_text q_t_holds q_t_had q_t_worth q_t_wants q_t_readHolds q_t_readHad q_t_readWorth q_t_rows q_t_kept q_t_isKept q_t_sort q_t_took q_t_tried q_t_planned q_t_from q_t_best q_t_outcome q_t_value q_t_act t_thrown t_textSize t_place t_people t_readPeople t_acts t_sights t_longest t_shortest t_runs t_came t_bestMore t_had t_holds t_tried) → va_S A s.heap H locs → lv_has ls 5 [(0, .ref q_t), (1, .int i1), (2, .int x2_3)] → fX11_next_L9 t_people t_had t_holds t_tried i1 F k9 n x2_3 = some (o_r, o_t_had, o_t_holds, o_t_tried) → W p l e (nh_rm 2) s m args below meth c H locs 0 0 (MQ below ((nh_Qi D (wlX11_next cI cZ cO q_t q_t_text q_t_holds q_t_had q_t_worth q_t_wants q_t_readHolds q_t_readHad q_t_readWorth q_t_rows q_t_kept q_t_isKept q_t_sort q_t_took q_t_tried q_t_planned q_t_from q_t_best q_t_outcome q_t_value q_t_act t_thrown t_textSize t_place t_people t_readPeople t_acts t_sights t_longest t_shortest t_runs t_came t_bestMore o_t_had o_t_holds o_t_tried) o_r) A) args s 0 0 A) (F0 m 9 ls []) := by
    intro k9 hk9 n
    induction n with
    | zero => intro x2_3 H locs ls hP hD hS hl h; exact (nh_none h).elim
    | succ n9 ih9 =>
      intro x2_3 H locs ls hP hD hS hl h
      replace h : fX11_next_B9 t_people t_had t_holds t_tried i1 F k9 (fX11_next_L9 t_people t_had t_holds t_tried i1 F k9 n9) x2_3 = some (o_r, o_t_had, o_t_holds, o_t_tried) := h
      unfold fX11_next_B9 at h
      refine lv_iload_n hx hb dX11_next_9 rfl (lv_at hl 2 rfl) ?_
      refine lv_bipush (v := 40) hx hb dX11_next_10 (by decide) ?_
      refine lv_icmp_ge (tgt := 85) hx hb dX11_next_12 (by decide) (fun c5 => ?_) (fun c5 => ?_)
      · replace h := nh_t h c5
        exact hk9 x2_3 H locs ls hP hD hS (lv_sub hl [0, 1, 2] rfl) h
      · replace h := nh_f h c5
        refine lv_iload_n hx hb dX11_next_15 rfl (lv_at hl 2 rfl) ?_
        refine lv_bipush (v := 10) hx hb dX11_next_16 (by decide) ?_
        refine lv_idiv hx hb dX11_next_18 (by decide) ?_
        refine lv_topi (fun y_6 ey_6 => ?_)
        replace h := nh_to h ey_6
        refine lv_istore_n (lv' := [(3, .int y_6), (0, .ref q_t), (1, .int i1), (2, .int x2_3)]) hx hb dX11_next_19 rfl hl (by decide) rfl (fun ls hl => ?_)
        refine lv_iload_n hx hb dX11_next_20 rfl (lv_at hl 3 rfl) ?_
        refine lv_bipush (v := 10) hx hb dX11_next_21 (by decide) ?_
        refine lv_irem hx hb dX11_next_23 (by decide) ?_
        refine lv_topi (fun y_7 ey_7 => ?_)
        replace h := nh_to h ey_7
        refine lv_istore (lv' := [(4, .int y_7), (3, .int y_6), (0, .ref q_t), (1, .int i1), (2, .int x2_3)]) hx hb dX11_next_24 hl (by decide) rfl (fun ls hl => ?_)
        refine lv_iload_n hx hb dX11_next_26 rfl (lv_at hl 1 rfl) ?_
        refine lv_iload hx hb dX11_next_27 (lv_at hl 0 rfl) ?_
        refine lv_icmp_ge (tgt := 79) hx hb dX11_next_29 (by decide) (fun c8 => ?_) (fun c8 => ?_)
        · replace h := nh_t h c8
          obtain ⟨x2_9, ex2_9⟩ : ∃ y : Int32, y = x2_3 + 1 := ⟨_, rfl⟩
          replace h := nh_to h ex2_9
          refine lv_iinc (v := x2_9) (lv' := [(2, .int x2_9), (4, .int y_7), (3, .int y_6), (0, .ref q_t), (1, .int i1)]) hx hb dX11_next_79 hl (k := 4) rfl (by rw [ex2_9]; rfl) (by decide) rfl (fun ls hl => ?_)
          refine lv_goto (tgt := 9) hx hb dX11_next_82 (by decide) ?_
          exact ih9 x2_9 H locs ls hP hD hS (lv_sub hl [3, 4, 0] rfl) h
        · replace h := nh_f h c8
          refine lv_iload hx hb dX11_next_32 (lv_at hl 0 rfl) ?_
          refine lv_aload_n hx hb dX11_next_34 rfl (lv_at hl 2 rfl) ?_
          refine va_get (D := D) (ci := 10) (v := .int t_people) (C := RX11) (T := TX11) (N := 32) hx hb hts nhu_X11 hown hK hP 0 rfl rfl 4 (by decide) (hts _ nhw_259) (fun _ h9 => h9) rfl dX11_next_35 ?_
          refine lv_icmp_ge (tgt := 79) hx hb dX11_next_38 (by decide) (fun c10 => ?_) (fun c10 => ?_)
          · replace h := nh_t h c10
            obtain ⟨x2_11, ex2_11⟩ : ∃ y : Int32, y = x2_3 + 1 := ⟨_, rfl⟩
            replace h := nh_to h ex2_11
            refine lv_iinc (v := x2_11) (lv' := [(2, .int x2_11), (4, .int y_7), (3, .int y_6), (0, .ref q_t), (1, .int i1)]) hx hb dX11_next_79 hl (k := 4) rfl (by rw [ex2_11]; rfl) (by decide) rfl (fun ls hl => ?_)
            refine lv_goto (tgt := 9) hx hb dX11_next_82 (by decide) ?_
            exact ih9 x2_11 H locs ls hP hD hS (lv_sub hl [3, 4, 0] rfl) h
          · replace h := nh_f h c10
            refine lv_aload_n hx hb dX11_next_41 rfl (lv_at hl 2 rfl) ?_
            refine lv_iload_n hx hb dX11_next_42 rfl (lv_at hl 3 rfl) ?_
            refine lv_iload_n hx hb dX11_next_43 rfl (lv_at hl 1 rfl) ?_
            refine lv_iload hx hb dX11_next_44 (lv_at hl 0 rfl) ?_
            obtain ⟨r_12, hc13, h⟩ := nh_b1_some h
            refine nh_goi (nh_V (As := [.int i1, .int y_6, .int y_7]) (rest := []) ⟨hx, hb, hml, hown, hts⟩ (kX11_mayAt  l D cI cZ cO H.size q_t q_t_text q_t_holds q_t_had q_t_worth q_t_wants q_t_readHolds q_t_readHad q_t_readWorth q_t_rows q_t_kept q_t_isKept q_t_sort q_t_took q_t_tried q_t_planned q_t_from q_t_best q_t_outcome q_t_value q_t_act t_thrown t_textSize t_place t_people t_readPeople t_acts t_sights t_longest t_shortest t_runs t_came t_bestMore t_had t_holds i1 y_6 y_7 r_12 hc13) (cwV 3 hts (nh_gV nhw_596 nhw_384 nhw_752 nhw_305 nhw_92) rfl rfl rfl (by decide +kernel) ⟨Nat.le_of_ble_eq_true rfl, Nat.le_of_ble_eq_true rfl⟩) hK hN hP hD (isC := [0, 1, 2]) rfl rfl 0 10 rfl rfl rfl rfl hl.1 rfl (Nat.le_of_ble_eq_true rfl) dX11_next_46 ⟨Nat.zero_le _, Nat.zero_le _⟩) hP hD hS hA (isC := [0, 1, 2]) rfl rfl rfl (w' := (wlX11_next cI cZ cO q_t q_t_text q_t_holds q_t_had q_t_worth q_t_wants q_t_readHolds q_t_readHad q_t_readWorth q_t_rows q_t_kept q_t_isKept q_t_sort q_t_took q_t_tried q_t_planned q_t_from q_t_best q_t_outcome q_t_value q_t_act t_thrown t_textSize t_place t_people t_readPeople t_acts t_sights t_longest t_shortest t_runs t_came t_bestMore t_had t_holds t_tried)) rfl (fun H locs hP hD hS => ?_)
            refine lv_if_eq (tgt := 79) hx hb dX11_next_49 (by decide) (fun c14 => ?_) (fun c14 => ?_)
            · replace h := nh_t h c14
              obtain ⟨x2_15, ex2_15⟩ : ∃ y : Int32, y = x2_3 + 1 := ⟨_, rfl⟩
              replace h := nh_to h ex2_15
              refine lv_iinc (v := x2_15) (lv' := [(2, .int x2_15), (4, .int y_7), (3, .int y_6), (0, .ref q_t), (1, .int i1)]) hx hb dX11_next_79 hl (k := 4) rfl (by rw [ex2_15]; rfl) (by decide) rfl (fun ls hl => ?_)
              refine lv_goto (tgt := 9) hx hb dX11_next_82 (by decide) ?_
              exact ih9 x2_15 H locs ls hP hD hS (lv_sub hl [3, 4, 0] rfl) h
            · replace h := nh_f h c14
              refine lv_aload_n hx hb dX11_next_52 rfl (lv_at hl 2 rfl) ?_
              refine va_get (D := D) (ci := 10) (v := .ref q_t_tried) (C := RX11) (T := TX11) (N := 32) hx hb hts nhu_X11 hown hK hP 0 rfl rfl 20 (by decide) (hts _ nhw_250) (fun _ h9 => h9) rfl dX11_next_53 ?_
              refine lv_iload_n hx hb dX11_next_56 rfl (lv_at hl 3 rfl) ?_
              refine lv_iload_n hx hb dX11_next_57 rfl (lv_at hl 4 rfl) ?_
              obtain ⟨z16, h⟩ := nh_chk_some h
              refine va_iast hx hb hK hP hD hS 3 0 rfl rfl (nh_in_in z16) dX11_next_58 (fun H locs hP hD hS => ?_)
              obtain ⟨t_tried_17, et_tried_17⟩ : ∃ y : Nat → Int32, y = upd t_tried (Int32.toNatClampNeg i1) x2_3 := ⟨_, rfl⟩
              replace h := nh_to h et_tried_17
              have hP : va_P D vwCl (wlX11_next cI cZ cO q_t q_t_text q_t_holds q_t_had q_t_worth q_t_wants q_t_readHolds q_t_readHad q_t_readWorth q_t_rows q_t_kept q_t_isKept q_t_sort q_t_took q_t_tried q_t_planned q_t_from q_t_best q_t_outcome q_t_value q_t_act t_thrown t_textSize t_place t_people t_readPeople t_acts t_sights t_longest t_shortest t_runs t_came t_bestMore t_had t_holds t_tried_17) H := by rw [et_tried_17]; exact hP
              have hD : va_D A (wlX11_next cI cZ cO q_t q_t_text q_t_holds q_t_had q_t_worth q_t_wants q_t_readHolds q_t_readHad q_t_readWorth q_t_rows q_t_kept q_t_isKept q_t_sort q_t_took q_t_tried q_t_planned q_t_from q_t_best q_t_outcome q_t_value q_t_act t_thrown t_textSize t_place t_people t_readPeople t_acts t_sights t_longest t_shortest t_runs t_came t_bestMore t_had t_holds t_tried_17) := by rw [et_tried_17]; exact hD
              refine lv_aload_n hx hb dX11_next_59 rfl (lv_at hl 2 rfl) ?_
              refine lv_iload_n hx hb dX11_next_60 rfl (lv_at hl 3 rfl) ?_
              refine lv_iload_n hx hb dX11_next_61 rfl (lv_at hl 3 rfl) ?_
              refine lv_iconst (v := 1) hx hb dX11_next_62 (by decide) ?_
              refine lv_iadd hx hb dX11_next_63 ?_
              obtain ⟨t_had_18, t_holds_19, hc20, h⟩ := nh_b2_some h
              refine nh_gov (nh_V (As := [.int i1, .int (i1 + 1)]) (rest := []) ⟨hx, hb, hml, hown, hts⟩ (kX11_layAt F l D cI cZ cO H.size q_t q_t_text q_t_holds q_t_had q_t_worth q_t_wants q_t_readHolds q_t_readHad q_t_readWorth q_t_rows q_t_kept q_t_isKept q_t_sort q_t_took q_t_tried q_t_planned q_t_from q_t_best q_t_outcome q_t_value q_t_act t_thrown t_textSize t_place t_people t_readPeople t_acts t_sights t_longest t_shortest t_runs t_came t_bestMore t_had t_holds i1 (i1 + 1) t_had_18 t_holds_19 hc20) (cwV 2 hts (nh_gV nhw_599 nhw_379 nhw_747 nhw_305 nhw_87) rfl rfl rfl (by decide +kernel) ⟨Nat.le_of_ble_eq_true rfl, Nat.le_of_ble_eq_true rfl⟩) hK hN hP hD (isC := [0, 1, 2]) rfl rfl 0 10 rfl rfl rfl rfl hl.1 rfl (Nat.le_of_ble_eq_true rfl) dX11_next_64 ⟨Nat.zero_le _, Nat.zero_le _⟩) hP hD hS hA (isC := [0, 1, 2]) rfl rfl rfl (w' := (wlX11_next cI cZ cO q_t q_t_text q_t_holds q_t_had q_t_worth q_t_wants q_t_readHolds q_t_readHad q_t_readWorth q_t_rows q_t_kept q_t_isKept q_t_sort q_t_took q_t_tried q_t_planned q_t_from q_t_best q_t_outcome q_t_value q_t_act t_thrown t_textSize t_place t_people t_readPeople t_acts t_sights t_longest t_shortest t_runs t_came t_bestMore t_had_18 t_holds_19 t_tried_17)) rfl (fun H locs hP hD hS => ?_)
              refine lv_aload_n hx hb dX11_next_67 rfl (lv_at hl 2 rfl) ?_
              refine lv_iload_n hx hb dX11_next_68 rfl (lv_at hl 3 rfl) ?_
              refine lv_iconst (v := 1) hx hb dX11_next_69 (by decide) ?_
              refine lv_iadd hx hb dX11_next_70 ?_
              refine lv_iload_n hx hb dX11_next_71 rfl (lv_at hl 1 rfl) ?_
              refine lv_iload hx hb dX11_next_72 (lv_at hl 0 rfl) ?_
              obtain ⟨t_had_21, t_holds_22, hc23, h⟩ := nh_b2_some h
              refine nh_gov (nh_V (As := [.int (i1 + 1), .int y_6, .int y_7]) (rest := []) ⟨hx, hb, hml, hown, hts⟩ (kX11_goAt  l D cI cZ cO H.size q_t q_t_text q_t_holds q_t_had q_t_worth q_t_wants q_t_readHolds q_t_readHad q_t_readWorth q_t_rows q_t_kept q_t_isKept q_t_sort q_t_took q_t_tried q_t_planned q_t_from q_t_best q_t_outcome q_t_value q_t_act t_thrown t_textSize t_place t_people t_readPeople t_acts t_sights t_longest t_shortest t_runs t_came t_bestMore t_had_18 t_holds_19 (i1 + 1) y_6 y_7 t_had_21 t_holds_22 hc23) (cwV 3 hts (nh_gV nhw_598 nhw_369 nhw_738 nhw_305 nhw_75) rfl rfl rfl (by decide +kernel) ⟨Nat.le_of_ble_eq_true rfl, Nat.le_of_ble_eq_true rfl⟩) hK hN hP hD (isC := [0, 1, 2]) rfl rfl 0 10 rfl rfl rfl rfl hl.1 rfl (Nat.le_of_ble_eq_true rfl) dX11_next_74 ⟨Nat.zero_le _, Nat.zero_le _⟩) hP hD hS hA (isC := [0, 1, 2]) rfl rfl rfl (w' := (wlX11_next cI cZ cO q_t q_t_text q_t_holds q_t_had q_t_worth q_t_wants q_t_readHolds q_t_readHad q_t_readWorth q_t_rows q_t_kept q_t_isKept q_t_sort q_t_took q_t_tried q_t_planned q_t_from q_t_best q_t_outcome q_t_value q_t_act t_thrown t_textSize t_place t_people t_readPeople t_acts t_sights t_longest t_shortest t_runs t_came t_bestMore t_had_21 t_holds_22 t_tried_17)) rfl (fun H locs hP hD hS => ?_)
              refine lv_iconst (v := 1) hx hb dX11_next_77 (by decide) ?_
              obtain ⟨g0, g1, g2, g3⟩ := nh_i4 h
              exact nh_rz hx hb hr hlocks g0 rfl (by rw [← g1, ← g2, ← g3]; exact hP) hS dX11_next_78
  refine L9 _ (fun x2_4 H locs ls hP hD hS hl h => ?_) _ y_2 H locs ls hP hD hS (lv_sub hl [1, 2, 0] rfl) h
  refine lv_iconst (v := 0) hx hb dX11_next_85 (by decide) ?_
  obtain ⟨g0, g1, g2, g3⟩ := nh_i4 h
  exact nh_rz hx hb hr hlocks g0 rfl (by rw [← g1, ← g2, ← g3]; exact hP) hS dX11_next_86
abbrev wlX11_goRuns (cI cZ cO : ClassId) (q_t q_t_text q_t_holds q_t_had q_t_worth q_t_wants q_t_readHolds q_t_readHad q_t_readWorth q_t_rows q_t_kept q_t_isKept q_t_sort q_t_took q_t_tried q_t_planned q_t_from q_t_best q_t_outcome q_t_value q_t_act : Nat) (t_thrown : Int32) (t_textSize : Int32) (t_place : Int32) (t_people : Int32) (t_readPeople : Int32) (t_acts : Int32) (t_sights : Int32) (t_longest : Int32) (t_shortest : Int32) (t_runs : Int32) (t_came : Int32) (t_bestMore : Int32) (t_had : Nat → Int32) (t_holds : Nat → Int32) (t_tried : Nat → Int32) : va_W := [(q_t, .inr (10, [.int t_thrown, .ref q_t_text, .int t_textSize, .int t_place, .int t_people, .ref q_t_holds, .ref q_t_had, .ref q_t_worth, .ref q_t_wants, .int t_readPeople, .ref q_t_readHolds, .ref q_t_readHad, .ref q_t_readWorth, .ref q_t_rows, .int t_acts, .ref q_t_kept, .ref q_t_isKept, .int t_sights, .ref q_t_sort, .ref q_t_took, .ref q_t_tried, .int t_longest, .int t_shortest, .int t_runs, .int t_came, .ref q_t_planned, .ref q_t_from, .ref q_t_best, .int t_bestMore, .ref q_t_outcome, .ref q_t_value, .ref q_t_act])), (q_t_had, .inl (cI, 56, .inl t_had)), (q_t_holds, .inl (cI, 56, .inl t_holds)), (q_t_tried, .inl (cI, 14, .inl t_tried))]
def fX11_goRuns_J79 (t_people : Int32) (i1 : Int32) (r59 : Int32 → Int32 → Int32 → Int32 → Int32 → (Nat → Int32) → (Nat → Int32) → (Nat → Int32) → Option (Int32 × Int32 × Int32 × Int32 × (Nat → Int32) × (Nat → Int32) × (Nat → Int32))) (F : Nat) (x2_26 : Int32) (t_longest_27 : Int32) (t_shortest_28 : Int32) (t_runs_29 : Int32) (t_came_30 : Int32) (t_had_31 : Nat → Int32) (t_holds_32 : Nat → Int32) (t_tried_33 : Nat → Int32) (t0_34 : Int32) : Option (Int32 × Int32 × Int32 × Int32 × (Nat → Int32) × (Nat → Int32) × (Nat → Int32)) :=
  nh_b4 (fX11_next F t_people t_had_31 t_holds_32 t_tried_33 x2_26) (fun r_35 t_had_36 t_holds_37 t_tried_38 => (if r_35 = 0 then (if t0_34 = 0 then nh_let (α := Int32) (x2_26 + (-1)) (fun x2_42 => r59 x2_42 t_longest_27 t_shortest_28 t_runs_29 t_came_30 t_had_36 t_holds_37 t_tried_38)
 else nh_let (α := Int32) ((t_runs_29 + 1)) (fun y_43 => (if x2_26 ≤ t_longest_27 then (if t_shortest_28 ≤ x2_26 then nh_let (α := Int32) (x2_26 + (-1)) (fun x2_46 => r59 x2_46 t_longest_27 t_shortest_28 y_43 t_came_30 t_had_36 t_holds_37 t_tried_38)
 else nh_let (α := Int32) (x2_26 + (-1)) (fun x2_47 => r59 x2_47 t_longest_27 x2_26 y_43 t_came_30 t_had_36 t_holds_37 t_tried_38))
 else (if t_shortest_28 ≤ x2_26 then nh_let (α := Int32) (x2_26 + (-1)) (fun x2_49 => r59 x2_49 x2_26 t_shortest_28 y_43 t_came_30 t_had_36 t_holds_37 t_tried_38)
 else nh_let (α := Int32) (x2_26 + (-1)) (fun x2_50 => r59 x2_50 x2_26 x2_26 y_43 t_came_30 t_had_36 t_holds_37 t_tried_38)))))
 else nh_let (α := Int32) (x2_26 + 1) (fun x2_51 => nh_chk (nh_in x2_51 14) (nh_let (α := Nat → Int32) (upd t_tried_38 (Int32.toNatClampNeg x2_51) (-9)) (fun t_tried_53 => (if i1 = (-9) then nh_let (α := Int32) ((t_came_30 ||| 0)) (fun y_55 => r59 x2_51 t_longest_27 t_shortest_28 t_runs_29 y_55 t_had_36 t_holds_37 t_tried_53)
 else nh_chk (nh_in ((4 * x2_51) + i1) 56) ((if (t_holds_37 (Int32.toNatClampNeg ((4 * x2_51) + i1))) = 6 then nh_let (α := Int32) ((t_came_30 ||| 0)) (fun y_60 => r59 x2_51 t_longest_27 t_shortest_28 t_runs_29 y_60 t_had_36 t_holds_37 t_tried_53)
 else nh_chk (nh_in ((4 * x2_51) + i1) 56) (nh_let (α := Int32) ((t_came_30 ||| (1 <<< ((t_holds_37 (Int32.toNatClampNeg ((4 * x2_51) + i1))) &&& 31)))) (fun y_59 => r59 x2_51 t_longest_27 t_shortest_28 t_runs_29 y_59 t_had_36 t_holds_37 t_tried_53))))))))))
def fX11_goRuns_B59 (t_people : Int32) (i1 : Int32) (F : Nat) (k59 : Int32 → Int32 → Int32 → Int32 → Int32 → (Nat → Int32) → (Nat → Int32) → (Nat → Int32) → Option (Int32 × Int32 × Int32 × Int32 × (Nat → Int32) × (Nat → Int32) × (Nat → Int32))) (r59 : Int32 → Int32 → Int32 → Int32 → Int32 → (Nat → Int32) → (Nat → Int32) → (Nat → Int32) → Option (Int32 × Int32 × Int32 × Int32 × (Nat → Int32) × (Nat → Int32) × (Nat → Int32))) (x2_10 : Int32) (t_longest_11 : Int32) (t_shortest_12 : Int32) (t_runs_13 : Int32) (t_came_14 : Int32) (t_had_15 : Nat → Int32) (t_holds_16 : Nat → Int32) (t_tried_17 : Nat → Int32) : Option (Int32 × Int32 × Int32 × Int32 × (Nat → Int32) × (Nat → Int32) × (Nat → Int32)) :=
  (if x2_10 < 0 then k59 x2_10 t_longest_11 t_shortest_12 t_runs_13 t_came_14 t_had_15 t_holds_16 t_tried_17
 else nh_chk (nh_in x2_10 14) ((if (t_tried_17 (Int32.toNatClampNeg x2_10)) = (-9) then fX11_goRuns_J79 t_people i1 r59 F x2_10 t_longest_11 t_shortest_12 t_runs_13 t_came_14 t_had_15 t_holds_16 t_tried_17 1
 else fX11_goRuns_J79 t_people i1 r59 F x2_10 t_longest_11 t_shortest_12 t_runs_13 t_came_14 t_had_15 t_holds_16 t_tried_17 0)))
def fX11_goRuns_L59 (t_people : Int32) (i1 : Int32) (F : Nat) (k59 : Int32 → Int32 → Int32 → Int32 → Int32 → (Nat → Int32) → (Nat → Int32) → (Nat → Int32) → Option (Int32 × Int32 × Int32 × Int32 × (Nat → Int32) × (Nat → Int32) × (Nat → Int32))) : Nat → Int32 → Int32 → Int32 → Int32 → Int32 → (Nat → Int32) → (Nat → Int32) → (Nat → Int32) → Option (Int32 × Int32 × Int32 × Int32 × (Nat → Int32) × (Nat → Int32) × (Nat → Int32))
  | 0 => fun _ _ _ _ _ _ _ _ => none
  | n + 1 => fX11_goRuns_B59 t_people i1 F k59 (fX11_goRuns_L59 t_people i1 F k59 n)
def fX11_goRuns_J46 (t_people : Int32) (i1 : Int32) (F : Nat) (t_longest_1 : Int32) (t_shortest_2 : Int32) (t_runs_3 : Int32) (t_came_4 : Int32) (t_had_5 : Nat → Int32) (t_holds_6 : Nat → Int32) (t_tried_7 : Nat → Int32) (t0_8 : Int32) : Option (Int32 × Int32 × Int32 × Int32 × (Nat → Int32) × (Nat → Int32) × (Nat → Int32)) :=
  nh_let (α := Nat → Int32) (upd t_tried_7 (Int32.toNatClampNeg (0 : Int32)) (-9)) (fun t_tried_9 => fX11_goRuns_L59 t_people i1 F (fun x2_18 t_longest_19 t_shortest_20 t_runs_21 t_came_22 t_had_23 t_holds_24 t_tried_25 => some (t_longest_19, t_shortest_20, t_runs_21, t_came_22, t_had_23, t_holds_24, t_tried_25)) F 0 t_longest_1 t_shortest_2 t_runs_3 t0_8 t_had_5 t_holds_6 t_tried_9)
def fX11_goRuns_J34 (t_people : Int32) (i1 : Int32) (F : Nat) (t_longest_64 : Int32) (t_shortest_65 : Int32) (t_runs_66 : Int32) (t_came_67 : Int32) (t_had_68 : Nat → Int32) (t_holds_69 : Nat → Int32) (t_tried_70 : Nat → Int32) : Option (Int32 × Int32 × Int32 × Int32 × (Nat → Int32) × (Nat → Int32) × (Nat → Int32)) :=
  fX11_goRuns_J46 t_people i1 F t_longest_64 t_shortest_65 t_runs_66 t_came_67 t_had_68 t_holds_69 t_tried_70 0
def fX11_goRuns (F : Nat) (t_people : Int32) (t_longest : Int32) (t_shortest : Int32) (t_runs : Int32) (t_came : Int32) (t_had : Nat → Int32) (t_holds : Nat → Int32) (t_tried : Nat → Int32) (i1 : Int32) : Option (Int32 × Int32 × Int32 × Int32 × (Nat → Int32) × (Nat → Int32) × (Nat → Int32)) :=
  (if i1 = (-9) then fX11_goRuns_J34 t_people i1 F 0 99999 0 t_came t_had t_holds t_tried
 else nh_chk (nh_in i1 56) ((if (t_holds (Int32.toNatClampNeg i1)) = 6 then fX11_goRuns_J34 t_people i1 F 0 99999 0 t_came t_had t_holds t_tried
 else nh_chk (nh_in i1 56) (fX11_goRuns_J46 t_people i1 F 0 99999 0 t_came t_had t_holds t_tried (1 <<< ((t_holds (Int32.toNatClampNeg i1)) &&& 31))))))
set_option maxHeartbeats 4000000 in
set_option maxRecDepth 100000 in
theorem kX11_goRuns (F : Nat) (l : Launch) (D : va_G) (cI cZ cO : ClassId) (sz : Nat) (q_t q_t_text q_t_holds q_t_had q_t_worth q_t_wants q_t_readHolds q_t_readHad q_t_readWorth q_t_rows q_t_kept q_t_isKept q_t_sort q_t_took q_t_tried q_t_planned q_t_from q_t_best q_t_outcome q_t_value q_t_act : Nat) (t_thrown : Int32) (t_textSize : Int32) (t_place : Int32) (t_people : Int32) (t_readPeople : Int32) (t_acts : Int32) (t_sights : Int32) (t_longest : Int32) (t_shortest : Int32) (t_runs : Int32) (t_came : Int32) (t_bestMore : Int32) (t_had : Nat → Int32) (t_holds : Nat → Int32) (t_tried : Nat → Int32) (i1 : Int32) (o_t_longest : Int32) (o_t_shortest : Int32) (o_t_runs : Int32) (o_t_came : Int32) (o_t_had : Nat → Int32) (o_t_holds : Nat → Int32) (o_t_tried : Nat → Int32) (h : fX11_goRuns F t_people t_longest t_shortest t_runs t_came t_had t_holds t_tried i1 = some (o_t_longest, o_t_shortest, o_t_runs, o_t_came, o_t_had, o_t_holds, o_t_tried)) : Met l yX11_goRuns (nh_w (.code yX11_goRuns cX11_goRuns 4 none)) (nh_rm 3) (nh_Pc D cI cZ cO (wlX11_goRuns cI cZ cO q_t q_t_text q_t_holds q_t_had q_t_worth q_t_wants q_t_readHolds q_t_readHad q_t_readWorth q_t_rows q_t_kept q_t_isKept q_t_sort q_t_took q_t_tried q_t_planned q_t_from q_t_best q_t_outcome q_t_value q_t_act t_thrown t_textSize t_place t_people t_readPeople t_acts t_sights t_longest t_shortest t_runs t_came t_bestMore t_had t_holds t_tried) [.ref q_t, .int i1] sz) ((nh_Qv D (wlX11_goRuns cI cZ cO q_t q_t_text q_t_holds q_t_had q_t_worth q_t_wants q_t_readHolds q_t_readHad q_t_readWorth q_t_rows q_t_kept q_t_isKept q_t_sort q_t_took q_t_tried q_t_planned q_t_from q_t_best q_t_outcome q_t_value q_t_act t_thrown t_textSize t_place t_people t_readPeople t_acts t_sights o_t_longest o_t_shortest o_t_runs o_t_came t_bestMore o_t_had o_t_holds o_t_tried)) (va_A (wlX11_goRuns cI cZ cO q_t q_t_text q_t_holds q_t_had q_t_worth q_t_wants q_t_readHolds q_t_readHad q_t_readWorth q_t_rows q_t_kept q_t_isKept q_t_sort q_t_took q_t_tried q_t_planned q_t_from q_t_best q_t_outcome q_t_value q_t_act t_thrown t_textSize t_place t_people t_readPeople t_acts t_sights t_longest t_shortest t_runs t_came t_bestMore t_had t_holds t_tried) sz)) 0 0 (va_A (wlX11_goRuns cI cZ cO q_t q_t_text q_t_holds q_t_had q_t_worth q_t_wants q_t_readHolds q_t_readHad q_t_readWorth q_t_rows q_t_kept q_t_isKept q_t_sort q_t_took q_t_tried q_t_planned q_t_from q_t_best q_t_outcome q_t_value q_t_act t_thrown t_textSize t_place t_people t_readPeople t_acts t_sights t_longest t_shortest t_runs t_came t_bestMore t_had t_holds t_tried) sz) := by
  unfold fX11_goRuns at h
  refine nh_met (cc := cX11_goRuns) (maxL := 4) (ret := none) (nh_Qv D (wlX11_goRuns cI cZ cO q_t q_t_text q_t_holds q_t_had q_t_worth q_t_wants q_t_readHolds q_t_readHad q_t_readWorth q_t_rows q_t_kept q_t_isKept q_t_sort q_t_took q_t_tried q_t_planned q_t_from q_t_best q_t_outcome q_t_value q_t_act t_thrown t_textSize t_place t_people t_readPeople t_acts t_sights o_t_longest o_t_shortest o_t_runs o_t_came t_bestMore o_t_had o_t_holds o_t_tried)) (by decide) rfl (Nat.le_of_ble_eq_true rfl) ?_
  intro p e s m args below meth c A H locs ls hx hb hml hr hown hts hlocks hinit hP hK hN hD hA hS hl
  have hl : lv_has ls 4 [(0, .ref q_t), (1, .int i1)] := hl
  have hts : ∀ w ∈ nh_words, w.before args s = true := fun w h => hts w (List.mem_cons_of_mem _ h)
  have J46 : ∀ (t_longest_1 : Int32) (t_shortest_2 : Int32) (t_runs_3 : Int32) (t_came_4 : Int32) (t_had_5 : Nat → Int32) (t_holds_6 : Nat → Int32) (t_tried_7 : Nat → Int32) (t0_8 : Int32) (H : Heap) (locs : List Loc) (ls : Array Slot), va_P D vwCl (wlX11_goRuns cI cZ cO q_t q_t_text q_t_holds q_t_had q_t_worth q_t_wants q_t_readHolds q_t_readHad q_t_readWorth q_t_rows q_t_kept q_t_isKept q_t_sort q_t_took q_t_tried q_t_planned q_t_from q_t_best q_t_outcome q_t_value q_t_act t_thrown t_textSize t_place t_people t_readPeople t_acts t_sights t_longest_1 t_shortest_2 t_runs_3 t_came_4 t_bestMore t_had_5 t_holds_6 t_tried_7) H → va_D A (wlX11_goRuns cI cZ cO q_t q_t_text q_t_holds q_t_had q_t_worth q_t_wants q_t_readHolds q_t_readHad q_t_readWorth q_t_rows q_t_kept q_t_isKept q_t_sort q_t_took q_t_tried q_t_planned q_t_from q_t_best q_t_outcome q_t_value q_t_act t_thrown t_textSize t_place t_people t_readPeople t_acts t_sights t_longest_1 t_shortest_2 t_runs_3 t_came_4 t_bestMore t_had_5 t_holds_6 t_tried_7) → va_S A s.heap H locs → lv_has ls 4 [(0, .ref q_t), (1, .int i1)] → fX11_goRuns_J46 t_people i1 F t_longest_1 t_shortest_2 t_runs_3 t_came_4 t_had_5 t_holds_6 t_tried_7 t0_8 = some (o_t_longest, o_t_shortest, o_t_runs, o_t_came, o_t_had, o_t_holds, o_t_tried) → W p l e (nh_rm 3) s m args below meth c H locs 0 0 (MQ below ((nh_Qv D (wlX11_goRuns cI cZ cO q_t q_t_text q_t_holds q_t_had q_t_worth q_t_wants q_t_readHolds q_t_readHad q_t_readWorth q_t_rows q_t_kept q_t_isKept q_t_sort q_t_took q_t_tried q_t_planned q_t_from q_t_best q_t_outcome q_t_value q_t_act t_thrown t_textSize t_place t_people t_readPeople t_acts t_sights o_t_longest o_t_shortest o_t_runs o_t_came t_bestMore o_t_had o_t_holds o_t_tried)) A) args s 0 0 A) (F0 m 46 ls [.int t0_8, .ref q_t]) := by
    intro t_longest_1 t_shortest_2 t_runs_3 t_came_4 t_had_5 t_holds_6 t_tried_7 t0_8 H locs ls hP hD hS hl h
    unfold fX11_goRuns_J46 at h
    refine va_put (D := D) (ci := 10) (v := .int t0_8) (ty := .int) (C := RX11) (T := TX11) (N := 32) hx hb hts nhu_X11 tyX11 tyX11_ok nmX11 hown hK hP hD hS 0 rfl rfl 24 (by decide) (hts _ nhw_238) (fun _ h9 => h9) rfl (by decide +kernel) rfl rfl (Nat.le_of_ble_eq_true rfl) dX11_goRuns_46 (fun H locs hP hD hS => ?_)
    have hP : va_P D vwCl (wlX11_goRuns cI cZ cO q_t q_t_text q_t_holds q_t_had q_t_worth q_t_wants q_t_readHolds q_t_readHad q_t_readWorth q_t_rows q_t_kept q_t_isKept q_t_sort q_t_took q_t_tried q_t_planned q_t_from q_t_best q_t_outcome q_t_value q_t_act t_thrown t_textSize t_place t_people t_readPeople t_acts t_sights t_longest_1 t_shortest_2 t_runs_3 t0_8 t_bestMore t_had_5 t_holds_6 t_tried_7) H := hP
    have hD : va_D A (wlX11_goRuns cI cZ cO q_t q_t_text q_t_holds q_t_had q_t_worth q_t_wants q_t_readHolds q_t_readHad q_t_readWorth q_t_rows q_t_kept q_t_isKept q_t_sort q_t_took q_t_tried q_t_planned q_t_from q_t_best q_t_outcome q_t_value q_t_act t_thrown t_textSize t_place t_people t_readPeople t_acts t_sights t_longest_1 t_shortest_2 t_runs_3 t0_8 t_bestMore t_had_5 t_holds_6 t_tried_7) := hD
    refine lv_iconst (v := 0) hx hb dX11_goRuns_49 (by decide) ?_
    refine lv_istore_n (lv' := [(2, .int 0), (0, .ref q_t), (1, .int i1)]) hx hb dX11_goRuns_50 rfl hl (by decide) rfl (fun ls hl => ?_)
    refine lv_aload_n hx hb dX11_goRuns_51 rfl (lv_at hl 1 rfl) ?_
    refine va_get (D := D) (ci := 10) (v := .ref q_t_tried) (C := RX11) (T := TX11) (N := 32) hx hb hts nhu_X11 hown hK hP 0 rfl rfl 20 (by decide) (hts _ nhw_250) (fun _ h9 => h9) rfl dX11_goRuns_52 ?_
    refine lv_iconst (v := 0) hx hb dX11_goRuns_55 (by decide) ?_
    refine lv_bipush (v := (-9)) hx hb dX11_goRuns_56 (by decide) ?_
    refine va_iast hx hb hK hP hD hS 3 0 rfl rfl (nh_in_in (by decide)) dX11_goRuns_58 (fun H locs hP hD hS => ?_)
    obtain ⟨t_tried_9, et_tried_9⟩ : ∃ y : Nat → Int32, y = upd t_tried_7 (Int32.toNatClampNeg (0 : Int32)) (-9) := ⟨_, rfl⟩
    replace h := nh_to h et_tried_9
    have hP : va_P D vwCl (wlX11_goRuns cI cZ cO q_t q_t_text q_t_holds q_t_had q_t_worth q_t_wants q_t_readHolds q_t_readHad q_t_readWorth q_t_rows q_t_kept q_t_isKept q_t_sort q_t_took q_t_tried q_t_planned q_t_from q_t_best q_t_outcome q_t_value q_t_act t_thrown t_textSize t_place t_people t_readPeople t_acts t_sights t_longest_1 t_shortest_2 t_runs_3 t0_8 t_bestMore t_had_5 t_holds_6 t_tried_9) H := by rw [et_tried_9]; exact hP
    have hD : va_D A (wlX11_goRuns cI cZ cO q_t q_t_text q_t_holds q_t_had q_t_worth q_t_wants q_t_readHolds q_t_readHad q_t_readWorth q_t_rows q_t_kept q_t_isKept q_t_sort q_t_took q_t_tried q_t_planned q_t_from q_t_best q_t_outcome q_t_value q_t_act t_thrown t_textSize t_place t_people t_readPeople t_acts t_sights t_longest_1 t_shortest_2 t_runs_3 t0_8 t_bestMore t_had_5 t_holds_6 t_tried_9) := by rw [et_tried_9]; exact hD
    have L59 : ∀ (k59 : Int32 → Int32 → Int32 → Int32 → Int32 → (Nat → Int32) → (Nat → Int32) → (Nat → Int32) → Option (Int32 × Int32 × Int32 × Int32 × (Nat → Int32) × (Nat → Int32) × (Nat → Int32))), (∀ (x2_18 : Int32) (t_longest_19 : Int32) (t_shortest_20 : Int32) (t_runs_21 : Int32) (t_came_22 : Int32) (t_had_23 : Nat → Int32) (t_holds_24 : Nat → Int32) (t_tried_25 : Nat → Int32) (H : Heap) (locs : List Loc) (ls : Array Slot), va_P D vwCl (wlX11_goRuns cI cZ cO q_t q_t_text q_t_holds q_t_had q_t_worth q_t_wants q_t_readHolds q_t_readHad q_t_readWorth q_t_rows q_t_kept q_t_isKept q_t_sort q_t_took q_t_tried q_t_planned q_t_from q_t_best q_t_outcome q_t_value q_t_act t_thrown t_textSize t_place t_people t_readPeople t_acts t_sights t_longest_19 t_shortest_20 t_runs_21 t_came_22 t_bestMore t_had_23 t_holds_24 t_tried_25) H → va_D A (wlX11_goRuns cI cZ cO q_t q_t_text q_t_holds q_t_had q_t_worth q_t_wants q_t_readHolds q_t_readHad q_t_readWorth q_t_rows q_t_kept q_t_isKept q_t_sort q_t_took q_t_tried q_t_planned q_t_from q_t_best q_t_outcome q_t_value q_t_act t_thrown t_textSize t_place t_people t_readPeople t_acts t_sights t_longest_19 t_shortest_20 t_runs_21 t_came_22 t_bestMore t_had_23 t_holds_24 t_tried_25) → va_S A s.heap H locs → lv_has ls 4 [(0, .ref q_t), (1, .int i1), (2, .int x2_18)] → k59 x2_18 t_longest_19 t_shortest_20 t_runs_21 t_came_22 t_had_23 t_holds_24 t_tried_25 = some (o_t_longest, o_t_shortest, o_t_runs, o_t_came, o_t_had, o_t_holds, o_t_tried) → W p l e (nh_rm 3) s m args below meth c H locs 0 0 (MQ below ((nh_Qv D (wlX11_goRuns cI cZ cO q_t q_t_text q_t_holds q_t_had q_t_worth q_t_wants q_t_readHolds q_t_readHad q_t_readWorth q_t_rows q_t_kept q_t_isKept q_t_sort q_t_took q_t_tried q_t_planned q_t_from q_t_best q_t_outcome q_t_value q_t_act t_thrown t_textSize t_place t_people t_readPeople t_acts t_sights o_t_longest o_t_shortest o_t_runs o_t_came t_bestMore o_t_had o_t_holds o_t_tried)) A) args s 0 0 A) (F0 m 208 ls [])) → ∀ (n : Nat) (x2_10 : Int32) (t_longest_11 : Int32) (t_shortest_12 : Int32) (t_runs_13 : Int32) (t_came_14 : Int32) (t_had_15 : Nat → Int32) (t_holds_16 : Nat → Int32) (t_tried_17 : Nat → Int32) (H : Heap) (locs : List Loc) (ls : Array Slot), va_P D vwCl (wlX11_goRuns cI cZ cO q_t q_t_text q_t_holds q_t_had q_t_worth q_t_wants q_t_readHolds q_t_readHad q_t_readWorth q_t_rows q_t_kept q_t_isKept q_t_sort q_t_took q_t_tried q_t_planned q_t_from q_t_best q_t_outcome q_t_value q_t_act t_thrown t_textSize t_place t_people t_readPeople t_acts t_sights t_longest_11 t_shortest_12 t_runs_13 t_came_14 t_bestMore t_had_15 t_holds_16 t_tried_17) H → va_D A (wlX11_goRuns cI cZ cO q_t q_t_text q_t_holds q_t_had q_t_worth q_t_wants q_t_readHolds q_t_readHad q_t_readWorth q_t_rows q_t_kept q_t_isKept q_t_sort q_t_took q_t_tried q_t_planned q_t_from q_t_best q_t_outcome q_t_value q_t_act t_thrown t_textSize t_place t_people t_readPeople t_acts t_sights t_longest_11 t_shortest_12 t_runs_13 t_came_14 t_bestMore t_had_15 t_holds_16 t_tried_17) → va_S A s.heap H locs → lv_has ls 4 [(0, .ref q_t), (1, .int i1), (2, .int x2_10)] → fX11_goRuns_L59 t_people i1 F k59 n x2_10 t_longest_11 t_shortest_12 t_runs_13 t_came_14 t_had_15 t_holds_16 t_tried_17 = some (o_t_longest, o_t_shortest, o_t_runs, o_t_came, o_t_had, o_t_holds, o_t_tried) → W p l e (nh_rm 3) s m args below meth c H locs 0 0 (MQ below ((nh_Qv D (wlX11_goRuns cI cZ cO q_t q_t_text q_t_holds q_t_had q_t_worth q_t_wants q_t_readHolds q_t_readHad q_t_readWorth q_t_rows q_t_kept q_t_isKept q_t_sort q_t_took q_t_tried q_t_planned q_t_from q_t_best q_t_outcome q_t_value q_t_act t_thrown t_textSize t_place t_people t_readPeople t_acts t_sights o_t_longest o_t_shortest o_t_runs o_t_came t_bestMore o_t_had o_t_holds o_t_tried)) A) args s 0 0 A) (F0 m 59 ls []) := by
      intro k59 hk59 n
      induction n with
      | zero => intro x2_10 t_longest_11 t_shortest_12 t_runs_13 t_came_14 t_had_15 t_holds_16 t_tried_17 H locs ls hP hD hS hl h; exact (nh_none h).elim
      | succ n59 ih59 =>
        intro x2_10 t_longest_11 t_shortest_12 t_runs_13 t_came_14 t_had_15 t_holds_16 t_tried_17 H locs ls hP hD hS hl h
        replace h : fX11_goRuns_B59 t_people i1 F k59 (fX11_goRuns_L59 t_people i1 F k59 n59) x2_10 t_longest_11 t_shortest_12 t_runs_13 t_came_14 t_had_15 t_holds_16 t_tried_17 = some (o_t_longest, o_t_shortest, o_t_runs, o_t_came, o_t_had, o_t_holds, o_t_tried) := h
        unfold fX11_goRuns_B59 at h
        have J79 : ∀ (x2_26 : Int32) (t_longest_27 : Int32) (t_shortest_28 : Int32) (t_runs_29 : Int32) (t_came_30 : Int32) (t_had_31 : Nat → Int32) (t_holds_32 : Nat → Int32) (t_tried_33 : Nat → Int32) (t0_34 : Int32) (H : Heap) (locs : List Loc) (ls : Array Slot), va_P D vwCl (wlX11_goRuns cI cZ cO q_t q_t_text q_t_holds q_t_had q_t_worth q_t_wants q_t_readHolds q_t_readHad q_t_readWorth q_t_rows q_t_kept q_t_isKept q_t_sort q_t_took q_t_tried q_t_planned q_t_from q_t_best q_t_outcome q_t_value q_t_act t_thrown t_textSize t_place t_people t_readPeople t_acts t_sights t_longest_27 t_shortest_28 t_runs_29 t_came_30 t_bestMore t_had_31 t_holds_32 t_tried_33) H → va_D A (wlX11_goRuns cI cZ cO q_t q_t_text q_t_holds q_t_had q_t_worth q_t_wants q_t_readHolds q_t_readHad q_t_readWorth q_t_rows q_t_kept q_t_isKept q_t_sort q_t_took q_t_tried q_t_planned q_t_from q_t_best q_t_outcome q_t_value q_t_act t_thrown t_textSize t_place t_people t_readPeople t_acts t_sights t_longest_27 t_shortest_28 t_runs_29 t_came_30 t_bestMore t_had_31 t_holds_32 t_tried_33) → va_S A s.heap H locs → lv_has ls 4 [(0, .ref q_t), (1, .int i1), (2, .int x2_26)] → fX11_goRuns_J79 t_people i1 ((fX11_goRuns_L59 t_people i1 F k59 n59)) F x2_26 t_longest_27 t_shortest_28 t_runs_29 t_came_30 t_had_31 t_holds_32 t_tried_33 t0_34 = some (o_t_longest, o_t_shortest, o_t_runs, o_t_came, o_t_had, o_t_holds, o_t_tried) → W p l e (nh_rm 3) s m args below meth c H locs 0 0 (MQ below ((nh_Qv D (wlX11_goRuns cI cZ cO q_t q_t_text q_t_holds q_t_had q_t_worth q_t_wants q_t_readHolds q_t_readHad q_t_readWorth q_t_rows q_t_kept q_t_isKept q_t_sort q_t_took q_t_tried q_t_planned q_t_from q_t_best q_t_outcome q_t_value q_t_act t_thrown t_textSize t_place t_people t_readPeople t_acts t_sights o_t_longest o_t_shortest o_t_runs o_t_came t_bestMore o_t_had o_t_holds o_t_tried)) A) args s 0 0 A) (F0 m 79 ls [.int t0_34]) := by
          intro x2_26 t_longest_27 t_shortest_28 t_runs_29 t_came_30 t_had_31 t_holds_32 t_tried_33 t0_34 H locs ls hP hD hS hl h
          unfold fX11_goRuns_J79 at h
          refine lv_istore_n (lv' := [(3, .int t0_34), (0, .ref q_t), (1, .int i1), (2, .int x2_26)]) hx hb dX11_goRuns_79 rfl hl (by decide) rfl (fun ls hl => ?_)
          refine lv_aload_n hx hb dX11_goRuns_80 rfl (lv_at hl 1 rfl) ?_
          refine lv_iload_n hx hb dX11_goRuns_81 rfl (lv_at hl 3 rfl) ?_
          obtain ⟨r_35, t_had_36, t_holds_37, t_tried_38, hc39, h⟩ := nh_b4_some h
          refine nh_goi (nh_V (As := [.int x2_26]) (rest := []) ⟨hx, hb, hml, hown, hts⟩ (kX11_next F l D cI cZ cO H.size q_t q_t_text q_t_holds q_t_had q_t_worth q_t_wants q_t_readHolds q_t_readHad q_t_readWorth q_t_rows q_t_kept q_t_isKept q_t_sort q_t_took q_t_tried q_t_planned q_t_from q_t_best q_t_outcome q_t_value q_t_act t_thrown t_textSize t_place t_people t_readPeople t_acts t_sights t_longest_27 t_shortest_28 t_runs_29 t_came_30 t_bestMore t_had_31 t_holds_32 t_tried_33 x2_26 r_35 t_had_36 t_holds_37 t_tried_38 hc39) (cwV 1 hts (nh_gV nhw_600 nhw_388 nhw_756 nhw_305 nhw_96) rfl rfl rfl (by decide +kernel) ⟨Nat.le_of_ble_eq_true rfl, Nat.le_of_ble_eq_true rfl⟩) hK hN hP hD (isC := [0, 1, 2, 3]) rfl rfl 0 10 rfl rfl rfl rfl hl.1 rfl (Nat.le_of_ble_eq_true rfl) dX11_goRuns_82 ⟨Nat.zero_le _, Nat.zero_le _⟩) hP hD hS hA (isC := [0, 1, 2, 3]) rfl rfl rfl (w' := (wlX11_goRuns cI cZ cO q_t q_t_text q_t_holds q_t_had q_t_worth q_t_wants q_t_readHolds q_t_readHad q_t_readWorth q_t_rows q_t_kept q_t_isKept q_t_sort q_t_took q_t_tried q_t_planned q_t_from q_t_best q_t_outcome q_t_value q_t_act t_thrown t_textSize t_place t_people t_readPeople t_acts t_sights t_longest_27 t_shortest_28 t_runs_29 t_came_30 t_bestMore t_had_36 t_holds_37 t_tried_38)) rfl (fun H locs hP hD hS => ?_)
          refine lv_if_eq (tgt := 148) hx hb dX11_goRuns_85 (by decide) (fun c40 => ?_) (fun c40 => ?_)
          · replace h := nh_t h c40
            refine lv_iload_n hx hb dX11_goRuns_148 rfl (lv_at hl 0 rfl) ?_
            refine lv_if_eq (tgt := 202) hx hb dX11_goRuns_149 (by decide) (fun c41 => ?_) (fun c41 => ?_)
            · replace h := nh_t h c41
              obtain ⟨x2_42, ex2_42⟩ : ∃ y : Int32, y = x2_26 + (-1) := ⟨_, rfl⟩
              replace h := nh_to h ex2_42
              refine lv_iinc (v := x2_42) (lv' := [(2, .int x2_42), (3, .int t0_34), (0, .ref q_t), (1, .int i1)]) hx hb dX11_goRuns_202 hl (k := 3) rfl (by rw [ex2_42]; rfl) (by decide) rfl (fun ls hl => ?_)
              refine lv_goto (tgt := 59) hx hb dX11_goRuns_205 (by decide) ?_
              exact ih59 x2_42 t_longest_27 t_shortest_28 t_runs_29 t_came_30 t_had_36 t_holds_37 t_tried_38 H locs ls hP hD hS (lv_sub hl [2, 3, 0] rfl) h
            · replace h := nh_f h c41
              refine lv_aload_n hx hb dX11_goRuns_152 rfl (lv_at hl 1 rfl) ?_
              refine lv_dup hx hb dX11_goRuns_153 rfl ?_
              refine va_get (D := D) (ci := 10) (v := .int t_runs_29) (C := RX11) (T := TX11) (N := 32) hx hb hts nhu_X11 hown hK hP 0 rfl rfl 23 (by decide) (hts _ nhw_237) (fun _ h9 => h9) rfl dX11_goRuns_154 ?_
              refine lv_iconst (v := 1) hx hb dX11_goRuns_157 (by decide) ?_
              refine lv_iadd hx hb dX11_goRuns_158 ?_
              refine lv_topi (fun y_43 ey_43 => ?_)
              replace h := nh_to h ey_43
              refine va_put (D := D) (ci := 10) (v := .int y_43) (ty := .int) (C := RX11) (T := TX11) (N := 32) hx hb hts nhu_X11 tyX11 tyX11_ok nmX11 hown hK hP hD hS 0 rfl rfl 23 (by decide) (hts _ nhw_237) (fun _ h9 => h9) rfl (by decide +kernel) rfl rfl (Nat.le_of_ble_eq_true rfl) dX11_goRuns_159 (fun H locs hP hD hS => ?_)
              have hP : va_P D vwCl (wlX11_goRuns cI cZ cO q_t q_t_text q_t_holds q_t_had q_t_worth q_t_wants q_t_readHolds q_t_readHad q_t_readWorth q_t_rows q_t_kept q_t_isKept q_t_sort q_t_took q_t_tried q_t_planned q_t_from q_t_best q_t_outcome q_t_value q_t_act t_thrown t_textSize t_place t_people t_readPeople t_acts t_sights t_longest_27 t_shortest_28 y_43 t_came_30 t_bestMore t_had_36 t_holds_37 t_tried_38) H := hP
              have hD : va_D A (wlX11_goRuns cI cZ cO q_t q_t_text q_t_holds q_t_had q_t_worth q_t_wants q_t_readHolds q_t_readHad q_t_readWorth q_t_rows q_t_kept q_t_isKept q_t_sort q_t_took q_t_tried q_t_planned q_t_from q_t_best q_t_outcome q_t_value q_t_act t_thrown t_textSize t_place t_people t_readPeople t_acts t_sights t_longest_27 t_shortest_28 y_43 t_came_30 t_bestMore t_had_36 t_holds_37 t_tried_38) := hD
              refine lv_aload_n hx hb dX11_goRuns_162 rfl (lv_at hl 1 rfl) ?_
              refine lv_iload_n hx hb dX11_goRuns_163 rfl (lv_at hl 3 rfl) ?_
              refine lv_aload_n hx hb dX11_goRuns_164 rfl (lv_at hl 1 rfl) ?_
              refine va_get (D := D) (ci := 10) (v := .int t_longest_27) (C := RX11) (T := TX11) (N := 32) hx hb hts nhu_X11 hown hK hP 0 rfl rfl 21 (by decide) (hts _ nhw_235) (fun _ h9 => h9) rfl dX11_goRuns_165 ?_
              refine lv_icmp_le (tgt := 175) hx hb dX11_goRuns_168 (by decide) (fun c44 => ?_) (fun c44 => ?_)
              · replace h := nh_t h c44
                refine lv_aload_n hx hb dX11_goRuns_175 rfl (lv_at hl 1 rfl) ?_
                refine va_get (D := D) (ci := 10) (v := .int t_longest_27) (C := RX11) (T := TX11) (N := 32) hx hb hts nhu_X11 hown hK hP 0 rfl rfl 21 (by decide) (hts _ nhw_235) (fun _ h9 => h9) rfl dX11_goRuns_176 ?_
                refine va_put (D := D) (ci := 10) (v := .int t_longest_27) (ty := .int) (C := RX11) (T := TX11) (N := 32) hx hb hts nhu_X11 tyX11 tyX11_ok nmX11 hown hK hP hD hS 0 rfl rfl 21 (by decide) (hts _ nhw_235) (fun _ h9 => h9) rfl (by decide +kernel) rfl rfl (Nat.le_of_ble_eq_true rfl) dX11_goRuns_179 (fun H locs hP hD hS => ?_)
                have hP : va_P D vwCl (wlX11_goRuns cI cZ cO q_t q_t_text q_t_holds q_t_had q_t_worth q_t_wants q_t_readHolds q_t_readHad q_t_readWorth q_t_rows q_t_kept q_t_isKept q_t_sort q_t_took q_t_tried q_t_planned q_t_from q_t_best q_t_outcome q_t_value q_t_act t_thrown t_textSize t_place t_people t_readPeople t_acts t_sights t_longest_27 t_shortest_28 y_43 t_came_30 t_bestMore t_had_36 t_holds_37 t_tried_38) H := hP
                have hD : va_D A (wlX11_goRuns cI cZ cO q_t q_t_text q_t_holds q_t_had q_t_worth q_t_wants q_t_readHolds q_t_readHad q_t_readWorth q_t_rows q_t_kept q_t_isKept q_t_sort q_t_took q_t_tried q_t_planned q_t_from q_t_best q_t_outcome q_t_value q_t_act t_thrown t_textSize t_place t_people t_readPeople t_acts t_sights t_longest_27 t_shortest_28 y_43 t_came_30 t_bestMore t_had_36 t_holds_37 t_tried_38) := hD
                refine lv_aload_n hx hb dX11_goRuns_182 rfl (lv_at hl 1 rfl) ?_
                refine lv_iload_n hx hb dX11_goRuns_183 rfl (lv_at hl 3 rfl) ?_
                refine lv_aload_n hx hb dX11_goRuns_184 rfl (lv_at hl 1 rfl) ?_
                refine va_get (D := D) (ci := 10) (v := .int t_shortest_28) (C := RX11) (T := TX11) (N := 32) hx hb hts nhu_X11 hown hK hP 0 rfl rfl 22 (by decide) (hts _ nhw_236) (fun _ h9 => h9) rfl dX11_goRuns_185 ?_
                refine lv_icmp_ge (tgt := 195) hx hb dX11_goRuns_188 (by decide) (fun c45 => ?_) (fun c45 => ?_)
                · replace h := nh_t h c45
                  refine lv_aload_n hx hb dX11_goRuns_195 rfl (lv_at hl 1 rfl) ?_
                  refine va_get (D := D) (ci := 10) (v := .int t_shortest_28) (C := RX11) (T := TX11) (N := 32) hx hb hts nhu_X11 hown hK hP 0 rfl rfl 22 (by decide) (hts _ nhw_236) (fun _ h9 => h9) rfl dX11_goRuns_196 ?_
                  refine va_put (D := D) (ci := 10) (v := .int t_shortest_28) (ty := .int) (C := RX11) (T := TX11) (N := 32) hx hb hts nhu_X11 tyX11 tyX11_ok nmX11 hown hK hP hD hS 0 rfl rfl 22 (by decide) (hts _ nhw_236) (fun _ h9 => h9) rfl (by decide +kernel) rfl rfl (Nat.le_of_ble_eq_true rfl) dX11_goRuns_199 (fun H locs hP hD hS => ?_)
                  have hP : va_P D vwCl (wlX11_goRuns cI cZ cO q_t q_t_text q_t_holds q_t_had q_t_worth q_t_wants q_t_readHolds q_t_readHad q_t_readWorth q_t_rows q_t_kept q_t_isKept q_t_sort q_t_took q_t_tried q_t_planned q_t_from q_t_best q_t_outcome q_t_value q_t_act t_thrown t_textSize t_place t_people t_readPeople t_acts t_sights t_longest_27 t_shortest_28 y_43 t_came_30 t_bestMore t_had_36 t_holds_37 t_tried_38) H := hP
                  have hD : va_D A (wlX11_goRuns cI cZ cO q_t q_t_text q_t_holds q_t_had q_t_worth q_t_wants q_t_readHolds q_t_readHad q_t_readWorth q_t_rows q_t_kept q_t_isKept q_t_sort q_t_took q_t_tried q_t_planned q_t_from q_t_best q_t_outcome q_t_value q_t_act t_thrown t_textSize t_place t_people t_readPeople t_acts t_sights t_longest_27 t_shortest_28 y_43 t_came_30 t_bestMore t_had_36 t_holds_37 t_tried_38) := hD
                  obtain ⟨x2_46, ex2_46⟩ : ∃ y : Int32, y = x2_26 + (-1) := ⟨_, rfl⟩
                  replace h := nh_to h ex2_46
                  refine lv_iinc (v := x2_46) (lv' := [(2, .int x2_46), (3, .int t0_34), (0, .ref q_t), (1, .int i1)]) hx hb dX11_goRuns_202 hl (k := 3) rfl (by rw [ex2_46]; rfl) (by decide) rfl (fun ls hl => ?_)
                  refine lv_goto (tgt := 59) hx hb dX11_goRuns_205 (by decide) ?_
                  exact ih59 x2_46 t_longest_27 t_shortest_28 y_43 t_came_30 t_had_36 t_holds_37 t_tried_38 H locs ls hP hD hS (lv_sub hl [2, 3, 0] rfl) h
                · replace h := nh_f h c45
                  refine lv_iload_n hx hb dX11_goRuns_191 rfl (lv_at hl 3 rfl) ?_
                  refine lv_goto (tgt := 199) hx hb dX11_goRuns_192 (by decide) ?_
                  refine va_put (D := D) (ci := 10) (v := .int x2_26) (ty := .int) (C := RX11) (T := TX11) (N := 32) hx hb hts nhu_X11 tyX11 tyX11_ok nmX11 hown hK hP hD hS 0 rfl rfl 22 (by decide) (hts _ nhw_236) (fun _ h9 => h9) rfl (by decide +kernel) rfl rfl (Nat.le_of_ble_eq_true rfl) dX11_goRuns_199 (fun H locs hP hD hS => ?_)
                  have hP : va_P D vwCl (wlX11_goRuns cI cZ cO q_t q_t_text q_t_holds q_t_had q_t_worth q_t_wants q_t_readHolds q_t_readHad q_t_readWorth q_t_rows q_t_kept q_t_isKept q_t_sort q_t_took q_t_tried q_t_planned q_t_from q_t_best q_t_outcome q_t_value q_t_act t_thrown t_textSize t_place t_people t_readPeople t_acts t_sights t_longest_27 x2_26 y_43 t_came_30 t_bestMore t_had_36 t_holds_37 t_tried_38) H := hP
                  have hD : va_D A (wlX11_goRuns cI cZ cO q_t q_t_text q_t_holds q_t_had q_t_worth q_t_wants q_t_readHolds q_t_readHad q_t_readWorth q_t_rows q_t_kept q_t_isKept q_t_sort q_t_took q_t_tried q_t_planned q_t_from q_t_best q_t_outcome q_t_value q_t_act t_thrown t_textSize t_place t_people t_readPeople t_acts t_sights t_longest_27 x2_26 y_43 t_came_30 t_bestMore t_had_36 t_holds_37 t_tried_38) := hD
                  obtain ⟨x2_47, ex2_47⟩ : ∃ y : Int32, y = x2_26 + (-1) := ⟨_, rfl⟩
                  replace h := nh_to h ex2_47
                  refine lv_iinc (v := x2_47) (lv' := [(2, .int x2_47), (3, .int t0_34), (0, .ref q_t), (1, .int i1)]) hx hb dX11_goRuns_202 hl (k := 3) rfl (by rw [ex2_47]; rfl) (by decide) rfl (fun ls hl => ?_)
                  refine lv_goto (tgt := 59) hx hb dX11_goRuns_205 (by decide) ?_
                  exact ih59 x2_47 t_longest_27 x2_26 y_43 t_came_30 t_had_36 t_holds_37 t_tried_38 H locs ls hP hD hS (lv_sub hl [2, 3, 0] rfl) h
              · replace h := nh_f h c44
                refine lv_iload_n hx hb dX11_goRuns_171 rfl (lv_at hl 3 rfl) ?_
                refine lv_goto (tgt := 179) hx hb dX11_goRuns_172 (by decide) ?_
                refine va_put (D := D) (ci := 10) (v := .int x2_26) (ty := .int) (C := RX11) (T := TX11) (N := 32) hx hb hts nhu_X11 tyX11 tyX11_ok nmX11 hown hK hP hD hS 0 rfl rfl 21 (by decide) (hts _ nhw_235) (fun _ h9 => h9) rfl (by decide +kernel) rfl rfl (Nat.le_of_ble_eq_true rfl) dX11_goRuns_179 (fun H locs hP hD hS => ?_)
                have hP : va_P D vwCl (wlX11_goRuns cI cZ cO q_t q_t_text q_t_holds q_t_had q_t_worth q_t_wants q_t_readHolds q_t_readHad q_t_readWorth q_t_rows q_t_kept q_t_isKept q_t_sort q_t_took q_t_tried q_t_planned q_t_from q_t_best q_t_outcome q_t_value q_t_act t_thrown t_textSize t_place t_people t_readPeople t_acts t_sights x2_26 t_shortest_28 y_43 t_came_30 t_bestMore t_had_36 t_holds_37 t_tried_38) H := hP
                have hD : va_D A (wlX11_goRuns cI cZ cO q_t q_t_text q_t_holds q_t_had q_t_worth q_t_wants q_t_readHolds q_t_readHad q_t_readWorth q_t_rows q_t_kept q_t_isKept q_t_sort q_t_took q_t_tried q_t_planned q_t_from q_t_best q_t_outcome q_t_value q_t_act t_thrown t_textSize t_place t_people t_readPeople t_acts t_sights x2_26 t_shortest_28 y_43 t_came_30 t_bestMore t_had_36 t_holds_37 t_tried_38) := hD
                refine lv_aload_n hx hb dX11_goRuns_182 rfl (lv_at hl 1 rfl) ?_
                refine lv_iload_n hx hb dX11_goRuns_183 rfl (lv_at hl 3 rfl) ?_
                refine lv_aload_n hx hb dX11_goRuns_184 rfl (lv_at hl 1 rfl) ?_
                refine va_get (D := D) (ci := 10) (v := .int t_shortest_28) (C := RX11) (T := TX11) (N := 32) hx hb hts nhu_X11 hown hK hP 0 rfl rfl 22 (by decide) (hts _ nhw_236) (fun _ h9 => h9) rfl dX11_goRuns_185 ?_
                refine lv_icmp_ge (tgt := 195) hx hb dX11_goRuns_188 (by decide) (fun c48 => ?_) (fun c48 => ?_)
                · replace h := nh_t h c48
                  refine lv_aload_n hx hb dX11_goRuns_195 rfl (lv_at hl 1 rfl) ?_
                  refine va_get (D := D) (ci := 10) (v := .int t_shortest_28) (C := RX11) (T := TX11) (N := 32) hx hb hts nhu_X11 hown hK hP 0 rfl rfl 22 (by decide) (hts _ nhw_236) (fun _ h9 => h9) rfl dX11_goRuns_196 ?_
                  refine va_put (D := D) (ci := 10) (v := .int t_shortest_28) (ty := .int) (C := RX11) (T := TX11) (N := 32) hx hb hts nhu_X11 tyX11 tyX11_ok nmX11 hown hK hP hD hS 0 rfl rfl 22 (by decide) (hts _ nhw_236) (fun _ h9 => h9) rfl (by decide +kernel) rfl rfl (Nat.le_of_ble_eq_true rfl) dX11_goRuns_199 (fun H locs hP hD hS => ?_)
                  have hP : va_P D vwCl (wlX11_goRuns cI cZ cO q_t q_t_text q_t_holds q_t_had q_t_worth q_t_wants q_t_readHolds q_t_readHad q_t_readWorth q_t_rows q_t_kept q_t_isKept q_t_sort q_t_took q_t_tried q_t_planned q_t_from q_t_best q_t_outcome q_t_value q_t_act t_thrown t_textSize t_place t_people t_readPeople t_acts t_sights x2_26 t_shortest_28 y_43 t_came_30 t_bestMore t_had_36 t_holds_37 t_tried_38) H := hP
                  have hD : va_D A (wlX11_goRuns cI cZ cO q_t q_t_text q_t_holds q_t_had q_t_worth q_t_wants q_t_readHolds q_t_readHad q_t_readWorth q_t_rows q_t_kept q_t_isKept q_t_sort q_t_took q_t_tried q_t_planned q_t_from q_t_best q_t_outcome q_t_value q_t_act t_thrown t_textSize t_place t_people t_readPeople t_acts t_sights x2_26 t_shortest_28 y_43 t_came_30 t_bestMore t_had_36 t_holds_37 t_tried_38) := hD
                  obtain ⟨x2_49, ex2_49⟩ : ∃ y : Int32, y = x2_26 + (-1) := ⟨_, rfl⟩
                  replace h := nh_to h ex2_49
                  refine lv_iinc (v := x2_49) (lv' := [(2, .int x2_49), (3, .int t0_34), (0, .ref q_t), (1, .int i1)]) hx hb dX11_goRuns_202 hl (k := 3) rfl (by rw [ex2_49]; rfl) (by decide) rfl (fun ls hl => ?_)
                  refine lv_goto (tgt := 59) hx hb dX11_goRuns_205 (by decide) ?_
                  exact ih59 x2_49 x2_26 t_shortest_28 y_43 t_came_30 t_had_36 t_holds_37 t_tried_38 H locs ls hP hD hS (lv_sub hl [2, 3, 0] rfl) h
                · replace h := nh_f h c48
                  refine lv_iload_n hx hb dX11_goRuns_191 rfl (lv_at hl 3 rfl) ?_
                  refine lv_goto (tgt := 199) hx hb dX11_goRuns_192 (by decide) ?_
                  refine va_put (D := D) (ci := 10) (v := .int x2_26) (ty := .int) (C := RX11) (T := TX11) (N := 32) hx hb hts nhu_X11 tyX11 tyX11_ok nmX11 hown hK hP hD hS 0 rfl rfl 22 (by decide) (hts _ nhw_236) (fun _ h9 => h9) rfl (by decide +kernel) rfl rfl (Nat.le_of_ble_eq_true rfl) dX11_goRuns_199 (fun H locs hP hD hS => ?_)
                  have hP : va_P D vwCl (wlX11_goRuns cI cZ cO q_t q_t_text q_t_holds q_t_had q_t_worth q_t_wants q_t_readHolds q_t_readHad q_t_readWorth q_t_rows q_t_kept q_t_isKept q_t_sort q_t_took q_t_tried q_t_planned q_t_from q_t_best q_t_outcome q_t_value q_t_act t_thrown t_textSize t_place t_people t_readPeople t_acts t_sights x2_26 x2_26 y_43 t_came_30 t_bestMore t_had_36 t_holds_37 t_tried_38) H := hP
                  have hD : va_D A (wlX11_goRuns cI cZ cO q_t q_t_text q_t_holds q_t_had q_t_worth q_t_wants q_t_readHolds q_t_readHad q_t_readWorth q_t_rows q_t_kept q_t_isKept q_t_sort q_t_took q_t_tried q_t_planned q_t_from q_t_best q_t_outcome q_t_value q_t_act t_thrown t_textSize t_place t_people t_readPeople t_acts t_sights x2_26 x2_26 y_43 t_came_30 t_bestMore t_had_36 t_holds_37 t_tried_38) := hD
                  obtain ⟨x2_50, ex2_50⟩ : ∃ y : Int32, y = x2_26 + (-1) := ⟨_, rfl⟩
                  replace h := nh_to h ex2_50
                  refine lv_iinc (v := x2_50) (lv' := [(2, .int x2_50), (3, .int t0_34), (0, .ref q_t), (1, .int i1)]) hx hb dX11_goRuns_202 hl (k := 3) rfl (by rw [ex2_50]; rfl) (by decide) rfl (fun ls hl => ?_)
                  refine lv_goto (tgt := 59) hx hb dX11_goRuns_205 (by decide) ?_
                  exact ih59 x2_50 x2_26 x2_26 y_43 t_came_30 t_had_36 t_holds_37 t_tried_38 H locs ls hP hD hS (lv_sub hl [2, 3, 0] rfl) h
          · replace h := nh_f h c40
            obtain ⟨x2_51, ex2_51⟩ : ∃ y : Int32, y = x2_26 + 1 := ⟨_, rfl⟩
            replace h := nh_to h ex2_51
            refine lv_iinc (v := x2_51) (lv' := [(2, .int x2_51), (3, .int t0_34), (0, .ref q_t), (1, .int i1)]) hx hb dX11_goRuns_88 hl (k := 3) rfl (by rw [ex2_51]; rfl) (by decide) rfl (fun ls hl => ?_)
            refine lv_aload_n hx hb dX11_goRuns_91 rfl (lv_at hl 2 rfl) ?_
            refine va_get (D := D) (ci := 10) (v := .ref q_t_tried) (C := RX11) (T := TX11) (N := 32) hx hb hts nhu_X11 hown hK hP 0 rfl rfl 20 (by decide) (hts _ nhw_250) (fun _ h9 => h9) rfl dX11_goRuns_92 ?_
            refine lv_iload_n hx hb dX11_goRuns_95 rfl (lv_at hl 0 rfl) ?_
            refine lv_bipush (v := (-9)) hx hb dX11_goRuns_96 (by decide) ?_
            obtain ⟨z52, h⟩ := nh_chk_some h
            refine va_iast hx hb hK hP hD hS 3 0 rfl rfl (nh_in_in z52) dX11_goRuns_98 (fun H locs hP hD hS => ?_)
            obtain ⟨t_tried_53, et_tried_53⟩ : ∃ y : Nat → Int32, y = upd t_tried_38 (Int32.toNatClampNeg x2_51) (-9) := ⟨_, rfl⟩
            replace h := nh_to h et_tried_53
            have hP : va_P D vwCl (wlX11_goRuns cI cZ cO q_t q_t_text q_t_holds q_t_had q_t_worth q_t_wants q_t_readHolds q_t_readHad q_t_readWorth q_t_rows q_t_kept q_t_isKept q_t_sort q_t_took q_t_tried q_t_planned q_t_from q_t_best q_t_outcome q_t_value q_t_act t_thrown t_textSize t_place t_people t_readPeople t_acts t_sights t_longest_27 t_shortest_28 t_runs_29 t_came_30 t_bestMore t_had_36 t_holds_37 t_tried_53) H := by rw [et_tried_53]; exact hP
            have hD : va_D A (wlX11_goRuns cI cZ cO q_t q_t_text q_t_holds q_t_had q_t_worth q_t_wants q_t_readHolds q_t_readHad q_t_readWorth q_t_rows q_t_kept q_t_isKept q_t_sort q_t_took q_t_tried q_t_planned q_t_from q_t_best q_t_outcome q_t_value q_t_act t_thrown t_textSize t_place t_people t_readPeople t_acts t_sights t_longest_27 t_shortest_28 t_runs_29 t_came_30 t_bestMore t_had_36 t_holds_37 t_tried_53) := by rw [et_tried_53]; exact hD
            refine lv_aload_n hx hb dX11_goRuns_99 rfl (lv_at hl 2 rfl) ?_
            refine lv_dup hx hb dX11_goRuns_100 rfl ?_
            refine va_get (D := D) (ci := 10) (v := .int t_came_30) (C := RX11) (T := TX11) (N := 32) hx hb hts nhu_X11 hown hK hP 0 rfl rfl 24 (by decide) (hts _ nhw_238) (fun _ h9 => h9) rfl dX11_goRuns_101 ?_
            refine lv_iload_n hx hb dX11_goRuns_104 rfl (lv_at hl 3 rfl) ?_
            refine lv_bipush (v := (-9)) hx hb dX11_goRuns_105 (by decide) ?_
            refine lv_icmp_eq (tgt := 125) hx hb dX11_goRuns_107 (by decide) (fun c54 => ?_) (fun c54 => ?_)
            · replace h := nh_t h c54
              refine lv_iconst (v := 0) hx hb dX11_goRuns_125 (by decide) ?_
              refine lv_goto (tgt := 141) hx hb dX11_goRuns_126 (by decide) ?_
              refine lv_ior hx hb dX11_goRuns_141 ?_
              refine lv_topi (fun y_55 ey_55 => ?_)
              replace h := nh_to h ey_55
              refine va_put (D := D) (ci := 10) (v := .int y_55) (ty := .int) (C := RX11) (T := TX11) (N := 32) hx hb hts nhu_X11 tyX11 tyX11_ok nmX11 hown hK hP hD hS 0 rfl rfl 24 (by decide) (hts _ nhw_238) (fun _ h9 => h9) rfl (by decide +kernel) rfl rfl (Nat.le_of_ble_eq_true rfl) dX11_goRuns_142 (fun H locs hP hD hS => ?_)
              have hP : va_P D vwCl (wlX11_goRuns cI cZ cO q_t q_t_text q_t_holds q_t_had q_t_worth q_t_wants q_t_readHolds q_t_readHad q_t_readWorth q_t_rows q_t_kept q_t_isKept q_t_sort q_t_took q_t_tried q_t_planned q_t_from q_t_best q_t_outcome q_t_value q_t_act t_thrown t_textSize t_place t_people t_readPeople t_acts t_sights t_longest_27 t_shortest_28 t_runs_29 y_55 t_bestMore t_had_36 t_holds_37 t_tried_53) H := hP
              have hD : va_D A (wlX11_goRuns cI cZ cO q_t q_t_text q_t_holds q_t_had q_t_worth q_t_wants q_t_readHolds q_t_readHad q_t_readWorth q_t_rows q_t_kept q_t_isKept q_t_sort q_t_took q_t_tried q_t_planned q_t_from q_t_best q_t_outcome q_t_value q_t_act t_thrown t_textSize t_place t_people t_readPeople t_acts t_sights t_longest_27 t_shortest_28 t_runs_29 y_55 t_bestMore t_had_36 t_holds_37 t_tried_53) := hD
              refine lv_goto (tgt := 205) hx hb dX11_goRuns_145 (by decide) ?_
              refine lv_goto (tgt := 59) hx hb dX11_goRuns_205 (by decide) ?_
              exact ih59 x2_51 t_longest_27 t_shortest_28 t_runs_29 y_55 t_had_36 t_holds_37 t_tried_53 H locs ls hP hD hS (lv_sub hl [2, 3, 0] rfl) h
            · replace h := nh_f h c54
              refine lv_aload_n hx hb dX11_goRuns_110 rfl (lv_at hl 2 rfl) ?_
              refine va_get (D := D) (ci := 10) (v := .ref q_t_holds) (C := RX11) (T := TX11) (N := 32) hx hb hts nhu_X11 hown hK hP 0 rfl rfl 5 (by decide) (hts _ nhw_232) (fun _ h9 => h9) rfl dX11_goRuns_111 ?_
              refine lv_iconst (v := 4) hx hb dX11_goRuns_114 (by decide) ?_
              refine lv_iload_n hx hb dX11_goRuns_115 rfl (lv_at hl 0 rfl) ?_
              refine lv_imul hx hb dX11_goRuns_116 ?_
              refine lv_iload_n hx hb dX11_goRuns_117 rfl (lv_at hl 3 rfl) ?_
              refine lv_iadd hx hb dX11_goRuns_118 ?_
              obtain ⟨z56, h⟩ := nh_chk_some h
              refine va_iald hx hb hK hP 2 0 rfl rfl (nh_in_in z56) dX11_goRuns_119 ?_
              refine lv_bipush (v := 6) hx hb dX11_goRuns_120 (by decide) ?_
              refine lv_icmp_ne (tgt := 129) hx hb dX11_goRuns_122 (by decide) (fun c57 => ?_) (fun c57 => ?_)
              · replace h := nh_f h c57
                refine lv_iconst (v := 1) hx hb dX11_goRuns_129 (by decide) ?_
                refine lv_aload_n hx hb dX11_goRuns_130 rfl (lv_at hl 2 rfl) ?_
                refine va_get (D := D) (ci := 10) (v := .ref q_t_holds) (C := RX11) (T := TX11) (N := 32) hx hb hts nhu_X11 hown hK hP 0 rfl rfl 5 (by decide) (hts _ nhw_232) (fun _ h9 => h9) rfl dX11_goRuns_131 ?_
                refine lv_iconst (v := 4) hx hb dX11_goRuns_134 (by decide) ?_
                refine lv_iload_n hx hb dX11_goRuns_135 rfl (lv_at hl 0 rfl) ?_
                refine lv_imul hx hb dX11_goRuns_136 ?_
                refine lv_iload_n hx hb dX11_goRuns_137 rfl (lv_at hl 3 rfl) ?_
                refine lv_iadd hx hb dX11_goRuns_138 ?_
                obtain ⟨z58, h⟩ := nh_chk_some h
                refine va_iald hx hb hK hP 2 0 rfl rfl (nh_in_in z58) dX11_goRuns_139 ?_
                refine lv_ishl hx hb dX11_goRuns_140 ?_
                refine lv_ior hx hb dX11_goRuns_141 ?_
                refine lv_topi (fun y_59 ey_59 => ?_)
                replace h := nh_to h ey_59
                refine va_put (D := D) (ci := 10) (v := .int y_59) (ty := .int) (C := RX11) (T := TX11) (N := 32) hx hb hts nhu_X11 tyX11 tyX11_ok nmX11 hown hK hP hD hS 0 rfl rfl 24 (by decide) (hts _ nhw_238) (fun _ h9 => h9) rfl (by decide +kernel) rfl rfl (Nat.le_of_ble_eq_true rfl) dX11_goRuns_142 (fun H locs hP hD hS => ?_)
                have hP : va_P D vwCl (wlX11_goRuns cI cZ cO q_t q_t_text q_t_holds q_t_had q_t_worth q_t_wants q_t_readHolds q_t_readHad q_t_readWorth q_t_rows q_t_kept q_t_isKept q_t_sort q_t_took q_t_tried q_t_planned q_t_from q_t_best q_t_outcome q_t_value q_t_act t_thrown t_textSize t_place t_people t_readPeople t_acts t_sights t_longest_27 t_shortest_28 t_runs_29 y_59 t_bestMore t_had_36 t_holds_37 t_tried_53) H := hP
                have hD : va_D A (wlX11_goRuns cI cZ cO q_t q_t_text q_t_holds q_t_had q_t_worth q_t_wants q_t_readHolds q_t_readHad q_t_readWorth q_t_rows q_t_kept q_t_isKept q_t_sort q_t_took q_t_tried q_t_planned q_t_from q_t_best q_t_outcome q_t_value q_t_act t_thrown t_textSize t_place t_people t_readPeople t_acts t_sights t_longest_27 t_shortest_28 t_runs_29 y_59 t_bestMore t_had_36 t_holds_37 t_tried_53) := hD
                refine lv_goto (tgt := 205) hx hb dX11_goRuns_145 (by decide) ?_
                refine lv_goto (tgt := 59) hx hb dX11_goRuns_205 (by decide) ?_
                exact ih59 x2_51 t_longest_27 t_shortest_28 t_runs_29 y_59 t_had_36 t_holds_37 t_tried_53 H locs ls hP hD hS (lv_sub hl [2, 3, 0] rfl) h
              · replace h := nh_t h c57
                refine lv_iconst (v := 0) hx hb dX11_goRuns_125 (by decide) ?_
                refine lv_goto (tgt := 141) hx hb dX11_goRuns_126 (by decide) ?_
                refine lv_ior hx hb dX11_goRuns_141 ?_
                refine lv_topi (fun y_60 ey_60 => ?_)
                replace h := nh_to h ey_60
                refine va_put (D := D) (ci := 10) (v := .int y_60) (ty := .int) (C := RX11) (T := TX11) (N := 32) hx hb hts nhu_X11 tyX11 tyX11_ok nmX11 hown hK hP hD hS 0 rfl rfl 24 (by decide) (hts _ nhw_238) (fun _ h9 => h9) rfl (by decide +kernel) rfl rfl (Nat.le_of_ble_eq_true rfl) dX11_goRuns_142 (fun H locs hP hD hS => ?_)
                have hP : va_P D vwCl (wlX11_goRuns cI cZ cO q_t q_t_text q_t_holds q_t_had q_t_worth q_t_wants q_t_readHolds q_t_readHad q_t_readWorth q_t_rows q_t_kept q_t_isKept q_t_sort q_t_took q_t_tried q_t_planned q_t_from q_t_best q_t_outcome q_t_value q_t_act t_thrown t_textSize t_place t_people t_readPeople t_acts t_sights t_longest_27 t_shortest_28 t_runs_29 y_60 t_bestMore t_had_36 t_holds_37 t_tried_53) H := hP
                have hD : va_D A (wlX11_goRuns cI cZ cO q_t q_t_text q_t_holds q_t_had q_t_worth q_t_wants q_t_readHolds q_t_readHad q_t_readWorth q_t_rows q_t_kept q_t_isKept q_t_sort q_t_took q_t_tried q_t_planned q_t_from q_t_best q_t_outcome q_t_value q_t_act t_thrown t_textSize t_place t_people t_readPeople t_acts t_sights t_longest_27 t_shortest_28 t_runs_29 y_60 t_bestMore t_had_36 t_holds_37 t_tried_53) := hD
                refine lv_goto (tgt := 205) hx hb dX11_goRuns_145 (by decide) ?_
                refine lv_goto (tgt := 59) hx hb dX11_goRuns_205 (by decide) ?_
                exact ih59 x2_51 t_longest_27 t_shortest_28 t_runs_29 y_60 t_had_36 t_holds_37 t_tried_53 H locs ls hP hD hS (lv_sub hl [2, 3, 0] rfl) h
        refine lv_iload_n hx hb dX11_goRuns_59 rfl (lv_at hl 2 rfl) ?_
        refine lv_if_lt (tgt := 208) hx hb dX11_goRuns_60 (by decide) (fun c61 => ?_) (fun c61 => ?_)
        · replace h := nh_t h c61
          exact hk59 x2_10 t_longest_11 t_shortest_12 t_runs_13 t_came_14 t_had_15 t_holds_16 t_tried_17 H locs ls hP hD hS (lv_sub hl [0, 1, 2] rfl) h
        · replace h := nh_f h c61
          refine lv_aload_n hx hb dX11_goRuns_63 rfl (lv_at hl 0 rfl) ?_
          refine va_get (D := D) (ci := 10) (v := .ref q_t_tried) (C := RX11) (T := TX11) (N := 32) hx hb hts nhu_X11 hown hK hP 0 rfl rfl 20 (by decide) (hts _ nhw_250) (fun _ h9 => h9) rfl dX11_goRuns_64 ?_
          refine lv_iload_n hx hb dX11_goRuns_67 rfl (lv_at hl 2 rfl) ?_
          obtain ⟨z62, h⟩ := nh_chk_some h
          refine va_iald hx hb hK hP 3 0 rfl rfl (nh_in_in z62) dX11_goRuns_68 ?_
          refine lv_bipush (v := (-9)) hx hb dX11_goRuns_69 (by decide) ?_
          refine lv_icmp_ne (tgt := 78) hx hb dX11_goRuns_71 (by decide) (fun c63 => ?_) (fun c63 => ?_)
          · replace h := nh_f h c63
            refine lv_iconst (v := 0) hx hb dX11_goRuns_78 (by decide) ?_
            exact J79 x2_10 t_longest_11 t_shortest_12 t_runs_13 t_came_14 t_had_15 t_holds_16 t_tried_17 0 H locs ls hP hD hS (lv_sub hl [0, 1, 2] rfl) h
          · replace h := nh_t h c63
            refine lv_iconst (v := 1) hx hb dX11_goRuns_74 (by decide) ?_
            refine lv_goto (tgt := 79) hx hb dX11_goRuns_75 (by decide) ?_
            exact J79 x2_10 t_longest_11 t_shortest_12 t_runs_13 t_came_14 t_had_15 t_holds_16 t_tried_17 1 H locs ls hP hD hS (lv_sub hl [0, 1, 2] rfl) h
    refine L59 _ (fun x2_18 t_longest_19 t_shortest_20 t_runs_21 t_came_22 t_had_23 t_holds_24 t_tried_25 H locs ls hP hD hS hl h => ?_) _ 0 t_longest_1 t_shortest_2 t_runs_3 t0_8 t_had_5 t_holds_6 t_tried_9 H locs ls hP hD hS (lv_sub hl [1, 2, 0] rfl) h
    obtain ⟨g0, g1, g2, g3, g4, g5, g6⟩ := nh_i7 h
    exact nh_rv hx hb hr hlocks (by rw [← g0, ← g1, ← g2, ← g3, ← g4, ← g5, ← g6]; exact hP) hS dX11_goRuns_208
  have J34 : ∀ (t_longest_64 : Int32) (t_shortest_65 : Int32) (t_runs_66 : Int32) (t_came_67 : Int32) (t_had_68 : Nat → Int32) (t_holds_69 : Nat → Int32) (t_tried_70 : Nat → Int32) (H : Heap) (locs : List Loc) (ls : Array Slot), va_P D vwCl (wlX11_goRuns cI cZ cO q_t q_t_text q_t_holds q_t_had q_t_worth q_t_wants q_t_readHolds q_t_readHad q_t_readWorth q_t_rows q_t_kept q_t_isKept q_t_sort q_t_took q_t_tried q_t_planned q_t_from q_t_best q_t_outcome q_t_value q_t_act t_thrown t_textSize t_place t_people t_readPeople t_acts t_sights t_longest_64 t_shortest_65 t_runs_66 t_came_67 t_bestMore t_had_68 t_holds_69 t_tried_70) H → va_D A (wlX11_goRuns cI cZ cO q_t q_t_text q_t_holds q_t_had q_t_worth q_t_wants q_t_readHolds q_t_readHad q_t_readWorth q_t_rows q_t_kept q_t_isKept q_t_sort q_t_took q_t_tried q_t_planned q_t_from q_t_best q_t_outcome q_t_value q_t_act t_thrown t_textSize t_place t_people t_readPeople t_acts t_sights t_longest_64 t_shortest_65 t_runs_66 t_came_67 t_bestMore t_had_68 t_holds_69 t_tried_70) → va_S A s.heap H locs → lv_has ls 4 [(0, .ref q_t), (1, .int i1)] → fX11_goRuns_J34 t_people i1 F t_longest_64 t_shortest_65 t_runs_66 t_came_67 t_had_68 t_holds_69 t_tried_70 = some (o_t_longest, o_t_shortest, o_t_runs, o_t_came, o_t_had, o_t_holds, o_t_tried) → W p l e (nh_rm 3) s m args below meth c H locs 0 0 (MQ below ((nh_Qv D (wlX11_goRuns cI cZ cO q_t q_t_text q_t_holds q_t_had q_t_worth q_t_wants q_t_readHolds q_t_readHad q_t_readWorth q_t_rows q_t_kept q_t_isKept q_t_sort q_t_took q_t_tried q_t_planned q_t_from q_t_best q_t_outcome q_t_value q_t_act t_thrown t_textSize t_place t_people t_readPeople t_acts t_sights o_t_longest o_t_shortest o_t_runs o_t_came t_bestMore o_t_had o_t_holds o_t_tried)) A) args s 0 0 A) (F0 m 34 ls [.ref q_t]) := by
    intro t_longest_64 t_shortest_65 t_runs_66 t_came_67 t_had_68 t_holds_69 t_tried_70 H locs ls hP hD hS hl h
    unfold fX11_goRuns_J34 at h
    refine lv_iconst (v := 0) hx hb dX11_goRuns_34 (by decide) ?_
    refine lv_goto (tgt := 46) hx hb dX11_goRuns_35 (by decide) ?_
    exact J46 t_longest_64 t_shortest_65 t_runs_66 t_came_67 t_had_68 t_holds_69 t_tried_70 0 H locs ls hP hD hS (lv_sub hl [0, 1] rfl) h
  refine lv_aload_n hx hb dX11_goRuns_0 rfl (lv_at hl 0 rfl) ?_
  refine lv_iconst (v := 0) hx hb dX11_goRuns_1 (by decide) ?_
  refine va_put (D := D) (ci := 10) (v := .int 0) (ty := .int) (C := RX11) (T := TX11) (N := 32) hx hb hts nhu_X11 tyX11 tyX11_ok nmX11 hown hK hP hD hS 0 rfl rfl 21 (by decide) (hts _ nhw_235) (fun _ h9 => h9) rfl (by decide +kernel) rfl rfl (Nat.le_of_ble_eq_true rfl) dX11_goRuns_2 (fun H locs hP hD hS => ?_)
  have hP : va_P D vwCl (wlX11_goRuns cI cZ cO q_t q_t_text q_t_holds q_t_had q_t_worth q_t_wants q_t_readHolds q_t_readHad q_t_readWorth q_t_rows q_t_kept q_t_isKept q_t_sort q_t_took q_t_tried q_t_planned q_t_from q_t_best q_t_outcome q_t_value q_t_act t_thrown t_textSize t_place t_people t_readPeople t_acts t_sights 0 t_shortest t_runs t_came t_bestMore t_had t_holds t_tried) H := hP
  have hD : va_D A (wlX11_goRuns cI cZ cO q_t q_t_text q_t_holds q_t_had q_t_worth q_t_wants q_t_readHolds q_t_readHad q_t_readWorth q_t_rows q_t_kept q_t_isKept q_t_sort q_t_took q_t_tried q_t_planned q_t_from q_t_best q_t_outcome q_t_value q_t_act t_thrown t_textSize t_place t_people t_readPeople t_acts t_sights 0 t_shortest t_runs t_came t_bestMore t_had t_holds t_tried) := hD
  refine lv_aload_n hx hb dX11_goRuns_5 rfl (lv_at hl 0 rfl) ?_
  refine lv_ldc (v := 99999) hx hb hown (hts _ nhw_185) dX11_goRuns_6 ?_
  refine va_put (D := D) (ci := 10) (v := .int 99999) (ty := .int) (C := RX11) (T := TX11) (N := 32) hx hb hts nhu_X11 tyX11 tyX11_ok nmX11 hown hK hP hD hS 0 rfl rfl 22 (by decide) (hts _ nhw_236) (fun _ h9 => h9) rfl (by decide +kernel) rfl rfl (Nat.le_of_ble_eq_true rfl) dX11_goRuns_8 (fun H locs hP hD hS => ?_)
  have hP : va_P D vwCl (wlX11_goRuns cI cZ cO q_t q_t_text q_t_holds q_t_had q_t_worth q_t_wants q_t_readHolds q_t_readHad q_t_readWorth q_t_rows q_t_kept q_t_isKept q_t_sort q_t_took q_t_tried q_t_planned q_t_from q_t_best q_t_outcome q_t_value q_t_act t_thrown t_textSize t_place t_people t_readPeople t_acts t_sights 0 99999 t_runs t_came t_bestMore t_had t_holds t_tried) H := hP
  have hD : va_D A (wlX11_goRuns cI cZ cO q_t q_t_text q_t_holds q_t_had q_t_worth q_t_wants q_t_readHolds q_t_readHad q_t_readWorth q_t_rows q_t_kept q_t_isKept q_t_sort q_t_took q_t_tried q_t_planned q_t_from q_t_best q_t_outcome q_t_value q_t_act t_thrown t_textSize t_place t_people t_readPeople t_acts t_sights 0 99999 t_runs t_came t_bestMore t_had t_holds t_tried) := hD
  refine lv_aload_n hx hb dX11_goRuns_11 rfl (lv_at hl 0 rfl) ?_
  refine lv_iconst (v := 0) hx hb dX11_goRuns_12 (by decide) ?_
  refine va_put (D := D) (ci := 10) (v := .int 0) (ty := .int) (C := RX11) (T := TX11) (N := 32) hx hb hts nhu_X11 tyX11 tyX11_ok nmX11 hown hK hP hD hS 0 rfl rfl 23 (by decide) (hts _ nhw_237) (fun _ h9 => h9) rfl (by decide +kernel) rfl rfl (Nat.le_of_ble_eq_true rfl) dX11_goRuns_13 (fun H locs hP hD hS => ?_)
  have hP : va_P D vwCl (wlX11_goRuns cI cZ cO q_t q_t_text q_t_holds q_t_had q_t_worth q_t_wants q_t_readHolds q_t_readHad q_t_readWorth q_t_rows q_t_kept q_t_isKept q_t_sort q_t_took q_t_tried q_t_planned q_t_from q_t_best q_t_outcome q_t_value q_t_act t_thrown t_textSize t_place t_people t_readPeople t_acts t_sights 0 99999 0 t_came t_bestMore t_had t_holds t_tried) H := hP
  have hD : va_D A (wlX11_goRuns cI cZ cO q_t q_t_text q_t_holds q_t_had q_t_worth q_t_wants q_t_readHolds q_t_readHad q_t_readWorth q_t_rows q_t_kept q_t_isKept q_t_sort q_t_took q_t_tried q_t_planned q_t_from q_t_best q_t_outcome q_t_value q_t_act t_thrown t_textSize t_place t_people t_readPeople t_acts t_sights 0 99999 0 t_came t_bestMore t_had t_holds t_tried) := hD
  refine lv_aload_n hx hb dX11_goRuns_16 rfl (lv_at hl 0 rfl) ?_
  refine lv_iload_n hx hb dX11_goRuns_17 rfl (lv_at hl 1 rfl) ?_
  refine lv_bipush (v := (-9)) hx hb dX11_goRuns_18 (by decide) ?_
  refine lv_icmp_eq (tgt := 34) hx hb dX11_goRuns_20 (by decide) (fun c71 => ?_) (fun c71 => ?_)
  · replace h := nh_t h c71
    exact J34 0 99999 0 t_came t_had t_holds t_tried H locs ls hP hD hS (lv_sub hl [0, 1] rfl) h
  · replace h := nh_f h c71
    refine lv_aload_n hx hb dX11_goRuns_23 rfl (lv_at hl 0 rfl) ?_
    refine va_get (D := D) (ci := 10) (v := .ref q_t_holds) (C := RX11) (T := TX11) (N := 32) hx hb hts nhu_X11 hown hK hP 0 rfl rfl 5 (by decide) (hts _ nhw_232) (fun _ h9 => h9) rfl dX11_goRuns_24 ?_
    refine lv_iload_n hx hb dX11_goRuns_27 rfl (lv_at hl 1 rfl) ?_
    obtain ⟨z72, h⟩ := nh_chk_some h
    refine va_iald hx hb hK hP 2 0 rfl rfl (nh_in_in z72) dX11_goRuns_28 ?_
    refine lv_bipush (v := 6) hx hb dX11_goRuns_29 (by decide) ?_
    refine lv_icmp_ne (tgt := 38) hx hb dX11_goRuns_31 (by decide) (fun c73 => ?_) (fun c73 => ?_)
    · replace h := nh_f h c73
      refine lv_iconst (v := 1) hx hb dX11_goRuns_38 (by decide) ?_
      refine lv_aload_n hx hb dX11_goRuns_39 rfl (lv_at hl 0 rfl) ?_
      refine va_get (D := D) (ci := 10) (v := .ref q_t_holds) (C := RX11) (T := TX11) (N := 32) hx hb hts nhu_X11 hown hK hP 0 rfl rfl 5 (by decide) (hts _ nhw_232) (fun _ h9 => h9) rfl dX11_goRuns_40 ?_
      refine lv_iload_n hx hb dX11_goRuns_43 rfl (lv_at hl 1 rfl) ?_
      obtain ⟨z74, h⟩ := nh_chk_some h
      refine va_iald hx hb hK hP 2 0 rfl rfl (nh_in_in z74) dX11_goRuns_44 ?_
      refine lv_ishl hx hb dX11_goRuns_45 ?_
      exact J46 0 99999 0 t_came t_had t_holds t_tried (1 <<< ((t_holds (Int32.toNatClampNeg i1)) &&& 31)) H locs ls hP hD hS (lv_sub hl [0, 1] rfl) h
    · replace h := nh_t h c73
      exact J34 0 99999 0 t_came t_had t_holds t_tried H locs ls hP hD hS (lv_sub hl [0, 1] rfl) h
