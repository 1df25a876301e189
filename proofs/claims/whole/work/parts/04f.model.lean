abbrev wlX11_unsee (cI cZ cO : ClassId) (q_t q_t_text q_t_holds q_t_had q_t_worth q_t_wants q_t_readHolds q_t_readHad q_t_readWorth q_t_rows q_t_kept q_t_isKept q_t_sort q_t_took q_t_tried q_t_planned q_t_from q_t_best q_t_outcome q_t_value q_t_act : Nat) (t_thrown : Int32) (t_textSize : Int32) (t_place : Int32) (t_people : Int32) (t_readPeople : Int32) (t_acts : Int32) (t_sights : Int32) (t_longest : Int32) (t_shortest : Int32) (t_runs : Int32) (t_came : Int32) (t_bestMore : Int32) : va_W := [(q_t, .inr (10, [.int t_thrown, .ref q_t_text, .int t_textSize, .int t_place, .int t_people, .ref q_t_holds, .ref q_t_had, .ref q_t_worth, .ref q_t_wants, .int t_readPeople, .ref q_t_readHolds, .ref q_t_readHad, .ref q_t_readWorth, .ref q_t_rows, .int t_acts, .ref q_t_kept, .ref q_t_isKept, .int t_sights, .ref q_t_sort, .ref q_t_took, .ref q_t_tried, .int t_longest, .int t_shortest, .int t_runs, .int t_came, .ref q_t_planned, .ref q_t_from, .ref q_t_best, .int t_bestMore, .ref q_t_outcome, .ref q_t_value, .ref q_t_act]))]
def fX11_unsee (t_thrown : Int32) (t_sights : Int32) : Option (Int32 × Int32 × Int32) :=
  some (t_sights, 0, 0)
set_option maxHeartbeats 4000000 in
set_option maxRecDepth 100000 in
theorem kX11_unsee (l : Launch) (D : va_G) (cI cZ cO : ClassId) (sz : Nat) (q_t q_t_text q_t_holds q_t_had q_t_worth q_t_wants q_t_readHolds q_t_readHad q_t_readWorth q_t_rows q_t_kept q_t_isKept q_t_sort q_t_took q_t_tried q_t_planned q_t_from q_t_best q_t_outcome q_t_value q_t_act : Nat) (t_thrown : Int32) (t_textSize : Int32) (t_place : Int32) (t_people : Int32) (t_readPeople : Int32) (t_acts : Int32) (t_sights : Int32) (t_longest : Int32) (t_shortest : Int32) (t_runs : Int32) (t_came : Int32) (t_bestMore : Int32)  (o_r : Int32) (o_t_thrown : Int32) (o_t_sights : Int32) (h : fX11_unsee t_thrown t_sights = some (o_r, o_t_thrown, o_t_sights)) : Met l yX11_unsee (nh_w (.code yX11_unsee cX11_unsee 2 (some .int))) (nh_rm 0) (nh_Pc D cI cZ cO (wlX11_unsee cI cZ cO q_t q_t_text q_t_holds q_t_had q_t_worth q_t_wants q_t_readHolds q_t_readHad q_t_readWorth q_t_rows q_t_kept q_t_isKept q_t_sort q_t_took q_t_tried q_t_planned q_t_from q_t_best q_t_outcome q_t_value q_t_act t_thrown t_textSize t_place t_people t_readPeople t_acts t_sights t_longest t_shortest t_runs t_came t_bestMore) [.ref q_t] sz) ((nh_Qi D (wlX11_unsee cI cZ cO q_t q_t_text q_t_holds q_t_had q_t_worth q_t_wants q_t_readHolds q_t_readHad q_t_readWorth q_t_rows q_t_kept q_t_isKept q_t_sort q_t_took q_t_tried q_t_planned q_t_from q_t_best q_t_outcome q_t_value q_t_act o_t_thrown t_textSize t_place t_people t_readPeople t_acts o_t_sights t_longest t_shortest t_runs t_came t_bestMore) o_r) (va_A (wlX11_unsee cI cZ cO q_t q_t_text q_t_holds q_t_had q_t_worth q_t_wants q_t_readHolds q_t_readHad q_t_readWorth q_t_rows q_t_kept q_t_isKept q_t_sort q_t_took q_t_tried q_t_planned q_t_from q_t_best q_t_outcome q_t_value q_t_act t_thrown t_textSize t_place t_people t_readPeople t_acts t_sights t_longest t_shortest t_runs t_came t_bestMore) sz)) 0 0 (va_A (wlX11_unsee cI cZ cO q_t q_t_text q_t_holds q_t_had q_t_worth q_t_wants q_t_readHolds q_t_readHad q_t_readWorth q_t_rows q_t_kept q_t_isKept q_t_sort q_t_took q_t_tried q_t_planned q_t_from q_t_best q_t_outcome q_t_value q_t_act t_thrown t_textSize t_place t_people t_readPeople t_acts t_sights t_longest t_shortest t_runs t_came t_bestMore) sz) := by
  unfold fX11_unsee at h
  refine nh_met (cc := cX11_unsee) (maxL := 2) (ret := (some .int)) (nh_Qi D (wlX11_unsee cI cZ cO q_t q_t_text q_t_holds q_t_had q_t_worth q_t_wants q_t_readHolds q_t_readHad q_t_readWorth q_t_rows q_t_kept q_t_isKept q_t_sort q_t_took q_t_tried q_t_planned q_t_from q_t_best q_t_outcome q_t_value q_t_act o_t_thrown t_textSize t_place t_people t_readPeople t_acts o_t_sights t_longest t_shortest t_runs t_came t_bestMore) o_r) (by decide) rfl (Nat.le_of_ble_eq_true rfl) ?_
  intro p e s m args below meth c A H locs ls hx hb hml hr hown hts hlocks hinit hP hK hN hD hA hS hl
  have hl : lv_has ls 2 [(0, .ref q_t)] := hl
  have hts : ∀ w ∈ nh_words, w.before args s = true := fun w h => hts w (List.mem_cons_of_mem _ h)
  refine lv_aload_n hx hb dX11_unsee_0 rfl (lv_at hl 0 rfl) ?_
  refine lv_iconst (v := 0) hx hb dX11_unsee_1 (by decide) ?_
  refine va_put (D := D) (ci := 10) (v := .int 0) (ty := .int) (C := RX11) (T := TX11) (N := 32) hx hb hts nhu_X11 tyX11 tyX11_ok nmX11 hown hK hP hD hS 0 rfl rfl 0 (by decide) (hts _ nhw_258) (fun _ h9 => h9) rfl (by decide +kernel) rfl rfl (Nat.le_of_ble_eq_true rfl) dX11_unsee_2 (fun H locs hP hD hS => ?_)
  have hP : va_P D vwCl (wlX11_unsee cI cZ cO q_t q_t_text q_t_holds q_t_had q_t_worth q_t_wants q_t_readHolds q_t_readHad q_t_readWorth q_t_rows q_t_kept q_t_isKept q_t_sort q_t_took q_t_tried q_t_planned q_t_from q_t_best q_t_outcome q_t_value q_t_act 0 t_textSize t_place t_people t_readPeople t_acts t_sights t_longest t_shortest t_runs t_came t_bestMore) H := hP
  have hD : va_D A (wlX11_unsee cI cZ cO q_t q_t_text q_t_holds q_t_had q_t_worth q_t_wants q_t_readHolds q_t_readHad q_t_readWorth q_t_rows q_t_kept q_t_isKept q_t_sort q_t_took q_t_tried q_t_planned q_t_from q_t_best q_t_outcome q_t_value q_t_act 0 t_textSize t_place t_people t_readPeople t_acts t_sights t_longest t_shortest t_runs t_came t_bestMore) := hD
  refine lv_aload_n hx hb dX11_unsee_5 rfl (lv_at hl 0 rfl) ?_
  refine va_get (D := D) (ci := 10) (v := .int t_sights) (C := RX11) (T := TX11) (N := 32) hx hb hts nhu_X11 hown hK hP 0 rfl rfl 17 (by decide) (hts _ nhw_233) (fun _ h9 => h9) rfl dX11_unsee_6 ?_
  refine lv_istore_n (lv' := [(1, .int t_sights), (0, .ref q_t)]) hx hb dX11_unsee_9 rfl hl (by decide) rfl (fun ls hl => ?_)
  refine lv_aload_n hx hb dX11_unsee_10 rfl (lv_at hl 1 rfl) ?_
  refine lv_iconst (v := 0) hx hb dX11_unsee_11 (by decide) ?_
  refine va_put (D := D) (ci := 10) (v := .int 0) (ty := .int) (C := RX11) (T := TX11) (N := 32) hx hb hts nhu_X11 tyX11 tyX11_ok nmX11 hown hK hP hD hS 0 rfl rfl 17 (by decide) (hts _ nhw_233) (fun _ h9 => h9) rfl (by decide +kernel) rfl rfl (Nat.le_of_ble_eq_true rfl) dX11_unsee_12 (fun H locs hP hD hS => ?_)
  have hP : va_P D vwCl (wlX11_unsee cI cZ cO q_t q_t_text q_t_holds q_t_had q_t_worth q_t_wants q_t_readHolds q_t_readHad q_t_readWorth q_t_rows q_t_kept q_t_isKept q_t_sort q_t_took q_t_tried q_t_planned q_t_from q_t_best q_t_outcome q_t_value q_t_act 0 t_textSize t_place t_people t_readPeople t_acts 0 t_longest t_shortest t_runs t_came t_bestMore) H := hP
  have hD : va_D A (wlX11_unsee cI cZ cO q_t q_t_text q_t_holds q_t_had q_t_worth q_t_wants q_t_readHolds q_t_readHad q_t_readWorth q_t_rows q_t_kept q_t_isKept q_t_sort q_t_took q_t_tried q_t_planned q_t_from q_t_best q_t_outcome q_t_value q_t_act 0 t_textSize t_place t_people t_readPeople t_acts 0 t_longest t_shortest t_runs t_came t_bestMore) := hD
  refine lv_iload_n hx hb dX11_unsee_15 rfl (lv_at hl 0 rfl) ?_
  obtain ⟨g0, g1, g2⟩ := nh_i3 h
  exact nh_ri hx hb hr hlocks g0 (by rw [← g1, ← g2]; exact hP) hS dX11_unsee_16
abbrev wlX11_fits (cI cZ cO : ClassId) (q_t q_t_text q_t_holds q_t_had q_t_worth q_t_wants q_t_readHolds q_t_readHad q_t_readWorth q_t_rows q_t_kept q_t_isKept q_t_sort q_t_took q_t_tried q_t_planned q_t_from q_t_best q_t_outcome q_t_value q_t_act : Nat) (t_thrown : Int32) (t_textSize : Int32) (t_place : Int32) (t_people : Int32) (t_readPeople : Int32) (t_acts : Int32) (t_sights : Int32) (t_longest : Int32) (t_shortest : Int32) (t_runs : Int32) (t_came : Int32) (t_bestMore : Int32) (t_sort : Nat → Int32) (t_took : Nat → Int32) : va_W := [(q_t, .inr (10, [.int t_thrown, .ref q_t_text, .int t_textSize, .int t_place, .int t_people, .ref q_t_holds, .ref q_t_had, .ref q_t_worth, .ref q_t_wants, .int t_readPeople, .ref q_t_readHolds, .ref q_t_readHad, .ref q_t_readWorth, .ref q_t_rows, .int t_acts, .ref q_t_kept, .ref q_t_isKept, .int t_sights, .ref q_t_sort, .ref q_t_took, .ref q_t_tried, .int t_longest, .int t_shortest, .int t_runs, .int t_came, .ref q_t_planned, .ref q_t_from, .ref q_t_best, .int t_bestMore, .ref q_t_outcome, .ref q_t_value, .ref q_t_act])), (q_t_sort, .inl (cI, 8, .inl t_sort)), (q_t_took, .inl (cZ, 8, .inl t_took))]
def fX11_fits_B7 (t_sights : Int32) (t_sort : Nat → Int32) (t_took : Nat → Int32) (k7 : Int32 → Int32 → Int32 → Option (Int32)) (r7 : Int32 → Int32 → Int32 → Option (Int32)) (x2_1 : Int32) (x3_2 : Int32) (x4_3 : Int32) : Option (Int32) :=
  (if t_sights ≤ x4_3 then k7 x2_1 x3_2 x4_3
 else (if x3_2 = 0 then nh_chk (nh_in x4_3 8) (nh_let (α := Int32) ((x2_1 ||| (1 <<< ((t_sort (Int32.toNatClampNeg x4_3)) &&& 31)))) (fun y_10 => nh_let (α := Int32) (x4_3 + 1) (fun x4_11 => r7 y_10 0 x4_11)))
 else nh_chk (nh_in x4_3 8) (nh_chk (nh_in x4_3 8) ((if (fX11_has x2_1 (t_sort (Int32.toNatClampNeg x4_3))) = (t_took (Int32.toNatClampNeg x4_3)) then nh_chk (nh_in x4_3 8) (nh_let (α := Int32) ((x2_1 ||| (1 <<< ((t_sort (Int32.toNatClampNeg x4_3)) &&& 31)))) (fun y_16 => nh_let (α := Int32) (x4_3 + 1) (fun x4_17 => r7 y_16 0 x4_17)))
 else nh_chk (nh_in x4_3 8) (nh_let (α := Int32) ((x2_1 ||| (1 <<< ((t_sort (Int32.toNatClampNeg x4_3)) &&& 31)))) (fun y_19 => nh_let (α := Int32) (x4_3 + 1) (fun x4_20 => r7 y_19 1 x4_20))))))))
def fX11_fits_L7 (t_sights : Int32) (t_sort : Nat → Int32) (t_took : Nat → Int32) (k7 : Int32 → Int32 → Int32 → Option (Int32)) : Nat → Int32 → Int32 → Int32 → Option (Int32)
  | 0 => fun _ _ _ => none
  | n + 1 => fX11_fits_B7 t_sights t_sort t_took k7 (fX11_fits_L7 t_sights t_sort t_took k7 n)
def fX11_fits (F : Nat) (t_sights : Int32) (t_sort : Nat → Int32) (t_took : Nat → Int32) (i1 : Int32) : Option (Int32) :=
  fX11_fits_L7 t_sights t_sort t_took (fun x2_4 x3_5 x4_6 => nh_chk (nh_isB x3_5) (some x3_5)) F i1 1 0
set_option maxHeartbeats 4000000 in
set_option maxRecDepth 100000 in
theorem kX11_fits (F : Nat) (l : Launch) (D : va_G) (cI cZ cO : ClassId) (sz : Nat) (q_t q_t_text q_t_holds q_t_had q_t_worth q_t_wants q_t_readHolds q_t_readHad q_t_readWorth q_t_rows q_t_kept q_t_isKept q_t_sort q_t_took q_t_tried q_t_planned q_t_from q_t_best q_t_outcome q_t_value q_t_act : Nat) (t_thrown : Int32) (t_textSize : Int32) (t_place : Int32) (t_people : Int32) (t_readPeople : Int32) (t_acts : Int32) (t_sights : Int32) (t_longest : Int32) (t_shortest : Int32) (t_runs : Int32) (t_came : Int32) (t_bestMore : Int32) (t_sort : Nat → Int32) (t_took : Nat → Int32) (i1 : Int32) (o_r : Int32) (h : fX11_fits F t_sights t_sort t_took i1 = some o_r) : Met l yX11_fits (nh_w (.code yX11_fits cX11_fits 5 (some .boolean))) (nh_rm 1) (nh_Pc D cI cZ cO (wlX11_fits cI cZ cO q_t q_t_text q_t_holds q_t_had q_t_worth q_t_wants q_t_readHolds q_t_readHad q_t_readWorth q_t_rows q_t_kept q_t_isKept q_t_sort q_t_took q_t_tried q_t_planned q_t_from q_t_best q_t_outcome q_t_value q_t_act t_thrown t_textSize t_place t_people t_readPeople t_acts t_sights t_longest t_shortest t_runs t_came t_bestMore t_sort t_took) [.ref q_t, .int i1] sz) ((nh_Qi D (wlX11_fits cI cZ cO q_t q_t_text q_t_holds q_t_had q_t_worth q_t_wants q_t_readHolds q_t_readHad q_t_readWorth q_t_rows q_t_kept q_t_isKept q_t_sort q_t_took q_t_tried q_t_planned q_t_from q_t_best q_t_outcome q_t_value q_t_act t_thrown t_textSize t_place t_people t_readPeople t_acts t_sights t_longest t_shortest t_runs t_came t_bestMore t_sort t_took) o_r) (va_A (wlX11_fits cI cZ cO q_t q_t_text q_t_holds q_t_had q_t_worth q_t_wants q_t_readHolds q_t_readHad q_t_readWorth q_t_rows q_t_kept q_t_isKept q_t_sort q_t_took q_t_tried q_t_planned q_t_from q_t_best q_t_outcome q_t_value q_t_act t_thrown t_textSize t_place t_people t_readPeople t_acts t_sights t_longest t_shortest t_runs t_came t_bestMore t_sort t_took) sz)) 0 0 (va_A (wlX11_fits cI cZ cO q_t q_t_text q_t_holds q_t_had q_t_worth q_t_wants q_t_readHolds q_t_readHad q_t_readWorth q_t_rows q_t_kept q_t_isKept q_t_sort q_t_took q_t_tried q_t_planned q_t_from q_t_best q_t_outcome q_t_value q_t_act t_thrown t_textSize t_place t_people t_readPeople t_acts t_sights t_longest t_shortest t_runs t_came t_bestMore t_sort t_took) sz) := by
  unfold fX11_fits at h
  refine nh_met (cc := cX11_fits) (maxL := 5) (ret := (some .boolean)) (nh_Qi D (wlX11_fits cI cZ cO q_t q_t_text q_t_holds q_t_had q_t_worth q_t_wants q_t_readHolds q_t_readHad q_t_readWorth q_t_rows q_t_kept q_t_isKept q_t_sort q_t_took q_t_tried q_t_planned q_t_from q_t_best q_t_outcome q_t_value q_t_act t_thrown t_textSize t_place t_people t_readPeople t_acts t_sights t_longest t_shortest t_runs t_came t_bestMore t_sort t_took) o_r) (by decide) rfl (Nat.le_of_ble_eq_true rfl) ?_
  intro p e s m args below meth c A H locs ls hx hb hml hr hown hts hlocks hinit hP hK hN hD hA hS hl
  have hl : lv_has ls 5 [(0, .ref q_t), (1, .int i1)] := hl
  have hts : ∀ w ∈ nh_words, w.before args s = true := fun w h => hts w (List.mem_cons_of_mem _ h)
  refine lv_iload_n hx hb dX11_fits_0 rfl (lv_at hl 1 rfl) ?_
  refine lv_istore_n (lv' := [(2, .int i1), (0, .ref q_t), (1, .int i1)]) hx hb dX11_fits_1 rfl hl (by decide) rfl (fun ls hl => ?_)
  refine lv_iconst (v := 1) hx hb dX11_fits_2 (by decide) ?_
  refine lv_istore_n (lv' := [(3, .int 1), (2, .int i1), (0, .ref q_t), (1, .int i1)]) hx hb dX11_fits_3 rfl hl (by decide) rfl (fun ls hl => ?_)
  refine lv_iconst (v := 0) hx hb dX11_fits_4 (by decide) ?_
  refine lv_istore (lv' := [(4, .int 0), (3, .int 1), (2, .int i1), (0, .ref q_t), (1, .int i1)]) hx hb dX11_fits_5 hl (by decide) rfl (fun ls hl => ?_)
  have L7 : ∀ (k7 : Int32 → Int32 → Int32 → Option (Int32)), (∀ (x2_4 : Int32) (x3_5 : Int32) (x4_6 : Int32) (H : Heap) (locs : List Loc) (ls : Array Slot), va_P D vwCl (wlX11_fits cI cZ cO q_t q_t_text q_t_holds q_t_had q_t_worth q_t_wants q_t_readHolds q_t_readHad q_t_readWorth q_t_rows q_t_kept q_t_isKept q_t_sort q_t_took q_t_tried q_t_planned q_t_from q_t_best q_t_outcome q_t_value q_t_act t_thrown t_textSize t_place t_people t_readPeople t_acts t_sights t_longest t_shortest t_runs t_came t_bestMore t_sort t_took) H → va_D A (wlX11_fits cI cZ cO q_t q_t_text q_t_holds q_t_had q_t_worth q_t_wants q_t_readHolds q_t_readHad q_t_readWorth q_t_rows q_t_kept q_t_isKept q_t_sort q_t_took q_t_tried q_t_planned q_t_from q_t_best q_t_outcome q_t_value q_t_act t_thrown t_textSize t_place t_people t_readPeople t_acts t_sights t_longest t_shortest t_runs t_came t_bestMore t_sort t_took) → va_S A s.heap H locs → lv_has ls 5 [(0, .ref q_t), (1, .int i1), (2, .int x2_4), (3, .int x3_5), (4, .int x4_6)] → k7 x2_4 x3_5 x4_6 = some o_r → W p l e (nh_rm 1) s m args below meth c H locs 0 0 (MQ below ((nh_Qi D (wlX11_fits cI cZ cO q_t q_t_text q_t_holds q_t_had q_t_worth q_t_wants q_t_readHolds q_t_readHad q_t_readWorth q_t_rows q_t_kept q_t_isKept q_t_sort q_t_took q_t_tried q_t_planned q_t_from q_t_best q_t_outcome q_t_value q_t_act t_thrown t_textSize t_place t_people t_readPeople t_acts t_sights t_longest t_shortest t_runs t_came t_bestMore t_sort t_took) o_r) A) args s 0 0 A) (F0 m 65 ls [])) → ∀ (n : Nat) (x2_1 : Int32) (x3_2 : Int32) (x4_3 : Int32) (H : Heap) (locs : List Loc) (ls : Array Slot), va_P D vwCl (wlX11_fits cI cZ cO q_t q_t_text q_t_holds q_t_had q_t_worth q_t_wants q_t_readHolds q_t_readHad q_t_readWorth q_t_rows q_t_kept q_t_isKept q_t_sort q_t_took q_t_tried q_t_planned q_t_from q_t_best q_t_outcome q_t_value q_t_act t_thrown t_textSize t_place t_people t_readPeople t_acts t_sights t_longest t_shortest t_runs t_came t_bestMore t_sort t_took) H → va_D A (wlX11_fits cI cZ cO q_t q_t_text q_t_holds q_t_had q_t_worth q_t_wants q_t_readHolds q_t_readHad q_t_readWorth q_t_rows q_t_kept q_t_isKept q_t_sort q_t_took q_t_tried q_t_planned q_t_from q_t_best q_t_outcome q_t_value q_t_act t_thrown t_textSize t_place t_people t_readPeople t_acts t_sights t_longest t_shortest t_runs t_came t_bestMore t_sort t_took) → va_S A s.heap H locs → lv_has ls 5 [(0, .ref q_t), (1, .int i1), (2, .int x2_1), (3, .int x3_2), (4, .int x4_3)] → fX11_fits_L7 t_sights t_sort t_took k7 n x2_1 x3_2 x4_3 = some o_r → W p l e (nh_rm 1) s m args below meth c H locs 0 0 (MQ below ((nh_Qi D (wlX11_fits cI cZ cO q_t q_t_text q_t_holds q_t_had q_t_worth q_t_wants q_t_readHolds q_t_readHad q_t_readWorth q_t_rows q_t_kept q_t_isKept q_t_sort q_t_took q_t_tried q_t_planned q_t_from q_t_best q_t_outcome q_t_value q_t_act t_thrown t_textSize t_place t_people t_readPeople t_acts t_sights t_longest t_shortest t_runs t_came t_bestMore t_sort t_took) o_r) A) args s 0 0 A) (F0 m 7 ls []) := by
    intro k7 hk7 n
    induction n with
    | zero => intro x2_1 x3_2 x4_3 H locs ls hP hD hS hl h; exact (nh_none h).elim
    | succ n7 ih7 =>
      intro x2_1 x3_2 x4_3 H locs ls hP hD hS hl h
      replace h : fX11_fits_B7 t_sights t_sort t_took k7 (fX11_fits_L7 t_sights t_sort t_took k7 n7) x2_1 x3_2 x4_3 = some o_r := h
      unfold fX11_fits_B7 at h
      refine lv_iload hx hb dX11_fits_7 (lv_at hl 4 rfl) ?_
      refine lv_aload_n hx hb dX11_fits_9 rfl (lv_at hl 0 rfl) ?_
      refine va_get (D := D) (ci := 10) (v := .int t_sights) (C := RX11) (T := TX11) (N := 32) hx hb hts nhu_X11 hown hK hP 0 rfl rfl 17 (by decide) (hts _ nhw_233) (fun _ h9 => h9) rfl dX11_fits_10 ?_
      refine lv_icmp_ge (tgt := 65) hx hb dX11_fits_13 (by decide) (fun c7 => ?_) (fun c7 => ?_)
      · replace h := nh_t h c7
        exact hk7 x2_1 x3_2 x4_3 H locs ls hP hD hS (lv_sub hl [0, 1, 2, 3, 4] rfl) h
      · replace h := nh_f h c7
        refine lv_iload_n hx hb dX11_fits_16 rfl (lv_at hl 3 rfl) ?_
        refine lv_if_eq (tgt := 45) hx hb dX11_fits_17 (by decide) (fun c8 => ?_) (fun c8 => ?_)
        · replace h := nh_t h c8
          refine lv_iconst (v := 0) hx hb dX11_fits_45 (by decide) ?_
          refine lv_istore_n (lv' := [(3, .int 0), (0, .ref q_t), (1, .int i1), (2, .int x2_1), (4, .int x4_3)]) hx hb dX11_fits_46 rfl hl (by decide) rfl (fun ls hl => ?_)
          refine lv_iload_n hx hb dX11_fits_47 rfl (lv_at hl 3 rfl) ?_
          refine lv_iconst (v := 1) hx hb dX11_fits_48 (by decide) ?_
          refine lv_aload_n hx hb dX11_fits_49 rfl (lv_at hl 1 rfl) ?_
          refine va_get (D := D) (ci := 10) (v := .ref q_t_sort) (C := RX11) (T := TX11) (N := 32) hx hb hts nhu_X11 hown hK hP 0 rfl rfl 18 (by decide) (hts _ nhw_248) (fun _ h9 => h9) rfl dX11_fits_50 ?_
          refine lv_iload hx hb dX11_fits_53 (lv_at hl 4 rfl) ?_
          obtain ⟨z9, h⟩ := nh_chk_some h
          refine va_iald hx hb hK hP 1 0 rfl rfl (nh_in_in z9) dX11_fits_55 ?_
          refine lv_ishl hx hb dX11_fits_56 ?_
          refine lv_ior hx hb dX11_fits_57 ?_
          refine lv_topi (fun y_10 ey_10 => ?_)
          replace h := nh_to h ey_10
          refine lv_istore_n (lv' := [(2, .int y_10), (3, .int 0), (0, .ref q_t), (1, .int i1), (4, .int x4_3)]) hx hb dX11_fits_58 rfl hl (by decide) rfl (fun ls hl => ?_)
          obtain ⟨x4_11, ex4_11⟩ : ∃ y : Int32, y = x4_3 + 1 := ⟨_, rfl⟩
          replace h := nh_to h ex4_11
          refine lv_iinc (v := x4_11) (lv' := [(4, .int x4_11), (2, .int y_10), (3, .int 0), (0, .ref q_t), (1, .int i1)]) hx hb dX11_fits_59 hl (k := 4) rfl (by rw [ex4_11]; rfl) (by decide) rfl (fun ls hl => ?_)
          refine lv_goto (tgt := 7) hx hb dX11_fits_62 (by decide) ?_
          exact ih7 y_10 0 x4_11 H locs ls hP hD hS (lv_sub hl [3, 4, 1, 2, 0] rfl) h
        · replace h := nh_f h c8
          refine lv_iload_n hx hb dX11_fits_20 rfl (lv_at hl 2 rfl) ?_
          refine lv_aload_n hx hb dX11_fits_21 rfl (lv_at hl 0 rfl) ?_
          refine va_get (D := D) (ci := 10) (v := .ref q_t_sort) (C := RX11) (T := TX11) (N := 32) hx hb hts nhu_X11 hown hK hP 0 rfl rfl 18 (by decide) (hts _ nhw_248) (fun _ h9 => h9) rfl dX11_fits_22 ?_
          refine lv_iload hx hb dX11_fits_25 (lv_at hl 4 rfl) ?_
          obtain ⟨z12, h⟩ := nh_chk_some h
          refine va_iald hx hb hK hP 1 0 rfl rfl (nh_in_in z12) dX11_fits_27 ?_
          refine nh_goi (nh_S (As := [.int x2_1, .int (t_sort (Int32.toNatClampNeg x4_3))]) (rest := []) ⟨hx, hb, hml, hown, hts⟩ (kX11_has  l D cI cZ cO H.size x2_1 (t_sort (Int32.toNatClampNeg x4_3)) (fX11_has x2_1 (t_sort (Int32.toNatClampNeg x4_3))) rfl) (va_cwS 2 hts (nh_gS nhw_588 nhw_808 nhw_305 nhw_79) rfl rfl rfl (by decide +kernel) ⟨Nat.le_of_ble_eq_true rfl, Nat.le_of_ble_eq_true rfl⟩) hK hN hP hD (isC := []) rfl rfl rfl hl.1 rfl (Nat.le_of_ble_eq_true rfl) dX11_fits_28 ⟨Nat.zero_le _, Nat.zero_le _⟩) hP hD hS hA (isC := []) rfl rfl rfl (w' := (wlX11_fits cI cZ cO q_t q_t_text q_t_holds q_t_had q_t_worth q_t_wants q_t_readHolds q_t_readHad q_t_readWorth q_t_rows q_t_kept q_t_isKept q_t_sort q_t_took q_t_tried q_t_planned q_t_from q_t_best q_t_outcome q_t_value q_t_act t_thrown t_textSize t_place t_people t_readPeople t_acts t_sights t_longest t_shortest t_runs t_came t_bestMore t_sort t_took)) rfl (fun H locs hP hD hS => ?_)
          refine lv_aload_n hx hb dX11_fits_31 rfl (lv_at hl 0 rfl) ?_
          refine va_get (D := D) (ci := 10) (v := .ref q_t_took) (C := RX11) (T := TX11) (N := 32) hx hb hts nhu_X11 hown hK hP 0 rfl rfl 19 (by decide) (hts _ nhw_249) (fun _ h9 => h9) rfl dX11_fits_32 ?_
          refine lv_iload hx hb dX11_fits_35 (lv_at hl 4 rfl) ?_
          obtain ⟨z13, h⟩ := nh_chk_some h
          refine va_zald hx hb hK hP 2 1 rfl rfl (nh_in_in z13) dX11_fits_37 ?_
          refine lv_icmp_eq (tgt := 45) hx hb dX11_fits_38 (by decide) (fun c14 => ?_) (fun c14 => ?_)
          · replace h := nh_t h c14
            refine lv_iconst (v := 0) hx hb dX11_fits_45 (by decide) ?_
            refine lv_istore_n (lv' := [(3, .int 0), (0, .ref q_t), (1, .int i1), (2, .int x2_1), (4, .int x4_3)]) hx hb dX11_fits_46 rfl hl (by decide) rfl (fun ls hl => ?_)
            refine lv_iload_n hx hb dX11_fits_47 rfl (lv_at hl 3 rfl) ?_
            refine lv_iconst (v := 1) hx hb dX11_fits_48 (by decide) ?_
            refine lv_aload_n hx hb dX11_fits_49 rfl (lv_at hl 1 rfl) ?_
            refine va_get (D := D) (ci := 10) (v := .ref q_t_sort) (C := RX11) (T := TX11) (N := 32) hx hb hts nhu_X11 hown hK hP 0 rfl rfl 18 (by decide) (hts _ nhw_248) (fun _ h9 => h9) rfl dX11_fits_50 ?_
            refine lv_iload hx hb dX11_fits_53 (lv_at hl 4 rfl) ?_
            obtain ⟨z15, h⟩ := nh_chk_some h
            refine va_iald hx hb hK hP 1 0 rfl rfl (nh_in_in z15) dX11_fits_55 ?_
            refine lv_ishl hx hb dX11_fits_56 ?_
            refine lv_ior hx hb dX11_fits_57 ?_
            refine lv_topi (fun y_16 ey_16 => ?_)
            replace h := nh_to h ey_16
            refine lv_istore_n (lv' := [(2, .int y_16), (3, .int 0), (0, .ref q_t), (1, .int i1), (4, .int x4_3)]) hx hb dX11_fits_58 rfl hl (by decide) rfl (fun ls hl => ?_)
            obtain ⟨x4_17, ex4_17⟩ : ∃ y : Int32, y = x4_3 + 1 := ⟨_, rfl⟩
            replace h := nh_to h ex4_17
            refine lv_iinc (v := x4_17) (lv' := [(4, .int x4_17), (2, .int y_16), (3, .int 0), (0, .ref q_t), (1, .int i1)]) hx hb dX11_fits_59 hl (k := 4) rfl (by rw [ex4_17]; rfl) (by decide) rfl (fun ls hl => ?_)
            refine lv_goto (tgt := 7) hx hb dX11_fits_62 (by decide) ?_
            exact ih7 y_16 0 x4_17 H locs ls hP hD hS (lv_sub hl [3, 4, 1, 2, 0] rfl) h
          · replace h := nh_f h c14
            refine lv_iconst (v := 1) hx hb dX11_fits_41 (by decide) ?_
            refine lv_goto (tgt := 46) hx hb dX11_fits_42 (by decide) ?_
            refine lv_istore_n (lv' := [(3, .int 1), (0, .ref q_t), (1, .int i1), (2, .int x2_1), (4, .int x4_3)]) hx hb dX11_fits_46 rfl hl (by decide) rfl (fun ls hl => ?_)
            refine lv_iload_n hx hb dX11_fits_47 rfl (lv_at hl 3 rfl) ?_
            refine lv_iconst (v := 1) hx hb dX11_fits_48 (by decide) ?_
            refine lv_aload_n hx hb dX11_fits_49 rfl (lv_at hl 1 rfl) ?_
            refine va_get (D := D) (ci := 10) (v := .ref q_t_sort) (C := RX11) (T := TX11) (N := 32) hx hb hts nhu_X11 hown hK hP 0 rfl rfl 18 (by decide) (hts _ nhw_248) (fun _ h9 => h9) rfl dX11_fits_50 ?_
            refine lv_iload hx hb dX11_fits_53 (lv_at hl 4 rfl) ?_
            obtain ⟨z18, h⟩ := nh_chk_some h
            refine va_iald hx hb hK hP 1 0 rfl rfl (nh_in_in z18) dX11_fits_55 ?_
            refine lv_ishl hx hb dX11_fits_56 ?_
            refine lv_ior hx hb dX11_fits_57 ?_
            refine lv_topi (fun y_19 ey_19 => ?_)
            replace h := nh_to h ey_19
            refine lv_istore_n (lv' := [(2, .int y_19), (3, .int 1), (0, .ref q_t), (1, .int i1), (4, .int x4_3)]) hx hb dX11_fits_58 rfl hl (by decide) rfl (fun ls hl => ?_)
            obtain ⟨x4_20, ex4_20⟩ : ∃ y : Int32, y = x4_3 + 1 := ⟨_, rfl⟩
            replace h := nh_to h ex4_20
            refine lv_iinc (v := x4_20) (lv' := [(4, .int x4_20), (2, .int y_19), (3, .int 1), (0, .ref q_t), (1, .int i1)]) hx hb dX11_fits_59 hl (k := 4) rfl (by rw [ex4_20]; rfl) (by decide) rfl (fun ls hl => ?_)
            refine lv_goto (tgt := 7) hx hb dX11_fits_62 (by decide) ?_
            exact ih7 y_19 1 x4_20 H locs ls hP hD hS (lv_sub hl [3, 4, 1, 2, 0] rfl) h
  refine L7 _ (fun x2_4 x3_5 x4_6 H locs ls hP hD hS hl h => ?_) _ i1 1 0 H locs ls hP hD hS (lv_sub hl [3, 4, 2, 1, 0] rfl) h
  refine lv_iload_n hx hb dX11_fits_65 rfl (lv_at hl 3 rfl) ?_
  obtain ⟨z21, h⟩ := nh_chk_some h
  replace h := nh_i1 h
  exact nh_rz hx hb hr hlocks h (nh_isB_nar z21) hP hS dX11_fits_66
abbrev wlX11_lists (cI cZ cO : ClassId) (q_t q_t_text q_t_holds q_t_had q_t_worth q_t_wants q_t_readHolds q_t_readHad q_t_readWorth q_t_rows q_t_kept q_t_isKept q_t_sort q_t_took q_t_tried q_t_planned q_t_from q_t_best q_t_outcome q_t_value q_t_act : Nat) (t_thrown : Int32) (t_textSize : Int32) (t_place : Int32) (t_people : Int32) (t_readPeople : Int32) (t_acts : Int32) (t_sights : Int32) (t_longest : Int32) (t_shortest : Int32) (t_runs : Int32) (t_came : Int32) (t_bestMore : Int32) (t_sort : Nat → Int32) (t_took : Nat → Int32) : va_W := [(q_t, .inr (10, [.int t_thrown, .ref q_t_text, .int t_textSize, .int t_place, .int t_people, .ref q_t_holds, .ref q_t_had, .ref q_t_worth, .ref q_t_wants, .int t_readPeople, .ref q_t_readHolds, .ref q_t_readHad, .ref q_t_readWorth, .ref q_t_rows, .int t_acts, .ref q_t_kept, .ref q_t_isKept, .int t_sights, .ref q_t_sort, .ref q_t_took, .ref q_t_tried, .int t_longest, .int t_shortest, .int t_runs, .int t_came, .ref q_t_planned, .ref q_t_from, .ref q_t_best, .int t_bestMore, .ref q_t_outcome, .ref q_t_value, .ref q_t_act])), (q_t_sort, .inl (cI, 8, .inl t_sort)), (q_t_took, .inl (cZ, 8, .inl t_took))]
def fX11_lists_B9 (t_sights : Int32) (t_sort : Nat → Int32) (t_took : Nat → Int32) (F : Nat) (k9 : Int32 → Int32 → Option (Int32 × Int32)) (r9 : Int32 → Int32 → Option (Int32 × Int32)) (x1_1 : Int32) (x2_2 : Int32) : Option (Int32 × Int32) :=
  (if 64 ≤ x2_2 then k9 x1_1 x2_2
 else nh_b1 (fX11_fits F t_sights t_sort t_took x2_2) (fun r_6 => (if r_6 = 0 then nh_let (α := Int32) ((x1_1 + 0)) (fun y_9 => nh_let (α := Int32) (x2_2 + 1) (fun x2_10 => r9 y_9 x2_10))
 else nh_let (α := Int32) ((x1_1 + 1)) (fun y_11 => nh_let (α := Int32) (x2_2 + 1) (fun x2_12 => r9 y_11 x2_12)))))
def fX11_lists_L9 (t_sights : Int32) (t_sort : Nat → Int32) (t_took : Nat → Int32) (F : Nat) (k9 : Int32 → Int32 → Option (Int32 × Int32)) : Nat → Int32 → Int32 → Option (Int32 × Int32)
  | 0 => fun _ _ => none
  | n + 1 => fX11_lists_B9 t_sights t_sort t_took F k9 (fX11_lists_L9 t_sights t_sort t_took F k9 n)
def fX11_lists (F : Nat) (t_thrown : Int32) (t_sights : Int32) (t_sort : Nat → Int32) (t_took : Nat → Int32) : Option (Int32 × Int32) :=
  fX11_lists_L9 t_sights t_sort t_took F (fun x1_3 x2_4 => some (x1_3, 0)) F 0 0
set_option maxHeartbeats 4000000 in
set_option maxRecDepth 100000 in
theorem kX11_lists (F : Nat) (l : Launch) (D : va_G) (cI cZ cO : ClassId) (sz : Nat) (q_t q_t_text q_t_holds q_t_had q_t_worth q_t_wants q_t_readHolds q_t_readHad q_t_readWorth q_t_rows q_t_kept q_t_isKept q_t_sort q_t_took q_t_tried q_t_planned q_t_from q_t_best q_t_outcome q_t_value q_t_act : Nat) (t_thrown : Int32) (t_textSize : Int32) (t_place : Int32) (t_people : Int32) (t_readPeople : Int32) (t_acts : Int32) (t_sights : Int32) (t_longest : Int32) (t_shortest : Int32) (t_runs : Int32) (t_came : Int32) (t_bestMore : Int32) (t_sort : Nat → Int32) (t_took : Nat → Int32)  (o_r : Int32) (o_t_thrown : Int32) (h : fX11_lists F t_thrown t_sights t_sort t_took = some (o_r, o_t_thrown)) : Met l yX11_lists (nh_w (.code yX11_lists cX11_lists 3 (some .int))) (nh_rm 2) (nh_Pc D cI cZ cO (wlX11_lists cI cZ cO q_t q_t_text q_t_holds q_t_had q_t_worth q_t_wants q_t_readHolds q_t_readHad q_t_readWorth q_t_rows q_t_kept q_t_isKept q_t_sort q_t_took q_t_tried q_t_planned q_t_from q_t_best q_t_outcome q_t_value q_t_act t_thrown t_textSize t_place t_people t_readPeople t_acts t_sights t_longest t_shortest t_runs t_came t_bestMore t_sort t_took) [.ref q_t] sz) ((nh_Qi D (wlX11_lists cI cZ cO q_t q_t_text q_t_holds q_t_had q_t_worth q_t_wants q_t_readHolds q_t_readHad q_t_readWorth q_t_rows q_t_kept q_t_isKept q_t_sort q_t_took q_t_tried q_t_planned q_t_from q_t_best q_t_outcome q_t_value q_t_act o_t_thrown t_textSize t_place t_people t_readPeople t_acts t_sights t_longest t_shortest t_runs t_came t_bestMore t_sort t_took) o_r) (va_A (wlX11_lists cI cZ cO q_t q_t_text q_t_holds q_t_had q_t_worth q_t_wants q_t_readHolds q_t_readHad q_t_readWorth q_t_rows q_t_kept q_t_isKept q_t_sort q_t_took q_t_tried q_t_planned q_t_from q_t_best q_t_outcome q_t_value q_t_act t_thrown t_textSize t_place t_people t_readPeople t_acts t_sights t_longest t_shortest t_runs t_came t_bestMore t_sort t_took) sz)) 0 0 (va_A (wlX11_lists cI cZ cO q_t q_t_text q_t_holds q_t_had q_t_worth q_t_wants q_t_readHolds q_t_readHad q_t_readWorth q_t_rows q_t_kept q_t_isKept q_t_sort q_t_took q_t_tried q_t_planned q_t_from q_t_best q_t_outcome q_t_value q_t_act t_thrown t_textSize t_place t_people t_readPeople t_acts t_sights t_longest t_shortest t_runs t_came t_bestMore t_sort t_took) sz) := by
  unfold fX11_lists at h
  refine nh_met (cc := cX11_lists) (maxL := 3) (ret := (some .int)) (nh_Qi D (wlX11_lists cI cZ cO q_t q_t_text q_t_holds q_t_had q_t_worth q_t_wants q_t_readHolds q_t_readHad q_t_readWorth q_t_rows q_t_kept q_t_isKept q_t_sort q_t_took q_t_tried q_t_planned q_t_from q_t_best q_t_outcome q_t_value q_t_act o_t_thrown t_textSize t_place t_people t_readPeople t_acts t_sights t_longest t_shortest t_runs t_came t_bestMore t_sort t_took) o_r) (by decide) rfl (Nat.le_of_ble_eq_true rfl) ?_
  intro p e s m args below meth c A H locs ls hx hb hml hr hown hts hlocks hinit hP hK hN hD hA hS hl
  have hl : lv_has ls 3 [(0, .ref q_t)] := hl
  have hts : ∀ w ∈ nh_words, w.before args s = true := fun w h => hts w (List.mem_cons_of_mem _ h)
  refine lv_aload_n hx hb dX11_lists_0 rfl (lv_at hl 0 rfl) ?_
  refine lv_iconst (v := 0) hx hb dX11_lists_1 (by decide) ?_
  refine va_put (D := D) (ci := 10) (v := .int 0) (ty := .int) (C := RX11) (T := TX11) (N := 32) hx hb hts nhu_X11 tyX11 tyX11_ok nmX11 hown hK hP hD hS 0 rfl rfl 0 (by decide) (hts _ nhw_258) (fun _ h9 => h9) rfl (by decide +kernel) rfl rfl (Nat.le_of_ble_eq_true rfl) dX11_lists_2 (fun H locs hP hD hS => ?_)
  have hP : va_P D vwCl (wlX11_lists cI cZ cO q_t q_t_text q_t_holds q_t_had q_t_worth q_t_wants q_t_readHolds q_t_readHad q_t_readWorth q_t_rows q_t_kept q_t_isKept q_t_sort q_t_took q_t_tried q_t_planned q_t_from q_t_best q_t_outcome q_t_value q_t_act 0 t_textSize t_place t_people t_readPeople t_acts t_sights t_longest t_shortest t_runs t_came t_bestMore t_sort t_took) H := hP
  have hD : va_D A (wlX11_lists cI cZ cO q_t q_t_text q_t_holds q_t_had q_t_worth q_t_wants q_t_readHolds q_t_readHad q_t_readWorth q_t_rows q_t_kept q_t_isKept q_t_sort q_t_took q_t_tried q_t_planned q_t_from q_t_best q_t_outcome q_t_value q_t_act 0 t_textSize t_place t_people t_readPeople t_acts t_sights t_longest t_shortest t_runs t_came t_bestMore t_sort t_took) := hD
  refine lv_iconst (v := 0) hx hb dX11_lists_5 (by decide) ?_
  refine lv_istore_n (lv' := [(1, .int 0), (0, .ref q_t)]) hx hb dX11_lists_6 rfl hl (by decide) rfl (fun ls hl => ?_)
  refine lv_iconst (v := 0) hx hb dX11_lists_7 (by decide) ?_
  refine lv_istore_n (lv' := [(2, .int 0), (1, .int 0), (0, .ref q_t)]) hx hb dX11_lists_8 rfl hl (by decide) rfl (fun ls hl => ?_)
  have L9 : ∀ (k9 : Int32 → Int32 → Option (Int32 × Int32)), (∀ (x1_3 : Int32) (x2_4 : Int32) (H : Heap) (locs : List Loc) (ls : Array Slot), va_P D vwCl (wlX11_lists cI cZ cO q_t q_t_text q_t_holds q_t_had q_t_worth q_t_wants q_t_readHolds q_t_readHad q_t_readWorth q_t_rows q_t_kept q_t_isKept q_t_sort q_t_took q_t_tried q_t_planned q_t_from q_t_best q_t_outcome q_t_value q_t_act 0 t_textSize t_place t_people t_readPeople t_acts t_sights t_longest t_shortest t_runs t_came t_bestMore t_sort t_took) H → va_D A (wlX11_lists cI cZ cO q_t q_t_text q_t_holds q_t_had q_t_worth q_t_wants q_t_readHolds q_t_readHad q_t_readWorth q_t_rows q_t_kept q_t_isKept q_t_sort q_t_took q_t_tried q_t_planned q_t_from q_t_best q_t_outcome q_t_value q_t_act 0 t_textSize t_place t_people t_readPeople t_acts t_sights t_longest t_shortest t_runs t_came t_bestMore t_sort t_took) → va_S A s.heap H locs → lv_has ls 3 [(0, .ref q_t), (1, .int x1_3), (2, .int x2_4)] → k9 x1_3 x2_4 = some (o_r, o_t_thrown) → W p l e (nh_rm 2) s m args below meth c H locs 0 0 (MQ below ((nh_Qi D (wlX11_lists cI cZ cO q_t q_t_text q_t_holds q_t_had q_t_worth q_t_wants q_t_readHolds q_t_readHad q_t_readWorth q_t_rows q_t_kept q_t_isKept q_t_sort q_t_took q_t_tried q_t_planned q_t_from q_t_best q_t_outcome q_t_value q_t_act o_t_thrown t_textSize t_place t_people t_readPeople t_acts t_sights t_longest t_shortest t_runs t_came t_bestMore t_sort t_took) o_r) A) args s 0 0 A) (F0 m 37 ls [])) → ∀ (n : Nat) (x1_1 : Int32) (x2_2 : Int32) (H : Heap) (locs : List Loc) (ls : Array Slot), va_P D vwCl (wlX11_lists cI cZ cO q_t q_t_text q_t_holds q_t_had q_t_worth q_t_wants q_t_readHolds q_t_readHad q_t_readWorth q_t_rows q_t_kept q_t_isKept q_t_sort q_t_took q_t_tried q_t_planned q_t_from q_t_best q_t_outcome q_t_value q_t_act 0 t_textSize t_place t_people t_readPeople t_acts t_sights t_longest t_shortest t_runs t_came t_bestMore t_sort t_took) H → va_D A (wlX11_lists cI cZ cO q_t q_t_text q_t_holds q_t_had q_t_worth q_t_wants q_t_readHolds q_t_readHad q_t_readWorth q_t_rows q_t_kept q_t_isKept q_t_sort q_t_took q_t_tried q_t_planned q_t_from q_t_best q_t_outcome q_t_value q_t_act 0 t_textSize t_place t_people t_readPeople t_acts t_sights t_longest t_shortest t_runs t_came t_bestMore t_sort t_took) → va_S A s.heap H locs → lv_has ls 3 [(0, .ref q_t), (1, .int x1_1), (2, .int x2_2)] → fX11_lists_L9 t_sights t_sort t_took F k9 n x1_1 x2_2 = some (o_r, o_t_thrown) → W p l e (nh_rm 2) s m args below meth c H locs 0 0 (MQ below ((nh_Qi D (wlX11_lists cI cZ cO q_t q_t_text q_t_holds q_t_had q_t_worth q_t_wants q_t_readHolds q_t_readHad q_t_readWorth q_t_rows q_t_kept q_t_isKept q_t_sort q_t_took q_t_tried q_t_planned q_t_from q_t_best q_t_outcome q_t_value q_t_act o_t_thrown t_textSize t_place t_people t_readPeople t_acts t_sights t_longest t_shortest t_runs t_came t_bestMore t_sort t_took) o_r) A) args s 0 0 A) (F0 m 9 ls []) := by
    intro k9 hk9 n
    induction n with
    | zero => intro x1_1 x2_2 H locs ls hP hD hS hl h; exact (nh_none h).elim
    | succ n9 ih9 =>
      intro x1_1 x2_2 H locs ls hP hD hS hl h
      replace h : fX11_lists_B9 t_sights t_sort t_took F k9 (fX11_lists_L9 t_sights t_sort t_took F k9 n9) x1_1 x2_2 = some (o_r, o_t_thrown) := h
      unfold fX11_lists_B9 at h
      refine lv_iload_n hx hb dX11_lists_9 rfl (lv_at hl 2 rfl) ?_
      refine lv_bipush (v := 64) hx hb dX11_lists_10 (by decide) ?_
      refine lv_icmp_ge (tgt := 37) hx hb dX11_lists_12 (by decide) (fun c5 => ?_) (fun c5 => ?_)
      · replace h := nh_t h c5
        exact hk9 x1_1 x2_2 H locs ls hP hD hS (lv_sub hl [0, 1, 2] rfl) h
      · replace h := nh_f h c5
        refine lv_iload_n hx hb dX11_lists_15 rfl (lv_at hl 1 rfl) ?_
        refine lv_aload_n hx hb dX11_lists_16 rfl (lv_at hl 0 rfl) ?_
        refine lv_iload_n hx hb dX11_lists_17 rfl (lv_at hl 2 rfl) ?_
        obtain ⟨r_6, hc7, h⟩ := nh_b1_some h
        refine nh_goi (nh_V (As := [.int x2_2]) (rest := [.int x1_1]) ⟨hx, hb, hml, hown, hts⟩ (kX11_fits F l D cI cZ cO H.size q_t q_t_text q_t_holds q_t_had q_t_worth q_t_wants q_t_readHolds q_t_readHad q_t_readWorth q_t_rows q_t_kept q_t_isKept q_t_sort q_t_took q_t_tried q_t_planned q_t_from q_t_best q_t_outcome q_t_value q_t_act 0 t_textSize t_place t_people t_readPeople t_acts t_sights t_longest t_shortest t_runs t_came t_bestMore t_sort t_took x2_2 r_6 hc7) (cwV 1 hts (nh_gV nhw_612 nhw_367 nhw_736 nhw_305 nhw_73) rfl rfl rfl (by decide +kernel) ⟨Nat.le_of_ble_eq_true rfl, Nat.le_of_ble_eq_true rfl⟩) hK hN hP hD (isC := [0, 1, 2]) rfl rfl 0 10 rfl rfl rfl rfl hl.1 rfl (Nat.le_of_ble_eq_true rfl) dX11_lists_18 ⟨Nat.zero_le _, Nat.zero_le _⟩) hP hD hS hA (isC := [0, 1, 2]) rfl rfl rfl (w' := (wlX11_lists cI cZ cO q_t q_t_text q_t_holds q_t_had q_t_worth q_t_wants q_t_readHolds q_t_readHad q_t_readWorth q_t_rows q_t_kept q_t_isKept q_t_sort q_t_took q_t_tried q_t_planned q_t_from q_t_best q_t_outcome q_t_value q_t_act 0 t_textSize t_place t_people t_readPeople t_acts t_sights t_longest t_shortest t_runs t_came t_bestMore t_sort t_took)) rfl (fun H locs hP hD hS => ?_)
        refine lv_if_eq (tgt := 28) hx hb dX11_lists_21 (by decide) (fun c8 => ?_) (fun c8 => ?_)
        · replace h := nh_t h c8
          refine lv_iconst (v := 0) hx hb dX11_lists_28 (by decide) ?_
          refine lv_iadd hx hb dX11_lists_29 ?_
          refine lv_topi (fun y_9 ey_9 => ?_)
          replace h := nh_to h ey_9
          refine lv_istore_n (lv' := [(1, .int y_9), (0, .ref q_t), (2, .int x2_2)]) hx hb dX11_lists_30 rfl hl (by decide) rfl (fun ls hl => ?_)
          obtain ⟨x2_10, ex2_10⟩ : ∃ y : Int32, y = x2_2 + 1 := ⟨_, rfl⟩
          replace h := nh_to h ex2_10
          refine lv_iinc (v := x2_10) (lv' := [(2, .int x2_10), (1, .int y_9), (0, .ref q_t)]) hx hb dX11_lists_31 hl (k := 2) rfl (by rw [ex2_10]; rfl) (by decide) rfl (fun ls hl => ?_)
          refine lv_goto (tgt := 9) hx hb dX11_lists_34 (by decide) ?_
          exact ih9 y_9 x2_10 H locs ls hP hD hS (lv_sub hl [2, 1, 0] rfl) h
        · replace h := nh_f h c8
          refine lv_iconst (v := 1) hx hb dX11_lists_24 (by decide) ?_
          refine lv_goto (tgt := 29) hx hb dX11_lists_25 (by decide) ?_
          refine lv_iadd hx hb dX11_lists_29 ?_
          refine lv_topi (fun y_11 ey_11 => ?_)
          replace h := nh_to h ey_11
          refine lv_istore_n (lv' := [(1, .int y_11), (0, .ref q_t), (2, .int x2_2)]) hx hb dX11_lists_30 rfl hl (by decide) rfl (fun ls hl => ?_)
          obtain ⟨x2_12, ex2_12⟩ : ∃ y : Int32, y = x2_2 + 1 := ⟨_, rfl⟩
          replace h := nh_to h ex2_12
          refine lv_iinc (v := x2_12) (lv' := [(2, .int x2_12), (1, .int y_11), (0, .ref q_t)]) hx hb dX11_lists_31 hl (k := 2) rfl (by rw [ex2_12]; rfl) (by decide) rfl (fun ls hl => ?_)
          refine lv_goto (tgt := 9) hx hb dX11_lists_34 (by decide) ?_
          exact ih9 y_11 x2_12 H locs ls hP hD hS (lv_sub hl [2, 1, 0] rfl) h
  refine L9 _ (fun x1_3 x2_4 H locs ls hP hD hS hl h => ?_) _ 0 0 H locs ls hP hD hS (lv_sub hl [2, 1, 0] rfl) h
  refine lv_iload_n hx hb dX11_lists_37 rfl (lv_at hl 1 rfl) ?_
  obtain ⟨g0, g1⟩ := nh_i2 h
  exact nh_ri hx hb hr hlocks g0 (by rw [← g1]; exact hP) hS dX11_lists_38
abbrev wlX11_listed (cI cZ cO : ClassId) (q_t q_t_text q_t_holds q_t_had q_t_worth q_t_wants q_t_readHolds q_t_readHad q_t_readWorth q_t_rows q_t_kept q_t_isKept q_t_sort q_t_took q_t_tried q_t_planned q_t_from q_t_best q_t_outcome q_t_value q_t_act : Nat) (t_thrown : Int32) (t_textSize : Int32) (t_place : Int32) (t_people : Int32) (t_readPeople : Int32) (t_acts : Int32) (t_sights : Int32) (t_longest : Int32) (t_shortest : Int32) (t_runs : Int32) (t_came : Int32) (t_bestMore : Int32) (t_sort : Nat → Int32) (t_took : Nat → Int32) : va_W := [(q_t, .inr (10, [.int t_thrown, .ref q_t_text, .int t_textSize, .int t_place, .int t_people, .ref q_t_holds, .ref q_t_had, .ref q_t_worth, .ref q_t_wants, .int t_readPeople, .ref q_t_readHolds, .ref q_t_readHad, .ref q_t_readWorth, .ref q_t_rows, .int t_acts, .ref q_t_kept, .ref q_t_isKept, .int t_sights, .ref q_t_sort, .ref q_t_took, .ref q_t_tried, .int t_longest, .int t_shortest, .int t_runs, .int t_came, .ref q_t_planned, .ref q_t_from, .ref q_t_best, .int t_bestMore, .ref q_t_outcome, .ref q_t_value, .ref q_t_act])), (q_t_sort, .inl (cI, 8, .inl t_sort)), (q_t_took, .inl (cZ, 8, .inl t_took))]
def fX11_listed_B21 (t_sights : Int32) (t_sort : Nat → Int32) (t_took : Nat → Int32) (i1 : Int32) (F : Nat) (k21 : Int32 → Int32 → Int32 → Option (Int32 × Int32)) (r21 : Int32 → Int32 → Int32 → Option (Int32 × Int32)) (x2_2 : Int32) (x3_3 : Int32) (x4_4 : Int32) : Option (Int32 × Int32) :=
  (if 64 ≤ x4_4 then k21 x2_2 x3_3 x4_4
 else nh_b1 (fX11_fits F t_sights t_sort t_took x4_4) (fun r_9 => (if r_9 = 0 then nh_let (α := Int32) (x4_4 + 1) (fun x4_12 => r21 x2_2 x3_3 x4_12)
 else nh_let (α := Int32) (x2_2 + 1) (fun x2_13 => nh_let (α := Int32) ((x3_3 + ((x4_4 >>> (i1 &&& 31)) &&& 1))) (fun y_14 => nh_let (α := Int32) (x4_4 + 1) (fun x4_15 => r21 x2_13 y_14 x4_15))))))
def fX11_listed_L21 (t_sights : Int32) (t_sort : Nat → Int32) (t_took : Nat → Int32) (i1 : Int32) (F : Nat) (k21 : Int32 → Int32 → Int32 → Option (Int32 × Int32)) : Nat → Int32 → Int32 → Int32 → Option (Int32 × Int32)
  | 0 => fun _ _ _ => none
  | n + 1 => fX11_listed_B21 t_sights t_sort t_took i1 F k21 (fX11_listed_L21 t_sights t_sort t_took i1 F k21 n)
def fX11_listed (F : Nat) (t_thrown : Int32) (t_sights : Int32) (t_sort : Nat → Int32) (t_took : Nat → Int32) (i1 : Int32) : Option (Int32 × Int32) :=
  (if (fX11_noSort i1) = 0 then fX11_listed_L21 t_sights t_sort t_took i1 F (fun x2_5 x3_6 x4_7 => (if x2_5 = 0 then some ((-9), 0)
 else (if x3_6 = x2_5 then some (1, 0)
 else (if x3_6 = 0 then some (0, 0)
 else some (2, 0))))) F 0 0 0
 else some ((-1), 0))
set_option maxHeartbeats 4000000 in
set_option maxRecDepth 100000 in
theorem kX11_listed (F : Nat) (l : Launch) (D : va_G) (cI cZ cO : ClassId) (sz : Nat) (q_t q_t_text q_t_holds q_t_had q_t_worth q_t_wants q_t_readHolds q_t_readHad q_t_readWorth q_t_rows q_t_kept q_t_isKept q_t_sort q_t_took q_t_tried q_t_planned q_t_from q_t_best q_t_outcome q_t_value q_t_act : Nat) (t_thrown : Int32) (t_textSize : Int32) (t_place : Int32) (t_people : Int32) (t_readPeople : Int32) (t_acts : Int32) (t_sights : Int32) (t_longest : Int32) (t_shortest : Int32) (t_runs : Int32) (t_came : Int32) (t_bestMore : Int32) (t_sort : Nat → Int32) (t_took : Nat → Int32) (i1 : Int32) (o_r : Int32) (o_t_thrown : Int32) (h : fX11_listed F t_thrown t_sights t_sort t_took i1 = some (o_r, o_t_thrown)) : Met l yX11_listed (nh_w (.code yX11_listed cX11_listed 5 (some .int))) (nh_rm 2) (nh_Pc D cI cZ cO (wlX11_listed cI cZ cO q_t q_t_text q_t_holds q_t_had q_t_worth q_t_wants q_t_readHolds q_t_readHad q_t_readWorth q_t_rows q_t_kept q_t_isKept q_t_sort q_t_took q_t_tried q_t_planned q_t_from q_t_best q_t_outcome q_t_value q_t_act t_thrown t_textSize t_place t_people t_readPeople t_acts t_sights t_longest t_shortest t_runs t_came t_bestMore t_sort t_took) [.ref q_t, .int i1] sz) ((nh_Qi D (wlX11_listed cI cZ cO q_t q_t_text q_t_holds q_t_had q_t_worth q_t_wants q_t_readHolds q_t_readHad q_t_readWorth q_t_rows q_t_kept q_t_isKept q_t_sort q_t_took q_t_tried q_t_planned q_t_from q_t_best q_t_outcome q_t_value q_t_act o_t_thrown t_textSize t_place t_people t_readPeople t_acts t_sights t_longest t_shortest t_runs t_came t_bestMore t_sort t_took) o_r) (va_A (wlX11_listed cI cZ cO q_t q_t_text q_t_holds q_t_had q_t_worth q_t_wants q_t_readHolds q_t_readHad q_t_readWorth q_t_rows q_t_kept q_t_isKept q_t_sort q_t_took q_t_tried q_t_planned q_t_from q_t_best q_t_outcome q_t_value q_t_act t_thrown t_textSize t_place t_people t_readPeople t_acts t_sights t_longest t_shortest t_runs t_came t_bestMore t_sort t_took) sz)) 0 0 (va_A (wlX11_listed cI cZ cO q_t q_t_text q_t_holds q_t_had q_t_worth q_t_wants q_t_readHolds q_t_readHad q_t_readWorth q_t_rows q_t_kept q_t_isKept q_t_sort q_t_took q_t_tried q_t_planned q_t_from q_t_best q_t_outcome q_t_value q_t_act t_thrown t_textSize t_place t_people t_readPeople t_acts t_sights t_longest t_shortest t_runs t_came t_bestMore t_sort t_took) sz) := by
  unfold fX11_listed at h
  refine nh_met (cc := cX11_listed) (maxL := 5) (ret := (some .int)) (nh_Qi D (wlX11_listed cI cZ cO q_t q_t_text q_t_holds q_t_had q_t_worth q_t_wants q_t_readHolds q_t_readHad q_t_readWorth q_t_rows q_t_kept q_t_isKept q_t_sort q_t_took q_t_tried q_t_planned q_t_from q_t_best q_t_outcome q_t_value q_t_act o_t_thrown t_textSize t_place t_people t_readPeople t_acts t_sights t_longest t_shortest t_runs t_came t_bestMore t_sort t_took) o_r) (by decide) rfl (Nat.le_of_ble_eq_true rfl) ?_
  intro p e s m args below meth c A H locs ls hx hb hml hr hown hts hlocks hinit hP hK hN hD hA hS hl
  have hl : lv_has ls 5 [(0, .ref q_t), (1, .int i1)] := hl
  have hts : ∀ w ∈ nh_words, w.before args s = true := fun w h => hts w (List.mem_cons_of_mem _ h)
  refine lv_aload_n hx hb dX11_listed_0 rfl (lv_at hl 0 rfl) ?_
  refine lv_iconst (v := 0) hx hb dX11_listed_1 (by decide) ?_
  refine va_put (D := D) (ci := 10) (v := .int 0) (ty := .int) (C := RX11) (T := TX11) (N := 32) hx hb hts nhu_X11 tyX11 tyX11_ok nmX11 hown hK hP hD hS 0 rfl rfl 0 (by decide) (hts _ nhw_258) (fun _ h9 => h9) rfl (by decide +kernel) rfl rfl (Nat.le_of_ble_eq_true rfl) dX11_listed_2 (fun H locs hP hD hS => ?_)
  have hP : va_P D vwCl (wlX11_listed cI cZ cO q_t q_t_text q_t_holds q_t_had q_t_worth q_t_wants q_t_readHolds q_t_readHad q_t_readWorth q_t_rows q_t_kept q_t_isKept q_t_sort q_t_took q_t_tried q_t_planned q_t_from q_t_best q_t_outcome q_t_value q_t_act 0 t_textSize t_place t_people t_readPeople t_acts t_sights t_longest t_shortest t_runs t_came t_bestMore t_sort t_took) H := hP
  have hD : va_D A (wlX11_listed cI cZ cO q_t q_t_text q_t_holds q_t_had q_t_worth q_t_wants q_t_readHolds q_t_readHad q_t_readWorth q_t_rows q_t_kept q_t_isKept q_t_sort q_t_took q_t_tried q_t_planned q_t_from q_t_best q_t_outcome q_t_value q_t_act 0 t_textSize t_place t_people t_readPeople t_acts t_sights t_longest t_shortest t_runs t_came t_bestMore t_sort t_took) := hD
  refine lv_iload_n hx hb dX11_listed_5 rfl (lv_at hl 1 rfl) ?_
  refine nh_goi (nh_S (As := [.int i1]) (rest := []) ⟨hx, hb, hml, hown, hts⟩ (kX11_noSort  l D cI cZ cO H.size i1 (fX11_noSort i1) rfl) (va_cwS 1 hts (nh_gS nhw_595 nhw_810 nhw_305 nhw_99) rfl rfl rfl (by decide +kernel) ⟨Nat.le_of_ble_eq_true rfl, Nat.le_of_ble_eq_true rfl⟩) hK hN hP hD (isC := []) rfl rfl rfl hl.1 rfl (Nat.le_of_ble_eq_true rfl) dX11_listed_6 ⟨Nat.zero_le _, Nat.zero_le _⟩) hP hD hS hA (isC := []) rfl rfl rfl (w' := (wlX11_listed cI cZ cO q_t q_t_text q_t_holds q_t_had q_t_worth q_t_wants q_t_readHolds q_t_readHad q_t_readWorth q_t_rows q_t_kept q_t_isKept q_t_sort q_t_took q_t_tried q_t_planned q_t_from q_t_best q_t_outcome q_t_value q_t_act 0 t_textSize t_place t_people t_readPeople t_acts t_sights t_longest t_shortest t_runs t_came t_bestMore t_sort t_took)) rfl (fun H locs hP hD hS => ?_)
  refine lv_if_eq (tgt := 14) hx hb dX11_listed_9 (by decide) (fun c1 => ?_) (fun c1 => ?_)
  · replace h := nh_t h c1
    refine lv_iconst (v := 0) hx hb dX11_listed_14 (by decide) ?_
    refine lv_istore_n (lv' := [(2, .int 0), (0, .ref q_t), (1, .int i1)]) hx hb dX11_listed_15 rfl hl (by decide) rfl (fun ls hl => ?_)
    refine lv_iconst (v := 0) hx hb dX11_listed_16 (by decide) ?_
    refine lv_istore_n (lv' := [(3, .int 0), (2, .int 0), (0, .ref q_t), (1, .int i1)]) hx hb dX11_listed_17 rfl hl (by decide) rfl (fun ls hl => ?_)
    refine lv_iconst (v := 0) hx hb dX11_listed_18 (by decide) ?_
    refine lv_istore (lv' := [(4, .int 0), (3, .int 0), (2, .int 0), (0, .ref q_t), (1, .int i1)]) hx hb dX11_listed_19 hl (by decide) rfl (fun ls hl => ?_)
    have L21 : ∀ (k21 : Int32 → Int32 → Int32 → Option (Int32 × Int32)), (∀ (x2_5 : Int32) (x3_6 : Int32) (x4_7 : Int32) (H : Heap) (locs : List Loc) (ls : Array Slot), va_P D vwCl (wlX11_listed cI cZ cO q_t q_t_text q_t_holds q_t_had q_t_worth q_t_wants q_t_readHolds q_t_readHad q_t_readWorth q_t_rows q_t_kept q_t_isKept q_t_sort q_t_took q_t_tried q_t_planned q_t_from q_t_best q_t_outcome q_t_value q_t_act 0 t_textSize t_place t_people t_readPeople t_acts t_sights t_longest t_shortest t_runs t_came t_bestMore t_sort t_took) H → va_D A (wlX11_listed cI cZ cO q_t q_t_text q_t_holds q_t_had q_t_worth q_t_wants q_t_readHolds q_t_readHad q_t_readWorth q_t_rows q_t_kept q_t_isKept q_t_sort q_t_took q_t_tried q_t_planned q_t_from q_t_best q_t_outcome q_t_value q_t_act 0 t_textSize t_place t_people t_readPeople t_acts t_sights t_longest t_shortest t_runs t_came t_bestMore t_sort t_took) → va_S A s.heap H locs → lv_has ls 5 [(0, .ref q_t), (1, .int i1), (2, .int x2_5), (3, .int x3_6), (4, .int x4_7)] → k21 x2_5 x3_6 x4_7 = some (o_r, o_t_thrown) → W p l e (nh_rm 2) s m args below meth c H locs 0 0 (MQ below ((nh_Qi D (wlX11_listed cI cZ cO q_t q_t_text q_t_holds q_t_had q_t_worth q_t_wants q_t_readHolds q_t_readHad q_t_readWorth q_t_rows q_t_kept q_t_isKept q_t_sort q_t_took q_t_tried q_t_planned q_t_from q_t_best q_t_outcome q_t_value q_t_act o_t_thrown t_textSize t_place t_people t_readPeople t_acts t_sights t_longest t_shortest t_runs t_came t_bestMore t_sort t_took) o_r) A) args s 0 0 A) (F0 m 55 ls [])) → ∀ (n : Nat) (x2_2 : Int32) (x3_3 : Int32) (x4_4 : Int32) (H : Heap) (locs : List Loc) (ls : Array Slot), va_P D vwCl (wlX11_listed cI cZ cO q_t q_t_text q_t_holds q_t_had q_t_worth q_t_wants q_t_readHolds q_t_readHad q_t_readWorth q_t_rows q_t_kept q_t_isKept q_t_sort q_t_took q_t_tried q_t_planned q_t_from q_t_best q_t_outcome q_t_value q_t_act 0 t_textSize t_place t_people t_readPeople t_acts t_sights t_longest t_shortest t_runs t_came t_bestMore t_sort t_took) H → va_D A (wlX11_listed cI cZ cO q_t q_t_text q_t_holds q_t_had q_t_worth q_t_wants q_t_readHolds q_t_readHad q_t_readWorth q_t_rows q_t_kept q_t_isKept q_t_sort q_t_took q_t_tried q_t_planned q_t_from q_t_best q_t_outcome q_t_value q_t_act 0 t_textSize t_place t_people t_readPeople t_acts t_sights t_longest t_shortest t_runs t_came t_bestMore t_sort t_took) → va_S A s.heap H locs → lv_has ls 5 [(0, .ref q_t), (1, .int i1), (2, .int x2_2), (3, .int x3_3), (4, .int x4_4)] → fX11_listed_L21 t_sights t_sort t_took i1 F k21 n x2_2 x3_3 x4_4 = some (o_r, o_t_thrown) → W p l e (nh_rm 2) s m args below meth c H locs 0 0 (MQ below ((nh_Qi D (wlX11_listed cI cZ cO q_t q_t_text q_t_holds q_t_had q_t_worth q_t_wants q_t_readHolds q_t_readHad q_t_readWorth q_t_rows q_t_kept q_t_isKept q_t_sort q_t_took q_t_tried q_t_planned q_t_from q_t_best q_t_outcome q_t_value q_t_act o_t_thrown t_textSize t_place t_people t_readPeople t_acts t_sights t_longest t_shortest t_runs t_came t_bestMore t_sort t_took) o_r) A) args s 0 0 A) (F0 m 21 ls []) := by
      intro k21 hk21 n
      induction n with
      | zero => intro x2_2 x3_3 x4_4 H locs ls hP hD hS hl h; exact (nh_none h).elim
      | succ n21 ih21 =>
        intro x2_2 x3_3 x4_4 H locs ls hP hD hS hl h
        replace h : fX11_listed_B21 t_sights t_sort t_took i1 F k21 (fX11_listed_L21 t_sights t_sort t_took i1 F k21 n21) x2_2 x3_3 x4_4 = some (o_r, o_t_thrown) := h
        unfold fX11_listed_B21 at h
        refine lv_iload hx hb dX11_listed_21 (lv_at hl 4 rfl) ?_
        refine lv_bipush (v := 64) hx hb dX11_listed_23 (by decide) ?_
        refine lv_icmp_ge (tgt := 55) hx hb dX11_listed_25 (by decide) (fun c8 => ?_) (fun c8 => ?_)
        · replace h := nh_t h c8
          exact hk21 x2_2 x3_3 x4_4 H locs ls hP hD hS (lv_sub hl [0, 1, 2, 3, 4] rfl) h
        · replace h := nh_f h c8
          refine lv_aload_n hx hb dX11_listed_28 rfl (lv_at hl 0 rfl) ?_
          refine lv_iload hx hb dX11_listed_29 (lv_at hl 4 rfl) ?_
          obtain ⟨r_9, hc10, h⟩ := nh_b1_some h
          refine nh_goi (nh_V (As := [.int x4_4]) (rest := []) ⟨hx, hb, hml, hown, hts⟩ (kX11_fits F l D cI cZ cO H.size q_t q_t_text q_t_holds q_t_had q_t_worth q_t_wants q_t_readHolds q_t_readHad q_t_readWorth q_t_rows q_t_kept q_t_isKept q_t_sort q_t_took q_t_tried q_t_planned q_t_from q_t_best q_t_outcome q_t_value q_t_act 0 t_textSize t_place t_people t_readPeople t_acts t_sights t_longest t_shortest t_runs t_came t_bestMore t_sort t_took x4_4 r_9 hc10) (cwV 1 hts (nh_gV nhw_612 nhw_367 nhw_736 nhw_305 nhw_73) rfl rfl rfl (by decide +kernel) ⟨Nat.le_of_ble_eq_true rfl, Nat.le_of_ble_eq_true rfl⟩) hK hN hP hD (isC := [0, 1, 2]) rfl rfl 0 10 rfl rfl rfl rfl hl.1 rfl (Nat.le_of_ble_eq_true rfl) dX11_listed_31 ⟨Nat.zero_le _, Nat.zero_le _⟩) hP hD hS hA (isC := [0, 1, 2]) rfl rfl rfl (w' := (wlX11_listed cI cZ cO q_t q_t_text q_t_holds q_t_had q_t_worth q_t_wants q_t_readHolds q_t_readHad q_t_readWorth q_t_rows q_t_kept q_t_isKept q_t_sort q_t_took q_t_tried q_t_planned q_t_from q_t_best q_t_outcome q_t_value q_t_act 0 t_textSize t_place t_people t_readPeople t_acts t_sights t_longest t_shortest t_runs t_came t_bestMore t_sort t_took)) rfl (fun H locs hP hD hS => ?_)
          refine lv_if_eq (tgt := 49) hx hb dX11_listed_34 (by decide) (fun c11 => ?_) (fun c11 => ?_)
          · replace h := nh_t h c11
            obtain ⟨x4_12, ex4_12⟩ : ∃ y : Int32, y = x4_4 + 1 := ⟨_, rfl⟩
            replace h := nh_to h ex4_12
            refine lv_iinc (v := x4_12) (lv' := [(4, .int x4_12), (0, .ref q_t), (1, .int i1), (2, .int x2_2), (3, .int x3_3)]) hx hb dX11_listed_49 hl (k := 4) rfl (by rw [ex4_12]; rfl) (by decide) rfl (fun ls hl => ?_)
            refine lv_goto (tgt := 21) hx hb dX11_listed_52 (by decide) ?_
            exact ih21 x2_2 x3_3 x4_12 H locs ls hP hD hS (lv_sub hl [1, 2, 3, 4, 0] rfl) h
          · replace h := nh_f h c11
            obtain ⟨x2_13, ex2_13⟩ : ∃ y : Int32, y = x2_2 + 1 := ⟨_, rfl⟩
            replace h := nh_to h ex2_13
            refine lv_iinc (v := x2_13) (lv' := [(2, .int x2_13), (0, .ref q_t), (1, .int i1), (3, .int x3_3), (4, .int x4_4)]) hx hb dX11_listed_37 hl (k := 2) rfl (by rw [ex2_13]; rfl) (by decide) rfl (fun ls hl => ?_)
            refine lv_iload_n hx hb dX11_listed_40 rfl (lv_at hl 3 rfl) ?_
            refine lv_iload hx hb dX11_listed_41 (lv_at hl 4 rfl) ?_
            refine lv_iload_n hx hb dX11_listed_43 rfl (lv_at hl 2 rfl) ?_
            refine lv_ishr hx hb dX11_listed_44 ?_
            refine lv_iconst (v := 1) hx hb dX11_listed_45 (by decide) ?_
            refine lv_iand hx hb dX11_listed_46 ?_
            refine lv_iadd hx hb dX11_listed_47 ?_
            refine lv_topi (fun y_14 ey_14 => ?_)
            replace h := nh_to h ey_14
            refine lv_istore_n (lv' := [(3, .int y_14), (2, .int x2_13), (0, .ref q_t), (1, .int i1), (4, .int x4_4)]) hx hb dX11_listed_48 rfl hl (by decide) rfl (fun ls hl => ?_)
            obtain ⟨x4_15, ex4_15⟩ : ∃ y : Int32, y = x4_4 + 1 := ⟨_, rfl⟩
            replace h := nh_to h ex4_15
            refine lv_iinc (v := x4_15) (lv' := [(4, .int x4_15), (3, .int y_14), (2, .int x2_13), (0, .ref q_t), (1, .int i1)]) hx hb dX11_listed_49 hl (k := 4) rfl (by rw [ex4_15]; rfl) (by decide) rfl (fun ls hl => ?_)
            refine lv_goto (tgt := 21) hx hb dX11_listed_52 (by decide) ?_
            exact ih21 x2_13 y_14 x4_15 H locs ls hP hD hS (lv_sub hl [3, 4, 2, 1, 0] rfl) h
    refine L21 _ (fun x2_5 x3_6 x4_7 H locs ls hP hD hS hl h => ?_) _ 0 0 0 H locs ls hP hD hS (lv_sub hl [3, 4, 2, 1, 0] rfl) h
    refine lv_iload_n hx hb dX11_listed_55 rfl (lv_at hl 2 rfl) ?_
    refine lv_if_ne (tgt := 64) hx hb dX11_listed_56 (by decide) (fun c16 => ?_) (fun c16 => ?_)
    · replace h := nh_f h c16
      refine lv_iload_n hx hb dX11_listed_64 rfl (lv_at hl 3 rfl) ?_
      refine lv_iload_n hx hb dX11_listed_65 rfl (lv_at hl 2 rfl) ?_
      refine lv_icmp_ne (tgt := 73) hx hb dX11_listed_66 (by decide) (fun c17 => ?_) (fun c17 => ?_)
      · replace h := nh_f h c17
        refine lv_iload_n hx hb dX11_listed_73 rfl (lv_at hl 3 rfl) ?_
        refine lv_if_ne (tgt := 81) hx hb dX11_listed_74 (by decide) (fun c18 => ?_) (fun c18 => ?_)
        · replace h := nh_f h c18
          refine lv_iconst (v := 2) hx hb dX11_listed_81 (by decide) ?_
          obtain ⟨g0, g1⟩ := nh_i2 h
          exact nh_ri hx hb hr hlocks g0 (by rw [← g1]; exact hP) hS dX11_listed_82
        · replace h := nh_t h c18
          refine lv_iconst (v := 0) hx hb dX11_listed_77 (by decide) ?_
          refine lv_goto (tgt := 82) hx hb dX11_listed_78 (by decide) ?_
          obtain ⟨g0, g1⟩ := nh_i2 h
          exact nh_ri hx hb hr hlocks g0 (by rw [← g1]; exact hP) hS dX11_listed_82
      · replace h := nh_t h c17
        refine lv_iconst (v := 1) hx hb dX11_listed_69 (by decide) ?_
        refine lv_goto (tgt := 82) hx hb dX11_listed_70 (by decide) ?_
        obtain ⟨g0, g1⟩ := nh_i2 h
        exact nh_ri hx hb hr hlocks g0 (by rw [← g1]; exact hP) hS dX11_listed_82
    · replace h := nh_t h c16
      refine lv_bipush (v := (-9)) hx hb dX11_listed_59 (by decide) ?_
      refine lv_goto (tgt := 82) hx hb dX11_listed_61 (by decide) ?_
      obtain ⟨g0, g1⟩ := nh_i2 h
      exact nh_ri hx hb hr hlocks g0 (by rw [← g1]; exact hP) hS dX11_listed_82
  · replace h := nh_f h c1
    refine lv_iconst (v := (-1)) hx hb dX11_listed_12 (by decide) ?_
    obtain ⟨g0, g1⟩ := nh_i2 h
    exact nh_ri hx hb hr hlocks g0 (by rw [← g1]; exact hP) hS dX11_listed_13
abbrev wlX11_keep (cI cZ cO : ClassId) (q_t q_t_text q_t_holds q_t_had q_t_worth q_t_wants q_t_readHolds q_t_readHad q_t_readWorth q_t_rows q_t_kept q_t_isKept q_t_sort q_t_took q_t_tried q_t_planned q_t_from q_t_best q_t_outcome q_t_value q_t_act : Nat) (t_thrown : Int32) (t_textSize : Int32) (t_place : Int32) (t_people : Int32) (t_readPeople : Int32) (t_acts : Int32) (t_sights : Int32) (t_longest : Int32) (t_shortest : Int32) (t_runs : Int32) (t_came : Int32) (t_bestMore : Int32) (t_had : Nat → Int32) (t_holds : Nat → Int32) (t_isKept : Nat → Int32) (t_kept : Nat → Int32) : va_W := [(q_t, .inr (10, [.int t_thrown, .ref q_t_text, .int t_textSize, .int t_place, .int t_people, .ref q_t_holds, .ref q_t_had, .ref q_t_worth, .ref q_t_wants, .int t_readPeople, .ref q_t_readHolds, .ref q_t_readHad, .ref q_t_readWorth, .ref q_t_rows, .int t_acts, .ref q_t_kept, .ref q_t_isKept, .int t_sights, .ref q_t_sort, .ref q_t_took, .ref q_t_tried, .int t_longest, .int t_shortest, .int t_runs, .int t_came, .ref q_t_planned, .ref q_t_from, .ref q_t_best, .int t_bestMore, .ref q_t_outcome, .ref q_t_value, .ref q_t_act])), (q_t_had, .inl (cI, 56, .inl t_had)), (q_t_holds, .inl (cI, 56, .inl t_holds)), (q_t_isKept, .inl (cZ, 2, .inl t_isKept)), (q_t_kept, .inl (cI, 16, .inl t_kept))]
def fX11_keep_B26 (t_had : Nat → Int32) (t_holds : Nat → Int32) (i1 : Int32) (k26 : Int32 → (Nat → Int32) → Option (Int32 × Int32 × (Nat → Int32) × (Nat → Int32))) (r26 : Int32 → (Nat → Int32) → Option (Int32 × Int32 × (Nat → Int32) × (Nat → Int32))) (x2_4 : Int32) (t_kept_5 : Nat → Int32) : Option (Int32 × Int32 × (Nat → Int32) × (Nat → Int32)) :=
  (if 4 ≤ x2_4 then k26 x2_4 t_kept_5
 else nh_chk (nh_in x2_4 56) (nh_chk (nh_in ((8 * i1) + x2_4) 16) (nh_let (α := Nat → Int32) (upd t_kept_5 (Int32.toNatClampNeg ((8 * i1) + x2_4)) (t_holds (Int32.toNatClampNeg x2_4))) (fun t_kept_11 => nh_chk (nh_in x2_4 56) (nh_chk (nh_in (((8 * i1) + 4) + x2_4) 16) (nh_let (α := Nat → Int32) (upd t_kept_11 (Int32.toNatClampNeg (((8 * i1) + 4) + x2_4)) (t_had (Int32.toNatClampNeg x2_4))) (fun t_kept_14 => nh_let (α := Int32) (x2_4 + 1) (fun x2_15 => r26 x2_15 t_kept_14))))))))
def fX11_keep_L26 (t_had : Nat → Int32) (t_holds : Nat → Int32) (i1 : Int32) (k26 : Int32 → (Nat → Int32) → Option (Int32 × Int32 × (Nat → Int32) × (Nat → Int32))) : Nat → Int32 → (Nat → Int32) → Option (Int32 × Int32 × (Nat → Int32) × (Nat → Int32))
  | 0 => fun _ _ => none
  | n + 1 => fX11_keep_B26 t_had t_holds i1 k26 (fX11_keep_L26 t_had t_holds i1 k26 n)
def fX11_keep (F : Nat) (t_thrown : Int32) (t_people : Int32) (t_had : Nat → Int32) (t_holds : Nat → Int32) (t_isKept : Nat → Int32) (t_kept : Nat → Int32) (i1 : Int32) : Option (Int32 × Int32 × (Nat → Int32) × (Nat → Int32)) :=
  (if (fX11_in (Int32.toInt64 i1) 0 1) = 0 then some ((-1), 0, t_isKept, t_kept)
 else nh_chk (nh_in i1 2) (nh_let (α := Nat → Int32) (upd t_isKept (Int32.toNatClampNeg i1) (vp_nar .boolean 1)) (fun t_isKept_3 => fX11_keep_L26 t_had t_holds i1 (fun x2_6 t_kept_7 => nh_b1 (fX11_holding F t_people t_holds) (fun r_16 => some (r_16, 0, t_isKept_3, t_kept_7))) F 0 t_kept)))
set_option maxHeartbeats 4000000 in
set_option maxRecDepth 100000 in
theorem kX11_keep (F : Nat) (l : Launch) (D : va_G) (cI cZ cO : ClassId) (sz : Nat) (q_t q_t_text q_t_holds q_t_had q_t_worth q_t_wants q_t_readHolds q_t_readHad q_t_readWorth q_t_rows q_t_kept q_t_isKept q_t_sort q_t_took q_t_tried q_t_planned q_t_from q_t_best q_t_outcome q_t_value q_t_act : Nat) (t_thrown : Int32) (t_textSize : Int32) (t_place : Int32) (t_people : Int32) (t_readPeople : Int32) (t_acts : Int32) (t_sights : Int32) (t_longest : Int32) (t_shortest : Int32) (t_runs : Int32) (t_came : Int32) (t_bestMore : Int32) (t_had : Nat → Int32) (t_holds : Nat → Int32) (t_isKept : Nat → Int32) (t_kept : Nat → Int32) (i1 : Int32) (o_r : Int32) (o_t_thrown : Int32) (o_t_isKept : Nat → Int32) (o_t_kept : Nat → Int32) (h : fX11_keep F t_thrown t_people t_had t_holds t_isKept t_kept i1 = some (o_r, o_t_thrown, o_t_isKept, o_t_kept)) : Met l yX11_keep (nh_w (.code yX11_keep cX11_keep 3 (some .int))) (nh_rm 1) (nh_Pc D cI cZ cO (wlX11_keep cI cZ cO q_t q_t_text q_t_holds q_t_had q_t_worth q_t_wants q_t_readHolds q_t_readHad q_t_readWorth q_t_rows q_t_kept q_t_isKept q_t_sort q_t_took q_t_tried q_t_planned q_t_from q_t_best q_t_outcome q_t_value q_t_act t_thrown t_textSize t_place t_people t_readPeople t_acts t_sights t_longest t_shortest t_runs t_came t_bestMore t_had t_holds t_isKept t_kept) [.ref q_t, .int i1] sz) ((nh_Qi D (wlX11_keep cI cZ cO q_t q_t_text q_t_holds q_t_had q_t_worth q_t_wants q_t_readHolds q_t_readHad q_t_readWorth q_t_rows q_t_kept q_t_isKept q_t_sort q_t_took q_t_tried q_t_planned q_t_from q_t_best q_t_outcome q_t_value q_t_act o_t_thrown t_textSize t_place t_people t_readPeople t_acts t_sights t_longest t_shortest t_runs t_came t_bestMore t_had t_holds o_t_isKept o_t_kept) o_r) (va_A (wlX11_keep cI cZ cO q_t q_t_text q_t_holds q_t_had q_t_worth q_t_wants q_t_readHolds q_t_readHad q_t_readWorth q_t_rows q_t_kept q_t_isKept q_t_sort q_t_took q_t_tried q_t_planned q_t_from q_t_best q_t_outcome q_t_value q_t_act t_thrown t_textSize t_place t_people t_readPeople t_acts t_sights t_longest t_shortest t_runs t_came t_bestMore t_had t_holds t_isKept t_kept) sz)) 0 0 (va_A (wlX11_keep cI cZ cO q_t q_t_text q_t_holds q_t_had q_t_worth q_t_wants q_t_readHolds q_t_readHad q_t_readWorth q_t_rows q_t_kept q_t_isKept q_t_sort q_t_took q_t_tried q_t_planned q_t_from q_t_best q_t_outcome q_t_value q_t_act t_thrown t_textSize t_place t_people t_readPeople t_acts t_sights t_longest t_shortest t_runs t_came t_bestMore t_had t_holds t_isKept t_kept) sz) := by
  unfold fX11_keep at h
  refine nh_met (cc := cX11_keep) (maxL := 3) (ret := (some .int)) (nh_Qi D (wlX11_keep cI cZ cO q_t q_t_text q_t_holds q_t_had q_t_worth q_t_wants q_t_readHolds q_t_readHad q_t_readWorth q_t_rows q_t_kept q_t_isKept q_t_sort q_t_took q_t_tried q_t_planned q_t_from q_t_best q_t_outcome q_t_value q_t_act o_t_thrown t_textSize t_place t_people t_readPeople t_acts t_sights t_longest t_shortest t_runs t_came t_bestMore t_had t_holds o_t_isKept o_t_kept) o_r) (by decide) rfl (Nat.le_of_ble_eq_true rfl) ?_
  intro p e s m args below meth c A H locs ls hx hb hml hr hown hts hlocks hinit hP hK hN hD hA hS hl
  have hl : lv_has ls 3 [(0, .ref q_t), (1, .int i1)] := hl
  have hts : ∀ w ∈ nh_words, w.before args s = true := fun w h => hts w (List.mem_cons_of_mem _ h)
  refine lv_aload_n hx hb dX11_keep_0 rfl (lv_at hl 0 rfl) ?_
  refine lv_iconst (v := 0) hx hb dX11_keep_1 (by decide) ?_
  refine va_put (D := D) (ci := 10) (v := .int 0) (ty := .int) (C := RX11) (T := TX11) (N := 32) hx hb hts nhu_X11 tyX11 tyX11_ok nmX11 hown hK hP hD hS 0 rfl rfl 0 (by decide) (hts _ nhw_258) (fun _ h9 => h9) rfl (by decide +kernel) rfl rfl (Nat.le_of_ble_eq_true rfl) dX11_keep_2 (fun H locs hP hD hS => ?_)
  have hP : va_P D vwCl (wlX11_keep cI cZ cO q_t q_t_text q_t_holds q_t_had q_t_worth q_t_wants q_t_readHolds q_t_readHad q_t_readWorth q_t_rows q_t_kept q_t_isKept q_t_sort q_t_took q_t_tried q_t_planned q_t_from q_t_best q_t_outcome q_t_value q_t_act 0 t_textSize t_place t_people t_readPeople t_acts t_sights t_longest t_shortest t_runs t_came t_bestMore t_had t_holds t_isKept t_kept) H := hP
  have hD : va_D A (wlX11_keep cI cZ cO q_t q_t_text q_t_holds q_t_had q_t_worth q_t_wants q_t_readHolds q_t_readHad q_t_readWorth q_t_rows q_t_kept q_t_isKept q_t_sort q_t_took q_t_tried q_t_planned q_t_from q_t_best q_t_outcome q_t_value q_t_act 0 t_textSize t_place t_people t_readPeople t_acts t_sights t_longest t_shortest t_runs t_came t_bestMore t_had t_holds t_isKept t_kept) := hD
  refine lv_iload_n hx hb dX11_keep_5 rfl (lv_at hl 1 rfl) ?_
  refine lv_i2l hx hb dX11_keep_6 rfl ?_
  refine lv_lconst (v := 0) hx hb dX11_keep_7 rfl ?_
  refine lv_lconst (v := 1) hx hb dX11_keep_8 rfl ?_
  refine nh_goi (nh_S (As := [.long (Int32.toInt64 i1), .long 0, .long 1]) (rest := []) ⟨hx, hb, hml, hown, hts⟩ (kX11_in  l D cI cZ cO H.size (Int32.toInt64 i1) 0 1 (fX11_in (Int32.toInt64 i1) 0 1) rfl) (va_cwS 3 hts (nh_gS nhw_613 nhw_809 nhw_305 nhw_82) rfl rfl rfl (by decide +kernel) ⟨Nat.le_of_ble_eq_true rfl, Nat.le_of_ble_eq_true rfl⟩) hK hN hP hD (isC := []) rfl rfl rfl hl.1 rfl (Nat.le_of_ble_eq_true rfl) dX11_keep_9 ⟨Nat.zero_le _, Nat.zero_le _⟩) hP hD hS hA (isC := []) rfl rfl rfl (w' := (wlX11_keep cI cZ cO q_t q_t_text q_t_holds q_t_had q_t_worth q_t_wants q_t_readHolds q_t_readHad q_t_readWorth q_t_rows q_t_kept q_t_isKept q_t_sort q_t_took q_t_tried q_t_planned q_t_from q_t_best q_t_outcome q_t_value q_t_act 0 t_textSize t_place t_people t_readPeople t_acts t_sights t_longest t_shortest t_runs t_came t_bestMore t_had t_holds t_isKept t_kept)) rfl (fun H locs hP hD hS => ?_)
  refine lv_if_ne (tgt := 17) hx hb dX11_keep_12 (by decide) (fun c1 => ?_) (fun c1 => ?_)
  · replace h := nh_f h c1
    refine lv_aload_n hx hb dX11_keep_17 rfl (lv_at hl 0 rfl) ?_
    refine va_get (D := D) (ci := 10) (v := .ref q_t_isKept) (C := RX11) (T := TX11) (N := 32) hx hb hts nhu_X11 hown hK hP 0 rfl rfl 16 (by decide) (hts _ nhw_247) (fun _ h9 => h9) rfl dX11_keep_18 ?_
    refine lv_iload_n hx hb dX11_keep_21 rfl (lv_at hl 1 rfl) ?_
    refine lv_iconst (v := 1) hx hb dX11_keep_22 (by decide) ?_
    obtain ⟨z2, h⟩ := nh_chk_some h
    refine va_zast hx hb hK hP hD hS 3 1 rfl rfl (nh_in_in z2) dX11_keep_23 (fun H locs hP hD hS => ?_)
    obtain ⟨t_isKept_3, et_isKept_3⟩ : ∃ y : Nat → Int32, y = upd t_isKept (Int32.toNatClampNeg i1) (vp_nar .boolean 1) := ⟨_, rfl⟩
    replace h := nh_to h et_isKept_3
    have hP : va_P D vwCl (wlX11_keep cI cZ cO q_t q_t_text q_t_holds q_t_had q_t_worth q_t_wants q_t_readHolds q_t_readHad q_t_readWorth q_t_rows q_t_kept q_t_isKept q_t_sort q_t_took q_t_tried q_t_planned q_t_from q_t_best q_t_outcome q_t_value q_t_act 0 t_textSize t_place t_people t_readPeople t_acts t_sights t_longest t_shortest t_runs t_came t_bestMore t_had t_holds t_isKept_3 t_kept) H := by rw [et_isKept_3]; exact hP
    have hD : va_D A (wlX11_keep cI cZ cO q_t q_t_text q_t_holds q_t_had q_t_worth q_t_wants q_t_readHolds q_t_readHad q_t_readWorth q_t_rows q_t_kept q_t_isKept q_t_sort q_t_took q_t_tried q_t_planned q_t_from q_t_best q_t_outcome q_t_value q_t_act 0 t_textSize t_place t_people t_readPeople t_acts t_sights t_longest t_shortest t_runs t_came t_bestMore t_had t_holds t_isKept_3 t_kept) := by rw [et_isKept_3]; exact hD
    refine lv_iconst (v := 0) hx hb dX11_keep_24 (by decide) ?_
    refine lv_istore_n (lv' := [(2, .int 0), (0, .ref q_t), (1, .int i1)]) hx hb dX11_keep_25 rfl hl (by decide) rfl (fun ls hl => ?_)
    have L26 : ∀ (k26 : Int32 → (Nat → Int32) → Option (Int32 × Int32 × (Nat → Int32) × (Nat → Int32))), (∀ (x2_6 : Int32) (t_kept_7 : Nat → Int32) (H : Heap) (locs : List Loc) (ls : Array Slot), va_P D vwCl (wlX11_keep cI cZ cO q_t q_t_text q_t_holds q_t_had q_t_worth q_t_wants q_t_readHolds q_t_readHad q_t_readWorth q_t_rows q_t_kept q_t_isKept q_t_sort q_t_took q_t_tried q_t_planned q_t_from q_t_best q_t_outcome q_t_value q_t_act 0 t_textSize t_place t_people t_readPeople t_acts t_sights t_longest t_shortest t_runs t_came t_bestMore t_had t_holds t_isKept_3 t_kept_7) H → va_D A (wlX11_keep cI cZ cO q_t q_t_text q_t_holds q_t_had q_t_worth q_t_wants q_t_readHolds q_t_readHad q_t_readWorth q_t_rows q_t_kept q_t_isKept q_t_sort q_t_took q_t_tried q_t_planned q_t_from q_t_best q_t_outcome q_t_value q_t_act 0 t_textSize t_place t_people t_readPeople t_acts t_sights t_longest t_shortest t_runs t_came t_bestMore t_had t_holds t_isKept_3 t_kept_7) → va_S A s.heap H locs → lv_has ls 3 [(0, .ref q_t), (1, .int i1), (2, .int x2_6)] → k26 x2_6 t_kept_7 = some (o_r, o_t_thrown, o_t_isKept, o_t_kept) → W p l e (nh_rm 1) s m args below meth c H locs 0 0 (MQ below ((nh_Qi D (wlX11_keep cI cZ cO q_t q_t_text q_t_holds q_t_had q_t_worth q_t_wants q_t_readHolds q_t_readHad q_t_readWorth q_t_rows q_t_kept q_t_isKept q_t_sort q_t_took q_t_tried q_t_planned q_t_from q_t_best q_t_outcome q_t_value q_t_act o_t_thrown t_textSize t_place t_people t_readPeople t_acts t_sights t_longest t_shortest t_runs t_came t_bestMore t_had t_holds o_t_isKept o_t_kept) o_r) A) args s 0 0 A) (F0 m 73 ls [])) → ∀ (n : Nat) (x2_4 : Int32) (t_kept_5 : Nat → Int32) (H : Heap) (locs : List Loc) (ls : Array Slot), va_P D vwCl (wlX11_keep cI cZ cO q_t q_t_text q_t_holds q_t_had q_t_worth q_t_wants q_t_readHolds q_t_readHad q_t_readWorth q_t_rows q_t_kept q_t_isKept q_t_sort q_t_took q_t_tried q_t_planned q_t_from q_t_best q_t_outcome q_t_value q_t_act 0 t_textSize t_place t_people t_readPeople t_acts t_sights t_longest t_shortest t_runs t_came t_bestMore t_had t_holds t_isKept_3 t_kept_5) H → va_D A (wlX11_keep cI cZ cO q_t q_t_text q_t_holds q_t_had q_t_worth q_t_wants q_t_readHolds q_t_readHad q_t_readWorth q_t_rows q_t_kept q_t_isKept q_t_sort q_t_took q_t_tried q_t_planned q_t_from q_t_best q_t_outcome q_t_value q_t_act 0 t_textSize t_place t_people t_readPeople t_acts t_sights t_longest t_shortest t_runs t_came t_bestMore t_had t_holds t_isKept_3 t_kept_5) → va_S A s.heap H locs → lv_has ls 3 [(0, .ref q_t), (1, .int i1), (2, .int x2_4)] → fX11_keep_L26 t_had t_holds i1 k26 n x2_4 t_kept_5 = some (o_r, o_t_thrown, o_t_isKept, o_t_kept) → W p l e (nh_rm 1) s m args below meth c H locs 0 0 (MQ below ((nh_Qi D (wlX11_keep cI cZ cO q_t q_t_text q_t_holds q_t_had q_t_worth q_t_wants q_t_readHolds q_t_readHad q_t_readWorth q_t_rows q_t_kept q_t_isKept q_t_sort q_t_took q_t_tried q_t_planned q_t_from q_t_best q_t_outcome q_t_value q_t_act o_t_thrown t_textSize t_place t_people t_readPeople t_acts t_sights t_longest t_shortest t_runs t_came t_bestMore t_had t_holds o_t_isKept o_t_kept) o_r) A) args s 0 0 A) (F0 m 26 ls []) := by
      intro k26 hk26 n
      induction n with
      | zero => intro x2_4 t_kept_5 H locs ls hP hD hS hl h; exact (nh_none h).elim
      | succ n26 ih26 =>
        intro x2_4 t_kept_5 H locs ls hP hD hS hl h
        replace h : fX11_keep_B26 t_had t_holds i1 k26 (fX11_keep_L26 t_had t_holds i1 k26 n26) x2_4 t_kept_5 = some (o_r, o_t_thrown, o_t_isKept, o_t_kept) := h
        unfold fX11_keep_B26 at h
        refine lv_iload_n hx hb dX11_keep_26 rfl (lv_at hl 2 rfl) ?_
        refine lv_iconst (v := 4) hx hb dX11_keep_27 (by decide) ?_
        refine lv_icmp_ge (tgt := 73) hx hb dX11_keep_28 (by decide) (fun c8 => ?_) (fun c8 => ?_)
        · replace h := nh_t h c8
          exact hk26 x2_4 t_kept_5 H locs ls hP hD hS (lv_sub hl [0, 1, 2] rfl) h
        · replace h := nh_f h c8
          refine lv_aload_n hx hb dX11_keep_31 rfl (lv_at hl 0 rfl) ?_
          refine va_get (D := D) (ci := 10) (v := .ref q_t_kept) (C := RX11) (T := TX11) (N := 32) hx hb hts nhu_X11 hown hK hP 0 rfl rfl 15 (by decide) (hts _ nhw_246) (fun _ h9 => h9) rfl dX11_keep_32 ?_
          refine lv_bipush (v := 8) hx hb dX11_keep_35 (by decide) ?_
          refine lv_iload_n hx hb dX11_keep_37 rfl (lv_at hl 1 rfl) ?_
          refine lv_imul hx hb dX11_keep_38 ?_
          refine lv_iload_n hx hb dX11_keep_39 rfl (lv_at hl 2 rfl) ?_
          refine lv_iadd hx hb dX11_keep_40 ?_
          refine lv_aload_n hx hb dX11_keep_41 rfl (lv_at hl 0 rfl) ?_
          refine va_get (D := D) (ci := 10) (v := .ref q_t_holds) (C := RX11) (T := TX11) (N := 32) hx hb hts nhu_X11 hown hK hP 0 rfl rfl 5 (by decide) (hts _ nhw_232) (fun _ h9 => h9) rfl dX11_keep_42 ?_
          refine lv_iload_n hx hb dX11_keep_45 rfl (lv_at hl 2 rfl) ?_
          obtain ⟨z9, h⟩ := nh_chk_some h
          refine va_iald hx hb hK hP 2 0 rfl rfl (nh_in_in z9) dX11_keep_46 ?_
          obtain ⟨z10, h⟩ := nh_chk_some h
          refine va_iast hx hb hK hP hD hS 4 0 rfl rfl (nh_in_in z10) dX11_keep_47 (fun H locs hP hD hS => ?_)
          obtain ⟨t_kept_11, et_kept_11⟩ : ∃ y : Nat → Int32, y = upd t_kept_5 (Int32.toNatClampNeg ((8 * i1) + x2_4)) (t_holds (Int32.toNatClampNeg x2_4)) := ⟨_, rfl⟩
          replace h := nh_to h et_kept_11
          have hP : va_P D vwCl (wlX11_keep cI cZ cO q_t q_t_text q_t_holds q_t_had q_t_worth q_t_wants q_t_readHolds q_t_readHad q_t_readWorth q_t_rows q_t_kept q_t_isKept q_t_sort q_t_took q_t_tried q_t_planned q_t_from q_t_best q_t_outcome q_t_value q_t_act 0 t_textSize t_place t_people t_readPeople t_acts t_sights t_longest t_shortest t_runs t_came t_bestMore t_had t_holds t_isKept_3 t_kept_11) H := by rw [et_kept_11]; exact hP
          have hD : va_D A (wlX11_keep cI cZ cO q_t q_t_text q_t_holds q_t_had q_t_worth q_t_wants q_t_readHolds q_t_readHad q_t_readWorth q_t_rows q_t_kept q_t_isKept q_t_sort q_t_took q_t_tried q_t_planned q_t_from q_t_best q_t_outcome q_t_value q_t_act 0 t_textSize t_place t_people t_readPeople t_acts t_sights t_longest t_shortest t_runs t_came t_bestMore t_had t_holds t_isKept_3 t_kept_11) := by rw [et_kept_11]; exact hD
          refine lv_aload_n hx hb dX11_keep_48 rfl (lv_at hl 0 rfl) ?_
          refine va_get (D := D) (ci := 10) (v := .ref q_t_kept) (C := RX11) (T := TX11) (N := 32) hx hb hts nhu_X11 hown hK hP 0 rfl rfl 15 (by decide) (hts _ nhw_246) (fun _ h9 => h9) rfl dX11_keep_49 ?_
          refine lv_bipush (v := 8) hx hb dX11_keep_52 (by decide) ?_
          refine lv_iload_n hx hb dX11_keep_54 rfl (lv_at hl 1 rfl) ?_
          refine lv_imul hx hb dX11_keep_55 ?_
          refine lv_iconst (v := 4) hx hb dX11_keep_56 (by decide) ?_
          refine lv_iadd hx hb dX11_keep_57 ?_
          refine lv_iload_n hx hb dX11_keep_58 rfl (lv_at hl 2 rfl) ?_
          refine lv_iadd hx hb dX11_keep_59 ?_
          refine lv_aload_n hx hb dX11_keep_60 rfl (lv_at hl 0 rfl) ?_
          refine va_get (D := D) (ci := 10) (v := .ref q_t_had) (C := RX11) (T := TX11) (N := 32) hx hb hts nhu_X11 hown hK hP 0 rfl rfl 6 (by decide) (hts _ nhw_234) (fun _ h9 => h9) rfl dX11_keep_61 ?_
          refine lv_iload_n hx hb dX11_keep_64 rfl (lv_at hl 2 rfl) ?_
          obtain ⟨z12, h⟩ := nh_chk_some h
          refine va_iald hx hb hK hP 1 0 rfl rfl (nh_in_in z12) dX11_keep_65 ?_
          obtain ⟨z13, h⟩ := nh_chk_some h
          refine va_iast hx hb hK hP hD hS 4 0 rfl rfl (nh_in_in z13) dX11_keep_66 (fun H locs hP hD hS => ?_)
          obtain ⟨t_kept_14, et_kept_14⟩ : ∃ y : Nat → Int32, y = upd t_kept_11 (Int32.toNatClampNeg (((8 * i1) + 4) + x2_4)) (t_had (Int32.toNatClampNeg x2_4)) := ⟨_, rfl⟩
          replace h := nh_to h et_kept_14
          have hP : va_P D vwCl (wlX11_keep cI cZ cO q_t q_t_text q_t_holds q_t_had q_t_worth q_t_wants q_t_readHolds q_t_readHad q_t_readWorth q_t_rows q_t_kept q_t_isKept q_t_sort q_t_took q_t_tried q_t_planned q_t_from q_t_best q_t_outcome q_t_value q_t_act 0 t_textSize t_place t_people t_readPeople t_acts t_sights t_longest t_shortest t_runs t_came t_bestMore t_had t_holds t_isKept_3 t_kept_14) H := by rw [et_kept_14]; exact hP
          have hD : va_D A (wlX11_keep cI cZ cO q_t q_t_text q_t_holds q_t_had q_t_worth q_t_wants q_t_readHolds q_t_readHad q_t_readWorth q_t_rows q_t_kept q_t_isKept q_t_sort q_t_took q_t_tried q_t_planned q_t_from q_t_best q_t_outcome q_t_value q_t_act 0 t_textSize t_place t_people t_readPeople t_acts t_sights t_longest t_shortest t_runs t_came t_bestMore t_had t_holds t_isKept_3 t_kept_14) := by rw [et_kept_14]; exact hD
          obtain ⟨x2_15, ex2_15⟩ : ∃ y : Int32, y = x2_4 + 1 := ⟨_, rfl⟩
          replace h := nh_to h ex2_15
          refine lv_iinc (v := x2_15) (lv' := [(2, .int x2_15), (0, .ref q_t), (1, .int i1)]) hx hb dX11_keep_67 hl (k := 2) rfl (by rw [ex2_15]; rfl) (by decide) rfl (fun ls hl => ?_)
          refine lv_goto (tgt := 26) hx hb dX11_keep_70 (by decide) ?_
          exact ih26 x2_15 t_kept_14 H locs ls hP hD hS (lv_sub hl [1, 2, 0] rfl) h
    refine L26 _ (fun x2_6 t_kept_7 H locs ls hP hD hS hl h => ?_) _ 0 t_kept H locs ls hP hD hS (lv_sub hl [1, 2, 0] rfl) h
    refine lv_aload_n hx hb dX11_keep_73 rfl (lv_at hl 0 rfl) ?_
    obtain ⟨r_16, hc17, h⟩ := nh_b1_some h
    refine nh_goi (nh_V (As := []) (rest := []) ⟨hx, hb, hml, hown, hts⟩ (kX11_holding F l D cI cZ cO H.size q_t q_t_text q_t_holds q_t_had q_t_worth q_t_wants q_t_readHolds q_t_readHad q_t_readWorth q_t_rows q_t_kept q_t_isKept q_t_sort q_t_took q_t_tried q_t_planned q_t_from q_t_best q_t_outcome q_t_value q_t_act 0 t_textSize t_place t_people t_readPeople t_acts t_sights t_longest t_shortest t_runs t_came t_bestMore t_holds r_16 hc17) (cwV 0 hts (nh_gV nhw_593 nhw_373 nhw_742 nhw_305 nhw_80) rfl rfl rfl (by decide +kernel) ⟨Nat.le_of_ble_eq_true rfl, Nat.le_of_ble_eq_true rfl⟩) hK hN hP hD (isC := [0, 2]) rfl rfl 0 10 rfl rfl rfl rfl hl.1 rfl (Nat.le_of_ble_eq_true rfl) dX11_keep_74 ⟨Nat.zero_le _, Nat.zero_le _⟩) hP hD hS hA (isC := [0, 2]) rfl rfl rfl (w' := (wlX11_keep cI cZ cO q_t q_t_text q_t_holds q_t_had q_t_worth q_t_wants q_t_readHolds q_t_readHad q_t_readWorth q_t_rows q_t_kept q_t_isKept q_t_sort q_t_took q_t_tried q_t_planned q_t_from q_t_best q_t_outcome q_t_value q_t_act 0 t_textSize t_place t_people t_readPeople t_acts t_sights t_longest t_shortest t_runs t_came t_bestMore t_had t_holds t_isKept_3 t_kept_7)) rfl (fun H locs hP hD hS => ?_)
    obtain ⟨g0, g1, g2, g3⟩ := nh_i4 h
    exact nh_ri hx hb hr hlocks g0 (by rw [← g1, ← g2, ← g3]; exact hP) hS dX11_keep_77
  · replace h := nh_t h c1
    refine lv_iconst (v := (-1)) hx hb dX11_keep_15 (by decide) ?_
    obtain ⟨g0, g1, g2, g3⟩ := nh_i4 h
    exact nh_ri hx hb hr hlocks g0 (by rw [← g1, ← g2, ← g3]; exact hP) hS dX11_keep_16
abbrev wlX11_again (cI cZ cO : ClassId) (q_t q_t_text q_t_holds q_t_had q_t_worth q_t_wants q_t_readHolds q_t_readHad q_t_readWorth q_t_rows q_t_kept q_t_isKept q_t_sort q_t_took q_t_tried q_t_planned q_t_from q_t_best q_t_outcome q_t_value q_t_act : Nat) (t_thrown : Int32) (t_textSize : Int32) (t_place : Int32) (t_people : Int32) (t_readPeople : Int32) (t_acts : Int32) (t_sights : Int32) (t_longest : Int32) (t_shortest : Int32) (t_runs : Int32) (t_came : Int32) (t_bestMore : Int32) (t_had : Nat → Int32) (t_holds : Nat → Int32) (t_isKept : Nat → Int32) (t_kept : Nat → Int32) : va_W := [(q_t, .inr (10, [.int t_thrown, .ref q_t_text, .int t_textSize, .int t_place, .int t_people, .ref q_t_holds, .ref q_t_had, .ref q_t_worth, .ref q_t_wants, .int t_readPeople, .ref q_t_readHolds, .ref q_t_readHad, .ref q_t_readWorth, .ref q_t_rows, .int t_acts, .ref q_t_kept, .ref q_t_isKept, .int t_sights, .ref q_t_sort, .ref q_t_took, .ref q_t_tried, .int t_longest, .int t_shortest, .int t_runs, .int t_came, .ref q_t_planned, .ref q_t_from, .ref q_t_best, .int t_bestMore, .ref q_t_outcome, .ref q_t_value, .ref q_t_act])), (q_t_had, .inl (cI, 56, .inl t_had)), (q_t_holds, .inl (cI, 56, .inl t_holds)), (q_t_isKept, .inl (cZ, 2, .inl t_isKept)), (q_t_kept, .inl (cI, 16, .inl t_kept))]
def fX11_again_B31 (t_kept : Nat → Int32) (i1 : Int32) (k31 : Int32 → (Nat → Int32) → (Nat → Int32) → Option (Int32 × Int32 × Int32 × (Nat → Int32) × (Nat → Int32))) (r31 : Int32 → (Nat → Int32) → (Nat → Int32) → Option (Int32 × Int32 × Int32 × (Nat → Int32) × (Nat → Int32))) (x2_4 : Int32) (t_had_5 : Nat → Int32) (t_holds_6 : Nat → Int32) : Option (Int32 × Int32 × Int32 × (Nat → Int32) × (Nat → Int32)) :=
  (if 4 ≤ x2_4 then k31 x2_4 t_had_5 t_holds_6
 else nh_chk (nh_in ((8 * i1) + x2_4) 16) (nh_chk (nh_in x2_4 56) (nh_let (α := Nat → Int32) (upd t_holds_6 (Int32.toNatClampNeg x2_4) (t_kept (Int32.toNatClampNeg ((8 * i1) + x2_4)))) (fun t_holds_13 => nh_chk (nh_in (((8 * i1) + 4) + x2_4) 16) (nh_chk (nh_in x2_4 56) (nh_let (α := Nat → Int32) (upd t_had_5 (Int32.toNatClampNeg x2_4) (t_kept (Int32.toNatClampNeg (((8 * i1) + 4) + x2_4)))) (fun t_had_16 => nh_let (α := Int32) (x2_4 + 1) (fun x2_17 => r31 x2_17 t_had_16 t_holds_13))))))))
def fX11_again_L31 (t_kept : Nat → Int32) (i1 : Int32) (k31 : Int32 → (Nat → Int32) → (Nat → Int32) → Option (Int32 × Int32 × Int32 × (Nat → Int32) × (Nat → Int32))) : Nat → Int32 → (Nat → Int32) → (Nat → Int32) → Option (Int32 × Int32 × Int32 × (Nat → Int32) × (Nat → Int32))
  | 0 => fun _ _ _ => none
  | n + 1 => fX11_again_B31 t_kept i1 k31 (fX11_again_L31 t_kept i1 k31 n)
def fX11_again (F : Nat) (t_thrown : Int32) (t_people : Int32) (t_acts : Int32) (t_had : Nat → Int32) (t_holds : Nat → Int32) (t_isKept : Nat → Int32) (t_kept : Nat → Int32) (i1 : Int32) : Option (Int32 × Int32 × Int32 × (Nat → Int32) × (Nat → Int32)) :=
  (if (fX11_in (Int32.toInt64 i1) 0 1) = 0 then some ((-1), 0, t_acts, t_had, t_holds)
 else nh_chk (nh_in i1 2) ((if (t_isKept (Int32.toNatClampNeg i1)) = 0 then some ((-3), 0, t_acts, t_had, t_holds)
 else fX11_again_L31 t_kept i1 (fun x2_7 t_had_8 t_holds_9 => nh_b1 (fX11_holding F t_people t_holds_9) (fun r_18 => some (r_18, 0, 0, t_had_8, t_holds_9))) F 0 t_had t_holds)))
set_option maxHeartbeats 4000000 in
set_option maxRecDepth 100000 in
theorem kX11_again (F : Nat) (l : Launch) (D : va_G) (cI cZ cO : ClassId) (sz : Nat) (q_t q_t_text q_t_holds q_t_had q_t_worth q_t_wants q_t_readHolds q_t_readHad q_t_readWorth q_t_rows q_t_kept q_t_isKept q_t_sort q_t_took q_t_tried q_t_planned q_t_from q_t_best q_t_outcome q_t_value q_t_act : Nat) (t_thrown : Int32) (t_textSize : Int32) (t_place : Int32) (t_people : Int32) (t_readPeople : Int32) (t_acts : Int32) (t_sights : Int32) (t_longest : Int32) (t_shortest : Int32) (t_runs : Int32) (t_came : Int32) (t_bestMore : Int32) (t_had : Nat → Int32) (t_holds : Nat → Int32) (t_isKept : Nat → Int32) (t_kept : Nat → Int32) (i1 : Int32) (o_r : Int32) (o_t_thrown : Int32) (o_t_acts : Int32) (o_t_had : Nat → Int32) (o_t_holds : Nat → Int32) (h : fX11_again F t_thrown t_people t_acts t_had t_holds t_isKept t_kept i1 = some (o_r, o_t_thrown, o_t_acts, o_t_had, o_t_holds)) : Met l yX11_again (nh_w (.code yX11_again cX11_again 3 (some .int))) (nh_rm 1) (nh_Pc D cI cZ cO (wlX11_again cI cZ cO q_t q_t_text q_t_holds q_t_had q_t_worth q_t_wants q_t_readHolds q_t_readHad q_t_readWorth q_t_rows q_t_kept q_t_isKept q_t_sort q_t_took q_t_tried q_t_planned q_t_from q_t_best q_t_outcome q_t_value q_t_act t_thrown t_textSize t_place t_people t_readPeople t_acts t_sights t_longest t_shortest t_runs t_came t_bestMore t_had t_holds t_isKept t_kept) [.ref q_t, .int i1] sz) ((nh_Qi D (wlX11_again cI cZ cO q_t q_t_text q_t_holds q_t_had q_t_worth q_t_wants q_t_readHolds q_t_readHad q_t_readWorth q_t_rows q_t_kept q_t_isKept q_t_sort q_t_took q_t_tried q_t_planned q_t_from q_t_best q_t_outcome q_t_value q_t_act o_t_thrown t_textSize t_place t_people t_readPeople o_t_acts t_sights t_longest t_shortest t_runs t_came t_bestMore o_t_had o_t_holds t_isKept t_kept) o_r) (va_A (wlX11_again cI cZ cO q_t q_t_text q_t_holds q_t_had q_t_worth q_t_wants q_t_readHolds q_t_readHad q_t_readWorth q_t_rows q_t_kept q_t_isKept q_t_sort q_t_took q_t_tried q_t_planned q_t_from q_t_best q_t_outcome q_t_value q_t_act t_thrown t_textSize t_place t_people t_readPeople t_acts t_sights t_longest t_shortest t_runs t_came t_bestMore t_had t_holds t_isKept t_kept) sz)) 0 0 (va_A (wlX11_again cI cZ cO q_t q_t_text q_t_holds q_t_had q_t_worth q_t_wants q_t_readHolds q_t_readHad q_t_readWorth q_t_rows q_t_kept q_t_isKept q_t_sort q_t_took q_t_tried q_t_planned q_t_from q_t_best q_t_outcome q_t_value q_t_act t_thrown t_textSize t_place t_people t_readPeople t_acts t_sights t_longest t_shortest t_runs t_came t_bestMore t_had t_holds t_isKept t_kept) sz) := by
  unfold fX11_again at h
  refine nh_met (cc := cX11_again) (maxL := 3) (ret := (some .int)) (nh_Qi D (wlX11_again cI cZ cO q_t q_t_text q_t_holds q_t_had q_t_worth q_t_wants q_t_readHolds q_t_readHad q_t_readWorth q_t_rows q_t_kept q_t_isKept q_t_sort q_t_took q_t_tried q_t_planned q_t_from q_t_best q_t_outcome q_t_value q_t_act o_t_thrown t_textSize t_place t_people t_readPeople o_t_acts t_sights t_longest t_shortest t_runs t_came t_bestMore o_t_had o_t_holds t_isKept t_kept) o_r) (by decide) rfl (Nat.le_of_ble_eq_true rfl) ?_
  intro p e s m args below meth c A H locs ls hx hb hml hr hown hts hlocks hinit hP hK hN hD hA hS hl
  have hl : lv_has ls 3 [(0, .ref q_t), (1, .int i1)] := hl
  have hts : ∀ w ∈ nh_words, w.before args s = true := fun w h => hts w (List.mem_cons_of_mem _ h)
  refine lv_aload_n hx hb dX11_again_0 rfl (lv_at hl 0 rfl) ?_
  refine lv_iconst (v := 0) hx hb dX11_again_1 (by decide) ?_
  refine va_put (D := D) (ci := 10) (v := .int 0) (ty := .int) (C := RX11) (T := TX11) (N := 32) hx hb hts nhu_X11 tyX11 tyX11_ok nmX11 hown hK hP hD hS 0 rfl rfl 0 (by decide) (hts _ nhw_258) (fun _ h9 => h9) rfl (by decide +kernel) rfl rfl (Nat.le_of_ble_eq_true rfl) dX11_again_2 (fun H locs hP hD hS => ?_)
  have hP : va_P D vwCl (wlX11_again cI cZ cO q_t q_t_text q_t_holds q_t_had q_t_worth q_t_wants q_t_readHolds q_t_readHad q_t_readWorth q_t_rows q_t_kept q_t_isKept q_t_sort q_t_took q_t_tried q_t_planned q_t_from q_t_best q_t_outcome q_t_value q_t_act 0 t_textSize t_place t_people t_readPeople t_acts t_sights t_longest t_shortest t_runs t_came t_bestMore t_had t_holds t_isKept t_kept) H := hP
  have hD : va_D A (wlX11_again cI cZ cO q_t q_t_text q_t_holds q_t_had q_t_worth q_t_wants q_t_readHolds q_t_readHad q_t_readWorth q_t_rows q_t_kept q_t_isKept q_t_sort q_t_took q_t_tried q_t_planned q_t_from q_t_best q_t_outcome q_t_value q_t_act 0 t_textSize t_place t_people t_readPeople t_acts t_sights t_longest t_shortest t_runs t_came t_bestMore t_had t_holds t_isKept t_kept) := hD
  refine lv_iload_n hx hb dX11_again_5 rfl (lv_at hl 1 rfl) ?_
  refine lv_i2l hx hb dX11_again_6 rfl ?_
  refine lv_lconst (v := 0) hx hb dX11_again_7 rfl ?_
  refine lv_lconst (v := 1) hx hb dX11_again_8 rfl ?_
  refine nh_goi (nh_S (As := [.long (Int32.toInt64 i1), .long 0, .long 1]) (rest := []) ⟨hx, hb, hml, hown, hts⟩ (kX11_in  l D cI cZ cO H.size (Int32.toInt64 i1) 0 1 (fX11_in (Int32.toInt64 i1) 0 1) rfl) (va_cwS 3 hts (nh_gS nhw_613 nhw_809 nhw_305 nhw_82) rfl rfl rfl (by decide +kernel) ⟨Nat.le_of_ble_eq_true rfl, Nat.le_of_ble_eq_true rfl⟩) hK hN hP hD (isC := []) rfl rfl rfl hl.1 rfl (Nat.le_of_ble_eq_true rfl) dX11_again_9 ⟨Nat.zero_le _, Nat.zero_le _⟩) hP hD hS hA (isC := []) rfl rfl rfl (w' := (wlX11_again cI cZ cO q_t q_t_text q_t_holds q_t_had q_t_worth q_t_wants q_t_readHolds q_t_readHad q_t_readWorth q_t_rows q_t_kept q_t_isKept q_t_sort q_t_took q_t_tried q_t_planned q_t_from q_t_best q_t_outcome q_t_value q_t_act 0 t_textSize t_place t_people t_readPeople t_acts t_sights t_longest t_shortest t_runs t_came t_bestMore t_had t_holds t_isKept t_kept)) rfl (fun H locs hP hD hS => ?_)
  refine lv_if_ne (tgt := 17) hx hb dX11_again_12 (by decide) (fun c1 => ?_) (fun c1 => ?_)
  · replace h := nh_f h c1
    refine lv_aload_n hx hb dX11_again_17 rfl (lv_at hl 0 rfl) ?_
    refine va_get (D := D) (ci := 10) (v := .ref q_t_isKept) (C := RX11) (T := TX11) (N := 32) hx hb hts nhu_X11 hown hK hP 0 rfl rfl 16 (by decide) (hts _ nhw_247) (fun _ h9 => h9) rfl dX11_again_18 ?_
    refine lv_iload_n hx hb dX11_again_21 rfl (lv_at hl 1 rfl) ?_
    obtain ⟨z2, h⟩ := nh_chk_some h
    refine va_zald hx hb hK hP 3 1 rfl rfl (nh_in_in z2) dX11_again_22 ?_
    refine lv_if_ne (tgt := 29) hx hb dX11_again_23 (by decide) (fun c3 => ?_) (fun c3 => ?_)
    · replace h := nh_f h c3
      refine lv_iconst (v := 0) hx hb dX11_again_29 (by decide) ?_
      refine lv_istore_n (lv' := [(2, .int 0), (0, .ref q_t), (1, .int i1)]) hx hb dX11_again_30 rfl hl (by decide) rfl (fun ls hl => ?_)
      have L31 : ∀ (k31 : Int32 → (Nat → Int32) → (Nat → Int32) → Option (Int32 × Int32 × Int32 × (Nat → Int32) × (Nat → Int32))), (∀ (x2_7 : Int32) (t_had_8 : Nat → Int32) (t_holds_9 : Nat → Int32) (H : Heap) (locs : List Loc) (ls : Array Slot), va_P D vwCl (wlX11_again cI cZ cO q_t q_t_text q_t_holds q_t_had q_t_worth q_t_wants q_t_readHolds q_t_readHad q_t_readWorth q_t_rows q_t_kept q_t_isKept q_t_sort q_t_took q_t_tried q_t_planned q_t_from q_t_best q_t_outcome q_t_value q_t_act 0 t_textSize t_place t_people t_readPeople t_acts t_sights t_longest t_shortest t_runs t_came t_bestMore t_had_8 t_holds_9 t_isKept t_kept) H → va_D A (wlX11_again cI cZ cO q_t q_t_text q_t_holds q_t_had q_t_worth q_t_wants q_t_readHolds q_t_readHad q_t_readWorth q_t_rows q_t_kept q_t_isKept q_t_sort q_t_took q_t_tried q_t_planned q_t_from q_t_best q_t_outcome q_t_value q_t_act 0 t_textSize t_place t_people t_readPeople t_acts t_sights t_longest t_shortest t_runs t_came t_bestMore t_had_8 t_holds_9 t_isKept t_kept) → va_S A s.heap H locs → lv_has ls 3 [(0, .ref q_t), (1, .int i1), (2, .int x2_7)] → k31 x2_7 t_had_8 t_holds_9 = some (o_r, o_t_thrown, o_t_acts, o_t_had, o_t_holds) → W p l e (nh_rm 1) s m args below meth c H locs 0 0 (MQ below ((nh_Qi D (wlX11_again cI cZ cO q_t q_t_text q_t_holds q_t_had q_t_worth q_t_wants q_t_readHolds q_t_readHad q_t_readWorth q_t_rows q_t_kept q_t_isKept q_t_sort q_t_took q_t_tried q_t_planned q_t_from q_t_best q_t_outcome q_t_value q_t_act o_t_thrown t_textSize t_place t_people t_readPeople o_t_acts t_sights t_longest t_shortest t_runs t_came t_bestMore o_t_had o_t_holds t_isKept t_kept) o_r) A) args s 0 0 A) (F0 m 78 ls [])) → ∀ (n : Nat) (x2_4 : Int32) (t_had_5 : Nat → Int32) (t_holds_6 : Nat → Int32) (H : Heap) (locs : List Loc) (ls : Array Slot), va_P D vwCl (wlX11_again cI cZ cO q_t q_t_text q_t_holds q_t_had q_t_worth q_t_wants q_t_readHolds q_t_readHad q_t_readWorth q_t_rows q_t_kept q_t_isKept q_t_sort q_t_took q_t_tried q_t_planned q_t_from q_t_best q_t_outcome q_t_value q_t_act 0 t_textSize t_place t_people t_readPeople t_acts t_sights t_longest t_shortest t_runs t_came t_bestMore t_had_5 t_holds_6 t_isKept t_kept) H → va_D A (wlX11_again cI cZ cO q_t q_t_text q_t_holds q_t_had q_t_worth q_t_wants q_t_readHolds q_t_readHad q_t_readWorth q_t_rows q_t_kept q_t_isKept q_t_sort q_t_took q_t_tried q_t_planned q_t_from q_t_best q_t_outcome q_t_value q_t_act 0 t_textSize t_place t_people t_readPeople t_acts t_sights t_longest t_shortest t_runs t_came t_bestMore t_had_5 t_holds_6 t_isKept t_kept) → va_S A s.heap H locs → lv_has ls 3 [(0, .ref q_t), (1, .int i1), (2, .int x2_4)] → fX11_again_L31 t_kept i1 k31 n x2_4 t_had_5 t_holds_6 = some (o_r, o_t_thrown, o_t_acts, o_t_had, o_t_holds) → W p l e (nh_rm 1) s m args below meth c H locs 0 0 (MQ below ((nh_Qi D (wlX11_again cI cZ cO q_t q_t_text q_t_holds q_t_had q_t_worth q_t_wants q_t_readHolds q_t_readHad q_t_readWorth q_t_rows q_t_kept q_t_isKept q_t_sort q_t_took q_t_tried q_t_planned q_t_from q_t_best q_t_outcome q_t_value q_t_act o_t_thrown t_textSize t_place t_people t_readPeople o_t_acts t_sights t_longest t_shortest t_runs t_came t_bestMore o_t_had o_t_holds t_isKept t_kept) o_r) A) args s 0 0 A) (F0 m 31 ls []) := by
        intro k31 hk31 n
        induction n with
        | zero => intro x2_4 t_had_5 t_holds_6 H locs ls hP hD hS hl h; exact (nh_none h).elim
        | succ n31 ih31 =>
          intro x2_4 t_had_5 t_holds_6 H locs ls hP hD hS hl h
          replace h : fX11_again_B31 t_kept i1 k31 (fX11_again_L31 t_kept i1 k31 n31) x2_4 t_had_5 t_holds_6 = some (o_r, o_t_thrown, o_t_acts, o_t_had, o_t_holds) := h
          unfold fX11_again_B31 at h
          refine lv_iload_n hx hb dX11_again_31 rfl (lv_at hl 2 rfl) ?_
          refine lv_iconst (v := 4) hx hb dX11_again_32 (by decide) ?_
          refine lv_icmp_ge (tgt := 78) hx hb dX11_again_33 (by decide) (fun c10 => ?_) (fun c10 => ?_)
          · replace h := nh_t h c10
            exact hk31 x2_4 t_had_5 t_holds_6 H locs ls hP hD hS (lv_sub hl [0, 1, 2] rfl) h
          · replace h := nh_f h c10
            refine lv_aload_n hx hb dX11_again_36 rfl (lv_at hl 0 rfl) ?_
            refine va_get (D := D) (ci := 10) (v := .ref q_t_holds) (C := RX11) (T := TX11) (N := 32) hx hb hts nhu_X11 hown hK hP 0 rfl rfl 5 (by decide) (hts _ nhw_232) (fun _ h9 => h9) rfl dX11_again_37 ?_
            refine lv_iload_n hx hb dX11_again_40 rfl (lv_at hl 2 rfl) ?_
            refine lv_aload_n hx hb dX11_again_41 rfl (lv_at hl 0 rfl) ?_
            refine va_get (D := D) (ci := 10) (v := .ref q_t_kept) (C := RX11) (T := TX11) (N := 32) hx hb hts nhu_X11 hown hK hP 0 rfl rfl 15 (by decide) (hts _ nhw_246) (fun _ h9 => h9) rfl dX11_again_42 ?_
            refine lv_bipush (v := 8) hx hb dX11_again_45 (by decide) ?_
            refine lv_iload_n hx hb dX11_again_47 rfl (lv_at hl 1 rfl) ?_
            refine lv_imul hx hb dX11_again_48 ?_
            refine lv_iload_n hx hb dX11_again_49 rfl (lv_at hl 2 rfl) ?_
            refine lv_iadd hx hb dX11_again_50 ?_
            obtain ⟨z11, h⟩ := nh_chk_some h
            refine va_iald hx hb hK hP 4 0 rfl rfl (nh_in_in z11) dX11_again_51 ?_
            obtain ⟨z12, h⟩ := nh_chk_some h
            refine va_iast hx hb hK hP hD hS 2 0 rfl rfl (nh_in_in z12) dX11_again_52 (fun H locs hP hD hS => ?_)
            obtain ⟨t_holds_13, et_holds_13⟩ : ∃ y : Nat → Int32, y = upd t_holds_6 (Int32.toNatClampNeg x2_4) (t_kept (Int32.toNatClampNeg ((8 * i1) + x2_4))) := ⟨_, rfl⟩
            replace h := nh_to h et_holds_13
            have hP : va_P D vwCl (wlX11_again cI cZ cO q_t q_t_text q_t_holds q_t_had q_t_worth q_t_wants q_t_readHolds q_t_readHad q_t_readWorth q_t_rows q_t_kept q_t_isKept q_t_sort q_t_took q_t_tried q_t_planned q_t_from q_t_best q_t_outcome q_t_value q_t_act 0 t_textSize t_place t_people t_readPeople t_acts t_sights t_longest t_shortest t_runs t_came t_bestMore t_had_5 t_holds_13 t_isKept t_kept) H := by rw [et_holds_13]; exact hP
            have hD : va_D A (wlX11_again cI cZ cO q_t q_t_text q_t_holds q_t_had q_t_worth q_t_wants q_t_readHolds q_t_readHad q_t_readWorth q_t_rows q_t_kept q_t_isKept q_t_sort q_t_took q_t_tried q_t_planned q_t_from q_t_best q_t_outcome q_t_value q_t_act 0 t_textSize t_place t_people t_readPeople t_acts t_sights t_longest t_shortest t_runs t_came t_bestMore t_had_5 t_holds_13 t_isKept t_kept) := by rw [et_holds_13]; exact hD
            refine lv_aload_n hx hb dX11_again_53 rfl (lv_at hl 0 rfl) ?_
            refine va_get (D := D) (ci := 10) (v := .ref q_t_had) (C := RX11) (T := TX11) (N := 32) hx hb hts nhu_X11 hown hK hP 0 rfl rfl 6 (by decide) (hts _ nhw_234) (fun _ h9 => h9) rfl dX11_again_54 ?_
            refine lv_iload_n hx hb dX11_again_57 rfl (lv_at hl 2 rfl) ?_
            refine lv_aload_n hx hb dX11_again_58 rfl (lv_at hl 0 rfl) ?_
            refine va_get (D := D) (ci := 10) (v := .ref q_t_kept) (C := RX11) (T := TX11) (N := 32) hx hb hts nhu_X11 hown hK hP 0 rfl rfl 15 (by decide) (hts _ nhw_246) (fun _ h9 => h9) rfl dX11_again_59 ?_
            refine lv_bipush (v := 8) hx hb dX11_again_62 (by decide) ?_
            refine lv_iload_n hx hb dX11_again_64 rfl (lv_at hl 1 rfl) ?_
            refine lv_imul hx hb dX11_again_65 ?_
            refine lv_iconst (v := 4) hx hb dX11_again_66 (by decide) ?_
            refine lv_iadd hx hb dX11_again_67 ?_
            refine lv_iload_n hx hb dX11_again_68 rfl (lv_at hl 2 rfl) ?_
            refine lv_iadd hx hb dX11_again_69 ?_
            obtain ⟨z14, h⟩ := nh_chk_some h
            refine va_iald hx hb hK hP 4 0 rfl rfl (nh_in_in z14) dX11_again_70 ?_
            obtain ⟨z15, h⟩ := nh_chk_some h
            refine va_iast hx hb hK hP hD hS 1 0 rfl rfl (nh_in_in z15) dX11_again_71 (fun H locs hP hD hS => ?_)
            obtain ⟨t_had_16, et_had_16⟩ : ∃ y : Nat → Int32, y = upd t_had_5 (Int32.toNatClampNeg x2_4) (t_kept (Int32.toNatClampNeg (((8 * i1) + 4) + x2_4))) := ⟨_, rfl⟩
            replace h := nh_to h et_had_16
            have hP : va_P D vwCl (wlX11_again cI cZ cO q_t q_t_text q_t_holds q_t_had q_t_worth q_t_wants q_t_readHolds q_t_readHad q_t_readWorth q_t_rows q_t_kept q_t_isKept q_t_sort q_t_took q_t_tried q_t_planned q_t_from q_t_best q_t_outcome q_t_value q_t_act 0 t_textSize t_place t_people t_readPeople t_acts t_sights t_longest t_shortest t_runs t_came t_bestMore t_had_16 t_holds_13 t_isKept t_kept) H := by rw [et_had_16]; exact hP
            have hD : va_D A (wlX11_again cI cZ cO q_t q_t_text q_t_holds q_t_had q_t_worth q_t_wants q_t_readHolds q_t_readHad q_t_readWorth q_t_rows q_t_kept q_t_isKept q_t_sort q_t_took q_t_tried q_t_planned q_t_from q_t_best q_t_outcome q_t_value q_t_act 0 t_textSize t_place t_people t_readPeople t_acts t_sights t_longest t_shortest t_runs t_came t_bestMore t_had_16 t_holds_13 t_isKept t_kept) := by rw [et_had_16]; exact hD
            obtain ⟨x2_17, ex2_17⟩ : ∃ y : Int32, y = x2_4 + 1 := ⟨_, rfl⟩
            replace h := nh_to h ex2_17
            refine lv_iinc (v := x2_17) (lv' := [(2, .int x2_17), (0, .ref q_t), (1, .int i1)]) hx hb dX11_again_72 hl (k := 2) rfl (by rw [ex2_17]; rfl) (by decide) rfl (fun ls hl => ?_)
            refine lv_goto (tgt := 31) hx hb dX11_again_75 (by decide) ?_
            exact ih31 x2_17 t_had_16 t_holds_13 H locs ls hP hD hS (lv_sub hl [1, 2, 0] rfl) h
      refine L31 _ (fun x2_7 t_had_8 t_holds_9 H locs ls hP hD hS hl h => ?_) _ 0 t_had t_holds H locs ls hP hD hS (lv_sub hl [1, 2, 0] rfl) h
      refine lv_aload_n hx hb dX11_again_78 rfl (lv_at hl 0 rfl) ?_
      refine lv_iconst (v := 0) hx hb dX11_again_79 (by decide) ?_
      refine va_put (D := D) (ci := 10) (v := .int 0) (ty := .int) (C := RX11) (T := TX11) (N := 32) hx hb hts nhu_X11 tyX11 tyX11_ok nmX11 hown hK hP hD hS 0 rfl rfl 14 (by decide) (hts _ nhw_231) (fun _ h9 => h9) rfl (by decide +kernel) rfl rfl (Nat.le_of_ble_eq_true rfl) dX11_again_80 (fun H locs hP hD hS => ?_)
      have hP : va_P D vwCl (wlX11_again cI cZ cO q_t q_t_text q_t_holds q_t_had q_t_worth q_t_wants q_t_readHolds q_t_readHad q_t_readWorth q_t_rows q_t_kept q_t_isKept q_t_sort q_t_took q_t_tried q_t_planned q_t_from q_t_best q_t_outcome q_t_value q_t_act 0 t_textSize t_place t_people t_readPeople 0 t_sights t_longest t_shortest t_runs t_came t_bestMore t_had_8 t_holds_9 t_isKept t_kept) H := hP
      have hD : va_D A (wlX11_again cI cZ cO q_t q_t_text q_t_holds q_t_had q_t_worth q_t_wants q_t_readHolds q_t_readHad q_t_readWorth q_t_rows q_t_kept q_t_isKept q_t_sort q_t_took q_t_tried q_t_planned q_t_from q_t_best q_t_outcome q_t_value q_t_act 0 t_textSize t_place t_people t_readPeople 0 t_sights t_longest t_shortest t_runs t_came t_bestMore t_had_8 t_holds_9 t_isKept t_kept) := hD
      refine lv_aload_n hx hb dX11_again_83 rfl (lv_at hl 0 rfl) ?_
      obtain ⟨r_18, hc19, h⟩ := nh_b1_some h
      refine nh_goi (nh_V (As := []) (rest := []) ⟨hx, hb, hml, hown, hts⟩ (kX11_holding F l D cI cZ cO H.size q_t q_t_text q_t_holds q_t_had q_t_worth q_t_wants q_t_readHolds q_t_readHad q_t_readWorth q_t_rows q_t_kept q_t_isKept q_t_sort q_t_took q_t_tried q_t_planned q_t_from q_t_best q_t_outcome q_t_value q_t_act 0 t_textSize t_place t_people t_readPeople 0 t_sights t_longest t_shortest t_runs t_came t_bestMore t_holds_9 r_18 hc19) (cwV 0 hts (nh_gV nhw_593 nhw_373 nhw_742 nhw_305 nhw_80) rfl rfl rfl (by decide +kernel) ⟨Nat.le_of_ble_eq_true rfl, Nat.le_of_ble_eq_true rfl⟩) hK hN hP hD (isC := [0, 2]) rfl rfl 0 10 rfl rfl rfl rfl hl.1 rfl (Nat.le_of_ble_eq_true rfl) dX11_again_84 ⟨Nat.zero_le _, Nat.zero_le _⟩) hP hD hS hA (isC := [0, 2]) rfl rfl rfl (w' := (wlX11_again cI cZ cO q_t q_t_text q_t_holds q_t_had q_t_worth q_t_wants q_t_readHolds q_t_readHad q_t_readWorth q_t_rows q_t_kept q_t_isKept q_t_sort q_t_took q_t_tried q_t_planned q_t_from q_t_best q_t_outcome q_t_value q_t_act 0 t_textSize t_place t_people t_readPeople 0 t_sights t_longest t_shortest t_runs t_came t_bestMore t_had_8 t_holds_9 t_isKept t_kept)) rfl (fun H locs hP hD hS => ?_)
      obtain ⟨g0, g1, g2, g3, g4⟩ := nh_i5 h
      exact nh_ri hx hb hr hlocks g0 (by rw [← g1, ← g2, ← g3, ← g4]; exact hP) hS dX11_again_87
    · replace h := nh_t h c3
      refine lv_bipush (v := (-3)) hx hb dX11_again_26 (by decide) ?_
      obtain ⟨g0, g1, g2, g3, g4⟩ := nh_i5 h
      exact nh_ri hx hb hr hlocks g0 (by rw [← g1, ← g2, ← g3, ← g4]; exact hP) hS dX11_again_28
  · replace h := nh_t h c1
    refine lv_iconst (v := (-1)) hx hb dX11_again_15 (by decide) ?_
    obtain ⟨g0, g1, g2, g3, g4⟩ := nh_i5 h
    exact nh_ri hx hb hr hlocks g0 (by rw [← g1, ← g2, ← g3, ← g4]; exact hP) hS dX11_again_16
