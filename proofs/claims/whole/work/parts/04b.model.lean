abbrev wlX11_holding (cI cZ cO : ClassId) (q_t q_t_text q_t_holds q_t_had q_t_worth q_t_wants q_t_readHolds q_t_readHad q_t_readWorth q_t_rows q_t_kept q_t_isKept q_t_sort q_t_took q_t_tried q_t_planned q_t_from q_t_best q_t_outcome q_t_value q_t_act : Nat) (t_thrown : Int32) (t_textSize : Int32) (t_place : Int32) (t_people : Int32) (t_readPeople : Int32) (t_acts : Int32) (t_sights : Int32) (t_longest : Int32) (t_shortest : Int32) (t_runs : Int32) (t_came : Int32) (t_bestMore : Int32) (t_holds : Nat → Int32) : va_W := [(q_t, .inr (10, [.int t_thrown, .ref q_t_text, .int t_textSize, .int t_place, .int t_people, .ref q_t_holds, .ref q_t_had, .ref q_t_worth, .ref q_t_wants, .int t_readPeople, .ref q_t_readHolds, .ref q_t_readHad, .ref q_t_readWorth, .ref q_t_rows, .int t_acts, .ref q_t_kept, .ref q_t_isKept, .int t_sights, .ref q_t_sort, .ref q_t_took, .ref q_t_tried, .int t_longest, .int t_shortest, .int t_runs, .int t_came, .ref q_t_planned, .ref q_t_from, .ref q_t_best, .int t_bestMore, .ref q_t_outcome, .ref q_t_value, .ref q_t_act])), (q_t_holds, .inl (cI, 56, .inl t_holds))]
def fX11_holding_B4 (t_people : Int32) (t_holds : Nat → Int32) (k4 : Int32 → Int32 → Option (Int32)) (r4 : Int32 → Int32 → Option (Int32)) (x1_1 : Int32) (x2_2 : Int32) : Option (Int32) :=
  (if t_people ≤ x2_2 then k4 x1_1 x2_2
 else nh_chk (nh_in x2_2 56) ((if (t_holds (Int32.toNatClampNeg x2_2)) = 6 then nh_let (α := Int32) ((x1_1 + 0)) (fun y_10 => nh_let (α := Int32) (x2_2 + 1) (fun x2_11 => r4 y_10 x2_11))
 else nh_let (α := Int32) ((x1_1 + 1)) (fun y_8 => nh_let (α := Int32) (x2_2 + 1) (fun x2_9 => r4 y_8 x2_9)))))
def fX11_holding_L4 (t_people : Int32) (t_holds : Nat → Int32) (k4 : Int32 → Int32 → Option (Int32)) : Nat → Int32 → Int32 → Option (Int32)
  | 0 => fun _ _ => none
  | n + 1 => fX11_holding_B4 t_people t_holds k4 (fX11_holding_L4 t_people t_holds k4 n)
def fX11_holding (F : Nat) (t_people : Int32) (t_holds : Nat → Int32) : Option (Int32) :=
  fX11_holding_L4 t_people t_holds (fun x1_3 x2_4 => some x1_3) F 0 0
set_option maxHeartbeats 4000000 in
set_option maxRecDepth 100000 in
theorem kX11_holding (F : Nat) (l : Launch) (D : va_G) (cI cZ cO : ClassId) (sz : Nat) (q_t q_t_text q_t_holds q_t_had q_t_worth q_t_wants q_t_readHolds q_t_readHad q_t_readWorth q_t_rows q_t_kept q_t_isKept q_t_sort q_t_took q_t_tried q_t_planned q_t_from q_t_best q_t_outcome q_t_value q_t_act : Nat) (t_thrown : Int32) (t_textSize : Int32) (t_place : Int32) (t_people : Int32) (t_readPeople : Int32) (t_acts : Int32) (t_sights : Int32) (t_longest : Int32) (t_shortest : Int32) (t_runs : Int32) (t_came : Int32) (t_bestMore : Int32) (t_holds : Nat → Int32)  (o_r : Int32) (h : fX11_holding F t_people t_holds = some o_r) : Met l yX11_holding (nh_w (.code yX11_holding cX11_holding 3 (some .int))) (nh_rm 0) (nh_Pc D cI cZ cO (wlX11_holding cI cZ cO q_t q_t_text q_t_holds q_t_had q_t_worth q_t_wants q_t_readHolds q_t_readHad q_t_readWorth q_t_rows q_t_kept q_t_isKept q_t_sort q_t_took q_t_tried q_t_planned q_t_from q_t_best q_t_outcome q_t_value q_t_act t_thrown t_textSize t_place t_people t_readPeople t_acts t_sights t_longest t_shortest t_runs t_came t_bestMore t_holds) [.ref q_t] sz) ((nh_Qi D (wlX11_holding cI cZ cO q_t q_t_text q_t_holds q_t_had q_t_worth q_t_wants q_t_readHolds q_t_readHad q_t_readWorth q_t_rows q_t_kept q_t_isKept q_t_sort q_t_took q_t_tried q_t_planned q_t_from q_t_best q_t_outcome q_t_value q_t_act t_thrown t_textSize t_place t_people t_readPeople t_acts t_sights t_longest t_shortest t_runs t_came t_bestMore t_holds) o_r) (va_A (wlX11_holding cI cZ cO q_t q_t_text q_t_holds q_t_had q_t_worth q_t_wants q_t_readHolds q_t_readHad q_t_readWorth q_t_rows q_t_kept q_t_isKept q_t_sort q_t_took q_t_tried q_t_planned q_t_from q_t_best q_t_outcome q_t_value q_t_act t_thrown t_textSize t_place t_people t_readPeople t_acts t_sights t_longest t_shortest t_runs t_came t_bestMore t_holds) sz)) 0 0 (va_A (wlX11_holding cI cZ cO q_t q_t_text q_t_holds q_t_had q_t_worth q_t_wants q_t_readHolds q_t_readHad q_t_readWorth q_t_rows q_t_kept q_t_isKept q_t_sort q_t_took q_t_tried q_t_planned q_t_from q_t_best q_t_outcome q_t_value q_t_act t_thrown t_textSize t_place t_people t_readPeople t_acts t_sights t_longest t_shortest t_runs t_came t_bestMore t_holds) sz) := by
  unfold fX11_holding at h
  refine nh_met (cc := cX11_holding) (maxL := 3) (ret := (some .int)) (nh_Qi D (wlX11_holding cI cZ cO q_t q_t_text q_t_holds q_t_had q_t_worth q_t_wants q_t_readHolds q_t_readHad q_t_readWorth q_t_rows q_t_kept q_t_isKept q_t_sort q_t_took q_t_tried q_t_planned q_t_from q_t_best q_t_outcome q_t_value q_t_act t_thrown t_textSize t_place t_people t_readPeople t_acts t_sights t_longest t_shortest t_runs t_came t_bestMore t_holds) o_r) (by decide) rfl (Nat.le_of_ble_eq_true rfl) ?_
  intro p e s m args below meth c A H locs ls hx hb hml hr hown hts hlocks hinit hP hK hN hD hA hS hl
  have hl : lv_has ls 3 [(0, .ref q_t)] := hl
  have hts : ∀ w ∈ nh_words, w.before args s = true := fun w h => hts w (List.mem_cons_of_mem _ h)
  refine lv_iconst (v := 0) hx hb dX11_holding_0 (by decide) ?_
  refine lv_istore_n (lv' := [(1, .int 0), (0, .ref q_t)]) hx hb dX11_holding_1 rfl hl (by decide) rfl (fun ls hl => ?_)
  refine lv_iconst (v := 0) hx hb dX11_holding_2 (by decide) ?_
  refine lv_istore_n (lv' := [(2, .int 0), (1, .int 0), (0, .ref q_t)]) hx hb dX11_holding_3 rfl hl (by decide) rfl (fun ls hl => ?_)
  have L4 : ∀ (k4 : Int32 → Int32 → Option (Int32)), (∀ (x1_3 : Int32) (x2_4 : Int32) (H : Heap) (locs : List Loc) (ls : Array Slot), va_P D vwCl (wlX11_holding cI cZ cO q_t q_t_text q_t_holds q_t_had q_t_worth q_t_wants q_t_readHolds q_t_readHad q_t_readWorth q_t_rows q_t_kept q_t_isKept q_t_sort q_t_took q_t_tried q_t_planned q_t_from q_t_best q_t_outcome q_t_value q_t_act t_thrown t_textSize t_place t_people t_readPeople t_acts t_sights t_longest t_shortest t_runs t_came t_bestMore t_holds) H → va_D A (wlX11_holding cI cZ cO q_t q_t_text q_t_holds q_t_had q_t_worth q_t_wants q_t_readHolds q_t_readHad q_t_readWorth q_t_rows q_t_kept q_t_isKept q_t_sort q_t_took q_t_tried q_t_planned q_t_from q_t_best q_t_outcome q_t_value q_t_act t_thrown t_textSize t_place t_people t_readPeople t_acts t_sights t_longest t_shortest t_runs t_came t_bestMore t_holds) → va_S A s.heap H locs → lv_has ls 3 [(0, .ref q_t), (1, .int x1_3), (2, .int x2_4)] → k4 x1_3 x2_4 = some o_r → W p l e (nh_rm 0) s m args below meth c H locs 0 0 (MQ below ((nh_Qi D (wlX11_holding cI cZ cO q_t q_t_text q_t_holds q_t_had q_t_worth q_t_wants q_t_readHolds q_t_readHad q_t_readWorth q_t_rows q_t_kept q_t_isKept q_t_sort q_t_took q_t_tried q_t_planned q_t_from q_t_best q_t_outcome q_t_value q_t_act t_thrown t_textSize t_place t_people t_readPeople t_acts t_sights t_longest t_shortest t_runs t_came t_bestMore t_holds) o_r) A) args s 0 0 A) (F0 m 37 ls [])) → ∀ (n : Nat) (x1_1 : Int32) (x2_2 : Int32) (H : Heap) (locs : List Loc) (ls : Array Slot), va_P D vwCl (wlX11_holding cI cZ cO q_t q_t_text q_t_holds q_t_had q_t_worth q_t_wants q_t_readHolds q_t_readHad q_t_readWorth q_t_rows q_t_kept q_t_isKept q_t_sort q_t_took q_t_tried q_t_planned q_t_from q_t_best q_t_outcome q_t_value q_t_act t_thrown t_textSize t_place t_people t_readPeople t_acts t_sights t_longest t_shortest t_runs t_came t_bestMore t_holds) H → va_D A (wlX11_holding cI cZ cO q_t q_t_text q_t_holds q_t_had q_t_worth q_t_wants q_t_readHolds q_t_readHad q_t_readWorth q_t_rows q_t_kept q_t_isKept q_t_sort q_t_took q_t_tried q_t_planned q_t_from q_t_best q_t_outcome q_t_value q_t_act t_thrown t_textSize t_place t_people t_readPeople t_acts t_sights t_longest t_shortest t_runs t_came t_bestMore t_holds) → va_S A s.heap H locs → lv_has ls 3 [(0, .ref q_t), (1, .int x1_1), (2, .int x2_2)] → fX11_holding_L4 t_people t_holds k4 n x1_1 x2_2 = some o_r → W p l e (nh_rm 0) s m args below meth c H locs 0 0 (MQ below ((nh_Qi D (wlX11_holding cI cZ cO q_t q_t_text q_t_holds q_t_had q_t_worth q_t_wants q_t_readHolds q_t_readHad q_t_readWorth q_t_rows q_t_kept q_t_isKept q_t_sort q_t_took q_t_tried q_t_planned q_t_from q_t_best q_t_outcome q_t_value q_t_act t_thrown t_textSize t_place t_people t_readPeople t_acts t_sights t_longest t_shortest t_runs t_came t_bestMore t_holds) o_r) A) args s 0 0 A) (F0 m 4 ls []) := by
    intro k4 hk4 n
    induction n with
    | zero => intro x1_1 x2_2 H locs ls hP hD hS hl h; exact (nh_none h).elim
    | succ n4 ih4 =>
      intro x1_1 x2_2 H locs ls hP hD hS hl h
      replace h : fX11_holding_B4 t_people t_holds k4 (fX11_holding_L4 t_people t_holds k4 n4) x1_1 x2_2 = some o_r := h
      unfold fX11_holding_B4 at h
      refine lv_iload_n hx hb dX11_holding_4 rfl (lv_at hl 2 rfl) ?_
      refine lv_aload_n hx hb dX11_holding_5 rfl (lv_at hl 0 rfl) ?_
      refine va_get (D := D) (ci := 10) (v := .int t_people) (C := RX11) (T := TX11) (N := 32) hx hb hts nhu_X11 hown hK hP 0 rfl rfl 4 (by decide) (hts _ nhw_259) (fun _ h9 => h9) rfl dX11_holding_6 ?_
      refine lv_icmp_ge (tgt := 37) hx hb dX11_holding_9 (by decide) (fun c5 => ?_) (fun c5 => ?_)
      · replace h := nh_t h c5
        exact hk4 x1_1 x2_2 H locs ls hP hD hS (lv_sub hl [0, 1, 2] rfl) h
      · replace h := nh_f h c5
        refine lv_iload_n hx hb dX11_holding_12 rfl (lv_at hl 1 rfl) ?_
        refine lv_aload_n hx hb dX11_holding_13 rfl (lv_at hl 0 rfl) ?_
        refine va_get (D := D) (ci := 10) (v := .ref q_t_holds) (C := RX11) (T := TX11) (N := 32) hx hb hts nhu_X11 hown hK hP 0 rfl rfl 5 (by decide) (hts _ nhw_232) (fun _ h9 => h9) rfl dX11_holding_14 ?_
        refine lv_iload_n hx hb dX11_holding_17 rfl (lv_at hl 2 rfl) ?_
        obtain ⟨z6, h⟩ := nh_chk_some h
        refine va_iald hx hb hK hP 1 0 rfl rfl (nh_in_in z6) dX11_holding_18 ?_
        refine lv_bipush (v := 6) hx hb dX11_holding_19 (by decide) ?_
        refine lv_icmp_ne (tgt := 28) hx hb dX11_holding_21 (by decide) (fun c7 => ?_) (fun c7 => ?_)
        · replace h := nh_f h c7
          refine lv_iconst (v := 1) hx hb dX11_holding_28 (by decide) ?_
          refine lv_iadd hx hb dX11_holding_29 ?_
          refine lv_topi (fun y_8 ey_8 => ?_)
          replace h := nh_to h ey_8
          refine lv_istore_n (lv' := [(1, .int y_8), (0, .ref q_t), (2, .int x2_2)]) hx hb dX11_holding_30 rfl hl (by decide) rfl (fun ls hl => ?_)
          obtain ⟨x2_9, ex2_9⟩ : ∃ y : Int32, y = x2_2 + 1 := ⟨_, rfl⟩
          replace h := nh_to h ex2_9
          refine lv_iinc (v := x2_9) (lv' := [(2, .int x2_9), (1, .int y_8), (0, .ref q_t)]) hx hb dX11_holding_31 hl (k := 2) rfl (by rw [ex2_9]; rfl) (by decide) rfl (fun ls hl => ?_)
          refine lv_goto (tgt := 4) hx hb dX11_holding_34 (by decide) ?_
          exact ih4 y_8 x2_9 H locs ls hP hD hS (lv_sub hl [2, 1, 0] rfl) h
        · replace h := nh_t h c7
          refine lv_iconst (v := 0) hx hb dX11_holding_24 (by decide) ?_
          refine lv_goto (tgt := 29) hx hb dX11_holding_25 (by decide) ?_
          refine lv_iadd hx hb dX11_holding_29 ?_
          refine lv_topi (fun y_10 ey_10 => ?_)
          replace h := nh_to h ey_10
          refine lv_istore_n (lv' := [(1, .int y_10), (0, .ref q_t), (2, .int x2_2)]) hx hb dX11_holding_30 rfl hl (by decide) rfl (fun ls hl => ?_)
          obtain ⟨x2_11, ex2_11⟩ : ∃ y : Int32, y = x2_2 + 1 := ⟨_, rfl⟩
          replace h := nh_to h ex2_11
          refine lv_iinc (v := x2_11) (lv' := [(2, .int x2_11), (1, .int y_10), (0, .ref q_t)]) hx hb dX11_holding_31 hl (k := 2) rfl (by rw [ex2_11]; rfl) (by decide) rfl (fun ls hl => ?_)
          refine lv_goto (tgt := 4) hx hb dX11_holding_34 (by decide) ?_
          exact ih4 y_10 x2_11 H locs ls hP hD hS (lv_sub hl [2, 1, 0] rfl) h
  refine L4 _ (fun x1_3 x2_4 H locs ls hP hD hS hl h => ?_) _ 0 0 H locs ls hP hD hS (lv_sub hl [2, 1, 0] rfl) h
  refine lv_iload_n hx hb dX11_holding_37 rfl (lv_at hl 1 rfl) ?_
  replace h := nh_i1 h
  exact nh_ri hx hb hr hlocks h hP hS dX11_holding_38
abbrev wlX11_isDead (cI cZ cO : ClassId) (q_t q_t_text q_t_holds q_t_had q_t_worth q_t_wants q_t_readHolds q_t_readHad q_t_readWorth q_t_rows q_t_kept q_t_isKept q_t_sort q_t_took q_t_tried q_t_planned q_t_from q_t_best q_t_outcome q_t_value q_t_act : Nat) (t_thrown : Int32) (t_textSize : Int32) (t_place : Int32) (t_people : Int32) (t_readPeople : Int32) (t_acts : Int32) (t_sights : Int32) (t_longest : Int32) (t_shortest : Int32) (t_runs : Int32) (t_came : Int32) (t_bestMore : Int32) (t_had : Nat → Int32) (t_holds : Nat → Int32) : va_W := [(q_t, .inr (10, [.int t_thrown, .ref q_t_text, .int t_textSize, .int t_place, .int t_people, .ref q_t_holds, .ref q_t_had, .ref q_t_worth, .ref q_t_wants, .int t_readPeople, .ref q_t_readHolds, .ref q_t_readHad, .ref q_t_readWorth, .ref q_t_rows, .int t_acts, .ref q_t_kept, .ref q_t_isKept, .int t_sights, .ref q_t_sort, .ref q_t_took, .ref q_t_tried, .int t_longest, .int t_shortest, .int t_runs, .int t_came, .ref q_t_planned, .ref q_t_from, .ref q_t_best, .int t_bestMore, .ref q_t_outcome, .ref q_t_value, .ref q_t_act])), (q_t_had, .inl (cI, 56, .inl t_had)), (q_t_holds, .inl (cI, 56, .inl t_holds))]
def fX11_isDead_B19 (t_people : Int32) (t_had : Nat → Int32) (t_holds : Nat → Int32) (i1 : Int32) (k19 : Int32 → Int32 → Option (Int32)) (r19 : Int32 → Int32 → Option (Int32)) (x2_2 : Int32) (x3_3 : Int32) : Option (Int32) :=
  (if t_people ≤ x3_3 then k19 x2_2 x3_3
 else (if x2_2 = 0 then nh_let (α := Int32) (x3_3 + 1) (fun x3_8 => r19 0 x3_8)
 else (if x3_3 = i1 then nh_let (α := Int32) (x3_3 + 1) (fun x3_10 => r19 1 x3_10)
 else nh_chk (nh_in x3_3 56) (nh_chk (nh_in i1 56) ((if (fX11_has (t_had (Int32.toNatClampNeg x3_3)) (t_holds (Int32.toNatClampNeg i1))) = 0 then nh_let (α := Int32) (x3_3 + 1) (fun x3_14 => r19 0 x3_14)
 else nh_let (α := Int32) (x3_3 + 1) (fun x3_15 => r19 1 x3_15)))))))
def fX11_isDead_L19 (t_people : Int32) (t_had : Nat → Int32) (t_holds : Nat → Int32) (i1 : Int32) (k19 : Int32 → Int32 → Option (Int32)) : Nat → Int32 → Int32 → Option (Int32)
  | 0 => fun _ _ => none
  | n + 1 => fX11_isDead_B19 t_people t_had t_holds i1 k19 (fX11_isDead_L19 t_people t_had t_holds i1 k19 n)
def fX11_isDead_J16 (t_people : Int32) (t_had : Nat → Int32) (t_holds : Nat → Int32) (i1 : Int32) (F : Nat) (t0_1 : Int32) : Option (Int32) :=
  fX11_isDead_L19 t_people t_had t_holds i1 (fun x2_4 x3_5 => nh_chk (nh_isB x2_4) (some x2_4)) F t0_1 0
def fX11_isDead (F : Nat) (t_people : Int32) (t_had : Nat → Int32) (t_holds : Nat → Int32) (i1 : Int32) : Option (Int32) :=
  nh_chk (nh_in i1 56) ((if (t_holds (Int32.toNatClampNeg i1)) = 6 then fX11_isDead_J16 t_people t_had t_holds i1 F 0
 else fX11_isDead_J16 t_people t_had t_holds i1 F 1))
set_option maxHeartbeats 4000000 in
set_option maxRecDepth 100000 in
theorem kX11_isDead (F : Nat) (l : Launch) (D : va_G) (cI cZ cO : ClassId) (sz : Nat) (q_t q_t_text q_t_holds q_t_had q_t_worth q_t_wants q_t_readHolds q_t_readHad q_t_readWorth q_t_rows q_t_kept q_t_isKept q_t_sort q_t_took q_t_tried q_t_planned q_t_from q_t_best q_t_outcome q_t_value q_t_act : Nat) (t_thrown : Int32) (t_textSize : Int32) (t_place : Int32) (t_people : Int32) (t_readPeople : Int32) (t_acts : Int32) (t_sights : Int32) (t_longest : Int32) (t_shortest : Int32) (t_runs : Int32) (t_came : Int32) (t_bestMore : Int32) (t_had : Nat → Int32) (t_holds : Nat → Int32) (i1 : Int32) (o_r : Int32) (h : fX11_isDead F t_people t_had t_holds i1 = some o_r) : Met l yX11_isDead (nh_w (.code yX11_isDead cX11_isDead 4 (some .boolean))) (nh_rm 1) (nh_Pc D cI cZ cO (wlX11_isDead cI cZ cO q_t q_t_text q_t_holds q_t_had q_t_worth q_t_wants q_t_readHolds q_t_readHad q_t_readWorth q_t_rows q_t_kept q_t_isKept q_t_sort q_t_took q_t_tried q_t_planned q_t_from q_t_best q_t_outcome q_t_value q_t_act t_thrown t_textSize t_place t_people t_readPeople t_acts t_sights t_longest t_shortest t_runs t_came t_bestMore t_had t_holds) [.ref q_t, .int i1] sz) ((nh_Qi D (wlX11_isDead cI cZ cO q_t q_t_text q_t_holds q_t_had q_t_worth q_t_wants q_t_readHolds q_t_readHad q_t_readWorth q_t_rows q_t_kept q_t_isKept q_t_sort q_t_took q_t_tried q_t_planned q_t_from q_t_best q_t_outcome q_t_value q_t_act t_thrown t_textSize t_place t_people t_readPeople t_acts t_sights t_longest t_shortest t_runs t_came t_bestMore t_had t_holds) o_r) (va_A (wlX11_isDead cI cZ cO q_t q_t_text q_t_holds q_t_had q_t_worth q_t_wants q_t_readHolds q_t_readHad q_t_readWorth q_t_rows q_t_kept q_t_isKept q_t_sort q_t_took q_t_tried q_t_planned q_t_from q_t_best q_t_outcome q_t_value q_t_act t_thrown t_textSize t_place t_people t_readPeople t_acts t_sights t_longest t_shortest t_runs t_came t_bestMore t_had t_holds) sz)) 0 0 (va_A (wlX11_isDead cI cZ cO q_t q_t_text q_t_holds q_t_had q_t_worth q_t_wants q_t_readHolds q_t_readHad q_t_readWorth q_t_rows q_t_kept q_t_isKept q_t_sort q_t_took q_t_tried q_t_planned q_t_from q_t_best q_t_outcome q_t_value q_t_act t_thrown t_textSize t_place t_people t_readPeople t_acts t_sights t_longest t_shortest t_runs t_came t_bestMore t_had t_holds) sz) := by
  unfold fX11_isDead at h
  refine nh_met (cc := cX11_isDead) (maxL := 4) (ret := (some .boolean)) (nh_Qi D (wlX11_isDead cI cZ cO q_t q_t_text q_t_holds q_t_had q_t_worth q_t_wants q_t_readHolds q_t_readHad q_t_readWorth q_t_rows q_t_kept q_t_isKept q_t_sort q_t_took q_t_tried q_t_planned q_t_from q_t_best q_t_outcome q_t_value q_t_act t_thrown t_textSize t_place t_people t_readPeople t_acts t_sights t_longest t_shortest t_runs t_came t_bestMore t_had t_holds) o_r) (by decide) rfl (Nat.le_of_ble_eq_true rfl) ?_
  intro p e s m args below meth c A H locs ls hx hb hml hr hown hts hlocks hinit hP hK hN hD hA hS hl
  have hl : lv_has ls 4 [(0, .ref q_t), (1, .int i1)] := hl
  have hts : ∀ w ∈ nh_words, w.before args s = true := fun w h => hts w (List.mem_cons_of_mem _ h)
  have J16 : ∀ (t0_1 : Int32) (H : Heap) (locs : List Loc) (ls : Array Slot), va_P D vwCl (wlX11_isDead cI cZ cO q_t q_t_text q_t_holds q_t_had q_t_worth q_t_wants q_t_readHolds q_t_readHad q_t_readWorth q_t_rows q_t_kept q_t_isKept q_t_sort q_t_took q_t_tried q_t_planned q_t_from q_t_best q_t_outcome q_t_value q_t_act t_thrown t_textSize t_place t_people t_readPeople t_acts t_sights t_longest t_shortest t_runs t_came t_bestMore t_had t_holds) H → va_D A (wlX11_isDead cI cZ cO q_t q_t_text q_t_holds q_t_had q_t_worth q_t_wants q_t_readHolds q_t_readHad q_t_readWorth q_t_rows q_t_kept q_t_isKept q_t_sort q_t_took q_t_tried q_t_planned q_t_from q_t_best q_t_outcome q_t_value q_t_act t_thrown t_textSize t_place t_people t_readPeople t_acts t_sights t_longest t_shortest t_runs t_came t_bestMore t_had t_holds) → va_S A s.heap H locs → lv_has ls 4 [(0, .ref q_t), (1, .int i1)] → fX11_isDead_J16 t_people t_had t_holds i1 F t0_1 = some o_r → W p l e (nh_rm 1) s m args below meth c H locs 0 0 (MQ below ((nh_Qi D (wlX11_isDead cI cZ cO q_t q_t_text q_t_holds q_t_had q_t_worth q_t_wants q_t_readHolds q_t_readHad q_t_readWorth q_t_rows q_t_kept q_t_isKept q_t_sort q_t_took q_t_tried q_t_planned q_t_from q_t_best q_t_outcome q_t_value q_t_act t_thrown t_textSize t_place t_people t_readPeople t_acts t_sights t_longest t_shortest t_runs t_came t_bestMore t_had t_holds) o_r) A) args s 0 0 A) (F0 m 16 ls [.int t0_1]) := by
    intro t0_1 H locs ls hP hD hS hl h
    unfold fX11_isDead_J16 at h
    refine lv_istore_n (lv' := [(2, .int t0_1), (0, .ref q_t), (1, .int i1)]) hx hb dX11_isDead_16 rfl hl (by decide) rfl (fun ls hl => ?_)
    refine lv_iconst (v := 0) hx hb dX11_isDead_17 (by decide) ?_
    refine lv_istore_n (lv' := [(3, .int 0), (2, .int t0_1), (0, .ref q_t), (1, .int i1)]) hx hb dX11_isDead_18 rfl hl (by decide) rfl (fun ls hl => ?_)
    have L19 : ∀ (k19 : Int32 → Int32 → Option (Int32)), (∀ (x2_4 : Int32) (x3_5 : Int32) (H : Heap) (locs : List Loc) (ls : Array Slot), va_P D vwCl (wlX11_isDead cI cZ cO q_t q_t_text q_t_holds q_t_had q_t_worth q_t_wants q_t_readHolds q_t_readHad q_t_readWorth q_t_rows q_t_kept q_t_isKept q_t_sort q_t_took q_t_tried q_t_planned q_t_from q_t_best q_t_outcome q_t_value q_t_act t_thrown t_textSize t_place t_people t_readPeople t_acts t_sights t_longest t_shortest t_runs t_came t_bestMore t_had t_holds) H → va_D A (wlX11_isDead cI cZ cO q_t q_t_text q_t_holds q_t_had q_t_worth q_t_wants q_t_readHolds q_t_readHad q_t_readWorth q_t_rows q_t_kept q_t_isKept q_t_sort q_t_took q_t_tried q_t_planned q_t_from q_t_best q_t_outcome q_t_value q_t_act t_thrown t_textSize t_place t_people t_readPeople t_acts t_sights t_longest t_shortest t_runs t_came t_bestMore t_had t_holds) → va_S A s.heap H locs → lv_has ls 4 [(0, .ref q_t), (1, .int i1), (2, .int x2_4), (3, .int x3_5)] → k19 x2_4 x3_5 = some o_r → W p l e (nh_rm 1) s m args below meth c H locs 0 0 (MQ below ((nh_Qi D (wlX11_isDead cI cZ cO q_t q_t_text q_t_holds q_t_had q_t_worth q_t_wants q_t_readHolds q_t_readHad q_t_readWorth q_t_rows q_t_kept q_t_isKept q_t_sort q_t_took q_t_tried q_t_planned q_t_from q_t_best q_t_outcome q_t_value q_t_act t_thrown t_textSize t_place t_people t_readPeople t_acts t_sights t_longest t_shortest t_runs t_came t_bestMore t_had t_holds) o_r) A) args s 0 0 A) (F0 m 66 ls [])) → ∀ (n : Nat) (x2_2 : Int32) (x3_3 : Int32) (H : Heap) (locs : List Loc) (ls : Array Slot), va_P D vwCl (wlX11_isDead cI cZ cO q_t q_t_text q_t_holds q_t_had q_t_worth q_t_wants q_t_readHolds q_t_readHad q_t_readWorth q_t_rows q_t_kept q_t_isKept q_t_sort q_t_took q_t_tried q_t_planned q_t_from q_t_best q_t_outcome q_t_value q_t_act t_thrown t_textSize t_place t_people t_readPeople t_acts t_sights t_longest t_shortest t_runs t_came t_bestMore t_had t_holds) H → va_D A (wlX11_isDead cI cZ cO q_t q_t_text q_t_holds q_t_had q_t_worth q_t_wants q_t_readHolds q_t_readHad q_t_readWorth q_t_rows q_t_kept q_t_isKept q_t_sort q_t_took q_t_tried q_t_planned q_t_from q_t_best q_t_outcome q_t_value q_t_act t_thrown t_textSize t_place t_people t_readPeople t_acts t_sights t_longest t_shortest t_runs t_came t_bestMore t_had t_holds) → va_S A s.heap H locs → lv_has ls 4 [(0, .ref q_t), (1, .int i1), (2, .int x2_2), (3, .int x3_3)] → fX11_isDead_L19 t_people t_had t_holds i1 k19 n x2_2 x3_3 = some o_r → W p l e (nh_rm 1) s m args below meth c H locs 0 0 (MQ below ((nh_Qi D (wlX11_isDead cI cZ cO q_t q_t_text q_t_holds q_t_had q_t_worth q_t_wants q_t_readHolds q_t_readHad q_t_readWorth q_t_rows q_t_kept q_t_isKept q_t_sort q_t_took q_t_tried q_t_planned q_t_from q_t_best q_t_outcome q_t_value q_t_act t_thrown t_textSize t_place t_people t_readPeople t_acts t_sights t_longest t_shortest t_runs t_came t_bestMore t_had t_holds) o_r) A) args s 0 0 A) (F0 m 19 ls []) := by
      intro k19 hk19 n
      induction n with
      | zero => intro x2_2 x3_3 H locs ls hP hD hS hl h; exact (nh_none h).elim
      | succ n19 ih19 =>
        intro x2_2 x3_3 H locs ls hP hD hS hl h
        replace h : fX11_isDead_B19 t_people t_had t_holds i1 k19 (fX11_isDead_L19 t_people t_had t_holds i1 k19 n19) x2_2 x3_3 = some o_r := h
        unfold fX11_isDead_B19 at h
        refine lv_iload_n hx hb dX11_isDead_19 rfl (lv_at hl 3 rfl) ?_
        refine lv_aload_n hx hb dX11_isDead_20 rfl (lv_at hl 0 rfl) ?_
        refine va_get (D := D) (ci := 10) (v := .int t_people) (C := RX11) (T := TX11) (N := 32) hx hb hts nhu_X11 hown hK hP 0 rfl rfl 4 (by decide) (hts _ nhw_259) (fun _ h9 => h9) rfl dX11_isDead_21 ?_
        refine lv_icmp_ge (tgt := 66) hx hb dX11_isDead_24 (by decide) (fun c6 => ?_) (fun c6 => ?_)
        · replace h := nh_t h c6
          exact hk19 x2_2 x3_3 H locs ls hP hD hS (lv_sub hl [0, 1, 2, 3] rfl) h
        · replace h := nh_f h c6
          refine lv_iload_n hx hb dX11_isDead_27 rfl (lv_at hl 2 rfl) ?_
          refine lv_if_eq (tgt := 58) hx hb dX11_isDead_28 (by decide) (fun c7 => ?_) (fun c7 => ?_)
          · replace h := nh_t h c7
            refine lv_iconst (v := 0) hx hb dX11_isDead_58 (by decide) ?_
            refine lv_istore_n (lv' := [(2, .int 0), (0, .ref q_t), (1, .int i1), (3, .int x3_3)]) hx hb dX11_isDead_59 rfl hl (by decide) rfl (fun ls hl => ?_)
            obtain ⟨x3_8, ex3_8⟩ : ∃ y : Int32, y = x3_3 + 1 := ⟨_, rfl⟩
            replace h := nh_to h ex3_8
            refine lv_iinc (v := x3_8) (lv' := [(3, .int x3_8), (2, .int 0), (0, .ref q_t), (1, .int i1)]) hx hb dX11_isDead_60 hl (k := 3) rfl (by rw [ex3_8]; rfl) (by decide) rfl (fun ls hl => ?_)
            refine lv_goto (tgt := 19) hx hb dX11_isDead_63 (by decide) ?_
            exact ih19 0 x3_8 H locs ls hP hD hS (lv_sub hl [2, 3, 1, 0] rfl) h
          · replace h := nh_f h c7
            refine lv_iload_n hx hb dX11_isDead_31 rfl (lv_at hl 3 rfl) ?_
            refine lv_iload_n hx hb dX11_isDead_32 rfl (lv_at hl 1 rfl) ?_
            refine lv_icmp_eq (tgt := 54) hx hb dX11_isDead_33 (by decide) (fun c9 => ?_) (fun c9 => ?_)
            · replace h := nh_t h c9
              refine lv_iconst (v := 1) hx hb dX11_isDead_54 (by decide) ?_
              refine lv_goto (tgt := 59) hx hb dX11_isDead_55 (by decide) ?_
              refine lv_istore_n (lv' := [(2, .int 1), (0, .ref q_t), (1, .int i1), (3, .int x3_3)]) hx hb dX11_isDead_59 rfl hl (by decide) rfl (fun ls hl => ?_)
              obtain ⟨x3_10, ex3_10⟩ : ∃ y : Int32, y = x3_3 + 1 := ⟨_, rfl⟩
              replace h := nh_to h ex3_10
              refine lv_iinc (v := x3_10) (lv' := [(3, .int x3_10), (2, .int 1), (0, .ref q_t), (1, .int i1)]) hx hb dX11_isDead_60 hl (k := 3) rfl (by rw [ex3_10]; rfl) (by decide) rfl (fun ls hl => ?_)
              refine lv_goto (tgt := 19) hx hb dX11_isDead_63 (by decide) ?_
              exact ih19 1 x3_10 H locs ls hP hD hS (lv_sub hl [2, 3, 1, 0] rfl) h
            · replace h := nh_f h c9
              refine lv_aload_n hx hb dX11_isDead_36 rfl (lv_at hl 0 rfl) ?_
              refine va_get (D := D) (ci := 10) (v := .ref q_t_had) (C := RX11) (T := TX11) (N := 32) hx hb hts nhu_X11 hown hK hP 0 rfl rfl 6 (by decide) (hts _ nhw_234) (fun _ h9 => h9) rfl dX11_isDead_37 ?_
              refine lv_iload_n hx hb dX11_isDead_40 rfl (lv_at hl 3 rfl) ?_
              obtain ⟨z11, h⟩ := nh_chk_some h
              refine va_iald hx hb hK hP 1 0 rfl rfl (nh_in_in z11) dX11_isDead_41 ?_
              refine lv_aload_n hx hb dX11_isDead_42 rfl (lv_at hl 0 rfl) ?_
              refine va_get (D := D) (ci := 10) (v := .ref q_t_holds) (C := RX11) (T := TX11) (N := 32) hx hb hts nhu_X11 hown hK hP 0 rfl rfl 5 (by decide) (hts _ nhw_232) (fun _ h9 => h9) rfl dX11_isDead_43 ?_
              refine lv_iload_n hx hb dX11_isDead_46 rfl (lv_at hl 1 rfl) ?_
              obtain ⟨z12, h⟩ := nh_chk_some h
              refine va_iald hx hb hK hP 2 0 rfl rfl (nh_in_in z12) dX11_isDead_47 ?_
              refine nh_goi (nh_S (As := [.int (t_had (Int32.toNatClampNeg x3_3)), .int (t_holds (Int32.toNatClampNeg i1))]) (rest := []) ⟨hx, hb, hml, hown, hts⟩ (kX11_has  l D cI cZ cO H.size (t_had (Int32.toNatClampNeg x3_3)) (t_holds (Int32.toNatClampNeg i1)) (fX11_has (t_had (Int32.toNatClampNeg x3_3)) (t_holds (Int32.toNatClampNeg i1))) rfl) (va_cwS 2 hts (nh_gS nhw_588 nhw_808 nhw_305 nhw_79) rfl rfl rfl (by decide +kernel) ⟨Nat.le_of_ble_eq_true rfl, Nat.le_of_ble_eq_true rfl⟩) hK hN hP hD (isC := []) rfl rfl rfl hl.1 rfl (Nat.le_of_ble_eq_true rfl) dX11_isDead_48 ⟨Nat.zero_le _, Nat.zero_le _⟩) hP hD hS hA (isC := []) rfl rfl rfl (w' := (wlX11_isDead cI cZ cO q_t q_t_text q_t_holds q_t_had q_t_worth q_t_wants q_t_readHolds q_t_readHad q_t_readWorth q_t_rows q_t_kept q_t_isKept q_t_sort q_t_took q_t_tried q_t_planned q_t_from q_t_best q_t_outcome q_t_value q_t_act t_thrown t_textSize t_place t_people t_readPeople t_acts t_sights t_longest t_shortest t_runs t_came t_bestMore t_had t_holds)) rfl (fun H locs hP hD hS => ?_)
              refine lv_if_eq (tgt := 58) hx hb dX11_isDead_51 (by decide) (fun c13 => ?_) (fun c13 => ?_)
              · replace h := nh_t h c13
                refine lv_iconst (v := 0) hx hb dX11_isDead_58 (by decide) ?_
                refine lv_istore_n (lv' := [(2, .int 0), (0, .ref q_t), (1, .int i1), (3, .int x3_3)]) hx hb dX11_isDead_59 rfl hl (by decide) rfl (fun ls hl => ?_)
                obtain ⟨x3_14, ex3_14⟩ : ∃ y : Int32, y = x3_3 + 1 := ⟨_, rfl⟩
                replace h := nh_to h ex3_14
                refine lv_iinc (v := x3_14) (lv' := [(3, .int x3_14), (2, .int 0), (0, .ref q_t), (1, .int i1)]) hx hb dX11_isDead_60 hl (k := 3) rfl (by rw [ex3_14]; rfl) (by decide) rfl (fun ls hl => ?_)
                refine lv_goto (tgt := 19) hx hb dX11_isDead_63 (by decide) ?_
                exact ih19 0 x3_14 H locs ls hP hD hS (lv_sub hl [2, 3, 1, 0] rfl) h
              · replace h := nh_f h c13
                refine lv_iconst (v := 1) hx hb dX11_isDead_54 (by decide) ?_
                refine lv_goto (tgt := 59) hx hb dX11_isDead_55 (by decide) ?_
                refine lv_istore_n (lv' := [(2, .int 1), (0, .ref q_t), (1, .int i1), (3, .int x3_3)]) hx hb dX11_isDead_59 rfl hl (by decide) rfl (fun ls hl => ?_)
                obtain ⟨x3_15, ex3_15⟩ : ∃ y : Int32, y = x3_3 + 1 := ⟨_, rfl⟩
                replace h := nh_to h ex3_15
                refine lv_iinc (v := x3_15) (lv' := [(3, .int x3_15), (2, .int 1), (0, .ref q_t), (1, .int i1)]) hx hb dX11_isDead_60 hl (k := 3) rfl (by rw [ex3_15]; rfl) (by decide) rfl (fun ls hl => ?_)
                refine lv_goto (tgt := 19) hx hb dX11_isDead_63 (by decide) ?_
                exact ih19 1 x3_15 H locs ls hP hD hS (lv_sub hl [2, 3, 1, 0] rfl) h
    refine L19 _ (fun x2_4 x3_5 H locs ls hP hD hS hl h => ?_) _ t0_1 0 H locs ls hP hD hS (lv_sub hl [2, 3, 1, 0] rfl) h
    refine lv_iload_n hx hb dX11_isDead_66 rfl (lv_at hl 2 rfl) ?_
    obtain ⟨z16, h⟩ := nh_chk_some h
    replace h := nh_i1 h
    exact nh_rz hx hb hr hlocks h (nh_isB_nar z16) hP hS dX11_isDead_67
  refine lv_aload_n hx hb dX11_isDead_0 rfl (lv_at hl 0 rfl) ?_
  refine va_get (D := D) (ci := 10) (v := .ref q_t_holds) (C := RX11) (T := TX11) (N := 32) hx hb hts nhu_X11 hown hK hP 0 rfl rfl 5 (by decide) (hts _ nhw_232) (fun _ h9 => h9) rfl dX11_isDead_1 ?_
  refine lv_iload_n hx hb dX11_isDead_4 rfl (lv_at hl 1 rfl) ?_
  obtain ⟨z17, h⟩ := nh_chk_some h
  refine va_iald hx hb hK hP 2 0 rfl rfl (nh_in_in z17) dX11_isDead_5 ?_
  refine lv_bipush (v := 6) hx hb dX11_isDead_6 (by decide) ?_
  refine lv_icmp_eq (tgt := 15) hx hb dX11_isDead_8 (by decide) (fun c18 => ?_) (fun c18 => ?_)
  · replace h := nh_t h c18
    refine lv_iconst (v := 0) hx hb dX11_isDead_15 (by decide) ?_
    exact J16 0 H locs ls hP hD hS (lv_sub hl [0, 1] rfl) h
  · replace h := nh_f h c18
    refine lv_iconst (v := 1) hx hb dX11_isDead_11 (by decide) ?_
    refine lv_goto (tgt := 16) hx hb dX11_isDead_12 (by decide) ?_
    exact J16 1 H locs ls hP hD hS (lv_sub hl [0, 1] rfl) h
abbrev wlX11_worthOf (cI cZ cO : ClassId) (q_t q_t_text q_t_holds q_t_had q_t_worth q_t_wants q_t_readHolds q_t_readHad q_t_readWorth q_t_rows q_t_kept q_t_isKept q_t_sort q_t_took q_t_tried q_t_planned q_t_from q_t_best q_t_outcome q_t_value q_t_act : Nat) (t_thrown : Int32) (t_textSize : Int32) (t_place : Int32) (t_people : Int32) (t_readPeople : Int32) (t_acts : Int32) (t_sights : Int32) (t_longest : Int32) (t_shortest : Int32) (t_runs : Int32) (t_came : Int32) (t_bestMore : Int32) (t_worth : Nat → Int32) : va_W := [(q_t, .inr (10, [.int t_thrown, .ref q_t_text, .int t_textSize, .int t_place, .int t_people, .ref q_t_holds, .ref q_t_had, .ref q_t_worth, .ref q_t_wants, .int t_readPeople, .ref q_t_readHolds, .ref q_t_readHad, .ref q_t_readWorth, .ref q_t_rows, .int t_acts, .ref q_t_kept, .ref q_t_isKept, .int t_sights, .ref q_t_sort, .ref q_t_took, .ref q_t_tried, .int t_longest, .int t_shortest, .int t_runs, .int t_came, .ref q_t_planned, .ref q_t_from, .ref q_t_best, .int t_bestMore, .ref q_t_outcome, .ref q_t_value, .ref q_t_act])), (q_t_worth, .inl (cI, 24, .inl t_worth))]
def fX11_worthOf (t_worth : Nat → Int32) (i1 : Int32) (i2 : Int32) : Option (Int32) :=
  (if i2 = 6 then some 0
 else nh_chk (nh_in ((6 * i1) + i2) 24) (some (t_worth (Int32.toNatClampNeg ((6 * i1) + i2)))))
set_option maxHeartbeats 4000000 in
set_option maxRecDepth 100000 in
theorem kX11_worthOf (l : Launch) (D : va_G) (cI cZ cO : ClassId) (sz : Nat) (q_t q_t_text q_t_holds q_t_had q_t_worth q_t_wants q_t_readHolds q_t_readHad q_t_readWorth q_t_rows q_t_kept q_t_isKept q_t_sort q_t_took q_t_tried q_t_planned q_t_from q_t_best q_t_outcome q_t_value q_t_act : Nat) (t_thrown : Int32) (t_textSize : Int32) (t_place : Int32) (t_people : Int32) (t_readPeople : Int32) (t_acts : Int32) (t_sights : Int32) (t_longest : Int32) (t_shortest : Int32) (t_runs : Int32) (t_came : Int32) (t_bestMore : Int32) (t_worth : Nat → Int32) (i1 : Int32) (i2 : Int32) (o_r : Int32) (h : fX11_worthOf t_worth i1 i2 = some o_r) : Met l yX11_worthOf (nh_w (.code yX11_worthOf cX11_worthOf 3 (some .int))) (nh_rm 0) (nh_Pc D cI cZ cO (wlX11_worthOf cI cZ cO q_t q_t_text q_t_holds q_t_had q_t_worth q_t_wants q_t_readHolds q_t_readHad q_t_readWorth q_t_rows q_t_kept q_t_isKept q_t_sort q_t_took q_t_tried q_t_planned q_t_from q_t_best q_t_outcome q_t_value q_t_act t_thrown t_textSize t_place t_people t_readPeople t_acts t_sights t_longest t_shortest t_runs t_came t_bestMore t_worth) [.ref q_t, .int i1, .int i2] sz) ((nh_Qi D (wlX11_worthOf cI cZ cO q_t q_t_text q_t_holds q_t_had q_t_worth q_t_wants q_t_readHolds q_t_readHad q_t_readWorth q_t_rows q_t_kept q_t_isKept q_t_sort q_t_took q_t_tried q_t_planned q_t_from q_t_best q_t_outcome q_t_value q_t_act t_thrown t_textSize t_place t_people t_readPeople t_acts t_sights t_longest t_shortest t_runs t_came t_bestMore t_worth) o_r) (va_A (wlX11_worthOf cI cZ cO q_t q_t_text q_t_holds q_t_had q_t_worth q_t_wants q_t_readHolds q_t_readHad q_t_readWorth q_t_rows q_t_kept q_t_isKept q_t_sort q_t_took q_t_tried q_t_planned q_t_from q_t_best q_t_outcome q_t_value q_t_act t_thrown t_textSize t_place t_people t_readPeople t_acts t_sights t_longest t_shortest t_runs t_came t_bestMore t_worth) sz)) 0 0 (va_A (wlX11_worthOf cI cZ cO q_t q_t_text q_t_holds q_t_had q_t_worth q_t_wants q_t_readHolds q_t_readHad q_t_readWorth q_t_rows q_t_kept q_t_isKept q_t_sort q_t_took q_t_tried q_t_planned q_t_from q_t_best q_t_outcome q_t_value q_t_act t_thrown t_textSize t_place t_people t_readPeople t_acts t_sights t_longest t_shortest t_runs t_came t_bestMore t_worth) sz) := by
  unfold fX11_worthOf at h
  refine nh_met (cc := cX11_worthOf) (maxL := 3) (ret := (some .int)) (nh_Qi D (wlX11_worthOf cI cZ cO q_t q_t_text q_t_holds q_t_had q_t_worth q_t_wants q_t_readHolds q_t_readHad q_t_readWorth q_t_rows q_t_kept q_t_isKept q_t_sort q_t_took q_t_tried q_t_planned q_t_from q_t_best q_t_outcome q_t_value q_t_act t_thrown t_textSize t_place t_people t_readPeople t_acts t_sights t_longest t_shortest t_runs t_came t_bestMore t_worth) o_r) (by decide) rfl (Nat.le_of_ble_eq_true rfl) ?_
  intro p e s m args below meth c A H locs ls hx hb hml hr hown hts hlocks hinit hP hK hN hD hA hS hl
  have hl : lv_has ls 3 [(0, .ref q_t), (1, .int i1), (2, .int i2)] := hl
  have hts : ∀ w ∈ nh_words, w.before args s = true := fun w h => hts w (List.mem_cons_of_mem _ h)
  refine lv_iload_n hx hb dX11_worthOf_0 rfl (lv_at hl 2 rfl) ?_
  refine lv_bipush (v := 6) hx hb dX11_worthOf_1 (by decide) ?_
  refine lv_icmp_ne (tgt := 10) hx hb dX11_worthOf_3 (by decide) (fun c1 => ?_) (fun c1 => ?_)
  · replace h := nh_f h c1
    refine lv_aload_n hx hb dX11_worthOf_10 rfl (lv_at hl 0 rfl) ?_
    refine va_get (D := D) (ci := 10) (v := .ref q_t_worth) (C := RX11) (T := TX11) (N := 32) hx hb hts nhu_X11 hown hK hP 0 rfl rfl 7 (by decide) (hts _ nhw_240) (fun _ h9 => h9) rfl dX11_worthOf_11 ?_
    refine lv_bipush (v := 6) hx hb dX11_worthOf_14 (by decide) ?_
    refine lv_iload_n hx hb dX11_worthOf_16 rfl (lv_at hl 1 rfl) ?_
    refine lv_imul hx hb dX11_worthOf_17 ?_
    refine lv_iload_n hx hb dX11_worthOf_18 rfl (lv_at hl 2 rfl) ?_
    refine lv_iadd hx hb dX11_worthOf_19 ?_
    obtain ⟨z2, h⟩ := nh_chk_some h
    refine va_iald hx hb hK hP 1 0 rfl rfl (nh_in_in z2) dX11_worthOf_20 ?_
    replace h := nh_i1 h
    exact nh_ri hx hb hr hlocks h hP hS dX11_worthOf_21
  · replace h := nh_t h c1
    refine lv_iconst (v := 0) hx hb dX11_worthOf_6 (by decide) ?_
    refine lv_goto (tgt := 21) hx hb dX11_worthOf_7 (by decide) ?_
    replace h := nh_i1 h
    exact nh_ri hx hb hr hlocks h hP hS dX11_worthOf_21
abbrev wlX11_about (cI cZ cO : ClassId) (q_t q_t_text q_t_holds q_t_had q_t_worth q_t_wants q_t_readHolds q_t_readHad q_t_readWorth q_t_rows q_t_kept q_t_isKept q_t_sort q_t_took q_t_tried q_t_planned q_t_from q_t_best q_t_outcome q_t_value q_t_act : Nat) (t_thrown : Int32) (t_textSize : Int32) (t_place : Int32) (t_people : Int32) (t_readPeople : Int32) (t_acts : Int32) (t_sights : Int32) (t_longest : Int32) (t_shortest : Int32) (t_runs : Int32) (t_came : Int32) (t_bestMore : Int32) (t_had : Nat → Int32) (t_holds : Nat → Int32) (t_wants : Nat → Int32) (t_worth : Nat → Int32) : va_W := [(q_t, .inr (10, [.int t_thrown, .ref q_t_text, .int t_textSize, .int t_place, .int t_people, .ref q_t_holds, .ref q_t_had, .ref q_t_worth, .ref q_t_wants, .int t_readPeople, .ref q_t_readHolds, .ref q_t_readHad, .ref q_t_readWorth, .ref q_t_rows, .int t_acts, .ref q_t_kept, .ref q_t_isKept, .int t_sights, .ref q_t_sort, .ref q_t_took, .ref q_t_tried, .int t_longest, .int t_shortest, .int t_runs, .int t_came, .ref q_t_planned, .ref q_t_from, .ref q_t_best, .int t_bestMore, .ref q_t_outcome, .ref q_t_value, .ref q_t_act])), (q_t_had, .inl (cI, 56, .inl t_had)), (q_t_holds, .inl (cI, 56, .inl t_holds)), (q_t_wants, .inl (cI, 4, .inl t_wants)), (q_t_worth, .inl (cI, 24, .inl t_worth))]
def fX11_about_J39 (t_holds : Nat → Int32) (t_wants : Nat → Int32) (t_worth : Nat → Int32) (r15 : Int32 → Int32 → Int32 → Int32 → Option (Int32 × Int32)) (x2_9 : Int32) (x3_10 : Int32) (x4_11 : Int32) (x5_12 : Int32) (t0_13 : Int32) (t1_14 : Int32) : Option (Int32 × Int32) :=
  nh_let (α := Int32) ((t1_14 + t0_13)) (fun y_15 => nh_chk (nh_in x5_12 4) ((if (t_wants (Int32.toNatClampNeg x5_12)) = (-9) then nh_let (α := Int32) ((x3_10 + 0)) (fun y_24 => nh_chk (nh_in x5_12 56) (nh_b1 (fX11_worthOf t_worth x5_12 (t_holds (Int32.toNatClampNeg x5_12))) (fun r_26 => nh_let (α := Int32) ((x4_11 + r_26)) (fun y_28 => nh_let (α := Int32) (x5_12 + 1) (fun x5_29 => r15 y_15 y_24 y_28 x5_29)))))
 else nh_let (α := Int32) ((x3_10 + 1)) (fun y_18 => nh_chk (nh_in x5_12 56) (nh_b1 (fX11_worthOf t_worth x5_12 (t_holds (Int32.toNatClampNeg x5_12))) (fun r_20 => nh_let (α := Int32) ((x4_11 + r_20)) (fun y_22 => nh_let (α := Int32) (x5_12 + 1) (fun x5_23 => r15 y_15 y_18 y_22 x5_23))))))))
def fX11_about_B15 (t_people : Int32) (t_had : Nat → Int32) (t_holds : Nat → Int32) (t_wants : Nat → Int32) (t_worth : Nat → Int32) (F : Nat) (k15 : Int32 → Int32 → Int32 → Int32 → Option (Int32 × Int32)) (r15 : Int32 → Int32 → Int32 → Int32 → Option (Int32 × Int32)) (x2_1 : Int32) (x3_2 : Int32) (x4_3 : Int32) (x5_4 : Int32) : Option (Int32 × Int32) :=
  (if t_people ≤ x5_4 then k15 x2_1 x3_2 x4_3 x5_4
 else nh_b1 (fX11_isDead F t_people t_had t_holds x5_4) (fun r_31 => (if r_31 = 0 then fX11_about_J39 t_holds t_wants t_worth r15 x2_1 x3_2 x4_3 x5_4 0 x2_1
 else fX11_about_J39 t_holds t_wants t_worth r15 x2_1 x3_2 x4_3 x5_4 1 x2_1)))
def fX11_about_L15 (t_people : Int32) (t_had : Nat → Int32) (t_holds : Nat → Int32) (t_wants : Nat → Int32) (t_worth : Nat → Int32) (F : Nat) (k15 : Int32 → Int32 → Int32 → Int32 → Option (Int32 × Int32)) : Nat → Int32 → Int32 → Int32 → Int32 → Option (Int32 × Int32)
  | 0 => fun _ _ _ _ => none
  | n + 1 => fX11_about_B15 t_people t_had t_holds t_wants t_worth F k15 (fX11_about_L15 t_people t_had t_holds t_wants t_worth F k15 n)
def fX11_about (F : Nat) (t_thrown : Int32) (t_textSize : Int32) (t_people : Int32) (t_acts : Int32) (t_sights : Int32) (t_had : Nat → Int32) (t_holds : Nat → Int32) (t_wants : Nat → Int32) (t_worth : Nat → Int32) (i1 : Int32) : Option (Int32 × Int32) :=
  fX11_about_L15 t_people t_had t_holds t_wants t_worth F (fun x2_5 x3_6 x4_7 x5_8 => (if i1 = 0 then some (t_people, 0)
 else (if i1 = 1 then nh_b1 (fX11_holding F t_people t_holds) (fun r_36 => some (r_36, 0))
 else (if i1 = 2 then some (x2_5, 0)
 else (if i1 = 3 then some (t_acts, 0)
 else (if i1 = 4 then some (x3_6, 0)
 else (if i1 = 5 then some (t_sights, 0)
 else (if i1 = 6 then some (x4_7, 0)
 else (if i1 = 7 then some (t_textSize, 0)
 else some ((-2), 0)))))))))) F 0 0 0 0
set_option maxHeartbeats 4000000 in
set_option maxRecDepth 100000 in
theorem kX11_about (F : Nat) (l : Launch) (D : va_G) (cI cZ cO : ClassId) (sz : Nat) (q_t q_t_text q_t_holds q_t_had q_t_worth q_t_wants q_t_readHolds q_t_readHad q_t_readWorth q_t_rows q_t_kept q_t_isKept q_t_sort q_t_took q_t_tried q_t_planned q_t_from q_t_best q_t_outcome q_t_value q_t_act : Nat) (t_thrown : Int32) (t_textSize : Int32) (t_place : Int32) (t_people : Int32) (t_readPeople : Int32) (t_acts : Int32) (t_sights : Int32) (t_longest : Int32) (t_shortest : Int32) (t_runs : Int32) (t_came : Int32) (t_bestMore : Int32) (t_had : Nat → Int32) (t_holds : Nat → Int32) (t_wants : Nat → Int32) (t_worth : Nat → Int32) (i1 : Int32) (o_r : Int32) (o_t_thrown : Int32) (h : fX11_about F t_thrown t_textSize t_people t_acts t_sights t_had t_holds t_wants t_worth i1 = some (o_r, o_t_thrown)) : Met l yX11_about (nh_w (.code yX11_about cX11_about 6 (some .int))) (nh_rm 2) (nh_Pc D cI cZ cO (wlX11_about cI cZ cO q_t q_t_text q_t_holds q_t_had q_t_worth q_t_wants q_t_readHolds q_t_readHad q_t_readWorth q_t_rows q_t_kept q_t_isKept q_t_sort q_t_took q_t_tried q_t_planned q_t_from q_t_best q_t_outcome q_t_value q_t_act t_thrown t_textSize t_place t_people t_readPeople t_acts t_sights t_longest t_shortest t_runs t_came t_bestMore t_had t_holds t_wants t_worth) [.ref q_t, .int i1] sz) ((nh_Qi D (wlX11_about cI cZ cO q_t q_t_text q_t_holds q_t_had q_t_worth q_t_wants q_t_readHolds q_t_readHad q_t_readWorth q_t_rows q_t_kept q_t_isKept q_t_sort q_t_took q_t_tried q_t_planned q_t_from q_t_best q_t_outcome q_t_value q_t_act o_t_thrown t_textSize t_place t_people t_readPeople t_acts t_sights t_longest t_shortest t_runs t_came t_bestMore t_had t_holds t_wants t_worth) o_r) (va_A (wlX11_about cI cZ cO q_t q_t_text q_t_holds q_t_had q_t_worth q_t_wants q_t_readHolds q_t_readHad q_t_readWorth q_t_rows q_t_kept q_t_isKept q_t_sort q_t_took q_t_tried q_t_planned q_t_from q_t_best q_t_outcome q_t_value q_t_act t_thrown t_textSize t_place t_people t_readPeople t_acts t_sights t_longest t_shortest t_runs t_came t_bestMore t_had t_holds t_wants t_worth) sz)) 0 0 (va_A (wlX11_about cI cZ cO q_t q_t_text q_t_holds q_t_had q_t_worth q_t_wants q_t_readHolds q_t_readHad q_t_readWorth q_t_rows q_t_kept q_t_isKept q_t_sort q_t_took q_t_tried q_t_planned q_t_from q_t_best q_t_outcome q_t_value q_t_act t_thrown t_textSize t_place t_people t_readPeople t_acts t_sights t_longest t_shortest t_runs t_came t_bestMore t_had t_holds t_wants t_worth) sz) := by
  unfold fX11_about at h
  refine nh_met (cc := cX11_about) (maxL := 6) (ret := (some .int)) (nh_Qi D (wlX11_about cI cZ cO q_t q_t_text q_t_holds q_t_had q_t_worth q_t_wants q_t_readHolds q_t_readHad q_t_readWorth q_t_rows q_t_kept q_t_isKept q_t_sort q_t_took q_t_tried q_t_planned q_t_from q_t_best q_t_outcome q_t_value q_t_act o_t_thrown t_textSize t_place t_people t_readPeople t_acts t_sights t_longest t_shortest t_runs t_came t_bestMore t_had t_holds t_wants t_worth) o_r) (by decide) rfl (Nat.le_of_ble_eq_true rfl) ?_
  intro p e s m args below meth c A H locs ls hx hb hml hr hown hts hlocks hinit hP hK hN hD hA hS hl
  have hl : lv_has ls 6 [(0, .ref q_t), (1, .int i1)] := hl
  have hts : ∀ w ∈ nh_words, w.before args s = true := fun w h => hts w (List.mem_cons_of_mem _ h)
  refine lv_aload_n hx hb dX11_about_0 rfl (lv_at hl 0 rfl) ?_
  refine lv_iconst (v := 0) hx hb dX11_about_1 (by decide) ?_
  refine va_put (D := D) (ci := 10) (v := .int 0) (ty := .int) (C := RX11) (T := TX11) (N := 32) hx hb hts nhu_X11 tyX11 tyX11_ok nmX11 hown hK hP hD hS 0 rfl rfl 0 (by decide) (hts _ nhw_258) (fun _ h9 => h9) rfl (by decide +kernel) rfl rfl (Nat.le_of_ble_eq_true rfl) dX11_about_2 (fun H locs hP hD hS => ?_)
  have hP : va_P D vwCl (wlX11_about cI cZ cO q_t q_t_text q_t_holds q_t_had q_t_worth q_t_wants q_t_readHolds q_t_readHad q_t_readWorth q_t_rows q_t_kept q_t_isKept q_t_sort q_t_took q_t_tried q_t_planned q_t_from q_t_best q_t_outcome q_t_value q_t_act 0 t_textSize t_place t_people t_readPeople t_acts t_sights t_longest t_shortest t_runs t_came t_bestMore t_had t_holds t_wants t_worth) H := hP
  have hD : va_D A (wlX11_about cI cZ cO q_t q_t_text q_t_holds q_t_had q_t_worth q_t_wants q_t_readHolds q_t_readHad q_t_readWorth q_t_rows q_t_kept q_t_isKept q_t_sort q_t_took q_t_tried q_t_planned q_t_from q_t_best q_t_outcome q_t_value q_t_act 0 t_textSize t_place t_people t_readPeople t_acts t_sights t_longest t_shortest t_runs t_came t_bestMore t_had t_holds t_wants t_worth) := hD
  refine lv_iconst (v := 0) hx hb dX11_about_5 (by decide) ?_
  refine lv_istore_n (lv' := [(2, .int 0), (0, .ref q_t), (1, .int i1)]) hx hb dX11_about_6 rfl hl (by decide) rfl (fun ls hl => ?_)
  refine lv_iconst (v := 0) hx hb dX11_about_7 (by decide) ?_
  refine lv_istore_n (lv' := [(3, .int 0), (2, .int 0), (0, .ref q_t), (1, .int i1)]) hx hb dX11_about_8 rfl hl (by decide) rfl (fun ls hl => ?_)
  refine lv_iconst (v := 0) hx hb dX11_about_9 (by decide) ?_
  refine lv_istore (lv' := [(4, .int 0), (3, .int 0), (2, .int 0), (0, .ref q_t), (1, .int i1)]) hx hb dX11_about_10 hl (by decide) rfl (fun ls hl => ?_)
  refine lv_iconst (v := 0) hx hb dX11_about_12 (by decide) ?_
  refine lv_istore (lv' := [(5, .int 0), (4, .int 0), (3, .int 0), (2, .int 0), (0, .ref q_t), (1, .int i1)]) hx hb dX11_about_13 hl (by decide) rfl (fun ls hl => ?_)
  have L15 : ∀ (k15 : Int32 → Int32 → Int32 → Int32 → Option (Int32 × Int32)), (∀ (x2_5 : Int32) (x3_6 : Int32) (x4_7 : Int32) (x5_8 : Int32) (H : Heap) (locs : List Loc) (ls : Array Slot), va_P D vwCl (wlX11_about cI cZ cO q_t q_t_text q_t_holds q_t_had q_t_worth q_t_wants q_t_readHolds q_t_readHad q_t_readWorth q_t_rows q_t_kept q_t_isKept q_t_sort q_t_took q_t_tried q_t_planned q_t_from q_t_best q_t_outcome q_t_value q_t_act 0 t_textSize t_place t_people t_readPeople t_acts t_sights t_longest t_shortest t_runs t_came t_bestMore t_had t_holds t_wants t_worth) H → va_D A (wlX11_about cI cZ cO q_t q_t_text q_t_holds q_t_had q_t_worth q_t_wants q_t_readHolds q_t_readHad q_t_readWorth q_t_rows q_t_kept q_t_isKept q_t_sort q_t_took q_t_tried q_t_planned q_t_from q_t_best q_t_outcome q_t_value q_t_act 0 t_textSize t_place t_people t_readPeople t_acts t_sights t_longest t_shortest t_runs t_came t_bestMore t_had t_holds t_wants t_worth) → va_S A s.heap H locs → lv_has ls 6 [(0, .ref q_t), (1, .int i1), (2, .int x2_5), (3, .int x3_6), (4, .int x4_7), (5, .int x5_8)] → k15 x2_5 x3_6 x4_7 x5_8 = some (o_r, o_t_thrown) → W p l e (nh_rm 2) s m args below meth c H locs 0 0 (MQ below ((nh_Qi D (wlX11_about cI cZ cO q_t q_t_text q_t_holds q_t_had q_t_worth q_t_wants q_t_readHolds q_t_readHad q_t_readWorth q_t_rows q_t_kept q_t_isKept q_t_sort q_t_took q_t_tried q_t_planned q_t_from q_t_best q_t_outcome q_t_value q_t_act o_t_thrown t_textSize t_place t_people t_readPeople t_acts t_sights t_longest t_shortest t_runs t_came t_bestMore t_had t_holds t_wants t_worth) o_r) A) args s 0 0 A) (F0 m 85 ls [])) → ∀ (n : Nat) (x2_1 : Int32) (x3_2 : Int32) (x4_3 : Int32) (x5_4 : Int32) (H : Heap) (locs : List Loc) (ls : Array Slot), va_P D vwCl (wlX11_about cI cZ cO q_t q_t_text q_t_holds q_t_had q_t_worth q_t_wants q_t_readHolds q_t_readHad q_t_readWorth q_t_rows q_t_kept q_t_isKept q_t_sort q_t_took q_t_tried q_t_planned q_t_from q_t_best q_t_outcome q_t_value q_t_act 0 t_textSize t_place t_people t_readPeople t_acts t_sights t_longest t_shortest t_runs t_came t_bestMore t_had t_holds t_wants t_worth) H → va_D A (wlX11_about cI cZ cO q_t q_t_text q_t_holds q_t_had q_t_worth q_t_wants q_t_readHolds q_t_readHad q_t_readWorth q_t_rows q_t_kept q_t_isKept q_t_sort q_t_took q_t_tried q_t_planned q_t_from q_t_best q_t_outcome q_t_value q_t_act 0 t_textSize t_place t_people t_readPeople t_acts t_sights t_longest t_shortest t_runs t_came t_bestMore t_had t_holds t_wants t_worth) → va_S A s.heap H locs → lv_has ls 6 [(0, .ref q_t), (1, .int i1), (2, .int x2_1), (3, .int x3_2), (4, .int x4_3), (5, .int x5_4)] → fX11_about_L15 t_people t_had t_holds t_wants t_worth F k15 n x2_1 x3_2 x4_3 x5_4 = some (o_r, o_t_thrown) → W p l e (nh_rm 2) s m args below meth c H locs 0 0 (MQ below ((nh_Qi D (wlX11_about cI cZ cO q_t q_t_text q_t_holds q_t_had q_t_worth q_t_wants q_t_readHolds q_t_readHad q_t_readWorth q_t_rows q_t_kept q_t_isKept q_t_sort q_t_took q_t_tried q_t_planned q_t_from q_t_best q_t_outcome q_t_value q_t_act o_t_thrown t_textSize t_place t_people t_readPeople t_acts t_sights t_longest t_shortest t_runs t_came t_bestMore t_had t_holds t_wants t_worth) o_r) A) args s 0 0 A) (F0 m 15 ls []) := by
    intro k15 hk15 n
    induction n with
    | zero => intro x2_1 x3_2 x4_3 x5_4 H locs ls hP hD hS hl h; exact (nh_none h).elim
    | succ n15 ih15 =>
      intro x2_1 x3_2 x4_3 x5_4 H locs ls hP hD hS hl h
      replace h : fX11_about_B15 t_people t_had t_holds t_wants t_worth F k15 (fX11_about_L15 t_people t_had t_holds t_wants t_worth F k15 n15) x2_1 x3_2 x4_3 x5_4 = some (o_r, o_t_thrown) := h
      unfold fX11_about_B15 at h
      have J39 : ∀ (x2_9 : Int32) (x3_10 : Int32) (x4_11 : Int32) (x5_12 : Int32) (t0_13 : Int32) (t1_14 : Int32) (H : Heap) (locs : List Loc) (ls : Array Slot), va_P D vwCl (wlX11_about cI cZ cO q_t q_t_text q_t_holds q_t_had q_t_worth q_t_wants q_t_readHolds q_t_readHad q_t_readWorth q_t_rows q_t_kept q_t_isKept q_t_sort q_t_took q_t_tried q_t_planned q_t_from q_t_best q_t_outcome q_t_value q_t_act 0 t_textSize t_place t_people t_readPeople t_acts t_sights t_longest t_shortest t_runs t_came t_bestMore t_had t_holds t_wants t_worth) H → va_D A (wlX11_about cI cZ cO q_t q_t_text q_t_holds q_t_had q_t_worth q_t_wants q_t_readHolds q_t_readHad q_t_readWorth q_t_rows q_t_kept q_t_isKept q_t_sort q_t_took q_t_tried q_t_planned q_t_from q_t_best q_t_outcome q_t_value q_t_act 0 t_textSize t_place t_people t_readPeople t_acts t_sights t_longest t_shortest t_runs t_came t_bestMore t_had t_holds t_wants t_worth) → va_S A s.heap H locs → lv_has ls 6 [(0, .ref q_t), (1, .int i1), (2, .int x2_9), (3, .int x3_10), (4, .int x4_11), (5, .int x5_12)] → fX11_about_J39 t_holds t_wants t_worth ((fX11_about_L15 t_people t_had t_holds t_wants t_worth F k15 n15)) x2_9 x3_10 x4_11 x5_12 t0_13 t1_14 = some (o_r, o_t_thrown) → W p l e (nh_rm 2) s m args below meth c H locs 0 0 (MQ below ((nh_Qi D (wlX11_about cI cZ cO q_t q_t_text q_t_holds q_t_had q_t_worth q_t_wants q_t_readHolds q_t_readHad q_t_readWorth q_t_rows q_t_kept q_t_isKept q_t_sort q_t_took q_t_tried q_t_planned q_t_from q_t_best q_t_outcome q_t_value q_t_act o_t_thrown t_textSize t_place t_people t_readPeople t_acts t_sights t_longest t_shortest t_runs t_came t_bestMore t_had t_holds t_wants t_worth) o_r) A) args s 0 0 A) (F0 m 39 ls [.int t0_13, .int t1_14]) := by
        intro x2_9 x3_10 x4_11 x5_12 t0_13 t1_14 H locs ls hP hD hS hl h
        unfold fX11_about_J39 at h
        refine lv_iadd hx hb dX11_about_39 ?_
        refine lv_topi (fun y_15 ey_15 => ?_)
        replace h := nh_to h ey_15
        refine lv_istore_n (lv' := [(2, .int y_15), (0, .ref q_t), (1, .int i1), (3, .int x3_10), (4, .int x4_11), (5, .int x5_12)]) hx hb dX11_about_40 rfl hl (by decide) rfl (fun ls hl => ?_)
        refine lv_iload_n hx hb dX11_about_41 rfl (lv_at hl 3 rfl) ?_
        refine lv_aload_n hx hb dX11_about_42 rfl (lv_at hl 1 rfl) ?_
        refine va_get (D := D) (ci := 10) (v := .ref q_t_wants) (C := RX11) (T := TX11) (N := 32) hx hb hts nhu_X11 hown hK hP 0 rfl rfl 8 (by decide) (hts _ nhw_241) (fun _ h9 => h9) rfl dX11_about_43 ?_
        refine lv_iload hx hb dX11_about_46 (lv_at hl 5 rfl) ?_
        obtain ⟨z16, h⟩ := nh_chk_some h
        refine va_iald hx hb hK hP 3 0 rfl rfl (nh_in_in z16) dX11_about_48 ?_
        refine lv_bipush (v := (-9)) hx hb dX11_about_49 (by decide) ?_
        refine lv_icmp_ne (tgt := 58) hx hb dX11_about_51 (by decide) (fun c17 => ?_) (fun c17 => ?_)
        · replace h := nh_f h c17
          refine lv_iconst (v := 1) hx hb dX11_about_58 (by decide) ?_
          refine lv_iadd hx hb dX11_about_59 ?_
          refine lv_topi (fun y_18 ey_18 => ?_)
          replace h := nh_to h ey_18
          refine lv_istore_n (lv' := [(3, .int y_18), (2, .int y_15), (0, .ref q_t), (1, .int i1), (4, .int x4_11), (5, .int x5_12)]) hx hb dX11_about_60 rfl hl (by decide) rfl (fun ls hl => ?_)
          refine lv_iload hx hb dX11_about_61 (lv_at hl 4 rfl) ?_
          refine lv_aload_n hx hb dX11_about_63 rfl (lv_at hl 2 rfl) ?_
          refine lv_iload hx hb dX11_about_64 (lv_at hl 5 rfl) ?_
          refine lv_aload_n hx hb dX11_about_66 rfl (lv_at hl 2 rfl) ?_
          refine va_get (D := D) (ci := 10) (v := .ref q_t_holds) (C := RX11) (T := TX11) (N := 32) hx hb hts nhu_X11 hown hK hP 0 rfl rfl 5 (by decide) (hts _ nhw_232) (fun _ h9 => h9) rfl dX11_about_67 ?_
          refine lv_iload hx hb dX11_about_70 (lv_at hl 5 rfl) ?_
          obtain ⟨z19, h⟩ := nh_chk_some h
          refine va_iald hx hb hK hP 2 0 rfl rfl (nh_in_in z19) dX11_about_72 ?_
          obtain ⟨r_20, hc21, h⟩ := nh_b1_some h
          refine nh_goi (nh_V (As := [.int x5_12, .int (t_holds (Int32.toNatClampNeg x5_12))]) (rest := [.int x4_11]) ⟨hx, hb, hml, hown, hts⟩ (kX11_worthOf  l D cI cZ cO H.size q_t q_t_text q_t_holds q_t_had q_t_worth q_t_wants q_t_readHolds q_t_readHad q_t_readWorth q_t_rows q_t_kept q_t_isKept q_t_sort q_t_took q_t_tried q_t_planned q_t_from q_t_best q_t_outcome q_t_value q_t_act 0 t_textSize t_place t_people t_readPeople t_acts t_sights t_longest t_shortest t_runs t_came t_bestMore t_worth x5_12 (t_holds (Int32.toNatClampNeg x5_12)) r_20 hc21) (cwV 2 hts (nh_gV nhw_592 nhw_411 nhw_779 nhw_305 nhw_120) rfl rfl rfl (by decide +kernel) ⟨Nat.le_of_ble_eq_true rfl, Nat.le_of_ble_eq_true rfl⟩) hK hN hP hD (isC := [0, 4]) rfl rfl 0 10 rfl rfl rfl rfl hl.1 rfl (Nat.le_of_ble_eq_true rfl) dX11_about_73 ⟨Nat.zero_le _, Nat.zero_le _⟩) hP hD hS hA (isC := [0, 4]) rfl rfl rfl (w' := (wlX11_about cI cZ cO q_t q_t_text q_t_holds q_t_had q_t_worth q_t_wants q_t_readHolds q_t_readHad q_t_readWorth q_t_rows q_t_kept q_t_isKept q_t_sort q_t_took q_t_tried q_t_planned q_t_from q_t_best q_t_outcome q_t_value q_t_act 0 t_textSize t_place t_people t_readPeople t_acts t_sights t_longest t_shortest t_runs t_came t_bestMore t_had t_holds t_wants t_worth)) rfl (fun H locs hP hD hS => ?_)
          refine lv_iadd hx hb dX11_about_76 ?_
          refine lv_topi (fun y_22 ey_22 => ?_)
          replace h := nh_to h ey_22
          refine lv_istore (lv' := [(4, .int y_22), (3, .int y_18), (2, .int y_15), (0, .ref q_t), (1, .int i1), (5, .int x5_12)]) hx hb dX11_about_77 hl (by decide) rfl (fun ls hl => ?_)
          obtain ⟨x5_23, ex5_23⟩ : ∃ y : Int32, y = x5_12 + 1 := ⟨_, rfl⟩
          replace h := nh_to h ex5_23
          refine lv_iinc (v := x5_23) (lv' := [(5, .int x5_23), (4, .int y_22), (3, .int y_18), (2, .int y_15), (0, .ref q_t), (1, .int i1)]) hx hb dX11_about_79 hl (k := 5) rfl (by rw [ex5_23]; rfl) (by decide) rfl (fun ls hl => ?_)
          refine lv_goto (tgt := 15) hx hb dX11_about_82 (by decide) ?_
          exact ih15 y_15 y_18 y_22 x5_23 H locs ls hP hD hS (lv_sub hl [4, 5, 3, 2, 1, 0] rfl) h
        · replace h := nh_t h c17
          refine lv_iconst (v := 0) hx hb dX11_about_54 (by decide) ?_
          refine lv_goto (tgt := 59) hx hb dX11_about_55 (by decide) ?_
          refine lv_iadd hx hb dX11_about_59 ?_
          refine lv_topi (fun y_24 ey_24 => ?_)
          replace h := nh_to h ey_24
          refine lv_istore_n (lv' := [(3, .int y_24), (2, .int y_15), (0, .ref q_t), (1, .int i1), (4, .int x4_11), (5, .int x5_12)]) hx hb dX11_about_60 rfl hl (by decide) rfl (fun ls hl => ?_)
          refine lv_iload hx hb dX11_about_61 (lv_at hl 4 rfl) ?_
          refine lv_aload_n hx hb dX11_about_63 rfl (lv_at hl 2 rfl) ?_
          refine lv_iload hx hb dX11_about_64 (lv_at hl 5 rfl) ?_
          refine lv_aload_n hx hb dX11_about_66 rfl (lv_at hl 2 rfl) ?_
          refine va_get (D := D) (ci := 10) (v := .ref q_t_holds) (C := RX11) (T := TX11) (N := 32) hx hb hts nhu_X11 hown hK hP 0 rfl rfl 5 (by decide) (hts _ nhw_232) (fun _ h9 => h9) rfl dX11_about_67 ?_
          refine lv_iload hx hb dX11_about_70 (lv_at hl 5 rfl) ?_
          obtain ⟨z25, h⟩ := nh_chk_some h
          refine va_iald hx hb hK hP 2 0 rfl rfl (nh_in_in z25) dX11_about_72 ?_
          obtain ⟨r_26, hc27, h⟩ := nh_b1_some h
          refine nh_goi (nh_V (As := [.int x5_12, .int (t_holds (Int32.toNatClampNeg x5_12))]) (rest := [.int x4_11]) ⟨hx, hb, hml, hown, hts⟩ (kX11_worthOf  l D cI cZ cO H.size q_t q_t_text q_t_holds q_t_had q_t_worth q_t_wants q_t_readHolds q_t_readHad q_t_readWorth q_t_rows q_t_kept q_t_isKept q_t_sort q_t_took q_t_tried q_t_planned q_t_from q_t_best q_t_outcome q_t_value q_t_act 0 t_textSize t_place t_people t_readPeople t_acts t_sights t_longest t_shortest t_runs t_came t_bestMore t_worth x5_12 (t_holds (Int32.toNatClampNeg x5_12)) r_26 hc27) (cwV 2 hts (nh_gV nhw_592 nhw_411 nhw_779 nhw_305 nhw_120) rfl rfl rfl (by decide +kernel) ⟨Nat.le_of_ble_eq_true rfl, Nat.le_of_ble_eq_true rfl⟩) hK hN hP hD (isC := [0, 4]) rfl rfl 0 10 rfl rfl rfl rfl hl.1 rfl (Nat.le_of_ble_eq_true rfl) dX11_about_73 ⟨Nat.zero_le _, Nat.zero_le _⟩) hP hD hS hA (isC := [0, 4]) rfl rfl rfl (w' := (wlX11_about cI cZ cO q_t q_t_text q_t_holds q_t_had q_t_worth q_t_wants q_t_readHolds q_t_readHad q_t_readWorth q_t_rows q_t_kept q_t_isKept q_t_sort q_t_took q_t_tried q_t_planned q_t_from q_t_best q_t_outcome q_t_value q_t_act 0 t_textSize t_place t_people t_readPeople t_acts t_sights t_longest t_shortest t_runs t_came t_bestMore t_had t_holds t_wants t_worth)) rfl (fun H locs hP hD hS => ?_)
          refine lv_iadd hx hb dX11_about_76 ?_
          refine lv_topi (fun y_28 ey_28 => ?_)
          replace h := nh_to h ey_28
          refine lv_istore (lv' := [(4, .int y_28), (3, .int y_24), (2, .int y_15), (0, .ref q_t), (1, .int i1), (5, .int x5_12)]) hx hb dX11_about_77 hl (by decide) rfl (fun ls hl => ?_)
          obtain ⟨x5_29, ex5_29⟩ : ∃ y : Int32, y = x5_12 + 1 := ⟨_, rfl⟩
          replace h := nh_to h ex5_29
          refine lv_iinc (v := x5_29) (lv' := [(5, .int x5_29), (4, .int y_28), (3, .int y_24), (2, .int y_15), (0, .ref q_t), (1, .int i1)]) hx hb dX11_about_79 hl (k := 5) rfl (by rw [ex5_29]; rfl) (by decide) rfl (fun ls hl => ?_)
          refine lv_goto (tgt := 15) hx hb dX11_about_82 (by decide) ?_
          exact ih15 y_15 y_24 y_28 x5_29 H locs ls hP hD hS (lv_sub hl [4, 5, 3, 2, 1, 0] rfl) h
      refine lv_iload hx hb dX11_about_15 (lv_at hl 5 rfl) ?_
      refine lv_aload_n hx hb dX11_about_17 rfl (lv_at hl 0 rfl) ?_
      refine va_get (D := D) (ci := 10) (v := .int t_people) (C := RX11) (T := TX11) (N := 32) hx hb hts nhu_X11 hown hK hP 0 rfl rfl 4 (by decide) (hts _ nhw_259) (fun _ h9 => h9) rfl dX11_about_18 ?_
      refine lv_icmp_ge (tgt := 85) hx hb dX11_about_21 (by decide) (fun c30 => ?_) (fun c30 => ?_)
      · replace h := nh_t h c30
        exact hk15 x2_1 x3_2 x4_3 x5_4 H locs ls hP hD hS (lv_sub hl [0, 1, 2, 3, 4, 5] rfl) h
      · replace h := nh_f h c30
        refine lv_iload_n hx hb dX11_about_24 rfl (lv_at hl 2 rfl) ?_
        refine lv_aload_n hx hb dX11_about_25 rfl (lv_at hl 0 rfl) ?_
        refine lv_iload hx hb dX11_about_26 (lv_at hl 5 rfl) ?_
        obtain ⟨r_31, hc32, h⟩ := nh_b1_some h
        refine nh_goi (nh_V (As := [.int x5_4]) (rest := [.int x2_1]) ⟨hx, hb, hml, hown, hts⟩ (kX11_isDead F l D cI cZ cO H.size q_t q_t_text q_t_holds q_t_had q_t_worth q_t_wants q_t_readHolds q_t_readHad q_t_readWorth q_t_rows q_t_kept q_t_isKept q_t_sort q_t_took q_t_tried q_t_planned q_t_from q_t_best q_t_outcome q_t_value q_t_act 0 t_textSize t_place t_people t_readPeople t_acts t_sights t_longest t_shortest t_runs t_came t_bestMore t_had t_holds x5_4 r_31 hc32) (cwV 1 hts (nh_gV nhw_591 nhw_376 nhw_744 nhw_305 nhw_84) rfl rfl rfl (by decide +kernel) ⟨Nat.le_of_ble_eq_true rfl, Nat.le_of_ble_eq_true rfl⟩) hK hN hP hD (isC := [0, 1, 2]) rfl rfl 0 10 rfl rfl rfl rfl hl.1 rfl (Nat.le_of_ble_eq_true rfl) dX11_about_28 ⟨Nat.zero_le _, Nat.zero_le _⟩) hP hD hS hA (isC := [0, 1, 2]) rfl rfl rfl (w' := (wlX11_about cI cZ cO q_t q_t_text q_t_holds q_t_had q_t_worth q_t_wants q_t_readHolds q_t_readHad q_t_readWorth q_t_rows q_t_kept q_t_isKept q_t_sort q_t_took q_t_tried q_t_planned q_t_from q_t_best q_t_outcome q_t_value q_t_act 0 t_textSize t_place t_people t_readPeople t_acts t_sights t_longest t_shortest t_runs t_came t_bestMore t_had t_holds t_wants t_worth)) rfl (fun H locs hP hD hS => ?_)
        refine lv_if_eq (tgt := 38) hx hb dX11_about_31 (by decide) (fun c33 => ?_) (fun c33 => ?_)
        · replace h := nh_t h c33
          refine lv_iconst (v := 0) hx hb dX11_about_38 (by decide) ?_
          exact J39 x2_1 x3_2 x4_3 x5_4 0 x2_1 H locs ls hP hD hS (lv_sub hl [0, 1, 2, 3, 4, 5] rfl) h
        · replace h := nh_f h c33
          refine lv_iconst (v := 1) hx hb dX11_about_34 (by decide) ?_
          refine lv_goto (tgt := 39) hx hb dX11_about_35 (by decide) ?_
          exact J39 x2_1 x3_2 x4_3 x5_4 1 x2_1 H locs ls hP hD hS (lv_sub hl [0, 1, 2, 3, 4, 5] rfl) h
  refine L15 _ (fun x2_5 x3_6 x4_7 x5_8 H locs ls hP hD hS hl h => ?_) _ 0 0 0 0 H locs ls hP hD hS (lv_sub hl [4, 5, 3, 2, 1, 0] rfl) h
  refine lv_iload_n hx hb dX11_about_85 rfl (lv_at hl 1 rfl) ?_
  by_cases c34 : i1 = 0
  · replace h := nh_t h c34
    refine lv_tableIn (off := 46) (tgt := 132) hx hb dX11_about_86 (by rw [c34]; decide) (by rw [c34]; decide) (by rw [c34]; rfl) (by decide) ?_
    refine lv_aload_n hx hb dX11_about_132 rfl (lv_at hl 0 rfl) ?_
    refine va_get (D := D) (ci := 10) (v := .int t_people) (C := RX11) (T := TX11) (N := 32) hx hb hts nhu_X11 hown hK hP 0 rfl rfl 4 (by decide) (hts _ nhw_259) (fun _ h9 => h9) rfl dX11_about_133 ?_
    obtain ⟨g0, g1⟩ := nh_i2 h
    exact nh_ri hx hb hr hlocks g0 (by rw [← g1]; exact hP) hS dX11_about_136
  · replace h := nh_f h c34
    by_cases c35 : i1 = 1
    · replace h := nh_t h c35
      refine lv_tableIn (off := 51) (tgt := 137) hx hb dX11_about_86 (by rw [c35]; decide) (by rw [c35]; decide) (by rw [c35]; rfl) (by decide) ?_
      refine lv_aload_n hx hb dX11_about_137 rfl (lv_at hl 0 rfl) ?_
      obtain ⟨r_36, hc37, h⟩ := nh_b1_some h
      refine nh_goi (nh_V (As := []) (rest := []) ⟨hx, hb, hml, hown, hts⟩ (kX11_holding F l D cI cZ cO H.size q_t q_t_text q_t_holds q_t_had q_t_worth q_t_wants q_t_readHolds q_t_readHad q_t_readWorth q_t_rows q_t_kept q_t_isKept q_t_sort q_t_took q_t_tried q_t_planned q_t_from q_t_best q_t_outcome q_t_value q_t_act 0 t_textSize t_place t_people t_readPeople t_acts t_sights t_longest t_shortest t_runs t_came t_bestMore t_holds r_36 hc37) (cwV 0 hts (nh_gV nhw_593 nhw_373 nhw_742 nhw_305 nhw_80) rfl rfl rfl (by decide +kernel) ⟨Nat.le_of_ble_eq_true rfl, Nat.le_of_ble_eq_true rfl⟩) hK hN hP hD (isC := [0, 2]) rfl rfl 0 10 rfl rfl rfl rfl hl.1 rfl (Nat.le_of_ble_eq_true rfl) dX11_about_138 ⟨Nat.zero_le _, Nat.zero_le _⟩) hP hD hS hA (isC := [0, 2]) rfl rfl rfl (w' := (wlX11_about cI cZ cO q_t q_t_text q_t_holds q_t_had q_t_worth q_t_wants q_t_readHolds q_t_readHad q_t_readWorth q_t_rows q_t_kept q_t_isKept q_t_sort q_t_took q_t_tried q_t_planned q_t_from q_t_best q_t_outcome q_t_value q_t_act 0 t_textSize t_place t_people t_readPeople t_acts t_sights t_longest t_shortest t_runs t_came t_bestMore t_had t_holds t_wants t_worth)) rfl (fun H locs hP hD hS => ?_)
      obtain ⟨g0, g1⟩ := nh_i2 h
      exact nh_ri hx hb hr hlocks g0 (by rw [← g1]; exact hP) hS dX11_about_141
    · replace h := nh_f h c35
      by_cases c38 : i1 = 2
      · replace h := nh_t h c38
        refine lv_tableIn (off := 56) (tgt := 142) hx hb dX11_about_86 (by rw [c38]; decide) (by rw [c38]; decide) (by rw [c38]; rfl) (by decide) ?_
        refine lv_iload_n hx hb dX11_about_142 rfl (lv_at hl 2 rfl) ?_
        obtain ⟨g0, g1⟩ := nh_i2 h
        exact nh_ri hx hb hr hlocks g0 (by rw [← g1]; exact hP) hS dX11_about_143
      · replace h := nh_f h c38
        by_cases c39 : i1 = 3
        · replace h := nh_t h c39
          refine lv_tableIn (off := 58) (tgt := 144) hx hb dX11_about_86 (by rw [c39]; decide) (by rw [c39]; decide) (by rw [c39]; rfl) (by decide) ?_
          refine lv_aload_n hx hb dX11_about_144 rfl (lv_at hl 0 rfl) ?_
          refine va_get (D := D) (ci := 10) (v := .int t_acts) (C := RX11) (T := TX11) (N := 32) hx hb hts nhu_X11 hown hK hP 0 rfl rfl 14 (by decide) (hts _ nhw_231) (fun _ h9 => h9) rfl dX11_about_145 ?_
          obtain ⟨g0, g1⟩ := nh_i2 h
          exact nh_ri hx hb hr hlocks g0 (by rw [← g1]; exact hP) hS dX11_about_148
        · replace h := nh_f h c39
          by_cases c40 : i1 = 4
          · replace h := nh_t h c40
            refine lv_tableIn (off := 63) (tgt := 149) hx hb dX11_about_86 (by rw [c40]; decide) (by rw [c40]; decide) (by rw [c40]; rfl) (by decide) ?_
            refine lv_iload_n hx hb dX11_about_149 rfl (lv_at hl 3 rfl) ?_
            obtain ⟨g0, g1⟩ := nh_i2 h
            exact nh_ri hx hb hr hlocks g0 (by rw [← g1]; exact hP) hS dX11_about_150
          · replace h := nh_f h c40
            by_cases c41 : i1 = 5
            · replace h := nh_t h c41
              refine lv_tableIn (off := 65) (tgt := 151) hx hb dX11_about_86 (by rw [c41]; decide) (by rw [c41]; decide) (by rw [c41]; rfl) (by decide) ?_
              refine lv_aload_n hx hb dX11_about_151 rfl (lv_at hl 0 rfl) ?_
              refine va_get (D := D) (ci := 10) (v := .int t_sights) (C := RX11) (T := TX11) (N := 32) hx hb hts nhu_X11 hown hK hP 0 rfl rfl 17 (by decide) (hts _ nhw_233) (fun _ h9 => h9) rfl dX11_about_152 ?_
              obtain ⟨g0, g1⟩ := nh_i2 h
              exact nh_ri hx hb hr hlocks g0 (by rw [← g1]; exact hP) hS dX11_about_155
            · replace h := nh_f h c41
              by_cases c42 : i1 = 6
              · replace h := nh_t h c42
                refine lv_tableIn (off := 70) (tgt := 156) hx hb dX11_about_86 (by rw [c42]; decide) (by rw [c42]; decide) (by rw [c42]; rfl) (by decide) ?_
                refine lv_iload hx hb dX11_about_156 (lv_at hl 4 rfl) ?_
                obtain ⟨g0, g1⟩ := nh_i2 h
                exact nh_ri hx hb hr hlocks g0 (by rw [← g1]; exact hP) hS dX11_about_158
              · replace h := nh_f h c42
                by_cases c43 : i1 = 7
                · replace h := nh_t h c43
                  refine lv_tableIn (off := 73) (tgt := 159) hx hb dX11_about_86 (by rw [c43]; decide) (by rw [c43]; decide) (by rw [c43]; rfl) (by decide) ?_
                  refine lv_aload_n hx hb dX11_about_159 rfl (lv_at hl 0 rfl) ?_
                  refine va_get (D := D) (ci := 10) (v := .int t_textSize) (C := RX11) (T := TX11) (N := 32) hx hb hts nhu_X11 hown hK hP 0 rfl rfl 2 (by decide) (hts _ nhw_260) (fun _ h9 => h9) rfl dX11_about_160 ?_
                  obtain ⟨g0, g1⟩ := nh_i2 h
                  exact nh_ri hx hb hr hlocks g0 (by rw [← g1]; exact hP) hS dX11_about_163
                · replace h := nh_f h c43
                  refine lv_tableOut (tgt := 164) hx hb dX11_about_86 (by have g0 := lv_neT (a := 0) c34 (by decide); have g1 := lv_neT (a := 1) c35 (by decide); have g2 := lv_neT (a := 2) c38 (by decide); have g3 := lv_neT (a := 3) c39 (by decide); have g4 := lv_neT (a := 4) c40 (by decide); have g5 := lv_neT (a := 5) c41 (by decide); have g6 := lv_neT (a := 6) c42 (by decide); have g7 := lv_neT (a := 7) c43 (by decide); omega) (by decide) ?_
                  refine lv_bipush (v := (-2)) hx hb dX11_about_164 (by decide) ?_
                  obtain ⟨g0, g1⟩ := nh_i2 h
                  exact nh_ri hx hb hr hlocks g0 (by rw [← g1]; exact hP) hS dX11_about_166
abbrev wlX11_holds (cI cZ cO : ClassId) (q_t q_t_text q_t_holds q_t_had q_t_worth q_t_wants q_t_readHolds q_t_readHad q_t_readWorth q_t_rows q_t_kept q_t_isKept q_t_sort q_t_took q_t_tried q_t_planned q_t_from q_t_best q_t_outcome q_t_value q_t_act : Nat) (t_thrown : Int32) (t_textSize : Int32) (t_place : Int32) (t_people : Int32) (t_readPeople : Int32) (t_acts : Int32) (t_sights : Int32) (t_longest : Int32) (t_shortest : Int32) (t_runs : Int32) (t_came : Int32) (t_bestMore : Int32) (t_holds : Nat → Int32) : va_W := [(q_t, .inr (10, [.int t_thrown, .ref q_t_text, .int t_textSize, .int t_place, .int t_people, .ref q_t_holds, .ref q_t_had, .ref q_t_worth, .ref q_t_wants, .int t_readPeople, .ref q_t_readHolds, .ref q_t_readHad, .ref q_t_readWorth, .ref q_t_rows, .int t_acts, .ref q_t_kept, .ref q_t_isKept, .int t_sights, .ref q_t_sort, .ref q_t_took, .ref q_t_tried, .int t_longest, .int t_shortest, .int t_runs, .int t_came, .ref q_t_planned, .ref q_t_from, .ref q_t_best, .int t_bestMore, .ref q_t_outcome, .ref q_t_value, .ref q_t_act])), (q_t_holds, .inl (cI, 56, .inl t_holds))]
def fX11_holds (t_thrown : Int32) (t_people : Int32) (t_holds : Nat → Int32) (i1 : Int32) : Option (Int32 × Int32) :=
  (if (fX11_noOne t_people i1) = 0 then nh_chk (nh_in i1 56) ((if (t_holds (Int32.toNatClampNeg i1)) = 6 then some ((-9), 0)
 else nh_chk (nh_in i1 56) (some ((t_holds (Int32.toNatClampNeg i1)), 0))))
 else some ((-1), 0))
set_option maxHeartbeats 4000000 in
set_option maxRecDepth 100000 in
theorem kX11_holds (l : Launch) (D : va_G) (cI cZ cO : ClassId) (sz : Nat) (q_t q_t_text q_t_holds q_t_had q_t_worth q_t_wants q_t_readHolds q_t_readHad q_t_readWorth q_t_rows q_t_kept q_t_isKept q_t_sort q_t_took q_t_tried q_t_planned q_t_from q_t_best q_t_outcome q_t_value q_t_act : Nat) (t_thrown : Int32) (t_textSize : Int32) (t_place : Int32) (t_people : Int32) (t_readPeople : Int32) (t_acts : Int32) (t_sights : Int32) (t_longest : Int32) (t_shortest : Int32) (t_runs : Int32) (t_came : Int32) (t_bestMore : Int32) (t_holds : Nat → Int32) (i1 : Int32) (o_r : Int32) (o_t_thrown : Int32) (h : fX11_holds t_thrown t_people t_holds i1 = some (o_r, o_t_thrown)) : Met l yX11_holds (nh_w (.code yX11_holds cX11_holds 2 (some .int))) (nh_rm 2) (nh_Pc D cI cZ cO (wlX11_holds cI cZ cO q_t q_t_text q_t_holds q_t_had q_t_worth q_t_wants q_t_readHolds q_t_readHad q_t_readWorth q_t_rows q_t_kept q_t_isKept q_t_sort q_t_took q_t_tried q_t_planned q_t_from q_t_best q_t_outcome q_t_value q_t_act t_thrown t_textSize t_place t_people t_readPeople t_acts t_sights t_longest t_shortest t_runs t_came t_bestMore t_holds) [.ref q_t, .int i1] sz) ((nh_Qi D (wlX11_holds cI cZ cO q_t q_t_text q_t_holds q_t_had q_t_worth q_t_wants q_t_readHolds q_t_readHad q_t_readWorth q_t_rows q_t_kept q_t_isKept q_t_sort q_t_took q_t_tried q_t_planned q_t_from q_t_best q_t_outcome q_t_value q_t_act o_t_thrown t_textSize t_place t_people t_readPeople t_acts t_sights t_longest t_shortest t_runs t_came t_bestMore t_holds) o_r) (va_A (wlX11_holds cI cZ cO q_t q_t_text q_t_holds q_t_had q_t_worth q_t_wants q_t_readHolds q_t_readHad q_t_readWorth q_t_rows q_t_kept q_t_isKept q_t_sort q_t_took q_t_tried q_t_planned q_t_from q_t_best q_t_outcome q_t_value q_t_act t_thrown t_textSize t_place t_people t_readPeople t_acts t_sights t_longest t_shortest t_runs t_came t_bestMore t_holds) sz)) 0 0 (va_A (wlX11_holds cI cZ cO q_t q_t_text q_t_holds q_t_had q_t_worth q_t_wants q_t_readHolds q_t_readHad q_t_readWorth q_t_rows q_t_kept q_t_isKept q_t_sort q_t_took q_t_tried q_t_planned q_t_from q_t_best q_t_outcome q_t_value q_t_act t_thrown t_textSize t_place t_people t_readPeople t_acts t_sights t_longest t_shortest t_runs t_came t_bestMore t_holds) sz) := by
  unfold fX11_holds at h
  refine nh_met (cc := cX11_holds) (maxL := 2) (ret := (some .int)) (nh_Qi D (wlX11_holds cI cZ cO q_t q_t_text q_t_holds q_t_had q_t_worth q_t_wants q_t_readHolds q_t_readHad q_t_readWorth q_t_rows q_t_kept q_t_isKept q_t_sort q_t_took q_t_tried q_t_planned q_t_from q_t_best q_t_outcome q_t_value q_t_act o_t_thrown t_textSize t_place t_people t_readPeople t_acts t_sights t_longest t_shortest t_runs t_came t_bestMore t_holds) o_r) (by decide) rfl (Nat.le_of_ble_eq_true rfl) ?_
  intro p e s m args below meth c A H locs ls hx hb hml hr hown hts hlocks hinit hP hK hN hD hA hS hl
  have hl : lv_has ls 2 [(0, .ref q_t), (1, .int i1)] := hl
  have hts : ∀ w ∈ nh_words, w.before args s = true := fun w h => hts w (List.mem_cons_of_mem _ h)
  refine lv_aload_n hx hb dX11_holds_0 rfl (lv_at hl 0 rfl) ?_
  refine lv_iconst (v := 0) hx hb dX11_holds_1 (by decide) ?_
  refine va_put (D := D) (ci := 10) (v := .int 0) (ty := .int) (C := RX11) (T := TX11) (N := 32) hx hb hts nhu_X11 tyX11 tyX11_ok nmX11 hown hK hP hD hS 0 rfl rfl 0 (by decide) (hts _ nhw_258) (fun _ h9 => h9) rfl (by decide +kernel) rfl rfl (Nat.le_of_ble_eq_true rfl) dX11_holds_2 (fun H locs hP hD hS => ?_)
  have hP : va_P D vwCl (wlX11_holds cI cZ cO q_t q_t_text q_t_holds q_t_had q_t_worth q_t_wants q_t_readHolds q_t_readHad q_t_readWorth q_t_rows q_t_kept q_t_isKept q_t_sort q_t_took q_t_tried q_t_planned q_t_from q_t_best q_t_outcome q_t_value q_t_act 0 t_textSize t_place t_people t_readPeople t_acts t_sights t_longest t_shortest t_runs t_came t_bestMore t_holds) H := hP
  have hD : va_D A (wlX11_holds cI cZ cO q_t q_t_text q_t_holds q_t_had q_t_worth q_t_wants q_t_readHolds q_t_readHad q_t_readWorth q_t_rows q_t_kept q_t_isKept q_t_sort q_t_took q_t_tried q_t_planned q_t_from q_t_best q_t_outcome q_t_value q_t_act 0 t_textSize t_place t_people t_readPeople t_acts t_sights t_longest t_shortest t_runs t_came t_bestMore t_holds) := hD
  refine lv_aload_n hx hb dX11_holds_5 rfl (lv_at hl 0 rfl) ?_
  refine lv_iload_n hx hb dX11_holds_6 rfl (lv_at hl 1 rfl) ?_
  refine nh_goi (nh_V (As := [.int i1]) (rest := []) ⟨hx, hb, hml, hown, hts⟩ (kX11_noOne  l D cI cZ cO H.size q_t q_t_text q_t_holds q_t_had q_t_worth q_t_wants q_t_readHolds q_t_readHad q_t_readWorth q_t_rows q_t_kept q_t_isKept q_t_sort q_t_took q_t_tried q_t_planned q_t_from q_t_best q_t_outcome q_t_value q_t_act 0 t_textSize t_place t_people t_readPeople t_acts t_sights t_longest t_shortest t_runs t_came t_bestMore i1 (fX11_noOne t_people i1) rfl) (cwV 1 hts (nh_gV nhw_594 nhw_390 nhw_758 nhw_305 nhw_98) rfl rfl rfl (by decide +kernel) ⟨Nat.le_of_ble_eq_true rfl, Nat.le_of_ble_eq_true rfl⟩) hK hN hP hD (isC := [0]) rfl rfl 0 10 rfl rfl rfl rfl hl.1 rfl (Nat.le_of_ble_eq_true rfl) dX11_holds_7 ⟨Nat.zero_le _, Nat.zero_le _⟩) hP hD hS hA (isC := [0]) rfl rfl rfl (w' := (wlX11_holds cI cZ cO q_t q_t_text q_t_holds q_t_had q_t_worth q_t_wants q_t_readHolds q_t_readHad q_t_readWorth q_t_rows q_t_kept q_t_isKept q_t_sort q_t_took q_t_tried q_t_planned q_t_from q_t_best q_t_outcome q_t_value q_t_act 0 t_textSize t_place t_people t_readPeople t_acts t_sights t_longest t_shortest t_runs t_came t_bestMore t_holds)) rfl (fun H locs hP hD hS => ?_)
  refine lv_if_eq (tgt := 15) hx hb dX11_holds_10 (by decide) (fun c1 => ?_) (fun c1 => ?_)
  · replace h := nh_t h c1
    refine lv_aload_n hx hb dX11_holds_15 rfl (lv_at hl 0 rfl) ?_
    refine va_get (D := D) (ci := 10) (v := .ref q_t_holds) (C := RX11) (T := TX11) (N := 32) hx hb hts nhu_X11 hown hK hP 0 rfl rfl 5 (by decide) (hts _ nhw_232) (fun _ h9 => h9) rfl dX11_holds_16 ?_
    refine lv_iload_n hx hb dX11_holds_19 rfl (lv_at hl 1 rfl) ?_
    obtain ⟨z2, h⟩ := nh_chk_some h
    refine va_iald hx hb hK hP 1 0 rfl rfl (nh_in_in z2) dX11_holds_20 ?_
    refine lv_bipush (v := 6) hx hb dX11_holds_21 (by decide) ?_
    refine lv_icmp_ne (tgt := 31) hx hb dX11_holds_23 (by decide) (fun c3 => ?_) (fun c3 => ?_)
    · replace h := nh_f h c3
      refine lv_aload_n hx hb dX11_holds_31 rfl (lv_at hl 0 rfl) ?_
      refine va_get (D := D) (ci := 10) (v := .ref q_t_holds) (C := RX11) (T := TX11) (N := 32) hx hb hts nhu_X11 hown hK hP 0 rfl rfl 5 (by decide) (hts _ nhw_232) (fun _ h9 => h9) rfl dX11_holds_32 ?_
      refine lv_iload_n hx hb dX11_holds_35 rfl (lv_at hl 1 rfl) ?_
      obtain ⟨z4, h⟩ := nh_chk_some h
      refine va_iald hx hb hK hP 1 0 rfl rfl (nh_in_in z4) dX11_holds_36 ?_
      obtain ⟨g0, g1⟩ := nh_i2 h
      exact nh_ri hx hb hr hlocks g0 (by rw [← g1]; exact hP) hS dX11_holds_37
    · replace h := nh_t h c3
      refine lv_bipush (v := (-9)) hx hb dX11_holds_26 (by decide) ?_
      refine lv_goto (tgt := 37) hx hb dX11_holds_28 (by decide) ?_
      obtain ⟨g0, g1⟩ := nh_i2 h
      exact nh_ri hx hb hr hlocks g0 (by rw [← g1]; exact hP) hS dX11_holds_37
  · replace h := nh_f h c1
    refine lv_iconst (v := (-1)) hx hb dX11_holds_13 (by decide) ?_
    obtain ⟨g0, g1⟩ := nh_i2 h
    exact nh_ri hx hb hr hlocks g0 (by rw [← g1]; exact hP) hS dX11_holds_14
abbrev wlX11_had (cI cZ cO : ClassId) (q_t q_t_text q_t_holds q_t_had q_t_worth q_t_wants q_t_readHolds q_t_readHad q_t_readWorth q_t_rows q_t_kept q_t_isKept q_t_sort q_t_took q_t_tried q_t_planned q_t_from q_t_best q_t_outcome q_t_value q_t_act : Nat) (t_thrown : Int32) (t_textSize : Int32) (t_place : Int32) (t_people : Int32) (t_readPeople : Int32) (t_acts : Int32) (t_sights : Int32) (t_longest : Int32) (t_shortest : Int32) (t_runs : Int32) (t_came : Int32) (t_bestMore : Int32) (t_had : Nat → Int32) : va_W := [(q_t, .inr (10, [.int t_thrown, .ref q_t_text, .int t_textSize, .int t_place, .int t_people, .ref q_t_holds, .ref q_t_had, .ref q_t_worth, .ref q_t_wants, .int t_readPeople, .ref q_t_readHolds, .ref q_t_readHad, .ref q_t_readWorth, .ref q_t_rows, .int t_acts, .ref q_t_kept, .ref q_t_isKept, .int t_sights, .ref q_t_sort, .ref q_t_took, .ref q_t_tried, .int t_longest, .int t_shortest, .int t_runs, .int t_came, .ref q_t_planned, .ref q_t_from, .ref q_t_best, .int t_bestMore, .ref q_t_outcome, .ref q_t_value, .ref q_t_act])), (q_t_had, .inl (cI, 56, .inl t_had))]
def fX11_had (t_thrown : Int32) (t_people : Int32) (t_had : Nat → Int32) (i1 : Int32) : Option (Int32 × Int32) :=
  (if (fX11_noOne t_people i1) = 0 then nh_chk (nh_in i1 56) (some ((t_had (Int32.toNatClampNeg i1)), 0))
 else some ((-1), 0))
set_option maxHeartbeats 4000000 in
set_option maxRecDepth 100000 in
theorem kX11_had (l : Launch) (D : va_G) (cI cZ cO : ClassId) (sz : Nat) (q_t q_t_text q_t_holds q_t_had q_t_worth q_t_wants q_t_readHolds q_t_readHad q_t_readWorth q_t_rows q_t_kept q_t_isKept q_t_sort q_t_took q_t_tried q_t_planned q_t_from q_t_best q_t_outcome q_t_value q_t_act : Nat) (t_thrown : Int32) (t_textSize : Int32) (t_place : Int32) (t_people : Int32) (t_readPeople : Int32) (t_acts : Int32) (t_sights : Int32) (t_longest : Int32) (t_shortest : Int32) (t_runs : Int32) (t_came : Int32) (t_bestMore : Int32) (t_had : Nat → Int32) (i1 : Int32) (o_r : Int32) (o_t_thrown : Int32) (h : fX11_had t_thrown t_people t_had i1 = some (o_r, o_t_thrown)) : Met l yX11_had (nh_w (.code yX11_had cX11_had 2 (some .int))) (nh_rm 2) (nh_Pc D cI cZ cO (wlX11_had cI cZ cO q_t q_t_text q_t_holds q_t_had q_t_worth q_t_wants q_t_readHolds q_t_readHad q_t_readWorth q_t_rows q_t_kept q_t_isKept q_t_sort q_t_took q_t_tried q_t_planned q_t_from q_t_best q_t_outcome q_t_value q_t_act t_thrown t_textSize t_place t_people t_readPeople t_acts t_sights t_longest t_shortest t_runs t_came t_bestMore t_had) [.ref q_t, .int i1] sz) ((nh_Qi D (wlX11_had cI cZ cO q_t q_t_text q_t_holds q_t_had q_t_worth q_t_wants q_t_readHolds q_t_readHad q_t_readWorth q_t_rows q_t_kept q_t_isKept q_t_sort q_t_took q_t_tried q_t_planned q_t_from q_t_best q_t_outcome q_t_value q_t_act o_t_thrown t_textSize t_place t_people t_readPeople t_acts t_sights t_longest t_shortest t_runs t_came t_bestMore t_had) o_r) (va_A (wlX11_had cI cZ cO q_t q_t_text q_t_holds q_t_had q_t_worth q_t_wants q_t_readHolds q_t_readHad q_t_readWorth q_t_rows q_t_kept q_t_isKept q_t_sort q_t_took q_t_tried q_t_planned q_t_from q_t_best q_t_outcome q_t_value q_t_act t_thrown t_textSize t_place t_people t_readPeople t_acts t_sights t_longest t_shortest t_runs t_came t_bestMore t_had) sz)) 0 0 (va_A (wlX11_had cI cZ cO q_t q_t_text q_t_holds q_t_had q_t_worth q_t_wants q_t_readHolds q_t_readHad q_t_readWorth q_t_rows q_t_kept q_t_isKept q_t_sort q_t_took q_t_tried q_t_planned q_t_from q_t_best q_t_outcome q_t_value q_t_act t_thrown t_textSize t_place t_people t_readPeople t_acts t_sights t_longest t_shortest t_runs t_came t_bestMore t_had) sz) := by
  unfold fX11_had at h
  refine nh_met (cc := cX11_had) (maxL := 2) (ret := (some .int)) (nh_Qi D (wlX11_had cI cZ cO q_t q_t_text q_t_holds q_t_had q_t_worth q_t_wants q_t_readHolds q_t_readHad q_t_readWorth q_t_rows q_t_kept q_t_isKept q_t_sort q_t_took q_t_tried q_t_planned q_t_from q_t_best q_t_outcome q_t_value q_t_act o_t_thrown t_textSize t_place t_people t_readPeople t_acts t_sights t_longest t_shortest t_runs t_came t_bestMore t_had) o_r) (by decide) rfl (Nat.le_of_ble_eq_true rfl) ?_
  intro p e s m args below meth c A H locs ls hx hb hml hr hown hts hlocks hinit hP hK hN hD hA hS hl
  have hl : lv_has ls 2 [(0, .ref q_t), (1, .int i1)] := hl
  have hts : ∀ w ∈ nh_words, w.before args s = true := fun w h => hts w (List.mem_cons_of_mem _ h)
  refine lv_aload_n hx hb dX11_had_0 rfl (lv_at hl 0 rfl) ?_
  refine lv_iconst (v := 0) hx hb dX11_had_1 (by decide) ?_
  refine va_put (D := D) (ci := 10) (v := .int 0) (ty := .int) (C := RX11) (T := TX11) (N := 32) hx hb hts nhu_X11 tyX11 tyX11_ok nmX11 hown hK hP hD hS 0 rfl rfl 0 (by decide) (hts _ nhw_258) (fun _ h9 => h9) rfl (by decide +kernel) rfl rfl (Nat.le_of_ble_eq_true rfl) dX11_had_2 (fun H locs hP hD hS => ?_)
  have hP : va_P D vwCl (wlX11_had cI cZ cO q_t q_t_text q_t_holds q_t_had q_t_worth q_t_wants q_t_readHolds q_t_readHad q_t_readWorth q_t_rows q_t_kept q_t_isKept q_t_sort q_t_took q_t_tried q_t_planned q_t_from q_t_best q_t_outcome q_t_value q_t_act 0 t_textSize t_place t_people t_readPeople t_acts t_sights t_longest t_shortest t_runs t_came t_bestMore t_had) H := hP
  have hD : va_D A (wlX11_had cI cZ cO q_t q_t_text q_t_holds q_t_had q_t_worth q_t_wants q_t_readHolds q_t_readHad q_t_readWorth q_t_rows q_t_kept q_t_isKept q_t_sort q_t_took q_t_tried q_t_planned q_t_from q_t_best q_t_outcome q_t_value q_t_act 0 t_textSize t_place t_people t_readPeople t_acts t_sights t_longest t_shortest t_runs t_came t_bestMore t_had) := hD
  refine lv_aload_n hx hb dX11_had_5 rfl (lv_at hl 0 rfl) ?_
  refine lv_iload_n hx hb dX11_had_6 rfl (lv_at hl 1 rfl) ?_
  refine nh_goi (nh_V (As := [.int i1]) (rest := []) ⟨hx, hb, hml, hown, hts⟩ (kX11_noOne  l D cI cZ cO H.size q_t q_t_text q_t_holds q_t_had q_t_worth q_t_wants q_t_readHolds q_t_readHad q_t_readWorth q_t_rows q_t_kept q_t_isKept q_t_sort q_t_took q_t_tried q_t_planned q_t_from q_t_best q_t_outcome q_t_value q_t_act 0 t_textSize t_place t_people t_readPeople t_acts t_sights t_longest t_shortest t_runs t_came t_bestMore i1 (fX11_noOne t_people i1) rfl) (cwV 1 hts (nh_gV nhw_594 nhw_390 nhw_758 nhw_305 nhw_98) rfl rfl rfl (by decide +kernel) ⟨Nat.le_of_ble_eq_true rfl, Nat.le_of_ble_eq_true rfl⟩) hK hN hP hD (isC := [0]) rfl rfl 0 10 rfl rfl rfl rfl hl.1 rfl (Nat.le_of_ble_eq_true rfl) dX11_had_7 ⟨Nat.zero_le _, Nat.zero_le _⟩) hP hD hS hA (isC := [0]) rfl rfl rfl (w' := (wlX11_had cI cZ cO q_t q_t_text q_t_holds q_t_had q_t_worth q_t_wants q_t_readHolds q_t_readHad q_t_readWorth q_t_rows q_t_kept q_t_isKept q_t_sort q_t_took q_t_tried q_t_planned q_t_from q_t_best q_t_outcome q_t_value q_t_act 0 t_textSize t_place t_people t_readPeople t_acts t_sights t_longest t_shortest t_runs t_came t_bestMore t_had)) rfl (fun H locs hP hD hS => ?_)
  refine lv_if_eq (tgt := 17) hx hb dX11_had_10 (by decide) (fun c1 => ?_) (fun c1 => ?_)
  · replace h := nh_t h c1
    refine lv_aload_n hx hb dX11_had_17 rfl (lv_at hl 0 rfl) ?_
    refine va_get (D := D) (ci := 10) (v := .ref q_t_had) (C := RX11) (T := TX11) (N := 32) hx hb hts nhu_X11 hown hK hP 0 rfl rfl 6 (by decide) (hts _ nhw_234) (fun _ h9 => h9) rfl dX11_had_18 ?_
    refine lv_iload_n hx hb dX11_had_21 rfl (lv_at hl 1 rfl) ?_
    obtain ⟨z2, h⟩ := nh_chk_some h
    refine va_iald hx hb hK hP 1 0 rfl rfl (nh_in_in z2) dX11_had_22 ?_
    obtain ⟨g0, g1⟩ := nh_i2 h
    exact nh_ri hx hb hr hlocks g0 (by rw [← g1]; exact hP) hS dX11_had_23
  · replace h := nh_f h c1
    refine lv_iconst (v := (-1)) hx hb dX11_had_13 (by decide) ?_
    refine lv_goto (tgt := 23) hx hb dX11_had_14 (by decide) ?_
    obtain ⟨g0, g1⟩ := nh_i2 h
    exact nh_ri hx hb hr hlocks g0 (by rw [← g1]; exact hP) hS dX11_had_23
abbrev wlX11_worth (cI cZ cO : ClassId) (q_t q_t_text q_t_holds q_t_had q_t_worth q_t_wants q_t_readHolds q_t_readHad q_t_readWorth q_t_rows q_t_kept q_t_isKept q_t_sort q_t_took q_t_tried q_t_planned q_t_from q_t_best q_t_outcome q_t_value q_t_act : Nat) (t_thrown : Int32) (t_textSize : Int32) (t_place : Int32) (t_people : Int32) (t_readPeople : Int32) (t_acts : Int32) (t_sights : Int32) (t_longest : Int32) (t_shortest : Int32) (t_runs : Int32) (t_came : Int32) (t_bestMore : Int32) (t_worth : Nat → Int32) : va_W := [(q_t, .inr (10, [.int t_thrown, .ref q_t_text, .int t_textSize, .int t_place, .int t_people, .ref q_t_holds, .ref q_t_had, .ref q_t_worth, .ref q_t_wants, .int t_readPeople, .ref q_t_readHolds, .ref q_t_readHad, .ref q_t_readWorth, .ref q_t_rows, .int t_acts, .ref q_t_kept, .ref q_t_isKept, .int t_sights, .ref q_t_sort, .ref q_t_took, .ref q_t_tried, .int t_longest, .int t_shortest, .int t_runs, .int t_came, .ref q_t_planned, .ref q_t_from, .ref q_t_best, .int t_bestMore, .ref q_t_outcome, .ref q_t_value, .ref q_t_act])), (q_t_worth, .inl (cI, 24, .inl t_worth))]
def fX11_worth (t_thrown : Int32) (t_people : Int32) (t_worth : Nat → Int32) (i1 : Int32) (i2 : Int32) : Option (Int32 × Int32) :=
  (if (fX11_noOne t_people i1) = 0 then (if (fX11_noSort i2) = 0 then nh_chk (nh_in ((6 * i1) + i2) 24) (some ((t_worth (Int32.toNatClampNeg ((6 * i1) + i2))), 0))
 else some ((-1), 0))
 else some ((-1), 0))
set_option maxHeartbeats 4000000 in
set_option maxRecDepth 100000 in
theorem kX11_worth (l : Launch) (D : va_G) (cI cZ cO : ClassId) (sz : Nat) (q_t q_t_text q_t_holds q_t_had q_t_worth q_t_wants q_t_readHolds q_t_readHad q_t_readWorth q_t_rows q_t_kept q_t_isKept q_t_sort q_t_took q_t_tried q_t_planned q_t_from q_t_best q_t_outcome q_t_value q_t_act : Nat) (t_thrown : Int32) (t_textSize : Int32) (t_place : Int32) (t_people : Int32) (t_readPeople : Int32) (t_acts : Int32) (t_sights : Int32) (t_longest : Int32) (t_shortest : Int32) (t_runs : Int32) (t_came : Int32) (t_bestMore : Int32) (t_worth : Nat → Int32) (i1 : Int32) (i2 : Int32) (o_r : Int32) (o_t_thrown : Int32) (h : fX11_worth t_thrown t_people t_worth i1 i2 = some (o_r, o_t_thrown)) : Met l yX11_worth (nh_w (.code yX11_worth cX11_worth 3 (some .int))) (nh_rm 2) (nh_Pc D cI cZ cO (wlX11_worth cI cZ cO q_t q_t_text q_t_holds q_t_had q_t_worth q_t_wants q_t_readHolds q_t_readHad q_t_readWorth q_t_rows q_t_kept q_t_isKept q_t_sort q_t_took q_t_tried q_t_planned q_t_from q_t_best q_t_outcome q_t_value q_t_act t_thrown t_textSize t_place t_people t_readPeople t_acts t_sights t_longest t_shortest t_runs t_came t_bestMore t_worth) [.ref q_t, .int i1, .int i2] sz) ((nh_Qi D (wlX11_worth cI cZ cO q_t q_t_text q_t_holds q_t_had q_t_worth q_t_wants q_t_readHolds q_t_readHad q_t_readWorth q_t_rows q_t_kept q_t_isKept q_t_sort q_t_took q_t_tried q_t_planned q_t_from q_t_best q_t_outcome q_t_value q_t_act o_t_thrown t_textSize t_place t_people t_readPeople t_acts t_sights t_longest t_shortest t_runs t_came t_bestMore t_worth) o_r) (va_A (wlX11_worth cI cZ cO q_t q_t_text q_t_holds q_t_had q_t_worth q_t_wants q_t_readHolds q_t_readHad q_t_readWorth q_t_rows q_t_kept q_t_isKept q_t_sort q_t_took q_t_tried q_t_planned q_t_from q_t_best q_t_outcome q_t_value q_t_act t_thrown t_textSize t_place t_people t_readPeople t_acts t_sights t_longest t_shortest t_runs t_came t_bestMore t_worth) sz)) 0 0 (va_A (wlX11_worth cI cZ cO q_t q_t_text q_t_holds q_t_had q_t_worth q_t_wants q_t_readHolds q_t_readHad q_t_readWorth q_t_rows q_t_kept q_t_isKept q_t_sort q_t_took q_t_tried q_t_planned q_t_from q_t_best q_t_outcome q_t_value q_t_act t_thrown t_textSize t_place t_people t_readPeople t_acts t_sights t_longest t_shortest t_runs t_came t_bestMore t_worth) sz) := by
  unfold fX11_worth at h
  refine nh_met (cc := cX11_worth) (maxL := 3) (ret := (some .int)) (nh_Qi D (wlX11_worth cI cZ cO q_t q_t_text q_t_holds q_t_had q_t_worth q_t_wants q_t_readHolds q_t_readHad q_t_readWorth q_t_rows q_t_kept q_t_isKept q_t_sort q_t_took q_t_tried q_t_planned q_t_from q_t_best q_t_outcome q_t_value q_t_act o_t_thrown t_textSize t_place t_people t_readPeople t_acts t_sights t_longest t_shortest t_runs t_came t_bestMore t_worth) o_r) (by decide) rfl (Nat.le_of_ble_eq_true rfl) ?_
  intro p e s m args below meth c A H locs ls hx hb hml hr hown hts hlocks hinit hP hK hN hD hA hS hl
  have hl : lv_has ls 3 [(0, .ref q_t), (1, .int i1), (2, .int i2)] := hl
  have hts : ∀ w ∈ nh_words, w.before args s = true := fun w h => hts w (List.mem_cons_of_mem _ h)
  refine lv_aload_n hx hb dX11_worth_0 rfl (lv_at hl 0 rfl) ?_
  refine lv_iconst (v := 0) hx hb dX11_worth_1 (by decide) ?_
  refine va_put (D := D) (ci := 10) (v := .int 0) (ty := .int) (C := RX11) (T := TX11) (N := 32) hx hb hts nhu_X11 tyX11 tyX11_ok nmX11 hown hK hP hD hS 0 rfl rfl 0 (by decide) (hts _ nhw_258) (fun _ h9 => h9) rfl (by decide +kernel) rfl rfl (Nat.le_of_ble_eq_true rfl) dX11_worth_2 (fun H locs hP hD hS => ?_)
  have hP : va_P D vwCl (wlX11_worth cI cZ cO q_t q_t_text q_t_holds q_t_had q_t_worth q_t_wants q_t_readHolds q_t_readHad q_t_readWorth q_t_rows q_t_kept q_t_isKept q_t_sort q_t_took q_t_tried q_t_planned q_t_from q_t_best q_t_outcome q_t_value q_t_act 0 t_textSize t_place t_people t_readPeople t_acts t_sights t_longest t_shortest t_runs t_came t_bestMore t_worth) H := hP
  have hD : va_D A (wlX11_worth cI cZ cO q_t q_t_text q_t_holds q_t_had q_t_worth q_t_wants q_t_readHolds q_t_readHad q_t_readWorth q_t_rows q_t_kept q_t_isKept q_t_sort q_t_took q_t_tried q_t_planned q_t_from q_t_best q_t_outcome q_t_value q_t_act 0 t_textSize t_place t_people t_readPeople t_acts t_sights t_longest t_shortest t_runs t_came t_bestMore t_worth) := hD
  refine lv_aload_n hx hb dX11_worth_5 rfl (lv_at hl 0 rfl) ?_
  refine lv_iload_n hx hb dX11_worth_6 rfl (lv_at hl 1 rfl) ?_
  refine nh_goi (nh_V (As := [.int i1]) (rest := []) ⟨hx, hb, hml, hown, hts⟩ (kX11_noOne  l D cI cZ cO H.size q_t q_t_text q_t_holds q_t_had q_t_worth q_t_wants q_t_readHolds q_t_readHad q_t_readWorth q_t_rows q_t_kept q_t_isKept q_t_sort q_t_took q_t_tried q_t_planned q_t_from q_t_best q_t_outcome q_t_value q_t_act 0 t_textSize t_place t_people t_readPeople t_acts t_sights t_longest t_shortest t_runs t_came t_bestMore i1 (fX11_noOne t_people i1) rfl) (cwV 1 hts (nh_gV nhw_594 nhw_390 nhw_758 nhw_305 nhw_98) rfl rfl rfl (by decide +kernel) ⟨Nat.le_of_ble_eq_true rfl, Nat.le_of_ble_eq_true rfl⟩) hK hN hP hD (isC := [0]) rfl rfl 0 10 rfl rfl rfl rfl hl.1 rfl (Nat.le_of_ble_eq_true rfl) dX11_worth_7 ⟨Nat.zero_le _, Nat.zero_le _⟩) hP hD hS hA (isC := [0]) rfl rfl rfl (w' := (wlX11_worth cI cZ cO q_t q_t_text q_t_holds q_t_had q_t_worth q_t_wants q_t_readHolds q_t_readHad q_t_readWorth q_t_rows q_t_kept q_t_isKept q_t_sort q_t_took q_t_tried q_t_planned q_t_from q_t_best q_t_outcome q_t_value q_t_act 0 t_textSize t_place t_people t_readPeople t_acts t_sights t_longest t_shortest t_runs t_came t_bestMore t_worth)) rfl (fun H locs hP hD hS => ?_)
  refine lv_if_ne (tgt := 20) hx hb dX11_worth_10 (by decide) (fun c1 => ?_) (fun c1 => ?_)
  · replace h := nh_f h c1
    refine lv_iconst (v := (-1)) hx hb dX11_worth_20 (by decide) ?_
    refine lv_goto (tgt := 35) hx hb dX11_worth_21 (by decide) ?_
    obtain ⟨g0, g1⟩ := nh_i2 h
    exact nh_ri hx hb hr hlocks g0 (by rw [← g1]; exact hP) hS dX11_worth_35
  · replace h := nh_t h c1
    refine lv_iload_n hx hb dX11_worth_13 rfl (lv_at hl 2 rfl) ?_
    refine nh_goi (nh_S (As := [.int i2]) (rest := []) ⟨hx, hb, hml, hown, hts⟩ (kX11_noSort  l D cI cZ cO H.size i2 (fX11_noSort i2) rfl) (va_cwS 1 hts (nh_gS nhw_595 nhw_810 nhw_305 nhw_99) rfl rfl rfl (by decide +kernel) ⟨Nat.le_of_ble_eq_true rfl, Nat.le_of_ble_eq_true rfl⟩) hK hN hP hD (isC := []) rfl rfl rfl hl.1 rfl (Nat.le_of_ble_eq_true rfl) dX11_worth_14 ⟨Nat.zero_le _, Nat.zero_le _⟩) hP hD hS hA (isC := []) rfl rfl rfl (w' := (wlX11_worth cI cZ cO q_t q_t_text q_t_holds q_t_had q_t_worth q_t_wants q_t_readHolds q_t_readHad q_t_readWorth q_t_rows q_t_kept q_t_isKept q_t_sort q_t_took q_t_tried q_t_planned q_t_from q_t_best q_t_outcome q_t_value q_t_act 0 t_textSize t_place t_people t_readPeople t_acts t_sights t_longest t_shortest t_runs t_came t_bestMore t_worth)) rfl (fun H locs hP hD hS => ?_)
    refine lv_if_eq (tgt := 24) hx hb dX11_worth_17 (by decide) (fun c2 => ?_) (fun c2 => ?_)
    · replace h := nh_t h c2
      refine lv_aload_n hx hb dX11_worth_24 rfl (lv_at hl 0 rfl) ?_
      refine va_get (D := D) (ci := 10) (v := .ref q_t_worth) (C := RX11) (T := TX11) (N := 32) hx hb hts nhu_X11 hown hK hP 0 rfl rfl 7 (by decide) (hts _ nhw_240) (fun _ h9 => h9) rfl dX11_worth_25 ?_
      refine lv_bipush (v := 6) hx hb dX11_worth_28 (by decide) ?_
      refine lv_iload_n hx hb dX11_worth_30 rfl (lv_at hl 1 rfl) ?_
      refine lv_imul hx hb dX11_worth_31 ?_
      refine lv_iload_n hx hb dX11_worth_32 rfl (lv_at hl 2 rfl) ?_
      refine lv_iadd hx hb dX11_worth_33 ?_
      obtain ⟨z3, h⟩ := nh_chk_some h
      refine va_iald hx hb hK hP 1 0 rfl rfl (nh_in_in z3) dX11_worth_34 ?_
      obtain ⟨g0, g1⟩ := nh_i2 h
      exact nh_ri hx hb hr hlocks g0 (by rw [← g1]; exact hP) hS dX11_worth_35
    · replace h := nh_f h c2
      refine lv_iconst (v := (-1)) hx hb dX11_worth_20 (by decide) ?_
      refine lv_goto (tgt := 35) hx hb dX11_worth_21 (by decide) ?_
      obtain ⟨g0, g1⟩ := nh_i2 h
      exact nh_ri hx hb hr hlocks g0 (by rw [← g1]; exact hP) hS dX11_worth_35
abbrev wlX11_value (cI cZ cO : ClassId) (q_t q_t_text q_t_holds q_t_had q_t_worth q_t_wants q_t_readHolds q_t_readHad q_t_readWorth q_t_rows q_t_kept q_t_isKept q_t_sort q_t_took q_t_tried q_t_planned q_t_from q_t_best q_t_outcome q_t_value q_t_act : Nat) (t_thrown : Int32) (t_textSize : Int32) (t_place : Int32) (t_people : Int32) (t_readPeople : Int32) (t_acts : Int32) (t_sights : Int32) (t_longest : Int32) (t_shortest : Int32) (t_runs : Int32) (t_came : Int32) (t_bestMore : Int32) (t_worth : Nat → Int32) : va_W := [(q_t, .inr (10, [.int t_thrown, .ref q_t_text, .int t_textSize, .int t_place, .int t_people, .ref q_t_holds, .ref q_t_had, .ref q_t_worth, .ref q_t_wants, .int t_readPeople, .ref q_t_readHolds, .ref q_t_readHad, .ref q_t_readWorth, .ref q_t_rows, .int t_acts, .ref q_t_kept, .ref q_t_isKept, .int t_sights, .ref q_t_sort, .ref q_t_took, .ref q_t_tried, .int t_longest, .int t_shortest, .int t_runs, .int t_came, .ref q_t_planned, .ref q_t_from, .ref q_t_best, .int t_bestMore, .ref q_t_outcome, .ref q_t_value, .ref q_t_act])), (q_t_worth, .inl (cI, 24, .inl t_worth))]
def fX11_value (t_thrown : Int32) (t_people : Int32) (t_worth : Nat → Int32) (i1 : Int32) (i2 : Int32) (i3 : Int32) : Option (Int32 × Int32 × (Nat → Int32)) :=
  (if (fX11_noOne t_people i1) = 0 then (if (fX11_noSort i2) = 0 then (if (fX11_in (Int32.toInt64 i3) 0 9) = 0 then some ((-2), 0, t_worth)
 else nh_chk (nh_in ((6 * i1) + i2) 24) (nh_let (α := Int32) ((t_worth (Int32.toNatClampNeg ((6 * i1) + i2)))) (fun y_5 => nh_chk (nh_in ((6 * i1) + i2) 24) (nh_let (α := Nat → Int32) (upd t_worth (Int32.toNatClampNeg ((6 * i1) + i2)) i3) (fun t_worth_7 => some (y_5, 0, t_worth_7))))))
 else some ((-1), 0, t_worth))
 else some ((-1), 0, t_worth))
set_option maxHeartbeats 4000000 in
set_option maxRecDepth 100000 in
theorem kX11_value (l : Launch) (D : va_G) (cI cZ cO : ClassId) (sz : Nat) (q_t q_t_text q_t_holds q_t_had q_t_worth q_t_wants q_t_readHolds q_t_readHad q_t_readWorth q_t_rows q_t_kept q_t_isKept q_t_sort q_t_took q_t_tried q_t_planned q_t_from q_t_best q_t_outcome q_t_value q_t_act : Nat) (t_thrown : Int32) (t_textSize : Int32) (t_place : Int32) (t_people : Int32) (t_readPeople : Int32) (t_acts : Int32) (t_sights : Int32) (t_longest : Int32) (t_shortest : Int32) (t_runs : Int32) (t_came : Int32) (t_bestMore : Int32) (t_worth : Nat → Int32) (i1 : Int32) (i2 : Int32) (i3 : Int32) (o_r : Int32) (o_t_thrown : Int32) (o_t_worth : Nat → Int32) (h : fX11_value t_thrown t_people t_worth i1 i2 i3 = some (o_r, o_t_thrown, o_t_worth)) : Met l yX11_value (nh_w (.code yX11_value cX11_value 5 (some .int))) (nh_rm 2) (nh_Pc D cI cZ cO (wlX11_value cI cZ cO q_t q_t_text q_t_holds q_t_had q_t_worth q_t_wants q_t_readHolds q_t_readHad q_t_readWorth q_t_rows q_t_kept q_t_isKept q_t_sort q_t_took q_t_tried q_t_planned q_t_from q_t_best q_t_outcome q_t_value q_t_act t_thrown t_textSize t_place t_people t_readPeople t_acts t_sights t_longest t_shortest t_runs t_came t_bestMore t_worth) [.ref q_t, .int i1, .int i2, .int i3] sz) ((nh_Qi D (wlX11_value cI cZ cO q_t q_t_text q_t_holds q_t_had q_t_worth q_t_wants q_t_readHolds q_t_readHad q_t_readWorth q_t_rows q_t_kept q_t_isKept q_t_sort q_t_took q_t_tried q_t_planned q_t_from q_t_best q_t_outcome q_t_value q_t_act o_t_thrown t_textSize t_place t_people t_readPeople t_acts t_sights t_longest t_shortest t_runs t_came t_bestMore o_t_worth) o_r) (va_A (wlX11_value cI cZ cO q_t q_t_text q_t_holds q_t_had q_t_worth q_t_wants q_t_readHolds q_t_readHad q_t_readWorth q_t_rows q_t_kept q_t_isKept q_t_sort q_t_took q_t_tried q_t_planned q_t_from q_t_best q_t_outcome q_t_value q_t_act t_thrown t_textSize t_place t_people t_readPeople t_acts t_sights t_longest t_shortest t_runs t_came t_bestMore t_worth) sz)) 0 0 (va_A (wlX11_value cI cZ cO q_t q_t_text q_t_holds q_t_had q_t_worth q_t_wants q_t_readHolds q_t_readHad q_t_readWorth q_t_rows q_t_kept q_t_isKept q_t_sort q_t_took q_t_tried q_t_planned q_t_from q_t_best q_t_outcome q_t_value q_t_act t_thrown t_textSize t_place t_people t_readPeople t_acts t_sights t_longest t_shortest t_runs t_came t_bestMore t_worth) sz) := by
  unfold fX11_value at h
  refine nh_met (cc := cX11_value) (maxL := 5) (ret := (some .int)) (nh_Qi D (wlX11_value cI cZ cO q_t q_t_text q_t_holds q_t_had q_t_worth q_t_wants q_t_readHolds q_t_readHad q_t_readWorth q_t_rows q_t_kept q_t_isKept q_t_sort q_t_took q_t_tried q_t_planned q_t_from q_t_best q_t_outcome q_t_value q_t_act o_t_thrown t_textSize t_place t_people t_readPeople t_acts t_sights t_longest t_shortest t_runs t_came t_bestMore o_t_worth) o_r) (by decide) rfl (Nat.le_of_ble_eq_true rfl) ?_
  intro p e s m args below meth c A H locs ls hx hb hml hr hown hts hlocks hinit hP hK hN hD hA hS hl
  have hl : lv_has ls 5 [(0, .ref q_t), (1, .int i1), (2, .int i2), (3, .int i3)] := hl
  have hts : ∀ w ∈ nh_words, w.before args s = true := fun w h => hts w (List.mem_cons_of_mem _ h)
  refine lv_aload_n hx hb dX11_value_0 rfl (lv_at hl 0 rfl) ?_
  refine lv_iconst (v := 0) hx hb dX11_value_1 (by decide) ?_
  refine va_put (D := D) (ci := 10) (v := .int 0) (ty := .int) (C := RX11) (T := TX11) (N := 32) hx hb hts nhu_X11 tyX11 tyX11_ok nmX11 hown hK hP hD hS 0 rfl rfl 0 (by decide) (hts _ nhw_258) (fun _ h9 => h9) rfl (by decide +kernel) rfl rfl (Nat.le_of_ble_eq_true rfl) dX11_value_2 (fun H locs hP hD hS => ?_)
  have hP : va_P D vwCl (wlX11_value cI cZ cO q_t q_t_text q_t_holds q_t_had q_t_worth q_t_wants q_t_readHolds q_t_readHad q_t_readWorth q_t_rows q_t_kept q_t_isKept q_t_sort q_t_took q_t_tried q_t_planned q_t_from q_t_best q_t_outcome q_t_value q_t_act 0 t_textSize t_place t_people t_readPeople t_acts t_sights t_longest t_shortest t_runs t_came t_bestMore t_worth) H := hP
  have hD : va_D A (wlX11_value cI cZ cO q_t q_t_text q_t_holds q_t_had q_t_worth q_t_wants q_t_readHolds q_t_readHad q_t_readWorth q_t_rows q_t_kept q_t_isKept q_t_sort q_t_took q_t_tried q_t_planned q_t_from q_t_best q_t_outcome q_t_value q_t_act 0 t_textSize t_place t_people t_readPeople t_acts t_sights t_longest t_shortest t_runs t_came t_bestMore t_worth) := hD
  refine lv_aload_n hx hb dX11_value_5 rfl (lv_at hl 0 rfl) ?_
  refine lv_iload_n hx hb dX11_value_6 rfl (lv_at hl 1 rfl) ?_
  refine nh_goi (nh_V (As := [.int i1]) (rest := []) ⟨hx, hb, hml, hown, hts⟩ (kX11_noOne  l D cI cZ cO H.size q_t q_t_text q_t_holds q_t_had q_t_worth q_t_wants q_t_readHolds q_t_readHad q_t_readWorth q_t_rows q_t_kept q_t_isKept q_t_sort q_t_took q_t_tried q_t_planned q_t_from q_t_best q_t_outcome q_t_value q_t_act 0 t_textSize t_place t_people t_readPeople t_acts t_sights t_longest t_shortest t_runs t_came t_bestMore i1 (fX11_noOne t_people i1) rfl) (cwV 1 hts (nh_gV nhw_594 nhw_390 nhw_758 nhw_305 nhw_98) rfl rfl rfl (by decide +kernel) ⟨Nat.le_of_ble_eq_true rfl, Nat.le_of_ble_eq_true rfl⟩) hK hN hP hD (isC := [0]) rfl rfl 0 10 rfl rfl rfl rfl hl.1 rfl (Nat.le_of_ble_eq_true rfl) dX11_value_7 ⟨Nat.zero_le _, Nat.zero_le _⟩) hP hD hS hA (isC := [0]) rfl rfl rfl (w' := (wlX11_value cI cZ cO q_t q_t_text q_t_holds q_t_had q_t_worth q_t_wants q_t_readHolds q_t_readHad q_t_readWorth q_t_rows q_t_kept q_t_isKept q_t_sort q_t_took q_t_tried q_t_planned q_t_from q_t_best q_t_outcome q_t_value q_t_act 0 t_textSize t_place t_people t_readPeople t_acts t_sights t_longest t_shortest t_runs t_came t_bestMore t_worth)) rfl (fun H locs hP hD hS => ?_)
  refine lv_if_ne (tgt := 20) hx hb dX11_value_10 (by decide) (fun c1 => ?_) (fun c1 => ?_)
  · replace h := nh_f h c1
    refine lv_iconst (v := (-1)) hx hb dX11_value_20 (by decide) ?_
    obtain ⟨g0, g1, g2⟩ := nh_i3 h
    exact nh_ri hx hb hr hlocks g0 (by rw [← g1, ← g2]; exact hP) hS dX11_value_21
  · replace h := nh_t h c1
    refine lv_iload_n hx hb dX11_value_13 rfl (lv_at hl 2 rfl) ?_
    refine nh_goi (nh_S (As := [.int i2]) (rest := []) ⟨hx, hb, hml, hown, hts⟩ (kX11_noSort  l D cI cZ cO H.size i2 (fX11_noSort i2) rfl) (va_cwS 1 hts (nh_gS nhw_595 nhw_810 nhw_305 nhw_99) rfl rfl rfl (by decide +kernel) ⟨Nat.le_of_ble_eq_true rfl, Nat.le_of_ble_eq_true rfl⟩) hK hN hP hD (isC := []) rfl rfl rfl hl.1 rfl (Nat.le_of_ble_eq_true rfl) dX11_value_14 ⟨Nat.zero_le _, Nat.zero_le _⟩) hP hD hS hA (isC := []) rfl rfl rfl (w' := (wlX11_value cI cZ cO q_t q_t_text q_t_holds q_t_had q_t_worth q_t_wants q_t_readHolds q_t_readHad q_t_readWorth q_t_rows q_t_kept q_t_isKept q_t_sort q_t_took q_t_tried q_t_planned q_t_from q_t_best q_t_outcome q_t_value q_t_act 0 t_textSize t_place t_people t_readPeople t_acts t_sights t_longest t_shortest t_runs t_came t_bestMore t_worth)) rfl (fun H locs hP hD hS => ?_)
    refine lv_if_eq (tgt := 22) hx hb dX11_value_17 (by decide) (fun c2 => ?_) (fun c2 => ?_)
    · replace h := nh_t h c2
      refine lv_iload_n hx hb dX11_value_22 rfl (lv_at hl 3 rfl) ?_
      refine lv_i2l hx hb dX11_value_23 rfl ?_
      refine lv_lconst (v := 0) hx hb dX11_value_24 rfl ?_
      refine lv_ldc2 (v := 9) hx hb hown (hts _ nhw_189) dX11_value_25 ?_
      refine nh_goi (nh_S (As := [.long (Int32.toInt64 i3), .long 0, .long 9]) (rest := []) ⟨hx, hb, hml, hown, hts⟩ (kX11_in  l D cI cZ cO H.size (Int32.toInt64 i3) 0 9 (fX11_in (Int32.toInt64 i3) 0 9) rfl) (va_cwS 3 hts (nh_gS nhw_613 nhw_809 nhw_305 nhw_82) rfl rfl rfl (by decide +kernel) ⟨Nat.le_of_ble_eq_true rfl, Nat.le_of_ble_eq_true rfl⟩) hK hN hP hD (isC := []) rfl rfl rfl hl.1 rfl (Nat.le_of_ble_eq_true rfl) dX11_value_28 ⟨Nat.zero_le _, Nat.zero_le _⟩) hP hD hS hA (isC := []) rfl rfl rfl (w' := (wlX11_value cI cZ cO q_t q_t_text q_t_holds q_t_had q_t_worth q_t_wants q_t_readHolds q_t_readHad q_t_readWorth q_t_rows q_t_kept q_t_isKept q_t_sort q_t_took q_t_tried q_t_planned q_t_from q_t_best q_t_outcome q_t_value q_t_act 0 t_textSize t_place t_people t_readPeople t_acts t_sights t_longest t_shortest t_runs t_came t_bestMore t_worth)) rfl (fun H locs hP hD hS => ?_)
      refine lv_if_ne (tgt := 37) hx hb dX11_value_31 (by decide) (fun c3 => ?_) (fun c3 => ?_)
      · replace h := nh_f h c3
        refine lv_aload_n hx hb dX11_value_37 rfl (lv_at hl 0 rfl) ?_
        refine va_get (D := D) (ci := 10) (v := .ref q_t_worth) (C := RX11) (T := TX11) (N := 32) hx hb hts nhu_X11 hown hK hP 0 rfl rfl 7 (by decide) (hts _ nhw_240) (fun _ h9 => h9) rfl dX11_value_38 ?_
        refine lv_bipush (v := 6) hx hb dX11_value_41 (by decide) ?_
        refine lv_iload_n hx hb dX11_value_43 rfl (lv_at hl 1 rfl) ?_
        refine lv_imul hx hb dX11_value_44 ?_
        refine lv_iload_n hx hb dX11_value_45 rfl (lv_at hl 2 rfl) ?_
        refine lv_iadd hx hb dX11_value_46 ?_
        obtain ⟨z4, h⟩ := nh_chk_some h
        refine va_iald hx hb hK hP 1 0 rfl rfl (nh_in_in z4) dX11_value_47 ?_
        refine lv_topi (fun y_5 ey_5 => ?_)
        replace h := nh_to h ey_5
        refine lv_istore (lv' := [(4, .int y_5), (0, .ref q_t), (1, .int i1), (2, .int i2), (3, .int i3)]) hx hb dX11_value_48 hl (by decide) rfl (fun ls hl => ?_)
        refine lv_aload_n hx hb dX11_value_50 rfl (lv_at hl 1 rfl) ?_
        refine va_get (D := D) (ci := 10) (v := .ref q_t_worth) (C := RX11) (T := TX11) (N := 32) hx hb hts nhu_X11 hown hK hP 0 rfl rfl 7 (by decide) (hts _ nhw_240) (fun _ h9 => h9) rfl dX11_value_51 ?_
        refine lv_bipush (v := 6) hx hb dX11_value_54 (by decide) ?_
        refine lv_iload_n hx hb dX11_value_56 rfl (lv_at hl 2 rfl) ?_
        refine lv_imul hx hb dX11_value_57 ?_
        refine lv_iload_n hx hb dX11_value_58 rfl (lv_at hl 3 rfl) ?_
        refine lv_iadd hx hb dX11_value_59 ?_
        refine lv_iload_n hx hb dX11_value_60 rfl (lv_at hl 4 rfl) ?_
        obtain ⟨z6, h⟩ := nh_chk_some h
        refine va_iast hx hb hK hP hD hS 1 0 rfl rfl (nh_in_in z6) dX11_value_61 (fun H locs hP hD hS => ?_)
        obtain ⟨t_worth_7, et_worth_7⟩ : ∃ y : Nat → Int32, y = upd t_worth (Int32.toNatClampNeg ((6 * i1) + i2)) i3 := ⟨_, rfl⟩
        replace h := nh_to h et_worth_7
        have hP : va_P D vwCl (wlX11_value cI cZ cO q_t q_t_text q_t_holds q_t_had q_t_worth q_t_wants q_t_readHolds q_t_readHad q_t_readWorth q_t_rows q_t_kept q_t_isKept q_t_sort q_t_took q_t_tried q_t_planned q_t_from q_t_best q_t_outcome q_t_value q_t_act 0 t_textSize t_place t_people t_readPeople t_acts t_sights t_longest t_shortest t_runs t_came t_bestMore t_worth_7) H := by rw [et_worth_7]; exact hP
        have hD : va_D A (wlX11_value cI cZ cO q_t q_t_text q_t_holds q_t_had q_t_worth q_t_wants q_t_readHolds q_t_readHad q_t_readWorth q_t_rows q_t_kept q_t_isKept q_t_sort q_t_took q_t_tried q_t_planned q_t_from q_t_best q_t_outcome q_t_value q_t_act 0 t_textSize t_place t_people t_readPeople t_acts t_sights t_longest t_shortest t_runs t_came t_bestMore t_worth_7) := by rw [et_worth_7]; exact hD
        refine lv_iload hx hb dX11_value_62 (lv_at hl 0 rfl) ?_
        obtain ⟨g0, g1, g2⟩ := nh_i3 h
        exact nh_ri hx hb hr hlocks g0 (by rw [← g1, ← g2]; exact hP) hS dX11_value_64
      · replace h := nh_t h c3
        refine lv_bipush (v := (-2)) hx hb dX11_value_34 (by decide) ?_
        obtain ⟨g0, g1, g2⟩ := nh_i3 h
        exact nh_ri hx hb hr hlocks g0 (by rw [← g1, ← g2]; exact hP) hS dX11_value_36
    · replace h := nh_f h c2
      refine lv_iconst (v := (-1)) hx hb dX11_value_20 (by decide) ?_
      obtain ⟨g0, g1, g2⟩ := nh_i3 h
      exact nh_ri hx hb hr hlocks g0 (by rw [← g1, ← g2]; exact hP) hS dX11_value_21
abbrev wlX11_mayAt (cI cZ cO : ClassId) (q_t q_t_text q_t_holds q_t_had q_t_worth q_t_wants q_t_readHolds q_t_readHad q_t_readWorth q_t_rows q_t_kept q_t_isKept q_t_sort q_t_took q_t_tried q_t_planned q_t_from q_t_best q_t_outcome q_t_value q_t_act : Nat) (t_thrown : Int32) (t_textSize : Int32) (t_place : Int32) (t_people : Int32) (t_readPeople : Int32) (t_acts : Int32) (t_sights : Int32) (t_longest : Int32) (t_shortest : Int32) (t_runs : Int32) (t_came : Int32) (t_bestMore : Int32) (t_had : Nat → Int32) (t_holds : Nat → Int32) : va_W := [(q_t, .inr (10, [.int t_thrown, .ref q_t_text, .int t_textSize, .int t_place, .int t_people, .ref q_t_holds, .ref q_t_had, .ref q_t_worth, .ref q_t_wants, .int t_readPeople, .ref q_t_readHolds, .ref q_t_readHad, .ref q_t_readWorth, .ref q_t_rows, .int t_acts, .ref q_t_kept, .ref q_t_isKept, .int t_sights, .ref q_t_sort, .ref q_t_took, .ref q_t_tried, .int t_longest, .int t_shortest, .int t_runs, .int t_came, .ref q_t_planned, .ref q_t_from, .ref q_t_best, .int t_bestMore, .ref q_t_outcome, .ref q_t_value, .ref q_t_act])), (q_t_had, .inl (cI, 56, .inl t_had)), (q_t_holds, .inl (cI, 56, .inl t_holds))]
def fX11_mayAt (t_had : Nat → Int32) (t_holds : Nat → Int32) (i1 : Int32) (i2 : Int32) (i3 : Int32) : Option (Int32) :=
  nh_chk (nh_in ((4 * i1) + i2) 56) (nh_let (α := Int32) ((t_holds (Int32.toNatClampNeg ((4 * i1) + i2)))) (fun y_2 => nh_chk (nh_in ((4 * i1) + i3) 56) (nh_let (α := Int32) ((t_holds (Int32.toNatClampNeg ((4 * i1) + i3)))) (fun y_4 => (if i2 = i3 then some 0
 else (if y_2 = 6 then some 0
 else (if y_4 = 6 then some 0
 else nh_chk (nh_in ((4 * i1) + i2) 56) ((if (fX11_has (t_had (Int32.toNatClampNeg ((4 * i1) + i2))) y_4) = 0 then nh_chk (nh_in ((4 * i1) + i3) 56) ((if (fX11_has (t_had (Int32.toNatClampNeg ((4 * i1) + i3))) y_2) = 0 then some 1
 else some 0))
 else some 0)))))))))
set_option maxHeartbeats 4000000 in
set_option maxRecDepth 100000 in
theorem kX11_mayAt (l : Launch) (D : va_G) (cI cZ cO : ClassId) (sz : Nat) (q_t q_t_text q_t_holds q_t_had q_t_worth q_t_wants q_t_readHolds q_t_readHad q_t_readWorth q_t_rows q_t_kept q_t_isKept q_t_sort q_t_took q_t_tried q_t_planned q_t_from q_t_best q_t_outcome q_t_value q_t_act : Nat) (t_thrown : Int32) (t_textSize : Int32) (t_place : Int32) (t_people : Int32) (t_readPeople : Int32) (t_acts : Int32) (t_sights : Int32) (t_longest : Int32) (t_shortest : Int32) (t_runs : Int32) (t_came : Int32) (t_bestMore : Int32) (t_had : Nat → Int32) (t_holds : Nat → Int32) (i1 : Int32) (i2 : Int32) (i3 : Int32) (o_r : Int32) (h : fX11_mayAt t_had t_holds i1 i2 i3 = some o_r) : Met l yX11_mayAt (nh_w (.code yX11_mayAt cX11_mayAt 6 (some .boolean))) (nh_rm 1) (nh_Pc D cI cZ cO (wlX11_mayAt cI cZ cO q_t q_t_text q_t_holds q_t_had q_t_worth q_t_wants q_t_readHolds q_t_readHad q_t_readWorth q_t_rows q_t_kept q_t_isKept q_t_sort q_t_took q_t_tried q_t_planned q_t_from q_t_best q_t_outcome q_t_value q_t_act t_thrown t_textSize t_place t_people t_readPeople t_acts t_sights t_longest t_shortest t_runs t_came t_bestMore t_had t_holds) [.ref q_t, .int i1, .int i2, .int i3] sz) ((nh_Qi D (wlX11_mayAt cI cZ cO q_t q_t_text q_t_holds q_t_had q_t_worth q_t_wants q_t_readHolds q_t_readHad q_t_readWorth q_t_rows q_t_kept q_t_isKept q_t_sort q_t_took q_t_tried q_t_planned q_t_from q_t_best q_t_outcome q_t_value q_t_act t_thrown t_textSize t_place t_people t_readPeople t_acts t_sights t_longest t_shortest t_runs t_came t_bestMore t_had t_holds) o_r) (va_A (wlX11_mayAt cI cZ cO q_t q_t_text q_t_holds q_t_had q_t_worth q_t_wants q_t_readHolds q_t_readHad q_t_readWorth q_t_rows q_t_kept q_t_isKept q_t_sort q_t_took q_t_tried q_t_planned q_t_from q_t_best q_t_outcome q_t_value q_t_act t_thrown t_textSize t_place t_people t_readPeople t_acts t_sights t_longest t_shortest t_runs t_came t_bestMore t_had t_holds) sz)) 0 0 (va_A (wlX11_mayAt cI cZ cO q_t q_t_text q_t_holds q_t_had q_t_worth q_t_wants q_t_readHolds q_t_readHad q_t_readWorth q_t_rows q_t_kept q_t_isKept q_t_sort q_t_took q_t_tried q_t_planned q_t_from q_t_best q_t_outcome q_t_value q_t_act t_thrown t_textSize t_place t_people t_readPeople t_acts t_sights t_longest t_shortest t_runs t_came t_bestMore t_had t_holds) sz) := by
  unfold fX11_mayAt at h
  refine nh_met (cc := cX11_mayAt) (maxL := 6) (ret := (some .boolean)) (nh_Qi D (wlX11_mayAt cI cZ cO q_t q_t_text q_t_holds q_t_had q_t_worth q_t_wants q_t_readHolds q_t_readHad q_t_readWorth q_t_rows q_t_kept q_t_isKept q_t_sort q_t_took q_t_tried q_t_planned q_t_from q_t_best q_t_outcome q_t_value q_t_act t_thrown t_textSize t_place t_people t_readPeople t_acts t_sights t_longest t_shortest t_runs t_came t_bestMore t_had t_holds) o_r) (by decide) rfl (Nat.le_of_ble_eq_true rfl) ?_
  intro p e s m args below meth c A H locs ls hx hb hml hr hown hts hlocks hinit hP hK hN hD hA hS hl
  have hl : lv_has ls 6 [(0, .ref q_t), (1, .int i1), (2, .int i2), (3, .int i3)] := hl
  have hts : ∀ w ∈ nh_words, w.before args s = true := fun w h => hts w (List.mem_cons_of_mem _ h)
  refine lv_aload_n hx hb dX11_mayAt_0 rfl (lv_at hl 0 rfl) ?_
  refine va_get (D := D) (ci := 10) (v := .ref q_t_holds) (C := RX11) (T := TX11) (N := 32) hx hb hts nhu_X11 hown hK hP 0 rfl rfl 5 (by decide) (hts _ nhw_232) (fun _ h9 => h9) rfl dX11_mayAt_1 ?_
  refine lv_iconst (v := 4) hx hb dX11_mayAt_4 (by decide) ?_
  refine lv_iload_n hx hb dX11_mayAt_5 rfl (lv_at hl 1 rfl) ?_
  refine lv_imul hx hb dX11_mayAt_6 ?_
  refine lv_iload_n hx hb dX11_mayAt_7 rfl (lv_at hl 2 rfl) ?_
  refine lv_iadd hx hb dX11_mayAt_8 ?_
  obtain ⟨z1, h⟩ := nh_chk_some h
  refine va_iald hx hb hK hP 2 0 rfl rfl (nh_in_in z1) dX11_mayAt_9 ?_
  refine lv_topi (fun y_2 ey_2 => ?_)
  replace h := nh_to h ey_2
  refine lv_istore (lv' := [(4, .int y_2), (0, .ref q_t), (1, .int i1), (2, .int i2), (3, .int i3)]) hx hb dX11_mayAt_10 hl (by decide) rfl (fun ls hl => ?_)
  refine lv_aload_n hx hb dX11_mayAt_12 rfl (lv_at hl 1 rfl) ?_
  refine va_get (D := D) (ci := 10) (v := .ref q_t_holds) (C := RX11) (T := TX11) (N := 32) hx hb hts nhu_X11 hown hK hP 0 rfl rfl 5 (by decide) (hts _ nhw_232) (fun _ h9 => h9) rfl dX11_mayAt_13 ?_
  refine lv_iconst (v := 4) hx hb dX11_mayAt_16 (by decide) ?_
  refine lv_iload_n hx hb dX11_mayAt_17 rfl (lv_at hl 2 rfl) ?_
  refine lv_imul hx hb dX11_mayAt_18 ?_
  refine lv_iload_n hx hb dX11_mayAt_19 rfl (lv_at hl 4 rfl) ?_
  refine lv_iadd hx hb dX11_mayAt_20 ?_
  obtain ⟨z3, h⟩ := nh_chk_some h
  refine va_iald hx hb hK hP 2 0 rfl rfl (nh_in_in z3) dX11_mayAt_21 ?_
  refine lv_topi (fun y_4 ey_4 => ?_)
  replace h := nh_to h ey_4
  refine lv_istore (lv' := [(5, .int y_4), (4, .int y_2), (0, .ref q_t), (1, .int i1), (2, .int i2), (3, .int i3)]) hx hb dX11_mayAt_22 hl (by decide) rfl (fun ls hl => ?_)
  refine lv_iload_n hx hb dX11_mayAt_24 rfl (lv_at hl 4 rfl) ?_
  refine lv_iload_n hx hb dX11_mayAt_25 rfl (lv_at hl 5 rfl) ?_
  refine lv_icmp_eq (tgt := 83) hx hb dX11_mayAt_26 (by decide) (fun c5 => ?_) (fun c5 => ?_)
  · replace h := nh_t h c5
    refine lv_iconst (v := 0) hx hb dX11_mayAt_83 (by decide) ?_
    replace h := nh_i1 h
    exact nh_rz hx hb hr hlocks h rfl hP hS dX11_mayAt_84
  · replace h := nh_f h c5
    refine lv_iload hx hb dX11_mayAt_29 (lv_at hl 1 rfl) ?_
    refine lv_bipush (v := 6) hx hb dX11_mayAt_31 (by decide) ?_
    refine lv_icmp_eq (tgt := 83) hx hb dX11_mayAt_33 (by decide) (fun c6 => ?_) (fun c6 => ?_)
    · replace h := nh_t h c6
      refine lv_iconst (v := 0) hx hb dX11_mayAt_83 (by decide) ?_
      replace h := nh_i1 h
      exact nh_rz hx hb hr hlocks h rfl hP hS dX11_mayAt_84
    · replace h := nh_f h c6
      refine lv_iload hx hb dX11_mayAt_36 (lv_at hl 0 rfl) ?_
      refine lv_bipush (v := 6) hx hb dX11_mayAt_38 (by decide) ?_
      refine lv_icmp_eq (tgt := 83) hx hb dX11_mayAt_40 (by decide) (fun c7 => ?_) (fun c7 => ?_)
      · replace h := nh_t h c7
        refine lv_iconst (v := 0) hx hb dX11_mayAt_83 (by decide) ?_
        replace h := nh_i1 h
        exact nh_rz hx hb hr hlocks h rfl hP hS dX11_mayAt_84
      · replace h := nh_f h c7
        refine lv_aload_n hx hb dX11_mayAt_43 rfl (lv_at hl 2 rfl) ?_
        refine va_get (D := D) (ci := 10) (v := .ref q_t_had) (C := RX11) (T := TX11) (N := 32) hx hb hts nhu_X11 hown hK hP 0 rfl rfl 6 (by decide) (hts _ nhw_234) (fun _ h9 => h9) rfl dX11_mayAt_44 ?_
        refine lv_iconst (v := 4) hx hb dX11_mayAt_47 (by decide) ?_
        refine lv_iload_n hx hb dX11_mayAt_48 rfl (lv_at hl 3 rfl) ?_
        refine lv_imul hx hb dX11_mayAt_49 ?_
        refine lv_iload_n hx hb dX11_mayAt_50 rfl (lv_at hl 4 rfl) ?_
        refine lv_iadd hx hb dX11_mayAt_51 ?_
        obtain ⟨z8, h⟩ := nh_chk_some h
        refine va_iald hx hb hK hP 1 0 rfl rfl (nh_in_in z8) dX11_mayAt_52 ?_
        refine lv_iload hx hb dX11_mayAt_53 (lv_at hl 0 rfl) ?_
        refine nh_goi (nh_S (As := [.int (t_had (Int32.toNatClampNeg ((4 * i1) + i2))), .int y_4]) (rest := []) ⟨hx, hb, hml, hown, hts⟩ (kX11_has  l D cI cZ cO H.size (t_had (Int32.toNatClampNeg ((4 * i1) + i2))) y_4 (fX11_has (t_had (Int32.toNatClampNeg ((4 * i1) + i2))) y_4) rfl) (va_cwS 2 hts (nh_gS nhw_588 nhw_808 nhw_305 nhw_79) rfl rfl rfl (by decide +kernel) ⟨Nat.le_of_ble_eq_true rfl, Nat.le_of_ble_eq_true rfl⟩) hK hN hP hD (isC := []) rfl rfl rfl hl.1 rfl (Nat.le_of_ble_eq_true rfl) dX11_mayAt_55 ⟨Nat.zero_le _, Nat.zero_le _⟩) hP hD hS hA (isC := []) rfl rfl rfl (w' := (wlX11_mayAt cI cZ cO q_t q_t_text q_t_holds q_t_had q_t_worth q_t_wants q_t_readHolds q_t_readHad q_t_readWorth q_t_rows q_t_kept q_t_isKept q_t_sort q_t_took q_t_tried q_t_planned q_t_from q_t_best q_t_outcome q_t_value q_t_act t_thrown t_textSize t_place t_people t_readPeople t_acts t_sights t_longest t_shortest t_runs t_came t_bestMore t_had t_holds)) rfl (fun H locs hP hD hS => ?_)
        refine lv_if_ne (tgt := 83) hx hb dX11_mayAt_58 (by decide) (fun c9 => ?_) (fun c9 => ?_)
        · replace h := nh_f h c9
          refine lv_iconst (v := 0) hx hb dX11_mayAt_83 (by decide) ?_
          replace h := nh_i1 h
          exact nh_rz hx hb hr hlocks h rfl hP hS dX11_mayAt_84
        · replace h := nh_t h c9
          refine lv_aload_n hx hb dX11_mayAt_61 rfl (lv_at hl 2 rfl) ?_
          refine va_get (D := D) (ci := 10) (v := .ref q_t_had) (C := RX11) (T := TX11) (N := 32) hx hb hts nhu_X11 hown hK hP 0 rfl rfl 6 (by decide) (hts _ nhw_234) (fun _ h9 => h9) rfl dX11_mayAt_62 ?_
          refine lv_iconst (v := 4) hx hb dX11_mayAt_65 (by decide) ?_
          refine lv_iload_n hx hb dX11_mayAt_66 rfl (lv_at hl 3 rfl) ?_
          refine lv_imul hx hb dX11_mayAt_67 ?_
          refine lv_iload_n hx hb dX11_mayAt_68 rfl (lv_at hl 5 rfl) ?_
          refine lv_iadd hx hb dX11_mayAt_69 ?_
          obtain ⟨z10, h⟩ := nh_chk_some h
          refine va_iald hx hb hK hP 1 0 rfl rfl (nh_in_in z10) dX11_mayAt_70 ?_
          refine lv_iload hx hb dX11_mayAt_71 (lv_at hl 1 rfl) ?_
          refine nh_goi (nh_S (As := [.int (t_had (Int32.toNatClampNeg ((4 * i1) + i3))), .int y_2]) (rest := []) ⟨hx, hb, hml, hown, hts⟩ (kX11_has  l D cI cZ cO H.size (t_had (Int32.toNatClampNeg ((4 * i1) + i3))) y_2 (fX11_has (t_had (Int32.toNatClampNeg ((4 * i1) + i3))) y_2) rfl) (va_cwS 2 hts (nh_gS nhw_588 nhw_808 nhw_305 nhw_79) rfl rfl rfl (by decide +kernel) ⟨Nat.le_of_ble_eq_true rfl, Nat.le_of_ble_eq_true rfl⟩) hK hN hP hD (isC := []) rfl rfl rfl hl.1 rfl (Nat.le_of_ble_eq_true rfl) dX11_mayAt_73 ⟨Nat.zero_le _, Nat.zero_le _⟩) hP hD hS hA (isC := []) rfl rfl rfl (w' := (wlX11_mayAt cI cZ cO q_t q_t_text q_t_holds q_t_had q_t_worth q_t_wants q_t_readHolds q_t_readHad q_t_readWorth q_t_rows q_t_kept q_t_isKept q_t_sort q_t_took q_t_tried q_t_planned q_t_from q_t_best q_t_outcome q_t_value q_t_act t_thrown t_textSize t_place t_people t_readPeople t_acts t_sights t_longest t_shortest t_runs t_came t_bestMore t_had t_holds)) rfl (fun H locs hP hD hS => ?_)
          refine lv_if_ne (tgt := 83) hx hb dX11_mayAt_76 (by decide) (fun c11 => ?_) (fun c11 => ?_)
          · replace h := nh_f h c11
            refine lv_iconst (v := 0) hx hb dX11_mayAt_83 (by decide) ?_
            replace h := nh_i1 h
            exact nh_rz hx hb hr hlocks h rfl hP hS dX11_mayAt_84
          · replace h := nh_t h c11
            refine lv_iconst (v := 1) hx hb dX11_mayAt_79 (by decide) ?_
            refine lv_goto (tgt := 84) hx hb dX11_mayAt_80 (by decide) ?_
            replace h := nh_i1 h
            exact nh_rz hx hb hr hlocks h rfl hP hS dX11_mayAt_84
abbrev wlX11_layAt (cI cZ cO : ClassId) (q_t q_t_text q_t_holds q_t_had q_t_worth q_t_wants q_t_readHolds q_t_readHad q_t_readWorth q_t_rows q_t_kept q_t_isKept q_t_sort q_t_took q_t_tried q_t_planned q_t_from q_t_best q_t_outcome q_t_value q_t_act : Nat) (t_thrown : Int32) (t_textSize : Int32) (t_place : Int32) (t_people : Int32) (t_readPeople : Int32) (t_acts : Int32) (t_sights : Int32) (t_longest : Int32) (t_shortest : Int32) (t_runs : Int32) (t_came : Int32) (t_bestMore : Int32) (t_had : Nat → Int32) (t_holds : Nat → Int32) : va_W := [(q_t, .inr (10, [.int t_thrown, .ref q_t_text, .int t_textSize, .int t_place, .int t_people, .ref q_t_holds, .ref q_t_had, .ref q_t_worth, .ref q_t_wants, .int t_readPeople, .ref q_t_readHolds, .ref q_t_readHad, .ref q_t_readWorth, .ref q_t_rows, .int t_acts, .ref q_t_kept, .ref q_t_isKept, .int t_sights, .ref q_t_sort, .ref q_t_took, .ref q_t_tried, .int t_longest, .int t_shortest, .int t_runs, .int t_came, .ref q_t_planned, .ref q_t_from, .ref q_t_best, .int t_bestMore, .ref q_t_outcome, .ref q_t_value, .ref q_t_act])), (q_t_had, .inl (cI, 56, .inl t_had)), (q_t_holds, .inl (cI, 56, .inl t_holds))]
def fX11_layAt_B2 (t_people : Int32) (i1 : Int32) (i2 : Int32) (k2 : Int32 → (Nat → Int32) → (Nat → Int32) → Option ((Nat → Int32) × (Nat → Int32))) (r2 : Int32 → (Nat → Int32) → (Nat → Int32) → Option ((Nat → Int32) × (Nat → Int32))) (x3_1 : Int32) (t_had_2 : Nat → Int32) (t_holds_3 : Nat → Int32) : Option ((Nat → Int32) × (Nat → Int32)) :=
  (if t_people ≤ x3_1 then k2 x3_1 t_had_2 t_holds_3
 else nh_chk (nh_in ((4 * i1) + x3_1) 56) (nh_chk (nh_in ((4 * i2) + x3_1) 56) (nh_let (α := Nat → Int32) (upd t_holds_3 (Int32.toNatClampNeg ((4 * i2) + x3_1)) (t_holds_3 (Int32.toNatClampNeg ((4 * i1) + x3_1)))) (fun t_holds_10 => nh_chk (nh_in ((4 * i1) + x3_1) 56) (nh_chk (nh_in ((4 * i2) + x3_1) 56) (nh_let (α := Nat → Int32) (upd t_had_2 (Int32.toNatClampNeg ((4 * i2) + x3_1)) (t_had_2 (Int32.toNatClampNeg ((4 * i1) + x3_1)))) (fun t_had_13 => nh_let (α := Int32) (x3_1 + 1) (fun x3_14 => r2 x3_14 t_had_13 t_holds_10))))))))
def fX11_layAt_L2 (t_people : Int32) (i1 : Int32) (i2 : Int32) (k2 : Int32 → (Nat → Int32) → (Nat → Int32) → Option ((Nat → Int32) × (Nat → Int32))) : Nat → Int32 → (Nat → Int32) → (Nat → Int32) → Option ((Nat → Int32) × (Nat → Int32))
  | 0 => fun _ _ _ => none
  | n + 1 => fX11_layAt_B2 t_people i1 i2 k2 (fX11_layAt_L2 t_people i1 i2 k2 n)
def fX11_layAt (F : Nat) (t_people : Int32) (t_had : Nat → Int32) (t_holds : Nat → Int32) (i1 : Int32) (i2 : Int32) : Option ((Nat → Int32) × (Nat → Int32)) :=
  fX11_layAt_L2 t_people i1 i2 (fun x3_4 t_had_5 t_holds_6 => some (t_had_5, t_holds_6)) F 0 t_had t_holds
set_option maxHeartbeats 4000000 in
set_option maxRecDepth 100000 in
theorem kX11_layAt (F : Nat) (l : Launch) (D : va_G) (cI cZ cO : ClassId) (sz : Nat) (q_t q_t_text q_t_holds q_t_had q_t_worth q_t_wants q_t_readHolds q_t_readHad q_t_readWorth q_t_rows q_t_kept q_t_isKept q_t_sort q_t_took q_t_tried q_t_planned q_t_from q_t_best q_t_outcome q_t_value q_t_act : Nat) (t_thrown : Int32) (t_textSize : Int32) (t_place : Int32) (t_people : Int32) (t_readPeople : Int32) (t_acts : Int32) (t_sights : Int32) (t_longest : Int32) (t_shortest : Int32) (t_runs : Int32) (t_came : Int32) (t_bestMore : Int32) (t_had : Nat → Int32) (t_holds : Nat → Int32) (i1 : Int32) (i2 : Int32) (o_t_had : Nat → Int32) (o_t_holds : Nat → Int32) (h : fX11_layAt F t_people t_had t_holds i1 i2 = some (o_t_had, o_t_holds)) : Met l yX11_layAt (nh_w (.code yX11_layAt cX11_layAt 4 none)) (nh_rm 0) (nh_Pc D cI cZ cO (wlX11_layAt cI cZ cO q_t q_t_text q_t_holds q_t_had q_t_worth q_t_wants q_t_readHolds q_t_readHad q_t_readWorth q_t_rows q_t_kept q_t_isKept q_t_sort q_t_took q_t_tried q_t_planned q_t_from q_t_best q_t_outcome q_t_value q_t_act t_thrown t_textSize t_place t_people t_readPeople t_acts t_sights t_longest t_shortest t_runs t_came t_bestMore t_had t_holds) [.ref q_t, .int i1, .int i2] sz) ((nh_Qv D (wlX11_layAt cI cZ cO q_t q_t_text q_t_holds q_t_had q_t_worth q_t_wants q_t_readHolds q_t_readHad q_t_readWorth q_t_rows q_t_kept q_t_isKept q_t_sort q_t_took q_t_tried q_t_planned q_t_from q_t_best q_t_outcome q_t_value q_t_act t_thrown t_textSize t_place t_people t_readPeople t_acts t_sights t_longest t_shortest t_runs t_came t_bestMore o_t_had o_t_holds)) (va_A (wlX11_layAt cI cZ cO q_t q_t_text q_t_holds q_t_had q_t_worth q_t_wants q_t_readHolds q_t_readHad q_t_readWorth q_t_rows q_t_kept q_t_isKept q_t_sort q_t_took q_t_tried q_t_planned q_t_from q_t_best q_t_outcome q_t_value q_t_act t_thrown t_textSize t_place t_people t_readPeople t_acts t_sights t_longest t_shortest t_runs t_came t_bestMore t_had t_holds) sz)) 0 0 (va_A (wlX11_layAt cI cZ cO q_t q_t_text q_t_holds q_t_had q_t_worth q_t_wants q_t_readHolds q_t_readHad q_t_readWorth q_t_rows q_t_kept q_t_isKept q_t_sort q_t_took q_t_tried q_t_planned q_t_from q_t_best q_t_outcome q_t_value q_t_act t_thrown t_textSize t_place t_people t_readPeople t_acts t_sights t_longest t_shortest t_runs t_came t_bestMore t_had t_holds) sz) := by
  unfold fX11_layAt at h
  refine nh_met (cc := cX11_layAt) (maxL := 4) (ret := none) (nh_Qv D (wlX11_layAt cI cZ cO q_t q_t_text q_t_holds q_t_had q_t_worth q_t_wants q_t_readHolds q_t_readHad q_t_readWorth q_t_rows q_t_kept q_t_isKept q_t_sort q_t_took q_t_tried q_t_planned q_t_from q_t_best q_t_outcome q_t_value q_t_act t_thrown t_textSize t_place t_people t_readPeople t_acts t_sights t_longest t_shortest t_runs t_came t_bestMore o_t_had o_t_holds)) (by decide) rfl (Nat.le_of_ble_eq_true rfl) ?_
  intro p e s m args below meth c A H locs ls hx hb hml hr hown hts hlocks hinit hP hK hN hD hA hS hl
  have hl : lv_has ls 4 [(0, .ref q_t), (1, .int i1), (2, .int i2)] := hl
  have hts : ∀ w ∈ nh_words, w.before args s = true := fun w h => hts w (List.mem_cons_of_mem _ h)
  refine lv_iconst (v := 0) hx hb dX11_layAt_0 (by decide) ?_
  refine lv_istore_n (lv' := [(3, .int 0), (0, .ref q_t), (1, .int i1), (2, .int i2)]) hx hb dX11_layAt_1 rfl hl (by decide) rfl (fun ls hl => ?_)
  have L2 : ∀ (k2 : Int32 → (Nat → Int32) → (Nat → Int32) → Option ((Nat → Int32) × (Nat → Int32))), (∀ (x3_4 : Int32) (t_had_5 : Nat → Int32) (t_holds_6 : Nat → Int32) (H : Heap) (locs : List Loc) (ls : Array Slot), va_P D vwCl (wlX11_layAt cI cZ cO q_t q_t_text q_t_holds q_t_had q_t_worth q_t_wants q_t_readHolds q_t_readHad q_t_readWorth q_t_rows q_t_kept q_t_isKept q_t_sort q_t_took q_t_tried q_t_planned q_t_from q_t_best q_t_outcome q_t_value q_t_act t_thrown t_textSize t_place t_people t_readPeople t_acts t_sights t_longest t_shortest t_runs t_came t_bestMore t_had_5 t_holds_6) H → va_D A (wlX11_layAt cI cZ cO q_t q_t_text q_t_holds q_t_had q_t_worth q_t_wants q_t_readHolds q_t_readHad q_t_readWorth q_t_rows q_t_kept q_t_isKept q_t_sort q_t_took q_t_tried q_t_planned q_t_from q_t_best q_t_outcome q_t_value q_t_act t_thrown t_textSize t_place t_people t_readPeople t_acts t_sights t_longest t_shortest t_runs t_came t_bestMore t_had_5 t_holds_6) → va_S A s.heap H locs → lv_has ls 4 [(0, .ref q_t), (1, .int i1), (2, .int i2), (3, .int x3_4)] → k2 x3_4 t_had_5 t_holds_6 = some (o_t_had, o_t_holds) → W p l e (nh_rm 0) s m args below meth c H locs 0 0 (MQ below ((nh_Qv D (wlX11_layAt cI cZ cO q_t q_t_text q_t_holds q_t_had q_t_worth q_t_wants q_t_readHolds q_t_readHad q_t_readWorth q_t_rows q_t_kept q_t_isKept q_t_sort q_t_took q_t_tried q_t_planned q_t_from q_t_best q_t_outcome q_t_value q_t_act t_thrown t_textSize t_place t_people t_readPeople t_acts t_sights t_longest t_shortest t_runs t_came t_bestMore o_t_had o_t_holds)) A) args s 0 0 A) (F0 m 56 ls [])) → ∀ (n : Nat) (x3_1 : Int32) (t_had_2 : Nat → Int32) (t_holds_3 : Nat → Int32) (H : Heap) (locs : List Loc) (ls : Array Slot), va_P D vwCl (wlX11_layAt cI cZ cO q_t q_t_text q_t_holds q_t_had q_t_worth q_t_wants q_t_readHolds q_t_readHad q_t_readWorth q_t_rows q_t_kept q_t_isKept q_t_sort q_t_took q_t_tried q_t_planned q_t_from q_t_best q_t_outcome q_t_value q_t_act t_thrown t_textSize t_place t_people t_readPeople t_acts t_sights t_longest t_shortest t_runs t_came t_bestMore t_had_2 t_holds_3) H → va_D A (wlX11_layAt cI cZ cO q_t q_t_text q_t_holds q_t_had q_t_worth q_t_wants q_t_readHolds q_t_readHad q_t_readWorth q_t_rows q_t_kept q_t_isKept q_t_sort q_t_took q_t_tried q_t_planned q_t_from q_t_best q_t_outcome q_t_value q_t_act t_thrown t_textSize t_place t_people t_readPeople t_acts t_sights t_longest t_shortest t_runs t_came t_bestMore t_had_2 t_holds_3) → va_S A s.heap H locs → lv_has ls 4 [(0, .ref q_t), (1, .int i1), (2, .int i2), (3, .int x3_1)] → fX11_layAt_L2 t_people i1 i2 k2 n x3_1 t_had_2 t_holds_3 = some (o_t_had, o_t_holds) → W p l e (nh_rm 0) s m args below meth c H locs 0 0 (MQ below ((nh_Qv D (wlX11_layAt cI cZ cO q_t q_t_text q_t_holds q_t_had q_t_worth q_t_wants q_t_readHolds q_t_readHad q_t_readWorth q_t_rows q_t_kept q_t_isKept q_t_sort q_t_took q_t_tried q_t_planned q_t_from q_t_best q_t_outcome q_t_value q_t_act t_thrown t_textSize t_place t_people t_readPeople t_acts t_sights t_longest t_shortest t_runs t_came t_bestMore o_t_had o_t_holds)) A) args s 0 0 A) (F0 m 2 ls []) := by
    intro k2 hk2 n
    induction n with
    | zero => intro x3_1 t_had_2 t_holds_3 H locs ls hP hD hS hl h; exact (nh_none h).elim
    | succ n2 ih2 =>
      intro x3_1 t_had_2 t_holds_3 H locs ls hP hD hS hl h
      replace h : fX11_layAt_B2 t_people i1 i2 k2 (fX11_layAt_L2 t_people i1 i2 k2 n2) x3_1 t_had_2 t_holds_3 = some (o_t_had, o_t_holds) := h
      unfold fX11_layAt_B2 at h
      refine lv_iload_n hx hb dX11_layAt_2 rfl (lv_at hl 3 rfl) ?_
      refine lv_aload_n hx hb dX11_layAt_3 rfl (lv_at hl 0 rfl) ?_
      refine va_get (D := D) (ci := 10) (v := .int t_people) (C := RX11) (T := TX11) (N := 32) hx hb hts nhu_X11 hown hK hP 0 rfl rfl 4 (by decide) (hts _ nhw_259) (fun _ h9 => h9) rfl dX11_layAt_4 ?_
      refine lv_icmp_ge (tgt := 56) hx hb dX11_layAt_7 (by decide) (fun c7 => ?_) (fun c7 => ?_)
      · replace h := nh_t h c7
        exact hk2 x3_1 t_had_2 t_holds_3 H locs ls hP hD hS (lv_sub hl [0, 1, 2, 3] rfl) h
      · replace h := nh_f h c7
        refine lv_aload_n hx hb dX11_layAt_10 rfl (lv_at hl 0 rfl) ?_
        refine va_get (D := D) (ci := 10) (v := .ref q_t_holds) (C := RX11) (T := TX11) (N := 32) hx hb hts nhu_X11 hown hK hP 0 rfl rfl 5 (by decide) (hts _ nhw_232) (fun _ h9 => h9) rfl dX11_layAt_11 ?_
        refine lv_iconst (v := 4) hx hb dX11_layAt_14 (by decide) ?_
        refine lv_iload_n hx hb dX11_layAt_15 rfl (lv_at hl 2 rfl) ?_
        refine lv_imul hx hb dX11_layAt_16 ?_
        refine lv_iload_n hx hb dX11_layAt_17 rfl (lv_at hl 3 rfl) ?_
        refine lv_iadd hx hb dX11_layAt_18 ?_
        refine lv_aload_n hx hb dX11_layAt_19 rfl (lv_at hl 0 rfl) ?_
        refine va_get (D := D) (ci := 10) (v := .ref q_t_holds) (C := RX11) (T := TX11) (N := 32) hx hb hts nhu_X11 hown hK hP 0 rfl rfl 5 (by decide) (hts _ nhw_232) (fun _ h9 => h9) rfl dX11_layAt_20 ?_
        refine lv_iconst (v := 4) hx hb dX11_layAt_23 (by decide) ?_
        refine lv_iload_n hx hb dX11_layAt_24 rfl (lv_at hl 1 rfl) ?_
        refine lv_imul hx hb dX11_layAt_25 ?_
        refine lv_iload_n hx hb dX11_layAt_26 rfl (lv_at hl 3 rfl) ?_
        refine lv_iadd hx hb dX11_layAt_27 ?_
        obtain ⟨z8, h⟩ := nh_chk_some h
        refine va_iald hx hb hK hP 2 0 rfl rfl (nh_in_in z8) dX11_layAt_28 ?_
        obtain ⟨z9, h⟩ := nh_chk_some h
        refine va_iast hx hb hK hP hD hS 2 0 rfl rfl (nh_in_in z9) dX11_layAt_29 (fun H locs hP hD hS => ?_)
        obtain ⟨t_holds_10, et_holds_10⟩ : ∃ y : Nat → Int32, y = upd t_holds_3 (Int32.toNatClampNeg ((4 * i2) + x3_1)) (t_holds_3 (Int32.toNatClampNeg ((4 * i1) + x3_1))) := ⟨_, rfl⟩
        replace h := nh_to h et_holds_10
        have hP : va_P D vwCl (wlX11_layAt cI cZ cO q_t q_t_text q_t_holds q_t_had q_t_worth q_t_wants q_t_readHolds q_t_readHad q_t_readWorth q_t_rows q_t_kept q_t_isKept q_t_sort q_t_took q_t_tried q_t_planned q_t_from q_t_best q_t_outcome q_t_value q_t_act t_thrown t_textSize t_place t_people t_readPeople t_acts t_sights t_longest t_shortest t_runs t_came t_bestMore t_had_2 t_holds_10) H := by rw [et_holds_10]; exact hP
        have hD : va_D A (wlX11_layAt cI cZ cO q_t q_t_text q_t_holds q_t_had q_t_worth q_t_wants q_t_readHolds q_t_readHad q_t_readWorth q_t_rows q_t_kept q_t_isKept q_t_sort q_t_took q_t_tried q_t_planned q_t_from q_t_best q_t_outcome q_t_value q_t_act t_thrown t_textSize t_place t_people t_readPeople t_acts t_sights t_longest t_shortest t_runs t_came t_bestMore t_had_2 t_holds_10) := by rw [et_holds_10]; exact hD
        refine lv_aload_n hx hb dX11_layAt_30 rfl (lv_at hl 0 rfl) ?_
        refine va_get (D := D) (ci := 10) (v := .ref q_t_had) (C := RX11) (T := TX11) (N := 32) hx hb hts nhu_X11 hown hK hP 0 rfl rfl 6 (by decide) (hts _ nhw_234) (fun _ h9 => h9) rfl dX11_layAt_31 ?_
        refine lv_iconst (v := 4) hx hb dX11_layAt_34 (by decide) ?_
        refine lv_iload_n hx hb dX11_layAt_35 rfl (lv_at hl 2 rfl) ?_
        refine lv_imul hx hb dX11_layAt_36 ?_
        refine lv_iload_n hx hb dX11_layAt_37 rfl (lv_at hl 3 rfl) ?_
        refine lv_iadd hx hb dX11_layAt_38 ?_
        refine lv_aload_n hx hb dX11_layAt_39 rfl (lv_at hl 0 rfl) ?_
        refine va_get (D := D) (ci := 10) (v := .ref q_t_had) (C := RX11) (T := TX11) (N := 32) hx hb hts nhu_X11 hown hK hP 0 rfl rfl 6 (by decide) (hts _ nhw_234) (fun _ h9 => h9) rfl dX11_layAt_40 ?_
        refine lv_iconst (v := 4) hx hb dX11_layAt_43 (by decide) ?_
        refine lv_iload_n hx hb dX11_layAt_44 rfl (lv_at hl 1 rfl) ?_
        refine lv_imul hx hb dX11_layAt_45 ?_
        refine lv_iload_n hx hb dX11_layAt_46 rfl (lv_at hl 3 rfl) ?_
        refine lv_iadd hx hb dX11_layAt_47 ?_
        obtain ⟨z11, h⟩ := nh_chk_some h
        refine va_iald hx hb hK hP 1 0 rfl rfl (nh_in_in z11) dX11_layAt_48 ?_
        obtain ⟨z12, h⟩ := nh_chk_some h
        refine va_iast hx hb hK hP hD hS 1 0 rfl rfl (nh_in_in z12) dX11_layAt_49 (fun H locs hP hD hS => ?_)
        obtain ⟨t_had_13, et_had_13⟩ : ∃ y : Nat → Int32, y = upd t_had_2 (Int32.toNatClampNeg ((4 * i2) + x3_1)) (t_had_2 (Int32.toNatClampNeg ((4 * i1) + x3_1))) := ⟨_, rfl⟩
        replace h := nh_to h et_had_13
        have hP : va_P D vwCl (wlX11_layAt cI cZ cO q_t q_t_text q_t_holds q_t_had q_t_worth q_t_wants q_t_readHolds q_t_readHad q_t_readWorth q_t_rows q_t_kept q_t_isKept q_t_sort q_t_took q_t_tried q_t_planned q_t_from q_t_best q_t_outcome q_t_value q_t_act t_thrown t_textSize t_place t_people t_readPeople t_acts t_sights t_longest t_shortest t_runs t_came t_bestMore t_had_13 t_holds_10) H := by rw [et_had_13]; exact hP
        have hD : va_D A (wlX11_layAt cI cZ cO q_t q_t_text q_t_holds q_t_had q_t_worth q_t_wants q_t_readHolds q_t_readHad q_t_readWorth q_t_rows q_t_kept q_t_isKept q_t_sort q_t_took q_t_tried q_t_planned q_t_from q_t_best q_t_outcome q_t_value q_t_act t_thrown t_textSize t_place t_people t_readPeople t_acts t_sights t_longest t_shortest t_runs t_came t_bestMore t_had_13 t_holds_10) := by rw [et_had_13]; exact hD
        obtain ⟨x3_14, ex3_14⟩ : ∃ y : Int32, y = x3_1 + 1 := ⟨_, rfl⟩
        replace h := nh_to h ex3_14
        refine lv_iinc (v := x3_14) (lv' := [(3, .int x3_14), (0, .ref q_t), (1, .int i1), (2, .int i2)]) hx hb dX11_layAt_50 hl (k := 3) rfl (by rw [ex3_14]; rfl) (by decide) rfl (fun ls hl => ?_)
        refine lv_goto (tgt := 2) hx hb dX11_layAt_53 (by decide) ?_
        exact ih2 x3_14 t_had_13 t_holds_10 H locs ls hP hD hS (lv_sub hl [1, 2, 3, 0] rfl) h
  refine L2 _ (fun x3_4 t_had_5 t_holds_6 H locs ls hP hD hS hl h => ?_) _ 0 t_had t_holds H locs ls hP hD hS (lv_sub hl [1, 2, 3, 0] rfl) h
  obtain ⟨g0, g1⟩ := nh_i2 h
  exact nh_rv hx hb hr hlocks (by rw [← g0, ← g1]; exact hP) hS dX11_layAt_56
abbrev wlX11_goAt (cI cZ cO : ClassId) (q_t q_t_text q_t_holds q_t_had q_t_worth q_t_wants q_t_readHolds q_t_readHad q_t_readWorth q_t_rows q_t_kept q_t_isKept q_t_sort q_t_took q_t_tried q_t_planned q_t_from q_t_best q_t_outcome q_t_value q_t_act : Nat) (t_thrown : Int32) (t_textSize : Int32) (t_place : Int32) (t_people : Int32) (t_readPeople : Int32) (t_acts : Int32) (t_sights : Int32) (t_longest : Int32) (t_shortest : Int32) (t_runs : Int32) (t_came : Int32) (t_bestMore : Int32) (t_had : Nat → Int32) (t_holds : Nat → Int32) : va_W := [(q_t, .inr (10, [.int t_thrown, .ref q_t_text, .int t_textSize, .int t_place, .int t_people, .ref q_t_holds, .ref q_t_had, .ref q_t_worth, .ref q_t_wants, .int t_readPeople, .ref q_t_readHolds, .ref q_t_readHad, .ref q_t_readWorth, .ref q_t_rows, .int t_acts, .ref q_t_kept, .ref q_t_isKept, .int t_sights, .ref q_t_sort, .ref q_t_took, .ref q_t_tried, .int t_longest, .int t_shortest, .int t_runs, .int t_came, .ref q_t_planned, .ref q_t_from, .ref q_t_best, .int t_bestMore, .ref q_t_outcome, .ref q_t_value, .ref q_t_act])), (q_t_had, .inl (cI, 56, .inl t_had)), (q_t_holds, .inl (cI, 56, .inl t_holds))]
def fX11_goAt (t_had : Nat → Int32) (t_holds : Nat → Int32) (i1 : Int32) (i2 : Int32) (i3 : Int32) : Option ((Nat → Int32) × (Nat → Int32)) :=
  nh_chk (nh_in ((4 * i1) + i2) 56) (nh_let (α := Int32) ((t_holds (Int32.toNatClampNeg ((4 * i1) + i2)))) (fun y_2 => nh_chk (nh_in ((4 * i1) + i3) 56) (nh_chk (nh_in ((4 * i1) + i2) 56) (nh_let (α := Nat → Int32) (upd t_holds (Int32.toNatClampNeg ((4 * i1) + i2)) (t_holds (Int32.toNatClampNeg ((4 * i1) + i3)))) (fun t_holds_5 => nh_chk (nh_in ((4 * i1) + i3) 56) (nh_let (α := Nat → Int32) (upd t_holds_5 (Int32.toNatClampNeg ((4 * i1) + i3)) y_2) (fun t_holds_7 => nh_chk (nh_in ((4 * i1) + i2) 56) (nh_chk (nh_in ((4 * i1) + i2) 56) (nh_chk (nh_in ((4 * i1) + i2) 56) (nh_let (α := Nat → Int32) (upd t_had (Int32.toNatClampNeg ((4 * i1) + i2)) ((t_had (Int32.toNatClampNeg ((4 * i1) + i2))) ||| (1 <<< ((t_holds_7 (Int32.toNatClampNeg ((4 * i1) + i2))) &&& 31)))) (fun t_had_11 => nh_chk (nh_in ((4 * i1) + i3) 56) (nh_chk (nh_in ((4 * i1) + i3) 56) (nh_let (α := Nat → Int32) (upd t_had_11 (Int32.toNatClampNeg ((4 * i1) + i3)) ((t_had_11 (Int32.toNatClampNeg ((4 * i1) + i3))) ||| (1 <<< (y_2 &&& 31)))) (fun t_had_14 => some (t_had_14, t_holds_7)))))))))))))))
set_option maxHeartbeats 4000000 in
set_option maxRecDepth 100000 in
theorem kX11_goAt (l : Launch) (D : va_G) (cI cZ cO : ClassId) (sz : Nat) (q_t q_t_text q_t_holds q_t_had q_t_worth q_t_wants q_t_readHolds q_t_readHad q_t_readWorth q_t_rows q_t_kept q_t_isKept q_t_sort q_t_took q_t_tried q_t_planned q_t_from q_t_best q_t_outcome q_t_value q_t_act : Nat) (t_thrown : Int32) (t_textSize : Int32) (t_place : Int32) (t_people : Int32) (t_readPeople : Int32) (t_acts : Int32) (t_sights : Int32) (t_longest : Int32) (t_shortest : Int32) (t_runs : Int32) (t_came : Int32) (t_bestMore : Int32) (t_had : Nat → Int32) (t_holds : Nat → Int32) (i1 : Int32) (i2 : Int32) (i3 : Int32) (o_t_had : Nat → Int32) (o_t_holds : Nat → Int32) (h : fX11_goAt t_had t_holds i1 i2 i3 = some (o_t_had, o_t_holds)) : Met l yX11_goAt (nh_w (.code yX11_goAt cX11_goAt 5 none)) (nh_rm 0) (nh_Pc D cI cZ cO (wlX11_goAt cI cZ cO q_t q_t_text q_t_holds q_t_had q_t_worth q_t_wants q_t_readHolds q_t_readHad q_t_readWorth q_t_rows q_t_kept q_t_isKept q_t_sort q_t_took q_t_tried q_t_planned q_t_from q_t_best q_t_outcome q_t_value q_t_act t_thrown t_textSize t_place t_people t_readPeople t_acts t_sights t_longest t_shortest t_runs t_came t_bestMore t_had t_holds) [.ref q_t, .int i1, .int i2, .int i3] sz) ((nh_Qv D (wlX11_goAt cI cZ cO q_t q_t_text q_t_holds q_t_had q_t_worth q_t_wants q_t_readHolds q_t_readHad q_t_readWorth q_t_rows q_t_kept q_t_isKept q_t_sort q_t_took q_t_tried q_t_planned q_t_from q_t_best q_t_outcome q_t_value q_t_act t_thrown t_textSize t_place t_people t_readPeople t_acts t_sights t_longest t_shortest t_runs t_came t_bestMore o_t_had o_t_holds)) (va_A (wlX11_goAt cI cZ cO q_t q_t_text q_t_holds q_t_had q_t_worth q_t_wants q_t_readHolds q_t_readHad q_t_readWorth q_t_rows q_t_kept q_t_isKept q_t_sort q_t_took q_t_tried q_t_planned q_t_from q_t_best q_t_outcome q_t_value q_t_act t_thrown t_textSize t_place t_people t_readPeople t_acts t_sights t_longest t_shortest t_runs t_came t_bestMore t_had t_holds) sz)) 0 0 (va_A (wlX11_goAt cI cZ cO q_t q_t_text q_t_holds q_t_had q_t_worth q_t_wants q_t_readHolds q_t_readHad q_t_readWorth q_t_rows q_t_kept q_t_isKept q_t_sort q_t_took q_t_tried q_t_planned q_t_from q_t_best q_t_outcome q_t_value q_t_act t_thrown t_textSize t_place t_people t_readPeople t_acts t_sights t_longest t_shortest t_runs t_came t_bestMore t_had t_holds) sz) := by
  unfold fX11_goAt at h
  refine nh_met (cc := cX11_goAt) (maxL := 5) (ret := none) (nh_Qv D (wlX11_goAt cI cZ cO q_t q_t_text q_t_holds q_t_had q_t_worth q_t_wants q_t_readHolds q_t_readHad q_t_readWorth q_t_rows q_t_kept q_t_isKept q_t_sort q_t_took q_t_tried q_t_planned q_t_from q_t_best q_t_outcome q_t_value q_t_act t_thrown t_textSize t_place t_people t_readPeople t_acts t_sights t_longest t_shortest t_runs t_came t_bestMore o_t_had o_t_holds)) (by decide) rfl (Nat.le_of_ble_eq_true rfl) ?_
  intro p e s m args below meth c A H locs ls hx hb hml hr hown hts hlocks hinit hP hK hN hD hA hS hl
  have hl : lv_has ls 5 [(0, .ref q_t), (1, .int i1), (2, .int i2), (3, .int i3)] := hl
  have hts : ∀ w ∈ nh_words, w.before args s = true := fun w h => hts w (List.mem_cons_of_mem _ h)
  refine lv_aload_n hx hb dX11_goAt_0 rfl (lv_at hl 0 rfl) ?_
  refine va_get (D := D) (ci := 10) (v := .ref q_t_holds) (C := RX11) (T := TX11) (N := 32) hx hb hts nhu_X11 hown hK hP 0 rfl rfl 5 (by decide) (hts _ nhw_232) (fun _ h9 => h9) rfl dX11_goAt_1 ?_
  refine lv_iconst (v := 4) hx hb dX11_goAt_4 (by decide) ?_
  refine lv_iload_n hx hb dX11_goAt_5 rfl (lv_at hl 1 rfl) ?_
  refine lv_imul hx hb dX11_goAt_6 ?_
  refine lv_iload_n hx hb dX11_goAt_7 rfl (lv_at hl 2 rfl) ?_
  refine lv_iadd hx hb dX11_goAt_8 ?_
  obtain ⟨z1, h⟩ := nh_chk_some h
  refine va_iald hx hb hK hP 2 0 rfl rfl (nh_in_in z1) dX11_goAt_9 ?_
  refine lv_topi (fun y_2 ey_2 => ?_)
  replace h := nh_to h ey_2
  refine lv_istore (lv' := [(4, .int y_2), (0, .ref q_t), (1, .int i1), (2, .int i2), (3, .int i3)]) hx hb dX11_goAt_10 hl (by decide) rfl (fun ls hl => ?_)
  refine lv_aload_n hx hb dX11_goAt_12 rfl (lv_at hl 1 rfl) ?_
  refine va_get (D := D) (ci := 10) (v := .ref q_t_holds) (C := RX11) (T := TX11) (N := 32) hx hb hts nhu_X11 hown hK hP 0 rfl rfl 5 (by decide) (hts _ nhw_232) (fun _ h9 => h9) rfl dX11_goAt_13 ?_
  refine lv_iconst (v := 4) hx hb dX11_goAt_16 (by decide) ?_
  refine lv_iload_n hx hb dX11_goAt_17 rfl (lv_at hl 2 rfl) ?_
  refine lv_imul hx hb dX11_goAt_18 ?_
  refine lv_iload_n hx hb dX11_goAt_19 rfl (lv_at hl 3 rfl) ?_
  refine lv_iadd hx hb dX11_goAt_20 ?_
  refine lv_aload_n hx hb dX11_goAt_21 rfl (lv_at hl 1 rfl) ?_
  refine va_get (D := D) (ci := 10) (v := .ref q_t_holds) (C := RX11) (T := TX11) (N := 32) hx hb hts nhu_X11 hown hK hP 0 rfl rfl 5 (by decide) (hts _ nhw_232) (fun _ h9 => h9) rfl dX11_goAt_22 ?_
  refine lv_iconst (v := 4) hx hb dX11_goAt_25 (by decide) ?_
  refine lv_iload_n hx hb dX11_goAt_26 rfl (lv_at hl 2 rfl) ?_
  refine lv_imul hx hb dX11_goAt_27 ?_
  refine lv_iload_n hx hb dX11_goAt_28 rfl (lv_at hl 4 rfl) ?_
  refine lv_iadd hx hb dX11_goAt_29 ?_
  obtain ⟨z3, h⟩ := nh_chk_some h
  refine va_iald hx hb hK hP 2 0 rfl rfl (nh_in_in z3) dX11_goAt_30 ?_
  obtain ⟨z4, h⟩ := nh_chk_some h
  refine va_iast hx hb hK hP hD hS 2 0 rfl rfl (nh_in_in z4) dX11_goAt_31 (fun H locs hP hD hS => ?_)
  obtain ⟨t_holds_5, et_holds_5⟩ : ∃ y : Nat → Int32, y = upd t_holds (Int32.toNatClampNeg ((4 * i1) + i2)) (t_holds (Int32.toNatClampNeg ((4 * i1) + i3))) := ⟨_, rfl⟩
  replace h := nh_to h et_holds_5
  have hP : va_P D vwCl (wlX11_goAt cI cZ cO q_t q_t_text q_t_holds q_t_had q_t_worth q_t_wants q_t_readHolds q_t_readHad q_t_readWorth q_t_rows q_t_kept q_t_isKept q_t_sort q_t_took q_t_tried q_t_planned q_t_from q_t_best q_t_outcome q_t_value q_t_act t_thrown t_textSize t_place t_people t_readPeople t_acts t_sights t_longest t_shortest t_runs t_came t_bestMore t_had t_holds_5) H := by rw [et_holds_5]; exact hP
  have hD : va_D A (wlX11_goAt cI cZ cO q_t q_t_text q_t_holds q_t_had q_t_worth q_t_wants q_t_readHolds q_t_readHad q_t_readWorth q_t_rows q_t_kept q_t_isKept q_t_sort q_t_took q_t_tried q_t_planned q_t_from q_t_best q_t_outcome q_t_value q_t_act t_thrown t_textSize t_place t_people t_readPeople t_acts t_sights t_longest t_shortest t_runs t_came t_bestMore t_had t_holds_5) := by rw [et_holds_5]; exact hD
  refine lv_aload_n hx hb dX11_goAt_32 rfl (lv_at hl 1 rfl) ?_
  refine va_get (D := D) (ci := 10) (v := .ref q_t_holds) (C := RX11) (T := TX11) (N := 32) hx hb hts nhu_X11 hown hK hP 0 rfl rfl 5 (by decide) (hts _ nhw_232) (fun _ h9 => h9) rfl dX11_goAt_33 ?_
  refine lv_iconst (v := 4) hx hb dX11_goAt_36 (by decide) ?_
  refine lv_iload_n hx hb dX11_goAt_37 rfl (lv_at hl 2 rfl) ?_
  refine lv_imul hx hb dX11_goAt_38 ?_
  refine lv_iload_n hx hb dX11_goAt_39 rfl (lv_at hl 4 rfl) ?_
  refine lv_iadd hx hb dX11_goAt_40 ?_
  refine lv_iload hx hb dX11_goAt_41 (lv_at hl 0 rfl) ?_
  obtain ⟨z6, h⟩ := nh_chk_some h
  refine va_iast hx hb hK hP hD hS 2 0 rfl rfl (nh_in_in z6) dX11_goAt_43 (fun H locs hP hD hS => ?_)
  obtain ⟨t_holds_7, et_holds_7⟩ : ∃ y : Nat → Int32, y = upd t_holds_5 (Int32.toNatClampNeg ((4 * i1) + i3)) y_2 := ⟨_, rfl⟩
  replace h := nh_to h et_holds_7
  have hP : va_P D vwCl (wlX11_goAt cI cZ cO q_t q_t_text q_t_holds q_t_had q_t_worth q_t_wants q_t_readHolds q_t_readHad q_t_readWorth q_t_rows q_t_kept q_t_isKept q_t_sort q_t_took q_t_tried q_t_planned q_t_from q_t_best q_t_outcome q_t_value q_t_act t_thrown t_textSize t_place t_people t_readPeople t_acts t_sights t_longest t_shortest t_runs t_came t_bestMore t_had t_holds_7) H := by rw [et_holds_7]; exact hP
  have hD : va_D A (wlX11_goAt cI cZ cO q_t q_t_text q_t_holds q_t_had q_t_worth q_t_wants q_t_readHolds q_t_readHad q_t_readWorth q_t_rows q_t_kept q_t_isKept q_t_sort q_t_took q_t_tried q_t_planned q_t_from q_t_best q_t_outcome q_t_value q_t_act t_thrown t_textSize t_place t_people t_readPeople t_acts t_sights t_longest t_shortest t_runs t_came t_bestMore t_had t_holds_7) := by rw [et_holds_7]; exact hD
  refine lv_aload_n hx hb dX11_goAt_44 rfl (lv_at hl 1 rfl) ?_
  refine va_get (D := D) (ci := 10) (v := .ref q_t_had) (C := RX11) (T := TX11) (N := 32) hx hb hts nhu_X11 hown hK hP 0 rfl rfl 6 (by decide) (hts _ nhw_234) (fun _ h9 => h9) rfl dX11_goAt_45 ?_
  refine lv_iconst (v := 4) hx hb dX11_goAt_48 (by decide) ?_
  refine lv_iload_n hx hb dX11_goAt_49 rfl (lv_at hl 2 rfl) ?_
  refine lv_imul hx hb dX11_goAt_50 ?_
  refine lv_iload_n hx hb dX11_goAt_51 rfl (lv_at hl 3 rfl) ?_
  refine lv_iadd hx hb dX11_goAt_52 ?_
  refine lv_dup2_11 hx hb dX11_goAt_53 rfl rfl ?_
  obtain ⟨z8, h⟩ := nh_chk_some h
  refine va_iald hx hb hK hP 1 0 rfl rfl (nh_in_in z8) dX11_goAt_54 ?_
  refine lv_iconst (v := 1) hx hb dX11_goAt_55 (by decide) ?_
  refine lv_aload_n hx hb dX11_goAt_56 rfl (lv_at hl 1 rfl) ?_
  refine va_get (D := D) (ci := 10) (v := .ref q_t_holds) (C := RX11) (T := TX11) (N := 32) hx hb hts nhu_X11 hown hK hP 0 rfl rfl 5 (by decide) (hts _ nhw_232) (fun _ h9 => h9) rfl dX11_goAt_57 ?_
  refine lv_iconst (v := 4) hx hb dX11_goAt_60 (by decide) ?_
  refine lv_iload_n hx hb dX11_goAt_61 rfl (lv_at hl 2 rfl) ?_
  refine lv_imul hx hb dX11_goAt_62 ?_
  refine lv_iload_n hx hb dX11_goAt_63 rfl (lv_at hl 3 rfl) ?_
  refine lv_iadd hx hb dX11_goAt_64 ?_
  obtain ⟨z9, h⟩ := nh_chk_some h
  refine va_iald hx hb hK hP 2 0 rfl rfl (nh_in_in z9) dX11_goAt_65 ?_
  refine lv_ishl hx hb dX11_goAt_66 ?_
  refine lv_ior hx hb dX11_goAt_67 ?_
  obtain ⟨z10, h⟩ := nh_chk_some h
  refine va_iast hx hb hK hP hD hS 1 0 rfl rfl (nh_in_in z10) dX11_goAt_68 (fun H locs hP hD hS => ?_)
  obtain ⟨t_had_11, et_had_11⟩ : ∃ y : Nat → Int32, y = upd t_had (Int32.toNatClampNeg ((4 * i1) + i2)) ((t_had (Int32.toNatClampNeg ((4 * i1) + i2))) ||| (1 <<< ((t_holds_7 (Int32.toNatClampNeg ((4 * i1) + i2))) &&& 31))) := ⟨_, rfl⟩
  replace h := nh_to h et_had_11
  have hP : va_P D vwCl (wlX11_goAt cI cZ cO q_t q_t_text q_t_holds q_t_had q_t_worth q_t_wants q_t_readHolds q_t_readHad q_t_readWorth q_t_rows q_t_kept q_t_isKept q_t_sort q_t_took q_t_tried q_t_planned q_t_from q_t_best q_t_outcome q_t_value q_t_act t_thrown t_textSize t_place t_people t_readPeople t_acts t_sights t_longest t_shortest t_runs t_came t_bestMore t_had_11 t_holds_7) H := by rw [et_had_11]; exact hP
  have hD : va_D A (wlX11_goAt cI cZ cO q_t q_t_text q_t_holds q_t_had q_t_worth q_t_wants q_t_readHolds q_t_readHad q_t_readWorth q_t_rows q_t_kept q_t_isKept q_t_sort q_t_took q_t_tried q_t_planned q_t_from q_t_best q_t_outcome q_t_value q_t_act t_thrown t_textSize t_place t_people t_readPeople t_acts t_sights t_longest t_shortest t_runs t_came t_bestMore t_had_11 t_holds_7) := by rw [et_had_11]; exact hD
  refine lv_aload_n hx hb dX11_goAt_69 rfl (lv_at hl 1 rfl) ?_
  refine va_get (D := D) (ci := 10) (v := .ref q_t_had) (C := RX11) (T := TX11) (N := 32) hx hb hts nhu_X11 hown hK hP 0 rfl rfl 6 (by decide) (hts _ nhw_234) (fun _ h9 => h9) rfl dX11_goAt_70 ?_
  refine lv_iconst (v := 4) hx hb dX11_goAt_73 (by decide) ?_
  refine lv_iload_n hx hb dX11_goAt_74 rfl (lv_at hl 2 rfl) ?_
  refine lv_imul hx hb dX11_goAt_75 ?_
  refine lv_iload_n hx hb dX11_goAt_76 rfl (lv_at hl 4 rfl) ?_
  refine lv_iadd hx hb dX11_goAt_77 ?_
  refine lv_dup2_11 hx hb dX11_goAt_78 rfl rfl ?_
  obtain ⟨z12, h⟩ := nh_chk_some h
  refine va_iald hx hb hK hP 1 0 rfl rfl (nh_in_in z12) dX11_goAt_79 ?_
  refine lv_iconst (v := 1) hx hb dX11_goAt_80 (by decide) ?_
  refine lv_iload hx hb dX11_goAt_81 (lv_at hl 0 rfl) ?_
  refine lv_ishl hx hb dX11_goAt_83 ?_
  refine lv_ior hx hb dX11_goAt_84 ?_
  obtain ⟨z13, h⟩ := nh_chk_some h
  refine va_iast hx hb hK hP hD hS 1 0 rfl rfl (nh_in_in z13) dX11_goAt_85 (fun H locs hP hD hS => ?_)
  obtain ⟨t_had_14, et_had_14⟩ : ∃ y : Nat → Int32, y = upd t_had_11 (Int32.toNatClampNeg ((4 * i1) + i3)) ((t_had_11 (Int32.toNatClampNeg ((4 * i1) + i3))) ||| (1 <<< (y_2 &&& 31))) := ⟨_, rfl⟩
  replace h := nh_to h et_had_14
  have hP : va_P D vwCl (wlX11_goAt cI cZ cO q_t q_t_text q_t_holds q_t_had q_t_worth q_t_wants q_t_readHolds q_t_readHad q_t_readWorth q_t_rows q_t_kept q_t_isKept q_t_sort q_t_took q_t_tried q_t_planned q_t_from q_t_best q_t_outcome q_t_value q_t_act t_thrown t_textSize t_place t_people t_readPeople t_acts t_sights t_longest t_shortest t_runs t_came t_bestMore t_had_14 t_holds_7) H := by rw [et_had_14]; exact hP
  have hD : va_D A (wlX11_goAt cI cZ cO q_t q_t_text q_t_holds q_t_had q_t_worth q_t_wants q_t_readHolds q_t_readHad q_t_readWorth q_t_rows q_t_kept q_t_isKept q_t_sort q_t_took q_t_tried q_t_planned q_t_from q_t_best q_t_outcome q_t_value q_t_act t_thrown t_textSize t_place t_people t_readPeople t_acts t_sights t_longest t_shortest t_runs t_came t_bestMore t_had_14 t_holds_7) := by rw [et_had_14]; exact hD
  obtain ⟨g0, g1⟩ := nh_i2 h
  exact nh_rv hx hb hr hlocks (by rw [← g0, ← g1]; exact hP) hS dX11_goAt_86
abbrev wlX11_may (cI cZ cO : ClassId) (q_t q_t_text q_t_holds q_t_had q_t_worth q_t_wants q_t_readHolds q_t_readHad q_t_readWorth q_t_rows q_t_kept q_t_isKept q_t_sort q_t_took q_t_tried q_t_planned q_t_from q_t_best q_t_outcome q_t_value q_t_act : Nat) (t_thrown : Int32) (t_textSize : Int32) (t_place : Int32) (t_people : Int32) (t_readPeople : Int32) (t_acts : Int32) (t_sights : Int32) (t_longest : Int32) (t_shortest : Int32) (t_runs : Int32) (t_came : Int32) (t_bestMore : Int32) (t_had : Nat → Int32) (t_holds : Nat → Int32) : va_W := [(q_t, .inr (10, [.int t_thrown, .ref q_t_text, .int t_textSize, .int t_place, .int t_people, .ref q_t_holds, .ref q_t_had, .ref q_t_worth, .ref q_t_wants, .int t_readPeople, .ref q_t_readHolds, .ref q_t_readHad, .ref q_t_readWorth, .ref q_t_rows, .int t_acts, .ref q_t_kept, .ref q_t_isKept, .int t_sights, .ref q_t_sort, .ref q_t_took, .ref q_t_tried, .int t_longest, .int t_shortest, .int t_runs, .int t_came, .ref q_t_planned, .ref q_t_from, .ref q_t_best, .int t_bestMore, .ref q_t_outcome, .ref q_t_value, .ref q_t_act])), (q_t_had, .inl (cI, 56, .inl t_had)), (q_t_holds, .inl (cI, 56, .inl t_holds))]
def fX11_may (t_thrown : Int32) (t_people : Int32) (t_had : Nat → Int32) (t_holds : Nat → Int32) (i1 : Int32) (i2 : Int32) : Option (Int32 × Int32) :=
  (if (fX11_noOne t_people i1) = 0 then (if (fX11_noOne t_people i2) = 0 then (if i1 = i2 then some ((-2), 0)
 else nh_b1 (fX11_mayAt t_had t_holds 0 i1 i2) (fun r_4 => (if r_4 = 0 then some (0, 0)
 else some (1, 0))))
 else some ((-1), 0))
 else some ((-1), 0))
set_option maxHeartbeats 4000000 in
set_option maxRecDepth 100000 in
theorem kX11_may (l : Launch) (D : va_G) (cI cZ cO : ClassId) (sz : Nat) (q_t q_t_text q_t_holds q_t_had q_t_worth q_t_wants q_t_readHolds q_t_readHad q_t_readWorth q_t_rows q_t_kept q_t_isKept q_t_sort q_t_took q_t_tried q_t_planned q_t_from q_t_best q_t_outcome q_t_value q_t_act : Nat) (t_thrown : Int32) (t_textSize : Int32) (t_place : Int32) (t_people : Int32) (t_readPeople : Int32) (t_acts : Int32) (t_sights : Int32) (t_longest : Int32) (t_shortest : Int32) (t_runs : Int32) (t_came : Int32) (t_bestMore : Int32) (t_had : Nat → Int32) (t_holds : Nat → Int32) (i1 : Int32) (i2 : Int32) (o_r : Int32) (o_t_thrown : Int32) (h : fX11_may t_thrown t_people t_had t_holds i1 i2 = some (o_r, o_t_thrown)) : Met l yX11_may (nh_w (.code yX11_may cX11_may 3 (some .int))) (nh_rm 2) (nh_Pc D cI cZ cO (wlX11_may cI cZ cO q_t q_t_text q_t_holds q_t_had q_t_worth q_t_wants q_t_readHolds q_t_readHad q_t_readWorth q_t_rows q_t_kept q_t_isKept q_t_sort q_t_took q_t_tried q_t_planned q_t_from q_t_best q_t_outcome q_t_value q_t_act t_thrown t_textSize t_place t_people t_readPeople t_acts t_sights t_longest t_shortest t_runs t_came t_bestMore t_had t_holds) [.ref q_t, .int i1, .int i2] sz) ((nh_Qi D (wlX11_may cI cZ cO q_t q_t_text q_t_holds q_t_had q_t_worth q_t_wants q_t_readHolds q_t_readHad q_t_readWorth q_t_rows q_t_kept q_t_isKept q_t_sort q_t_took q_t_tried q_t_planned q_t_from q_t_best q_t_outcome q_t_value q_t_act o_t_thrown t_textSize t_place t_people t_readPeople t_acts t_sights t_longest t_shortest t_runs t_came t_bestMore t_had t_holds) o_r) (va_A (wlX11_may cI cZ cO q_t q_t_text q_t_holds q_t_had q_t_worth q_t_wants q_t_readHolds q_t_readHad q_t_readWorth q_t_rows q_t_kept q_t_isKept q_t_sort q_t_took q_t_tried q_t_planned q_t_from q_t_best q_t_outcome q_t_value q_t_act t_thrown t_textSize t_place t_people t_readPeople t_acts t_sights t_longest t_shortest t_runs t_came t_bestMore t_had t_holds) sz)) 0 0 (va_A (wlX11_may cI cZ cO q_t q_t_text q_t_holds q_t_had q_t_worth q_t_wants q_t_readHolds q_t_readHad q_t_readWorth q_t_rows q_t_kept q_t_isKept q_t_sort q_t_took q_t_tried q_t_planned q_t_from q_t_best q_t_outcome q_t_value q_t_act t_thrown t_textSize t_place t_people t_readPeople t_acts t_sights t_longest t_shortest t_runs t_came t_bestMore t_had t_holds) sz) := by
  unfold fX11_may at h
  refine nh_met (cc := cX11_may) (maxL := 3) (ret := (some .int)) (nh_Qi D (wlX11_may cI cZ cO q_t q_t_text q_t_holds q_t_had q_t_worth q_t_wants q_t_readHolds q_t_readHad q_t_readWorth q_t_rows q_t_kept q_t_isKept q_t_sort q_t_took q_t_tried q_t_planned q_t_from q_t_best q_t_outcome q_t_value q_t_act o_t_thrown t_textSize t_place t_people t_readPeople t_acts t_sights t_longest t_shortest t_runs t_came t_bestMore t_had t_holds) o_r) (by decide) rfl (Nat.le_of_ble_eq_true rfl) ?_
  intro p e s m args below meth c A H locs ls hx hb hml hr hown hts hlocks hinit hP hK hN hD hA hS hl
  have hl : lv_has ls 3 [(0, .ref q_t), (1, .int i1), (2, .int i2)] := hl
  have hts : ∀ w ∈ nh_words, w.before args s = true := fun w h => hts w (List.mem_cons_of_mem _ h)
  refine lv_aload_n hx hb dX11_may_0 rfl (lv_at hl 0 rfl) ?_
  refine lv_iconst (v := 0) hx hb dX11_may_1 (by decide) ?_
  refine va_put (D := D) (ci := 10) (v := .int 0) (ty := .int) (C := RX11) (T := TX11) (N := 32) hx hb hts nhu_X11 tyX11 tyX11_ok nmX11 hown hK hP hD hS 0 rfl rfl 0 (by decide) (hts _ nhw_258) (fun _ h9 => h9) rfl (by decide +kernel) rfl rfl (Nat.le_of_ble_eq_true rfl) dX11_may_2 (fun H locs hP hD hS => ?_)
  have hP : va_P D vwCl (wlX11_may cI cZ cO q_t q_t_text q_t_holds q_t_had q_t_worth q_t_wants q_t_readHolds q_t_readHad q_t_readWorth q_t_rows q_t_kept q_t_isKept q_t_sort q_t_took q_t_tried q_t_planned q_t_from q_t_best q_t_outcome q_t_value q_t_act 0 t_textSize t_place t_people t_readPeople t_acts t_sights t_longest t_shortest t_runs t_came t_bestMore t_had t_holds) H := hP
  have hD : va_D A (wlX11_may cI cZ cO q_t q_t_text q_t_holds q_t_had q_t_worth q_t_wants q_t_readHolds q_t_readHad q_t_readWorth q_t_rows q_t_kept q_t_isKept q_t_sort q_t_took q_t_tried q_t_planned q_t_from q_t_best q_t_outcome q_t_value q_t_act 0 t_textSize t_place t_people t_readPeople t_acts t_sights t_longest t_shortest t_runs t_came t_bestMore t_had t_holds) := hD
  refine lv_aload_n hx hb dX11_may_5 rfl (lv_at hl 0 rfl) ?_
  refine lv_iload_n hx hb dX11_may_6 rfl (lv_at hl 1 rfl) ?_
  refine nh_goi (nh_V (As := [.int i1]) (rest := []) ⟨hx, hb, hml, hown, hts⟩ (kX11_noOne  l D cI cZ cO H.size q_t q_t_text q_t_holds q_t_had q_t_worth q_t_wants q_t_readHolds q_t_readHad q_t_readWorth q_t_rows q_t_kept q_t_isKept q_t_sort q_t_took q_t_tried q_t_planned q_t_from q_t_best q_t_outcome q_t_value q_t_act 0 t_textSize t_place t_people t_readPeople t_acts t_sights t_longest t_shortest t_runs t_came t_bestMore i1 (fX11_noOne t_people i1) rfl) (cwV 1 hts (nh_gV nhw_594 nhw_390 nhw_758 nhw_305 nhw_98) rfl rfl rfl (by decide +kernel) ⟨Nat.le_of_ble_eq_true rfl, Nat.le_of_ble_eq_true rfl⟩) hK hN hP hD (isC := [0]) rfl rfl 0 10 rfl rfl rfl rfl hl.1 rfl (Nat.le_of_ble_eq_true rfl) dX11_may_7 ⟨Nat.zero_le _, Nat.zero_le _⟩) hP hD hS hA (isC := [0]) rfl rfl rfl (w' := (wlX11_may cI cZ cO q_t q_t_text q_t_holds q_t_had q_t_worth q_t_wants q_t_readHolds q_t_readHad q_t_readWorth q_t_rows q_t_kept q_t_isKept q_t_sort q_t_took q_t_tried q_t_planned q_t_from q_t_best q_t_outcome q_t_value q_t_act 0 t_textSize t_place t_people t_readPeople t_acts t_sights t_longest t_shortest t_runs t_came t_bestMore t_had t_holds)) rfl (fun H locs hP hD hS => ?_)
  refine lv_if_ne (tgt := 21) hx hb dX11_may_10 (by decide) (fun c1 => ?_) (fun c1 => ?_)
  · replace h := nh_f h c1
    refine lv_iconst (v := (-1)) hx hb dX11_may_21 (by decide) ?_
    obtain ⟨g0, g1⟩ := nh_i2 h
    exact nh_ri hx hb hr hlocks g0 (by rw [← g1]; exact hP) hS dX11_may_22
  · replace h := nh_t h c1
    refine lv_aload_n hx hb dX11_may_13 rfl (lv_at hl 0 rfl) ?_
    refine lv_iload_n hx hb dX11_may_14 rfl (lv_at hl 2 rfl) ?_
    refine nh_goi (nh_V (As := [.int i2]) (rest := []) ⟨hx, hb, hml, hown, hts⟩ (kX11_noOne  l D cI cZ cO H.size q_t q_t_text q_t_holds q_t_had q_t_worth q_t_wants q_t_readHolds q_t_readHad q_t_readWorth q_t_rows q_t_kept q_t_isKept q_t_sort q_t_took q_t_tried q_t_planned q_t_from q_t_best q_t_outcome q_t_value q_t_act 0 t_textSize t_place t_people t_readPeople t_acts t_sights t_longest t_shortest t_runs t_came t_bestMore i2 (fX11_noOne t_people i2) rfl) (cwV 1 hts (nh_gV nhw_594 nhw_390 nhw_758 nhw_305 nhw_98) rfl rfl rfl (by decide +kernel) ⟨Nat.le_of_ble_eq_true rfl, Nat.le_of_ble_eq_true rfl⟩) hK hN hP hD (isC := [0]) rfl rfl 0 10 rfl rfl rfl rfl hl.1 rfl (Nat.le_of_ble_eq_true rfl) dX11_may_15 ⟨Nat.zero_le _, Nat.zero_le _⟩) hP hD hS hA (isC := [0]) rfl rfl rfl (w' := (wlX11_may cI cZ cO q_t q_t_text q_t_holds q_t_had q_t_worth q_t_wants q_t_readHolds q_t_readHad q_t_readWorth q_t_rows q_t_kept q_t_isKept q_t_sort q_t_took q_t_tried q_t_planned q_t_from q_t_best q_t_outcome q_t_value q_t_act 0 t_textSize t_place t_people t_readPeople t_acts t_sights t_longest t_shortest t_runs t_came t_bestMore t_had t_holds)) rfl (fun H locs hP hD hS => ?_)
    refine lv_if_eq (tgt := 23) hx hb dX11_may_18 (by decide) (fun c2 => ?_) (fun c2 => ?_)
    · replace h := nh_t h c2
      refine lv_iload_n hx hb dX11_may_23 rfl (lv_at hl 1 rfl) ?_
      refine lv_iload_n hx hb dX11_may_24 rfl (lv_at hl 2 rfl) ?_
      refine lv_icmp_ne (tgt := 33) hx hb dX11_may_25 (by decide) (fun c3 => ?_) (fun c3 => ?_)
      · replace h := nh_f h c3
        refine lv_aload_n hx hb dX11_may_33 rfl (lv_at hl 0 rfl) ?_
        refine lv_iconst (v := 0) hx hb dX11_may_34 (by decide) ?_
        refine lv_iload_n hx hb dX11_may_35 rfl (lv_at hl 1 rfl) ?_
        refine lv_iload_n hx hb dX11_may_36 rfl (lv_at hl 2 rfl) ?_
        obtain ⟨r_4, hc5, h⟩ := nh_b1_some h
        refine nh_goi (nh_V (As := [.int 0, .int i1, .int i2]) (rest := []) ⟨hx, hb, hml, hown, hts⟩ (kX11_mayAt  l D cI cZ cO H.size q_t q_t_text q_t_holds q_t_had q_t_worth q_t_wants q_t_readHolds q_t_readHad q_t_readWorth q_t_rows q_t_kept q_t_isKept q_t_sort q_t_took q_t_tried q_t_planned q_t_from q_t_best q_t_outcome q_t_value q_t_act 0 t_textSize t_place t_people t_readPeople t_acts t_sights t_longest t_shortest t_runs t_came t_bestMore t_had t_holds 0 i1 i2 r_4 hc5) (cwV 3 hts (nh_gV nhw_596 nhw_384 nhw_752 nhw_305 nhw_92) rfl rfl rfl (by decide +kernel) ⟨Nat.le_of_ble_eq_true rfl, Nat.le_of_ble_eq_true rfl⟩) hK hN hP hD (isC := [0, 1, 2]) rfl rfl 0 10 rfl rfl rfl rfl hl.1 rfl (Nat.le_of_ble_eq_true rfl) dX11_may_37 ⟨Nat.zero_le _, Nat.zero_le _⟩) hP hD hS hA (isC := [0, 1, 2]) rfl rfl rfl (w' := (wlX11_may cI cZ cO q_t q_t_text q_t_holds q_t_had q_t_worth q_t_wants q_t_readHolds q_t_readHad q_t_readWorth q_t_rows q_t_kept q_t_isKept q_t_sort q_t_took q_t_tried q_t_planned q_t_from q_t_best q_t_outcome q_t_value q_t_act 0 t_textSize t_place t_people t_readPeople t_acts t_sights t_longest t_shortest t_runs t_came t_bestMore t_had t_holds)) rfl (fun H locs hP hD hS => ?_)
        refine lv_if_eq (tgt := 47) hx hb dX11_may_40 (by decide) (fun c6 => ?_) (fun c6 => ?_)
        · replace h := nh_t h c6
          refine lv_iconst (v := 0) hx hb dX11_may_47 (by decide) ?_
          obtain ⟨g0, g1⟩ := nh_i2 h
          exact nh_ri hx hb hr hlocks g0 (by rw [← g1]; exact hP) hS dX11_may_48
        · replace h := nh_f h c6
          refine lv_iconst (v := 1) hx hb dX11_may_43 (by decide) ?_
          refine lv_goto (tgt := 48) hx hb dX11_may_44 (by decide) ?_
          obtain ⟨g0, g1⟩ := nh_i2 h
          exact nh_ri hx hb hr hlocks g0 (by rw [← g1]; exact hP) hS dX11_may_48
      · replace h := nh_t h c3
        refine lv_bipush (v := (-2)) hx hb dX11_may_28 (by decide) ?_
        refine lv_goto (tgt := 48) hx hb dX11_may_30 (by decide) ?_
        obtain ⟨g0, g1⟩ := nh_i2 h
        exact nh_ri hx hb hr hlocks g0 (by rw [← g1]; exact hP) hS dX11_may_48
    · replace h := nh_f h c2
      refine lv_iconst (v := (-1)) hx hb dX11_may_21 (by decide) ?_
      obtain ⟨g0, g1⟩ := nh_i2 h
      exact nh_ri hx hb hr hlocks g0 (by rw [← g1]; exact hP) hS dX11_may_22
