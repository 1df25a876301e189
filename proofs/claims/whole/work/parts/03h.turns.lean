abbrev wlX8_agrees (cI cZ cO : ClassId) (q_a0 q_a0_held q_a0_known q_a0_worths : Nat) (a0_count : Int32) (a0_held : Nat → Int32) (a0_worths : Nat → Int32) : va_W := [(q_a0, .inr (1, [.int a0_count, .ref q_a0_held, .ref q_a0_known, .ref q_a0_worths])), (q_a0_held, .inl (cI, 4, .inl a0_held)), (q_a0_worths, .inl (cI, 24, .inl a0_worths))]
def fX8_agrees (a0_count : Int32) (a0_held : Nat → Int32) (a0_worths : Nat → Int32) (i1 : Int32) (i2 : Int32) : Option (Int32) :=
  nh_chk (nh_in i1 4) (nh_b1 (fX1_worthOf a0_count a0_worths i2 (a0_held (Int32.toNatClampNeg i1))) (fun r_2 => nh_chk (nh_in i2 4) (nh_b1 (fX1_worthOf a0_count a0_worths i2 (a0_held (Int32.toNatClampNeg i2))) (fun r_5 => (if r_2 < r_5 then some 0
 else some 1)))))
set_option maxHeartbeats 4000000 in
set_option maxRecDepth 100000 in
theorem kX8_agrees (l : Launch) (D : va_G) (cI cZ cO : ClassId) (sz : Nat) (q_a0 q_a0_held q_a0_known q_a0_worths : Nat) (a0_count : Int32) (a0_held : Nat → Int32) (a0_worths : Nat → Int32) (i1 : Int32) (i2 : Int32) (o_r : Int32) (h : fX8_agrees a0_count a0_held a0_worths i1 i2 = some o_r) : Met l yX8_agrees (nh_w (.code yX8_agrees cX8_agrees 3 (some .boolean))) (nh_rm 2) (nh_Pc D cI cZ cO (wlX8_agrees cI cZ cO q_a0 q_a0_held q_a0_known q_a0_worths a0_count a0_held a0_worths) [.ref q_a0, .int i1, .int i2] sz) ((nh_Qi D (wlX8_agrees cI cZ cO q_a0 q_a0_held q_a0_known q_a0_worths a0_count a0_held a0_worths) o_r) (va_A (wlX8_agrees cI cZ cO q_a0 q_a0_held q_a0_known q_a0_worths a0_count a0_held a0_worths) sz)) 0 0 (va_A (wlX8_agrees cI cZ cO q_a0 q_a0_held q_a0_known q_a0_worths a0_count a0_held a0_worths) sz) := by
  unfold fX8_agrees at h
  refine nh_met (cc := cX8_agrees) (maxL := 3) (ret := (some .boolean)) (nh_Qi D (wlX8_agrees cI cZ cO q_a0 q_a0_held q_a0_known q_a0_worths a0_count a0_held a0_worths) o_r) (by decide) rfl (Nat.le_of_ble_eq_true rfl) ?_
  intro p e s m args below meth c A H locs ls hx hb hml hr hown hts hlocks hinit hP hK hN hD hA hS hl
  have hl : lv_has ls 3 [(0, .ref q_a0), (1, .int i1), (2, .int i2)] := hl
  have hts : ∀ w ∈ nh_words, w.before args s = true := fun w h => hts w (List.mem_cons_of_mem _ h)
  refine lv_aload_n hx hb dX8_agrees_0 rfl (lv_at hl 0 rfl) ?_
  refine lv_iload_n hx hb dX8_agrees_1 rfl (lv_at hl 2 rfl) ?_
  refine lv_aload_n hx hb dX8_agrees_2 rfl (lv_at hl 0 rfl) ?_
  refine va_get (D := D) (ci := 1) (v := .ref q_a0_held) (C := RX1) (T := TX1) (N := 4) hx hb hts nhu_X1 hown hK hP 0 rfl rfl 1 (by decide) (hts _ nhw_290) (fun _ h9 => h9) rfl dX8_agrees_3 ?_
  refine lv_iload_n hx hb dX8_agrees_6 rfl (lv_at hl 1 rfl) ?_
  obtain ⟨z1, h⟩ := nh_chk_some h
  refine va_iald hx hb hK hP 1 0 rfl rfl (nh_in_in z1) dX8_agrees_7 ?_
  obtain ⟨r_2, hc3, h⟩ := nh_b1_some h
  refine nh_goi (nh_V (As := [.int i2, .int (a0_held (Int32.toNatClampNeg i1))]) (rest := []) ⟨hx, hb, hml, hown, hts⟩ (kX1_worthOf  l D cI cZ cO H.size q_a0 q_a0_held q_a0_known q_a0_worths a0_count a0_worths i2 (a0_held (Int32.toNatClampNeg i1)) r_2 hc3) (cwV 2 hts (nh_gV nhw_660 nhw_428 nhw_689 nhw_303 nhw_138) rfl rfl rfl (by decide +kernel) ⟨Nat.le_of_ble_eq_true rfl, Nat.le_of_ble_eq_true rfl⟩) hK hN hP hD (isC := [0, 2]) rfl rfl 0 1 rfl rfl rfl rfl hl.1 rfl (Nat.le_of_ble_eq_true rfl) dX8_agrees_8 ⟨Nat.zero_le _, Nat.zero_le _⟩) hP hD hS hA (isC := [0, 2]) rfl rfl rfl (w' := (wlX8_agrees cI cZ cO q_a0 q_a0_held q_a0_known q_a0_worths a0_count a0_held a0_worths)) rfl (fun H locs hP hD hS => ?_)
  refine lv_aload_n hx hb dX8_agrees_11 rfl (lv_at hl 0 rfl) ?_
  refine lv_iload_n hx hb dX8_agrees_12 rfl (lv_at hl 2 rfl) ?_
  refine lv_aload_n hx hb dX8_agrees_13 rfl (lv_at hl 0 rfl) ?_
  refine va_get (D := D) (ci := 1) (v := .ref q_a0_held) (C := RX1) (T := TX1) (N := 4) hx hb hts nhu_X1 hown hK hP 0 rfl rfl 1 (by decide) (hts _ nhw_290) (fun _ h9 => h9) rfl dX8_agrees_14 ?_
  refine lv_iload_n hx hb dX8_agrees_17 rfl (lv_at hl 2 rfl) ?_
  obtain ⟨z4, h⟩ := nh_chk_some h
  refine va_iald hx hb hK hP 1 0 rfl rfl (nh_in_in z4) dX8_agrees_18 ?_
  obtain ⟨r_5, hc6, h⟩ := nh_b1_some h
  refine nh_goi (nh_V (As := [.int i2, .int (a0_held (Int32.toNatClampNeg i2))]) (rest := [.int r_2]) ⟨hx, hb, hml, hown, hts⟩ (kX1_worthOf  l D cI cZ cO H.size q_a0 q_a0_held q_a0_known q_a0_worths a0_count a0_worths i2 (a0_held (Int32.toNatClampNeg i2)) r_5 hc6) (cwV 2 hts (nh_gV nhw_660 nhw_428 nhw_689 nhw_303 nhw_138) rfl rfl rfl (by decide +kernel) ⟨Nat.le_of_ble_eq_true rfl, Nat.le_of_ble_eq_true rfl⟩) hK hN hP hD (isC := [0, 2]) rfl rfl 0 1 rfl rfl rfl rfl hl.1 rfl (Nat.le_of_ble_eq_true rfl) dX8_agrees_19 ⟨Nat.zero_le _, Nat.zero_le _⟩) hP hD hS hA (isC := [0, 2]) rfl rfl rfl (w' := (wlX8_agrees cI cZ cO q_a0 q_a0_held q_a0_known q_a0_worths a0_count a0_held a0_worths)) rfl (fun H locs hP hD hS => ?_)
  refine lv_icmp_lt (tgt := 29) hx hb dX8_agrees_22 (by decide) (fun c7 => ?_) (fun c7 => ?_)
  · replace h := nh_t h c7
    refine lv_iconst (v := 0) hx hb dX8_agrees_29 (by decide) ?_
    replace h := nh_i1 h
    exact nh_rz hx hb hr hlocks h rfl hP hS dX8_agrees_30
  · replace h := nh_f h c7
    refine lv_iconst (v := 1) hx hb dX8_agrees_25 (by decide) ?_
    refine lv_goto (tgt := 30) hx hb dX8_agrees_26 (by decide) ?_
    replace h := nh_i1 h
    exact nh_rz hx hb hr hlocks h rfl hP hS dX8_agrees_30
abbrev wlX8_allThings (cI cZ cO : ClassId) (q_a0 q_a0_held q_a0_known q_a0_worths : Nat) (a0_count : Int32) (a0_held : Nat → Int32) : va_W := [(q_a0, .inr (1, [.int a0_count, .ref q_a0_held, .ref q_a0_known, .ref q_a0_worths])), (q_a0_held, .inl (cI, 4, .inl a0_held))]
def fX8_allThings_B4 (a0_count : Int32) (a0_held : Nat → Int32) (k4 : Int32 → Int32 → Option (Int32)) (r4 : Int32 → Int32 → Option (Int32)) (x1_1 : Int32) (x2_2 : Int32) : Option (Int32) :=
  (if a0_count ≤ x2_2 then k4 x1_1 x2_2
 else nh_chk (nh_in x2_2 4) ((if (a0_held (Int32.toNatClampNeg x2_2)) = (-9) then nh_let (α := Int32) ((x1_1 ||| (7 <<< ((3 * x2_2) &&& 31)))) (fun y_12 => nh_let (α := Int32) (x2_2 + 1) (fun x2_13 => r4 y_12 x2_13))
 else nh_chk (nh_in x2_2 4) (nh_let (α := Int32) ((a0_held (Int32.toNatClampNeg x2_2))) (fun y_9 => nh_let (α := Int32) ((x1_1 ||| (y_9 <<< ((3 * x2_2) &&& 31)))) (fun y_10 => nh_let (α := Int32) (x2_2 + 1) (fun x2_11 => r4 y_10 x2_11)))))))
def fX8_allThings_L4 (a0_count : Int32) (a0_held : Nat → Int32) (k4 : Int32 → Int32 → Option (Int32)) : Nat → Int32 → Int32 → Option (Int32)
  | 0 => fun _ _ => none
  | n + 1 => fX8_allThings_B4 a0_count a0_held k4 (fX8_allThings_L4 a0_count a0_held k4 n)
def fX8_allThings (F : Nat) (a0_count : Int32) (a0_held : Nat → Int32) : Option (Int32) :=
  fX8_allThings_L4 a0_count a0_held (fun x1_3 x2_4 => some x1_3) F 0 0
set_option maxHeartbeats 4000000 in
set_option maxRecDepth 100000 in
theorem kX8_allThings (F : Nat) (l : Launch) (D : va_G) (cI cZ cO : ClassId) (sz : Nat) (q_a0 q_a0_held q_a0_known q_a0_worths : Nat) (a0_count : Int32) (a0_held : Nat → Int32)  (o_r : Int32) (h : fX8_allThings F a0_count a0_held = some o_r) : Met l yX8_allThings (nh_w (.code yX8_allThings cX8_allThings 4 (some .int))) (nh_rm 0) (nh_Pc D cI cZ cO (wlX8_allThings cI cZ cO q_a0 q_a0_held q_a0_known q_a0_worths a0_count a0_held) [.ref q_a0] sz) ((nh_Qi D (wlX8_allThings cI cZ cO q_a0 q_a0_held q_a0_known q_a0_worths a0_count a0_held) o_r) (va_A (wlX8_allThings cI cZ cO q_a0 q_a0_held q_a0_known q_a0_worths a0_count a0_held) sz)) 0 0 (va_A (wlX8_allThings cI cZ cO q_a0 q_a0_held q_a0_known q_a0_worths a0_count a0_held) sz) := by
  unfold fX8_allThings at h
  refine nh_met (cc := cX8_allThings) (maxL := 4) (ret := (some .int)) (nh_Qi D (wlX8_allThings cI cZ cO q_a0 q_a0_held q_a0_known q_a0_worths a0_count a0_held) o_r) (by decide) rfl (Nat.le_of_ble_eq_true rfl) ?_
  intro p e s m args below meth c A H locs ls hx hb hml hr hown hts hlocks hinit hP hK hN hD hA hS hl
  have hl : lv_has ls 4 [(0, .ref q_a0)] := hl
  have hts : ∀ w ∈ nh_words, w.before args s = true := fun w h => hts w (List.mem_cons_of_mem _ h)
  refine lv_iconst (v := 0) hx hb dX8_allThings_0 (by decide) ?_
  refine lv_istore_n (lv' := [(1, .int 0), (0, .ref q_a0)]) hx hb dX8_allThings_1 rfl hl (by decide) rfl (fun ls hl => ?_)
  refine lv_iconst (v := 0) hx hb dX8_allThings_2 (by decide) ?_
  refine lv_istore_n (lv' := [(2, .int 0), (1, .int 0), (0, .ref q_a0)]) hx hb dX8_allThings_3 rfl hl (by decide) rfl (fun ls hl => ?_)
  have L4 : ∀ (k4 : Int32 → Int32 → Option (Int32)), (∀ (x1_3 : Int32) (x2_4 : Int32) (H : Heap) (locs : List Loc) (ls : Array Slot), va_P D vwCl (wlX8_allThings cI cZ cO q_a0 q_a0_held q_a0_known q_a0_worths a0_count a0_held) H → va_D A (wlX8_allThings cI cZ cO q_a0 q_a0_held q_a0_known q_a0_worths a0_count a0_held) → va_S A s.heap H locs → lv_has ls 4 [(0, .ref q_a0), (1, .int x1_3), (2, .int x2_4)] → k4 x1_3 x2_4 = some o_r → W p l e (nh_rm 0) s m args below meth c H locs 0 0 (MQ below ((nh_Qi D (wlX8_allThings cI cZ cO q_a0 q_a0_held q_a0_known q_a0_worths a0_count a0_held) o_r) A) args s 0 0 A) (F0 m 49 ls [])) → ∀ (n : Nat) (x1_1 : Int32) (x2_2 : Int32) (H : Heap) (locs : List Loc) (ls : Array Slot), va_P D vwCl (wlX8_allThings cI cZ cO q_a0 q_a0_held q_a0_known q_a0_worths a0_count a0_held) H → va_D A (wlX8_allThings cI cZ cO q_a0 q_a0_held q_a0_known q_a0_worths a0_count a0_held) → va_S A s.heap H locs → lv_has ls 4 [(0, .ref q_a0), (1, .int x1_1), (2, .int x2_2)] → fX8_allThings_L4 a0_count a0_held k4 n x1_1 x2_2 = some o_r → W p l e (nh_rm 0) s m args below meth c H locs 0 0 (MQ below ((nh_Qi D (wlX8_allThings cI cZ cO q_a0 q_a0_held q_a0_known q_a0_worths a0_count a0_held) o_r) A) args s 0 0 A) (F0 m 4 ls []) := by
    intro k4 hk4 n
    induction n with
    | zero => intro x1_1 x2_2 H locs ls hP hD hS hl h; exact (nh_none h).elim
    | succ n4 ih4 =>
      intro x1_1 x2_2 H locs ls hP hD hS hl h
      replace h : fX8_allThings_B4 a0_count a0_held k4 (fX8_allThings_L4 a0_count a0_held k4 n4) x1_1 x2_2 = some o_r := h
      unfold fX8_allThings_B4 at h
      refine lv_iload_n hx hb dX8_allThings_4 rfl (lv_at hl 2 rfl) ?_
      refine lv_aload_n hx hb dX8_allThings_5 rfl (lv_at hl 0 rfl) ?_
      refine va_get (D := D) (ci := 1) (v := .int a0_count) (C := RX1) (T := TX1) (N := 4) hx hb hts nhu_X1 hown hK hP 0 rfl rfl 0 (by decide) (hts _ nhw_289) (fun _ h9 => h9) rfl dX8_allThings_6 ?_
      refine lv_icmp_ge (tgt := 49) hx hb dX8_allThings_9 (by decide) (fun c5 => ?_) (fun c5 => ?_)
      · replace h := nh_t h c5
        exact hk4 x1_1 x2_2 H locs ls hP hD hS (lv_sub hl [0, 1, 2] rfl) h
      · replace h := nh_f h c5
        refine lv_aload_n hx hb dX8_allThings_12 rfl (lv_at hl 0 rfl) ?_
        refine va_get (D := D) (ci := 1) (v := .ref q_a0_held) (C := RX1) (T := TX1) (N := 4) hx hb hts nhu_X1 hown hK hP 0 rfl rfl 1 (by decide) (hts _ nhw_290) (fun _ h9 => h9) rfl dX8_allThings_13 ?_
        refine lv_iload_n hx hb dX8_allThings_16 rfl (lv_at hl 2 rfl) ?_
        obtain ⟨z6, h⟩ := nh_chk_some h
        refine va_iald hx hb hK hP 1 0 rfl rfl (nh_in_in z6) dX8_allThings_17 ?_
        refine lv_bipush (v := (-9)) hx hb dX8_allThings_18 (by decide) ?_
        refine lv_icmp_ne (tgt := 28) hx hb dX8_allThings_20 (by decide) (fun c7 => ?_) (fun c7 => ?_)
        · replace h := nh_f h c7
          refine lv_aload_n hx hb dX8_allThings_28 rfl (lv_at hl 0 rfl) ?_
          refine va_get (D := D) (ci := 1) (v := .ref q_a0_held) (C := RX1) (T := TX1) (N := 4) hx hb hts nhu_X1 hown hK hP 0 rfl rfl 1 (by decide) (hts _ nhw_290) (fun _ h9 => h9) rfl dX8_allThings_29 ?_
          refine lv_iload_n hx hb dX8_allThings_32 rfl (lv_at hl 2 rfl) ?_
          obtain ⟨z8, h⟩ := nh_chk_some h
          refine va_iald hx hb hK hP 1 0 rfl rfl (nh_in_in z8) dX8_allThings_33 ?_
          refine lv_topi (fun y_9 ey_9 => ?_)
          replace h := nh_to h ey_9
          refine lv_istore_n (lv' := [(3, .int y_9), (0, .ref q_a0), (1, .int x1_1), (2, .int x2_2)]) hx hb dX8_allThings_34 rfl hl (by decide) rfl (fun ls hl => ?_)
          refine lv_iload_n hx hb dX8_allThings_35 rfl (lv_at hl 2 rfl) ?_
          refine lv_iload_n hx hb dX8_allThings_36 rfl (lv_at hl 0 rfl) ?_
          refine lv_iconst (v := 3) hx hb dX8_allThings_37 (by decide) ?_
          refine lv_iload_n hx hb dX8_allThings_38 rfl (lv_at hl 3 rfl) ?_
          refine lv_imul hx hb dX8_allThings_39 ?_
          refine lv_ishl hx hb dX8_allThings_40 ?_
          refine lv_ior hx hb dX8_allThings_41 ?_
          refine lv_topi (fun y_10 ey_10 => ?_)
          replace h := nh_to h ey_10
          refine lv_istore_n (lv' := [(1, .int y_10), (3, .int y_9), (0, .ref q_a0), (2, .int x2_2)]) hx hb dX8_allThings_42 rfl hl (by decide) rfl (fun ls hl => ?_)
          obtain ⟨x2_11, ex2_11⟩ : ∃ y : Int32, y = x2_2 + 1 := ⟨_, rfl⟩
          replace h := nh_to h ex2_11
          refine lv_iinc (v := x2_11) (lv' := [(2, .int x2_11), (1, .int y_10), (3, .int y_9), (0, .ref q_a0)]) hx hb dX8_allThings_43 hl (k := 3) rfl (by rw [ex2_11]; rfl) (by decide) rfl (fun ls hl => ?_)
          refine lv_goto (tgt := 4) hx hb dX8_allThings_46 (by decide) ?_
          exact ih4 y_10 x2_11 H locs ls hP hD hS (lv_sub hl [3, 1, 0] rfl) h
        · replace h := nh_t h c7
          refine lv_bipush (v := 7) hx hb dX8_allThings_23 (by decide) ?_
          refine lv_goto (tgt := 34) hx hb dX8_allThings_25 (by decide) ?_
          refine lv_istore_n (lv' := [(3, .int 7), (0, .ref q_a0), (1, .int x1_1), (2, .int x2_2)]) hx hb dX8_allThings_34 rfl hl (by decide) rfl (fun ls hl => ?_)
          refine lv_iload_n hx hb dX8_allThings_35 rfl (lv_at hl 2 rfl) ?_
          refine lv_iload_n hx hb dX8_allThings_36 rfl (lv_at hl 0 rfl) ?_
          refine lv_iconst (v := 3) hx hb dX8_allThings_37 (by decide) ?_
          refine lv_iload_n hx hb dX8_allThings_38 rfl (lv_at hl 3 rfl) ?_
          refine lv_imul hx hb dX8_allThings_39 ?_
          refine lv_ishl hx hb dX8_allThings_40 ?_
          refine lv_ior hx hb dX8_allThings_41 ?_
          refine lv_topi (fun y_12 ey_12 => ?_)
          replace h := nh_to h ey_12
          refine lv_istore_n (lv' := [(1, .int y_12), (3, .int 7), (0, .ref q_a0), (2, .int x2_2)]) hx hb dX8_allThings_42 rfl hl (by decide) rfl (fun ls hl => ?_)
          obtain ⟨x2_13, ex2_13⟩ : ∃ y : Int32, y = x2_2 + 1 := ⟨_, rfl⟩
          replace h := nh_to h ex2_13
          refine lv_iinc (v := x2_13) (lv' := [(2, .int x2_13), (1, .int y_12), (3, .int 7), (0, .ref q_a0)]) hx hb dX8_allThings_43 hl (k := 3) rfl (by rw [ex2_13]; rfl) (by decide) rfl (fun ls hl => ?_)
          refine lv_goto (tgt := 4) hx hb dX8_allThings_46 (by decide) ?_
          exact ih4 y_12 x2_13 H locs ls hP hD hS (lv_sub hl [3, 1, 0] rfl) h
  refine L4 _ (fun x1_3 x2_4 H locs ls hP hD hS hl h => ?_) _ 0 0 H locs ls hP hD hS (lv_sub hl [2, 1, 0] rfl) h
  refine lv_iload_n hx hb dX8_allThings_49 rfl (lv_at hl 1 rfl) ?_
  replace h := nh_i1 h
  exact nh_ri hx hb hr hlocks h hP hS dX8_allThings_50
abbrev wlX8_thingIn (cI cZ cO : ClassId)   : va_W := []
def fX8_thingIn (i0 : Int32) (i1 : Int32) : Int32 :=
  nh_let (α := Int32) ((((Int32.toUInt32 i0 >>> (Int32.toUInt32 (3 * i1) &&& Int32.toUInt32 31)).toInt32) &&& 7)) (fun y_1 => (if y_1 = 7 then (-9)
 else y_1))
set_option maxHeartbeats 4000000 in
set_option maxRecDepth 100000 in
theorem kX8_thingIn (l : Launch) (D : va_G) (cI cZ cO : ClassId) (sz : Nat)   (i0 : Int32) (i1 : Int32) (o_r : Int32) (h : fX8_thingIn i0 i1 = o_r) : Met l yX8_thingIn (nh_w (.code yX8_thingIn cX8_thingIn 3 (some .int))) (nh_rm 0) (nh_Pc D cI cZ cO (wlX8_thingIn cI cZ cO ) [.int i0, .int i1] sz) ((nh_Qi D (wlX8_thingIn cI cZ cO ) o_r) (va_A (wlX8_thingIn cI cZ cO ) sz)) 0 0 (va_A (wlX8_thingIn cI cZ cO ) sz) := by
  unfold fX8_thingIn at h
  refine nh_met (cc := cX8_thingIn) (maxL := 3) (ret := (some .int)) (nh_Qi D (wlX8_thingIn cI cZ cO ) o_r) (by decide) rfl (Nat.le_of_ble_eq_true rfl) ?_
  intro p e s m args below meth c A H locs ls hx hb hml hr hown hts hlocks hinit hP hK hN hD hA hS hl
  have hl : lv_has ls 3 [(0, .int i0), (1, .int i1)] := hl
  have hts : ∀ w ∈ nh_words, w.before args s = true := fun w h => hts w (List.mem_cons_of_mem _ h)
  refine lv_iload_n hx hb dX8_thingIn_0 rfl (lv_at hl 0 rfl) ?_
  refine lv_iconst (v := 3) hx hb dX8_thingIn_1 (by decide) ?_
  refine lv_iload_n hx hb dX8_thingIn_2 rfl (lv_at hl 1 rfl) ?_
  refine lv_imul hx hb dX8_thingIn_3 ?_
  refine lv_iushr hx hb dX8_thingIn_4 rfl ?_
  refine lv_bipush (v := 7) hx hb dX8_thingIn_5 (by decide) ?_
  refine lv_iand hx hb dX8_thingIn_7 ?_
  refine lv_topi (fun y_1 ey_1 => ?_)
  replace h := nh_to h ey_1
  refine lv_istore_n (lv' := [(2, .int y_1), (0, .int i0), (1, .int i1)]) hx hb dX8_thingIn_8 rfl hl (by decide) rfl (fun ls hl => ?_)
  refine lv_iload_n hx hb dX8_thingIn_9 rfl (lv_at hl 0 rfl) ?_
  refine lv_bipush (v := 7) hx hb dX8_thingIn_10 (by decide) ?_
  refine lv_icmp_ne (tgt := 20) hx hb dX8_thingIn_12 (by decide) (fun c2 => ?_) (fun c2 => ?_)
  · replace h := nh_f h c2
    refine lv_iload_n hx hb dX8_thingIn_20 rfl (lv_at hl 0 rfl) ?_
    exact nh_ri hx hb hr hlocks h hP hS dX8_thingIn_21
  · replace h := nh_t h c2
    refine lv_bipush (v := (-9)) hx hb dX8_thingIn_15 (by decide) ?_
    refine lv_goto (tgt := 21) hx hb dX8_thingIn_17 (by decide) ?_
    exact nh_ri hx hb hr hlocks h hP hS dX8_thingIn_21
abbrev wlX8_worthIn (cI cZ cO : ClassId) (q_a0 q_a0_held q_a0_known q_a0_worths : Nat) (a0_count : Int32) (a0_worths : Nat → Int32) : va_W := [(q_a0, .inr (1, [.int a0_count, .ref q_a0_held, .ref q_a0_known, .ref q_a0_worths])), (q_a0_worths, .inl (cI, 24, .inl a0_worths))]
def fX8_worthIn (a0_count : Int32) (a0_worths : Nat → Int32) (i1 : Int32) (i2 : Int32) : Option (Int32) :=
  nh_b1 (fX1_worthOf a0_count a0_worths i2 (fX8_thingIn i1 i2)) (fun r_1 => some r_1)
set_option maxHeartbeats 4000000 in
set_option maxRecDepth 100000 in
theorem kX8_worthIn (l : Launch) (D : va_G) (cI cZ cO : ClassId) (sz : Nat) (q_a0 q_a0_held q_a0_known q_a0_worths : Nat) (a0_count : Int32) (a0_worths : Nat → Int32) (i1 : Int32) (i2 : Int32) (o_r : Int32) (h : fX8_worthIn a0_count a0_worths i1 i2 = some o_r) : Met l yX8_worthIn (nh_w (.code yX8_worthIn cX8_worthIn 3 (some .int))) (nh_rm 2) (nh_Pc D cI cZ cO (wlX8_worthIn cI cZ cO q_a0 q_a0_held q_a0_known q_a0_worths a0_count a0_worths) [.ref q_a0, .int i1, .int i2] sz) ((nh_Qi D (wlX8_worthIn cI cZ cO q_a0 q_a0_held q_a0_known q_a0_worths a0_count a0_worths) o_r) (va_A (wlX8_worthIn cI cZ cO q_a0 q_a0_held q_a0_known q_a0_worths a0_count a0_worths) sz)) 0 0 (va_A (wlX8_worthIn cI cZ cO q_a0 q_a0_held q_a0_known q_a0_worths a0_count a0_worths) sz) := by
  unfold fX8_worthIn at h
  refine nh_met (cc := cX8_worthIn) (maxL := 3) (ret := (some .int)) (nh_Qi D (wlX8_worthIn cI cZ cO q_a0 q_a0_held q_a0_known q_a0_worths a0_count a0_worths) o_r) (by decide) rfl (Nat.le_of_ble_eq_true rfl) ?_
  intro p e s m args below meth c A H locs ls hx hb hml hr hown hts hlocks hinit hP hK hN hD hA hS hl
  have hl : lv_has ls 3 [(0, .ref q_a0), (1, .int i1), (2, .int i2)] := hl
  have hts : ∀ w ∈ nh_words, w.before args s = true := fun w h => hts w (List.mem_cons_of_mem _ h)
  refine lv_aload_n hx hb dX8_worthIn_0 rfl (lv_at hl 0 rfl) ?_
  refine lv_iload_n hx hb dX8_worthIn_1 rfl (lv_at hl 2 rfl) ?_
  refine lv_iload_n hx hb dX8_worthIn_2 rfl (lv_at hl 1 rfl) ?_
  refine lv_iload_n hx hb dX8_worthIn_3 rfl (lv_at hl 2 rfl) ?_
  refine nh_goi (nh_S (As := [.int i1, .int i2]) (rest := [.int i2, .ref q_a0]) ⟨hx, hb, hml, hown, hts⟩ (kX8_thingIn  l D cI cZ cO H.size i1 i2 (fX8_thingIn i1 i2) rfl) (va_cwS 2 hts (nh_gS nhw_652 nhw_826 nhw_312 nhw_173) rfl rfl rfl (by decide +kernel) ⟨Nat.le_of_ble_eq_true rfl, Nat.le_of_ble_eq_true rfl⟩) hK hN hP hD (isC := []) rfl rfl rfl hl.1 rfl (Nat.le_of_ble_eq_true rfl) dX8_worthIn_4 ⟨Nat.zero_le _, Nat.zero_le _⟩) hP hD hS hA (isC := []) rfl rfl rfl (w' := (wlX8_worthIn cI cZ cO q_a0 q_a0_held q_a0_known q_a0_worths a0_count a0_worths)) rfl (fun H locs hP hD hS => ?_)
  obtain ⟨r_1, hc2, h⟩ := nh_b1_some h
  refine nh_goi (nh_V (As := [.int i2, .int (fX8_thingIn i1 i2)]) (rest := []) ⟨hx, hb, hml, hown, hts⟩ (kX1_worthOf  l D cI cZ cO H.size q_a0 q_a0_held q_a0_known q_a0_worths a0_count a0_worths i2 (fX8_thingIn i1 i2) r_1 hc2) (cwV 2 hts (nh_gV nhw_660 nhw_428 nhw_689 nhw_303 nhw_138) rfl rfl rfl (by decide +kernel) ⟨Nat.le_of_ble_eq_true rfl, Nat.le_of_ble_eq_true rfl⟩) hK hN hP hD (isC := [0, 1]) rfl rfl 0 1 rfl rfl rfl rfl hl.1 rfl (Nat.le_of_ble_eq_true rfl) dX8_worthIn_7 ⟨Nat.zero_le _, Nat.zero_le _⟩) hP hD hS hA (isC := [0, 1]) rfl rfl rfl (w' := (wlX8_worthIn cI cZ cO q_a0 q_a0_held q_a0_known q_a0_worths a0_count a0_worths)) rfl (fun H locs hP hD hS => ?_)
  replace h := nh_i1 h
  exact nh_ri hx hb hr hlocks h hP hS dX8_worthIn_10
abbrev wlX8_bestEnd (cI cZ cO : ClassId) (q_a0 q_a1 q_a1_held q_a1_known q_a1_worths : Nat) (a0_opening : Int32) (a0_end : Int32) (a1_count : Int32) (a1_held : Nat → Int32) (a1_known : Nat → Int32) (a1_worths : Nat → Int32) : va_W := [(q_a0, .inr (7, [.int a0_opening, .int a0_end])), (q_a1, .inr (1, [.int a1_count, .ref q_a1_held, .ref q_a1_known, .ref q_a1_worths])), (q_a1_held, .inl (cI, 4, .inl a1_held)), (q_a1_known, .inl (cI, 4, .inl a1_known)), (q_a1_worths, .inl (cI, 24, .inl a1_worths))]
def fX8_bestEnd_B50 (a1_count : Int32) (a1_worths : Nat → Int32) (i2 : Int32) (i3 : Int32) (rc : Int32 → Int32 → (Nat → Int32) → (Nat → Int32) → (Nat → Int32) → Int32 → Int32 → Option (Int32 × Int32 × (Nat → Int32) × (Nat → Int32))) (y_9 : Int32) (k50 : Int32 → Int32 → Int32 → Int32 → (Nat → Int32) → (Nat → Int32) → Option (Int32 × Int32 × (Nat → Int32) × (Nat → Int32))) (r50 : Int32 → Int32 → Int32 → Int32 → (Nat → Int32) → (Nat → Int32) → Option (Int32 × Int32 × (Nat → Int32) × (Nat → Int32))) (x5_15 : Int32) (x6_16 : Int32) (x7_17 : Int32) (a0_opening_18 : Int32) (a1_held_19 : Nat → Int32) (a1_known_20 : Nat → Int32) : Option (Int32 × Int32 × (Nat → Int32) × (Nat → Int32)) :=
  (if a1_count ≤ x7_17 then k50 x5_15 x6_16 x7_17 a0_opening_18 a1_held_19 a1_known_20
 else (if x7_17 = y_9 then nh_let (α := Int32) (x7_17 + 1) (fun x7_29 => r50 x5_15 x6_16 x7_29 a0_opening_18 a1_held_19 a1_known_20)
 else nh_b1 (fX1_canSwap a1_count a1_held_19 a1_known_20 y_9 x7_17) (fun r_30 => (if r_30 = 0 then nh_let (α := Int32) (x7_17 + 1) (fun x7_33 => r50 x5_15 x6_16 x7_33 a0_opening_18 a1_held_19 a1_known_20)
 else nh_b1 (fX8_agrees a1_count a1_held_19 a1_worths y_9 x7_17) (fun r_34 => (if r_34 = 0 then nh_let (α := Int32) (x7_17 + 1) (fun x7_37 => r50 x5_15 x6_16 x7_37 a0_opening_18 a1_held_19 a1_known_20)
 else nh_b2 (fX1_swap a1_count a1_held_19 a1_known_20 y_9 x7_17) (fun a1_held_38 a1_known_39 => nh_b4 (rc a0_opening_18 a1_count a1_held_38 a1_known_39 a1_worths (i2 + 1) i3) (fun r_41 a0_opening_42 a1_held_43 a1_known_44 => nh_b2 (fX1_swapBack a1_count a1_held_43 a1_known_44 y_9 x7_17) (fun a1_held_46 a1_known_47 => nh_b1 (fX8_worthIn a1_count a1_worths r_41 y_9) (fun r_49 => nh_b1 (fX8_worthIn a1_count a1_worths x5_15 y_9) (fun r_51 => (if r_49 ≤ r_51 then nh_let (α := Int32) (x7_17 + 1) (fun x7_54 => r50 x5_15 x6_16 x7_54 a0_opening_42 a1_held_46 a1_known_47)
 else nh_let (α := Int32) (x7_17 + 1) (fun x7_55 => r50 r_41 x7_17 x7_55 a0_opening_42 a1_held_46 a1_known_47)))))))))))))
def fX8_bestEnd_L50 (a1_count : Int32) (a1_worths : Nat → Int32) (i2 : Int32) (i3 : Int32) (rc : Int32 → Int32 → (Nat → Int32) → (Nat → Int32) → (Nat → Int32) → Int32 → Int32 → Option (Int32 × Int32 × (Nat → Int32) × (Nat → Int32))) (y_9 : Int32) (k50 : Int32 → Int32 → Int32 → Int32 → (Nat → Int32) → (Nat → Int32) → Option (Int32 × Int32 × (Nat → Int32) × (Nat → Int32))) : Nat → Int32 → Int32 → Int32 → Int32 → (Nat → Int32) → (Nat → Int32) → Option (Int32 × Int32 × (Nat → Int32) × (Nat → Int32))
  | 0 => fun _ _ _ _ _ _ => none
  | n + 1 => fX8_bestEnd_B50 a1_count a1_worths i2 i3 rc y_9 k50 (fX8_bestEnd_L50 a1_count a1_worths i2 i3 rc y_9 k50 n)
def fX8_bestEnd_R (F : Nat) (rc : Int32 → Int32 → (Nat → Int32) → (Nat → Int32) → (Nat → Int32) → Int32 → Int32 → Option (Int32 × Int32 × (Nat → Int32) × (Nat → Int32))) (a0_opening : Int32) (a1_count : Int32) (a1_held : Nat → Int32) (a1_known : Nat → Int32) (a1_worths : Nat → Int32) (i2 : Int32) (i3 : Int32) : Option (Int32 × Int32 × (Nat → Int32) × (Nat → Int32)) :=
  (if i3 ≤ i2 then nh_b1 (fX8_allThings F a1_count a1_held) (fun r_2 => some (r_2, a0_opening, a1_held, a1_known))
 else (if 6 ≤ i2 then nh_b1 (fX8_allThings F a1_count a1_held) (fun r_5 => some (r_5, a0_opening, a1_held, a1_known))
 else (if 1 ≤ a1_count then nh_chk (decide (¬ a1_count = 0)) (nh_let (α := Int32) ((i2 - i2 / a1_count * a1_count)) (fun y_9 => nh_b4 (rc a0_opening a1_count a1_held a1_known a1_worths (i2 + 1) i3) (fun r_10 a0_opening_11 a1_held_12 a1_known_13 => fX8_bestEnd_L50 a1_count a1_worths i2 i3 rc y_9 (fun x5_21 x6_22 x7_23 a0_opening_24 a1_held_25 a1_known_26 => (if i2 = 0 then some (x5_21, x6_22, a1_held_25, a1_known_26)
 else some (x5_21, a0_opening_24, a1_held_25, a1_known_26))) F r_10 (-9) 0 a0_opening_11 a1_held_12 a1_known_13)))
 else nh_b1 (fX8_allThings F a1_count a1_held) (fun r_57 => some (r_57, a0_opening, a1_held, a1_known)))))
def fX8_bestEnd (F : Nat) : Nat → Int32 → Int32 → (Nat → Int32) → (Nat → Int32) → (Nat → Int32) → Int32 → Int32 → Option (Int32 × Int32 × (Nat → Int32) × (Nat → Int32))
  | 0 => fun _ _ _ _ _ _ _ => none
  | d + 1 => fX8_bestEnd_R F (fX8_bestEnd F d)
set_option maxHeartbeats 4000000 in
set_option maxRecDepth 100000 in
theorem kX8_bestEnd (F : Nat) (d : Nat) (l : Launch) (D : va_G) (cI cZ cO : ClassId) : ∀ (sz : Nat) (q_a0 q_a1 q_a1_held q_a1_known q_a1_worths : Nat) (a0_opening : Int32) (a0_end : Int32) (a1_count : Int32) (a1_held : Nat → Int32) (a1_known : Nat → Int32) (a1_worths : Nat → Int32) (i2 : Int32) (i3 : Int32) (o_r : Int32) (o_a0_opening : Int32) (o_a1_held : Nat → Int32) (o_a1_known : Nat → Int32), fX8_bestEnd F d a0_opening a1_count a1_held a1_known a1_worths i2 i3 = some (o_r, o_a0_opening, o_a1_held, o_a1_known) → Met l yX8_bestEnd (nh_w (.code yX8_bestEnd cX8_bestEnd 9 (some .int))) (nh_rm (3 + d)) (nh_Pc D cI cZ cO (wlX8_bestEnd cI cZ cO q_a0 q_a1 q_a1_held q_a1_known q_a1_worths a0_opening a0_end a1_count a1_held a1_known a1_worths) [.ref q_a0, .ref q_a1, .int i2, .int i3] sz) ((nh_Qi D (wlX8_bestEnd cI cZ cO q_a0 q_a1 q_a1_held q_a1_known q_a1_worths o_a0_opening a0_end a1_count o_a1_held o_a1_known a1_worths) o_r) (va_A (wlX8_bestEnd cI cZ cO q_a0 q_a1 q_a1_held q_a1_known q_a1_worths a0_opening a0_end a1_count a1_held a1_known a1_worths) sz)) 0 0 (va_A (wlX8_bestEnd cI cZ cO q_a0 q_a1 q_a1_held q_a1_known q_a1_worths a0_opening a0_end a1_count a1_held a1_known a1_worths) sz) := by
  induction d with
  | zero => intro sz q_a0 q_a1 q_a1_held q_a1_known q_a1_worths a0_opening a0_end a1_count a1_held a1_known a1_worths i2 i3 o_r o_a0_opening o_a1_held o_a1_known h; exact (nh_none h).elim
  | succ d ihd =>
    intro sz q_a0 q_a1 q_a1_held q_a1_known q_a1_worths a0_opening a0_end a1_count a1_held a1_known a1_worths i2 i3 o_r o_a0_opening o_a1_held o_a1_known h
    replace h : fX8_bestEnd_R F (fX8_bestEnd F d) a0_opening a1_count a1_held a1_known a1_worths i2 i3 = some (o_r, o_a0_opening, o_a1_held, o_a1_known) := h
    unfold fX8_bestEnd_R at h
    refine nh_met (cc := cX8_bestEnd) (maxL := 9) (ret := (some .int)) (nh_Qi D (wlX8_bestEnd cI cZ cO q_a0 q_a1 q_a1_held q_a1_known q_a1_worths o_a0_opening a0_end a1_count o_a1_held o_a1_known a1_worths) o_r) (by decide) rfl (Nat.le_of_ble_eq_true rfl) ?_
    intro p e s m args below meth c A H locs ls hx hb hml hr hown hts hlocks hinit hP hK hN hD hA hS hl
    have hl : lv_has ls 9 [(0, .ref q_a0), (1, .ref q_a1), (2, .int i2), (3, .int i3)] := hl
    have hts : ∀ w ∈ nh_words, w.before args s = true := fun w h => hts w (List.mem_cons_of_mem _ h)
    refine lv_iload_n hx hb dX8_bestEnd_0 rfl (lv_at hl 2 rfl) ?_
    refine lv_iload_n hx hb dX8_bestEnd_1 rfl (lv_at hl 3 rfl) ?_
    refine lv_icmp_ge (tgt := 19) hx hb dX8_bestEnd_2 (by decide) (fun c1 => ?_) (fun c1 => ?_)
    · replace h := nh_t h c1
      refine lv_aload_n hx hb dX8_bestEnd_19 rfl (lv_at hl 1 rfl) ?_
      obtain ⟨r_2, hc3, h⟩ := nh_b1_some h
      refine nh_goi (nh_S (As := [.ref q_a1]) (rest := []) ⟨hx, hb, hml, hown, hts⟩ (kX8_allThings F l D cI cZ cO H.size q_a1 q_a1_held q_a1_known q_a1_worths a1_count a1_held r_2 hc3) (va_cwS 1 hts (nh_gS nhw_654 nhw_824 nhw_312 nhw_168) rfl rfl rfl (by decide +kernel) ⟨by show 0 + 1 ≤ 3 + (d + 1); omega, by show 8 + (4 + 11) + 64 * 0 ≤ 64 * (3 + (d + 1)); omega⟩) hK hN hP hD (isC := [1, 2]) rfl rfl rfl hl.1 rfl (Nat.le_of_ble_eq_true rfl) dX8_bestEnd_20 ⟨Nat.zero_le _, Nat.zero_le _⟩) hP hD hS hA (isC := [1, 2]) rfl rfl rfl (w' := (wlX8_bestEnd cI cZ cO q_a0 q_a1 q_a1_held q_a1_known q_a1_worths a0_opening a0_end a1_count a1_held a1_known a1_worths)) rfl (fun H locs hP hD hS => ?_)
      obtain ⟨g0, g1, g2, g3⟩ := nh_i4 h
      exact nh_ri hx hb hr hlocks g0 (by rw [← g1, ← g2, ← g3]; exact hP) hS dX8_bestEnd_23
    · replace h := nh_f h c1
      refine lv_iload_n hx hb dX8_bestEnd_5 rfl (lv_at hl 2 rfl) ?_
      refine lv_bipush (v := 6) hx hb dX8_bestEnd_6 (by decide) ?_
      refine lv_icmp_ge (tgt := 19) hx hb dX8_bestEnd_8 (by decide) (fun c4 => ?_) (fun c4 => ?_)
      · replace h := nh_t h c4
        refine lv_aload_n hx hb dX8_bestEnd_19 rfl (lv_at hl 1 rfl) ?_
        obtain ⟨r_5, hc6, h⟩ := nh_b1_some h
        refine nh_goi (nh_S (As := [.ref q_a1]) (rest := []) ⟨hx, hb, hml, hown, hts⟩ (kX8_allThings F l D cI cZ cO H.size q_a1 q_a1_held q_a1_known q_a1_worths a1_count a1_held r_5 hc6) (va_cwS 1 hts (nh_gS nhw_654 nhw_824 nhw_312 nhw_168) rfl rfl rfl (by decide +kernel) ⟨by show 0 + 1 ≤ 3 + (d + 1); omega, by show 8 + (4 + 11) + 64 * 0 ≤ 64 * (3 + (d + 1)); omega⟩) hK hN hP hD (isC := [1, 2]) rfl rfl rfl hl.1 rfl (Nat.le_of_ble_eq_true rfl) dX8_bestEnd_20 ⟨Nat.zero_le _, Nat.zero_le _⟩) hP hD hS hA (isC := [1, 2]) rfl rfl rfl (w' := (wlX8_bestEnd cI cZ cO q_a0 q_a1 q_a1_held q_a1_known q_a1_worths a0_opening a0_end a1_count a1_held a1_known a1_worths)) rfl (fun H locs hP hD hS => ?_)
        obtain ⟨g0, g1, g2, g3⟩ := nh_i4 h
        exact nh_ri hx hb hr hlocks g0 (by rw [← g1, ← g2, ← g3]; exact hP) hS dX8_bestEnd_23
      · replace h := nh_f h c4
        refine lv_aload_n hx hb dX8_bestEnd_11 rfl (lv_at hl 1 rfl) ?_
        refine va_get (D := D) (ci := 1) (v := .int a1_count) (C := RX1) (T := TX1) (N := 4) hx hb hts nhu_X1 hown hK hP 1 rfl rfl 0 (by decide) (hts _ nhw_289) (fun _ h9 => h9) rfl dX8_bestEnd_12 ?_
        refine lv_iconst (v := 1) hx hb dX8_bestEnd_15 (by decide) ?_
        refine lv_icmp_ge (tgt := 24) hx hb dX8_bestEnd_16 (by decide) (fun c7 => ?_) (fun c7 => ?_)
        · replace h := nh_t h c7
          refine lv_iload_n hx hb dX8_bestEnd_24 rfl (lv_at hl 2 rfl) ?_
          refine lv_aload_n hx hb dX8_bestEnd_25 rfl (lv_at hl 1 rfl) ?_
          refine va_get (D := D) (ci := 1) (v := .int a1_count) (C := RX1) (T := TX1) (N := 4) hx hb hts nhu_X1 hown hK hP 1 rfl rfl 0 (by decide) (hts _ nhw_289) (fun _ h9 => h9) rfl dX8_bestEnd_26 ?_
          obtain ⟨z8, h⟩ := nh_chk_some h
          refine lv_irem hx hb dX8_bestEnd_29 (of_decide_eq_true z8) ?_
          refine lv_topi (fun y_9 ey_9 => ?_)
          replace h := nh_to h ey_9
          refine lv_istore (lv' := [(4, .int y_9), (0, .ref q_a0), (1, .ref q_a1), (2, .int i2), (3, .int i3)]) hx hb dX8_bestEnd_30 hl (by decide) rfl (fun ls hl => ?_)
          refine lv_aload_n hx hb dX8_bestEnd_32 rfl (lv_at hl 1 rfl) ?_
          refine lv_aload_n hx hb dX8_bestEnd_33 rfl (lv_at hl 2 rfl) ?_
          refine lv_iload_n hx hb dX8_bestEnd_34 rfl (lv_at hl 3 rfl) ?_
          refine lv_iconst (v := 1) hx hb dX8_bestEnd_35 (by decide) ?_
          refine lv_iadd hx hb dX8_bestEnd_36 ?_
          refine lv_iload_n hx hb dX8_bestEnd_37 rfl (lv_at hl 4 rfl) ?_
          obtain ⟨r_10, a0_opening_11, a1_held_12, a1_known_13, hc14, h⟩ := nh_b4_some h
          refine nh_goi (nh_S (As := [.ref q_a0, .ref q_a1, .int (i2 + 1), .int i3]) (rest := []) ⟨hx, hb, hml, hown, hts⟩ (ihd H.size q_a0 q_a1 q_a1_held q_a1_known q_a1_worths a0_opening a0_end a1_count a1_held a1_known a1_worths (i2 + 1) i3 r_10 a0_opening_11 a1_held_12 a1_known_13 hc14) (va_cwS 4 hts (nh_gS nhw_651 nhw_825 nhw_312 nhw_169) rfl rfl rfl (by decide +kernel) ⟨by show 3 + d + 1 ≤ 3 + (d + 1); omega, by show 8 + (9 + 11) + 64 * (3 + d) ≤ 64 * (3 + (d + 1)); omega⟩) hK hN hP hD (isC := [0, 1, 2, 3, 4]) rfl rfl rfl hl.1 rfl (Nat.le_of_ble_eq_true rfl) dX8_bestEnd_38 ⟨Nat.zero_le _, Nat.zero_le _⟩) hP hD hS hA (isC := [0, 1, 2, 3, 4]) rfl rfl rfl (w' := (wlX8_bestEnd cI cZ cO q_a0 q_a1 q_a1_held q_a1_known q_a1_worths a0_opening_11 a0_end a1_count a1_held_12 a1_known_13 a1_worths)) rfl (fun H locs hP hD hS => ?_)
          refine lv_istore (lv' := [(5, .int r_10), (4, .int y_9), (0, .ref q_a0), (1, .ref q_a1), (2, .int i2), (3, .int i3)]) hx hb dX8_bestEnd_41 hl (by decide) rfl (fun ls hl => ?_)
          refine lv_bipush (v := (-9)) hx hb dX8_bestEnd_43 (by decide) ?_
          refine lv_istore (lv' := [(6, .int (-9)), (5, .int r_10), (4, .int y_9), (0, .ref q_a0), (1, .ref q_a1), (2, .int i2), (3, .int i3)]) hx hb dX8_bestEnd_45 hl (by decide) rfl (fun ls hl => ?_)
          refine lv_iconst (v := 0) hx hb dX8_bestEnd_47 (by decide) ?_
          refine lv_istore (lv' := [(7, .int 0), (6, .int (-9)), (5, .int r_10), (4, .int y_9), (0, .ref q_a0), (1, .ref q_a1), (2, .int i2), (3, .int i3)]) hx hb dX8_bestEnd_48 hl (by decide) rfl (fun ls hl => ?_)
          have L50 : ∀ (k50 : Int32 → Int32 → Int32 → Int32 → (Nat → Int32) → (Nat → Int32) → Option (Int32 × Int32 × (Nat → Int32) × (Nat → Int32))), (∀ (x5_21 : Int32) (x6_22 : Int32) (x7_23 : Int32) (a0_opening_24 : Int32) (a1_held_25 : Nat → Int32) (a1_known_26 : Nat → Int32) (H : Heap) (locs : List Loc) (ls : Array Slot), va_P D vwCl (wlX8_bestEnd cI cZ cO q_a0 q_a1 q_a1_held q_a1_known q_a1_worths a0_opening_24 a0_end a1_count a1_held_25 a1_known_26 a1_worths) H → va_D A (wlX8_bestEnd cI cZ cO q_a0 q_a1 q_a1_held q_a1_known q_a1_worths a0_opening_24 a0_end a1_count a1_held_25 a1_known_26 a1_worths) → va_S A s.heap H locs → lv_has ls 9 [(0, .ref q_a0), (1, .ref q_a1), (2, .int i2), (3, .int i3), (4, .int y_9), (5, .int x5_21), (6, .int x6_22), (7, .int x7_23)] → k50 x5_21 x6_22 x7_23 a0_opening_24 a1_held_25 a1_known_26 = some (o_r, o_a0_opening, o_a1_held, o_a1_known) → W p l e (nh_rm (3 + (d + 1))) s m args below meth c H locs 0 0 (MQ below ((nh_Qi D (wlX8_bestEnd cI cZ cO q_a0 q_a1 q_a1_held q_a1_known q_a1_worths o_a0_opening a0_end a1_count o_a1_held o_a1_known a1_worths) o_r) A) args s 0 0 A) (F0 m 148 ls [])) → ∀ (n : Nat) (x5_15 : Int32) (x6_16 : Int32) (x7_17 : Int32) (a0_opening_18 : Int32) (a1_held_19 : Nat → Int32) (a1_known_20 : Nat → Int32) (H : Heap) (locs : List Loc) (ls : Array Slot), va_P D vwCl (wlX8_bestEnd cI cZ cO q_a0 q_a1 q_a1_held q_a1_known q_a1_worths a0_opening_18 a0_end a1_count a1_held_19 a1_known_20 a1_worths) H → va_D A (wlX8_bestEnd cI cZ cO q_a0 q_a1 q_a1_held q_a1_known q_a1_worths a0_opening_18 a0_end a1_count a1_held_19 a1_known_20 a1_worths) → va_S A s.heap H locs → lv_has ls 9 [(0, .ref q_a0), (1, .ref q_a1), (2, .int i2), (3, .int i3), (4, .int y_9), (5, .int x5_15), (6, .int x6_16), (7, .int x7_17)] → fX8_bestEnd_L50 a1_count a1_worths i2 i3 (fX8_bestEnd F d) y_9 k50 n x5_15 x6_16 x7_17 a0_opening_18 a1_held_19 a1_known_20 = some (o_r, o_a0_opening, o_a1_held, o_a1_known) → W p l e (nh_rm (3 + (d + 1))) s m args below meth c H locs 0 0 (MQ below ((nh_Qi D (wlX8_bestEnd cI cZ cO q_a0 q_a1 q_a1_held q_a1_known q_a1_worths o_a0_opening a0_end a1_count o_a1_held o_a1_known a1_worths) o_r) A) args s 0 0 A) (F0 m 50 ls []) := by
            intro k50 hk50 n
            induction n with
            | zero => intro x5_15 x6_16 x7_17 a0_opening_18 a1_held_19 a1_known_20 H locs ls hP hD hS hl h; exact (nh_none h).elim
            | succ n50 ih50 =>
              intro x5_15 x6_16 x7_17 a0_opening_18 a1_held_19 a1_known_20 H locs ls hP hD hS hl h
              replace h : fX8_bestEnd_B50 a1_count a1_worths i2 i3 (fX8_bestEnd F d) y_9 k50 (fX8_bestEnd_L50 a1_count a1_worths i2 i3 (fX8_bestEnd F d) y_9 k50 n50) x5_15 x6_16 x7_17 a0_opening_18 a1_held_19 a1_known_20 = some (o_r, o_a0_opening, o_a1_held, o_a1_known) := h
              unfold fX8_bestEnd_B50 at h
              refine lv_iload hx hb dX8_bestEnd_50 (lv_at hl 7 rfl) ?_
              refine lv_aload_n hx hb dX8_bestEnd_52 rfl (lv_at hl 1 rfl) ?_
              refine va_get (D := D) (ci := 1) (v := .int a1_count) (C := RX1) (T := TX1) (N := 4) hx hb hts nhu_X1 hown hK hP 1 rfl rfl 0 (by decide) (hts _ nhw_289) (fun _ h9 => h9) rfl dX8_bestEnd_53 ?_
              refine lv_icmp_ge (tgt := 148) hx hb dX8_bestEnd_56 (by decide) (fun c27 => ?_) (fun c27 => ?_)
              · replace h := nh_t h c27
                exact hk50 x5_15 x6_16 x7_17 a0_opening_18 a1_held_19 a1_known_20 H locs ls hP hD hS (lv_sub hl [0, 1, 2, 3, 4, 5, 6, 7] rfl) h
              · replace h := nh_f h c27
                refine lv_iload hx hb dX8_bestEnd_59 (lv_at hl 7 rfl) ?_
                refine lv_iload hx hb dX8_bestEnd_61 (lv_at hl 4 rfl) ?_
                refine lv_icmp_eq (tgt := 142) hx hb dX8_bestEnd_63 (by decide) (fun c28 => ?_) (fun c28 => ?_)
                · replace h := nh_t h c28
                  obtain ⟨x7_29, ex7_29⟩ : ∃ y : Int32, y = x7_17 + 1 := ⟨_, rfl⟩
                  replace h := nh_to h ex7_29
                  refine lv_iinc (v := x7_29) (lv' := [(7, .int x7_29), (0, .ref q_a0), (1, .ref q_a1), (2, .int i2), (3, .int i3), (4, .int y_9), (5, .int x5_15), (6, .int x6_16)]) hx hb dX8_bestEnd_142 hl (k := 7) rfl (by rw [ex7_29]; rfl) (by decide) rfl (fun ls hl => ?_)
                  refine lv_goto (tgt := 50) hx hb dX8_bestEnd_145 (by decide) ?_
                  exact ih50 x5_15 x6_16 x7_29 a0_opening_18 a1_held_19 a1_known_20 H locs ls hP hD hS (lv_sub hl [1, 2, 3, 4, 5, 6, 7, 0] rfl) h
                · replace h := nh_f h c28
                  refine lv_aload_n hx hb dX8_bestEnd_66 rfl (lv_at hl 1 rfl) ?_
                  refine lv_iload hx hb dX8_bestEnd_67 (lv_at hl 4 rfl) ?_
                  refine lv_iload hx hb dX8_bestEnd_69 (lv_at hl 7 rfl) ?_
                  obtain ⟨r_30, hc31, h⟩ := nh_b1_some h
                  refine nh_goi (nh_V (As := [.int y_9, .int x7_17]) (rest := []) ⟨hx, hb, hml, hown, hts⟩ (kX1_canSwap  l D cI cZ cO H.size q_a1 q_a1_held q_a1_known q_a1_worths a1_count a1_held_19 a1_known_20 y_9 x7_17 r_30 hc31) (cwV 2 hts (nh_gV nhw_655 nhw_415 nhw_677 nhw_303 nhw_124) rfl rfl rfl (by decide +kernel) ⟨by show 1 + 1 ≤ 3 + (d + 1); omega, by show 8 + (3 + 11) + 64 * 1 ≤ 64 * (3 + (d + 1)); omega⟩) hK hN hP hD (isC := [1, 2, 3]) rfl rfl 1 1 rfl rfl rfl rfl hl.1 rfl (Nat.le_of_ble_eq_true rfl) dX8_bestEnd_71 ⟨Nat.zero_le _, Nat.zero_le _⟩) hP hD hS hA (isC := [1, 2, 3]) rfl rfl rfl (w' := (wlX8_bestEnd cI cZ cO q_a0 q_a1 q_a1_held q_a1_known q_a1_worths a0_opening_18 a0_end a1_count a1_held_19 a1_known_20 a1_worths)) rfl (fun H locs hP hD hS => ?_)
                  refine lv_if_eq (tgt := 142) hx hb dX8_bestEnd_74 (by decide) (fun c32 => ?_) (fun c32 => ?_)
                  · replace h := nh_t h c32
                    obtain ⟨x7_33, ex7_33⟩ : ∃ y : Int32, y = x7_17 + 1 := ⟨_, rfl⟩
                    replace h := nh_to h ex7_33
                    refine lv_iinc (v := x7_33) (lv' := [(7, .int x7_33), (0, .ref q_a0), (1, .ref q_a1), (2, .int i2), (3, .int i3), (4, .int y_9), (5, .int x5_15), (6, .int x6_16)]) hx hb dX8_bestEnd_142 hl (k := 7) rfl (by rw [ex7_33]; rfl) (by decide) rfl (fun ls hl => ?_)
                    refine lv_goto (tgt := 50) hx hb dX8_bestEnd_145 (by decide) ?_
                    exact ih50 x5_15 x6_16 x7_33 a0_opening_18 a1_held_19 a1_known_20 H locs ls hP hD hS (lv_sub hl [1, 2, 3, 4, 5, 6, 7, 0] rfl) h
                  · replace h := nh_f h c32
                    refine lv_aload_n hx hb dX8_bestEnd_77 rfl (lv_at hl 1 rfl) ?_
                    refine lv_iload hx hb dX8_bestEnd_78 (lv_at hl 4 rfl) ?_
                    refine lv_iload hx hb dX8_bestEnd_80 (lv_at hl 7 rfl) ?_
                    obtain ⟨r_34, hc35, h⟩ := nh_b1_some h
                    refine nh_goi (nh_S (As := [.ref q_a1, .int y_9, .int x7_17]) (rest := []) ⟨hx, hb, hml, hown, hts⟩ (kX8_agrees  l D cI cZ cO H.size q_a1 q_a1_held q_a1_known q_a1_worths a1_count a1_held_19 a1_worths y_9 x7_17 r_34 hc35) (va_cwS 3 hts (nh_gS nhw_656 nhw_823 nhw_312 nhw_167) rfl rfl rfl (by decide +kernel) ⟨by show 2 + 1 ≤ 3 + (d + 1); omega, by show 8 + (3 + 11) + 64 * 2 ≤ 64 * (3 + (d + 1)); omega⟩) hK hN hP hD (isC := [1, 2, 4]) rfl rfl rfl hl.1 rfl (Nat.le_of_ble_eq_true rfl) dX8_bestEnd_82 ⟨Nat.zero_le _, Nat.zero_le _⟩) hP hD hS hA (isC := [1, 2, 4]) rfl rfl rfl (w' := (wlX8_bestEnd cI cZ cO q_a0 q_a1 q_a1_held q_a1_known q_a1_worths a0_opening_18 a0_end a1_count a1_held_19 a1_known_20 a1_worths)) rfl (fun H locs hP hD hS => ?_)
                    refine lv_if_eq (tgt := 142) hx hb dX8_bestEnd_85 (by decide) (fun c36 => ?_) (fun c36 => ?_)
                    · replace h := nh_t h c36
                      obtain ⟨x7_37, ex7_37⟩ : ∃ y : Int32, y = x7_17 + 1 := ⟨_, rfl⟩
                      replace h := nh_to h ex7_37
                      refine lv_iinc (v := x7_37) (lv' := [(7, .int x7_37), (0, .ref q_a0), (1, .ref q_a1), (2, .int i2), (3, .int i3), (4, .int y_9), (5, .int x5_15), (6, .int x6_16)]) hx hb dX8_bestEnd_142 hl (k := 7) rfl (by rw [ex7_37]; rfl) (by decide) rfl (fun ls hl => ?_)
                      refine lv_goto (tgt := 50) hx hb dX8_bestEnd_145 (by decide) ?_
                      exact ih50 x5_15 x6_16 x7_37 a0_opening_18 a1_held_19 a1_known_20 H locs ls hP hD hS (lv_sub hl [1, 2, 3, 4, 5, 6, 7, 0] rfl) h
                    · replace h := nh_f h c36
                      refine lv_aload_n hx hb dX8_bestEnd_88 rfl (lv_at hl 1 rfl) ?_
                      refine lv_iload hx hb dX8_bestEnd_89 (lv_at hl 4 rfl) ?_
                      refine lv_iload hx hb dX8_bestEnd_91 (lv_at hl 7 rfl) ?_
                      obtain ⟨a1_held_38, a1_known_39, hc40, h⟩ := nh_b2_some h
                      refine nh_gov (nh_V (As := [.int y_9, .int x7_17]) (rest := []) ⟨hx, hb, hml, hown, hts⟩ (kX1_swap  l D cI cZ cO H.size q_a1 q_a1_held q_a1_known q_a1_worths a1_count a1_held_19 a1_known_20 y_9 x7_17 a1_held_38 a1_known_39 hc40) (cwV 2 hts (nh_gV nhw_657 nhw_425 nhw_686 nhw_303 nhw_135) rfl rfl rfl (by decide +kernel) ⟨by show 2 + 1 ≤ 3 + (d + 1); omega, by show 8 + (3 + 11) + 64 * 2 ≤ 64 * (3 + (d + 1)); omega⟩) hK hN hP hD (isC := [1, 2, 3]) rfl rfl 1 1 rfl rfl rfl rfl hl.1 rfl (Nat.le_of_ble_eq_true rfl) dX8_bestEnd_93 ⟨Nat.zero_le _, Nat.zero_le _⟩) hP hD hS hA (isC := [1, 2, 3]) rfl rfl rfl (w' := (wlX8_bestEnd cI cZ cO q_a0 q_a1 q_a1_held q_a1_known q_a1_worths a0_opening_18 a0_end a1_count a1_held_38 a1_known_39 a1_worths)) rfl (fun H locs hP hD hS => ?_)
                      refine lv_aload_n hx hb dX8_bestEnd_96 rfl (lv_at hl 0 rfl) ?_
                      refine lv_aload_n hx hb dX8_bestEnd_97 rfl (lv_at hl 1 rfl) ?_
                      refine lv_iload_n hx hb dX8_bestEnd_98 rfl (lv_at hl 2 rfl) ?_
                      refine lv_iconst (v := 1) hx hb dX8_bestEnd_99 (by decide) ?_
                      refine lv_iadd hx hb dX8_bestEnd_100 ?_
                      refine lv_iload_n hx hb dX8_bestEnd_101 rfl (lv_at hl 3 rfl) ?_
                      obtain ⟨r_41, a0_opening_42, a1_held_43, a1_known_44, hc45, h⟩ := nh_b4_some h
                      refine nh_goi (nh_S (As := [.ref q_a0, .ref q_a1, .int (i2 + 1), .int i3]) (rest := []) ⟨hx, hb, hml, hown, hts⟩ (ihd H.size q_a0 q_a1 q_a1_held q_a1_known q_a1_worths a0_opening_18 a0_end a1_count a1_held_38 a1_known_39 a1_worths (i2 + 1) i3 r_41 a0_opening_42 a1_held_43 a1_known_44 hc45) (va_cwS 4 hts (nh_gS nhw_651 nhw_825 nhw_312 nhw_169) rfl rfl rfl (by decide +kernel) ⟨by show 3 + d + 1 ≤ 3 + (d + 1); omega, by show 8 + (9 + 11) + 64 * (3 + d) ≤ 64 * (3 + (d + 1)); omega⟩) hK hN hP hD (isC := [0, 1, 2, 3, 4]) rfl rfl rfl hl.1 rfl (Nat.le_of_ble_eq_true rfl) dX8_bestEnd_102 ⟨Nat.zero_le _, Nat.zero_le _⟩) hP hD hS hA (isC := [0, 1, 2, 3, 4]) rfl rfl rfl (w' := (wlX8_bestEnd cI cZ cO q_a0 q_a1 q_a1_held q_a1_known q_a1_worths a0_opening_42 a0_end a1_count a1_held_43 a1_known_44 a1_worths)) rfl (fun H locs hP hD hS => ?_)
                      refine lv_istore (lv' := [(8, .int r_41), (0, .ref q_a0), (1, .ref q_a1), (2, .int i2), (3, .int i3), (4, .int y_9), (5, .int x5_15), (6, .int x6_16), (7, .int x7_17)]) hx hb dX8_bestEnd_105 hl (by decide) rfl (fun ls hl => ?_)
                      refine lv_aload_n hx hb dX8_bestEnd_107 rfl (lv_at hl 2 rfl) ?_
                      refine lv_iload hx hb dX8_bestEnd_108 (lv_at hl 5 rfl) ?_
                      refine lv_iload hx hb dX8_bestEnd_110 (lv_at hl 8 rfl) ?_
                      obtain ⟨a1_held_46, a1_known_47, hc48, h⟩ := nh_b2_some h
                      refine nh_gov (nh_V (As := [.int y_9, .int x7_17]) (rest := []) ⟨hx, hb, hml, hown, hts⟩ (kX1_swapBack  l D cI cZ cO H.size q_a1 q_a1_held q_a1_known q_a1_worths a1_count a1_held_43 a1_known_44 y_9 x7_17 a1_held_46 a1_known_47 hc48) (cwV 2 hts (nh_gV nhw_658 nhw_426 nhw_687 nhw_303 nhw_136) rfl rfl rfl (by decide +kernel) ⟨by show 2 + 1 ≤ 3 + (d + 1); omega, by show 8 + (3 + 11) + 64 * 2 ≤ 64 * (3 + (d + 1)); omega⟩) hK hN hP hD (isC := [1, 2, 3]) rfl rfl 1 1 rfl rfl rfl rfl hl.1 rfl (Nat.le_of_ble_eq_true rfl) dX8_bestEnd_112 ⟨Nat.zero_le _, Nat.zero_le _⟩) hP hD hS hA (isC := [1, 2, 3]) rfl rfl rfl (w' := (wlX8_bestEnd cI cZ cO q_a0 q_a1 q_a1_held q_a1_known q_a1_worths a0_opening_42 a0_end a1_count a1_held_46 a1_known_47 a1_worths)) rfl (fun H locs hP hD hS => ?_)
                      refine lv_aload_n hx hb dX8_bestEnd_115 rfl (lv_at hl 2 rfl) ?_
                      refine lv_iload hx hb dX8_bestEnd_116 (lv_at hl 0 rfl) ?_
                      refine lv_iload hx hb dX8_bestEnd_118 (lv_at hl 5 rfl) ?_
                      obtain ⟨r_49, hc50, h⟩ := nh_b1_some h
                      refine nh_goi (nh_S (As := [.ref q_a1, .int r_41, .int y_9]) (rest := []) ⟨hx, hb, hml, hown, hts⟩ (kX8_worthIn  l D cI cZ cO H.size q_a1 q_a1_held q_a1_known q_a1_worths a1_count a1_worths r_41 y_9 r_49 hc50) (va_cwS 3 hts (nh_gS nhw_659 nhw_827 nhw_312 nhw_174) rfl rfl rfl (by decide +kernel) ⟨by show 2 + 1 ≤ 3 + (d + 1); omega, by show 8 + (3 + 11) + 64 * 2 ≤ 64 * (3 + (d + 1)); omega⟩) hK hN hP hD (isC := [1, 4]) rfl rfl rfl hl.1 rfl (Nat.le_of_ble_eq_true rfl) dX8_bestEnd_120 ⟨Nat.zero_le _, Nat.zero_le _⟩) hP hD hS hA (isC := [1, 4]) rfl rfl rfl (w' := (wlX8_bestEnd cI cZ cO q_a0 q_a1 q_a1_held q_a1_known q_a1_worths a0_opening_42 a0_end a1_count a1_held_46 a1_known_47 a1_worths)) rfl (fun H locs hP hD hS => ?_)
                      refine lv_aload_n hx hb dX8_bestEnd_123 rfl (lv_at hl 2 rfl) ?_
                      refine lv_iload hx hb dX8_bestEnd_124 (lv_at hl 6 rfl) ?_
                      refine lv_iload hx hb dX8_bestEnd_126 (lv_at hl 5 rfl) ?_
                      obtain ⟨r_51, hc52, h⟩ := nh_b1_some h
                      refine nh_goi (nh_S (As := [.ref q_a1, .int x5_15, .int y_9]) (rest := [.int r_49]) ⟨hx, hb, hml, hown, hts⟩ (kX8_worthIn  l D cI cZ cO H.size q_a1 q_a1_held q_a1_known q_a1_worths a1_count a1_worths x5_15 y_9 r_51 hc52) (va_cwS 3 hts (nh_gS nhw_659 nhw_827 nhw_312 nhw_174) rfl rfl rfl (by decide +kernel) ⟨by show 2 + 1 ≤ 3 + (d + 1); omega, by show 8 + (3 + 11) + 64 * 2 ≤ 64 * (3 + (d + 1)); omega⟩) hK hN hP hD (isC := [1, 4]) rfl rfl rfl hl.1 rfl (Nat.le_of_ble_eq_true rfl) dX8_bestEnd_128 ⟨Nat.zero_le _, Nat.zero_le _⟩) hP hD hS hA (isC := [1, 4]) rfl rfl rfl (w' := (wlX8_bestEnd cI cZ cO q_a0 q_a1 q_a1_held q_a1_known q_a1_worths a0_opening_42 a0_end a1_count a1_held_46 a1_known_47 a1_worths)) rfl (fun H locs hP hD hS => ?_)
                      refine lv_icmp_le (tgt := 142) hx hb dX8_bestEnd_131 (by decide) (fun c53 => ?_) (fun c53 => ?_)
                      · replace h := nh_t h c53
                        obtain ⟨x7_54, ex7_54⟩ : ∃ y : Int32, y = x7_17 + 1 := ⟨_, rfl⟩
                        replace h := nh_to h ex7_54
                        refine lv_iinc (v := x7_54) (lv' := [(7, .int x7_54), (8, .int r_41), (0, .ref q_a0), (1, .ref q_a1), (2, .int i2), (3, .int i3), (4, .int y_9), (5, .int x5_15), (6, .int x6_16)]) hx hb dX8_bestEnd_142 hl (k := 8) rfl (by rw [ex7_54]; rfl) (by decide) rfl (fun ls hl => ?_)
                        refine lv_goto (tgt := 50) hx hb dX8_bestEnd_145 (by decide) ?_
                        exact ih50 x5_15 x6_16 x7_54 a0_opening_42 a1_held_46 a1_known_47 H locs ls hP hD hS (lv_sub hl [2, 3, 4, 5, 6, 7, 8, 0] rfl) h
                      · replace h := nh_f h c53
                        refine lv_iload hx hb dX8_bestEnd_134 (lv_at hl 0 rfl) ?_
                        refine lv_istore (lv' := [(5, .int r_41), (8, .int r_41), (0, .ref q_a0), (1, .ref q_a1), (2, .int i2), (3, .int i3), (4, .int y_9), (6, .int x6_16), (7, .int x7_17)]) hx hb dX8_bestEnd_136 hl (by decide) rfl (fun ls hl => ?_)
                        refine lv_iload hx hb dX8_bestEnd_138 (lv_at hl 8 rfl) ?_
                        refine lv_istore (lv' := [(6, .int x7_17), (5, .int r_41), (8, .int r_41), (0, .ref q_a0), (1, .ref q_a1), (2, .int i2), (3, .int i3), (4, .int y_9), (7, .int x7_17)]) hx hb dX8_bestEnd_140 hl (by decide) rfl (fun ls hl => ?_)
                        obtain ⟨x7_55, ex7_55⟩ : ∃ y : Int32, y = x7_17 + 1 := ⟨_, rfl⟩
                        replace h := nh_to h ex7_55
                        refine lv_iinc (v := x7_55) (lv' := [(7, .int x7_55), (6, .int x7_17), (5, .int r_41), (8, .int r_41), (0, .ref q_a0), (1, .ref q_a1), (2, .int i2), (3, .int i3), (4, .int y_9)]) hx hb dX8_bestEnd_142 hl (k := 8) rfl (by rw [ex7_55]; rfl) (by decide) rfl (fun ls hl => ?_)
                        refine lv_goto (tgt := 50) hx hb dX8_bestEnd_145 (by decide) ?_
                        exact ih50 r_41 x7_17 x7_55 a0_opening_42 a1_held_46 a1_known_47 H locs ls hP hD hS (lv_sub hl [4, 5, 6, 7, 8, 2, 1, 0] rfl) h
          refine L50 _ (fun x5_21 x6_22 x7_23 a0_opening_24 a1_held_25 a1_known_26 H locs ls hP hD hS hl h => ?_) _ r_10 (-9) 0 a0_opening_11 a1_held_12 a1_known_13 H locs ls hP hD hS (lv_sub hl [4, 5, 6, 7, 3, 2, 1, 0] rfl) h
          refine lv_iload_n hx hb dX8_bestEnd_148 rfl (lv_at hl 2 rfl) ?_
          refine lv_if_ne (tgt := 158) hx hb dX8_bestEnd_149 (by decide) (fun c56 => ?_) (fun c56 => ?_)
          · replace h := nh_f h c56
            refine lv_iload hx hb dX8_bestEnd_158 (lv_at hl 5 rfl) ?_
            obtain ⟨g0, g1, g2, g3⟩ := nh_i4 h
            exact nh_ri hx hb hr hlocks g0 (by rw [← g1, ← g2, ← g3]; exact hP) hS dX8_bestEnd_160
          · replace h := nh_t h c56
            refine lv_aload_n hx hb dX8_bestEnd_152 rfl (lv_at hl 0 rfl) ?_
            refine lv_iload hx hb dX8_bestEnd_153 (lv_at hl 6 rfl) ?_
            refine va_put (D := D) (ci := 7) (v := .int x6_22) (ty := .int) (C := RX8) (T := TX8) (N := 2) hx hb hts nhu_X8 tyX8 tyX8_ok nmX8 hown hK hP hD hS 0 rfl rfl 0 (by decide) (hts _ nhw_291) (fun _ h9 => h9) rfl (by decide +kernel) rfl rfl (Nat.le_of_ble_eq_true rfl) dX8_bestEnd_155 (fun H locs hP hD hS => ?_)
            have hP : va_P D vwCl (wlX8_bestEnd cI cZ cO q_a0 q_a1 q_a1_held q_a1_known q_a1_worths x6_22 a0_end a1_count a1_held_25 a1_known_26 a1_worths) H := hP
            have hD : va_D A (wlX8_bestEnd cI cZ cO q_a0 q_a1 q_a1_held q_a1_known q_a1_worths x6_22 a0_end a1_count a1_held_25 a1_known_26 a1_worths) := hD
            refine lv_iload hx hb dX8_bestEnd_158 (lv_at hl 5 rfl) ?_
            obtain ⟨g0, g1, g2, g3⟩ := nh_i4 h
            exact nh_ri hx hb hr hlocks g0 (by rw [← g1, ← g2, ← g3]; exact hP) hS dX8_bestEnd_160
        · replace h := nh_f h c7
          refine lv_aload_n hx hb dX8_bestEnd_19 rfl (lv_at hl 1 rfl) ?_
          obtain ⟨r_57, hc58, h⟩ := nh_b1_some h
          refine nh_goi (nh_S (As := [.ref q_a1]) (rest := []) ⟨hx, hb, hml, hown, hts⟩ (kX8_allThings F l D cI cZ cO H.size q_a1 q_a1_held q_a1_known q_a1_worths a1_count a1_held r_57 hc58) (va_cwS 1 hts (nh_gS nhw_654 nhw_824 nhw_312 nhw_168) rfl rfl rfl (by decide +kernel) ⟨by show 0 + 1 ≤ 3 + (d + 1); omega, by show 8 + (4 + 11) + 64 * 0 ≤ 64 * (3 + (d + 1)); omega⟩) hK hN hP hD (isC := [1, 2]) rfl rfl rfl hl.1 rfl (Nat.le_of_ble_eq_true rfl) dX8_bestEnd_20 ⟨Nat.zero_le _, Nat.zero_le _⟩) hP hD hS hA (isC := [1, 2]) rfl rfl rfl (w' := (wlX8_bestEnd cI cZ cO q_a0 q_a1 q_a1_held q_a1_known q_a1_worths a0_opening a0_end a1_count a1_held a1_known a1_worths)) rfl (fun H locs hP hD hS => ?_)
          obtain ⟨g0, g1, g2, g3⟩ := nh_i4 h
          exact nh_ri hx hb hr hlocks g0 (by rw [← g1, ← g2, ← g3]; exact hP) hS dX8_bestEnd_23
abbrev wlX8_play (cI cZ cO : ClassId) (q_t q_a1 q_a1_held q_a1_known q_a1_worths : Nat) (t_opening : Int32) (t_end : Int32) (a1_count : Int32) (a1_held : Nat → Int32) (a1_known : Nat → Int32) (a1_worths : Nat → Int32) : va_W := [(q_t, .inr (7, [.int t_opening, .int t_end])), (q_a1, .inr (1, [.int a1_count, .ref q_a1_held, .ref q_a1_known, .ref q_a1_worths])), (q_a1_held, .inl (cI, 4, .inl a1_held)), (q_a1_known, .inl (cI, 4, .inl a1_known)), (q_a1_worths, .inl (cI, 24, .inl a1_worths))]
def fX8_play (F : Nat) (t_opening : Int32) (t_end : Int32) (a1_count : Int32) (a1_held : Nat → Int32) (a1_known : Nat → Int32) (a1_worths : Nat → Int32) (i2 : Int32) : Option (Int32 × Int32 × (Nat → Int32) × (Nat → Int32)) :=
  nh_b4 (fX8_bestEnd F 20 (-9) a1_count a1_held a1_known a1_worths 0 i2) (fun r_1 t_opening_2 a1_held_3 a1_known_4 => some (t_opening_2, r_1, a1_held_3, a1_known_4))
set_option maxHeartbeats 4000000 in
set_option maxRecDepth 100000 in
theorem kX8_play (F : Nat) (l : Launch) (D : va_G) (cI cZ cO : ClassId) (sz : Nat) (q_t q_a1 q_a1_held q_a1_known q_a1_worths : Nat) (t_opening : Int32) (t_end : Int32) (a1_count : Int32) (a1_held : Nat → Int32) (a1_known : Nat → Int32) (a1_worths : Nat → Int32) (i2 : Int32) (o_t_opening : Int32) (o_t_end : Int32) (o_a1_held : Nat → Int32) (o_a1_known : Nat → Int32) (h : fX8_play F t_opening t_end a1_count a1_held a1_known a1_worths i2 = some (o_t_opening, o_t_end, o_a1_held, o_a1_known)) : Met l yX8_play (nh_w (.code yX8_play cX8_play 3 none)) (nh_rm 24) (nh_Pc D cI cZ cO (wlX8_play cI cZ cO q_t q_a1 q_a1_held q_a1_known q_a1_worths t_opening t_end a1_count a1_held a1_known a1_worths) [.ref q_t, .ref q_a1, .int i2] sz) ((nh_Qv D (wlX8_play cI cZ cO q_t q_a1 q_a1_held q_a1_known q_a1_worths o_t_opening o_t_end a1_count o_a1_held o_a1_known a1_worths)) (va_A (wlX8_play cI cZ cO q_t q_a1 q_a1_held q_a1_known q_a1_worths t_opening t_end a1_count a1_held a1_known a1_worths) sz)) 0 0 (va_A (wlX8_play cI cZ cO q_t q_a1 q_a1_held q_a1_known q_a1_worths t_opening t_end a1_count a1_held a1_known a1_worths) sz) := by
  unfold fX8_play at h
  refine nh_met (cc := cX8_play) (maxL := 3) (ret := none) (nh_Qv D (wlX8_play cI cZ cO q_t q_a1 q_a1_held q_a1_known q_a1_worths o_t_opening o_t_end a1_count o_a1_held o_a1_known a1_worths)) (by decide) rfl (Nat.le_of_ble_eq_true rfl) ?_
  intro p e s m args below meth c A H locs ls hx hb hml hr hown hts hlocks hinit hP hK hN hD hA hS hl
  have hl : lv_has ls 3 [(0, .ref q_t), (1, .ref q_a1), (2, .int i2)] := hl
  have hts : ∀ w ∈ nh_words, w.before args s = true := fun w h => hts w (List.mem_cons_of_mem _ h)
  refine lv_aload_n hx hb dX8_play_0 rfl (lv_at hl 0 rfl) ?_
  refine lv_bipush (v := (-9)) hx hb dX8_play_1 (by decide) ?_
  refine va_put (D := D) (ci := 7) (v := .int (-9)) (ty := .int) (C := RX8) (T := TX8) (N := 2) hx hb hts nhu_X8 tyX8 tyX8_ok nmX8 hown hK hP hD hS 0 rfl rfl 0 (by decide) (hts _ nhw_291) (fun _ h9 => h9) rfl (by decide +kernel) rfl rfl (Nat.le_of_ble_eq_true rfl) dX8_play_3 (fun H locs hP hD hS => ?_)
  have hP : va_P D vwCl (wlX8_play cI cZ cO q_t q_a1 q_a1_held q_a1_known q_a1_worths (-9) t_end a1_count a1_held a1_known a1_worths) H := hP
  have hD : va_D A (wlX8_play cI cZ cO q_t q_a1 q_a1_held q_a1_known q_a1_worths (-9) t_end a1_count a1_held a1_known a1_worths) := hD
  refine lv_aload_n hx hb dX8_play_6 rfl (lv_at hl 0 rfl) ?_
  refine lv_aload_n hx hb dX8_play_7 rfl (lv_at hl 0 rfl) ?_
  refine lv_aload_n hx hb dX8_play_8 rfl (lv_at hl 1 rfl) ?_
  refine lv_iconst (v := 0) hx hb dX8_play_9 (by decide) ?_
  refine lv_iload_n hx hb dX8_play_10 rfl (lv_at hl 2 rfl) ?_
  obtain ⟨r_1, t_opening_2, a1_held_3, a1_known_4, hc5, h⟩ := nh_b4_some h
  refine nh_goi (nh_S (As := [.ref q_t, .ref q_a1, .int 0, .int i2]) (rest := [.ref q_t]) ⟨hx, hb, hml, hown, hts⟩ (kX8_bestEnd F 20 l D cI cZ cO H.size q_t q_a1 q_a1_held q_a1_known q_a1_worths (-9) t_end a1_count a1_held a1_known a1_worths 0 i2 r_1 t_opening_2 a1_held_3 a1_known_4 hc5) (va_cwS 4 hts (nh_gS nhw_651 nhw_825 nhw_312 nhw_169) rfl rfl rfl (by decide +kernel) ⟨Nat.le_of_ble_eq_true rfl, Nat.le_of_ble_eq_true rfl⟩) hK hN hP hD (isC := [0, 1, 2, 3, 4]) rfl rfl rfl hl.1 rfl (Nat.le_of_ble_eq_true rfl) dX8_play_11 ⟨Nat.zero_le _, Nat.zero_le _⟩) hP hD hS hA (isC := [0, 1, 2, 3, 4]) rfl rfl rfl (w' := (wlX8_play cI cZ cO q_t q_a1 q_a1_held q_a1_known q_a1_worths t_opening_2 t_end a1_count a1_held_3 a1_known_4 a1_worths)) rfl (fun H locs hP hD hS => ?_)
  refine va_put (D := D) (ci := 7) (v := .int r_1) (ty := .int) (C := RX8) (T := TX8) (N := 2) hx hb hts nhu_X8 tyX8 tyX8_ok nmX8 hown hK hP hD hS 0 rfl rfl 1 (by decide) (hts _ nhw_288) (fun _ h9 => h9) rfl (by decide +kernel) rfl rfl (Nat.le_of_ble_eq_true rfl) dX8_play_14 (fun H locs hP hD hS => ?_)
  have hP : va_P D vwCl (wlX8_play cI cZ cO q_t q_a1 q_a1_held q_a1_known q_a1_worths t_opening_2 r_1 a1_count a1_held_3 a1_known_4 a1_worths) H := hP
  have hD : va_D A (wlX8_play cI cZ cO q_t q_a1 q_a1_held q_a1_known q_a1_worths t_opening_2 r_1 a1_count a1_held_3 a1_known_4 a1_worths) := hD
  obtain ⟨g0, g1, g2, g3⟩ := nh_i4 h
  exact nh_rv hx hb hr hlocks (by rw [← g0, ← g1, ← g2, ← g3]; exact hP) hS dX8_play_17
abbrev wlX8_holdsInTheEnd (cI cZ cO : ClassId) (q_t : Nat) (t_opening : Int32) (t_end : Int32) : va_W := [(q_t, .inr (7, [.int t_opening, .int t_end]))]
def fX8_holdsInTheEnd (t_end : Int32) (i1 : Int32) : Int32 :=
  (fX8_thingIn t_end i1)
set_option maxHeartbeats 4000000 in
set_option maxRecDepth 100000 in
theorem kX8_holdsInTheEnd (l : Launch) (D : va_G) (cI cZ cO : ClassId) (sz : Nat) (q_t : Nat) (t_opening : Int32) (t_end : Int32) (i1 : Int32) (o_r : Int32) (h : fX8_holdsInTheEnd t_end i1 = o_r) : Met l yX8_holdsInTheEnd (nh_w (.code yX8_holdsInTheEnd cX8_holdsInTheEnd 2 (some .int))) (nh_rm 1) (nh_Pc D cI cZ cO (wlX8_holdsInTheEnd cI cZ cO q_t t_opening t_end) [.ref q_t, .int i1] sz) ((nh_Qi D (wlX8_holdsInTheEnd cI cZ cO q_t t_opening t_end) o_r) (va_A (wlX8_holdsInTheEnd cI cZ cO q_t t_opening t_end) sz)) 0 0 (va_A (wlX8_holdsInTheEnd cI cZ cO q_t t_opening t_end) sz) := by
  unfold fX8_holdsInTheEnd at h
  refine nh_met (cc := cX8_holdsInTheEnd) (maxL := 2) (ret := (some .int)) (nh_Qi D (wlX8_holdsInTheEnd cI cZ cO q_t t_opening t_end) o_r) (by decide) rfl (Nat.le_of_ble_eq_true rfl) ?_
  intro p e s m args below meth c A H locs ls hx hb hml hr hown hts hlocks hinit hP hK hN hD hA hS hl
  have hl : lv_has ls 2 [(0, .ref q_t), (1, .int i1)] := hl
  have hts : ∀ w ∈ nh_words, w.before args s = true := fun w h => hts w (List.mem_cons_of_mem _ h)
  refine lv_aload_n hx hb dX8_holdsInTheEnd_0 rfl (lv_at hl 0 rfl) ?_
  refine va_get (D := D) (ci := 7) (v := .int t_end) (C := RX8) (T := TX8) (N := 2) hx hb hts nhu_X8 hown hK hP 0 rfl rfl 1 (by decide) (hts _ nhw_288) (fun _ h9 => h9) rfl dX8_holdsInTheEnd_1 ?_
  refine lv_iload_n hx hb dX8_holdsInTheEnd_4 rfl (lv_at hl 1 rfl) ?_
  refine nh_goi (nh_S (As := [.int t_end, .int i1]) (rest := []) ⟨hx, hb, hml, hown, hts⟩ (kX8_thingIn  l D cI cZ cO H.size t_end i1 (fX8_thingIn t_end i1) rfl) (va_cwS 2 hts (nh_gS nhw_652 nhw_826 nhw_312 nhw_173) rfl rfl rfl (by decide +kernel) ⟨Nat.le_of_ble_eq_true rfl, Nat.le_of_ble_eq_true rfl⟩) hK hN hP hD (isC := []) rfl rfl rfl hl.1 rfl (Nat.le_of_ble_eq_true rfl) dX8_holdsInTheEnd_5 ⟨Nat.zero_le _, Nat.zero_le _⟩) hP hD hS hA (isC := []) rfl rfl rfl (w' := (wlX8_holdsInTheEnd cI cZ cO q_t t_opening t_end)) rfl (fun H locs hP hD hS => ?_)
  exact nh_ri hx hb hr hlocks h hP hS dX8_holdsInTheEnd_8
