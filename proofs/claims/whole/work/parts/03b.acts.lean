abbrev wlX0_add (cI cZ cO : ClassId) (q_t q_t_row : Nat) (t_count : Int32) (t_row : Nat → Int32) : va_W := [(q_t, .inr (0, [.int t_count, .ref q_t_row])), (q_t_row, .inl (cI, 16, .inl t_row))]
def fX0_add (t_count : Int32) (t_row : Nat → Int32) (i1 : Int32) : Option (Int32 × (Nat → Int32)) :=
  (if t_count < 16 then nh_chk (nh_in t_count 16) (nh_let (α := Nat → Int32) (upd t_row (Int32.toNatClampNeg t_count) i1) (fun t_row_3 => nh_let (α := Int32) ((t_count + 1)) (fun y_4 => some (y_4, t_row_3))))
 else nh_chk (nh_cp 1 0 15 16 16) (nh_let (α := Nat → Int32) (va_cpy t_row t_row (Int32.toNatClampNeg (1 : Int32)) (Int32.toNatClampNeg (0 : Int32)) (Int32.toNatClampNeg (15 : Int32))) (fun t_row_6 => nh_let (α := Nat → Int32) (upd t_row_6 (Int32.toNatClampNeg (15 : Int32)) i1) (fun t_row_7 => nh_let (α := Int32) ((15 + 1)) (fun y_8 => some (y_8, t_row_7))))))
set_option maxHeartbeats 4000000 in
set_option maxRecDepth 100000 in
theorem kX0_add (l : Launch) (D : va_G) (cI cZ cO : ClassId) (sz : Nat) (q_t q_t_row : Nat) (t_count : Int32) (t_row : Nat → Int32) (i1 : Int32) (o_t_count : Int32) (o_t_row : Nat → Int32) (h : fX0_add t_count t_row i1 = some (o_t_count, o_t_row)) : Met l yX0_add (nh_w (.code yX0_add cX0_add 2 none)) (nh_rm 2) (nh_Pc D cI cZ cO (wlX0_add cI cZ cO q_t q_t_row t_count t_row) [.ref q_t, .int i1] sz) ((nh_Qv D (wlX0_add cI cZ cO q_t q_t_row o_t_count o_t_row)) (va_A (wlX0_add cI cZ cO q_t q_t_row t_count t_row) sz)) 0 0 (va_A (wlX0_add cI cZ cO q_t q_t_row t_count t_row) sz) := by
  unfold fX0_add at h
  refine nh_met (cc := cX0_add) (maxL := 2) (ret := none) (nh_Qv D (wlX0_add cI cZ cO q_t q_t_row o_t_count o_t_row)) (by decide) rfl (Nat.le_of_ble_eq_true rfl) ?_
  intro p e s m args below meth c A H locs ls hx hb hml hr hown hts hlocks hinit hP hK hN hD hA hS hl
  have hl : lv_has ls 2 [(0, .ref q_t), (1, .int i1)] := hl
  have hts : ∀ w ∈ nh_words, w.before args s = true := fun w h => hts w (List.mem_cons_of_mem _ h)
  refine lv_aload_n hx hb dX0_add_0 rfl (lv_at hl 0 rfl) ?_
  refine va_get (D := D) (ci := 0) (v := .int t_count) (C := RX0) (T := TX0) (N := 2) hx hb hts nhu_X0 hown hK hP 0 rfl rfl 0 (by decide) (hts _ nhw_196) (fun _ h9 => h9) rfl dX0_add_1 ?_
  refine lv_bipush (v := 16) hx hb dX0_add_4 (by decide) ?_
  refine lv_icmp_lt (tgt := 30) hx hb dX0_add_6 (by decide) (fun c1 => ?_) (fun c1 => ?_)
  · replace h := nh_t h c1
    refine lv_aload_n hx hb dX0_add_30 rfl (lv_at hl 0 rfl) ?_
    refine va_get (D := D) (ci := 0) (v := .ref q_t_row) (C := RX0) (T := TX0) (N := 2) hx hb hts nhu_X0 hown hK hP 0 rfl rfl 1 (by decide) (hts _ nhw_198) (fun _ h9 => h9) rfl dX0_add_31 ?_
    refine lv_aload_n hx hb dX0_add_34 rfl (lv_at hl 0 rfl) ?_
    refine va_get (D := D) (ci := 0) (v := .int t_count) (C := RX0) (T := TX0) (N := 2) hx hb hts nhu_X0 hown hK hP 0 rfl rfl 0 (by decide) (hts _ nhw_196) (fun _ h9 => h9) rfl dX0_add_35 ?_
    refine lv_iload_n hx hb dX0_add_38 rfl (lv_at hl 1 rfl) ?_
    obtain ⟨z2, h⟩ := nh_chk_some h
    refine va_iast hx hb hK hP hD hS 1 0 rfl rfl (nh_in_in z2) dX0_add_39 (fun H locs hP hD hS => ?_)
    obtain ⟨t_row_3, et_row_3⟩ : ∃ y : Nat → Int32, y = upd t_row (Int32.toNatClampNeg t_count) i1 := ⟨_, rfl⟩
    replace h := nh_to h et_row_3
    have hP : va_P D vwCl (wlX0_add cI cZ cO q_t q_t_row t_count t_row_3) H := by rw [et_row_3]; exact hP
    have hD : va_D A (wlX0_add cI cZ cO q_t q_t_row t_count t_row_3) := by rw [et_row_3]; exact hD
    refine lv_aload_n hx hb dX0_add_40 rfl (lv_at hl 0 rfl) ?_
    refine lv_dup hx hb dX0_add_41 rfl ?_
    refine va_get (D := D) (ci := 0) (v := .int t_count) (C := RX0) (T := TX0) (N := 2) hx hb hts nhu_X0 hown hK hP 0 rfl rfl 0 (by decide) (hts _ nhw_196) (fun _ h9 => h9) rfl dX0_add_42 ?_
    refine lv_iconst (v := 1) hx hb dX0_add_45 (by decide) ?_
    refine lv_iadd hx hb dX0_add_46 ?_
    refine lv_topi (fun y_4 ey_4 => ?_)
    replace h := nh_to h ey_4
    refine va_put (D := D) (ci := 0) (v := .int y_4) (ty := .int) (C := RX0) (T := TX0) (N := 2) hx hb hts nhu_X0 tyX0 tyX0_ok nmX0 hown hK hP hD hS 0 rfl rfl 0 (by decide) (hts _ nhw_196) (fun _ h9 => h9) rfl (by decide +kernel) rfl rfl (Nat.le_of_ble_eq_true rfl) dX0_add_47 (fun H locs hP hD hS => ?_)
    have hP : va_P D vwCl (wlX0_add cI cZ cO q_t q_t_row y_4 t_row_3) H := hP
    have hD : va_D A (wlX0_add cI cZ cO q_t q_t_row y_4 t_row_3) := hD
    obtain ⟨g0, g1⟩ := nh_i2 h
    exact nh_rv hx hb hr hlocks (by rw [← g0, ← g1]; exact hP) hS dX0_add_50
  · replace h := nh_f h c1
    refine lv_aload_n hx hb dX0_add_9 rfl (lv_at hl 0 rfl) ?_
    refine va_get (D := D) (ci := 0) (v := .ref q_t_row) (C := RX0) (T := TX0) (N := 2) hx hb hts nhu_X0 hown hK hP 0 rfl rfl 1 (by decide) (hts _ nhw_198) (fun _ h9 => h9) rfl dX0_add_10 ?_
    refine lv_iconst (v := 1) hx hb dX0_add_13 (by decide) ?_
    refine lv_aload_n hx hb dX0_add_14 rfl (lv_at hl 0 rfl) ?_
    refine va_get (D := D) (ci := 0) (v := .ref q_t_row) (C := RX0) (T := TX0) (N := 2) hx hb hts nhu_X0 hown hK hP 0 rfl rfl 1 (by decide) (hts _ nhw_198) (fun _ h9 => h9) rfl dX0_add_15 ?_
    refine lv_iconst (v := 0) hx hb dX0_add_18 (by decide) ?_
    refine lv_bipush (v := 15) hx hb dX0_add_19 (by decide) ?_
    obtain ⟨z5, h⟩ := nh_chk_some h
    refine va_copyi hx hb (hml.trans hl.1.symm) hown (hts _ nhw_535) (hts _ nhw_670) (hts _ nhw_802) (hts _ nhw_300) hK hP hD hS 1 1 0 0 rfl rfl rfl rfl rfl (nh_cp_ok z5).1 (nh_cp_ok z5).2.1 (nh_cp_ok z5).2.2.1 (nh_cp_ok z5).2.2.2.1 (nh_cp_ok z5).2.2.2.2 (fun _ _ => rfl) (Nat.le_of_ble_eq_true rfl) (Nat.le_of_ble_eq_true rfl) dX0_add_21 (fun H locs hP hD hS => ?_)
    obtain ⟨t_row_6, et_row_6⟩ : ∃ y : Nat → Int32, y = va_cpy t_row t_row (Int32.toNatClampNeg (1 : Int32)) (Int32.toNatClampNeg (0 : Int32)) (Int32.toNatClampNeg (15 : Int32)) := ⟨_, rfl⟩
    replace h := nh_to h et_row_6
    have hP : va_P D vwCl (wlX0_add cI cZ cO q_t q_t_row t_count t_row_6) H := by rw [et_row_6]; exact hP
    have hD : va_D A (wlX0_add cI cZ cO q_t q_t_row t_count t_row_6) := by rw [et_row_6]; exact hD
    refine lv_aload_n hx hb dX0_add_24 rfl (lv_at hl 0 rfl) ?_
    refine lv_bipush (v := 15) hx hb dX0_add_25 (by decide) ?_
    refine va_put (D := D) (ci := 0) (v := .int 15) (ty := .int) (C := RX0) (T := TX0) (N := 2) hx hb hts nhu_X0 tyX0 tyX0_ok nmX0 hown hK hP hD hS 0 rfl rfl 0 (by decide) (hts _ nhw_196) (fun _ h9 => h9) rfl (by decide +kernel) rfl rfl (Nat.le_of_ble_eq_true rfl) dX0_add_27 (fun H locs hP hD hS => ?_)
    have hP : va_P D vwCl (wlX0_add cI cZ cO q_t q_t_row 15 t_row_6) H := hP
    have hD : va_D A (wlX0_add cI cZ cO q_t q_t_row 15 t_row_6) := hD
    refine lv_aload_n hx hb dX0_add_30 rfl (lv_at hl 0 rfl) ?_
    refine va_get (D := D) (ci := 0) (v := .ref q_t_row) (C := RX0) (T := TX0) (N := 2) hx hb hts nhu_X0 hown hK hP 0 rfl rfl 1 (by decide) (hts _ nhw_198) (fun _ h9 => h9) rfl dX0_add_31 ?_
    refine lv_aload_n hx hb dX0_add_34 rfl (lv_at hl 0 rfl) ?_
    refine va_get (D := D) (ci := 0) (v := .int 15) (C := RX0) (T := TX0) (N := 2) hx hb hts nhu_X0 hown hK hP 0 rfl rfl 0 (by decide) (hts _ nhw_196) (fun _ h9 => h9) rfl dX0_add_35 ?_
    refine lv_iload_n hx hb dX0_add_38 rfl (lv_at hl 1 rfl) ?_
    refine va_iast hx hb hK hP hD hS 1 0 rfl rfl (nh_in_in (by decide)) dX0_add_39 (fun H locs hP hD hS => ?_)
    obtain ⟨t_row_7, et_row_7⟩ : ∃ y : Nat → Int32, y = upd t_row_6 (Int32.toNatClampNeg (15 : Int32)) i1 := ⟨_, rfl⟩
    replace h := nh_to h et_row_7
    have hP : va_P D vwCl (wlX0_add cI cZ cO q_t q_t_row 15 t_row_7) H := by rw [et_row_7]; exact hP
    have hD : va_D A (wlX0_add cI cZ cO q_t q_t_row 15 t_row_7) := by rw [et_row_7]; exact hD
    refine lv_aload_n hx hb dX0_add_40 rfl (lv_at hl 0 rfl) ?_
    refine lv_dup hx hb dX0_add_41 rfl ?_
    refine va_get (D := D) (ci := 0) (v := .int 15) (C := RX0) (T := TX0) (N := 2) hx hb hts nhu_X0 hown hK hP 0 rfl rfl 0 (by decide) (hts _ nhw_196) (fun _ h9 => h9) rfl dX0_add_42 ?_
    refine lv_iconst (v := 1) hx hb dX0_add_45 (by decide) ?_
    refine lv_iadd hx hb dX0_add_46 ?_
    refine lv_topi (fun y_8 ey_8 => ?_)
    replace h := nh_to h ey_8
    refine va_put (D := D) (ci := 0) (v := .int y_8) (ty := .int) (C := RX0) (T := TX0) (N := 2) hx hb hts nhu_X0 tyX0 tyX0_ok nmX0 hown hK hP hD hS 0 rfl rfl 0 (by decide) (hts _ nhw_196) (fun _ h9 => h9) rfl (by decide +kernel) rfl rfl (Nat.le_of_ble_eq_true rfl) dX0_add_47 (fun H locs hP hD hS => ?_)
    have hP : va_P D vwCl (wlX0_add cI cZ cO q_t q_t_row y_8 t_row_7) H := hP
    have hD : va_D A (wlX0_add cI cZ cO q_t q_t_row y_8 t_row_7) := hD
    obtain ⟨g0, g1⟩ := nh_i2 h
    exact nh_rv hx hb hr hlocks (by rw [← g0, ← g1]; exact hP) hS dX0_add_50
abbrev wlX0_addExchange (cI cZ cO : ClassId) (q_t q_t_row : Nat) (t_count : Int32) (t_row : Nat → Int32) : va_W := [(q_t, .inr (0, [.int t_count, .ref q_t_row])), (q_t_row, .inl (cI, 16, .inl t_row))]
def fX0_addExchange (t_count : Int32) (t_row : Nat → Int32) (i1 : Int32) (i2 : Int32) : Option (Int32 × (Nat → Int32)) :=
  nh_b2 (fX0_add t_count t_row (fX10_told i1 i2)) (fun t_count_1 t_row_2 => some (t_count_1, t_row_2))
set_option maxHeartbeats 4000000 in
set_option maxRecDepth 100000 in
theorem kX0_addExchange (l : Launch) (D : va_G) (cI cZ cO : ClassId) (sz : Nat) (q_t q_t_row : Nat) (t_count : Int32) (t_row : Nat → Int32) (i1 : Int32) (i2 : Int32) (o_t_count : Int32) (o_t_row : Nat → Int32) (h : fX0_addExchange t_count t_row i1 i2 = some (o_t_count, o_t_row)) : Met l yX0_addExchange (nh_w (.code yX0_addExchange cX0_addExchange 3 none)) (nh_rm 3) (nh_Pc D cI cZ cO (wlX0_addExchange cI cZ cO q_t q_t_row t_count t_row) [.ref q_t, .int i1, .int i2] sz) ((nh_Qv D (wlX0_addExchange cI cZ cO q_t q_t_row o_t_count o_t_row)) (va_A (wlX0_addExchange cI cZ cO q_t q_t_row t_count t_row) sz)) 0 0 (va_A (wlX0_addExchange cI cZ cO q_t q_t_row t_count t_row) sz) := by
  unfold fX0_addExchange at h
  refine nh_met (cc := cX0_addExchange) (maxL := 3) (ret := none) (nh_Qv D (wlX0_addExchange cI cZ cO q_t q_t_row o_t_count o_t_row)) (by decide) rfl (Nat.le_of_ble_eq_true rfl) ?_
  intro p e s m args below meth c A H locs ls hx hb hml hr hown hts hlocks hinit hP hK hN hD hA hS hl
  have hl : lv_has ls 3 [(0, .ref q_t), (1, .int i1), (2, .int i2)] := hl
  have hts : ∀ w ∈ nh_words, w.before args s = true := fun w h => hts w (List.mem_cons_of_mem _ h)
  refine lv_aload_n hx hb dX0_addExchange_0 rfl (lv_at hl 0 rfl) ?_
  refine lv_iload_n hx hb dX0_addExchange_1 rfl (lv_at hl 1 rfl) ?_
  refine lv_iload_n hx hb dX0_addExchange_2 rfl (lv_at hl 2 rfl) ?_
  refine nh_goi (nh_SN (As := [.int i1, .int i2]) (rest := [.ref q_t]) ⟨hx, hb, hml, hown, hts⟩ (kX10_told  l D cI cZ cO H.size i1 i2 (fX10_told i1 i2) rfl) ⟨va_cnB 2 hts (nh_gC nhw_52) rfl rfl rfl (nh_N_at hN 12 rfl) (hts _ nhw_304) (by decide +kernel) ⟨Nat.le_of_ble_eq_true rfl, Nat.le_of_ble_eq_true rfl⟩, (hts _ nhw_807), trivial⟩ hK hN hP hD (isC := []) rfl rfl rfl hl.1 rfl (Nat.le_of_ble_eq_true rfl) dX0_addExchange_3 ⟨Nat.zero_le _, Nat.zero_le _⟩) hP hD hS hA (isC := []) rfl rfl rfl (w' := (wlX0_addExchange cI cZ cO q_t q_t_row t_count t_row)) rfl (fun H locs hP hD hS => ?_)
  obtain ⟨t_count_1, t_row_2, hc3, h⟩ := nh_b2_some h
  refine nh_gov (nh_V (As := [.int (fX10_told i1 i2)]) (rest := []) ⟨hx, hb, hml, hown, hts⟩ (kX0_add  l D cI cZ cO H.size q_t q_t_row t_count t_row (fX10_told i1 i2) t_count_1 t_row_2 hc3) (cwV 1 hts (nh_gV nhw_534 nhw_315 nhw_671 nhw_302 nhw_17) rfl rfl rfl (by decide +kernel) ⟨Nat.le_of_ble_eq_true rfl, Nat.le_of_ble_eq_true rfl⟩) hK hN hP hD (isC := [0, 1]) rfl rfl 0 0 rfl rfl rfl rfl hl.1 rfl (Nat.le_of_ble_eq_true rfl) dX0_addExchange_6 ⟨Nat.zero_le _, Nat.zero_le _⟩) hP hD hS hA (isC := [0, 1]) rfl rfl rfl (w' := (wlX0_addExchange cI cZ cO q_t q_t_row t_count_1 t_row_2)) rfl (fun H locs hP hD hS => ?_)
  obtain ⟨g0, g1⟩ := nh_i2 h
  exact nh_rv hx hb hr hlocks (by rw [← g0, ← g1]; exact hP) hS dX0_addExchange_9
abbrev wlX0_addSea (cI cZ cO : ClassId) (q_t q_t_row : Nat) (t_count : Int32) (t_row : Nat → Int32) : va_W := [(q_t, .inr (0, [.int t_count, .ref q_t_row])), (q_t_row, .inl (cI, 16, .inl t_row))]
def fX0_addSea (t_count : Int32) (t_row : Nat → Int32) (i1 : Int32) (i2 : Int32) : Option (Int32 × (Nat → Int32)) :=
  nh_b2 (fX0_add t_count t_row ((100 + (10 * i1)) + i2)) (fun t_count_1 t_row_2 => some (t_count_1, t_row_2))
set_option maxHeartbeats 4000000 in
set_option maxRecDepth 100000 in
theorem kX0_addSea (l : Launch) (D : va_G) (cI cZ cO : ClassId) (sz : Nat) (q_t q_t_row : Nat) (t_count : Int32) (t_row : Nat → Int32) (i1 : Int32) (i2 : Int32) (o_t_count : Int32) (o_t_row : Nat → Int32) (h : fX0_addSea t_count t_row i1 i2 = some (o_t_count, o_t_row)) : Met l yX0_addSea (nh_w (.code yX0_addSea cX0_addSea 3 none)) (nh_rm 3) (nh_Pc D cI cZ cO (wlX0_addSea cI cZ cO q_t q_t_row t_count t_row) [.ref q_t, .int i1, .int i2] sz) ((nh_Qv D (wlX0_addSea cI cZ cO q_t q_t_row o_t_count o_t_row)) (va_A (wlX0_addSea cI cZ cO q_t q_t_row t_count t_row) sz)) 0 0 (va_A (wlX0_addSea cI cZ cO q_t q_t_row t_count t_row) sz) := by
  unfold fX0_addSea at h
  refine nh_met (cc := cX0_addSea) (maxL := 3) (ret := none) (nh_Qv D (wlX0_addSea cI cZ cO q_t q_t_row o_t_count o_t_row)) (by decide) rfl (Nat.le_of_ble_eq_true rfl) ?_
  intro p e s m args below meth c A H locs ls hx hb hml hr hown hts hlocks hinit hP hK hN hD hA hS hl
  have hl : lv_has ls 3 [(0, .ref q_t), (1, .int i1), (2, .int i2)] := hl
  have hts : ∀ w ∈ nh_words, w.before args s = true := fun w h => hts w (List.mem_cons_of_mem _ h)
  refine lv_aload_n hx hb dX0_addSea_0 rfl (lv_at hl 0 rfl) ?_
  refine lv_bipush (v := 100) hx hb dX0_addSea_1 (by decide) ?_
  refine lv_bipush (v := 10) hx hb dX0_addSea_3 (by decide) ?_
  refine lv_iload_n hx hb dX0_addSea_5 rfl (lv_at hl 1 rfl) ?_
  refine lv_imul hx hb dX0_addSea_6 ?_
  refine lv_iadd hx hb dX0_addSea_7 ?_
  refine lv_iload_n hx hb dX0_addSea_8 rfl (lv_at hl 2 rfl) ?_
  refine lv_iadd hx hb dX0_addSea_9 ?_
  obtain ⟨t_count_1, t_row_2, hc3, h⟩ := nh_b2_some h
  refine nh_gov (nh_V (As := [.int ((100 + (10 * i1)) + i2)]) (rest := []) ⟨hx, hb, hml, hown, hts⟩ (kX0_add  l D cI cZ cO H.size q_t q_t_row t_count t_row ((100 + (10 * i1)) + i2) t_count_1 t_row_2 hc3) (cwV 1 hts (nh_gV nhw_534 nhw_315 nhw_671 nhw_302 nhw_17) rfl rfl rfl (by decide +kernel) ⟨Nat.le_of_ble_eq_true rfl, Nat.le_of_ble_eq_true rfl⟩) hK hN hP hD (isC := [0, 1]) rfl rfl 0 0 rfl rfl rfl rfl hl.1 rfl (Nat.le_of_ble_eq_true rfl) dX0_addSea_10 ⟨Nat.zero_le _, Nat.zero_le _⟩) hP hD hS hA (isC := [0, 1]) rfl rfl rfl (w' := (wlX0_addSea cI cZ cO q_t q_t_row t_count_1 t_row_2)) rfl (fun H locs hP hD hS => ?_)
  obtain ⟨g0, g1⟩ := nh_i2 h
  exact nh_rv hx hb hr hlocks (by rw [← g0, ← g1]; exact hP) hS dX0_addSea_13
abbrev wlX0_undoLast (cI cZ cO : ClassId) (q_t q_a1 q_t_row q_a1_held q_a1_known q_a1_worths : Nat) (t_count : Int32) (t_row : Nat → Int32) (a1_count : Int32) (a1_held : Nat → Int32) (a1_known : Nat → Int32) : va_W := [(q_t, .inr (0, [.int t_count, .ref q_t_row])), (q_t_row, .inl (cI, 16, .inl t_row)), (q_a1, .inr (1, [.int a1_count, .ref q_a1_held, .ref q_a1_known, .ref q_a1_worths])), (q_a1_held, .inl (cI, 4, .inl a1_held)), (q_a1_known, .inl (cI, 4, .inl a1_known))]
def fX0_undoLast (t_count : Int32) (t_row : Nat → Int32) (a1_count : Int32) (a1_held : Nat → Int32) (a1_known : Nat → Int32) : Option (Int32 × (Nat → Int32) × (Nat → Int32)) :=
  (if t_count = 0 then some (t_count, a1_held, a1_known)
 else nh_let (α := Int32) ((t_count - 1)) (fun y_2 => nh_chk (nh_in y_2 16) (nh_let (α := Int32) ((t_row (Int32.toNatClampNeg y_2))) (fun y_4 => (if 100 ≤ y_4 then nh_let (α := Int32) (((y_4 - 100) / 10)) (fun y_6 => (if (fX1_has a1_count y_6) = 0 then some (y_2, a1_held, a1_known)
 else nh_chk (nh_in y_6 4) (nh_let (α := Nat → Int32) (upd a1_held (Int32.toNatClampNeg y_6) (y_4 - y_4 / 10 * 10)) (fun a1_held_9 => some (y_2, a1_held_9, a1_known)))))
 else nh_b2 (fX1_swapBack a1_count a1_held a1_known (y_4 / 10) (y_4 - y_4 / 10 * 10)) (fun a1_held_10 a1_known_11 => some (y_2, a1_held_10, a1_known_11)))))))
set_option maxHeartbeats 4000000 in
set_option maxRecDepth 100000 in
theorem kX0_undoLast (l : Launch) (D : va_G) (cI cZ cO : ClassId) (sz : Nat) (q_t q_a1 q_t_row q_a1_held q_a1_known q_a1_worths : Nat) (t_count : Int32) (t_row : Nat → Int32) (a1_count : Int32) (a1_held : Nat → Int32) (a1_known : Nat → Int32)  (o_t_count : Int32) (o_a1_held : Nat → Int32) (o_a1_known : Nat → Int32) (h : fX0_undoLast t_count t_row a1_count a1_held a1_known = some (o_t_count, o_a1_held, o_a1_known)) : Met l yX0_undoLast (nh_w (.code yX0_undoLast cX0_undoLast 4 none)) (nh_rm 3) (nh_Pc D cI cZ cO (wlX0_undoLast cI cZ cO q_t q_a1 q_t_row q_a1_held q_a1_known q_a1_worths t_count t_row a1_count a1_held a1_known) [.ref q_t, .ref q_a1] sz) ((nh_Qv D (wlX0_undoLast cI cZ cO q_t q_a1 q_t_row q_a1_held q_a1_known q_a1_worths o_t_count t_row a1_count o_a1_held o_a1_known)) (va_A (wlX0_undoLast cI cZ cO q_t q_a1 q_t_row q_a1_held q_a1_known q_a1_worths t_count t_row a1_count a1_held a1_known) sz)) 0 0 (va_A (wlX0_undoLast cI cZ cO q_t q_a1 q_t_row q_a1_held q_a1_known q_a1_worths t_count t_row a1_count a1_held a1_known) sz) := by
  unfold fX0_undoLast at h
  refine nh_met (cc := cX0_undoLast) (maxL := 4) (ret := none) (nh_Qv D (wlX0_undoLast cI cZ cO q_t q_a1 q_t_row q_a1_held q_a1_known q_a1_worths o_t_count t_row a1_count o_a1_held o_a1_known)) (by decide) rfl (Nat.le_of_ble_eq_true rfl) ?_
  intro p e s m args below meth c A H locs ls hx hb hml hr hown hts hlocks hinit hP hK hN hD hA hS hl
  have hl : lv_has ls 4 [(0, .ref q_t), (1, .ref q_a1)] := hl
  have hts : ∀ w ∈ nh_words, w.before args s = true := fun w h => hts w (List.mem_cons_of_mem _ h)
  refine lv_aload_n hx hb dX0_undoLast_0 rfl (lv_at hl 0 rfl) ?_
  refine va_get (D := D) (ci := 0) (v := .int t_count) (C := RX0) (T := TX0) (N := 2) hx hb hts nhu_X0 hown hK hP 0 rfl rfl 0 (by decide) (hts _ nhw_196) (fun _ h9 => h9) rfl dX0_undoLast_1 ?_
  refine lv_if_ne (tgt := 8) hx hb dX0_undoLast_4 (by decide) (fun c1 => ?_) (fun c1 => ?_)
  · replace h := nh_f h c1
    refine lv_aload_n hx hb dX0_undoLast_8 rfl (lv_at hl 0 rfl) ?_
    refine lv_dup hx hb dX0_undoLast_9 rfl ?_
    refine va_get (D := D) (ci := 0) (v := .int t_count) (C := RX0) (T := TX0) (N := 2) hx hb hts nhu_X0 hown hK hP 0 rfl rfl 0 (by decide) (hts _ nhw_196) (fun _ h9 => h9) rfl dX0_undoLast_10 ?_
    refine lv_iconst (v := 1) hx hb dX0_undoLast_13 (by decide) ?_
    refine lv_isub hx hb dX0_undoLast_14 ?_
    refine lv_topi (fun y_2 ey_2 => ?_)
    replace h := nh_to h ey_2
    refine va_put (D := D) (ci := 0) (v := .int y_2) (ty := .int) (C := RX0) (T := TX0) (N := 2) hx hb hts nhu_X0 tyX0 tyX0_ok nmX0 hown hK hP hD hS 0 rfl rfl 0 (by decide) (hts _ nhw_196) (fun _ h9 => h9) rfl (by decide +kernel) rfl rfl (Nat.le_of_ble_eq_true rfl) dX0_undoLast_15 (fun H locs hP hD hS => ?_)
    have hP : va_P D vwCl (wlX0_undoLast cI cZ cO q_t q_a1 q_t_row q_a1_held q_a1_known q_a1_worths y_2 t_row a1_count a1_held a1_known) H := hP
    have hD : va_D A (wlX0_undoLast cI cZ cO q_t q_a1 q_t_row q_a1_held q_a1_known q_a1_worths y_2 t_row a1_count a1_held a1_known) := hD
    refine lv_aload_n hx hb dX0_undoLast_18 rfl (lv_at hl 0 rfl) ?_
    refine va_get (D := D) (ci := 0) (v := .ref q_t_row) (C := RX0) (T := TX0) (N := 2) hx hb hts nhu_X0 hown hK hP 0 rfl rfl 1 (by decide) (hts _ nhw_198) (fun _ h9 => h9) rfl dX0_undoLast_19 ?_
    refine lv_aload_n hx hb dX0_undoLast_22 rfl (lv_at hl 0 rfl) ?_
    refine va_get (D := D) (ci := 0) (v := .int y_2) (C := RX0) (T := TX0) (N := 2) hx hb hts nhu_X0 hown hK hP 0 rfl rfl 0 (by decide) (hts _ nhw_196) (fun _ h9 => h9) rfl dX0_undoLast_23 ?_
    obtain ⟨z3, h⟩ := nh_chk_some h
    refine va_iald hx hb hK hP 1 0 rfl rfl (nh_in_in z3) dX0_undoLast_26 ?_
    refine lv_topi (fun y_4 ey_4 => ?_)
    replace h := nh_to h ey_4
    refine lv_istore_n (lv' := [(2, .int y_4), (0, .ref q_t), (1, .ref q_a1)]) hx hb dX0_undoLast_27 rfl hl (by decide) rfl (fun ls hl => ?_)
    refine lv_iload_n hx hb dX0_undoLast_28 rfl (lv_at hl 0 rfl) ?_
    refine lv_bipush (v := 100) hx hb dX0_undoLast_29 (by decide) ?_
    refine lv_icmp_ge (tgt := 47) hx hb dX0_undoLast_31 (by decide) (fun c5 => ?_) (fun c5 => ?_)
    · replace h := nh_t h c5
      refine lv_iload_n hx hb dX0_undoLast_47 rfl (lv_at hl 0 rfl) ?_
      refine lv_bipush (v := 100) hx hb dX0_undoLast_48 (by decide) ?_
      refine lv_isub hx hb dX0_undoLast_50 ?_
      refine lv_bipush (v := 10) hx hb dX0_undoLast_51 (by decide) ?_
      refine lv_idiv hx hb dX0_undoLast_53 (by decide) ?_
      refine lv_topi (fun y_6 ey_6 => ?_)
      replace h := nh_to h ey_6
      refine lv_istore_n (lv' := [(3, .int y_6), (2, .int y_4), (0, .ref q_t), (1, .ref q_a1)]) hx hb dX0_undoLast_54 rfl hl (by decide) rfl (fun ls hl => ?_)
      refine lv_aload_n hx hb dX0_undoLast_55 rfl (lv_at hl 3 rfl) ?_
      refine lv_iload_n hx hb dX0_undoLast_56 rfl (lv_at hl 0 rfl) ?_
      refine nh_goi (nh_V (As := [.int y_6]) (rest := []) ⟨hx, hb, hml, hown, hts⟩ (kX1_has  l D cI cZ cO H.size q_a1 q_a1_held q_a1_known q_a1_worths a1_count y_6 (fX1_has a1_count y_6) rfl) (cwV 1 hts (nh_gV nhw_538 nhw_419 nhw_681 nhw_303 nhw_128) rfl rfl rfl (by decide +kernel) ⟨Nat.le_of_ble_eq_true rfl, Nat.le_of_ble_eq_true rfl⟩) hK hN hP hD (isC := [2]) rfl rfl 2 1 rfl rfl rfl rfl hl.1 rfl (Nat.le_of_ble_eq_true rfl) dX0_undoLast_57 ⟨Nat.zero_le _, Nat.zero_le _⟩) hP hD hS hA (isC := [2]) rfl rfl rfl (w' := (wlX0_undoLast cI cZ cO q_t q_a1 q_t_row q_a1_held q_a1_known q_a1_worths y_2 t_row a1_count a1_held a1_known)) rfl (fun H locs hP hD hS => ?_)
      refine lv_if_eq (tgt := 73) hx hb dX0_undoLast_60 (by decide) (fun c7 => ?_) (fun c7 => ?_)
      · replace h := nh_t h c7
        obtain ⟨g0, g1, g2⟩ := nh_i3 h
        exact nh_rv hx hb hr hlocks (by rw [← g0, ← g1, ← g2]; exact hP) hS dX0_undoLast_73
      · replace h := nh_f h c7
        refine lv_aload_n hx hb dX0_undoLast_63 rfl (lv_at hl 3 rfl) ?_
        refine va_get (D := D) (ci := 1) (v := .ref q_a1_held) (C := RX1) (T := TX1) (N := 4) hx hb hts nhu_X1 hown hK hP 2 rfl rfl 1 (by decide) (hts _ nhw_197) (fun _ h9 => h9) rfl dX0_undoLast_64 ?_
        refine lv_iload_n hx hb dX0_undoLast_67 rfl (lv_at hl 0 rfl) ?_
        refine lv_iload_n hx hb dX0_undoLast_68 rfl (lv_at hl 1 rfl) ?_
        refine lv_bipush (v := 10) hx hb dX0_undoLast_69 (by decide) ?_
        refine lv_irem hx hb dX0_undoLast_71 (by decide) ?_
        obtain ⟨z8, h⟩ := nh_chk_some h
        refine va_iast hx hb hK hP hD hS 3 0 rfl rfl (nh_in_in z8) dX0_undoLast_72 (fun H locs hP hD hS => ?_)
        obtain ⟨a1_held_9, ea1_held_9⟩ : ∃ y : Nat → Int32, y = upd a1_held (Int32.toNatClampNeg y_6) (y_4 - y_4 / 10 * 10) := ⟨_, rfl⟩
        replace h := nh_to h ea1_held_9
        have hP : va_P D vwCl (wlX0_undoLast cI cZ cO q_t q_a1 q_t_row q_a1_held q_a1_known q_a1_worths y_2 t_row a1_count a1_held_9 a1_known) H := by rw [ea1_held_9]; exact hP
        have hD : va_D A (wlX0_undoLast cI cZ cO q_t q_a1 q_t_row q_a1_held q_a1_known q_a1_worths y_2 t_row a1_count a1_held_9 a1_known) := by rw [ea1_held_9]; exact hD
        obtain ⟨g0, g1, g2⟩ := nh_i3 h
        exact nh_rv hx hb hr hlocks (by rw [← g0, ← g1, ← g2]; exact hP) hS dX0_undoLast_73
    · replace h := nh_f h c5
      refine lv_aload_n hx hb dX0_undoLast_34 rfl (lv_at hl 2 rfl) ?_
      refine lv_iload_n hx hb dX0_undoLast_35 rfl (lv_at hl 0 rfl) ?_
      refine lv_bipush (v := 10) hx hb dX0_undoLast_36 (by decide) ?_
      refine lv_idiv hx hb dX0_undoLast_38 (by decide) ?_
      refine lv_iload_n hx hb dX0_undoLast_39 rfl (lv_at hl 0 rfl) ?_
      refine lv_bipush (v := 10) hx hb dX0_undoLast_40 (by decide) ?_
      refine lv_irem hx hb dX0_undoLast_42 (by decide) ?_
      obtain ⟨a1_held_10, a1_known_11, hc12, h⟩ := nh_b2_some h
      refine nh_gov (nh_V (As := [.int (y_4 / 10), .int (y_4 - y_4 / 10 * 10)]) (rest := []) ⟨hx, hb, hml, hown, hts⟩ (kX1_swapBack  l D cI cZ cO H.size q_a1 q_a1_held q_a1_known q_a1_worths a1_count a1_held a1_known (y_4 / 10) (y_4 - y_4 / 10 * 10) a1_held_10 a1_known_11 hc12) (cwV 2 hts (nh_gV nhw_537 nhw_426 nhw_687 nhw_303 nhw_136) rfl rfl rfl (by decide +kernel) ⟨Nat.le_of_ble_eq_true rfl, Nat.le_of_ble_eq_true rfl⟩) hK hN hP hD (isC := [2, 3, 4]) rfl rfl 2 1 rfl rfl rfl rfl hl.1 rfl (Nat.le_of_ble_eq_true rfl) dX0_undoLast_43 ⟨Nat.zero_le _, Nat.zero_le _⟩) hP hD hS hA (isC := [2, 3, 4]) rfl rfl rfl (w' := (wlX0_undoLast cI cZ cO q_t q_a1 q_t_row q_a1_held q_a1_known q_a1_worths y_2 t_row a1_count a1_held_10 a1_known_11)) rfl (fun H locs hP hD hS => ?_)
      obtain ⟨g0, g1, g2⟩ := nh_i3 h
      exact nh_rv hx hb hr hlocks (by rw [← g0, ← g1, ← g2]; exact hP) hS dX0_undoLast_46
  · replace h := nh_t h c1
    obtain ⟨g0, g1, g2⟩ := nh_i3 h
    exact nh_rv hx hb hr hlocks (by rw [← g0, ← g1, ← g2]; exact hP) hS dX0_undoLast_7
