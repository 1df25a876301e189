abbrev wlX10_told (cI cZ cO : ClassId)   : va_W := []
def fX10_told (i0 : Int32) (i1 : Int32) : Int32 :=
  ((10 * (if i1 < i0 then i1 else i0)) + (if i0 < i1 then i1 else i0))
set_option maxHeartbeats 4000000 in
set_option maxRecDepth 100000 in
theorem kX10_told (l : Launch) (D : va_G) (cI cZ cO : ClassId) (sz : Nat)   (i0 : Int32) (i1 : Int32) (o_r : Int32) (h : fX10_told i0 i1 = o_r) : Met l yX10_told (nh_w (.code yX10_told cX10_told 2 (some .int))) (nh_rm 2) (nh_Pc D cI cZ cO (wlX10_told cI cZ cO ) [.int i0, .int i1] sz) ((nh_Qi D (wlX10_told cI cZ cO ) o_r) (va_A (wlX10_told cI cZ cO ) sz)) 0 0 (va_A (wlX10_told cI cZ cO ) sz) := by
  unfold fX10_told at h
  refine nh_met (cc := cX10_told) (maxL := 2) (ret := (some .int)) (nh_Qi D (wlX10_told cI cZ cO ) o_r) (by decide) rfl (Nat.le_of_ble_eq_true rfl) ?_
  intro p e s m args below meth c A H locs ls hx hb hml hr hown hts hlocks hinit hP hK hN hD hA hS hl
  have hl : lv_has ls 2 [(0, .int i0), (1, .int i1)] := hl
  have hts : ∀ w ∈ nh_words, w.before args s = true := fun w h => hts w (List.mem_cons_of_mem _ h)
  refine lv_bipush (v := 10) hx hb dX10_told_0 (by decide) ?_
  refine lv_iload_n hx hb dX10_told_2 rfl (lv_at hl 0 rfl) ?_
  refine lv_iload_n hx hb dX10_told_3 rfl (lv_at hl 1 rfl) ?_
  refine va_mmin hx hb (hml.trans hl.1.symm) hown (hts _ nhw_579) (hts _ nhw_801) (hts _ nhw_299) (hts _ nhw_14) (Nat.le_of_ble_eq_true rfl) (Nat.le_of_ble_eq_true rfl) (Nat.zero_le _) (Nat.zero_le _) dX10_told_4 ?_
  refine lv_imul hx hb dX10_told_7 ?_
  refine lv_iload_n hx hb dX10_told_8 rfl (lv_at hl 0 rfl) ?_
  refine lv_iload_n hx hb dX10_told_9 rfl (lv_at hl 1 rfl) ?_
  refine va_mmax hx hb (hml.trans hl.1.symm) hown (hts _ nhw_580) (hts _ nhw_800) (hts _ nhw_299) (hts _ nhw_13) (Nat.le_of_ble_eq_true rfl) (Nat.le_of_ble_eq_true rfl) (Nat.zero_le _) (Nat.zero_le _) dX10_told_10 ?_
  refine lv_iadd hx hb dX10_told_13 ?_
  exact nh_ri hx hb hr hlocks h hP hS dX10_told_14
abbrev wlX1_has (cI cZ cO : ClassId) (q_t q_t_held q_t_known q_t_worths : Nat) (t_count : Int32) : va_W := [(q_t, .inr (1, [.int t_count, .ref q_t_held, .ref q_t_known, .ref q_t_worths]))]
def fX1_has (t_count : Int32) (i1 : Int32) : Int32 :=
  (if i1 < 0 then 0
 else (if t_count ≤ i1 then 0
 else 1))
set_option maxHeartbeats 4000000 in
set_option maxRecDepth 100000 in
theorem kX1_has (l : Launch) (D : va_G) (cI cZ cO : ClassId) (sz : Nat) (q_t q_t_held q_t_known q_t_worths : Nat) (t_count : Int32) (i1 : Int32) (o_r : Int32) (h : fX1_has t_count i1 = o_r) : Met l yX1_has (nh_w (.code yX1_has cX1_has 2 (some .boolean))) (nh_rm 0) (nh_Pc D cI cZ cO (wlX1_has cI cZ cO q_t q_t_held q_t_known q_t_worths t_count) [.ref q_t, .int i1] sz) ((nh_Qi D (wlX1_has cI cZ cO q_t q_t_held q_t_known q_t_worths t_count) o_r) (va_A (wlX1_has cI cZ cO q_t q_t_held q_t_known q_t_worths t_count) sz)) 0 0 (va_A (wlX1_has cI cZ cO q_t q_t_held q_t_known q_t_worths t_count) sz) := by
  unfold fX1_has at h
  refine nh_met (cc := cX1_has) (maxL := 2) (ret := (some .boolean)) (nh_Qi D (wlX1_has cI cZ cO q_t q_t_held q_t_known q_t_worths t_count) o_r) (by decide) rfl (Nat.le_of_ble_eq_true rfl) ?_
  intro p e s m args below meth c A H locs ls hx hb hml hr hown hts hlocks hinit hP hK hN hD hA hS hl
  have hl : lv_has ls 2 [(0, .ref q_t), (1, .int i1)] := hl
  have hts : ∀ w ∈ nh_words, w.before args s = true := fun w h => hts w (List.mem_cons_of_mem _ h)
  refine lv_iload_n hx hb dX1_has_0 rfl (lv_at hl 1 rfl) ?_
  refine lv_if_lt (tgt := 16) hx hb dX1_has_1 (by decide) (fun c1 => ?_) (fun c1 => ?_)
  · replace h := nh_t h c1
    refine lv_iconst (v := 0) hx hb dX1_has_16 (by decide) ?_
    exact nh_rz hx hb hr hlocks h rfl hP hS dX1_has_17
  · replace h := nh_f h c1
    refine lv_iload_n hx hb dX1_has_4 rfl (lv_at hl 1 rfl) ?_
    refine lv_aload_n hx hb dX1_has_5 rfl (lv_at hl 0 rfl) ?_
    refine va_get (D := D) (ci := 1) (v := .int t_count) (C := RX1) (T := TX1) (N := 4) hx hb hts nhu_X1 hown hK hP 0 rfl rfl 0 (by decide) (hts _ nhw_201) (fun _ h9 => h9) rfl dX1_has_6 ?_
    refine lv_icmp_ge (tgt := 16) hx hb dX1_has_9 (by decide) (fun c2 => ?_) (fun c2 => ?_)
    · replace h := nh_t h c2
      refine lv_iconst (v := 0) hx hb dX1_has_16 (by decide) ?_
      exact nh_rz hx hb hr hlocks h rfl hP hS dX1_has_17
    · replace h := nh_f h c2
      refine lv_iconst (v := 1) hx hb dX1_has_12 (by decide) ?_
      refine lv_goto (tgt := 17) hx hb dX1_has_13 (by decide) ?_
      exact nh_rz hx hb hr hlocks h rfl hP hS dX1_has_17
abbrev wlX10_isSort (cI cZ cO : ClassId)   : va_W := []
def fX10_isSort (i0 : Int32) : Int32 :=
  (if i0 < 0 then 0
 else (if 6 ≤ i0 then 0
 else 1))
set_option maxHeartbeats 4000000 in
set_option maxRecDepth 100000 in
theorem kX10_isSort (l : Launch) (D : va_G) (cI cZ cO : ClassId) (sz : Nat)   (i0 : Int32) (o_r : Int32) (h : fX10_isSort i0 = o_r) : Met l yX10_isSort (nh_w (.code yX10_isSort cX10_isSort 1 (some .boolean))) (nh_rm 0) (nh_Pc D cI cZ cO (wlX10_isSort cI cZ cO ) [.int i0] sz) ((nh_Qi D (wlX10_isSort cI cZ cO ) o_r) (va_A (wlX10_isSort cI cZ cO ) sz)) 0 0 (va_A (wlX10_isSort cI cZ cO ) sz) := by
  unfold fX10_isSort at h
  refine nh_met (cc := cX10_isSort) (maxL := 1) (ret := (some .boolean)) (nh_Qi D (wlX10_isSort cI cZ cO ) o_r) (by decide) rfl (Nat.le_of_ble_eq_true rfl) ?_
  intro p e s m args below meth c A H locs ls hx hb hml hr hown hts hlocks hinit hP hK hN hD hA hS hl
  have hl : lv_has ls 1 [(0, .int i0)] := hl
  have hts : ∀ w ∈ nh_words, w.before args s = true := fun w h => hts w (List.mem_cons_of_mem _ h)
  refine lv_iload_n hx hb dX10_isSort_0 rfl (lv_at hl 0 rfl) ?_
  refine lv_if_lt (tgt := 14) hx hb dX10_isSort_1 (by decide) (fun c1 => ?_) (fun c1 => ?_)
  · replace h := nh_t h c1
    refine lv_iconst (v := 0) hx hb dX10_isSort_14 (by decide) ?_
    exact nh_rz hx hb hr hlocks h rfl hP hS dX10_isSort_15
  · replace h := nh_f h c1
    refine lv_iload_n hx hb dX10_isSort_4 rfl (lv_at hl 0 rfl) ?_
    refine lv_bipush (v := 6) hx hb dX10_isSort_5 (by decide) ?_
    refine lv_icmp_ge (tgt := 14) hx hb dX10_isSort_7 (by decide) (fun c2 => ?_) (fun c2 => ?_)
    · replace h := nh_t h c2
      refine lv_iconst (v := 0) hx hb dX10_isSort_14 (by decide) ?_
      exact nh_rz hx hb hr hlocks h rfl hP hS dX10_isSort_15
    · replace h := nh_f h c2
      refine lv_iconst (v := 1) hx hb dX10_isSort_10 (by decide) ?_
      refine lv_goto (tgt := 15) hx hb dX10_isSort_11 (by decide) ?_
      exact nh_rz hx hb hr hlocks h rfl hP hS dX10_isSort_15
abbrev wlX10_bit (cI cZ cO : ClassId)   : va_W := []
def fX10_bit (i0 : Int32) : Int32 :=
  (if (fX10_isSort i0) = 0 then 0
 else (1 <<< (i0 &&& 31)))
set_option maxHeartbeats 4000000 in
set_option maxRecDepth 100000 in
theorem kX10_bit (l : Launch) (D : va_G) (cI cZ cO : ClassId) (sz : Nat)   (i0 : Int32) (o_r : Int32) (h : fX10_bit i0 = o_r) : Met l yX10_bit (nh_w (.code yX10_bit cX10_bit 1 (some .int))) (nh_rm 1) (nh_Pc D cI cZ cO (wlX10_bit cI cZ cO ) [.int i0] sz) ((nh_Qi D (wlX10_bit cI cZ cO ) o_r) (va_A (wlX10_bit cI cZ cO ) sz)) 0 0 (va_A (wlX10_bit cI cZ cO ) sz) := by
  unfold fX10_bit at h
  refine nh_met (cc := cX10_bit) (maxL := 1) (ret := (some .int)) (nh_Qi D (wlX10_bit cI cZ cO ) o_r) (by decide) rfl (Nat.le_of_ble_eq_true rfl) ?_
  intro p e s m args below meth c A H locs ls hx hb hml hr hown hts hlocks hinit hP hK hN hD hA hS hl
  have hl : lv_has ls 1 [(0, .int i0)] := hl
  have hts : ∀ w ∈ nh_words, w.before args s = true := fun w h => hts w (List.mem_cons_of_mem _ h)
  refine lv_iload_n hx hb dX10_bit_0 rfl (lv_at hl 0 rfl) ?_
  refine nh_goi (nh_S (As := [.int i0]) (rest := []) ⟨hx, hb, hml, hown, hts⟩ (kX10_isSort  l D cI cZ cO H.size i0 (fX10_isSort i0) rfl) (va_cwS 1 hts (nh_gS nhw_553 nhw_806 nhw_304 nhw_37) rfl rfl rfl (by decide +kernel) ⟨Nat.le_of_ble_eq_true rfl, Nat.le_of_ble_eq_true rfl⟩) hK hN hP hD (isC := []) rfl rfl rfl hl.1 rfl (Nat.le_of_ble_eq_true rfl) dX10_bit_1 ⟨Nat.zero_le _, Nat.zero_le _⟩) hP hD hS hA (isC := []) rfl rfl rfl (w' := (wlX10_bit cI cZ cO )) rfl (fun H locs hP hD hS => ?_)
  refine lv_if_eq (tgt := 13) hx hb dX10_bit_4 (by decide) (fun c1 => ?_) (fun c1 => ?_)
  · replace h := nh_t h c1
    refine lv_iconst (v := 0) hx hb dX10_bit_13 (by decide) ?_
    exact nh_ri hx hb hr hlocks h hP hS dX10_bit_14
  · replace h := nh_f h c1
    refine lv_iconst (v := 1) hx hb dX10_bit_7 (by decide) ?_
    refine lv_iload_n hx hb dX10_bit_8 rfl (lv_at hl 0 rfl) ?_
    refine lv_ishl hx hb dX10_bit_9 ?_
    refine lv_goto (tgt := 14) hx hb dX10_bit_10 (by decide) ?_
    exact nh_ri hx hb hr hlocks h hP hS dX10_bit_14
abbrev wlX1_crossThings (cI cZ cO : ClassId) (q_t q_t_held q_t_known q_t_worths : Nat) (t_count : Int32) (t_held : Nat → Int32) : va_W := [(q_t, .inr (1, [.int t_count, .ref q_t_held, .ref q_t_known, .ref q_t_worths])), (q_t_held, .inl (cI, 4, .inl t_held))]
def fX1_crossThings (t_held : Nat → Int32) (i1 : Int32) (i2 : Int32) : Option ((Nat → Int32)) :=
  nh_chk (nh_in i1 4) (nh_let (α := Int32) ((t_held (Int32.toNatClampNeg i1))) (fun y_2 => nh_chk (nh_in i2 4) (nh_chk (nh_in i1 4) (nh_let (α := Nat → Int32) (upd t_held (Int32.toNatClampNeg i1) (t_held (Int32.toNatClampNeg i2))) (fun t_held_5 => nh_chk (nh_in i2 4) (nh_let (α := Nat → Int32) (upd t_held_5 (Int32.toNatClampNeg i2) y_2) (fun t_held_7 => some t_held_7)))))))
set_option maxHeartbeats 4000000 in
set_option maxRecDepth 100000 in
theorem kX1_crossThings (l : Launch) (D : va_G) (cI cZ cO : ClassId) (sz : Nat) (q_t q_t_held q_t_known q_t_worths : Nat) (t_count : Int32) (t_held : Nat → Int32) (i1 : Int32) (i2 : Int32) (o_t_held : Nat → Int32) (h : fX1_crossThings t_held i1 i2 = some o_t_held) : Met l yX1_crossThings (nh_w (.code yX1_crossThings cX1_crossThings 4 none)) (nh_rm 0) (nh_Pc D cI cZ cO (wlX1_crossThings cI cZ cO q_t q_t_held q_t_known q_t_worths t_count t_held) [.ref q_t, .int i1, .int i2] sz) ((nh_Qv D (wlX1_crossThings cI cZ cO q_t q_t_held q_t_known q_t_worths t_count o_t_held)) (va_A (wlX1_crossThings cI cZ cO q_t q_t_held q_t_known q_t_worths t_count t_held) sz)) 0 0 (va_A (wlX1_crossThings cI cZ cO q_t q_t_held q_t_known q_t_worths t_count t_held) sz) := by
  unfold fX1_crossThings at h
  refine nh_met (cc := cX1_crossThings) (maxL := 4) (ret := none) (nh_Qv D (wlX1_crossThings cI cZ cO q_t q_t_held q_t_known q_t_worths t_count o_t_held)) (by decide) rfl (Nat.le_of_ble_eq_true rfl) ?_
  intro p e s m args below meth c A H locs ls hx hb hml hr hown hts hlocks hinit hP hK hN hD hA hS hl
  have hl : lv_has ls 4 [(0, .ref q_t), (1, .int i1), (2, .int i2)] := hl
  have hts : ∀ w ∈ nh_words, w.before args s = true := fun w h => hts w (List.mem_cons_of_mem _ h)
  refine lv_aload_n hx hb dX1_crossThings_0 rfl (lv_at hl 0 rfl) ?_
  refine va_get (D := D) (ci := 1) (v := .ref q_t_held) (C := RX1) (T := TX1) (N := 4) hx hb hts nhu_X1 hown hK hP 0 rfl rfl 1 (by decide) (hts _ nhw_202) (fun _ h9 => h9) rfl dX1_crossThings_1 ?_
  refine lv_iload_n hx hb dX1_crossThings_4 rfl (lv_at hl 1 rfl) ?_
  obtain ⟨z1, h⟩ := nh_chk_some h
  refine va_iald hx hb hK hP 1 0 rfl rfl (nh_in_in z1) dX1_crossThings_5 ?_
  refine lv_topi (fun y_2 ey_2 => ?_)
  replace h := nh_to h ey_2
  refine lv_istore_n (lv' := [(3, .int y_2), (0, .ref q_t), (1, .int i1), (2, .int i2)]) hx hb dX1_crossThings_6 rfl hl (by decide) rfl (fun ls hl => ?_)
  refine lv_aload_n hx hb dX1_crossThings_7 rfl (lv_at hl 1 rfl) ?_
  refine va_get (D := D) (ci := 1) (v := .ref q_t_held) (C := RX1) (T := TX1) (N := 4) hx hb hts nhu_X1 hown hK hP 0 rfl rfl 1 (by decide) (hts _ nhw_202) (fun _ h9 => h9) rfl dX1_crossThings_8 ?_
  refine lv_iload_n hx hb dX1_crossThings_11 rfl (lv_at hl 2 rfl) ?_
  refine lv_aload_n hx hb dX1_crossThings_12 rfl (lv_at hl 1 rfl) ?_
  refine va_get (D := D) (ci := 1) (v := .ref q_t_held) (C := RX1) (T := TX1) (N := 4) hx hb hts nhu_X1 hown hK hP 0 rfl rfl 1 (by decide) (hts _ nhw_202) (fun _ h9 => h9) rfl dX1_crossThings_13 ?_
  refine lv_iload_n hx hb dX1_crossThings_16 rfl (lv_at hl 3 rfl) ?_
  obtain ⟨z3, h⟩ := nh_chk_some h
  refine va_iald hx hb hK hP 1 0 rfl rfl (nh_in_in z3) dX1_crossThings_17 ?_
  obtain ⟨z4, h⟩ := nh_chk_some h
  refine va_iast hx hb hK hP hD hS 1 0 rfl rfl (nh_in_in z4) dX1_crossThings_18 (fun H locs hP hD hS => ?_)
  obtain ⟨t_held_5, et_held_5⟩ : ∃ y : Nat → Int32, y = upd t_held (Int32.toNatClampNeg i1) (t_held (Int32.toNatClampNeg i2)) := ⟨_, rfl⟩
  replace h := nh_to h et_held_5
  have hP : va_P D vwCl (wlX1_crossThings cI cZ cO q_t q_t_held q_t_known q_t_worths t_count t_held_5) H := by rw [et_held_5]; exact hP
  have hD : va_D A (wlX1_crossThings cI cZ cO q_t q_t_held q_t_known q_t_worths t_count t_held_5) := by rw [et_held_5]; exact hD
  refine lv_aload_n hx hb dX1_crossThings_19 rfl (lv_at hl 1 rfl) ?_
  refine va_get (D := D) (ci := 1) (v := .ref q_t_held) (C := RX1) (T := TX1) (N := 4) hx hb hts nhu_X1 hown hK hP 0 rfl rfl 1 (by decide) (hts _ nhw_202) (fun _ h9 => h9) rfl dX1_crossThings_20 ?_
  refine lv_iload_n hx hb dX1_crossThings_23 rfl (lv_at hl 3 rfl) ?_
  refine lv_iload_n hx hb dX1_crossThings_24 rfl (lv_at hl 0 rfl) ?_
  obtain ⟨z6, h⟩ := nh_chk_some h
  refine va_iast hx hb hK hP hD hS 1 0 rfl rfl (nh_in_in z6) dX1_crossThings_25 (fun H locs hP hD hS => ?_)
  obtain ⟨t_held_7, et_held_7⟩ : ∃ y : Nat → Int32, y = upd t_held_5 (Int32.toNatClampNeg i2) y_2 := ⟨_, rfl⟩
  replace h := nh_to h et_held_7
  have hP : va_P D vwCl (wlX1_crossThings cI cZ cO q_t q_t_held q_t_known q_t_worths t_count t_held_7) H := by rw [et_held_7]; exact hP
  have hD : va_D A (wlX1_crossThings cI cZ cO q_t q_t_held q_t_known q_t_worths t_count t_held_7) := by rw [et_held_7]; exact hD
  replace h := nh_i1 h
  exact nh_rv hx hb hr hlocks (by rw [← h]; exact hP) hS dX1_crossThings_26
abbrev wlX1_swapBack (cI cZ cO : ClassId) (q_t q_t_held q_t_known q_t_worths : Nat) (t_count : Int32) (t_held : Nat → Int32) (t_known : Nat → Int32) : va_W := [(q_t, .inr (1, [.int t_count, .ref q_t_held, .ref q_t_known, .ref q_t_worths])), (q_t_held, .inl (cI, 4, .inl t_held)), (q_t_known, .inl (cI, 4, .inl t_known))]
def fX1_swapBack (t_count : Int32) (t_held : Nat → Int32) (t_known : Nat → Int32) (i1 : Int32) (i2 : Int32) : Option ((Nat → Int32) × (Nat → Int32)) :=
  (if (fX1_has t_count i1) = 0 then some (t_held, t_known)
 else (if (fX1_has t_count i2) = 0 then some (t_held, t_known)
 else nh_chk (nh_in i1 4) (nh_chk (nh_in i1 4) (nh_chk (nh_in i1 4) (nh_let (α := Nat → Int32) (upd t_known (Int32.toNatClampNeg i1) ((t_known (Int32.toNatClampNeg i1)) &&& ((fX10_bit (t_held (Int32.toNatClampNeg i1))) ^^^ (-1)))) (fun t_known_6 => nh_chk (nh_in i2 4) (nh_chk (nh_in i2 4) (nh_chk (nh_in i2 4) (nh_let (α := Nat → Int32) (upd t_known_6 (Int32.toNatClampNeg i2) ((t_known_6 (Int32.toNatClampNeg i2)) &&& ((fX10_bit (t_held (Int32.toNatClampNeg i2))) ^^^ (-1)))) (fun t_known_10 => nh_b1 (fX1_crossThings t_held i1 i2) (fun t_held_11 => some (t_held_11, t_known_10))))))))))))
set_option maxHeartbeats 4000000 in
set_option maxRecDepth 100000 in
theorem kX1_swapBack (l : Launch) (D : va_G) (cI cZ cO : ClassId) (sz : Nat) (q_t q_t_held q_t_known q_t_worths : Nat) (t_count : Int32) (t_held : Nat → Int32) (t_known : Nat → Int32) (i1 : Int32) (i2 : Int32) (o_t_held : Nat → Int32) (o_t_known : Nat → Int32) (h : fX1_swapBack t_count t_held t_known i1 i2 = some (o_t_held, o_t_known)) : Met l yX1_swapBack (nh_w (.code yX1_swapBack cX1_swapBack 3 none)) (nh_rm 2) (nh_Pc D cI cZ cO (wlX1_swapBack cI cZ cO q_t q_t_held q_t_known q_t_worths t_count t_held t_known) [.ref q_t, .int i1, .int i2] sz) ((nh_Qv D (wlX1_swapBack cI cZ cO q_t q_t_held q_t_known q_t_worths t_count o_t_held o_t_known)) (va_A (wlX1_swapBack cI cZ cO q_t q_t_held q_t_known q_t_worths t_count t_held t_known) sz)) 0 0 (va_A (wlX1_swapBack cI cZ cO q_t q_t_held q_t_known q_t_worths t_count t_held t_known) sz) := by
  unfold fX1_swapBack at h
  refine nh_met (cc := cX1_swapBack) (maxL := 3) (ret := none) (nh_Qv D (wlX1_swapBack cI cZ cO q_t q_t_held q_t_known q_t_worths t_count o_t_held o_t_known)) (by decide) rfl (Nat.le_of_ble_eq_true rfl) ?_
  intro p e s m args below meth c A H locs ls hx hb hml hr hown hts hlocks hinit hP hK hN hD hA hS hl
  have hl : lv_has ls 3 [(0, .ref q_t), (1, .int i1), (2, .int i2)] := hl
  have hts : ∀ w ∈ nh_words, w.before args s = true := fun w h => hts w (List.mem_cons_of_mem _ h)
  refine lv_aload_n hx hb dX1_swapBack_0 rfl (lv_at hl 0 rfl) ?_
  refine lv_iload_n hx hb dX1_swapBack_1 rfl (lv_at hl 1 rfl) ?_
  refine nh_goi (nh_V (As := [.int i1]) (rest := []) ⟨hx, hb, hml, hown, hts⟩ (kX1_has  l D cI cZ cO H.size q_t q_t_held q_t_known q_t_worths t_count i1 (fX1_has t_count i1) rfl) (cwV 1 hts (nh_gV nhw_541 nhw_419 nhw_681 nhw_303 nhw_128) rfl rfl rfl (by decide +kernel) ⟨Nat.le_of_ble_eq_true rfl, Nat.le_of_ble_eq_true rfl⟩) hK hN hP hD (isC := [0]) rfl rfl 0 1 rfl rfl rfl rfl hl.1 rfl (Nat.le_of_ble_eq_true rfl) dX1_swapBack_2 ⟨Nat.zero_le _, Nat.zero_le _⟩) hP hD hS hA (isC := [0]) rfl rfl rfl (w' := (wlX1_swapBack cI cZ cO q_t q_t_held q_t_known q_t_worths t_count t_held t_known)) rfl (fun H locs hP hD hS => ?_)
  refine lv_if_eq (tgt := 62) hx hb dX1_swapBack_5 (by decide) (fun c1 => ?_) (fun c1 => ?_)
  · replace h := nh_t h c1
    obtain ⟨g0, g1⟩ := nh_i2 h
    exact nh_rv hx hb hr hlocks (by rw [← g0, ← g1]; exact hP) hS dX1_swapBack_62
  · replace h := nh_f h c1
    refine lv_aload_n hx hb dX1_swapBack_8 rfl (lv_at hl 0 rfl) ?_
    refine lv_iload_n hx hb dX1_swapBack_9 rfl (lv_at hl 2 rfl) ?_
    refine nh_goi (nh_V (As := [.int i2]) (rest := []) ⟨hx, hb, hml, hown, hts⟩ (kX1_has  l D cI cZ cO H.size q_t q_t_held q_t_known q_t_worths t_count i2 (fX1_has t_count i2) rfl) (cwV 1 hts (nh_gV nhw_541 nhw_419 nhw_681 nhw_303 nhw_128) rfl rfl rfl (by decide +kernel) ⟨Nat.le_of_ble_eq_true rfl, Nat.le_of_ble_eq_true rfl⟩) hK hN hP hD (isC := [0]) rfl rfl 0 1 rfl rfl rfl rfl hl.1 rfl (Nat.le_of_ble_eq_true rfl) dX1_swapBack_10 ⟨Nat.zero_le _, Nat.zero_le _⟩) hP hD hS hA (isC := [0]) rfl rfl rfl (w' := (wlX1_swapBack cI cZ cO q_t q_t_held q_t_known q_t_worths t_count t_held t_known)) rfl (fun H locs hP hD hS => ?_)
    refine lv_if_eq (tgt := 62) hx hb dX1_swapBack_13 (by decide) (fun c2 => ?_) (fun c2 => ?_)
    · replace h := nh_t h c2
      obtain ⟨g0, g1⟩ := nh_i2 h
      exact nh_rv hx hb hr hlocks (by rw [← g0, ← g1]; exact hP) hS dX1_swapBack_62
    · replace h := nh_f h c2
      refine lv_aload_n hx hb dX1_swapBack_16 rfl (lv_at hl 0 rfl) ?_
      refine va_get (D := D) (ci := 1) (v := .ref q_t_known) (C := RX1) (T := TX1) (N := 4) hx hb hts nhu_X1 hown hK hP 0 rfl rfl 2 (by decide) (hts _ nhw_199) (fun _ h9 => h9) rfl dX1_swapBack_17 ?_
      refine lv_iload_n hx hb dX1_swapBack_20 rfl (lv_at hl 1 rfl) ?_
      refine lv_dup2_11 hx hb dX1_swapBack_21 rfl rfl ?_
      obtain ⟨z3, h⟩ := nh_chk_some h
      refine va_iald hx hb hK hP 2 0 rfl rfl (nh_in_in z3) dX1_swapBack_22 ?_
      refine lv_aload_n hx hb dX1_swapBack_23 rfl (lv_at hl 0 rfl) ?_
      refine va_get (D := D) (ci := 1) (v := .ref q_t_held) (C := RX1) (T := TX1) (N := 4) hx hb hts nhu_X1 hown hK hP 0 rfl rfl 1 (by decide) (hts _ nhw_202) (fun _ h9 => h9) rfl dX1_swapBack_24 ?_
      refine lv_iload_n hx hb dX1_swapBack_27 rfl (lv_at hl 1 rfl) ?_
      obtain ⟨z4, h⟩ := nh_chk_some h
      refine va_iald hx hb hK hP 1 0 rfl rfl (nh_in_in z4) dX1_swapBack_28 ?_
      refine nh_goi (nh_SN (As := [.int (t_held (Int32.toNatClampNeg i1))]) (rest := [.int (t_known (Int32.toNatClampNeg i1)), .int i1, .ref q_t_known]) ⟨hx, hb, hml, hown, hts⟩ (kX10_bit  l D cI cZ cO H.size (t_held (Int32.toNatClampNeg i1)) (fX10_bit (t_held (Int32.toNatClampNeg i1))) rfl) ⟨va_cnB 1 hts (nh_gC nhw_25) rfl rfl rfl (nh_N_at hN 11 rfl) (hts _ nhw_304) (by decide +kernel) ⟨Nat.le_of_ble_eq_true rfl, Nat.le_of_ble_eq_true rfl⟩, (hts _ nhw_804), trivial⟩ hK hN hP hD (isC := []) rfl rfl rfl hl.1 rfl (Nat.le_of_ble_eq_true rfl) dX1_swapBack_29 ⟨Nat.zero_le _, Nat.zero_le _⟩) hP hD hS hA (isC := []) rfl rfl rfl (w' := (wlX1_swapBack cI cZ cO q_t q_t_held q_t_known q_t_worths t_count t_held t_known)) rfl (fun H locs hP hD hS => ?_)
      refine lv_iconst (v := (-1)) hx hb dX1_swapBack_32 (by decide) ?_
      refine lv_ixor hx hb dX1_swapBack_33 ?_
      refine lv_iand hx hb dX1_swapBack_34 ?_
      obtain ⟨z5, h⟩ := nh_chk_some h
      refine va_iast hx hb hK hP hD hS 2 0 rfl rfl (nh_in_in z5) dX1_swapBack_35 (fun H locs hP hD hS => ?_)
      obtain ⟨t_known_6, et_known_6⟩ : ∃ y : Nat → Int32, y = upd t_known (Int32.toNatClampNeg i1) ((t_known (Int32.toNatClampNeg i1)) &&& ((fX10_bit (t_held (Int32.toNatClampNeg i1))) ^^^ (-1))) := ⟨_, rfl⟩
      replace h := nh_to h et_known_6
      have hP : va_P D vwCl (wlX1_swapBack cI cZ cO q_t q_t_held q_t_known q_t_worths t_count t_held t_known_6) H := by rw [et_known_6]; exact hP
      have hD : va_D A (wlX1_swapBack cI cZ cO q_t q_t_held q_t_known q_t_worths t_count t_held t_known_6) := by rw [et_known_6]; exact hD
      refine lv_aload_n hx hb dX1_swapBack_36 rfl (lv_at hl 0 rfl) ?_
      refine va_get (D := D) (ci := 1) (v := .ref q_t_known) (C := RX1) (T := TX1) (N := 4) hx hb hts nhu_X1 hown hK hP 0 rfl rfl 2 (by decide) (hts _ nhw_199) (fun _ h9 => h9) rfl dX1_swapBack_37 ?_
      refine lv_iload_n hx hb dX1_swapBack_40 rfl (lv_at hl 2 rfl) ?_
      refine lv_dup2_11 hx hb dX1_swapBack_41 rfl rfl ?_
      obtain ⟨z7, h⟩ := nh_chk_some h
      refine va_iald hx hb hK hP 2 0 rfl rfl (nh_in_in z7) dX1_swapBack_42 ?_
      refine lv_aload_n hx hb dX1_swapBack_43 rfl (lv_at hl 0 rfl) ?_
      refine va_get (D := D) (ci := 1) (v := .ref q_t_held) (C := RX1) (T := TX1) (N := 4) hx hb hts nhu_X1 hown hK hP 0 rfl rfl 1 (by decide) (hts _ nhw_202) (fun _ h9 => h9) rfl dX1_swapBack_44 ?_
      refine lv_iload_n hx hb dX1_swapBack_47 rfl (lv_at hl 2 rfl) ?_
      obtain ⟨z8, h⟩ := nh_chk_some h
      refine va_iald hx hb hK hP 1 0 rfl rfl (nh_in_in z8) dX1_swapBack_48 ?_
      refine nh_goi (nh_SN (As := [.int (t_held (Int32.toNatClampNeg i2))]) (rest := [.int (t_known_6 (Int32.toNatClampNeg i2)), .int i2, .ref q_t_known]) ⟨hx, hb, hml, hown, hts⟩ (kX10_bit  l D cI cZ cO H.size (t_held (Int32.toNatClampNeg i2)) (fX10_bit (t_held (Int32.toNatClampNeg i2))) rfl) ⟨va_cnB 1 hts (nh_gC nhw_25) rfl rfl rfl (nh_N_at hN 11 rfl) (hts _ nhw_304) (by decide +kernel) ⟨Nat.le_of_ble_eq_true rfl, Nat.le_of_ble_eq_true rfl⟩, (hts _ nhw_804), trivial⟩ hK hN hP hD (isC := []) rfl rfl rfl hl.1 rfl (Nat.le_of_ble_eq_true rfl) dX1_swapBack_49 ⟨Nat.zero_le _, Nat.zero_le _⟩) hP hD hS hA (isC := []) rfl rfl rfl (w' := (wlX1_swapBack cI cZ cO q_t q_t_held q_t_known q_t_worths t_count t_held t_known_6)) rfl (fun H locs hP hD hS => ?_)
      refine lv_iconst (v := (-1)) hx hb dX1_swapBack_52 (by decide) ?_
      refine lv_ixor hx hb dX1_swapBack_53 ?_
      refine lv_iand hx hb dX1_swapBack_54 ?_
      obtain ⟨z9, h⟩ := nh_chk_some h
      refine va_iast hx hb hK hP hD hS 2 0 rfl rfl (nh_in_in z9) dX1_swapBack_55 (fun H locs hP hD hS => ?_)
      obtain ⟨t_known_10, et_known_10⟩ : ∃ y : Nat → Int32, y = upd t_known_6 (Int32.toNatClampNeg i2) ((t_known_6 (Int32.toNatClampNeg i2)) &&& ((fX10_bit (t_held (Int32.toNatClampNeg i2))) ^^^ (-1))) := ⟨_, rfl⟩
      replace h := nh_to h et_known_10
      have hP : va_P D vwCl (wlX1_swapBack cI cZ cO q_t q_t_held q_t_known q_t_worths t_count t_held t_known_10) H := by rw [et_known_10]; exact hP
      have hD : va_D A (wlX1_swapBack cI cZ cO q_t q_t_held q_t_known q_t_worths t_count t_held t_known_10) := by rw [et_known_10]; exact hD
      refine lv_aload_n hx hb dX1_swapBack_56 rfl (lv_at hl 0 rfl) ?_
      refine lv_iload_n hx hb dX1_swapBack_57 rfl (lv_at hl 1 rfl) ?_
      refine lv_iload_n hx hb dX1_swapBack_58 rfl (lv_at hl 2 rfl) ?_
      obtain ⟨t_held_11, hc12, h⟩ := nh_b1_some h
      refine nh_gov (nh_V (As := [.int i1, .int i2]) (rest := []) ⟨hx, hb, hml, hown, hts⟩ (kX1_crossThings  l D cI cZ cO H.size q_t q_t_held q_t_known q_t_worths t_count t_held i1 i2 t_held_11 hc12) (cwV 2 hts (nh_gV nhw_544 nhw_417 nhw_679 nhw_303 nhw_126) rfl rfl rfl (by decide +kernel) ⟨Nat.le_of_ble_eq_true rfl, Nat.le_of_ble_eq_true rfl⟩) hK hN hP hD (isC := [0, 1]) rfl rfl 0 1 rfl rfl rfl rfl hl.1 rfl (Nat.le_of_ble_eq_true rfl) dX1_swapBack_59 ⟨Nat.zero_le _, Nat.zero_le _⟩) hP hD hS hA (isC := [0, 1]) rfl rfl rfl (w' := (wlX1_swapBack cI cZ cO q_t q_t_held q_t_known q_t_worths t_count t_held_11 t_known_10)) rfl (fun H locs hP hD hS => ?_)
      obtain ⟨g0, g1⟩ := nh_i2 h
      exact nh_rv hx hb hr hlocks (by rw [← g0, ← g1]; exact hP) hS dX1_swapBack_62
abbrev wlX1_become (cI cZ cO : ClassId) (q_t q_a1 q_t_held q_t_known q_t_worths q_a1_held q_a1_known q_a1_worths : Nat) (t_count : Int32) (t_held : Nat → Int32) (t_known : Nat → Int32) (t_worths : Nat → Int32) (a1_count : Int32) (a1_held : Nat → Int32) (a1_known : Nat → Int32) (a1_worths : Nat → Int32) : va_W := [(q_t, .inr (1, [.int t_count, .ref q_t_held, .ref q_t_known, .ref q_t_worths])), (q_t_held, .inl (cI, 4, .inl t_held)), (q_t_known, .inl (cI, 4, .inl t_known)), (q_t_worths, .inl (cI, 24, .inl t_worths)), (q_a1, .inr (1, [.int a1_count, .ref q_a1_held, .ref q_a1_known, .ref q_a1_worths])), (q_a1_held, .inl (cI, 4, .inl a1_held)), (q_a1_known, .inl (cI, 4, .inl a1_known)), (q_a1_worths, .inl (cI, 24, .inl a1_worths))]
def fX1_become (t_count : Int32) (t_held : Nat → Int32) (t_known : Nat → Int32) (t_worths : Nat → Int32) (a1_count : Int32) (a1_held : Nat → Int32) (a1_known : Nat → Int32) (a1_worths : Nat → Int32) : Option (Int32 × (Nat → Int32) × (Nat → Int32) × (Nat → Int32)) :=
  nh_chk (nh_cp 0 0 4 4 4) (nh_let (α := Nat → Int32) (va_cpy a1_held t_held (Int32.toNatClampNeg (0 : Int32)) (Int32.toNatClampNeg (0 : Int32)) (Int32.toNatClampNeg (4 : Int32))) (fun t_held_2 => nh_chk (nh_cp 0 0 4 4 4) (nh_let (α := Nat → Int32) (va_cpy a1_known t_known (Int32.toNatClampNeg (0 : Int32)) (Int32.toNatClampNeg (0 : Int32)) (Int32.toNatClampNeg (4 : Int32))) (fun t_known_4 => nh_chk (nh_cp 0 0 24 24 24) (nh_let (α := Nat → Int32) (va_cpy a1_worths t_worths (Int32.toNatClampNeg (0 : Int32)) (Int32.toNatClampNeg (0 : Int32)) (Int32.toNatClampNeg (24 : Int32))) (fun t_worths_6 => some (a1_count, t_held_2, t_known_4, t_worths_6)))))))
set_option maxHeartbeats 4000000 in
set_option maxRecDepth 100000 in
theorem kX1_become (l : Launch) (D : va_G) (cI cZ cO : ClassId) (sz : Nat) (q_t q_a1 q_t_held q_t_known q_t_worths q_a1_held q_a1_known q_a1_worths : Nat) (t_count : Int32) (t_held : Nat → Int32) (t_known : Nat → Int32) (t_worths : Nat → Int32) (a1_count : Int32) (a1_held : Nat → Int32) (a1_known : Nat → Int32) (a1_worths : Nat → Int32)  (o_t_count : Int32) (o_t_held : Nat → Int32) (o_t_known : Nat → Int32) (o_t_worths : Nat → Int32) (h : fX1_become t_count t_held t_known t_worths a1_count a1_held a1_known a1_worths = some (o_t_count, o_t_held, o_t_known, o_t_worths)) : Met l yX1_become (nh_w (.code yX1_become cX1_become 2 none)) (nh_rm 2) (nh_Pc D cI cZ cO (wlX1_become cI cZ cO q_t q_a1 q_t_held q_t_known q_t_worths q_a1_held q_a1_known q_a1_worths t_count t_held t_known t_worths a1_count a1_held a1_known a1_worths) [.ref q_t, .ref q_a1] sz) ((nh_Qv D (wlX1_become cI cZ cO q_t q_a1 q_t_held q_t_known q_t_worths q_a1_held q_a1_known q_a1_worths o_t_count o_t_held o_t_known o_t_worths a1_count a1_held a1_known a1_worths)) (va_A (wlX1_become cI cZ cO q_t q_a1 q_t_held q_t_known q_t_worths q_a1_held q_a1_known q_a1_worths t_count t_held t_known t_worths a1_count a1_held a1_known a1_worths) sz)) 0 0 (va_A (wlX1_become cI cZ cO q_t q_a1 q_t_held q_t_known q_t_worths q_a1_held q_a1_known q_a1_worths t_count t_held t_known t_worths a1_count a1_held a1_known a1_worths) sz) := by
  unfold fX1_become at h
  refine nh_met (cc := cX1_become) (maxL := 2) (ret := none) (nh_Qv D (wlX1_become cI cZ cO q_t q_a1 q_t_held q_t_known q_t_worths q_a1_held q_a1_known q_a1_worths o_t_count o_t_held o_t_known o_t_worths a1_count a1_held a1_known a1_worths)) (by decide) rfl (Nat.le_of_ble_eq_true rfl) ?_
  intro p e s m args below meth c A H locs ls hx hb hml hr hown hts hlocks hinit hP hK hN hD hA hS hl
  have hl : lv_has ls 2 [(0, .ref q_t), (1, .ref q_a1)] := hl
  have hts : ∀ w ∈ nh_words, w.before args s = true := fun w h => hts w (List.mem_cons_of_mem _ h)
  refine lv_aload_n hx hb dX1_become_0 rfl (lv_at hl 0 rfl) ?_
  refine lv_aload_n hx hb dX1_become_1 rfl (lv_at hl 1 rfl) ?_
  refine va_get (D := D) (ci := 1) (v := .int a1_count) (C := RX1) (T := TX1) (N := 4) hx hb hts nhu_X1 hown hK hP 4 rfl rfl 0 (by decide) (hts _ nhw_201) (fun _ h9 => h9) rfl dX1_become_2 ?_
  refine va_put (D := D) (ci := 1) (v := .int a1_count) (ty := .int) (C := RX1) (T := TX1) (N := 4) hx hb hts nhu_X1 tyX1 tyX1_ok nmX1 hown hK hP hD hS 0 rfl rfl 0 (by decide) (hts _ nhw_201) (fun _ h9 => h9) rfl (by decide +kernel) rfl rfl (Nat.le_of_ble_eq_true rfl) dX1_become_5 (fun H locs hP hD hS => ?_)
  have hP : va_P D vwCl (wlX1_become cI cZ cO q_t q_a1 q_t_held q_t_known q_t_worths q_a1_held q_a1_known q_a1_worths a1_count t_held t_known t_worths a1_count a1_held a1_known a1_worths) H := hP
  have hD : va_D A (wlX1_become cI cZ cO q_t q_a1 q_t_held q_t_known q_t_worths q_a1_held q_a1_known q_a1_worths a1_count t_held t_known t_worths a1_count a1_held a1_known a1_worths) := hD
  refine lv_aload_n hx hb dX1_become_8 rfl (lv_at hl 1 rfl) ?_
  refine va_get (D := D) (ci := 1) (v := .ref q_a1_held) (C := RX1) (T := TX1) (N := 4) hx hb hts nhu_X1 hown hK hP 4 rfl rfl 1 (by decide) (hts _ nhw_202) (fun _ h9 => h9) rfl dX1_become_9 ?_
  refine lv_iconst (v := 0) hx hb dX1_become_12 (by decide) ?_
  refine lv_aload_n hx hb dX1_become_13 rfl (lv_at hl 0 rfl) ?_
  refine va_get (D := D) (ci := 1) (v := .ref q_t_held) (C := RX1) (T := TX1) (N := 4) hx hb hts nhu_X1 hown hK hP 0 rfl rfl 1 (by decide) (hts _ nhw_202) (fun _ h9 => h9) rfl dX1_become_14 ?_
  refine lv_iconst (v := 0) hx hb dX1_become_17 (by decide) ?_
  refine lv_iconst (v := 4) hx hb dX1_become_18 (by decide) ?_
  obtain ⟨z1, h⟩ := nh_chk_some h
  refine va_copyi hx hb (hml.trans hl.1.symm) hown (hts _ nhw_539) (hts _ nhw_670) (hts _ nhw_802) (hts _ nhw_300) hK hP hD hS 5 1 0 0 rfl rfl rfl rfl rfl (nh_cp_ok z1).1 (nh_cp_ok z1).2.1 (nh_cp_ok z1).2.2.1 (nh_cp_ok z1).2.2.2.1 (nh_cp_ok z1).2.2.2.2 (fun _ _ => rfl) (Nat.le_of_ble_eq_true rfl) (Nat.le_of_ble_eq_true rfl) dX1_become_19 (fun H locs hP hD hS => ?_)
  obtain ⟨t_held_2, et_held_2⟩ : ∃ y : Nat → Int32, y = va_cpy a1_held t_held (Int32.toNatClampNeg (0 : Int32)) (Int32.toNatClampNeg (0 : Int32)) (Int32.toNatClampNeg (4 : Int32)) := ⟨_, rfl⟩
  replace h := nh_to h et_held_2
  have hP : va_P D vwCl (wlX1_become cI cZ cO q_t q_a1 q_t_held q_t_known q_t_worths q_a1_held q_a1_known q_a1_worths a1_count t_held_2 t_known t_worths a1_count a1_held a1_known a1_worths) H := by rw [et_held_2]; exact hP
  have hD : va_D A (wlX1_become cI cZ cO q_t q_a1 q_t_held q_t_known q_t_worths q_a1_held q_a1_known q_a1_worths a1_count t_held_2 t_known t_worths a1_count a1_held a1_known a1_worths) := by rw [et_held_2]; exact hD
  refine lv_aload_n hx hb dX1_become_22 rfl (lv_at hl 1 rfl) ?_
  refine va_get (D := D) (ci := 1) (v := .ref q_a1_known) (C := RX1) (T := TX1) (N := 4) hx hb hts nhu_X1 hown hK hP 4 rfl rfl 2 (by decide) (hts _ nhw_199) (fun _ h9 => h9) rfl dX1_become_23 ?_
  refine lv_iconst (v := 0) hx hb dX1_become_26 (by decide) ?_
  refine lv_aload_n hx hb dX1_become_27 rfl (lv_at hl 0 rfl) ?_
  refine va_get (D := D) (ci := 1) (v := .ref q_t_known) (C := RX1) (T := TX1) (N := 4) hx hb hts nhu_X1 hown hK hP 0 rfl rfl 2 (by decide) (hts _ nhw_199) (fun _ h9 => h9) rfl dX1_become_28 ?_
  refine lv_iconst (v := 0) hx hb dX1_become_31 (by decide) ?_
  refine lv_iconst (v := 4) hx hb dX1_become_32 (by decide) ?_
  obtain ⟨z3, h⟩ := nh_chk_some h
  refine va_copyi hx hb (hml.trans hl.1.symm) hown (hts _ nhw_539) (hts _ nhw_670) (hts _ nhw_802) (hts _ nhw_300) hK hP hD hS 6 2 0 0 rfl rfl rfl rfl rfl (nh_cp_ok z3).1 (nh_cp_ok z3).2.1 (nh_cp_ok z3).2.2.1 (nh_cp_ok z3).2.2.2.1 (nh_cp_ok z3).2.2.2.2 (fun _ _ => rfl) (Nat.le_of_ble_eq_true rfl) (Nat.le_of_ble_eq_true rfl) dX1_become_33 (fun H locs hP hD hS => ?_)
  obtain ⟨t_known_4, et_known_4⟩ : ∃ y : Nat → Int32, y = va_cpy a1_known t_known (Int32.toNatClampNeg (0 : Int32)) (Int32.toNatClampNeg (0 : Int32)) (Int32.toNatClampNeg (4 : Int32)) := ⟨_, rfl⟩
  replace h := nh_to h et_known_4
  have hP : va_P D vwCl (wlX1_become cI cZ cO q_t q_a1 q_t_held q_t_known q_t_worths q_a1_held q_a1_known q_a1_worths a1_count t_held_2 t_known_4 t_worths a1_count a1_held a1_known a1_worths) H := by rw [et_known_4]; exact hP
  have hD : va_D A (wlX1_become cI cZ cO q_t q_a1 q_t_held q_t_known q_t_worths q_a1_held q_a1_known q_a1_worths a1_count t_held_2 t_known_4 t_worths a1_count a1_held a1_known a1_worths) := by rw [et_known_4]; exact hD
  refine lv_aload_n hx hb dX1_become_36 rfl (lv_at hl 1 rfl) ?_
  refine va_get (D := D) (ci := 1) (v := .ref q_a1_worths) (C := RX1) (T := TX1) (N := 4) hx hb hts nhu_X1 hown hK hP 4 rfl rfl 3 (by decide) (hts _ nhw_200) (fun _ h9 => h9) rfl dX1_become_37 ?_
  refine lv_iconst (v := 0) hx hb dX1_become_40 (by decide) ?_
  refine lv_aload_n hx hb dX1_become_41 rfl (lv_at hl 0 rfl) ?_
  refine va_get (D := D) (ci := 1) (v := .ref q_t_worths) (C := RX1) (T := TX1) (N := 4) hx hb hts nhu_X1 hown hK hP 0 rfl rfl 3 (by decide) (hts _ nhw_200) (fun _ h9 => h9) rfl dX1_become_42 ?_
  refine lv_iconst (v := 0) hx hb dX1_become_45 (by decide) ?_
  refine lv_bipush (v := 24) hx hb dX1_become_46 (by decide) ?_
  obtain ⟨z5, h⟩ := nh_chk_some h
  refine va_copyi hx hb (hml.trans hl.1.symm) hown (hts _ nhw_539) (hts _ nhw_670) (hts _ nhw_802) (hts _ nhw_300) hK hP hD hS 7 3 0 0 rfl rfl rfl rfl rfl (nh_cp_ok z5).1 (nh_cp_ok z5).2.1 (nh_cp_ok z5).2.2.1 (nh_cp_ok z5).2.2.2.1 (nh_cp_ok z5).2.2.2.2 (fun _ _ => rfl) (Nat.le_of_ble_eq_true rfl) (Nat.le_of_ble_eq_true rfl) dX1_become_48 (fun H locs hP hD hS => ?_)
  obtain ⟨t_worths_6, et_worths_6⟩ : ∃ y : Nat → Int32, y = va_cpy a1_worths t_worths (Int32.toNatClampNeg (0 : Int32)) (Int32.toNatClampNeg (0 : Int32)) (Int32.toNatClampNeg (24 : Int32)) := ⟨_, rfl⟩
  replace h := nh_to h et_worths_6
  have hP : va_P D vwCl (wlX1_become cI cZ cO q_t q_a1 q_t_held q_t_known q_t_worths q_a1_held q_a1_known q_a1_worths a1_count t_held_2 t_known_4 t_worths_6 a1_count a1_held a1_known a1_worths) H := by rw [et_worths_6]; exact hP
  have hD : va_D A (wlX1_become cI cZ cO q_t q_a1 q_t_held q_t_known q_t_worths q_a1_held q_a1_known q_a1_worths a1_count t_held_2 t_known_4 t_worths_6 a1_count a1_held a1_known a1_worths) := by rw [et_worths_6]; exact hD
  obtain ⟨g0, g1, g2, g3⟩ := nh_i4 h
  exact nh_rv hx hb hr hlocks (by rw [← g0, ← g1, ← g2, ← g3]; exact hP) hS dX1_become_51
abbrev wlX1_addPerson (cI cZ cO : ClassId) (q_t q_t_held q_t_known q_t_worths : Nat) (t_count : Int32) (t_held : Nat → Int32) (t_known : Nat → Int32) : va_W := [(q_t, .inr (1, [.int t_count, .ref q_t_held, .ref q_t_known, .ref q_t_worths])), (q_t_held, .inl (cI, 4, .inl t_held)), (q_t_known, .inl (cI, 4, .inl t_known))]
def fX1_addPerson (t_count : Int32) (t_held : Nat → Int32) (t_known : Nat → Int32) : Option (Int32 × Int32 × (Nat → Int32) × (Nat → Int32)) :=
  (if t_count < 4 then nh_chk (nh_in t_count 4) (nh_let (α := Nat → Int32) (upd t_held (Int32.toNatClampNeg t_count) (-9)) (fun t_held_3 => nh_chk (nh_in t_count 4) (nh_let (α := Nat → Int32) (upd t_known (Int32.toNatClampNeg t_count) 0) (fun t_known_5 => nh_let (α := Int32) ((t_count + 1)) (fun y_6 => some (1, y_6, t_held_3, t_known_5))))))
 else some (0, t_count, t_held, t_known))
set_option maxHeartbeats 4000000 in
set_option maxRecDepth 100000 in
theorem kX1_addPerson (l : Launch) (D : va_G) (cI cZ cO : ClassId) (sz : Nat) (q_t q_t_held q_t_known q_t_worths : Nat) (t_count : Int32) (t_held : Nat → Int32) (t_known : Nat → Int32)  (o_r : Int32) (o_t_count : Int32) (o_t_held : Nat → Int32) (o_t_known : Nat → Int32) (h : fX1_addPerson t_count t_held t_known = some (o_r, o_t_count, o_t_held, o_t_known)) : Met l yX1_addPerson (nh_w (.code yX1_addPerson cX1_addPerson 1 (some .boolean))) (nh_rm 0) (nh_Pc D cI cZ cO (wlX1_addPerson cI cZ cO q_t q_t_held q_t_known q_t_worths t_count t_held t_known) [.ref q_t] sz) ((nh_Qi D (wlX1_addPerson cI cZ cO q_t q_t_held q_t_known q_t_worths o_t_count o_t_held o_t_known) o_r) (va_A (wlX1_addPerson cI cZ cO q_t q_t_held q_t_known q_t_worths t_count t_held t_known) sz)) 0 0 (va_A (wlX1_addPerson cI cZ cO q_t q_t_held q_t_known q_t_worths t_count t_held t_known) sz) := by
  unfold fX1_addPerson at h
  refine nh_met (cc := cX1_addPerson) (maxL := 1) (ret := (some .boolean)) (nh_Qi D (wlX1_addPerson cI cZ cO q_t q_t_held q_t_known q_t_worths o_t_count o_t_held o_t_known) o_r) (by decide) rfl (Nat.le_of_ble_eq_true rfl) ?_
  intro p e s m args below meth c A H locs ls hx hb hml hr hown hts hlocks hinit hP hK hN hD hA hS hl
  have hl : lv_has ls 1 [(0, .ref q_t)] := hl
  have hts : ∀ w ∈ nh_words, w.before args s = true := fun w h => hts w (List.mem_cons_of_mem _ h)
  refine lv_aload_n hx hb dX1_addPerson_0 rfl (lv_at hl 0 rfl) ?_
  refine va_get (D := D) (ci := 1) (v := .int t_count) (C := RX1) (T := TX1) (N := 4) hx hb hts nhu_X1 hown hK hP 0 rfl rfl 0 (by decide) (hts _ nhw_201) (fun _ h9 => h9) rfl dX1_addPerson_1 ?_
  refine lv_iconst (v := 4) hx hb dX1_addPerson_4 (by decide) ?_
  refine lv_icmp_lt (tgt := 10) hx hb dX1_addPerson_5 (by decide) (fun c1 => ?_) (fun c1 => ?_)
  · replace h := nh_t h c1
    refine lv_aload_n hx hb dX1_addPerson_10 rfl (lv_at hl 0 rfl) ?_
    refine va_get (D := D) (ci := 1) (v := .ref q_t_held) (C := RX1) (T := TX1) (N := 4) hx hb hts nhu_X1 hown hK hP 0 rfl rfl 1 (by decide) (hts _ nhw_202) (fun _ h9 => h9) rfl dX1_addPerson_11 ?_
    refine lv_aload_n hx hb dX1_addPerson_14 rfl (lv_at hl 0 rfl) ?_
    refine va_get (D := D) (ci := 1) (v := .int t_count) (C := RX1) (T := TX1) (N := 4) hx hb hts nhu_X1 hown hK hP 0 rfl rfl 0 (by decide) (hts _ nhw_201) (fun _ h9 => h9) rfl dX1_addPerson_15 ?_
    refine lv_bipush (v := (-9)) hx hb dX1_addPerson_18 (by decide) ?_
    obtain ⟨z2, h⟩ := nh_chk_some h
    refine va_iast hx hb hK hP hD hS 1 0 rfl rfl (nh_in_in z2) dX1_addPerson_20 (fun H locs hP hD hS => ?_)
    obtain ⟨t_held_3, et_held_3⟩ : ∃ y : Nat → Int32, y = upd t_held (Int32.toNatClampNeg t_count) (-9) := ⟨_, rfl⟩
    replace h := nh_to h et_held_3
    have hP : va_P D vwCl (wlX1_addPerson cI cZ cO q_t q_t_held q_t_known q_t_worths t_count t_held_3 t_known) H := by rw [et_held_3]; exact hP
    have hD : va_D A (wlX1_addPerson cI cZ cO q_t q_t_held q_t_known q_t_worths t_count t_held_3 t_known) := by rw [et_held_3]; exact hD
    refine lv_aload_n hx hb dX1_addPerson_21 rfl (lv_at hl 0 rfl) ?_
    refine va_get (D := D) (ci := 1) (v := .ref q_t_known) (C := RX1) (T := TX1) (N := 4) hx hb hts nhu_X1 hown hK hP 0 rfl rfl 2 (by decide) (hts _ nhw_199) (fun _ h9 => h9) rfl dX1_addPerson_22 ?_
    refine lv_aload_n hx hb dX1_addPerson_25 rfl (lv_at hl 0 rfl) ?_
    refine va_get (D := D) (ci := 1) (v := .int t_count) (C := RX1) (T := TX1) (N := 4) hx hb hts nhu_X1 hown hK hP 0 rfl rfl 0 (by decide) (hts _ nhw_201) (fun _ h9 => h9) rfl dX1_addPerson_26 ?_
    refine lv_iconst (v := 0) hx hb dX1_addPerson_29 (by decide) ?_
    obtain ⟨z4, h⟩ := nh_chk_some h
    refine va_iast hx hb hK hP hD hS 2 0 rfl rfl (nh_in_in z4) dX1_addPerson_30 (fun H locs hP hD hS => ?_)
    obtain ⟨t_known_5, et_known_5⟩ : ∃ y : Nat → Int32, y = upd t_known (Int32.toNatClampNeg t_count) 0 := ⟨_, rfl⟩
    replace h := nh_to h et_known_5
    have hP : va_P D vwCl (wlX1_addPerson cI cZ cO q_t q_t_held q_t_known q_t_worths t_count t_held_3 t_known_5) H := by rw [et_known_5]; exact hP
    have hD : va_D A (wlX1_addPerson cI cZ cO q_t q_t_held q_t_known q_t_worths t_count t_held_3 t_known_5) := by rw [et_known_5]; exact hD
    refine lv_aload_n hx hb dX1_addPerson_31 rfl (lv_at hl 0 rfl) ?_
    refine lv_dup hx hb dX1_addPerson_32 rfl ?_
    refine va_get (D := D) (ci := 1) (v := .int t_count) (C := RX1) (T := TX1) (N := 4) hx hb hts nhu_X1 hown hK hP 0 rfl rfl 0 (by decide) (hts _ nhw_201) (fun _ h9 => h9) rfl dX1_addPerson_33 ?_
    refine lv_iconst (v := 1) hx hb dX1_addPerson_36 (by decide) ?_
    refine lv_iadd hx hb dX1_addPerson_37 ?_
    refine lv_topi (fun y_6 ey_6 => ?_)
    replace h := nh_to h ey_6
    refine va_put (D := D) (ci := 1) (v := .int y_6) (ty := .int) (C := RX1) (T := TX1) (N := 4) hx hb hts nhu_X1 tyX1 tyX1_ok nmX1 hown hK hP hD hS 0 rfl rfl 0 (by decide) (hts _ nhw_201) (fun _ h9 => h9) rfl (by decide +kernel) rfl rfl (Nat.le_of_ble_eq_true rfl) dX1_addPerson_38 (fun H locs hP hD hS => ?_)
    have hP : va_P D vwCl (wlX1_addPerson cI cZ cO q_t q_t_held q_t_known q_t_worths y_6 t_held_3 t_known_5) H := hP
    have hD : va_D A (wlX1_addPerson cI cZ cO q_t q_t_held q_t_known q_t_worths y_6 t_held_3 t_known_5) := hD
    refine lv_iconst (v := 1) hx hb dX1_addPerson_41 (by decide) ?_
    obtain ⟨g0, g1, g2, g3⟩ := nh_i4 h
    exact nh_rz hx hb hr hlocks g0 rfl (by rw [← g1, ← g2, ← g3]; exact hP) hS dX1_addPerson_42
  · replace h := nh_f h c1
    refine lv_iconst (v := 0) hx hb dX1_addPerson_8 (by decide) ?_
    obtain ⟨g0, g1, g2, g3⟩ := nh_i4 h
    exact nh_rz hx hb hr hlocks g0 rfl (by rw [← g1, ← g2, ← g3]; exact hP) hS dX1_addPerson_9
abbrev wlX1_worthOf (cI cZ cO : ClassId) (q_t q_t_held q_t_known q_t_worths : Nat) (t_count : Int32) (t_worths : Nat → Int32) : va_W := [(q_t, .inr (1, [.int t_count, .ref q_t_held, .ref q_t_known, .ref q_t_worths])), (q_t_worths, .inl (cI, 24, .inl t_worths))]
def fX1_worthOf (t_count : Int32) (t_worths : Nat → Int32) (i1 : Int32) (i2 : Int32) : Option (Int32) :=
  (if (fX1_has t_count i1) = 0 then some 0
 else (if (fX10_isSort i2) = 0 then some 0
 else nh_chk (nh_in ((i1 * 6) + i2) 24) (some (t_worths (Int32.toNatClampNeg ((i1 * 6) + i2))))))
set_option maxHeartbeats 4000000 in
set_option maxRecDepth 100000 in
theorem kX1_worthOf (l : Launch) (D : va_G) (cI cZ cO : ClassId) (sz : Nat) (q_t q_t_held q_t_known q_t_worths : Nat) (t_count : Int32) (t_worths : Nat → Int32) (i1 : Int32) (i2 : Int32) (o_r : Int32) (h : fX1_worthOf t_count t_worths i1 i2 = some o_r) : Met l yX1_worthOf (nh_w (.code yX1_worthOf cX1_worthOf 3 (some .int))) (nh_rm 1) (nh_Pc D cI cZ cO (wlX1_worthOf cI cZ cO q_t q_t_held q_t_known q_t_worths t_count t_worths) [.ref q_t, .int i1, .int i2] sz) ((nh_Qi D (wlX1_worthOf cI cZ cO q_t q_t_held q_t_known q_t_worths t_count t_worths) o_r) (va_A (wlX1_worthOf cI cZ cO q_t q_t_held q_t_known q_t_worths t_count t_worths) sz)) 0 0 (va_A (wlX1_worthOf cI cZ cO q_t q_t_held q_t_known q_t_worths t_count t_worths) sz) := by
  unfold fX1_worthOf at h
  refine nh_met (cc := cX1_worthOf) (maxL := 3) (ret := (some .int)) (nh_Qi D (wlX1_worthOf cI cZ cO q_t q_t_held q_t_known q_t_worths t_count t_worths) o_r) (by decide) rfl (Nat.le_of_ble_eq_true rfl) ?_
  intro p e s m args below meth c A H locs ls hx hb hml hr hown hts hlocks hinit hP hK hN hD hA hS hl
  have hl : lv_has ls 3 [(0, .ref q_t), (1, .int i1), (2, .int i2)] := hl
  have hts : ∀ w ∈ nh_words, w.before args s = true := fun w h => hts w (List.mem_cons_of_mem _ h)
  refine lv_aload_n hx hb dX1_worthOf_0 rfl (lv_at hl 0 rfl) ?_
  refine lv_iload_n hx hb dX1_worthOf_1 rfl (lv_at hl 1 rfl) ?_
  refine nh_goi (nh_V (As := [.int i1]) (rest := []) ⟨hx, hb, hml, hown, hts⟩ (kX1_has  l D cI cZ cO H.size q_t q_t_held q_t_known q_t_worths t_count i1 (fX1_has t_count i1) rfl) (cwV 1 hts (nh_gV nhw_541 nhw_419 nhw_681 nhw_303 nhw_128) rfl rfl rfl (by decide +kernel) ⟨Nat.le_of_ble_eq_true rfl, Nat.le_of_ble_eq_true rfl⟩) hK hN hP hD (isC := [0]) rfl rfl 0 1 rfl rfl rfl rfl hl.1 rfl (Nat.le_of_ble_eq_true rfl) dX1_worthOf_2 ⟨Nat.zero_le _, Nat.zero_le _⟩) hP hD hS hA (isC := [0]) rfl rfl rfl (w' := (wlX1_worthOf cI cZ cO q_t q_t_held q_t_known q_t_worths t_count t_worths)) rfl (fun H locs hP hD hS => ?_)
  refine lv_if_eq (tgt := 29) hx hb dX1_worthOf_5 (by decide) (fun c1 => ?_) (fun c1 => ?_)
  · replace h := nh_t h c1
    refine lv_iconst (v := 0) hx hb dX1_worthOf_29 (by decide) ?_
    replace h := nh_i1 h
    exact nh_ri hx hb hr hlocks h hP hS dX1_worthOf_30
  · replace h := nh_f h c1
    refine lv_iload_n hx hb dX1_worthOf_8 rfl (lv_at hl 2 rfl) ?_
    refine nh_goi (nh_SN (As := [.int i2]) (rest := []) ⟨hx, hb, hml, hown, hts⟩ (kX10_isSort  l D cI cZ cO H.size i2 (fX10_isSort i2) rfl) ⟨va_cnB 1 hts (nh_gC nhw_37) rfl rfl rfl (nh_N_at hN 10 rfl) (hts _ nhw_304) (by decide +kernel) ⟨Nat.le_of_ble_eq_true rfl, Nat.le_of_ble_eq_true rfl⟩, (hts _ nhw_806), trivial⟩ hK hN hP hD (isC := []) rfl rfl rfl hl.1 rfl (Nat.le_of_ble_eq_true rfl) dX1_worthOf_9 ⟨Nat.zero_le _, Nat.zero_le _⟩) hP hD hS hA (isC := []) rfl rfl rfl (w' := (wlX1_worthOf cI cZ cO q_t q_t_held q_t_known q_t_worths t_count t_worths)) rfl (fun H locs hP hD hS => ?_)
    refine lv_if_eq (tgt := 29) hx hb dX1_worthOf_12 (by decide) (fun c2 => ?_) (fun c2 => ?_)
    · replace h := nh_t h c2
      refine lv_iconst (v := 0) hx hb dX1_worthOf_29 (by decide) ?_
      replace h := nh_i1 h
      exact nh_ri hx hb hr hlocks h hP hS dX1_worthOf_30
    · replace h := nh_f h c2
      refine lv_aload_n hx hb dX1_worthOf_15 rfl (lv_at hl 0 rfl) ?_
      refine va_get (D := D) (ci := 1) (v := .ref q_t_worths) (C := RX1) (T := TX1) (N := 4) hx hb hts nhu_X1 hown hK hP 0 rfl rfl 3 (by decide) (hts _ nhw_200) (fun _ h9 => h9) rfl dX1_worthOf_16 ?_
      refine lv_iload_n hx hb dX1_worthOf_19 rfl (lv_at hl 1 rfl) ?_
      refine lv_bipush (v := 6) hx hb dX1_worthOf_20 (by decide) ?_
      refine lv_imul hx hb dX1_worthOf_22 ?_
      refine lv_iload_n hx hb dX1_worthOf_23 rfl (lv_at hl 2 rfl) ?_
      refine lv_iadd hx hb dX1_worthOf_24 ?_
      obtain ⟨z3, h⟩ := nh_chk_some h
      refine va_iald hx hb hK hP 1 0 rfl rfl (nh_in_in z3) dX1_worthOf_25 ?_
      refine lv_goto (tgt := 30) hx hb dX1_worthOf_26 (by decide) ?_
      replace h := nh_i1 h
      exact nh_ri hx hb hr hlocks h hP hS dX1_worthOf_30
abbrev wlX1_setWorth (cI cZ cO : ClassId) (q_t q_t_held q_t_known q_t_worths : Nat) (t_count : Int32) (t_worths : Nat → Int32) : va_W := [(q_t, .inr (1, [.int t_count, .ref q_t_held, .ref q_t_known, .ref q_t_worths])), (q_t_worths, .inl (cI, 24, .inl t_worths))]
def fX1_setWorth (t_count : Int32) (t_worths : Nat → Int32) (i1 : Int32) (i2 : Int32) (i3 : Int32) : Option ((Nat → Int32)) :=
  (if (fX1_has t_count i1) = 0 then some t_worths
 else (if (fX10_isSort i2) = 0 then some t_worths
 else nh_chk (nh_in ((i1 * 6) + i2) 24) (nh_let (α := Nat → Int32) (upd t_worths (Int32.toNatClampNeg ((i1 * 6) + i2)) i3) (fun t_worths_4 => some t_worths_4))))
set_option maxHeartbeats 4000000 in
set_option maxRecDepth 100000 in
theorem kX1_setWorth (l : Launch) (D : va_G) (cI cZ cO : ClassId) (sz : Nat) (q_t q_t_held q_t_known q_t_worths : Nat) (t_count : Int32) (t_worths : Nat → Int32) (i1 : Int32) (i2 : Int32) (i3 : Int32) (o_t_worths : Nat → Int32) (h : fX1_setWorth t_count t_worths i1 i2 i3 = some o_t_worths) : Met l yX1_setWorth (nh_w (.code yX1_setWorth cX1_setWorth 4 none)) (nh_rm 1) (nh_Pc D cI cZ cO (wlX1_setWorth cI cZ cO q_t q_t_held q_t_known q_t_worths t_count t_worths) [.ref q_t, .int i1, .int i2, .int i3] sz) ((nh_Qv D (wlX1_setWorth cI cZ cO q_t q_t_held q_t_known q_t_worths t_count o_t_worths)) (va_A (wlX1_setWorth cI cZ cO q_t q_t_held q_t_known q_t_worths t_count t_worths) sz)) 0 0 (va_A (wlX1_setWorth cI cZ cO q_t q_t_held q_t_known q_t_worths t_count t_worths) sz) := by
  unfold fX1_setWorth at h
  refine nh_met (cc := cX1_setWorth) (maxL := 4) (ret := none) (nh_Qv D (wlX1_setWorth cI cZ cO q_t q_t_held q_t_known q_t_worths t_count o_t_worths)) (by decide) rfl (Nat.le_of_ble_eq_true rfl) ?_
  intro p e s m args below meth c A H locs ls hx hb hml hr hown hts hlocks hinit hP hK hN hD hA hS hl
  have hl : lv_has ls 4 [(0, .ref q_t), (1, .int i1), (2, .int i2), (3, .int i3)] := hl
  have hts : ∀ w ∈ nh_words, w.before args s = true := fun w h => hts w (List.mem_cons_of_mem _ h)
  refine lv_aload_n hx hb dX1_setWorth_0 rfl (lv_at hl 0 rfl) ?_
  refine lv_iload_n hx hb dX1_setWorth_1 rfl (lv_at hl 1 rfl) ?_
  refine nh_goi (nh_V (As := [.int i1]) (rest := []) ⟨hx, hb, hml, hown, hts⟩ (kX1_has  l D cI cZ cO H.size q_t q_t_held q_t_known q_t_worths t_count i1 (fX1_has t_count i1) rfl) (cwV 1 hts (nh_gV nhw_541 nhw_419 nhw_681 nhw_303 nhw_128) rfl rfl rfl (by decide +kernel) ⟨Nat.le_of_ble_eq_true rfl, Nat.le_of_ble_eq_true rfl⟩) hK hN hP hD (isC := [0]) rfl rfl 0 1 rfl rfl rfl rfl hl.1 rfl (Nat.le_of_ble_eq_true rfl) dX1_setWorth_2 ⟨Nat.zero_le _, Nat.zero_le _⟩) hP hD hS hA (isC := [0]) rfl rfl rfl (w' := (wlX1_setWorth cI cZ cO q_t q_t_held q_t_known q_t_worths t_count t_worths)) rfl (fun H locs hP hD hS => ?_)
  refine lv_if_eq (tgt := 27) hx hb dX1_setWorth_5 (by decide) (fun c1 => ?_) (fun c1 => ?_)
  · replace h := nh_t h c1
    replace h := nh_i1 h
    exact nh_rv hx hb hr hlocks (by rw [← h]; exact hP) hS dX1_setWorth_27
  · replace h := nh_f h c1
    refine lv_iload_n hx hb dX1_setWorth_8 rfl (lv_at hl 2 rfl) ?_
    refine nh_goi (nh_SN (As := [.int i2]) (rest := []) ⟨hx, hb, hml, hown, hts⟩ (kX10_isSort  l D cI cZ cO H.size i2 (fX10_isSort i2) rfl) ⟨va_cnB 1 hts (nh_gC nhw_37) rfl rfl rfl (nh_N_at hN 10 rfl) (hts _ nhw_304) (by decide +kernel) ⟨Nat.le_of_ble_eq_true rfl, Nat.le_of_ble_eq_true rfl⟩, (hts _ nhw_806), trivial⟩ hK hN hP hD (isC := []) rfl rfl rfl hl.1 rfl (Nat.le_of_ble_eq_true rfl) dX1_setWorth_9 ⟨Nat.zero_le _, Nat.zero_le _⟩) hP hD hS hA (isC := []) rfl rfl rfl (w' := (wlX1_setWorth cI cZ cO q_t q_t_held q_t_known q_t_worths t_count t_worths)) rfl (fun H locs hP hD hS => ?_)
    refine lv_if_eq (tgt := 27) hx hb dX1_setWorth_12 (by decide) (fun c2 => ?_) (fun c2 => ?_)
    · replace h := nh_t h c2
      replace h := nh_i1 h
      exact nh_rv hx hb hr hlocks (by rw [← h]; exact hP) hS dX1_setWorth_27
    · replace h := nh_f h c2
      refine lv_aload_n hx hb dX1_setWorth_15 rfl (lv_at hl 0 rfl) ?_
      refine va_get (D := D) (ci := 1) (v := .ref q_t_worths) (C := RX1) (T := TX1) (N := 4) hx hb hts nhu_X1 hown hK hP 0 rfl rfl 3 (by decide) (hts _ nhw_200) (fun _ h9 => h9) rfl dX1_setWorth_16 ?_
      refine lv_iload_n hx hb dX1_setWorth_19 rfl (lv_at hl 1 rfl) ?_
      refine lv_bipush (v := 6) hx hb dX1_setWorth_20 (by decide) ?_
      refine lv_imul hx hb dX1_setWorth_22 ?_
      refine lv_iload_n hx hb dX1_setWorth_23 rfl (lv_at hl 2 rfl) ?_
      refine lv_iadd hx hb dX1_setWorth_24 ?_
      refine lv_iload_n hx hb dX1_setWorth_25 rfl (lv_at hl 3 rfl) ?_
      obtain ⟨z3, h⟩ := nh_chk_some h
      refine va_iast hx hb hK hP hD hS 1 0 rfl rfl (nh_in_in z3) dX1_setWorth_26 (fun H locs hP hD hS => ?_)
      obtain ⟨t_worths_4, et_worths_4⟩ : ∃ y : Nat → Int32, y = upd t_worths (Int32.toNatClampNeg ((i1 * 6) + i2)) i3 := ⟨_, rfl⟩
      replace h := nh_to h et_worths_4
      have hP : va_P D vwCl (wlX1_setWorth cI cZ cO q_t q_t_held q_t_known q_t_worths t_count t_worths_4) H := by rw [et_worths_4]; exact hP
      have hD : va_D A (wlX1_setWorth cI cZ cO q_t q_t_held q_t_known q_t_worths t_count t_worths_4) := by rw [et_worths_4]; exact hD
      replace h := nh_i1 h
      exact nh_rv hx hb hr hlocks (by rw [← h]; exact hP) hS dX1_setWorth_27
abbrev wlX1_lacks (cI cZ cO : ClassId)   : va_W := []
def fX1_lacks (i0 : Int32) (i1 : Int32) : Int32 :=
  (if i1 = (-9) then 0
 else (if ((i0 >>> (i1 &&& 31)) &&& 1) = 0 then 1
 else 0))
set_option maxHeartbeats 4000000 in
set_option maxRecDepth 100000 in
theorem kX1_lacks (l : Launch) (D : va_G) (cI cZ cO : ClassId) (sz : Nat)   (i0 : Int32) (i1 : Int32) (o_r : Int32) (h : fX1_lacks i0 i1 = o_r) : Met l yX1_lacks (nh_w (.code yX1_lacks cX1_lacks 2 (some .boolean))) (nh_rm 0) (nh_Pc D cI cZ cO (wlX1_lacks cI cZ cO ) [.int i0, .int i1] sz) ((nh_Qi D (wlX1_lacks cI cZ cO ) o_r) (va_A (wlX1_lacks cI cZ cO ) sz)) 0 0 (va_A (wlX1_lacks cI cZ cO ) sz) := by
  unfold fX1_lacks at h
  refine nh_met (cc := cX1_lacks) (maxL := 2) (ret := (some .boolean)) (nh_Qi D (wlX1_lacks cI cZ cO ) o_r) (by decide) rfl (Nat.le_of_ble_eq_true rfl) ?_
  intro p e s m args below meth c A H locs ls hx hb hml hr hown hts hlocks hinit hP hK hN hD hA hS hl
  have hl : lv_has ls 2 [(0, .int i0), (1, .int i1)] := hl
  have hts : ∀ w ∈ nh_words, w.before args s = true := fun w h => hts w (List.mem_cons_of_mem _ h)
  refine lv_iload_n hx hb dX1_lacks_0 rfl (lv_at hl 1 rfl) ?_
  refine lv_bipush (v := (-9)) hx hb dX1_lacks_1 (by decide) ?_
  refine lv_icmp_eq (tgt := 18) hx hb dX1_lacks_3 (by decide) (fun c1 => ?_) (fun c1 => ?_)
  · replace h := nh_t h c1
    refine lv_iconst (v := 0) hx hb dX1_lacks_18 (by decide) ?_
    exact nh_rz hx hb hr hlocks h rfl hP hS dX1_lacks_19
  · replace h := nh_f h c1
    refine lv_iload_n hx hb dX1_lacks_6 rfl (lv_at hl 0 rfl) ?_
    refine lv_iload_n hx hb dX1_lacks_7 rfl (lv_at hl 1 rfl) ?_
    refine lv_ishr hx hb dX1_lacks_8 ?_
    refine lv_iconst (v := 1) hx hb dX1_lacks_9 (by decide) ?_
    refine lv_iand hx hb dX1_lacks_10 ?_
    refine lv_if_ne (tgt := 18) hx hb dX1_lacks_11 (by decide) (fun c2 => ?_) (fun c2 => ?_)
    · replace h := nh_f h c2
      refine lv_iconst (v := 0) hx hb dX1_lacks_18 (by decide) ?_
      exact nh_rz hx hb hr hlocks h rfl hP hS dX1_lacks_19
    · replace h := nh_t h c2
      refine lv_iconst (v := 1) hx hb dX1_lacks_14 (by decide) ?_
      refine lv_goto (tgt := 19) hx hb dX1_lacks_15 (by decide) ?_
      exact nh_rz hx hb hr hlocks h rfl hP hS dX1_lacks_19
abbrev wlX1_isNew (cI cZ cO : ClassId) (q_t q_t_held q_t_known q_t_worths : Nat) (t_count : Int32) (t_known : Nat → Int32) : va_W := [(q_t, .inr (1, [.int t_count, .ref q_t_held, .ref q_t_known, .ref q_t_worths])), (q_t_known, .inl (cI, 4, .inl t_known))]
def fX1_isNew (t_count : Int32) (t_known : Nat → Int32) (i1 : Int32) (i2 : Int32) : Option (Int32) :=
  (if (fX1_has t_count i1) = 0 then some 0
 else (if (fX10_isSort i2) = 0 then some 0
 else nh_chk (nh_in i1 4) ((if (fX1_lacks (t_known (Int32.toNatClampNeg i1)) i2) = 0 then some 0
 else some 1))))
set_option maxHeartbeats 4000000 in
set_option maxRecDepth 100000 in
theorem kX1_isNew (l : Launch) (D : va_G) (cI cZ cO : ClassId) (sz : Nat) (q_t q_t_held q_t_known q_t_worths : Nat) (t_count : Int32) (t_known : Nat → Int32) (i1 : Int32) (i2 : Int32) (o_r : Int32) (h : fX1_isNew t_count t_known i1 i2 = some o_r) : Met l yX1_isNew (nh_w (.code yX1_isNew cX1_isNew 3 (some .boolean))) (nh_rm 1) (nh_Pc D cI cZ cO (wlX1_isNew cI cZ cO q_t q_t_held q_t_known q_t_worths t_count t_known) [.ref q_t, .int i1, .int i2] sz) ((nh_Qi D (wlX1_isNew cI cZ cO q_t q_t_held q_t_known q_t_worths t_count t_known) o_r) (va_A (wlX1_isNew cI cZ cO q_t q_t_held q_t_known q_t_worths t_count t_known) sz)) 0 0 (va_A (wlX1_isNew cI cZ cO q_t q_t_held q_t_known q_t_worths t_count t_known) sz) := by
  unfold fX1_isNew at h
  refine nh_met (cc := cX1_isNew) (maxL := 3) (ret := (some .boolean)) (nh_Qi D (wlX1_isNew cI cZ cO q_t q_t_held q_t_known q_t_worths t_count t_known) o_r) (by decide) rfl (Nat.le_of_ble_eq_true rfl) ?_
  intro p e s m args below meth c A H locs ls hx hb hml hr hown hts hlocks hinit hP hK hN hD hA hS hl
  have hl : lv_has ls 3 [(0, .ref q_t), (1, .int i1), (2, .int i2)] := hl
  have hts : ∀ w ∈ nh_words, w.before args s = true := fun w h => hts w (List.mem_cons_of_mem _ h)
  refine lv_aload_n hx hb dX1_isNew_0 rfl (lv_at hl 0 rfl) ?_
  refine lv_iload_n hx hb dX1_isNew_1 rfl (lv_at hl 1 rfl) ?_
  refine nh_goi (nh_V (As := [.int i1]) (rest := []) ⟨hx, hb, hml, hown, hts⟩ (kX1_has  l D cI cZ cO H.size q_t q_t_held q_t_known q_t_worths t_count i1 (fX1_has t_count i1) rfl) (cwV 1 hts (nh_gV nhw_541 nhw_419 nhw_681 nhw_303 nhw_128) rfl rfl rfl (by decide +kernel) ⟨Nat.le_of_ble_eq_true rfl, Nat.le_of_ble_eq_true rfl⟩) hK hN hP hD (isC := [0]) rfl rfl 0 1 rfl rfl rfl rfl hl.1 rfl (Nat.le_of_ble_eq_true rfl) dX1_isNew_2 ⟨Nat.zero_le _, Nat.zero_le _⟩) hP hD hS hA (isC := [0]) rfl rfl rfl (w' := (wlX1_isNew cI cZ cO q_t q_t_held q_t_known q_t_worths t_count t_known)) rfl (fun H locs hP hD hS => ?_)
  refine lv_if_eq (tgt := 32) hx hb dX1_isNew_5 (by decide) (fun c1 => ?_) (fun c1 => ?_)
  · replace h := nh_t h c1
    refine lv_iconst (v := 0) hx hb dX1_isNew_32 (by decide) ?_
    replace h := nh_i1 h
    exact nh_rz hx hb hr hlocks h rfl hP hS dX1_isNew_33
  · replace h := nh_f h c1
    refine lv_iload_n hx hb dX1_isNew_8 rfl (lv_at hl 2 rfl) ?_
    refine nh_goi (nh_SN (As := [.int i2]) (rest := []) ⟨hx, hb, hml, hown, hts⟩ (kX10_isSort  l D cI cZ cO H.size i2 (fX10_isSort i2) rfl) ⟨va_cnB 1 hts (nh_gC nhw_37) rfl rfl rfl (nh_N_at hN 10 rfl) (hts _ nhw_304) (by decide +kernel) ⟨Nat.le_of_ble_eq_true rfl, Nat.le_of_ble_eq_true rfl⟩, (hts _ nhw_806), trivial⟩ hK hN hP hD (isC := []) rfl rfl rfl hl.1 rfl (Nat.le_of_ble_eq_true rfl) dX1_isNew_9 ⟨Nat.zero_le _, Nat.zero_le _⟩) hP hD hS hA (isC := []) rfl rfl rfl (w' := (wlX1_isNew cI cZ cO q_t q_t_held q_t_known q_t_worths t_count t_known)) rfl (fun H locs hP hD hS => ?_)
    refine lv_if_eq (tgt := 32) hx hb dX1_isNew_12 (by decide) (fun c2 => ?_) (fun c2 => ?_)
    · replace h := nh_t h c2
      refine lv_iconst (v := 0) hx hb dX1_isNew_32 (by decide) ?_
      replace h := nh_i1 h
      exact nh_rz hx hb hr hlocks h rfl hP hS dX1_isNew_33
    · replace h := nh_f h c2
      refine lv_aload_n hx hb dX1_isNew_15 rfl (lv_at hl 0 rfl) ?_
      refine va_get (D := D) (ci := 1) (v := .ref q_t_known) (C := RX1) (T := TX1) (N := 4) hx hb hts nhu_X1 hown hK hP 0 rfl rfl 2 (by decide) (hts _ nhw_199) (fun _ h9 => h9) rfl dX1_isNew_16 ?_
      refine lv_iload_n hx hb dX1_isNew_19 rfl (lv_at hl 1 rfl) ?_
      obtain ⟨z3, h⟩ := nh_chk_some h
      refine va_iald hx hb hK hP 1 0 rfl rfl (nh_in_in z3) dX1_isNew_20 ?_
      refine lv_iload_n hx hb dX1_isNew_21 rfl (lv_at hl 2 rfl) ?_
      refine nh_goi (nh_S (As := [.int (t_known (Int32.toNatClampNeg i1)), .int i2]) (rest := []) ⟨hx, hb, hml, hown, hts⟩ (kX1_lacks  l D cI cZ cO H.size (t_known (Int32.toNatClampNeg i1)) i2 (fX1_lacks (t_known (Int32.toNatClampNeg i1)) i2) rfl) (va_cwS 2 hts (nh_gS nhw_542 nhw_811 nhw_303 nhw_133) rfl rfl rfl (by decide +kernel) ⟨Nat.le_of_ble_eq_true rfl, Nat.le_of_ble_eq_true rfl⟩) hK hN hP hD (isC := []) rfl rfl rfl hl.1 rfl (Nat.le_of_ble_eq_true rfl) dX1_isNew_22 ⟨Nat.zero_le _, Nat.zero_le _⟩) hP hD hS hA (isC := []) rfl rfl rfl (w' := (wlX1_isNew cI cZ cO q_t q_t_held q_t_known q_t_worths t_count t_known)) rfl (fun H locs hP hD hS => ?_)
      refine lv_if_eq (tgt := 32) hx hb dX1_isNew_25 (by decide) (fun c4 => ?_) (fun c4 => ?_)
      · replace h := nh_t h c4
        refine lv_iconst (v := 0) hx hb dX1_isNew_32 (by decide) ?_
        replace h := nh_i1 h
        exact nh_rz hx hb hr hlocks h rfl hP hS dX1_isNew_33
      · replace h := nh_f h c4
        refine lv_iconst (v := 1) hx hb dX1_isNew_28 (by decide) ?_
        refine lv_goto (tgt := 33) hx hb dX1_isNew_29 (by decide) ?_
        replace h := nh_i1 h
        exact nh_rz hx hb hr hlocks h rfl hP hS dX1_isNew_33
abbrev wlX1_canSwap (cI cZ cO : ClassId) (q_t q_t_held q_t_known q_t_worths : Nat) (t_count : Int32) (t_held : Nat → Int32) (t_known : Nat → Int32) : va_W := [(q_t, .inr (1, [.int t_count, .ref q_t_held, .ref q_t_known, .ref q_t_worths])), (q_t_held, .inl (cI, 4, .inl t_held)), (q_t_known, .inl (cI, 4, .inl t_known))]
def fX1_canSwap (t_count : Int32) (t_held : Nat → Int32) (t_known : Nat → Int32) (i1 : Int32) (i2 : Int32) : Option (Int32) :=
  (if (fX1_has t_count i1) = 0 then some 0
 else (if (fX1_has t_count i2) = 0 then some 0
 else nh_chk (nh_in i1 4) (nh_chk (nh_in i2 4) ((if (fX1_lacks (t_known (Int32.toNatClampNeg i1)) (t_held (Int32.toNatClampNeg i2))) = 0 then some 0
 else nh_chk (nh_in i2 4) (nh_chk (nh_in i1 4) ((if (fX1_lacks (t_known (Int32.toNatClampNeg i2)) (t_held (Int32.toNatClampNeg i1))) = 0 then some 0
 else some 1))))))))
set_option maxHeartbeats 4000000 in
set_option maxRecDepth 100000 in
theorem kX1_canSwap (l : Launch) (D : va_G) (cI cZ cO : ClassId) (sz : Nat) (q_t q_t_held q_t_known q_t_worths : Nat) (t_count : Int32) (t_held : Nat → Int32) (t_known : Nat → Int32) (i1 : Int32) (i2 : Int32) (o_r : Int32) (h : fX1_canSwap t_count t_held t_known i1 i2 = some o_r) : Met l yX1_canSwap (nh_w (.code yX1_canSwap cX1_canSwap 3 (some .boolean))) (nh_rm 1) (nh_Pc D cI cZ cO (wlX1_canSwap cI cZ cO q_t q_t_held q_t_known q_t_worths t_count t_held t_known) [.ref q_t, .int i1, .int i2] sz) ((nh_Qi D (wlX1_canSwap cI cZ cO q_t q_t_held q_t_known q_t_worths t_count t_held t_known) o_r) (va_A (wlX1_canSwap cI cZ cO q_t q_t_held q_t_known q_t_worths t_count t_held t_known) sz)) 0 0 (va_A (wlX1_canSwap cI cZ cO q_t q_t_held q_t_known q_t_worths t_count t_held t_known) sz) := by
  unfold fX1_canSwap at h
  refine nh_met (cc := cX1_canSwap) (maxL := 3) (ret := (some .boolean)) (nh_Qi D (wlX1_canSwap cI cZ cO q_t q_t_held q_t_known q_t_worths t_count t_held t_known) o_r) (by decide) rfl (Nat.le_of_ble_eq_true rfl) ?_
  intro p e s m args below meth c A H locs ls hx hb hml hr hown hts hlocks hinit hP hK hN hD hA hS hl
  have hl : lv_has ls 3 [(0, .ref q_t), (1, .int i1), (2, .int i2)] := hl
  have hts : ∀ w ∈ nh_words, w.before args s = true := fun w h => hts w (List.mem_cons_of_mem _ h)
  refine lv_aload_n hx hb dX1_canSwap_0 rfl (lv_at hl 0 rfl) ?_
  refine lv_iload_n hx hb dX1_canSwap_1 rfl (lv_at hl 1 rfl) ?_
  refine nh_goi (nh_V (As := [.int i1]) (rest := []) ⟨hx, hb, hml, hown, hts⟩ (kX1_has  l D cI cZ cO H.size q_t q_t_held q_t_known q_t_worths t_count i1 (fX1_has t_count i1) rfl) (cwV 1 hts (nh_gV nhw_541 nhw_419 nhw_681 nhw_303 nhw_128) rfl rfl rfl (by decide +kernel) ⟨Nat.le_of_ble_eq_true rfl, Nat.le_of_ble_eq_true rfl⟩) hK hN hP hD (isC := [0]) rfl rfl 0 1 rfl rfl rfl rfl hl.1 rfl (Nat.le_of_ble_eq_true rfl) dX1_canSwap_2 ⟨Nat.zero_le _, Nat.zero_le _⟩) hP hD hS hA (isC := [0]) rfl rfl rfl (w' := (wlX1_canSwap cI cZ cO q_t q_t_held q_t_known q_t_worths t_count t_held t_known)) rfl (fun H locs hP hD hS => ?_)
  refine lv_if_eq (tgt := 56) hx hb dX1_canSwap_5 (by decide) (fun c1 => ?_) (fun c1 => ?_)
  · replace h := nh_t h c1
    refine lv_iconst (v := 0) hx hb dX1_canSwap_56 (by decide) ?_
    replace h := nh_i1 h
    exact nh_rz hx hb hr hlocks h rfl hP hS dX1_canSwap_57
  · replace h := nh_f h c1
    refine lv_aload_n hx hb dX1_canSwap_8 rfl (lv_at hl 0 rfl) ?_
    refine lv_iload_n hx hb dX1_canSwap_9 rfl (lv_at hl 2 rfl) ?_
    refine nh_goi (nh_V (As := [.int i2]) (rest := []) ⟨hx, hb, hml, hown, hts⟩ (kX1_has  l D cI cZ cO H.size q_t q_t_held q_t_known q_t_worths t_count i2 (fX1_has t_count i2) rfl) (cwV 1 hts (nh_gV nhw_541 nhw_419 nhw_681 nhw_303 nhw_128) rfl rfl rfl (by decide +kernel) ⟨Nat.le_of_ble_eq_true rfl, Nat.le_of_ble_eq_true rfl⟩) hK hN hP hD (isC := [0]) rfl rfl 0 1 rfl rfl rfl rfl hl.1 rfl (Nat.le_of_ble_eq_true rfl) dX1_canSwap_10 ⟨Nat.zero_le _, Nat.zero_le _⟩) hP hD hS hA (isC := [0]) rfl rfl rfl (w' := (wlX1_canSwap cI cZ cO q_t q_t_held q_t_known q_t_worths t_count t_held t_known)) rfl (fun H locs hP hD hS => ?_)
    refine lv_if_eq (tgt := 56) hx hb dX1_canSwap_13 (by decide) (fun c2 => ?_) (fun c2 => ?_)
    · replace h := nh_t h c2
      refine lv_iconst (v := 0) hx hb dX1_canSwap_56 (by decide) ?_
      replace h := nh_i1 h
      exact nh_rz hx hb hr hlocks h rfl hP hS dX1_canSwap_57
    · replace h := nh_f h c2
      refine lv_aload_n hx hb dX1_canSwap_16 rfl (lv_at hl 0 rfl) ?_
      refine va_get (D := D) (ci := 1) (v := .ref q_t_known) (C := RX1) (T := TX1) (N := 4) hx hb hts nhu_X1 hown hK hP 0 rfl rfl 2 (by decide) (hts _ nhw_199) (fun _ h9 => h9) rfl dX1_canSwap_17 ?_
      refine lv_iload_n hx hb dX1_canSwap_20 rfl (lv_at hl 1 rfl) ?_
      obtain ⟨z3, h⟩ := nh_chk_some h
      refine va_iald hx hb hK hP 2 0 rfl rfl (nh_in_in z3) dX1_canSwap_21 ?_
      refine lv_aload_n hx hb dX1_canSwap_22 rfl (lv_at hl 0 rfl) ?_
      refine va_get (D := D) (ci := 1) (v := .ref q_t_held) (C := RX1) (T := TX1) (N := 4) hx hb hts nhu_X1 hown hK hP 0 rfl rfl 1 (by decide) (hts _ nhw_202) (fun _ h9 => h9) rfl dX1_canSwap_23 ?_
      refine lv_iload_n hx hb dX1_canSwap_26 rfl (lv_at hl 2 rfl) ?_
      obtain ⟨z4, h⟩ := nh_chk_some h
      refine va_iald hx hb hK hP 1 0 rfl rfl (nh_in_in z4) dX1_canSwap_27 ?_
      refine nh_goi (nh_S (As := [.int (t_known (Int32.toNatClampNeg i1)), .int (t_held (Int32.toNatClampNeg i2))]) (rest := []) ⟨hx, hb, hml, hown, hts⟩ (kX1_lacks  l D cI cZ cO H.size (t_known (Int32.toNatClampNeg i1)) (t_held (Int32.toNatClampNeg i2)) (fX1_lacks (t_known (Int32.toNatClampNeg i1)) (t_held (Int32.toNatClampNeg i2))) rfl) (va_cwS 2 hts (nh_gS nhw_542 nhw_811 nhw_303 nhw_133) rfl rfl rfl (by decide +kernel) ⟨Nat.le_of_ble_eq_true rfl, Nat.le_of_ble_eq_true rfl⟩) hK hN hP hD (isC := []) rfl rfl rfl hl.1 rfl (Nat.le_of_ble_eq_true rfl) dX1_canSwap_28 ⟨Nat.zero_le _, Nat.zero_le _⟩) hP hD hS hA (isC := []) rfl rfl rfl (w' := (wlX1_canSwap cI cZ cO q_t q_t_held q_t_known q_t_worths t_count t_held t_known)) rfl (fun H locs hP hD hS => ?_)
      refine lv_if_eq (tgt := 56) hx hb dX1_canSwap_31 (by decide) (fun c5 => ?_) (fun c5 => ?_)
      · replace h := nh_t h c5
        refine lv_iconst (v := 0) hx hb dX1_canSwap_56 (by decide) ?_
        replace h := nh_i1 h
        exact nh_rz hx hb hr hlocks h rfl hP hS dX1_canSwap_57
      · replace h := nh_f h c5
        refine lv_aload_n hx hb dX1_canSwap_34 rfl (lv_at hl 0 rfl) ?_
        refine va_get (D := D) (ci := 1) (v := .ref q_t_known) (C := RX1) (T := TX1) (N := 4) hx hb hts nhu_X1 hown hK hP 0 rfl rfl 2 (by decide) (hts _ nhw_199) (fun _ h9 => h9) rfl dX1_canSwap_35 ?_
        refine lv_iload_n hx hb dX1_canSwap_38 rfl (lv_at hl 2 rfl) ?_
        obtain ⟨z6, h⟩ := nh_chk_some h
        refine va_iald hx hb hK hP 2 0 rfl rfl (nh_in_in z6) dX1_canSwap_39 ?_
        refine lv_aload_n hx hb dX1_canSwap_40 rfl (lv_at hl 0 rfl) ?_
        refine va_get (D := D) (ci := 1) (v := .ref q_t_held) (C := RX1) (T := TX1) (N := 4) hx hb hts nhu_X1 hown hK hP 0 rfl rfl 1 (by decide) (hts _ nhw_202) (fun _ h9 => h9) rfl dX1_canSwap_41 ?_
        refine lv_iload_n hx hb dX1_canSwap_44 rfl (lv_at hl 1 rfl) ?_
        obtain ⟨z7, h⟩ := nh_chk_some h
        refine va_iald hx hb hK hP 1 0 rfl rfl (nh_in_in z7) dX1_canSwap_45 ?_
        refine nh_goi (nh_S (As := [.int (t_known (Int32.toNatClampNeg i2)), .int (t_held (Int32.toNatClampNeg i1))]) (rest := []) ⟨hx, hb, hml, hown, hts⟩ (kX1_lacks  l D cI cZ cO H.size (t_known (Int32.toNatClampNeg i2)) (t_held (Int32.toNatClampNeg i1)) (fX1_lacks (t_known (Int32.toNatClampNeg i2)) (t_held (Int32.toNatClampNeg i1))) rfl) (va_cwS 2 hts (nh_gS nhw_542 nhw_811 nhw_303 nhw_133) rfl rfl rfl (by decide +kernel) ⟨Nat.le_of_ble_eq_true rfl, Nat.le_of_ble_eq_true rfl⟩) hK hN hP hD (isC := []) rfl rfl rfl hl.1 rfl (Nat.le_of_ble_eq_true rfl) dX1_canSwap_46 ⟨Nat.zero_le _, Nat.zero_le _⟩) hP hD hS hA (isC := []) rfl rfl rfl (w' := (wlX1_canSwap cI cZ cO q_t q_t_held q_t_known q_t_worths t_count t_held t_known)) rfl (fun H locs hP hD hS => ?_)
        refine lv_if_eq (tgt := 56) hx hb dX1_canSwap_49 (by decide) (fun c8 => ?_) (fun c8 => ?_)
        · replace h := nh_t h c8
          refine lv_iconst (v := 0) hx hb dX1_canSwap_56 (by decide) ?_
          replace h := nh_i1 h
          exact nh_rz hx hb hr hlocks h rfl hP hS dX1_canSwap_57
        · replace h := nh_f h c8
          refine lv_iconst (v := 1) hx hb dX1_canSwap_52 (by decide) ?_
          refine lv_goto (tgt := 57) hx hb dX1_canSwap_53 (by decide) ?_
          replace h := nh_i1 h
          exact nh_rz hx hb hr hlocks h rfl hP hS dX1_canSwap_57
abbrev wlX1_canSwapAtAll (cI cZ cO : ClassId) (q_t q_t_held q_t_known q_t_worths : Nat) (t_count : Int32) (t_held : Nat → Int32) (t_known : Nat → Int32) : va_W := [(q_t, .inr (1, [.int t_count, .ref q_t_held, .ref q_t_known, .ref q_t_worths])), (q_t_held, .inl (cI, 4, .inl t_held)), (q_t_known, .inl (cI, 4, .inl t_known))]
def fX1_canSwapAtAll_B2 (t_count : Int32) (t_held : Nat → Int32) (t_known : Nat → Int32) (i1 : Int32) (k2 : Int32 → Option (Int32)) (r2 : Int32 → Option (Int32)) (x2_1 : Int32) : Option (Int32) :=
  (if t_count ≤ x2_1 then k2 x2_1
 else nh_b1 (fX1_canSwap t_count t_held t_known i1 x2_1) (fun r_4 => (if r_4 = 0 then nh_let (α := Int32) (x2_1 + 1) (fun x2_7 => r2 x2_7)
 else some 1)))
def fX1_canSwapAtAll_L2 (t_count : Int32) (t_held : Nat → Int32) (t_known : Nat → Int32) (i1 : Int32) (k2 : Int32 → Option (Int32)) : Nat → Int32 → Option (Int32)
  | 0 => fun _ => none
  | n + 1 => fX1_canSwapAtAll_B2 t_count t_held t_known i1 k2 (fX1_canSwapAtAll_L2 t_count t_held t_known i1 k2 n)
def fX1_canSwapAtAll (F : Nat) (t_count : Int32) (t_held : Nat → Int32) (t_known : Nat → Int32) (i1 : Int32) : Option (Int32) :=
  fX1_canSwapAtAll_L2 t_count t_held t_known i1 (fun x2_2 => some 0) F 0
set_option maxHeartbeats 4000000 in
set_option maxRecDepth 100000 in
theorem kX1_canSwapAtAll (F : Nat) (l : Launch) (D : va_G) (cI cZ cO : ClassId) (sz : Nat) (q_t q_t_held q_t_known q_t_worths : Nat) (t_count : Int32) (t_held : Nat → Int32) (t_known : Nat → Int32) (i1 : Int32) (o_r : Int32) (h : fX1_canSwapAtAll F t_count t_held t_known i1 = some o_r) : Met l yX1_canSwapAtAll (nh_w (.code yX1_canSwapAtAll cX1_canSwapAtAll 3 (some .boolean))) (nh_rm 2) (nh_Pc D cI cZ cO (wlX1_canSwapAtAll cI cZ cO q_t q_t_held q_t_known q_t_worths t_count t_held t_known) [.ref q_t, .int i1] sz) ((nh_Qi D (wlX1_canSwapAtAll cI cZ cO q_t q_t_held q_t_known q_t_worths t_count t_held t_known) o_r) (va_A (wlX1_canSwapAtAll cI cZ cO q_t q_t_held q_t_known q_t_worths t_count t_held t_known) sz)) 0 0 (va_A (wlX1_canSwapAtAll cI cZ cO q_t q_t_held q_t_known q_t_worths t_count t_held t_known) sz) := by
  unfold fX1_canSwapAtAll at h
  refine nh_met (cc := cX1_canSwapAtAll) (maxL := 3) (ret := (some .boolean)) (nh_Qi D (wlX1_canSwapAtAll cI cZ cO q_t q_t_held q_t_known q_t_worths t_count t_held t_known) o_r) (by decide) rfl (Nat.le_of_ble_eq_true rfl) ?_
  intro p e s m args below meth c A H locs ls hx hb hml hr hown hts hlocks hinit hP hK hN hD hA hS hl
  have hl : lv_has ls 3 [(0, .ref q_t), (1, .int i1)] := hl
  have hts : ∀ w ∈ nh_words, w.before args s = true := fun w h => hts w (List.mem_cons_of_mem _ h)
  refine lv_iconst (v := 0) hx hb dX1_canSwapAtAll_0 (by decide) ?_
  refine lv_istore_n (lv' := [(2, .int 0), (0, .ref q_t), (1, .int i1)]) hx hb dX1_canSwapAtAll_1 rfl hl (by decide) rfl (fun ls hl => ?_)
  have L2 : ∀ (k2 : Int32 → Option (Int32)), (∀ (x2_2 : Int32) (H : Heap) (locs : List Loc) (ls : Array Slot), va_P D vwCl (wlX1_canSwapAtAll cI cZ cO q_t q_t_held q_t_known q_t_worths t_count t_held t_known) H → va_D A (wlX1_canSwapAtAll cI cZ cO q_t q_t_held q_t_known q_t_worths t_count t_held t_known) → va_S A s.heap H locs → lv_has ls 3 [(0, .ref q_t), (1, .int i1), (2, .int x2_2)] → k2 x2_2 = some o_r → W p l e (nh_rm 2) s m args below meth c H locs 0 0 (MQ below ((nh_Qi D (wlX1_canSwapAtAll cI cZ cO q_t q_t_held q_t_known q_t_worths t_count t_held t_known) o_r) A) args s 0 0 A) (F0 m 27 ls [])) → ∀ (n : Nat) (x2_1 : Int32) (H : Heap) (locs : List Loc) (ls : Array Slot), va_P D vwCl (wlX1_canSwapAtAll cI cZ cO q_t q_t_held q_t_known q_t_worths t_count t_held t_known) H → va_D A (wlX1_canSwapAtAll cI cZ cO q_t q_t_held q_t_known q_t_worths t_count t_held t_known) → va_S A s.heap H locs → lv_has ls 3 [(0, .ref q_t), (1, .int i1), (2, .int x2_1)] → fX1_canSwapAtAll_L2 t_count t_held t_known i1 k2 n x2_1 = some o_r → W p l e (nh_rm 2) s m args below meth c H locs 0 0 (MQ below ((nh_Qi D (wlX1_canSwapAtAll cI cZ cO q_t q_t_held q_t_known q_t_worths t_count t_held t_known) o_r) A) args s 0 0 A) (F0 m 2 ls []) := by
    intro k2 hk2 n
    induction n with
    | zero => intro x2_1 H locs ls hP hD hS hl h; exact (nh_none h).elim
    | succ n2 ih2 =>
      intro x2_1 H locs ls hP hD hS hl h
      replace h : fX1_canSwapAtAll_B2 t_count t_held t_known i1 k2 (fX1_canSwapAtAll_L2 t_count t_held t_known i1 k2 n2) x2_1 = some o_r := h
      unfold fX1_canSwapAtAll_B2 at h
      refine lv_iload_n hx hb dX1_canSwapAtAll_2 rfl (lv_at hl 2 rfl) ?_
      refine lv_aload_n hx hb dX1_canSwapAtAll_3 rfl (lv_at hl 0 rfl) ?_
      refine va_get (D := D) (ci := 1) (v := .int t_count) (C := RX1) (T := TX1) (N := 4) hx hb hts nhu_X1 hown hK hP 0 rfl rfl 0 (by decide) (hts _ nhw_201) (fun _ h9 => h9) rfl dX1_canSwapAtAll_4 ?_
      refine lv_icmp_ge (tgt := 27) hx hb dX1_canSwapAtAll_7 (by decide) (fun c3 => ?_) (fun c3 => ?_)
      · replace h := nh_t h c3
        exact hk2 x2_1 H locs ls hP hD hS (lv_sub hl [0, 1, 2] rfl) h
      · replace h := nh_f h c3
        refine lv_aload_n hx hb dX1_canSwapAtAll_10 rfl (lv_at hl 0 rfl) ?_
        refine lv_iload_n hx hb dX1_canSwapAtAll_11 rfl (lv_at hl 1 rfl) ?_
        refine lv_iload_n hx hb dX1_canSwapAtAll_12 rfl (lv_at hl 2 rfl) ?_
        obtain ⟨r_4, hc5, h⟩ := nh_b1_some h
        refine nh_goi (nh_V (As := [.int i1, .int x2_1]) (rest := []) ⟨hx, hb, hml, hown, hts⟩ (kX1_canSwap  l D cI cZ cO H.size q_t q_t_held q_t_known q_t_worths t_count t_held t_known i1 x2_1 r_4 hc5) (cwV 2 hts (nh_gV nhw_543 nhw_415 nhw_677 nhw_303 nhw_124) rfl rfl rfl (by decide +kernel) ⟨Nat.le_of_ble_eq_true rfl, Nat.le_of_ble_eq_true rfl⟩) hK hN hP hD (isC := [0, 1, 2]) rfl rfl 0 1 rfl rfl rfl rfl hl.1 rfl (Nat.le_of_ble_eq_true rfl) dX1_canSwapAtAll_13 ⟨Nat.zero_le _, Nat.zero_le _⟩) hP hD hS hA (isC := [0, 1, 2]) rfl rfl rfl (w' := (wlX1_canSwapAtAll cI cZ cO q_t q_t_held q_t_known q_t_worths t_count t_held t_known)) rfl (fun H locs hP hD hS => ?_)
        refine lv_if_eq (tgt := 21) hx hb dX1_canSwapAtAll_16 (by decide) (fun c6 => ?_) (fun c6 => ?_)
        · replace h := nh_t h c6
          obtain ⟨x2_7, ex2_7⟩ : ∃ y : Int32, y = x2_1 + 1 := ⟨_, rfl⟩
          replace h := nh_to h ex2_7
          refine lv_iinc (v := x2_7) (lv' := [(2, .int x2_7), (0, .ref q_t), (1, .int i1)]) hx hb dX1_canSwapAtAll_21 hl (k := 2) rfl (by rw [ex2_7]; rfl) (by decide) rfl (fun ls hl => ?_)
          refine lv_goto (tgt := 2) hx hb dX1_canSwapAtAll_24 (by decide) ?_
          exact ih2 x2_7 H locs ls hP hD hS (lv_sub hl [1, 2, 0] rfl) h
        · replace h := nh_f h c6
          refine lv_iconst (v := 1) hx hb dX1_canSwapAtAll_19 (by decide) ?_
          replace h := nh_i1 h
          exact nh_rz hx hb hr hlocks h rfl hP hS dX1_canSwapAtAll_20
  refine L2 _ (fun x2_2 H locs ls hP hD hS hl h => ?_) _ 0 H locs ls hP hD hS (lv_sub hl [1, 2, 0] rfl) h
  refine lv_iconst (v := 0) hx hb dX1_canSwapAtAll_27 (by decide) ?_
  replace h := nh_i1 h
  exact nh_rz hx hb hr hlocks h rfl hP hS dX1_canSwapAtAll_28
abbrev wlX1_swap (cI cZ cO : ClassId) (q_t q_t_held q_t_known q_t_worths : Nat) (t_count : Int32) (t_held : Nat → Int32) (t_known : Nat → Int32) : va_W := [(q_t, .inr (1, [.int t_count, .ref q_t_held, .ref q_t_known, .ref q_t_worths])), (q_t_held, .inl (cI, 4, .inl t_held)), (q_t_known, .inl (cI, 4, .inl t_known))]
def fX1_swap (t_count : Int32) (t_held : Nat → Int32) (t_known : Nat → Int32) (i1 : Int32) (i2 : Int32) : Option ((Nat → Int32) × (Nat → Int32)) :=
  (if (fX1_has t_count i1) = 0 then some (t_held, t_known)
 else (if (fX1_has t_count i2) = 0 then some (t_held, t_known)
 else nh_b1 (fX1_crossThings t_held i1 i2) (fun t_held_3 => nh_chk (nh_in i1 4) (nh_chk (nh_in i1 4) (nh_chk (nh_in i1 4) (nh_let (α := Nat → Int32) (upd t_known (Int32.toNatClampNeg i1) ((t_known (Int32.toNatClampNeg i1)) ||| (fX10_bit (t_held_3 (Int32.toNatClampNeg i1))))) (fun t_known_8 => nh_chk (nh_in i2 4) (nh_chk (nh_in i2 4) (nh_chk (nh_in i2 4) (nh_let (α := Nat → Int32) (upd t_known_8 (Int32.toNatClampNeg i2) ((t_known_8 (Int32.toNatClampNeg i2)) ||| (fX10_bit (t_held_3 (Int32.toNatClampNeg i2))))) (fun t_known_12 => some (t_held_3, t_known_12))))))))))))
set_option maxHeartbeats 4000000 in
set_option maxRecDepth 100000 in
theorem kX1_swap (l : Launch) (D : va_G) (cI cZ cO : ClassId) (sz : Nat) (q_t q_t_held q_t_known q_t_worths : Nat) (t_count : Int32) (t_held : Nat → Int32) (t_known : Nat → Int32) (i1 : Int32) (i2 : Int32) (o_t_held : Nat → Int32) (o_t_known : Nat → Int32) (h : fX1_swap t_count t_held t_known i1 i2 = some (o_t_held, o_t_known)) : Met l yX1_swap (nh_w (.code yX1_swap cX1_swap 3 none)) (nh_rm 2) (nh_Pc D cI cZ cO (wlX1_swap cI cZ cO q_t q_t_held q_t_known q_t_worths t_count t_held t_known) [.ref q_t, .int i1, .int i2] sz) ((nh_Qv D (wlX1_swap cI cZ cO q_t q_t_held q_t_known q_t_worths t_count o_t_held o_t_known)) (va_A (wlX1_swap cI cZ cO q_t q_t_held q_t_known q_t_worths t_count t_held t_known) sz)) 0 0 (va_A (wlX1_swap cI cZ cO q_t q_t_held q_t_known q_t_worths t_count t_held t_known) sz) := by
  unfold fX1_swap at h
  refine nh_met (cc := cX1_swap) (maxL := 3) (ret := none) (nh_Qv D (wlX1_swap cI cZ cO q_t q_t_held q_t_known q_t_worths t_count o_t_held o_t_known)) (by decide) rfl (Nat.le_of_ble_eq_true rfl) ?_
  intro p e s m args below meth c A H locs ls hx hb hml hr hown hts hlocks hinit hP hK hN hD hA hS hl
  have hl : lv_has ls 3 [(0, .ref q_t), (1, .int i1), (2, .int i2)] := hl
  have hts : ∀ w ∈ nh_words, w.before args s = true := fun w h => hts w (List.mem_cons_of_mem _ h)
  refine lv_aload_n hx hb dX1_swap_0 rfl (lv_at hl 0 rfl) ?_
  refine lv_iload_n hx hb dX1_swap_1 rfl (lv_at hl 1 rfl) ?_
  refine nh_goi (nh_V (As := [.int i1]) (rest := []) ⟨hx, hb, hml, hown, hts⟩ (kX1_has  l D cI cZ cO H.size q_t q_t_held q_t_known q_t_worths t_count i1 (fX1_has t_count i1) rfl) (cwV 1 hts (nh_gV nhw_541 nhw_419 nhw_681 nhw_303 nhw_128) rfl rfl rfl (by decide +kernel) ⟨Nat.le_of_ble_eq_true rfl, Nat.le_of_ble_eq_true rfl⟩) hK hN hP hD (isC := [0]) rfl rfl 0 1 rfl rfl rfl rfl hl.1 rfl (Nat.le_of_ble_eq_true rfl) dX1_swap_2 ⟨Nat.zero_le _, Nat.zero_le _⟩) hP hD hS hA (isC := [0]) rfl rfl rfl (w' := (wlX1_swap cI cZ cO q_t q_t_held q_t_known q_t_worths t_count t_held t_known)) rfl (fun H locs hP hD hS => ?_)
  refine lv_if_eq (tgt := 58) hx hb dX1_swap_5 (by decide) (fun c1 => ?_) (fun c1 => ?_)
  · replace h := nh_t h c1
    obtain ⟨g0, g1⟩ := nh_i2 h
    exact nh_rv hx hb hr hlocks (by rw [← g0, ← g1]; exact hP) hS dX1_swap_58
  · replace h := nh_f h c1
    refine lv_aload_n hx hb dX1_swap_8 rfl (lv_at hl 0 rfl) ?_
    refine lv_iload_n hx hb dX1_swap_9 rfl (lv_at hl 2 rfl) ?_
    refine nh_goi (nh_V (As := [.int i2]) (rest := []) ⟨hx, hb, hml, hown, hts⟩ (kX1_has  l D cI cZ cO H.size q_t q_t_held q_t_known q_t_worths t_count i2 (fX1_has t_count i2) rfl) (cwV 1 hts (nh_gV nhw_541 nhw_419 nhw_681 nhw_303 nhw_128) rfl rfl rfl (by decide +kernel) ⟨Nat.le_of_ble_eq_true rfl, Nat.le_of_ble_eq_true rfl⟩) hK hN hP hD (isC := [0]) rfl rfl 0 1 rfl rfl rfl rfl hl.1 rfl (Nat.le_of_ble_eq_true rfl) dX1_swap_10 ⟨Nat.zero_le _, Nat.zero_le _⟩) hP hD hS hA (isC := [0]) rfl rfl rfl (w' := (wlX1_swap cI cZ cO q_t q_t_held q_t_known q_t_worths t_count t_held t_known)) rfl (fun H locs hP hD hS => ?_)
    refine lv_if_eq (tgt := 58) hx hb dX1_swap_13 (by decide) (fun c2 => ?_) (fun c2 => ?_)
    · replace h := nh_t h c2
      obtain ⟨g0, g1⟩ := nh_i2 h
      exact nh_rv hx hb hr hlocks (by rw [← g0, ← g1]; exact hP) hS dX1_swap_58
    · replace h := nh_f h c2
      refine lv_aload_n hx hb dX1_swap_16 rfl (lv_at hl 0 rfl) ?_
      refine lv_iload_n hx hb dX1_swap_17 rfl (lv_at hl 1 rfl) ?_
      refine lv_iload_n hx hb dX1_swap_18 rfl (lv_at hl 2 rfl) ?_
      obtain ⟨t_held_3, hc4, h⟩ := nh_b1_some h
      refine nh_gov (nh_V (As := [.int i1, .int i2]) (rest := []) ⟨hx, hb, hml, hown, hts⟩ (kX1_crossThings  l D cI cZ cO H.size q_t q_t_held q_t_known q_t_worths t_count t_held i1 i2 t_held_3 hc4) (cwV 2 hts (nh_gV nhw_544 nhw_417 nhw_679 nhw_303 nhw_126) rfl rfl rfl (by decide +kernel) ⟨Nat.le_of_ble_eq_true rfl, Nat.le_of_ble_eq_true rfl⟩) hK hN hP hD (isC := [0, 1]) rfl rfl 0 1 rfl rfl rfl rfl hl.1 rfl (Nat.le_of_ble_eq_true rfl) dX1_swap_19 ⟨Nat.zero_le _, Nat.zero_le _⟩) hP hD hS hA (isC := [0, 1]) rfl rfl rfl (w' := (wlX1_swap cI cZ cO q_t q_t_held q_t_known q_t_worths t_count t_held_3 t_known)) rfl (fun H locs hP hD hS => ?_)
      refine lv_aload_n hx hb dX1_swap_22 rfl (lv_at hl 0 rfl) ?_
      refine va_get (D := D) (ci := 1) (v := .ref q_t_known) (C := RX1) (T := TX1) (N := 4) hx hb hts nhu_X1 hown hK hP 0 rfl rfl 2 (by decide) (hts _ nhw_199) (fun _ h9 => h9) rfl dX1_swap_23 ?_
      refine lv_iload_n hx hb dX1_swap_26 rfl (lv_at hl 1 rfl) ?_
      refine lv_dup2_11 hx hb dX1_swap_27 rfl rfl ?_
      obtain ⟨z5, h⟩ := nh_chk_some h
      refine va_iald hx hb hK hP 2 0 rfl rfl (nh_in_in z5) dX1_swap_28 ?_
      refine lv_aload_n hx hb dX1_swap_29 rfl (lv_at hl 0 rfl) ?_
      refine va_get (D := D) (ci := 1) (v := .ref q_t_held) (C := RX1) (T := TX1) (N := 4) hx hb hts nhu_X1 hown hK hP 0 rfl rfl 1 (by decide) (hts _ nhw_202) (fun _ h9 => h9) rfl dX1_swap_30 ?_
      refine lv_iload_n hx hb dX1_swap_33 rfl (lv_at hl 1 rfl) ?_
      obtain ⟨z6, h⟩ := nh_chk_some h
      refine va_iald hx hb hK hP 1 0 rfl rfl (nh_in_in z6) dX1_swap_34 ?_
      refine nh_goi (nh_SN (As := [.int (t_held_3 (Int32.toNatClampNeg i1))]) (rest := [.int (t_known (Int32.toNatClampNeg i1)), .int i1, .ref q_t_known]) ⟨hx, hb, hml, hown, hts⟩ (kX10_bit  l D cI cZ cO H.size (t_held_3 (Int32.toNatClampNeg i1)) (fX10_bit (t_held_3 (Int32.toNatClampNeg i1))) rfl) ⟨va_cnB 1 hts (nh_gC nhw_25) rfl rfl rfl (nh_N_at hN 11 rfl) (hts _ nhw_304) (by decide +kernel) ⟨Nat.le_of_ble_eq_true rfl, Nat.le_of_ble_eq_true rfl⟩, (hts _ nhw_804), trivial⟩ hK hN hP hD (isC := []) rfl rfl rfl hl.1 rfl (Nat.le_of_ble_eq_true rfl) dX1_swap_35 ⟨Nat.zero_le _, Nat.zero_le _⟩) hP hD hS hA (isC := []) rfl rfl rfl (w' := (wlX1_swap cI cZ cO q_t q_t_held q_t_known q_t_worths t_count t_held_3 t_known)) rfl (fun H locs hP hD hS => ?_)
      refine lv_ior hx hb dX1_swap_38 ?_
      obtain ⟨z7, h⟩ := nh_chk_some h
      refine va_iast hx hb hK hP hD hS 2 0 rfl rfl (nh_in_in z7) dX1_swap_39 (fun H locs hP hD hS => ?_)
      obtain ⟨t_known_8, et_known_8⟩ : ∃ y : Nat → Int32, y = upd t_known (Int32.toNatClampNeg i1) ((t_known (Int32.toNatClampNeg i1)) ||| (fX10_bit (t_held_3 (Int32.toNatClampNeg i1)))) := ⟨_, rfl⟩
      replace h := nh_to h et_known_8
      have hP : va_P D vwCl (wlX1_swap cI cZ cO q_t q_t_held q_t_known q_t_worths t_count t_held_3 t_known_8) H := by rw [et_known_8]; exact hP
      have hD : va_D A (wlX1_swap cI cZ cO q_t q_t_held q_t_known q_t_worths t_count t_held_3 t_known_8) := by rw [et_known_8]; exact hD
      refine lv_aload_n hx hb dX1_swap_40 rfl (lv_at hl 0 rfl) ?_
      refine va_get (D := D) (ci := 1) (v := .ref q_t_known) (C := RX1) (T := TX1) (N := 4) hx hb hts nhu_X1 hown hK hP 0 rfl rfl 2 (by decide) (hts _ nhw_199) (fun _ h9 => h9) rfl dX1_swap_41 ?_
      refine lv_iload_n hx hb dX1_swap_44 rfl (lv_at hl 2 rfl) ?_
      refine lv_dup2_11 hx hb dX1_swap_45 rfl rfl ?_
      obtain ⟨z9, h⟩ := nh_chk_some h
      refine va_iald hx hb hK hP 2 0 rfl rfl (nh_in_in z9) dX1_swap_46 ?_
      refine lv_aload_n hx hb dX1_swap_47 rfl (lv_at hl 0 rfl) ?_
      refine va_get (D := D) (ci := 1) (v := .ref q_t_held) (C := RX1) (T := TX1) (N := 4) hx hb hts nhu_X1 hown hK hP 0 rfl rfl 1 (by decide) (hts _ nhw_202) (fun _ h9 => h9) rfl dX1_swap_48 ?_
      refine lv_iload_n hx hb dX1_swap_51 rfl (lv_at hl 2 rfl) ?_
      obtain ⟨z10, h⟩ := nh_chk_some h
      refine va_iald hx hb hK hP 1 0 rfl rfl (nh_in_in z10) dX1_swap_52 ?_
      refine nh_goi (nh_SN (As := [.int (t_held_3 (Int32.toNatClampNeg i2))]) (rest := [.int (t_known_8 (Int32.toNatClampNeg i2)), .int i2, .ref q_t_known]) ⟨hx, hb, hml, hown, hts⟩ (kX10_bit  l D cI cZ cO H.size (t_held_3 (Int32.toNatClampNeg i2)) (fX10_bit (t_held_3 (Int32.toNatClampNeg i2))) rfl) ⟨va_cnB 1 hts (nh_gC nhw_25) rfl rfl rfl (nh_N_at hN 11 rfl) (hts _ nhw_304) (by decide +kernel) ⟨Nat.le_of_ble_eq_true rfl, Nat.le_of_ble_eq_true rfl⟩, (hts _ nhw_804), trivial⟩ hK hN hP hD (isC := []) rfl rfl rfl hl.1 rfl (Nat.le_of_ble_eq_true rfl) dX1_swap_53 ⟨Nat.zero_le _, Nat.zero_le _⟩) hP hD hS hA (isC := []) rfl rfl rfl (w' := (wlX1_swap cI cZ cO q_t q_t_held q_t_known q_t_worths t_count t_held_3 t_known_8)) rfl (fun H locs hP hD hS => ?_)
      refine lv_ior hx hb dX1_swap_56 ?_
      obtain ⟨z11, h⟩ := nh_chk_some h
      refine va_iast hx hb hK hP hD hS 2 0 rfl rfl (nh_in_in z11) dX1_swap_57 (fun H locs hP hD hS => ?_)
      obtain ⟨t_known_12, et_known_12⟩ : ∃ y : Nat → Int32, y = upd t_known_8 (Int32.toNatClampNeg i2) ((t_known_8 (Int32.toNatClampNeg i2)) ||| (fX10_bit (t_held_3 (Int32.toNatClampNeg i2)))) := ⟨_, rfl⟩
      replace h := nh_to h et_known_12
      have hP : va_P D vwCl (wlX1_swap cI cZ cO q_t q_t_held q_t_known q_t_worths t_count t_held_3 t_known_12) H := by rw [et_known_12]; exact hP
      have hD : va_D A (wlX1_swap cI cZ cO q_t q_t_held q_t_known q_t_worths t_count t_held_3 t_known_12) := by rw [et_known_12]; exact hD
      obtain ⟨g0, g1⟩ := nh_i2 h
      exact nh_rv hx hb hr hlocks (by rw [← g0, ← g1]; exact hP) hS dX1_swap_58
abbrev wlX1_isDead (cI cZ cO : ClassId) (q_t q_t_held q_t_known q_t_worths : Nat) (t_count : Int32) (t_held : Nat → Int32) (t_known : Nat → Int32) : va_W := [(q_t, .inr (1, [.int t_count, .ref q_t_held, .ref q_t_known, .ref q_t_worths])), (q_t_held, .inl (cI, 4, .inl t_held)), (q_t_known, .inl (cI, 4, .inl t_known))]
def fX1_isDead_B23 (t_count : Int32) (t_held : Nat → Int32) (t_known : Nat → Int32) (i1 : Int32) (k23 : Int32 → Option (Int32)) (r23 : Int32 → Option (Int32)) (x2_4 : Int32) : Option (Int32) :=
  (if t_count ≤ x2_4 then k23 x2_4
 else nh_chk (nh_in i1 4) (nh_b1 (fX1_isNew t_count t_known x2_4 (t_held (Int32.toNatClampNeg i1))) (fun r_8 => (if r_8 = 0 then nh_let (α := Int32) (x2_4 + 1) (fun x2_11 => r23 x2_11)
 else some 0))))
def fX1_isDead_L23 (t_count : Int32) (t_held : Nat → Int32) (t_known : Nat → Int32) (i1 : Int32) (k23 : Int32 → Option (Int32)) : Nat → Int32 → Option (Int32)
  | 0 => fun _ => none
  | n + 1 => fX1_isDead_B23 t_count t_held t_known i1 k23 (fX1_isDead_L23 t_count t_held t_known i1 k23 n)
def fX1_isDead (F : Nat) (t_count : Int32) (t_held : Nat → Int32) (t_known : Nat → Int32) (i1 : Int32) : Option (Int32) :=
  (if (fX1_has t_count i1) = 0 then some 0
 else nh_chk (nh_in i1 4) ((if (t_held (Int32.toNatClampNeg i1)) = (-9) then some 0
 else fX1_isDead_L23 t_count t_held t_known i1 (fun x2_5 => some 1) F 0)))
set_option maxHeartbeats 4000000 in
set_option maxRecDepth 100000 in
theorem kX1_isDead (F : Nat) (l : Launch) (D : va_G) (cI cZ cO : ClassId) (sz : Nat) (q_t q_t_held q_t_known q_t_worths : Nat) (t_count : Int32) (t_held : Nat → Int32) (t_known : Nat → Int32) (i1 : Int32) (o_r : Int32) (h : fX1_isDead F t_count t_held t_known i1 = some o_r) : Met l yX1_isDead (nh_w (.code yX1_isDead cX1_isDead 3 (some .boolean))) (nh_rm 2) (nh_Pc D cI cZ cO (wlX1_isDead cI cZ cO q_t q_t_held q_t_known q_t_worths t_count t_held t_known) [.ref q_t, .int i1] sz) ((nh_Qi D (wlX1_isDead cI cZ cO q_t q_t_held q_t_known q_t_worths t_count t_held t_known) o_r) (va_A (wlX1_isDead cI cZ cO q_t q_t_held q_t_known q_t_worths t_count t_held t_known) sz)) 0 0 (va_A (wlX1_isDead cI cZ cO q_t q_t_held q_t_known q_t_worths t_count t_held t_known) sz) := by
  unfold fX1_isDead at h
  refine nh_met (cc := cX1_isDead) (maxL := 3) (ret := (some .boolean)) (nh_Qi D (wlX1_isDead cI cZ cO q_t q_t_held q_t_known q_t_worths t_count t_held t_known) o_r) (by decide) rfl (Nat.le_of_ble_eq_true rfl) ?_
  intro p e s m args below meth c A H locs ls hx hb hml hr hown hts hlocks hinit hP hK hN hD hA hS hl
  have hl : lv_has ls 3 [(0, .ref q_t), (1, .int i1)] := hl
  have hts : ∀ w ∈ nh_words, w.before args s = true := fun w h => hts w (List.mem_cons_of_mem _ h)
  refine lv_aload_n hx hb dX1_isDead_0 rfl (lv_at hl 0 rfl) ?_
  refine lv_iload_n hx hb dX1_isDead_1 rfl (lv_at hl 1 rfl) ?_
  refine nh_goi (nh_V (As := [.int i1]) (rest := []) ⟨hx, hb, hml, hown, hts⟩ (kX1_has  l D cI cZ cO H.size q_t q_t_held q_t_known q_t_worths t_count i1 (fX1_has t_count i1) rfl) (cwV 1 hts (nh_gV nhw_541 nhw_419 nhw_681 nhw_303 nhw_128) rfl rfl rfl (by decide +kernel) ⟨Nat.le_of_ble_eq_true rfl, Nat.le_of_ble_eq_true rfl⟩) hK hN hP hD (isC := [0]) rfl rfl 0 1 rfl rfl rfl rfl hl.1 rfl (Nat.le_of_ble_eq_true rfl) dX1_isDead_2 ⟨Nat.zero_le _, Nat.zero_le _⟩) hP hD hS hA (isC := [0]) rfl rfl rfl (w' := (wlX1_isDead cI cZ cO q_t q_t_held q_t_known q_t_worths t_count t_held t_known)) rfl (fun H locs hP hD hS => ?_)
  refine lv_if_eq (tgt := 19) hx hb dX1_isDead_5 (by decide) (fun c1 => ?_) (fun c1 => ?_)
  · replace h := nh_t h c1
    refine lv_iconst (v := 0) hx hb dX1_isDead_19 (by decide) ?_
    replace h := nh_i1 h
    exact nh_rz hx hb hr hlocks h rfl hP hS dX1_isDead_20
  · replace h := nh_f h c1
    refine lv_aload_n hx hb dX1_isDead_8 rfl (lv_at hl 0 rfl) ?_
    refine va_get (D := D) (ci := 1) (v := .ref q_t_held) (C := RX1) (T := TX1) (N := 4) hx hb hts nhu_X1 hown hK hP 0 rfl rfl 1 (by decide) (hts _ nhw_202) (fun _ h9 => h9) rfl dX1_isDead_9 ?_
    refine lv_iload_n hx hb dX1_isDead_12 rfl (lv_at hl 1 rfl) ?_
    obtain ⟨z2, h⟩ := nh_chk_some h
    refine va_iald hx hb hK hP 1 0 rfl rfl (nh_in_in z2) dX1_isDead_13 ?_
    refine lv_bipush (v := (-9)) hx hb dX1_isDead_14 (by decide) ?_
    refine lv_icmp_ne (tgt := 21) hx hb dX1_isDead_16 (by decide) (fun c3 => ?_) (fun c3 => ?_)
    · replace h := nh_f h c3
      refine lv_iconst (v := 0) hx hb dX1_isDead_21 (by decide) ?_
      refine lv_istore_n (lv' := [(2, .int 0), (0, .ref q_t), (1, .int i1)]) hx hb dX1_isDead_22 rfl hl (by decide) rfl (fun ls hl => ?_)
      have L23 : ∀ (k23 : Int32 → Option (Int32)), (∀ (x2_5 : Int32) (H : Heap) (locs : List Loc) (ls : Array Slot), va_P D vwCl (wlX1_isDead cI cZ cO q_t q_t_held q_t_known q_t_worths t_count t_held t_known) H → va_D A (wlX1_isDead cI cZ cO q_t q_t_held q_t_known q_t_worths t_count t_held t_known) → va_S A s.heap H locs → lv_has ls 3 [(0, .ref q_t), (1, .int i1), (2, .int x2_5)] → k23 x2_5 = some o_r → W p l e (nh_rm 2) s m args below meth c H locs 0 0 (MQ below ((nh_Qi D (wlX1_isDead cI cZ cO q_t q_t_held q_t_known q_t_worths t_count t_held t_known) o_r) A) args s 0 0 A) (F0 m 53 ls [])) → ∀ (n : Nat) (x2_4 : Int32) (H : Heap) (locs : List Loc) (ls : Array Slot), va_P D vwCl (wlX1_isDead cI cZ cO q_t q_t_held q_t_known q_t_worths t_count t_held t_known) H → va_D A (wlX1_isDead cI cZ cO q_t q_t_held q_t_known q_t_worths t_count t_held t_known) → va_S A s.heap H locs → lv_has ls 3 [(0, .ref q_t), (1, .int i1), (2, .int x2_4)] → fX1_isDead_L23 t_count t_held t_known i1 k23 n x2_4 = some o_r → W p l e (nh_rm 2) s m args below meth c H locs 0 0 (MQ below ((nh_Qi D (wlX1_isDead cI cZ cO q_t q_t_held q_t_known q_t_worths t_count t_held t_known) o_r) A) args s 0 0 A) (F0 m 23 ls []) := by
        intro k23 hk23 n
        induction n with
        | zero => intro x2_4 H locs ls hP hD hS hl h; exact (nh_none h).elim
        | succ n23 ih23 =>
          intro x2_4 H locs ls hP hD hS hl h
          replace h : fX1_isDead_B23 t_count t_held t_known i1 k23 (fX1_isDead_L23 t_count t_held t_known i1 k23 n23) x2_4 = some o_r := h
          unfold fX1_isDead_B23 at h
          refine lv_iload_n hx hb dX1_isDead_23 rfl (lv_at hl 2 rfl) ?_
          refine lv_aload_n hx hb dX1_isDead_24 rfl (lv_at hl 0 rfl) ?_
          refine va_get (D := D) (ci := 1) (v := .int t_count) (C := RX1) (T := TX1) (N := 4) hx hb hts nhu_X1 hown hK hP 0 rfl rfl 0 (by decide) (hts _ nhw_201) (fun _ h9 => h9) rfl dX1_isDead_25 ?_
          refine lv_icmp_ge (tgt := 53) hx hb dX1_isDead_28 (by decide) (fun c6 => ?_) (fun c6 => ?_)
          · replace h := nh_t h c6
            exact hk23 x2_4 H locs ls hP hD hS (lv_sub hl [0, 1, 2] rfl) h
          · replace h := nh_f h c6
            refine lv_aload_n hx hb dX1_isDead_31 rfl (lv_at hl 0 rfl) ?_
            refine lv_iload_n hx hb dX1_isDead_32 rfl (lv_at hl 2 rfl) ?_
            refine lv_aload_n hx hb dX1_isDead_33 rfl (lv_at hl 0 rfl) ?_
            refine va_get (D := D) (ci := 1) (v := .ref q_t_held) (C := RX1) (T := TX1) (N := 4) hx hb hts nhu_X1 hown hK hP 0 rfl rfl 1 (by decide) (hts _ nhw_202) (fun _ h9 => h9) rfl dX1_isDead_34 ?_
            refine lv_iload_n hx hb dX1_isDead_37 rfl (lv_at hl 1 rfl) ?_
            obtain ⟨z7, h⟩ := nh_chk_some h
            refine va_iald hx hb hK hP 1 0 rfl rfl (nh_in_in z7) dX1_isDead_38 ?_
            obtain ⟨r_8, hc9, h⟩ := nh_b1_some h
            refine nh_goi (nh_V (As := [.int x2_4, .int (t_held (Int32.toNatClampNeg i1))]) (rest := []) ⟨hx, hb, hml, hown, hts⟩ (kX1_isNew  l D cI cZ cO H.size q_t q_t_held q_t_known q_t_worths t_count t_known x2_4 (t_held (Int32.toNatClampNeg i1)) r_8 hc9) (cwV 2 hts (nh_gV nhw_545 nhw_423 nhw_684 nhw_303 nhw_132) rfl rfl rfl (by decide +kernel) ⟨Nat.le_of_ble_eq_true rfl, Nat.le_of_ble_eq_true rfl⟩) hK hN hP hD (isC := [0, 2]) rfl rfl 0 1 rfl rfl rfl rfl hl.1 rfl (Nat.le_of_ble_eq_true rfl) dX1_isDead_39 ⟨Nat.zero_le _, Nat.zero_le _⟩) hP hD hS hA (isC := [0, 2]) rfl rfl rfl (w' := (wlX1_isDead cI cZ cO q_t q_t_held q_t_known q_t_worths t_count t_held t_known)) rfl (fun H locs hP hD hS => ?_)
            refine lv_if_eq (tgt := 47) hx hb dX1_isDead_42 (by decide) (fun c10 => ?_) (fun c10 => ?_)
            · replace h := nh_t h c10
              obtain ⟨x2_11, ex2_11⟩ : ∃ y : Int32, y = x2_4 + 1 := ⟨_, rfl⟩
              replace h := nh_to h ex2_11
              refine lv_iinc (v := x2_11) (lv' := [(2, .int x2_11), (0, .ref q_t), (1, .int i1)]) hx hb dX1_isDead_47 hl (k := 2) rfl (by rw [ex2_11]; rfl) (by decide) rfl (fun ls hl => ?_)
              refine lv_goto (tgt := 23) hx hb dX1_isDead_50 (by decide) ?_
              exact ih23 x2_11 H locs ls hP hD hS (lv_sub hl [1, 2, 0] rfl) h
            · replace h := nh_f h c10
              refine lv_iconst (v := 0) hx hb dX1_isDead_45 (by decide) ?_
              replace h := nh_i1 h
              exact nh_rz hx hb hr hlocks h rfl hP hS dX1_isDead_46
      refine L23 _ (fun x2_5 H locs ls hP hD hS hl h => ?_) _ 0 H locs ls hP hD hS (lv_sub hl [1, 2, 0] rfl) h
      refine lv_iconst (v := 1) hx hb dX1_isDead_53 (by decide) ?_
      replace h := nh_i1 h
      exact nh_rz hx hb hr hlocks h rfl hP hS dX1_isDead_54
    · replace h := nh_t h c3
      refine lv_iconst (v := 0) hx hb dX1_isDead_19 (by decide) ?_
      replace h := nh_i1 h
      exact nh_rz hx hb hr hlocks h rfl hP hS dX1_isDead_20
abbrev wlX1_deadThings (cI cZ cO : ClassId) (q_t q_t_held q_t_known q_t_worths : Nat) (t_count : Int32) (t_held : Nat → Int32) (t_known : Nat → Int32) : va_W := [(q_t, .inr (1, [.int t_count, .ref q_t_held, .ref q_t_known, .ref q_t_worths])), (q_t_held, .inl (cI, 4, .inl t_held)), (q_t_known, .inl (cI, 4, .inl t_known))]
def fX1_deadThings_B4 (t_count : Int32) (t_held : Nat → Int32) (t_known : Nat → Int32) (F : Nat) (k4 : Int32 → Int32 → Option (Int32)) (r4 : Int32 → Int32 → Option (Int32)) (x1_1 : Int32) (x2_2 : Int32) : Option (Int32) :=
  (if t_count ≤ x2_2 then k4 x1_1 x2_2
 else nh_b1 (fX1_isDead F t_count t_held t_known x2_2) (fun r_6 => (if r_6 = 0 then nh_let (α := Int32) (x2_2 + 1) (fun x2_9 => r4 x1_1 x2_9)
 else nh_let (α := Int32) (x1_1 + 1) (fun x1_10 => nh_let (α := Int32) (x2_2 + 1) (fun x2_11 => r4 x1_10 x2_11)))))
def fX1_deadThings_L4 (t_count : Int32) (t_held : Nat → Int32) (t_known : Nat → Int32) (F : Nat) (k4 : Int32 → Int32 → Option (Int32)) : Nat → Int32 → Int32 → Option (Int32)
  | 0 => fun _ _ => none
  | n + 1 => fX1_deadThings_B4 t_count t_held t_known F k4 (fX1_deadThings_L4 t_count t_held t_known F k4 n)
def fX1_deadThings (F : Nat) (t_count : Int32) (t_held : Nat → Int32) (t_known : Nat → Int32) : Option (Int32) :=
  fX1_deadThings_L4 t_count t_held t_known F (fun x1_3 x2_4 => some x1_3) F 0 0
set_option maxHeartbeats 4000000 in
set_option maxRecDepth 100000 in
theorem kX1_deadThings (F : Nat) (l : Launch) (D : va_G) (cI cZ cO : ClassId) (sz : Nat) (q_t q_t_held q_t_known q_t_worths : Nat) (t_count : Int32) (t_held : Nat → Int32) (t_known : Nat → Int32)  (o_r : Int32) (h : fX1_deadThings F t_count t_held t_known = some o_r) : Met l yX1_deadThings (nh_w (.code yX1_deadThings cX1_deadThings 3 (some .int))) (nh_rm 3) (nh_Pc D cI cZ cO (wlX1_deadThings cI cZ cO q_t q_t_held q_t_known q_t_worths t_count t_held t_known) [.ref q_t] sz) ((nh_Qi D (wlX1_deadThings cI cZ cO q_t q_t_held q_t_known q_t_worths t_count t_held t_known) o_r) (va_A (wlX1_deadThings cI cZ cO q_t q_t_held q_t_known q_t_worths t_count t_held t_known) sz)) 0 0 (va_A (wlX1_deadThings cI cZ cO q_t q_t_held q_t_known q_t_worths t_count t_held t_known) sz) := by
  unfold fX1_deadThings at h
  refine nh_met (cc := cX1_deadThings) (maxL := 3) (ret := (some .int)) (nh_Qi D (wlX1_deadThings cI cZ cO q_t q_t_held q_t_known q_t_worths t_count t_held t_known) o_r) (by decide) rfl (Nat.le_of_ble_eq_true rfl) ?_
  intro p e s m args below meth c A H locs ls hx hb hml hr hown hts hlocks hinit hP hK hN hD hA hS hl
  have hl : lv_has ls 3 [(0, .ref q_t)] := hl
  have hts : ∀ w ∈ nh_words, w.before args s = true := fun w h => hts w (List.mem_cons_of_mem _ h)
  refine lv_iconst (v := 0) hx hb dX1_deadThings_0 (by decide) ?_
  refine lv_istore_n (lv' := [(1, .int 0), (0, .ref q_t)]) hx hb dX1_deadThings_1 rfl hl (by decide) rfl (fun ls hl => ?_)
  refine lv_iconst (v := 0) hx hb dX1_deadThings_2 (by decide) ?_
  refine lv_istore_n (lv' := [(2, .int 0), (1, .int 0), (0, .ref q_t)]) hx hb dX1_deadThings_3 rfl hl (by decide) rfl (fun ls hl => ?_)
  have L4 : ∀ (k4 : Int32 → Int32 → Option (Int32)), (∀ (x1_3 : Int32) (x2_4 : Int32) (H : Heap) (locs : List Loc) (ls : Array Slot), va_P D vwCl (wlX1_deadThings cI cZ cO q_t q_t_held q_t_known q_t_worths t_count t_held t_known) H → va_D A (wlX1_deadThings cI cZ cO q_t q_t_held q_t_known q_t_worths t_count t_held t_known) → va_S A s.heap H locs → lv_has ls 3 [(0, .ref q_t), (1, .int x1_3), (2, .int x2_4)] → k4 x1_3 x2_4 = some o_r → W p l e (nh_rm 3) s m args below meth c H locs 0 0 (MQ below ((nh_Qi D (wlX1_deadThings cI cZ cO q_t q_t_held q_t_known q_t_worths t_count t_held t_known) o_r) A) args s 0 0 A) (F0 m 29 ls [])) → ∀ (n : Nat) (x1_1 : Int32) (x2_2 : Int32) (H : Heap) (locs : List Loc) (ls : Array Slot), va_P D vwCl (wlX1_deadThings cI cZ cO q_t q_t_held q_t_known q_t_worths t_count t_held t_known) H → va_D A (wlX1_deadThings cI cZ cO q_t q_t_held q_t_known q_t_worths t_count t_held t_known) → va_S A s.heap H locs → lv_has ls 3 [(0, .ref q_t), (1, .int x1_1), (2, .int x2_2)] → fX1_deadThings_L4 t_count t_held t_known F k4 n x1_1 x2_2 = some o_r → W p l e (nh_rm 3) s m args below meth c H locs 0 0 (MQ below ((nh_Qi D (wlX1_deadThings cI cZ cO q_t q_t_held q_t_known q_t_worths t_count t_held t_known) o_r) A) args s 0 0 A) (F0 m 4 ls []) := by
    intro k4 hk4 n
    induction n with
    | zero => intro x1_1 x2_2 H locs ls hP hD hS hl h; exact (nh_none h).elim
    | succ n4 ih4 =>
      intro x1_1 x2_2 H locs ls hP hD hS hl h
      replace h : fX1_deadThings_B4 t_count t_held t_known F k4 (fX1_deadThings_L4 t_count t_held t_known F k4 n4) x1_1 x2_2 = some o_r := h
      unfold fX1_deadThings_B4 at h
      refine lv_iload_n hx hb dX1_deadThings_4 rfl (lv_at hl 2 rfl) ?_
      refine lv_aload_n hx hb dX1_deadThings_5 rfl (lv_at hl 0 rfl) ?_
      refine va_get (D := D) (ci := 1) (v := .int t_count) (C := RX1) (T := TX1) (N := 4) hx hb hts nhu_X1 hown hK hP 0 rfl rfl 0 (by decide) (hts _ nhw_201) (fun _ h9 => h9) rfl dX1_deadThings_6 ?_
      refine lv_icmp_ge (tgt := 29) hx hb dX1_deadThings_9 (by decide) (fun c5 => ?_) (fun c5 => ?_)
      · replace h := nh_t h c5
        exact hk4 x1_1 x2_2 H locs ls hP hD hS (lv_sub hl [0, 1, 2] rfl) h
      · replace h := nh_f h c5
        refine lv_aload_n hx hb dX1_deadThings_12 rfl (lv_at hl 0 rfl) ?_
        refine lv_iload_n hx hb dX1_deadThings_13 rfl (lv_at hl 2 rfl) ?_
        obtain ⟨r_6, hc7, h⟩ := nh_b1_some h
        refine nh_goi (nh_V (As := [.int x2_2]) (rest := []) ⟨hx, hb, hml, hown, hts⟩ (kX1_isDead F l D cI cZ cO H.size q_t q_t_held q_t_known q_t_worths t_count t_held t_known x2_2 r_6 hc7) (cwV 1 hts (nh_gV nhw_546 nhw_422 nhw_683 nhw_303 nhw_131) rfl rfl rfl (by decide +kernel) ⟨Nat.le_of_ble_eq_true rfl, Nat.le_of_ble_eq_true rfl⟩) hK hN hP hD (isC := [0, 1, 2]) rfl rfl 0 1 rfl rfl rfl rfl hl.1 rfl (Nat.le_of_ble_eq_true rfl) dX1_deadThings_14 ⟨Nat.zero_le _, Nat.zero_le _⟩) hP hD hS hA (isC := [0, 1, 2]) rfl rfl rfl (w' := (wlX1_deadThings cI cZ cO q_t q_t_held q_t_known q_t_worths t_count t_held t_known)) rfl (fun H locs hP hD hS => ?_)
        refine lv_if_eq (tgt := 23) hx hb dX1_deadThings_17 (by decide) (fun c8 => ?_) (fun c8 => ?_)
        · replace h := nh_t h c8
          obtain ⟨x2_9, ex2_9⟩ : ∃ y : Int32, y = x2_2 + 1 := ⟨_, rfl⟩
          replace h := nh_to h ex2_9
          refine lv_iinc (v := x2_9) (lv' := [(2, .int x2_9), (0, .ref q_t), (1, .int x1_1)]) hx hb dX1_deadThings_23 hl (k := 2) rfl (by rw [ex2_9]; rfl) (by decide) rfl (fun ls hl => ?_)
          refine lv_goto (tgt := 4) hx hb dX1_deadThings_26 (by decide) ?_
          exact ih4 x1_1 x2_9 H locs ls hP hD hS (lv_sub hl [1, 2, 0] rfl) h
        · replace h := nh_f h c8
          obtain ⟨x1_10, ex1_10⟩ : ∃ y : Int32, y = x1_1 + 1 := ⟨_, rfl⟩
          replace h := nh_to h ex1_10
          refine lv_iinc (v := x1_10) (lv' := [(1, .int x1_10), (0, .ref q_t), (2, .int x2_2)]) hx hb dX1_deadThings_20 hl (k := 1) rfl (by rw [ex1_10]; rfl) (by decide) rfl (fun ls hl => ?_)
          obtain ⟨x2_11, ex2_11⟩ : ∃ y : Int32, y = x2_2 + 1 := ⟨_, rfl⟩
          replace h := nh_to h ex2_11
          refine lv_iinc (v := x2_11) (lv' := [(2, .int x2_11), (1, .int x1_10), (0, .ref q_t)]) hx hb dX1_deadThings_23 hl (k := 2) rfl (by rw [ex2_11]; rfl) (by decide) rfl (fun ls hl => ?_)
          refine lv_goto (tgt := 4) hx hb dX1_deadThings_26 (by decide) ?_
          exact ih4 x1_10 x2_11 H locs ls hP hD hS (lv_sub hl [2, 1, 0] rfl) h
  refine L4 _ (fun x1_3 x2_4 H locs ls hP hD hS hl h => ?_) _ 0 0 H locs ls hP hD hS (lv_sub hl [2, 1, 0] rfl) h
  refine lv_iload_n hx hb dX1_deadThings_29 rfl (lv_at hl 1 rfl) ?_
  replace h := nh_i1 h
  exact nh_ri hx hb hr hlocks h hP hS dX1_deadThings_30
abbrev wlX1_holders (cI cZ cO : ClassId) (q_t q_t_held q_t_known q_t_worths : Nat) (t_count : Int32) (t_held : Nat → Int32) : va_W := [(q_t, .inr (1, [.int t_count, .ref q_t_held, .ref q_t_known, .ref q_t_worths])), (q_t_held, .inl (cI, 4, .inl t_held))]
def fX1_holders_B4 (t_count : Int32) (t_held : Nat → Int32) (k4 : Int32 → Int32 → Option (Int32)) (r4 : Int32 → Int32 → Option (Int32)) (x1_1 : Int32) (x2_2 : Int32) : Option (Int32) :=
  (if t_count ≤ x2_2 then k4 x1_1 x2_2
 else nh_chk (nh_in x2_2 4) ((if (t_held (Int32.toNatClampNeg x2_2)) = (-9) then nh_let (α := Int32) (x2_2 + 1) (fun x2_8 => r4 x1_1 x2_8)
 else nh_let (α := Int32) (x1_1 + 1) (fun x1_9 => nh_let (α := Int32) (x2_2 + 1) (fun x2_10 => r4 x1_9 x2_10)))))
def fX1_holders_L4 (t_count : Int32) (t_held : Nat → Int32) (k4 : Int32 → Int32 → Option (Int32)) : Nat → Int32 → Int32 → Option (Int32)
  | 0 => fun _ _ => none
  | n + 1 => fX1_holders_B4 t_count t_held k4 (fX1_holders_L4 t_count t_held k4 n)
def fX1_holders (F : Nat) (t_count : Int32) (t_held : Nat → Int32) : Option (Int32) :=
  fX1_holders_L4 t_count t_held (fun x1_3 x2_4 => some x1_3) F 0 0
set_option maxHeartbeats 4000000 in
set_option maxRecDepth 100000 in
theorem kX1_holders (F : Nat) (l : Launch) (D : va_G) (cI cZ cO : ClassId) (sz : Nat) (q_t q_t_held q_t_known q_t_worths : Nat) (t_count : Int32) (t_held : Nat → Int32)  (o_r : Int32) (h : fX1_holders F t_count t_held = some o_r) : Met l yX1_holders (nh_w (.code yX1_holders cX1_holders 3 (some .int))) (nh_rm 0) (nh_Pc D cI cZ cO (wlX1_holders cI cZ cO q_t q_t_held q_t_known q_t_worths t_count t_held) [.ref q_t] sz) ((nh_Qi D (wlX1_holders cI cZ cO q_t q_t_held q_t_known q_t_worths t_count t_held) o_r) (va_A (wlX1_holders cI cZ cO q_t q_t_held q_t_known q_t_worths t_count t_held) sz)) 0 0 (va_A (wlX1_holders cI cZ cO q_t q_t_held q_t_known q_t_worths t_count t_held) sz) := by
  unfold fX1_holders at h
  refine nh_met (cc := cX1_holders) (maxL := 3) (ret := (some .int)) (nh_Qi D (wlX1_holders cI cZ cO q_t q_t_held q_t_known q_t_worths t_count t_held) o_r) (by decide) rfl (Nat.le_of_ble_eq_true rfl) ?_
  intro p e s m args below meth c A H locs ls hx hb hml hr hown hts hlocks hinit hP hK hN hD hA hS hl
  have hl : lv_has ls 3 [(0, .ref q_t)] := hl
  have hts : ∀ w ∈ nh_words, w.before args s = true := fun w h => hts w (List.mem_cons_of_mem _ h)
  refine lv_iconst (v := 0) hx hb dX1_holders_0 (by decide) ?_
  refine lv_istore_n (lv' := [(1, .int 0), (0, .ref q_t)]) hx hb dX1_holders_1 rfl hl (by decide) rfl (fun ls hl => ?_)
  refine lv_iconst (v := 0) hx hb dX1_holders_2 (by decide) ?_
  refine lv_istore_n (lv' := [(2, .int 0), (1, .int 0), (0, .ref q_t)]) hx hb dX1_holders_3 rfl hl (by decide) rfl (fun ls hl => ?_)
  have L4 : ∀ (k4 : Int32 → Int32 → Option (Int32)), (∀ (x1_3 : Int32) (x2_4 : Int32) (H : Heap) (locs : List Loc) (ls : Array Slot), va_P D vwCl (wlX1_holders cI cZ cO q_t q_t_held q_t_known q_t_worths t_count t_held) H → va_D A (wlX1_holders cI cZ cO q_t q_t_held q_t_known q_t_worths t_count t_held) → va_S A s.heap H locs → lv_has ls 3 [(0, .ref q_t), (1, .int x1_3), (2, .int x2_4)] → k4 x1_3 x2_4 = some o_r → W p l e (nh_rm 0) s m args below meth c H locs 0 0 (MQ below ((nh_Qi D (wlX1_holders cI cZ cO q_t q_t_held q_t_known q_t_worths t_count t_held) o_r) A) args s 0 0 A) (F0 m 32 ls [])) → ∀ (n : Nat) (x1_1 : Int32) (x2_2 : Int32) (H : Heap) (locs : List Loc) (ls : Array Slot), va_P D vwCl (wlX1_holders cI cZ cO q_t q_t_held q_t_known q_t_worths t_count t_held) H → va_D A (wlX1_holders cI cZ cO q_t q_t_held q_t_known q_t_worths t_count t_held) → va_S A s.heap H locs → lv_has ls 3 [(0, .ref q_t), (1, .int x1_1), (2, .int x2_2)] → fX1_holders_L4 t_count t_held k4 n x1_1 x2_2 = some o_r → W p l e (nh_rm 0) s m args below meth c H locs 0 0 (MQ below ((nh_Qi D (wlX1_holders cI cZ cO q_t q_t_held q_t_known q_t_worths t_count t_held) o_r) A) args s 0 0 A) (F0 m 4 ls []) := by
    intro k4 hk4 n
    induction n with
    | zero => intro x1_1 x2_2 H locs ls hP hD hS hl h; exact (nh_none h).elim
    | succ n4 ih4 =>
      intro x1_1 x2_2 H locs ls hP hD hS hl h
      replace h : fX1_holders_B4 t_count t_held k4 (fX1_holders_L4 t_count t_held k4 n4) x1_1 x2_2 = some o_r := h
      unfold fX1_holders_B4 at h
      refine lv_iload_n hx hb dX1_holders_4 rfl (lv_at hl 2 rfl) ?_
      refine lv_aload_n hx hb dX1_holders_5 rfl (lv_at hl 0 rfl) ?_
      refine va_get (D := D) (ci := 1) (v := .int t_count) (C := RX1) (T := TX1) (N := 4) hx hb hts nhu_X1 hown hK hP 0 rfl rfl 0 (by decide) (hts _ nhw_201) (fun _ h9 => h9) rfl dX1_holders_6 ?_
      refine lv_icmp_ge (tgt := 32) hx hb dX1_holders_9 (by decide) (fun c5 => ?_) (fun c5 => ?_)
      · replace h := nh_t h c5
        exact hk4 x1_1 x2_2 H locs ls hP hD hS (lv_sub hl [0, 1, 2] rfl) h
      · replace h := nh_f h c5
        refine lv_aload_n hx hb dX1_holders_12 rfl (lv_at hl 0 rfl) ?_
        refine va_get (D := D) (ci := 1) (v := .ref q_t_held) (C := RX1) (T := TX1) (N := 4) hx hb hts nhu_X1 hown hK hP 0 rfl rfl 1 (by decide) (hts _ nhw_202) (fun _ h9 => h9) rfl dX1_holders_13 ?_
        refine lv_iload_n hx hb dX1_holders_16 rfl (lv_at hl 2 rfl) ?_
        obtain ⟨z6, h⟩ := nh_chk_some h
        refine va_iald hx hb hK hP 1 0 rfl rfl (nh_in_in z6) dX1_holders_17 ?_
        refine lv_bipush (v := (-9)) hx hb dX1_holders_18 (by decide) ?_
        refine lv_icmp_eq (tgt := 26) hx hb dX1_holders_20 (by decide) (fun c7 => ?_) (fun c7 => ?_)
        · replace h := nh_t h c7
          obtain ⟨x2_8, ex2_8⟩ : ∃ y : Int32, y = x2_2 + 1 := ⟨_, rfl⟩
          replace h := nh_to h ex2_8
          refine lv_iinc (v := x2_8) (lv' := [(2, .int x2_8), (0, .ref q_t), (1, .int x1_1)]) hx hb dX1_holders_26 hl (k := 2) rfl (by rw [ex2_8]; rfl) (by decide) rfl (fun ls hl => ?_)
          refine lv_goto (tgt := 4) hx hb dX1_holders_29 (by decide) ?_
          exact ih4 x1_1 x2_8 H locs ls hP hD hS (lv_sub hl [1, 2, 0] rfl) h
        · replace h := nh_f h c7
          obtain ⟨x1_9, ex1_9⟩ : ∃ y : Int32, y = x1_1 + 1 := ⟨_, rfl⟩
          replace h := nh_to h ex1_9
          refine lv_iinc (v := x1_9) (lv' := [(1, .int x1_9), (0, .ref q_t), (2, .int x2_2)]) hx hb dX1_holders_23 hl (k := 1) rfl (by rw [ex1_9]; rfl) (by decide) rfl (fun ls hl => ?_)
          obtain ⟨x2_10, ex2_10⟩ : ∃ y : Int32, y = x2_2 + 1 := ⟨_, rfl⟩
          replace h := nh_to h ex2_10
          refine lv_iinc (v := x2_10) (lv' := [(2, .int x2_10), (1, .int x1_9), (0, .ref q_t)]) hx hb dX1_holders_26 hl (k := 2) rfl (by rw [ex2_10]; rfl) (by decide) rfl (fun ls hl => ?_)
          refine lv_goto (tgt := 4) hx hb dX1_holders_29 (by decide) ?_
          exact ih4 x1_9 x2_10 H locs ls hP hD hS (lv_sub hl [2, 1, 0] rfl) h
  refine L4 _ (fun x1_3 x2_4 H locs ls hP hD hS hl h => ?_) _ 0 0 H locs ls hP hD hS (lv_sub hl [2, 1, 0] rfl) h
  refine lv_iload_n hx hb dX1_holders_32 rfl (lv_at hl 1 rfl) ?_
  replace h := nh_i1 h
  exact nh_ri hx hb hr hlocks h hP hS dX1_holders_33
abbrev wlX1_wealth (cI cZ cO : ClassId) (q_t q_t_held q_t_known q_t_worths : Nat) (t_count : Int32) (t_held : Nat → Int32) (t_worths : Nat → Int32) : va_W := [(q_t, .inr (1, [.int t_count, .ref q_t_held, .ref q_t_known, .ref q_t_worths])), (q_t_held, .inl (cI, 4, .inl t_held)), (q_t_worths, .inl (cI, 24, .inl t_worths))]
def fX1_wealth_B4 (t_count : Int32) (t_held : Nat → Int32) (t_worths : Nat → Int32) (k4 : Int32 → Int32 → Option (Int32)) (r4 : Int32 → Int32 → Option (Int32)) (x1_1 : Int32) (x2_2 : Int32) : Option (Int32) :=
  (if t_count ≤ x2_2 then k4 x1_1 x2_2
 else nh_chk (nh_in x2_2 4) (nh_b1 (fX1_worthOf t_count t_worths x2_2 (t_held (Int32.toNatClampNeg x2_2))) (fun r_7 => nh_let (α := Int32) ((x1_1 + r_7)) (fun y_9 => nh_let (α := Int32) (x2_2 + 1) (fun x2_10 => r4 y_9 x2_10)))))
def fX1_wealth_L4 (t_count : Int32) (t_held : Nat → Int32) (t_worths : Nat → Int32) (k4 : Int32 → Int32 → Option (Int32)) : Nat → Int32 → Int32 → Option (Int32)
  | 0 => fun _ _ => none
  | n + 1 => fX1_wealth_B4 t_count t_held t_worths k4 (fX1_wealth_L4 t_count t_held t_worths k4 n)
def fX1_wealth (F : Nat) (t_count : Int32) (t_held : Nat → Int32) (t_worths : Nat → Int32) : Option (Int32) :=
  fX1_wealth_L4 t_count t_held t_worths (fun x1_3 x2_4 => some x1_3) F 0 0
set_option maxHeartbeats 4000000 in
set_option maxRecDepth 100000 in
theorem kX1_wealth (F : Nat) (l : Launch) (D : va_G) (cI cZ cO : ClassId) (sz : Nat) (q_t q_t_held q_t_known q_t_worths : Nat) (t_count : Int32) (t_held : Nat → Int32) (t_worths : Nat → Int32)  (o_r : Int32) (h : fX1_wealth F t_count t_held t_worths = some o_r) : Met l yX1_wealth (nh_w (.code yX1_wealth cX1_wealth 3 (some .int))) (nh_rm 2) (nh_Pc D cI cZ cO (wlX1_wealth cI cZ cO q_t q_t_held q_t_known q_t_worths t_count t_held t_worths) [.ref q_t] sz) ((nh_Qi D (wlX1_wealth cI cZ cO q_t q_t_held q_t_known q_t_worths t_count t_held t_worths) o_r) (va_A (wlX1_wealth cI cZ cO q_t q_t_held q_t_known q_t_worths t_count t_held t_worths) sz)) 0 0 (va_A (wlX1_wealth cI cZ cO q_t q_t_held q_t_known q_t_worths t_count t_held t_worths) sz) := by
  unfold fX1_wealth at h
  refine nh_met (cc := cX1_wealth) (maxL := 3) (ret := (some .int)) (nh_Qi D (wlX1_wealth cI cZ cO q_t q_t_held q_t_known q_t_worths t_count t_held t_worths) o_r) (by decide) rfl (Nat.le_of_ble_eq_true rfl) ?_
  intro p e s m args below meth c A H locs ls hx hb hml hr hown hts hlocks hinit hP hK hN hD hA hS hl
  have hl : lv_has ls 3 [(0, .ref q_t)] := hl
  have hts : ∀ w ∈ nh_words, w.before args s = true := fun w h => hts w (List.mem_cons_of_mem _ h)
  refine lv_iconst (v := 0) hx hb dX1_wealth_0 (by decide) ?_
  refine lv_istore_n (lv' := [(1, .int 0), (0, .ref q_t)]) hx hb dX1_wealth_1 rfl hl (by decide) rfl (fun ls hl => ?_)
  refine lv_iconst (v := 0) hx hb dX1_wealth_2 (by decide) ?_
  refine lv_istore_n (lv' := [(2, .int 0), (1, .int 0), (0, .ref q_t)]) hx hb dX1_wealth_3 rfl hl (by decide) rfl (fun ls hl => ?_)
  have L4 : ∀ (k4 : Int32 → Int32 → Option (Int32)), (∀ (x1_3 : Int32) (x2_4 : Int32) (H : Heap) (locs : List Loc) (ls : Array Slot), va_P D vwCl (wlX1_wealth cI cZ cO q_t q_t_held q_t_known q_t_worths t_count t_held t_worths) H → va_D A (wlX1_wealth cI cZ cO q_t q_t_held q_t_known q_t_worths t_count t_held t_worths) → va_S A s.heap H locs → lv_has ls 3 [(0, .ref q_t), (1, .int x1_3), (2, .int x2_4)] → k4 x1_3 x2_4 = some o_r → W p l e (nh_rm 2) s m args below meth c H locs 0 0 (MQ below ((nh_Qi D (wlX1_wealth cI cZ cO q_t q_t_held q_t_known q_t_worths t_count t_held t_worths) o_r) A) args s 0 0 A) (F0 m 32 ls [])) → ∀ (n : Nat) (x1_1 : Int32) (x2_2 : Int32) (H : Heap) (locs : List Loc) (ls : Array Slot), va_P D vwCl (wlX1_wealth cI cZ cO q_t q_t_held q_t_known q_t_worths t_count t_held t_worths) H → va_D A (wlX1_wealth cI cZ cO q_t q_t_held q_t_known q_t_worths t_count t_held t_worths) → va_S A s.heap H locs → lv_has ls 3 [(0, .ref q_t), (1, .int x1_1), (2, .int x2_2)] → fX1_wealth_L4 t_count t_held t_worths k4 n x1_1 x2_2 = some o_r → W p l e (nh_rm 2) s m args below meth c H locs 0 0 (MQ below ((nh_Qi D (wlX1_wealth cI cZ cO q_t q_t_held q_t_known q_t_worths t_count t_held t_worths) o_r) A) args s 0 0 A) (F0 m 4 ls []) := by
    intro k4 hk4 n
    induction n with
    | zero => intro x1_1 x2_2 H locs ls hP hD hS hl h; exact (nh_none h).elim
    | succ n4 ih4 =>
      intro x1_1 x2_2 H locs ls hP hD hS hl h
      replace h : fX1_wealth_B4 t_count t_held t_worths k4 (fX1_wealth_L4 t_count t_held t_worths k4 n4) x1_1 x2_2 = some o_r := h
      unfold fX1_wealth_B4 at h
      refine lv_iload_n hx hb dX1_wealth_4 rfl (lv_at hl 2 rfl) ?_
      refine lv_aload_n hx hb dX1_wealth_5 rfl (lv_at hl 0 rfl) ?_
      refine va_get (D := D) (ci := 1) (v := .int t_count) (C := RX1) (T := TX1) (N := 4) hx hb hts nhu_X1 hown hK hP 0 rfl rfl 0 (by decide) (hts _ nhw_201) (fun _ h9 => h9) rfl dX1_wealth_6 ?_
      refine lv_icmp_ge (tgt := 32) hx hb dX1_wealth_9 (by decide) (fun c5 => ?_) (fun c5 => ?_)
      · replace h := nh_t h c5
        exact hk4 x1_1 x2_2 H locs ls hP hD hS (lv_sub hl [0, 1, 2] rfl) h
      · replace h := nh_f h c5
        refine lv_iload_n hx hb dX1_wealth_12 rfl (lv_at hl 1 rfl) ?_
        refine lv_aload_n hx hb dX1_wealth_13 rfl (lv_at hl 0 rfl) ?_
        refine lv_iload_n hx hb dX1_wealth_14 rfl (lv_at hl 2 rfl) ?_
        refine lv_aload_n hx hb dX1_wealth_15 rfl (lv_at hl 0 rfl) ?_
        refine va_get (D := D) (ci := 1) (v := .ref q_t_held) (C := RX1) (T := TX1) (N := 4) hx hb hts nhu_X1 hown hK hP 0 rfl rfl 1 (by decide) (hts _ nhw_202) (fun _ h9 => h9) rfl dX1_wealth_16 ?_
        refine lv_iload_n hx hb dX1_wealth_19 rfl (lv_at hl 2 rfl) ?_
        obtain ⟨z6, h⟩ := nh_chk_some h
        refine va_iald hx hb hK hP 1 0 rfl rfl (nh_in_in z6) dX1_wealth_20 ?_
        obtain ⟨r_7, hc8, h⟩ := nh_b1_some h
        refine nh_goi (nh_V (As := [.int x2_2, .int (t_held (Int32.toNatClampNeg x2_2))]) (rest := [.int x1_1]) ⟨hx, hb, hml, hown, hts⟩ (kX1_worthOf  l D cI cZ cO H.size q_t q_t_held q_t_known q_t_worths t_count t_worths x2_2 (t_held (Int32.toNatClampNeg x2_2)) r_7 hc8) (cwV 2 hts (nh_gV nhw_547 nhw_428 nhw_689 nhw_303 nhw_138) rfl rfl rfl (by decide +kernel) ⟨Nat.le_of_ble_eq_true rfl, Nat.le_of_ble_eq_true rfl⟩) hK hN hP hD (isC := [0, 2]) rfl rfl 0 1 rfl rfl rfl rfl hl.1 rfl (Nat.le_of_ble_eq_true rfl) dX1_wealth_21 ⟨Nat.zero_le _, Nat.zero_le _⟩) hP hD hS hA (isC := [0, 2]) rfl rfl rfl (w' := (wlX1_wealth cI cZ cO q_t q_t_held q_t_known q_t_worths t_count t_held t_worths)) rfl (fun H locs hP hD hS => ?_)
        refine lv_iadd hx hb dX1_wealth_24 ?_
        refine lv_topi (fun y_9 ey_9 => ?_)
        replace h := nh_to h ey_9
        refine lv_istore_n (lv' := [(1, .int y_9), (0, .ref q_t), (2, .int x2_2)]) hx hb dX1_wealth_25 rfl hl (by decide) rfl (fun ls hl => ?_)
        obtain ⟨x2_10, ex2_10⟩ : ∃ y : Int32, y = x2_2 + 1 := ⟨_, rfl⟩
        replace h := nh_to h ex2_10
        refine lv_iinc (v := x2_10) (lv' := [(2, .int x2_10), (1, .int y_9), (0, .ref q_t)]) hx hb dX1_wealth_26 hl (k := 2) rfl (by rw [ex2_10]; rfl) (by decide) rfl (fun ls hl => ?_)
        refine lv_goto (tgt := 4) hx hb dX1_wealth_29 (by decide) ?_
        exact ih4 y_9 x2_10 H locs ls hP hD hS (lv_sub hl [2, 1, 0] rfl) h
  refine L4 _ (fun x1_3 x2_4 H locs ls hP hD hS hl h => ?_) _ 0 0 H locs ls hP hD hS (lv_sub hl [2, 1, 0] rfl) h
  refine lv_iload_n hx hb dX1_wealth_32 rfl (lv_at hl 1 rfl) ?_
  replace h := nh_i1 h
  exact nh_ri hx hb hr hlocks h hP hS dX1_wealth_33
abbrev wlX10_isSlot (cI cZ cO : ClassId)   : va_W := []
def fX10_isSlot (i0 : Int32) : Int32 :=
  (if i0 < 0 then 0
 else (if 2 ≤ i0 then 0
 else 1))
set_option maxHeartbeats 4000000 in
set_option maxRecDepth 100000 in
theorem kX10_isSlot (l : Launch) (D : va_G) (cI cZ cO : ClassId) (sz : Nat)   (i0 : Int32) (o_r : Int32) (h : fX10_isSlot i0 = o_r) : Met l yX10_isSlot (nh_w (.code yX10_isSlot cX10_isSlot 1 (some .boolean))) (nh_rm 0) (nh_Pc D cI cZ cO (wlX10_isSlot cI cZ cO ) [.int i0] sz) ((nh_Qi D (wlX10_isSlot cI cZ cO ) o_r) (va_A (wlX10_isSlot cI cZ cO ) sz)) 0 0 (va_A (wlX10_isSlot cI cZ cO ) sz) := by
  unfold fX10_isSlot at h
  refine nh_met (cc := cX10_isSlot) (maxL := 1) (ret := (some .boolean)) (nh_Qi D (wlX10_isSlot cI cZ cO ) o_r) (by decide) rfl (Nat.le_of_ble_eq_true rfl) ?_
  intro p e s m args below meth c A H locs ls hx hb hml hr hown hts hlocks hinit hP hK hN hD hA hS hl
  have hl : lv_has ls 1 [(0, .int i0)] := hl
  have hts : ∀ w ∈ nh_words, w.before args s = true := fun w h => hts w (List.mem_cons_of_mem _ h)
  refine lv_iload_n hx hb dX10_isSlot_0 rfl (lv_at hl 0 rfl) ?_
  refine lv_if_lt (tgt := 13) hx hb dX10_isSlot_1 (by decide) (fun c1 => ?_) (fun c1 => ?_)
  · replace h := nh_t h c1
    refine lv_iconst (v := 0) hx hb dX10_isSlot_13 (by decide) ?_
    exact nh_rz hx hb hr hlocks h rfl hP hS dX10_isSlot_14
  · replace h := nh_f h c1
    refine lv_iload_n hx hb dX10_isSlot_4 rfl (lv_at hl 0 rfl) ?_
    refine lv_iconst (v := 2) hx hb dX10_isSlot_5 (by decide) ?_
    refine lv_icmp_ge (tgt := 13) hx hb dX10_isSlot_6 (by decide) (fun c2 => ?_) (fun c2 => ?_)
    · replace h := nh_t h c2
      refine lv_iconst (v := 0) hx hb dX10_isSlot_13 (by decide) ?_
      exact nh_rz hx hb hr hlocks h rfl hP hS dX10_isSlot_14
    · replace h := nh_f h c2
      refine lv_iconst (v := 1) hx hb dX10_isSlot_9 (by decide) ?_
      refine lv_goto (tgt := 14) hx hb dX10_isSlot_10 (by decide) ?_
      exact nh_rz hx hb hr hlocks h rfl hP hS dX10_isSlot_14
