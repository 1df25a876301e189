abbrev wlX1_has (cI cZ cO : ClassId) (q_t q_t_held q_t_known q_t_worths : Nat) (t_count : Int32) : va_W := [(q_t, .inr (1, [.int t_count, .ref q_t_held, .ref q_t_known, .ref q_t_worths]))]
def fX1_has (t_count : Int32) (i1 : Int32) : Int32 :=
  (if i1 < 0 then 0
 else (if t_count ≤ i1 then 0
 else 1))
set_option maxHeartbeats 4000000 in
set_option maxRecDepth 100000 in
theorem kX1_has (l : Launch) (D : va_G) (cI cZ cO : ClassId) (sz : Nat) (q_t q_t_held q_t_known q_t_worths : Nat) (t_count : Int32) (i1 : Int32) (o_r : Int32) (h : fX1_has t_count i1 = o_r) : Met l yX1_has wsX1_has (nh_rm 0) (nh_Pc D cI cZ cO (wlX1_has cI cZ cO q_t q_t_held q_t_known q_t_worths t_count) [.ref q_t, .int i1] sz) ((nh_Qi D (wlX1_has cI cZ cO q_t q_t_held q_t_known q_t_worths t_count) o_r) (va_A (wlX1_has cI cZ cO q_t q_t_held q_t_known q_t_worths t_count) sz)) 0 0 (va_A (wlX1_has cI cZ cO q_t q_t_held q_t_known q_t_worths t_count) sz) := by
  unfold fX1_has at h
  refine nh_met (cc := cX1_has) (maxL := 2) (ret := (some .boolean)) (nh_Qi D (wlX1_has cI cZ cO q_t q_t_held q_t_known q_t_worths t_count) o_r) (by decide) rfl (Nat.le_of_ble_eq_true rfl) ?_
  intro p e s m args below meth c A H locs ls hx hb hml hr hown hts hlocks hinit hP hK hN hD hA hS hl
  have hl : lv_has ls 2 [(0, .ref q_t), (1, .int i1)] := hl
  have hiX1 : ∀ w ∈ u_ws RX1 TX1 4, w ∈ wsX1_has := by decide +kernel
  have hw0 := hts (.fieldLink RX1 21 "NeverHadBefore$People" "count" "I") (by decide +kernel)
  refine lv_iload_n hx hb dX1_has_0 rfl (lv_at hl 1 rfl) ?_
  refine lv_if_lt (tgt := 16) hx hb dX1_has_1 (by decide) (fun c1 => ?_) (fun c1 => ?_)
  · replace h := nh_t h c1
    refine lv_iconst (v := 0) hx hb dX1_has_16 (by decide) ?_
    exact nh_rz hx hb hr hlocks h rfl hP hS dX1_has_17
  · replace h := nh_f h c1
    refine lv_iload_n hx hb dX1_has_4 rfl (lv_at hl 1 rfl) ?_
    refine lv_aload_n hx hb dX1_has_5 rfl (lv_at hl 0 rfl) ?_
    refine va_get (D := D) (ci := 1) (v := .int t_count) (C := RX1) (T := TX1) (N := 4) hx hb hts hiX1 hown hK hP 0 rfl rfl 0 (by decide) hw0 (fun _ h9 => h9) rfl dX1_has_6 ?_
    refine lv_icmp_ge (tgt := 16) hx hb dX1_has_9 (by decide) (fun c2 => ?_) (fun c2 => ?_)
    · replace h := nh_t h c2
      refine lv_iconst (v := 0) hx hb dX1_has_16 (by decide) ?_
      exact nh_rz hx hb hr hlocks h rfl hP hS dX1_has_17
    · replace h := nh_f h c2
      refine lv_iconst (v := 1) hx hb dX1_has_12 (by decide) ?_
      refine lv_goto (tgt := 17) hx hb dX1_has_13 (by decide) ?_
      exact nh_rz hx hb hr hlocks h rfl hP hS dX1_has_17
abbrev wlX10_isSort (cI cZ cO : ClassId)   : va_W := []
def fX10_isSort (i0 : Int32) : Int32 :=
  (if i0 < 0 then 0
 else (if 6 ≤ i0 then 0
 else 1))
set_option maxHeartbeats 4000000 in
set_option maxRecDepth 100000 in
theorem kX10_isSort (l : Launch) (D : va_G) (cI cZ cO : ClassId) (sz : Nat)   (i0 : Int32) (o_r : Int32) (h : fX10_isSort i0 = o_r) : Met l yX10_isSort wsX10_isSort (nh_rm 0) (nh_Pc D cI cZ cO (wlX10_isSort cI cZ cO ) [.int i0] sz) ((nh_Qi D (wlX10_isSort cI cZ cO ) o_r) (va_A (wlX10_isSort cI cZ cO ) sz)) 0 0 (va_A (wlX10_isSort cI cZ cO ) sz) := by
  unfold fX10_isSort at h
  refine nh_met (cc := cX10_isSort) (maxL := 1) (ret := (some .boolean)) (nh_Qi D (wlX10_isSort cI cZ cO ) o_r) (by decide) rfl (Nat.le_of_ble_eq_true rfl) ?_
  intro p e s m args below meth c A H locs ls hx hb hml hr hown hts hlocks hinit hP hK hN hD hA hS hl
  have hl : lv_has ls 1 [(0, .int i0)] := hl
  refine lv_iload_n hx hb dX10_isSort_0 rfl (lv_at hl 0 rfl) ?_
  refine lv_if_lt (tgt := 14) hx hb dX10_isSort_1 (by decide) (fun c1 => ?_) (fun c1 => ?_)
  · replace h := nh_t h c1
    refine lv_iconst (v := 0) hx hb dX10_isSort_14 (by decide) ?_
    exact nh_rz hx hb hr hlocks h rfl hP hS dX10_isSort_15
  · replace h := nh_f h c1
    refine lv_iload_n hx hb dX10_isSort_4 rfl (lv_at hl 0 rfl) ?_
    refine lv_bipush (v := 6) hx hb dX10_isSort_5 (by decide) ?_
    refine lv_icmp_ge (tgt := 14) hx hb dX10_isSort_7 (by decide) (fun c2 => ?_) (fun c2 => ?_)
    · replace h := nh_t h c2
      refine lv_iconst (v := 0) hx hb dX10_isSort_14 (by decide) ?_
      exact nh_rz hx hb hr hlocks h rfl hP hS dX10_isSort_15
    · replace h := nh_f h c2
      refine lv_iconst (v := 1) hx hb dX10_isSort_10 (by decide) ?_
      refine lv_goto (tgt := 15) hx hb dX10_isSort_11 (by decide) ?_
      exact nh_rz hx hb hr hlocks h rfl hP hS dX10_isSort_15
abbrev wlX10_bit (cI cZ cO : ClassId)   : va_W := []
def fX10_bit (i0 : Int32) : Int32 :=
  (if (fX10_isSort i0) = 0 then 0
 else (1 <<< (i0 &&& 31)))
set_option maxHeartbeats 4000000 in
set_option maxRecDepth 100000 in
theorem kX10_bit (l : Launch) (D : va_G) (cI cZ cO : ClassId) (sz : Nat)   (i0 : Int32) (o_r : Int32) (h : fX10_bit i0 = o_r) : Met l yX10_bit wsX10_bit (nh_rm 1) (nh_Pc D cI cZ cO (wlX10_bit cI cZ cO ) [.int i0] sz) ((nh_Qi D (wlX10_bit cI cZ cO ) o_r) (va_A (wlX10_bit cI cZ cO ) sz)) 0 0 (va_A (wlX10_bit cI cZ cO ) sz) := by
  unfold fX10_bit at h
  refine nh_met (cc := cX10_bit) (maxL := 1) (ret := (some .int)) (nh_Qi D (wlX10_bit cI cZ cO ) o_r) (by decide) rfl (Nat.le_of_ble_eq_true rfl) ?_
  intro p e s m args below meth c A H locs ls hx hb hml hr hown hts hlocks hinit hP hK hN hD hA hS hl
  have hl : lv_has ls 1 [(0, .int i0)] := hl
  refine lv_iload_n hx hb dX10_bit_0 rfl (lv_at hl 0 rfl) ?_
  refine nh_goi (nh_S (As := [.int i0]) (rest := []) ⟨hx, hb, hml, hown, hts⟩ (kX10_isSort  l D cI cZ cO H.size i0 (fX10_isSort i0) rfl) (va_cwS 1 hts gX10_bit_X10_isSort rfl rfl rfl (by decide +kernel) ⟨Nat.le_of_ble_eq_true rfl, Nat.le_of_ble_eq_true rfl⟩) hK hN hP hD (isC := []) rfl rfl rfl hl.1 rfl (Nat.le_of_ble_eq_true rfl) dX10_bit_1 ⟨Nat.zero_le _, Nat.zero_le _⟩) hP hD hS hA (isC := []) rfl rfl rfl (w' := (wlX10_bit cI cZ cO )) rfl (fun H locs hP hD hS => ?_)
  refine lv_if_eq (tgt := 13) hx hb dX10_bit_4 (by decide) (fun c1 => ?_) (fun c1 => ?_)
  · replace h := nh_t h c1
    refine lv_iconst (v := 0) hx hb dX10_bit_13 (by decide) ?_
    exact nh_ri hx hb hr hlocks h hP hS dX10_bit_14
  · replace h := nh_f h c1
    refine lv_iconst (v := 1) hx hb dX10_bit_7 (by decide) ?_
    refine lv_iload_n hx hb dX10_bit_8 rfl (lv_at hl 0 rfl) ?_
    refine lv_ishl hx hb dX10_bit_9 ?_
    refine lv_goto (tgt := 14) hx hb dX10_bit_10 (by decide) ?_
    exact nh_ri hx hb hr hlocks h hP hS dX10_bit_14
abbrev wlX10_told (cI cZ cO : ClassId)   : va_W := []
def fX10_told (i0 : Int32) (i1 : Int32) : Int32 :=
  ((10 * (if i1 < i0 then i1 else i0)) + (if i0 < i1 then i1 else i0))
set_option maxHeartbeats 4000000 in
set_option maxRecDepth 100000 in
theorem kX10_told (l : Launch) (D : va_G) (cI cZ cO : ClassId) (sz : Nat)   (i0 : Int32) (i1 : Int32) (o_r : Int32) (h : fX10_told i0 i1 = o_r) : Met l yX10_told wsX10_told (nh_rm 2) (nh_Pc D cI cZ cO (wlX10_told cI cZ cO ) [.int i0, .int i1] sz) ((nh_Qi D (wlX10_told cI cZ cO ) o_r) (va_A (wlX10_told cI cZ cO ) sz)) 0 0 (va_A (wlX10_told cI cZ cO ) sz) := by
  unfold fX10_told at h
  refine nh_met (cc := cX10_told) (maxL := 2) (ret := (some .int)) (nh_Qi D (wlX10_told cI cZ cO ) o_r) (by decide) rfl (Nat.le_of_ble_eq_true rfl) ?_
  intro p e s m args below meth c A H locs ls hx hb hml hr hown hts hlocks hinit hP hK hN hD hA hS hl
  have hl : lv_has ls 2 [(0, .int i0), (1, .int i1)] := hl
  have hw0 := hts (.methodLink RX10 245 Lib.Math.min.name) (by decide +kernel)
  have hw1 := hts (.static Lib.Math.min.name) (by decide +kernel)
  have hw2 := hts (.initialized "java/lang/Math") (by decide +kernel)
  have hw3 := hts (.code Lib.Math.min.name Lib.Math.min.code 2 (some .int)) (by decide +kernel)
  have hw4 := hts (.methodLink RX10 250 Lib.Math.max.name) (by decide +kernel)
  have hw5 := hts (.static Lib.Math.max.name) (by decide +kernel)
  have hw6 := hts (.code Lib.Math.max.name Lib.Math.max.code 2 (some .int)) (by decide +kernel)
  refine lv_bipush (v := 10) hx hb dX10_told_0 (by decide) ?_
  refine lv_iload_n hx hb dX10_told_2 rfl (lv_at hl 0 rfl) ?_
  refine lv_iload_n hx hb dX10_told_3 rfl (lv_at hl 1 rfl) ?_
  refine va_mmin hx hb (hml.trans hl.1.symm) hown hw0 hw1 hw2 hw3 (Nat.le_of_ble_eq_true rfl) (Nat.le_of_ble_eq_true rfl) (Nat.zero_le _) (Nat.zero_le _) dX10_told_4 ?_
  refine lv_imul hx hb dX10_told_7 ?_
  refine lv_iload_n hx hb dX10_told_8 rfl (lv_at hl 0 rfl) ?_
  refine lv_iload_n hx hb dX10_told_9 rfl (lv_at hl 1 rfl) ?_
  refine va_mmax hx hb (hml.trans hl.1.symm) hown hw4 hw5 hw2 hw6 (Nat.le_of_ble_eq_true rfl) (Nat.le_of_ble_eq_true rfl) (Nat.zero_le _) (Nat.zero_le _) dX10_told_10 ?_
  refine lv_iadd hx hb dX10_told_13 ?_
  exact nh_ri hx hb hr hlocks h hP hS dX10_told_14
abbrev wlX1_crossThings (cI cZ cO : ClassId) (q_t q_t_held q_t_known q_t_worths : Nat) (t_count : Int32) (t_held : Nat → Int32) : va_W := [(q_t, .inr (1, [.int t_count, .ref q_t_held, .ref q_t_known, .ref q_t_worths])), (q_t_held, .inl (cI, 4, .inl t_held))]
def fX1_crossThings (t_held : Nat → Int32) (i1 : Int32) (i2 : Int32) : Option ((Nat → Int32)) :=
  nh_chk (nh_in i1 4) (nh_let (α := Int32) ((t_held (Int32.toNatClampNeg i1))) (fun y_2 => nh_chk (nh_in i2 4) (nh_chk (nh_in i1 4) (nh_let (α := Nat → Int32) (upd t_held (Int32.toNatClampNeg i1) (t_held (Int32.toNatClampNeg i2))) (fun t_held_5 => nh_chk (nh_in i2 4) (nh_let (α := Nat → Int32) (upd t_held_5 (Int32.toNatClampNeg i2) y_2) (fun t_held_7 => some t_held_7)))))))
set_option maxHeartbeats 4000000 in
set_option maxRecDepth 100000 in
theorem kX1_crossThings (l : Launch) (D : va_G) (cI cZ cO : ClassId) (sz : Nat) (q_t q_t_held q_t_known q_t_worths : Nat) (t_count : Int32) (t_held : Nat → Int32) (i1 : Int32) (i2 : Int32) (o_t_held : Nat → Int32) (h : fX1_crossThings t_held i1 i2 = some o_t_held) : Met l yX1_crossThings wsX1_crossThings (nh_rm 0) (nh_Pc D cI cZ cO (wlX1_crossThings cI cZ cO q_t q_t_held q_t_known q_t_worths t_count t_held) [.ref q_t, .int i1, .int i2] sz) ((nh_Qv D (wlX1_crossThings cI cZ cO q_t q_t_held q_t_known q_t_worths t_count o_t_held)) (va_A (wlX1_crossThings cI cZ cO q_t q_t_held q_t_known q_t_worths t_count t_held) sz)) 0 0 (va_A (wlX1_crossThings cI cZ cO q_t q_t_held q_t_known q_t_worths t_count t_held) sz) := by
  unfold fX1_crossThings at h
  refine nh_met (cc := cX1_crossThings) (maxL := 4) (ret := none) (nh_Qv D (wlX1_crossThings cI cZ cO q_t q_t_held q_t_known q_t_worths t_count o_t_held)) (by decide) rfl (Nat.le_of_ble_eq_true rfl) ?_
  intro p e s m args below meth c A H locs ls hx hb hml hr hown hts hlocks hinit hP hK hN hD hA hS hl
  have hl : lv_has ls 4 [(0, .ref q_t), (1, .int i1), (2, .int i2)] := hl
  have hiX1 : ∀ w ∈ u_ws RX1 TX1 4, w ∈ wsX1_crossThings := by decide +kernel
  have hw0 := hts (.fieldLink RX1 9 "NeverHadBefore$People" "held" "[I") (by decide +kernel)
  refine lv_aload_n hx hb dX1_crossThings_0 rfl (lv_at hl 0 rfl) ?_
  refine va_get (D := D) (ci := 1) (v := .ref q_t_held) (C := RX1) (T := TX1) (N := 4) hx hb hts hiX1 hown hK hP 0 rfl rfl 1 (by decide) hw0 (fun _ h9 => h9) rfl dX1_crossThings_1 ?_
  refine lv_iload_n hx hb dX1_crossThings_4 rfl (lv_at hl 1 rfl) ?_
  obtain ⟨z1, h⟩ := nh_chk_some h
  refine va_iald hx hb hK hP 1 0 rfl rfl (nh_in_in z1) dX1_crossThings_5 ?_
  refine lv_topi (fun y_2 ey_2 => ?_)
  replace h := nh_to h ey_2
  refine lv_istore_n (lv' := [(3, .int y_2), (0, .ref q_t), (1, .int i1), (2, .int i2)]) hx hb dX1_crossThings_6 rfl hl (by decide) rfl (fun ls hl => ?_)
  refine lv_aload_n hx hb dX1_crossThings_7 rfl (lv_at hl 1 rfl) ?_
  refine va_get (D := D) (ci := 1) (v := .ref q_t_held) (C := RX1) (T := TX1) (N := 4) hx hb hts hiX1 hown hK hP 0 rfl rfl 1 (by decide) hw0 (fun _ h9 => h9) rfl dX1_crossThings_8 ?_
  refine lv_iload_n hx hb dX1_crossThings_11 rfl (lv_at hl 2 rfl) ?_
  refine lv_aload_n hx hb dX1_crossThings_12 rfl (lv_at hl 1 rfl) ?_
  refine va_get (D := D) (ci := 1) (v := .ref q_t_held) (C := RX1) (T := TX1) (N := 4) hx hb hts hiX1 hown hK hP 0 rfl rfl 1 (by decide) hw0 (fun _ h9 => h9) rfl dX1_crossThings_13 ?_
  refine lv_iload_n hx hb dX1_crossThings_16 rfl (lv_at hl 3 rfl) ?_
  obtain ⟨z3, h⟩ := nh_chk_some h
  refine va_iald hx hb hK hP 1 0 rfl rfl (nh_in_in z3) dX1_crossThings_17 ?_
  obtain ⟨z4, h⟩ := nh_chk_some h
  refine va_iast hx hb hK hP hD hS 1 0 rfl rfl (nh_in_in z4) dX1_crossThings_18 (fun H locs hP hD hS => ?_)
  obtain ⟨t_held_5, et_held_5⟩ : ∃ y : Nat → Int32, y = upd t_held (Int32.toNatClampNeg i1) (t_held (Int32.toNatClampNeg i2)) := ⟨_, rfl⟩
  replace h := nh_to h et_held_5
  have hP : va_P D vwCl (wlX1_crossThings cI cZ cO q_t q_t_held q_t_known q_t_worths t_count t_held_5) H := by rw [et_held_5]; exact hP
  have hD : va_D A (wlX1_crossThings cI cZ cO q_t q_t_held q_t_known q_t_worths t_count t_held_5) := by rw [et_held_5]; exact hD
  refine lv_aload_n hx hb dX1_crossThings_19 rfl (lv_at hl 1 rfl) ?_
  refine va_get (D := D) (ci := 1) (v := .ref q_t_held) (C := RX1) (T := TX1) (N := 4) hx hb hts hiX1 hown hK hP 0 rfl rfl 1 (by decide) hw0 (fun _ h9 => h9) rfl dX1_crossThings_20 ?_
  refine lv_iload_n hx hb dX1_crossThings_23 rfl (lv_at hl 3 rfl) ?_
  refine lv_iload_n hx hb dX1_crossThings_24 rfl (lv_at hl 0 rfl) ?_
  obtain ⟨z6, h⟩ := nh_chk_some h
  refine va_iast hx hb hK hP hD hS 1 0 rfl rfl (nh_in_in z6) dX1_crossThings_25 (fun H locs hP hD hS => ?_)
  obtain ⟨t_held_7, et_held_7⟩ : ∃ y : Nat → Int32, y = upd t_held_5 (Int32.toNatClampNeg i2) y_2 := ⟨_, rfl⟩
  replace h := nh_to h et_held_7
  have hP : va_P D vwCl (wlX1_crossThings cI cZ cO q_t q_t_held q_t_known q_t_worths t_count t_held_7) H := by rw [et_held_7]; exact hP
  have hD : va_D A (wlX1_crossThings cI cZ cO q_t q_t_held q_t_known q_t_worths t_count t_held_7) := by rw [et_held_7]; exact hD
  replace h := nh_i1 h
  exact nh_rv hx hb hr hlocks (by rw [← h]; exact hP) hS dX1_crossThings_26
abbrev wlX1_lacks (cI cZ cO : ClassId)   : va_W := []
def fX1_lacks (i0 : Int32) (i1 : Int32) : Int32 :=
  (if i1 = (-9) then 0
 else (if ((i0 >>> (i1 &&& 31)) &&& 1) = 0 then 1
 else 0))
set_option maxHeartbeats 4000000 in
set_option maxRecDepth 100000 in
theorem kX1_lacks (l : Launch) (D : va_G) (cI cZ cO : ClassId) (sz : Nat)   (i0 : Int32) (i1 : Int32) (o_r : Int32) (h : fX1_lacks i0 i1 = o_r) : Met l yX1_lacks wsX1_lacks (nh_rm 0) (nh_Pc D cI cZ cO (wlX1_lacks cI cZ cO ) [.int i0, .int i1] sz) ((nh_Qi D (wlX1_lacks cI cZ cO ) o_r) (va_A (wlX1_lacks cI cZ cO ) sz)) 0 0 (va_A (wlX1_lacks cI cZ cO ) sz) := by
  unfold fX1_lacks at h
  refine nh_met (cc := cX1_lacks) (maxL := 2) (ret := (some .boolean)) (nh_Qi D (wlX1_lacks cI cZ cO ) o_r) (by decide) rfl (Nat.le_of_ble_eq_true rfl) ?_
  intro p e s m args below meth c A H locs ls hx hb hml hr hown hts hlocks hinit hP hK hN hD hA hS hl
  have hl : lv_has ls 2 [(0, .int i0), (1, .int i1)] := hl
  refine lv_iload_n hx hb dX1_lacks_0 rfl (lv_at hl 1 rfl) ?_
  refine lv_bipush (v := (-9)) hx hb dX1_lacks_1 (by decide) ?_
  refine lv_icmp_eq (tgt := 18) hx hb dX1_lacks_3 (by decide) (fun c1 => ?_) (fun c1 => ?_)
  · replace h := nh_t h c1
    refine lv_iconst (v := 0) hx hb dX1_lacks_18 (by decide) ?_
    exact nh_rz hx hb hr hlocks h rfl hP hS dX1_lacks_19
  · replace h := nh_f h c1
    refine lv_iload_n hx hb dX1_lacks_6 rfl (lv_at hl 0 rfl) ?_
    refine lv_iload_n hx hb dX1_lacks_7 rfl (lv_at hl 1 rfl) ?_
    refine lv_ishr hx hb dX1_lacks_8 ?_
    refine lv_iconst (v := 1) hx hb dX1_lacks_9 (by decide) ?_
    refine lv_iand hx hb dX1_lacks_10 ?_
    refine lv_if_ne (tgt := 18) hx hb dX1_lacks_11 (by decide) (fun c2 => ?_) (fun c2 => ?_)
    · replace h := nh_f h c2
      refine lv_iconst (v := 0) hx hb dX1_lacks_18 (by decide) ?_
      exact nh_rz hx hb hr hlocks h rfl hP hS dX1_lacks_19
    · replace h := nh_t h c2
      refine lv_iconst (v := 1) hx hb dX1_lacks_14 (by decide) ?_
      refine lv_goto (tgt := 19) hx hb dX1_lacks_15 (by decide) ?_
      exact nh_rz hx hb hr hlocks h rfl hP hS dX1_lacks_19
abbrev wlX1_isNew (cI cZ cO : ClassId) (q_t q_t_held q_t_known q_t_worths : Nat) (t_count : Int32) (t_known : Nat → Int32) : va_W := [(q_t, .inr (1, [.int t_count, .ref q_t_held, .ref q_t_known, .ref q_t_worths])), (q_t_known, .inl (cI, 4, .inl t_known))]
def fX1_isNew (t_count : Int32) (t_known : Nat → Int32) (i1 : Int32) (i2 : Int32) : Option (Int32) :=
  (if (fX1_has t_count i1) = 0 then some 0
 else (if (fX10_isSort i2) = 0 then some 0
 else nh_chk (nh_in i1 4) ((if (fX1_lacks (t_known (Int32.toNatClampNeg i1)) i2) = 0 then some 0
 else some 1))))
set_option maxHeartbeats 4000000 in
set_option maxRecDepth 100000 in
theorem kX1_isNew (l : Launch) (D : va_G) (cI cZ cO : ClassId) (sz : Nat) (q_t q_t_held q_t_known q_t_worths : Nat) (t_count : Int32) (t_known : Nat → Int32) (i1 : Int32) (i2 : Int32) (o_r : Int32) (h : fX1_isNew t_count t_known i1 i2 = some o_r) : Met l yX1_isNew wsX1_isNew (nh_rm 1) (nh_Pc D cI cZ cO (wlX1_isNew cI cZ cO q_t q_t_held q_t_known q_t_worths t_count t_known) [.ref q_t, .int i1, .int i2] sz) ((nh_Qi D (wlX1_isNew cI cZ cO q_t q_t_held q_t_known q_t_worths t_count t_known) o_r) (va_A (wlX1_isNew cI cZ cO q_t q_t_held q_t_known q_t_worths t_count t_known) sz)) 0 0 (va_A (wlX1_isNew cI cZ cO q_t q_t_held q_t_known q_t_worths t_count t_known) sz) := by
  unfold fX1_isNew at h
  refine nh_met (cc := cX1_isNew) (maxL := 3) (ret := (some .boolean)) (nh_Qi D (wlX1_isNew cI cZ cO q_t q_t_held q_t_known q_t_worths t_count t_known) o_r) (by decide) rfl (Nat.le_of_ble_eq_true rfl) ?_
  intro p e s m args below meth c A H locs ls hx hb hml hr hown hts hlocks hinit hP hK hN hD hA hS hl
  have hl : lv_has ls 3 [(0, .ref q_t), (1, .int i1), (2, .int i2)] := hl
  have hiX1 : ∀ w ∈ u_ws RX1 TX1 4, w ∈ wsX1_isNew := by decide +kernel
  have hw0 := hts (.initialized RX10) (by decide +kernel)
  have hw1 := hts (.static yX10_isSort) (by decide +kernel)
  have hw2 := hts (.fieldLink RX1 15 "NeverHadBefore$People" "known" "[I") (by decide +kernel)
  refine lv_aload_n hx hb dX1_isNew_0 rfl (lv_at hl 0 rfl) ?_
  refine lv_iload_n hx hb dX1_isNew_1 rfl (lv_at hl 1 rfl) ?_
  refine nh_goi (nh_V (As := [.int i1]) (rest := []) ⟨hx, hb, hml, hown, hts⟩ (kX1_has  l D cI cZ cO H.size q_t q_t_held q_t_known q_t_worths t_count i1 (fX1_has t_count i1) rfl) (cwV 1 hts gX1_isNew_X1_has rfl rfl rfl (by decide +kernel) ⟨Nat.le_of_ble_eq_true rfl, Nat.le_of_ble_eq_true rfl⟩) hK hN hP hD (isC := [0]) rfl rfl 0 1 rfl rfl rfl rfl hl.1 rfl (Nat.le_of_ble_eq_true rfl) dX1_isNew_2 ⟨Nat.zero_le _, Nat.zero_le _⟩) hP hD hS hA (isC := [0]) rfl rfl rfl (w' := (wlX1_isNew cI cZ cO q_t q_t_held q_t_known q_t_worths t_count t_known)) rfl (fun H locs hP hD hS => ?_)
  refine lv_if_eq (tgt := 32) hx hb dX1_isNew_5 (by decide) (fun c1 => ?_) (fun c1 => ?_)
  · replace h := nh_t h c1
    refine lv_iconst (v := 0) hx hb dX1_isNew_32 (by decide) ?_
    replace h := nh_i1 h
    exact nh_rz hx hb hr hlocks h rfl hP hS dX1_isNew_33
  · replace h := nh_f h c1
    refine lv_iload_n hx hb dX1_isNew_8 rfl (lv_at hl 2 rfl) ?_
    refine nh_goi (nh_SN (As := [.int i2]) (rest := []) ⟨hx, hb, hml, hown, hts⟩ (kX10_isSort  l D cI cZ cO H.size i2 (fX10_isSort i2) rfl) ⟨va_cnB 1 hts gX1_isNew_X10_isSort_n35 rfl rfl rfl (nh_N_at hN 10 rfl) hw0 (by decide +kernel) ⟨Nat.le_of_ble_eq_true rfl, Nat.le_of_ble_eq_true rfl⟩, hw1, trivial⟩ hK hN hP hD (isC := []) rfl rfl rfl hl.1 rfl (Nat.le_of_ble_eq_true rfl) dX1_isNew_9 ⟨Nat.zero_le _, Nat.zero_le _⟩) hP hD hS hA (isC := []) rfl rfl rfl (w' := (wlX1_isNew cI cZ cO q_t q_t_held q_t_known q_t_worths t_count t_known)) rfl (fun H locs hP hD hS => ?_)
    refine lv_if_eq (tgt := 32) hx hb dX1_isNew_12 (by decide) (fun c2 => ?_) (fun c2 => ?_)
    · replace h := nh_t h c2
      refine lv_iconst (v := 0) hx hb dX1_isNew_32 (by decide) ?_
      replace h := nh_i1 h
      exact nh_rz hx hb hr hlocks h rfl hP hS dX1_isNew_33
    · replace h := nh_f h c2
      refine lv_aload_n hx hb dX1_isNew_15 rfl (lv_at hl 0 rfl) ?_
      refine va_get (D := D) (ci := 1) (v := .ref q_t_known) (C := RX1) (T := TX1) (N := 4) hx hb hts hiX1 hown hK hP 0 rfl rfl 2 (by decide) hw2 (fun _ h9 => h9) rfl dX1_isNew_16 ?_
      refine lv_iload_n hx hb dX1_isNew_19 rfl (lv_at hl 1 rfl) ?_
      obtain ⟨z3, h⟩ := nh_chk_some h
      refine va_iald hx hb hK hP 1 0 rfl rfl (nh_in_in z3) dX1_isNew_20 ?_
      refine lv_iload_n hx hb dX1_isNew_21 rfl (lv_at hl 2 rfl) ?_
      refine nh_goi (nh_S (As := [.int (t_known (Int32.toNatClampNeg i1)), .int i2]) (rest := []) ⟨hx, hb, hml, hown, hts⟩ (kX1_lacks  l D cI cZ cO H.size (t_known (Int32.toNatClampNeg i1)) i2 (fX1_lacks (t_known (Int32.toNatClampNeg i1)) i2) rfl) (va_cwS 2 hts gX1_isNew_X1_lacks rfl rfl rfl (by decide +kernel) ⟨Nat.le_of_ble_eq_true rfl, Nat.le_of_ble_eq_true rfl⟩) hK hN hP hD (isC := []) rfl rfl rfl hl.1 rfl (Nat.le_of_ble_eq_true rfl) dX1_isNew_22 ⟨Nat.zero_le _, Nat.zero_le _⟩) hP hD hS hA (isC := []) rfl rfl rfl (w' := (wlX1_isNew cI cZ cO q_t q_t_held q_t_known q_t_worths t_count t_known)) rfl (fun H locs hP hD hS => ?_)
      refine lv_if_eq (tgt := 32) hx hb dX1_isNew_25 (by decide) (fun c4 => ?_) (fun c4 => ?_)
      · replace h := nh_t h c4
        refine lv_iconst (v := 0) hx hb dX1_isNew_32 (by decide) ?_
        replace h := nh_i1 h
        exact nh_rz hx hb hr hlocks h rfl hP hS dX1_isNew_33
      · replace h := nh_f h c4
        refine lv_iconst (v := 1) hx hb dX1_isNew_28 (by decide) ?_
        refine lv_goto (tgt := 33) hx hb dX1_isNew_29 (by decide) ?_
        replace h := nh_i1 h
        exact nh_rz hx hb hr hlocks h rfl hP hS dX1_isNew_33
abbrev wlX1_canSwap (cI cZ cO : ClassId) (q_t q_t_held q_t_known q_t_worths : Nat) (t_count : Int32) (t_held : Nat → Int32) (t_known : Nat → Int32) : va_W := [(q_t, .inr (1, [.int t_count, .ref q_t_held, .ref q_t_known, .ref q_t_worths])), (q_t_held, .inl (cI, 4, .inl t_held)), (q_t_known, .inl (cI, 4, .inl t_known))]
def fX1_canSwap (t_count : Int32) (t_held : Nat → Int32) (t_known : Nat → Int32) (i1 : Int32) (i2 : Int32) : Option (Int32) :=
  (if (fX1_has t_count i1) = 0 then some 0
 else (if (fX1_has t_count i2) = 0 then some 0
 else nh_chk (nh_in i1 4) (nh_chk (nh_in i2 4) ((if (fX1_lacks (t_known (Int32.toNatClampNeg i1)) (t_held (Int32.toNatClampNeg i2))) = 0 then some 0
 else nh_chk (nh_in i2 4) (nh_chk (nh_in i1 4) ((if (fX1_lacks (t_known (Int32.toNatClampNeg i2)) (t_held (Int32.toNatClampNeg i1))) = 0 then some 0
 else some 1))))))))
set_option maxHeartbeats 4000000 in
set_option maxRecDepth 100000 in
theorem kX1_canSwap (l : Launch) (D : va_G) (cI cZ cO : ClassId) (sz : Nat) (q_t q_t_held q_t_known q_t_worths : Nat) (t_count : Int32) (t_held : Nat → Int32) (t_known : Nat → Int32) (i1 : Int32) (i2 : Int32) (o_r : Int32) (h : fX1_canSwap t_count t_held t_known i1 i2 = some o_r) : Met l yX1_canSwap wsX1_canSwap (nh_rm 1) (nh_Pc D cI cZ cO (wlX1_canSwap cI cZ cO q_t q_t_held q_t_known q_t_worths t_count t_held t_known) [.ref q_t, .int i1, .int i2] sz) ((nh_Qi D (wlX1_canSwap cI cZ cO q_t q_t_held q_t_known q_t_worths t_count t_held t_known) o_r) (va_A (wlX1_canSwap cI cZ cO q_t q_t_held q_t_known q_t_worths t_count t_held t_known) sz)) 0 0 (va_A (wlX1_canSwap cI cZ cO q_t q_t_held q_t_known q_t_worths t_count t_held t_known) sz) := by
  unfold fX1_canSwap at h
  refine nh_met (cc := cX1_canSwap) (maxL := 3) (ret := (some .boolean)) (nh_Qi D (wlX1_canSwap cI cZ cO q_t q_t_held q_t_known q_t_worths t_count t_held t_known) o_r) (by decide) rfl (Nat.le_of_ble_eq_true rfl) ?_
  intro p e s m args below meth c A H locs ls hx hb hml hr hown hts hlocks hinit hP hK hN hD hA hS hl
  have hl : lv_has ls 3 [(0, .ref q_t), (1, .int i1), (2, .int i2)] := hl
  have hiX1 : ∀ w ∈ u_ws RX1 TX1 4, w ∈ wsX1_canSwap := by decide +kernel
  have hw0 := hts (.fieldLink RX1 15 "NeverHadBefore$People" "known" "[I") (by decide +kernel)
  have hw1 := hts (.fieldLink RX1 9 "NeverHadBefore$People" "held" "[I") (by decide +kernel)
  refine lv_aload_n hx hb dX1_canSwap_0 rfl (lv_at hl 0 rfl) ?_
  refine lv_iload_n hx hb dX1_canSwap_1 rfl (lv_at hl 1 rfl) ?_
  refine nh_goi (nh_V (As := [.int i1]) (rest := []) ⟨hx, hb, hml, hown, hts⟩ (kX1_has  l D cI cZ cO H.size q_t q_t_held q_t_known q_t_worths t_count i1 (fX1_has t_count i1) rfl) (cwV 1 hts gX1_canSwap_X1_has rfl rfl rfl (by decide +kernel) ⟨Nat.le_of_ble_eq_true rfl, Nat.le_of_ble_eq_true rfl⟩) hK hN hP hD (isC := [0]) rfl rfl 0 1 rfl rfl rfl rfl hl.1 rfl (Nat.le_of_ble_eq_true rfl) dX1_canSwap_2 ⟨Nat.zero_le _, Nat.zero_le _⟩) hP hD hS hA (isC := [0]) rfl rfl rfl (w' := (wlX1_canSwap cI cZ cO q_t q_t_held q_t_known q_t_worths t_count t_held t_known)) rfl (fun H locs hP hD hS => ?_)
  refine lv_if_eq (tgt := 56) hx hb dX1_canSwap_5 (by decide) (fun c1 => ?_) (fun c1 => ?_)
  · replace h := nh_t h c1
    refine lv_iconst (v := 0) hx hb dX1_canSwap_56 (by decide) ?_
    replace h := nh_i1 h
    exact nh_rz hx hb hr hlocks h rfl hP hS dX1_canSwap_57
  · replace h := nh_f h c1
    refine lv_aload_n hx hb dX1_canSwap_8 rfl (lv_at hl 0 rfl) ?_
    refine lv_iload_n hx hb dX1_canSwap_9 rfl (lv_at hl 2 rfl) ?_
    refine nh_goi (nh_V (As := [.int i2]) (rest := []) ⟨hx, hb, hml, hown, hts⟩ (kX1_has  l D cI cZ cO H.size q_t q_t_held q_t_known q_t_worths t_count i2 (fX1_has t_count i2) rfl) (cwV 1 hts gX1_canSwap_X1_has rfl rfl rfl (by decide +kernel) ⟨Nat.le_of_ble_eq_true rfl, Nat.le_of_ble_eq_true rfl⟩) hK hN hP hD (isC := [0]) rfl rfl 0 1 rfl rfl rfl rfl hl.1 rfl (Nat.le_of_ble_eq_true rfl) dX1_canSwap_10 ⟨Nat.zero_le _, Nat.zero_le _⟩) hP hD hS hA (isC := [0]) rfl rfl rfl (w' := (wlX1_canSwap cI cZ cO q_t q_t_held q_t_known q_t_worths t_count t_held t_known)) rfl (fun H locs hP hD hS => ?_)
    refine lv_if_eq (tgt := 56) hx hb dX1_canSwap_13 (by decide) (fun c2 => ?_) (fun c2 => ?_)
    · replace h := nh_t h c2
      refine lv_iconst (v := 0) hx hb dX1_canSwap_56 (by decide) ?_
      replace h := nh_i1 h
      exact nh_rz hx hb hr hlocks h rfl hP hS dX1_canSwap_57
    · replace h := nh_f h c2
      refine lv_aload_n hx hb dX1_canSwap_16 rfl (lv_at hl 0 rfl) ?_
      refine va_get (D := D) (ci := 1) (v := .ref q_t_known) (C := RX1) (T := TX1) (N := 4) hx hb hts hiX1 hown hK hP 0 rfl rfl 2 (by decide) hw0 (fun _ h9 => h9) rfl dX1_canSwap_17 ?_
      refine lv_iload_n hx hb dX1_canSwap_20 rfl (lv_at hl 1 rfl) ?_
      obtain ⟨z3, h⟩ := nh_chk_some h
      refine va_iald hx hb hK hP 2 0 rfl rfl (nh_in_in z3) dX1_canSwap_21 ?_
      refine lv_aload_n hx hb dX1_canSwap_22 rfl (lv_at hl 0 rfl) ?_
      refine va_get (D := D) (ci := 1) (v := .ref q_t_held) (C := RX1) (T := TX1) (N := 4) hx hb hts hiX1 hown hK hP 0 rfl rfl 1 (by decide) hw1 (fun _ h9 => h9) rfl dX1_canSwap_23 ?_
      refine lv_iload_n hx hb dX1_canSwap_26 rfl (lv_at hl 2 rfl) ?_
      obtain ⟨z4, h⟩ := nh_chk_some h
      refine va_iald hx hb hK hP 1 0 rfl rfl (nh_in_in z4) dX1_canSwap_27 ?_
      refine nh_goi (nh_S (As := [.int (t_known (Int32.toNatClampNeg i1)), .int (t_held (Int32.toNatClampNeg i2))]) (rest := []) ⟨hx, hb, hml, hown, hts⟩ (kX1_lacks  l D cI cZ cO H.size (t_known (Int32.toNatClampNeg i1)) (t_held (Int32.toNatClampNeg i2)) (fX1_lacks (t_known (Int32.toNatClampNeg i1)) (t_held (Int32.toNatClampNeg i2))) rfl) (va_cwS 2 hts gX1_canSwap_X1_lacks rfl rfl rfl (by decide +kernel) ⟨Nat.le_of_ble_eq_true rfl, Nat.le_of_ble_eq_true rfl⟩) hK hN hP hD (isC := []) rfl rfl rfl hl.1 rfl (Nat.le_of_ble_eq_true rfl) dX1_canSwap_28 ⟨Nat.zero_le _, Nat.zero_le _⟩) hP hD hS hA (isC := []) rfl rfl rfl (w' := (wlX1_canSwap cI cZ cO q_t q_t_held q_t_known q_t_worths t_count t_held t_known)) rfl (fun H locs hP hD hS => ?_)
      refine lv_if_eq (tgt := 56) hx hb dX1_canSwap_31 (by decide) (fun c5 => ?_) (fun c5 => ?_)
      · replace h := nh_t h c5
        refine lv_iconst (v := 0) hx hb dX1_canSwap_56 (by decide) ?_
        replace h := nh_i1 h
        exact nh_rz hx hb hr hlocks h rfl hP hS dX1_canSwap_57
      · replace h := nh_f h c5
        refine lv_aload_n hx hb dX1_canSwap_34 rfl (lv_at hl 0 rfl) ?_
        refine va_get (D := D) (ci := 1) (v := .ref q_t_known) (C := RX1) (T := TX1) (N := 4) hx hb hts hiX1 hown hK hP 0 rfl rfl 2 (by decide) hw0 (fun _ h9 => h9) rfl dX1_canSwap_35 ?_
        refine lv_iload_n hx hb dX1_canSwap_38 rfl (lv_at hl 2 rfl) ?_
        obtain ⟨z6, h⟩ := nh_chk_some h
        refine va_iald hx hb hK hP 2 0 rfl rfl (nh_in_in z6) dX1_canSwap_39 ?_
        refine lv_aload_n hx hb dX1_canSwap_40 rfl (lv_at hl 0 rfl) ?_
        refine va_get (D := D) (ci := 1) (v := .ref q_t_held) (C := RX1) (T := TX1) (N := 4) hx hb hts hiX1 hown hK hP 0 rfl rfl 1 (by decide) hw1 (fun _ h9 => h9) rfl dX1_canSwap_41 ?_
        refine lv_iload_n hx hb dX1_canSwap_44 rfl (lv_at hl 1 rfl) ?_
        obtain ⟨z7, h⟩ := nh_chk_some h
        refine va_iald hx hb hK hP 1 0 rfl rfl (nh_in_in z7) dX1_canSwap_45 ?_
        refine nh_goi (nh_S (As := [.int (t_known (Int32.toNatClampNeg i2)), .int (t_held (Int32.toNatClampNeg i1))]) (rest := []) ⟨hx, hb, hml, hown, hts⟩ (kX1_lacks  l D cI cZ cO H.size (t_known (Int32.toNatClampNeg i2)) (t_held (Int32.toNatClampNeg i1)) (fX1_lacks (t_known (Int32.toNatClampNeg i2)) (t_held (Int32.toNatClampNeg i1))) rfl) (va_cwS 2 hts gX1_canSwap_X1_lacks rfl rfl rfl (by decide +kernel) ⟨Nat.le_of_ble_eq_true rfl, Nat.le_of_ble_eq_true rfl⟩) hK hN hP hD (isC := []) rfl rfl rfl hl.1 rfl (Nat.le_of_ble_eq_true rfl) dX1_canSwap_46 ⟨Nat.zero_le _, Nat.zero_le _⟩) hP hD hS hA (isC := []) rfl rfl rfl (w' := (wlX1_canSwap cI cZ cO q_t q_t_held q_t_known q_t_worths t_count t_held t_known)) rfl (fun H locs hP hD hS => ?_)
        refine lv_if_eq (tgt := 56) hx hb dX1_canSwap_49 (by decide) (fun c8 => ?_) (fun c8 => ?_)
        · replace h := nh_t h c8
          refine lv_iconst (v := 0) hx hb dX1_canSwap_56 (by decide) ?_
          replace h := nh_i1 h
          exact nh_rz hx hb hr hlocks h rfl hP hS dX1_canSwap_57
        · replace h := nh_f h c8
          refine lv_iconst (v := 1) hx hb dX1_canSwap_52 (by decide) ?_
          refine lv_goto (tgt := 57) hx hb dX1_canSwap_53 (by decide) ?_
          replace h := nh_i1 h
          exact nh_rz hx hb hr hlocks h rfl hP hS dX1_canSwap_57
abbrev wlX1_canSwapAtAll (cI cZ cO : ClassId) (q_t q_t_held q_t_known q_t_worths : Nat) (t_count : Int32) (t_held : Nat → Int32) (t_known : Nat → Int32) : va_W := [(q_t, .inr (1, [.int t_count, .ref q_t_held, .ref q_t_known, .ref q_t_worths])), (q_t_held, .inl (cI, 4, .inl t_held)), (q_t_known, .inl (cI, 4, .inl t_known))]
def fX1_canSwapAtAll_B2 (t_count : Int32) (t_held : Nat → Int32) (t_known : Nat → Int32) (i1 : Int32) (k2 : Int32 → Option (Int32)) (r2 : Int32 → Option (Int32)) (x2_1 : Int32) : Option (Int32) :=
  (if t_count ≤ x2_1 then k2 x2_1
 else nh_b1 (fX1_canSwap t_count t_held t_known i1 x2_1) (fun r_4 => (if r_4 = 0 then nh_let (α := Int32) (x2_1 + 1) (fun x2_7 => r2 x2_7)
 else some 1)))
def fX1_canSwapAtAll_L2 (t_count : Int32) (t_held : Nat → Int32) (t_known : Nat → Int32) (i1 : Int32) (k2 : Int32 → Option (Int32)) : Nat → Int32 → Option (Int32)
  | 0 => fun _ => none
  | n + 1 => fX1_canSwapAtAll_B2 t_count t_held t_known i1 k2 (fX1_canSwapAtAll_L2 t_count t_held t_known i1 k2 n)
def fX1_canSwapAtAll (F : Nat) (t_count : Int32) (t_held : Nat → Int32) (t_known : Nat → Int32) (i1 : Int32) : Option (Int32) :=
  fX1_canSwapAtAll_L2 t_count t_held t_known i1 (fun x2_2 => some 0) F 0
set_option maxHeartbeats 4000000 in
set_option maxRecDepth 100000 in
theorem kX1_canSwapAtAll (F : Nat) (l : Launch) (D : va_G) (cI cZ cO : ClassId) (sz : Nat) (q_t q_t_held q_t_known q_t_worths : Nat) (t_count : Int32) (t_held : Nat → Int32) (t_known : Nat → Int32) (i1 : Int32) (o_r : Int32) (h : fX1_canSwapAtAll F t_count t_held t_known i1 = some o_r) : Met l yX1_canSwapAtAll wsX1_canSwapAtAll (nh_rm 2) (nh_Pc D cI cZ cO (wlX1_canSwapAtAll cI cZ cO q_t q_t_held q_t_known q_t_worths t_count t_held t_known) [.ref q_t, .int i1] sz) ((nh_Qi D (wlX1_canSwapAtAll cI cZ cO q_t q_t_held q_t_known q_t_worths t_count t_held t_known) o_r) (va_A (wlX1_canSwapAtAll cI cZ cO q_t q_t_held q_t_known q_t_worths t_count t_held t_known) sz)) 0 0 (va_A (wlX1_canSwapAtAll cI cZ cO q_t q_t_held q_t_known q_t_worths t_count t_held t_known) sz) := by
  unfold fX1_canSwapAtAll at h
  refine nh_met (cc := cX1_canSwapAtAll) (maxL := 3) (ret := (some .boolean)) (nh_Qi D (wlX1_canSwapAtAll cI cZ cO q_t q_t_held q_t_known q_t_worths t_count t_held t_known) o_r) (by decide) rfl (Nat.le_of_ble_eq_true rfl) ?_
  intro p e s m args below meth c A H locs ls hx hb hml hr hown hts hlocks hinit hP hK hN hD hA hS hl
  have hl : lv_has ls 3 [(0, .ref q_t), (1, .int i1)] := hl
  have hiX1 : ∀ w ∈ u_ws RX1 TX1 4, w ∈ wsX1_canSwapAtAll := by decide +kernel
  have hw0 := hts (.fieldLink RX1 21 "NeverHadBefore$People" "count" "I") (by decide +kernel)
  refine lv_iconst (v := 0) hx hb dX1_canSwapAtAll_0 (by decide) ?_
  refine lv_istore_n (lv' := [(2, .int 0), (0, .ref q_t), (1, .int i1)]) hx hb dX1_canSwapAtAll_1 rfl hl (by decide) rfl (fun ls hl => ?_)
  have L2 : ∀ (k2 : Int32 → Option (Int32)), (∀ (x2_2 : Int32) (H : Heap) (locs : List Loc) (ls : Array Slot), va_P D vwCl (wlX1_canSwapAtAll cI cZ cO q_t q_t_held q_t_known q_t_worths t_count t_held t_known) H → va_D A (wlX1_canSwapAtAll cI cZ cO q_t q_t_held q_t_known q_t_worths t_count t_held t_known) → va_S A s.heap H locs → lv_has ls 3 [(0, .ref q_t), (1, .int i1), (2, .int x2_2)] → k2 x2_2 = some o_r → W p l e (nh_rm 2) s m args below meth c H locs 0 0 (MQ below ((nh_Qi D (wlX1_canSwapAtAll cI cZ cO q_t q_t_held q_t_known q_t_worths t_count t_held t_known) o_r) A) args s 0 0 A) (F0 m 27 ls [])) → ∀ (n : Nat) (x2_1 : Int32) (H : Heap) (locs : List Loc) (ls : Array Slot), va_P D vwCl (wlX1_canSwapAtAll cI cZ cO q_t q_t_held q_t_known q_t_worths t_count t_held t_known) H → va_D A (wlX1_canSwapAtAll cI cZ cO q_t q_t_held q_t_known q_t_worths t_count t_held t_known) → va_S A s.heap H locs → lv_has ls 3 [(0, .ref q_t), (1, .int i1), (2, .int x2_1)] → fX1_canSwapAtAll_L2 t_count t_held t_known i1 k2 n x2_1 = some o_r → W p l e (nh_rm 2) s m args below meth c H locs 0 0 (MQ below ((nh_Qi D (wlX1_canSwapAtAll cI cZ cO q_t q_t_held q_t_known q_t_worths t_count t_held t_known) o_r) A) args s 0 0 A) (F0 m 2 ls []) := by
    intro k2 hk2 n
    induction n with
    | zero => intro x2_1 H locs ls hP hD hS hl h; exact (nh_none h).elim
    | succ n2 ih2 =>
      intro x2_1 H locs ls hP hD hS hl h
      replace h : fX1_canSwapAtAll_B2 t_count t_held t_known i1 k2 (fX1_canSwapAtAll_L2 t_count t_held t_known i1 k2 n2) x2_1 = some o_r := h
      unfold fX1_canSwapAtAll_B2 at h
      refine lv_iload_n hx hb dX1_canSwapAtAll_2 rfl (lv_at hl 2 rfl) ?_
      refine lv_aload_n hx hb dX1_canSwapAtAll_3 rfl (lv_at hl 0 rfl) ?_
      refine va_get (D := D) (ci := 1) (v := .int t_count) (C := RX1) (T := TX1) (N := 4) hx hb hts hiX1 hown hK hP 0 rfl rfl 0 (by decide) hw0 (fun _ h9 => h9) rfl dX1_canSwapAtAll_4 ?_
      refine lv_icmp_ge (tgt := 27) hx hb dX1_canSwapAtAll_7 (by decide) (fun c3 => ?_) (fun c3 => ?_)
      · replace h := nh_t h c3
        exact hk2 x2_1 H locs ls hP hD hS (lv_sub hl [0, 1, 2] rfl) h
      · replace h := nh_f h c3
        refine lv_aload_n hx hb dX1_canSwapAtAll_10 rfl (lv_at hl 0 rfl) ?_
        refine lv_iload_n hx hb dX1_canSwapAtAll_11 rfl (lv_at hl 1 rfl) ?_
        refine lv_iload_n hx hb dX1_canSwapAtAll_12 rfl (lv_at hl 2 rfl) ?_
        obtain ⟨r_4, hc5, h⟩ := nh_b1_some h
        refine nh_goi (nh_V (As := [.int i1, .int x2_1]) (rest := []) ⟨hx, hb, hml, hown, hts⟩ (kX1_canSwap  l D cI cZ cO H.size q_t q_t_held q_t_known q_t_worths t_count t_held t_known i1 x2_1 r_4 hc5) (cwV 2 hts gX1_canSwapAtAll_X1_canSwap rfl rfl rfl (by decide +kernel) ⟨Nat.le_of_ble_eq_true rfl, Nat.le_of_ble_eq_true rfl⟩) hK hN hP hD (isC := [0, 1, 2]) rfl rfl 0 1 rfl rfl rfl rfl hl.1 rfl (Nat.le_of_ble_eq_true rfl) dX1_canSwapAtAll_13 ⟨Nat.zero_le _, Nat.zero_le _⟩) hP hD hS hA (isC := [0, 1, 2]) rfl rfl rfl (w' := (wlX1_canSwapAtAll cI cZ cO q_t q_t_held q_t_known q_t_worths t_count t_held t_known)) rfl (fun H locs hP hD hS => ?_)
        refine lv_if_eq (tgt := 21) hx hb dX1_canSwapAtAll_16 (by decide) (fun c6 => ?_) (fun c6 => ?_)
        · replace h := nh_t h c6
          obtain ⟨x2_7, ex2_7⟩ : ∃ y : Int32, y = x2_1 + 1 := ⟨_, rfl⟩
          replace h := nh_to h ex2_7
          refine lv_iinc (v := x2_7) (lv' := [(2, .int x2_7), (0, .ref q_t), (1, .int i1)]) hx hb dX1_canSwapAtAll_21 hl (k := 2) rfl (by rw [ex2_7]; rfl) (by decide) rfl (fun ls hl => ?_)
          refine lv_goto (tgt := 2) hx hb dX1_canSwapAtAll_24 (by decide) ?_
          exact ih2 x2_7 H locs ls hP hD hS (lv_sub hl [1, 2, 0] rfl) h
        · replace h := nh_f h c6
          refine lv_iconst (v := 1) hx hb dX1_canSwapAtAll_19 (by decide) ?_
          replace h := nh_i1 h
          exact nh_rz hx hb hr hlocks h rfl hP hS dX1_canSwapAtAll_20
  refine L2 _ (fun x2_2 H locs ls hP hD hS hl h => ?_) _ 0 H locs ls hP hD hS (lv_sub hl [1, 2, 0] rfl) h
  refine lv_iconst (v := 0) hx hb dX1_canSwapAtAll_27 (by decide) ?_
  replace h := nh_i1 h
  exact nh_rz hx hb hr hlocks h rfl hP hS dX1_canSwapAtAll_28
