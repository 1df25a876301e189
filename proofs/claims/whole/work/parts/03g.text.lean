abbrev wlX7_append (cI cZ cO : ClassId) (q_t q_t_bytes : Nat) (t_length : Int32) (t_bytes : Nat → Int32) : va_W := [(q_t, .inr (6, [.int t_length, .ref q_t_bytes])), (q_t_bytes, .inl (cI, 64, .inl t_bytes))]
def fX7_append_B5 (j2 : Int64) (k5 : Int32 → Int32 → (Nat → Int32) → Option (Int32 × (Nat → Int32))) (r5 : Int32 → Int32 → (Nat → Int32) → Option (Int32 × (Nat → Int32))) (x4_2 : Int32) (t_length_3 : Int32) (t_bytes_4 : Nat → Int32) : Option (Int32 × (Nat → Int32)) :=
  (if x4_2 < 0 then k5 x4_2 t_length_3 t_bytes_4
 else (if 64 ≤ t_length_3 then k5 x4_2 t_length_3 t_bytes_4
 else nh_chk (nh_in t_length_3 64) (nh_let (α := Nat → Int32) (upd t_bytes_4 (Int32.toNatClampNeg t_length_3) ((Int64.toInt32 ((Int64.toUInt64 j2 >>> ((Int32.toInt64 (8 * x4_2)).toUInt64 &&& Int64.toUInt64 63)).toInt64)) &&& 255)) (fun t_bytes_11 => nh_let (α := Int32) ((t_length_3 + 1)) (fun y_12 => nh_let (α := Int32) (x4_2 + (-1)) (fun x4_13 => r5 x4_13 y_12 t_bytes_11))))))
def fX7_append_L5 (j2 : Int64) (k5 : Int32 → Int32 → (Nat → Int32) → Option (Int32 × (Nat → Int32))) : Nat → Int32 → Int32 → (Nat → Int32) → Option (Int32 × (Nat → Int32))
  | 0 => fun _ _ _ => none
  | n + 1 => fX7_append_B5 j2 k5 (fX7_append_L5 j2 k5 n)
def fX7_append (F : Nat) (t_length : Int32) (t_bytes : Nat → Int32) (i1 : Int32) (j2 : Int64) : Option (Int32 × (Nat → Int32)) :=
  nh_let (α := Int32) ((i1 - 1)) (fun y_1 => fX7_append_L5 j2 (fun x4_5 t_length_6 t_bytes_7 => some (t_length_6, t_bytes_7)) F y_1 t_length t_bytes)
set_option maxHeartbeats 4000000 in
set_option maxRecDepth 100000 in
theorem kX7_append (F : Nat) (l : Launch) (D : va_G) (cI cZ cO : ClassId) (sz : Nat) (q_t q_t_bytes : Nat) (t_length : Int32) (t_bytes : Nat → Int32) (i1 : Int32) (j2 : Int64) (o_t_length : Int32) (o_t_bytes : Nat → Int32) (h : fX7_append F t_length t_bytes i1 j2 = some (o_t_length, o_t_bytes)) : Met l yX7_append (nh_w (.code yX7_append cX7_append 5 none)) (nh_rm 0) (nh_Pc D cI cZ cO (wlX7_append cI cZ cO q_t q_t_bytes t_length t_bytes) [.ref q_t, .int i1, .long j2] sz) ((nh_Qv D (wlX7_append cI cZ cO q_t q_t_bytes o_t_length o_t_bytes)) (va_A (wlX7_append cI cZ cO q_t q_t_bytes t_length t_bytes) sz)) 0 0 (va_A (wlX7_append cI cZ cO q_t q_t_bytes t_length t_bytes) sz) := by
  unfold fX7_append at h
  refine nh_met (cc := cX7_append) (maxL := 5) (ret := none) (nh_Qv D (wlX7_append cI cZ cO q_t q_t_bytes o_t_length o_t_bytes)) (by decide) rfl (Nat.le_of_ble_eq_true rfl) ?_
  intro p e s m args below meth c A H locs ls hx hb hml hr hown hts hlocks hinit hP hK hN hD hA hS hl
  have hl : lv_has ls 5 [(0, .ref q_t), (1, .int i1), (2, .long j2)] := hl
  have hts : ∀ w ∈ nh_words, w.before args s = true := fun w h => hts w (List.mem_cons_of_mem _ h)
  refine lv_iload_n hx hb dX7_append_0 rfl (lv_at hl 1 rfl) ?_
  refine lv_iconst (v := 1) hx hb dX7_append_1 (by decide) ?_
  refine lv_isub hx hb dX7_append_2 ?_
  refine lv_topi (fun y_1 ey_1 => ?_)
  replace h := nh_to h ey_1
  refine lv_istore (lv' := [(4, .int y_1), (0, .ref q_t), (1, .int i1), (2, .long j2)]) hx hb dX7_append_3 hl (by decide) rfl (fun ls hl => ?_)
  have L5 : ∀ (k5 : Int32 → Int32 → (Nat → Int32) → Option (Int32 × (Nat → Int32))), (∀ (x4_5 : Int32) (t_length_6 : Int32) (t_bytes_7 : Nat → Int32) (H : Heap) (locs : List Loc) (ls : Array Slot), va_P D vwCl (wlX7_append cI cZ cO q_t q_t_bytes t_length_6 t_bytes_7) H → va_D A (wlX7_append cI cZ cO q_t q_t_bytes t_length_6 t_bytes_7) → va_S A s.heap H locs → lv_has ls 5 [(0, .ref q_t), (1, .int i1), (2, .long j2), (4, .int x4_5)] → k5 x4_5 t_length_6 t_bytes_7 = some (o_t_length, o_t_bytes) → W p l e (nh_rm 0) s m args below meth c H locs 0 0 (MQ below ((nh_Qv D (wlX7_append cI cZ cO q_t q_t_bytes o_t_length o_t_bytes)) A) args s 0 0 A) (F0 m 56 ls [])) → ∀ (n : Nat) (x4_2 : Int32) (t_length_3 : Int32) (t_bytes_4 : Nat → Int32) (H : Heap) (locs : List Loc) (ls : Array Slot), va_P D vwCl (wlX7_append cI cZ cO q_t q_t_bytes t_length_3 t_bytes_4) H → va_D A (wlX7_append cI cZ cO q_t q_t_bytes t_length_3 t_bytes_4) → va_S A s.heap H locs → lv_has ls 5 [(0, .ref q_t), (1, .int i1), (2, .long j2), (4, .int x4_2)] → fX7_append_L5 j2 k5 n x4_2 t_length_3 t_bytes_4 = some (o_t_length, o_t_bytes) → W p l e (nh_rm 0) s m args below meth c H locs 0 0 (MQ below ((nh_Qv D (wlX7_append cI cZ cO q_t q_t_bytes o_t_length o_t_bytes)) A) args s 0 0 A) (F0 m 5 ls []) := by
    intro k5 hk5 n
    induction n with
    | zero => intro x4_2 t_length_3 t_bytes_4 H locs ls hP hD hS hl h; exact (nh_none h).elim
    | succ n5 ih5 =>
      intro x4_2 t_length_3 t_bytes_4 H locs ls hP hD hS hl h
      replace h : fX7_append_B5 j2 k5 (fX7_append_L5 j2 k5 n5) x4_2 t_length_3 t_bytes_4 = some (o_t_length, o_t_bytes) := h
      unfold fX7_append_B5 at h
      refine lv_iload hx hb dX7_append_5 (lv_at hl 3 rfl) ?_
      refine lv_if_lt (tgt := 56) hx hb dX7_append_7 (by decide) (fun c8 => ?_) (fun c8 => ?_)
      · replace h := nh_t h c8
        exact hk5 x4_2 t_length_3 t_bytes_4 H locs ls hP hD hS (lv_sub hl [0, 1, 2, 3] rfl) h
      · replace h := nh_f h c8
        refine lv_aload_n hx hb dX7_append_10 rfl (lv_at hl 0 rfl) ?_
        refine va_get (D := D) (ci := 6) (v := .int t_length_3) (C := RX7) (T := TX7) (N := 2) hx hb hts nhu_X7 hown hK hP 0 rfl rfl 0 (by decide) (hts _ nhw_284) (fun _ h9 => h9) rfl dX7_append_11 ?_
        refine lv_bipush (v := 64) hx hb dX7_append_14 (by decide) ?_
        refine lv_icmp_ge (tgt := 56) hx hb dX7_append_16 (by decide) (fun c9 => ?_) (fun c9 => ?_)
        · replace h := nh_t h c9
          exact hk5 x4_2 t_length_3 t_bytes_4 H locs ls hP hD hS (lv_sub hl [0, 1, 2, 3] rfl) h
        · replace h := nh_f h c9
          refine lv_aload_n hx hb dX7_append_19 rfl (lv_at hl 0 rfl) ?_
          refine va_get (D := D) (ci := 6) (v := .ref q_t_bytes) (C := RX7) (T := TX7) (N := 2) hx hb hts nhu_X7 hown hK hP 0 rfl rfl 1 (by decide) (hts _ nhw_283) (fun _ h9 => h9) rfl dX7_append_20 ?_
          refine lv_aload_n hx hb dX7_append_23 rfl (lv_at hl 0 rfl) ?_
          refine va_get (D := D) (ci := 6) (v := .int t_length_3) (C := RX7) (T := TX7) (N := 2) hx hb hts nhu_X7 hown hK hP 0 rfl rfl 0 (by decide) (hts _ nhw_284) (fun _ h9 => h9) rfl dX7_append_24 ?_
          refine lv_lload_n hx hb dX7_append_27 rfl (lv_at hl 2 rfl) ?_
          refine lv_bipush (v := 8) hx hb dX7_append_28 (by decide) ?_
          refine lv_iload hx hb dX7_append_30 (lv_at hl 3 rfl) ?_
          refine lv_imul hx hb dX7_append_32 ?_
          refine lv_lushr hx hb dX7_append_33 rfl ?_
          refine lv_l2i hx hb dX7_append_34 rfl ?_
          refine lv_sipush (v := 255) hx hb dX7_append_35 (by decide) ?_
          refine lv_iand hx hb dX7_append_38 ?_
          obtain ⟨z10, h⟩ := nh_chk_some h
          refine va_iast hx hb hK hP hD hS 1 0 rfl rfl (nh_in_in z10) dX7_append_39 (fun H locs hP hD hS => ?_)
          obtain ⟨t_bytes_11, et_bytes_11⟩ : ∃ y : Nat → Int32, y = upd t_bytes_4 (Int32.toNatClampNeg t_length_3) ((Int64.toInt32 ((Int64.toUInt64 j2 >>> ((Int32.toInt64 (8 * x4_2)).toUInt64 &&& Int64.toUInt64 63)).toInt64)) &&& 255) := ⟨_, rfl⟩
          replace h := nh_to h et_bytes_11
          have hP : va_P D vwCl (wlX7_append cI cZ cO q_t q_t_bytes t_length_3 t_bytes_11) H := by rw [et_bytes_11]; exact hP
          have hD : va_D A (wlX7_append cI cZ cO q_t q_t_bytes t_length_3 t_bytes_11) := by rw [et_bytes_11]; exact hD
          refine lv_aload_n hx hb dX7_append_40 rfl (lv_at hl 0 rfl) ?_
          refine lv_dup hx hb dX7_append_41 rfl ?_
          refine va_get (D := D) (ci := 6) (v := .int t_length_3) (C := RX7) (T := TX7) (N := 2) hx hb hts nhu_X7 hown hK hP 0 rfl rfl 0 (by decide) (hts _ nhw_284) (fun _ h9 => h9) rfl dX7_append_42 ?_
          refine lv_iconst (v := 1) hx hb dX7_append_45 (by decide) ?_
          refine lv_iadd hx hb dX7_append_46 ?_
          refine lv_topi (fun y_12 ey_12 => ?_)
          replace h := nh_to h ey_12
          refine va_put (D := D) (ci := 6) (v := .int y_12) (ty := .int) (C := RX7) (T := TX7) (N := 2) hx hb hts nhu_X7 tyX7 tyX7_ok nmX7 hown hK hP hD hS 0 rfl rfl 0 (by decide) (hts _ nhw_284) (fun _ h9 => h9) rfl (by decide +kernel) rfl rfl (Nat.le_of_ble_eq_true rfl) dX7_append_47 (fun H locs hP hD hS => ?_)
          have hP : va_P D vwCl (wlX7_append cI cZ cO q_t q_t_bytes y_12 t_bytes_11) H := hP
          have hD : va_D A (wlX7_append cI cZ cO q_t q_t_bytes y_12 t_bytes_11) := hD
          obtain ⟨x4_13, ex4_13⟩ : ∃ y : Int32, y = x4_2 + (-1) := ⟨_, rfl⟩
          replace h := nh_to h ex4_13
          refine lv_iinc (v := x4_13) (lv' := [(4, .int x4_13), (0, .ref q_t), (1, .int i1), (2, .long j2)]) hx hb dX7_append_50 hl (k := 3) rfl (by rw [ex4_13]; rfl) (by decide) rfl (fun ls hl => ?_)
          refine lv_goto (tgt := 5) hx hb dX7_append_53 (by decide) ?_
          exact ih5 x4_13 y_12 t_bytes_11 H locs ls hP hD hS (lv_sub hl [1, 2, 3, 0] rfl) h
  refine L5 _ (fun x4_5 t_length_6 t_bytes_7 H locs ls hP hD hS hl h => ?_) _ y_1 t_length t_bytes H locs ls hP hD hS (lv_sub hl [1, 2, 3, 0] rfl) h
  obtain ⟨g0, g1⟩ := nh_i2 h
  exact nh_rv hx hb hr hlocks (by rw [← g0, ← g1]; exact hP) hS dX7_append_56
abbrev wlX7_takeKnown (cI cZ cO : ClassId) (q_a0 q_a0_held q_a0_known q_a0_worths : Nat) (a0_count : Int32) (a0_known : Nat → Int32) : va_W := [(q_a0, .inr (1, [.int a0_count, .ref q_a0_held, .ref q_a0_known, .ref q_a0_worths])), (q_a0_known, .inl (cI, 4, .inl a0_known))]
def fX7_takeKnown (a0_count : Int32) (a0_known : Nat → Int32) (i1 : Int32) (i2 : Int32) : Option (Int32 × (Nat → Int32)) :=
  nh_b1 (fX1_isNew a0_count a0_known i1 (i2 - 97)) (fun r_1 => (if r_1 = 0 then some ((-9), a0_known)
 else nh_chk (nh_in i1 4) (nh_chk (nh_in i1 4) (nh_let (α := Nat → Int32) (upd a0_known (Int32.toNatClampNeg i1) ((a0_known (Int32.toNatClampNeg i1)) ||| (fX10_bit (i2 - 97)))) (fun a0_known_6 => some (8, a0_known_6))))))
set_option maxHeartbeats 4000000 in
set_option maxRecDepth 100000 in
theorem kX7_takeKnown (l : Launch) (D : va_G) (cI cZ cO : ClassId) (sz : Nat) (q_a0 q_a0_held q_a0_known q_a0_worths : Nat) (a0_count : Int32) (a0_known : Nat → Int32) (i1 : Int32) (i2 : Int32) (o_r : Int32) (o_a0_known : Nat → Int32) (h : fX7_takeKnown a0_count a0_known i1 i2 = some (o_r, o_a0_known)) : Met l yX7_takeKnown (nh_w (.code yX7_takeKnown cX7_takeKnown 3 (some .int))) (nh_rm 2) (nh_Pc D cI cZ cO (wlX7_takeKnown cI cZ cO q_a0 q_a0_held q_a0_known q_a0_worths a0_count a0_known) [.ref q_a0, .int i1, .int i2] sz) ((nh_Qi D (wlX7_takeKnown cI cZ cO q_a0 q_a0_held q_a0_known q_a0_worths a0_count o_a0_known) o_r) (va_A (wlX7_takeKnown cI cZ cO q_a0 q_a0_held q_a0_known q_a0_worths a0_count a0_known) sz)) 0 0 (va_A (wlX7_takeKnown cI cZ cO q_a0 q_a0_held q_a0_known q_a0_worths a0_count a0_known) sz) := by
  unfold fX7_takeKnown at h
  refine nh_met (cc := cX7_takeKnown) (maxL := 3) (ret := (some .int)) (nh_Qi D (wlX7_takeKnown cI cZ cO q_a0 q_a0_held q_a0_known q_a0_worths a0_count o_a0_known) o_r) (by decide) rfl (Nat.le_of_ble_eq_true rfl) ?_
  intro p e s m args below meth c A H locs ls hx hb hml hr hown hts hlocks hinit hP hK hN hD hA hS hl
  have hl : lv_has ls 3 [(0, .ref q_a0), (1, .int i1), (2, .int i2)] := hl
  have hts : ∀ w ∈ nh_words, w.before args s = true := fun w h => hts w (List.mem_cons_of_mem _ h)
  refine lv_aload_n hx hb dX7_takeKnown_0 rfl (lv_at hl 0 rfl) ?_
  refine lv_iload_n hx hb dX7_takeKnown_1 rfl (lv_at hl 1 rfl) ?_
  refine lv_iload_n hx hb dX7_takeKnown_2 rfl (lv_at hl 2 rfl) ?_
  refine lv_bipush (v := 97) hx hb dX7_takeKnown_3 (by decide) ?_
  refine lv_isub hx hb dX7_takeKnown_5 ?_
  obtain ⟨r_1, hc2, h⟩ := nh_b1_some h
  refine nh_goi (nh_V (As := [.int i1, .int (i2 - 97)]) (rest := []) ⟨hx, hb, hml, hown, hts⟩ (kX1_isNew  l D cI cZ cO H.size q_a0 q_a0_held q_a0_known q_a0_worths a0_count a0_known i1 (i2 - 97) r_1 hc2) (cwV 2 hts (nh_gV nhw_650 nhw_423 nhw_684 nhw_303 nhw_132) rfl rfl rfl (by decide +kernel) ⟨Nat.le_of_ble_eq_true rfl, Nat.le_of_ble_eq_true rfl⟩) hK hN hP hD (isC := [0, 1]) rfl rfl 0 1 rfl rfl rfl rfl hl.1 rfl (Nat.le_of_ble_eq_true rfl) dX7_takeKnown_6 ⟨Nat.zero_le _, Nat.zero_le _⟩) hP hD hS hA (isC := [0, 1]) rfl rfl rfl (w' := (wlX7_takeKnown cI cZ cO q_a0 q_a0_held q_a0_known q_a0_worths a0_count a0_known)) rfl (fun H locs hP hD hS => ?_)
  refine lv_if_ne (tgt := 15) hx hb dX7_takeKnown_9 (by decide) (fun c3 => ?_) (fun c3 => ?_)
  · replace h := nh_f h c3
    refine lv_aload_n hx hb dX7_takeKnown_15 rfl (lv_at hl 0 rfl) ?_
    refine va_get (D := D) (ci := 1) (v := .ref q_a0_known) (C := RX1) (T := TX1) (N := 4) hx hb hts nhu_X1 hown hK hP 0 rfl rfl 2 (by decide) (hts _ nhw_287) (fun _ h9 => h9) rfl dX7_takeKnown_16 ?_
    refine lv_iload_n hx hb dX7_takeKnown_19 rfl (lv_at hl 1 rfl) ?_
    refine lv_dup2_11 hx hb dX7_takeKnown_20 rfl rfl ?_
    obtain ⟨z4, h⟩ := nh_chk_some h
    refine va_iald hx hb hK hP 1 0 rfl rfl (nh_in_in z4) dX7_takeKnown_21 ?_
    refine lv_iload_n hx hb dX7_takeKnown_22 rfl (lv_at hl 2 rfl) ?_
    refine lv_bipush (v := 97) hx hb dX7_takeKnown_23 (by decide) ?_
    refine lv_isub hx hb dX7_takeKnown_25 ?_
    refine nh_goi (nh_SN (As := [.int (i2 - 97)]) (rest := [.int (a0_known (Int32.toNatClampNeg i1)), .int i1, .ref q_a0_known]) ⟨hx, hb, hml, hown, hts⟩ (kX10_bit  l D cI cZ cO H.size (i2 - 97) (fX10_bit (i2 - 97)) rfl) ⟨va_cnB 1 hts (nh_gC nhw_25) rfl rfl rfl (nh_N_at hN 9 rfl) (hts _ nhw_304) (by decide +kernel) ⟨Nat.le_of_ble_eq_true rfl, Nat.le_of_ble_eq_true rfl⟩, (hts _ nhw_804), trivial⟩ hK hN hP hD (isC := []) rfl rfl rfl hl.1 rfl (Nat.le_of_ble_eq_true rfl) dX7_takeKnown_26 ⟨Nat.zero_le _, Nat.zero_le _⟩) hP hD hS hA (isC := []) rfl rfl rfl (w' := (wlX7_takeKnown cI cZ cO q_a0 q_a0_held q_a0_known q_a0_worths a0_count a0_known)) rfl (fun H locs hP hD hS => ?_)
    refine lv_ior hx hb dX7_takeKnown_29 ?_
    obtain ⟨z5, h⟩ := nh_chk_some h
    refine va_iast hx hb hK hP hD hS 1 0 rfl rfl (nh_in_in z5) dX7_takeKnown_30 (fun H locs hP hD hS => ?_)
    obtain ⟨a0_known_6, ea0_known_6⟩ : ∃ y : Nat → Int32, y = upd a0_known (Int32.toNatClampNeg i1) ((a0_known (Int32.toNatClampNeg i1)) ||| (fX10_bit (i2 - 97))) := ⟨_, rfl⟩
    replace h := nh_to h ea0_known_6
    have hP : va_P D vwCl (wlX7_takeKnown cI cZ cO q_a0 q_a0_held q_a0_known q_a0_worths a0_count a0_known_6) H := by rw [ea0_known_6]; exact hP
    have hD : va_D A (wlX7_takeKnown cI cZ cO q_a0 q_a0_held q_a0_known q_a0_worths a0_count a0_known_6) := by rw [ea0_known_6]; exact hD
    refine lv_bipush (v := 8) hx hb dX7_takeKnown_31 (by decide) ?_
    obtain ⟨g0, g1⟩ := nh_i2 h
    exact nh_ri hx hb hr hlocks g0 (by rw [← g1]; exact hP) hS dX7_takeKnown_33
  · replace h := nh_t h c3
    refine lv_bipush (v := (-9)) hx hb dX7_takeKnown_12 (by decide) ?_
    obtain ⟨g0, g1⟩ := nh_i2 h
    exact nh_ri hx hb hr hlocks g0 (by rw [← g1]; exact hP) hS dX7_takeKnown_14
abbrev wlX7_takeThing (cI cZ cO : ClassId) (q_a0 q_a0_held q_a0_known q_a0_worths : Nat) (a0_count : Int32) (a0_held : Nat → Int32) (a0_known : Nat → Int32) : va_W := [(q_a0, .inr (1, [.int a0_count, .ref q_a0_held, .ref q_a0_known, .ref q_a0_worths])), (q_a0_held, .inl (cI, 4, .inl a0_held)), (q_a0_known, .inl (cI, 4, .inl a0_known))]
def fX7_takeThing (a0_held : Nat → Int32) (a0_known : Nat → Int32) (i1 : Int32) (i2 : Int32) : Option (Int32 × (Nat → Int32) × (Nat → Int32)) :=
  (if i2 = 45 then some (2, a0_held, a0_known)
 else (if (fX10_isSort (i2 - 97)) = 0 then some ((-9), a0_held, a0_known)
 else nh_chk (nh_in i1 4) (nh_let (α := Nat → Int32) (upd a0_held (Int32.toNatClampNeg i1) (i2 - 97)) (fun a0_held_4 => nh_chk (nh_in i1 4) (nh_let (α := Nat → Int32) (upd a0_known (Int32.toNatClampNeg i1) (fX10_bit (i2 - 97))) (fun a0_known_6 => some (2, a0_held_4, a0_known_6)))))))
set_option maxHeartbeats 4000000 in
set_option maxRecDepth 100000 in
theorem kX7_takeThing (l : Launch) (D : va_G) (cI cZ cO : ClassId) (sz : Nat) (q_a0 q_a0_held q_a0_known q_a0_worths : Nat) (a0_count : Int32) (a0_held : Nat → Int32) (a0_known : Nat → Int32) (i1 : Int32) (i2 : Int32) (o_r : Int32) (o_a0_held : Nat → Int32) (o_a0_known : Nat → Int32) (h : fX7_takeThing a0_held a0_known i1 i2 = some (o_r, o_a0_held, o_a0_known)) : Met l yX7_takeThing (nh_w (.code yX7_takeThing cX7_takeThing 3 (some .int))) (nh_rm 2) (nh_Pc D cI cZ cO (wlX7_takeThing cI cZ cO q_a0 q_a0_held q_a0_known q_a0_worths a0_count a0_held a0_known) [.ref q_a0, .int i1, .int i2] sz) ((nh_Qi D (wlX7_takeThing cI cZ cO q_a0 q_a0_held q_a0_known q_a0_worths a0_count o_a0_held o_a0_known) o_r) (va_A (wlX7_takeThing cI cZ cO q_a0 q_a0_held q_a0_known q_a0_worths a0_count a0_held a0_known) sz)) 0 0 (va_A (wlX7_takeThing cI cZ cO q_a0 q_a0_held q_a0_known q_a0_worths a0_count a0_held a0_known) sz) := by
  unfold fX7_takeThing at h
  refine nh_met (cc := cX7_takeThing) (maxL := 3) (ret := (some .int)) (nh_Qi D (wlX7_takeThing cI cZ cO q_a0 q_a0_held q_a0_known q_a0_worths a0_count o_a0_held o_a0_known) o_r) (by decide) rfl (Nat.le_of_ble_eq_true rfl) ?_
  intro p e s m args below meth c A H locs ls hx hb hml hr hown hts hlocks hinit hP hK hN hD hA hS hl
  have hl : lv_has ls 3 [(0, .ref q_a0), (1, .int i1), (2, .int i2)] := hl
  have hts : ∀ w ∈ nh_words, w.before args s = true := fun w h => hts w (List.mem_cons_of_mem _ h)
  refine lv_iload_n hx hb dX7_takeThing_0 rfl (lv_at hl 2 rfl) ?_
  refine lv_bipush (v := 45) hx hb dX7_takeThing_1 (by decide) ?_
  refine lv_icmp_ne (tgt := 8) hx hb dX7_takeThing_3 (by decide) (fun c1 => ?_) (fun c1 => ?_)
  · replace h := nh_f h c1
    refine lv_iload_n hx hb dX7_takeThing_8 rfl (lv_at hl 2 rfl) ?_
    refine lv_bipush (v := 97) hx hb dX7_takeThing_9 (by decide) ?_
    refine lv_isub hx hb dX7_takeThing_11 ?_
    refine nh_goi (nh_SN (As := [.int (i2 - 97)]) (rest := []) ⟨hx, hb, hml, hown, hts⟩ (kX10_isSort  l D cI cZ cO H.size (i2 - 97) (fX10_isSort (i2 - 97)) rfl) ⟨va_cnB 1 hts (nh_gC nhw_37) rfl rfl rfl (nh_N_at hN 8 rfl) (hts _ nhw_304) (by decide +kernel) ⟨Nat.le_of_ble_eq_true rfl, Nat.le_of_ble_eq_true rfl⟩, (hts _ nhw_806), trivial⟩ hK hN hP hD (isC := []) rfl rfl rfl hl.1 rfl (Nat.le_of_ble_eq_true rfl) dX7_takeThing_12 ⟨Nat.zero_le _, Nat.zero_le _⟩) hP hD hS hA (isC := []) rfl rfl rfl (w' := (wlX7_takeThing cI cZ cO q_a0 q_a0_held q_a0_known q_a0_worths a0_count a0_held a0_known)) rfl (fun H locs hP hD hS => ?_)
    refine lv_if_ne (tgt := 21) hx hb dX7_takeThing_15 (by decide) (fun c2 => ?_) (fun c2 => ?_)
    · replace h := nh_f h c2
      refine lv_aload_n hx hb dX7_takeThing_21 rfl (lv_at hl 0 rfl) ?_
      refine va_get (D := D) (ci := 1) (v := .ref q_a0_held) (C := RX1) (T := TX1) (N := 4) hx hb hts nhu_X1 hown hK hP 0 rfl rfl 1 (by decide) (hts _ nhw_286) (fun _ h9 => h9) rfl dX7_takeThing_22 ?_
      refine lv_iload_n hx hb dX7_takeThing_25 rfl (lv_at hl 1 rfl) ?_
      refine lv_iload_n hx hb dX7_takeThing_26 rfl (lv_at hl 2 rfl) ?_
      refine lv_bipush (v := 97) hx hb dX7_takeThing_27 (by decide) ?_
      refine lv_isub hx hb dX7_takeThing_29 ?_
      obtain ⟨z3, h⟩ := nh_chk_some h
      refine va_iast hx hb hK hP hD hS 1 0 rfl rfl (nh_in_in z3) dX7_takeThing_30 (fun H locs hP hD hS => ?_)
      obtain ⟨a0_held_4, ea0_held_4⟩ : ∃ y : Nat → Int32, y = upd a0_held (Int32.toNatClampNeg i1) (i2 - 97) := ⟨_, rfl⟩
      replace h := nh_to h ea0_held_4
      have hP : va_P D vwCl (wlX7_takeThing cI cZ cO q_a0 q_a0_held q_a0_known q_a0_worths a0_count a0_held_4 a0_known) H := by rw [ea0_held_4]; exact hP
      have hD : va_D A (wlX7_takeThing cI cZ cO q_a0 q_a0_held q_a0_known q_a0_worths a0_count a0_held_4 a0_known) := by rw [ea0_held_4]; exact hD
      refine lv_aload_n hx hb dX7_takeThing_31 rfl (lv_at hl 0 rfl) ?_
      refine va_get (D := D) (ci := 1) (v := .ref q_a0_known) (C := RX1) (T := TX1) (N := 4) hx hb hts nhu_X1 hown hK hP 0 rfl rfl 2 (by decide) (hts _ nhw_287) (fun _ h9 => h9) rfl dX7_takeThing_32 ?_
      refine lv_iload_n hx hb dX7_takeThing_35 rfl (lv_at hl 1 rfl) ?_
      refine lv_iload_n hx hb dX7_takeThing_36 rfl (lv_at hl 2 rfl) ?_
      refine lv_bipush (v := 97) hx hb dX7_takeThing_37 (by decide) ?_
      refine lv_isub hx hb dX7_takeThing_39 ?_
      refine nh_goi (nh_SN (As := [.int (i2 - 97)]) (rest := [.int i1, .ref q_a0_known]) ⟨hx, hb, hml, hown, hts⟩ (kX10_bit  l D cI cZ cO H.size (i2 - 97) (fX10_bit (i2 - 97)) rfl) ⟨va_cnB 1 hts (nh_gC nhw_25) rfl rfl rfl (nh_N_at hN 9 rfl) (hts _ nhw_304) (by decide +kernel) ⟨Nat.le_of_ble_eq_true rfl, Nat.le_of_ble_eq_true rfl⟩, (hts _ nhw_804), trivial⟩ hK hN hP hD (isC := []) rfl rfl rfl hl.1 rfl (Nat.le_of_ble_eq_true rfl) dX7_takeThing_40 ⟨Nat.zero_le _, Nat.zero_le _⟩) hP hD hS hA (isC := []) rfl rfl rfl (w' := (wlX7_takeThing cI cZ cO q_a0 q_a0_held q_a0_known q_a0_worths a0_count a0_held_4 a0_known)) rfl (fun H locs hP hD hS => ?_)
      obtain ⟨z5, h⟩ := nh_chk_some h
      refine va_iast hx hb hK hP hD hS 2 0 rfl rfl (nh_in_in z5) dX7_takeThing_43 (fun H locs hP hD hS => ?_)
      obtain ⟨a0_known_6, ea0_known_6⟩ : ∃ y : Nat → Int32, y = upd a0_known (Int32.toNatClampNeg i1) (fX10_bit (i2 - 97)) := ⟨_, rfl⟩
      replace h := nh_to h ea0_known_6
      have hP : va_P D vwCl (wlX7_takeThing cI cZ cO q_a0 q_a0_held q_a0_known q_a0_worths a0_count a0_held_4 a0_known_6) H := by rw [ea0_known_6]; exact hP
      have hD : va_D A (wlX7_takeThing cI cZ cO q_a0 q_a0_held q_a0_known q_a0_worths a0_count a0_held_4 a0_known_6) := by rw [ea0_known_6]; exact hD
      refine lv_iconst (v := 2) hx hb dX7_takeThing_44 (by decide) ?_
      obtain ⟨g0, g1, g2⟩ := nh_i3 h
      exact nh_ri hx hb hr hlocks g0 (by rw [← g1, ← g2]; exact hP) hS dX7_takeThing_45
    · replace h := nh_t h c2
      refine lv_bipush (v := (-9)) hx hb dX7_takeThing_18 (by decide) ?_
      obtain ⟨g0, g1, g2⟩ := nh_i3 h
      exact nh_ri hx hb hr hlocks g0 (by rw [← g1, ← g2]; exact hP) hS dX7_takeThing_20
  · replace h := nh_t h c1
    refine lv_iconst (v := 2) hx hb dX7_takeThing_6 (by decide) ?_
    obtain ⟨g0, g1, g2⟩ := nh_i3 h
    exact nh_ri hx hb hr hlocks g0 (by rw [← g1, ← g2]; exact hP) hS dX7_takeThing_7
abbrev wlX7_takeWorth (cI cZ cO : ClassId) (q_a0 q_a0_held q_a0_known q_a0_worths : Nat) (a0_count : Int32) (a0_worths : Nat → Int32) : va_W := [(q_a0, .inr (1, [.int a0_count, .ref q_a0_held, .ref q_a0_known, .ref q_a0_worths])), (q_a0_worths, .inl (cI, 24, .inl a0_worths))]
def fX7_takeWorth (a0_count : Int32) (a0_worths : Nat → Int32) (i1 : Int32) (i2 : Int32) (i3 : Int32) : Option (Int32 × (Nat → Int32)) :=
  (if i3 < 48 then some ((-9), a0_worths)
 else (if i3 ≤ 57 then nh_b1 (fX1_setWorth a0_count a0_worths i1 (i2 - 2) (i3 - 48)) (fun a0_worths_3 => some ((i2 + 1), a0_worths_3))
 else some ((-9), a0_worths)))
set_option maxHeartbeats 4000000 in
set_option maxRecDepth 100000 in
theorem kX7_takeWorth (l : Launch) (D : va_G) (cI cZ cO : ClassId) (sz : Nat) (q_a0 q_a0_held q_a0_known q_a0_worths : Nat) (a0_count : Int32) (a0_worths : Nat → Int32) (i1 : Int32) (i2 : Int32) (i3 : Int32) (o_r : Int32) (o_a0_worths : Nat → Int32) (h : fX7_takeWorth a0_count a0_worths i1 i2 i3 = some (o_r, o_a0_worths)) : Met l yX7_takeWorth (nh_w (.code yX7_takeWorth cX7_takeWorth 4 (some .int))) (nh_rm 2) (nh_Pc D cI cZ cO (wlX7_takeWorth cI cZ cO q_a0 q_a0_held q_a0_known q_a0_worths a0_count a0_worths) [.ref q_a0, .int i1, .int i2, .int i3] sz) ((nh_Qi D (wlX7_takeWorth cI cZ cO q_a0 q_a0_held q_a0_known q_a0_worths a0_count o_a0_worths) o_r) (va_A (wlX7_takeWorth cI cZ cO q_a0 q_a0_held q_a0_known q_a0_worths a0_count a0_worths) sz)) 0 0 (va_A (wlX7_takeWorth cI cZ cO q_a0 q_a0_held q_a0_known q_a0_worths a0_count a0_worths) sz) := by
  unfold fX7_takeWorth at h
  refine nh_met (cc := cX7_takeWorth) (maxL := 4) (ret := (some .int)) (nh_Qi D (wlX7_takeWorth cI cZ cO q_a0 q_a0_held q_a0_known q_a0_worths a0_count o_a0_worths) o_r) (by decide) rfl (Nat.le_of_ble_eq_true rfl) ?_
  intro p e s m args below meth c A H locs ls hx hb hml hr hown hts hlocks hinit hP hK hN hD hA hS hl
  have hl : lv_has ls 4 [(0, .ref q_a0), (1, .int i1), (2, .int i2), (3, .int i3)] := hl
  have hts : ∀ w ∈ nh_words, w.before args s = true := fun w h => hts w (List.mem_cons_of_mem _ h)
  refine lv_iload_n hx hb dX7_takeWorth_0 rfl (lv_at hl 3 rfl) ?_
  refine lv_bipush (v := 48) hx hb dX7_takeWorth_1 (by decide) ?_
  refine lv_icmp_lt (tgt := 12) hx hb dX7_takeWorth_3 (by decide) (fun c1 => ?_) (fun c1 => ?_)
  · replace h := nh_t h c1
    refine lv_bipush (v := (-9)) hx hb dX7_takeWorth_12 (by decide) ?_
    obtain ⟨g0, g1⟩ := nh_i2 h
    exact nh_ri hx hb hr hlocks g0 (by rw [← g1]; exact hP) hS dX7_takeWorth_14
  · replace h := nh_f h c1
    refine lv_iload_n hx hb dX7_takeWorth_6 rfl (lv_at hl 3 rfl) ?_
    refine lv_bipush (v := 57) hx hb dX7_takeWorth_7 (by decide) ?_
    refine lv_icmp_le (tgt := 15) hx hb dX7_takeWorth_9 (by decide) (fun c2 => ?_) (fun c2 => ?_)
    · replace h := nh_t h c2
      refine lv_aload_n hx hb dX7_takeWorth_15 rfl (lv_at hl 0 rfl) ?_
      refine lv_iload_n hx hb dX7_takeWorth_16 rfl (lv_at hl 1 rfl) ?_
      refine lv_iload_n hx hb dX7_takeWorth_17 rfl (lv_at hl 2 rfl) ?_
      refine lv_iconst (v := 2) hx hb dX7_takeWorth_18 (by decide) ?_
      refine lv_isub hx hb dX7_takeWorth_19 ?_
      refine lv_iload_n hx hb dX7_takeWorth_20 rfl (lv_at hl 3 rfl) ?_
      refine lv_bipush (v := 48) hx hb dX7_takeWorth_21 (by decide) ?_
      refine lv_isub hx hb dX7_takeWorth_23 ?_
      obtain ⟨a0_worths_3, hc4, h⟩ := nh_b1_some h
      refine nh_gov (nh_V (As := [.int i1, .int (i2 - 2), .int (i3 - 48)]) (rest := []) ⟨hx, hb, hml, hown, hts⟩ (kX1_setWorth  l D cI cZ cO H.size q_a0 q_a0_held q_a0_known q_a0_worths a0_count a0_worths i1 (i2 - 2) (i3 - 48) a0_worths_3 hc4) (cwV 3 hts (nh_gV nhw_649 nhw_424 nhw_685 nhw_303 nhw_134) rfl rfl rfl (by decide +kernel) ⟨Nat.le_of_ble_eq_true rfl, Nat.le_of_ble_eq_true rfl⟩) hK hN hP hD (isC := [0, 1]) rfl rfl 0 1 rfl rfl rfl rfl hl.1 rfl (Nat.le_of_ble_eq_true rfl) dX7_takeWorth_24 ⟨Nat.zero_le _, Nat.zero_le _⟩) hP hD hS hA (isC := [0, 1]) rfl rfl rfl (w' := (wlX7_takeWorth cI cZ cO q_a0 q_a0_held q_a0_known q_a0_worths a0_count a0_worths_3)) rfl (fun H locs hP hD hS => ?_)
      refine lv_iload_n hx hb dX7_takeWorth_27 rfl (lv_at hl 2 rfl) ?_
      refine lv_iconst (v := 1) hx hb dX7_takeWorth_28 (by decide) ?_
      refine lv_iadd hx hb dX7_takeWorth_29 ?_
      obtain ⟨g0, g1⟩ := nh_i2 h
      exact nh_ri hx hb hr hlocks g0 (by rw [← g1]; exact hP) hS dX7_takeWorth_30
    · replace h := nh_f h c2
      refine lv_bipush (v := (-9)) hx hb dX7_takeWorth_12 (by decide) ?_
      obtain ⟨g0, g1⟩ := nh_i2 h
      exact nh_ri hx hb hr hlocks g0 (by rw [← g1]; exact hP) hS dX7_takeWorth_14
abbrev wlX7_take (cI cZ cO : ClassId) (q_a0 q_a0_held q_a0_known q_a0_worths : Nat) (a0_count : Int32) (a0_held : Nat → Int32) (a0_known : Nat → Int32) (a0_worths : Nat → Int32) : va_W := [(q_a0, .inr (1, [.int a0_count, .ref q_a0_held, .ref q_a0_known, .ref q_a0_worths])), (q_a0_held, .inl (cI, 4, .inl a0_held)), (q_a0_known, .inl (cI, 4, .inl a0_known)), (q_a0_worths, .inl (cI, 24, .inl a0_worths))]
def fX7_take_J26 (i1 : Int32) (i2 : Int32) (a0_count_1 : Int32) (a0_held_2 : Nat → Int32) (a0_known_3 : Nat → Int32) (a0_worths_4 : Nat → Int32) : Option (Int32 × Int32 × (Nat → Int32) × (Nat → Int32) × (Nat → Int32)) :=
  nh_let (α := Int32) ((a0_count_1 - 1)) (fun y_5 => (if 0 ≤ y_5 then (if i1 = 1 then nh_b3 (fX7_takeThing a0_held_2 a0_known_3 y_5 i2) (fun r_15 a0_held_16 a0_known_17 => some (r_15, a0_count_1, a0_held_16, a0_known_17, a0_worths_4))
 else (if 8 ≤ i1 then nh_b2 (fX7_takeKnown a0_count_1 a0_known_3 y_5 i2) (fun r_9 a0_known_10 => some (r_9, a0_count_1, a0_held_2, a0_known_10, a0_worths_4))
 else nh_b2 (fX7_takeWorth a0_count_1 a0_worths_4 y_5 i1 i2) (fun r_12 a0_worths_13 => some (r_12, a0_count_1, a0_held_2, a0_known_3, a0_worths_13))))
 else some ((-9), a0_count_1, a0_held_2, a0_known_3, a0_worths_4)))
def fX7_take (a0_count : Int32) (a0_held : Nat → Int32) (a0_known : Nat → Int32) (a0_worths : Nat → Int32) (i1 : Int32) (i2 : Int32) : Option (Int32 × Int32 × (Nat → Int32) × (Nat → Int32) × (Nat → Int32)) :=
  (if i1 = 8 then (if i2 = 80 then nh_b4 (fX1_addPerson a0_count a0_held a0_known) (fun r_21 a0_count_22 a0_held_23 a0_known_24 => (if r_21 = 0 then some ((-9), a0_count_22, a0_held_23, a0_known_24, a0_worths)
 else some (1, a0_count_22, a0_held_23, a0_known_24, a0_worths)))
 else fX7_take_J26 i1 i2 a0_count a0_held a0_known a0_worths)
 else fX7_take_J26 i1 i2 a0_count a0_held a0_known a0_worths)
set_option maxHeartbeats 4000000 in
set_option maxRecDepth 100000 in
theorem kX7_take (l : Launch) (D : va_G) (cI cZ cO : ClassId) (sz : Nat) (q_a0 q_a0_held q_a0_known q_a0_worths : Nat) (a0_count : Int32) (a0_held : Nat → Int32) (a0_known : Nat → Int32) (a0_worths : Nat → Int32) (i1 : Int32) (i2 : Int32) (o_r : Int32) (o_a0_count : Int32) (o_a0_held : Nat → Int32) (o_a0_known : Nat → Int32) (o_a0_worths : Nat → Int32) (h : fX7_take a0_count a0_held a0_known a0_worths i1 i2 = some (o_r, o_a0_count, o_a0_held, o_a0_known, o_a0_worths)) : Met l yX7_take (nh_w (.code yX7_take cX7_take 4 (some .int))) (nh_rm 3) (nh_Pc D cI cZ cO (wlX7_take cI cZ cO q_a0 q_a0_held q_a0_known q_a0_worths a0_count a0_held a0_known a0_worths) [.ref q_a0, .int i1, .int i2] sz) ((nh_Qi D (wlX7_take cI cZ cO q_a0 q_a0_held q_a0_known q_a0_worths o_a0_count o_a0_held o_a0_known o_a0_worths) o_r) (va_A (wlX7_take cI cZ cO q_a0 q_a0_held q_a0_known q_a0_worths a0_count a0_held a0_known a0_worths) sz)) 0 0 (va_A (wlX7_take cI cZ cO q_a0 q_a0_held q_a0_known q_a0_worths a0_count a0_held a0_known a0_worths) sz) := by
  unfold fX7_take at h
  refine nh_met (cc := cX7_take) (maxL := 4) (ret := (some .int)) (nh_Qi D (wlX7_take cI cZ cO q_a0 q_a0_held q_a0_known q_a0_worths o_a0_count o_a0_held o_a0_known o_a0_worths) o_r) (by decide) rfl (Nat.le_of_ble_eq_true rfl) ?_
  intro p e s m args below meth c A H locs ls hx hb hml hr hown hts hlocks hinit hP hK hN hD hA hS hl
  have hl : lv_has ls 4 [(0, .ref q_a0), (1, .int i1), (2, .int i2)] := hl
  have hts : ∀ w ∈ nh_words, w.before args s = true := fun w h => hts w (List.mem_cons_of_mem _ h)
  have J26 : ∀ (a0_count_1 : Int32) (a0_held_2 : Nat → Int32) (a0_known_3 : Nat → Int32) (a0_worths_4 : Nat → Int32) (H : Heap) (locs : List Loc) (ls : Array Slot), va_P D vwCl (wlX7_take cI cZ cO q_a0 q_a0_held q_a0_known q_a0_worths a0_count_1 a0_held_2 a0_known_3 a0_worths_4) H → va_D A (wlX7_take cI cZ cO q_a0 q_a0_held q_a0_known q_a0_worths a0_count_1 a0_held_2 a0_known_3 a0_worths_4) → va_S A s.heap H locs → lv_has ls 4 [(0, .ref q_a0), (1, .int i1), (2, .int i2)] → fX7_take_J26 i1 i2 a0_count_1 a0_held_2 a0_known_3 a0_worths_4 = some (o_r, o_a0_count, o_a0_held, o_a0_known, o_a0_worths) → W p l e (nh_rm 3) s m args below meth c H locs 0 0 (MQ below ((nh_Qi D (wlX7_take cI cZ cO q_a0 q_a0_held q_a0_known q_a0_worths o_a0_count o_a0_held o_a0_known o_a0_worths) o_r) A) args s 0 0 A) (F0 m 26 ls []) := by
    intro a0_count_1 a0_held_2 a0_known_3 a0_worths_4 H locs ls hP hD hS hl h
    unfold fX7_take_J26 at h
    refine lv_aload_n hx hb dX7_take_26 rfl (lv_at hl 0 rfl) ?_
    refine va_get (D := D) (ci := 1) (v := .int a0_count_1) (C := RX1) (T := TX1) (N := 4) hx hb hts nhu_X1 hown hK hP 0 rfl rfl 0 (by decide) (hts _ nhw_285) (fun _ h9 => h9) rfl dX7_take_27 ?_
    refine lv_iconst (v := 1) hx hb dX7_take_30 (by decide) ?_
    refine lv_isub hx hb dX7_take_31 ?_
    refine lv_topi (fun y_5 ey_5 => ?_)
    replace h := nh_to h ey_5
    refine lv_istore_n (lv' := [(3, .int y_5), (0, .ref q_a0), (1, .int i1), (2, .int i2)]) hx hb dX7_take_32 rfl hl (by decide) rfl (fun ls hl => ?_)
    refine lv_iload_n hx hb dX7_take_33 rfl (lv_at hl 0 rfl) ?_
    refine lv_if_ge (tgt := 40) hx hb dX7_take_34 (by decide) (fun c6 => ?_) (fun c6 => ?_)
    · replace h := nh_t h c6
      refine lv_iload_n hx hb dX7_take_40 rfl (lv_at hl 2 rfl) ?_
      refine lv_iconst (v := 1) hx hb dX7_take_41 (by decide) ?_
      refine lv_icmp_ne (tgt := 52) hx hb dX7_take_42 (by decide) (fun c7 => ?_) (fun c7 => ?_)
      · replace h := nh_f h c7
        refine lv_iload_n hx hb dX7_take_52 rfl (lv_at hl 2 rfl) ?_
        refine lv_bipush (v := 8) hx hb dX7_take_53 (by decide) ?_
        refine lv_icmp_ge (tgt := 66) hx hb dX7_take_55 (by decide) (fun c8 => ?_) (fun c8 => ?_)
        · replace h := nh_t h c8
          refine lv_aload_n hx hb dX7_take_66 rfl (lv_at hl 1 rfl) ?_
          refine lv_iload_n hx hb dX7_take_67 rfl (lv_at hl 0 rfl) ?_
          refine lv_iload_n hx hb dX7_take_68 rfl (lv_at hl 3 rfl) ?_
          obtain ⟨r_9, a0_known_10, hc11, h⟩ := nh_b2_some h
          refine nh_goi (nh_S (As := [.ref q_a0, .int y_5, .int i2]) (rest := []) ⟨hx, hb, hml, hown, hts⟩ (kX7_takeKnown  l D cI cZ cO H.size q_a0 q_a0_held q_a0_known q_a0_worths a0_count_1 a0_known_3 y_5 i2 r_9 a0_known_10 hc11) (va_cwS 3 hts (nh_gS nhw_647 nhw_820 nhw_311 nhw_164) rfl rfl rfl (by decide +kernel) ⟨Nat.le_of_ble_eq_true rfl, Nat.le_of_ble_eq_true rfl⟩) hK hN hP hD (isC := [0, 2]) rfl rfl rfl hl.1 rfl (Nat.le_of_ble_eq_true rfl) dX7_take_69 ⟨Nat.zero_le _, Nat.zero_le _⟩) hP hD hS hA (isC := [0, 2]) rfl rfl rfl (w' := (wlX7_take cI cZ cO q_a0 q_a0_held q_a0_known q_a0_worths a0_count_1 a0_held_2 a0_known_10 a0_worths_4)) rfl (fun H locs hP hD hS => ?_)
          obtain ⟨g0, g1, g2, g3, g4⟩ := nh_i5 h
          exact nh_ri hx hb hr hlocks g0 (by rw [← g1, ← g2, ← g3, ← g4]; exact hP) hS dX7_take_72
        · replace h := nh_f h c8
          refine lv_aload_n hx hb dX7_take_58 rfl (lv_at hl 1 rfl) ?_
          refine lv_iload_n hx hb dX7_take_59 rfl (lv_at hl 0 rfl) ?_
          refine lv_iload_n hx hb dX7_take_60 rfl (lv_at hl 2 rfl) ?_
          refine lv_iload_n hx hb dX7_take_61 rfl (lv_at hl 3 rfl) ?_
          obtain ⟨r_12, a0_worths_13, hc14, h⟩ := nh_b2_some h
          refine nh_goi (nh_S (As := [.ref q_a0, .int y_5, .int i1, .int i2]) (rest := []) ⟨hx, hb, hml, hown, hts⟩ (kX7_takeWorth  l D cI cZ cO H.size q_a0 q_a0_held q_a0_known q_a0_worths a0_count_1 a0_worths_4 y_5 i1 i2 r_12 a0_worths_13 hc14) (va_cwS 4 hts (nh_gS nhw_646 nhw_822 nhw_311 nhw_166) rfl rfl rfl (by decide +kernel) ⟨Nat.le_of_ble_eq_true rfl, Nat.le_of_ble_eq_true rfl⟩) hK hN hP hD (isC := [0, 3]) rfl rfl rfl hl.1 rfl (Nat.le_of_ble_eq_true rfl) dX7_take_62 ⟨Nat.zero_le _, Nat.zero_le _⟩) hP hD hS hA (isC := [0, 3]) rfl rfl rfl (w' := (wlX7_take cI cZ cO q_a0 q_a0_held q_a0_known q_a0_worths a0_count_1 a0_held_2 a0_known_3 a0_worths_13)) rfl (fun H locs hP hD hS => ?_)
          obtain ⟨g0, g1, g2, g3, g4⟩ := nh_i5 h
          exact nh_ri hx hb hr hlocks g0 (by rw [← g1, ← g2, ← g3, ← g4]; exact hP) hS dX7_take_65
      · replace h := nh_t h c7
        refine lv_aload_n hx hb dX7_take_45 rfl (lv_at hl 1 rfl) ?_
        refine lv_iload_n hx hb dX7_take_46 rfl (lv_at hl 0 rfl) ?_
        refine lv_iload_n hx hb dX7_take_47 rfl (lv_at hl 3 rfl) ?_
        obtain ⟨r_15, a0_held_16, a0_known_17, hc18, h⟩ := nh_b3_some h
        refine nh_goi (nh_S (As := [.ref q_a0, .int y_5, .int i2]) (rest := []) ⟨hx, hb, hml, hown, hts⟩ (kX7_takeThing  l D cI cZ cO H.size q_a0 q_a0_held q_a0_known q_a0_worths a0_count_1 a0_held_2 a0_known_3 y_5 i2 r_15 a0_held_16 a0_known_17 hc18) (va_cwS 3 hts (nh_gS nhw_645 nhw_821 nhw_311 nhw_165) rfl rfl rfl (by decide +kernel) ⟨Nat.le_of_ble_eq_true rfl, Nat.le_of_ble_eq_true rfl⟩) hK hN hP hD (isC := [0, 1, 2]) rfl rfl rfl hl.1 rfl (Nat.le_of_ble_eq_true rfl) dX7_take_48 ⟨Nat.zero_le _, Nat.zero_le _⟩) hP hD hS hA (isC := [0, 1, 2]) rfl rfl rfl (w' := (wlX7_take cI cZ cO q_a0 q_a0_held q_a0_known q_a0_worths a0_count_1 a0_held_16 a0_known_17 a0_worths_4)) rfl (fun H locs hP hD hS => ?_)
        obtain ⟨g0, g1, g2, g3, g4⟩ := nh_i5 h
        exact nh_ri hx hb hr hlocks g0 (by rw [← g1, ← g2, ← g3, ← g4]; exact hP) hS dX7_take_51
    · replace h := nh_f h c6
      refine lv_bipush (v := (-9)) hx hb dX7_take_37 (by decide) ?_
      obtain ⟨g0, g1, g2, g3, g4⟩ := nh_i5 h
      exact nh_ri hx hb hr hlocks g0 (by rw [← g1, ← g2, ← g3, ← g4]; exact hP) hS dX7_take_39
  refine lv_iload_n hx hb dX7_take_0 rfl (lv_at hl 1 rfl) ?_
  refine lv_bipush (v := 8) hx hb dX7_take_1 (by decide) ?_
  refine lv_icmp_ne (tgt := 26) hx hb dX7_take_3 (by decide) (fun c19 => ?_) (fun c19 => ?_)
  · replace h := nh_f h c19
    exact J26 a0_count a0_held a0_known a0_worths H locs ls hP hD hS (lv_sub hl [0, 1, 2] rfl) h
  · replace h := nh_t h c19
    refine lv_iload_n hx hb dX7_take_6 rfl (lv_at hl 2 rfl) ?_
    refine lv_bipush (v := 80) hx hb dX7_take_7 (by decide) ?_
    refine lv_icmp_ne (tgt := 26) hx hb dX7_take_9 (by decide) (fun c20 => ?_) (fun c20 => ?_)
    · replace h := nh_f h c20
      exact J26 a0_count a0_held a0_known a0_worths H locs ls hP hD hS (lv_sub hl [0, 1, 2] rfl) h
    · replace h := nh_t h c20
      refine lv_aload_n hx hb dX7_take_12 rfl (lv_at hl 0 rfl) ?_
      obtain ⟨r_21, a0_count_22, a0_held_23, a0_known_24, hc25, h⟩ := nh_b4_some h
      refine nh_goi (nh_V (As := []) (rest := []) ⟨hx, hb, hml, hown, hts⟩ (kX1_addPerson  l D cI cZ cO H.size q_a0 q_a0_held q_a0_known q_a0_worths a0_count a0_held a0_known r_21 a0_count_22 a0_held_23 a0_known_24 hc25) (cwV 0 hts (nh_gV nhw_644 nhw_413 nhw_675 nhw_303 nhw_122) rfl rfl rfl (by decide +kernel) ⟨Nat.le_of_ble_eq_true rfl, Nat.le_of_ble_eq_true rfl⟩) hK hN hP hD (isC := [0, 1, 2]) rfl rfl 0 1 rfl rfl rfl rfl hl.1 rfl (Nat.le_of_ble_eq_true rfl) dX7_take_13 ⟨Nat.zero_le _, Nat.zero_le _⟩) hP hD hS hA (isC := [0, 1, 2]) rfl rfl rfl (w' := (wlX7_take cI cZ cO q_a0 q_a0_held q_a0_known q_a0_worths a0_count_22 a0_held_23 a0_known_24 a0_worths)) rfl (fun H locs hP hD hS => ?_)
      refine lv_if_eq (tgt := 23) hx hb dX7_take_16 (by decide) (fun c26 => ?_) (fun c26 => ?_)
      · replace h := nh_t h c26
        refine lv_bipush (v := (-9)) hx hb dX7_take_23 (by decide) ?_
        obtain ⟨g0, g1, g2, g3, g4⟩ := nh_i5 h
        exact nh_ri hx hb hr hlocks g0 (by rw [← g1, ← g2, ← g3, ← g4]; exact hP) hS dX7_take_25
      · replace h := nh_f h c26
        refine lv_iconst (v := 1) hx hb dX7_take_19 (by decide) ?_
        refine lv_goto (tgt := 25) hx hb dX7_take_20 (by decide) ?_
        obtain ⟨g0, g1, g2, g3, g4⟩ := nh_i5 h
        exact nh_ri hx hb hr hlocks g0 (by rw [← g1, ← g2, ← g3, ← g4]; exact hP) hS dX7_take_25
abbrev wlX7_readInto (cI cZ cO : ClassId) (q_t q_a1 q_t_bytes q_a1_held q_a1_known q_a1_worths : Nat) (t_length : Int32) (t_bytes : Nat → Int32) (a1_count : Int32) (a1_held : Nat → Int32) (a1_known : Nat → Int32) (a1_worths : Nat → Int32) : va_W := [(q_t, .inr (6, [.int t_length, .ref q_t_bytes])), (q_t_bytes, .inl (cI, 64, .inl t_bytes)), (q_a1, .inr (1, [.int a1_count, .ref q_a1_held, .ref q_a1_known, .ref q_a1_worths])), (q_a1_held, .inl (cI, 4, .inl a1_held)), (q_a1_known, .inl (cI, 4, .inl a1_known)), (q_a1_worths, .inl (cI, 24, .inl a1_worths))]
def fX7_readInto_B10 (t_length : Int32) (t_bytes : Nat → Int32) (k10 : Int32 → Int32 → Int32 → (Nat → Int32) → (Nat → Int32) → (Nat → Int32) → Option (Int32 × Int32 × (Nat → Int32) × (Nat → Int32) × (Nat → Int32))) (r10 : Int32 → Int32 → Int32 → (Nat → Int32) → (Nat → Int32) → (Nat → Int32) → Option (Int32 × Int32 × (Nat → Int32) × (Nat → Int32) × (Nat → Int32))) (x2_1 : Int32) (x3_2 : Int32) (a1_count_3 : Int32) (a1_held_4 : Nat → Int32) (a1_known_5 : Nat → Int32) (a1_worths_6 : Nat → Int32) : Option (Int32 × Int32 × (Nat → Int32) × (Nat → Int32) × (Nat → Int32)) :=
  (if t_length ≤ x3_2 then k10 x2_1 x3_2 a1_count_3 a1_held_4 a1_known_5 a1_worths_6
 else nh_chk (nh_in x3_2 64) (nh_b5 (fX7_take a1_count_3 a1_held_4 a1_known_5 a1_worths_6 x2_1 (t_bytes (Int32.toNatClampNeg x3_2))) (fun r_15 a1_count_16 a1_held_17 a1_known_18 a1_worths_19 => (if r_15 = (-9) then some (x3_2, a1_count_16, a1_held_17, a1_known_18, a1_worths_19)
 else nh_let (α := Int32) (x3_2 + 1) (fun x3_22 => r10 r_15 x3_22 a1_count_16 a1_held_17 a1_known_18 a1_worths_19)))))
def fX7_readInto_L10 (t_length : Int32) (t_bytes : Nat → Int32) (k10 : Int32 → Int32 → Int32 → (Nat → Int32) → (Nat → Int32) → (Nat → Int32) → Option (Int32 × Int32 × (Nat → Int32) × (Nat → Int32) × (Nat → Int32))) : Nat → Int32 → Int32 → Int32 → (Nat → Int32) → (Nat → Int32) → (Nat → Int32) → Option (Int32 × Int32 × (Nat → Int32) × (Nat → Int32) × (Nat → Int32))
  | 0 => fun _ _ _ _ _ _ => none
  | n + 1 => fX7_readInto_B10 t_length t_bytes k10 (fX7_readInto_L10 t_length t_bytes k10 n)
def fX7_readInto (F : Nat) (t_length : Int32) (t_bytes : Nat → Int32) (a1_count : Int32) (a1_held : Nat → Int32) (a1_known : Nat → Int32) (a1_worths : Nat → Int32) : Option (Int32 × Int32 × (Nat → Int32) × (Nat → Int32) × (Nat → Int32)) :=
  fX7_readInto_L10 t_length t_bytes (fun x2_7 x3_8 a1_count_9 a1_held_10 a1_known_11 a1_worths_12 => (if x2_7 = 8 then some ((-9), a1_count_9, a1_held_10, a1_known_11, a1_worths_12)
 else some (t_length, a1_count_9, a1_held_10, a1_known_11, a1_worths_12))) F 8 0 0 a1_held a1_known a1_worths
set_option maxHeartbeats 4000000 in
set_option maxRecDepth 100000 in
theorem kX7_readInto (F : Nat) (l : Launch) (D : va_G) (cI cZ cO : ClassId) (sz : Nat) (q_t q_a1 q_t_bytes q_a1_held q_a1_known q_a1_worths : Nat) (t_length : Int32) (t_bytes : Nat → Int32) (a1_count : Int32) (a1_held : Nat → Int32) (a1_known : Nat → Int32) (a1_worths : Nat → Int32)  (o_r : Int32) (o_a1_count : Int32) (o_a1_held : Nat → Int32) (o_a1_known : Nat → Int32) (o_a1_worths : Nat → Int32) (h : fX7_readInto F t_length t_bytes a1_count a1_held a1_known a1_worths = some (o_r, o_a1_count, o_a1_held, o_a1_known, o_a1_worths)) : Met l yX7_readInto (nh_w (.code yX7_readInto cX7_readInto 4 (some .int))) (nh_rm 4) (nh_Pc D cI cZ cO (wlX7_readInto cI cZ cO q_t q_a1 q_t_bytes q_a1_held q_a1_known q_a1_worths t_length t_bytes a1_count a1_held a1_known a1_worths) [.ref q_t, .ref q_a1] sz) ((nh_Qi D (wlX7_readInto cI cZ cO q_t q_a1 q_t_bytes q_a1_held q_a1_known q_a1_worths t_length t_bytes o_a1_count o_a1_held o_a1_known o_a1_worths) o_r) (va_A (wlX7_readInto cI cZ cO q_t q_a1 q_t_bytes q_a1_held q_a1_known q_a1_worths t_length t_bytes a1_count a1_held a1_known a1_worths) sz)) 0 0 (va_A (wlX7_readInto cI cZ cO q_t q_a1 q_t_bytes q_a1_held q_a1_known q_a1_worths t_length t_bytes a1_count a1_held a1_known a1_worths) sz) := by
  unfold fX7_readInto at h
  refine nh_met (cc := cX7_readInto) (maxL := 4) (ret := (some .int)) (nh_Qi D (wlX7_readInto cI cZ cO q_t q_a1 q_t_bytes q_a1_held q_a1_known q_a1_worths t_length t_bytes o_a1_count o_a1_held o_a1_known o_a1_worths) o_r) (by decide) rfl (Nat.le_of_ble_eq_true rfl) ?_
  intro p e s m args below meth c A H locs ls hx hb hml hr hown hts hlocks hinit hP hK hN hD hA hS hl
  have hl : lv_has ls 4 [(0, .ref q_t), (1, .ref q_a1)] := hl
  have hts : ∀ w ∈ nh_words, w.before args s = true := fun w h => hts w (List.mem_cons_of_mem _ h)
  refine lv_aload_n hx hb dX7_readInto_0 rfl (lv_at hl 1 rfl) ?_
  refine lv_iconst (v := 0) hx hb dX7_readInto_1 (by decide) ?_
  refine va_put (D := D) (ci := 1) (v := .int 0) (ty := .int) (C := RX1) (T := TX1) (N := 4) hx hb hts nhu_X1 tyX1 tyX1_ok nmX1 hown hK hP hD hS 2 rfl rfl 0 (by decide) (hts _ nhw_285) (fun _ h9 => h9) rfl (by decide +kernel) rfl rfl (Nat.le_of_ble_eq_true rfl) dX7_readInto_2 (fun H locs hP hD hS => ?_)
  have hP : va_P D vwCl (wlX7_readInto cI cZ cO q_t q_a1 q_t_bytes q_a1_held q_a1_known q_a1_worths t_length t_bytes 0 a1_held a1_known a1_worths) H := hP
  have hD : va_D A (wlX7_readInto cI cZ cO q_t q_a1 q_t_bytes q_a1_held q_a1_known q_a1_worths t_length t_bytes 0 a1_held a1_known a1_worths) := hD
  refine lv_bipush (v := 8) hx hb dX7_readInto_5 (by decide) ?_
  refine lv_istore_n (lv' := [(2, .int 8), (0, .ref q_t), (1, .ref q_a1)]) hx hb dX7_readInto_7 rfl hl (by decide) rfl (fun ls hl => ?_)
  refine lv_iconst (v := 0) hx hb dX7_readInto_8 (by decide) ?_
  refine lv_istore_n (lv' := [(3, .int 0), (2, .int 8), (0, .ref q_t), (1, .ref q_a1)]) hx hb dX7_readInto_9 rfl hl (by decide) rfl (fun ls hl => ?_)
  have L10 : ∀ (k10 : Int32 → Int32 → Int32 → (Nat → Int32) → (Nat → Int32) → (Nat → Int32) → Option (Int32 × Int32 × (Nat → Int32) × (Nat → Int32) × (Nat → Int32))), (∀ (x2_7 : Int32) (x3_8 : Int32) (a1_count_9 : Int32) (a1_held_10 : Nat → Int32) (a1_known_11 : Nat → Int32) (a1_worths_12 : Nat → Int32) (H : Heap) (locs : List Loc) (ls : Array Slot), va_P D vwCl (wlX7_readInto cI cZ cO q_t q_a1 q_t_bytes q_a1_held q_a1_known q_a1_worths t_length t_bytes a1_count_9 a1_held_10 a1_known_11 a1_worths_12) H → va_D A (wlX7_readInto cI cZ cO q_t q_a1 q_t_bytes q_a1_held q_a1_known q_a1_worths t_length t_bytes a1_count_9 a1_held_10 a1_known_11 a1_worths_12) → va_S A s.heap H locs → lv_has ls 4 [(0, .ref q_t), (1, .ref q_a1), (2, .int x2_7), (3, .int x3_8)] → k10 x2_7 x3_8 a1_count_9 a1_held_10 a1_known_11 a1_worths_12 = some (o_r, o_a1_count, o_a1_held, o_a1_known, o_a1_worths) → W p l e (nh_rm 4) s m args below meth c H locs 0 0 (MQ below ((nh_Qi D (wlX7_readInto cI cZ cO q_t q_a1 q_t_bytes q_a1_held q_a1_known q_a1_worths t_length t_bytes o_a1_count o_a1_held o_a1_known o_a1_worths) o_r) A) args s 0 0 A) (F0 m 44 ls [])) → ∀ (n : Nat) (x2_1 : Int32) (x3_2 : Int32) (a1_count_3 : Int32) (a1_held_4 : Nat → Int32) (a1_known_5 : Nat → Int32) (a1_worths_6 : Nat → Int32) (H : Heap) (locs : List Loc) (ls : Array Slot), va_P D vwCl (wlX7_readInto cI cZ cO q_t q_a1 q_t_bytes q_a1_held q_a1_known q_a1_worths t_length t_bytes a1_count_3 a1_held_4 a1_known_5 a1_worths_6) H → va_D A (wlX7_readInto cI cZ cO q_t q_a1 q_t_bytes q_a1_held q_a1_known q_a1_worths t_length t_bytes a1_count_3 a1_held_4 a1_known_5 a1_worths_6) → va_S A s.heap H locs → lv_has ls 4 [(0, .ref q_t), (1, .ref q_a1), (2, .int x2_1), (3, .int x3_2)] → fX7_readInto_L10 t_length t_bytes k10 n x2_1 x3_2 a1_count_3 a1_held_4 a1_known_5 a1_worths_6 = some (o_r, o_a1_count, o_a1_held, o_a1_known, o_a1_worths) → W p l e (nh_rm 4) s m args below meth c H locs 0 0 (MQ below ((nh_Qi D (wlX7_readInto cI cZ cO q_t q_a1 q_t_bytes q_a1_held q_a1_known q_a1_worths t_length t_bytes o_a1_count o_a1_held o_a1_known o_a1_worths) o_r) A) args s 0 0 A) (F0 m 10 ls []) := by
    intro k10 hk10 n
    induction n with
    | zero => intro x2_1 x3_2 a1_count_3 a1_held_4 a1_known_5 a1_worths_6 H locs ls hP hD hS hl h; exact (nh_none h).elim
    | succ n10 ih10 =>
      intro x2_1 x3_2 a1_count_3 a1_held_4 a1_known_5 a1_worths_6 H locs ls hP hD hS hl h
      replace h : fX7_readInto_B10 t_length t_bytes k10 (fX7_readInto_L10 t_length t_bytes k10 n10) x2_1 x3_2 a1_count_3 a1_held_4 a1_known_5 a1_worths_6 = some (o_r, o_a1_count, o_a1_held, o_a1_known, o_a1_worths) := h
      unfold fX7_readInto_B10 at h
      refine lv_iload_n hx hb dX7_readInto_10 rfl (lv_at hl 3 rfl) ?_
      refine lv_aload_n hx hb dX7_readInto_11 rfl (lv_at hl 0 rfl) ?_
      refine va_get (D := D) (ci := 6) (v := .int t_length) (C := RX7) (T := TX7) (N := 2) hx hb hts nhu_X7 hown hK hP 0 rfl rfl 0 (by decide) (hts _ nhw_284) (fun _ h9 => h9) rfl dX7_readInto_12 ?_
      refine lv_icmp_ge (tgt := 44) hx hb dX7_readInto_15 (by decide) (fun c13 => ?_) (fun c13 => ?_)
      · replace h := nh_t h c13
        exact hk10 x2_1 x3_2 a1_count_3 a1_held_4 a1_known_5 a1_worths_6 H locs ls hP hD hS (lv_sub hl [0, 1, 2, 3] rfl) h
      · replace h := nh_f h c13
        refine lv_aload_n hx hb dX7_readInto_18 rfl (lv_at hl 1 rfl) ?_
        refine lv_iload_n hx hb dX7_readInto_19 rfl (lv_at hl 2 rfl) ?_
        refine lv_aload_n hx hb dX7_readInto_20 rfl (lv_at hl 0 rfl) ?_
        refine va_get (D := D) (ci := 6) (v := .ref q_t_bytes) (C := RX7) (T := TX7) (N := 2) hx hb hts nhu_X7 hown hK hP 0 rfl rfl 1 (by decide) (hts _ nhw_283) (fun _ h9 => h9) rfl dX7_readInto_21 ?_
        refine lv_iload_n hx hb dX7_readInto_24 rfl (lv_at hl 3 rfl) ?_
        obtain ⟨z14, h⟩ := nh_chk_some h
        refine va_iald hx hb hK hP 1 0 rfl rfl (nh_in_in z14) dX7_readInto_25 ?_
        obtain ⟨r_15, a1_count_16, a1_held_17, a1_known_18, a1_worths_19, hc20, h⟩ := nh_b5_some h
        refine nh_goi (nh_S (As := [.ref q_a1, .int x2_1, .int (t_bytes (Int32.toNatClampNeg x3_2))]) (rest := []) ⟨hx, hb, hml, hown, hts⟩ (kX7_take  l D cI cZ cO H.size q_a1 q_a1_held q_a1_known q_a1_worths a1_count_3 a1_held_4 a1_known_5 a1_worths_6 x2_1 (t_bytes (Int32.toNatClampNeg x3_2)) r_15 a1_count_16 a1_held_17 a1_known_18 a1_worths_19 hc20) (va_cwS 3 hts (nh_gS nhw_643 nhw_819 nhw_311 nhw_163) rfl rfl rfl (by decide +kernel) ⟨Nat.le_of_ble_eq_true rfl, Nat.le_of_ble_eq_true rfl⟩) hK hN hP hD (isC := [2, 3, 4, 5]) rfl rfl rfl hl.1 rfl (Nat.le_of_ble_eq_true rfl) dX7_readInto_26 ⟨Nat.zero_le _, Nat.zero_le _⟩) hP hD hS hA (isC := [2, 3, 4, 5]) rfl rfl rfl (w' := (wlX7_readInto cI cZ cO q_t q_a1 q_t_bytes q_a1_held q_a1_known q_a1_worths t_length t_bytes a1_count_16 a1_held_17 a1_known_18 a1_worths_19)) rfl (fun H locs hP hD hS => ?_)
        refine lv_istore_n (lv' := [(2, .int r_15), (0, .ref q_t), (1, .ref q_a1), (3, .int x3_2)]) hx hb dX7_readInto_29 rfl hl (by decide) rfl (fun ls hl => ?_)
        refine lv_iload_n hx hb dX7_readInto_30 rfl (lv_at hl 0 rfl) ?_
        refine lv_bipush (v := (-9)) hx hb dX7_readInto_31 (by decide) ?_
        refine lv_icmp_ne (tgt := 38) hx hb dX7_readInto_33 (by decide) (fun c21 => ?_) (fun c21 => ?_)
        · replace h := nh_f h c21
          obtain ⟨x3_22, ex3_22⟩ : ∃ y : Int32, y = x3_2 + 1 := ⟨_, rfl⟩
          replace h := nh_to h ex3_22
          refine lv_iinc (v := x3_22) (lv' := [(3, .int x3_22), (2, .int r_15), (0, .ref q_t), (1, .ref q_a1)]) hx hb dX7_readInto_38 hl (k := 3) rfl (by rw [ex3_22]; rfl) (by decide) rfl (fun ls hl => ?_)
          refine lv_goto (tgt := 10) hx hb dX7_readInto_41 (by decide) ?_
          exact ih10 r_15 x3_22 a1_count_16 a1_held_17 a1_known_18 a1_worths_19 H locs ls hP hD hS (lv_sub hl [2, 3, 1, 0] rfl) h
        · replace h := nh_t h c21
          refine lv_iload_n hx hb dX7_readInto_36 rfl (lv_at hl 3 rfl) ?_
          obtain ⟨g0, g1, g2, g3, g4⟩ := nh_i5 h
          exact nh_ri hx hb hr hlocks g0 (by rw [← g1, ← g2, ← g3, ← g4]; exact hP) hS dX7_readInto_37
  refine L10 _ (fun x2_7 x3_8 a1_count_9 a1_held_10 a1_known_11 a1_worths_12 H locs ls hP hD hS hl h => ?_) _ 8 0 0 a1_held a1_known a1_worths H locs ls hP hD hS (lv_sub hl [2, 3, 1, 0] rfl) h
  refine lv_iload_n hx hb dX7_readInto_44 rfl (lv_at hl 2 rfl) ?_
  refine lv_bipush (v := 8) hx hb dX7_readInto_45 (by decide) ?_
  refine lv_icmp_ne (tgt := 55) hx hb dX7_readInto_47 (by decide) (fun c23 => ?_) (fun c23 => ?_)
  · replace h := nh_f h c23
    refine lv_aload_n hx hb dX7_readInto_55 rfl (lv_at hl 0 rfl) ?_
    refine va_get (D := D) (ci := 6) (v := .int t_length) (C := RX7) (T := TX7) (N := 2) hx hb hts nhu_X7 hown hK hP 0 rfl rfl 0 (by decide) (hts _ nhw_284) (fun _ h9 => h9) rfl dX7_readInto_56 ?_
    obtain ⟨g0, g1, g2, g3, g4⟩ := nh_i5 h
    exact nh_ri hx hb hr hlocks g0 (by rw [← g1, ← g2, ← g3, ← g4]; exact hP) hS dX7_readInto_59
  · replace h := nh_t h c23
    refine lv_bipush (v := (-9)) hx hb dX7_readInto_50 (by decide) ?_
    refine lv_goto (tgt := 59) hx hb dX7_readInto_52 (by decide) ?_
    obtain ⟨g0, g1, g2, g3, g4⟩ := nh_i5 h
    exact nh_ri hx hb hr hlocks g0 (by rw [← g1, ← g2, ← g3, ← g4]; exact hP) hS dX7_readInto_59
