abbrev wlX10_write (cI cZ cO : ClassId) (q_t q_t_text q_t_people q_t_draft q_t_acts q_t_ends q_t_wants q_t_circle q_t_game q_t_stranger q_t_slots q_t_judged q_t_text_bytes : Nat) (t_text_length : Int32) (t_text_bytes : Nat → Int32) : va_W := [(q_t, .inr (9, [.ref q_t_text, .ref q_t_people, .ref q_t_draft, .ref q_t_acts, .ref q_t_ends, .ref q_t_wants, .ref q_t_circle, .ref q_t_game, .ref q_t_stranger, .ref q_t_slots, .ref q_t_judged])), (q_t_text, .inr (6, [.int t_text_length, .ref q_t_text_bytes])), (q_t_text_bytes, .inl (cI, 64, .inl t_text_bytes))]
def fX10_write (F : Nat) (t_text_length : Int32) (t_text_bytes : Nat → Int32) (i1 : Int32) (j2 : Int64) : Option (Int32 × Int32 × (Nat → Int32)) :=
  (if i1 < 1 then some ((-2), t_text_length, t_text_bytes)
 else (if i1 ≤ 8 then (if (t_text_length + i1) ≤ 64 then nh_b2 (fX7_append F t_text_length t_text_bytes i1 j2) (fun t_text_length_4 t_text_bytes_5 => some (t_text_length_4, t_text_length_4, t_text_bytes_5))
 else some ((-4), t_text_length, t_text_bytes))
 else some ((-2), t_text_length, t_text_bytes)))
set_option maxHeartbeats 4000000 in
set_option maxRecDepth 100000 in
theorem kX10_write (F : Nat) (l : Launch) (D : va_G) (cI cZ cO : ClassId) (sz : Nat) (q_t q_t_text q_t_people q_t_draft q_t_acts q_t_ends q_t_wants q_t_circle q_t_game q_t_stranger q_t_slots q_t_judged q_t_text_bytes : Nat) (t_text_length : Int32) (t_text_bytes : Nat → Int32) (i1 : Int32) (j2 : Int64) (o_r : Int32) (o_t_text_length : Int32) (o_t_text_bytes : Nat → Int32) (h : fX10_write F t_text_length t_text_bytes i1 j2 = some (o_r, o_t_text_length, o_t_text_bytes)) : Met l yX10_write (nh_w (.code yX10_write cX10_write 4 (some .int))) (nh_rm 1) (nh_Pc D cI cZ cO (wlX10_write cI cZ cO q_t q_t_text q_t_people q_t_draft q_t_acts q_t_ends q_t_wants q_t_circle q_t_game q_t_stranger q_t_slots q_t_judged q_t_text_bytes t_text_length t_text_bytes) [.ref q_t, .int i1, .long j2] sz) ((nh_Qi D (wlX10_write cI cZ cO q_t q_t_text q_t_people q_t_draft q_t_acts q_t_ends q_t_wants q_t_circle q_t_game q_t_stranger q_t_slots q_t_judged q_t_text_bytes o_t_text_length o_t_text_bytes) o_r) (va_A (wlX10_write cI cZ cO q_t q_t_text q_t_people q_t_draft q_t_acts q_t_ends q_t_wants q_t_circle q_t_game q_t_stranger q_t_slots q_t_judged q_t_text_bytes t_text_length t_text_bytes) sz)) 0 0 (va_A (wlX10_write cI cZ cO q_t q_t_text q_t_people q_t_draft q_t_acts q_t_ends q_t_wants q_t_circle q_t_game q_t_stranger q_t_slots q_t_judged q_t_text_bytes t_text_length t_text_bytes) sz) := by
  unfold fX10_write at h
  refine nh_met (cc := cX10_write) (maxL := 4) (ret := (some .int)) (nh_Qi D (wlX10_write cI cZ cO q_t q_t_text q_t_people q_t_draft q_t_acts q_t_ends q_t_wants q_t_circle q_t_game q_t_stranger q_t_slots q_t_judged q_t_text_bytes o_t_text_length o_t_text_bytes) o_r) (by decide) rfl (Nat.le_of_ble_eq_true rfl) ?_
  intro p e s m args below meth c A H locs ls hx hb hml hr hown hts hlocks hinit hP hK hN hD hA hS hl
  have hl : lv_has ls 4 [(0, .ref q_t), (1, .int i1), (2, .long j2)] := hl
  have hts : ∀ w ∈ nh_words, w.before args s = true := fun w h => hts w (List.mem_cons_of_mem _ h)
  refine lv_iload_n hx hb dX10_write_0 rfl (lv_at hl 1 rfl) ?_
  refine lv_iconst (v := 1) hx hb dX10_write_1 (by decide) ?_
  refine lv_icmp_lt (tgt := 11) hx hb dX10_write_2 (by decide) (fun c1 => ?_) (fun c1 => ?_)
  · replace h := nh_t h c1
    refine lv_bipush (v := (-2)) hx hb dX10_write_11 (by decide) ?_
    obtain ⟨g0, g1, g2⟩ := nh_i3 h
    exact nh_ri hx hb hr hlocks g0 (by rw [← g1, ← g2]; exact hP) hS dX10_write_13
  · replace h := nh_f h c1
    refine lv_iload_n hx hb dX10_write_5 rfl (lv_at hl 1 rfl) ?_
    refine lv_bipush (v := 8) hx hb dX10_write_6 (by decide) ?_
    refine lv_icmp_le (tgt := 14) hx hb dX10_write_8 (by decide) (fun c2 => ?_) (fun c2 => ?_)
    · replace h := nh_t h c2
      refine lv_aload_n hx hb dX10_write_14 rfl (lv_at hl 0 rfl) ?_
      refine va_get (D := D) (ci := 9) (v := .ref q_t_text) (C := RX10) (T := TX10) (N := 11) hx hb hts nhu_X10 hown hK hP 0 rfl rfl 0 (by decide) (hts _ nhw_206) (fun _ h9 => h9) rfl dX10_write_15 ?_
      refine va_get (D := D) (ci := 6) (v := .int t_text_length) (C := RX7) (T := TX7) (N := 2) hx hb hts nhu_X7 hown hK hP 1 rfl rfl 0 (by decide) (hts _ nhw_228) (fun _ h9 => h9) rfl dX10_write_18 ?_
      refine lv_iload_n hx hb dX10_write_21 rfl (lv_at hl 1 rfl) ?_
      refine lv_iadd hx hb dX10_write_22 ?_
      refine lv_bipush (v := 64) hx hb dX10_write_23 (by decide) ?_
      refine lv_icmp_le (tgt := 31) hx hb dX10_write_25 (by decide) (fun c3 => ?_) (fun c3 => ?_)
      · replace h := nh_t h c3
        refine lv_aload_n hx hb dX10_write_31 rfl (lv_at hl 0 rfl) ?_
        refine va_get (D := D) (ci := 9) (v := .ref q_t_text) (C := RX10) (T := TX10) (N := 11) hx hb hts nhu_X10 hown hK hP 0 rfl rfl 0 (by decide) (hts _ nhw_206) (fun _ h9 => h9) rfl dX10_write_32 ?_
        refine lv_iload_n hx hb dX10_write_35 rfl (lv_at hl 1 rfl) ?_
        refine lv_lload_n hx hb dX10_write_36 rfl (lv_at hl 2 rfl) ?_
        obtain ⟨t_text_length_4, t_text_bytes_5, hc6, h⟩ := nh_b2_some h
        refine nh_gov (nh_V (As := [.int i1, .long j2]) (rest := []) ⟨hx, hb, hml, hown, hts⟩ (kX7_append F l D cI cZ cO H.size q_t_text q_t_text_bytes t_text_length t_text_bytes i1 j2 t_text_length_4 t_text_bytes_5 hc6) (cwV 2 hts (nh_gV nhw_583 nhw_443 nhw_791 nhw_311 nhw_160) rfl rfl rfl (by decide +kernel) ⟨Nat.le_of_ble_eq_true rfl, Nat.le_of_ble_eq_true rfl⟩) hK hN hP hD (isC := [1, 2]) rfl rfl 1 6 rfl rfl rfl rfl hl.1 rfl (Nat.le_of_ble_eq_true rfl) dX10_write_37 ⟨Nat.zero_le _, Nat.zero_le _⟩) hP hD hS hA (isC := [1, 2]) rfl rfl rfl (w' := (wlX10_write cI cZ cO q_t q_t_text q_t_people q_t_draft q_t_acts q_t_ends q_t_wants q_t_circle q_t_game q_t_stranger q_t_slots q_t_judged q_t_text_bytes t_text_length_4 t_text_bytes_5)) rfl (fun H locs hP hD hS => ?_)
        refine lv_aload_n hx hb dX10_write_40 rfl (lv_at hl 0 rfl) ?_
        refine va_get (D := D) (ci := 9) (v := .ref q_t_text) (C := RX10) (T := TX10) (N := 11) hx hb hts nhu_X10 hown hK hP 0 rfl rfl 0 (by decide) (hts _ nhw_206) (fun _ h9 => h9) rfl dX10_write_41 ?_
        refine va_get (D := D) (ci := 6) (v := .int t_text_length_4) (C := RX7) (T := TX7) (N := 2) hx hb hts nhu_X7 hown hK hP 1 rfl rfl 0 (by decide) (hts _ nhw_228) (fun _ h9 => h9) rfl dX10_write_44 ?_
        obtain ⟨g0, g1, g2⟩ := nh_i3 h
        exact nh_ri hx hb hr hlocks g0 (by rw [← g1, ← g2]; exact hP) hS dX10_write_47
      · replace h := nh_f h c3
        refine lv_bipush (v := (-4)) hx hb dX10_write_28 (by decide) ?_
        obtain ⟨g0, g1, g2⟩ := nh_i3 h
        exact nh_ri hx hb hr hlocks g0 (by rw [← g1, ← g2]; exact hP) hS dX10_write_30
    · replace h := nh_f h c2
      refine lv_bipush (v := (-2)) hx hb dX10_write_11 (by decide) ?_
      obtain ⟨g0, g1, g2⟩ := nh_i3 h
      exact nh_ri hx hb hr hlocks g0 (by rw [← g1, ← g2]; exact hP) hS dX10_write_13
abbrev wlX10_wipe (cI cZ cO : ClassId) (q_t q_t_text q_t_people q_t_draft q_t_acts q_t_ends q_t_wants q_t_circle q_t_game q_t_stranger q_t_slots q_t_judged q_t_text_bytes : Nat) (t_text_length : Int32) : va_W := [(q_t, .inr (9, [.ref q_t_text, .ref q_t_people, .ref q_t_draft, .ref q_t_acts, .ref q_t_ends, .ref q_t_wants, .ref q_t_circle, .ref q_t_game, .ref q_t_stranger, .ref q_t_slots, .ref q_t_judged])), (q_t_text, .inr (6, [.int t_text_length, .ref q_t_text_bytes]))]
def fX10_wipe (t_text_length : Int32) : Option (Int32 × Int32) :=
  some (t_text_length, 0)
set_option maxHeartbeats 4000000 in
set_option maxRecDepth 100000 in
theorem kX10_wipe (l : Launch) (D : va_G) (cI cZ cO : ClassId) (sz : Nat) (q_t q_t_text q_t_people q_t_draft q_t_acts q_t_ends q_t_wants q_t_circle q_t_game q_t_stranger q_t_slots q_t_judged q_t_text_bytes : Nat) (t_text_length : Int32)  (o_r : Int32) (o_t_text_length : Int32) (h : fX10_wipe t_text_length = some (o_r, o_t_text_length)) : Met l yX10_wipe (nh_w (.code yX10_wipe cX10_wipe 2 (some .int))) (nh_rm 0) (nh_Pc D cI cZ cO (wlX10_wipe cI cZ cO q_t q_t_text q_t_people q_t_draft q_t_acts q_t_ends q_t_wants q_t_circle q_t_game q_t_stranger q_t_slots q_t_judged q_t_text_bytes t_text_length) [.ref q_t] sz) ((nh_Qi D (wlX10_wipe cI cZ cO q_t q_t_text q_t_people q_t_draft q_t_acts q_t_ends q_t_wants q_t_circle q_t_game q_t_stranger q_t_slots q_t_judged q_t_text_bytes o_t_text_length) o_r) (va_A (wlX10_wipe cI cZ cO q_t q_t_text q_t_people q_t_draft q_t_acts q_t_ends q_t_wants q_t_circle q_t_game q_t_stranger q_t_slots q_t_judged q_t_text_bytes t_text_length) sz)) 0 0 (va_A (wlX10_wipe cI cZ cO q_t q_t_text q_t_people q_t_draft q_t_acts q_t_ends q_t_wants q_t_circle q_t_game q_t_stranger q_t_slots q_t_judged q_t_text_bytes t_text_length) sz) := by
  unfold fX10_wipe at h
  refine nh_met (cc := cX10_wipe) (maxL := 2) (ret := (some .int)) (nh_Qi D (wlX10_wipe cI cZ cO q_t q_t_text q_t_people q_t_draft q_t_acts q_t_ends q_t_wants q_t_circle q_t_game q_t_stranger q_t_slots q_t_judged q_t_text_bytes o_t_text_length) o_r) (by decide) rfl (Nat.le_of_ble_eq_true rfl) ?_
  intro p e s m args below meth c A H locs ls hx hb hml hr hown hts hlocks hinit hP hK hN hD hA hS hl
  have hl : lv_has ls 2 [(0, .ref q_t)] := hl
  have hts : ∀ w ∈ nh_words, w.before args s = true := fun w h => hts w (List.mem_cons_of_mem _ h)
  refine lv_aload_n hx hb dX10_wipe_0 rfl (lv_at hl 0 rfl) ?_
  refine va_get (D := D) (ci := 9) (v := .ref q_t_text) (C := RX10) (T := TX10) (N := 11) hx hb hts nhu_X10 hown hK hP 0 rfl rfl 0 (by decide) (hts _ nhw_206) (fun _ h9 => h9) rfl dX10_wipe_1 ?_
  refine va_get (D := D) (ci := 6) (v := .int t_text_length) (C := RX7) (T := TX7) (N := 2) hx hb hts nhu_X7 hown hK hP 1 rfl rfl 0 (by decide) (hts _ nhw_228) (fun _ h9 => h9) rfl dX10_wipe_4 ?_
  refine lv_istore_n (lv' := [(1, .int t_text_length), (0, .ref q_t)]) hx hb dX10_wipe_7 rfl hl (by decide) rfl (fun ls hl => ?_)
  refine lv_aload_n hx hb dX10_wipe_8 rfl (lv_at hl 1 rfl) ?_
  refine va_get (D := D) (ci := 9) (v := .ref q_t_text) (C := RX10) (T := TX10) (N := 11) hx hb hts nhu_X10 hown hK hP 0 rfl rfl 0 (by decide) (hts _ nhw_206) (fun _ h9 => h9) rfl dX10_wipe_9 ?_
  refine lv_iconst (v := 0) hx hb dX10_wipe_12 (by decide) ?_
  refine va_put (D := D) (ci := 6) (v := .int 0) (ty := .int) (C := RX7) (T := TX7) (N := 2) hx hb hts nhu_X7 tyX7 tyX7_ok nmX7 hown hK hP hD hS 1 rfl rfl 0 (by decide) (hts _ nhw_228) (fun _ h9 => h9) rfl (by decide +kernel) rfl rfl (Nat.le_of_ble_eq_true rfl) dX10_wipe_13 (fun H locs hP hD hS => ?_)
  have hP : va_P D vwCl (wlX10_wipe cI cZ cO q_t q_t_text q_t_people q_t_draft q_t_acts q_t_ends q_t_wants q_t_circle q_t_game q_t_stranger q_t_slots q_t_judged q_t_text_bytes 0) H := hP
  have hD : va_D A (wlX10_wipe cI cZ cO q_t q_t_text q_t_people q_t_draft q_t_acts q_t_ends q_t_wants q_t_circle q_t_game q_t_stranger q_t_slots q_t_judged q_t_text_bytes 0) := hD
  refine lv_iload_n hx hb dX10_wipe_16 rfl (lv_at hl 0 rfl) ?_
  obtain ⟨g0, g1⟩ := nh_i2 h
  exact nh_ri hx hb hr hlocks g0 (by rw [← g1]; exact hP) hS dX10_wipe_17
abbrev wlX10_fault (cI cZ cO : ClassId) (q_t q_t_text q_t_people q_t_draft q_t_acts q_t_ends q_t_wants q_t_circle q_t_game q_t_stranger q_t_slots q_t_judged q_t_draft_held q_t_draft_known q_t_draft_worths q_t_text_bytes : Nat) (t_draft_count : Int32) (t_draft_held : Nat → Int32) (t_draft_known : Nat → Int32) (t_draft_worths : Nat → Int32) (t_text_length : Int32) (t_text_bytes : Nat → Int32) : va_W := [(q_t, .inr (9, [.ref q_t_text, .ref q_t_people, .ref q_t_draft, .ref q_t_acts, .ref q_t_ends, .ref q_t_wants, .ref q_t_circle, .ref q_t_game, .ref q_t_stranger, .ref q_t_slots, .ref q_t_judged])), (q_t_draft, .inr (1, [.int t_draft_count, .ref q_t_draft_held, .ref q_t_draft_known, .ref q_t_draft_worths])), (q_t_draft_held, .inl (cI, 4, .inl t_draft_held)), (q_t_draft_known, .inl (cI, 4, .inl t_draft_known)), (q_t_draft_worths, .inl (cI, 24, .inl t_draft_worths)), (q_t_text, .inr (6, [.int t_text_length, .ref q_t_text_bytes])), (q_t_text_bytes, .inl (cI, 64, .inl t_text_bytes))]
def fX10_fault (F : Nat) (t_draft_count : Int32) (t_draft_held : Nat → Int32) (t_draft_known : Nat → Int32) (t_draft_worths : Nat → Int32) (t_text_length : Int32) (t_text_bytes : Nat → Int32) : Option (Int32 × Int32 × (Nat → Int32) × (Nat → Int32) × (Nat → Int32)) :=
  nh_b5 (fX7_readInto F t_text_length t_text_bytes t_draft_count t_draft_held t_draft_known t_draft_worths) (fun r_1 t_draft_count_2 t_draft_held_3 t_draft_known_4 t_draft_worths_5 => some (r_1, t_draft_count_2, t_draft_held_3, t_draft_known_4, t_draft_worths_5))
set_option maxHeartbeats 4000000 in
set_option maxRecDepth 100000 in
theorem kX10_fault (F : Nat) (l : Launch) (D : va_G) (cI cZ cO : ClassId) (sz : Nat) (q_t q_t_text q_t_people q_t_draft q_t_acts q_t_ends q_t_wants q_t_circle q_t_game q_t_stranger q_t_slots q_t_judged q_t_draft_held q_t_draft_known q_t_draft_worths q_t_text_bytes : Nat) (t_draft_count : Int32) (t_draft_held : Nat → Int32) (t_draft_known : Nat → Int32) (t_draft_worths : Nat → Int32) (t_text_length : Int32) (t_text_bytes : Nat → Int32)  (o_r : Int32) (o_t_draft_count : Int32) (o_t_draft_held : Nat → Int32) (o_t_draft_known : Nat → Int32) (o_t_draft_worths : Nat → Int32) (h : fX10_fault F t_draft_count t_draft_held t_draft_known t_draft_worths t_text_length t_text_bytes = some (o_r, o_t_draft_count, o_t_draft_held, o_t_draft_known, o_t_draft_worths)) : Met l yX10_fault (nh_w (.code yX10_fault cX10_fault 1 (some .int))) (nh_rm 5) (nh_Pc D cI cZ cO (wlX10_fault cI cZ cO q_t q_t_text q_t_people q_t_draft q_t_acts q_t_ends q_t_wants q_t_circle q_t_game q_t_stranger q_t_slots q_t_judged q_t_draft_held q_t_draft_known q_t_draft_worths q_t_text_bytes t_draft_count t_draft_held t_draft_known t_draft_worths t_text_length t_text_bytes) [.ref q_t] sz) ((nh_Qi D (wlX10_fault cI cZ cO q_t q_t_text q_t_people q_t_draft q_t_acts q_t_ends q_t_wants q_t_circle q_t_game q_t_stranger q_t_slots q_t_judged q_t_draft_held q_t_draft_known q_t_draft_worths q_t_text_bytes o_t_draft_count o_t_draft_held o_t_draft_known o_t_draft_worths t_text_length t_text_bytes) o_r) (va_A (wlX10_fault cI cZ cO q_t q_t_text q_t_people q_t_draft q_t_acts q_t_ends q_t_wants q_t_circle q_t_game q_t_stranger q_t_slots q_t_judged q_t_draft_held q_t_draft_known q_t_draft_worths q_t_text_bytes t_draft_count t_draft_held t_draft_known t_draft_worths t_text_length t_text_bytes) sz)) 0 0 (va_A (wlX10_fault cI cZ cO q_t q_t_text q_t_people q_t_draft q_t_acts q_t_ends q_t_wants q_t_circle q_t_game q_t_stranger q_t_slots q_t_judged q_t_draft_held q_t_draft_known q_t_draft_worths q_t_text_bytes t_draft_count t_draft_held t_draft_known t_draft_worths t_text_length t_text_bytes) sz) := by
  unfold fX10_fault at h
  refine nh_met (cc := cX10_fault) (maxL := 1) (ret := (some .int)) (nh_Qi D (wlX10_fault cI cZ cO q_t q_t_text q_t_people q_t_draft q_t_acts q_t_ends q_t_wants q_t_circle q_t_game q_t_stranger q_t_slots q_t_judged q_t_draft_held q_t_draft_known q_t_draft_worths q_t_text_bytes o_t_draft_count o_t_draft_held o_t_draft_known o_t_draft_worths t_text_length t_text_bytes) o_r) (by decide) rfl (Nat.le_of_ble_eq_true rfl) ?_
  intro p e s m args below meth c A H locs ls hx hb hml hr hown hts hlocks hinit hP hK hN hD hA hS hl
  have hl : lv_has ls 1 [(0, .ref q_t)] := hl
  have hts : ∀ w ∈ nh_words, w.before args s = true := fun w h => hts w (List.mem_cons_of_mem _ h)
  refine lv_aload_n hx hb dX10_fault_0 rfl (lv_at hl 0 rfl) ?_
  refine va_get (D := D) (ci := 9) (v := .ref q_t_text) (C := RX10) (T := TX10) (N := 11) hx hb hts nhu_X10 hown hK hP 0 rfl rfl 0 (by decide) (hts _ nhw_206) (fun _ h9 => h9) rfl dX10_fault_1 ?_
  refine lv_aload_n hx hb dX10_fault_4 rfl (lv_at hl 0 rfl) ?_
  refine va_get (D := D) (ci := 9) (v := .ref q_t_draft) (C := RX10) (T := TX10) (N := 11) hx hb hts nhu_X10 hown hK hP 0 rfl rfl 2 (by decide) (hts _ nhw_219) (fun _ h9 => h9) rfl dX10_fault_5 ?_
  obtain ⟨r_1, t_draft_count_2, t_draft_held_3, t_draft_known_4, t_draft_worths_5, hc6, h⟩ := nh_b5_some h
  refine nh_goi (nh_V (As := [.ref q_t_draft]) (rest := []) ⟨hx, hb, hml, hown, hts⟩ (kX7_readInto F l D cI cZ cO H.size q_t_text q_t_draft q_t_text_bytes q_t_draft_held q_t_draft_known q_t_draft_worths t_text_length t_text_bytes t_draft_count t_draft_held t_draft_known t_draft_worths r_1 t_draft_count_2 t_draft_held_3 t_draft_known_4 t_draft_worths_5 hc6) (cwV 1 hts (nh_gV nhw_584 nhw_445 nhw_792 nhw_311 nhw_162) rfl rfl rfl (by decide +kernel) ⟨Nat.le_of_ble_eq_true rfl, Nat.le_of_ble_eq_true rfl⟩) hK hN hP hD (isC := [5, 6, 1, 2, 3, 4]) rfl rfl 5 6 rfl rfl rfl rfl hl.1 rfl (Nat.le_of_ble_eq_true rfl) dX10_fault_8 ⟨Nat.zero_le _, Nat.zero_le _⟩) hP hD hS hA (isC := [5, 6, 1, 2, 3, 4]) rfl rfl rfl (w' := (wlX10_fault cI cZ cO q_t q_t_text q_t_people q_t_draft q_t_acts q_t_ends q_t_wants q_t_circle q_t_game q_t_stranger q_t_slots q_t_judged q_t_draft_held q_t_draft_known q_t_draft_worths q_t_text_bytes t_draft_count_2 t_draft_held_3 t_draft_known_4 t_draft_worths_5 t_text_length t_text_bytes)) rfl (fun H locs hP hD hS => ?_)
  obtain ⟨g0, g1, g2, g3, g4⟩ := nh_i5 h
  exact nh_ri hx hb hr hlocks g0 (by rw [← g1, ← g2, ← g3, ← g4]; exact hP) hS dX10_fault_11
abbrev wlX10_fair (cI cZ cO : ClassId) (q_t q_t_text q_t_people q_t_draft q_t_acts q_t_ends q_t_wants q_t_circle q_t_game q_t_stranger q_t_slots q_t_judged q_t_acts_row q_t_draft_held q_t_draft_known q_t_draft_worths q_t_people_held q_t_people_known q_t_people_worths q_t_slots_0 q_t_slots_1 q_t_slots_0_held q_t_slots_0_known q_t_slots_1_held q_t_slots_1_known q_t_text_bytes q_t_wants_wanted q_t_wants_bestRow q_t_wants_row : Nat) (t_acts_count : Int32) (t_draft_count : Int32) (t_draft_held : Nat → Int32) (t_draft_known : Nat → Int32) (t_draft_worths : Nat → Int32) (t_people_count : Int32) (t_people_held : Nat → Int32) (t_people_known : Nat → Int32) (t_people_worths : Nat → Int32) (t_slots_0_filled : Int32) (t_slots_1_filled : Int32) (t_text_length : Int32) (t_text_bytes : Nat → Int32) (t_wants_best : Int32) (t_wants_limit : Int32) (t_wants_wanted : Nat → Int32) : va_W := [(q_t, .inr (9, [.ref q_t_text, .ref q_t_people, .ref q_t_draft, .ref q_t_acts, .ref q_t_ends, .ref q_t_wants, .ref q_t_circle, .ref q_t_game, .ref q_t_stranger, .ref q_t_slots, .ref q_t_judged])), (q_t_acts, .inr (0, [.int t_acts_count, .ref q_t_acts_row])), (q_t_draft, .inr (1, [.int t_draft_count, .ref q_t_draft_held, .ref q_t_draft_known, .ref q_t_draft_worths])), (q_t_draft_held, .inl (cI, 4, .inl t_draft_held)), (q_t_draft_known, .inl (cI, 4, .inl t_draft_known)), (q_t_draft_worths, .inl (cI, 24, .inl t_draft_worths)), (q_t_people, .inr (1, [.int t_people_count, .ref q_t_people_held, .ref q_t_people_known, .ref q_t_people_worths])), (q_t_people_held, .inl (cI, 4, .inl t_people_held)), (q_t_people_known, .inl (cI, 4, .inl t_people_known)), (q_t_people_worths, .inl (cI, 24, .inl t_people_worths)), (q_t_slots, .inl (cO, 2, .inr (.inr (.inr (.inr (nh_two q_t_slots_0 q_t_slots_1)))))), (q_t_slots_0, .inr (5, [.int t_slots_0_filled, .ref q_t_slots_0_held, .ref q_t_slots_0_known])), (q_t_slots_1, .inr (5, [.int t_slots_1_filled, .ref q_t_slots_1_held, .ref q_t_slots_1_known])), (q_t_text, .inr (6, [.int t_text_length, .ref q_t_text_bytes])), (q_t_text_bytes, .inl (cI, 64, .inl t_text_bytes)), (q_t_wants, .inr (8, [.ref q_t_wants_wanted, .int t_wants_best, .ref q_t_wants_bestRow, .ref q_t_wants_row, .int t_wants_limit])), (q_t_wants_wanted, .inl (cI, 4, .inl t_wants_wanted))]
def fX10_fair_B47  (k47 : Int32 → Int32 → Int32 → Option (Int32 × Int32 × Int32 × (Nat → Int32) × (Nat → Int32) × (Nat → Int32) × Int32 × (Nat → Int32) × (Nat → Int32) × (Nat → Int32) × Int32 × Int32 × (Nat → Int32))) (r47 : Int32 → Int32 → Int32 → Option (Int32 × Int32 × Int32 × (Nat → Int32) × (Nat → Int32) × (Nat → Int32) × Int32 × (Nat → Int32) × (Nat → Int32) × (Nat → Int32) × Int32 × Int32 × (Nat → Int32))) (x1_15 : Int32) (t_slots_0_filled_16 : Int32) (t_slots_1_filled_17 : Int32) : Option (Int32 × Int32 × Int32 × (Nat → Int32) × (Nat → Int32) × (Nat → Int32) × Int32 × (Nat → Int32) × (Nat → Int32) × (Nat → Int32) × Int32 × Int32 × (Nat → Int32)) :=
  (if 2 ≤ x1_15 then k47 x1_15 t_slots_0_filled_16 t_slots_1_filled_17
 else (if x1_15 = 0 then nh_let (α := Int32) (x1_15 + 1) (fun x1_24 => r47 x1_24 0 t_slots_1_filled_17)
 else (if x1_15 = 1 then nh_let (α := Int32) (x1_15 + 1) (fun x1_25 => r47 x1_25 t_slots_0_filled_16 0)
 else none)))
def fX10_fair_L47  (k47 : Int32 → Int32 → Int32 → Option (Int32 × Int32 × Int32 × (Nat → Int32) × (Nat → Int32) × (Nat → Int32) × Int32 × (Nat → Int32) × (Nat → Int32) × (Nat → Int32) × Int32 × Int32 × (Nat → Int32))) : Nat → Int32 → Int32 → Int32 → Option (Int32 × Int32 × Int32 × (Nat → Int32) × (Nat → Int32) × (Nat → Int32) × Int32 × (Nat → Int32) × (Nat → Int32) × (Nat → Int32) × Int32 × Int32 × (Nat → Int32))
  | 0 => fun _ _ _ => none
  | n + 1 => fX10_fair_B47  k47 (fX10_fair_L47  k47 n)
def fX10_fair (F : Nat) (t_acts_count : Int32) (t_draft_count : Int32) (t_draft_held : Nat → Int32) (t_draft_known : Nat → Int32) (t_draft_worths : Nat → Int32) (t_people_count : Int32) (t_people_held : Nat → Int32) (t_people_known : Nat → Int32) (t_people_worths : Nat → Int32) (t_slots_0_filled : Int32) (t_slots_1_filled : Int32) (t_text_length : Int32) (t_text_bytes : Nat → Int32) (t_wants_wanted : Nat → Int32) : Option (Int32 × Int32 × Int32 × (Nat → Int32) × (Nat → Int32) × (Nat → Int32) × Int32 × (Nat → Int32) × (Nat → Int32) × (Nat → Int32) × Int32 × Int32 × (Nat → Int32)) :=
  nh_b5 (fX7_readInto F t_text_length t_text_bytes t_draft_count t_draft_held t_draft_known t_draft_worths) (fun r_1 t_draft_count_2 t_draft_held_3 t_draft_known_4 t_draft_worths_5 => (if r_1 = (-9) then nh_b4 (fX1_become t_people_count t_people_held t_people_known t_people_worths t_draft_count_2 t_draft_held_3 t_draft_known_4 t_draft_worths_5) (fun t_people_count_8 t_people_held_9 t_people_known_10 t_people_worths_11 => nh_b1 (fX9_forget F t_wants_wanted) (fun t_wants_wanted_13 => fX10_fair_L47  (fun x1_18 t_slots_0_filled_19 t_slots_1_filled_20 => some (t_people_count_8, 0, t_draft_count_2, t_draft_held_3, t_draft_known_4, t_draft_worths_5, t_people_count_8, t_people_held_9, t_people_known_10, t_people_worths_11, t_slots_0_filled_19, t_slots_1_filled_20, t_wants_wanted_13)) F 0 t_slots_0_filled t_slots_1_filled))
 else some ((-3), t_acts_count, t_draft_count_2, t_draft_held_3, t_draft_known_4, t_draft_worths_5, t_people_count, t_people_held, t_people_known, t_people_worths, t_slots_0_filled, t_slots_1_filled, t_wants_wanted)))
set_option maxHeartbeats 4000000 in
set_option maxRecDepth 100000 in
theorem kX10_fair (F : Nat) (l : Launch) (D : va_G) (cI cZ cO : ClassId) (sz : Nat) (q_t q_t_text q_t_people q_t_draft q_t_acts q_t_ends q_t_wants q_t_circle q_t_game q_t_stranger q_t_slots q_t_judged q_t_acts_row q_t_draft_held q_t_draft_known q_t_draft_worths q_t_people_held q_t_people_known q_t_people_worths q_t_slots_0 q_t_slots_1 q_t_slots_0_held q_t_slots_0_known q_t_slots_1_held q_t_slots_1_known q_t_text_bytes q_t_wants_wanted q_t_wants_bestRow q_t_wants_row : Nat) (t_acts_count : Int32) (t_draft_count : Int32) (t_draft_held : Nat → Int32) (t_draft_known : Nat → Int32) (t_draft_worths : Nat → Int32) (t_people_count : Int32) (t_people_held : Nat → Int32) (t_people_known : Nat → Int32) (t_people_worths : Nat → Int32) (t_slots_0_filled : Int32) (t_slots_1_filled : Int32) (t_text_length : Int32) (t_text_bytes : Nat → Int32) (t_wants_best : Int32) (t_wants_limit : Int32) (t_wants_wanted : Nat → Int32)  (o_r : Int32) (o_t_acts_count : Int32) (o_t_draft_count : Int32) (o_t_draft_held : Nat → Int32) (o_t_draft_known : Nat → Int32) (o_t_draft_worths : Nat → Int32) (o_t_people_count : Int32) (o_t_people_held : Nat → Int32) (o_t_people_known : Nat → Int32) (o_t_people_worths : Nat → Int32) (o_t_slots_0_filled : Int32) (o_t_slots_1_filled : Int32) (o_t_wants_wanted : Nat → Int32) (h : fX10_fair F t_acts_count t_draft_count t_draft_held t_draft_known t_draft_worths t_people_count t_people_held t_people_known t_people_worths t_slots_0_filled t_slots_1_filled t_text_length t_text_bytes t_wants_wanted = some (o_r, o_t_acts_count, o_t_draft_count, o_t_draft_held, o_t_draft_known, o_t_draft_worths, o_t_people_count, o_t_people_held, o_t_people_known, o_t_people_worths, o_t_slots_0_filled, o_t_slots_1_filled, o_t_wants_wanted)) : Met l yX10_fair (nh_w (.code yX10_fair cX10_fair 2 (some .int))) (nh_rm 5) (nh_Pc D cI cZ cO (wlX10_fair cI cZ cO q_t q_t_text q_t_people q_t_draft q_t_acts q_t_ends q_t_wants q_t_circle q_t_game q_t_stranger q_t_slots q_t_judged q_t_acts_row q_t_draft_held q_t_draft_known q_t_draft_worths q_t_people_held q_t_people_known q_t_people_worths q_t_slots_0 q_t_slots_1 q_t_slots_0_held q_t_slots_0_known q_t_slots_1_held q_t_slots_1_known q_t_text_bytes q_t_wants_wanted q_t_wants_bestRow q_t_wants_row t_acts_count t_draft_count t_draft_held t_draft_known t_draft_worths t_people_count t_people_held t_people_known t_people_worths t_slots_0_filled t_slots_1_filled t_text_length t_text_bytes t_wants_best t_wants_limit t_wants_wanted) [.ref q_t] sz) ((nh_Qi D (wlX10_fair cI cZ cO q_t q_t_text q_t_people q_t_draft q_t_acts q_t_ends q_t_wants q_t_circle q_t_game q_t_stranger q_t_slots q_t_judged q_t_acts_row q_t_draft_held q_t_draft_known q_t_draft_worths q_t_people_held q_t_people_known q_t_people_worths q_t_slots_0 q_t_slots_1 q_t_slots_0_held q_t_slots_0_known q_t_slots_1_held q_t_slots_1_known q_t_text_bytes q_t_wants_wanted q_t_wants_bestRow q_t_wants_row o_t_acts_count o_t_draft_count o_t_draft_held o_t_draft_known o_t_draft_worths o_t_people_count o_t_people_held o_t_people_known o_t_people_worths o_t_slots_0_filled o_t_slots_1_filled t_text_length t_text_bytes t_wants_best t_wants_limit o_t_wants_wanted) o_r) (va_A (wlX10_fair cI cZ cO q_t q_t_text q_t_people q_t_draft q_t_acts q_t_ends q_t_wants q_t_circle q_t_game q_t_stranger q_t_slots q_t_judged q_t_acts_row q_t_draft_held q_t_draft_known q_t_draft_worths q_t_people_held q_t_people_known q_t_people_worths q_t_slots_0 q_t_slots_1 q_t_slots_0_held q_t_slots_0_known q_t_slots_1_held q_t_slots_1_known q_t_text_bytes q_t_wants_wanted q_t_wants_bestRow q_t_wants_row t_acts_count t_draft_count t_draft_held t_draft_known t_draft_worths t_people_count t_people_held t_people_known t_people_worths t_slots_0_filled t_slots_1_filled t_text_length t_text_bytes t_wants_best t_wants_limit t_wants_wanted) sz)) 0 0 (va_A (wlX10_fair cI cZ cO q_t q_t_text q_t_people q_t_draft q_t_acts q_t_ends q_t_wants q_t_circle q_t_game q_t_stranger q_t_slots q_t_judged q_t_acts_row q_t_draft_held q_t_draft_known q_t_draft_worths q_t_people_held q_t_people_known q_t_people_worths q_t_slots_0 q_t_slots_1 q_t_slots_0_held q_t_slots_0_known q_t_slots_1_held q_t_slots_1_known q_t_text_bytes q_t_wants_wanted q_t_wants_bestRow q_t_wants_row t_acts_count t_draft_count t_draft_held t_draft_known t_draft_worths t_people_count t_people_held t_people_known t_people_worths t_slots_0_filled t_slots_1_filled t_text_length t_text_bytes t_wants_best t_wants_limit t_wants_wanted) sz) := by
  unfold fX10_fair at h
  refine nh_met (cc := cX10_fair) (maxL := 2) (ret := (some .int)) (nh_Qi D (wlX10_fair cI cZ cO q_t q_t_text q_t_people q_t_draft q_t_acts q_t_ends q_t_wants q_t_circle q_t_game q_t_stranger q_t_slots q_t_judged q_t_acts_row q_t_draft_held q_t_draft_known q_t_draft_worths q_t_people_held q_t_people_known q_t_people_worths q_t_slots_0 q_t_slots_1 q_t_slots_0_held q_t_slots_0_known q_t_slots_1_held q_t_slots_1_known q_t_text_bytes q_t_wants_wanted q_t_wants_bestRow q_t_wants_row o_t_acts_count o_t_draft_count o_t_draft_held o_t_draft_known o_t_draft_worths o_t_people_count o_t_people_held o_t_people_known o_t_people_worths o_t_slots_0_filled o_t_slots_1_filled t_text_length t_text_bytes t_wants_best t_wants_limit o_t_wants_wanted) o_r) (by decide) rfl (Nat.le_of_ble_eq_true rfl) ?_
  intro p e s m args below meth c A H locs ls hx hb hml hr hown hts hlocks hinit hP hK hN hD hA hS hl
  have hl : lv_has ls 2 [(0, .ref q_t)] := hl
  have hts : ∀ w ∈ nh_words, w.before args s = true := fun w h => hts w (List.mem_cons_of_mem _ h)
  refine lv_aload_n hx hb dX10_fair_0 rfl (lv_at hl 0 rfl) ?_
  refine va_get (D := D) (ci := 9) (v := .ref q_t_text) (C := RX10) (T := TX10) (N := 11) hx hb hts nhu_X10 hown hK hP 0 rfl rfl 0 (by decide) (hts _ nhw_206) (fun _ h9 => h9) rfl dX10_fair_1 ?_
  refine lv_aload_n hx hb dX10_fair_4 rfl (lv_at hl 0 rfl) ?_
  refine va_get (D := D) (ci := 9) (v := .ref q_t_draft) (C := RX10) (T := TX10) (N := 11) hx hb hts nhu_X10 hown hK hP 0 rfl rfl 2 (by decide) (hts _ nhw_219) (fun _ h9 => h9) rfl dX10_fair_5 ?_
  obtain ⟨r_1, t_draft_count_2, t_draft_held_3, t_draft_known_4, t_draft_worths_5, hc6, h⟩ := nh_b5_some h
  refine nh_goi (nh_V (As := [.ref q_t_draft]) (rest := []) ⟨hx, hb, hml, hown, hts⟩ (kX7_readInto F l D cI cZ cO H.size q_t_text q_t_draft q_t_text_bytes q_t_draft_held q_t_draft_known q_t_draft_worths t_text_length t_text_bytes t_draft_count t_draft_held t_draft_known t_draft_worths r_1 t_draft_count_2 t_draft_held_3 t_draft_known_4 t_draft_worths_5 hc6) (cwV 1 hts (nh_gV nhw_584 nhw_445 nhw_792 nhw_311 nhw_162) rfl rfl rfl (by decide +kernel) ⟨Nat.le_of_ble_eq_true rfl, Nat.le_of_ble_eq_true rfl⟩) hK hN hP hD (isC := [13, 14, 2, 3, 4, 5]) rfl rfl 13 6 rfl rfl rfl rfl hl.1 rfl (Nat.le_of_ble_eq_true rfl) dX10_fair_8 ⟨Nat.zero_le _, Nat.zero_le _⟩) hP hD hS hA (isC := [13, 14, 2, 3, 4, 5]) rfl rfl rfl (w' := (wlX10_fair cI cZ cO q_t q_t_text q_t_people q_t_draft q_t_acts q_t_ends q_t_wants q_t_circle q_t_game q_t_stranger q_t_slots q_t_judged q_t_acts_row q_t_draft_held q_t_draft_known q_t_draft_worths q_t_people_held q_t_people_known q_t_people_worths q_t_slots_0 q_t_slots_1 q_t_slots_0_held q_t_slots_0_known q_t_slots_1_held q_t_slots_1_known q_t_text_bytes q_t_wants_wanted q_t_wants_bestRow q_t_wants_row t_acts_count t_draft_count_2 t_draft_held_3 t_draft_known_4 t_draft_worths_5 t_people_count t_people_held t_people_known t_people_worths t_slots_0_filled t_slots_1_filled t_text_length t_text_bytes t_wants_best t_wants_limit t_wants_wanted)) rfl (fun H locs hP hD hS => ?_)
  refine lv_bipush (v := (-9)) hx hb dX10_fair_11 (by decide) ?_
  refine lv_icmp_eq (tgt := 19) hx hb dX10_fair_13 (by decide) (fun c7 => ?_) (fun c7 => ?_)
  · replace h := nh_t h c7
    refine lv_aload_n hx hb dX10_fair_19 rfl (lv_at hl 0 rfl) ?_
    refine va_get (D := D) (ci := 9) (v := .ref q_t_people) (C := RX10) (T := TX10) (N := 11) hx hb hts nhu_X10 hown hK hP 0 rfl rfl 1 (by decide) (hts _ nhw_215) (fun _ h9 => h9) rfl dX10_fair_20 ?_
    refine lv_aload_n hx hb dX10_fair_23 rfl (lv_at hl 0 rfl) ?_
    refine va_get (D := D) (ci := 9) (v := .ref q_t_draft) (C := RX10) (T := TX10) (N := 11) hx hb hts nhu_X10 hown hK hP 0 rfl rfl 2 (by decide) (hts _ nhw_219) (fun _ h9 => h9) rfl dX10_fair_24 ?_
    obtain ⟨t_people_count_8, t_people_held_9, t_people_known_10, t_people_worths_11, hc12, h⟩ := nh_b4_some h
    refine nh_gov (nh_V (As := [.ref q_t_draft]) (rest := []) ⟨hx, hb, hml, hown, hts⟩ (kX1_become  l D cI cZ cO H.size q_t_people q_t_draft q_t_people_held q_t_people_known q_t_people_worths q_t_draft_held q_t_draft_known q_t_draft_worths t_people_count t_people_held t_people_known t_people_worths t_draft_count_2 t_draft_held_3 t_draft_known_4 t_draft_worths_5 t_people_count_8 t_people_held_9 t_people_known_10 t_people_worths_11 hc12) (cwV 1 hts (nh_gV nhw_585 nhw_414 nhw_676 nhw_303 nhw_123) rfl rfl rfl (by decide +kernel) ⟨Nat.le_of_ble_eq_true rfl, Nat.le_of_ble_eq_true rfl⟩) hK hN hP hD (isC := [6, 7, 8, 9, 2, 3, 4, 5]) rfl rfl 6 1 rfl rfl rfl rfl hl.1 rfl (Nat.le_of_ble_eq_true rfl) dX10_fair_27 ⟨Nat.zero_le _, Nat.zero_le _⟩) hP hD hS hA (isC := [6, 7, 8, 9, 2, 3, 4, 5]) rfl rfl rfl (w' := (wlX10_fair cI cZ cO q_t q_t_text q_t_people q_t_draft q_t_acts q_t_ends q_t_wants q_t_circle q_t_game q_t_stranger q_t_slots q_t_judged q_t_acts_row q_t_draft_held q_t_draft_known q_t_draft_worths q_t_people_held q_t_people_known q_t_people_worths q_t_slots_0 q_t_slots_1 q_t_slots_0_held q_t_slots_0_known q_t_slots_1_held q_t_slots_1_known q_t_text_bytes q_t_wants_wanted q_t_wants_bestRow q_t_wants_row t_acts_count t_draft_count_2 t_draft_held_3 t_draft_known_4 t_draft_worths_5 t_people_count_8 t_people_held_9 t_people_known_10 t_people_worths_11 t_slots_0_filled t_slots_1_filled t_text_length t_text_bytes t_wants_best t_wants_limit t_wants_wanted)) rfl (fun H locs hP hD hS => ?_)
    refine lv_aload_n hx hb dX10_fair_30 rfl (lv_at hl 0 rfl) ?_
    refine va_get (D := D) (ci := 9) (v := .ref q_t_acts) (C := RX10) (T := TX10) (N := 11) hx hb hts nhu_X10 hown hK hP 0 rfl rfl 3 (by decide) (hts _ nhw_220) (fun _ h9 => h9) rfl dX10_fair_31 ?_
    refine lv_iconst (v := 0) hx hb dX10_fair_34 (by decide) ?_
    refine va_put (D := D) (ci := 0) (v := .int 0) (ty := .int) (C := RX0) (T := TX0) (N := 2) hx hb hts nhu_X0 tyX0 tyX0_ok nmX0 hown hK hP hD hS 1 rfl rfl 0 (by decide) (hts _ nhw_229) (fun _ h9 => h9) rfl (by decide +kernel) rfl rfl (Nat.le_of_ble_eq_true rfl) dX10_fair_35 (fun H locs hP hD hS => ?_)
    have hP : va_P D vwCl (wlX10_fair cI cZ cO q_t q_t_text q_t_people q_t_draft q_t_acts q_t_ends q_t_wants q_t_circle q_t_game q_t_stranger q_t_slots q_t_judged q_t_acts_row q_t_draft_held q_t_draft_known q_t_draft_worths q_t_people_held q_t_people_known q_t_people_worths q_t_slots_0 q_t_slots_1 q_t_slots_0_held q_t_slots_0_known q_t_slots_1_held q_t_slots_1_known q_t_text_bytes q_t_wants_wanted q_t_wants_bestRow q_t_wants_row 0 t_draft_count_2 t_draft_held_3 t_draft_known_4 t_draft_worths_5 t_people_count_8 t_people_held_9 t_people_known_10 t_people_worths_11 t_slots_0_filled t_slots_1_filled t_text_length t_text_bytes t_wants_best t_wants_limit t_wants_wanted) H := hP
    have hD : va_D A (wlX10_fair cI cZ cO q_t q_t_text q_t_people q_t_draft q_t_acts q_t_ends q_t_wants q_t_circle q_t_game q_t_stranger q_t_slots q_t_judged q_t_acts_row q_t_draft_held q_t_draft_known q_t_draft_worths q_t_people_held q_t_people_known q_t_people_worths q_t_slots_0 q_t_slots_1 q_t_slots_0_held q_t_slots_0_known q_t_slots_1_held q_t_slots_1_known q_t_text_bytes q_t_wants_wanted q_t_wants_bestRow q_t_wants_row 0 t_draft_count_2 t_draft_held_3 t_draft_known_4 t_draft_worths_5 t_people_count_8 t_people_held_9 t_people_known_10 t_people_worths_11 t_slots_0_filled t_slots_1_filled t_text_length t_text_bytes t_wants_best t_wants_limit t_wants_wanted) := hD
    refine lv_aload_n hx hb dX10_fair_38 rfl (lv_at hl 0 rfl) ?_
    refine va_get (D := D) (ci := 9) (v := .ref q_t_wants) (C := RX10) (T := TX10) (N := 11) hx hb hts nhu_X10 hown hK hP 0 rfl rfl 5 (by decide) (hts _ nhw_222) (fun _ h9 => h9) rfl dX10_fair_39 ?_
    obtain ⟨t_wants_wanted_13, hc14, h⟩ := nh_b1_some h
    refine nh_gov (nh_V (As := []) (rest := []) ⟨hx, hb, hml, hown, hts⟩ (kX9_forget F l D cI cZ cO H.size q_t_wants q_t_wants_wanted q_t_wants_bestRow q_t_wants_row t_wants_best t_wants_limit t_wants_wanted t_wants_wanted_13 hc14) (cwV 0 hts (nh_gV nhw_586 nhw_449 nhw_795 nhw_313 nhw_175) rfl rfl rfl (by decide +kernel) ⟨Nat.le_of_ble_eq_true rfl, Nat.le_of_ble_eq_true rfl⟩) hK hN hP hD (isC := [15, 16]) rfl rfl 15 8 rfl rfl rfl rfl hl.1 rfl (Nat.le_of_ble_eq_true rfl) dX10_fair_42 ⟨Nat.zero_le _, Nat.zero_le _⟩) hP hD hS hA (isC := [15, 16]) rfl rfl rfl (w' := (wlX10_fair cI cZ cO q_t q_t_text q_t_people q_t_draft q_t_acts q_t_ends q_t_wants q_t_circle q_t_game q_t_stranger q_t_slots q_t_judged q_t_acts_row q_t_draft_held q_t_draft_known q_t_draft_worths q_t_people_held q_t_people_known q_t_people_worths q_t_slots_0 q_t_slots_1 q_t_slots_0_held q_t_slots_0_known q_t_slots_1_held q_t_slots_1_known q_t_text_bytes q_t_wants_wanted q_t_wants_bestRow q_t_wants_row 0 t_draft_count_2 t_draft_held_3 t_draft_known_4 t_draft_worths_5 t_people_count_8 t_people_held_9 t_people_known_10 t_people_worths_11 t_slots_0_filled t_slots_1_filled t_text_length t_text_bytes t_wants_best t_wants_limit t_wants_wanted_13)) rfl (fun H locs hP hD hS => ?_)
    refine lv_iconst (v := 0) hx hb dX10_fair_45 (by decide) ?_
    refine lv_istore_n (lv' := [(1, .int 0), (0, .ref q_t)]) hx hb dX10_fair_46 rfl hl (by decide) rfl (fun ls hl => ?_)
    have L47 : ∀ (k47 : Int32 → Int32 → Int32 → Option (Int32 × Int32 × Int32 × (Nat → Int32) × (Nat → Int32) × (Nat → Int32) × Int32 × (Nat → Int32) × (Nat → Int32) × (Nat → Int32) × Int32 × Int32 × (Nat → Int32))), (∀ (x1_18 : Int32) (t_slots_0_filled_19 : Int32) (t_slots_1_filled_20 : Int32) (H : Heap) (locs : List Loc) (ls : Array Slot), va_P D vwCl (wlX10_fair cI cZ cO q_t q_t_text q_t_people q_t_draft q_t_acts q_t_ends q_t_wants q_t_circle q_t_game q_t_stranger q_t_slots q_t_judged q_t_acts_row q_t_draft_held q_t_draft_known q_t_draft_worths q_t_people_held q_t_people_known q_t_people_worths q_t_slots_0 q_t_slots_1 q_t_slots_0_held q_t_slots_0_known q_t_slots_1_held q_t_slots_1_known q_t_text_bytes q_t_wants_wanted q_t_wants_bestRow q_t_wants_row 0 t_draft_count_2 t_draft_held_3 t_draft_known_4 t_draft_worths_5 t_people_count_8 t_people_held_9 t_people_known_10 t_people_worths_11 t_slots_0_filled_19 t_slots_1_filled_20 t_text_length t_text_bytes t_wants_best t_wants_limit t_wants_wanted_13) H → va_D A (wlX10_fair cI cZ cO q_t q_t_text q_t_people q_t_draft q_t_acts q_t_ends q_t_wants q_t_circle q_t_game q_t_stranger q_t_slots q_t_judged q_t_acts_row q_t_draft_held q_t_draft_known q_t_draft_worths q_t_people_held q_t_people_known q_t_people_worths q_t_slots_0 q_t_slots_1 q_t_slots_0_held q_t_slots_0_known q_t_slots_1_held q_t_slots_1_known q_t_text_bytes q_t_wants_wanted q_t_wants_bestRow q_t_wants_row 0 t_draft_count_2 t_draft_held_3 t_draft_known_4 t_draft_worths_5 t_people_count_8 t_people_held_9 t_people_known_10 t_people_worths_11 t_slots_0_filled_19 t_slots_1_filled_20 t_text_length t_text_bytes t_wants_best t_wants_limit t_wants_wanted_13) → va_S A s.heap H locs → lv_has ls 2 [(0, .ref q_t), (1, .int x1_18)] → k47 x1_18 t_slots_0_filled_19 t_slots_1_filled_20 = some (o_r, o_t_acts_count, o_t_draft_count, o_t_draft_held, o_t_draft_known, o_t_draft_worths, o_t_people_count, o_t_people_held, o_t_people_known, o_t_people_worths, o_t_slots_0_filled, o_t_slots_1_filled, o_t_wants_wanted) → W p l e (nh_rm 5) s m args below meth c H locs 0 0 (MQ below ((nh_Qi D (wlX10_fair cI cZ cO q_t q_t_text q_t_people q_t_draft q_t_acts q_t_ends q_t_wants q_t_circle q_t_game q_t_stranger q_t_slots q_t_judged q_t_acts_row q_t_draft_held q_t_draft_known q_t_draft_worths q_t_people_held q_t_people_known q_t_people_worths q_t_slots_0 q_t_slots_1 q_t_slots_0_held q_t_slots_0_known q_t_slots_1_held q_t_slots_1_known q_t_text_bytes q_t_wants_wanted q_t_wants_bestRow q_t_wants_row o_t_acts_count o_t_draft_count o_t_draft_held o_t_draft_known o_t_draft_worths o_t_people_count o_t_people_held o_t_people_known o_t_people_worths o_t_slots_0_filled o_t_slots_1_filled t_text_length t_text_bytes t_wants_best t_wants_limit o_t_wants_wanted) o_r) A) args s 0 0 A) (F0 m 68 ls [])) → ∀ (n : Nat) (x1_15 : Int32) (t_slots_0_filled_16 : Int32) (t_slots_1_filled_17 : Int32) (H : Heap) (locs : List Loc) (ls : Array Slot), va_P D vwCl (wlX10_fair cI cZ cO q_t q_t_text q_t_people q_t_draft q_t_acts q_t_ends q_t_wants q_t_circle q_t_game q_t_stranger q_t_slots q_t_judged q_t_acts_row q_t_draft_held q_t_draft_known q_t_draft_worths q_t_people_held q_t_people_known q_t_people_worths q_t_slots_0 q_t_slots_1 q_t_slots_0_held q_t_slots_0_known q_t_slots_1_held q_t_slots_1_known q_t_text_bytes q_t_wants_wanted q_t_wants_bestRow q_t_wants_row 0 t_draft_count_2 t_draft_held_3 t_draft_known_4 t_draft_worths_5 t_people_count_8 t_people_held_9 t_people_known_10 t_people_worths_11 t_slots_0_filled_16 t_slots_1_filled_17 t_text_length t_text_bytes t_wants_best t_wants_limit t_wants_wanted_13) H → va_D A (wlX10_fair cI cZ cO q_t q_t_text q_t_people q_t_draft q_t_acts q_t_ends q_t_wants q_t_circle q_t_game q_t_stranger q_t_slots q_t_judged q_t_acts_row q_t_draft_held q_t_draft_known q_t_draft_worths q_t_people_held q_t_people_known q_t_people_worths q_t_slots_0 q_t_slots_1 q_t_slots_0_held q_t_slots_0_known q_t_slots_1_held q_t_slots_1_known q_t_text_bytes q_t_wants_wanted q_t_wants_bestRow q_t_wants_row 0 t_draft_count_2 t_draft_held_3 t_draft_known_4 t_draft_worths_5 t_people_count_8 t_people_held_9 t_people_known_10 t_people_worths_11 t_slots_0_filled_16 t_slots_1_filled_17 t_text_length t_text_bytes t_wants_best t_wants_limit t_wants_wanted_13) → va_S A s.heap H locs → lv_has ls 2 [(0, .ref q_t), (1, .int x1_15)] → fX10_fair_L47  k47 n x1_15 t_slots_0_filled_16 t_slots_1_filled_17 = some (o_r, o_t_acts_count, o_t_draft_count, o_t_draft_held, o_t_draft_known, o_t_draft_worths, o_t_people_count, o_t_people_held, o_t_people_known, o_t_people_worths, o_t_slots_0_filled, o_t_slots_1_filled, o_t_wants_wanted) → W p l e (nh_rm 5) s m args below meth c H locs 0 0 (MQ below ((nh_Qi D (wlX10_fair cI cZ cO q_t q_t_text q_t_people q_t_draft q_t_acts q_t_ends q_t_wants q_t_circle q_t_game q_t_stranger q_t_slots q_t_judged q_t_acts_row q_t_draft_held q_t_draft_known q_t_draft_worths q_t_people_held q_t_people_known q_t_people_worths q_t_slots_0 q_t_slots_1 q_t_slots_0_held q_t_slots_0_known q_t_slots_1_held q_t_slots_1_known q_t_text_bytes q_t_wants_wanted q_t_wants_bestRow q_t_wants_row o_t_acts_count o_t_draft_count o_t_draft_held o_t_draft_known o_t_draft_worths o_t_people_count o_t_people_held o_t_people_known o_t_people_worths o_t_slots_0_filled o_t_slots_1_filled t_text_length t_text_bytes t_wants_best t_wants_limit o_t_wants_wanted) o_r) A) args s 0 0 A) (F0 m 47 ls []) := by
      intro k47 hk47 n
      induction n with
      | zero => intro x1_15 t_slots_0_filled_16 t_slots_1_filled_17 H locs ls hP hD hS hl h; exact (nh_none h).elim
      | succ n47 ih47 =>
        intro x1_15 t_slots_0_filled_16 t_slots_1_filled_17 H locs ls hP hD hS hl h
        replace h : fX10_fair_B47  k47 (fX10_fair_L47  k47 n47) x1_15 t_slots_0_filled_16 t_slots_1_filled_17 = some (o_r, o_t_acts_count, o_t_draft_count, o_t_draft_held, o_t_draft_known, o_t_draft_worths, o_t_people_count, o_t_people_held, o_t_people_known, o_t_people_worths, o_t_slots_0_filled, o_t_slots_1_filled, o_t_wants_wanted) := h
        unfold fX10_fair_B47 at h
        refine lv_iload_n hx hb dX10_fair_47 rfl (lv_at hl 1 rfl) ?_
        refine lv_iconst (v := 2) hx hb dX10_fair_48 (by decide) ?_
        refine lv_icmp_ge (tgt := 68) hx hb dX10_fair_49 (by decide) (fun c21 => ?_) (fun c21 => ?_)
        · replace h := nh_t h c21
          exact hk47 x1_15 t_slots_0_filled_16 t_slots_1_filled_17 H locs ls hP hD hS (lv_sub hl [0, 1] rfl) h
        · replace h := nh_f h c21
          refine lv_aload_n hx hb dX10_fair_52 rfl (lv_at hl 0 rfl) ?_
          refine va_get (D := D) (ci := 9) (v := .ref q_t_slots) (C := RX10) (T := TX10) (N := 11) hx hb hts nhu_X10 hown hK hP 0 rfl rfl 9 (by decide) (hts _ nhw_226) (fun _ h9 => h9) rfl dX10_fair_53 ?_
          refine lv_iload_n hx hb dX10_fair_56 rfl (lv_at hl 1 rfl) ?_
          by_cases c22 : x1_15 = 0
          · replace h := nh_t h c22
            refine va_aldq hx hb hK hP 10 2 rfl rfl (by rw [c22]; exact nh_in_in (by decide)) dX10_fair_57 ?_
            have c22v : va_rf (nh_two q_t_slots_0 q_t_slots_1 (Int32.toNatClampNeg x1_15)) = .ref q_t_slots_0 := by rw [c22]; rfl
            rw [c22v]
            refine lv_iconst (v := 0) hx hb dX10_fair_58 (by decide) ?_
            refine va_put (D := D) (ci := 5) (v := .int 0) (ty := .boolean) (C := RX6) (T := TX6) (N := 3) hx hb hts nhu_X6 tyX6 tyX6_ok nmX6 hown hK hP hD hS 11 rfl rfl 0 (by decide) (hts _ nhw_203) (fun _ h9 => h9) rfl (by decide +kernel) rfl rfl (Nat.le_of_ble_eq_true rfl) dX10_fair_59 (fun H locs hP hD hS => ?_)
            have hP : va_P D vwCl (wlX10_fair cI cZ cO q_t q_t_text q_t_people q_t_draft q_t_acts q_t_ends q_t_wants q_t_circle q_t_game q_t_stranger q_t_slots q_t_judged q_t_acts_row q_t_draft_held q_t_draft_known q_t_draft_worths q_t_people_held q_t_people_known q_t_people_worths q_t_slots_0 q_t_slots_1 q_t_slots_0_held q_t_slots_0_known q_t_slots_1_held q_t_slots_1_known q_t_text_bytes q_t_wants_wanted q_t_wants_bestRow q_t_wants_row 0 t_draft_count_2 t_draft_held_3 t_draft_known_4 t_draft_worths_5 t_people_count_8 t_people_held_9 t_people_known_10 t_people_worths_11 0 t_slots_1_filled_17 t_text_length t_text_bytes t_wants_best t_wants_limit t_wants_wanted_13) H := hP
            have hD : va_D A (wlX10_fair cI cZ cO q_t q_t_text q_t_people q_t_draft q_t_acts q_t_ends q_t_wants q_t_circle q_t_game q_t_stranger q_t_slots q_t_judged q_t_acts_row q_t_draft_held q_t_draft_known q_t_draft_worths q_t_people_held q_t_people_known q_t_people_worths q_t_slots_0 q_t_slots_1 q_t_slots_0_held q_t_slots_0_known q_t_slots_1_held q_t_slots_1_known q_t_text_bytes q_t_wants_wanted q_t_wants_bestRow q_t_wants_row 0 t_draft_count_2 t_draft_held_3 t_draft_known_4 t_draft_worths_5 t_people_count_8 t_people_held_9 t_people_known_10 t_people_worths_11 0 t_slots_1_filled_17 t_text_length t_text_bytes t_wants_best t_wants_limit t_wants_wanted_13) := hD
            obtain ⟨x1_24, ex1_24⟩ : ∃ y : Int32, y = x1_15 + 1 := ⟨_, rfl⟩
            replace h := nh_to h ex1_24
            refine lv_iinc (v := x1_24) (lv' := [(1, .int x1_24), (0, .ref q_t)]) hx hb dX10_fair_62 hl (k := 1) rfl (by rw [ex1_24]; rfl) (by decide) rfl (fun ls hl => ?_)
            refine lv_goto (tgt := 47) hx hb dX10_fair_65 (by decide) ?_
            exact ih47 x1_24 0 t_slots_1_filled_17 H locs ls hP hD hS (lv_sub hl [1, 0] rfl) h
          · replace h := nh_f h c22
            by_cases c23 : x1_15 = 1
            · replace h := nh_t h c23
              refine va_aldq hx hb hK hP 10 2 rfl rfl (by rw [c23]; exact nh_in_in (by decide)) dX10_fair_57 ?_
              have c23v : va_rf (nh_two q_t_slots_0 q_t_slots_1 (Int32.toNatClampNeg x1_15)) = .ref q_t_slots_1 := by rw [c23]; rfl
              rw [c23v]
              refine lv_iconst (v := 0) hx hb dX10_fair_58 (by decide) ?_
              refine va_put (D := D) (ci := 5) (v := .int 0) (ty := .boolean) (C := RX6) (T := TX6) (N := 3) hx hb hts nhu_X6 tyX6 tyX6_ok nmX6 hown hK hP hD hS 12 rfl rfl 0 (by decide) (hts _ nhw_203) (fun _ h9 => h9) rfl (by decide +kernel) rfl rfl (Nat.le_of_ble_eq_true rfl) dX10_fair_59 (fun H locs hP hD hS => ?_)
              have hP : va_P D vwCl (wlX10_fair cI cZ cO q_t q_t_text q_t_people q_t_draft q_t_acts q_t_ends q_t_wants q_t_circle q_t_game q_t_stranger q_t_slots q_t_judged q_t_acts_row q_t_draft_held q_t_draft_known q_t_draft_worths q_t_people_held q_t_people_known q_t_people_worths q_t_slots_0 q_t_slots_1 q_t_slots_0_held q_t_slots_0_known q_t_slots_1_held q_t_slots_1_known q_t_text_bytes q_t_wants_wanted q_t_wants_bestRow q_t_wants_row 0 t_draft_count_2 t_draft_held_3 t_draft_known_4 t_draft_worths_5 t_people_count_8 t_people_held_9 t_people_known_10 t_people_worths_11 t_slots_0_filled_16 0 t_text_length t_text_bytes t_wants_best t_wants_limit t_wants_wanted_13) H := hP
              have hD : va_D A (wlX10_fair cI cZ cO q_t q_t_text q_t_people q_t_draft q_t_acts q_t_ends q_t_wants q_t_circle q_t_game q_t_stranger q_t_slots q_t_judged q_t_acts_row q_t_draft_held q_t_draft_known q_t_draft_worths q_t_people_held q_t_people_known q_t_people_worths q_t_slots_0 q_t_slots_1 q_t_slots_0_held q_t_slots_0_known q_t_slots_1_held q_t_slots_1_known q_t_text_bytes q_t_wants_wanted q_t_wants_bestRow q_t_wants_row 0 t_draft_count_2 t_draft_held_3 t_draft_known_4 t_draft_worths_5 t_people_count_8 t_people_held_9 t_people_known_10 t_people_worths_11 t_slots_0_filled_16 0 t_text_length t_text_bytes t_wants_best t_wants_limit t_wants_wanted_13) := hD
              obtain ⟨x1_25, ex1_25⟩ : ∃ y : Int32, y = x1_15 + 1 := ⟨_, rfl⟩
              replace h := nh_to h ex1_25
              refine lv_iinc (v := x1_25) (lv' := [(1, .int x1_25), (0, .ref q_t)]) hx hb dX10_fair_62 hl (k := 1) rfl (by rw [ex1_25]; rfl) (by decide) rfl (fun ls hl => ?_)
              refine lv_goto (tgt := 47) hx hb dX10_fair_65 (by decide) ?_
              exact ih47 x1_25 t_slots_0_filled_16 0 H locs ls hP hD hS (lv_sub hl [1, 0] rfl) h
            · replace h := nh_f h c23
              exact (nh_none h).elim
    refine L47 _ (fun x1_18 t_slots_0_filled_19 t_slots_1_filled_20 H locs ls hP hD hS hl h => ?_) _ 0 t_slots_0_filled t_slots_1_filled H locs ls hP hD hS (lv_sub hl [1, 0] rfl) h
    refine lv_aload_n hx hb dX10_fair_68 rfl (lv_at hl 0 rfl) ?_
    refine va_get (D := D) (ci := 9) (v := .ref q_t_people) (C := RX10) (T := TX10) (N := 11) hx hb hts nhu_X10 hown hK hP 0 rfl rfl 1 (by decide) (hts _ nhw_215) (fun _ h9 => h9) rfl dX10_fair_69 ?_
    refine va_get (D := D) (ci := 1) (v := .int t_people_count_8) (C := RX1) (T := TX1) (N := 4) hx hb hts nhu_X1 hown hK hP 6 rfl rfl 0 (by decide) (hts _ nhw_204) (fun _ h9 => h9) rfl dX10_fair_72 ?_
    obtain ⟨g0, g1, g2, g3, g4, g5, g6, g7, g8, g9, g10, g11, g12⟩ := nh_i13 h
    exact nh_ri hx hb hr hlocks g0 (by rw [← g1, ← g2, ← g3, ← g4, ← g5, ← g6, ← g7, ← g8, ← g9, ← g10, ← g11, ← g12]; exact hP) hS dX10_fair_75
  · replace h := nh_f h c7
    refine lv_bipush (v := (-3)) hx hb dX10_fair_16 (by decide) ?_
    obtain ⟨g0, g1, g2, g3, g4, g5, g6, g7, g8, g9, g10, g11, g12⟩ := nh_i13 h
    exact nh_ri hx hb hr hlocks g0 (by rw [← g1, ← g2, ← g3, ← g4, ← g5, ← g6, ← g7, ← g8, ← g9, ← g10, ← g11, ← g12]; exact hP) hS dX10_fair_18
abbrev wlX10_about (cI cZ cO : ClassId) (q_t q_t_text q_t_people q_t_draft q_t_acts q_t_ends q_t_wants q_t_circle q_t_game q_t_stranger q_t_slots q_t_judged q_t_acts_row q_t_people_held q_t_people_known q_t_people_worths q_t_stranger_sorts q_t_stranger_tooks q_t_text_bytes q_t_wants_wanted q_t_wants_bestRow q_t_wants_row : Nat) (t_acts_count : Int32) (t_people_count : Int32) (t_people_held : Nat → Int32) (t_people_known : Nat → Int32) (t_people_worths : Nat → Int32) (t_stranger_count : Int32) (t_text_length : Int32) (t_wants_best : Int32) (t_wants_limit : Int32) (t_wants_wanted : Nat → Int32) : va_W := [(q_t, .inr (9, [.ref q_t_text, .ref q_t_people, .ref q_t_draft, .ref q_t_acts, .ref q_t_ends, .ref q_t_wants, .ref q_t_circle, .ref q_t_game, .ref q_t_stranger, .ref q_t_slots, .ref q_t_judged])), (q_t_acts, .inr (0, [.int t_acts_count, .ref q_t_acts_row])), (q_t_people, .inr (1, [.int t_people_count, .ref q_t_people_held, .ref q_t_people_known, .ref q_t_people_worths])), (q_t_people_held, .inl (cI, 4, .inl t_people_held)), (q_t_people_known, .inl (cI, 4, .inl t_people_known)), (q_t_people_worths, .inl (cI, 24, .inl t_people_worths)), (q_t_stranger, .inr (4, [.int t_stranger_count, .ref q_t_stranger_sorts, .ref q_t_stranger_tooks])), (q_t_text, .inr (6, [.int t_text_length, .ref q_t_text_bytes])), (q_t_wants, .inr (8, [.ref q_t_wants_wanted, .int t_wants_best, .ref q_t_wants_bestRow, .ref q_t_wants_row, .int t_wants_limit])), (q_t_wants_wanted, .inl (cI, 4, .inl t_wants_wanted))]
def fX10_about (F : Nat) (t_acts_count : Int32) (t_people_count : Int32) (t_people_held : Nat → Int32) (t_people_known : Nat → Int32) (t_people_worths : Nat → Int32) (t_stranger_count : Int32) (t_text_length : Int32) (t_wants_wanted : Nat → Int32) (i1 : Int32) : Option (Int32) :=
  (if i1 = 0 then some t_people_count
 else (if i1 = 1 then nh_b1 (fX1_holders F t_people_count t_people_held) (fun r_3 => some r_3)
 else (if i1 = 2 then nh_b1 (fX1_deadThings F t_people_count t_people_held t_people_known) (fun r_6 => some r_6)
 else (if i1 = 3 then some t_acts_count
 else (if i1 = 4 then nh_b1 (fX9_howMany F t_wants_wanted t_people_count) (fun r_10 => some r_10)
 else (if i1 = 5 then some t_stranger_count
 else (if i1 = 6 then nh_b1 (fX1_wealth F t_people_count t_people_held t_people_worths) (fun r_14 => some r_14)
 else (if i1 = 7 then some t_text_length
 else some (-2)))))))))
set_option maxHeartbeats 4000000 in
set_option maxRecDepth 100000 in
theorem kX10_about (F : Nat) (l : Launch) (D : va_G) (cI cZ cO : ClassId) (sz : Nat) (q_t q_t_text q_t_people q_t_draft q_t_acts q_t_ends q_t_wants q_t_circle q_t_game q_t_stranger q_t_slots q_t_judged q_t_acts_row q_t_people_held q_t_people_known q_t_people_worths q_t_stranger_sorts q_t_stranger_tooks q_t_text_bytes q_t_wants_wanted q_t_wants_bestRow q_t_wants_row : Nat) (t_acts_count : Int32) (t_people_count : Int32) (t_people_held : Nat → Int32) (t_people_known : Nat → Int32) (t_people_worths : Nat → Int32) (t_stranger_count : Int32) (t_text_length : Int32) (t_wants_best : Int32) (t_wants_limit : Int32) (t_wants_wanted : Nat → Int32) (i1 : Int32) (o_r : Int32) (h : fX10_about F t_acts_count t_people_count t_people_held t_people_known t_people_worths t_stranger_count t_text_length t_wants_wanted i1 = some o_r) : Met l yX10_about (nh_w (.code yX10_about cX10_about 2 (some .int))) (nh_rm 4) (nh_Pc D cI cZ cO (wlX10_about cI cZ cO q_t q_t_text q_t_people q_t_draft q_t_acts q_t_ends q_t_wants q_t_circle q_t_game q_t_stranger q_t_slots q_t_judged q_t_acts_row q_t_people_held q_t_people_known q_t_people_worths q_t_stranger_sorts q_t_stranger_tooks q_t_text_bytes q_t_wants_wanted q_t_wants_bestRow q_t_wants_row t_acts_count t_people_count t_people_held t_people_known t_people_worths t_stranger_count t_text_length t_wants_best t_wants_limit t_wants_wanted) [.ref q_t, .int i1] sz) ((nh_Qi D (wlX10_about cI cZ cO q_t q_t_text q_t_people q_t_draft q_t_acts q_t_ends q_t_wants q_t_circle q_t_game q_t_stranger q_t_slots q_t_judged q_t_acts_row q_t_people_held q_t_people_known q_t_people_worths q_t_stranger_sorts q_t_stranger_tooks q_t_text_bytes q_t_wants_wanted q_t_wants_bestRow q_t_wants_row t_acts_count t_people_count t_people_held t_people_known t_people_worths t_stranger_count t_text_length t_wants_best t_wants_limit t_wants_wanted) o_r) (va_A (wlX10_about cI cZ cO q_t q_t_text q_t_people q_t_draft q_t_acts q_t_ends q_t_wants q_t_circle q_t_game q_t_stranger q_t_slots q_t_judged q_t_acts_row q_t_people_held q_t_people_known q_t_people_worths q_t_stranger_sorts q_t_stranger_tooks q_t_text_bytes q_t_wants_wanted q_t_wants_bestRow q_t_wants_row t_acts_count t_people_count t_people_held t_people_known t_people_worths t_stranger_count t_text_length t_wants_best t_wants_limit t_wants_wanted) sz)) 0 0 (va_A (wlX10_about cI cZ cO q_t q_t_text q_t_people q_t_draft q_t_acts q_t_ends q_t_wants q_t_circle q_t_game q_t_stranger q_t_slots q_t_judged q_t_acts_row q_t_people_held q_t_people_known q_t_people_worths q_t_stranger_sorts q_t_stranger_tooks q_t_text_bytes q_t_wants_wanted q_t_wants_bestRow q_t_wants_row t_acts_count t_people_count t_people_held t_people_known t_people_worths t_stranger_count t_text_length t_wants_best t_wants_limit t_wants_wanted) sz) := by
  unfold fX10_about at h
  refine nh_met (cc := cX10_about) (maxL := 2) (ret := (some .int)) (nh_Qi D (wlX10_about cI cZ cO q_t q_t_text q_t_people q_t_draft q_t_acts q_t_ends q_t_wants q_t_circle q_t_game q_t_stranger q_t_slots q_t_judged q_t_acts_row q_t_people_held q_t_people_known q_t_people_worths q_t_stranger_sorts q_t_stranger_tooks q_t_text_bytes q_t_wants_wanted q_t_wants_bestRow q_t_wants_row t_acts_count t_people_count t_people_held t_people_known t_people_worths t_stranger_count t_text_length t_wants_best t_wants_limit t_wants_wanted) o_r) (by decide) rfl (Nat.le_of_ble_eq_true rfl) ?_
  intro p e s m args below meth c A H locs ls hx hb hml hr hown hts hlocks hinit hP hK hN hD hA hS hl
  have hl : lv_has ls 2 [(0, .ref q_t), (1, .int i1)] := hl
  have hts : ∀ w ∈ nh_words, w.before args s = true := fun w h => hts w (List.mem_cons_of_mem _ h)
  refine lv_iload_n hx hb dX10_about_0 rfl (lv_at hl 1 rfl) ?_
  by_cases c1 : i1 = 0
  · replace h := nh_t h c1
    refine lv_tableIn (off := 47) (tgt := 48) hx hb dX10_about_1 (by rw [c1]; decide) (by rw [c1]; decide) (by rw [c1]; rfl) (by decide) ?_
    refine lv_aload_n hx hb dX10_about_48 rfl (lv_at hl 0 rfl) ?_
    refine va_get (D := D) (ci := 9) (v := .ref q_t_people) (C := RX10) (T := TX10) (N := 11) hx hb hts nhu_X10 hown hK hP 0 rfl rfl 1 (by decide) (hts _ nhw_215) (fun _ h9 => h9) rfl dX10_about_49 ?_
    refine va_get (D := D) (ci := 1) (v := .int t_people_count) (C := RX1) (T := TX1) (N := 4) hx hb hts nhu_X1 hown hK hP 2 rfl rfl 0 (by decide) (hts _ nhw_204) (fun _ h9 => h9) rfl dX10_about_52 ?_
    replace h := nh_i1 h
    exact nh_ri hx hb hr hlocks h hP hS dX10_about_55
  · replace h := nh_f h c1
    by_cases c2 : i1 = 1
    · replace h := nh_t h c2
      refine lv_tableIn (off := 55) (tgt := 56) hx hb dX10_about_1 (by rw [c2]; decide) (by rw [c2]; decide) (by rw [c2]; rfl) (by decide) ?_
      refine lv_aload_n hx hb dX10_about_56 rfl (lv_at hl 0 rfl) ?_
      refine va_get (D := D) (ci := 9) (v := .ref q_t_people) (C := RX10) (T := TX10) (N := 11) hx hb hts nhu_X10 hown hK hP 0 rfl rfl 1 (by decide) (hts _ nhw_215) (fun _ h9 => h9) rfl dX10_about_57 ?_
      obtain ⟨r_3, hc4, h⟩ := nh_b1_some h
      refine nh_goi (nh_V (As := []) (rest := []) ⟨hx, hb, hml, hown, hts⟩ (kX1_holders F l D cI cZ cO H.size q_t_people q_t_people_held q_t_people_known q_t_people_worths t_people_count t_people_held r_3 hc4) (cwV 0 hts (nh_gV nhw_548 nhw_420 nhw_682 nhw_303 nhw_129) rfl rfl rfl (by decide +kernel) ⟨Nat.le_of_ble_eq_true rfl, Nat.le_of_ble_eq_true rfl⟩) hK hN hP hD (isC := [2, 3]) rfl rfl 2 1 rfl rfl rfl rfl hl.1 rfl (Nat.le_of_ble_eq_true rfl) dX10_about_60 ⟨Nat.zero_le _, Nat.zero_le _⟩) hP hD hS hA (isC := [2, 3]) rfl rfl rfl (w' := (wlX10_about cI cZ cO q_t q_t_text q_t_people q_t_draft q_t_acts q_t_ends q_t_wants q_t_circle q_t_game q_t_stranger q_t_slots q_t_judged q_t_acts_row q_t_people_held q_t_people_known q_t_people_worths q_t_stranger_sorts q_t_stranger_tooks q_t_text_bytes q_t_wants_wanted q_t_wants_bestRow q_t_wants_row t_acts_count t_people_count t_people_held t_people_known t_people_worths t_stranger_count t_text_length t_wants_best t_wants_limit t_wants_wanted)) rfl (fun H locs hP hD hS => ?_)
      replace h := nh_i1 h
      exact nh_ri hx hb hr hlocks h hP hS dX10_about_63
    · replace h := nh_f h c2
      by_cases c5 : i1 = 2
      · replace h := nh_t h c5
        refine lv_tableIn (off := 63) (tgt := 64) hx hb dX10_about_1 (by rw [c5]; decide) (by rw [c5]; decide) (by rw [c5]; rfl) (by decide) ?_
        refine lv_aload_n hx hb dX10_about_64 rfl (lv_at hl 0 rfl) ?_
        refine va_get (D := D) (ci := 9) (v := .ref q_t_people) (C := RX10) (T := TX10) (N := 11) hx hb hts nhu_X10 hown hK hP 0 rfl rfl 1 (by decide) (hts _ nhw_215) (fun _ h9 => h9) rfl dX10_about_65 ?_
        obtain ⟨r_6, hc7, h⟩ := nh_b1_some h
        refine nh_goi (nh_V (As := []) (rest := []) ⟨hx, hb, hml, hown, hts⟩ (kX1_deadThings F l D cI cZ cO H.size q_t_people q_t_people_held q_t_people_known q_t_people_worths t_people_count t_people_held t_people_known r_6 hc7) (cwV 0 hts (nh_gV nhw_549 nhw_418 nhw_680 nhw_303 nhw_127) rfl rfl rfl (by decide +kernel) ⟨Nat.le_of_ble_eq_true rfl, Nat.le_of_ble_eq_true rfl⟩) hK hN hP hD (isC := [2, 3, 4]) rfl rfl 2 1 rfl rfl rfl rfl hl.1 rfl (Nat.le_of_ble_eq_true rfl) dX10_about_68 ⟨Nat.zero_le _, Nat.zero_le _⟩) hP hD hS hA (isC := [2, 3, 4]) rfl rfl rfl (w' := (wlX10_about cI cZ cO q_t q_t_text q_t_people q_t_draft q_t_acts q_t_ends q_t_wants q_t_circle q_t_game q_t_stranger q_t_slots q_t_judged q_t_acts_row q_t_people_held q_t_people_known q_t_people_worths q_t_stranger_sorts q_t_stranger_tooks q_t_text_bytes q_t_wants_wanted q_t_wants_bestRow q_t_wants_row t_acts_count t_people_count t_people_held t_people_known t_people_worths t_stranger_count t_text_length t_wants_best t_wants_limit t_wants_wanted)) rfl (fun H locs hP hD hS => ?_)
        replace h := nh_i1 h
        exact nh_ri hx hb hr hlocks h hP hS dX10_about_71
      · replace h := nh_f h c5
        by_cases c8 : i1 = 3
        · replace h := nh_t h c8
          refine lv_tableIn (off := 71) (tgt := 72) hx hb dX10_about_1 (by rw [c8]; decide) (by rw [c8]; decide) (by rw [c8]; rfl) (by decide) ?_
          refine lv_aload_n hx hb dX10_about_72 rfl (lv_at hl 0 rfl) ?_
          refine va_get (D := D) (ci := 9) (v := .ref q_t_acts) (C := RX10) (T := TX10) (N := 11) hx hb hts nhu_X10 hown hK hP 0 rfl rfl 3 (by decide) (hts _ nhw_220) (fun _ h9 => h9) rfl dX10_about_73 ?_
          refine va_get (D := D) (ci := 0) (v := .int t_acts_count) (C := RX0) (T := TX0) (N := 2) hx hb hts nhu_X0 hown hK hP 1 rfl rfl 0 (by decide) (hts _ nhw_229) (fun _ h9 => h9) rfl dX10_about_76 ?_
          replace h := nh_i1 h
          exact nh_ri hx hb hr hlocks h hP hS dX10_about_79
        · replace h := nh_f h c8
          by_cases c9 : i1 = 4
          · replace h := nh_t h c9
            refine lv_tableIn (off := 79) (tgt := 80) hx hb dX10_about_1 (by rw [c9]; decide) (by rw [c9]; decide) (by rw [c9]; rfl) (by decide) ?_
            refine lv_aload_n hx hb dX10_about_80 rfl (lv_at hl 0 rfl) ?_
            refine va_get (D := D) (ci := 9) (v := .ref q_t_wants) (C := RX10) (T := TX10) (N := 11) hx hb hts nhu_X10 hown hK hP 0 rfl rfl 5 (by decide) (hts _ nhw_222) (fun _ h9 => h9) rfl dX10_about_81 ?_
            refine lv_aload_n hx hb dX10_about_84 rfl (lv_at hl 0 rfl) ?_
            refine va_get (D := D) (ci := 9) (v := .ref q_t_people) (C := RX10) (T := TX10) (N := 11) hx hb hts nhu_X10 hown hK hP 0 rfl rfl 1 (by decide) (hts _ nhw_215) (fun _ h9 => h9) rfl dX10_about_85 ?_
            obtain ⟨r_10, hc11, h⟩ := nh_b1_some h
            refine nh_goi (nh_V (As := [.ref q_t_people]) (rest := []) ⟨hx, hb, hml, hown, hts⟩ (kX9_howMany F l D cI cZ cO H.size q_t_wants q_t_people q_t_wants_wanted q_t_wants_bestRow q_t_wants_row q_t_people_held q_t_people_known q_t_people_worths t_wants_best t_wants_limit t_wants_wanted t_people_count r_10 hc11) (cwV 1 hts (nh_gV nhw_550 nhw_450 nhw_796 nhw_313 nhw_176) rfl rfl rfl (by decide +kernel) ⟨Nat.le_of_ble_eq_true rfl, Nat.le_of_ble_eq_true rfl⟩) hK hN hP hD (isC := [8, 9, 2]) rfl rfl 8 8 rfl rfl rfl rfl hl.1 rfl (Nat.le_of_ble_eq_true rfl) dX10_about_88 ⟨Nat.zero_le _, Nat.zero_le _⟩) hP hD hS hA (isC := [8, 9, 2]) rfl rfl rfl (w' := (wlX10_about cI cZ cO q_t q_t_text q_t_people q_t_draft q_t_acts q_t_ends q_t_wants q_t_circle q_t_game q_t_stranger q_t_slots q_t_judged q_t_acts_row q_t_people_held q_t_people_known q_t_people_worths q_t_stranger_sorts q_t_stranger_tooks q_t_text_bytes q_t_wants_wanted q_t_wants_bestRow q_t_wants_row t_acts_count t_people_count t_people_held t_people_known t_people_worths t_stranger_count t_text_length t_wants_best t_wants_limit t_wants_wanted)) rfl (fun H locs hP hD hS => ?_)
            replace h := nh_i1 h
            exact nh_ri hx hb hr hlocks h hP hS dX10_about_91
          · replace h := nh_f h c9
            by_cases c12 : i1 = 5
            · replace h := nh_t h c12
              refine lv_tableIn (off := 91) (tgt := 92) hx hb dX10_about_1 (by rw [c12]; decide) (by rw [c12]; decide) (by rw [c12]; rfl) (by decide) ?_
              refine lv_aload_n hx hb dX10_about_92 rfl (lv_at hl 0 rfl) ?_
              refine va_get (D := D) (ci := 9) (v := .ref q_t_stranger) (C := RX10) (T := TX10) (N := 11) hx hb hts nhu_X10 hown hK hP 0 rfl rfl 8 (by decide) (hts _ nhw_225) (fun _ h9 => h9) rfl dX10_about_93 ?_
              refine va_get (D := D) (ci := 4) (v := .int t_stranger_count) (C := RX5) (T := TX5) (N := 3) hx hb hts nhu_X5 hown hK hP 6 rfl rfl 0 (by decide) (hts _ nhw_205) (fun _ h9 => h9) rfl dX10_about_96 ?_
              replace h := nh_i1 h
              exact nh_ri hx hb hr hlocks h hP hS dX10_about_99
            · replace h := nh_f h c12
              by_cases c13 : i1 = 6
              · replace h := nh_t h c13
                refine lv_tableIn (off := 99) (tgt := 100) hx hb dX10_about_1 (by rw [c13]; decide) (by rw [c13]; decide) (by rw [c13]; rfl) (by decide) ?_
                refine lv_aload_n hx hb dX10_about_100 rfl (lv_at hl 0 rfl) ?_
                refine va_get (D := D) (ci := 9) (v := .ref q_t_people) (C := RX10) (T := TX10) (N := 11) hx hb hts nhu_X10 hown hK hP 0 rfl rfl 1 (by decide) (hts _ nhw_215) (fun _ h9 => h9) rfl dX10_about_101 ?_
                obtain ⟨r_14, hc15, h⟩ := nh_b1_some h
                refine nh_goi (nh_V (As := []) (rest := []) ⟨hx, hb, hml, hown, hts⟩ (kX1_wealth F l D cI cZ cO H.size q_t_people q_t_people_held q_t_people_known q_t_people_worths t_people_count t_people_held t_people_worths r_14 hc15) (cwV 0 hts (nh_gV nhw_551 nhw_427 nhw_688 nhw_303 nhw_137) rfl rfl rfl (by decide +kernel) ⟨Nat.le_of_ble_eq_true rfl, Nat.le_of_ble_eq_true rfl⟩) hK hN hP hD (isC := [2, 3, 5]) rfl rfl 2 1 rfl rfl rfl rfl hl.1 rfl (Nat.le_of_ble_eq_true rfl) dX10_about_104 ⟨Nat.zero_le _, Nat.zero_le _⟩) hP hD hS hA (isC := [2, 3, 5]) rfl rfl rfl (w' := (wlX10_about cI cZ cO q_t q_t_text q_t_people q_t_draft q_t_acts q_t_ends q_t_wants q_t_circle q_t_game q_t_stranger q_t_slots q_t_judged q_t_acts_row q_t_people_held q_t_people_known q_t_people_worths q_t_stranger_sorts q_t_stranger_tooks q_t_text_bytes q_t_wants_wanted q_t_wants_bestRow q_t_wants_row t_acts_count t_people_count t_people_held t_people_known t_people_worths t_stranger_count t_text_length t_wants_best t_wants_limit t_wants_wanted)) rfl (fun H locs hP hD hS => ?_)
                replace h := nh_i1 h
                exact nh_ri hx hb hr hlocks h hP hS dX10_about_107
              · replace h := nh_f h c13
                by_cases c16 : i1 = 7
                · replace h := nh_t h c16
                  refine lv_tableIn (off := 107) (tgt := 108) hx hb dX10_about_1 (by rw [c16]; decide) (by rw [c16]; decide) (by rw [c16]; rfl) (by decide) ?_
                  refine lv_aload_n hx hb dX10_about_108 rfl (lv_at hl 0 rfl) ?_
                  refine va_get (D := D) (ci := 9) (v := .ref q_t_text) (C := RX10) (T := TX10) (N := 11) hx hb hts nhu_X10 hown hK hP 0 rfl rfl 0 (by decide) (hts _ nhw_206) (fun _ h9 => h9) rfl dX10_about_109 ?_
                  refine va_get (D := D) (ci := 6) (v := .int t_text_length) (C := RX7) (T := TX7) (N := 2) hx hb hts nhu_X7 hown hK hP 7 rfl rfl 0 (by decide) (hts _ nhw_228) (fun _ h9 => h9) rfl dX10_about_112 ?_
                  replace h := nh_i1 h
                  exact nh_ri hx hb hr hlocks h hP hS dX10_about_115
                · replace h := nh_f h c16
                  refine lv_tableOut (tgt := 116) hx hb dX10_about_1 (by have g0 := lv_neT (a := 0) c1 (by decide); have g1 := lv_neT (a := 1) c2 (by decide); have g2 := lv_neT (a := 2) c5 (by decide); have g3 := lv_neT (a := 3) c8 (by decide); have g4 := lv_neT (a := 4) c9 (by decide); have g5 := lv_neT (a := 5) c12 (by decide); have g6 := lv_neT (a := 6) c13 (by decide); have g7 := lv_neT (a := 7) c16 (by decide); omega) (by decide) ?_
                  refine lv_bipush (v := (-2)) hx hb dX10_about_116 (by decide) ?_
                  replace h := nh_i1 h
                  exact nh_ri hx hb hr hlocks h hP hS dX10_about_118
abbrev wlX10_holds (cI cZ cO : ClassId) (q_t q_t_text q_t_people q_t_draft q_t_acts q_t_ends q_t_wants q_t_circle q_t_game q_t_stranger q_t_slots q_t_judged q_t_people_held q_t_people_known q_t_people_worths : Nat) (t_people_count : Int32) (t_people_held : Nat → Int32) : va_W := [(q_t, .inr (9, [.ref q_t_text, .ref q_t_people, .ref q_t_draft, .ref q_t_acts, .ref q_t_ends, .ref q_t_wants, .ref q_t_circle, .ref q_t_game, .ref q_t_stranger, .ref q_t_slots, .ref q_t_judged])), (q_t_people, .inr (1, [.int t_people_count, .ref q_t_people_held, .ref q_t_people_known, .ref q_t_people_worths])), (q_t_people_held, .inl (cI, 4, .inl t_people_held))]
def fX10_holds (t_people_count : Int32) (t_people_held : Nat → Int32) (i1 : Int32) : Option (Int32) :=
  (if (fX1_has t_people_count i1) = 0 then some (-1)
 else nh_chk (nh_in i1 4) (some (t_people_held (Int32.toNatClampNeg i1))))
set_option maxHeartbeats 4000000 in
set_option maxRecDepth 100000 in
theorem kX10_holds (l : Launch) (D : va_G) (cI cZ cO : ClassId) (sz : Nat) (q_t q_t_text q_t_people q_t_draft q_t_acts q_t_ends q_t_wants q_t_circle q_t_game q_t_stranger q_t_slots q_t_judged q_t_people_held q_t_people_known q_t_people_worths : Nat) (t_people_count : Int32) (t_people_held : Nat → Int32) (i1 : Int32) (o_r : Int32) (h : fX10_holds t_people_count t_people_held i1 = some o_r) : Met l yX10_holds (nh_w (.code yX10_holds cX10_holds 2 (some .int))) (nh_rm 1) (nh_Pc D cI cZ cO (wlX10_holds cI cZ cO q_t q_t_text q_t_people q_t_draft q_t_acts q_t_ends q_t_wants q_t_circle q_t_game q_t_stranger q_t_slots q_t_judged q_t_people_held q_t_people_known q_t_people_worths t_people_count t_people_held) [.ref q_t, .int i1] sz) ((nh_Qi D (wlX10_holds cI cZ cO q_t q_t_text q_t_people q_t_draft q_t_acts q_t_ends q_t_wants q_t_circle q_t_game q_t_stranger q_t_slots q_t_judged q_t_people_held q_t_people_known q_t_people_worths t_people_count t_people_held) o_r) (va_A (wlX10_holds cI cZ cO q_t q_t_text q_t_people q_t_draft q_t_acts q_t_ends q_t_wants q_t_circle q_t_game q_t_stranger q_t_slots q_t_judged q_t_people_held q_t_people_known q_t_people_worths t_people_count t_people_held) sz)) 0 0 (va_A (wlX10_holds cI cZ cO q_t q_t_text q_t_people q_t_draft q_t_acts q_t_ends q_t_wants q_t_circle q_t_game q_t_stranger q_t_slots q_t_judged q_t_people_held q_t_people_known q_t_people_worths t_people_count t_people_held) sz) := by
  unfold fX10_holds at h
  refine nh_met (cc := cX10_holds) (maxL := 2) (ret := (some .int)) (nh_Qi D (wlX10_holds cI cZ cO q_t q_t_text q_t_people q_t_draft q_t_acts q_t_ends q_t_wants q_t_circle q_t_game q_t_stranger q_t_slots q_t_judged q_t_people_held q_t_people_known q_t_people_worths t_people_count t_people_held) o_r) (by decide) rfl (Nat.le_of_ble_eq_true rfl) ?_
  intro p e s m args below meth c A H locs ls hx hb hml hr hown hts hlocks hinit hP hK hN hD hA hS hl
  have hl : lv_has ls 2 [(0, .ref q_t), (1, .int i1)] := hl
  have hts : ∀ w ∈ nh_words, w.before args s = true := fun w h => hts w (List.mem_cons_of_mem _ h)
  refine lv_aload_n hx hb dX10_holds_0 rfl (lv_at hl 0 rfl) ?_
  refine va_get (D := D) (ci := 9) (v := .ref q_t_people) (C := RX10) (T := TX10) (N := 11) hx hb hts nhu_X10 hown hK hP 0 rfl rfl 1 (by decide) (hts _ nhw_215) (fun _ h9 => h9) rfl dX10_holds_1 ?_
  refine lv_iload_n hx hb dX10_holds_4 rfl (lv_at hl 1 rfl) ?_
  refine nh_goi (nh_V (As := [.int i1]) (rest := []) ⟨hx, hb, hml, hown, hts⟩ (kX1_has  l D cI cZ cO H.size q_t_people q_t_people_held q_t_people_known q_t_people_worths t_people_count i1 (fX1_has t_people_count i1) rfl) (cwV 1 hts (nh_gV nhw_552 nhw_419 nhw_681 nhw_303 nhw_128) rfl rfl rfl (by decide +kernel) ⟨Nat.le_of_ble_eq_true rfl, Nat.le_of_ble_eq_true rfl⟩) hK hN hP hD (isC := [1]) rfl rfl 1 1 rfl rfl rfl rfl hl.1 rfl (Nat.le_of_ble_eq_true rfl) dX10_holds_5 ⟨Nat.zero_le _, Nat.zero_le _⟩) hP hD hS hA (isC := [1]) rfl rfl rfl (w' := (wlX10_holds cI cZ cO q_t q_t_text q_t_people q_t_draft q_t_acts q_t_ends q_t_wants q_t_circle q_t_game q_t_stranger q_t_slots q_t_judged q_t_people_held q_t_people_known q_t_people_worths t_people_count t_people_held)) rfl (fun H locs hP hD hS => ?_)
  refine lv_if_ne (tgt := 13) hx hb dX10_holds_8 (by decide) (fun c1 => ?_) (fun c1 => ?_)
  · replace h := nh_f h c1
    refine lv_aload_n hx hb dX10_holds_13 rfl (lv_at hl 0 rfl) ?_
    refine va_get (D := D) (ci := 9) (v := .ref q_t_people) (C := RX10) (T := TX10) (N := 11) hx hb hts nhu_X10 hown hK hP 0 rfl rfl 1 (by decide) (hts _ nhw_215) (fun _ h9 => h9) rfl dX10_holds_14 ?_
    refine va_get (D := D) (ci := 1) (v := .ref q_t_people_held) (C := RX1) (T := TX1) (N := 4) hx hb hts nhu_X1 hown hK hP 1 rfl rfl 1 (by decide) (hts _ nhw_207) (fun _ h9 => h9) rfl dX10_holds_17 ?_
    refine lv_iload_n hx hb dX10_holds_20 rfl (lv_at hl 1 rfl) ?_
    obtain ⟨z2, h⟩ := nh_chk_some h
    refine va_iald hx hb hK hP 2 0 rfl rfl (nh_in_in z2) dX10_holds_21 ?_
    replace h := nh_i1 h
    exact nh_ri hx hb hr hlocks h hP hS dX10_holds_22
  · replace h := nh_t h c1
    refine lv_iconst (v := (-1)) hx hb dX10_holds_11 (by decide) ?_
    replace h := nh_i1 h
    exact nh_ri hx hb hr hlocks h hP hS dX10_holds_12
abbrev wlX10_had (cI cZ cO : ClassId) (q_t q_t_text q_t_people q_t_draft q_t_acts q_t_ends q_t_wants q_t_circle q_t_game q_t_stranger q_t_slots q_t_judged q_t_people_held q_t_people_known q_t_people_worths : Nat) (t_people_count : Int32) (t_people_known : Nat → Int32) : va_W := [(q_t, .inr (9, [.ref q_t_text, .ref q_t_people, .ref q_t_draft, .ref q_t_acts, .ref q_t_ends, .ref q_t_wants, .ref q_t_circle, .ref q_t_game, .ref q_t_stranger, .ref q_t_slots, .ref q_t_judged])), (q_t_people, .inr (1, [.int t_people_count, .ref q_t_people_held, .ref q_t_people_known, .ref q_t_people_worths])), (q_t_people_known, .inl (cI, 4, .inl t_people_known))]
def fX10_had (t_people_count : Int32) (t_people_known : Nat → Int32) (i1 : Int32) : Option (Int32) :=
  (if (fX1_has t_people_count i1) = 0 then some (-1)
 else nh_chk (nh_in i1 4) (some (t_people_known (Int32.toNatClampNeg i1))))
set_option maxHeartbeats 4000000 in
set_option maxRecDepth 100000 in
theorem kX10_had (l : Launch) (D : va_G) (cI cZ cO : ClassId) (sz : Nat) (q_t q_t_text q_t_people q_t_draft q_t_acts q_t_ends q_t_wants q_t_circle q_t_game q_t_stranger q_t_slots q_t_judged q_t_people_held q_t_people_known q_t_people_worths : Nat) (t_people_count : Int32) (t_people_known : Nat → Int32) (i1 : Int32) (o_r : Int32) (h : fX10_had t_people_count t_people_known i1 = some o_r) : Met l yX10_had (nh_w (.code yX10_had cX10_had 2 (some .int))) (nh_rm 1) (nh_Pc D cI cZ cO (wlX10_had cI cZ cO q_t q_t_text q_t_people q_t_draft q_t_acts q_t_ends q_t_wants q_t_circle q_t_game q_t_stranger q_t_slots q_t_judged q_t_people_held q_t_people_known q_t_people_worths t_people_count t_people_known) [.ref q_t, .int i1] sz) ((nh_Qi D (wlX10_had cI cZ cO q_t q_t_text q_t_people q_t_draft q_t_acts q_t_ends q_t_wants q_t_circle q_t_game q_t_stranger q_t_slots q_t_judged q_t_people_held q_t_people_known q_t_people_worths t_people_count t_people_known) o_r) (va_A (wlX10_had cI cZ cO q_t q_t_text q_t_people q_t_draft q_t_acts q_t_ends q_t_wants q_t_circle q_t_game q_t_stranger q_t_slots q_t_judged q_t_people_held q_t_people_known q_t_people_worths t_people_count t_people_known) sz)) 0 0 (va_A (wlX10_had cI cZ cO q_t q_t_text q_t_people q_t_draft q_t_acts q_t_ends q_t_wants q_t_circle q_t_game q_t_stranger q_t_slots q_t_judged q_t_people_held q_t_people_known q_t_people_worths t_people_count t_people_known) sz) := by
  unfold fX10_had at h
  refine nh_met (cc := cX10_had) (maxL := 2) (ret := (some .int)) (nh_Qi D (wlX10_had cI cZ cO q_t q_t_text q_t_people q_t_draft q_t_acts q_t_ends q_t_wants q_t_circle q_t_game q_t_stranger q_t_slots q_t_judged q_t_people_held q_t_people_known q_t_people_worths t_people_count t_people_known) o_r) (by decide) rfl (Nat.le_of_ble_eq_true rfl) ?_
  intro p e s m args below meth c A H locs ls hx hb hml hr hown hts hlocks hinit hP hK hN hD hA hS hl
  have hl : lv_has ls 2 [(0, .ref q_t), (1, .int i1)] := hl
  have hts : ∀ w ∈ nh_words, w.before args s = true := fun w h => hts w (List.mem_cons_of_mem _ h)
  refine lv_aload_n hx hb dX10_had_0 rfl (lv_at hl 0 rfl) ?_
  refine va_get (D := D) (ci := 9) (v := .ref q_t_people) (C := RX10) (T := TX10) (N := 11) hx hb hts nhu_X10 hown hK hP 0 rfl rfl 1 (by decide) (hts _ nhw_215) (fun _ h9 => h9) rfl dX10_had_1 ?_
  refine lv_iload_n hx hb dX10_had_4 rfl (lv_at hl 1 rfl) ?_
  refine nh_goi (nh_V (As := [.int i1]) (rest := []) ⟨hx, hb, hml, hown, hts⟩ (kX1_has  l D cI cZ cO H.size q_t_people q_t_people_held q_t_people_known q_t_people_worths t_people_count i1 (fX1_has t_people_count i1) rfl) (cwV 1 hts (nh_gV nhw_552 nhw_419 nhw_681 nhw_303 nhw_128) rfl rfl rfl (by decide +kernel) ⟨Nat.le_of_ble_eq_true rfl, Nat.le_of_ble_eq_true rfl⟩) hK hN hP hD (isC := [1]) rfl rfl 1 1 rfl rfl rfl rfl hl.1 rfl (Nat.le_of_ble_eq_true rfl) dX10_had_5 ⟨Nat.zero_le _, Nat.zero_le _⟩) hP hD hS hA (isC := [1]) rfl rfl rfl (w' := (wlX10_had cI cZ cO q_t q_t_text q_t_people q_t_draft q_t_acts q_t_ends q_t_wants q_t_circle q_t_game q_t_stranger q_t_slots q_t_judged q_t_people_held q_t_people_known q_t_people_worths t_people_count t_people_known)) rfl (fun H locs hP hD hS => ?_)
  refine lv_if_ne (tgt := 13) hx hb dX10_had_8 (by decide) (fun c1 => ?_) (fun c1 => ?_)
  · replace h := nh_f h c1
    refine lv_aload_n hx hb dX10_had_13 rfl (lv_at hl 0 rfl) ?_
    refine va_get (D := D) (ci := 9) (v := .ref q_t_people) (C := RX10) (T := TX10) (N := 11) hx hb hts nhu_X10 hown hK hP 0 rfl rfl 1 (by decide) (hts _ nhw_215) (fun _ h9 => h9) rfl dX10_had_14 ?_
    refine va_get (D := D) (ci := 1) (v := .ref q_t_people_known) (C := RX1) (T := TX1) (N := 4) hx hb hts nhu_X1 hown hK hP 1 rfl rfl 2 (by decide) (hts _ nhw_208) (fun _ h9 => h9) rfl dX10_had_17 ?_
    refine lv_iload_n hx hb dX10_had_20 rfl (lv_at hl 1 rfl) ?_
    obtain ⟨z2, h⟩ := nh_chk_some h
    refine va_iald hx hb hK hP 2 0 rfl rfl (nh_in_in z2) dX10_had_21 ?_
    replace h := nh_i1 h
    exact nh_ri hx hb hr hlocks h hP hS dX10_had_22
  · replace h := nh_t h c1
    refine lv_iconst (v := (-1)) hx hb dX10_had_11 (by decide) ?_
    replace h := nh_i1 h
    exact nh_ri hx hb hr hlocks h hP hS dX10_had_12
abbrev wlX10_worth (cI cZ cO : ClassId) (q_t q_t_text q_t_people q_t_draft q_t_acts q_t_ends q_t_wants q_t_circle q_t_game q_t_stranger q_t_slots q_t_judged q_t_people_held q_t_people_known q_t_people_worths : Nat) (t_people_count : Int32) (t_people_worths : Nat → Int32) : va_W := [(q_t, .inr (9, [.ref q_t_text, .ref q_t_people, .ref q_t_draft, .ref q_t_acts, .ref q_t_ends, .ref q_t_wants, .ref q_t_circle, .ref q_t_game, .ref q_t_stranger, .ref q_t_slots, .ref q_t_judged])), (q_t_people, .inr (1, [.int t_people_count, .ref q_t_people_held, .ref q_t_people_known, .ref q_t_people_worths])), (q_t_people_worths, .inl (cI, 24, .inl t_people_worths))]
def fX10_worth (t_people_count : Int32) (t_people_worths : Nat → Int32) (i1 : Int32) (i2 : Int32) : Option (Int32) :=
  (if (fX1_has t_people_count i1) = 0 then some (-1)
 else (if (fX10_isSort i2) = 0 then some (-1)
 else nh_b1 (fX1_worthOf t_people_count t_people_worths i1 i2) (fun r_3 => some r_3)))
set_option maxHeartbeats 4000000 in
set_option maxRecDepth 100000 in
theorem kX10_worth (l : Launch) (D : va_G) (cI cZ cO : ClassId) (sz : Nat) (q_t q_t_text q_t_people q_t_draft q_t_acts q_t_ends q_t_wants q_t_circle q_t_game q_t_stranger q_t_slots q_t_judged q_t_people_held q_t_people_known q_t_people_worths : Nat) (t_people_count : Int32) (t_people_worths : Nat → Int32) (i1 : Int32) (i2 : Int32) (o_r : Int32) (h : fX10_worth t_people_count t_people_worths i1 i2 = some o_r) : Met l yX10_worth (nh_w (.code yX10_worth cX10_worth 3 (some .int))) (nh_rm 2) (nh_Pc D cI cZ cO (wlX10_worth cI cZ cO q_t q_t_text q_t_people q_t_draft q_t_acts q_t_ends q_t_wants q_t_circle q_t_game q_t_stranger q_t_slots q_t_judged q_t_people_held q_t_people_known q_t_people_worths t_people_count t_people_worths) [.ref q_t, .int i1, .int i2] sz) ((nh_Qi D (wlX10_worth cI cZ cO q_t q_t_text q_t_people q_t_draft q_t_acts q_t_ends q_t_wants q_t_circle q_t_game q_t_stranger q_t_slots q_t_judged q_t_people_held q_t_people_known q_t_people_worths t_people_count t_people_worths) o_r) (va_A (wlX10_worth cI cZ cO q_t q_t_text q_t_people q_t_draft q_t_acts q_t_ends q_t_wants q_t_circle q_t_game q_t_stranger q_t_slots q_t_judged q_t_people_held q_t_people_known q_t_people_worths t_people_count t_people_worths) sz)) 0 0 (va_A (wlX10_worth cI cZ cO q_t q_t_text q_t_people q_t_draft q_t_acts q_t_ends q_t_wants q_t_circle q_t_game q_t_stranger q_t_slots q_t_judged q_t_people_held q_t_people_known q_t_people_worths t_people_count t_people_worths) sz) := by
  unfold fX10_worth at h
  refine nh_met (cc := cX10_worth) (maxL := 3) (ret := (some .int)) (nh_Qi D (wlX10_worth cI cZ cO q_t q_t_text q_t_people q_t_draft q_t_acts q_t_ends q_t_wants q_t_circle q_t_game q_t_stranger q_t_slots q_t_judged q_t_people_held q_t_people_known q_t_people_worths t_people_count t_people_worths) o_r) (by decide) rfl (Nat.le_of_ble_eq_true rfl) ?_
  intro p e s m args below meth c A H locs ls hx hb hml hr hown hts hlocks hinit hP hK hN hD hA hS hl
  have hl : lv_has ls 3 [(0, .ref q_t), (1, .int i1), (2, .int i2)] := hl
  have hts : ∀ w ∈ nh_words, w.before args s = true := fun w h => hts w (List.mem_cons_of_mem _ h)
  refine lv_aload_n hx hb dX10_worth_0 rfl (lv_at hl 0 rfl) ?_
  refine va_get (D := D) (ci := 9) (v := .ref q_t_people) (C := RX10) (T := TX10) (N := 11) hx hb hts nhu_X10 hown hK hP 0 rfl rfl 1 (by decide) (hts _ nhw_215) (fun _ h9 => h9) rfl dX10_worth_1 ?_
  refine lv_iload_n hx hb dX10_worth_4 rfl (lv_at hl 1 rfl) ?_
  refine nh_goi (nh_V (As := [.int i1]) (rest := []) ⟨hx, hb, hml, hown, hts⟩ (kX1_has  l D cI cZ cO H.size q_t_people q_t_people_held q_t_people_known q_t_people_worths t_people_count i1 (fX1_has t_people_count i1) rfl) (cwV 1 hts (nh_gV nhw_552 nhw_419 nhw_681 nhw_303 nhw_128) rfl rfl rfl (by decide +kernel) ⟨Nat.le_of_ble_eq_true rfl, Nat.le_of_ble_eq_true rfl⟩) hK hN hP hD (isC := [1]) rfl rfl 1 1 rfl rfl rfl rfl hl.1 rfl (Nat.le_of_ble_eq_true rfl) dX10_worth_5 ⟨Nat.zero_le _, Nat.zero_le _⟩) hP hD hS hA (isC := [1]) rfl rfl rfl (w' := (wlX10_worth cI cZ cO q_t q_t_text q_t_people q_t_draft q_t_acts q_t_ends q_t_wants q_t_circle q_t_game q_t_stranger q_t_slots q_t_judged q_t_people_held q_t_people_known q_t_people_worths t_people_count t_people_worths)) rfl (fun H locs hP hD hS => ?_)
  refine lv_if_eq (tgt := 18) hx hb dX10_worth_8 (by decide) (fun c1 => ?_) (fun c1 => ?_)
  · replace h := nh_t h c1
    refine lv_iconst (v := (-1)) hx hb dX10_worth_18 (by decide) ?_
    replace h := nh_i1 h
    exact nh_ri hx hb hr hlocks h hP hS dX10_worth_19
  · replace h := nh_f h c1
    refine lv_iload_n hx hb dX10_worth_11 rfl (lv_at hl 2 rfl) ?_
    refine nh_goi (nh_S (As := [.int i2]) (rest := []) ⟨hx, hb, hml, hown, hts⟩ (kX10_isSort  l D cI cZ cO H.size i2 (fX10_isSort i2) rfl) (va_cwS 1 hts (nh_gS nhw_553 nhw_806 nhw_304 nhw_37) rfl rfl rfl (by decide +kernel) ⟨Nat.le_of_ble_eq_true rfl, Nat.le_of_ble_eq_true rfl⟩) hK hN hP hD (isC := []) rfl rfl rfl hl.1 rfl (Nat.le_of_ble_eq_true rfl) dX10_worth_12 ⟨Nat.zero_le _, Nat.zero_le _⟩) hP hD hS hA (isC := []) rfl rfl rfl (w' := (wlX10_worth cI cZ cO q_t q_t_text q_t_people q_t_draft q_t_acts q_t_ends q_t_wants q_t_circle q_t_game q_t_stranger q_t_slots q_t_judged q_t_people_held q_t_people_known q_t_people_worths t_people_count t_people_worths)) rfl (fun H locs hP hD hS => ?_)
    refine lv_if_ne (tgt := 20) hx hb dX10_worth_15 (by decide) (fun c2 => ?_) (fun c2 => ?_)
    · replace h := nh_f h c2
      refine lv_aload_n hx hb dX10_worth_20 rfl (lv_at hl 0 rfl) ?_
      refine va_get (D := D) (ci := 9) (v := .ref q_t_people) (C := RX10) (T := TX10) (N := 11) hx hb hts nhu_X10 hown hK hP 0 rfl rfl 1 (by decide) (hts _ nhw_215) (fun _ h9 => h9) rfl dX10_worth_21 ?_
      refine lv_iload_n hx hb dX10_worth_24 rfl (lv_at hl 1 rfl) ?_
      refine lv_iload_n hx hb dX10_worth_25 rfl (lv_at hl 2 rfl) ?_
      obtain ⟨r_3, hc4, h⟩ := nh_b1_some h
      refine nh_goi (nh_V (As := [.int i1, .int i2]) (rest := []) ⟨hx, hb, hml, hown, hts⟩ (kX1_worthOf  l D cI cZ cO H.size q_t_people q_t_people_held q_t_people_known q_t_people_worths t_people_count t_people_worths i1 i2 r_3 hc4) (cwV 2 hts (nh_gV nhw_554 nhw_428 nhw_689 nhw_303 nhw_138) rfl rfl rfl (by decide +kernel) ⟨Nat.le_of_ble_eq_true rfl, Nat.le_of_ble_eq_true rfl⟩) hK hN hP hD (isC := [1, 2]) rfl rfl 1 1 rfl rfl rfl rfl hl.1 rfl (Nat.le_of_ble_eq_true rfl) dX10_worth_26 ⟨Nat.zero_le _, Nat.zero_le _⟩) hP hD hS hA (isC := [1, 2]) rfl rfl rfl (w' := (wlX10_worth cI cZ cO q_t q_t_text q_t_people q_t_draft q_t_acts q_t_ends q_t_wants q_t_circle q_t_game q_t_stranger q_t_slots q_t_judged q_t_people_held q_t_people_known q_t_people_worths t_people_count t_people_worths)) rfl (fun H locs hP hD hS => ?_)
      replace h := nh_i1 h
      exact nh_ri hx hb hr hlocks h hP hS dX10_worth_29
    · replace h := nh_t h c2
      refine lv_iconst (v := (-1)) hx hb dX10_worth_18 (by decide) ?_
      replace h := nh_i1 h
      exact nh_ri hx hb hr hlocks h hP hS dX10_worth_19
abbrev wlX10_value (cI cZ cO : ClassId) (q_t q_t_text q_t_people q_t_draft q_t_acts q_t_ends q_t_wants q_t_circle q_t_game q_t_stranger q_t_slots q_t_judged q_t_people_held q_t_people_known q_t_people_worths : Nat) (t_people_count : Int32) (t_people_worths : Nat → Int32) : va_W := [(q_t, .inr (9, [.ref q_t_text, .ref q_t_people, .ref q_t_draft, .ref q_t_acts, .ref q_t_ends, .ref q_t_wants, .ref q_t_circle, .ref q_t_game, .ref q_t_stranger, .ref q_t_slots, .ref q_t_judged])), (q_t_people, .inr (1, [.int t_people_count, .ref q_t_people_held, .ref q_t_people_known, .ref q_t_people_worths])), (q_t_people_worths, .inl (cI, 24, .inl t_people_worths))]
def fX10_value (t_people_count : Int32) (t_people_worths : Nat → Int32) (i1 : Int32) (i2 : Int32) (i3 : Int32) : Option (Int32 × (Nat → Int32)) :=
  (if (fX1_has t_people_count i1) = 0 then some ((-1), t_people_worths)
 else (if (fX10_isSort i2) = 0 then some ((-1), t_people_worths)
 else (if i3 < 0 then some ((-2), t_people_worths)
 else (if i3 ≤ 9 then nh_b1 (fX1_worthOf t_people_count t_people_worths i1 i2) (fun r_5 => nh_b1 (fX1_setWorth t_people_count t_people_worths i1 i2 i3) (fun t_people_worths_7 => some (r_5, t_people_worths_7)))
 else some ((-2), t_people_worths)))))
set_option maxHeartbeats 4000000 in
set_option maxRecDepth 100000 in
theorem kX10_value (l : Launch) (D : va_G) (cI cZ cO : ClassId) (sz : Nat) (q_t q_t_text q_t_people q_t_draft q_t_acts q_t_ends q_t_wants q_t_circle q_t_game q_t_stranger q_t_slots q_t_judged q_t_people_held q_t_people_known q_t_people_worths : Nat) (t_people_count : Int32) (t_people_worths : Nat → Int32) (i1 : Int32) (i2 : Int32) (i3 : Int32) (o_r : Int32) (o_t_people_worths : Nat → Int32) (h : fX10_value t_people_count t_people_worths i1 i2 i3 = some (o_r, o_t_people_worths)) : Met l yX10_value (nh_w (.code yX10_value cX10_value 5 (some .int))) (nh_rm 2) (nh_Pc D cI cZ cO (wlX10_value cI cZ cO q_t q_t_text q_t_people q_t_draft q_t_acts q_t_ends q_t_wants q_t_circle q_t_game q_t_stranger q_t_slots q_t_judged q_t_people_held q_t_people_known q_t_people_worths t_people_count t_people_worths) [.ref q_t, .int i1, .int i2, .int i3] sz) ((nh_Qi D (wlX10_value cI cZ cO q_t q_t_text q_t_people q_t_draft q_t_acts q_t_ends q_t_wants q_t_circle q_t_game q_t_stranger q_t_slots q_t_judged q_t_people_held q_t_people_known q_t_people_worths t_people_count o_t_people_worths) o_r) (va_A (wlX10_value cI cZ cO q_t q_t_text q_t_people q_t_draft q_t_acts q_t_ends q_t_wants q_t_circle q_t_game q_t_stranger q_t_slots q_t_judged q_t_people_held q_t_people_known q_t_people_worths t_people_count t_people_worths) sz)) 0 0 (va_A (wlX10_value cI cZ cO q_t q_t_text q_t_people q_t_draft q_t_acts q_t_ends q_t_wants q_t_circle q_t_game q_t_stranger q_t_slots q_t_judged q_t_people_held q_t_people_known q_t_people_worths t_people_count t_people_worths) sz) := by
  unfold fX10_value at h
  refine nh_met (cc := cX10_value) (maxL := 5) (ret := (some .int)) (nh_Qi D (wlX10_value cI cZ cO q_t q_t_text q_t_people q_t_draft q_t_acts q_t_ends q_t_wants q_t_circle q_t_game q_t_stranger q_t_slots q_t_judged q_t_people_held q_t_people_known q_t_people_worths t_people_count o_t_people_worths) o_r) (by decide) rfl (Nat.le_of_ble_eq_true rfl) ?_
  intro p e s m args below meth c A H locs ls hx hb hml hr hown hts hlocks hinit hP hK hN hD hA hS hl
  have hl : lv_has ls 5 [(0, .ref q_t), (1, .int i1), (2, .int i2), (3, .int i3)] := hl
  have hts : ∀ w ∈ nh_words, w.before args s = true := fun w h => hts w (List.mem_cons_of_mem _ h)
  refine lv_aload_n hx hb dX10_value_0 rfl (lv_at hl 0 rfl) ?_
  refine va_get (D := D) (ci := 9) (v := .ref q_t_people) (C := RX10) (T := TX10) (N := 11) hx hb hts nhu_X10 hown hK hP 0 rfl rfl 1 (by decide) (hts _ nhw_215) (fun _ h9 => h9) rfl dX10_value_1 ?_
  refine lv_iload_n hx hb dX10_value_4 rfl (lv_at hl 1 rfl) ?_
  refine nh_goi (nh_V (As := [.int i1]) (rest := []) ⟨hx, hb, hml, hown, hts⟩ (kX1_has  l D cI cZ cO H.size q_t_people q_t_people_held q_t_people_known q_t_people_worths t_people_count i1 (fX1_has t_people_count i1) rfl) (cwV 1 hts (nh_gV nhw_552 nhw_419 nhw_681 nhw_303 nhw_128) rfl rfl rfl (by decide +kernel) ⟨Nat.le_of_ble_eq_true rfl, Nat.le_of_ble_eq_true rfl⟩) hK hN hP hD (isC := [1]) rfl rfl 1 1 rfl rfl rfl rfl hl.1 rfl (Nat.le_of_ble_eq_true rfl) dX10_value_5 ⟨Nat.zero_le _, Nat.zero_le _⟩) hP hD hS hA (isC := [1]) rfl rfl rfl (w' := (wlX10_value cI cZ cO q_t q_t_text q_t_people q_t_draft q_t_acts q_t_ends q_t_wants q_t_circle q_t_game q_t_stranger q_t_slots q_t_judged q_t_people_held q_t_people_known q_t_people_worths t_people_count t_people_worths)) rfl (fun H locs hP hD hS => ?_)
  refine lv_if_eq (tgt := 18) hx hb dX10_value_8 (by decide) (fun c1 => ?_) (fun c1 => ?_)
  · replace h := nh_t h c1
    refine lv_iconst (v := (-1)) hx hb dX10_value_18 (by decide) ?_
    obtain ⟨g0, g1⟩ := nh_i2 h
    exact nh_ri hx hb hr hlocks g0 (by rw [← g1]; exact hP) hS dX10_value_19
  · replace h := nh_f h c1
    refine lv_iload_n hx hb dX10_value_11 rfl (lv_at hl 2 rfl) ?_
    refine nh_goi (nh_S (As := [.int i2]) (rest := []) ⟨hx, hb, hml, hown, hts⟩ (kX10_isSort  l D cI cZ cO H.size i2 (fX10_isSort i2) rfl) (va_cwS 1 hts (nh_gS nhw_553 nhw_806 nhw_304 nhw_37) rfl rfl rfl (by decide +kernel) ⟨Nat.le_of_ble_eq_true rfl, Nat.le_of_ble_eq_true rfl⟩) hK hN hP hD (isC := []) rfl rfl rfl hl.1 rfl (Nat.le_of_ble_eq_true rfl) dX10_value_12 ⟨Nat.zero_le _, Nat.zero_le _⟩) hP hD hS hA (isC := []) rfl rfl rfl (w' := (wlX10_value cI cZ cO q_t q_t_text q_t_people q_t_draft q_t_acts q_t_ends q_t_wants q_t_circle q_t_game q_t_stranger q_t_slots q_t_judged q_t_people_held q_t_people_known q_t_people_worths t_people_count t_people_worths)) rfl (fun H locs hP hD hS => ?_)
    refine lv_if_ne (tgt := 20) hx hb dX10_value_15 (by decide) (fun c2 => ?_) (fun c2 => ?_)
    · replace h := nh_f h c2
      refine lv_iload_n hx hb dX10_value_20 rfl (lv_at hl 3 rfl) ?_
      refine lv_if_lt (tgt := 30) hx hb dX10_value_21 (by decide) (fun c3 => ?_) (fun c3 => ?_)
      · replace h := nh_t h c3
        refine lv_bipush (v := (-2)) hx hb dX10_value_30 (by decide) ?_
        obtain ⟨g0, g1⟩ := nh_i2 h
        exact nh_ri hx hb hr hlocks g0 (by rw [← g1]; exact hP) hS dX10_value_32
      · replace h := nh_f h c3
        refine lv_iload_n hx hb dX10_value_24 rfl (lv_at hl 3 rfl) ?_
        refine lv_bipush (v := 9) hx hb dX10_value_25 (by decide) ?_
        refine lv_icmp_le (tgt := 33) hx hb dX10_value_27 (by decide) (fun c4 => ?_) (fun c4 => ?_)
        · replace h := nh_t h c4
          refine lv_aload_n hx hb dX10_value_33 rfl (lv_at hl 0 rfl) ?_
          refine va_get (D := D) (ci := 9) (v := .ref q_t_people) (C := RX10) (T := TX10) (N := 11) hx hb hts nhu_X10 hown hK hP 0 rfl rfl 1 (by decide) (hts _ nhw_215) (fun _ h9 => h9) rfl dX10_value_34 ?_
          refine lv_iload_n hx hb dX10_value_37 rfl (lv_at hl 1 rfl) ?_
          refine lv_iload_n hx hb dX10_value_38 rfl (lv_at hl 2 rfl) ?_
          obtain ⟨r_5, hc6, h⟩ := nh_b1_some h
          refine nh_goi (nh_V (As := [.int i1, .int i2]) (rest := []) ⟨hx, hb, hml, hown, hts⟩ (kX1_worthOf  l D cI cZ cO H.size q_t_people q_t_people_held q_t_people_known q_t_people_worths t_people_count t_people_worths i1 i2 r_5 hc6) (cwV 2 hts (nh_gV nhw_554 nhw_428 nhw_689 nhw_303 nhw_138) rfl rfl rfl (by decide +kernel) ⟨Nat.le_of_ble_eq_true rfl, Nat.le_of_ble_eq_true rfl⟩) hK hN hP hD (isC := [1, 2]) rfl rfl 1 1 rfl rfl rfl rfl hl.1 rfl (Nat.le_of_ble_eq_true rfl) dX10_value_39 ⟨Nat.zero_le _, Nat.zero_le _⟩) hP hD hS hA (isC := [1, 2]) rfl rfl rfl (w' := (wlX10_value cI cZ cO q_t q_t_text q_t_people q_t_draft q_t_acts q_t_ends q_t_wants q_t_circle q_t_game q_t_stranger q_t_slots q_t_judged q_t_people_held q_t_people_known q_t_people_worths t_people_count t_people_worths)) rfl (fun H locs hP hD hS => ?_)
          refine lv_istore (lv' := [(4, .int r_5), (0, .ref q_t), (1, .int i1), (2, .int i2), (3, .int i3)]) hx hb dX10_value_42 hl (by decide) rfl (fun ls hl => ?_)
          refine lv_aload_n hx hb dX10_value_44 rfl (lv_at hl 1 rfl) ?_
          refine va_get (D := D) (ci := 9) (v := .ref q_t_people) (C := RX10) (T := TX10) (N := 11) hx hb hts nhu_X10 hown hK hP 0 rfl rfl 1 (by decide) (hts _ nhw_215) (fun _ h9 => h9) rfl dX10_value_45 ?_
          refine lv_iload_n hx hb dX10_value_48 rfl (lv_at hl 2 rfl) ?_
          refine lv_iload_n hx hb dX10_value_49 rfl (lv_at hl 3 rfl) ?_
          refine lv_iload_n hx hb dX10_value_50 rfl (lv_at hl 4 rfl) ?_
          obtain ⟨t_people_worths_7, hc8, h⟩ := nh_b1_some h
          refine nh_gov (nh_V (As := [.int i1, .int i2, .int i3]) (rest := []) ⟨hx, hb, hml, hown, hts⟩ (kX1_setWorth  l D cI cZ cO H.size q_t_people q_t_people_held q_t_people_known q_t_people_worths t_people_count t_people_worths i1 i2 i3 t_people_worths_7 hc8) (cwV 3 hts (nh_gV nhw_555 nhw_424 nhw_685 nhw_303 nhw_134) rfl rfl rfl (by decide +kernel) ⟨Nat.le_of_ble_eq_true rfl, Nat.le_of_ble_eq_true rfl⟩) hK hN hP hD (isC := [1, 2]) rfl rfl 1 1 rfl rfl rfl rfl hl.1 rfl (Nat.le_of_ble_eq_true rfl) dX10_value_51 ⟨Nat.zero_le _, Nat.zero_le _⟩) hP hD hS hA (isC := [1, 2]) rfl rfl rfl (w' := (wlX10_value cI cZ cO q_t q_t_text q_t_people q_t_draft q_t_acts q_t_ends q_t_wants q_t_circle q_t_game q_t_stranger q_t_slots q_t_judged q_t_people_held q_t_people_known q_t_people_worths t_people_count t_people_worths_7)) rfl (fun H locs hP hD hS => ?_)
          refine lv_iload hx hb dX10_value_54 (lv_at hl 0 rfl) ?_
          obtain ⟨g0, g1⟩ := nh_i2 h
          exact nh_ri hx hb hr hlocks g0 (by rw [← g1]; exact hP) hS dX10_value_56
        · replace h := nh_f h c4
          refine lv_bipush (v := (-2)) hx hb dX10_value_30 (by decide) ?_
          obtain ⟨g0, g1⟩ := nh_i2 h
          exact nh_ri hx hb hr hlocks g0 (by rw [← g1]; exact hP) hS dX10_value_32
    · replace h := nh_t h c2
      refine lv_iconst (v := (-1)) hx hb dX10_value_18 (by decide) ?_
      obtain ⟨g0, g1⟩ := nh_i2 h
      exact nh_ri hx hb hr hlocks g0 (by rw [← g1]; exact hP) hS dX10_value_19
abbrev wlX10_may (cI cZ cO : ClassId) (q_t q_t_text q_t_people q_t_draft q_t_acts q_t_ends q_t_wants q_t_circle q_t_game q_t_stranger q_t_slots q_t_judged q_t_people_held q_t_people_known q_t_people_worths : Nat) (t_people_count : Int32) (t_people_held : Nat → Int32) (t_people_known : Nat → Int32) : va_W := [(q_t, .inr (9, [.ref q_t_text, .ref q_t_people, .ref q_t_draft, .ref q_t_acts, .ref q_t_ends, .ref q_t_wants, .ref q_t_circle, .ref q_t_game, .ref q_t_stranger, .ref q_t_slots, .ref q_t_judged])), (q_t_people, .inr (1, [.int t_people_count, .ref q_t_people_held, .ref q_t_people_known, .ref q_t_people_worths])), (q_t_people_held, .inl (cI, 4, .inl t_people_held)), (q_t_people_known, .inl (cI, 4, .inl t_people_known))]
def fX10_may (t_people_count : Int32) (t_people_held : Nat → Int32) (t_people_known : Nat → Int32) (i1 : Int32) (i2 : Int32) : Option (Int32) :=
  (if (fX1_has t_people_count i1) = 0 then some (-1)
 else (if (fX1_has t_people_count i2) = 0 then some (-1)
 else (if i1 = i2 then some (-2)
 else nh_b1 (fX1_canSwap t_people_count t_people_held t_people_known i1 i2) (fun r_4 => (if r_4 = 0 then some 0
 else some 1)))))
set_option maxHeartbeats 4000000 in
set_option maxRecDepth 100000 in
theorem kX10_may (l : Launch) (D : va_G) (cI cZ cO : ClassId) (sz : Nat) (q_t q_t_text q_t_people q_t_draft q_t_acts q_t_ends q_t_wants q_t_circle q_t_game q_t_stranger q_t_slots q_t_judged q_t_people_held q_t_people_known q_t_people_worths : Nat) (t_people_count : Int32) (t_people_held : Nat → Int32) (t_people_known : Nat → Int32) (i1 : Int32) (i2 : Int32) (o_r : Int32) (h : fX10_may t_people_count t_people_held t_people_known i1 i2 = some o_r) : Met l yX10_may (nh_w (.code yX10_may cX10_may 3 (some .int))) (nh_rm 2) (nh_Pc D cI cZ cO (wlX10_may cI cZ cO q_t q_t_text q_t_people q_t_draft q_t_acts q_t_ends q_t_wants q_t_circle q_t_game q_t_stranger q_t_slots q_t_judged q_t_people_held q_t_people_known q_t_people_worths t_people_count t_people_held t_people_known) [.ref q_t, .int i1, .int i2] sz) ((nh_Qi D (wlX10_may cI cZ cO q_t q_t_text q_t_people q_t_draft q_t_acts q_t_ends q_t_wants q_t_circle q_t_game q_t_stranger q_t_slots q_t_judged q_t_people_held q_t_people_known q_t_people_worths t_people_count t_people_held t_people_known) o_r) (va_A (wlX10_may cI cZ cO q_t q_t_text q_t_people q_t_draft q_t_acts q_t_ends q_t_wants q_t_circle q_t_game q_t_stranger q_t_slots q_t_judged q_t_people_held q_t_people_known q_t_people_worths t_people_count t_people_held t_people_known) sz)) 0 0 (va_A (wlX10_may cI cZ cO q_t q_t_text q_t_people q_t_draft q_t_acts q_t_ends q_t_wants q_t_circle q_t_game q_t_stranger q_t_slots q_t_judged q_t_people_held q_t_people_known q_t_people_worths t_people_count t_people_held t_people_known) sz) := by
  unfold fX10_may at h
  refine nh_met (cc := cX10_may) (maxL := 3) (ret := (some .int)) (nh_Qi D (wlX10_may cI cZ cO q_t q_t_text q_t_people q_t_draft q_t_acts q_t_ends q_t_wants q_t_circle q_t_game q_t_stranger q_t_slots q_t_judged q_t_people_held q_t_people_known q_t_people_worths t_people_count t_people_held t_people_known) o_r) (by decide) rfl (Nat.le_of_ble_eq_true rfl) ?_
  intro p e s m args below meth c A H locs ls hx hb hml hr hown hts hlocks hinit hP hK hN hD hA hS hl
  have hl : lv_has ls 3 [(0, .ref q_t), (1, .int i1), (2, .int i2)] := hl
  have hts : ∀ w ∈ nh_words, w.before args s = true := fun w h => hts w (List.mem_cons_of_mem _ h)
  refine lv_aload_n hx hb dX10_may_0 rfl (lv_at hl 0 rfl) ?_
  refine va_get (D := D) (ci := 9) (v := .ref q_t_people) (C := RX10) (T := TX10) (N := 11) hx hb hts nhu_X10 hown hK hP 0 rfl rfl 1 (by decide) (hts _ nhw_215) (fun _ h9 => h9) rfl dX10_may_1 ?_
  refine lv_iload_n hx hb dX10_may_4 rfl (lv_at hl 1 rfl) ?_
  refine nh_goi (nh_V (As := [.int i1]) (rest := []) ⟨hx, hb, hml, hown, hts⟩ (kX1_has  l D cI cZ cO H.size q_t_people q_t_people_held q_t_people_known q_t_people_worths t_people_count i1 (fX1_has t_people_count i1) rfl) (cwV 1 hts (nh_gV nhw_552 nhw_419 nhw_681 nhw_303 nhw_128) rfl rfl rfl (by decide +kernel) ⟨Nat.le_of_ble_eq_true rfl, Nat.le_of_ble_eq_true rfl⟩) hK hN hP hD (isC := [1]) rfl rfl 1 1 rfl rfl rfl rfl hl.1 rfl (Nat.le_of_ble_eq_true rfl) dX10_may_5 ⟨Nat.zero_le _, Nat.zero_le _⟩) hP hD hS hA (isC := [1]) rfl rfl rfl (w' := (wlX10_may cI cZ cO q_t q_t_text q_t_people q_t_draft q_t_acts q_t_ends q_t_wants q_t_circle q_t_game q_t_stranger q_t_slots q_t_judged q_t_people_held q_t_people_known q_t_people_worths t_people_count t_people_held t_people_known)) rfl (fun H locs hP hD hS => ?_)
  refine lv_if_eq (tgt := 22) hx hb dX10_may_8 (by decide) (fun c1 => ?_) (fun c1 => ?_)
  · replace h := nh_t h c1
    refine lv_iconst (v := (-1)) hx hb dX10_may_22 (by decide) ?_
    replace h := nh_i1 h
    exact nh_ri hx hb hr hlocks h hP hS dX10_may_23
  · replace h := nh_f h c1
    refine lv_aload_n hx hb dX10_may_11 rfl (lv_at hl 0 rfl) ?_
    refine va_get (D := D) (ci := 9) (v := .ref q_t_people) (C := RX10) (T := TX10) (N := 11) hx hb hts nhu_X10 hown hK hP 0 rfl rfl 1 (by decide) (hts _ nhw_215) (fun _ h9 => h9) rfl dX10_may_12 ?_
    refine lv_iload_n hx hb dX10_may_15 rfl (lv_at hl 2 rfl) ?_
    refine nh_goi (nh_V (As := [.int i2]) (rest := []) ⟨hx, hb, hml, hown, hts⟩ (kX1_has  l D cI cZ cO H.size q_t_people q_t_people_held q_t_people_known q_t_people_worths t_people_count i2 (fX1_has t_people_count i2) rfl) (cwV 1 hts (nh_gV nhw_552 nhw_419 nhw_681 nhw_303 nhw_128) rfl rfl rfl (by decide +kernel) ⟨Nat.le_of_ble_eq_true rfl, Nat.le_of_ble_eq_true rfl⟩) hK hN hP hD (isC := [1]) rfl rfl 1 1 rfl rfl rfl rfl hl.1 rfl (Nat.le_of_ble_eq_true rfl) dX10_may_16 ⟨Nat.zero_le _, Nat.zero_le _⟩) hP hD hS hA (isC := [1]) rfl rfl rfl (w' := (wlX10_may cI cZ cO q_t q_t_text q_t_people q_t_draft q_t_acts q_t_ends q_t_wants q_t_circle q_t_game q_t_stranger q_t_slots q_t_judged q_t_people_held q_t_people_known q_t_people_worths t_people_count t_people_held t_people_known)) rfl (fun H locs hP hD hS => ?_)
    refine lv_if_ne (tgt := 24) hx hb dX10_may_19 (by decide) (fun c2 => ?_) (fun c2 => ?_)
    · replace h := nh_f h c2
      refine lv_iload_n hx hb dX10_may_24 rfl (lv_at hl 1 rfl) ?_
      refine lv_iload_n hx hb dX10_may_25 rfl (lv_at hl 2 rfl) ?_
      refine lv_icmp_ne (tgt := 32) hx hb dX10_may_26 (by decide) (fun c3 => ?_) (fun c3 => ?_)
      · replace h := nh_f h c3
        refine lv_aload_n hx hb dX10_may_32 rfl (lv_at hl 0 rfl) ?_
        refine va_get (D := D) (ci := 9) (v := .ref q_t_people) (C := RX10) (T := TX10) (N := 11) hx hb hts nhu_X10 hown hK hP 0 rfl rfl 1 (by decide) (hts _ nhw_215) (fun _ h9 => h9) rfl dX10_may_33 ?_
        refine lv_iload_n hx hb dX10_may_36 rfl (lv_at hl 1 rfl) ?_
        refine lv_iload_n hx hb dX10_may_37 rfl (lv_at hl 2 rfl) ?_
        obtain ⟨r_4, hc5, h⟩ := nh_b1_some h
        refine nh_goi (nh_V (As := [.int i1, .int i2]) (rest := []) ⟨hx, hb, hml, hown, hts⟩ (kX1_canSwap  l D cI cZ cO H.size q_t_people q_t_people_held q_t_people_known q_t_people_worths t_people_count t_people_held t_people_known i1 i2 r_4 hc5) (cwV 2 hts (nh_gV nhw_556 nhw_415 nhw_677 nhw_303 nhw_124) rfl rfl rfl (by decide +kernel) ⟨Nat.le_of_ble_eq_true rfl, Nat.le_of_ble_eq_true rfl⟩) hK hN hP hD (isC := [1, 2, 3]) rfl rfl 1 1 rfl rfl rfl rfl hl.1 rfl (Nat.le_of_ble_eq_true rfl) dX10_may_38 ⟨Nat.zero_le _, Nat.zero_le _⟩) hP hD hS hA (isC := [1, 2, 3]) rfl rfl rfl (w' := (wlX10_may cI cZ cO q_t q_t_text q_t_people q_t_draft q_t_acts q_t_ends q_t_wants q_t_circle q_t_game q_t_stranger q_t_slots q_t_judged q_t_people_held q_t_people_known q_t_people_worths t_people_count t_people_held t_people_known)) rfl (fun H locs hP hD hS => ?_)
        refine lv_if_eq (tgt := 48) hx hb dX10_may_41 (by decide) (fun c6 => ?_) (fun c6 => ?_)
        · replace h := nh_t h c6
          refine lv_iconst (v := 0) hx hb dX10_may_48 (by decide) ?_
          replace h := nh_i1 h
          exact nh_ri hx hb hr hlocks h hP hS dX10_may_49
        · replace h := nh_f h c6
          refine lv_iconst (v := 1) hx hb dX10_may_44 (by decide) ?_
          refine lv_goto (tgt := 49) hx hb dX10_may_45 (by decide) ?_
          replace h := nh_i1 h
          exact nh_ri hx hb hr hlocks h hP hS dX10_may_49
      · replace h := nh_t h c3
        refine lv_bipush (v := (-2)) hx hb dX10_may_29 (by decide) ?_
        replace h := nh_i1 h
        exact nh_ri hx hb hr hlocks h hP hS dX10_may_31
    · replace h := nh_t h c2
      refine lv_iconst (v := (-1)) hx hb dX10_may_22 (by decide) ?_
      replace h := nh_i1 h
      exact nh_ri hx hb hr hlocks h hP hS dX10_may_23
abbrev wlX10_exchange (cI cZ cO : ClassId) (q_t q_t_text q_t_people q_t_draft q_t_acts q_t_ends q_t_wants q_t_circle q_t_game q_t_stranger q_t_slots q_t_judged q_t_acts_row q_t_people_held q_t_people_known q_t_people_worths : Nat) (t_acts_count : Int32) (t_acts_row : Nat → Int32) (t_people_count : Int32) (t_people_held : Nat → Int32) (t_people_known : Nat → Int32) (t_people_worths : Nat → Int32) : va_W := [(q_t, .inr (9, [.ref q_t_text, .ref q_t_people, .ref q_t_draft, .ref q_t_acts, .ref q_t_ends, .ref q_t_wants, .ref q_t_circle, .ref q_t_game, .ref q_t_stranger, .ref q_t_slots, .ref q_t_judged])), (q_t_acts, .inr (0, [.int t_acts_count, .ref q_t_acts_row])), (q_t_acts_row, .inl (cI, 16, .inl t_acts_row)), (q_t_people, .inr (1, [.int t_people_count, .ref q_t_people_held, .ref q_t_people_known, .ref q_t_people_worths])), (q_t_people_held, .inl (cI, 4, .inl t_people_held)), (q_t_people_known, .inl (cI, 4, .inl t_people_known)), (q_t_people_worths, .inl (cI, 24, .inl t_people_worths))]
def fX10_exchange (F : Nat) (t_acts_count : Int32) (t_acts_row : Nat → Int32) (t_people_count : Int32) (t_people_held : Nat → Int32) (t_people_known : Nat → Int32) (t_people_worths : Nat → Int32) (i1 : Int32) (i2 : Int32) : Option (Int32 × Int32 × (Nat → Int32) × (Nat → Int32) × (Nat → Int32)) :=
  (if (fX1_has t_people_count i1) = 0 then some ((-1), t_acts_count, t_acts_row, t_people_held, t_people_known)
 else (if (fX1_has t_people_count i2) = 0 then some ((-1), t_acts_count, t_acts_row, t_people_held, t_people_known)
 else (if i1 = i2 then some ((-2), t_acts_count, t_acts_row, t_people_held, t_people_known)
 else nh_b1 (fX1_canSwap t_people_count t_people_held t_people_known i1 i2) (fun r_4 => (if r_4 = 0 then some ((-3), t_acts_count, t_acts_row, t_people_held, t_people_known)
 else nh_b1 (fX1_wealth F t_people_count t_people_held t_people_worths) (fun r_7 => nh_b2 (fX1_swap t_people_count t_people_held t_people_known i1 i2) (fun t_people_held_9 t_people_known_10 => nh_b2 (fX0_addExchange t_acts_count t_acts_row i1 i2) (fun t_acts_count_12 t_acts_row_13 => nh_b1 (fX1_wealth F t_people_count t_people_held_9 t_people_worths) (fun r_15 => some (((r_15 - r_7) + 100), t_acts_count_12, t_acts_row_13, t_people_held_9, t_people_known_10))))))))))
set_option maxHeartbeats 4000000 in
set_option maxRecDepth 100000 in
theorem kX10_exchange (F : Nat) (l : Launch) (D : va_G) (cI cZ cO : ClassId) (sz : Nat) (q_t q_t_text q_t_people q_t_draft q_t_acts q_t_ends q_t_wants q_t_circle q_t_game q_t_stranger q_t_slots q_t_judged q_t_acts_row q_t_people_held q_t_people_known q_t_people_worths : Nat) (t_acts_count : Int32) (t_acts_row : Nat → Int32) (t_people_count : Int32) (t_people_held : Nat → Int32) (t_people_known : Nat → Int32) (t_people_worths : Nat → Int32) (i1 : Int32) (i2 : Int32) (o_r : Int32) (o_t_acts_count : Int32) (o_t_acts_row : Nat → Int32) (o_t_people_held : Nat → Int32) (o_t_people_known : Nat → Int32) (h : fX10_exchange F t_acts_count t_acts_row t_people_count t_people_held t_people_known t_people_worths i1 i2 = some (o_r, o_t_acts_count, o_t_acts_row, o_t_people_held, o_t_people_known)) : Met l yX10_exchange (nh_w (.code yX10_exchange cX10_exchange 4 (some .int))) (nh_rm 4) (nh_Pc D cI cZ cO (wlX10_exchange cI cZ cO q_t q_t_text q_t_people q_t_draft q_t_acts q_t_ends q_t_wants q_t_circle q_t_game q_t_stranger q_t_slots q_t_judged q_t_acts_row q_t_people_held q_t_people_known q_t_people_worths t_acts_count t_acts_row t_people_count t_people_held t_people_known t_people_worths) [.ref q_t, .int i1, .int i2] sz) ((nh_Qi D (wlX10_exchange cI cZ cO q_t q_t_text q_t_people q_t_draft q_t_acts q_t_ends q_t_wants q_t_circle q_t_game q_t_stranger q_t_slots q_t_judged q_t_acts_row q_t_people_held q_t_people_known q_t_people_worths o_t_acts_count o_t_acts_row t_people_count o_t_people_held o_t_people_known t_people_worths) o_r) (va_A (wlX10_exchange cI cZ cO q_t q_t_text q_t_people q_t_draft q_t_acts q_t_ends q_t_wants q_t_circle q_t_game q_t_stranger q_t_slots q_t_judged q_t_acts_row q_t_people_held q_t_people_known q_t_people_worths t_acts_count t_acts_row t_people_count t_people_held t_people_known t_people_worths) sz)) 0 0 (va_A (wlX10_exchange cI cZ cO q_t q_t_text q_t_people q_t_draft q_t_acts q_t_ends q_t_wants q_t_circle q_t_game q_t_stranger q_t_slots q_t_judged q_t_acts_row q_t_people_held q_t_people_known q_t_people_worths t_acts_count t_acts_row t_people_count t_people_held t_people_known t_people_worths) sz) := by
  unfold fX10_exchange at h
  refine nh_met (cc := cX10_exchange) (maxL := 4) (ret := (some .int)) (nh_Qi D (wlX10_exchange cI cZ cO q_t q_t_text q_t_people q_t_draft q_t_acts q_t_ends q_t_wants q_t_circle q_t_game q_t_stranger q_t_slots q_t_judged q_t_acts_row q_t_people_held q_t_people_known q_t_people_worths o_t_acts_count o_t_acts_row t_people_count o_t_people_held o_t_people_known t_people_worths) o_r) (by decide) rfl (Nat.le_of_ble_eq_true rfl) ?_
  intro p e s m args below meth c A H locs ls hx hb hml hr hown hts hlocks hinit hP hK hN hD hA hS hl
  have hl : lv_has ls 4 [(0, .ref q_t), (1, .int i1), (2, .int i2)] := hl
  have hts : ∀ w ∈ nh_words, w.before args s = true := fun w h => hts w (List.mem_cons_of_mem _ h)
  refine lv_aload_n hx hb dX10_exchange_0 rfl (lv_at hl 0 rfl) ?_
  refine va_get (D := D) (ci := 9) (v := .ref q_t_people) (C := RX10) (T := TX10) (N := 11) hx hb hts nhu_X10 hown hK hP 0 rfl rfl 1 (by decide) (hts _ nhw_215) (fun _ h9 => h9) rfl dX10_exchange_1 ?_
  refine lv_iload_n hx hb dX10_exchange_4 rfl (lv_at hl 1 rfl) ?_
  refine nh_goi (nh_V (As := [.int i1]) (rest := []) ⟨hx, hb, hml, hown, hts⟩ (kX1_has  l D cI cZ cO H.size q_t_people q_t_people_held q_t_people_known q_t_people_worths t_people_count i1 (fX1_has t_people_count i1) rfl) (cwV 1 hts (nh_gV nhw_552 nhw_419 nhw_681 nhw_303 nhw_128) rfl rfl rfl (by decide +kernel) ⟨Nat.le_of_ble_eq_true rfl, Nat.le_of_ble_eq_true rfl⟩) hK hN hP hD (isC := [3]) rfl rfl 3 1 rfl rfl rfl rfl hl.1 rfl (Nat.le_of_ble_eq_true rfl) dX10_exchange_5 ⟨Nat.zero_le _, Nat.zero_le _⟩) hP hD hS hA (isC := [3]) rfl rfl rfl (w' := (wlX10_exchange cI cZ cO q_t q_t_text q_t_people q_t_draft q_t_acts q_t_ends q_t_wants q_t_circle q_t_game q_t_stranger q_t_slots q_t_judged q_t_acts_row q_t_people_held q_t_people_known q_t_people_worths t_acts_count t_acts_row t_people_count t_people_held t_people_known t_people_worths)) rfl (fun H locs hP hD hS => ?_)
  refine lv_if_eq (tgt := 22) hx hb dX10_exchange_8 (by decide) (fun c1 => ?_) (fun c1 => ?_)
  · replace h := nh_t h c1
    refine lv_iconst (v := (-1)) hx hb dX10_exchange_22 (by decide) ?_
    obtain ⟨g0, g1, g2, g3, g4⟩ := nh_i5 h
    exact nh_ri hx hb hr hlocks g0 (by rw [← g1, ← g2, ← g3, ← g4]; exact hP) hS dX10_exchange_23
  · replace h := nh_f h c1
    refine lv_aload_n hx hb dX10_exchange_11 rfl (lv_at hl 0 rfl) ?_
    refine va_get (D := D) (ci := 9) (v := .ref q_t_people) (C := RX10) (T := TX10) (N := 11) hx hb hts nhu_X10 hown hK hP 0 rfl rfl 1 (by decide) (hts _ nhw_215) (fun _ h9 => h9) rfl dX10_exchange_12 ?_
    refine lv_iload_n hx hb dX10_exchange_15 rfl (lv_at hl 2 rfl) ?_
    refine nh_goi (nh_V (As := [.int i2]) (rest := []) ⟨hx, hb, hml, hown, hts⟩ (kX1_has  l D cI cZ cO H.size q_t_people q_t_people_held q_t_people_known q_t_people_worths t_people_count i2 (fX1_has t_people_count i2) rfl) (cwV 1 hts (nh_gV nhw_552 nhw_419 nhw_681 nhw_303 nhw_128) rfl rfl rfl (by decide +kernel) ⟨Nat.le_of_ble_eq_true rfl, Nat.le_of_ble_eq_true rfl⟩) hK hN hP hD (isC := [3]) rfl rfl 3 1 rfl rfl rfl rfl hl.1 rfl (Nat.le_of_ble_eq_true rfl) dX10_exchange_16 ⟨Nat.zero_le _, Nat.zero_le _⟩) hP hD hS hA (isC := [3]) rfl rfl rfl (w' := (wlX10_exchange cI cZ cO q_t q_t_text q_t_people q_t_draft q_t_acts q_t_ends q_t_wants q_t_circle q_t_game q_t_stranger q_t_slots q_t_judged q_t_acts_row q_t_people_held q_t_people_known q_t_people_worths t_acts_count t_acts_row t_people_count t_people_held t_people_known t_people_worths)) rfl (fun H locs hP hD hS => ?_)
    refine lv_if_ne (tgt := 24) hx hb dX10_exchange_19 (by decide) (fun c2 => ?_) (fun c2 => ?_)
    · replace h := nh_f h c2
      refine lv_iload_n hx hb dX10_exchange_24 rfl (lv_at hl 1 rfl) ?_
      refine lv_iload_n hx hb dX10_exchange_25 rfl (lv_at hl 2 rfl) ?_
      refine lv_icmp_ne (tgt := 32) hx hb dX10_exchange_26 (by decide) (fun c3 => ?_) (fun c3 => ?_)
      · replace h := nh_f h c3
        refine lv_aload_n hx hb dX10_exchange_32 rfl (lv_at hl 0 rfl) ?_
        refine va_get (D := D) (ci := 9) (v := .ref q_t_people) (C := RX10) (T := TX10) (N := 11) hx hb hts nhu_X10 hown hK hP 0 rfl rfl 1 (by decide) (hts _ nhw_215) (fun _ h9 => h9) rfl dX10_exchange_33 ?_
        refine lv_iload_n hx hb dX10_exchange_36 rfl (lv_at hl 1 rfl) ?_
        refine lv_iload_n hx hb dX10_exchange_37 rfl (lv_at hl 2 rfl) ?_
        obtain ⟨r_4, hc5, h⟩ := nh_b1_some h
        refine nh_goi (nh_V (As := [.int i1, .int i2]) (rest := []) ⟨hx, hb, hml, hown, hts⟩ (kX1_canSwap  l D cI cZ cO H.size q_t_people q_t_people_held q_t_people_known q_t_people_worths t_people_count t_people_held t_people_known i1 i2 r_4 hc5) (cwV 2 hts (nh_gV nhw_556 nhw_415 nhw_677 nhw_303 nhw_124) rfl rfl rfl (by decide +kernel) ⟨Nat.le_of_ble_eq_true rfl, Nat.le_of_ble_eq_true rfl⟩) hK hN hP hD (isC := [3, 4, 5]) rfl rfl 3 1 rfl rfl rfl rfl hl.1 rfl (Nat.le_of_ble_eq_true rfl) dX10_exchange_38 ⟨Nat.zero_le _, Nat.zero_le _⟩) hP hD hS hA (isC := [3, 4, 5]) rfl rfl rfl (w' := (wlX10_exchange cI cZ cO q_t q_t_text q_t_people q_t_draft q_t_acts q_t_ends q_t_wants q_t_circle q_t_game q_t_stranger q_t_slots q_t_judged q_t_acts_row q_t_people_held q_t_people_known q_t_people_worths t_acts_count t_acts_row t_people_count t_people_held t_people_known t_people_worths)) rfl (fun H locs hP hD hS => ?_)
        refine lv_if_ne (tgt := 47) hx hb dX10_exchange_41 (by decide) (fun c6 => ?_) (fun c6 => ?_)
        · replace h := nh_f h c6
          refine lv_aload_n hx hb dX10_exchange_47 rfl (lv_at hl 0 rfl) ?_
          refine va_get (D := D) (ci := 9) (v := .ref q_t_people) (C := RX10) (T := TX10) (N := 11) hx hb hts nhu_X10 hown hK hP 0 rfl rfl 1 (by decide) (hts _ nhw_215) (fun _ h9 => h9) rfl dX10_exchange_48 ?_
          obtain ⟨r_7, hc8, h⟩ := nh_b1_some h
          refine nh_goi (nh_V (As := []) (rest := []) ⟨hx, hb, hml, hown, hts⟩ (kX1_wealth F l D cI cZ cO H.size q_t_people q_t_people_held q_t_people_known q_t_people_worths t_people_count t_people_held t_people_worths r_7 hc8) (cwV 0 hts (nh_gV nhw_551 nhw_427 nhw_688 nhw_303 nhw_137) rfl rfl rfl (by decide +kernel) ⟨Nat.le_of_ble_eq_true rfl, Nat.le_of_ble_eq_true rfl⟩) hK hN hP hD (isC := [3, 4, 6]) rfl rfl 3 1 rfl rfl rfl rfl hl.1 rfl (Nat.le_of_ble_eq_true rfl) dX10_exchange_51 ⟨Nat.zero_le _, Nat.zero_le _⟩) hP hD hS hA (isC := [3, 4, 6]) rfl rfl rfl (w' := (wlX10_exchange cI cZ cO q_t q_t_text q_t_people q_t_draft q_t_acts q_t_ends q_t_wants q_t_circle q_t_game q_t_stranger q_t_slots q_t_judged q_t_acts_row q_t_people_held q_t_people_known q_t_people_worths t_acts_count t_acts_row t_people_count t_people_held t_people_known t_people_worths)) rfl (fun H locs hP hD hS => ?_)
          refine lv_istore_n (lv' := [(3, .int r_7), (0, .ref q_t), (1, .int i1), (2, .int i2)]) hx hb dX10_exchange_54 rfl hl (by decide) rfl (fun ls hl => ?_)
          refine lv_aload_n hx hb dX10_exchange_55 rfl (lv_at hl 1 rfl) ?_
          refine va_get (D := D) (ci := 9) (v := .ref q_t_people) (C := RX10) (T := TX10) (N := 11) hx hb hts nhu_X10 hown hK hP 0 rfl rfl 1 (by decide) (hts _ nhw_215) (fun _ h9 => h9) rfl dX10_exchange_56 ?_
          refine lv_iload_n hx hb dX10_exchange_59 rfl (lv_at hl 2 rfl) ?_
          refine lv_iload_n hx hb dX10_exchange_60 rfl (lv_at hl 3 rfl) ?_
          obtain ⟨t_people_held_9, t_people_known_10, hc11, h⟩ := nh_b2_some h
          refine nh_gov (nh_V (As := [.int i1, .int i2]) (rest := []) ⟨hx, hb, hml, hown, hts⟩ (kX1_swap  l D cI cZ cO H.size q_t_people q_t_people_held q_t_people_known q_t_people_worths t_people_count t_people_held t_people_known i1 i2 t_people_held_9 t_people_known_10 hc11) (cwV 2 hts (nh_gV nhw_557 nhw_425 nhw_686 nhw_303 nhw_135) rfl rfl rfl (by decide +kernel) ⟨Nat.le_of_ble_eq_true rfl, Nat.le_of_ble_eq_true rfl⟩) hK hN hP hD (isC := [3, 4, 5]) rfl rfl 3 1 rfl rfl rfl rfl hl.1 rfl (Nat.le_of_ble_eq_true rfl) dX10_exchange_61 ⟨Nat.zero_le _, Nat.zero_le _⟩) hP hD hS hA (isC := [3, 4, 5]) rfl rfl rfl (w' := (wlX10_exchange cI cZ cO q_t q_t_text q_t_people q_t_draft q_t_acts q_t_ends q_t_wants q_t_circle q_t_game q_t_stranger q_t_slots q_t_judged q_t_acts_row q_t_people_held q_t_people_known q_t_people_worths t_acts_count t_acts_row t_people_count t_people_held_9 t_people_known_10 t_people_worths)) rfl (fun H locs hP hD hS => ?_)
          refine lv_aload_n hx hb dX10_exchange_64 rfl (lv_at hl 1 rfl) ?_
          refine va_get (D := D) (ci := 9) (v := .ref q_t_acts) (C := RX10) (T := TX10) (N := 11) hx hb hts nhu_X10 hown hK hP 0 rfl rfl 3 (by decide) (hts _ nhw_220) (fun _ h9 => h9) rfl dX10_exchange_65 ?_
          refine lv_iload_n hx hb dX10_exchange_68 rfl (lv_at hl 2 rfl) ?_
          refine lv_iload_n hx hb dX10_exchange_69 rfl (lv_at hl 3 rfl) ?_
          obtain ⟨t_acts_count_12, t_acts_row_13, hc14, h⟩ := nh_b2_some h
          refine nh_gov (nh_V (As := [.int i1, .int i2]) (rest := []) ⟨hx, hb, hml, hown, hts⟩ (kX0_addExchange  l D cI cZ cO H.size q_t_acts q_t_acts_row t_acts_count t_acts_row i1 i2 t_acts_count_12 t_acts_row_13 hc14) (cwV 2 hts (nh_gV nhw_558 nhw_316 nhw_672 nhw_302 nhw_18) rfl rfl rfl (by decide +kernel) ⟨Nat.le_of_ble_eq_true rfl, Nat.le_of_ble_eq_true rfl⟩) hK hN hP hD (isC := [1, 2]) rfl rfl 1 0 rfl rfl rfl rfl hl.1 rfl (Nat.le_of_ble_eq_true rfl) dX10_exchange_70 ⟨Nat.zero_le _, Nat.zero_le _⟩) hP hD hS hA (isC := [1, 2]) rfl rfl rfl (w' := (wlX10_exchange cI cZ cO q_t q_t_text q_t_people q_t_draft q_t_acts q_t_ends q_t_wants q_t_circle q_t_game q_t_stranger q_t_slots q_t_judged q_t_acts_row q_t_people_held q_t_people_known q_t_people_worths t_acts_count_12 t_acts_row_13 t_people_count t_people_held_9 t_people_known_10 t_people_worths)) rfl (fun H locs hP hD hS => ?_)
          refine lv_aload_n hx hb dX10_exchange_73 rfl (lv_at hl 1 rfl) ?_
          refine va_get (D := D) (ci := 9) (v := .ref q_t_people) (C := RX10) (T := TX10) (N := 11) hx hb hts nhu_X10 hown hK hP 0 rfl rfl 1 (by decide) (hts _ nhw_215) (fun _ h9 => h9) rfl dX10_exchange_74 ?_
          obtain ⟨r_15, hc16, h⟩ := nh_b1_some h
          refine nh_goi (nh_V (As := []) (rest := []) ⟨hx, hb, hml, hown, hts⟩ (kX1_wealth F l D cI cZ cO H.size q_t_people q_t_people_held q_t_people_known q_t_people_worths t_people_count t_people_held_9 t_people_worths r_15 hc16) (cwV 0 hts (nh_gV nhw_551 nhw_427 nhw_688 nhw_303 nhw_137) rfl rfl rfl (by decide +kernel) ⟨Nat.le_of_ble_eq_true rfl, Nat.le_of_ble_eq_true rfl⟩) hK hN hP hD (isC := [3, 4, 6]) rfl rfl 3 1 rfl rfl rfl rfl hl.1 rfl (Nat.le_of_ble_eq_true rfl) dX10_exchange_77 ⟨Nat.zero_le _, Nat.zero_le _⟩) hP hD hS hA (isC := [3, 4, 6]) rfl rfl rfl (w' := (wlX10_exchange cI cZ cO q_t q_t_text q_t_people q_t_draft q_t_acts q_t_ends q_t_wants q_t_circle q_t_game q_t_stranger q_t_slots q_t_judged q_t_acts_row q_t_people_held q_t_people_known q_t_people_worths t_acts_count_12 t_acts_row_13 t_people_count t_people_held_9 t_people_known_10 t_people_worths)) rfl (fun H locs hP hD hS => ?_)
          refine lv_iload_n hx hb dX10_exchange_80 rfl (lv_at hl 0 rfl) ?_
          refine lv_isub hx hb dX10_exchange_81 ?_
          refine lv_bipush (v := 100) hx hb dX10_exchange_82 (by decide) ?_
          refine lv_iadd hx hb dX10_exchange_84 ?_
          obtain ⟨g0, g1, g2, g3, g4⟩ := nh_i5 h
          exact nh_ri hx hb hr hlocks g0 (by rw [← g1, ← g2, ← g3, ← g4]; exact hP) hS dX10_exchange_85
        · replace h := nh_t h c6
          refine lv_bipush (v := (-3)) hx hb dX10_exchange_44 (by decide) ?_
          obtain ⟨g0, g1, g2, g3, g4⟩ := nh_i5 h
          exact nh_ri hx hb hr hlocks g0 (by rw [← g1, ← g2, ← g3, ← g4]; exact hP) hS dX10_exchange_46
      · replace h := nh_t h c3
        refine lv_bipush (v := (-2)) hx hb dX10_exchange_29 (by decide) ?_
        obtain ⟨g0, g1, g2, g3, g4⟩ := nh_i5 h
        exact nh_ri hx hb hr hlocks g0 (by rw [← g1, ← g2, ← g3, ← g4]; exact hP) hS dX10_exchange_31
    · replace h := nh_t h c2
      refine lv_iconst (v := (-1)) hx hb dX10_exchange_22 (by decide) ?_
      obtain ⟨g0, g1, g2, g3, g4⟩ := nh_i5 h
      exact nh_ri hx hb hr hlocks g0 (by rw [← g1, ← g2, ← g3, ← g4]; exact hP) hS dX10_exchange_23
abbrev wlX10_sea (cI cZ cO : ClassId) (q_t q_t_text q_t_people q_t_draft q_t_acts q_t_ends q_t_wants q_t_circle q_t_game q_t_stranger q_t_slots q_t_judged q_t_acts_row q_t_people_held q_t_people_known q_t_people_worths : Nat) (t_acts_count : Int32) (t_acts_row : Nat → Int32) (t_people_count : Int32) (t_people_held : Nat → Int32) (t_people_known : Nat → Int32) : va_W := [(q_t, .inr (9, [.ref q_t_text, .ref q_t_people, .ref q_t_draft, .ref q_t_acts, .ref q_t_ends, .ref q_t_wants, .ref q_t_circle, .ref q_t_game, .ref q_t_stranger, .ref q_t_slots, .ref q_t_judged])), (q_t_acts, .inr (0, [.int t_acts_count, .ref q_t_acts_row])), (q_t_acts_row, .inl (cI, 16, .inl t_acts_row)), (q_t_people, .inr (1, [.int t_people_count, .ref q_t_people_held, .ref q_t_people_known, .ref q_t_people_worths])), (q_t_people_held, .inl (cI, 4, .inl t_people_held)), (q_t_people_known, .inl (cI, 4, .inl t_people_known))]
def fX10_sea (F : Nat) (t_acts_count : Int32) (t_acts_row : Nat → Int32) (t_people_count : Int32) (t_people_held : Nat → Int32) (t_people_known : Nat → Int32) (i1 : Int32) : Option (Int32 × Int32 × (Nat → Int32) × (Nat → Int32)) :=
  (if (fX1_has t_people_count i1) = 0 then some ((-1), t_acts_count, t_acts_row, t_people_held)
 else nh_b1 (fX1_isDead F t_people_count t_people_held t_people_known i1) (fun r_2 => (if r_2 = 0 then some ((-3), t_acts_count, t_acts_row, t_people_held)
 else nh_chk (nh_in i1 4) (nh_let (α := Int32) ((t_people_held (Int32.toNatClampNeg i1))) (fun y_6 => nh_chk (nh_in i1 4) (nh_let (α := Nat → Int32) (upd t_people_held (Int32.toNatClampNeg i1) (-9)) (fun t_people_held_8 => nh_b2 (fX0_addSea t_acts_count t_acts_row i1 y_6) (fun t_acts_count_9 t_acts_row_10 => some (y_6, t_acts_count_9, t_acts_row_10, t_people_held_8)))))))))
set_option maxHeartbeats 4000000 in
set_option maxRecDepth 100000 in
theorem kX10_sea (F : Nat) (l : Launch) (D : va_G) (cI cZ cO : ClassId) (sz : Nat) (q_t q_t_text q_t_people q_t_draft q_t_acts q_t_ends q_t_wants q_t_circle q_t_game q_t_stranger q_t_slots q_t_judged q_t_acts_row q_t_people_held q_t_people_known q_t_people_worths : Nat) (t_acts_count : Int32) (t_acts_row : Nat → Int32) (t_people_count : Int32) (t_people_held : Nat → Int32) (t_people_known : Nat → Int32) (i1 : Int32) (o_r : Int32) (o_t_acts_count : Int32) (o_t_acts_row : Nat → Int32) (o_t_people_held : Nat → Int32) (h : fX10_sea F t_acts_count t_acts_row t_people_count t_people_held t_people_known i1 = some (o_r, o_t_acts_count, o_t_acts_row, o_t_people_held)) : Met l yX10_sea (nh_w (.code yX10_sea cX10_sea 3 (some .int))) (nh_rm 4) (nh_Pc D cI cZ cO (wlX10_sea cI cZ cO q_t q_t_text q_t_people q_t_draft q_t_acts q_t_ends q_t_wants q_t_circle q_t_game q_t_stranger q_t_slots q_t_judged q_t_acts_row q_t_people_held q_t_people_known q_t_people_worths t_acts_count t_acts_row t_people_count t_people_held t_people_known) [.ref q_t, .int i1] sz) ((nh_Qi D (wlX10_sea cI cZ cO q_t q_t_text q_t_people q_t_draft q_t_acts q_t_ends q_t_wants q_t_circle q_t_game q_t_stranger q_t_slots q_t_judged q_t_acts_row q_t_people_held q_t_people_known q_t_people_worths o_t_acts_count o_t_acts_row t_people_count o_t_people_held t_people_known) o_r) (va_A (wlX10_sea cI cZ cO q_t q_t_text q_t_people q_t_draft q_t_acts q_t_ends q_t_wants q_t_circle q_t_game q_t_stranger q_t_slots q_t_judged q_t_acts_row q_t_people_held q_t_people_known q_t_people_worths t_acts_count t_acts_row t_people_count t_people_held t_people_known) sz)) 0 0 (va_A (wlX10_sea cI cZ cO q_t q_t_text q_t_people q_t_draft q_t_acts q_t_ends q_t_wants q_t_circle q_t_game q_t_stranger q_t_slots q_t_judged q_t_acts_row q_t_people_held q_t_people_known q_t_people_worths t_acts_count t_acts_row t_people_count t_people_held t_people_known) sz) := by
  unfold fX10_sea at h
  refine nh_met (cc := cX10_sea) (maxL := 3) (ret := (some .int)) (nh_Qi D (wlX10_sea cI cZ cO q_t q_t_text q_t_people q_t_draft q_t_acts q_t_ends q_t_wants q_t_circle q_t_game q_t_stranger q_t_slots q_t_judged q_t_acts_row q_t_people_held q_t_people_known q_t_people_worths o_t_acts_count o_t_acts_row t_people_count o_t_people_held t_people_known) o_r) (by decide) rfl (Nat.le_of_ble_eq_true rfl) ?_
  intro p e s m args below meth c A H locs ls hx hb hml hr hown hts hlocks hinit hP hK hN hD hA hS hl
  have hl : lv_has ls 3 [(0, .ref q_t), (1, .int i1)] := hl
  have hts : ∀ w ∈ nh_words, w.before args s = true := fun w h => hts w (List.mem_cons_of_mem _ h)
  refine lv_aload_n hx hb dX10_sea_0 rfl (lv_at hl 0 rfl) ?_
  refine va_get (D := D) (ci := 9) (v := .ref q_t_people) (C := RX10) (T := TX10) (N := 11) hx hb hts nhu_X10 hown hK hP 0 rfl rfl 1 (by decide) (hts _ nhw_215) (fun _ h9 => h9) rfl dX10_sea_1 ?_
  refine lv_iload_n hx hb dX10_sea_4 rfl (lv_at hl 1 rfl) ?_
  refine nh_goi (nh_V (As := [.int i1]) (rest := []) ⟨hx, hb, hml, hown, hts⟩ (kX1_has  l D cI cZ cO H.size q_t_people q_t_people_held q_t_people_known q_t_people_worths t_people_count i1 (fX1_has t_people_count i1) rfl) (cwV 1 hts (nh_gV nhw_552 nhw_419 nhw_681 nhw_303 nhw_128) rfl rfl rfl (by decide +kernel) ⟨Nat.le_of_ble_eq_true rfl, Nat.le_of_ble_eq_true rfl⟩) hK hN hP hD (isC := [3]) rfl rfl 3 1 rfl rfl rfl rfl hl.1 rfl (Nat.le_of_ble_eq_true rfl) dX10_sea_5 ⟨Nat.zero_le _, Nat.zero_le _⟩) hP hD hS hA (isC := [3]) rfl rfl rfl (w' := (wlX10_sea cI cZ cO q_t q_t_text q_t_people q_t_draft q_t_acts q_t_ends q_t_wants q_t_circle q_t_game q_t_stranger q_t_slots q_t_judged q_t_acts_row q_t_people_held q_t_people_known q_t_people_worths t_acts_count t_acts_row t_people_count t_people_held t_people_known)) rfl (fun H locs hP hD hS => ?_)
  refine lv_if_ne (tgt := 13) hx hb dX10_sea_8 (by decide) (fun c1 => ?_) (fun c1 => ?_)
  · replace h := nh_f h c1
    refine lv_aload_n hx hb dX10_sea_13 rfl (lv_at hl 0 rfl) ?_
    refine va_get (D := D) (ci := 9) (v := .ref q_t_people) (C := RX10) (T := TX10) (N := 11) hx hb hts nhu_X10 hown hK hP 0 rfl rfl 1 (by decide) (hts _ nhw_215) (fun _ h9 => h9) rfl dX10_sea_14 ?_
    refine lv_iload_n hx hb dX10_sea_17 rfl (lv_at hl 1 rfl) ?_
    obtain ⟨r_2, hc3, h⟩ := nh_b1_some h
    refine nh_goi (nh_V (As := [.int i1]) (rest := []) ⟨hx, hb, hml, hown, hts⟩ (kX1_isDead F l D cI cZ cO H.size q_t_people q_t_people_held q_t_people_known q_t_people_worths t_people_count t_people_held t_people_known i1 r_2 hc3) (cwV 1 hts (nh_gV nhw_559 nhw_422 nhw_683 nhw_303 nhw_131) rfl rfl rfl (by decide +kernel) ⟨Nat.le_of_ble_eq_true rfl, Nat.le_of_ble_eq_true rfl⟩) hK hN hP hD (isC := [3, 4, 5]) rfl rfl 3 1 rfl rfl rfl rfl hl.1 rfl (Nat.le_of_ble_eq_true rfl) dX10_sea_18 ⟨Nat.zero_le _, Nat.zero_le _⟩) hP hD hS hA (isC := [3, 4, 5]) rfl rfl rfl (w' := (wlX10_sea cI cZ cO q_t q_t_text q_t_people q_t_draft q_t_acts q_t_ends q_t_wants q_t_circle q_t_game q_t_stranger q_t_slots q_t_judged q_t_acts_row q_t_people_held q_t_people_known q_t_people_worths t_acts_count t_acts_row t_people_count t_people_held t_people_known)) rfl (fun H locs hP hD hS => ?_)
    refine lv_if_ne (tgt := 27) hx hb dX10_sea_21 (by decide) (fun c4 => ?_) (fun c4 => ?_)
    · replace h := nh_f h c4
      refine lv_aload_n hx hb dX10_sea_27 rfl (lv_at hl 0 rfl) ?_
      refine va_get (D := D) (ci := 9) (v := .ref q_t_people) (C := RX10) (T := TX10) (N := 11) hx hb hts nhu_X10 hown hK hP 0 rfl rfl 1 (by decide) (hts _ nhw_215) (fun _ h9 => h9) rfl dX10_sea_28 ?_
      refine va_get (D := D) (ci := 1) (v := .ref q_t_people_held) (C := RX1) (T := TX1) (N := 4) hx hb hts nhu_X1 hown hK hP 3 rfl rfl 1 (by decide) (hts _ nhw_207) (fun _ h9 => h9) rfl dX10_sea_31 ?_
      refine lv_iload_n hx hb dX10_sea_34 rfl (lv_at hl 1 rfl) ?_
      obtain ⟨z5, h⟩ := nh_chk_some h
      refine va_iald hx hb hK hP 4 0 rfl rfl (nh_in_in z5) dX10_sea_35 ?_
      refine lv_topi (fun y_6 ey_6 => ?_)
      replace h := nh_to h ey_6
      refine lv_istore_n (lv' := [(2, .int y_6), (0, .ref q_t), (1, .int i1)]) hx hb dX10_sea_36 rfl hl (by decide) rfl (fun ls hl => ?_)
      refine lv_aload_n hx hb dX10_sea_37 rfl (lv_at hl 1 rfl) ?_
      refine va_get (D := D) (ci := 9) (v := .ref q_t_people) (C := RX10) (T := TX10) (N := 11) hx hb hts nhu_X10 hown hK hP 0 rfl rfl 1 (by decide) (hts _ nhw_215) (fun _ h9 => h9) rfl dX10_sea_38 ?_
      refine va_get (D := D) (ci := 1) (v := .ref q_t_people_held) (C := RX1) (T := TX1) (N := 4) hx hb hts nhu_X1 hown hK hP 3 rfl rfl 1 (by decide) (hts _ nhw_207) (fun _ h9 => h9) rfl dX10_sea_41 ?_
      refine lv_iload_n hx hb dX10_sea_44 rfl (lv_at hl 2 rfl) ?_
      refine lv_bipush (v := (-9)) hx hb dX10_sea_45 (by decide) ?_
      obtain ⟨z7, h⟩ := nh_chk_some h
      refine va_iast hx hb hK hP hD hS 4 0 rfl rfl (nh_in_in z7) dX10_sea_47 (fun H locs hP hD hS => ?_)
      obtain ⟨t_people_held_8, et_people_held_8⟩ : ∃ y : Nat → Int32, y = upd t_people_held (Int32.toNatClampNeg i1) (-9) := ⟨_, rfl⟩
      replace h := nh_to h et_people_held_8
      have hP : va_P D vwCl (wlX10_sea cI cZ cO q_t q_t_text q_t_people q_t_draft q_t_acts q_t_ends q_t_wants q_t_circle q_t_game q_t_stranger q_t_slots q_t_judged q_t_acts_row q_t_people_held q_t_people_known q_t_people_worths t_acts_count t_acts_row t_people_count t_people_held_8 t_people_known) H := by rw [et_people_held_8]; exact hP
      have hD : va_D A (wlX10_sea cI cZ cO q_t q_t_text q_t_people q_t_draft q_t_acts q_t_ends q_t_wants q_t_circle q_t_game q_t_stranger q_t_slots q_t_judged q_t_acts_row q_t_people_held q_t_people_known q_t_people_worths t_acts_count t_acts_row t_people_count t_people_held_8 t_people_known) := by rw [et_people_held_8]; exact hD
      refine lv_aload_n hx hb dX10_sea_48 rfl (lv_at hl 1 rfl) ?_
      refine va_get (D := D) (ci := 9) (v := .ref q_t_acts) (C := RX10) (T := TX10) (N := 11) hx hb hts nhu_X10 hown hK hP 0 rfl rfl 3 (by decide) (hts _ nhw_220) (fun _ h9 => h9) rfl dX10_sea_49 ?_
      refine lv_iload_n hx hb dX10_sea_52 rfl (lv_at hl 2 rfl) ?_
      refine lv_iload_n hx hb dX10_sea_53 rfl (lv_at hl 0 rfl) ?_
      obtain ⟨t_acts_count_9, t_acts_row_10, hc11, h⟩ := nh_b2_some h
      refine nh_gov (nh_V (As := [.int i1, .int y_6]) (rest := []) ⟨hx, hb, hml, hown, hts⟩ (kX0_addSea  l D cI cZ cO H.size q_t_acts q_t_acts_row t_acts_count t_acts_row i1 y_6 t_acts_count_9 t_acts_row_10 hc11) (cwV 2 hts (nh_gV nhw_560 nhw_317 nhw_673 nhw_302 nhw_19) rfl rfl rfl (by decide +kernel) ⟨Nat.le_of_ble_eq_true rfl, Nat.le_of_ble_eq_true rfl⟩) hK hN hP hD (isC := [1, 2]) rfl rfl 1 0 rfl rfl rfl rfl hl.1 rfl (Nat.le_of_ble_eq_true rfl) dX10_sea_54 ⟨Nat.zero_le _, Nat.zero_le _⟩) hP hD hS hA (isC := [1, 2]) rfl rfl rfl (w' := (wlX10_sea cI cZ cO q_t q_t_text q_t_people q_t_draft q_t_acts q_t_ends q_t_wants q_t_circle q_t_game q_t_stranger q_t_slots q_t_judged q_t_acts_row q_t_people_held q_t_people_known q_t_people_worths t_acts_count_9 t_acts_row_10 t_people_count t_people_held_8 t_people_known)) rfl (fun H locs hP hD hS => ?_)
      refine lv_iload_n hx hb dX10_sea_57 rfl (lv_at hl 0 rfl) ?_
      obtain ⟨g0, g1, g2, g3⟩ := nh_i4 h
      exact nh_ri hx hb hr hlocks g0 (by rw [← g1, ← g2, ← g3]; exact hP) hS dX10_sea_58
    · replace h := nh_t h c4
      refine lv_bipush (v := (-3)) hx hb dX10_sea_24 (by decide) ?_
      obtain ⟨g0, g1, g2, g3⟩ := nh_i4 h
      exact nh_ri hx hb hr hlocks g0 (by rw [← g1, ← g2, ← g3]; exact hP) hS dX10_sea_26
  · replace h := nh_t h c1
    refine lv_iconst (v := (-1)) hx hb dX10_sea_11 (by decide) ?_
    obtain ⟨g0, g1, g2, g3⟩ := nh_i4 h
    exact nh_ri hx hb hr hlocks g0 (by rw [← g1, ← g2, ← g3]; exact hP) hS dX10_sea_12
abbrev wlX10_undo (cI cZ cO : ClassId) (q_t q_t_text q_t_people q_t_draft q_t_acts q_t_ends q_t_wants q_t_circle q_t_game q_t_stranger q_t_slots q_t_judged q_t_acts_row q_t_people_held q_t_people_known q_t_people_worths : Nat) (t_acts_count : Int32) (t_acts_row : Nat → Int32) (t_people_count : Int32) (t_people_held : Nat → Int32) (t_people_known : Nat → Int32) : va_W := [(q_t, .inr (9, [.ref q_t_text, .ref q_t_people, .ref q_t_draft, .ref q_t_acts, .ref q_t_ends, .ref q_t_wants, .ref q_t_circle, .ref q_t_game, .ref q_t_stranger, .ref q_t_slots, .ref q_t_judged])), (q_t_acts, .inr (0, [.int t_acts_count, .ref q_t_acts_row])), (q_t_acts_row, .inl (cI, 16, .inl t_acts_row)), (q_t_people, .inr (1, [.int t_people_count, .ref q_t_people_held, .ref q_t_people_known, .ref q_t_people_worths])), (q_t_people_held, .inl (cI, 4, .inl t_people_held)), (q_t_people_known, .inl (cI, 4, .inl t_people_known))]
def fX10_undo (t_acts_count : Int32) (t_acts_row : Nat → Int32) (t_people_count : Int32) (t_people_held : Nat → Int32) (t_people_known : Nat → Int32) : Option (Int32 × Int32 × (Nat → Int32) × (Nat → Int32)) :=
  (if t_acts_count = 0 then some ((-3), t_acts_count, t_people_held, t_people_known)
 else nh_b3 (fX0_undoLast t_acts_count t_acts_row t_people_count t_people_held t_people_known) (fun t_acts_count_2 t_people_held_3 t_people_known_4 => some (t_acts_count_2, t_acts_count_2, t_people_held_3, t_people_known_4)))
set_option maxHeartbeats 4000000 in
set_option maxRecDepth 100000 in
theorem kX10_undo (l : Launch) (D : va_G) (cI cZ cO : ClassId) (sz : Nat) (q_t q_t_text q_t_people q_t_draft q_t_acts q_t_ends q_t_wants q_t_circle q_t_game q_t_stranger q_t_slots q_t_judged q_t_acts_row q_t_people_held q_t_people_known q_t_people_worths : Nat) (t_acts_count : Int32) (t_acts_row : Nat → Int32) (t_people_count : Int32) (t_people_held : Nat → Int32) (t_people_known : Nat → Int32)  (o_r : Int32) (o_t_acts_count : Int32) (o_t_people_held : Nat → Int32) (o_t_people_known : Nat → Int32) (h : fX10_undo t_acts_count t_acts_row t_people_count t_people_held t_people_known = some (o_r, o_t_acts_count, o_t_people_held, o_t_people_known)) : Met l yX10_undo (nh_w (.code yX10_undo cX10_undo 1 (some .int))) (nh_rm 4) (nh_Pc D cI cZ cO (wlX10_undo cI cZ cO q_t q_t_text q_t_people q_t_draft q_t_acts q_t_ends q_t_wants q_t_circle q_t_game q_t_stranger q_t_slots q_t_judged q_t_acts_row q_t_people_held q_t_people_known q_t_people_worths t_acts_count t_acts_row t_people_count t_people_held t_people_known) [.ref q_t] sz) ((nh_Qi D (wlX10_undo cI cZ cO q_t q_t_text q_t_people q_t_draft q_t_acts q_t_ends q_t_wants q_t_circle q_t_game q_t_stranger q_t_slots q_t_judged q_t_acts_row q_t_people_held q_t_people_known q_t_people_worths o_t_acts_count t_acts_row t_people_count o_t_people_held o_t_people_known) o_r) (va_A (wlX10_undo cI cZ cO q_t q_t_text q_t_people q_t_draft q_t_acts q_t_ends q_t_wants q_t_circle q_t_game q_t_stranger q_t_slots q_t_judged q_t_acts_row q_t_people_held q_t_people_known q_t_people_worths t_acts_count t_acts_row t_people_count t_people_held t_people_known) sz)) 0 0 (va_A (wlX10_undo cI cZ cO q_t q_t_text q_t_people q_t_draft q_t_acts q_t_ends q_t_wants q_t_circle q_t_game q_t_stranger q_t_slots q_t_judged q_t_acts_row q_t_people_held q_t_people_known q_t_people_worths t_acts_count t_acts_row t_people_count t_people_held t_people_known) sz) := by
  unfold fX10_undo at h
  refine nh_met (cc := cX10_undo) (maxL := 1) (ret := (some .int)) (nh_Qi D (wlX10_undo cI cZ cO q_t q_t_text q_t_people q_t_draft q_t_acts q_t_ends q_t_wants q_t_circle q_t_game q_t_stranger q_t_slots q_t_judged q_t_acts_row q_t_people_held q_t_people_known q_t_people_worths o_t_acts_count t_acts_row t_people_count o_t_people_held o_t_people_known) o_r) (by decide) rfl (Nat.le_of_ble_eq_true rfl) ?_
  intro p e s m args below meth c A H locs ls hx hb hml hr hown hts hlocks hinit hP hK hN hD hA hS hl
  have hl : lv_has ls 1 [(0, .ref q_t)] := hl
  have hts : ∀ w ∈ nh_words, w.before args s = true := fun w h => hts w (List.mem_cons_of_mem _ h)
  refine lv_aload_n hx hb dX10_undo_0 rfl (lv_at hl 0 rfl) ?_
  refine va_get (D := D) (ci := 9) (v := .ref q_t_acts) (C := RX10) (T := TX10) (N := 11) hx hb hts nhu_X10 hown hK hP 0 rfl rfl 3 (by decide) (hts _ nhw_220) (fun _ h9 => h9) rfl dX10_undo_1 ?_
  refine va_get (D := D) (ci := 0) (v := .int t_acts_count) (C := RX0) (T := TX0) (N := 2) hx hb hts nhu_X0 hown hK hP 1 rfl rfl 0 (by decide) (hts _ nhw_229) (fun _ h9 => h9) rfl dX10_undo_4 ?_
  refine lv_if_ne (tgt := 13) hx hb dX10_undo_7 (by decide) (fun c1 => ?_) (fun c1 => ?_)
  · replace h := nh_f h c1
    refine lv_aload_n hx hb dX10_undo_13 rfl (lv_at hl 0 rfl) ?_
    refine va_get (D := D) (ci := 9) (v := .ref q_t_acts) (C := RX10) (T := TX10) (N := 11) hx hb hts nhu_X10 hown hK hP 0 rfl rfl 3 (by decide) (hts _ nhw_220) (fun _ h9 => h9) rfl dX10_undo_14 ?_
    refine lv_aload_n hx hb dX10_undo_17 rfl (lv_at hl 0 rfl) ?_
    refine va_get (D := D) (ci := 9) (v := .ref q_t_people) (C := RX10) (T := TX10) (N := 11) hx hb hts nhu_X10 hown hK hP 0 rfl rfl 1 (by decide) (hts _ nhw_215) (fun _ h9 => h9) rfl dX10_undo_18 ?_
    obtain ⟨t_acts_count_2, t_people_held_3, t_people_known_4, hc5, h⟩ := nh_b3_some h
    refine nh_gov (nh_V (As := [.ref q_t_people]) (rest := []) ⟨hx, hb, hml, hown, hts⟩ (kX0_undoLast  l D cI cZ cO H.size q_t_acts q_t_people q_t_acts_row q_t_people_held q_t_people_known q_t_people_worths t_acts_count t_acts_row t_people_count t_people_held t_people_known t_acts_count_2 t_people_held_3 t_people_known_4 hc5) (cwV 1 hts (nh_gV nhw_561 nhw_319 nhw_674 nhw_302 nhw_21) rfl rfl rfl (by decide +kernel) ⟨Nat.le_of_ble_eq_true rfl, Nat.le_of_ble_eq_true rfl⟩) hK hN hP hD (isC := [1, 2, 3, 4, 5]) rfl rfl 1 0 rfl rfl rfl rfl hl.1 rfl (Nat.le_of_ble_eq_true rfl) dX10_undo_21 ⟨Nat.zero_le _, Nat.zero_le _⟩) hP hD hS hA (isC := [1, 2, 3, 4, 5]) rfl rfl rfl (w' := (wlX10_undo cI cZ cO q_t q_t_text q_t_people q_t_draft q_t_acts q_t_ends q_t_wants q_t_circle q_t_game q_t_stranger q_t_slots q_t_judged q_t_acts_row q_t_people_held q_t_people_known q_t_people_worths t_acts_count_2 t_acts_row t_people_count t_people_held_3 t_people_known_4)) rfl (fun H locs hP hD hS => ?_)
    refine lv_aload_n hx hb dX10_undo_24 rfl (lv_at hl 0 rfl) ?_
    refine va_get (D := D) (ci := 9) (v := .ref q_t_acts) (C := RX10) (T := TX10) (N := 11) hx hb hts nhu_X10 hown hK hP 0 rfl rfl 3 (by decide) (hts _ nhw_220) (fun _ h9 => h9) rfl dX10_undo_25 ?_
    refine va_get (D := D) (ci := 0) (v := .int t_acts_count_2) (C := RX0) (T := TX0) (N := 2) hx hb hts nhu_X0 hown hK hP 1 rfl rfl 0 (by decide) (hts _ nhw_229) (fun _ h9 => h9) rfl dX10_undo_28 ?_
    obtain ⟨g0, g1, g2, g3⟩ := nh_i4 h
    exact nh_ri hx hb hr hlocks g0 (by rw [← g1, ← g2, ← g3]; exact hP) hS dX10_undo_31
  · replace h := nh_t h c1
    refine lv_bipush (v := (-3)) hx hb dX10_undo_10 (by decide) ?_
    obtain ⟨g0, g1, g2, g3⟩ := nh_i4 h
    exact nh_ri hx hb hr hlocks g0 (by rw [← g1, ← g2, ← g3]; exact hP) hS dX10_undo_12
abbrev wlX10_firstThatMayNotBe (cI cZ cO : ClassId) (q_t q_t_text q_t_people q_t_draft q_t_acts q_t_ends q_t_wants q_t_circle q_t_game q_t_stranger q_t_slots q_t_judged q_t_people_held q_t_people_known q_t_people_worths : Nat) (t_judged : Nat → Int32) (t_people_count : Int32) (t_people_held : Nat → Int32) (t_people_known : Nat → Int32) : va_W := [(q_t, .inr (9, [.ref q_t_text, .ref q_t_people, .ref q_t_draft, .ref q_t_acts, .ref q_t_ends, .ref q_t_wants, .ref q_t_circle, .ref q_t_game, .ref q_t_stranger, .ref q_t_slots, .ref q_t_judged])), (q_t_judged, .inl (cI, 4, .inl t_judged)), (q_t_people, .inr (1, [.int t_people_count, .ref q_t_people_held, .ref q_t_people_known, .ref q_t_people_worths])), (q_t_people_held, .inl (cI, 4, .inl t_people_held)), (q_t_people_known, .inl (cI, 4, .inl t_people_known))]
def fX10_firstThatMayNotBe_B2 (t_judged : Nat → Int32) (t_people_count : Int32) (i1 : Int32) (k2 : Int32 → (Nat → Int32) → (Nat → Int32) → Option (Int32 × (Nat → Int32) × (Nat → Int32))) (r2 : Int32 → (Nat → Int32) → (Nat → Int32) → Option (Int32 × (Nat → Int32) × (Nat → Int32))) (x2_1 : Int32) (t_people_held_2 : Nat → Int32) (t_people_known_3 : Nat → Int32) : Option (Int32 × (Nat → Int32) × (Nat → Int32)) :=
  (if i1 ≤ x2_1 then k2 x2_1 t_people_held_2 t_people_known_3
 else nh_chk (nh_in x2_1 4) (nh_chk (nh_in x2_1 4) (nh_b1 (fX1_canSwap t_people_count t_people_held_2 t_people_known_3 ((t_judged (Int32.toNatClampNeg x2_1)) / 10) ((t_judged (Int32.toNatClampNeg x2_1)) - (t_judged (Int32.toNatClampNeg x2_1)) / 10 * 10)) (fun r_10 => (if r_10 = 0 then k2 x2_1 t_people_held_2 t_people_known_3
 else nh_chk (nh_in x2_1 4) (nh_chk (nh_in x2_1 4) (nh_b2 (fX1_swap t_people_count t_people_held_2 t_people_known_3 ((t_judged (Int32.toNatClampNeg x2_1)) / 10) ((t_judged (Int32.toNatClampNeg x2_1)) - (t_judged (Int32.toNatClampNeg x2_1)) / 10 * 10)) (fun t_people_held_15 t_people_known_16 => nh_let (α := Int32) (x2_1 + 1) (fun x2_18 => r2 x2_18 t_people_held_15 t_people_known_16)))))))))
def fX10_firstThatMayNotBe_L2 (t_judged : Nat → Int32) (t_people_count : Int32) (i1 : Int32) (k2 : Int32 → (Nat → Int32) → (Nat → Int32) → Option (Int32 × (Nat → Int32) × (Nat → Int32))) : Nat → Int32 → (Nat → Int32) → (Nat → Int32) → Option (Int32 × (Nat → Int32) × (Nat → Int32))
  | 0 => fun _ _ _ => none
  | n + 1 => fX10_firstThatMayNotBe_B2 t_judged t_people_count i1 k2 (fX10_firstThatMayNotBe_L2 t_judged t_people_count i1 k2 n)
def fX10_firstThatMayNotBe_B70 (t_judged : Nat → Int32) (t_people_count : Int32) (k70 : Int32 → (Nat → Int32) → (Nat → Int32) → Option (Int32 × (Nat → Int32) × (Nat → Int32))) (r70 : Int32 → (Nat → Int32) → (Nat → Int32) → Option (Int32 × (Nat → Int32) × (Nat → Int32))) (x3_20 : Int32) (t_people_held_21 : Nat → Int32) (t_people_known_22 : Nat → Int32) : Option (Int32 × (Nat → Int32) × (Nat → Int32)) :=
  (if x3_20 < 0 then k70 x3_20 t_people_held_21 t_people_known_22
 else nh_chk (nh_in x3_20 4) (nh_chk (nh_in x3_20 4) (nh_b2 (fX1_swapBack t_people_count t_people_held_21 t_people_known_22 ((t_judged (Int32.toNatClampNeg x3_20)) / 10) ((t_judged (Int32.toNatClampNeg x3_20)) - (t_judged (Int32.toNatClampNeg x3_20)) / 10 * 10)) (fun t_people_held_29 t_people_known_30 => nh_let (α := Int32) (x3_20 + (-1)) (fun x3_32 => r70 x3_32 t_people_held_29 t_people_known_30)))))
def fX10_firstThatMayNotBe_L70 (t_judged : Nat → Int32) (t_people_count : Int32) (k70 : Int32 → (Nat → Int32) → (Nat → Int32) → Option (Int32 × (Nat → Int32) × (Nat → Int32))) : Nat → Int32 → (Nat → Int32) → (Nat → Int32) → Option (Int32 × (Nat → Int32) × (Nat → Int32))
  | 0 => fun _ _ _ => none
  | n + 1 => fX10_firstThatMayNotBe_B70 t_judged t_people_count k70 (fX10_firstThatMayNotBe_L70 t_judged t_people_count k70 n)
def fX10_firstThatMayNotBe (F : Nat) (t_judged : Nat → Int32) (t_people_count : Int32) (t_people_held : Nat → Int32) (t_people_known : Nat → Int32) (i1 : Int32) : Option (Int32 × (Nat → Int32) × (Nat → Int32)) :=
  fX10_firstThatMayNotBe_L2 t_judged t_people_count i1 (fun x2_4 t_people_held_5 t_people_known_6 => nh_let (α := Int32) ((x2_4 - 1)) (fun y_19 => fX10_firstThatMayNotBe_L70 t_judged t_people_count (fun x3_23 t_people_held_24 t_people_known_25 => (if i1 ≤ x2_4 then some ((-9), t_people_held_24, t_people_known_25)
 else some (x2_4, t_people_held_24, t_people_known_25))) F y_19 t_people_held_5 t_people_known_6)) F 0 t_people_held t_people_known
set_option maxHeartbeats 4000000 in
set_option maxRecDepth 100000 in
theorem kX10_firstThatMayNotBe (F : Nat) (l : Launch) (D : va_G) (cI cZ cO : ClassId) (sz : Nat) (q_t q_t_text q_t_people q_t_draft q_t_acts q_t_ends q_t_wants q_t_circle q_t_game q_t_stranger q_t_slots q_t_judged q_t_people_held q_t_people_known q_t_people_worths : Nat) (t_judged : Nat → Int32) (t_people_count : Int32) (t_people_held : Nat → Int32) (t_people_known : Nat → Int32) (i1 : Int32) (o_r : Int32) (o_t_people_held : Nat → Int32) (o_t_people_known : Nat → Int32) (h : fX10_firstThatMayNotBe F t_judged t_people_count t_people_held t_people_known i1 = some (o_r, o_t_people_held, o_t_people_known)) : Met l yX10_firstThatMayNotBe (nh_w (.code yX10_firstThatMayNotBe cX10_firstThatMayNotBe 4 (some .int))) (nh_rm 3) (nh_Pc D cI cZ cO (wlX10_firstThatMayNotBe cI cZ cO q_t q_t_text q_t_people q_t_draft q_t_acts q_t_ends q_t_wants q_t_circle q_t_game q_t_stranger q_t_slots q_t_judged q_t_people_held q_t_people_known q_t_people_worths t_judged t_people_count t_people_held t_people_known) [.ref q_t, .int i1] sz) ((nh_Qi D (wlX10_firstThatMayNotBe cI cZ cO q_t q_t_text q_t_people q_t_draft q_t_acts q_t_ends q_t_wants q_t_circle q_t_game q_t_stranger q_t_slots q_t_judged q_t_people_held q_t_people_known q_t_people_worths t_judged t_people_count o_t_people_held o_t_people_known) o_r) (va_A (wlX10_firstThatMayNotBe cI cZ cO q_t q_t_text q_t_people q_t_draft q_t_acts q_t_ends q_t_wants q_t_circle q_t_game q_t_stranger q_t_slots q_t_judged q_t_people_held q_t_people_known q_t_people_worths t_judged t_people_count t_people_held t_people_known) sz)) 0 0 (va_A (wlX10_firstThatMayNotBe cI cZ cO q_t q_t_text q_t_people q_t_draft q_t_acts q_t_ends q_t_wants q_t_circle q_t_game q_t_stranger q_t_slots q_t_judged q_t_people_held q_t_people_known q_t_people_worths t_judged t_people_count t_people_held t_people_known) sz) := by
  unfold fX10_firstThatMayNotBe at h
  refine nh_met (cc := cX10_firstThatMayNotBe) (maxL := 4) (ret := (some .int)) (nh_Qi D (wlX10_firstThatMayNotBe cI cZ cO q_t q_t_text q_t_people q_t_draft q_t_acts q_t_ends q_t_wants q_t_circle q_t_game q_t_stranger q_t_slots q_t_judged q_t_people_held q_t_people_known q_t_people_worths t_judged t_people_count o_t_people_held o_t_people_known) o_r) (by decide) rfl (Nat.le_of_ble_eq_true rfl) ?_
  intro p e s m args below meth c A H locs ls hx hb hml hr hown hts hlocks hinit hP hK hN hD hA hS hl
  have hl : lv_has ls 4 [(0, .ref q_t), (1, .int i1)] := hl
  have hts : ∀ w ∈ nh_words, w.before args s = true := fun w h => hts w (List.mem_cons_of_mem _ h)
  refine lv_iconst (v := 0) hx hb dX10_firstThatMayNotBe_0 (by decide) ?_
  refine lv_istore_n (lv' := [(2, .int 0), (0, .ref q_t), (1, .int i1)]) hx hb dX10_firstThatMayNotBe_1 rfl hl (by decide) rfl (fun ls hl => ?_)
  have L2 : ∀ (k2 : Int32 → (Nat → Int32) → (Nat → Int32) → Option (Int32 × (Nat → Int32) × (Nat → Int32))), (∀ (x2_4 : Int32) (t_people_held_5 : Nat → Int32) (t_people_known_6 : Nat → Int32) (H : Heap) (locs : List Loc) (ls : Array Slot), va_P D vwCl (wlX10_firstThatMayNotBe cI cZ cO q_t q_t_text q_t_people q_t_draft q_t_acts q_t_ends q_t_wants q_t_circle q_t_game q_t_stranger q_t_slots q_t_judged q_t_people_held q_t_people_known q_t_people_worths t_judged t_people_count t_people_held_5 t_people_known_6) H → va_D A (wlX10_firstThatMayNotBe cI cZ cO q_t q_t_text q_t_people q_t_draft q_t_acts q_t_ends q_t_wants q_t_circle q_t_game q_t_stranger q_t_slots q_t_judged q_t_people_held q_t_people_known q_t_people_worths t_judged t_people_count t_people_held_5 t_people_known_6) → va_S A s.heap H locs → lv_has ls 4 [(0, .ref q_t), (1, .int i1), (2, .int x2_4)] → k2 x2_4 t_people_held_5 t_people_known_6 = some (o_r, o_t_people_held, o_t_people_known) → W p l e (nh_rm 3) s m args below meth c H locs 0 0 (MQ below ((nh_Qi D (wlX10_firstThatMayNotBe cI cZ cO q_t q_t_text q_t_people q_t_draft q_t_acts q_t_ends q_t_wants q_t_circle q_t_game q_t_stranger q_t_slots q_t_judged q_t_people_held q_t_people_known q_t_people_worths t_judged t_people_count o_t_people_held o_t_people_known) o_r) A) args s 0 0 A) (F0 m 66 ls [])) → ∀ (n : Nat) (x2_1 : Int32) (t_people_held_2 : Nat → Int32) (t_people_known_3 : Nat → Int32) (H : Heap) (locs : List Loc) (ls : Array Slot), va_P D vwCl (wlX10_firstThatMayNotBe cI cZ cO q_t q_t_text q_t_people q_t_draft q_t_acts q_t_ends q_t_wants q_t_circle q_t_game q_t_stranger q_t_slots q_t_judged q_t_people_held q_t_people_known q_t_people_worths t_judged t_people_count t_people_held_2 t_people_known_3) H → va_D A (wlX10_firstThatMayNotBe cI cZ cO q_t q_t_text q_t_people q_t_draft q_t_acts q_t_ends q_t_wants q_t_circle q_t_game q_t_stranger q_t_slots q_t_judged q_t_people_held q_t_people_known q_t_people_worths t_judged t_people_count t_people_held_2 t_people_known_3) → va_S A s.heap H locs → lv_has ls 4 [(0, .ref q_t), (1, .int i1), (2, .int x2_1)] → fX10_firstThatMayNotBe_L2 t_judged t_people_count i1 k2 n x2_1 t_people_held_2 t_people_known_3 = some (o_r, o_t_people_held, o_t_people_known) → W p l e (nh_rm 3) s m args below meth c H locs 0 0 (MQ below ((nh_Qi D (wlX10_firstThatMayNotBe cI cZ cO q_t q_t_text q_t_people q_t_draft q_t_acts q_t_ends q_t_wants q_t_circle q_t_game q_t_stranger q_t_slots q_t_judged q_t_people_held q_t_people_known q_t_people_worths t_judged t_people_count o_t_people_held o_t_people_known) o_r) A) args s 0 0 A) (F0 m 2 ls []) := by
    intro k2 hk2 n
    induction n with
    | zero => intro x2_1 t_people_held_2 t_people_known_3 H locs ls hP hD hS hl h; exact (nh_none h).elim
    | succ n2 ih2 =>
      intro x2_1 t_people_held_2 t_people_known_3 H locs ls hP hD hS hl h
      replace h : fX10_firstThatMayNotBe_B2 t_judged t_people_count i1 k2 (fX10_firstThatMayNotBe_L2 t_judged t_people_count i1 k2 n2) x2_1 t_people_held_2 t_people_known_3 = some (o_r, o_t_people_held, o_t_people_known) := h
      unfold fX10_firstThatMayNotBe_B2 at h
      refine lv_iload_n hx hb dX10_firstThatMayNotBe_2 rfl (lv_at hl 2 rfl) ?_
      refine lv_iload_n hx hb dX10_firstThatMayNotBe_3 rfl (lv_at hl 1 rfl) ?_
      refine lv_icmp_ge (tgt := 66) hx hb dX10_firstThatMayNotBe_4 (by decide) (fun c7 => ?_) (fun c7 => ?_)
      · replace h := nh_t h c7
        exact hk2 x2_1 t_people_held_2 t_people_known_3 H locs ls hP hD hS (lv_sub hl [0, 1, 2] rfl) h
      · replace h := nh_f h c7
        refine lv_aload_n hx hb dX10_firstThatMayNotBe_7 rfl (lv_at hl 0 rfl) ?_
        refine va_get (D := D) (ci := 9) (v := .ref q_t_people) (C := RX10) (T := TX10) (N := 11) hx hb hts nhu_X10 hown hK hP 0 rfl rfl 1 (by decide) (hts _ nhw_215) (fun _ h9 => h9) rfl dX10_firstThatMayNotBe_8 ?_
        refine lv_aload_n hx hb dX10_firstThatMayNotBe_11 rfl (lv_at hl 0 rfl) ?_
        refine va_get (D := D) (ci := 9) (v := .ref q_t_judged) (C := RX10) (T := TX10) (N := 11) hx hb hts nhu_X10 hown hK hP 0 rfl rfl 10 (by decide) (hts _ nhw_227) (fun _ h9 => h9) rfl dX10_firstThatMayNotBe_12 ?_
        refine lv_iload_n hx hb dX10_firstThatMayNotBe_15 rfl (lv_at hl 2 rfl) ?_
        obtain ⟨z8, h⟩ := nh_chk_some h
        refine va_iald hx hb hK hP 1 0 rfl rfl (nh_in_in z8) dX10_firstThatMayNotBe_16 ?_
        refine lv_bipush (v := 10) hx hb dX10_firstThatMayNotBe_17 (by decide) ?_
        refine lv_idiv hx hb dX10_firstThatMayNotBe_19 (by decide) ?_
        refine lv_aload_n hx hb dX10_firstThatMayNotBe_20 rfl (lv_at hl 0 rfl) ?_
        refine va_get (D := D) (ci := 9) (v := .ref q_t_judged) (C := RX10) (T := TX10) (N := 11) hx hb hts nhu_X10 hown hK hP 0 rfl rfl 10 (by decide) (hts _ nhw_227) (fun _ h9 => h9) rfl dX10_firstThatMayNotBe_21 ?_
        refine lv_iload_n hx hb dX10_firstThatMayNotBe_24 rfl (lv_at hl 2 rfl) ?_
        obtain ⟨z9, h⟩ := nh_chk_some h
        refine va_iald hx hb hK hP 1 0 rfl rfl (nh_in_in z9) dX10_firstThatMayNotBe_25 ?_
        refine lv_bipush (v := 10) hx hb dX10_firstThatMayNotBe_26 (by decide) ?_
        refine lv_irem hx hb dX10_firstThatMayNotBe_28 (by decide) ?_
        obtain ⟨r_10, hc11, h⟩ := nh_b1_some h
        refine nh_goi (nh_V (As := [.int ((t_judged (Int32.toNatClampNeg x2_1)) / 10), .int ((t_judged (Int32.toNatClampNeg x2_1)) - (t_judged (Int32.toNatClampNeg x2_1)) / 10 * 10)]) (rest := []) ⟨hx, hb, hml, hown, hts⟩ (kX1_canSwap  l D cI cZ cO H.size q_t_people q_t_people_held q_t_people_known q_t_people_worths t_people_count t_people_held_2 t_people_known_3 ((t_judged (Int32.toNatClampNeg x2_1)) / 10) ((t_judged (Int32.toNatClampNeg x2_1)) - (t_judged (Int32.toNatClampNeg x2_1)) / 10 * 10) r_10 hc11) (cwV 2 hts (nh_gV nhw_556 nhw_415 nhw_677 nhw_303 nhw_124) rfl rfl rfl (by decide +kernel) ⟨Nat.le_of_ble_eq_true rfl, Nat.le_of_ble_eq_true rfl⟩) hK hN hP hD (isC := [2, 3, 4]) rfl rfl 2 1 rfl rfl rfl rfl hl.1 rfl (Nat.le_of_ble_eq_true rfl) dX10_firstThatMayNotBe_29 ⟨Nat.zero_le _, Nat.zero_le _⟩) hP hD hS hA (isC := [2, 3, 4]) rfl rfl rfl (w' := (wlX10_firstThatMayNotBe cI cZ cO q_t q_t_text q_t_people q_t_draft q_t_acts q_t_ends q_t_wants q_t_circle q_t_game q_t_stranger q_t_slots q_t_judged q_t_people_held q_t_people_known q_t_people_worths t_judged t_people_count t_people_held_2 t_people_known_3)) rfl (fun H locs hP hD hS => ?_)
        refine lv_if_eq (tgt := 66) hx hb dX10_firstThatMayNotBe_32 (by decide) (fun c12 => ?_) (fun c12 => ?_)
        · replace h := nh_t h c12
          exact hk2 x2_1 t_people_held_2 t_people_known_3 H locs ls hP hD hS (lv_sub hl [0, 1, 2] rfl) h
        · replace h := nh_f h c12
          refine lv_aload_n hx hb dX10_firstThatMayNotBe_35 rfl (lv_at hl 0 rfl) ?_
          refine va_get (D := D) (ci := 9) (v := .ref q_t_people) (C := RX10) (T := TX10) (N := 11) hx hb hts nhu_X10 hown hK hP 0 rfl rfl 1 (by decide) (hts _ nhw_215) (fun _ h9 => h9) rfl dX10_firstThatMayNotBe_36 ?_
          refine lv_aload_n hx hb dX10_firstThatMayNotBe_39 rfl (lv_at hl 0 rfl) ?_
          refine va_get (D := D) (ci := 9) (v := .ref q_t_judged) (C := RX10) (T := TX10) (N := 11) hx hb hts nhu_X10 hown hK hP 0 rfl rfl 10 (by decide) (hts _ nhw_227) (fun _ h9 => h9) rfl dX10_firstThatMayNotBe_40 ?_
          refine lv_iload_n hx hb dX10_firstThatMayNotBe_43 rfl (lv_at hl 2 rfl) ?_
          obtain ⟨z13, h⟩ := nh_chk_some h
          refine va_iald hx hb hK hP 1 0 rfl rfl (nh_in_in z13) dX10_firstThatMayNotBe_44 ?_
          refine lv_bipush (v := 10) hx hb dX10_firstThatMayNotBe_45 (by decide) ?_
          refine lv_idiv hx hb dX10_firstThatMayNotBe_47 (by decide) ?_
          refine lv_aload_n hx hb dX10_firstThatMayNotBe_48 rfl (lv_at hl 0 rfl) ?_
          refine va_get (D := D) (ci := 9) (v := .ref q_t_judged) (C := RX10) (T := TX10) (N := 11) hx hb hts nhu_X10 hown hK hP 0 rfl rfl 10 (by decide) (hts _ nhw_227) (fun _ h9 => h9) rfl dX10_firstThatMayNotBe_49 ?_
          refine lv_iload_n hx hb dX10_firstThatMayNotBe_52 rfl (lv_at hl 2 rfl) ?_
          obtain ⟨z14, h⟩ := nh_chk_some h
          refine va_iald hx hb hK hP 1 0 rfl rfl (nh_in_in z14) dX10_firstThatMayNotBe_53 ?_
          refine lv_bipush (v := 10) hx hb dX10_firstThatMayNotBe_54 (by decide) ?_
          refine lv_irem hx hb dX10_firstThatMayNotBe_56 (by decide) ?_
          obtain ⟨t_people_held_15, t_people_known_16, hc17, h⟩ := nh_b2_some h
          refine nh_gov (nh_V (As := [.int ((t_judged (Int32.toNatClampNeg x2_1)) / 10), .int ((t_judged (Int32.toNatClampNeg x2_1)) - (t_judged (Int32.toNatClampNeg x2_1)) / 10 * 10)]) (rest := []) ⟨hx, hb, hml, hown, hts⟩ (kX1_swap  l D cI cZ cO H.size q_t_people q_t_people_held q_t_people_known q_t_people_worths t_people_count t_people_held_2 t_people_known_3 ((t_judged (Int32.toNatClampNeg x2_1)) / 10) ((t_judged (Int32.toNatClampNeg x2_1)) - (t_judged (Int32.toNatClampNeg x2_1)) / 10 * 10) t_people_held_15 t_people_known_16 hc17) (cwV 2 hts (nh_gV nhw_557 nhw_425 nhw_686 nhw_303 nhw_135) rfl rfl rfl (by decide +kernel) ⟨Nat.le_of_ble_eq_true rfl, Nat.le_of_ble_eq_true rfl⟩) hK hN hP hD (isC := [2, 3, 4]) rfl rfl 2 1 rfl rfl rfl rfl hl.1 rfl (Nat.le_of_ble_eq_true rfl) dX10_firstThatMayNotBe_57 ⟨Nat.zero_le _, Nat.zero_le _⟩) hP hD hS hA (isC := [2, 3, 4]) rfl rfl rfl (w' := (wlX10_firstThatMayNotBe cI cZ cO q_t q_t_text q_t_people q_t_draft q_t_acts q_t_ends q_t_wants q_t_circle q_t_game q_t_stranger q_t_slots q_t_judged q_t_people_held q_t_people_known q_t_people_worths t_judged t_people_count t_people_held_15 t_people_known_16)) rfl (fun H locs hP hD hS => ?_)
          obtain ⟨x2_18, ex2_18⟩ : ∃ y : Int32, y = x2_1 + 1 := ⟨_, rfl⟩
          replace h := nh_to h ex2_18
          refine lv_iinc (v := x2_18) (lv' := [(2, .int x2_18), (0, .ref q_t), (1, .int i1)]) hx hb dX10_firstThatMayNotBe_60 hl (k := 2) rfl (by rw [ex2_18]; rfl) (by decide) rfl (fun ls hl => ?_)
          refine lv_goto (tgt := 2) hx hb dX10_firstThatMayNotBe_63 (by decide) ?_
          exact ih2 x2_18 t_people_held_15 t_people_known_16 H locs ls hP hD hS (lv_sub hl [1, 2, 0] rfl) h
  refine L2 _ (fun x2_4 t_people_held_5 t_people_known_6 H locs ls hP hD hS hl h => ?_) _ 0 t_people_held t_people_known H locs ls hP hD hS (lv_sub hl [1, 2, 0] rfl) h
  refine lv_iload_n hx hb dX10_firstThatMayNotBe_66 rfl (lv_at hl 2 rfl) ?_
  refine lv_iconst (v := 1) hx hb dX10_firstThatMayNotBe_67 (by decide) ?_
  refine lv_isub hx hb dX10_firstThatMayNotBe_68 ?_
  refine lv_topi (fun y_19 ey_19 => ?_)
  replace h := nh_to h ey_19
  refine lv_istore_n (lv' := [(3, .int y_19), (0, .ref q_t), (1, .int i1), (2, .int x2_4)]) hx hb dX10_firstThatMayNotBe_69 rfl hl (by decide) rfl (fun ls hl => ?_)
  have L70 : ∀ (k70 : Int32 → (Nat → Int32) → (Nat → Int32) → Option (Int32 × (Nat → Int32) × (Nat → Int32))), (∀ (x3_23 : Int32) (t_people_held_24 : Nat → Int32) (t_people_known_25 : Nat → Int32) (H : Heap) (locs : List Loc) (ls : Array Slot), va_P D vwCl (wlX10_firstThatMayNotBe cI cZ cO q_t q_t_text q_t_people q_t_draft q_t_acts q_t_ends q_t_wants q_t_circle q_t_game q_t_stranger q_t_slots q_t_judged q_t_people_held q_t_people_known q_t_people_worths t_judged t_people_count t_people_held_24 t_people_known_25) H → va_D A (wlX10_firstThatMayNotBe cI cZ cO q_t q_t_text q_t_people q_t_draft q_t_acts q_t_ends q_t_wants q_t_circle q_t_game q_t_stranger q_t_slots q_t_judged q_t_people_held q_t_people_known q_t_people_worths t_judged t_people_count t_people_held_24 t_people_known_25) → va_S A s.heap H locs → lv_has ls 4 [(0, .ref q_t), (1, .int i1), (2, .int x2_4), (3, .int x3_23)] → k70 x3_23 t_people_held_24 t_people_known_25 = some (o_r, o_t_people_held, o_t_people_known) → W p l e (nh_rm 3) s m args below meth c H locs 0 0 (MQ below ((nh_Qi D (wlX10_firstThatMayNotBe cI cZ cO q_t q_t_text q_t_people q_t_draft q_t_acts q_t_ends q_t_wants q_t_circle q_t_game q_t_stranger q_t_slots q_t_judged q_t_people_held q_t_people_known q_t_people_worths t_judged t_people_count o_t_people_held o_t_people_known) o_r) A) args s 0 0 A) (F0 m 105 ls [])) → ∀ (n : Nat) (x3_20 : Int32) (t_people_held_21 : Nat → Int32) (t_people_known_22 : Nat → Int32) (H : Heap) (locs : List Loc) (ls : Array Slot), va_P D vwCl (wlX10_firstThatMayNotBe cI cZ cO q_t q_t_text q_t_people q_t_draft q_t_acts q_t_ends q_t_wants q_t_circle q_t_game q_t_stranger q_t_slots q_t_judged q_t_people_held q_t_people_known q_t_people_worths t_judged t_people_count t_people_held_21 t_people_known_22) H → va_D A (wlX10_firstThatMayNotBe cI cZ cO q_t q_t_text q_t_people q_t_draft q_t_acts q_t_ends q_t_wants q_t_circle q_t_game q_t_stranger q_t_slots q_t_judged q_t_people_held q_t_people_known q_t_people_worths t_judged t_people_count t_people_held_21 t_people_known_22) → va_S A s.heap H locs → lv_has ls 4 [(0, .ref q_t), (1, .int i1), (2, .int x2_4), (3, .int x3_20)] → fX10_firstThatMayNotBe_L70 t_judged t_people_count k70 n x3_20 t_people_held_21 t_people_known_22 = some (o_r, o_t_people_held, o_t_people_known) → W p l e (nh_rm 3) s m args below meth c H locs 0 0 (MQ below ((nh_Qi D (wlX10_firstThatMayNotBe cI cZ cO q_t q_t_text q_t_people q_t_draft q_t_acts q_t_ends q_t_wants q_t_circle q_t_game q_t_stranger q_t_slots q_t_judged q_t_people_held q_t_people_known q_t_people_worths t_judged t_people_count o_t_people_held o_t_people_known) o_r) A) args s 0 0 A) (F0 m 70 ls []) := by
    intro k70 hk70 n
    induction n with
    | zero => intro x3_20 t_people_held_21 t_people_known_22 H locs ls hP hD hS hl h; exact (nh_none h).elim
    | succ n70 ih70 =>
      intro x3_20 t_people_held_21 t_people_known_22 H locs ls hP hD hS hl h
      replace h : fX10_firstThatMayNotBe_B70 t_judged t_people_count k70 (fX10_firstThatMayNotBe_L70 t_judged t_people_count k70 n70) x3_20 t_people_held_21 t_people_known_22 = some (o_r, o_t_people_held, o_t_people_known) := h
      unfold fX10_firstThatMayNotBe_B70 at h
      refine lv_iload_n hx hb dX10_firstThatMayNotBe_70 rfl (lv_at hl 3 rfl) ?_
      refine lv_if_lt (tgt := 105) hx hb dX10_firstThatMayNotBe_71 (by decide) (fun c26 => ?_) (fun c26 => ?_)
      · replace h := nh_t h c26
        exact hk70 x3_20 t_people_held_21 t_people_known_22 H locs ls hP hD hS (lv_sub hl [0, 1, 2, 3] rfl) h
      · replace h := nh_f h c26
        refine lv_aload_n hx hb dX10_firstThatMayNotBe_74 rfl (lv_at hl 0 rfl) ?_
        refine va_get (D := D) (ci := 9) (v := .ref q_t_people) (C := RX10) (T := TX10) (N := 11) hx hb hts nhu_X10 hown hK hP 0 rfl rfl 1 (by decide) (hts _ nhw_215) (fun _ h9 => h9) rfl dX10_firstThatMayNotBe_75 ?_
        refine lv_aload_n hx hb dX10_firstThatMayNotBe_78 rfl (lv_at hl 0 rfl) ?_
        refine va_get (D := D) (ci := 9) (v := .ref q_t_judged) (C := RX10) (T := TX10) (N := 11) hx hb hts nhu_X10 hown hK hP 0 rfl rfl 10 (by decide) (hts _ nhw_227) (fun _ h9 => h9) rfl dX10_firstThatMayNotBe_79 ?_
        refine lv_iload_n hx hb dX10_firstThatMayNotBe_82 rfl (lv_at hl 3 rfl) ?_
        obtain ⟨z27, h⟩ := nh_chk_some h
        refine va_iald hx hb hK hP 1 0 rfl rfl (nh_in_in z27) dX10_firstThatMayNotBe_83 ?_
        refine lv_bipush (v := 10) hx hb dX10_firstThatMayNotBe_84 (by decide) ?_
        refine lv_idiv hx hb dX10_firstThatMayNotBe_86 (by decide) ?_
        refine lv_aload_n hx hb dX10_firstThatMayNotBe_87 rfl (lv_at hl 0 rfl) ?_
        refine va_get (D := D) (ci := 9) (v := .ref q_t_judged) (C := RX10) (T := TX10) (N := 11) hx hb hts nhu_X10 hown hK hP 0 rfl rfl 10 (by decide) (hts _ nhw_227) (fun _ h9 => h9) rfl dX10_firstThatMayNotBe_88 ?_
        refine lv_iload_n hx hb dX10_firstThatMayNotBe_91 rfl (lv_at hl 3 rfl) ?_
        obtain ⟨z28, h⟩ := nh_chk_some h
        refine va_iald hx hb hK hP 1 0 rfl rfl (nh_in_in z28) dX10_firstThatMayNotBe_92 ?_
        refine lv_bipush (v := 10) hx hb dX10_firstThatMayNotBe_93 (by decide) ?_
        refine lv_irem hx hb dX10_firstThatMayNotBe_95 (by decide) ?_
        obtain ⟨t_people_held_29, t_people_known_30, hc31, h⟩ := nh_b2_some h
        refine nh_gov (nh_V (As := [.int ((t_judged (Int32.toNatClampNeg x3_20)) / 10), .int ((t_judged (Int32.toNatClampNeg x3_20)) - (t_judged (Int32.toNatClampNeg x3_20)) / 10 * 10)]) (rest := []) ⟨hx, hb, hml, hown, hts⟩ (kX1_swapBack  l D cI cZ cO H.size q_t_people q_t_people_held q_t_people_known q_t_people_worths t_people_count t_people_held_21 t_people_known_22 ((t_judged (Int32.toNatClampNeg x3_20)) / 10) ((t_judged (Int32.toNatClampNeg x3_20)) - (t_judged (Int32.toNatClampNeg x3_20)) / 10 * 10) t_people_held_29 t_people_known_30 hc31) (cwV 2 hts (nh_gV nhw_563 nhw_426 nhw_687 nhw_303 nhw_136) rfl rfl rfl (by decide +kernel) ⟨Nat.le_of_ble_eq_true rfl, Nat.le_of_ble_eq_true rfl⟩) hK hN hP hD (isC := [2, 3, 4]) rfl rfl 2 1 rfl rfl rfl rfl hl.1 rfl (Nat.le_of_ble_eq_true rfl) dX10_firstThatMayNotBe_96 ⟨Nat.zero_le _, Nat.zero_le _⟩) hP hD hS hA (isC := [2, 3, 4]) rfl rfl rfl (w' := (wlX10_firstThatMayNotBe cI cZ cO q_t q_t_text q_t_people q_t_draft q_t_acts q_t_ends q_t_wants q_t_circle q_t_game q_t_stranger q_t_slots q_t_judged q_t_people_held q_t_people_known q_t_people_worths t_judged t_people_count t_people_held_29 t_people_known_30)) rfl (fun H locs hP hD hS => ?_)
        obtain ⟨x3_32, ex3_32⟩ : ∃ y : Int32, y = x3_20 + (-1) := ⟨_, rfl⟩
        replace h := nh_to h ex3_32
        refine lv_iinc (v := x3_32) (lv' := [(3, .int x3_32), (0, .ref q_t), (1, .int i1), (2, .int x2_4)]) hx hb dX10_firstThatMayNotBe_99 hl (k := 3) rfl (by rw [ex3_32]; rfl) (by decide) rfl (fun ls hl => ?_)
        refine lv_goto (tgt := 70) hx hb dX10_firstThatMayNotBe_102 (by decide) ?_
        exact ih70 x3_32 t_people_held_29 t_people_known_30 H locs ls hP hD hS (lv_sub hl [1, 2, 3, 0] rfl) h
  refine L70 _ (fun x3_23 t_people_held_24 t_people_known_25 H locs ls hP hD hS hl h => ?_) _ y_19 t_people_held_5 t_people_known_6 H locs ls hP hD hS (lv_sub hl [1, 2, 3, 0] rfl) h
  refine lv_iload_n hx hb dX10_firstThatMayNotBe_105 rfl (lv_at hl 2 rfl) ?_
  refine lv_iload_n hx hb dX10_firstThatMayNotBe_106 rfl (lv_at hl 1 rfl) ?_
  refine lv_icmp_ge (tgt := 114) hx hb dX10_firstThatMayNotBe_107 (by decide) (fun c33 => ?_) (fun c33 => ?_)
  · replace h := nh_t h c33
    refine lv_bipush (v := (-9)) hx hb dX10_firstThatMayNotBe_114 (by decide) ?_
    obtain ⟨g0, g1, g2⟩ := nh_i3 h
    exact nh_ri hx hb hr hlocks g0 (by rw [← g1, ← g2]; exact hP) hS dX10_firstThatMayNotBe_116
  · replace h := nh_f h c33
    refine lv_iload_n hx hb dX10_firstThatMayNotBe_110 rfl (lv_at hl 2 rfl) ?_
    refine lv_goto (tgt := 116) hx hb dX10_firstThatMayNotBe_111 (by decide) ?_
    obtain ⟨g0, g1, g2⟩ := nh_i3 h
    exact nh_ri hx hb hr hlocks g0 (by rw [← g1, ← g2]; exact hP) hS dX10_firstThatMayNotBe_116
abbrev wlX10_judge (cI cZ cO : ClassId) (q_t q_t_text q_t_people q_t_draft q_t_acts q_t_ends q_t_wants q_t_circle q_t_game q_t_stranger q_t_slots q_t_judged q_t_people_held q_t_people_known q_t_people_worths : Nat) (t_judged : Nat → Int32) (t_people_count : Int32) (t_people_held : Nat → Int32) (t_people_known : Nat → Int32) : va_W := [(q_t, .inr (9, [.ref q_t_text, .ref q_t_people, .ref q_t_draft, .ref q_t_acts, .ref q_t_ends, .ref q_t_wants, .ref q_t_circle, .ref q_t_game, .ref q_t_stranger, .ref q_t_slots, .ref q_t_judged])), (q_t_judged, .inl (cI, 4, .inl t_judged)), (q_t_people, .inr (1, [.int t_people_count, .ref q_t_people_held, .ref q_t_people_known, .ref q_t_people_worths])), (q_t_people_held, .inl (cI, 4, .inl t_people_held)), (q_t_people_known, .inl (cI, 4, .inl t_people_known))]
def fX10_judge_B24  (k24 : Int32 → Int32 → (Nat → Int32) → Option (Int32 × (Nat → Int32) × (Nat → Int32) × (Nat → Int32))) (r24 : Int32 → Int32 → (Nat → Int32) → Option (Int32 × (Nat → Int32) × (Nat → Int32) × (Nat → Int32))) (x3_5 : Int32) (x4_6 : Int32) (t_judged_7 : Nat → Int32) : Option (Int32 × (Nat → Int32) × (Nat → Int32) × (Nat → Int32)) :=
  (if x4_6 < 0 then k24 x3_5 x4_6 t_judged_7
 else nh_chk (nh_in x4_6 4) (nh_let (α := Nat → Int32) (upd t_judged_7 (Int32.toNatClampNeg x4_6) (x3_5 - x3_5 / 100 * 100)) (fun t_judged_13 => nh_let (α := Int32) ((x3_5 / 100)) (fun y_14 => nh_let (α := Int32) (x4_6 + (-1)) (fun x4_15 => r24 y_14 x4_15 t_judged_13)))))
def fX10_judge_L24  (k24 : Int32 → Int32 → (Nat → Int32) → Option (Int32 × (Nat → Int32) × (Nat → Int32) × (Nat → Int32))) : Nat → Int32 → Int32 → (Nat → Int32) → Option (Int32 × (Nat → Int32) × (Nat → Int32) × (Nat → Int32))
  | 0 => fun _ _ _ => none
  | n + 1 => fX10_judge_B24  k24 (fX10_judge_L24  k24 n)
def fX10_judge (F : Nat) (t_judged : Nat → Int32) (t_people_count : Int32) (t_people_held : Nat → Int32) (t_people_known : Nat → Int32) (i1 : Int32) (i2 : Int32) : Option (Int32 × (Nat → Int32) × (Nat → Int32) × (Nat → Int32)) :=
  (if i1 < 1 then some ((-2), t_judged, t_people_held, t_people_known)
 else (if 4 < i1 then some ((-2), t_judged, t_people_held, t_people_known)
 else (if 0 ≤ i2 then nh_let (α := Int32) ((i1 - 1)) (fun y_4 => fX10_judge_L24  (fun x3_8 x4_9 t_judged_10 => (if x3_8 = 0 then nh_b3 (fX10_firstThatMayNotBe F t_judged_10 t_people_count t_people_held t_people_known i1) (fun r_17 t_people_held_18 t_people_known_19 => some (r_17, t_judged_10, t_people_held_18, t_people_known_19))
 else some ((-2), t_judged_10, t_people_held, t_people_known))) F i2 y_4 t_judged)
 else some ((-2), t_judged, t_people_held, t_people_known))))
set_option maxHeartbeats 4000000 in
set_option maxRecDepth 100000 in
theorem kX10_judge (F : Nat) (l : Launch) (D : va_G) (cI cZ cO : ClassId) (sz : Nat) (q_t q_t_text q_t_people q_t_draft q_t_acts q_t_ends q_t_wants q_t_circle q_t_game q_t_stranger q_t_slots q_t_judged q_t_people_held q_t_people_known q_t_people_worths : Nat) (t_judged : Nat → Int32) (t_people_count : Int32) (t_people_held : Nat → Int32) (t_people_known : Nat → Int32) (i1 : Int32) (i2 : Int32) (o_r : Int32) (o_t_judged : Nat → Int32) (o_t_people_held : Nat → Int32) (o_t_people_known : Nat → Int32) (h : fX10_judge F t_judged t_people_count t_people_held t_people_known i1 i2 = some (o_r, o_t_judged, o_t_people_held, o_t_people_known)) : Met l yX10_judge (nh_w (.code yX10_judge cX10_judge 5 (some .int))) (nh_rm 4) (nh_Pc D cI cZ cO (wlX10_judge cI cZ cO q_t q_t_text q_t_people q_t_draft q_t_acts q_t_ends q_t_wants q_t_circle q_t_game q_t_stranger q_t_slots q_t_judged q_t_people_held q_t_people_known q_t_people_worths t_judged t_people_count t_people_held t_people_known) [.ref q_t, .int i1, .int i2] sz) ((nh_Qi D (wlX10_judge cI cZ cO q_t q_t_text q_t_people q_t_draft q_t_acts q_t_ends q_t_wants q_t_circle q_t_game q_t_stranger q_t_slots q_t_judged q_t_people_held q_t_people_known q_t_people_worths o_t_judged t_people_count o_t_people_held o_t_people_known) o_r) (va_A (wlX10_judge cI cZ cO q_t q_t_text q_t_people q_t_draft q_t_acts q_t_ends q_t_wants q_t_circle q_t_game q_t_stranger q_t_slots q_t_judged q_t_people_held q_t_people_known q_t_people_worths t_judged t_people_count t_people_held t_people_known) sz)) 0 0 (va_A (wlX10_judge cI cZ cO q_t q_t_text q_t_people q_t_draft q_t_acts q_t_ends q_t_wants q_t_circle q_t_game q_t_stranger q_t_slots q_t_judged q_t_people_held q_t_people_known q_t_people_worths t_judged t_people_count t_people_held t_people_known) sz) := by
  unfold fX10_judge at h
  refine nh_met (cc := cX10_judge) (maxL := 5) (ret := (some .int)) (nh_Qi D (wlX10_judge cI cZ cO q_t q_t_text q_t_people q_t_draft q_t_acts q_t_ends q_t_wants q_t_circle q_t_game q_t_stranger q_t_slots q_t_judged q_t_people_held q_t_people_known q_t_people_worths o_t_judged t_people_count o_t_people_held o_t_people_known) o_r) (by decide) rfl (Nat.le_of_ble_eq_true rfl) ?_
  intro p e s m args below meth c A H locs ls hx hb hml hr hown hts hlocks hinit hP hK hN hD hA hS hl
  have hl : lv_has ls 5 [(0, .ref q_t), (1, .int i1), (2, .int i2)] := hl
  have hts : ∀ w ∈ nh_words, w.before args s = true := fun w h => hts w (List.mem_cons_of_mem _ h)
  refine lv_iload_n hx hb dX10_judge_0 rfl (lv_at hl 1 rfl) ?_
  refine lv_iconst (v := 1) hx hb dX10_judge_1 (by decide) ?_
  refine lv_icmp_lt (tgt := 14) hx hb dX10_judge_2 (by decide) (fun c1 => ?_) (fun c1 => ?_)
  · replace h := nh_t h c1
    refine lv_bipush (v := (-2)) hx hb dX10_judge_14 (by decide) ?_
    obtain ⟨g0, g1, g2, g3⟩ := nh_i4 h
    exact nh_ri hx hb hr hlocks g0 (by rw [← g1, ← g2, ← g3]; exact hP) hS dX10_judge_16
  · replace h := nh_f h c1
    refine lv_iload_n hx hb dX10_judge_5 rfl (lv_at hl 1 rfl) ?_
    refine lv_iconst (v := 4) hx hb dX10_judge_6 (by decide) ?_
    refine lv_icmp_gt (tgt := 14) hx hb dX10_judge_7 (by decide) (fun c2 => ?_) (fun c2 => ?_)
    · replace h := nh_t h c2
      refine lv_bipush (v := (-2)) hx hb dX10_judge_14 (by decide) ?_
      obtain ⟨g0, g1, g2, g3⟩ := nh_i4 h
      exact nh_ri hx hb hr hlocks g0 (by rw [← g1, ← g2, ← g3]; exact hP) hS dX10_judge_16
    · replace h := nh_f h c2
      refine lv_iload_n hx hb dX10_judge_10 rfl (lv_at hl 2 rfl) ?_
      refine lv_if_ge (tgt := 17) hx hb dX10_judge_11 (by decide) (fun c3 => ?_) (fun c3 => ?_)
      · replace h := nh_t h c3
        refine lv_iload_n hx hb dX10_judge_17 rfl (lv_at hl 2 rfl) ?_
        refine lv_istore_n (lv' := [(3, .int i2), (0, .ref q_t), (1, .int i1), (2, .int i2)]) hx hb dX10_judge_18 rfl hl (by decide) rfl (fun ls hl => ?_)
        refine lv_iload_n hx hb dX10_judge_19 rfl (lv_at hl 2 rfl) ?_
        refine lv_iconst (v := 1) hx hb dX10_judge_20 (by decide) ?_
        refine lv_isub hx hb dX10_judge_21 ?_
        refine lv_topi (fun y_4 ey_4 => ?_)
        replace h := nh_to h ey_4
        refine lv_istore (lv' := [(4, .int y_4), (3, .int i2), (0, .ref q_t), (1, .int i1), (2, .int i2)]) hx hb dX10_judge_22 hl (by decide) rfl (fun ls hl => ?_)
        have L24 : ∀ (k24 : Int32 → Int32 → (Nat → Int32) → Option (Int32 × (Nat → Int32) × (Nat → Int32) × (Nat → Int32))), (∀ (x3_8 : Int32) (x4_9 : Int32) (t_judged_10 : Nat → Int32) (H : Heap) (locs : List Loc) (ls : Array Slot), va_P D vwCl (wlX10_judge cI cZ cO q_t q_t_text q_t_people q_t_draft q_t_acts q_t_ends q_t_wants q_t_circle q_t_game q_t_stranger q_t_slots q_t_judged q_t_people_held q_t_people_known q_t_people_worths t_judged_10 t_people_count t_people_held t_people_known) H → va_D A (wlX10_judge cI cZ cO q_t q_t_text q_t_people q_t_draft q_t_acts q_t_ends q_t_wants q_t_circle q_t_game q_t_stranger q_t_slots q_t_judged q_t_people_held q_t_people_known q_t_people_worths t_judged_10 t_people_count t_people_held t_people_known) → va_S A s.heap H locs → lv_has ls 5 [(0, .ref q_t), (1, .int i1), (2, .int i2), (3, .int x3_8), (4, .int x4_9)] → k24 x3_8 x4_9 t_judged_10 = some (o_r, o_t_judged, o_t_people_held, o_t_people_known) → W p l e (nh_rm 4) s m args below meth c H locs 0 0 (MQ below ((nh_Qi D (wlX10_judge cI cZ cO q_t q_t_text q_t_people q_t_draft q_t_acts q_t_ends q_t_wants q_t_circle q_t_game q_t_stranger q_t_slots q_t_judged q_t_people_held q_t_people_known q_t_people_worths o_t_judged t_people_count o_t_people_held o_t_people_known) o_r) A) args s 0 0 A) (F0 m 51 ls [])) → ∀ (n : Nat) (x3_5 : Int32) (x4_6 : Int32) (t_judged_7 : Nat → Int32) (H : Heap) (locs : List Loc) (ls : Array Slot), va_P D vwCl (wlX10_judge cI cZ cO q_t q_t_text q_t_people q_t_draft q_t_acts q_t_ends q_t_wants q_t_circle q_t_game q_t_stranger q_t_slots q_t_judged q_t_people_held q_t_people_known q_t_people_worths t_judged_7 t_people_count t_people_held t_people_known) H → va_D A (wlX10_judge cI cZ cO q_t q_t_text q_t_people q_t_draft q_t_acts q_t_ends q_t_wants q_t_circle q_t_game q_t_stranger q_t_slots q_t_judged q_t_people_held q_t_people_known q_t_people_worths t_judged_7 t_people_count t_people_held t_people_known) → va_S A s.heap H locs → lv_has ls 5 [(0, .ref q_t), (1, .int i1), (2, .int i2), (3, .int x3_5), (4, .int x4_6)] → fX10_judge_L24  k24 n x3_5 x4_6 t_judged_7 = some (o_r, o_t_judged, o_t_people_held, o_t_people_known) → W p l e (nh_rm 4) s m args below meth c H locs 0 0 (MQ below ((nh_Qi D (wlX10_judge cI cZ cO q_t q_t_text q_t_people q_t_draft q_t_acts q_t_ends q_t_wants q_t_circle q_t_game q_t_stranger q_t_slots q_t_judged q_t_people_held q_t_people_known q_t_people_worths o_t_judged t_people_count o_t_people_held o_t_people_known) o_r) A) args s 0 0 A) (F0 m 24 ls []) := by
          intro k24 hk24 n
          induction n with
          | zero => intro x3_5 x4_6 t_judged_7 H locs ls hP hD hS hl h; exact (nh_none h).elim
          | succ n24 ih24 =>
            intro x3_5 x4_6 t_judged_7 H locs ls hP hD hS hl h
            replace h : fX10_judge_B24  k24 (fX10_judge_L24  k24 n24) x3_5 x4_6 t_judged_7 = some (o_r, o_t_judged, o_t_people_held, o_t_people_known) := h
            unfold fX10_judge_B24 at h
            refine lv_iload hx hb dX10_judge_24 (lv_at hl 4 rfl) ?_
            refine lv_if_lt (tgt := 51) hx hb dX10_judge_26 (by decide) (fun c11 => ?_) (fun c11 => ?_)
            · replace h := nh_t h c11
              exact hk24 x3_5 x4_6 t_judged_7 H locs ls hP hD hS (lv_sub hl [0, 1, 2, 3, 4] rfl) h
            · replace h := nh_f h c11
              refine lv_aload_n hx hb dX10_judge_29 rfl (lv_at hl 0 rfl) ?_
              refine va_get (D := D) (ci := 9) (v := .ref q_t_judged) (C := RX10) (T := TX10) (N := 11) hx hb hts nhu_X10 hown hK hP 0 rfl rfl 10 (by decide) (hts _ nhw_227) (fun _ h9 => h9) rfl dX10_judge_30 ?_
              refine lv_iload hx hb dX10_judge_33 (lv_at hl 4 rfl) ?_
              refine lv_iload_n hx hb dX10_judge_35 rfl (lv_at hl 3 rfl) ?_
              refine lv_bipush (v := 100) hx hb dX10_judge_36 (by decide) ?_
              refine lv_irem hx hb dX10_judge_38 (by decide) ?_
              obtain ⟨z12, h⟩ := nh_chk_some h
              refine va_iast hx hb hK hP hD hS 1 0 rfl rfl (nh_in_in z12) dX10_judge_39 (fun H locs hP hD hS => ?_)
              obtain ⟨t_judged_13, et_judged_13⟩ : ∃ y : Nat → Int32, y = upd t_judged_7 (Int32.toNatClampNeg x4_6) (x3_5 - x3_5 / 100 * 100) := ⟨_, rfl⟩
              replace h := nh_to h et_judged_13
              have hP : va_P D vwCl (wlX10_judge cI cZ cO q_t q_t_text q_t_people q_t_draft q_t_acts q_t_ends q_t_wants q_t_circle q_t_game q_t_stranger q_t_slots q_t_judged q_t_people_held q_t_people_known q_t_people_worths t_judged_13 t_people_count t_people_held t_people_known) H := by rw [et_judged_13]; exact hP
              have hD : va_D A (wlX10_judge cI cZ cO q_t q_t_text q_t_people q_t_draft q_t_acts q_t_ends q_t_wants q_t_circle q_t_game q_t_stranger q_t_slots q_t_judged q_t_people_held q_t_people_known q_t_people_worths t_judged_13 t_people_count t_people_held t_people_known) := by rw [et_judged_13]; exact hD
              refine lv_iload_n hx hb dX10_judge_40 rfl (lv_at hl 3 rfl) ?_
              refine lv_bipush (v := 100) hx hb dX10_judge_41 (by decide) ?_
              refine lv_idiv hx hb dX10_judge_43 (by decide) ?_
              refine lv_topi (fun y_14 ey_14 => ?_)
              replace h := nh_to h ey_14
              refine lv_istore_n (lv' := [(3, .int y_14), (0, .ref q_t), (1, .int i1), (2, .int i2), (4, .int x4_6)]) hx hb dX10_judge_44 rfl hl (by decide) rfl (fun ls hl => ?_)
              obtain ⟨x4_15, ex4_15⟩ : ∃ y : Int32, y = x4_6 + (-1) := ⟨_, rfl⟩
              replace h := nh_to h ex4_15
              refine lv_iinc (v := x4_15) (lv' := [(4, .int x4_15), (3, .int y_14), (0, .ref q_t), (1, .int i1), (2, .int i2)]) hx hb dX10_judge_45 hl (k := 4) rfl (by rw [ex4_15]; rfl) (by decide) rfl (fun ls hl => ?_)
              refine lv_goto (tgt := 24) hx hb dX10_judge_48 (by decide) ?_
              exact ih24 y_14 x4_15 t_judged_13 H locs ls hP hD hS (lv_sub hl [2, 3, 4, 1, 0] rfl) h
        refine L24 _ (fun x3_8 x4_9 t_judged_10 H locs ls hP hD hS hl h => ?_) _ i2 y_4 t_judged H locs ls hP hD hS (lv_sub hl [2, 3, 4, 1, 0] rfl) h
        refine lv_iload_n hx hb dX10_judge_51 rfl (lv_at hl 3 rfl) ?_
        refine lv_if_eq (tgt := 58) hx hb dX10_judge_52 (by decide) (fun c16 => ?_) (fun c16 => ?_)
        · replace h := nh_t h c16
          refine lv_aload_n hx hb dX10_judge_58 rfl (lv_at hl 0 rfl) ?_
          refine lv_iload_n hx hb dX10_judge_59 rfl (lv_at hl 1 rfl) ?_
          obtain ⟨r_17, t_people_held_18, t_people_known_19, hc20, h⟩ := nh_b3_some h
          refine nh_goi (nh_V (As := [.int i1]) (rest := []) ⟨hx, hb, hml, hown, hts⟩ (kX10_firstThatMayNotBe F l D cI cZ cO H.size q_t q_t_text q_t_people q_t_draft q_t_acts q_t_ends q_t_wants q_t_circle q_t_game q_t_stranger q_t_slots q_t_judged q_t_people_held q_t_people_known q_t_people_worths t_judged_10 t_people_count t_people_held t_people_known i1 r_17 t_people_held_18 t_people_known_19 hc20) (cwV 1 hts (nh_gV nhw_562 nhw_328 nhw_698 nhw_304 nhw_31) rfl rfl rfl (by decide +kernel) ⟨Nat.le_of_ble_eq_true rfl, Nat.le_of_ble_eq_true rfl⟩) hK hN hP hD (isC := [0, 1, 2, 3, 4]) rfl rfl 0 9 rfl rfl rfl rfl hl.1 rfl (Nat.le_of_ble_eq_true rfl) dX10_judge_60 ⟨Nat.zero_le _, Nat.zero_le _⟩) hP hD hS hA (isC := [0, 1, 2, 3, 4]) rfl rfl rfl (w' := (wlX10_judge cI cZ cO q_t q_t_text q_t_people q_t_draft q_t_acts q_t_ends q_t_wants q_t_circle q_t_game q_t_stranger q_t_slots q_t_judged q_t_people_held q_t_people_known q_t_people_worths t_judged_10 t_people_count t_people_held_18 t_people_known_19)) rfl (fun H locs hP hD hS => ?_)
          obtain ⟨g0, g1, g2, g3⟩ := nh_i4 h
          exact nh_ri hx hb hr hlocks g0 (by rw [← g1, ← g2, ← g3]; exact hP) hS dX10_judge_63
        · replace h := nh_f h c16
          refine lv_bipush (v := (-2)) hx hb dX10_judge_55 (by decide) ?_
          obtain ⟨g0, g1, g2, g3⟩ := nh_i4 h
          exact nh_ri hx hb hr hlocks g0 (by rw [← g1, ← g2, ← g3]; exact hP) hS dX10_judge_57
      · replace h := nh_f h c3
        refine lv_bipush (v := (-2)) hx hb dX10_judge_14 (by decide) ?_
        obtain ⟨g0, g1, g2, g3⟩ := nh_i4 h
        exact nh_ri hx hb hr hlocks g0 (by rw [← g1, ← g2, ← g3]; exact hP) hS dX10_judge_16
abbrev wlX10_longest (cI cZ cO : ClassId) (q_t q_t_text q_t_people q_t_draft q_t_acts q_t_ends q_t_wants q_t_circle q_t_game q_t_stranger q_t_slots q_t_judged q_t_people_held q_t_people_known q_t_people_worths : Nat) (t_ends_most : Int32) (t_ends_least : Int32) (t_ends_number : Int32) (t_people_count : Int32) (t_people_held : Nat → Int32) (t_people_known : Nat → Int32) : va_W := [(q_t, .inr (9, [.ref q_t_text, .ref q_t_people, .ref q_t_draft, .ref q_t_acts, .ref q_t_ends, .ref q_t_wants, .ref q_t_circle, .ref q_t_game, .ref q_t_stranger, .ref q_t_slots, .ref q_t_judged])), (q_t_ends, .inr (3, [.int t_ends_most, .int t_ends_least, .int t_ends_number])), (q_t_people, .inr (1, [.int t_people_count, .ref q_t_people_held, .ref q_t_people_known, .ref q_t_people_worths])), (q_t_people_held, .inl (cI, 4, .inl t_people_held)), (q_t_people_known, .inl (cI, 4, .inl t_people_known))]
def fX10_longest (F : Nat) (t_ends_most : Int32) (t_ends_least : Int32) (t_ends_number : Int32) (t_people_count : Int32) (t_people_held : Nat → Int32) (t_people_known : Nat → Int32) : Option (Int32 × Int32 × Int32 × Int32 × (Nat → Int32) × (Nat → Int32)) :=
  nh_b5 (fX4_walkAll F t_ends_most t_ends_least t_ends_number t_people_count t_people_held t_people_known) (fun t_ends_most_1 t_ends_least_2 t_ends_number_3 t_people_held_4 t_people_known_5 => some (t_ends_most_1, t_ends_most_1, t_ends_least_2, t_ends_number_3, t_people_held_4, t_people_known_5))
set_option maxHeartbeats 4000000 in
set_option maxRecDepth 100000 in
theorem kX10_longest (F : Nat) (l : Launch) (D : va_G) (cI cZ cO : ClassId) (sz : Nat) (q_t q_t_text q_t_people q_t_draft q_t_acts q_t_ends q_t_wants q_t_circle q_t_game q_t_stranger q_t_slots q_t_judged q_t_people_held q_t_people_known q_t_people_worths : Nat) (t_ends_most : Int32) (t_ends_least : Int32) (t_ends_number : Int32) (t_people_count : Int32) (t_people_held : Nat → Int32) (t_people_known : Nat → Int32)  (o_r : Int32) (o_t_ends_most : Int32) (o_t_ends_least : Int32) (o_t_ends_number : Int32) (o_t_people_held : Nat → Int32) (o_t_people_known : Nat → Int32) (h : fX10_longest F t_ends_most t_ends_least t_ends_number t_people_count t_people_held t_people_known = some (o_r, o_t_ends_most, o_t_ends_least, o_t_ends_number, o_t_people_held, o_t_people_known)) : Met l yX10_longest (nh_w (.code yX10_longest cX10_longest 1 (some .int))) (nh_rm 25) (nh_Pc D cI cZ cO (wlX10_longest cI cZ cO q_t q_t_text q_t_people q_t_draft q_t_acts q_t_ends q_t_wants q_t_circle q_t_game q_t_stranger q_t_slots q_t_judged q_t_people_held q_t_people_known q_t_people_worths t_ends_most t_ends_least t_ends_number t_people_count t_people_held t_people_known) [.ref q_t] sz) ((nh_Qi D (wlX10_longest cI cZ cO q_t q_t_text q_t_people q_t_draft q_t_acts q_t_ends q_t_wants q_t_circle q_t_game q_t_stranger q_t_slots q_t_judged q_t_people_held q_t_people_known q_t_people_worths o_t_ends_most o_t_ends_least o_t_ends_number t_people_count o_t_people_held o_t_people_known) o_r) (va_A (wlX10_longest cI cZ cO q_t q_t_text q_t_people q_t_draft q_t_acts q_t_ends q_t_wants q_t_circle q_t_game q_t_stranger q_t_slots q_t_judged q_t_people_held q_t_people_known q_t_people_worths t_ends_most t_ends_least t_ends_number t_people_count t_people_held t_people_known) sz)) 0 0 (va_A (wlX10_longest cI cZ cO q_t q_t_text q_t_people q_t_draft q_t_acts q_t_ends q_t_wants q_t_circle q_t_game q_t_stranger q_t_slots q_t_judged q_t_people_held q_t_people_known q_t_people_worths t_ends_most t_ends_least t_ends_number t_people_count t_people_held t_people_known) sz) := by
  unfold fX10_longest at h
  refine nh_met (cc := cX10_longest) (maxL := 1) (ret := (some .int)) (nh_Qi D (wlX10_longest cI cZ cO q_t q_t_text q_t_people q_t_draft q_t_acts q_t_ends q_t_wants q_t_circle q_t_game q_t_stranger q_t_slots q_t_judged q_t_people_held q_t_people_known q_t_people_worths o_t_ends_most o_t_ends_least o_t_ends_number t_people_count o_t_people_held o_t_people_known) o_r) (by decide) rfl (Nat.le_of_ble_eq_true rfl) ?_
  intro p e s m args below meth c A H locs ls hx hb hml hr hown hts hlocks hinit hP hK hN hD hA hS hl
  have hl : lv_has ls 1 [(0, .ref q_t)] := hl
  have hts : ∀ w ∈ nh_words, w.before args s = true := fun w h => hts w (List.mem_cons_of_mem _ h)
  refine lv_aload_n hx hb dX10_longest_0 rfl (lv_at hl 0 rfl) ?_
  refine va_get (D := D) (ci := 9) (v := .ref q_t_ends) (C := RX10) (T := TX10) (N := 11) hx hb hts nhu_X10 hown hK hP 0 rfl rfl 4 (by decide) (hts _ nhw_221) (fun _ h9 => h9) rfl dX10_longest_1 ?_
  refine lv_aload_n hx hb dX10_longest_4 rfl (lv_at hl 0 rfl) ?_
  refine va_get (D := D) (ci := 9) (v := .ref q_t_people) (C := RX10) (T := TX10) (N := 11) hx hb hts nhu_X10 hown hK hP 0 rfl rfl 1 (by decide) (hts _ nhw_215) (fun _ h9 => h9) rfl dX10_longest_5 ?_
  obtain ⟨t_ends_most_1, t_ends_least_2, t_ends_number_3, t_people_held_4, t_people_known_5, hc6, h⟩ := nh_b5_some h
  refine nh_gov (nh_V (As := [.ref q_t_people]) (rest := []) ⟨hx, hb, hml, hown, hts⟩ (kX4_walkAll F l D cI cZ cO H.size q_t_ends q_t_people q_t_people_held q_t_people_known q_t_people_worths t_ends_most t_ends_least t_ends_number t_people_count t_people_held t_people_known t_ends_most_1 t_ends_least_2 t_ends_number_3 t_people_held_4 t_people_known_5 hc6) (cwV 1 hts (nh_gV nhw_564 nhw_434 nhw_784 nhw_308 nhw_151) rfl rfl rfl (by decide +kernel) ⟨Nat.le_of_ble_eq_true rfl, Nat.le_of_ble_eq_true rfl⟩) hK hN hP hD (isC := [1, 2, 3, 4]) rfl rfl 1 3 rfl rfl rfl rfl hl.1 rfl (Nat.le_of_ble_eq_true rfl) dX10_longest_8 ⟨Nat.zero_le _, Nat.zero_le _⟩) hP hD hS hA (isC := [1, 2, 3, 4]) rfl rfl rfl (w' := (wlX10_longest cI cZ cO q_t q_t_text q_t_people q_t_draft q_t_acts q_t_ends q_t_wants q_t_circle q_t_game q_t_stranger q_t_slots q_t_judged q_t_people_held q_t_people_known q_t_people_worths t_ends_most_1 t_ends_least_2 t_ends_number_3 t_people_count t_people_held_4 t_people_known_5)) rfl (fun H locs hP hD hS => ?_)
  refine lv_aload_n hx hb dX10_longest_11 rfl (lv_at hl 0 rfl) ?_
  refine va_get (D := D) (ci := 9) (v := .ref q_t_ends) (C := RX10) (T := TX10) (N := 11) hx hb hts nhu_X10 hown hK hP 0 rfl rfl 4 (by decide) (hts _ nhw_221) (fun _ h9 => h9) rfl dX10_longest_12 ?_
  refine va_get (D := D) (ci := 3) (v := .int t_ends_most_1) (C := RX4) (T := TX4) (N := 3) hx hb hts nhu_X4 hown hK hP 1 rfl rfl 0 (by decide) (hts _ nhw_209) (fun _ h9 => h9) rfl dX10_longest_15 ?_
  obtain ⟨g0, g1, g2, g3, g4, g5⟩ := nh_i6 h
  exact nh_ri hx hb hr hlocks g0 (by rw [← g1, ← g2, ← g3, ← g4, ← g5]; exact hP) hS dX10_longest_18
abbrev wlX10_shortest (cI cZ cO : ClassId) (q_t q_t_text q_t_people q_t_draft q_t_acts q_t_ends q_t_wants q_t_circle q_t_game q_t_stranger q_t_slots q_t_judged q_t_people_held q_t_people_known q_t_people_worths : Nat) (t_ends_most : Int32) (t_ends_least : Int32) (t_ends_number : Int32) (t_people_count : Int32) (t_people_held : Nat → Int32) (t_people_known : Nat → Int32) : va_W := [(q_t, .inr (9, [.ref q_t_text, .ref q_t_people, .ref q_t_draft, .ref q_t_acts, .ref q_t_ends, .ref q_t_wants, .ref q_t_circle, .ref q_t_game, .ref q_t_stranger, .ref q_t_slots, .ref q_t_judged])), (q_t_ends, .inr (3, [.int t_ends_most, .int t_ends_least, .int t_ends_number])), (q_t_people, .inr (1, [.int t_people_count, .ref q_t_people_held, .ref q_t_people_known, .ref q_t_people_worths])), (q_t_people_held, .inl (cI, 4, .inl t_people_held)), (q_t_people_known, .inl (cI, 4, .inl t_people_known))]
def fX10_shortest (F : Nat) (t_ends_most : Int32) (t_ends_least : Int32) (t_ends_number : Int32) (t_people_count : Int32) (t_people_held : Nat → Int32) (t_people_known : Nat → Int32) : Option (Int32 × Int32 × Int32 × Int32 × (Nat → Int32) × (Nat → Int32)) :=
  nh_b5 (fX4_walkAll F t_ends_most t_ends_least t_ends_number t_people_count t_people_held t_people_known) (fun t_ends_most_1 t_ends_least_2 t_ends_number_3 t_people_held_4 t_people_known_5 => some (t_ends_least_2, t_ends_most_1, t_ends_least_2, t_ends_number_3, t_people_held_4, t_people_known_5))
set_option maxHeartbeats 4000000 in
set_option maxRecDepth 100000 in
theorem kX10_shortest (F : Nat) (l : Launch) (D : va_G) (cI cZ cO : ClassId) (sz : Nat) (q_t q_t_text q_t_people q_t_draft q_t_acts q_t_ends q_t_wants q_t_circle q_t_game q_t_stranger q_t_slots q_t_judged q_t_people_held q_t_people_known q_t_people_worths : Nat) (t_ends_most : Int32) (t_ends_least : Int32) (t_ends_number : Int32) (t_people_count : Int32) (t_people_held : Nat → Int32) (t_people_known : Nat → Int32)  (o_r : Int32) (o_t_ends_most : Int32) (o_t_ends_least : Int32) (o_t_ends_number : Int32) (o_t_people_held : Nat → Int32) (o_t_people_known : Nat → Int32) (h : fX10_shortest F t_ends_most t_ends_least t_ends_number t_people_count t_people_held t_people_known = some (o_r, o_t_ends_most, o_t_ends_least, o_t_ends_number, o_t_people_held, o_t_people_known)) : Met l yX10_shortest (nh_w (.code yX10_shortest cX10_shortest 1 (some .int))) (nh_rm 25) (nh_Pc D cI cZ cO (wlX10_shortest cI cZ cO q_t q_t_text q_t_people q_t_draft q_t_acts q_t_ends q_t_wants q_t_circle q_t_game q_t_stranger q_t_slots q_t_judged q_t_people_held q_t_people_known q_t_people_worths t_ends_most t_ends_least t_ends_number t_people_count t_people_held t_people_known) [.ref q_t] sz) ((nh_Qi D (wlX10_shortest cI cZ cO q_t q_t_text q_t_people q_t_draft q_t_acts q_t_ends q_t_wants q_t_circle q_t_game q_t_stranger q_t_slots q_t_judged q_t_people_held q_t_people_known q_t_people_worths o_t_ends_most o_t_ends_least o_t_ends_number t_people_count o_t_people_held o_t_people_known) o_r) (va_A (wlX10_shortest cI cZ cO q_t q_t_text q_t_people q_t_draft q_t_acts q_t_ends q_t_wants q_t_circle q_t_game q_t_stranger q_t_slots q_t_judged q_t_people_held q_t_people_known q_t_people_worths t_ends_most t_ends_least t_ends_number t_people_count t_people_held t_people_known) sz)) 0 0 (va_A (wlX10_shortest cI cZ cO q_t q_t_text q_t_people q_t_draft q_t_acts q_t_ends q_t_wants q_t_circle q_t_game q_t_stranger q_t_slots q_t_judged q_t_people_held q_t_people_known q_t_people_worths t_ends_most t_ends_least t_ends_number t_people_count t_people_held t_people_known) sz) := by
  unfold fX10_shortest at h
  refine nh_met (cc := cX10_shortest) (maxL := 1) (ret := (some .int)) (nh_Qi D (wlX10_shortest cI cZ cO q_t q_t_text q_t_people q_t_draft q_t_acts q_t_ends q_t_wants q_t_circle q_t_game q_t_stranger q_t_slots q_t_judged q_t_people_held q_t_people_known q_t_people_worths o_t_ends_most o_t_ends_least o_t_ends_number t_people_count o_t_people_held o_t_people_known) o_r) (by decide) rfl (Nat.le_of_ble_eq_true rfl) ?_
  intro p e s m args below meth c A H locs ls hx hb hml hr hown hts hlocks hinit hP hK hN hD hA hS hl
  have hl : lv_has ls 1 [(0, .ref q_t)] := hl
  have hts : ∀ w ∈ nh_words, w.before args s = true := fun w h => hts w (List.mem_cons_of_mem _ h)
  refine lv_aload_n hx hb dX10_shortest_0 rfl (lv_at hl 0 rfl) ?_
  refine va_get (D := D) (ci := 9) (v := .ref q_t_ends) (C := RX10) (T := TX10) (N := 11) hx hb hts nhu_X10 hown hK hP 0 rfl rfl 4 (by decide) (hts _ nhw_221) (fun _ h9 => h9) rfl dX10_shortest_1 ?_
  refine lv_aload_n hx hb dX10_shortest_4 rfl (lv_at hl 0 rfl) ?_
  refine va_get (D := D) (ci := 9) (v := .ref q_t_people) (C := RX10) (T := TX10) (N := 11) hx hb hts nhu_X10 hown hK hP 0 rfl rfl 1 (by decide) (hts _ nhw_215) (fun _ h9 => h9) rfl dX10_shortest_5 ?_
  obtain ⟨t_ends_most_1, t_ends_least_2, t_ends_number_3, t_people_held_4, t_people_known_5, hc6, h⟩ := nh_b5_some h
  refine nh_gov (nh_V (As := [.ref q_t_people]) (rest := []) ⟨hx, hb, hml, hown, hts⟩ (kX4_walkAll F l D cI cZ cO H.size q_t_ends q_t_people q_t_people_held q_t_people_known q_t_people_worths t_ends_most t_ends_least t_ends_number t_people_count t_people_held t_people_known t_ends_most_1 t_ends_least_2 t_ends_number_3 t_people_held_4 t_people_known_5 hc6) (cwV 1 hts (nh_gV nhw_564 nhw_434 nhw_784 nhw_308 nhw_151) rfl rfl rfl (by decide +kernel) ⟨Nat.le_of_ble_eq_true rfl, Nat.le_of_ble_eq_true rfl⟩) hK hN hP hD (isC := [1, 2, 3, 4]) rfl rfl 1 3 rfl rfl rfl rfl hl.1 rfl (Nat.le_of_ble_eq_true rfl) dX10_shortest_8 ⟨Nat.zero_le _, Nat.zero_le _⟩) hP hD hS hA (isC := [1, 2, 3, 4]) rfl rfl rfl (w' := (wlX10_shortest cI cZ cO q_t q_t_text q_t_people q_t_draft q_t_acts q_t_ends q_t_wants q_t_circle q_t_game q_t_stranger q_t_slots q_t_judged q_t_people_held q_t_people_known q_t_people_worths t_ends_most_1 t_ends_least_2 t_ends_number_3 t_people_count t_people_held_4 t_people_known_5)) rfl (fun H locs hP hD hS => ?_)
  refine lv_aload_n hx hb dX10_shortest_11 rfl (lv_at hl 0 rfl) ?_
  refine va_get (D := D) (ci := 9) (v := .ref q_t_ends) (C := RX10) (T := TX10) (N := 11) hx hb hts nhu_X10 hown hK hP 0 rfl rfl 4 (by decide) (hts _ nhw_221) (fun _ h9 => h9) rfl dX10_shortest_12 ?_
  refine va_get (D := D) (ci := 3) (v := .int t_ends_least_2) (C := RX4) (T := TX4) (N := 3) hx hb hts nhu_X4 hown hK hP 1 rfl rfl 1 (by decide) (hts _ nhw_210) (fun _ h9 => h9) rfl dX10_shortest_15 ?_
  obtain ⟨g0, g1, g2, g3, g4, g5⟩ := nh_i6 h
  exact nh_ri hx hb hr hlocks g0 (by rw [← g1, ← g2, ← g3, ← g4, ← g5]; exact hP) hS dX10_shortest_18
abbrev wlX10_runs (cI cZ cO : ClassId) (q_t q_t_text q_t_people q_t_draft q_t_acts q_t_ends q_t_wants q_t_circle q_t_game q_t_stranger q_t_slots q_t_judged q_t_people_held q_t_people_known q_t_people_worths : Nat) (t_ends_most : Int32) (t_ends_least : Int32) (t_ends_number : Int32) (t_people_count : Int32) (t_people_held : Nat → Int32) (t_people_known : Nat → Int32) : va_W := [(q_t, .inr (9, [.ref q_t_text, .ref q_t_people, .ref q_t_draft, .ref q_t_acts, .ref q_t_ends, .ref q_t_wants, .ref q_t_circle, .ref q_t_game, .ref q_t_stranger, .ref q_t_slots, .ref q_t_judged])), (q_t_ends, .inr (3, [.int t_ends_most, .int t_ends_least, .int t_ends_number])), (q_t_people, .inr (1, [.int t_people_count, .ref q_t_people_held, .ref q_t_people_known, .ref q_t_people_worths])), (q_t_people_held, .inl (cI, 4, .inl t_people_held)), (q_t_people_known, .inl (cI, 4, .inl t_people_known))]
def fX10_runs (F : Nat) (t_ends_most : Int32) (t_ends_least : Int32) (t_ends_number : Int32) (t_people_count : Int32) (t_people_held : Nat → Int32) (t_people_known : Nat → Int32) : Option (Int32 × Int32 × Int32 × Int32 × (Nat → Int32) × (Nat → Int32)) :=
  nh_b5 (fX4_walkAll F t_ends_most t_ends_least t_ends_number t_people_count t_people_held t_people_known) (fun t_ends_most_1 t_ends_least_2 t_ends_number_3 t_people_held_4 t_people_known_5 => some (t_ends_number_3, t_ends_most_1, t_ends_least_2, t_ends_number_3, t_people_held_4, t_people_known_5))
set_option maxHeartbeats 4000000 in
set_option maxRecDepth 100000 in
theorem kX10_runs (F : Nat) (l : Launch) (D : va_G) (cI cZ cO : ClassId) (sz : Nat) (q_t q_t_text q_t_people q_t_draft q_t_acts q_t_ends q_t_wants q_t_circle q_t_game q_t_stranger q_t_slots q_t_judged q_t_people_held q_t_people_known q_t_people_worths : Nat) (t_ends_most : Int32) (t_ends_least : Int32) (t_ends_number : Int32) (t_people_count : Int32) (t_people_held : Nat → Int32) (t_people_known : Nat → Int32)  (o_r : Int32) (o_t_ends_most : Int32) (o_t_ends_least : Int32) (o_t_ends_number : Int32) (o_t_people_held : Nat → Int32) (o_t_people_known : Nat → Int32) (h : fX10_runs F t_ends_most t_ends_least t_ends_number t_people_count t_people_held t_people_known = some (o_r, o_t_ends_most, o_t_ends_least, o_t_ends_number, o_t_people_held, o_t_people_known)) : Met l yX10_runs (nh_w (.code yX10_runs cX10_runs 1 (some .int))) (nh_rm 25) (nh_Pc D cI cZ cO (wlX10_runs cI cZ cO q_t q_t_text q_t_people q_t_draft q_t_acts q_t_ends q_t_wants q_t_circle q_t_game q_t_stranger q_t_slots q_t_judged q_t_people_held q_t_people_known q_t_people_worths t_ends_most t_ends_least t_ends_number t_people_count t_people_held t_people_known) [.ref q_t] sz) ((nh_Qi D (wlX10_runs cI cZ cO q_t q_t_text q_t_people q_t_draft q_t_acts q_t_ends q_t_wants q_t_circle q_t_game q_t_stranger q_t_slots q_t_judged q_t_people_held q_t_people_known q_t_people_worths o_t_ends_most o_t_ends_least o_t_ends_number t_people_count o_t_people_held o_t_people_known) o_r) (va_A (wlX10_runs cI cZ cO q_t q_t_text q_t_people q_t_draft q_t_acts q_t_ends q_t_wants q_t_circle q_t_game q_t_stranger q_t_slots q_t_judged q_t_people_held q_t_people_known q_t_people_worths t_ends_most t_ends_least t_ends_number t_people_count t_people_held t_people_known) sz)) 0 0 (va_A (wlX10_runs cI cZ cO q_t q_t_text q_t_people q_t_draft q_t_acts q_t_ends q_t_wants q_t_circle q_t_game q_t_stranger q_t_slots q_t_judged q_t_people_held q_t_people_known q_t_people_worths t_ends_most t_ends_least t_ends_number t_people_count t_people_held t_people_known) sz) := by
  unfold fX10_runs at h
  refine nh_met (cc := cX10_runs) (maxL := 1) (ret := (some .int)) (nh_Qi D (wlX10_runs cI cZ cO q_t q_t_text q_t_people q_t_draft q_t_acts q_t_ends q_t_wants q_t_circle q_t_game q_t_stranger q_t_slots q_t_judged q_t_people_held q_t_people_known q_t_people_worths o_t_ends_most o_t_ends_least o_t_ends_number t_people_count o_t_people_held o_t_people_known) o_r) (by decide) rfl (Nat.le_of_ble_eq_true rfl) ?_
  intro p e s m args below meth c A H locs ls hx hb hml hr hown hts hlocks hinit hP hK hN hD hA hS hl
  have hl : lv_has ls 1 [(0, .ref q_t)] := hl
  have hts : ∀ w ∈ nh_words, w.before args s = true := fun w h => hts w (List.mem_cons_of_mem _ h)
  refine lv_aload_n hx hb dX10_runs_0 rfl (lv_at hl 0 rfl) ?_
  refine va_get (D := D) (ci := 9) (v := .ref q_t_ends) (C := RX10) (T := TX10) (N := 11) hx hb hts nhu_X10 hown hK hP 0 rfl rfl 4 (by decide) (hts _ nhw_221) (fun _ h9 => h9) rfl dX10_runs_1 ?_
  refine lv_aload_n hx hb dX10_runs_4 rfl (lv_at hl 0 rfl) ?_
  refine va_get (D := D) (ci := 9) (v := .ref q_t_people) (C := RX10) (T := TX10) (N := 11) hx hb hts nhu_X10 hown hK hP 0 rfl rfl 1 (by decide) (hts _ nhw_215) (fun _ h9 => h9) rfl dX10_runs_5 ?_
  obtain ⟨t_ends_most_1, t_ends_least_2, t_ends_number_3, t_people_held_4, t_people_known_5, hc6, h⟩ := nh_b5_some h
  refine nh_gov (nh_V (As := [.ref q_t_people]) (rest := []) ⟨hx, hb, hml, hown, hts⟩ (kX4_walkAll F l D cI cZ cO H.size q_t_ends q_t_people q_t_people_held q_t_people_known q_t_people_worths t_ends_most t_ends_least t_ends_number t_people_count t_people_held t_people_known t_ends_most_1 t_ends_least_2 t_ends_number_3 t_people_held_4 t_people_known_5 hc6) (cwV 1 hts (nh_gV nhw_564 nhw_434 nhw_784 nhw_308 nhw_151) rfl rfl rfl (by decide +kernel) ⟨Nat.le_of_ble_eq_true rfl, Nat.le_of_ble_eq_true rfl⟩) hK hN hP hD (isC := [1, 2, 3, 4]) rfl rfl 1 3 rfl rfl rfl rfl hl.1 rfl (Nat.le_of_ble_eq_true rfl) dX10_runs_8 ⟨Nat.zero_le _, Nat.zero_le _⟩) hP hD hS hA (isC := [1, 2, 3, 4]) rfl rfl rfl (w' := (wlX10_runs cI cZ cO q_t q_t_text q_t_people q_t_draft q_t_acts q_t_ends q_t_wants q_t_circle q_t_game q_t_stranger q_t_slots q_t_judged q_t_people_held q_t_people_known q_t_people_worths t_ends_most_1 t_ends_least_2 t_ends_number_3 t_people_count t_people_held_4 t_people_known_5)) rfl (fun H locs hP hD hS => ?_)
  refine lv_aload_n hx hb dX10_runs_11 rfl (lv_at hl 0 rfl) ?_
  refine va_get (D := D) (ci := 9) (v := .ref q_t_ends) (C := RX10) (T := TX10) (N := 11) hx hb hts nhu_X10 hown hK hP 0 rfl rfl 4 (by decide) (hts _ nhw_221) (fun _ h9 => h9) rfl dX10_runs_12 ?_
  refine va_get (D := D) (ci := 3) (v := .int t_ends_number_3) (C := RX4) (T := TX4) (N := 3) hx hb hts nhu_X4 hown hK hP 1 rfl rfl 2 (by decide) (hts _ nhw_211) (fun _ h9 => h9) rfl dX10_runs_15 ?_
  obtain ⟨g0, g1, g2, g3, g4, g5⟩ := nh_i6 h
  exact nh_ri hx hb hr hlocks g0 (by rw [← g1, ← g2, ← g3, ← g4, ← g5]; exact hP) hS dX10_runs_18
abbrev wlX10_want (cI cZ cO : ClassId) (q_t q_t_text q_t_people q_t_draft q_t_acts q_t_ends q_t_wants q_t_circle q_t_game q_t_stranger q_t_slots q_t_judged q_t_people_held q_t_people_known q_t_people_worths q_t_wants_wanted q_t_wants_bestRow q_t_wants_row : Nat) (t_people_count : Int32) (t_wants_best : Int32) (t_wants_limit : Int32) (t_wants_wanted : Nat → Int32) : va_W := [(q_t, .inr (9, [.ref q_t_text, .ref q_t_people, .ref q_t_draft, .ref q_t_acts, .ref q_t_ends, .ref q_t_wants, .ref q_t_circle, .ref q_t_game, .ref q_t_stranger, .ref q_t_slots, .ref q_t_judged])), (q_t_people, .inr (1, [.int t_people_count, .ref q_t_people_held, .ref q_t_people_known, .ref q_t_people_worths])), (q_t_wants, .inr (8, [.ref q_t_wants_wanted, .int t_wants_best, .ref q_t_wants_bestRow, .ref q_t_wants_row, .int t_wants_limit])), (q_t_wants_wanted, .inl (cI, 4, .inl t_wants_wanted))]
def fX10_want (t_people_count : Int32) (t_wants_wanted : Nat → Int32) (i1 : Int32) (i2 : Int32) : Option (Int32 × (Nat → Int32)) :=
  (if (fX1_has t_people_count i1) = 0 then some ((-1), t_wants_wanted)
 else (if i2 = (-9) then nh_chk (nh_in i1 4) (nh_let (α := Int32) ((t_wants_wanted (Int32.toNatClampNeg i1))) (fun y_4 => nh_chk (nh_in i1 4) (nh_let (α := Nat → Int32) (upd t_wants_wanted (Int32.toNatClampNeg i1) i2) (fun t_wants_wanted_6 => some (y_4, t_wants_wanted_6)))))
 else (if (fX10_isSort i2) = 0 then some ((-1), t_wants_wanted)
 else nh_chk (nh_in i1 4) (nh_let (α := Int32) ((t_wants_wanted (Int32.toNatClampNeg i1))) (fun y_9 => nh_chk (nh_in i1 4) (nh_let (α := Nat → Int32) (upd t_wants_wanted (Int32.toNatClampNeg i1) i2) (fun t_wants_wanted_11 => some (y_9, t_wants_wanted_11))))))))
set_option maxHeartbeats 4000000 in
set_option maxRecDepth 100000 in
theorem kX10_want (l : Launch) (D : va_G) (cI cZ cO : ClassId) (sz : Nat) (q_t q_t_text q_t_people q_t_draft q_t_acts q_t_ends q_t_wants q_t_circle q_t_game q_t_stranger q_t_slots q_t_judged q_t_people_held q_t_people_known q_t_people_worths q_t_wants_wanted q_t_wants_bestRow q_t_wants_row : Nat) (t_people_count : Int32) (t_wants_best : Int32) (t_wants_limit : Int32) (t_wants_wanted : Nat → Int32) (i1 : Int32) (i2 : Int32) (o_r : Int32) (o_t_wants_wanted : Nat → Int32) (h : fX10_want t_people_count t_wants_wanted i1 i2 = some (o_r, o_t_wants_wanted)) : Met l yX10_want (nh_w (.code yX10_want cX10_want 4 (some .int))) (nh_rm 1) (nh_Pc D cI cZ cO (wlX10_want cI cZ cO q_t q_t_text q_t_people q_t_draft q_t_acts q_t_ends q_t_wants q_t_circle q_t_game q_t_stranger q_t_slots q_t_judged q_t_people_held q_t_people_known q_t_people_worths q_t_wants_wanted q_t_wants_bestRow q_t_wants_row t_people_count t_wants_best t_wants_limit t_wants_wanted) [.ref q_t, .int i1, .int i2] sz) ((nh_Qi D (wlX10_want cI cZ cO q_t q_t_text q_t_people q_t_draft q_t_acts q_t_ends q_t_wants q_t_circle q_t_game q_t_stranger q_t_slots q_t_judged q_t_people_held q_t_people_known q_t_people_worths q_t_wants_wanted q_t_wants_bestRow q_t_wants_row t_people_count t_wants_best t_wants_limit o_t_wants_wanted) o_r) (va_A (wlX10_want cI cZ cO q_t q_t_text q_t_people q_t_draft q_t_acts q_t_ends q_t_wants q_t_circle q_t_game q_t_stranger q_t_slots q_t_judged q_t_people_held q_t_people_known q_t_people_worths q_t_wants_wanted q_t_wants_bestRow q_t_wants_row t_people_count t_wants_best t_wants_limit t_wants_wanted) sz)) 0 0 (va_A (wlX10_want cI cZ cO q_t q_t_text q_t_people q_t_draft q_t_acts q_t_ends q_t_wants q_t_circle q_t_game q_t_stranger q_t_slots q_t_judged q_t_people_held q_t_people_known q_t_people_worths q_t_wants_wanted q_t_wants_bestRow q_t_wants_row t_people_count t_wants_best t_wants_limit t_wants_wanted) sz) := by
  unfold fX10_want at h
  refine nh_met (cc := cX10_want) (maxL := 4) (ret := (some .int)) (nh_Qi D (wlX10_want cI cZ cO q_t q_t_text q_t_people q_t_draft q_t_acts q_t_ends q_t_wants q_t_circle q_t_game q_t_stranger q_t_slots q_t_judged q_t_people_held q_t_people_known q_t_people_worths q_t_wants_wanted q_t_wants_bestRow q_t_wants_row t_people_count t_wants_best t_wants_limit o_t_wants_wanted) o_r) (by decide) rfl (Nat.le_of_ble_eq_true rfl) ?_
  intro p e s m args below meth c A H locs ls hx hb hml hr hown hts hlocks hinit hP hK hN hD hA hS hl
  have hl : lv_has ls 4 [(0, .ref q_t), (1, .int i1), (2, .int i2)] := hl
  have hts : ∀ w ∈ nh_words, w.before args s = true := fun w h => hts w (List.mem_cons_of_mem _ h)
  refine lv_aload_n hx hb dX10_want_0 rfl (lv_at hl 0 rfl) ?_
  refine va_get (D := D) (ci := 9) (v := .ref q_t_people) (C := RX10) (T := TX10) (N := 11) hx hb hts nhu_X10 hown hK hP 0 rfl rfl 1 (by decide) (hts _ nhw_215) (fun _ h9 => h9) rfl dX10_want_1 ?_
  refine lv_iload_n hx hb dX10_want_4 rfl (lv_at hl 1 rfl) ?_
  refine nh_goi (nh_V (As := [.int i1]) (rest := []) ⟨hx, hb, hml, hown, hts⟩ (kX1_has  l D cI cZ cO H.size q_t_people q_t_people_held q_t_people_known q_t_people_worths t_people_count i1 (fX1_has t_people_count i1) rfl) (cwV 1 hts (nh_gV nhw_552 nhw_419 nhw_681 nhw_303 nhw_128) rfl rfl rfl (by decide +kernel) ⟨Nat.le_of_ble_eq_true rfl, Nat.le_of_ble_eq_true rfl⟩) hK hN hP hD (isC := [1]) rfl rfl 1 1 rfl rfl rfl rfl hl.1 rfl (Nat.le_of_ble_eq_true rfl) dX10_want_5 ⟨Nat.zero_le _, Nat.zero_le _⟩) hP hD hS hA (isC := [1]) rfl rfl rfl (w' := (wlX10_want cI cZ cO q_t q_t_text q_t_people q_t_draft q_t_acts q_t_ends q_t_wants q_t_circle q_t_game q_t_stranger q_t_slots q_t_judged q_t_people_held q_t_people_known q_t_people_worths q_t_wants_wanted q_t_wants_bestRow q_t_wants_row t_people_count t_wants_best t_wants_limit t_wants_wanted)) rfl (fun H locs hP hD hS => ?_)
  refine lv_if_eq (tgt := 24) hx hb dX10_want_8 (by decide) (fun c1 => ?_) (fun c1 => ?_)
  · replace h := nh_t h c1
    refine lv_iconst (v := (-1)) hx hb dX10_want_24 (by decide) ?_
    obtain ⟨g0, g1⟩ := nh_i2 h
    exact nh_ri hx hb hr hlocks g0 (by rw [← g1]; exact hP) hS dX10_want_25
  · replace h := nh_f h c1
    refine lv_iload_n hx hb dX10_want_11 rfl (lv_at hl 2 rfl) ?_
    refine lv_bipush (v := (-9)) hx hb dX10_want_12 (by decide) ?_
    refine lv_icmp_eq (tgt := 26) hx hb dX10_want_14 (by decide) (fun c2 => ?_) (fun c2 => ?_)
    · replace h := nh_t h c2
      refine lv_aload_n hx hb dX10_want_26 rfl (lv_at hl 0 rfl) ?_
      refine va_get (D := D) (ci := 9) (v := .ref q_t_wants) (C := RX10) (T := TX10) (N := 11) hx hb hts nhu_X10 hown hK hP 0 rfl rfl 5 (by decide) (hts _ nhw_222) (fun _ h9 => h9) rfl dX10_want_27 ?_
      refine va_get (D := D) (ci := 8) (v := .ref q_t_wants_wanted) (C := RX9) (T := TX9) (N := 5) hx hb hts nhu_X9 hown hK hP 2 rfl rfl 0 (by decide) (hts _ nhw_212) (fun _ h9 => h9) rfl dX10_want_30 ?_
      refine lv_iload_n hx hb dX10_want_33 rfl (lv_at hl 1 rfl) ?_
      obtain ⟨z3, h⟩ := nh_chk_some h
      refine va_iald hx hb hK hP 3 0 rfl rfl (nh_in_in z3) dX10_want_34 ?_
      refine lv_topi (fun y_4 ey_4 => ?_)
      replace h := nh_to h ey_4
      refine lv_istore_n (lv' := [(3, .int y_4), (0, .ref q_t), (1, .int i1), (2, .int i2)]) hx hb dX10_want_35 rfl hl (by decide) rfl (fun ls hl => ?_)
      refine lv_aload_n hx hb dX10_want_36 rfl (lv_at hl 1 rfl) ?_
      refine va_get (D := D) (ci := 9) (v := .ref q_t_wants) (C := RX10) (T := TX10) (N := 11) hx hb hts nhu_X10 hown hK hP 0 rfl rfl 5 (by decide) (hts _ nhw_222) (fun _ h9 => h9) rfl dX10_want_37 ?_
      refine va_get (D := D) (ci := 8) (v := .ref q_t_wants_wanted) (C := RX9) (T := TX9) (N := 5) hx hb hts nhu_X9 hown hK hP 2 rfl rfl 0 (by decide) (hts _ nhw_212) (fun _ h9 => h9) rfl dX10_want_40 ?_
      refine lv_iload_n hx hb dX10_want_43 rfl (lv_at hl 2 rfl) ?_
      refine lv_iload_n hx hb dX10_want_44 rfl (lv_at hl 3 rfl) ?_
      obtain ⟨z5, h⟩ := nh_chk_some h
      refine va_iast hx hb hK hP hD hS 3 0 rfl rfl (nh_in_in z5) dX10_want_45 (fun H locs hP hD hS => ?_)
      obtain ⟨t_wants_wanted_6, et_wants_wanted_6⟩ : ∃ y : Nat → Int32, y = upd t_wants_wanted (Int32.toNatClampNeg i1) i2 := ⟨_, rfl⟩
      replace h := nh_to h et_wants_wanted_6
      have hP : va_P D vwCl (wlX10_want cI cZ cO q_t q_t_text q_t_people q_t_draft q_t_acts q_t_ends q_t_wants q_t_circle q_t_game q_t_stranger q_t_slots q_t_judged q_t_people_held q_t_people_known q_t_people_worths q_t_wants_wanted q_t_wants_bestRow q_t_wants_row t_people_count t_wants_best t_wants_limit t_wants_wanted_6) H := by rw [et_wants_wanted_6]; exact hP
      have hD : va_D A (wlX10_want cI cZ cO q_t q_t_text q_t_people q_t_draft q_t_acts q_t_ends q_t_wants q_t_circle q_t_game q_t_stranger q_t_slots q_t_judged q_t_people_held q_t_people_known q_t_people_worths q_t_wants_wanted q_t_wants_bestRow q_t_wants_row t_people_count t_wants_best t_wants_limit t_wants_wanted_6) := by rw [et_wants_wanted_6]; exact hD
      refine lv_iload_n hx hb dX10_want_46 rfl (lv_at hl 0 rfl) ?_
      obtain ⟨g0, g1⟩ := nh_i2 h
      exact nh_ri hx hb hr hlocks g0 (by rw [← g1]; exact hP) hS dX10_want_47
    · replace h := nh_f h c2
      refine lv_iload_n hx hb dX10_want_17 rfl (lv_at hl 2 rfl) ?_
      refine nh_goi (nh_S (As := [.int i2]) (rest := []) ⟨hx, hb, hml, hown, hts⟩ (kX10_isSort  l D cI cZ cO H.size i2 (fX10_isSort i2) rfl) (va_cwS 1 hts (nh_gS nhw_553 nhw_806 nhw_304 nhw_37) rfl rfl rfl (by decide +kernel) ⟨Nat.le_of_ble_eq_true rfl, Nat.le_of_ble_eq_true rfl⟩) hK hN hP hD (isC := []) rfl rfl rfl hl.1 rfl (Nat.le_of_ble_eq_true rfl) dX10_want_18 ⟨Nat.zero_le _, Nat.zero_le _⟩) hP hD hS hA (isC := []) rfl rfl rfl (w' := (wlX10_want cI cZ cO q_t q_t_text q_t_people q_t_draft q_t_acts q_t_ends q_t_wants q_t_circle q_t_game q_t_stranger q_t_slots q_t_judged q_t_people_held q_t_people_known q_t_people_worths q_t_wants_wanted q_t_wants_bestRow q_t_wants_row t_people_count t_wants_best t_wants_limit t_wants_wanted)) rfl (fun H locs hP hD hS => ?_)
      refine lv_if_ne (tgt := 26) hx hb dX10_want_21 (by decide) (fun c7 => ?_) (fun c7 => ?_)
      · replace h := nh_f h c7
        refine lv_aload_n hx hb dX10_want_26 rfl (lv_at hl 0 rfl) ?_
        refine va_get (D := D) (ci := 9) (v := .ref q_t_wants) (C := RX10) (T := TX10) (N := 11) hx hb hts nhu_X10 hown hK hP 0 rfl rfl 5 (by decide) (hts _ nhw_222) (fun _ h9 => h9) rfl dX10_want_27 ?_
        refine va_get (D := D) (ci := 8) (v := .ref q_t_wants_wanted) (C := RX9) (T := TX9) (N := 5) hx hb hts nhu_X9 hown hK hP 2 rfl rfl 0 (by decide) (hts _ nhw_212) (fun _ h9 => h9) rfl dX10_want_30 ?_
        refine lv_iload_n hx hb dX10_want_33 rfl (lv_at hl 1 rfl) ?_
        obtain ⟨z8, h⟩ := nh_chk_some h
        refine va_iald hx hb hK hP 3 0 rfl rfl (nh_in_in z8) dX10_want_34 ?_
        refine lv_topi (fun y_9 ey_9 => ?_)
        replace h := nh_to h ey_9
        refine lv_istore_n (lv' := [(3, .int y_9), (0, .ref q_t), (1, .int i1), (2, .int i2)]) hx hb dX10_want_35 rfl hl (by decide) rfl (fun ls hl => ?_)
        refine lv_aload_n hx hb dX10_want_36 rfl (lv_at hl 1 rfl) ?_
        refine va_get (D := D) (ci := 9) (v := .ref q_t_wants) (C := RX10) (T := TX10) (N := 11) hx hb hts nhu_X10 hown hK hP 0 rfl rfl 5 (by decide) (hts _ nhw_222) (fun _ h9 => h9) rfl dX10_want_37 ?_
        refine va_get (D := D) (ci := 8) (v := .ref q_t_wants_wanted) (C := RX9) (T := TX9) (N := 5) hx hb hts nhu_X9 hown hK hP 2 rfl rfl 0 (by decide) (hts _ nhw_212) (fun _ h9 => h9) rfl dX10_want_40 ?_
        refine lv_iload_n hx hb dX10_want_43 rfl (lv_at hl 2 rfl) ?_
        refine lv_iload_n hx hb dX10_want_44 rfl (lv_at hl 3 rfl) ?_
        obtain ⟨z10, h⟩ := nh_chk_some h
        refine va_iast hx hb hK hP hD hS 3 0 rfl rfl (nh_in_in z10) dX10_want_45 (fun H locs hP hD hS => ?_)
        obtain ⟨t_wants_wanted_11, et_wants_wanted_11⟩ : ∃ y : Nat → Int32, y = upd t_wants_wanted (Int32.toNatClampNeg i1) i2 := ⟨_, rfl⟩
        replace h := nh_to h et_wants_wanted_11
        have hP : va_P D vwCl (wlX10_want cI cZ cO q_t q_t_text q_t_people q_t_draft q_t_acts q_t_ends q_t_wants q_t_circle q_t_game q_t_stranger q_t_slots q_t_judged q_t_people_held q_t_people_known q_t_people_worths q_t_wants_wanted q_t_wants_bestRow q_t_wants_row t_people_count t_wants_best t_wants_limit t_wants_wanted_11) H := by rw [et_wants_wanted_11]; exact hP
        have hD : va_D A (wlX10_want cI cZ cO q_t q_t_text q_t_people q_t_draft q_t_acts q_t_ends q_t_wants q_t_circle q_t_game q_t_stranger q_t_slots q_t_judged q_t_people_held q_t_people_known q_t_people_worths q_t_wants_wanted q_t_wants_bestRow q_t_wants_row t_people_count t_wants_best t_wants_limit t_wants_wanted_11) := by rw [et_wants_wanted_11]; exact hD
        refine lv_iload_n hx hb dX10_want_46 rfl (lv_at hl 0 rfl) ?_
        obtain ⟨g0, g1⟩ := nh_i2 h
        exact nh_ri hx hb hr hlocks g0 (by rw [← g1]; exact hP) hS dX10_want_47
      · replace h := nh_t h c7
        refine lv_iconst (v := (-1)) hx hb dX10_want_24 (by decide) ?_
        obtain ⟨g0, g1⟩ := nh_i2 h
        exact nh_ri hx hb hr hlocks g0 (by rw [← g1]; exact hP) hS dX10_want_25
abbrev wlX10_fewest (cI cZ cO : ClassId) (q_t q_t_text q_t_people q_t_draft q_t_acts q_t_ends q_t_wants q_t_circle q_t_game q_t_stranger q_t_slots q_t_judged q_t_people_held q_t_people_known q_t_people_worths q_t_wants_wanted q_t_wants_bestRow q_t_wants_row : Nat) (t_people_count : Int32) (t_people_held : Nat → Int32) (t_people_known : Nat → Int32) (t_wants_best : Int32) (t_wants_limit : Int32) (t_wants_bestRow : Nat → Int32) (t_wants_row : Nat → Int32) (t_wants_wanted : Nat → Int32) : va_W := [(q_t, .inr (9, [.ref q_t_text, .ref q_t_people, .ref q_t_draft, .ref q_t_acts, .ref q_t_ends, .ref q_t_wants, .ref q_t_circle, .ref q_t_game, .ref q_t_stranger, .ref q_t_slots, .ref q_t_judged])), (q_t_people, .inr (1, [.int t_people_count, .ref q_t_people_held, .ref q_t_people_known, .ref q_t_people_worths])), (q_t_people_held, .inl (cI, 4, .inl t_people_held)), (q_t_people_known, .inl (cI, 4, .inl t_people_known)), (q_t_wants, .inr (8, [.ref q_t_wants_wanted, .int t_wants_best, .ref q_t_wants_bestRow, .ref q_t_wants_row, .int t_wants_limit])), (q_t_wants_bestRow, .inl (cI, 12, .inl t_wants_bestRow)), (q_t_wants_row, .inl (cI, 12, .inl t_wants_row)), (q_t_wants_wanted, .inl (cI, 4, .inl t_wants_wanted))]
def fX10_fewest (F : Nat) (t_people_count : Int32) (t_people_held : Nat → Int32) (t_people_known : Nat → Int32) (t_wants_best : Int32) (t_wants_limit : Int32) (t_wants_bestRow : Nat → Int32) (t_wants_row : Nat → Int32) (t_wants_wanted : Nat → Int32) : Option (Int32 × (Nat → Int32) × (Nat → Int32) × Int32 × Int32 × (Nat → Int32) × (Nat → Int32)) :=
  nh_b6 (fX9_seekAll F t_wants_best t_wants_limit t_wants_bestRow t_wants_row t_wants_wanted t_people_count t_people_held t_people_known) (fun t_wants_best_1 t_wants_limit_2 t_wants_bestRow_3 t_wants_row_4 t_people_held_5 t_people_known_6 => some (t_wants_best_1, t_people_held_5, t_people_known_6, t_wants_best_1, t_wants_limit_2, t_wants_bestRow_3, t_wants_row_4))
set_option maxHeartbeats 4000000 in
set_option maxRecDepth 100000 in
theorem kX10_fewest (F : Nat) (l : Launch) (D : va_G) (cI cZ cO : ClassId) (sz : Nat) (q_t q_t_text q_t_people q_t_draft q_t_acts q_t_ends q_t_wants q_t_circle q_t_game q_t_stranger q_t_slots q_t_judged q_t_people_held q_t_people_known q_t_people_worths q_t_wants_wanted q_t_wants_bestRow q_t_wants_row : Nat) (t_people_count : Int32) (t_people_held : Nat → Int32) (t_people_known : Nat → Int32) (t_wants_best : Int32) (t_wants_limit : Int32) (t_wants_bestRow : Nat → Int32) (t_wants_row : Nat → Int32) (t_wants_wanted : Nat → Int32)  (o_r : Int32) (o_t_people_held : Nat → Int32) (o_t_people_known : Nat → Int32) (o_t_wants_best : Int32) (o_t_wants_limit : Int32) (o_t_wants_bestRow : Nat → Int32) (o_t_wants_row : Nat → Int32) (h : fX10_fewest F t_people_count t_people_held t_people_known t_wants_best t_wants_limit t_wants_bestRow t_wants_row t_wants_wanted = some (o_r, o_t_people_held, o_t_people_known, o_t_wants_best, o_t_wants_limit, o_t_wants_bestRow, o_t_wants_row)) : Met l yX10_fewest (nh_w (.code yX10_fewest cX10_fewest 1 (some .int))) (nh_rm 25) (nh_Pc D cI cZ cO (wlX10_fewest cI cZ cO q_t q_t_text q_t_people q_t_draft q_t_acts q_t_ends q_t_wants q_t_circle q_t_game q_t_stranger q_t_slots q_t_judged q_t_people_held q_t_people_known q_t_people_worths q_t_wants_wanted q_t_wants_bestRow q_t_wants_row t_people_count t_people_held t_people_known t_wants_best t_wants_limit t_wants_bestRow t_wants_row t_wants_wanted) [.ref q_t] sz) ((nh_Qi D (wlX10_fewest cI cZ cO q_t q_t_text q_t_people q_t_draft q_t_acts q_t_ends q_t_wants q_t_circle q_t_game q_t_stranger q_t_slots q_t_judged q_t_people_held q_t_people_known q_t_people_worths q_t_wants_wanted q_t_wants_bestRow q_t_wants_row t_people_count o_t_people_held o_t_people_known o_t_wants_best o_t_wants_limit o_t_wants_bestRow o_t_wants_row t_wants_wanted) o_r) (va_A (wlX10_fewest cI cZ cO q_t q_t_text q_t_people q_t_draft q_t_acts q_t_ends q_t_wants q_t_circle q_t_game q_t_stranger q_t_slots q_t_judged q_t_people_held q_t_people_known q_t_people_worths q_t_wants_wanted q_t_wants_bestRow q_t_wants_row t_people_count t_people_held t_people_known t_wants_best t_wants_limit t_wants_bestRow t_wants_row t_wants_wanted) sz)) 0 0 (va_A (wlX10_fewest cI cZ cO q_t q_t_text q_t_people q_t_draft q_t_acts q_t_ends q_t_wants q_t_circle q_t_game q_t_stranger q_t_slots q_t_judged q_t_people_held q_t_people_known q_t_people_worths q_t_wants_wanted q_t_wants_bestRow q_t_wants_row t_people_count t_people_held t_people_known t_wants_best t_wants_limit t_wants_bestRow t_wants_row t_wants_wanted) sz) := by
  unfold fX10_fewest at h
  refine nh_met (cc := cX10_fewest) (maxL := 1) (ret := (some .int)) (nh_Qi D (wlX10_fewest cI cZ cO q_t q_t_text q_t_people q_t_draft q_t_acts q_t_ends q_t_wants q_t_circle q_t_game q_t_stranger q_t_slots q_t_judged q_t_people_held q_t_people_known q_t_people_worths q_t_wants_wanted q_t_wants_bestRow q_t_wants_row t_people_count o_t_people_held o_t_people_known o_t_wants_best o_t_wants_limit o_t_wants_bestRow o_t_wants_row t_wants_wanted) o_r) (by decide) rfl (Nat.le_of_ble_eq_true rfl) ?_
  intro p e s m args below meth c A H locs ls hx hb hml hr hown hts hlocks hinit hP hK hN hD hA hS hl
  have hl : lv_has ls 1 [(0, .ref q_t)] := hl
  have hts : ∀ w ∈ nh_words, w.before args s = true := fun w h => hts w (List.mem_cons_of_mem _ h)
  refine lv_aload_n hx hb dX10_fewest_0 rfl (lv_at hl 0 rfl) ?_
  refine va_get (D := D) (ci := 9) (v := .ref q_t_wants) (C := RX10) (T := TX10) (N := 11) hx hb hts nhu_X10 hown hK hP 0 rfl rfl 5 (by decide) (hts _ nhw_222) (fun _ h9 => h9) rfl dX10_fewest_1 ?_
  refine lv_aload_n hx hb dX10_fewest_4 rfl (lv_at hl 0 rfl) ?_
  refine va_get (D := D) (ci := 9) (v := .ref q_t_people) (C := RX10) (T := TX10) (N := 11) hx hb hts nhu_X10 hown hK hP 0 rfl rfl 1 (by decide) (hts _ nhw_215) (fun _ h9 => h9) rfl dX10_fewest_5 ?_
  obtain ⟨t_wants_best_1, t_wants_limit_2, t_wants_bestRow_3, t_wants_row_4, t_people_held_5, t_people_known_6, hc7, h⟩ := nh_b6_some h
  refine nh_gov (nh_V (As := [.ref q_t_people]) (rest := []) ⟨hx, hb, hml, hown, hts⟩ (kX9_seekAll F l D cI cZ cO H.size q_t_wants q_t_people q_t_wants_wanted q_t_wants_bestRow q_t_wants_row q_t_people_held q_t_people_known q_t_people_worths t_wants_best t_wants_limit t_wants_bestRow t_wants_row t_wants_wanted t_people_count t_people_held t_people_known t_wants_best_1 t_wants_limit_2 t_wants_bestRow_3 t_wants_row_4 t_people_held_5 t_people_known_6 hc7) (cwV 1 hts (nh_gV nhw_565 nhw_453 nhw_798 nhw_313 nhw_180) rfl rfl rfl (by decide +kernel) ⟨Nat.le_of_ble_eq_true rfl, Nat.le_of_ble_eq_true rfl⟩) hK hN hP hD (isC := [4, 5, 6, 7, 1, 2, 3]) rfl rfl 4 8 rfl rfl rfl rfl hl.1 rfl (Nat.le_of_ble_eq_true rfl) dX10_fewest_8 ⟨Nat.zero_le _, Nat.zero_le _⟩) hP hD hS hA (isC := [4, 5, 6, 7, 1, 2, 3]) rfl rfl rfl (w' := (wlX10_fewest cI cZ cO q_t q_t_text q_t_people q_t_draft q_t_acts q_t_ends q_t_wants q_t_circle q_t_game q_t_stranger q_t_slots q_t_judged q_t_people_held q_t_people_known q_t_people_worths q_t_wants_wanted q_t_wants_bestRow q_t_wants_row t_people_count t_people_held_5 t_people_known_6 t_wants_best_1 t_wants_limit_2 t_wants_bestRow_3 t_wants_row_4 t_wants_wanted)) rfl (fun H locs hP hD hS => ?_)
  refine lv_aload_n hx hb dX10_fewest_11 rfl (lv_at hl 0 rfl) ?_
  refine va_get (D := D) (ci := 9) (v := .ref q_t_wants) (C := RX10) (T := TX10) (N := 11) hx hb hts nhu_X10 hown hK hP 0 rfl rfl 5 (by decide) (hts _ nhw_222) (fun _ h9 => h9) rfl dX10_fewest_12 ?_
  refine va_get (D := D) (ci := 8) (v := .int t_wants_best_1) (C := RX9) (T := TX9) (N := 5) hx hb hts nhu_X9 hown hK hP 4 rfl rfl 1 (by decide) (hts _ nhw_213) (fun _ h9 => h9) rfl dX10_fewest_15 ?_
  obtain ⟨g0, g1, g2, g3, g4, g5, g6⟩ := nh_i7 h
  exact nh_ri hx hb hr hlocks g0 (by rw [← g1, ← g2, ← g3, ← g4, ← g5, ← g6]; exact hP) hS dX10_fewest_18
abbrev wlX10_plan (cI cZ cO : ClassId) (q_t q_t_text q_t_people q_t_draft q_t_acts q_t_ends q_t_wants q_t_circle q_t_game q_t_stranger q_t_slots q_t_judged q_t_people_held q_t_people_known q_t_people_worths q_t_wants_wanted q_t_wants_bestRow q_t_wants_row : Nat) (t_people_count : Int32) (t_people_held : Nat → Int32) (t_people_known : Nat → Int32) (t_wants_best : Int32) (t_wants_limit : Int32) (t_wants_bestRow : Nat → Int32) (t_wants_row : Nat → Int32) (t_wants_wanted : Nat → Int32) : va_W := [(q_t, .inr (9, [.ref q_t_text, .ref q_t_people, .ref q_t_draft, .ref q_t_acts, .ref q_t_ends, .ref q_t_wants, .ref q_t_circle, .ref q_t_game, .ref q_t_stranger, .ref q_t_slots, .ref q_t_judged])), (q_t_people, .inr (1, [.int t_people_count, .ref q_t_people_held, .ref q_t_people_known, .ref q_t_people_worths])), (q_t_people_held, .inl (cI, 4, .inl t_people_held)), (q_t_people_known, .inl (cI, 4, .inl t_people_known)), (q_t_wants, .inr (8, [.ref q_t_wants_wanted, .int t_wants_best, .ref q_t_wants_bestRow, .ref q_t_wants_row, .int t_wants_limit])), (q_t_wants_bestRow, .inl (cI, 12, .inl t_wants_bestRow)), (q_t_wants_row, .inl (cI, 12, .inl t_wants_row)), (q_t_wants_wanted, .inl (cI, 4, .inl t_wants_wanted))]
def fX10_plan (F : Nat) (t_people_count : Int32) (t_people_held : Nat → Int32) (t_people_known : Nat → Int32) (t_wants_best : Int32) (t_wants_limit : Int32) (t_wants_bestRow : Nat → Int32) (t_wants_row : Nat → Int32) (t_wants_wanted : Nat → Int32) (i1 : Int32) : Option (Int32 × (Nat → Int32) × (Nat → Int32) × Int32 × Int32 × (Nat → Int32) × (Nat → Int32)) :=
  nh_b6 (fX9_seekAll F t_wants_best t_wants_limit t_wants_bestRow t_wants_row t_wants_wanted t_people_count t_people_held t_people_known) (fun t_wants_best_1 t_wants_limit_2 t_wants_bestRow_3 t_wants_row_4 t_people_held_5 t_people_known_6 => (if i1 < 0 then some ((-9), t_people_held_5, t_people_known_6, t_wants_best_1, t_wants_limit_2, t_wants_bestRow_3, t_wants_row_4)
 else (if 12 ≤ i1 then some ((-9), t_people_held_5, t_people_known_6, t_wants_best_1, t_wants_limit_2, t_wants_bestRow_3, t_wants_row_4)
 else (if i1 < t_wants_best_1 then nh_chk (nh_in i1 12) (some ((t_wants_bestRow_3 (Int32.toNatClampNeg i1)), t_people_held_5, t_people_known_6, t_wants_best_1, t_wants_limit_2, t_wants_bestRow_3, t_wants_row_4))
 else some ((-9), t_people_held_5, t_people_known_6, t_wants_best_1, t_wants_limit_2, t_wants_bestRow_3, t_wants_row_4)))))
set_option maxHeartbeats 4000000 in
set_option maxRecDepth 100000 in
theorem kX10_plan (F : Nat) (l : Launch) (D : va_G) (cI cZ cO : ClassId) (sz : Nat) (q_t q_t_text q_t_people q_t_draft q_t_acts q_t_ends q_t_wants q_t_circle q_t_game q_t_stranger q_t_slots q_t_judged q_t_people_held q_t_people_known q_t_people_worths q_t_wants_wanted q_t_wants_bestRow q_t_wants_row : Nat) (t_people_count : Int32) (t_people_held : Nat → Int32) (t_people_known : Nat → Int32) (t_wants_best : Int32) (t_wants_limit : Int32) (t_wants_bestRow : Nat → Int32) (t_wants_row : Nat → Int32) (t_wants_wanted : Nat → Int32) (i1 : Int32) (o_r : Int32) (o_t_people_held : Nat → Int32) (o_t_people_known : Nat → Int32) (o_t_wants_best : Int32) (o_t_wants_limit : Int32) (o_t_wants_bestRow : Nat → Int32) (o_t_wants_row : Nat → Int32) (h : fX10_plan F t_people_count t_people_held t_people_known t_wants_best t_wants_limit t_wants_bestRow t_wants_row t_wants_wanted i1 = some (o_r, o_t_people_held, o_t_people_known, o_t_wants_best, o_t_wants_limit, o_t_wants_bestRow, o_t_wants_row)) : Met l yX10_plan (nh_w (.code yX10_plan cX10_plan 2 (some .int))) (nh_rm 25) (nh_Pc D cI cZ cO (wlX10_plan cI cZ cO q_t q_t_text q_t_people q_t_draft q_t_acts q_t_ends q_t_wants q_t_circle q_t_game q_t_stranger q_t_slots q_t_judged q_t_people_held q_t_people_known q_t_people_worths q_t_wants_wanted q_t_wants_bestRow q_t_wants_row t_people_count t_people_held t_people_known t_wants_best t_wants_limit t_wants_bestRow t_wants_row t_wants_wanted) [.ref q_t, .int i1] sz) ((nh_Qi D (wlX10_plan cI cZ cO q_t q_t_text q_t_people q_t_draft q_t_acts q_t_ends q_t_wants q_t_circle q_t_game q_t_stranger q_t_slots q_t_judged q_t_people_held q_t_people_known q_t_people_worths q_t_wants_wanted q_t_wants_bestRow q_t_wants_row t_people_count o_t_people_held o_t_people_known o_t_wants_best o_t_wants_limit o_t_wants_bestRow o_t_wants_row t_wants_wanted) o_r) (va_A (wlX10_plan cI cZ cO q_t q_t_text q_t_people q_t_draft q_t_acts q_t_ends q_t_wants q_t_circle q_t_game q_t_stranger q_t_slots q_t_judged q_t_people_held q_t_people_known q_t_people_worths q_t_wants_wanted q_t_wants_bestRow q_t_wants_row t_people_count t_people_held t_people_known t_wants_best t_wants_limit t_wants_bestRow t_wants_row t_wants_wanted) sz)) 0 0 (va_A (wlX10_plan cI cZ cO q_t q_t_text q_t_people q_t_draft q_t_acts q_t_ends q_t_wants q_t_circle q_t_game q_t_stranger q_t_slots q_t_judged q_t_people_held q_t_people_known q_t_people_worths q_t_wants_wanted q_t_wants_bestRow q_t_wants_row t_people_count t_people_held t_people_known t_wants_best t_wants_limit t_wants_bestRow t_wants_row t_wants_wanted) sz) := by
  unfold fX10_plan at h
  refine nh_met (cc := cX10_plan) (maxL := 2) (ret := (some .int)) (nh_Qi D (wlX10_plan cI cZ cO q_t q_t_text q_t_people q_t_draft q_t_acts q_t_ends q_t_wants q_t_circle q_t_game q_t_stranger q_t_slots q_t_judged q_t_people_held q_t_people_known q_t_people_worths q_t_wants_wanted q_t_wants_bestRow q_t_wants_row t_people_count o_t_people_held o_t_people_known o_t_wants_best o_t_wants_limit o_t_wants_bestRow o_t_wants_row t_wants_wanted) o_r) (by decide) rfl (Nat.le_of_ble_eq_true rfl) ?_
  intro p e s m args below meth c A H locs ls hx hb hml hr hown hts hlocks hinit hP hK hN hD hA hS hl
  have hl : lv_has ls 2 [(0, .ref q_t), (1, .int i1)] := hl
  have hts : ∀ w ∈ nh_words, w.before args s = true := fun w h => hts w (List.mem_cons_of_mem _ h)
  refine lv_aload_n hx hb dX10_plan_0 rfl (lv_at hl 0 rfl) ?_
  refine va_get (D := D) (ci := 9) (v := .ref q_t_wants) (C := RX10) (T := TX10) (N := 11) hx hb hts nhu_X10 hown hK hP 0 rfl rfl 5 (by decide) (hts _ nhw_222) (fun _ h9 => h9) rfl dX10_plan_1 ?_
  refine lv_aload_n hx hb dX10_plan_4 rfl (lv_at hl 0 rfl) ?_
  refine va_get (D := D) (ci := 9) (v := .ref q_t_people) (C := RX10) (T := TX10) (N := 11) hx hb hts nhu_X10 hown hK hP 0 rfl rfl 1 (by decide) (hts _ nhw_215) (fun _ h9 => h9) rfl dX10_plan_5 ?_
  obtain ⟨t_wants_best_1, t_wants_limit_2, t_wants_bestRow_3, t_wants_row_4, t_people_held_5, t_people_known_6, hc7, h⟩ := nh_b6_some h
  refine nh_gov (nh_V (As := [.ref q_t_people]) (rest := []) ⟨hx, hb, hml, hown, hts⟩ (kX9_seekAll F l D cI cZ cO H.size q_t_wants q_t_people q_t_wants_wanted q_t_wants_bestRow q_t_wants_row q_t_people_held q_t_people_known q_t_people_worths t_wants_best t_wants_limit t_wants_bestRow t_wants_row t_wants_wanted t_people_count t_people_held t_people_known t_wants_best_1 t_wants_limit_2 t_wants_bestRow_3 t_wants_row_4 t_people_held_5 t_people_known_6 hc7) (cwV 1 hts (nh_gV nhw_565 nhw_453 nhw_798 nhw_313 nhw_180) rfl rfl rfl (by decide +kernel) ⟨Nat.le_of_ble_eq_true rfl, Nat.le_of_ble_eq_true rfl⟩) hK hN hP hD (isC := [4, 5, 6, 7, 1, 2, 3]) rfl rfl 4 8 rfl rfl rfl rfl hl.1 rfl (Nat.le_of_ble_eq_true rfl) dX10_plan_8 ⟨Nat.zero_le _, Nat.zero_le _⟩) hP hD hS hA (isC := [4, 5, 6, 7, 1, 2, 3]) rfl rfl rfl (w' := (wlX10_plan cI cZ cO q_t q_t_text q_t_people q_t_draft q_t_acts q_t_ends q_t_wants q_t_circle q_t_game q_t_stranger q_t_slots q_t_judged q_t_people_held q_t_people_known q_t_people_worths q_t_wants_wanted q_t_wants_bestRow q_t_wants_row t_people_count t_people_held_5 t_people_known_6 t_wants_best_1 t_wants_limit_2 t_wants_bestRow_3 t_wants_row_4 t_wants_wanted)) rfl (fun H locs hP hD hS => ?_)
  refine lv_iload_n hx hb dX10_plan_11 rfl (lv_at hl 1 rfl) ?_
  refine lv_if_lt (tgt := 32) hx hb dX10_plan_12 (by decide) (fun c8 => ?_) (fun c8 => ?_)
  · replace h := nh_t h c8
    refine lv_bipush (v := (-9)) hx hb dX10_plan_32 (by decide) ?_
    obtain ⟨g0, g1, g2, g3, g4, g5, g6⟩ := nh_i7 h
    exact nh_ri hx hb hr hlocks g0 (by rw [← g1, ← g2, ← g3, ← g4, ← g5, ← g6]; exact hP) hS dX10_plan_34
  · replace h := nh_f h c8
    refine lv_iload_n hx hb dX10_plan_15 rfl (lv_at hl 1 rfl) ?_
    refine lv_bipush (v := 12) hx hb dX10_plan_16 (by decide) ?_
    refine lv_icmp_ge (tgt := 32) hx hb dX10_plan_18 (by decide) (fun c9 => ?_) (fun c9 => ?_)
    · replace h := nh_t h c9
      refine lv_bipush (v := (-9)) hx hb dX10_plan_32 (by decide) ?_
      obtain ⟨g0, g1, g2, g3, g4, g5, g6⟩ := nh_i7 h
      exact nh_ri hx hb hr hlocks g0 (by rw [← g1, ← g2, ← g3, ← g4, ← g5, ← g6]; exact hP) hS dX10_plan_34
    · replace h := nh_f h c9
      refine lv_iload_n hx hb dX10_plan_21 rfl (lv_at hl 1 rfl) ?_
      refine lv_aload_n hx hb dX10_plan_22 rfl (lv_at hl 0 rfl) ?_
      refine va_get (D := D) (ci := 9) (v := .ref q_t_wants) (C := RX10) (T := TX10) (N := 11) hx hb hts nhu_X10 hown hK hP 0 rfl rfl 5 (by decide) (hts _ nhw_222) (fun _ h9 => h9) rfl dX10_plan_23 ?_
      refine va_get (D := D) (ci := 8) (v := .int t_wants_best_1) (C := RX9) (T := TX9) (N := 5) hx hb hts nhu_X9 hown hK hP 4 rfl rfl 1 (by decide) (hts _ nhw_213) (fun _ h9 => h9) rfl dX10_plan_26 ?_
      refine lv_icmp_lt (tgt := 35) hx hb dX10_plan_29 (by decide) (fun c10 => ?_) (fun c10 => ?_)
      · replace h := nh_t h c10
        refine lv_aload_n hx hb dX10_plan_35 rfl (lv_at hl 0 rfl) ?_
        refine va_get (D := D) (ci := 9) (v := .ref q_t_wants) (C := RX10) (T := TX10) (N := 11) hx hb hts nhu_X10 hown hK hP 0 rfl rfl 5 (by decide) (hts _ nhw_222) (fun _ h9 => h9) rfl dX10_plan_36 ?_
        refine va_get (D := D) (ci := 8) (v := .ref q_t_wants_bestRow) (C := RX9) (T := TX9) (N := 5) hx hb hts nhu_X9 hown hK hP 4 rfl rfl 2 (by decide) (hts _ nhw_214) (fun _ h9 => h9) rfl dX10_plan_39 ?_
        refine lv_iload_n hx hb dX10_plan_42 rfl (lv_at hl 1 rfl) ?_
        obtain ⟨z11, h⟩ := nh_chk_some h
        refine va_iald hx hb hK hP 5 0 rfl rfl (nh_in_in z11) dX10_plan_43 ?_
        obtain ⟨g0, g1, g2, g3, g4, g5, g6⟩ := nh_i7 h
        exact nh_ri hx hb hr hlocks g0 (by rw [← g1, ← g2, ← g3, ← g4, ← g5, ← g6]; exact hP) hS dX10_plan_44
      · replace h := nh_f h c10
        refine lv_bipush (v := (-9)) hx hb dX10_plan_32 (by decide) ?_
        obtain ⟨g0, g1, g2, g3, g4, g5, g6⟩ := nh_i7 h
        exact nh_ri hx hb hr hlocks g0 (by rw [← g1, ← g2, ← g3, ← g4, ← g5, ← g6]; exact hP) hS dX10_plan_34
abbrev wlX10_mayComeTo (cI cZ cO : ClassId) (q_t q_t_text q_t_people q_t_draft q_t_acts q_t_ends q_t_wants q_t_circle q_t_game q_t_stranger q_t_slots q_t_judged q_t_people_held q_t_people_known q_t_people_worths : Nat) (t_people_count : Int32) (t_people_held : Nat → Int32) (t_people_known : Nat → Int32) : va_W := [(q_t, .inr (9, [.ref q_t_text, .ref q_t_people, .ref q_t_draft, .ref q_t_acts, .ref q_t_ends, .ref q_t_wants, .ref q_t_circle, .ref q_t_game, .ref q_t_stranger, .ref q_t_slots, .ref q_t_judged])), (q_t_people, .inr (1, [.int t_people_count, .ref q_t_people_held, .ref q_t_people_known, .ref q_t_people_worths])), (q_t_people_held, .inl (cI, 4, .inl t_people_held)), (q_t_people_known, .inl (cI, 4, .inl t_people_known))]
def fX10_mayComeTo (F : Nat) (t_people_count : Int32) (t_people_held : Nat → Int32) (t_people_known : Nat → Int32) (i1 : Int32) : Option (Int32 × (Nat → Int32) × (Nat → Int32)) :=
  (if (fX1_has t_people_count i1) = 0 then some ((-1), t_people_held, t_people_known)
 else nh_b3 (fX2_sorts F t_people_count t_people_held t_people_known i1) (fun r_2 t_people_held_3 t_people_known_4 => some (r_2, t_people_held_3, t_people_known_4)))
set_option maxHeartbeats 4000000 in
set_option maxRecDepth 100000 in
theorem kX10_mayComeTo (F : Nat) (l : Launch) (D : va_G) (cI cZ cO : ClassId) (sz : Nat) (q_t q_t_text q_t_people q_t_draft q_t_acts q_t_ends q_t_wants q_t_circle q_t_game q_t_stranger q_t_slots q_t_judged q_t_people_held q_t_people_known q_t_people_worths : Nat) (t_people_count : Int32) (t_people_held : Nat → Int32) (t_people_known : Nat → Int32) (i1 : Int32) (o_r : Int32) (o_t_people_held : Nat → Int32) (o_t_people_known : Nat → Int32) (h : fX10_mayComeTo F t_people_count t_people_held t_people_known i1 = some (o_r, o_t_people_held, o_t_people_known)) : Met l yX10_mayComeTo (nh_w (.code yX10_mayComeTo cX10_mayComeTo 2 (some .int))) (nh_rm 25) (nh_Pc D cI cZ cO (wlX10_mayComeTo cI cZ cO q_t q_t_text q_t_people q_t_draft q_t_acts q_t_ends q_t_wants q_t_circle q_t_game q_t_stranger q_t_slots q_t_judged q_t_people_held q_t_people_known q_t_people_worths t_people_count t_people_held t_people_known) [.ref q_t, .int i1] sz) ((nh_Qi D (wlX10_mayComeTo cI cZ cO q_t q_t_text q_t_people q_t_draft q_t_acts q_t_ends q_t_wants q_t_circle q_t_game q_t_stranger q_t_slots q_t_judged q_t_people_held q_t_people_known q_t_people_worths t_people_count o_t_people_held o_t_people_known) o_r) (va_A (wlX10_mayComeTo cI cZ cO q_t q_t_text q_t_people q_t_draft q_t_acts q_t_ends q_t_wants q_t_circle q_t_game q_t_stranger q_t_slots q_t_judged q_t_people_held q_t_people_known q_t_people_worths t_people_count t_people_held t_people_known) sz)) 0 0 (va_A (wlX10_mayComeTo cI cZ cO q_t q_t_text q_t_people q_t_draft q_t_acts q_t_ends q_t_wants q_t_circle q_t_game q_t_stranger q_t_slots q_t_judged q_t_people_held q_t_people_known q_t_people_worths t_people_count t_people_held t_people_known) sz) := by
  unfold fX10_mayComeTo at h
  refine nh_met (cc := cX10_mayComeTo) (maxL := 2) (ret := (some .int)) (nh_Qi D (wlX10_mayComeTo cI cZ cO q_t q_t_text q_t_people q_t_draft q_t_acts q_t_ends q_t_wants q_t_circle q_t_game q_t_stranger q_t_slots q_t_judged q_t_people_held q_t_people_known q_t_people_worths t_people_count o_t_people_held o_t_people_known) o_r) (by decide) rfl (Nat.le_of_ble_eq_true rfl) ?_
  intro p e s m args below meth c A H locs ls hx hb hml hr hown hts hlocks hinit hP hK hN hD hA hS hl
  have hl : lv_has ls 2 [(0, .ref q_t), (1, .int i1)] := hl
  have hts : ∀ w ∈ nh_words, w.before args s = true := fun w h => hts w (List.mem_cons_of_mem _ h)
  refine lv_aload_n hx hb dX10_mayComeTo_0 rfl (lv_at hl 0 rfl) ?_
  refine va_get (D := D) (ci := 9) (v := .ref q_t_people) (C := RX10) (T := TX10) (N := 11) hx hb hts nhu_X10 hown hK hP 0 rfl rfl 1 (by decide) (hts _ nhw_215) (fun _ h9 => h9) rfl dX10_mayComeTo_1 ?_
  refine lv_iload_n hx hb dX10_mayComeTo_4 rfl (lv_at hl 1 rfl) ?_
  refine nh_goi (nh_V (As := [.int i1]) (rest := []) ⟨hx, hb, hml, hown, hts⟩ (kX1_has  l D cI cZ cO H.size q_t_people q_t_people_held q_t_people_known q_t_people_worths t_people_count i1 (fX1_has t_people_count i1) rfl) (cwV 1 hts (nh_gV nhw_552 nhw_419 nhw_681 nhw_303 nhw_128) rfl rfl rfl (by decide +kernel) ⟨Nat.le_of_ble_eq_true rfl, Nat.le_of_ble_eq_true rfl⟩) hK hN hP hD (isC := [1]) rfl rfl 1 1 rfl rfl rfl rfl hl.1 rfl (Nat.le_of_ble_eq_true rfl) dX10_mayComeTo_5 ⟨Nat.zero_le _, Nat.zero_le _⟩) hP hD hS hA (isC := [1]) rfl rfl rfl (w' := (wlX10_mayComeTo cI cZ cO q_t q_t_text q_t_people q_t_draft q_t_acts q_t_ends q_t_wants q_t_circle q_t_game q_t_stranger q_t_slots q_t_judged q_t_people_held q_t_people_known q_t_people_worths t_people_count t_people_held t_people_known)) rfl (fun H locs hP hD hS => ?_)
  refine lv_if_ne (tgt := 13) hx hb dX10_mayComeTo_8 (by decide) (fun c1 => ?_) (fun c1 => ?_)
  · replace h := nh_f h c1
    refine lv_aload_n hx hb dX10_mayComeTo_13 rfl (lv_at hl 0 rfl) ?_
    refine va_get (D := D) (ci := 9) (v := .ref q_t_people) (C := RX10) (T := TX10) (N := 11) hx hb hts nhu_X10 hown hK hP 0 rfl rfl 1 (by decide) (hts _ nhw_215) (fun _ h9 => h9) rfl dX10_mayComeTo_14 ?_
    refine lv_iload_n hx hb dX10_mayComeTo_17 rfl (lv_at hl 1 rfl) ?_
    obtain ⟨r_2, t_people_held_3, t_people_known_4, hc5, h⟩ := nh_b3_some h
    refine nh_goi (nh_S (As := [.ref q_t_people, .int i1]) (rest := []) ⟨hx, hb, hml, hown, hts⟩ (kX2_sorts F l D cI cZ cO H.size q_t_people q_t_people_held q_t_people_known q_t_people_worths t_people_count t_people_held t_people_known i1 r_2 t_people_held_3 t_people_known_4 hc5) (va_cwS 2 hts (nh_gS nhw_566 nhw_814 nhw_306 nhw_141) rfl rfl rfl (by decide +kernel) ⟨Nat.le_of_ble_eq_true rfl, Nat.le_of_ble_eq_true rfl⟩) hK hN hP hD (isC := [1, 2, 3]) rfl rfl rfl hl.1 rfl (Nat.le_of_ble_eq_true rfl) dX10_mayComeTo_18 ⟨Nat.zero_le _, Nat.zero_le _⟩) hP hD hS hA (isC := [1, 2, 3]) rfl rfl rfl (w' := (wlX10_mayComeTo cI cZ cO q_t q_t_text q_t_people q_t_draft q_t_acts q_t_ends q_t_wants q_t_circle q_t_game q_t_stranger q_t_slots q_t_judged q_t_people_held q_t_people_known q_t_people_worths t_people_count t_people_held_3 t_people_known_4)) rfl (fun H locs hP hD hS => ?_)
    obtain ⟨g0, g1, g2⟩ := nh_i3 h
    exact nh_ri hx hb hr hlocks g0 (by rw [← g1, ← g2]; exact hP) hS dX10_mayComeTo_21
  · replace h := nh_t h c1
    refine lv_iconst (v := (-1)) hx hb dX10_mayComeTo_11 (by decide) ?_
    obtain ⟨g0, g1, g2⟩ := nh_i3 h
    exact nh_ri hx hb hr hlocks g0 (by rw [← g1, ← g2]; exact hP) hS dX10_mayComeTo_12
abbrev wlX10_begin (cI cZ cO : ClassId) (q_t q_t_text q_t_people q_t_draft q_t_acts q_t_ends q_t_wants q_t_circle q_t_game q_t_stranger q_t_slots q_t_judged q_t_people_held q_t_people_known q_t_people_worths : Nat) (t_people_count : Int32) (t_people_held : Nat → Int32) (t_people_known : Nat → Int32) : va_W := [(q_t, .inr (9, [.ref q_t_text, .ref q_t_people, .ref q_t_draft, .ref q_t_acts, .ref q_t_ends, .ref q_t_wants, .ref q_t_circle, .ref q_t_game, .ref q_t_stranger, .ref q_t_slots, .ref q_t_judged])), (q_t_people, .inr (1, [.int t_people_count, .ref q_t_people_held, .ref q_t_people_known, .ref q_t_people_worths])), (q_t_people_held, .inl (cI, 4, .inl t_people_held)), (q_t_people_known, .inl (cI, 4, .inl t_people_known))]
def fX10_begin (F : Nat) (t_people_count : Int32) (t_people_held : Nat → Int32) (t_people_known : Nat → Int32) (i1 : Int32) : Option (Int32 × (Nat → Int32) × (Nat → Int32)) :=
  (if (fX1_has t_people_count i1) = 0 then some ((-1), t_people_held, t_people_known)
 else nh_chk (nh_in i1 4) ((if (t_people_held (Int32.toNatClampNeg i1)) = (-9) then some ((-3), t_people_held, t_people_known)
 else nh_b3 (fX2_bestBegin F t_people_count t_people_held t_people_known i1) (fun r_4 t_people_held_5 t_people_known_6 => some (r_4, t_people_held_5, t_people_known_6)))))
set_option maxHeartbeats 4000000 in
set_option maxRecDepth 100000 in
theorem kX10_begin (F : Nat) (l : Launch) (D : va_G) (cI cZ cO : ClassId) (sz : Nat) (q_t q_t_text q_t_people q_t_draft q_t_acts q_t_ends q_t_wants q_t_circle q_t_game q_t_stranger q_t_slots q_t_judged q_t_people_held q_t_people_known q_t_people_worths : Nat) (t_people_count : Int32) (t_people_held : Nat → Int32) (t_people_known : Nat → Int32) (i1 : Int32) (o_r : Int32) (o_t_people_held : Nat → Int32) (o_t_people_known : Nat → Int32) (h : fX10_begin F t_people_count t_people_held t_people_known i1 = some (o_r, o_t_people_held, o_t_people_known)) : Met l yX10_begin (nh_w (.code yX10_begin cX10_begin 2 (some .int))) (nh_rm 26) (nh_Pc D cI cZ cO (wlX10_begin cI cZ cO q_t q_t_text q_t_people q_t_draft q_t_acts q_t_ends q_t_wants q_t_circle q_t_game q_t_stranger q_t_slots q_t_judged q_t_people_held q_t_people_known q_t_people_worths t_people_count t_people_held t_people_known) [.ref q_t, .int i1] sz) ((nh_Qi D (wlX10_begin cI cZ cO q_t q_t_text q_t_people q_t_draft q_t_acts q_t_ends q_t_wants q_t_circle q_t_game q_t_stranger q_t_slots q_t_judged q_t_people_held q_t_people_known q_t_people_worths t_people_count o_t_people_held o_t_people_known) o_r) (va_A (wlX10_begin cI cZ cO q_t q_t_text q_t_people q_t_draft q_t_acts q_t_ends q_t_wants q_t_circle q_t_game q_t_stranger q_t_slots q_t_judged q_t_people_held q_t_people_known q_t_people_worths t_people_count t_people_held t_people_known) sz)) 0 0 (va_A (wlX10_begin cI cZ cO q_t q_t_text q_t_people q_t_draft q_t_acts q_t_ends q_t_wants q_t_circle q_t_game q_t_stranger q_t_slots q_t_judged q_t_people_held q_t_people_known q_t_people_worths t_people_count t_people_held t_people_known) sz) := by
  unfold fX10_begin at h
  refine nh_met (cc := cX10_begin) (maxL := 2) (ret := (some .int)) (nh_Qi D (wlX10_begin cI cZ cO q_t q_t_text q_t_people q_t_draft q_t_acts q_t_ends q_t_wants q_t_circle q_t_game q_t_stranger q_t_slots q_t_judged q_t_people_held q_t_people_known q_t_people_worths t_people_count o_t_people_held o_t_people_known) o_r) (by decide) rfl (Nat.le_of_ble_eq_true rfl) ?_
  intro p e s m args below meth c A H locs ls hx hb hml hr hown hts hlocks hinit hP hK hN hD hA hS hl
  have hl : lv_has ls 2 [(0, .ref q_t), (1, .int i1)] := hl
  have hts : ∀ w ∈ nh_words, w.before args s = true := fun w h => hts w (List.mem_cons_of_mem _ h)
  refine lv_aload_n hx hb dX10_begin_0 rfl (lv_at hl 0 rfl) ?_
  refine va_get (D := D) (ci := 9) (v := .ref q_t_people) (C := RX10) (T := TX10) (N := 11) hx hb hts nhu_X10 hown hK hP 0 rfl rfl 1 (by decide) (hts _ nhw_215) (fun _ h9 => h9) rfl dX10_begin_1 ?_
  refine lv_iload_n hx hb dX10_begin_4 rfl (lv_at hl 1 rfl) ?_
  refine nh_goi (nh_V (As := [.int i1]) (rest := []) ⟨hx, hb, hml, hown, hts⟩ (kX1_has  l D cI cZ cO H.size q_t_people q_t_people_held q_t_people_known q_t_people_worths t_people_count i1 (fX1_has t_people_count i1) rfl) (cwV 1 hts (nh_gV nhw_552 nhw_419 nhw_681 nhw_303 nhw_128) rfl rfl rfl (by decide +kernel) ⟨Nat.le_of_ble_eq_true rfl, Nat.le_of_ble_eq_true rfl⟩) hK hN hP hD (isC := [1]) rfl rfl 1 1 rfl rfl rfl rfl hl.1 rfl (Nat.le_of_ble_eq_true rfl) dX10_begin_5 ⟨Nat.zero_le _, Nat.zero_le _⟩) hP hD hS hA (isC := [1]) rfl rfl rfl (w' := (wlX10_begin cI cZ cO q_t q_t_text q_t_people q_t_draft q_t_acts q_t_ends q_t_wants q_t_circle q_t_game q_t_stranger q_t_slots q_t_judged q_t_people_held q_t_people_known q_t_people_worths t_people_count t_people_held t_people_known)) rfl (fun H locs hP hD hS => ?_)
  refine lv_if_ne (tgt := 13) hx hb dX10_begin_8 (by decide) (fun c1 => ?_) (fun c1 => ?_)
  · replace h := nh_f h c1
    refine lv_aload_n hx hb dX10_begin_13 rfl (lv_at hl 0 rfl) ?_
    refine va_get (D := D) (ci := 9) (v := .ref q_t_people) (C := RX10) (T := TX10) (N := 11) hx hb hts nhu_X10 hown hK hP 0 rfl rfl 1 (by decide) (hts _ nhw_215) (fun _ h9 => h9) rfl dX10_begin_14 ?_
    refine va_get (D := D) (ci := 1) (v := .ref q_t_people_held) (C := RX1) (T := TX1) (N := 4) hx hb hts nhu_X1 hown hK hP 1 rfl rfl 1 (by decide) (hts _ nhw_207) (fun _ h9 => h9) rfl dX10_begin_17 ?_
    refine lv_iload_n hx hb dX10_begin_20 rfl (lv_at hl 1 rfl) ?_
    obtain ⟨z2, h⟩ := nh_chk_some h
    refine va_iald hx hb hK hP 2 0 rfl rfl (nh_in_in z2) dX10_begin_21 ?_
    refine lv_bipush (v := (-9)) hx hb dX10_begin_22 (by decide) ?_
    refine lv_icmp_ne (tgt := 30) hx hb dX10_begin_24 (by decide) (fun c3 => ?_) (fun c3 => ?_)
    · replace h := nh_f h c3
      refine lv_aload_n hx hb dX10_begin_30 rfl (lv_at hl 0 rfl) ?_
      refine va_get (D := D) (ci := 9) (v := .ref q_t_people) (C := RX10) (T := TX10) (N := 11) hx hb hts nhu_X10 hown hK hP 0 rfl rfl 1 (by decide) (hts _ nhw_215) (fun _ h9 => h9) rfl dX10_begin_31 ?_
      refine lv_iload_n hx hb dX10_begin_34 rfl (lv_at hl 1 rfl) ?_
      obtain ⟨r_4, t_people_held_5, t_people_known_6, hc7, h⟩ := nh_b3_some h
      refine nh_goi (nh_S (As := [.ref q_t_people, .int i1]) (rest := []) ⟨hx, hb, hml, hown, hts⟩ (kX2_bestBegin F l D cI cZ cO H.size q_t_people q_t_people_held q_t_people_known q_t_people_worths t_people_count t_people_held t_people_known i1 r_4 t_people_held_5 t_people_known_6 hc7) (va_cwS 2 hts (nh_gS nhw_567 nhw_812 nhw_306 nhw_139) rfl rfl rfl (by decide +kernel) ⟨Nat.le_of_ble_eq_true rfl, Nat.le_of_ble_eq_true rfl⟩) hK hN hP hD (isC := [1, 2, 3]) rfl rfl rfl hl.1 rfl (Nat.le_of_ble_eq_true rfl) dX10_begin_35 ⟨Nat.zero_le _, Nat.zero_le _⟩) hP hD hS hA (isC := [1, 2, 3]) rfl rfl rfl (w' := (wlX10_begin cI cZ cO q_t q_t_text q_t_people q_t_draft q_t_acts q_t_ends q_t_wants q_t_circle q_t_game q_t_stranger q_t_slots q_t_judged q_t_people_held q_t_people_known q_t_people_worths t_people_count t_people_held_5 t_people_known_6)) rfl (fun H locs hP hD hS => ?_)
      obtain ⟨g0, g1, g2⟩ := nh_i3 h
      exact nh_ri hx hb hr hlocks g0 (by rw [← g1, ← g2]; exact hP) hS dX10_begin_38
    · replace h := nh_t h c3
      refine lv_bipush (v := (-3)) hx hb dX10_begin_27 (by decide) ?_
      obtain ⟨g0, g1, g2⟩ := nh_i3 h
      exact nh_ri hx hb hr hlocks g0 (by rw [← g1, ← g2]; exact hP) hS dX10_begin_29
  · replace h := nh_t h c1
    refine lv_iconst (v := (-1)) hx hb dX10_begin_11 (by decide) ?_
    obtain ⟨g0, g1, g2⟩ := nh_i3 h
    exact nh_ri hx hb hr hlocks g0 (by rw [← g1, ← g2]; exact hP) hS dX10_begin_12
abbrev wlX10_rings (cI cZ cO : ClassId) (q_t q_t_text q_t_people q_t_draft q_t_acts q_t_ends q_t_wants q_t_circle q_t_game q_t_stranger q_t_slots q_t_judged q_t_circle_bestFrom q_t_circle_from q_t_people_held q_t_people_known q_t_people_worths : Nat) (t_circle_bestGain : Int32) (t_circle_bestTakers : Int32) (t_circle_bestFrom : Nat → Int32) (t_circle_from : Nat → Int32) (t_people_count : Int32) (t_people_held : Nat → Int32) (t_people_known : Nat → Int32) (t_people_worths : Nat → Int32) : va_W := [(q_t, .inr (9, [.ref q_t_text, .ref q_t_people, .ref q_t_draft, .ref q_t_acts, .ref q_t_ends, .ref q_t_wants, .ref q_t_circle, .ref q_t_game, .ref q_t_stranger, .ref q_t_slots, .ref q_t_judged])), (q_t_circle, .inr (2, [.int t_circle_bestGain, .ref q_t_circle_bestFrom, .int t_circle_bestTakers, .ref q_t_circle_from])), (q_t_circle_bestFrom, .inl (cI, 4, .inl t_circle_bestFrom)), (q_t_circle_from, .inl (cI, 4, .inl t_circle_from)), (q_t_people, .inr (1, [.int t_people_count, .ref q_t_people_held, .ref q_t_people_known, .ref q_t_people_worths])), (q_t_people_held, .inl (cI, 4, .inl t_people_held)), (q_t_people_known, .inl (cI, 4, .inl t_people_known)), (q_t_people_worths, .inl (cI, 24, .inl t_people_worths))]
def fX10_rings (F : Nat) (t_circle_bestGain : Int32) (t_circle_bestTakers : Int32) (t_circle_bestFrom : Nat → Int32) (t_circle_from : Nat → Int32) (t_people_count : Int32) (t_people_held : Nat → Int32) (t_people_known : Nat → Int32) (t_people_worths : Nat → Int32) : Option (Int32 × Int32 × Int32 × (Nat → Int32) × (Nat → Int32)) :=
  nh_b4 (fX3_choose F t_circle_bestGain t_circle_bestTakers t_circle_bestFrom t_circle_from t_people_count t_people_held t_people_known t_people_worths) (fun t_circle_bestGain_1 t_circle_bestTakers_2 t_circle_bestFrom_3 t_circle_from_4 => some (t_circle_bestGain_1, t_circle_bestGain_1, t_circle_bestTakers_2, t_circle_bestFrom_3, t_circle_from_4))
set_option maxHeartbeats 4000000 in
set_option maxRecDepth 100000 in
theorem kX10_rings (F : Nat) (l : Launch) (D : va_G) (cI cZ cO : ClassId) (sz : Nat) (q_t q_t_text q_t_people q_t_draft q_t_acts q_t_ends q_t_wants q_t_circle q_t_game q_t_stranger q_t_slots q_t_judged q_t_circle_bestFrom q_t_circle_from q_t_people_held q_t_people_known q_t_people_worths : Nat) (t_circle_bestGain : Int32) (t_circle_bestTakers : Int32) (t_circle_bestFrom : Nat → Int32) (t_circle_from : Nat → Int32) (t_people_count : Int32) (t_people_held : Nat → Int32) (t_people_known : Nat → Int32) (t_people_worths : Nat → Int32)  (o_r : Int32) (o_t_circle_bestGain : Int32) (o_t_circle_bestTakers : Int32) (o_t_circle_bestFrom : Nat → Int32) (o_t_circle_from : Nat → Int32) (h : fX10_rings F t_circle_bestGain t_circle_bestTakers t_circle_bestFrom t_circle_from t_people_count t_people_held t_people_known t_people_worths = some (o_r, o_t_circle_bestGain, o_t_circle_bestTakers, o_t_circle_bestFrom, o_t_circle_from)) : Met l yX10_rings (nh_w (.code yX10_rings cX10_rings 1 (some .int))) (nh_rm 25) (nh_Pc D cI cZ cO (wlX10_rings cI cZ cO q_t q_t_text q_t_people q_t_draft q_t_acts q_t_ends q_t_wants q_t_circle q_t_game q_t_stranger q_t_slots q_t_judged q_t_circle_bestFrom q_t_circle_from q_t_people_held q_t_people_known q_t_people_worths t_circle_bestGain t_circle_bestTakers t_circle_bestFrom t_circle_from t_people_count t_people_held t_people_known t_people_worths) [.ref q_t] sz) ((nh_Qi D (wlX10_rings cI cZ cO q_t q_t_text q_t_people q_t_draft q_t_acts q_t_ends q_t_wants q_t_circle q_t_game q_t_stranger q_t_slots q_t_judged q_t_circle_bestFrom q_t_circle_from q_t_people_held q_t_people_known q_t_people_worths o_t_circle_bestGain o_t_circle_bestTakers o_t_circle_bestFrom o_t_circle_from t_people_count t_people_held t_people_known t_people_worths) o_r) (va_A (wlX10_rings cI cZ cO q_t q_t_text q_t_people q_t_draft q_t_acts q_t_ends q_t_wants q_t_circle q_t_game q_t_stranger q_t_slots q_t_judged q_t_circle_bestFrom q_t_circle_from q_t_people_held q_t_people_known q_t_people_worths t_circle_bestGain t_circle_bestTakers t_circle_bestFrom t_circle_from t_people_count t_people_held t_people_known t_people_worths) sz)) 0 0 (va_A (wlX10_rings cI cZ cO q_t q_t_text q_t_people q_t_draft q_t_acts q_t_ends q_t_wants q_t_circle q_t_game q_t_stranger q_t_slots q_t_judged q_t_circle_bestFrom q_t_circle_from q_t_people_held q_t_people_known q_t_people_worths t_circle_bestGain t_circle_bestTakers t_circle_bestFrom t_circle_from t_people_count t_people_held t_people_known t_people_worths) sz) := by
  unfold fX10_rings at h
  refine nh_met (cc := cX10_rings) (maxL := 1) (ret := (some .int)) (nh_Qi D (wlX10_rings cI cZ cO q_t q_t_text q_t_people q_t_draft q_t_acts q_t_ends q_t_wants q_t_circle q_t_game q_t_stranger q_t_slots q_t_judged q_t_circle_bestFrom q_t_circle_from q_t_people_held q_t_people_known q_t_people_worths o_t_circle_bestGain o_t_circle_bestTakers o_t_circle_bestFrom o_t_circle_from t_people_count t_people_held t_people_known t_people_worths) o_r) (by decide) rfl (Nat.le_of_ble_eq_true rfl) ?_
  intro p e s m args below meth c A H locs ls hx hb hml hr hown hts hlocks hinit hP hK hN hD hA hS hl
  have hl : lv_has ls 1 [(0, .ref q_t)] := hl
  have hts : ∀ w ∈ nh_words, w.before args s = true := fun w h => hts w (List.mem_cons_of_mem _ h)
  refine lv_aload_n hx hb dX10_rings_0 rfl (lv_at hl 0 rfl) ?_
  refine va_get (D := D) (ci := 9) (v := .ref q_t_circle) (C := RX10) (T := TX10) (N := 11) hx hb hts nhu_X10 hown hK hP 0 rfl rfl 6 (by decide) (hts _ nhw_223) (fun _ h9 => h9) rfl dX10_rings_1 ?_
  refine lv_aload_n hx hb dX10_rings_4 rfl (lv_at hl 0 rfl) ?_
  refine va_get (D := D) (ci := 9) (v := .ref q_t_people) (C := RX10) (T := TX10) (N := 11) hx hb hts nhu_X10 hown hK hP 0 rfl rfl 1 (by decide) (hts _ nhw_215) (fun _ h9 => h9) rfl dX10_rings_5 ?_
  obtain ⟨t_circle_bestGain_1, t_circle_bestTakers_2, t_circle_bestFrom_3, t_circle_from_4, hc5, h⟩ := nh_b4_some h
  refine nh_gov (nh_V (As := [.ref q_t_people]) (rest := []) ⟨hx, hb, hml, hown, hts⟩ (kX3_choose F l D cI cZ cO H.size q_t_circle q_t_people q_t_circle_bestFrom q_t_circle_from q_t_people_held q_t_people_known q_t_people_worths t_circle_bestGain t_circle_bestTakers t_circle_bestFrom t_circle_from t_people_count t_people_held t_people_known t_people_worths t_circle_bestGain_1 t_circle_bestTakers_2 t_circle_bestFrom_3 t_circle_from_4 hc5) (cwV 1 hts (nh_gV nhw_568 nhw_429 nhw_781 nhw_307 nhw_143) rfl rfl rfl (by decide +kernel) ⟨Nat.le_of_ble_eq_true rfl, Nat.le_of_ble_eq_true rfl⟩) hK hN hP hD (isC := [1, 2, 3, 4, 5, 6, 7]) rfl rfl 1 2 rfl rfl rfl rfl hl.1 rfl (Nat.le_of_ble_eq_true rfl) dX10_rings_8 ⟨Nat.zero_le _, Nat.zero_le _⟩) hP hD hS hA (isC := [1, 2, 3, 4, 5, 6, 7]) rfl rfl rfl (w' := (wlX10_rings cI cZ cO q_t q_t_text q_t_people q_t_draft q_t_acts q_t_ends q_t_wants q_t_circle q_t_game q_t_stranger q_t_slots q_t_judged q_t_circle_bestFrom q_t_circle_from q_t_people_held q_t_people_known q_t_people_worths t_circle_bestGain_1 t_circle_bestTakers_2 t_circle_bestFrom_3 t_circle_from_4 t_people_count t_people_held t_people_known t_people_worths)) rfl (fun H locs hP hD hS => ?_)
  refine lv_aload_n hx hb dX10_rings_11 rfl (lv_at hl 0 rfl) ?_
  refine va_get (D := D) (ci := 9) (v := .ref q_t_circle) (C := RX10) (T := TX10) (N := 11) hx hb hts nhu_X10 hown hK hP 0 rfl rfl 6 (by decide) (hts _ nhw_223) (fun _ h9 => h9) rfl dX10_rings_12 ?_
  refine va_get (D := D) (ci := 2) (v := .int t_circle_bestGain_1) (C := RX3) (T := TX3) (N := 4) hx hb hts nhu_X3 hown hK hP 1 rfl rfl 0 (by decide) (hts _ nhw_216) (fun _ h9 => h9) rfl dX10_rings_15 ?_
  obtain ⟨g0, g1, g2, g3, g4⟩ := nh_i5 h
  exact nh_ri hx hb hr hlocks g0 (by rw [← g1, ← g2, ← g3, ← g4]; exact hP) hS dX10_rings_18
abbrev wlX10_ringAt (cI cZ cO : ClassId) (q_t q_t_text q_t_people q_t_draft q_t_acts q_t_ends q_t_wants q_t_circle q_t_game q_t_stranger q_t_slots q_t_judged q_t_circle_bestFrom q_t_circle_from q_t_people_held q_t_people_known q_t_people_worths : Nat) (t_circle_bestGain : Int32) (t_circle_bestTakers : Int32) (t_circle_bestFrom : Nat → Int32) (t_circle_from : Nat → Int32) (t_people_count : Int32) (t_people_held : Nat → Int32) (t_people_known : Nat → Int32) (t_people_worths : Nat → Int32) : va_W := [(q_t, .inr (9, [.ref q_t_text, .ref q_t_people, .ref q_t_draft, .ref q_t_acts, .ref q_t_ends, .ref q_t_wants, .ref q_t_circle, .ref q_t_game, .ref q_t_stranger, .ref q_t_slots, .ref q_t_judged])), (q_t_circle, .inr (2, [.int t_circle_bestGain, .ref q_t_circle_bestFrom, .int t_circle_bestTakers, .ref q_t_circle_from])), (q_t_circle_bestFrom, .inl (cI, 4, .inl t_circle_bestFrom)), (q_t_circle_from, .inl (cI, 4, .inl t_circle_from)), (q_t_people, .inr (1, [.int t_people_count, .ref q_t_people_held, .ref q_t_people_known, .ref q_t_people_worths])), (q_t_people_held, .inl (cI, 4, .inl t_people_held)), (q_t_people_known, .inl (cI, 4, .inl t_people_known)), (q_t_people_worths, .inl (cI, 24, .inl t_people_worths))]
def fX10_ringAt (F : Nat) (t_circle_bestGain : Int32) (t_circle_bestTakers : Int32) (t_circle_bestFrom : Nat → Int32) (t_circle_from : Nat → Int32) (t_people_count : Int32) (t_people_held : Nat → Int32) (t_people_known : Nat → Int32) (t_people_worths : Nat → Int32) (i1 : Int32) : Option (Int32 × Int32 × Int32 × (Nat → Int32) × (Nat → Int32)) :=
  (if (fX1_has t_people_count i1) = 0 then some ((-1), t_circle_bestGain, t_circle_bestTakers, t_circle_bestFrom, t_circle_from)
 else nh_b4 (fX3_choose F t_circle_bestGain t_circle_bestTakers t_circle_bestFrom t_circle_from t_people_count t_people_held t_people_known t_people_worths) (fun t_circle_bestGain_2 t_circle_bestTakers_3 t_circle_bestFrom_4 t_circle_from_5 => nh_chk (nh_in i1 4) (some ((t_circle_bestFrom_4 (Int32.toNatClampNeg i1)), t_circle_bestGain_2, t_circle_bestTakers_3, t_circle_bestFrom_4, t_circle_from_5))))
set_option maxHeartbeats 4000000 in
set_option maxRecDepth 100000 in
theorem kX10_ringAt (F : Nat) (l : Launch) (D : va_G) (cI cZ cO : ClassId) (sz : Nat) (q_t q_t_text q_t_people q_t_draft q_t_acts q_t_ends q_t_wants q_t_circle q_t_game q_t_stranger q_t_slots q_t_judged q_t_circle_bestFrom q_t_circle_from q_t_people_held q_t_people_known q_t_people_worths : Nat) (t_circle_bestGain : Int32) (t_circle_bestTakers : Int32) (t_circle_bestFrom : Nat → Int32) (t_circle_from : Nat → Int32) (t_people_count : Int32) (t_people_held : Nat → Int32) (t_people_known : Nat → Int32) (t_people_worths : Nat → Int32) (i1 : Int32) (o_r : Int32) (o_t_circle_bestGain : Int32) (o_t_circle_bestTakers : Int32) (o_t_circle_bestFrom : Nat → Int32) (o_t_circle_from : Nat → Int32) (h : fX10_ringAt F t_circle_bestGain t_circle_bestTakers t_circle_bestFrom t_circle_from t_people_count t_people_held t_people_known t_people_worths i1 = some (o_r, o_t_circle_bestGain, o_t_circle_bestTakers, o_t_circle_bestFrom, o_t_circle_from)) : Met l yX10_ringAt (nh_w (.code yX10_ringAt cX10_ringAt 2 (some .int))) (nh_rm 25) (nh_Pc D cI cZ cO (wlX10_ringAt cI cZ cO q_t q_t_text q_t_people q_t_draft q_t_acts q_t_ends q_t_wants q_t_circle q_t_game q_t_stranger q_t_slots q_t_judged q_t_circle_bestFrom q_t_circle_from q_t_people_held q_t_people_known q_t_people_worths t_circle_bestGain t_circle_bestTakers t_circle_bestFrom t_circle_from t_people_count t_people_held t_people_known t_people_worths) [.ref q_t, .int i1] sz) ((nh_Qi D (wlX10_ringAt cI cZ cO q_t q_t_text q_t_people q_t_draft q_t_acts q_t_ends q_t_wants q_t_circle q_t_game q_t_stranger q_t_slots q_t_judged q_t_circle_bestFrom q_t_circle_from q_t_people_held q_t_people_known q_t_people_worths o_t_circle_bestGain o_t_circle_bestTakers o_t_circle_bestFrom o_t_circle_from t_people_count t_people_held t_people_known t_people_worths) o_r) (va_A (wlX10_ringAt cI cZ cO q_t q_t_text q_t_people q_t_draft q_t_acts q_t_ends q_t_wants q_t_circle q_t_game q_t_stranger q_t_slots q_t_judged q_t_circle_bestFrom q_t_circle_from q_t_people_held q_t_people_known q_t_people_worths t_circle_bestGain t_circle_bestTakers t_circle_bestFrom t_circle_from t_people_count t_people_held t_people_known t_people_worths) sz)) 0 0 (va_A (wlX10_ringAt cI cZ cO q_t q_t_text q_t_people q_t_draft q_t_acts q_t_ends q_t_wants q_t_circle q_t_game q_t_stranger q_t_slots q_t_judged q_t_circle_bestFrom q_t_circle_from q_t_people_held q_t_people_known q_t_people_worths t_circle_bestGain t_circle_bestTakers t_circle_bestFrom t_circle_from t_people_count t_people_held t_people_known t_people_worths) sz) := by
  unfold fX10_ringAt at h
  refine nh_met (cc := cX10_ringAt) (maxL := 2) (ret := (some .int)) (nh_Qi D (wlX10_ringAt cI cZ cO q_t q_t_text q_t_people q_t_draft q_t_acts q_t_ends q_t_wants q_t_circle q_t_game q_t_stranger q_t_slots q_t_judged q_t_circle_bestFrom q_t_circle_from q_t_people_held q_t_people_known q_t_people_worths o_t_circle_bestGain o_t_circle_bestTakers o_t_circle_bestFrom o_t_circle_from t_people_count t_people_held t_people_known t_people_worths) o_r) (by decide) rfl (Nat.le_of_ble_eq_true rfl) ?_
  intro p e s m args below meth c A H locs ls hx hb hml hr hown hts hlocks hinit hP hK hN hD hA hS hl
  have hl : lv_has ls 2 [(0, .ref q_t), (1, .int i1)] := hl
  have hts : ∀ w ∈ nh_words, w.before args s = true := fun w h => hts w (List.mem_cons_of_mem _ h)
  refine lv_aload_n hx hb dX10_ringAt_0 rfl (lv_at hl 0 rfl) ?_
  refine va_get (D := D) (ci := 9) (v := .ref q_t_people) (C := RX10) (T := TX10) (N := 11) hx hb hts nhu_X10 hown hK hP 0 rfl rfl 1 (by decide) (hts _ nhw_215) (fun _ h9 => h9) rfl dX10_ringAt_1 ?_
  refine lv_iload_n hx hb dX10_ringAt_4 rfl (lv_at hl 1 rfl) ?_
  refine nh_goi (nh_V (As := [.int i1]) (rest := []) ⟨hx, hb, hml, hown, hts⟩ (kX1_has  l D cI cZ cO H.size q_t_people q_t_people_held q_t_people_known q_t_people_worths t_people_count i1 (fX1_has t_people_count i1) rfl) (cwV 1 hts (nh_gV nhw_552 nhw_419 nhw_681 nhw_303 nhw_128) rfl rfl rfl (by decide +kernel) ⟨Nat.le_of_ble_eq_true rfl, Nat.le_of_ble_eq_true rfl⟩) hK hN hP hD (isC := [4]) rfl rfl 4 1 rfl rfl rfl rfl hl.1 rfl (Nat.le_of_ble_eq_true rfl) dX10_ringAt_5 ⟨Nat.zero_le _, Nat.zero_le _⟩) hP hD hS hA (isC := [4]) rfl rfl rfl (w' := (wlX10_ringAt cI cZ cO q_t q_t_text q_t_people q_t_draft q_t_acts q_t_ends q_t_wants q_t_circle q_t_game q_t_stranger q_t_slots q_t_judged q_t_circle_bestFrom q_t_circle_from q_t_people_held q_t_people_known q_t_people_worths t_circle_bestGain t_circle_bestTakers t_circle_bestFrom t_circle_from t_people_count t_people_held t_people_known t_people_worths)) rfl (fun H locs hP hD hS => ?_)
  refine lv_if_ne (tgt := 13) hx hb dX10_ringAt_8 (by decide) (fun c1 => ?_) (fun c1 => ?_)
  · replace h := nh_f h c1
    refine lv_aload_n hx hb dX10_ringAt_13 rfl (lv_at hl 0 rfl) ?_
    refine va_get (D := D) (ci := 9) (v := .ref q_t_circle) (C := RX10) (T := TX10) (N := 11) hx hb hts nhu_X10 hown hK hP 0 rfl rfl 6 (by decide) (hts _ nhw_223) (fun _ h9 => h9) rfl dX10_ringAt_14 ?_
    refine lv_aload_n hx hb dX10_ringAt_17 rfl (lv_at hl 0 rfl) ?_
    refine va_get (D := D) (ci := 9) (v := .ref q_t_people) (C := RX10) (T := TX10) (N := 11) hx hb hts nhu_X10 hown hK hP 0 rfl rfl 1 (by decide) (hts _ nhw_215) (fun _ h9 => h9) rfl dX10_ringAt_18 ?_
    obtain ⟨t_circle_bestGain_2, t_circle_bestTakers_3, t_circle_bestFrom_4, t_circle_from_5, hc6, h⟩ := nh_b4_some h
    refine nh_gov (nh_V (As := [.ref q_t_people]) (rest := []) ⟨hx, hb, hml, hown, hts⟩ (kX3_choose F l D cI cZ cO H.size q_t_circle q_t_people q_t_circle_bestFrom q_t_circle_from q_t_people_held q_t_people_known q_t_people_worths t_circle_bestGain t_circle_bestTakers t_circle_bestFrom t_circle_from t_people_count t_people_held t_people_known t_people_worths t_circle_bestGain_2 t_circle_bestTakers_3 t_circle_bestFrom_4 t_circle_from_5 hc6) (cwV 1 hts (nh_gV nhw_568 nhw_429 nhw_781 nhw_307 nhw_143) rfl rfl rfl (by decide +kernel) ⟨Nat.le_of_ble_eq_true rfl, Nat.le_of_ble_eq_true rfl⟩) hK hN hP hD (isC := [1, 2, 3, 4, 5, 6, 7]) rfl rfl 1 2 rfl rfl rfl rfl hl.1 rfl (Nat.le_of_ble_eq_true rfl) dX10_ringAt_21 ⟨Nat.zero_le _, Nat.zero_le _⟩) hP hD hS hA (isC := [1, 2, 3, 4, 5, 6, 7]) rfl rfl rfl (w' := (wlX10_ringAt cI cZ cO q_t q_t_text q_t_people q_t_draft q_t_acts q_t_ends q_t_wants q_t_circle q_t_game q_t_stranger q_t_slots q_t_judged q_t_circle_bestFrom q_t_circle_from q_t_people_held q_t_people_known q_t_people_worths t_circle_bestGain_2 t_circle_bestTakers_3 t_circle_bestFrom_4 t_circle_from_5 t_people_count t_people_held t_people_known t_people_worths)) rfl (fun H locs hP hD hS => ?_)
    refine lv_aload_n hx hb dX10_ringAt_24 rfl (lv_at hl 0 rfl) ?_
    refine va_get (D := D) (ci := 9) (v := .ref q_t_circle) (C := RX10) (T := TX10) (N := 11) hx hb hts nhu_X10 hown hK hP 0 rfl rfl 6 (by decide) (hts _ nhw_223) (fun _ h9 => h9) rfl dX10_ringAt_25 ?_
    refine va_get (D := D) (ci := 2) (v := .ref q_t_circle_bestFrom) (C := RX3) (T := TX3) (N := 4) hx hb hts nhu_X3 hown hK hP 1 rfl rfl 1 (by decide) (hts _ nhw_217) (fun _ h9 => h9) rfl dX10_ringAt_28 ?_
    refine lv_iload_n hx hb dX10_ringAt_31 rfl (lv_at hl 1 rfl) ?_
    obtain ⟨z7, h⟩ := nh_chk_some h
    refine va_iald hx hb hK hP 2 0 rfl rfl (nh_in_in z7) dX10_ringAt_32 ?_
    obtain ⟨g0, g1, g2, g3, g4⟩ := nh_i5 h
    exact nh_ri hx hb hr hlocks g0 (by rw [← g1, ← g2, ← g3, ← g4]; exact hP) hS dX10_ringAt_33
  · replace h := nh_t h c1
    refine lv_iconst (v := (-1)) hx hb dX10_ringAt_11 (by decide) ?_
    obtain ⟨g0, g1, g2, g3, g4⟩ := nh_i5 h
    exact nh_ri hx hb hr hlocks g0 (by rw [← g1, ← g2, ← g3, ← g4]; exact hP) hS dX10_ringAt_12
abbrev wlX10_frees (cI cZ cO : ClassId) (q_t q_t_text q_t_people q_t_draft q_t_acts q_t_ends q_t_wants q_t_circle q_t_game q_t_stranger q_t_slots q_t_judged q_t_people_held q_t_people_known q_t_people_worths : Nat) (t_people_count : Int32) (t_people_held : Nat → Int32) (t_people_known : Nat → Int32) : va_W := [(q_t, .inr (9, [.ref q_t_text, .ref q_t_people, .ref q_t_draft, .ref q_t_acts, .ref q_t_ends, .ref q_t_wants, .ref q_t_circle, .ref q_t_game, .ref q_t_stranger, .ref q_t_slots, .ref q_t_judged])), (q_t_people, .inr (1, [.int t_people_count, .ref q_t_people_held, .ref q_t_people_known, .ref q_t_people_worths])), (q_t_people_held, .inl (cI, 4, .inl t_people_held)), (q_t_people_known, .inl (cI, 4, .inl t_people_known))]
def fX10_frees_B13 (t_people_count : Int32) (t_people_held : Nat → Int32) (t_people_known : Nat → Int32) (i1 : Int32) (F : Nat) (k13 : Int32 → Int32 → Option (Int32)) (r13 : Int32 → Int32 → Option (Int32)) (x2_2 : Int32) (x3_3 : Int32) : Option (Int32) :=
  (if t_people_count ≤ x3_3 then k13 x2_2 x3_3
 else nh_chk (nh_in x3_3 4) ((if (t_people_held (Int32.toNatClampNeg x3_3)) = (-9) then nh_let (α := Int32) (x3_3 + 1) (fun x3_9 => r13 x2_2 x3_9)
 else nh_b1 (fX1_isNew t_people_count t_people_known x3_3 i1) (fun r_10 => (if r_10 = 0 then nh_let (α := Int32) (x3_3 + 1) (fun x3_13 => r13 x2_2 x3_13)
 else nh_b1 (fX1_canSwapAtAll F t_people_count t_people_held t_people_known x3_3) (fun r_14 => (if r_14 = 0 then nh_let (α := Int32) ((x2_2 ||| (1 <<< (x3_3 &&& 31)))) (fun y_18 => nh_let (α := Int32) (x3_3 + 1) (fun x3_19 => r13 y_18 x3_19))
 else nh_let (α := Int32) (x3_3 + 1) (fun x3_17 => r13 x2_2 x3_17))))))))
def fX10_frees_L13 (t_people_count : Int32) (t_people_held : Nat → Int32) (t_people_known : Nat → Int32) (i1 : Int32) (F : Nat) (k13 : Int32 → Int32 → Option (Int32)) : Nat → Int32 → Int32 → Option (Int32)
  | 0 => fun _ _ => none
  | n + 1 => fX10_frees_B13 t_people_count t_people_held t_people_known i1 F k13 (fX10_frees_L13 t_people_count t_people_held t_people_known i1 F k13 n)
def fX10_frees (F : Nat) (t_people_count : Int32) (t_people_held : Nat → Int32) (t_people_known : Nat → Int32) (i1 : Int32) : Option (Int32) :=
  (if (fX10_isSort i1) = 0 then some (-1)
 else fX10_frees_L13 t_people_count t_people_held t_people_known i1 F (fun x2_4 x3_5 => some x2_4) F 0 0)
set_option maxHeartbeats 4000000 in
set_option maxRecDepth 100000 in
theorem kX10_frees (F : Nat) (l : Launch) (D : va_G) (cI cZ cO : ClassId) (sz : Nat) (q_t q_t_text q_t_people q_t_draft q_t_acts q_t_ends q_t_wants q_t_circle q_t_game q_t_stranger q_t_slots q_t_judged q_t_people_held q_t_people_known q_t_people_worths : Nat) (t_people_count : Int32) (t_people_held : Nat → Int32) (t_people_known : Nat → Int32) (i1 : Int32) (o_r : Int32) (h : fX10_frees F t_people_count t_people_held t_people_known i1 = some o_r) : Met l yX10_frees (nh_w (.code yX10_frees cX10_frees 4 (some .int))) (nh_rm 3) (nh_Pc D cI cZ cO (wlX10_frees cI cZ cO q_t q_t_text q_t_people q_t_draft q_t_acts q_t_ends q_t_wants q_t_circle q_t_game q_t_stranger q_t_slots q_t_judged q_t_people_held q_t_people_known q_t_people_worths t_people_count t_people_held t_people_known) [.ref q_t, .int i1] sz) ((nh_Qi D (wlX10_frees cI cZ cO q_t q_t_text q_t_people q_t_draft q_t_acts q_t_ends q_t_wants q_t_circle q_t_game q_t_stranger q_t_slots q_t_judged q_t_people_held q_t_people_known q_t_people_worths t_people_count t_people_held t_people_known) o_r) (va_A (wlX10_frees cI cZ cO q_t q_t_text q_t_people q_t_draft q_t_acts q_t_ends q_t_wants q_t_circle q_t_game q_t_stranger q_t_slots q_t_judged q_t_people_held q_t_people_known q_t_people_worths t_people_count t_people_held t_people_known) sz)) 0 0 (va_A (wlX10_frees cI cZ cO q_t q_t_text q_t_people q_t_draft q_t_acts q_t_ends q_t_wants q_t_circle q_t_game q_t_stranger q_t_slots q_t_judged q_t_people_held q_t_people_known q_t_people_worths t_people_count t_people_held t_people_known) sz) := by
  unfold fX10_frees at h
  refine nh_met (cc := cX10_frees) (maxL := 4) (ret := (some .int)) (nh_Qi D (wlX10_frees cI cZ cO q_t q_t_text q_t_people q_t_draft q_t_acts q_t_ends q_t_wants q_t_circle q_t_game q_t_stranger q_t_slots q_t_judged q_t_people_held q_t_people_known q_t_people_worths t_people_count t_people_held t_people_known) o_r) (by decide) rfl (Nat.le_of_ble_eq_true rfl) ?_
  intro p e s m args below meth c A H locs ls hx hb hml hr hown hts hlocks hinit hP hK hN hD hA hS hl
  have hl : lv_has ls 4 [(0, .ref q_t), (1, .int i1)] := hl
  have hts : ∀ w ∈ nh_words, w.before args s = true := fun w h => hts w (List.mem_cons_of_mem _ h)
  refine lv_iload_n hx hb dX10_frees_0 rfl (lv_at hl 1 rfl) ?_
  refine nh_goi (nh_S (As := [.int i1]) (rest := []) ⟨hx, hb, hml, hown, hts⟩ (kX10_isSort  l D cI cZ cO H.size i1 (fX10_isSort i1) rfl) (va_cwS 1 hts (nh_gS nhw_553 nhw_806 nhw_304 nhw_37) rfl rfl rfl (by decide +kernel) ⟨Nat.le_of_ble_eq_true rfl, Nat.le_of_ble_eq_true rfl⟩) hK hN hP hD (isC := []) rfl rfl rfl hl.1 rfl (Nat.le_of_ble_eq_true rfl) dX10_frees_1 ⟨Nat.zero_le _, Nat.zero_le _⟩) hP hD hS hA (isC := []) rfl rfl rfl (w' := (wlX10_frees cI cZ cO q_t q_t_text q_t_people q_t_draft q_t_acts q_t_ends q_t_wants q_t_circle q_t_game q_t_stranger q_t_slots q_t_judged q_t_people_held q_t_people_known q_t_people_worths t_people_count t_people_held t_people_known)) rfl (fun H locs hP hD hS => ?_)
  refine lv_if_ne (tgt := 9) hx hb dX10_frees_4 (by decide) (fun c1 => ?_) (fun c1 => ?_)
  · replace h := nh_f h c1
    refine lv_iconst (v := 0) hx hb dX10_frees_9 (by decide) ?_
    refine lv_istore_n (lv' := [(2, .int 0), (0, .ref q_t), (1, .int i1)]) hx hb dX10_frees_10 rfl hl (by decide) rfl (fun ls hl => ?_)
    refine lv_iconst (v := 0) hx hb dX10_frees_11 (by decide) ?_
    refine lv_istore_n (lv' := [(3, .int 0), (2, .int 0), (0, .ref q_t), (1, .int i1)]) hx hb dX10_frees_12 rfl hl (by decide) rfl (fun ls hl => ?_)
    have L13 : ∀ (k13 : Int32 → Int32 → Option (Int32)), (∀ (x2_4 : Int32) (x3_5 : Int32) (H : Heap) (locs : List Loc) (ls : Array Slot), va_P D vwCl (wlX10_frees cI cZ cO q_t q_t_text q_t_people q_t_draft q_t_acts q_t_ends q_t_wants q_t_circle q_t_game q_t_stranger q_t_slots q_t_judged q_t_people_held q_t_people_known q_t_people_worths t_people_count t_people_held t_people_known) H → va_D A (wlX10_frees cI cZ cO q_t q_t_text q_t_people q_t_draft q_t_acts q_t_ends q_t_wants q_t_circle q_t_game q_t_stranger q_t_slots q_t_judged q_t_people_held q_t_people_known q_t_people_worths t_people_count t_people_held t_people_known) → va_S A s.heap H locs → lv_has ls 4 [(0, .ref q_t), (1, .int i1), (2, .int x2_4), (3, .int x3_5)] → k13 x2_4 x3_5 = some o_r → W p l e (nh_rm 3) s m args below meth c H locs 0 0 (MQ below ((nh_Qi D (wlX10_frees cI cZ cO q_t q_t_text q_t_people q_t_draft q_t_acts q_t_ends q_t_wants q_t_circle q_t_game q_t_stranger q_t_slots q_t_judged q_t_people_held q_t_people_known q_t_people_worths t_people_count t_people_held t_people_known) o_r) A) args s 0 0 A) (F0 m 73 ls [])) → ∀ (n : Nat) (x2_2 : Int32) (x3_3 : Int32) (H : Heap) (locs : List Loc) (ls : Array Slot), va_P D vwCl (wlX10_frees cI cZ cO q_t q_t_text q_t_people q_t_draft q_t_acts q_t_ends q_t_wants q_t_circle q_t_game q_t_stranger q_t_slots q_t_judged q_t_people_held q_t_people_known q_t_people_worths t_people_count t_people_held t_people_known) H → va_D A (wlX10_frees cI cZ cO q_t q_t_text q_t_people q_t_draft q_t_acts q_t_ends q_t_wants q_t_circle q_t_game q_t_stranger q_t_slots q_t_judged q_t_people_held q_t_people_known q_t_people_worths t_people_count t_people_held t_people_known) → va_S A s.heap H locs → lv_has ls 4 [(0, .ref q_t), (1, .int i1), (2, .int x2_2), (3, .int x3_3)] → fX10_frees_L13 t_people_count t_people_held t_people_known i1 F k13 n x2_2 x3_3 = some o_r → W p l e (nh_rm 3) s m args below meth c H locs 0 0 (MQ below ((nh_Qi D (wlX10_frees cI cZ cO q_t q_t_text q_t_people q_t_draft q_t_acts q_t_ends q_t_wants q_t_circle q_t_game q_t_stranger q_t_slots q_t_judged q_t_people_held q_t_people_known q_t_people_worths t_people_count t_people_held t_people_known) o_r) A) args s 0 0 A) (F0 m 13 ls []) := by
      intro k13 hk13 n
      induction n with
      | zero => intro x2_2 x3_3 H locs ls hP hD hS hl h; exact (nh_none h).elim
      | succ n13 ih13 =>
        intro x2_2 x3_3 H locs ls hP hD hS hl h
        replace h : fX10_frees_B13 t_people_count t_people_held t_people_known i1 F k13 (fX10_frees_L13 t_people_count t_people_held t_people_known i1 F k13 n13) x2_2 x3_3 = some o_r := h
        unfold fX10_frees_B13 at h
        refine lv_iload_n hx hb dX10_frees_13 rfl (lv_at hl 3 rfl) ?_
        refine lv_aload_n hx hb dX10_frees_14 rfl (lv_at hl 0 rfl) ?_
        refine va_get (D := D) (ci := 9) (v := .ref q_t_people) (C := RX10) (T := TX10) (N := 11) hx hb hts nhu_X10 hown hK hP 0 rfl rfl 1 (by decide) (hts _ nhw_215) (fun _ h9 => h9) rfl dX10_frees_15 ?_
        refine va_get (D := D) (ci := 1) (v := .int t_people_count) (C := RX1) (T := TX1) (N := 4) hx hb hts nhu_X1 hown hK hP 1 rfl rfl 0 (by decide) (hts _ nhw_204) (fun _ h9 => h9) rfl dX10_frees_18 ?_
        refine lv_icmp_ge (tgt := 73) hx hb dX10_frees_21 (by decide) (fun c6 => ?_) (fun c6 => ?_)
        · replace h := nh_t h c6
          exact hk13 x2_2 x3_3 H locs ls hP hD hS (lv_sub hl [0, 1, 2, 3] rfl) h
        · replace h := nh_f h c6
          refine lv_aload_n hx hb dX10_frees_24 rfl (lv_at hl 0 rfl) ?_
          refine va_get (D := D) (ci := 9) (v := .ref q_t_people) (C := RX10) (T := TX10) (N := 11) hx hb hts nhu_X10 hown hK hP 0 rfl rfl 1 (by decide) (hts _ nhw_215) (fun _ h9 => h9) rfl dX10_frees_25 ?_
          refine va_get (D := D) (ci := 1) (v := .ref q_t_people_held) (C := RX1) (T := TX1) (N := 4) hx hb hts nhu_X1 hown hK hP 1 rfl rfl 1 (by decide) (hts _ nhw_207) (fun _ h9 => h9) rfl dX10_frees_28 ?_
          refine lv_iload_n hx hb dX10_frees_31 rfl (lv_at hl 3 rfl) ?_
          obtain ⟨z7, h⟩ := nh_chk_some h
          refine va_iald hx hb hK hP 2 0 rfl rfl (nh_in_in z7) dX10_frees_32 ?_
          refine lv_bipush (v := (-9)) hx hb dX10_frees_33 (by decide) ?_
          refine lv_icmp_eq (tgt := 67) hx hb dX10_frees_35 (by decide) (fun c8 => ?_) (fun c8 => ?_)
          · replace h := nh_t h c8
            obtain ⟨x3_9, ex3_9⟩ : ∃ y : Int32, y = x3_3 + 1 := ⟨_, rfl⟩
            replace h := nh_to h ex3_9
            refine lv_iinc (v := x3_9) (lv' := [(3, .int x3_9), (0, .ref q_t), (1, .int i1), (2, .int x2_2)]) hx hb dX10_frees_67 hl (k := 3) rfl (by rw [ex3_9]; rfl) (by decide) rfl (fun ls hl => ?_)
            refine lv_goto (tgt := 13) hx hb dX10_frees_70 (by decide) ?_
            exact ih13 x2_2 x3_9 H locs ls hP hD hS (lv_sub hl [1, 2, 3, 0] rfl) h
          · replace h := nh_f h c8
            refine lv_aload_n hx hb dX10_frees_38 rfl (lv_at hl 0 rfl) ?_
            refine va_get (D := D) (ci := 9) (v := .ref q_t_people) (C := RX10) (T := TX10) (N := 11) hx hb hts nhu_X10 hown hK hP 0 rfl rfl 1 (by decide) (hts _ nhw_215) (fun _ h9 => h9) rfl dX10_frees_39 ?_
            refine lv_iload_n hx hb dX10_frees_42 rfl (lv_at hl 3 rfl) ?_
            refine lv_iload_n hx hb dX10_frees_43 rfl (lv_at hl 1 rfl) ?_
            obtain ⟨r_10, hc11, h⟩ := nh_b1_some h
            refine nh_goi (nh_V (As := [.int x3_3, .int i1]) (rest := []) ⟨hx, hb, hml, hown, hts⟩ (kX1_isNew  l D cI cZ cO H.size q_t_people q_t_people_held q_t_people_known q_t_people_worths t_people_count t_people_known x3_3 i1 r_10 hc11) (cwV 2 hts (nh_gV nhw_569 nhw_423 nhw_684 nhw_303 nhw_132) rfl rfl rfl (by decide +kernel) ⟨Nat.le_of_ble_eq_true rfl, Nat.le_of_ble_eq_true rfl⟩) hK hN hP hD (isC := [1, 3]) rfl rfl 1 1 rfl rfl rfl rfl hl.1 rfl (Nat.le_of_ble_eq_true rfl) dX10_frees_44 ⟨Nat.zero_le _, Nat.zero_le _⟩) hP hD hS hA (isC := [1, 3]) rfl rfl rfl (w' := (wlX10_frees cI cZ cO q_t q_t_text q_t_people q_t_draft q_t_acts q_t_ends q_t_wants q_t_circle q_t_game q_t_stranger q_t_slots q_t_judged q_t_people_held q_t_people_known q_t_people_worths t_people_count t_people_held t_people_known)) rfl (fun H locs hP hD hS => ?_)
            refine lv_if_eq (tgt := 67) hx hb dX10_frees_47 (by decide) (fun c12 => ?_) (fun c12 => ?_)
            · replace h := nh_t h c12
              obtain ⟨x3_13, ex3_13⟩ : ∃ y : Int32, y = x3_3 + 1 := ⟨_, rfl⟩
              replace h := nh_to h ex3_13
              refine lv_iinc (v := x3_13) (lv' := [(3, .int x3_13), (0, .ref q_t), (1, .int i1), (2, .int x2_2)]) hx hb dX10_frees_67 hl (k := 3) rfl (by rw [ex3_13]; rfl) (by decide) rfl (fun ls hl => ?_)
              refine lv_goto (tgt := 13) hx hb dX10_frees_70 (by decide) ?_
              exact ih13 x2_2 x3_13 H locs ls hP hD hS (lv_sub hl [1, 2, 3, 0] rfl) h
            · replace h := nh_f h c12
              refine lv_aload_n hx hb dX10_frees_50 rfl (lv_at hl 0 rfl) ?_
              refine va_get (D := D) (ci := 9) (v := .ref q_t_people) (C := RX10) (T := TX10) (N := 11) hx hb hts nhu_X10 hown hK hP 0 rfl rfl 1 (by decide) (hts _ nhw_215) (fun _ h9 => h9) rfl dX10_frees_51 ?_
              refine lv_iload_n hx hb dX10_frees_54 rfl (lv_at hl 3 rfl) ?_
              obtain ⟨r_14, hc15, h⟩ := nh_b1_some h
              refine nh_goi (nh_V (As := [.int x3_3]) (rest := []) ⟨hx, hb, hml, hown, hts⟩ (kX1_canSwapAtAll F l D cI cZ cO H.size q_t_people q_t_people_held q_t_people_known q_t_people_worths t_people_count t_people_held t_people_known x3_3 r_14 hc15) (cwV 1 hts (nh_gV nhw_570 nhw_416 nhw_678 nhw_303 nhw_125) rfl rfl rfl (by decide +kernel) ⟨Nat.le_of_ble_eq_true rfl, Nat.le_of_ble_eq_true rfl⟩) hK hN hP hD (isC := [1, 2, 3]) rfl rfl 1 1 rfl rfl rfl rfl hl.1 rfl (Nat.le_of_ble_eq_true rfl) dX10_frees_55 ⟨Nat.zero_le _, Nat.zero_le _⟩) hP hD hS hA (isC := [1, 2, 3]) rfl rfl rfl (w' := (wlX10_frees cI cZ cO q_t q_t_text q_t_people q_t_draft q_t_acts q_t_ends q_t_wants q_t_circle q_t_game q_t_stranger q_t_slots q_t_judged q_t_people_held q_t_people_known q_t_people_worths t_people_count t_people_held t_people_known)) rfl (fun H locs hP hD hS => ?_)
              refine lv_if_ne (tgt := 67) hx hb dX10_frees_58 (by decide) (fun c16 => ?_) (fun c16 => ?_)
              · replace h := nh_f h c16
                obtain ⟨x3_17, ex3_17⟩ : ∃ y : Int32, y = x3_3 + 1 := ⟨_, rfl⟩
                replace h := nh_to h ex3_17
                refine lv_iinc (v := x3_17) (lv' := [(3, .int x3_17), (0, .ref q_t), (1, .int i1), (2, .int x2_2)]) hx hb dX10_frees_67 hl (k := 3) rfl (by rw [ex3_17]; rfl) (by decide) rfl (fun ls hl => ?_)
                refine lv_goto (tgt := 13) hx hb dX10_frees_70 (by decide) ?_
                exact ih13 x2_2 x3_17 H locs ls hP hD hS (lv_sub hl [1, 2, 3, 0] rfl) h
              · replace h := nh_t h c16
                refine lv_iload_n hx hb dX10_frees_61 rfl (lv_at hl 2 rfl) ?_
                refine lv_iconst (v := 1) hx hb dX10_frees_62 (by decide) ?_
                refine lv_iload_n hx hb dX10_frees_63 rfl (lv_at hl 3 rfl) ?_
                refine lv_ishl hx hb dX10_frees_64 ?_
                refine lv_ior hx hb dX10_frees_65 ?_
                refine lv_topi (fun y_18 ey_18 => ?_)
                replace h := nh_to h ey_18
                refine lv_istore_n (lv' := [(2, .int y_18), (0, .ref q_t), (1, .int i1), (3, .int x3_3)]) hx hb dX10_frees_66 rfl hl (by decide) rfl (fun ls hl => ?_)
                obtain ⟨x3_19, ex3_19⟩ : ∃ y : Int32, y = x3_3 + 1 := ⟨_, rfl⟩
                replace h := nh_to h ex3_19
                refine lv_iinc (v := x3_19) (lv' := [(3, .int x3_19), (2, .int y_18), (0, .ref q_t), (1, .int i1)]) hx hb dX10_frees_67 hl (k := 3) rfl (by rw [ex3_19]; rfl) (by decide) rfl (fun ls hl => ?_)
                refine lv_goto (tgt := 13) hx hb dX10_frees_70 (by decide) ?_
                exact ih13 y_18 x3_19 H locs ls hP hD hS (lv_sub hl [2, 3, 1, 0] rfl) h
    refine L13 _ (fun x2_4 x3_5 H locs ls hP hD hS hl h => ?_) _ 0 0 H locs ls hP hD hS (lv_sub hl [2, 3, 1, 0] rfl) h
    refine lv_iload_n hx hb dX10_frees_73 rfl (lv_at hl 2 rfl) ?_
    replace h := nh_i1 h
    exact nh_ri hx hb hr hlocks h hP hS dX10_frees_74
  · replace h := nh_t h c1
    refine lv_iconst (v := (-1)) hx hb dX10_frees_7 (by decide) ?_
    replace h := nh_i1 h
    exact nh_ri hx hb hr hlocks h hP hS dX10_frees_8
abbrev wlX10_turns (cI cZ cO : ClassId) (q_t q_t_text q_t_people q_t_draft q_t_acts q_t_ends q_t_wants q_t_circle q_t_game q_t_stranger q_t_slots q_t_judged q_t_people_held q_t_people_known q_t_people_worths : Nat) (t_game_opening : Int32) (t_game_end : Int32) (t_people_count : Int32) (t_people_held : Nat → Int32) (t_people_known : Nat → Int32) (t_people_worths : Nat → Int32) : va_W := [(q_t, .inr (9, [.ref q_t_text, .ref q_t_people, .ref q_t_draft, .ref q_t_acts, .ref q_t_ends, .ref q_t_wants, .ref q_t_circle, .ref q_t_game, .ref q_t_stranger, .ref q_t_slots, .ref q_t_judged])), (q_t_game, .inr (7, [.int t_game_opening, .int t_game_end])), (q_t_people, .inr (1, [.int t_people_count, .ref q_t_people_held, .ref q_t_people_known, .ref q_t_people_worths])), (q_t_people_held, .inl (cI, 4, .inl t_people_held)), (q_t_people_known, .inl (cI, 4, .inl t_people_known)), (q_t_people_worths, .inl (cI, 24, .inl t_people_worths))]
def fX10_turns (F : Nat) (t_game_opening : Int32) (t_game_end : Int32) (t_people_count : Int32) (t_people_held : Nat → Int32) (t_people_known : Nat → Int32) (t_people_worths : Nat → Int32) (i1 : Int32) (i2 : Int32) : Option (Int32 × Int32 × Int32 × (Nat → Int32) × (Nat → Int32)) :=
  (if (fX1_has t_people_count i2) = 0 then some ((-1), t_game_opening, t_game_end, t_people_held, t_people_known)
 else (if i1 < 1 then some ((-2), t_game_opening, t_game_end, t_people_held, t_people_known)
 else (if i1 ≤ 6 then nh_b4 (fX8_play F t_game_opening t_game_end t_people_count t_people_held t_people_known t_people_worths i1) (fun t_game_opening_4 t_game_end_5 t_people_held_6 t_people_known_7 => some ((fX8_holdsInTheEnd t_game_end_5 i2), t_game_opening_4, t_game_end_5, t_people_held_6, t_people_known_7))
 else some ((-2), t_game_opening, t_game_end, t_people_held, t_people_known))))
set_option maxHeartbeats 4000000 in
set_option maxRecDepth 100000 in
theorem kX10_turns (F : Nat) (l : Launch) (D : va_G) (cI cZ cO : ClassId) (sz : Nat) (q_t q_t_text q_t_people q_t_draft q_t_acts q_t_ends q_t_wants q_t_circle q_t_game q_t_stranger q_t_slots q_t_judged q_t_people_held q_t_people_known q_t_people_worths : Nat) (t_game_opening : Int32) (t_game_end : Int32) (t_people_count : Int32) (t_people_held : Nat → Int32) (t_people_known : Nat → Int32) (t_people_worths : Nat → Int32) (i1 : Int32) (i2 : Int32) (o_r : Int32) (o_t_game_opening : Int32) (o_t_game_end : Int32) (o_t_people_held : Nat → Int32) (o_t_people_known : Nat → Int32) (h : fX10_turns F t_game_opening t_game_end t_people_count t_people_held t_people_known t_people_worths i1 i2 = some (o_r, o_t_game_opening, o_t_game_end, o_t_people_held, o_t_people_known)) : Met l yX10_turns (nh_w (.code yX10_turns cX10_turns 3 (some .int))) (nh_rm 25) (nh_Pc D cI cZ cO (wlX10_turns cI cZ cO q_t q_t_text q_t_people q_t_draft q_t_acts q_t_ends q_t_wants q_t_circle q_t_game q_t_stranger q_t_slots q_t_judged q_t_people_held q_t_people_known q_t_people_worths t_game_opening t_game_end t_people_count t_people_held t_people_known t_people_worths) [.ref q_t, .int i1, .int i2] sz) ((nh_Qi D (wlX10_turns cI cZ cO q_t q_t_text q_t_people q_t_draft q_t_acts q_t_ends q_t_wants q_t_circle q_t_game q_t_stranger q_t_slots q_t_judged q_t_people_held q_t_people_known q_t_people_worths o_t_game_opening o_t_game_end t_people_count o_t_people_held o_t_people_known t_people_worths) o_r) (va_A (wlX10_turns cI cZ cO q_t q_t_text q_t_people q_t_draft q_t_acts q_t_ends q_t_wants q_t_circle q_t_game q_t_stranger q_t_slots q_t_judged q_t_people_held q_t_people_known q_t_people_worths t_game_opening t_game_end t_people_count t_people_held t_people_known t_people_worths) sz)) 0 0 (va_A (wlX10_turns cI cZ cO q_t q_t_text q_t_people q_t_draft q_t_acts q_t_ends q_t_wants q_t_circle q_t_game q_t_stranger q_t_slots q_t_judged q_t_people_held q_t_people_known q_t_people_worths t_game_opening t_game_end t_people_count t_people_held t_people_known t_people_worths) sz) := by
  unfold fX10_turns at h
  refine nh_met (cc := cX10_turns) (maxL := 3) (ret := (some .int)) (nh_Qi D (wlX10_turns cI cZ cO q_t q_t_text q_t_people q_t_draft q_t_acts q_t_ends q_t_wants q_t_circle q_t_game q_t_stranger q_t_slots q_t_judged q_t_people_held q_t_people_known q_t_people_worths o_t_game_opening o_t_game_end t_people_count o_t_people_held o_t_people_known t_people_worths) o_r) (by decide) rfl (Nat.le_of_ble_eq_true rfl) ?_
  intro p e s m args below meth c A H locs ls hx hb hml hr hown hts hlocks hinit hP hK hN hD hA hS hl
  have hl : lv_has ls 3 [(0, .ref q_t), (1, .int i1), (2, .int i2)] := hl
  have hts : ∀ w ∈ nh_words, w.before args s = true := fun w h => hts w (List.mem_cons_of_mem _ h)
  refine lv_aload_n hx hb dX10_turns_0 rfl (lv_at hl 0 rfl) ?_
  refine va_get (D := D) (ci := 9) (v := .ref q_t_people) (C := RX10) (T := TX10) (N := 11) hx hb hts nhu_X10 hown hK hP 0 rfl rfl 1 (by decide) (hts _ nhw_215) (fun _ h9 => h9) rfl dX10_turns_1 ?_
  refine lv_iload_n hx hb dX10_turns_4 rfl (lv_at hl 2 rfl) ?_
  refine nh_goi (nh_V (As := [.int i2]) (rest := []) ⟨hx, hb, hml, hown, hts⟩ (kX1_has  l D cI cZ cO H.size q_t_people q_t_people_held q_t_people_known q_t_people_worths t_people_count i2 (fX1_has t_people_count i2) rfl) (cwV 1 hts (nh_gV nhw_552 nhw_419 nhw_681 nhw_303 nhw_128) rfl rfl rfl (by decide +kernel) ⟨Nat.le_of_ble_eq_true rfl, Nat.le_of_ble_eq_true rfl⟩) hK hN hP hD (isC := [2]) rfl rfl 2 1 rfl rfl rfl rfl hl.1 rfl (Nat.le_of_ble_eq_true rfl) dX10_turns_5 ⟨Nat.zero_le _, Nat.zero_le _⟩) hP hD hS hA (isC := [2]) rfl rfl rfl (w' := (wlX10_turns cI cZ cO q_t q_t_text q_t_people q_t_draft q_t_acts q_t_ends q_t_wants q_t_circle q_t_game q_t_stranger q_t_slots q_t_judged q_t_people_held q_t_people_known q_t_people_worths t_game_opening t_game_end t_people_count t_people_held t_people_known t_people_worths)) rfl (fun H locs hP hD hS => ?_)
  refine lv_if_ne (tgt := 13) hx hb dX10_turns_8 (by decide) (fun c1 => ?_) (fun c1 => ?_)
  · replace h := nh_f h c1
    refine lv_iload_n hx hb dX10_turns_13 rfl (lv_at hl 1 rfl) ?_
    refine lv_iconst (v := 1) hx hb dX10_turns_14 (by decide) ?_
    refine lv_icmp_lt (tgt := 24) hx hb dX10_turns_15 (by decide) (fun c2 => ?_) (fun c2 => ?_)
    · replace h := nh_t h c2
      refine lv_bipush (v := (-2)) hx hb dX10_turns_24 (by decide) ?_
      obtain ⟨g0, g1, g2, g3, g4⟩ := nh_i5 h
      exact nh_ri hx hb hr hlocks g0 (by rw [← g1, ← g2, ← g3, ← g4]; exact hP) hS dX10_turns_26
    · replace h := nh_f h c2
      refine lv_iload_n hx hb dX10_turns_18 rfl (lv_at hl 1 rfl) ?_
      refine lv_bipush (v := 6) hx hb dX10_turns_19 (by decide) ?_
      refine lv_icmp_le (tgt := 27) hx hb dX10_turns_21 (by decide) (fun c3 => ?_) (fun c3 => ?_)
      · replace h := nh_t h c3
        refine lv_aload_n hx hb dX10_turns_27 rfl (lv_at hl 0 rfl) ?_
        refine va_get (D := D) (ci := 9) (v := .ref q_t_game) (C := RX10) (T := TX10) (N := 11) hx hb hts nhu_X10 hown hK hP 0 rfl rfl 7 (by decide) (hts _ nhw_224) (fun _ h9 => h9) rfl dX10_turns_28 ?_
        refine lv_aload_n hx hb dX10_turns_31 rfl (lv_at hl 0 rfl) ?_
        refine va_get (D := D) (ci := 9) (v := .ref q_t_people) (C := RX10) (T := TX10) (N := 11) hx hb hts nhu_X10 hown hK hP 0 rfl rfl 1 (by decide) (hts _ nhw_215) (fun _ h9 => h9) rfl dX10_turns_32 ?_
        refine lv_iload_n hx hb dX10_turns_35 rfl (lv_at hl 1 rfl) ?_
        obtain ⟨t_game_opening_4, t_game_end_5, t_people_held_6, t_people_known_7, hc8, h⟩ := nh_b4_some h
        refine nh_gov (nh_V (As := [.ref q_t_people, .int i1]) (rest := []) ⟨hx, hb, hml, hown, hts⟩ (kX8_play F l D cI cZ cO H.size q_t_game q_t_people q_t_people_held q_t_people_known q_t_people_worths t_game_opening t_game_end t_people_count t_people_held t_people_known t_people_worths i1 t_game_opening_4 t_game_end_5 t_people_held_6 t_people_known_7 hc8) (cwV 2 hts (nh_gV nhw_571 nhw_448 nhw_794 nhw_312 nhw_172) rfl rfl rfl (by decide +kernel) ⟨Nat.le_of_ble_eq_true rfl, Nat.le_of_ble_eq_true rfl⟩) hK hN hP hD (isC := [1, 2, 3, 4, 5]) rfl rfl 1 7 rfl rfl rfl rfl hl.1 rfl (Nat.le_of_ble_eq_true rfl) dX10_turns_36 ⟨Nat.zero_le _, Nat.zero_le _⟩) hP hD hS hA (isC := [1, 2, 3, 4, 5]) rfl rfl rfl (w' := (wlX10_turns cI cZ cO q_t q_t_text q_t_people q_t_draft q_t_acts q_t_ends q_t_wants q_t_circle q_t_game q_t_stranger q_t_slots q_t_judged q_t_people_held q_t_people_known q_t_people_worths t_game_opening_4 t_game_end_5 t_people_count t_people_held_6 t_people_known_7 t_people_worths)) rfl (fun H locs hP hD hS => ?_)
        refine lv_aload_n hx hb dX10_turns_39 rfl (lv_at hl 0 rfl) ?_
        refine va_get (D := D) (ci := 9) (v := .ref q_t_game) (C := RX10) (T := TX10) (N := 11) hx hb hts nhu_X10 hown hK hP 0 rfl rfl 7 (by decide) (hts _ nhw_224) (fun _ h9 => h9) rfl dX10_turns_40 ?_
        refine lv_iload_n hx hb dX10_turns_43 rfl (lv_at hl 2 rfl) ?_
        refine nh_goi (nh_V (As := [.int i2]) (rest := []) ⟨hx, hb, hml, hown, hts⟩ (kX8_holdsInTheEnd  l D cI cZ cO H.size q_t_game t_game_opening_4 t_game_end_5 i2 (fX8_holdsInTheEnd t_game_end_5 i2) rfl) (cwV 1 hts (nh_gV nhw_572 nhw_446 nhw_793 nhw_312 nhw_170) rfl rfl rfl (by decide +kernel) ⟨Nat.le_of_ble_eq_true rfl, Nat.le_of_ble_eq_true rfl⟩) hK hN hP hD (isC := [1]) rfl rfl 1 7 rfl rfl rfl rfl hl.1 rfl (Nat.le_of_ble_eq_true rfl) dX10_turns_44 ⟨Nat.zero_le _, Nat.zero_le _⟩) hP hD hS hA (isC := [1]) rfl rfl rfl (w' := (wlX10_turns cI cZ cO q_t q_t_text q_t_people q_t_draft q_t_acts q_t_ends q_t_wants q_t_circle q_t_game q_t_stranger q_t_slots q_t_judged q_t_people_held q_t_people_known q_t_people_worths t_game_opening_4 t_game_end_5 t_people_count t_people_held_6 t_people_known_7 t_people_worths)) rfl (fun H locs hP hD hS => ?_)
        obtain ⟨g0, g1, g2, g3, g4⟩ := nh_i5 h
        exact nh_ri hx hb hr hlocks g0 (by rw [← g1, ← g2, ← g3, ← g4]; exact hP) hS dX10_turns_47
      · replace h := nh_f h c3
        refine lv_bipush (v := (-2)) hx hb dX10_turns_24 (by decide) ?_
        obtain ⟨g0, g1, g2, g3, g4⟩ := nh_i5 h
        exact nh_ri hx hb hr hlocks g0 (by rw [← g1, ← g2, ← g3, ← g4]; exact hP) hS dX10_turns_26
  · replace h := nh_t h c1
    refine lv_iconst (v := (-1)) hx hb dX10_turns_11 (by decide) ?_
    obtain ⟨g0, g1, g2, g3, g4⟩ := nh_i5 h
    exact nh_ri hx hb hr hlocks g0 (by rw [← g1, ← g2, ← g3, ← g4]; exact hP) hS dX10_turns_12
abbrev wlX10_first (cI cZ cO : ClassId) (q_t q_t_text q_t_people q_t_draft q_t_acts q_t_ends q_t_wants q_t_circle q_t_game q_t_stranger q_t_slots q_t_judged q_t_people_held q_t_people_known q_t_people_worths : Nat) (t_game_opening : Int32) (t_game_end : Int32) (t_people_count : Int32) (t_people_held : Nat → Int32) (t_people_known : Nat → Int32) (t_people_worths : Nat → Int32) : va_W := [(q_t, .inr (9, [.ref q_t_text, .ref q_t_people, .ref q_t_draft, .ref q_t_acts, .ref q_t_ends, .ref q_t_wants, .ref q_t_circle, .ref q_t_game, .ref q_t_stranger, .ref q_t_slots, .ref q_t_judged])), (q_t_game, .inr (7, [.int t_game_opening, .int t_game_end])), (q_t_people, .inr (1, [.int t_people_count, .ref q_t_people_held, .ref q_t_people_known, .ref q_t_people_worths])), (q_t_people_held, .inl (cI, 4, .inl t_people_held)), (q_t_people_known, .inl (cI, 4, .inl t_people_known)), (q_t_people_worths, .inl (cI, 24, .inl t_people_worths))]
def fX10_first (F : Nat) (t_game_opening : Int32) (t_game_end : Int32) (t_people_count : Int32) (t_people_held : Nat → Int32) (t_people_known : Nat → Int32) (t_people_worths : Nat → Int32) (i1 : Int32) : Option (Int32 × Int32 × Int32 × (Nat → Int32) × (Nat → Int32)) :=
  (if i1 < 1 then some ((-2), t_game_opening, t_game_end, t_people_held, t_people_known)
 else (if i1 ≤ 6 then nh_b4 (fX8_play F t_game_opening t_game_end t_people_count t_people_held t_people_known t_people_worths i1) (fun t_game_opening_3 t_game_end_4 t_people_held_5 t_people_known_6 => some (t_game_opening_3, t_game_opening_3, t_game_end_4, t_people_held_5, t_people_known_6))
 else some ((-2), t_game_opening, t_game_end, t_people_held, t_people_known)))
set_option maxHeartbeats 4000000 in
set_option maxRecDepth 100000 in
theorem kX10_first (F : Nat) (l : Launch) (D : va_G) (cI cZ cO : ClassId) (sz : Nat) (q_t q_t_text q_t_people q_t_draft q_t_acts q_t_ends q_t_wants q_t_circle q_t_game q_t_stranger q_t_slots q_t_judged q_t_people_held q_t_people_known q_t_people_worths : Nat) (t_game_opening : Int32) (t_game_end : Int32) (t_people_count : Int32) (t_people_held : Nat → Int32) (t_people_known : Nat → Int32) (t_people_worths : Nat → Int32) (i1 : Int32) (o_r : Int32) (o_t_game_opening : Int32) (o_t_game_end : Int32) (o_t_people_held : Nat → Int32) (o_t_people_known : Nat → Int32) (h : fX10_first F t_game_opening t_game_end t_people_count t_people_held t_people_known t_people_worths i1 = some (o_r, o_t_game_opening, o_t_game_end, o_t_people_held, o_t_people_known)) : Met l yX10_first (nh_w (.code yX10_first cX10_first 2 (some .int))) (nh_rm 25) (nh_Pc D cI cZ cO (wlX10_first cI cZ cO q_t q_t_text q_t_people q_t_draft q_t_acts q_t_ends q_t_wants q_t_circle q_t_game q_t_stranger q_t_slots q_t_judged q_t_people_held q_t_people_known q_t_people_worths t_game_opening t_game_end t_people_count t_people_held t_people_known t_people_worths) [.ref q_t, .int i1] sz) ((nh_Qi D (wlX10_first cI cZ cO q_t q_t_text q_t_people q_t_draft q_t_acts q_t_ends q_t_wants q_t_circle q_t_game q_t_stranger q_t_slots q_t_judged q_t_people_held q_t_people_known q_t_people_worths o_t_game_opening o_t_game_end t_people_count o_t_people_held o_t_people_known t_people_worths) o_r) (va_A (wlX10_first cI cZ cO q_t q_t_text q_t_people q_t_draft q_t_acts q_t_ends q_t_wants q_t_circle q_t_game q_t_stranger q_t_slots q_t_judged q_t_people_held q_t_people_known q_t_people_worths t_game_opening t_game_end t_people_count t_people_held t_people_known t_people_worths) sz)) 0 0 (va_A (wlX10_first cI cZ cO q_t q_t_text q_t_people q_t_draft q_t_acts q_t_ends q_t_wants q_t_circle q_t_game q_t_stranger q_t_slots q_t_judged q_t_people_held q_t_people_known q_t_people_worths t_game_opening t_game_end t_people_count t_people_held t_people_known t_people_worths) sz) := by
  unfold fX10_first at h
  refine nh_met (cc := cX10_first) (maxL := 2) (ret := (some .int)) (nh_Qi D (wlX10_first cI cZ cO q_t q_t_text q_t_people q_t_draft q_t_acts q_t_ends q_t_wants q_t_circle q_t_game q_t_stranger q_t_slots q_t_judged q_t_people_held q_t_people_known q_t_people_worths o_t_game_opening o_t_game_end t_people_count o_t_people_held o_t_people_known t_people_worths) o_r) (by decide) rfl (Nat.le_of_ble_eq_true rfl) ?_
  intro p e s m args below meth c A H locs ls hx hb hml hr hown hts hlocks hinit hP hK hN hD hA hS hl
  have hl : lv_has ls 2 [(0, .ref q_t), (1, .int i1)] := hl
  have hts : ∀ w ∈ nh_words, w.before args s = true := fun w h => hts w (List.mem_cons_of_mem _ h)
  refine lv_iload_n hx hb dX10_first_0 rfl (lv_at hl 1 rfl) ?_
  refine lv_iconst (v := 1) hx hb dX10_first_1 (by decide) ?_
  refine lv_icmp_lt (tgt := 11) hx hb dX10_first_2 (by decide) (fun c1 => ?_) (fun c1 => ?_)
  · replace h := nh_t h c1
    refine lv_bipush (v := (-2)) hx hb dX10_first_11 (by decide) ?_
    obtain ⟨g0, g1, g2, g3, g4⟩ := nh_i5 h
    exact nh_ri hx hb hr hlocks g0 (by rw [← g1, ← g2, ← g3, ← g4]; exact hP) hS dX10_first_13
  · replace h := nh_f h c1
    refine lv_iload_n hx hb dX10_first_5 rfl (lv_at hl 1 rfl) ?_
    refine lv_bipush (v := 6) hx hb dX10_first_6 (by decide) ?_
    refine lv_icmp_le (tgt := 14) hx hb dX10_first_8 (by decide) (fun c2 => ?_) (fun c2 => ?_)
    · replace h := nh_t h c2
      refine lv_aload_n hx hb dX10_first_14 rfl (lv_at hl 0 rfl) ?_
      refine va_get (D := D) (ci := 9) (v := .ref q_t_game) (C := RX10) (T := TX10) (N := 11) hx hb hts nhu_X10 hown hK hP 0 rfl rfl 7 (by decide) (hts _ nhw_224) (fun _ h9 => h9) rfl dX10_first_15 ?_
      refine lv_aload_n hx hb dX10_first_18 rfl (lv_at hl 0 rfl) ?_
      refine va_get (D := D) (ci := 9) (v := .ref q_t_people) (C := RX10) (T := TX10) (N := 11) hx hb hts nhu_X10 hown hK hP 0 rfl rfl 1 (by decide) (hts _ nhw_215) (fun _ h9 => h9) rfl dX10_first_19 ?_
      refine lv_iload_n hx hb dX10_first_22 rfl (lv_at hl 1 rfl) ?_
      obtain ⟨t_game_opening_3, t_game_end_4, t_people_held_5, t_people_known_6, hc7, h⟩ := nh_b4_some h
      refine nh_gov (nh_V (As := [.ref q_t_people, .int i1]) (rest := []) ⟨hx, hb, hml, hown, hts⟩ (kX8_play F l D cI cZ cO H.size q_t_game q_t_people q_t_people_held q_t_people_known q_t_people_worths t_game_opening t_game_end t_people_count t_people_held t_people_known t_people_worths i1 t_game_opening_3 t_game_end_4 t_people_held_5 t_people_known_6 hc7) (cwV 2 hts (nh_gV nhw_571 nhw_448 nhw_794 nhw_312 nhw_172) rfl rfl rfl (by decide +kernel) ⟨Nat.le_of_ble_eq_true rfl, Nat.le_of_ble_eq_true rfl⟩) hK hN hP hD (isC := [1, 2, 3, 4, 5]) rfl rfl 1 7 rfl rfl rfl rfl hl.1 rfl (Nat.le_of_ble_eq_true rfl) dX10_first_23 ⟨Nat.zero_le _, Nat.zero_le _⟩) hP hD hS hA (isC := [1, 2, 3, 4, 5]) rfl rfl rfl (w' := (wlX10_first cI cZ cO q_t q_t_text q_t_people q_t_draft q_t_acts q_t_ends q_t_wants q_t_circle q_t_game q_t_stranger q_t_slots q_t_judged q_t_people_held q_t_people_known q_t_people_worths t_game_opening_3 t_game_end_4 t_people_count t_people_held_5 t_people_known_6 t_people_worths)) rfl (fun H locs hP hD hS => ?_)
      refine lv_aload_n hx hb dX10_first_26 rfl (lv_at hl 0 rfl) ?_
      refine va_get (D := D) (ci := 9) (v := .ref q_t_game) (C := RX10) (T := TX10) (N := 11) hx hb hts nhu_X10 hown hK hP 0 rfl rfl 7 (by decide) (hts _ nhw_224) (fun _ h9 => h9) rfl dX10_first_27 ?_
      refine va_get (D := D) (ci := 7) (v := .int t_game_opening_3) (C := RX8) (T := TX8) (N := 2) hx hb hts nhu_X8 hown hK hP 1 rfl rfl 0 (by decide) (hts _ nhw_218) (fun _ h9 => h9) rfl dX10_first_30 ?_
      obtain ⟨g0, g1, g2, g3, g4⟩ := nh_i5 h
      exact nh_ri hx hb hr hlocks g0 (by rw [← g1, ← g2, ← g3, ← g4]; exact hP) hS dX10_first_33
    · replace h := nh_f h c2
      refine lv_bipush (v := (-2)) hx hb dX10_first_11 (by decide) ?_
      obtain ⟨g0, g1, g2, g3, g4⟩ := nh_i5 h
      exact nh_ri hx hb hr hlocks g0 (by rw [← g1, ← g2, ← g3, ← g4]; exact hP) hS dX10_first_13
abbrev wlX10_sight (cI cZ cO : ClassId) (q_t q_t_text q_t_people q_t_draft q_t_acts q_t_ends q_t_wants q_t_circle q_t_game q_t_stranger q_t_slots q_t_judged q_t_stranger_sorts q_t_stranger_tooks : Nat) (t_stranger_count : Int32) (t_stranger_sorts : Nat → Int32) (t_stranger_tooks : Nat → Int32) : va_W := [(q_t, .inr (9, [.ref q_t_text, .ref q_t_people, .ref q_t_draft, .ref q_t_acts, .ref q_t_ends, .ref q_t_wants, .ref q_t_circle, .ref q_t_game, .ref q_t_stranger, .ref q_t_slots, .ref q_t_judged])), (q_t_stranger, .inr (4, [.int t_stranger_count, .ref q_t_stranger_sorts, .ref q_t_stranger_tooks])), (q_t_stranger_sorts, .inl (cI, 8, .inl t_stranger_sorts)), (q_t_stranger_tooks, .inl (cZ, 8, .inl t_stranger_tooks))]
def fX10_sight (t_stranger_count : Int32) (t_stranger_sorts : Nat → Int32) (t_stranger_tooks : Nat → Int32) (i1 : Int32) (i2 : Int32) : Option (Int32 × Int32 × (Nat → Int32) × (Nat → Int32)) :=
  (if (fX10_isSort i1) = 0 then some ((-1), t_stranger_count, t_stranger_sorts, t_stranger_tooks)
 else (if t_stranger_count < 8 then nh_b3 (fX5_add t_stranger_count t_stranger_sorts t_stranger_tooks i1 i2) (fun t_stranger_count_3 t_stranger_sorts_4 t_stranger_tooks_5 => some (t_stranger_count_3, t_stranger_count_3, t_stranger_sorts_4, t_stranger_tooks_5))
 else some ((-4), t_stranger_count, t_stranger_sorts, t_stranger_tooks)))
set_option maxHeartbeats 4000000 in
set_option maxRecDepth 100000 in
theorem kX10_sight (l : Launch) (D : va_G) (cI cZ cO : ClassId) (sz : Nat) (q_t q_t_text q_t_people q_t_draft q_t_acts q_t_ends q_t_wants q_t_circle q_t_game q_t_stranger q_t_slots q_t_judged q_t_stranger_sorts q_t_stranger_tooks : Nat) (t_stranger_count : Int32) (t_stranger_sorts : Nat → Int32) (t_stranger_tooks : Nat → Int32) (i1 : Int32) (i2 : Int32) (o_r : Int32) (o_t_stranger_count : Int32) (o_t_stranger_sorts : Nat → Int32) (o_t_stranger_tooks : Nat → Int32) (h : fX10_sight t_stranger_count t_stranger_sorts t_stranger_tooks i1 i2 = some (o_r, o_t_stranger_count, o_t_stranger_sorts, o_t_stranger_tooks)) : Met l yX10_sight (nh_w (.code yX10_sight cX10_sight 3 (some .int))) (nh_rm 1) (nh_Pc D cI cZ cO (wlX10_sight cI cZ cO q_t q_t_text q_t_people q_t_draft q_t_acts q_t_ends q_t_wants q_t_circle q_t_game q_t_stranger q_t_slots q_t_judged q_t_stranger_sorts q_t_stranger_tooks t_stranger_count t_stranger_sorts t_stranger_tooks) [.ref q_t, .int i1, .int i2] sz) ((nh_Qi D (wlX10_sight cI cZ cO q_t q_t_text q_t_people q_t_draft q_t_acts q_t_ends q_t_wants q_t_circle q_t_game q_t_stranger q_t_slots q_t_judged q_t_stranger_sorts q_t_stranger_tooks o_t_stranger_count o_t_stranger_sorts o_t_stranger_tooks) o_r) (va_A (wlX10_sight cI cZ cO q_t q_t_text q_t_people q_t_draft q_t_acts q_t_ends q_t_wants q_t_circle q_t_game q_t_stranger q_t_slots q_t_judged q_t_stranger_sorts q_t_stranger_tooks t_stranger_count t_stranger_sorts t_stranger_tooks) sz)) 0 0 (va_A (wlX10_sight cI cZ cO q_t q_t_text q_t_people q_t_draft q_t_acts q_t_ends q_t_wants q_t_circle q_t_game q_t_stranger q_t_slots q_t_judged q_t_stranger_sorts q_t_stranger_tooks t_stranger_count t_stranger_sorts t_stranger_tooks) sz) := by
  unfold fX10_sight at h
  refine nh_met (cc := cX10_sight) (maxL := 3) (ret := (some .int)) (nh_Qi D (wlX10_sight cI cZ cO q_t q_t_text q_t_people q_t_draft q_t_acts q_t_ends q_t_wants q_t_circle q_t_game q_t_stranger q_t_slots q_t_judged q_t_stranger_sorts q_t_stranger_tooks o_t_stranger_count o_t_stranger_sorts o_t_stranger_tooks) o_r) (by decide) rfl (Nat.le_of_ble_eq_true rfl) ?_
  intro p e s m args below meth c A H locs ls hx hb hml hr hown hts hlocks hinit hP hK hN hD hA hS hl
  have hl : lv_has ls 3 [(0, .ref q_t), (1, .int i1), (2, .int i2)] := hl
  have hts : ∀ w ∈ nh_words, w.before args s = true := fun w h => hts w (List.mem_cons_of_mem _ h)
  refine lv_iload_n hx hb dX10_sight_0 rfl (lv_at hl 1 rfl) ?_
  refine nh_goi (nh_S (As := [.int i1]) (rest := []) ⟨hx, hb, hml, hown, hts⟩ (kX10_isSort  l D cI cZ cO H.size i1 (fX10_isSort i1) rfl) (va_cwS 1 hts (nh_gS nhw_553 nhw_806 nhw_304 nhw_37) rfl rfl rfl (by decide +kernel) ⟨Nat.le_of_ble_eq_true rfl, Nat.le_of_ble_eq_true rfl⟩) hK hN hP hD (isC := []) rfl rfl rfl hl.1 rfl (Nat.le_of_ble_eq_true rfl) dX10_sight_1 ⟨Nat.zero_le _, Nat.zero_le _⟩) hP hD hS hA (isC := []) rfl rfl rfl (w' := (wlX10_sight cI cZ cO q_t q_t_text q_t_people q_t_draft q_t_acts q_t_ends q_t_wants q_t_circle q_t_game q_t_stranger q_t_slots q_t_judged q_t_stranger_sorts q_t_stranger_tooks t_stranger_count t_stranger_sorts t_stranger_tooks)) rfl (fun H locs hP hD hS => ?_)
  refine lv_if_ne (tgt := 9) hx hb dX10_sight_4 (by decide) (fun c1 => ?_) (fun c1 => ?_)
  · replace h := nh_f h c1
    refine lv_aload_n hx hb dX10_sight_9 rfl (lv_at hl 0 rfl) ?_
    refine va_get (D := D) (ci := 9) (v := .ref q_t_stranger) (C := RX10) (T := TX10) (N := 11) hx hb hts nhu_X10 hown hK hP 0 rfl rfl 8 (by decide) (hts _ nhw_225) (fun _ h9 => h9) rfl dX10_sight_10 ?_
    refine va_get (D := D) (ci := 4) (v := .int t_stranger_count) (C := RX5) (T := TX5) (N := 3) hx hb hts nhu_X5 hown hK hP 1 rfl rfl 0 (by decide) (hts _ nhw_205) (fun _ h9 => h9) rfl dX10_sight_13 ?_
    refine lv_bipush (v := 8) hx hb dX10_sight_16 (by decide) ?_
    refine lv_icmp_lt (tgt := 24) hx hb dX10_sight_18 (by decide) (fun c2 => ?_) (fun c2 => ?_)
    · replace h := nh_t h c2
      refine lv_aload_n hx hb dX10_sight_24 rfl (lv_at hl 0 rfl) ?_
      refine va_get (D := D) (ci := 9) (v := .ref q_t_stranger) (C := RX10) (T := TX10) (N := 11) hx hb hts nhu_X10 hown hK hP 0 rfl rfl 8 (by decide) (hts _ nhw_225) (fun _ h9 => h9) rfl dX10_sight_25 ?_
      refine lv_iload_n hx hb dX10_sight_28 rfl (lv_at hl 1 rfl) ?_
      refine lv_iload_n hx hb dX10_sight_29 rfl (lv_at hl 2 rfl) ?_
      obtain ⟨t_stranger_count_3, t_stranger_sorts_4, t_stranger_tooks_5, hc6, h⟩ := nh_b3_some h
      refine nh_gov (nh_V (As := [.int i1, .int i2]) (rest := []) ⟨hx, hb, hml, hown, hts⟩ (kX5_add  l D cI cZ cO H.size q_t_stranger q_t_stranger_sorts q_t_stranger_tooks t_stranger_count t_stranger_sorts t_stranger_tooks i1 i2 t_stranger_count_3 t_stranger_sorts_4 t_stranger_tooks_5 hc6) (cwV 2 hts (nh_gV nhw_573 nhw_435 nhw_785 nhw_309 nhw_152) rfl rfl rfl (by decide +kernel) ⟨Nat.le_of_ble_eq_true rfl, Nat.le_of_ble_eq_true rfl⟩) hK hN hP hD (isC := [1, 2, 3]) rfl rfl 1 4 rfl rfl rfl rfl hl.1 rfl (Nat.le_of_ble_eq_true rfl) dX10_sight_30 ⟨Nat.zero_le _, Nat.zero_le _⟩) hP hD hS hA (isC := [1, 2, 3]) rfl rfl rfl (w' := (wlX10_sight cI cZ cO q_t q_t_text q_t_people q_t_draft q_t_acts q_t_ends q_t_wants q_t_circle q_t_game q_t_stranger q_t_slots q_t_judged q_t_stranger_sorts q_t_stranger_tooks t_stranger_count_3 t_stranger_sorts_4 t_stranger_tooks_5)) rfl (fun H locs hP hD hS => ?_)
      refine lv_aload_n hx hb dX10_sight_33 rfl (lv_at hl 0 rfl) ?_
      refine va_get (D := D) (ci := 9) (v := .ref q_t_stranger) (C := RX10) (T := TX10) (N := 11) hx hb hts nhu_X10 hown hK hP 0 rfl rfl 8 (by decide) (hts _ nhw_225) (fun _ h9 => h9) rfl dX10_sight_34 ?_
      refine va_get (D := D) (ci := 4) (v := .int t_stranger_count_3) (C := RX5) (T := TX5) (N := 3) hx hb hts nhu_X5 hown hK hP 1 rfl rfl 0 (by decide) (hts _ nhw_205) (fun _ h9 => h9) rfl dX10_sight_37 ?_
      obtain ⟨g0, g1, g2, g3⟩ := nh_i4 h
      exact nh_ri hx hb hr hlocks g0 (by rw [← g1, ← g2, ← g3]; exact hP) hS dX10_sight_40
    · replace h := nh_f h c2
      refine lv_bipush (v := (-4)) hx hb dX10_sight_21 (by decide) ?_
      obtain ⟨g0, g1, g2, g3⟩ := nh_i4 h
      exact nh_ri hx hb hr hlocks g0 (by rw [← g1, ← g2, ← g3]; exact hP) hS dX10_sight_23
  · replace h := nh_t h c1
    refine lv_iconst (v := (-1)) hx hb dX10_sight_7 (by decide) ?_
    obtain ⟨g0, g1, g2, g3⟩ := nh_i4 h
    exact nh_ri hx hb hr hlocks g0 (by rw [← g1, ← g2, ← g3]; exact hP) hS dX10_sight_8
abbrev wlX10_unsee (cI cZ cO : ClassId) (q_t q_t_text q_t_people q_t_draft q_t_acts q_t_ends q_t_wants q_t_circle q_t_game q_t_stranger q_t_slots q_t_judged q_t_stranger_sorts q_t_stranger_tooks : Nat) (t_stranger_count : Int32) : va_W := [(q_t, .inr (9, [.ref q_t_text, .ref q_t_people, .ref q_t_draft, .ref q_t_acts, .ref q_t_ends, .ref q_t_wants, .ref q_t_circle, .ref q_t_game, .ref q_t_stranger, .ref q_t_slots, .ref q_t_judged])), (q_t_stranger, .inr (4, [.int t_stranger_count, .ref q_t_stranger_sorts, .ref q_t_stranger_tooks]))]
def fX10_unsee (t_stranger_count : Int32) : Option (Int32 × Int32) :=
  some (t_stranger_count, 0)
set_option maxHeartbeats 4000000 in
set_option maxRecDepth 100000 in
theorem kX10_unsee (l : Launch) (D : va_G) (cI cZ cO : ClassId) (sz : Nat) (q_t q_t_text q_t_people q_t_draft q_t_acts q_t_ends q_t_wants q_t_circle q_t_game q_t_stranger q_t_slots q_t_judged q_t_stranger_sorts q_t_stranger_tooks : Nat) (t_stranger_count : Int32)  (o_r : Int32) (o_t_stranger_count : Int32) (h : fX10_unsee t_stranger_count = some (o_r, o_t_stranger_count)) : Met l yX10_unsee (nh_w (.code yX10_unsee cX10_unsee 2 (some .int))) (nh_rm 0) (nh_Pc D cI cZ cO (wlX10_unsee cI cZ cO q_t q_t_text q_t_people q_t_draft q_t_acts q_t_ends q_t_wants q_t_circle q_t_game q_t_stranger q_t_slots q_t_judged q_t_stranger_sorts q_t_stranger_tooks t_stranger_count) [.ref q_t] sz) ((nh_Qi D (wlX10_unsee cI cZ cO q_t q_t_text q_t_people q_t_draft q_t_acts q_t_ends q_t_wants q_t_circle q_t_game q_t_stranger q_t_slots q_t_judged q_t_stranger_sorts q_t_stranger_tooks o_t_stranger_count) o_r) (va_A (wlX10_unsee cI cZ cO q_t q_t_text q_t_people q_t_draft q_t_acts q_t_ends q_t_wants q_t_circle q_t_game q_t_stranger q_t_slots q_t_judged q_t_stranger_sorts q_t_stranger_tooks t_stranger_count) sz)) 0 0 (va_A (wlX10_unsee cI cZ cO q_t q_t_text q_t_people q_t_draft q_t_acts q_t_ends q_t_wants q_t_circle q_t_game q_t_stranger q_t_slots q_t_judged q_t_stranger_sorts q_t_stranger_tooks t_stranger_count) sz) := by
  unfold fX10_unsee at h
  refine nh_met (cc := cX10_unsee) (maxL := 2) (ret := (some .int)) (nh_Qi D (wlX10_unsee cI cZ cO q_t q_t_text q_t_people q_t_draft q_t_acts q_t_ends q_t_wants q_t_circle q_t_game q_t_stranger q_t_slots q_t_judged q_t_stranger_sorts q_t_stranger_tooks o_t_stranger_count) o_r) (by decide) rfl (Nat.le_of_ble_eq_true rfl) ?_
  intro p e s m args below meth c A H locs ls hx hb hml hr hown hts hlocks hinit hP hK hN hD hA hS hl
  have hl : lv_has ls 2 [(0, .ref q_t)] := hl
  have hts : ∀ w ∈ nh_words, w.before args s = true := fun w h => hts w (List.mem_cons_of_mem _ h)
  refine lv_aload_n hx hb dX10_unsee_0 rfl (lv_at hl 0 rfl) ?_
  refine va_get (D := D) (ci := 9) (v := .ref q_t_stranger) (C := RX10) (T := TX10) (N := 11) hx hb hts nhu_X10 hown hK hP 0 rfl rfl 8 (by decide) (hts _ nhw_225) (fun _ h9 => h9) rfl dX10_unsee_1 ?_
  refine va_get (D := D) (ci := 4) (v := .int t_stranger_count) (C := RX5) (T := TX5) (N := 3) hx hb hts nhu_X5 hown hK hP 1 rfl rfl 0 (by decide) (hts _ nhw_205) (fun _ h9 => h9) rfl dX10_unsee_4 ?_
  refine lv_istore_n (lv' := [(1, .int t_stranger_count), (0, .ref q_t)]) hx hb dX10_unsee_7 rfl hl (by decide) rfl (fun ls hl => ?_)
  refine lv_aload_n hx hb dX10_unsee_8 rfl (lv_at hl 1 rfl) ?_
  refine va_get (D := D) (ci := 9) (v := .ref q_t_stranger) (C := RX10) (T := TX10) (N := 11) hx hb hts nhu_X10 hown hK hP 0 rfl rfl 8 (by decide) (hts _ nhw_225) (fun _ h9 => h9) rfl dX10_unsee_9 ?_
  refine lv_iconst (v := 0) hx hb dX10_unsee_12 (by decide) ?_
  refine va_put (D := D) (ci := 4) (v := .int 0) (ty := .int) (C := RX5) (T := TX5) (N := 3) hx hb hts nhu_X5 tyX5 tyX5_ok nmX5 hown hK hP hD hS 1 rfl rfl 0 (by decide) (hts _ nhw_205) (fun _ h9 => h9) rfl (by decide +kernel) rfl rfl (Nat.le_of_ble_eq_true rfl) dX10_unsee_13 (fun H locs hP hD hS => ?_)
  have hP : va_P D vwCl (wlX10_unsee cI cZ cO q_t q_t_text q_t_people q_t_draft q_t_acts q_t_ends q_t_wants q_t_circle q_t_game q_t_stranger q_t_slots q_t_judged q_t_stranger_sorts q_t_stranger_tooks 0) H := hP
  have hD : va_D A (wlX10_unsee cI cZ cO q_t q_t_text q_t_people q_t_draft q_t_acts q_t_ends q_t_wants q_t_circle q_t_game q_t_stranger q_t_slots q_t_judged q_t_stranger_sorts q_t_stranger_tooks 0) := hD
  refine lv_iload_n hx hb dX10_unsee_16 rfl (lv_at hl 0 rfl) ?_
  obtain ⟨g0, g1⟩ := nh_i2 h
  exact nh_ri hx hb hr hlocks g0 (by rw [← g1]; exact hP) hS dX10_unsee_17
abbrev wlX10_lists (cI cZ cO : ClassId) (q_t q_t_text q_t_people q_t_draft q_t_acts q_t_ends q_t_wants q_t_circle q_t_game q_t_stranger q_t_slots q_t_judged q_t_stranger_sorts q_t_stranger_tooks : Nat) (t_stranger_count : Int32) (t_stranger_sorts : Nat → Int32) (t_stranger_tooks : Nat → Int32) : va_W := [(q_t, .inr (9, [.ref q_t_text, .ref q_t_people, .ref q_t_draft, .ref q_t_acts, .ref q_t_ends, .ref q_t_wants, .ref q_t_circle, .ref q_t_game, .ref q_t_stranger, .ref q_t_slots, .ref q_t_judged])), (q_t_stranger, .inr (4, [.int t_stranger_count, .ref q_t_stranger_sorts, .ref q_t_stranger_tooks])), (q_t_stranger_sorts, .inl (cI, 8, .inl t_stranger_sorts)), (q_t_stranger_tooks, .inl (cZ, 8, .inl t_stranger_tooks))]
def fX10_lists (F : Nat) (t_stranger_count : Int32) (t_stranger_sorts : Nat → Int32) (t_stranger_tooks : Nat → Int32) : Option (Int32) :=
  nh_b1 (fX5_fittingLists F t_stranger_count t_stranger_sorts t_stranger_tooks) (fun r_1 => some r_1)
set_option maxHeartbeats 4000000 in
set_option maxRecDepth 100000 in
theorem kX10_lists (F : Nat) (l : Launch) (D : va_G) (cI cZ cO : ClassId) (sz : Nat) (q_t q_t_text q_t_people q_t_draft q_t_acts q_t_ends q_t_wants q_t_circle q_t_game q_t_stranger q_t_slots q_t_judged q_t_stranger_sorts q_t_stranger_tooks : Nat) (t_stranger_count : Int32) (t_stranger_sorts : Nat → Int32) (t_stranger_tooks : Nat → Int32)  (o_r : Int32) (h : fX10_lists F t_stranger_count t_stranger_sorts t_stranger_tooks = some o_r) : Met l yX10_lists (nh_w (.code yX10_lists cX10_lists 1 (some .int))) (nh_rm 2) (nh_Pc D cI cZ cO (wlX10_lists cI cZ cO q_t q_t_text q_t_people q_t_draft q_t_acts q_t_ends q_t_wants q_t_circle q_t_game q_t_stranger q_t_slots q_t_judged q_t_stranger_sorts q_t_stranger_tooks t_stranger_count t_stranger_sorts t_stranger_tooks) [.ref q_t] sz) ((nh_Qi D (wlX10_lists cI cZ cO q_t q_t_text q_t_people q_t_draft q_t_acts q_t_ends q_t_wants q_t_circle q_t_game q_t_stranger q_t_slots q_t_judged q_t_stranger_sorts q_t_stranger_tooks t_stranger_count t_stranger_sorts t_stranger_tooks) o_r) (va_A (wlX10_lists cI cZ cO q_t q_t_text q_t_people q_t_draft q_t_acts q_t_ends q_t_wants q_t_circle q_t_game q_t_stranger q_t_slots q_t_judged q_t_stranger_sorts q_t_stranger_tooks t_stranger_count t_stranger_sorts t_stranger_tooks) sz)) 0 0 (va_A (wlX10_lists cI cZ cO q_t q_t_text q_t_people q_t_draft q_t_acts q_t_ends q_t_wants q_t_circle q_t_game q_t_stranger q_t_slots q_t_judged q_t_stranger_sorts q_t_stranger_tooks t_stranger_count t_stranger_sorts t_stranger_tooks) sz) := by
  unfold fX10_lists at h
  refine nh_met (cc := cX10_lists) (maxL := 1) (ret := (some .int)) (nh_Qi D (wlX10_lists cI cZ cO q_t q_t_text q_t_people q_t_draft q_t_acts q_t_ends q_t_wants q_t_circle q_t_game q_t_stranger q_t_slots q_t_judged q_t_stranger_sorts q_t_stranger_tooks t_stranger_count t_stranger_sorts t_stranger_tooks) o_r) (by decide) rfl (Nat.le_of_ble_eq_true rfl) ?_
  intro p e s m args below meth c A H locs ls hx hb hml hr hown hts hlocks hinit hP hK hN hD hA hS hl
  have hl : lv_has ls 1 [(0, .ref q_t)] := hl
  have hts : ∀ w ∈ nh_words, w.before args s = true := fun w h => hts w (List.mem_cons_of_mem _ h)
  refine lv_aload_n hx hb dX10_lists_0 rfl (lv_at hl 0 rfl) ?_
  refine va_get (D := D) (ci := 9) (v := .ref q_t_stranger) (C := RX10) (T := TX10) (N := 11) hx hb hts nhu_X10 hown hK hP 0 rfl rfl 8 (by decide) (hts _ nhw_225) (fun _ h9 => h9) rfl dX10_lists_1 ?_
  obtain ⟨r_1, hc2, h⟩ := nh_b1_some h
  refine nh_goi (nh_V (As := []) (rest := []) ⟨hx, hb, hml, hown, hts⟩ (kX5_fittingLists F l D cI cZ cO H.size q_t_stranger q_t_stranger_sorts q_t_stranger_tooks t_stranger_count t_stranger_sorts t_stranger_tooks r_1 hc2) (cwV 0 hts (nh_gV nhw_574 nhw_437 nhw_787 nhw_309 nhw_154) rfl rfl rfl (by decide +kernel) ⟨Nat.le_of_ble_eq_true rfl, Nat.le_of_ble_eq_true rfl⟩) hK hN hP hD (isC := [1, 2, 3]) rfl rfl 1 4 rfl rfl rfl rfl hl.1 rfl (Nat.le_of_ble_eq_true rfl) dX10_lists_4 ⟨Nat.zero_le _, Nat.zero_le _⟩) hP hD hS hA (isC := [1, 2, 3]) rfl rfl rfl (w' := (wlX10_lists cI cZ cO q_t q_t_text q_t_people q_t_draft q_t_acts q_t_ends q_t_wants q_t_circle q_t_game q_t_stranger q_t_slots q_t_judged q_t_stranger_sorts q_t_stranger_tooks t_stranger_count t_stranger_sorts t_stranger_tooks)) rfl (fun H locs hP hD hS => ?_)
  replace h := nh_i1 h
  exact nh_ri hx hb hr hlocks h hP hS dX10_lists_7
abbrev wlX10_listed (cI cZ cO : ClassId) (q_t q_t_text q_t_people q_t_draft q_t_acts q_t_ends q_t_wants q_t_circle q_t_game q_t_stranger q_t_slots q_t_judged q_t_stranger_sorts q_t_stranger_tooks : Nat) (t_stranger_count : Int32) (t_stranger_sorts : Nat → Int32) (t_stranger_tooks : Nat → Int32) : va_W := [(q_t, .inr (9, [.ref q_t_text, .ref q_t_people, .ref q_t_draft, .ref q_t_acts, .ref q_t_ends, .ref q_t_wants, .ref q_t_circle, .ref q_t_game, .ref q_t_stranger, .ref q_t_slots, .ref q_t_judged])), (q_t_stranger, .inr (4, [.int t_stranger_count, .ref q_t_stranger_sorts, .ref q_t_stranger_tooks])), (q_t_stranger_sorts, .inl (cI, 8, .inl t_stranger_sorts)), (q_t_stranger_tooks, .inl (cZ, 8, .inl t_stranger_tooks))]
def fX10_listed (F : Nat) (t_stranger_count : Int32) (t_stranger_sorts : Nat → Int32) (t_stranger_tooks : Nat → Int32) (i1 : Int32) : Option (Int32) :=
  (if (fX10_isSort i1) = 0 then some (-1)
 else nh_b1 (fX5_hadAtFirst F t_stranger_count t_stranger_sorts t_stranger_tooks i1) (fun r_2 => some r_2))
set_option maxHeartbeats 4000000 in
set_option maxRecDepth 100000 in
theorem kX10_listed (F : Nat) (l : Launch) (D : va_G) (cI cZ cO : ClassId) (sz : Nat) (q_t q_t_text q_t_people q_t_draft q_t_acts q_t_ends q_t_wants q_t_circle q_t_game q_t_stranger q_t_slots q_t_judged q_t_stranger_sorts q_t_stranger_tooks : Nat) (t_stranger_count : Int32) (t_stranger_sorts : Nat → Int32) (t_stranger_tooks : Nat → Int32) (i1 : Int32) (o_r : Int32) (h : fX10_listed F t_stranger_count t_stranger_sorts t_stranger_tooks i1 = some o_r) : Met l yX10_listed (nh_w (.code yX10_listed cX10_listed 2 (some .int))) (nh_rm 3) (nh_Pc D cI cZ cO (wlX10_listed cI cZ cO q_t q_t_text q_t_people q_t_draft q_t_acts q_t_ends q_t_wants q_t_circle q_t_game q_t_stranger q_t_slots q_t_judged q_t_stranger_sorts q_t_stranger_tooks t_stranger_count t_stranger_sorts t_stranger_tooks) [.ref q_t, .int i1] sz) ((nh_Qi D (wlX10_listed cI cZ cO q_t q_t_text q_t_people q_t_draft q_t_acts q_t_ends q_t_wants q_t_circle q_t_game q_t_stranger q_t_slots q_t_judged q_t_stranger_sorts q_t_stranger_tooks t_stranger_count t_stranger_sorts t_stranger_tooks) o_r) (va_A (wlX10_listed cI cZ cO q_t q_t_text q_t_people q_t_draft q_t_acts q_t_ends q_t_wants q_t_circle q_t_game q_t_stranger q_t_slots q_t_judged q_t_stranger_sorts q_t_stranger_tooks t_stranger_count t_stranger_sorts t_stranger_tooks) sz)) 0 0 (va_A (wlX10_listed cI cZ cO q_t q_t_text q_t_people q_t_draft q_t_acts q_t_ends q_t_wants q_t_circle q_t_game q_t_stranger q_t_slots q_t_judged q_t_stranger_sorts q_t_stranger_tooks t_stranger_count t_stranger_sorts t_stranger_tooks) sz) := by
  unfold fX10_listed at h
  refine nh_met (cc := cX10_listed) (maxL := 2) (ret := (some .int)) (nh_Qi D (wlX10_listed cI cZ cO q_t q_t_text q_t_people q_t_draft q_t_acts q_t_ends q_t_wants q_t_circle q_t_game q_t_stranger q_t_slots q_t_judged q_t_stranger_sorts q_t_stranger_tooks t_stranger_count t_stranger_sorts t_stranger_tooks) o_r) (by decide) rfl (Nat.le_of_ble_eq_true rfl) ?_
  intro p e s m args below meth c A H locs ls hx hb hml hr hown hts hlocks hinit hP hK hN hD hA hS hl
  have hl : lv_has ls 2 [(0, .ref q_t), (1, .int i1)] := hl
  have hts : ∀ w ∈ nh_words, w.before args s = true := fun w h => hts w (List.mem_cons_of_mem _ h)
  refine lv_iload_n hx hb dX10_listed_0 rfl (lv_at hl 1 rfl) ?_
  refine nh_goi (nh_S (As := [.int i1]) (rest := []) ⟨hx, hb, hml, hown, hts⟩ (kX10_isSort  l D cI cZ cO H.size i1 (fX10_isSort i1) rfl) (va_cwS 1 hts (nh_gS nhw_553 nhw_806 nhw_304 nhw_37) rfl rfl rfl (by decide +kernel) ⟨Nat.le_of_ble_eq_true rfl, Nat.le_of_ble_eq_true rfl⟩) hK hN hP hD (isC := []) rfl rfl rfl hl.1 rfl (Nat.le_of_ble_eq_true rfl) dX10_listed_1 ⟨Nat.zero_le _, Nat.zero_le _⟩) hP hD hS hA (isC := []) rfl rfl rfl (w' := (wlX10_listed cI cZ cO q_t q_t_text q_t_people q_t_draft q_t_acts q_t_ends q_t_wants q_t_circle q_t_game q_t_stranger q_t_slots q_t_judged q_t_stranger_sorts q_t_stranger_tooks t_stranger_count t_stranger_sorts t_stranger_tooks)) rfl (fun H locs hP hD hS => ?_)
  refine lv_if_ne (tgt := 9) hx hb dX10_listed_4 (by decide) (fun c1 => ?_) (fun c1 => ?_)
  · replace h := nh_f h c1
    refine lv_aload_n hx hb dX10_listed_9 rfl (lv_at hl 0 rfl) ?_
    refine va_get (D := D) (ci := 9) (v := .ref q_t_stranger) (C := RX10) (T := TX10) (N := 11) hx hb hts nhu_X10 hown hK hP 0 rfl rfl 8 (by decide) (hts _ nhw_225) (fun _ h9 => h9) rfl dX10_listed_10 ?_
    refine lv_iload_n hx hb dX10_listed_13 rfl (lv_at hl 1 rfl) ?_
    obtain ⟨r_2, hc3, h⟩ := nh_b1_some h
    refine nh_goi (nh_V (As := [.int i1]) (rest := []) ⟨hx, hb, hml, hown, hts⟩ (kX5_hadAtFirst F l D cI cZ cO H.size q_t_stranger q_t_stranger_sorts q_t_stranger_tooks t_stranger_count t_stranger_sorts t_stranger_tooks i1 r_2 hc3) (cwV 1 hts (nh_gV nhw_575 nhw_438 nhw_788 nhw_309 nhw_155) rfl rfl rfl (by decide +kernel) ⟨Nat.le_of_ble_eq_true rfl, Nat.le_of_ble_eq_true rfl⟩) hK hN hP hD (isC := [1, 2, 3]) rfl rfl 1 4 rfl rfl rfl rfl hl.1 rfl (Nat.le_of_ble_eq_true rfl) dX10_listed_14 ⟨Nat.zero_le _, Nat.zero_le _⟩) hP hD hS hA (isC := [1, 2, 3]) rfl rfl rfl (w' := (wlX10_listed cI cZ cO q_t q_t_text q_t_people q_t_draft q_t_acts q_t_ends q_t_wants q_t_circle q_t_game q_t_stranger q_t_slots q_t_judged q_t_stranger_sorts q_t_stranger_tooks t_stranger_count t_stranger_sorts t_stranger_tooks)) rfl (fun H locs hP hD hS => ?_)
    replace h := nh_i1 h
    exact nh_ri hx hb hr hlocks h hP hS dX10_listed_17
  · replace h := nh_t h c1
    refine lv_iconst (v := (-1)) hx hb dX10_listed_7 (by decide) ?_
    replace h := nh_i1 h
    exact nh_ri hx hb hr hlocks h hP hS dX10_listed_8
abbrev wlX10_keep (cI cZ cO : ClassId) (q_t q_t_text q_t_people q_t_draft q_t_acts q_t_ends q_t_wants q_t_circle q_t_game q_t_stranger q_t_slots q_t_judged q_t_people_held q_t_people_known q_t_people_worths q_t_slots_0 q_t_slots_1 q_t_slots_0_held q_t_slots_0_known q_t_slots_1_held q_t_slots_1_known : Nat) (t_people_count : Int32) (t_people_held : Nat → Int32) (t_people_known : Nat → Int32) (t_slots_0_filled : Int32) (t_slots_0_held : Nat → Int32) (t_slots_0_known : Nat → Int32) (t_slots_1_filled : Int32) (t_slots_1_held : Nat → Int32) (t_slots_1_known : Nat → Int32) : va_W := [(q_t, .inr (9, [.ref q_t_text, .ref q_t_people, .ref q_t_draft, .ref q_t_acts, .ref q_t_ends, .ref q_t_wants, .ref q_t_circle, .ref q_t_game, .ref q_t_stranger, .ref q_t_slots, .ref q_t_judged])), (q_t_people, .inr (1, [.int t_people_count, .ref q_t_people_held, .ref q_t_people_known, .ref q_t_people_worths])), (q_t_people_held, .inl (cI, 4, .inl t_people_held)), (q_t_people_known, .inl (cI, 4, .inl t_people_known)), (q_t_slots, .inl (cO, 2, .inr (.inr (.inr (.inr (nh_two q_t_slots_0 q_t_slots_1)))))), (q_t_slots_0, .inr (5, [.int t_slots_0_filled, .ref q_t_slots_0_held, .ref q_t_slots_0_known])), (q_t_slots_0_held, .inl (cI, 4, .inl t_slots_0_held)), (q_t_slots_0_known, .inl (cI, 4, .inl t_slots_0_known)), (q_t_slots_1, .inr (5, [.int t_slots_1_filled, .ref q_t_slots_1_held, .ref q_t_slots_1_known])), (q_t_slots_1_held, .inl (cI, 4, .inl t_slots_1_held)), (q_t_slots_1_known, .inl (cI, 4, .inl t_slots_1_known))]
def fX10_keep (F : Nat) (t_people_count : Int32) (t_people_held : Nat → Int32) (t_people_known : Nat → Int32) (t_slots_0_filled : Int32) (t_slots_0_held : Nat → Int32) (t_slots_0_known : Nat → Int32) (t_slots_1_filled : Int32) (t_slots_1_held : Nat → Int32) (t_slots_1_known : Nat → Int32) (i1 : Int32) : Option (Int32 × Int32 × (Nat → Int32) × (Nat → Int32) × Int32 × (Nat → Int32) × (Nat → Int32)) :=
  (if (fX10_isSlot i1) = 0 then some ((-1), t_slots_0_filled, t_slots_0_held, t_slots_0_known, t_slots_1_filled, t_slots_1_held, t_slots_1_known)
 else (if i1 = 0 then nh_b3 (fX6_store t_slots_0_filled t_slots_0_held t_slots_0_known t_people_held t_people_known) (fun t_slots_0_filled_4 t_slots_0_held_5 t_slots_0_known_6 => nh_b1 (fX1_holders F t_people_count t_people_held) (fun r_8 => some (r_8, t_slots_0_filled_4, t_slots_0_held_5, t_slots_0_known_6, t_slots_1_filled, t_slots_1_held, t_slots_1_known)))
 else (if i1 = 1 then nh_b3 (fX6_store t_slots_1_filled t_slots_1_held t_slots_1_known t_people_held t_people_known) (fun t_slots_1_filled_10 t_slots_1_held_11 t_slots_1_known_12 => nh_b1 (fX1_holders F t_people_count t_people_held) (fun r_14 => some (r_14, t_slots_0_filled, t_slots_0_held, t_slots_0_known, t_slots_1_filled_10, t_slots_1_held_11, t_slots_1_known_12)))
 else none)))
set_option maxHeartbeats 4000000 in
set_option maxRecDepth 100000 in
theorem kX10_keep (F : Nat) (l : Launch) (D : va_G) (cI cZ cO : ClassId) (sz : Nat) (q_t q_t_text q_t_people q_t_draft q_t_acts q_t_ends q_t_wants q_t_circle q_t_game q_t_stranger q_t_slots q_t_judged q_t_people_held q_t_people_known q_t_people_worths q_t_slots_0 q_t_slots_1 q_t_slots_0_held q_t_slots_0_known q_t_slots_1_held q_t_slots_1_known : Nat) (t_people_count : Int32) (t_people_held : Nat → Int32) (t_people_known : Nat → Int32) (t_slots_0_filled : Int32) (t_slots_0_held : Nat → Int32) (t_slots_0_known : Nat → Int32) (t_slots_1_filled : Int32) (t_slots_1_held : Nat → Int32) (t_slots_1_known : Nat → Int32) (i1 : Int32) (o_r : Int32) (o_t_slots_0_filled : Int32) (o_t_slots_0_held : Nat → Int32) (o_t_slots_0_known : Nat → Int32) (o_t_slots_1_filled : Int32) (o_t_slots_1_held : Nat → Int32) (o_t_slots_1_known : Nat → Int32) (h : fX10_keep F t_people_count t_people_held t_people_known t_slots_0_filled t_slots_0_held t_slots_0_known t_slots_1_filled t_slots_1_held t_slots_1_known i1 = some (o_r, o_t_slots_0_filled, o_t_slots_0_held, o_t_slots_0_known, o_t_slots_1_filled, o_t_slots_1_held, o_t_slots_1_known)) : Met l yX10_keep (nh_w (.code yX10_keep cX10_keep 2 (some .int))) (nh_rm 3) (nh_Pc D cI cZ cO (wlX10_keep cI cZ cO q_t q_t_text q_t_people q_t_draft q_t_acts q_t_ends q_t_wants q_t_circle q_t_game q_t_stranger q_t_slots q_t_judged q_t_people_held q_t_people_known q_t_people_worths q_t_slots_0 q_t_slots_1 q_t_slots_0_held q_t_slots_0_known q_t_slots_1_held q_t_slots_1_known t_people_count t_people_held t_people_known t_slots_0_filled t_slots_0_held t_slots_0_known t_slots_1_filled t_slots_1_held t_slots_1_known) [.ref q_t, .int i1] sz) ((nh_Qi D (wlX10_keep cI cZ cO q_t q_t_text q_t_people q_t_draft q_t_acts q_t_ends q_t_wants q_t_circle q_t_game q_t_stranger q_t_slots q_t_judged q_t_people_held q_t_people_known q_t_people_worths q_t_slots_0 q_t_slots_1 q_t_slots_0_held q_t_slots_0_known q_t_slots_1_held q_t_slots_1_known t_people_count t_people_held t_people_known o_t_slots_0_filled o_t_slots_0_held o_t_slots_0_known o_t_slots_1_filled o_t_slots_1_held o_t_slots_1_known) o_r) (va_A (wlX10_keep cI cZ cO q_t q_t_text q_t_people q_t_draft q_t_acts q_t_ends q_t_wants q_t_circle q_t_game q_t_stranger q_t_slots q_t_judged q_t_people_held q_t_people_known q_t_people_worths q_t_slots_0 q_t_slots_1 q_t_slots_0_held q_t_slots_0_known q_t_slots_1_held q_t_slots_1_known t_people_count t_people_held t_people_known t_slots_0_filled t_slots_0_held t_slots_0_known t_slots_1_filled t_slots_1_held t_slots_1_known) sz)) 0 0 (va_A (wlX10_keep cI cZ cO q_t q_t_text q_t_people q_t_draft q_t_acts q_t_ends q_t_wants q_t_circle q_t_game q_t_stranger q_t_slots q_t_judged q_t_people_held q_t_people_known q_t_people_worths q_t_slots_0 q_t_slots_1 q_t_slots_0_held q_t_slots_0_known q_t_slots_1_held q_t_slots_1_known t_people_count t_people_held t_people_known t_slots_0_filled t_slots_0_held t_slots_0_known t_slots_1_filled t_slots_1_held t_slots_1_known) sz) := by
  unfold fX10_keep at h
  refine nh_met (cc := cX10_keep) (maxL := 2) (ret := (some .int)) (nh_Qi D (wlX10_keep cI cZ cO q_t q_t_text q_t_people q_t_draft q_t_acts q_t_ends q_t_wants q_t_circle q_t_game q_t_stranger q_t_slots q_t_judged q_t_people_held q_t_people_known q_t_people_worths q_t_slots_0 q_t_slots_1 q_t_slots_0_held q_t_slots_0_known q_t_slots_1_held q_t_slots_1_known t_people_count t_people_held t_people_known o_t_slots_0_filled o_t_slots_0_held o_t_slots_0_known o_t_slots_1_filled o_t_slots_1_held o_t_slots_1_known) o_r) (by decide) rfl (Nat.le_of_ble_eq_true rfl) ?_
  intro p e s m args below meth c A H locs ls hx hb hml hr hown hts hlocks hinit hP hK hN hD hA hS hl
  have hl : lv_has ls 2 [(0, .ref q_t), (1, .int i1)] := hl
  have hts : ∀ w ∈ nh_words, w.before args s = true := fun w h => hts w (List.mem_cons_of_mem _ h)
  refine lv_iload_n hx hb dX10_keep_0 rfl (lv_at hl 1 rfl) ?_
  refine nh_goi (nh_S (As := [.int i1]) (rest := []) ⟨hx, hb, hml, hown, hts⟩ (kX10_isSlot  l D cI cZ cO H.size i1 (fX10_isSlot i1) rfl) (va_cwS 1 hts (nh_gS nhw_576 nhw_805 nhw_304 nhw_36) rfl rfl rfl (by decide +kernel) ⟨Nat.le_of_ble_eq_true rfl, Nat.le_of_ble_eq_true rfl⟩) hK hN hP hD (isC := []) rfl rfl rfl hl.1 rfl (Nat.le_of_ble_eq_true rfl) dX10_keep_1 ⟨Nat.zero_le _, Nat.zero_le _⟩) hP hD hS hA (isC := []) rfl rfl rfl (w' := (wlX10_keep cI cZ cO q_t q_t_text q_t_people q_t_draft q_t_acts q_t_ends q_t_wants q_t_circle q_t_game q_t_stranger q_t_slots q_t_judged q_t_people_held q_t_people_known q_t_people_worths q_t_slots_0 q_t_slots_1 q_t_slots_0_held q_t_slots_0_known q_t_slots_1_held q_t_slots_1_known t_people_count t_people_held t_people_known t_slots_0_filled t_slots_0_held t_slots_0_known t_slots_1_filled t_slots_1_held t_slots_1_known)) rfl (fun H locs hP hD hS => ?_)
  refine lv_if_ne (tgt := 9) hx hb dX10_keep_4 (by decide) (fun c1 => ?_) (fun c1 => ?_)
  · replace h := nh_f h c1
    refine lv_aload_n hx hb dX10_keep_9 rfl (lv_at hl 0 rfl) ?_
    refine va_get (D := D) (ci := 9) (v := .ref q_t_slots) (C := RX10) (T := TX10) (N := 11) hx hb hts nhu_X10 hown hK hP 0 rfl rfl 9 (by decide) (hts _ nhw_226) (fun _ h9 => h9) rfl dX10_keep_10 ?_
    refine lv_iload_n hx hb dX10_keep_13 rfl (lv_at hl 1 rfl) ?_
    by_cases c2 : i1 = 0
    · replace h := nh_t h c2
      refine va_aldq hx hb hK hP 4 2 rfl rfl (by rw [c2]; exact nh_in_in (by decide)) dX10_keep_14 ?_
      have c2v : va_rf (nh_two q_t_slots_0 q_t_slots_1 (Int32.toNatClampNeg i1)) = .ref q_t_slots_0 := by rw [c2]; rfl
      rw [c2v]
      refine lv_aload_n hx hb dX10_keep_15 rfl (lv_at hl 0 rfl) ?_
      refine va_get (D := D) (ci := 9) (v := .ref q_t_people) (C := RX10) (T := TX10) (N := 11) hx hb hts nhu_X10 hown hK hP 0 rfl rfl 1 (by decide) (hts _ nhw_215) (fun _ h9 => h9) rfl dX10_keep_16 ?_
      obtain ⟨t_slots_0_filled_4, t_slots_0_held_5, t_slots_0_known_6, hc7, h⟩ := nh_b3_some h
      refine nh_gov (nh_V (As := [.ref q_t_people]) (rest := []) ⟨hx, hb, hml, hown, hts⟩ (kX6_store  l D cI cZ cO H.size q_t_slots_0 q_t_people q_t_slots_0_held q_t_slots_0_known q_t_people_held q_t_people_known q_t_people_worths t_slots_0_filled t_slots_0_held t_slots_0_known t_people_count t_people_held t_people_known t_slots_0_filled_4 t_slots_0_held_5 t_slots_0_known_6 hc7) (cwV 1 hts (nh_gV nhw_577 nhw_442 nhw_790 nhw_310 nhw_159) rfl rfl rfl (by decide +kernel) ⟨Nat.le_of_ble_eq_true rfl, Nat.le_of_ble_eq_true rfl⟩) hK hN hP hD (isC := [5, 6, 7, 1, 2, 3]) rfl rfl 5 5 rfl rfl rfl rfl hl.1 rfl (Nat.le_of_ble_eq_true rfl) dX10_keep_19 ⟨Nat.zero_le _, Nat.zero_le _⟩) hP hD hS hA (isC := [5, 6, 7, 1, 2, 3]) rfl rfl rfl (w' := (wlX10_keep cI cZ cO q_t q_t_text q_t_people q_t_draft q_t_acts q_t_ends q_t_wants q_t_circle q_t_game q_t_stranger q_t_slots q_t_judged q_t_people_held q_t_people_known q_t_people_worths q_t_slots_0 q_t_slots_1 q_t_slots_0_held q_t_slots_0_known q_t_slots_1_held q_t_slots_1_known t_people_count t_people_held t_people_known t_slots_0_filled_4 t_slots_0_held_5 t_slots_0_known_6 t_slots_1_filled t_slots_1_held t_slots_1_known)) rfl (fun H locs hP hD hS => ?_)
      refine lv_aload_n hx hb dX10_keep_22 rfl (lv_at hl 0 rfl) ?_
      refine va_get (D := D) (ci := 9) (v := .ref q_t_people) (C := RX10) (T := TX10) (N := 11) hx hb hts nhu_X10 hown hK hP 0 rfl rfl 1 (by decide) (hts _ nhw_215) (fun _ h9 => h9) rfl dX10_keep_23 ?_
      obtain ⟨r_8, hc9, h⟩ := nh_b1_some h
      refine nh_goi (nh_V (As := []) (rest := []) ⟨hx, hb, hml, hown, hts⟩ (kX1_holders F l D cI cZ cO H.size q_t_people q_t_people_held q_t_people_known q_t_people_worths t_people_count t_people_held r_8 hc9) (cwV 0 hts (nh_gV nhw_548 nhw_420 nhw_682 nhw_303 nhw_129) rfl rfl rfl (by decide +kernel) ⟨Nat.le_of_ble_eq_true rfl, Nat.le_of_ble_eq_true rfl⟩) hK hN hP hD (isC := [1, 2]) rfl rfl 1 1 rfl rfl rfl rfl hl.1 rfl (Nat.le_of_ble_eq_true rfl) dX10_keep_26 ⟨Nat.zero_le _, Nat.zero_le _⟩) hP hD hS hA (isC := [1, 2]) rfl rfl rfl (w' := (wlX10_keep cI cZ cO q_t q_t_text q_t_people q_t_draft q_t_acts q_t_ends q_t_wants q_t_circle q_t_game q_t_stranger q_t_slots q_t_judged q_t_people_held q_t_people_known q_t_people_worths q_t_slots_0 q_t_slots_1 q_t_slots_0_held q_t_slots_0_known q_t_slots_1_held q_t_slots_1_known t_people_count t_people_held t_people_known t_slots_0_filled_4 t_slots_0_held_5 t_slots_0_known_6 t_slots_1_filled t_slots_1_held t_slots_1_known)) rfl (fun H locs hP hD hS => ?_)
      obtain ⟨g0, g1, g2, g3, g4, g5, g6⟩ := nh_i7 h
      exact nh_ri hx hb hr hlocks g0 (by rw [← g1, ← g2, ← g3, ← g4, ← g5, ← g6]; exact hP) hS dX10_keep_29
    · replace h := nh_f h c2
      by_cases c3 : i1 = 1
      · replace h := nh_t h c3
        refine va_aldq hx hb hK hP 4 2 rfl rfl (by rw [c3]; exact nh_in_in (by decide)) dX10_keep_14 ?_
        have c3v : va_rf (nh_two q_t_slots_0 q_t_slots_1 (Int32.toNatClampNeg i1)) = .ref q_t_slots_1 := by rw [c3]; rfl
        rw [c3v]
        refine lv_aload_n hx hb dX10_keep_15 rfl (lv_at hl 0 rfl) ?_
        refine va_get (D := D) (ci := 9) (v := .ref q_t_people) (C := RX10) (T := TX10) (N := 11) hx hb hts nhu_X10 hown hK hP 0 rfl rfl 1 (by decide) (hts _ nhw_215) (fun _ h9 => h9) rfl dX10_keep_16 ?_
        obtain ⟨t_slots_1_filled_10, t_slots_1_held_11, t_slots_1_known_12, hc13, h⟩ := nh_b3_some h
        refine nh_gov (nh_V (As := [.ref q_t_people]) (rest := []) ⟨hx, hb, hml, hown, hts⟩ (kX6_store  l D cI cZ cO H.size q_t_slots_1 q_t_people q_t_slots_1_held q_t_slots_1_known q_t_people_held q_t_people_known q_t_people_worths t_slots_1_filled t_slots_1_held t_slots_1_known t_people_count t_people_held t_people_known t_slots_1_filled_10 t_slots_1_held_11 t_slots_1_known_12 hc13) (cwV 1 hts (nh_gV nhw_577 nhw_442 nhw_790 nhw_310 nhw_159) rfl rfl rfl (by decide +kernel) ⟨Nat.le_of_ble_eq_true rfl, Nat.le_of_ble_eq_true rfl⟩) hK hN hP hD (isC := [8, 9, 10, 1, 2, 3]) rfl rfl 8 5 rfl rfl rfl rfl hl.1 rfl (Nat.le_of_ble_eq_true rfl) dX10_keep_19 ⟨Nat.zero_le _, Nat.zero_le _⟩) hP hD hS hA (isC := [8, 9, 10, 1, 2, 3]) rfl rfl rfl (w' := (wlX10_keep cI cZ cO q_t q_t_text q_t_people q_t_draft q_t_acts q_t_ends q_t_wants q_t_circle q_t_game q_t_stranger q_t_slots q_t_judged q_t_people_held q_t_people_known q_t_people_worths q_t_slots_0 q_t_slots_1 q_t_slots_0_held q_t_slots_0_known q_t_slots_1_held q_t_slots_1_known t_people_count t_people_held t_people_known t_slots_0_filled t_slots_0_held t_slots_0_known t_slots_1_filled_10 t_slots_1_held_11 t_slots_1_known_12)) rfl (fun H locs hP hD hS => ?_)
        refine lv_aload_n hx hb dX10_keep_22 rfl (lv_at hl 0 rfl) ?_
        refine va_get (D := D) (ci := 9) (v := .ref q_t_people) (C := RX10) (T := TX10) (N := 11) hx hb hts nhu_X10 hown hK hP 0 rfl rfl 1 (by decide) (hts _ nhw_215) (fun _ h9 => h9) rfl dX10_keep_23 ?_
        obtain ⟨r_14, hc15, h⟩ := nh_b1_some h
        refine nh_goi (nh_V (As := []) (rest := []) ⟨hx, hb, hml, hown, hts⟩ (kX1_holders F l D cI cZ cO H.size q_t_people q_t_people_held q_t_people_known q_t_people_worths t_people_count t_people_held r_14 hc15) (cwV 0 hts (nh_gV nhw_548 nhw_420 nhw_682 nhw_303 nhw_129) rfl rfl rfl (by decide +kernel) ⟨Nat.le_of_ble_eq_true rfl, Nat.le_of_ble_eq_true rfl⟩) hK hN hP hD (isC := [1, 2]) rfl rfl 1 1 rfl rfl rfl rfl hl.1 rfl (Nat.le_of_ble_eq_true rfl) dX10_keep_26 ⟨Nat.zero_le _, Nat.zero_le _⟩) hP hD hS hA (isC := [1, 2]) rfl rfl rfl (w' := (wlX10_keep cI cZ cO q_t q_t_text q_t_people q_t_draft q_t_acts q_t_ends q_t_wants q_t_circle q_t_game q_t_stranger q_t_slots q_t_judged q_t_people_held q_t_people_known q_t_people_worths q_t_slots_0 q_t_slots_1 q_t_slots_0_held q_t_slots_0_known q_t_slots_1_held q_t_slots_1_known t_people_count t_people_held t_people_known t_slots_0_filled t_slots_0_held t_slots_0_known t_slots_1_filled_10 t_slots_1_held_11 t_slots_1_known_12)) rfl (fun H locs hP hD hS => ?_)
        obtain ⟨g0, g1, g2, g3, g4, g5, g6⟩ := nh_i7 h
        exact nh_ri hx hb hr hlocks g0 (by rw [← g1, ← g2, ← g3, ← g4, ← g5, ← g6]; exact hP) hS dX10_keep_29
      · replace h := nh_f h c3
        exact (nh_none h).elim
  · replace h := nh_t h c1
    refine lv_iconst (v := (-1)) hx hb dX10_keep_7 (by decide) ?_
    obtain ⟨g0, g1, g2, g3, g4, g5, g6⟩ := nh_i7 h
    exact nh_ri hx hb hr hlocks g0 (by rw [← g1, ← g2, ← g3, ← g4, ← g5, ← g6]; exact hP) hS dX10_keep_8
abbrev wlX10_again (cI cZ cO : ClassId) (q_t q_t_text q_t_people q_t_draft q_t_acts q_t_ends q_t_wants q_t_circle q_t_game q_t_stranger q_t_slots q_t_judged q_t_acts_row q_t_people_held q_t_people_known q_t_people_worths q_t_slots_0 q_t_slots_1 q_t_slots_0_held q_t_slots_0_known q_t_slots_1_held q_t_slots_1_known : Nat) (t_acts_count : Int32) (t_people_count : Int32) (t_people_held : Nat → Int32) (t_people_known : Nat → Int32) (t_slots_0_filled : Int32) (t_slots_0_held : Nat → Int32) (t_slots_0_known : Nat → Int32) (t_slots_1_filled : Int32) (t_slots_1_held : Nat → Int32) (t_slots_1_known : Nat → Int32) : va_W := [(q_t, .inr (9, [.ref q_t_text, .ref q_t_people, .ref q_t_draft, .ref q_t_acts, .ref q_t_ends, .ref q_t_wants, .ref q_t_circle, .ref q_t_game, .ref q_t_stranger, .ref q_t_slots, .ref q_t_judged])), (q_t_acts, .inr (0, [.int t_acts_count, .ref q_t_acts_row])), (q_t_people, .inr (1, [.int t_people_count, .ref q_t_people_held, .ref q_t_people_known, .ref q_t_people_worths])), (q_t_people_held, .inl (cI, 4, .inl t_people_held)), (q_t_people_known, .inl (cI, 4, .inl t_people_known)), (q_t_slots, .inl (cO, 2, .inr (.inr (.inr (.inr (nh_two q_t_slots_0 q_t_slots_1)))))), (q_t_slots_0, .inr (5, [.int t_slots_0_filled, .ref q_t_slots_0_held, .ref q_t_slots_0_known])), (q_t_slots_0_held, .inl (cI, 4, .inl t_slots_0_held)), (q_t_slots_0_known, .inl (cI, 4, .inl t_slots_0_known)), (q_t_slots_1, .inr (5, [.int t_slots_1_filled, .ref q_t_slots_1_held, .ref q_t_slots_1_known])), (q_t_slots_1_held, .inl (cI, 4, .inl t_slots_1_held)), (q_t_slots_1_known, .inl (cI, 4, .inl t_slots_1_known))]
def fX10_again (F : Nat) (t_acts_count : Int32) (t_people_count : Int32) (t_people_held : Nat → Int32) (t_people_known : Nat → Int32) (t_slots_0_filled : Int32) (t_slots_0_held : Nat → Int32) (t_slots_0_known : Nat → Int32) (t_slots_1_filled : Int32) (t_slots_1_held : Nat → Int32) (t_slots_1_known : Nat → Int32) (i1 : Int32) : Option (Int32 × Int32 × (Nat → Int32) × (Nat → Int32)) :=
  (if (fX10_isSlot i1) = 0 then some ((-1), t_acts_count, t_people_held, t_people_known)
 else (if i1 = 0 then (if t_slots_0_filled = 0 then some ((-3), t_acts_count, t_people_held, t_people_known)
 else (if i1 = 0 then nh_b2 (fX6_restore t_slots_0_held t_slots_0_known t_people_held t_people_known) (fun t_people_held_7 t_people_known_8 => nh_b1 (fX1_holders F t_people_count t_people_held_7) (fun r_10 => some (r_10, 0, t_people_held_7, t_people_known_8)))
 else (if i1 = 1 then nh_b2 (fX6_restore t_slots_1_held t_slots_1_known t_people_held t_people_known) (fun t_people_held_12 t_people_known_13 => nh_b1 (fX1_holders F t_people_count t_people_held_12) (fun r_15 => some (r_15, 0, t_people_held_12, t_people_known_13)))
 else none)))
 else (if i1 = 1 then (if t_slots_1_filled = 0 then some ((-3), t_acts_count, t_people_held, t_people_known)
 else (if i1 = 0 then nh_b2 (fX6_restore t_slots_0_held t_slots_0_known t_people_held t_people_known) (fun t_people_held_20 t_people_known_21 => nh_b1 (fX1_holders F t_people_count t_people_held_20) (fun r_23 => some (r_23, 0, t_people_held_20, t_people_known_21)))
 else (if i1 = 1 then nh_b2 (fX6_restore t_slots_1_held t_slots_1_known t_people_held t_people_known) (fun t_people_held_25 t_people_known_26 => nh_b1 (fX1_holders F t_people_count t_people_held_25) (fun r_28 => some (r_28, 0, t_people_held_25, t_people_known_26)))
 else none)))
 else none)))
set_option maxHeartbeats 4000000 in
set_option maxRecDepth 100000 in
theorem kX10_again (F : Nat) (l : Launch) (D : va_G) (cI cZ cO : ClassId) (sz : Nat) (q_t q_t_text q_t_people q_t_draft q_t_acts q_t_ends q_t_wants q_t_circle q_t_game q_t_stranger q_t_slots q_t_judged q_t_acts_row q_t_people_held q_t_people_known q_t_people_worths q_t_slots_0 q_t_slots_1 q_t_slots_0_held q_t_slots_0_known q_t_slots_1_held q_t_slots_1_known : Nat) (t_acts_count : Int32) (t_people_count : Int32) (t_people_held : Nat → Int32) (t_people_known : Nat → Int32) (t_slots_0_filled : Int32) (t_slots_0_held : Nat → Int32) (t_slots_0_known : Nat → Int32) (t_slots_1_filled : Int32) (t_slots_1_held : Nat → Int32) (t_slots_1_known : Nat → Int32) (i1 : Int32) (o_r : Int32) (o_t_acts_count : Int32) (o_t_people_held : Nat → Int32) (o_t_people_known : Nat → Int32) (h : fX10_again F t_acts_count t_people_count t_people_held t_people_known t_slots_0_filled t_slots_0_held t_slots_0_known t_slots_1_filled t_slots_1_held t_slots_1_known i1 = some (o_r, o_t_acts_count, o_t_people_held, o_t_people_known)) : Met l yX10_again (nh_w (.code yX10_again cX10_again 2 (some .int))) (nh_rm 3) (nh_Pc D cI cZ cO (wlX10_again cI cZ cO q_t q_t_text q_t_people q_t_draft q_t_acts q_t_ends q_t_wants q_t_circle q_t_game q_t_stranger q_t_slots q_t_judged q_t_acts_row q_t_people_held q_t_people_known q_t_people_worths q_t_slots_0 q_t_slots_1 q_t_slots_0_held q_t_slots_0_known q_t_slots_1_held q_t_slots_1_known t_acts_count t_people_count t_people_held t_people_known t_slots_0_filled t_slots_0_held t_slots_0_known t_slots_1_filled t_slots_1_held t_slots_1_known) [.ref q_t, .int i1] sz) ((nh_Qi D (wlX10_again cI cZ cO q_t q_t_text q_t_people q_t_draft q_t_acts q_t_ends q_t_wants q_t_circle q_t_game q_t_stranger q_t_slots q_t_judged q_t_acts_row q_t_people_held q_t_people_known q_t_people_worths q_t_slots_0 q_t_slots_1 q_t_slots_0_held q_t_slots_0_known q_t_slots_1_held q_t_slots_1_known o_t_acts_count t_people_count o_t_people_held o_t_people_known t_slots_0_filled t_slots_0_held t_slots_0_known t_slots_1_filled t_slots_1_held t_slots_1_known) o_r) (va_A (wlX10_again cI cZ cO q_t q_t_text q_t_people q_t_draft q_t_acts q_t_ends q_t_wants q_t_circle q_t_game q_t_stranger q_t_slots q_t_judged q_t_acts_row q_t_people_held q_t_people_known q_t_people_worths q_t_slots_0 q_t_slots_1 q_t_slots_0_held q_t_slots_0_known q_t_slots_1_held q_t_slots_1_known t_acts_count t_people_count t_people_held t_people_known t_slots_0_filled t_slots_0_held t_slots_0_known t_slots_1_filled t_slots_1_held t_slots_1_known) sz)) 0 0 (va_A (wlX10_again cI cZ cO q_t q_t_text q_t_people q_t_draft q_t_acts q_t_ends q_t_wants q_t_circle q_t_game q_t_stranger q_t_slots q_t_judged q_t_acts_row q_t_people_held q_t_people_known q_t_people_worths q_t_slots_0 q_t_slots_1 q_t_slots_0_held q_t_slots_0_known q_t_slots_1_held q_t_slots_1_known t_acts_count t_people_count t_people_held t_people_known t_slots_0_filled t_slots_0_held t_slots_0_known t_slots_1_filled t_slots_1_held t_slots_1_known) sz) := by
  unfold fX10_again at h
  refine nh_met (cc := cX10_again) (maxL := 2) (ret := (some .int)) (nh_Qi D (wlX10_again cI cZ cO q_t q_t_text q_t_people q_t_draft q_t_acts q_t_ends q_t_wants q_t_circle q_t_game q_t_stranger q_t_slots q_t_judged q_t_acts_row q_t_people_held q_t_people_known q_t_people_worths q_t_slots_0 q_t_slots_1 q_t_slots_0_held q_t_slots_0_known q_t_slots_1_held q_t_slots_1_known o_t_acts_count t_people_count o_t_people_held o_t_people_known t_slots_0_filled t_slots_0_held t_slots_0_known t_slots_1_filled t_slots_1_held t_slots_1_known) o_r) (by decide) rfl (Nat.le_of_ble_eq_true rfl) ?_
  intro p e s m args below meth c A H locs ls hx hb hml hr hown hts hlocks hinit hP hK hN hD hA hS hl
  have hl : lv_has ls 2 [(0, .ref q_t), (1, .int i1)] := hl
  have hts : ∀ w ∈ nh_words, w.before args s = true := fun w h => hts w (List.mem_cons_of_mem _ h)
  refine lv_iload_n hx hb dX10_again_0 rfl (lv_at hl 1 rfl) ?_
  refine nh_goi (nh_S (As := [.int i1]) (rest := []) ⟨hx, hb, hml, hown, hts⟩ (kX10_isSlot  l D cI cZ cO H.size i1 (fX10_isSlot i1) rfl) (va_cwS 1 hts (nh_gS nhw_576 nhw_805 nhw_304 nhw_36) rfl rfl rfl (by decide +kernel) ⟨Nat.le_of_ble_eq_true rfl, Nat.le_of_ble_eq_true rfl⟩) hK hN hP hD (isC := []) rfl rfl rfl hl.1 rfl (Nat.le_of_ble_eq_true rfl) dX10_again_1 ⟨Nat.zero_le _, Nat.zero_le _⟩) hP hD hS hA (isC := []) rfl rfl rfl (w' := (wlX10_again cI cZ cO q_t q_t_text q_t_people q_t_draft q_t_acts q_t_ends q_t_wants q_t_circle q_t_game q_t_stranger q_t_slots q_t_judged q_t_acts_row q_t_people_held q_t_people_known q_t_people_worths q_t_slots_0 q_t_slots_1 q_t_slots_0_held q_t_slots_0_known q_t_slots_1_held q_t_slots_1_known t_acts_count t_people_count t_people_held t_people_known t_slots_0_filled t_slots_0_held t_slots_0_known t_slots_1_filled t_slots_1_held t_slots_1_known)) rfl (fun H locs hP hD hS => ?_)
  refine lv_if_ne (tgt := 9) hx hb dX10_again_4 (by decide) (fun c1 => ?_) (fun c1 => ?_)
  · replace h := nh_f h c1
    refine lv_aload_n hx hb dX10_again_9 rfl (lv_at hl 0 rfl) ?_
    refine va_get (D := D) (ci := 9) (v := .ref q_t_slots) (C := RX10) (T := TX10) (N := 11) hx hb hts nhu_X10 hown hK hP 0 rfl rfl 9 (by decide) (hts _ nhw_226) (fun _ h9 => h9) rfl dX10_again_10 ?_
    refine lv_iload_n hx hb dX10_again_13 rfl (lv_at hl 1 rfl) ?_
    by_cases c2 : i1 = 0
    · replace h := nh_t h c2
      refine va_aldq hx hb hK hP 5 2 rfl rfl (by rw [c2]; exact nh_in_in (by decide)) dX10_again_14 ?_
      have c2v : va_rf (nh_two q_t_slots_0 q_t_slots_1 (Int32.toNatClampNeg i1)) = .ref q_t_slots_0 := by rw [c2]; rfl
      rw [c2v]
      refine va_get (D := D) (ci := 5) (v := .int t_slots_0_filled) (C := RX6) (T := TX6) (N := 3) hx hb hts nhu_X6 hown hK hP 6 rfl rfl 0 (by decide) (hts _ nhw_203) (fun _ h9 => h9) rfl dX10_again_15 ?_
      refine lv_if_ne (tgt := 24) hx hb dX10_again_18 (by decide) (fun c4 => ?_) (fun c4 => ?_)
      · replace h := nh_f h c4
        refine lv_aload_n hx hb dX10_again_24 rfl (lv_at hl 0 rfl) ?_
        refine va_get (D := D) (ci := 9) (v := .ref q_t_slots) (C := RX10) (T := TX10) (N := 11) hx hb hts nhu_X10 hown hK hP 0 rfl rfl 9 (by decide) (hts _ nhw_226) (fun _ h9 => h9) rfl dX10_again_25 ?_
        refine lv_iload_n hx hb dX10_again_28 rfl (lv_at hl 1 rfl) ?_
        by_cases c5 : i1 = 0
        · replace h := nh_t h c5
          refine va_aldq hx hb hK hP 5 2 rfl rfl (by rw [c5]; exact nh_in_in (by decide)) dX10_again_29 ?_
          have c5v : va_rf (nh_two q_t_slots_0 q_t_slots_1 (Int32.toNatClampNeg i1)) = .ref q_t_slots_0 := by rw [c5]; rfl
          rw [c5v]
          refine lv_aload_n hx hb dX10_again_30 rfl (lv_at hl 0 rfl) ?_
          refine va_get (D := D) (ci := 9) (v := .ref q_t_people) (C := RX10) (T := TX10) (N := 11) hx hb hts nhu_X10 hown hK hP 0 rfl rfl 1 (by decide) (hts _ nhw_215) (fun _ h9 => h9) rfl dX10_again_31 ?_
          obtain ⟨t_people_held_7, t_people_known_8, hc9, h⟩ := nh_b2_some h
          refine nh_gov (nh_V (As := [.ref q_t_people]) (rest := []) ⟨hx, hb, hml, hown, hts⟩ (kX6_restore  l D cI cZ cO H.size q_t_slots_0 q_t_people q_t_slots_0_held q_t_slots_0_known q_t_people_held q_t_people_known q_t_people_worths t_slots_0_filled t_slots_0_held t_slots_0_known t_people_count t_people_held t_people_known t_people_held_7 t_people_known_8 hc9) (cwV 1 hts (nh_gV nhw_578 nhw_441 nhw_789 nhw_310 nhw_158) rfl rfl rfl (by decide +kernel) ⟨Nat.le_of_ble_eq_true rfl, Nat.le_of_ble_eq_true rfl⟩) hK hN hP hD (isC := [6, 7, 8, 2, 3, 4]) rfl rfl 6 5 rfl rfl rfl rfl hl.1 rfl (Nat.le_of_ble_eq_true rfl) dX10_again_34 ⟨Nat.zero_le _, Nat.zero_le _⟩) hP hD hS hA (isC := [6, 7, 8, 2, 3, 4]) rfl rfl rfl (w' := (wlX10_again cI cZ cO q_t q_t_text q_t_people q_t_draft q_t_acts q_t_ends q_t_wants q_t_circle q_t_game q_t_stranger q_t_slots q_t_judged q_t_acts_row q_t_people_held q_t_people_known q_t_people_worths q_t_slots_0 q_t_slots_1 q_t_slots_0_held q_t_slots_0_known q_t_slots_1_held q_t_slots_1_known t_acts_count t_people_count t_people_held_7 t_people_known_8 t_slots_0_filled t_slots_0_held t_slots_0_known t_slots_1_filled t_slots_1_held t_slots_1_known)) rfl (fun H locs hP hD hS => ?_)
          refine lv_aload_n hx hb dX10_again_37 rfl (lv_at hl 0 rfl) ?_
          refine va_get (D := D) (ci := 9) (v := .ref q_t_acts) (C := RX10) (T := TX10) (N := 11) hx hb hts nhu_X10 hown hK hP 0 rfl rfl 3 (by decide) (hts _ nhw_220) (fun _ h9 => h9) rfl dX10_again_38 ?_
          refine lv_iconst (v := 0) hx hb dX10_again_41 (by decide) ?_
          refine va_put (D := D) (ci := 0) (v := .int 0) (ty := .int) (C := RX0) (T := TX0) (N := 2) hx hb hts nhu_X0 tyX0 tyX0_ok nmX0 hown hK hP hD hS 1 rfl rfl 0 (by decide) (hts _ nhw_229) (fun _ h9 => h9) rfl (by decide +kernel) rfl rfl (Nat.le_of_ble_eq_true rfl) dX10_again_42 (fun H locs hP hD hS => ?_)
          have hP : va_P D vwCl (wlX10_again cI cZ cO q_t q_t_text q_t_people q_t_draft q_t_acts q_t_ends q_t_wants q_t_circle q_t_game q_t_stranger q_t_slots q_t_judged q_t_acts_row q_t_people_held q_t_people_known q_t_people_worths q_t_slots_0 q_t_slots_1 q_t_slots_0_held q_t_slots_0_known q_t_slots_1_held q_t_slots_1_known 0 t_people_count t_people_held_7 t_people_known_8 t_slots_0_filled t_slots_0_held t_slots_0_known t_slots_1_filled t_slots_1_held t_slots_1_known) H := hP
          have hD : va_D A (wlX10_again cI cZ cO q_t q_t_text q_t_people q_t_draft q_t_acts q_t_ends q_t_wants q_t_circle q_t_game q_t_stranger q_t_slots q_t_judged q_t_acts_row q_t_people_held q_t_people_known q_t_people_worths q_t_slots_0 q_t_slots_1 q_t_slots_0_held q_t_slots_0_known q_t_slots_1_held q_t_slots_1_known 0 t_people_count t_people_held_7 t_people_known_8 t_slots_0_filled t_slots_0_held t_slots_0_known t_slots_1_filled t_slots_1_held t_slots_1_known) := hD
          refine lv_aload_n hx hb dX10_again_45 rfl (lv_at hl 0 rfl) ?_
          refine va_get (D := D) (ci := 9) (v := .ref q_t_people) (C := RX10) (T := TX10) (N := 11) hx hb hts nhu_X10 hown hK hP 0 rfl rfl 1 (by decide) (hts _ nhw_215) (fun _ h9 => h9) rfl dX10_again_46 ?_
          obtain ⟨r_10, hc11, h⟩ := nh_b1_some h
          refine nh_goi (nh_V (As := []) (rest := []) ⟨hx, hb, hml, hown, hts⟩ (kX1_holders F l D cI cZ cO H.size q_t_people q_t_people_held q_t_people_known q_t_people_worths t_people_count t_people_held_7 r_10 hc11) (cwV 0 hts (nh_gV nhw_548 nhw_420 nhw_682 nhw_303 nhw_129) rfl rfl rfl (by decide +kernel) ⟨Nat.le_of_ble_eq_true rfl, Nat.le_of_ble_eq_true rfl⟩) hK hN hP hD (isC := [2, 3]) rfl rfl 2 1 rfl rfl rfl rfl hl.1 rfl (Nat.le_of_ble_eq_true rfl) dX10_again_49 ⟨Nat.zero_le _, Nat.zero_le _⟩) hP hD hS hA (isC := [2, 3]) rfl rfl rfl (w' := (wlX10_again cI cZ cO q_t q_t_text q_t_people q_t_draft q_t_acts q_t_ends q_t_wants q_t_circle q_t_game q_t_stranger q_t_slots q_t_judged q_t_acts_row q_t_people_held q_t_people_known q_t_people_worths q_t_slots_0 q_t_slots_1 q_t_slots_0_held q_t_slots_0_known q_t_slots_1_held q_t_slots_1_known 0 t_people_count t_people_held_7 t_people_known_8 t_slots_0_filled t_slots_0_held t_slots_0_known t_slots_1_filled t_slots_1_held t_slots_1_known)) rfl (fun H locs hP hD hS => ?_)
          obtain ⟨g0, g1, g2, g3⟩ := nh_i4 h
          exact nh_ri hx hb hr hlocks g0 (by rw [← g1, ← g2, ← g3]; exact hP) hS dX10_again_52
        · replace h := nh_f h c5
          by_cases c6 : i1 = 1
          · replace h := nh_t h c6
            refine va_aldq hx hb hK hP 5 2 rfl rfl (by rw [c6]; exact nh_in_in (by decide)) dX10_again_29 ?_
            have c6v : va_rf (nh_two q_t_slots_0 q_t_slots_1 (Int32.toNatClampNeg i1)) = .ref q_t_slots_1 := by rw [c6]; rfl
            rw [c6v]
            refine lv_aload_n hx hb dX10_again_30 rfl (lv_at hl 0 rfl) ?_
            refine va_get (D := D) (ci := 9) (v := .ref q_t_people) (C := RX10) (T := TX10) (N := 11) hx hb hts nhu_X10 hown hK hP 0 rfl rfl 1 (by decide) (hts _ nhw_215) (fun _ h9 => h9) rfl dX10_again_31 ?_
            obtain ⟨t_people_held_12, t_people_known_13, hc14, h⟩ := nh_b2_some h
            refine nh_gov (nh_V (As := [.ref q_t_people]) (rest := []) ⟨hx, hb, hml, hown, hts⟩ (kX6_restore  l D cI cZ cO H.size q_t_slots_1 q_t_people q_t_slots_1_held q_t_slots_1_known q_t_people_held q_t_people_known q_t_people_worths t_slots_1_filled t_slots_1_held t_slots_1_known t_people_count t_people_held t_people_known t_people_held_12 t_people_known_13 hc14) (cwV 1 hts (nh_gV nhw_578 nhw_441 nhw_789 nhw_310 nhw_158) rfl rfl rfl (by decide +kernel) ⟨Nat.le_of_ble_eq_true rfl, Nat.le_of_ble_eq_true rfl⟩) hK hN hP hD (isC := [9, 10, 11, 2, 3, 4]) rfl rfl 9 5 rfl rfl rfl rfl hl.1 rfl (Nat.le_of_ble_eq_true rfl) dX10_again_34 ⟨Nat.zero_le _, Nat.zero_le _⟩) hP hD hS hA (isC := [9, 10, 11, 2, 3, 4]) rfl rfl rfl (w' := (wlX10_again cI cZ cO q_t q_t_text q_t_people q_t_draft q_t_acts q_t_ends q_t_wants q_t_circle q_t_game q_t_stranger q_t_slots q_t_judged q_t_acts_row q_t_people_held q_t_people_known q_t_people_worths q_t_slots_0 q_t_slots_1 q_t_slots_0_held q_t_slots_0_known q_t_slots_1_held q_t_slots_1_known t_acts_count t_people_count t_people_held_12 t_people_known_13 t_slots_0_filled t_slots_0_held t_slots_0_known t_slots_1_filled t_slots_1_held t_slots_1_known)) rfl (fun H locs hP hD hS => ?_)
            refine lv_aload_n hx hb dX10_again_37 rfl (lv_at hl 0 rfl) ?_
            refine va_get (D := D) (ci := 9) (v := .ref q_t_acts) (C := RX10) (T := TX10) (N := 11) hx hb hts nhu_X10 hown hK hP 0 rfl rfl 3 (by decide) (hts _ nhw_220) (fun _ h9 => h9) rfl dX10_again_38 ?_
            refine lv_iconst (v := 0) hx hb dX10_again_41 (by decide) ?_
            refine va_put (D := D) (ci := 0) (v := .int 0) (ty := .int) (C := RX0) (T := TX0) (N := 2) hx hb hts nhu_X0 tyX0 tyX0_ok nmX0 hown hK hP hD hS 1 rfl rfl 0 (by decide) (hts _ nhw_229) (fun _ h9 => h9) rfl (by decide +kernel) rfl rfl (Nat.le_of_ble_eq_true rfl) dX10_again_42 (fun H locs hP hD hS => ?_)
            have hP : va_P D vwCl (wlX10_again cI cZ cO q_t q_t_text q_t_people q_t_draft q_t_acts q_t_ends q_t_wants q_t_circle q_t_game q_t_stranger q_t_slots q_t_judged q_t_acts_row q_t_people_held q_t_people_known q_t_people_worths q_t_slots_0 q_t_slots_1 q_t_slots_0_held q_t_slots_0_known q_t_slots_1_held q_t_slots_1_known 0 t_people_count t_people_held_12 t_people_known_13 t_slots_0_filled t_slots_0_held t_slots_0_known t_slots_1_filled t_slots_1_held t_slots_1_known) H := hP
            have hD : va_D A (wlX10_again cI cZ cO q_t q_t_text q_t_people q_t_draft q_t_acts q_t_ends q_t_wants q_t_circle q_t_game q_t_stranger q_t_slots q_t_judged q_t_acts_row q_t_people_held q_t_people_known q_t_people_worths q_t_slots_0 q_t_slots_1 q_t_slots_0_held q_t_slots_0_known q_t_slots_1_held q_t_slots_1_known 0 t_people_count t_people_held_12 t_people_known_13 t_slots_0_filled t_slots_0_held t_slots_0_known t_slots_1_filled t_slots_1_held t_slots_1_known) := hD
            refine lv_aload_n hx hb dX10_again_45 rfl (lv_at hl 0 rfl) ?_
            refine va_get (D := D) (ci := 9) (v := .ref q_t_people) (C := RX10) (T := TX10) (N := 11) hx hb hts nhu_X10 hown hK hP 0 rfl rfl 1 (by decide) (hts _ nhw_215) (fun _ h9 => h9) rfl dX10_again_46 ?_
            obtain ⟨r_15, hc16, h⟩ := nh_b1_some h
            refine nh_goi (nh_V (As := []) (rest := []) ⟨hx, hb, hml, hown, hts⟩ (kX1_holders F l D cI cZ cO H.size q_t_people q_t_people_held q_t_people_known q_t_people_worths t_people_count t_people_held_12 r_15 hc16) (cwV 0 hts (nh_gV nhw_548 nhw_420 nhw_682 nhw_303 nhw_129) rfl rfl rfl (by decide +kernel) ⟨Nat.le_of_ble_eq_true rfl, Nat.le_of_ble_eq_true rfl⟩) hK hN hP hD (isC := [2, 3]) rfl rfl 2 1 rfl rfl rfl rfl hl.1 rfl (Nat.le_of_ble_eq_true rfl) dX10_again_49 ⟨Nat.zero_le _, Nat.zero_le _⟩) hP hD hS hA (isC := [2, 3]) rfl rfl rfl (w' := (wlX10_again cI cZ cO q_t q_t_text q_t_people q_t_draft q_t_acts q_t_ends q_t_wants q_t_circle q_t_game q_t_stranger q_t_slots q_t_judged q_t_acts_row q_t_people_held q_t_people_known q_t_people_worths q_t_slots_0 q_t_slots_1 q_t_slots_0_held q_t_slots_0_known q_t_slots_1_held q_t_slots_1_known 0 t_people_count t_people_held_12 t_people_known_13 t_slots_0_filled t_slots_0_held t_slots_0_known t_slots_1_filled t_slots_1_held t_slots_1_known)) rfl (fun H locs hP hD hS => ?_)
            obtain ⟨g0, g1, g2, g3⟩ := nh_i4 h
            exact nh_ri hx hb hr hlocks g0 (by rw [← g1, ← g2, ← g3]; exact hP) hS dX10_again_52
          · replace h := nh_f h c6
            exact (nh_none h).elim
      · replace h := nh_t h c4
        refine lv_bipush (v := (-3)) hx hb dX10_again_21 (by decide) ?_
        obtain ⟨g0, g1, g2, g3⟩ := nh_i4 h
        exact nh_ri hx hb hr hlocks g0 (by rw [← g1, ← g2, ← g3]; exact hP) hS dX10_again_23
    · replace h := nh_f h c2
      by_cases c3 : i1 = 1
      · replace h := nh_t h c3
        refine va_aldq hx hb hK hP 5 2 rfl rfl (by rw [c3]; exact nh_in_in (by decide)) dX10_again_14 ?_
        have c3v : va_rf (nh_two q_t_slots_0 q_t_slots_1 (Int32.toNatClampNeg i1)) = .ref q_t_slots_1 := by rw [c3]; rfl
        rw [c3v]
        refine va_get (D := D) (ci := 5) (v := .int t_slots_1_filled) (C := RX6) (T := TX6) (N := 3) hx hb hts nhu_X6 hown hK hP 9 rfl rfl 0 (by decide) (hts _ nhw_203) (fun _ h9 => h9) rfl dX10_again_15 ?_
        refine lv_if_ne (tgt := 24) hx hb dX10_again_18 (by decide) (fun c17 => ?_) (fun c17 => ?_)
        · replace h := nh_f h c17
          refine lv_aload_n hx hb dX10_again_24 rfl (lv_at hl 0 rfl) ?_
          refine va_get (D := D) (ci := 9) (v := .ref q_t_slots) (C := RX10) (T := TX10) (N := 11) hx hb hts nhu_X10 hown hK hP 0 rfl rfl 9 (by decide) (hts _ nhw_226) (fun _ h9 => h9) rfl dX10_again_25 ?_
          refine lv_iload_n hx hb dX10_again_28 rfl (lv_at hl 1 rfl) ?_
          by_cases c18 : i1 = 0
          · replace h := nh_t h c18
            refine va_aldq hx hb hK hP 5 2 rfl rfl (by rw [c18]; exact nh_in_in (by decide)) dX10_again_29 ?_
            have c18v : va_rf (nh_two q_t_slots_0 q_t_slots_1 (Int32.toNatClampNeg i1)) = .ref q_t_slots_0 := by rw [c18]; rfl
            rw [c18v]
            refine lv_aload_n hx hb dX10_again_30 rfl (lv_at hl 0 rfl) ?_
            refine va_get (D := D) (ci := 9) (v := .ref q_t_people) (C := RX10) (T := TX10) (N := 11) hx hb hts nhu_X10 hown hK hP 0 rfl rfl 1 (by decide) (hts _ nhw_215) (fun _ h9 => h9) rfl dX10_again_31 ?_
            obtain ⟨t_people_held_20, t_people_known_21, hc22, h⟩ := nh_b2_some h
            refine nh_gov (nh_V (As := [.ref q_t_people]) (rest := []) ⟨hx, hb, hml, hown, hts⟩ (kX6_restore  l D cI cZ cO H.size q_t_slots_0 q_t_people q_t_slots_0_held q_t_slots_0_known q_t_people_held q_t_people_known q_t_people_worths t_slots_0_filled t_slots_0_held t_slots_0_known t_people_count t_people_held t_people_known t_people_held_20 t_people_known_21 hc22) (cwV 1 hts (nh_gV nhw_578 nhw_441 nhw_789 nhw_310 nhw_158) rfl rfl rfl (by decide +kernel) ⟨Nat.le_of_ble_eq_true rfl, Nat.le_of_ble_eq_true rfl⟩) hK hN hP hD (isC := [6, 7, 8, 2, 3, 4]) rfl rfl 6 5 rfl rfl rfl rfl hl.1 rfl (Nat.le_of_ble_eq_true rfl) dX10_again_34 ⟨Nat.zero_le _, Nat.zero_le _⟩) hP hD hS hA (isC := [6, 7, 8, 2, 3, 4]) rfl rfl rfl (w' := (wlX10_again cI cZ cO q_t q_t_text q_t_people q_t_draft q_t_acts q_t_ends q_t_wants q_t_circle q_t_game q_t_stranger q_t_slots q_t_judged q_t_acts_row q_t_people_held q_t_people_known q_t_people_worths q_t_slots_0 q_t_slots_1 q_t_slots_0_held q_t_slots_0_known q_t_slots_1_held q_t_slots_1_known t_acts_count t_people_count t_people_held_20 t_people_known_21 t_slots_0_filled t_slots_0_held t_slots_0_known t_slots_1_filled t_slots_1_held t_slots_1_known)) rfl (fun H locs hP hD hS => ?_)
            refine lv_aload_n hx hb dX10_again_37 rfl (lv_at hl 0 rfl) ?_
            refine va_get (D := D) (ci := 9) (v := .ref q_t_acts) (C := RX10) (T := TX10) (N := 11) hx hb hts nhu_X10 hown hK hP 0 rfl rfl 3 (by decide) (hts _ nhw_220) (fun _ h9 => h9) rfl dX10_again_38 ?_
            refine lv_iconst (v := 0) hx hb dX10_again_41 (by decide) ?_
            refine va_put (D := D) (ci := 0) (v := .int 0) (ty := .int) (C := RX0) (T := TX0) (N := 2) hx hb hts nhu_X0 tyX0 tyX0_ok nmX0 hown hK hP hD hS 1 rfl rfl 0 (by decide) (hts _ nhw_229) (fun _ h9 => h9) rfl (by decide +kernel) rfl rfl (Nat.le_of_ble_eq_true rfl) dX10_again_42 (fun H locs hP hD hS => ?_)
            have hP : va_P D vwCl (wlX10_again cI cZ cO q_t q_t_text q_t_people q_t_draft q_t_acts q_t_ends q_t_wants q_t_circle q_t_game q_t_stranger q_t_slots q_t_judged q_t_acts_row q_t_people_held q_t_people_known q_t_people_worths q_t_slots_0 q_t_slots_1 q_t_slots_0_held q_t_slots_0_known q_t_slots_1_held q_t_slots_1_known 0 t_people_count t_people_held_20 t_people_known_21 t_slots_0_filled t_slots_0_held t_slots_0_known t_slots_1_filled t_slots_1_held t_slots_1_known) H := hP
            have hD : va_D A (wlX10_again cI cZ cO q_t q_t_text q_t_people q_t_draft q_t_acts q_t_ends q_t_wants q_t_circle q_t_game q_t_stranger q_t_slots q_t_judged q_t_acts_row q_t_people_held q_t_people_known q_t_people_worths q_t_slots_0 q_t_slots_1 q_t_slots_0_held q_t_slots_0_known q_t_slots_1_held q_t_slots_1_known 0 t_people_count t_people_held_20 t_people_known_21 t_slots_0_filled t_slots_0_held t_slots_0_known t_slots_1_filled t_slots_1_held t_slots_1_known) := hD
            refine lv_aload_n hx hb dX10_again_45 rfl (lv_at hl 0 rfl) ?_
            refine va_get (D := D) (ci := 9) (v := .ref q_t_people) (C := RX10) (T := TX10) (N := 11) hx hb hts nhu_X10 hown hK hP 0 rfl rfl 1 (by decide) (hts _ nhw_215) (fun _ h9 => h9) rfl dX10_again_46 ?_
            obtain ⟨r_23, hc24, h⟩ := nh_b1_some h
            refine nh_goi (nh_V (As := []) (rest := []) ⟨hx, hb, hml, hown, hts⟩ (kX1_holders F l D cI cZ cO H.size q_t_people q_t_people_held q_t_people_known q_t_people_worths t_people_count t_people_held_20 r_23 hc24) (cwV 0 hts (nh_gV nhw_548 nhw_420 nhw_682 nhw_303 nhw_129) rfl rfl rfl (by decide +kernel) ⟨Nat.le_of_ble_eq_true rfl, Nat.le_of_ble_eq_true rfl⟩) hK hN hP hD (isC := [2, 3]) rfl rfl 2 1 rfl rfl rfl rfl hl.1 rfl (Nat.le_of_ble_eq_true rfl) dX10_again_49 ⟨Nat.zero_le _, Nat.zero_le _⟩) hP hD hS hA (isC := [2, 3]) rfl rfl rfl (w' := (wlX10_again cI cZ cO q_t q_t_text q_t_people q_t_draft q_t_acts q_t_ends q_t_wants q_t_circle q_t_game q_t_stranger q_t_slots q_t_judged q_t_acts_row q_t_people_held q_t_people_known q_t_people_worths q_t_slots_0 q_t_slots_1 q_t_slots_0_held q_t_slots_0_known q_t_slots_1_held q_t_slots_1_known 0 t_people_count t_people_held_20 t_people_known_21 t_slots_0_filled t_slots_0_held t_slots_0_known t_slots_1_filled t_slots_1_held t_slots_1_known)) rfl (fun H locs hP hD hS => ?_)
            obtain ⟨g0, g1, g2, g3⟩ := nh_i4 h
            exact nh_ri hx hb hr hlocks g0 (by rw [← g1, ← g2, ← g3]; exact hP) hS dX10_again_52
          · replace h := nh_f h c18
            by_cases c19 : i1 = 1
            · replace h := nh_t h c19
              refine va_aldq hx hb hK hP 5 2 rfl rfl (by rw [c19]; exact nh_in_in (by decide)) dX10_again_29 ?_
              have c19v : va_rf (nh_two q_t_slots_0 q_t_slots_1 (Int32.toNatClampNeg i1)) = .ref q_t_slots_1 := by rw [c19]; rfl
              rw [c19v]
              refine lv_aload_n hx hb dX10_again_30 rfl (lv_at hl 0 rfl) ?_
              refine va_get (D := D) (ci := 9) (v := .ref q_t_people) (C := RX10) (T := TX10) (N := 11) hx hb hts nhu_X10 hown hK hP 0 rfl rfl 1 (by decide) (hts _ nhw_215) (fun _ h9 => h9) rfl dX10_again_31 ?_
              obtain ⟨t_people_held_25, t_people_known_26, hc27, h⟩ := nh_b2_some h
              refine nh_gov (nh_V (As := [.ref q_t_people]) (rest := []) ⟨hx, hb, hml, hown, hts⟩ (kX6_restore  l D cI cZ cO H.size q_t_slots_1 q_t_people q_t_slots_1_held q_t_slots_1_known q_t_people_held q_t_people_known q_t_people_worths t_slots_1_filled t_slots_1_held t_slots_1_known t_people_count t_people_held t_people_known t_people_held_25 t_people_known_26 hc27) (cwV 1 hts (nh_gV nhw_578 nhw_441 nhw_789 nhw_310 nhw_158) rfl rfl rfl (by decide +kernel) ⟨Nat.le_of_ble_eq_true rfl, Nat.le_of_ble_eq_true rfl⟩) hK hN hP hD (isC := [9, 10, 11, 2, 3, 4]) rfl rfl 9 5 rfl rfl rfl rfl hl.1 rfl (Nat.le_of_ble_eq_true rfl) dX10_again_34 ⟨Nat.zero_le _, Nat.zero_le _⟩) hP hD hS hA (isC := [9, 10, 11, 2, 3, 4]) rfl rfl rfl (w' := (wlX10_again cI cZ cO q_t q_t_text q_t_people q_t_draft q_t_acts q_t_ends q_t_wants q_t_circle q_t_game q_t_stranger q_t_slots q_t_judged q_t_acts_row q_t_people_held q_t_people_known q_t_people_worths q_t_slots_0 q_t_slots_1 q_t_slots_0_held q_t_slots_0_known q_t_slots_1_held q_t_slots_1_known t_acts_count t_people_count t_people_held_25 t_people_known_26 t_slots_0_filled t_slots_0_held t_slots_0_known t_slots_1_filled t_slots_1_held t_slots_1_known)) rfl (fun H locs hP hD hS => ?_)
              refine lv_aload_n hx hb dX10_again_37 rfl (lv_at hl 0 rfl) ?_
              refine va_get (D := D) (ci := 9) (v := .ref q_t_acts) (C := RX10) (T := TX10) (N := 11) hx hb hts nhu_X10 hown hK hP 0 rfl rfl 3 (by decide) (hts _ nhw_220) (fun _ h9 => h9) rfl dX10_again_38 ?_
              refine lv_iconst (v := 0) hx hb dX10_again_41 (by decide) ?_
              refine va_put (D := D) (ci := 0) (v := .int 0) (ty := .int) (C := RX0) (T := TX0) (N := 2) hx hb hts nhu_X0 tyX0 tyX0_ok nmX0 hown hK hP hD hS 1 rfl rfl 0 (by decide) (hts _ nhw_229) (fun _ h9 => h9) rfl (by decide +kernel) rfl rfl (Nat.le_of_ble_eq_true rfl) dX10_again_42 (fun H locs hP hD hS => ?_)
              have hP : va_P D vwCl (wlX10_again cI cZ cO q_t q_t_text q_t_people q_t_draft q_t_acts q_t_ends q_t_wants q_t_circle q_t_game q_t_stranger q_t_slots q_t_judged q_t_acts_row q_t_people_held q_t_people_known q_t_people_worths q_t_slots_0 q_t_slots_1 q_t_slots_0_held q_t_slots_0_known q_t_slots_1_held q_t_slots_1_known 0 t_people_count t_people_held_25 t_people_known_26 t_slots_0_filled t_slots_0_held t_slots_0_known t_slots_1_filled t_slots_1_held t_slots_1_known) H := hP
              have hD : va_D A (wlX10_again cI cZ cO q_t q_t_text q_t_people q_t_draft q_t_acts q_t_ends q_t_wants q_t_circle q_t_game q_t_stranger q_t_slots q_t_judged q_t_acts_row q_t_people_held q_t_people_known q_t_people_worths q_t_slots_0 q_t_slots_1 q_t_slots_0_held q_t_slots_0_known q_t_slots_1_held q_t_slots_1_known 0 t_people_count t_people_held_25 t_people_known_26 t_slots_0_filled t_slots_0_held t_slots_0_known t_slots_1_filled t_slots_1_held t_slots_1_known) := hD
              refine lv_aload_n hx hb dX10_again_45 rfl (lv_at hl 0 rfl) ?_
              refine va_get (D := D) (ci := 9) (v := .ref q_t_people) (C := RX10) (T := TX10) (N := 11) hx hb hts nhu_X10 hown hK hP 0 rfl rfl 1 (by decide) (hts _ nhw_215) (fun _ h9 => h9) rfl dX10_again_46 ?_
              obtain ⟨r_28, hc29, h⟩ := nh_b1_some h
              refine nh_goi (nh_V (As := []) (rest := []) ⟨hx, hb, hml, hown, hts⟩ (kX1_holders F l D cI cZ cO H.size q_t_people q_t_people_held q_t_people_known q_t_people_worths t_people_count t_people_held_25 r_28 hc29) (cwV 0 hts (nh_gV nhw_548 nhw_420 nhw_682 nhw_303 nhw_129) rfl rfl rfl (by decide +kernel) ⟨Nat.le_of_ble_eq_true rfl, Nat.le_of_ble_eq_true rfl⟩) hK hN hP hD (isC := [2, 3]) rfl rfl 2 1 rfl rfl rfl rfl hl.1 rfl (Nat.le_of_ble_eq_true rfl) dX10_again_49 ⟨Nat.zero_le _, Nat.zero_le _⟩) hP hD hS hA (isC := [2, 3]) rfl rfl rfl (w' := (wlX10_again cI cZ cO q_t q_t_text q_t_people q_t_draft q_t_acts q_t_ends q_t_wants q_t_circle q_t_game q_t_stranger q_t_slots q_t_judged q_t_acts_row q_t_people_held q_t_people_known q_t_people_worths q_t_slots_0 q_t_slots_1 q_t_slots_0_held q_t_slots_0_known q_t_slots_1_held q_t_slots_1_known 0 t_people_count t_people_held_25 t_people_known_26 t_slots_0_filled t_slots_0_held t_slots_0_known t_slots_1_filled t_slots_1_held t_slots_1_known)) rfl (fun H locs hP hD hS => ?_)
              obtain ⟨g0, g1, g2, g3⟩ := nh_i4 h
              exact nh_ri hx hb hr hlocks g0 (by rw [← g1, ← g2, ← g3]; exact hP) hS dX10_again_52
            · replace h := nh_f h c19
              exact (nh_none h).elim
        · replace h := nh_t h c17
          refine lv_bipush (v := (-3)) hx hb dX10_again_21 (by decide) ?_
          obtain ⟨g0, g1, g2, g3⟩ := nh_i4 h
          exact nh_ri hx hb hr hlocks g0 (by rw [← g1, ← g2, ← g3]; exact hP) hS dX10_again_23
      · replace h := nh_f h c3
        exact (nh_none h).elim
  · replace h := nh_t h c1
    refine lv_iconst (v := (-1)) hx hb dX10_again_7 (by decide) ?_
    obtain ⟨g0, g1, g2, g3⟩ := nh_i4 h
    exact nh_ri hx hb hr hlocks g0 (by rw [← g1, ← g2, ← g3]; exact hP) hS dX10_again_8
