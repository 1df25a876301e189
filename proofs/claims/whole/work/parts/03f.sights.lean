abbrev wlX5_add (cI cZ cO : ClassId) (q_t q_t_sorts q_t_tooks : Nat) (t_count : Int32) (t_sorts : Nat → Int32) (t_tooks : Nat → Int32) : va_W := [(q_t, .inr (4, [.int t_count, .ref q_t_sorts, .ref q_t_tooks])), (q_t_sorts, .inl (cI, 8, .inl t_sorts)), (q_t_tooks, .inl (cZ, 8, .inl t_tooks))]
def fX5_add (t_count : Int32) (t_sorts : Nat → Int32) (t_tooks : Nat → Int32) (i1 : Int32) (i2 : Int32) : Option (Int32 × (Nat → Int32) × (Nat → Int32)) :=
  (if 8 ≤ t_count then some (t_count, t_sorts, t_tooks)
 else nh_chk (nh_in t_count 8) (nh_let (α := Nat → Int32) (upd t_sorts (Int32.toNatClampNeg t_count) i1) (fun t_sorts_3 => nh_chk (nh_in t_count 8) (nh_let (α := Nat → Int32) (upd t_tooks (Int32.toNatClampNeg t_count) (vp_nar .boolean i2)) (fun t_tooks_5 => nh_let (α := Int32) ((t_count + 1)) (fun y_6 => some (y_6, t_sorts_3, t_tooks_5)))))))
set_option maxHeartbeats 4000000 in
set_option maxRecDepth 100000 in
theorem kX5_add (l : Launch) (D : va_G) (cI cZ cO : ClassId) (sz : Nat) (q_t q_t_sorts q_t_tooks : Nat) (t_count : Int32) (t_sorts : Nat → Int32) (t_tooks : Nat → Int32) (i1 : Int32) (i2 : Int32) (o_t_count : Int32) (o_t_sorts : Nat → Int32) (o_t_tooks : Nat → Int32) (h : fX5_add t_count t_sorts t_tooks i1 i2 = some (o_t_count, o_t_sorts, o_t_tooks)) : Met l yX5_add (nh_w (.code yX5_add cX5_add 3 none)) (nh_rm 0) (nh_Pc D cI cZ cO (wlX5_add cI cZ cO q_t q_t_sorts q_t_tooks t_count t_sorts t_tooks) [.ref q_t, .int i1, .int i2] sz) ((nh_Qv D (wlX5_add cI cZ cO q_t q_t_sorts q_t_tooks o_t_count o_t_sorts o_t_tooks)) (va_A (wlX5_add cI cZ cO q_t q_t_sorts q_t_tooks t_count t_sorts t_tooks) sz)) 0 0 (va_A (wlX5_add cI cZ cO q_t q_t_sorts q_t_tooks t_count t_sorts t_tooks) sz) := by
  unfold fX5_add at h
  refine nh_met (cc := cX5_add) (maxL := 3) (ret := none) (nh_Qv D (wlX5_add cI cZ cO q_t q_t_sorts q_t_tooks o_t_count o_t_sorts o_t_tooks)) (by decide) rfl (Nat.le_of_ble_eq_true rfl) ?_
  intro p e s m args below meth c A H locs ls hx hb hml hr hown hts hlocks hinit hP hK hN hD hA hS hl
  have hl : lv_has ls 3 [(0, .ref q_t), (1, .int i1), (2, .int i2)] := hl
  have hts : ∀ w ∈ nh_words, w.before args s = true := fun w h => hts w (List.mem_cons_of_mem _ h)
  refine lv_aload_n hx hb dX5_add_0 rfl (lv_at hl 0 rfl) ?_
  refine va_get (D := D) (ci := 4) (v := .int t_count) (C := RX5) (T := TX5) (N := 3) hx hb hts nhu_X5 hown hK hP 0 rfl rfl 0 (by decide) (hts _ nhw_276) (fun _ h9 => h9) rfl dX5_add_1 ?_
  refine lv_bipush (v := 8) hx hb dX5_add_4 (by decide) ?_
  refine lv_icmp_ge (tgt := 39) hx hb dX5_add_6 (by decide) (fun c1 => ?_) (fun c1 => ?_)
  · replace h := nh_t h c1
    obtain ⟨g0, g1, g2⟩ := nh_i3 h
    exact nh_rv hx hb hr hlocks (by rw [← g0, ← g1, ← g2]; exact hP) hS dX5_add_39
  · replace h := nh_f h c1
    refine lv_aload_n hx hb dX5_add_9 rfl (lv_at hl 0 rfl) ?_
    refine va_get (D := D) (ci := 4) (v := .ref q_t_sorts) (C := RX5) (T := TX5) (N := 3) hx hb hts nhu_X5 hown hK hP 0 rfl rfl 1 (by decide) (hts _ nhw_277) (fun _ h9 => h9) rfl dX5_add_10 ?_
    refine lv_aload_n hx hb dX5_add_13 rfl (lv_at hl 0 rfl) ?_
    refine va_get (D := D) (ci := 4) (v := .int t_count) (C := RX5) (T := TX5) (N := 3) hx hb hts nhu_X5 hown hK hP 0 rfl rfl 0 (by decide) (hts _ nhw_276) (fun _ h9 => h9) rfl dX5_add_14 ?_
    refine lv_iload_n hx hb dX5_add_17 rfl (lv_at hl 1 rfl) ?_
    obtain ⟨z2, h⟩ := nh_chk_some h
    refine va_iast hx hb hK hP hD hS 1 0 rfl rfl (nh_in_in z2) dX5_add_18 (fun H locs hP hD hS => ?_)
    obtain ⟨t_sorts_3, et_sorts_3⟩ : ∃ y : Nat → Int32, y = upd t_sorts (Int32.toNatClampNeg t_count) i1 := ⟨_, rfl⟩
    replace h := nh_to h et_sorts_3
    have hP : va_P D vwCl (wlX5_add cI cZ cO q_t q_t_sorts q_t_tooks t_count t_sorts_3 t_tooks) H := by rw [et_sorts_3]; exact hP
    have hD : va_D A (wlX5_add cI cZ cO q_t q_t_sorts q_t_tooks t_count t_sorts_3 t_tooks) := by rw [et_sorts_3]; exact hD
    refine lv_aload_n hx hb dX5_add_19 rfl (lv_at hl 0 rfl) ?_
    refine va_get (D := D) (ci := 4) (v := .ref q_t_tooks) (C := RX5) (T := TX5) (N := 3) hx hb hts nhu_X5 hown hK hP 0 rfl rfl 2 (by decide) (hts _ nhw_275) (fun _ h9 => h9) rfl dX5_add_20 ?_
    refine lv_aload_n hx hb dX5_add_23 rfl (lv_at hl 0 rfl) ?_
    refine va_get (D := D) (ci := 4) (v := .int t_count) (C := RX5) (T := TX5) (N := 3) hx hb hts nhu_X5 hown hK hP 0 rfl rfl 0 (by decide) (hts _ nhw_276) (fun _ h9 => h9) rfl dX5_add_24 ?_
    refine lv_iload_n hx hb dX5_add_27 rfl (lv_at hl 2 rfl) ?_
    obtain ⟨z4, h⟩ := nh_chk_some h
    refine va_zast hx hb hK hP hD hS 2 1 rfl rfl (nh_in_in z4) dX5_add_28 (fun H locs hP hD hS => ?_)
    obtain ⟨t_tooks_5, et_tooks_5⟩ : ∃ y : Nat → Int32, y = upd t_tooks (Int32.toNatClampNeg t_count) (vp_nar .boolean i2) := ⟨_, rfl⟩
    replace h := nh_to h et_tooks_5
    have hP : va_P D vwCl (wlX5_add cI cZ cO q_t q_t_sorts q_t_tooks t_count t_sorts_3 t_tooks_5) H := by rw [et_tooks_5]; exact hP
    have hD : va_D A (wlX5_add cI cZ cO q_t q_t_sorts q_t_tooks t_count t_sorts_3 t_tooks_5) := by rw [et_tooks_5]; exact hD
    refine lv_aload_n hx hb dX5_add_29 rfl (lv_at hl 0 rfl) ?_
    refine lv_dup hx hb dX5_add_30 rfl ?_
    refine va_get (D := D) (ci := 4) (v := .int t_count) (C := RX5) (T := TX5) (N := 3) hx hb hts nhu_X5 hown hK hP 0 rfl rfl 0 (by decide) (hts _ nhw_276) (fun _ h9 => h9) rfl dX5_add_31 ?_
    refine lv_iconst (v := 1) hx hb dX5_add_34 (by decide) ?_
    refine lv_iadd hx hb dX5_add_35 ?_
    refine lv_topi (fun y_6 ey_6 => ?_)
    replace h := nh_to h ey_6
    refine va_put (D := D) (ci := 4) (v := .int y_6) (ty := .int) (C := RX5) (T := TX5) (N := 3) hx hb hts nhu_X5 tyX5 tyX5_ok nmX5 hown hK hP hD hS 0 rfl rfl 0 (by decide) (hts _ nhw_276) (fun _ h9 => h9) rfl (by decide +kernel) rfl rfl (Nat.le_of_ble_eq_true rfl) dX5_add_36 (fun H locs hP hD hS => ?_)
    have hP : va_P D vwCl (wlX5_add cI cZ cO q_t q_t_sorts q_t_tooks y_6 t_sorts_3 t_tooks_5) H := hP
    have hD : va_D A (wlX5_add cI cZ cO q_t q_t_sorts q_t_tooks y_6 t_sorts_3 t_tooks_5) := hD
    obtain ⟨g0, g1, g2⟩ := nh_i3 h
    exact nh_rv hx hb hr hlocks (by rw [← g0, ← g1, ← g2]; exact hP) hS dX5_add_39
abbrev wlX5_fits (cI cZ cO : ClassId) (q_t q_t_sorts q_t_tooks : Nat) (t_count : Int32) (t_sorts : Nat → Int32) (t_tooks : Nat → Int32) : va_W := [(q_t, .inr (4, [.int t_count, .ref q_t_sorts, .ref q_t_tooks])), (q_t_sorts, .inl (cI, 8, .inl t_sorts)), (q_t_tooks, .inl (cZ, 8, .inl t_tooks))]
def fX5_fits_B5 (t_count : Int32) (t_sorts : Nat → Int32) (t_tooks : Nat → Int32) (i1 : Int32) (k5 : Int32 → Int32 → Option (Int32)) (r5 : Int32 → Int32 → Option (Int32)) (x3_1 : Int32) (x4_2 : Int32) : Option (Int32) :=
  (if t_count ≤ x4_2 then k5 x3_1 x4_2
 else nh_chk (nh_in x4_2 8) ((if (t_sorts (Int32.toNatClampNeg x4_2)) = i1 then nh_chk (nh_in x4_2 8) ((if (t_tooks (Int32.toNatClampNeg x4_2)) = x3_1 then some 0
 else nh_let (α := Int32) (x4_2 + 1) (fun x4_11 => r5 1 x4_11)))
 else nh_let (α := Int32) (x4_2 + 1) (fun x4_8 => r5 x3_1 x4_8))))
def fX5_fits_L5 (t_count : Int32) (t_sorts : Nat → Int32) (t_tooks : Nat → Int32) (i1 : Int32) (k5 : Int32 → Int32 → Option (Int32)) : Nat → Int32 → Int32 → Option (Int32)
  | 0 => fun _ _ => none
  | n + 1 => fX5_fits_B5 t_count t_sorts t_tooks i1 k5 (fX5_fits_L5 t_count t_sorts t_tooks i1 k5 n)
def fX5_fits (F : Nat) (t_count : Int32) (t_sorts : Nat → Int32) (t_tooks : Nat → Int32) (i1 : Int32) (i2 : Int32) : Option (Int32) :=
  fX5_fits_L5 t_count t_sorts t_tooks i1 (fun x3_3 x4_4 => some 1) F i2 0
set_option maxHeartbeats 4000000 in
set_option maxRecDepth 100000 in
theorem kX5_fits (F : Nat) (l : Launch) (D : va_G) (cI cZ cO : ClassId) (sz : Nat) (q_t q_t_sorts q_t_tooks : Nat) (t_count : Int32) (t_sorts : Nat → Int32) (t_tooks : Nat → Int32) (i1 : Int32) (i2 : Int32) (o_r : Int32) (h : fX5_fits F t_count t_sorts t_tooks i1 i2 = some o_r) : Met l yX5_fits (nh_w (.code yX5_fits cX5_fits 5 (some .boolean))) (nh_rm 0) (nh_Pc D cI cZ cO (wlX5_fits cI cZ cO q_t q_t_sorts q_t_tooks t_count t_sorts t_tooks) [.ref q_t, .int i1, .int i2] sz) ((nh_Qi D (wlX5_fits cI cZ cO q_t q_t_sorts q_t_tooks t_count t_sorts t_tooks) o_r) (va_A (wlX5_fits cI cZ cO q_t q_t_sorts q_t_tooks t_count t_sorts t_tooks) sz)) 0 0 (va_A (wlX5_fits cI cZ cO q_t q_t_sorts q_t_tooks t_count t_sorts t_tooks) sz) := by
  unfold fX5_fits at h
  refine nh_met (cc := cX5_fits) (maxL := 5) (ret := (some .boolean)) (nh_Qi D (wlX5_fits cI cZ cO q_t q_t_sorts q_t_tooks t_count t_sorts t_tooks) o_r) (by decide) rfl (Nat.le_of_ble_eq_true rfl) ?_
  intro p e s m args below meth c A H locs ls hx hb hml hr hown hts hlocks hinit hP hK hN hD hA hS hl
  have hl : lv_has ls 5 [(0, .ref q_t), (1, .int i1), (2, .int i2)] := hl
  have hts : ∀ w ∈ nh_words, w.before args s = true := fun w h => hts w (List.mem_cons_of_mem _ h)
  refine lv_iload_n hx hb dX5_fits_0 rfl (lv_at hl 2 rfl) ?_
  refine lv_istore_n (lv' := [(3, .int i2), (0, .ref q_t), (1, .int i1), (2, .int i2)]) hx hb dX5_fits_1 rfl hl (by decide) rfl (fun ls hl => ?_)
  refine lv_iconst (v := 0) hx hb dX5_fits_2 (by decide) ?_
  refine lv_istore (lv' := [(4, .int 0), (3, .int i2), (0, .ref q_t), (1, .int i1), (2, .int i2)]) hx hb dX5_fits_3 hl (by decide) rfl (fun ls hl => ?_)
  have L5 : ∀ (k5 : Int32 → Int32 → Option (Int32)), (∀ (x3_3 : Int32) (x4_4 : Int32) (H : Heap) (locs : List Loc) (ls : Array Slot), va_P D vwCl (wlX5_fits cI cZ cO q_t q_t_sorts q_t_tooks t_count t_sorts t_tooks) H → va_D A (wlX5_fits cI cZ cO q_t q_t_sorts q_t_tooks t_count t_sorts t_tooks) → va_S A s.heap H locs → lv_has ls 5 [(0, .ref q_t), (1, .int i1), (2, .int i2), (3, .int x3_3), (4, .int x4_4)] → k5 x3_3 x4_4 = some o_r → W p l e (nh_rm 0) s m args below meth c H locs 0 0 (MQ below ((nh_Qi D (wlX5_fits cI cZ cO q_t q_t_sorts q_t_tooks t_count t_sorts t_tooks) o_r) A) args s 0 0 A) (F0 m 46 ls [])) → ∀ (n : Nat) (x3_1 : Int32) (x4_2 : Int32) (H : Heap) (locs : List Loc) (ls : Array Slot), va_P D vwCl (wlX5_fits cI cZ cO q_t q_t_sorts q_t_tooks t_count t_sorts t_tooks) H → va_D A (wlX5_fits cI cZ cO q_t q_t_sorts q_t_tooks t_count t_sorts t_tooks) → va_S A s.heap H locs → lv_has ls 5 [(0, .ref q_t), (1, .int i1), (2, .int i2), (3, .int x3_1), (4, .int x4_2)] → fX5_fits_L5 t_count t_sorts t_tooks i1 k5 n x3_1 x4_2 = some o_r → W p l e (nh_rm 0) s m args below meth c H locs 0 0 (MQ below ((nh_Qi D (wlX5_fits cI cZ cO q_t q_t_sorts q_t_tooks t_count t_sorts t_tooks) o_r) A) args s 0 0 A) (F0 m 5 ls []) := by
    intro k5 hk5 n
    induction n with
    | zero => intro x3_1 x4_2 H locs ls hP hD hS hl h; exact (nh_none h).elim
    | succ n5 ih5 =>
      intro x3_1 x4_2 H locs ls hP hD hS hl h
      replace h : fX5_fits_B5 t_count t_sorts t_tooks i1 k5 (fX5_fits_L5 t_count t_sorts t_tooks i1 k5 n5) x3_1 x4_2 = some o_r := h
      unfold fX5_fits_B5 at h
      refine lv_iload hx hb dX5_fits_5 (lv_at hl 4 rfl) ?_
      refine lv_aload_n hx hb dX5_fits_7 rfl (lv_at hl 0 rfl) ?_
      refine va_get (D := D) (ci := 4) (v := .int t_count) (C := RX5) (T := TX5) (N := 3) hx hb hts nhu_X5 hown hK hP 0 rfl rfl 0 (by decide) (hts _ nhw_276) (fun _ h9 => h9) rfl dX5_fits_8 ?_
      refine lv_icmp_ge (tgt := 46) hx hb dX5_fits_11 (by decide) (fun c5 => ?_) (fun c5 => ?_)
      · replace h := nh_t h c5
        exact hk5 x3_1 x4_2 H locs ls hP hD hS (lv_sub hl [0, 1, 2, 3, 4] rfl) h
      · replace h := nh_f h c5
        refine lv_aload_n hx hb dX5_fits_14 rfl (lv_at hl 0 rfl) ?_
        refine va_get (D := D) (ci := 4) (v := .ref q_t_sorts) (C := RX5) (T := TX5) (N := 3) hx hb hts nhu_X5 hown hK hP 0 rfl rfl 1 (by decide) (hts _ nhw_277) (fun _ h9 => h9) rfl dX5_fits_15 ?_
        refine lv_iload hx hb dX5_fits_18 (lv_at hl 4 rfl) ?_
        obtain ⟨z6, h⟩ := nh_chk_some h
        refine va_iald hx hb hK hP 1 0 rfl rfl (nh_in_in z6) dX5_fits_20 ?_
        refine lv_iload_n hx hb dX5_fits_21 rfl (lv_at hl 1 rfl) ?_
        refine lv_icmp_ne (tgt := 40) hx hb dX5_fits_22 (by decide) (fun c7 => ?_) (fun c7 => ?_)
        · replace h := nh_f h c7
          obtain ⟨x4_8, ex4_8⟩ : ∃ y : Int32, y = x4_2 + 1 := ⟨_, rfl⟩
          replace h := nh_to h ex4_8
          refine lv_iinc (v := x4_8) (lv' := [(4, .int x4_8), (0, .ref q_t), (1, .int i1), (2, .int i2), (3, .int x3_1)]) hx hb dX5_fits_40 hl (k := 4) rfl (by rw [ex4_8]; rfl) (by decide) rfl (fun ls hl => ?_)
          refine lv_goto (tgt := 5) hx hb dX5_fits_43 (by decide) ?_
          exact ih5 x3_1 x4_8 H locs ls hP hD hS (lv_sub hl [1, 2, 3, 4, 0] rfl) h
        · replace h := nh_t h c7
          refine lv_aload_n hx hb dX5_fits_25 rfl (lv_at hl 0 rfl) ?_
          refine va_get (D := D) (ci := 4) (v := .ref q_t_tooks) (C := RX5) (T := TX5) (N := 3) hx hb hts nhu_X5 hown hK hP 0 rfl rfl 2 (by decide) (hts _ nhw_275) (fun _ h9 => h9) rfl dX5_fits_26 ?_
          refine lv_iload hx hb dX5_fits_29 (lv_at hl 4 rfl) ?_
          obtain ⟨z9, h⟩ := nh_chk_some h
          refine va_zald hx hb hK hP 2 1 rfl rfl (nh_in_in z9) dX5_fits_31 ?_
          refine lv_iload_n hx hb dX5_fits_32 rfl (lv_at hl 3 rfl) ?_
          refine lv_icmp_ne (tgt := 38) hx hb dX5_fits_33 (by decide) (fun c10 => ?_) (fun c10 => ?_)
          · replace h := nh_f h c10
            refine lv_iconst (v := 1) hx hb dX5_fits_38 (by decide) ?_
            refine lv_istore_n (lv' := [(3, .int 1), (0, .ref q_t), (1, .int i1), (2, .int i2), (4, .int x4_2)]) hx hb dX5_fits_39 rfl hl (by decide) rfl (fun ls hl => ?_)
            obtain ⟨x4_11, ex4_11⟩ : ∃ y : Int32, y = x4_2 + 1 := ⟨_, rfl⟩
            replace h := nh_to h ex4_11
            refine lv_iinc (v := x4_11) (lv' := [(4, .int x4_11), (3, .int 1), (0, .ref q_t), (1, .int i1), (2, .int i2)]) hx hb dX5_fits_40 hl (k := 4) rfl (by rw [ex4_11]; rfl) (by decide) rfl (fun ls hl => ?_)
            refine lv_goto (tgt := 5) hx hb dX5_fits_43 (by decide) ?_
            exact ih5 1 x4_11 H locs ls hP hD hS (lv_sub hl [2, 3, 4, 1, 0] rfl) h
          · replace h := nh_t h c10
            refine lv_iconst (v := 0) hx hb dX5_fits_36 (by decide) ?_
            replace h := nh_i1 h
            exact nh_rz hx hb hr hlocks h rfl hP hS dX5_fits_37
  refine L5 _ (fun x3_3 x4_4 H locs ls hP hD hS hl h => ?_) _ i2 0 H locs ls hP hD hS (lv_sub hl [2, 3, 4, 1, 0] rfl) h
  refine lv_iconst (v := 1) hx hb dX5_fits_46 (by decide) ?_
  replace h := nh_i1 h
  exact nh_rz hx hb hr hlocks h rfl hP hS dX5_fits_47
abbrev wlX5_fittingLists (cI cZ cO : ClassId) (q_t q_t_sorts q_t_tooks : Nat) (t_count : Int32) (t_sorts : Nat → Int32) (t_tooks : Nat → Int32) : va_W := [(q_t, .inr (4, [.int t_count, .ref q_t_sorts, .ref q_t_tooks])), (q_t_sorts, .inl (cI, 8, .inl t_sorts)), (q_t_tooks, .inl (cZ, 8, .inl t_tooks))]
def fX5_fittingLists_B4 (t_count : Int32) (t_sorts : Nat → Int32) (t_tooks : Nat → Int32) (F : Nat) (k4 : Int32 → Int32 → Option (Int32)) (r4 : Int32 → Int32 → Option (Int32)) (x1_1 : Int32) (x2_2 : Int32) : Option (Int32) :=
  (if 6 ≤ x2_2 then k4 x1_1 x2_2
 else nh_b1 (fX5_fits F t_count t_sorts t_tooks x2_2 1) (fun r_6 => (if r_6 = 0 then nh_b1 (fX5_fits F t_count t_sorts t_tooks x2_2 0) (fun r_9 => (if r_9 = 0 then nh_let (α := Int32) ((x1_1 * (0 + 0))) (fun y_12 => nh_let (α := Int32) (x2_2 + 1) (fun x2_13 => r4 y_12 x2_13))
 else nh_let (α := Int32) ((x1_1 * (0 + 1))) (fun y_14 => nh_let (α := Int32) (x2_2 + 1) (fun x2_15 => r4 y_14 x2_15))))
 else nh_b1 (fX5_fits F t_count t_sorts t_tooks x2_2 0) (fun r_16 => (if r_16 = 0 then nh_let (α := Int32) ((x1_1 * (1 + 0))) (fun y_19 => nh_let (α := Int32) (x2_2 + 1) (fun x2_20 => r4 y_19 x2_20))
 else nh_let (α := Int32) ((x1_1 * (1 + 1))) (fun y_21 => nh_let (α := Int32) (x2_2 + 1) (fun x2_22 => r4 y_21 x2_22)))))))
def fX5_fittingLists_L4 (t_count : Int32) (t_sorts : Nat → Int32) (t_tooks : Nat → Int32) (F : Nat) (k4 : Int32 → Int32 → Option (Int32)) : Nat → Int32 → Int32 → Option (Int32)
  | 0 => fun _ _ => none
  | n + 1 => fX5_fittingLists_B4 t_count t_sorts t_tooks F k4 (fX5_fittingLists_L4 t_count t_sorts t_tooks F k4 n)
def fX5_fittingLists (F : Nat) (t_count : Int32) (t_sorts : Nat → Int32) (t_tooks : Nat → Int32) : Option (Int32) :=
  fX5_fittingLists_L4 t_count t_sorts t_tooks F (fun x1_3 x2_4 => some x1_3) F 1 0
set_option maxHeartbeats 4000000 in
set_option maxRecDepth 100000 in
theorem kX5_fittingLists (F : Nat) (l : Launch) (D : va_G) (cI cZ cO : ClassId) (sz : Nat) (q_t q_t_sorts q_t_tooks : Nat) (t_count : Int32) (t_sorts : Nat → Int32) (t_tooks : Nat → Int32)  (o_r : Int32) (h : fX5_fittingLists F t_count t_sorts t_tooks = some o_r) : Met l yX5_fittingLists (nh_w (.code yX5_fittingLists cX5_fittingLists 5 (some .int))) (nh_rm 1) (nh_Pc D cI cZ cO (wlX5_fittingLists cI cZ cO q_t q_t_sorts q_t_tooks t_count t_sorts t_tooks) [.ref q_t] sz) ((nh_Qi D (wlX5_fittingLists cI cZ cO q_t q_t_sorts q_t_tooks t_count t_sorts t_tooks) o_r) (va_A (wlX5_fittingLists cI cZ cO q_t q_t_sorts q_t_tooks t_count t_sorts t_tooks) sz)) 0 0 (va_A (wlX5_fittingLists cI cZ cO q_t q_t_sorts q_t_tooks t_count t_sorts t_tooks) sz) := by
  unfold fX5_fittingLists at h
  refine nh_met (cc := cX5_fittingLists) (maxL := 5) (ret := (some .int)) (nh_Qi D (wlX5_fittingLists cI cZ cO q_t q_t_sorts q_t_tooks t_count t_sorts t_tooks) o_r) (by decide) rfl (Nat.le_of_ble_eq_true rfl) ?_
  intro p e s m args below meth c A H locs ls hx hb hml hr hown hts hlocks hinit hP hK hN hD hA hS hl
  have hl : lv_has ls 5 [(0, .ref q_t)] := hl
  have hts : ∀ w ∈ nh_words, w.before args s = true := fun w h => hts w (List.mem_cons_of_mem _ h)
  refine lv_iconst (v := 1) hx hb dX5_fittingLists_0 (by decide) ?_
  refine lv_istore_n (lv' := [(1, .int 1), (0, .ref q_t)]) hx hb dX5_fittingLists_1 rfl hl (by decide) rfl (fun ls hl => ?_)
  refine lv_iconst (v := 0) hx hb dX5_fittingLists_2 (by decide) ?_
  refine lv_istore_n (lv' := [(2, .int 0), (1, .int 1), (0, .ref q_t)]) hx hb dX5_fittingLists_3 rfl hl (by decide) rfl (fun ls hl => ?_)
  have L4 : ∀ (k4 : Int32 → Int32 → Option (Int32)), (∀ (x1_3 : Int32) (x2_4 : Int32) (H : Heap) (locs : List Loc) (ls : Array Slot), va_P D vwCl (wlX5_fittingLists cI cZ cO q_t q_t_sorts q_t_tooks t_count t_sorts t_tooks) H → va_D A (wlX5_fittingLists cI cZ cO q_t q_t_sorts q_t_tooks t_count t_sorts t_tooks) → va_S A s.heap H locs → lv_has ls 5 [(0, .ref q_t), (1, .int x1_3), (2, .int x2_4)] → k4 x1_3 x2_4 = some o_r → W p l e (nh_rm 1) s m args below meth c H locs 0 0 (MQ below ((nh_Qi D (wlX5_fittingLists cI cZ cO q_t q_t_sorts q_t_tooks t_count t_sorts t_tooks) o_r) A) args s 0 0 A) (F0 m 54 ls [])) → ∀ (n : Nat) (x1_1 : Int32) (x2_2 : Int32) (H : Heap) (locs : List Loc) (ls : Array Slot), va_P D vwCl (wlX5_fittingLists cI cZ cO q_t q_t_sorts q_t_tooks t_count t_sorts t_tooks) H → va_D A (wlX5_fittingLists cI cZ cO q_t q_t_sorts q_t_tooks t_count t_sorts t_tooks) → va_S A s.heap H locs → lv_has ls 5 [(0, .ref q_t), (1, .int x1_1), (2, .int x2_2)] → fX5_fittingLists_L4 t_count t_sorts t_tooks F k4 n x1_1 x2_2 = some o_r → W p l e (nh_rm 1) s m args below meth c H locs 0 0 (MQ below ((nh_Qi D (wlX5_fittingLists cI cZ cO q_t q_t_sorts q_t_tooks t_count t_sorts t_tooks) o_r) A) args s 0 0 A) (F0 m 4 ls []) := by
    intro k4 hk4 n
    induction n with
    | zero => intro x1_1 x2_2 H locs ls hP hD hS hl h; exact (nh_none h).elim
    | succ n4 ih4 =>
      intro x1_1 x2_2 H locs ls hP hD hS hl h
      replace h : fX5_fittingLists_B4 t_count t_sorts t_tooks F k4 (fX5_fittingLists_L4 t_count t_sorts t_tooks F k4 n4) x1_1 x2_2 = some o_r := h
      unfold fX5_fittingLists_B4 at h
      refine lv_iload_n hx hb dX5_fittingLists_4 rfl (lv_at hl 2 rfl) ?_
      refine lv_bipush (v := 6) hx hb dX5_fittingLists_5 (by decide) ?_
      refine lv_icmp_ge (tgt := 54) hx hb dX5_fittingLists_7 (by decide) (fun c5 => ?_) (fun c5 => ?_)
      · replace h := nh_t h c5
        exact hk4 x1_1 x2_2 H locs ls hP hD hS (lv_sub hl [0, 1, 2] rfl) h
      · replace h := nh_f h c5
        refine lv_aload_n hx hb dX5_fittingLists_10 rfl (lv_at hl 0 rfl) ?_
        refine lv_iload_n hx hb dX5_fittingLists_11 rfl (lv_at hl 2 rfl) ?_
        refine lv_iconst (v := 1) hx hb dX5_fittingLists_12 (by decide) ?_
        obtain ⟨r_6, hc7, h⟩ := nh_b1_some h
        refine nh_goi (nh_V (As := [.int x2_2, .int 1]) (rest := []) ⟨hx, hb, hml, hown, hts⟩ (kX5_fits F l D cI cZ cO H.size q_t q_t_sorts q_t_tooks t_count t_sorts t_tooks x2_2 1 r_6 hc7) (cwV 2 hts (nh_gV nhw_638 nhw_436 nhw_786 nhw_309 nhw_153) rfl rfl rfl (by decide +kernel) ⟨Nat.le_of_ble_eq_true rfl, Nat.le_of_ble_eq_true rfl⟩) hK hN hP hD (isC := [0, 1, 2]) rfl rfl 0 4 rfl rfl rfl rfl hl.1 rfl (Nat.le_of_ble_eq_true rfl) dX5_fittingLists_13 ⟨Nat.zero_le _, Nat.zero_le _⟩) hP hD hS hA (isC := [0, 1, 2]) rfl rfl rfl (w' := (wlX5_fittingLists cI cZ cO q_t q_t_sorts q_t_tooks t_count t_sorts t_tooks)) rfl (fun H locs hP hD hS => ?_)
        refine lv_if_eq (tgt := 23) hx hb dX5_fittingLists_16 (by decide) (fun c8 => ?_) (fun c8 => ?_)
        · replace h := nh_t h c8
          refine lv_iconst (v := 0) hx hb dX5_fittingLists_23 (by decide) ?_
          refine lv_istore_n (lv' := [(3, .int 0), (0, .ref q_t), (1, .int x1_1), (2, .int x2_2)]) hx hb dX5_fittingLists_24 rfl hl (by decide) rfl (fun ls hl => ?_)
          refine lv_aload_n hx hb dX5_fittingLists_25 rfl (lv_at hl 1 rfl) ?_
          refine lv_iload_n hx hb dX5_fittingLists_26 rfl (lv_at hl 3 rfl) ?_
          refine lv_iconst (v := 0) hx hb dX5_fittingLists_27 (by decide) ?_
          obtain ⟨r_9, hc10, h⟩ := nh_b1_some h
          refine nh_goi (nh_V (As := [.int x2_2, .int 0]) (rest := []) ⟨hx, hb, hml, hown, hts⟩ (kX5_fits F l D cI cZ cO H.size q_t q_t_sorts q_t_tooks t_count t_sorts t_tooks x2_2 0 r_9 hc10) (cwV 2 hts (nh_gV nhw_638 nhw_436 nhw_786 nhw_309 nhw_153) rfl rfl rfl (by decide +kernel) ⟨Nat.le_of_ble_eq_true rfl, Nat.le_of_ble_eq_true rfl⟩) hK hN hP hD (isC := [0, 1, 2]) rfl rfl 0 4 rfl rfl rfl rfl hl.1 rfl (Nat.le_of_ble_eq_true rfl) dX5_fittingLists_28 ⟨Nat.zero_le _, Nat.zero_le _⟩) hP hD hS hA (isC := [0, 1, 2]) rfl rfl rfl (w' := (wlX5_fittingLists cI cZ cO q_t q_t_sorts q_t_tooks t_count t_sorts t_tooks)) rfl (fun H locs hP hD hS => ?_)
          refine lv_if_eq (tgt := 38) hx hb dX5_fittingLists_31 (by decide) (fun c11 => ?_) (fun c11 => ?_)
          · replace h := nh_t h c11
            refine lv_iconst (v := 0) hx hb dX5_fittingLists_38 (by decide) ?_
            refine lv_istore (lv' := [(4, .int 0), (3, .int 0), (0, .ref q_t), (1, .int x1_1), (2, .int x2_2)]) hx hb dX5_fittingLists_39 hl (by decide) rfl (fun ls hl => ?_)
            refine lv_iload_n hx hb dX5_fittingLists_41 rfl (lv_at hl 3 rfl) ?_
            refine lv_iload_n hx hb dX5_fittingLists_42 rfl (lv_at hl 1 rfl) ?_
            refine lv_iload hx hb dX5_fittingLists_43 (lv_at hl 0 rfl) ?_
            refine lv_iadd hx hb dX5_fittingLists_45 ?_
            refine lv_imul hx hb dX5_fittingLists_46 ?_
            refine lv_topi (fun y_12 ey_12 => ?_)
            replace h := nh_to h ey_12
            refine lv_istore_n (lv' := [(1, .int y_12), (4, .int 0), (3, .int 0), (0, .ref q_t), (2, .int x2_2)]) hx hb dX5_fittingLists_47 rfl hl (by decide) rfl (fun ls hl => ?_)
            obtain ⟨x2_13, ex2_13⟩ : ∃ y : Int32, y = x2_2 + 1 := ⟨_, rfl⟩
            replace h := nh_to h ex2_13
            refine lv_iinc (v := x2_13) (lv' := [(2, .int x2_13), (1, .int y_12), (4, .int 0), (3, .int 0), (0, .ref q_t)]) hx hb dX5_fittingLists_48 hl (k := 4) rfl (by rw [ex2_13]; rfl) (by decide) rfl (fun ls hl => ?_)
            refine lv_goto (tgt := 4) hx hb dX5_fittingLists_51 (by decide) ?_
            exact ih4 y_12 x2_13 H locs ls hP hD hS (lv_sub hl [4, 1, 0] rfl) h
          · replace h := nh_f h c11
            refine lv_iconst (v := 1) hx hb dX5_fittingLists_34 (by decide) ?_
            refine lv_goto (tgt := 39) hx hb dX5_fittingLists_35 (by decide) ?_
            refine lv_istore (lv' := [(4, .int 1), (3, .int 0), (0, .ref q_t), (1, .int x1_1), (2, .int x2_2)]) hx hb dX5_fittingLists_39 hl (by decide) rfl (fun ls hl => ?_)
            refine lv_iload_n hx hb dX5_fittingLists_41 rfl (lv_at hl 3 rfl) ?_
            refine lv_iload_n hx hb dX5_fittingLists_42 rfl (lv_at hl 1 rfl) ?_
            refine lv_iload hx hb dX5_fittingLists_43 (lv_at hl 0 rfl) ?_
            refine lv_iadd hx hb dX5_fittingLists_45 ?_
            refine lv_imul hx hb dX5_fittingLists_46 ?_
            refine lv_topi (fun y_14 ey_14 => ?_)
            replace h := nh_to h ey_14
            refine lv_istore_n (lv' := [(1, .int y_14), (4, .int 1), (3, .int 0), (0, .ref q_t), (2, .int x2_2)]) hx hb dX5_fittingLists_47 rfl hl (by decide) rfl (fun ls hl => ?_)
            obtain ⟨x2_15, ex2_15⟩ : ∃ y : Int32, y = x2_2 + 1 := ⟨_, rfl⟩
            replace h := nh_to h ex2_15
            refine lv_iinc (v := x2_15) (lv' := [(2, .int x2_15), (1, .int y_14), (4, .int 1), (3, .int 0), (0, .ref q_t)]) hx hb dX5_fittingLists_48 hl (k := 4) rfl (by rw [ex2_15]; rfl) (by decide) rfl (fun ls hl => ?_)
            refine lv_goto (tgt := 4) hx hb dX5_fittingLists_51 (by decide) ?_
            exact ih4 y_14 x2_15 H locs ls hP hD hS (lv_sub hl [4, 1, 0] rfl) h
        · replace h := nh_f h c8
          refine lv_iconst (v := 1) hx hb dX5_fittingLists_19 (by decide) ?_
          refine lv_goto (tgt := 24) hx hb dX5_fittingLists_20 (by decide) ?_
          refine lv_istore_n (lv' := [(3, .int 1), (0, .ref q_t), (1, .int x1_1), (2, .int x2_2)]) hx hb dX5_fittingLists_24 rfl hl (by decide) rfl (fun ls hl => ?_)
          refine lv_aload_n hx hb dX5_fittingLists_25 rfl (lv_at hl 1 rfl) ?_
          refine lv_iload_n hx hb dX5_fittingLists_26 rfl (lv_at hl 3 rfl) ?_
          refine lv_iconst (v := 0) hx hb dX5_fittingLists_27 (by decide) ?_
          obtain ⟨r_16, hc17, h⟩ := nh_b1_some h
          refine nh_goi (nh_V (As := [.int x2_2, .int 0]) (rest := []) ⟨hx, hb, hml, hown, hts⟩ (kX5_fits F l D cI cZ cO H.size q_t q_t_sorts q_t_tooks t_count t_sorts t_tooks x2_2 0 r_16 hc17) (cwV 2 hts (nh_gV nhw_638 nhw_436 nhw_786 nhw_309 nhw_153) rfl rfl rfl (by decide +kernel) ⟨Nat.le_of_ble_eq_true rfl, Nat.le_of_ble_eq_true rfl⟩) hK hN hP hD (isC := [0, 1, 2]) rfl rfl 0 4 rfl rfl rfl rfl hl.1 rfl (Nat.le_of_ble_eq_true rfl) dX5_fittingLists_28 ⟨Nat.zero_le _, Nat.zero_le _⟩) hP hD hS hA (isC := [0, 1, 2]) rfl rfl rfl (w' := (wlX5_fittingLists cI cZ cO q_t q_t_sorts q_t_tooks t_count t_sorts t_tooks)) rfl (fun H locs hP hD hS => ?_)
          refine lv_if_eq (tgt := 38) hx hb dX5_fittingLists_31 (by decide) (fun c18 => ?_) (fun c18 => ?_)
          · replace h := nh_t h c18
            refine lv_iconst (v := 0) hx hb dX5_fittingLists_38 (by decide) ?_
            refine lv_istore (lv' := [(4, .int 0), (3, .int 1), (0, .ref q_t), (1, .int x1_1), (2, .int x2_2)]) hx hb dX5_fittingLists_39 hl (by decide) rfl (fun ls hl => ?_)
            refine lv_iload_n hx hb dX5_fittingLists_41 rfl (lv_at hl 3 rfl) ?_
            refine lv_iload_n hx hb dX5_fittingLists_42 rfl (lv_at hl 1 rfl) ?_
            refine lv_iload hx hb dX5_fittingLists_43 (lv_at hl 0 rfl) ?_
            refine lv_iadd hx hb dX5_fittingLists_45 ?_
            refine lv_imul hx hb dX5_fittingLists_46 ?_
            refine lv_topi (fun y_19 ey_19 => ?_)
            replace h := nh_to h ey_19
            refine lv_istore_n (lv' := [(1, .int y_19), (4, .int 0), (3, .int 1), (0, .ref q_t), (2, .int x2_2)]) hx hb dX5_fittingLists_47 rfl hl (by decide) rfl (fun ls hl => ?_)
            obtain ⟨x2_20, ex2_20⟩ : ∃ y : Int32, y = x2_2 + 1 := ⟨_, rfl⟩
            replace h := nh_to h ex2_20
            refine lv_iinc (v := x2_20) (lv' := [(2, .int x2_20), (1, .int y_19), (4, .int 0), (3, .int 1), (0, .ref q_t)]) hx hb dX5_fittingLists_48 hl (k := 4) rfl (by rw [ex2_20]; rfl) (by decide) rfl (fun ls hl => ?_)
            refine lv_goto (tgt := 4) hx hb dX5_fittingLists_51 (by decide) ?_
            exact ih4 y_19 x2_20 H locs ls hP hD hS (lv_sub hl [4, 1, 0] rfl) h
          · replace h := nh_f h c18
            refine lv_iconst (v := 1) hx hb dX5_fittingLists_34 (by decide) ?_
            refine lv_goto (tgt := 39) hx hb dX5_fittingLists_35 (by decide) ?_
            refine lv_istore (lv' := [(4, .int 1), (3, .int 1), (0, .ref q_t), (1, .int x1_1), (2, .int x2_2)]) hx hb dX5_fittingLists_39 hl (by decide) rfl (fun ls hl => ?_)
            refine lv_iload_n hx hb dX5_fittingLists_41 rfl (lv_at hl 3 rfl) ?_
            refine lv_iload_n hx hb dX5_fittingLists_42 rfl (lv_at hl 1 rfl) ?_
            refine lv_iload hx hb dX5_fittingLists_43 (lv_at hl 0 rfl) ?_
            refine lv_iadd hx hb dX5_fittingLists_45 ?_
            refine lv_imul hx hb dX5_fittingLists_46 ?_
            refine lv_topi (fun y_21 ey_21 => ?_)
            replace h := nh_to h ey_21
            refine lv_istore_n (lv' := [(1, .int y_21), (4, .int 1), (3, .int 1), (0, .ref q_t), (2, .int x2_2)]) hx hb dX5_fittingLists_47 rfl hl (by decide) rfl (fun ls hl => ?_)
            obtain ⟨x2_22, ex2_22⟩ : ∃ y : Int32, y = x2_2 + 1 := ⟨_, rfl⟩
            replace h := nh_to h ex2_22
            refine lv_iinc (v := x2_22) (lv' := [(2, .int x2_22), (1, .int y_21), (4, .int 1), (3, .int 1), (0, .ref q_t)]) hx hb dX5_fittingLists_48 hl (k := 4) rfl (by rw [ex2_22]; rfl) (by decide) rfl (fun ls hl => ?_)
            refine lv_goto (tgt := 4) hx hb dX5_fittingLists_51 (by decide) ?_
            exact ih4 y_21 x2_22 H locs ls hP hD hS (lv_sub hl [4, 1, 0] rfl) h
  refine L4 _ (fun x1_3 x2_4 H locs ls hP hD hS hl h => ?_) _ 1 0 H locs ls hP hD hS (lv_sub hl [2, 1, 0] rfl) h
  refine lv_iload_n hx hb dX5_fittingLists_54 rfl (lv_at hl 1 rfl) ?_
  replace h := nh_i1 h
  exact nh_ri hx hb hr hlocks h hP hS dX5_fittingLists_55
abbrev wlX5_hadAtFirst (cI cZ cO : ClassId) (q_t q_t_sorts q_t_tooks : Nat) (t_count : Int32) (t_sorts : Nat → Int32) (t_tooks : Nat → Int32) : va_W := [(q_t, .inr (4, [.int t_count, .ref q_t_sorts, .ref q_t_tooks])), (q_t_sorts, .inl (cI, 8, .inl t_sorts)), (q_t_tooks, .inl (cZ, 8, .inl t_tooks))]
def fX5_hadAtFirst (F : Nat) (t_count : Int32) (t_sorts : Nat → Int32) (t_tooks : Nat → Int32) (i1 : Int32) : Option (Int32) :=
  nh_b1 (fX5_fittingLists F t_count t_sorts t_tooks) (fun r_1 => (if r_1 = 0 then some (-9)
 else nh_b1 (fX5_fits F t_count t_sorts t_tooks i1 1) (fun r_4 => (if r_4 = 0 then some 0
 else nh_b1 (fX5_fits F t_count t_sorts t_tooks i1 0) (fun r_7 => (if r_7 = 0 then some 1
 else some 2))))))
set_option maxHeartbeats 4000000 in
set_option maxRecDepth 100000 in
theorem kX5_hadAtFirst (F : Nat) (l : Launch) (D : va_G) (cI cZ cO : ClassId) (sz : Nat) (q_t q_t_sorts q_t_tooks : Nat) (t_count : Int32) (t_sorts : Nat → Int32) (t_tooks : Nat → Int32) (i1 : Int32) (o_r : Int32) (h : fX5_hadAtFirst F t_count t_sorts t_tooks i1 = some o_r) : Met l yX5_hadAtFirst (nh_w (.code yX5_hadAtFirst cX5_hadAtFirst 2 (some .int))) (nh_rm 2) (nh_Pc D cI cZ cO (wlX5_hadAtFirst cI cZ cO q_t q_t_sorts q_t_tooks t_count t_sorts t_tooks) [.ref q_t, .int i1] sz) ((nh_Qi D (wlX5_hadAtFirst cI cZ cO q_t q_t_sorts q_t_tooks t_count t_sorts t_tooks) o_r) (va_A (wlX5_hadAtFirst cI cZ cO q_t q_t_sorts q_t_tooks t_count t_sorts t_tooks) sz)) 0 0 (va_A (wlX5_hadAtFirst cI cZ cO q_t q_t_sorts q_t_tooks t_count t_sorts t_tooks) sz) := by
  unfold fX5_hadAtFirst at h
  refine nh_met (cc := cX5_hadAtFirst) (maxL := 2) (ret := (some .int)) (nh_Qi D (wlX5_hadAtFirst cI cZ cO q_t q_t_sorts q_t_tooks t_count t_sorts t_tooks) o_r) (by decide) rfl (Nat.le_of_ble_eq_true rfl) ?_
  intro p e s m args below meth c A H locs ls hx hb hml hr hown hts hlocks hinit hP hK hN hD hA hS hl
  have hl : lv_has ls 2 [(0, .ref q_t), (1, .int i1)] := hl
  have hts : ∀ w ∈ nh_words, w.before args s = true := fun w h => hts w (List.mem_cons_of_mem _ h)
  refine lv_aload_n hx hb dX5_hadAtFirst_0 rfl (lv_at hl 0 rfl) ?_
  obtain ⟨r_1, hc2, h⟩ := nh_b1_some h
  refine nh_goi (nh_V (As := []) (rest := []) ⟨hx, hb, hml, hown, hts⟩ (kX5_fittingLists F l D cI cZ cO H.size q_t q_t_sorts q_t_tooks t_count t_sorts t_tooks r_1 hc2) (cwV 0 hts (nh_gV nhw_639 nhw_437 nhw_787 nhw_309 nhw_154) rfl rfl rfl (by decide +kernel) ⟨Nat.le_of_ble_eq_true rfl, Nat.le_of_ble_eq_true rfl⟩) hK hN hP hD (isC := [0, 1, 2]) rfl rfl 0 4 rfl rfl rfl rfl hl.1 rfl (Nat.le_of_ble_eq_true rfl) dX5_hadAtFirst_1 ⟨Nat.zero_le _, Nat.zero_le _⟩) hP hD hS hA (isC := [0, 1, 2]) rfl rfl rfl (w' := (wlX5_hadAtFirst cI cZ cO q_t q_t_sorts q_t_tooks t_count t_sorts t_tooks)) rfl (fun H locs hP hD hS => ?_)
  refine lv_if_ne (tgt := 10) hx hb dX5_hadAtFirst_4 (by decide) (fun c3 => ?_) (fun c3 => ?_)
  · replace h := nh_f h c3
    refine lv_aload_n hx hb dX5_hadAtFirst_10 rfl (lv_at hl 0 rfl) ?_
    refine lv_iload_n hx hb dX5_hadAtFirst_11 rfl (lv_at hl 1 rfl) ?_
    refine lv_iconst (v := 1) hx hb dX5_hadAtFirst_12 (by decide) ?_
    obtain ⟨r_4, hc5, h⟩ := nh_b1_some h
    refine nh_goi (nh_V (As := [.int i1, .int 1]) (rest := []) ⟨hx, hb, hml, hown, hts⟩ (kX5_fits F l D cI cZ cO H.size q_t q_t_sorts q_t_tooks t_count t_sorts t_tooks i1 1 r_4 hc5) (cwV 2 hts (nh_gV nhw_638 nhw_436 nhw_786 nhw_309 nhw_153) rfl rfl rfl (by decide +kernel) ⟨Nat.le_of_ble_eq_true rfl, Nat.le_of_ble_eq_true rfl⟩) hK hN hP hD (isC := [0, 1, 2]) rfl rfl 0 4 rfl rfl rfl rfl hl.1 rfl (Nat.le_of_ble_eq_true rfl) dX5_hadAtFirst_13 ⟨Nat.zero_le _, Nat.zero_le _⟩) hP hD hS hA (isC := [0, 1, 2]) rfl rfl rfl (w' := (wlX5_hadAtFirst cI cZ cO q_t q_t_sorts q_t_tooks t_count t_sorts t_tooks)) rfl (fun H locs hP hD hS => ?_)
    refine lv_if_ne (tgt := 21) hx hb dX5_hadAtFirst_16 (by decide) (fun c6 => ?_) (fun c6 => ?_)
    · replace h := nh_f h c6
      refine lv_aload_n hx hb dX5_hadAtFirst_21 rfl (lv_at hl 0 rfl) ?_
      refine lv_iload_n hx hb dX5_hadAtFirst_22 rfl (lv_at hl 1 rfl) ?_
      refine lv_iconst (v := 0) hx hb dX5_hadAtFirst_23 (by decide) ?_
      obtain ⟨r_7, hc8, h⟩ := nh_b1_some h
      refine nh_goi (nh_V (As := [.int i1, .int 0]) (rest := []) ⟨hx, hb, hml, hown, hts⟩ (kX5_fits F l D cI cZ cO H.size q_t q_t_sorts q_t_tooks t_count t_sorts t_tooks i1 0 r_7 hc8) (cwV 2 hts (nh_gV nhw_638 nhw_436 nhw_786 nhw_309 nhw_153) rfl rfl rfl (by decide +kernel) ⟨Nat.le_of_ble_eq_true rfl, Nat.le_of_ble_eq_true rfl⟩) hK hN hP hD (isC := [0, 1, 2]) rfl rfl 0 4 rfl rfl rfl rfl hl.1 rfl (Nat.le_of_ble_eq_true rfl) dX5_hadAtFirst_24 ⟨Nat.zero_le _, Nat.zero_le _⟩) hP hD hS hA (isC := [0, 1, 2]) rfl rfl rfl (w' := (wlX5_hadAtFirst cI cZ cO q_t q_t_sorts q_t_tooks t_count t_sorts t_tooks)) rfl (fun H locs hP hD hS => ?_)
      refine lv_if_eq (tgt := 34) hx hb dX5_hadAtFirst_27 (by decide) (fun c9 => ?_) (fun c9 => ?_)
      · replace h := nh_t h c9
        refine lv_iconst (v := 1) hx hb dX5_hadAtFirst_34 (by decide) ?_
        replace h := nh_i1 h
        exact nh_ri hx hb hr hlocks h hP hS dX5_hadAtFirst_35
      · replace h := nh_f h c9
        refine lv_iconst (v := 2) hx hb dX5_hadAtFirst_30 (by decide) ?_
        refine lv_goto (tgt := 35) hx hb dX5_hadAtFirst_31 (by decide) ?_
        replace h := nh_i1 h
        exact nh_ri hx hb hr hlocks h hP hS dX5_hadAtFirst_35
    · replace h := nh_t h c6
      refine lv_iconst (v := 0) hx hb dX5_hadAtFirst_19 (by decide) ?_
      replace h := nh_i1 h
      exact nh_ri hx hb hr hlocks h hP hS dX5_hadAtFirst_20
  · replace h := nh_t h c3
    refine lv_bipush (v := (-9)) hx hb dX5_hadAtFirst_7 (by decide) ?_
    replace h := nh_i1 h
    exact nh_ri hx hb hr hlocks h hP hS dX5_hadAtFirst_9
abbrev wlX6_store (cI cZ cO : ClassId) (q_t q_a1 q_t_held q_t_known q_a1_held q_a1_known q_a1_worths : Nat) (t_filled : Int32) (t_held : Nat → Int32) (t_known : Nat → Int32) (a1_count : Int32) (a1_held : Nat → Int32) (a1_known : Nat → Int32) : va_W := [(q_t, .inr (5, [.int t_filled, .ref q_t_held, .ref q_t_known])), (q_t_held, .inl (cI, 4, .inl t_held)), (q_t_known, .inl (cI, 4, .inl t_known)), (q_a1, .inr (1, [.int a1_count, .ref q_a1_held, .ref q_a1_known, .ref q_a1_worths])), (q_a1_held, .inl (cI, 4, .inl a1_held)), (q_a1_known, .inl (cI, 4, .inl a1_known))]
def fX6_store (t_filled : Int32) (t_held : Nat → Int32) (t_known : Nat → Int32) (a1_held : Nat → Int32) (a1_known : Nat → Int32) : Option (Int32 × (Nat → Int32) × (Nat → Int32)) :=
  nh_chk (nh_cp 0 0 4 4 4) (nh_let (α := Nat → Int32) (va_cpy a1_held t_held (Int32.toNatClampNeg (0 : Int32)) (Int32.toNatClampNeg (0 : Int32)) (Int32.toNatClampNeg (4 : Int32))) (fun t_held_2 => nh_chk (nh_cp 0 0 4 4 4) (nh_let (α := Nat → Int32) (va_cpy a1_known t_known (Int32.toNatClampNeg (0 : Int32)) (Int32.toNatClampNeg (0 : Int32)) (Int32.toNatClampNeg (4 : Int32))) (fun t_known_4 => some (1, t_held_2, t_known_4)))))
set_option maxHeartbeats 4000000 in
set_option maxRecDepth 100000 in
theorem kX6_store (l : Launch) (D : va_G) (cI cZ cO : ClassId) (sz : Nat) (q_t q_a1 q_t_held q_t_known q_a1_held q_a1_known q_a1_worths : Nat) (t_filled : Int32) (t_held : Nat → Int32) (t_known : Nat → Int32) (a1_count : Int32) (a1_held : Nat → Int32) (a1_known : Nat → Int32)  (o_t_filled : Int32) (o_t_held : Nat → Int32) (o_t_known : Nat → Int32) (h : fX6_store t_filled t_held t_known a1_held a1_known = some (o_t_filled, o_t_held, o_t_known)) : Met l yX6_store (nh_w (.code yX6_store cX6_store 2 none)) (nh_rm 2) (nh_Pc D cI cZ cO (wlX6_store cI cZ cO q_t q_a1 q_t_held q_t_known q_a1_held q_a1_known q_a1_worths t_filled t_held t_known a1_count a1_held a1_known) [.ref q_t, .ref q_a1] sz) ((nh_Qv D (wlX6_store cI cZ cO q_t q_a1 q_t_held q_t_known q_a1_held q_a1_known q_a1_worths o_t_filled o_t_held o_t_known a1_count a1_held a1_known)) (va_A (wlX6_store cI cZ cO q_t q_a1 q_t_held q_t_known q_a1_held q_a1_known q_a1_worths t_filled t_held t_known a1_count a1_held a1_known) sz)) 0 0 (va_A (wlX6_store cI cZ cO q_t q_a1 q_t_held q_t_known q_a1_held q_a1_known q_a1_worths t_filled t_held t_known a1_count a1_held a1_known) sz) := by
  unfold fX6_store at h
  refine nh_met (cc := cX6_store) (maxL := 2) (ret := none) (nh_Qv D (wlX6_store cI cZ cO q_t q_a1 q_t_held q_t_known q_a1_held q_a1_known q_a1_worths o_t_filled o_t_held o_t_known a1_count a1_held a1_known)) (by decide) rfl (Nat.le_of_ble_eq_true rfl) ?_
  intro p e s m args below meth c A H locs ls hx hb hml hr hown hts hlocks hinit hP hK hN hD hA hS hl
  have hl : lv_has ls 2 [(0, .ref q_t), (1, .ref q_a1)] := hl
  have hts : ∀ w ∈ nh_words, w.before args s = true := fun w h => hts w (List.mem_cons_of_mem _ h)
  refine lv_aload_n hx hb dX6_store_0 rfl (lv_at hl 1 rfl) ?_
  refine va_get (D := D) (ci := 1) (v := .ref q_a1_held) (C := RX1) (T := TX1) (N := 4) hx hb hts nhu_X1 hown hK hP 3 rfl rfl 1 (by decide) (hts _ nhw_279) (fun _ h9 => h9) rfl dX6_store_1 ?_
  refine lv_iconst (v := 0) hx hb dX6_store_4 (by decide) ?_
  refine lv_aload_n hx hb dX6_store_5 rfl (lv_at hl 0 rfl) ?_
  refine va_get (D := D) (ci := 5) (v := .ref q_t_held) (C := RX6) (T := TX6) (N := 3) hx hb hts nhu_X6 hown hK hP 0 rfl rfl 1 (by decide) (hts _ nhw_282) (fun _ h9 => h9) rfl dX6_store_6 ?_
  refine lv_iconst (v := 0) hx hb dX6_store_9 (by decide) ?_
  refine lv_iconst (v := 4) hx hb dX6_store_10 (by decide) ?_
  obtain ⟨z1, h⟩ := nh_chk_some h
  refine va_copyi hx hb (hml.trans hl.1.symm) hown (hts _ nhw_641) (hts _ nhw_670) (hts _ nhw_802) (hts _ nhw_300) hK hP hD hS 4 1 0 0 rfl rfl rfl rfl rfl (nh_cp_ok z1).1 (nh_cp_ok z1).2.1 (nh_cp_ok z1).2.2.1 (nh_cp_ok z1).2.2.2.1 (nh_cp_ok z1).2.2.2.2 (fun _ _ => rfl) (Nat.le_of_ble_eq_true rfl) (Nat.le_of_ble_eq_true rfl) dX6_store_11 (fun H locs hP hD hS => ?_)
  obtain ⟨t_held_2, et_held_2⟩ : ∃ y : Nat → Int32, y = va_cpy a1_held t_held (Int32.toNatClampNeg (0 : Int32)) (Int32.toNatClampNeg (0 : Int32)) (Int32.toNatClampNeg (4 : Int32)) := ⟨_, rfl⟩
  replace h := nh_to h et_held_2
  have hP : va_P D vwCl (wlX6_store cI cZ cO q_t q_a1 q_t_held q_t_known q_a1_held q_a1_known q_a1_worths t_filled t_held_2 t_known a1_count a1_held a1_known) H := by rw [et_held_2]; exact hP
  have hD : va_D A (wlX6_store cI cZ cO q_t q_a1 q_t_held q_t_known q_a1_held q_a1_known q_a1_worths t_filled t_held_2 t_known a1_count a1_held a1_known) := by rw [et_held_2]; exact hD
  refine lv_aload_n hx hb dX6_store_14 rfl (lv_at hl 1 rfl) ?_
  refine va_get (D := D) (ci := 1) (v := .ref q_a1_known) (C := RX1) (T := TX1) (N := 4) hx hb hts nhu_X1 hown hK hP 3 rfl rfl 2 (by decide) (hts _ nhw_280) (fun _ h9 => h9) rfl dX6_store_15 ?_
  refine lv_iconst (v := 0) hx hb dX6_store_18 (by decide) ?_
  refine lv_aload_n hx hb dX6_store_19 rfl (lv_at hl 0 rfl) ?_
  refine va_get (D := D) (ci := 5) (v := .ref q_t_known) (C := RX6) (T := TX6) (N := 3) hx hb hts nhu_X6 hown hK hP 0 rfl rfl 2 (by decide) (hts _ nhw_278) (fun _ h9 => h9) rfl dX6_store_20 ?_
  refine lv_iconst (v := 0) hx hb dX6_store_23 (by decide) ?_
  refine lv_iconst (v := 4) hx hb dX6_store_24 (by decide) ?_
  obtain ⟨z3, h⟩ := nh_chk_some h
  refine va_copyi hx hb (hml.trans hl.1.symm) hown (hts _ nhw_641) (hts _ nhw_670) (hts _ nhw_802) (hts _ nhw_300) hK hP hD hS 5 2 0 0 rfl rfl rfl rfl rfl (nh_cp_ok z3).1 (nh_cp_ok z3).2.1 (nh_cp_ok z3).2.2.1 (nh_cp_ok z3).2.2.2.1 (nh_cp_ok z3).2.2.2.2 (fun _ _ => rfl) (Nat.le_of_ble_eq_true rfl) (Nat.le_of_ble_eq_true rfl) dX6_store_25 (fun H locs hP hD hS => ?_)
  obtain ⟨t_known_4, et_known_4⟩ : ∃ y : Nat → Int32, y = va_cpy a1_known t_known (Int32.toNatClampNeg (0 : Int32)) (Int32.toNatClampNeg (0 : Int32)) (Int32.toNatClampNeg (4 : Int32)) := ⟨_, rfl⟩
  replace h := nh_to h et_known_4
  have hP : va_P D vwCl (wlX6_store cI cZ cO q_t q_a1 q_t_held q_t_known q_a1_held q_a1_known q_a1_worths t_filled t_held_2 t_known_4 a1_count a1_held a1_known) H := by rw [et_known_4]; exact hP
  have hD : va_D A (wlX6_store cI cZ cO q_t q_a1 q_t_held q_t_known q_a1_held q_a1_known q_a1_worths t_filled t_held_2 t_known_4 a1_count a1_held a1_known) := by rw [et_known_4]; exact hD
  refine lv_aload_n hx hb dX6_store_28 rfl (lv_at hl 0 rfl) ?_
  refine lv_iconst (v := 1) hx hb dX6_store_29 (by decide) ?_
  refine va_put (D := D) (ci := 5) (v := .int 1) (ty := .boolean) (C := RX6) (T := TX6) (N := 3) hx hb hts nhu_X6 tyX6 tyX6_ok nmX6 hown hK hP hD hS 0 rfl rfl 0 (by decide) (hts _ nhw_281) (fun _ h9 => h9) rfl (by decide +kernel) rfl rfl (Nat.le_of_ble_eq_true rfl) dX6_store_30 (fun H locs hP hD hS => ?_)
  have hP : va_P D vwCl (wlX6_store cI cZ cO q_t q_a1 q_t_held q_t_known q_a1_held q_a1_known q_a1_worths 1 t_held_2 t_known_4 a1_count a1_held a1_known) H := hP
  have hD : va_D A (wlX6_store cI cZ cO q_t q_a1 q_t_held q_t_known q_a1_held q_a1_known q_a1_worths 1 t_held_2 t_known_4 a1_count a1_held a1_known) := hD
  obtain ⟨g0, g1, g2⟩ := nh_i3 h
  exact nh_rv hx hb hr hlocks (by rw [← g0, ← g1, ← g2]; exact hP) hS dX6_store_33
abbrev wlX6_restore (cI cZ cO : ClassId) (q_t q_a1 q_t_held q_t_known q_a1_held q_a1_known q_a1_worths : Nat) (t_filled : Int32) (t_held : Nat → Int32) (t_known : Nat → Int32) (a1_count : Int32) (a1_held : Nat → Int32) (a1_known : Nat → Int32) : va_W := [(q_t, .inr (5, [.int t_filled, .ref q_t_held, .ref q_t_known])), (q_t_held, .inl (cI, 4, .inl t_held)), (q_t_known, .inl (cI, 4, .inl t_known)), (q_a1, .inr (1, [.int a1_count, .ref q_a1_held, .ref q_a1_known, .ref q_a1_worths])), (q_a1_held, .inl (cI, 4, .inl a1_held)), (q_a1_known, .inl (cI, 4, .inl a1_known))]
def fX6_restore (t_held : Nat → Int32) (t_known : Nat → Int32) (a1_held : Nat → Int32) (a1_known : Nat → Int32) : Option ((Nat → Int32) × (Nat → Int32)) :=
  nh_chk (nh_cp 0 0 4 4 4) (nh_let (α := Nat → Int32) (va_cpy t_held a1_held (Int32.toNatClampNeg (0 : Int32)) (Int32.toNatClampNeg (0 : Int32)) (Int32.toNatClampNeg (4 : Int32))) (fun a1_held_2 => nh_chk (nh_cp 0 0 4 4 4) (nh_let (α := Nat → Int32) (va_cpy t_known a1_known (Int32.toNatClampNeg (0 : Int32)) (Int32.toNatClampNeg (0 : Int32)) (Int32.toNatClampNeg (4 : Int32))) (fun a1_known_4 => some (a1_held_2, a1_known_4)))))
set_option maxHeartbeats 4000000 in
set_option maxRecDepth 100000 in
theorem kX6_restore (l : Launch) (D : va_G) (cI cZ cO : ClassId) (sz : Nat) (q_t q_a1 q_t_held q_t_known q_a1_held q_a1_known q_a1_worths : Nat) (t_filled : Int32) (t_held : Nat → Int32) (t_known : Nat → Int32) (a1_count : Int32) (a1_held : Nat → Int32) (a1_known : Nat → Int32)  (o_a1_held : Nat → Int32) (o_a1_known : Nat → Int32) (h : fX6_restore t_held t_known a1_held a1_known = some (o_a1_held, o_a1_known)) : Met l yX6_restore (nh_w (.code yX6_restore cX6_restore 2 none)) (nh_rm 2) (nh_Pc D cI cZ cO (wlX6_restore cI cZ cO q_t q_a1 q_t_held q_t_known q_a1_held q_a1_known q_a1_worths t_filled t_held t_known a1_count a1_held a1_known) [.ref q_t, .ref q_a1] sz) ((nh_Qv D (wlX6_restore cI cZ cO q_t q_a1 q_t_held q_t_known q_a1_held q_a1_known q_a1_worths t_filled t_held t_known a1_count o_a1_held o_a1_known)) (va_A (wlX6_restore cI cZ cO q_t q_a1 q_t_held q_t_known q_a1_held q_a1_known q_a1_worths t_filled t_held t_known a1_count a1_held a1_known) sz)) 0 0 (va_A (wlX6_restore cI cZ cO q_t q_a1 q_t_held q_t_known q_a1_held q_a1_known q_a1_worths t_filled t_held t_known a1_count a1_held a1_known) sz) := by
  unfold fX6_restore at h
  refine nh_met (cc := cX6_restore) (maxL := 2) (ret := none) (nh_Qv D (wlX6_restore cI cZ cO q_t q_a1 q_t_held q_t_known q_a1_held q_a1_known q_a1_worths t_filled t_held t_known a1_count o_a1_held o_a1_known)) (by decide) rfl (Nat.le_of_ble_eq_true rfl) ?_
  intro p e s m args below meth c A H locs ls hx hb hml hr hown hts hlocks hinit hP hK hN hD hA hS hl
  have hl : lv_has ls 2 [(0, .ref q_t), (1, .ref q_a1)] := hl
  have hts : ∀ w ∈ nh_words, w.before args s = true := fun w h => hts w (List.mem_cons_of_mem _ h)
  refine lv_aload_n hx hb dX6_restore_0 rfl (lv_at hl 0 rfl) ?_
  refine va_get (D := D) (ci := 5) (v := .ref q_t_held) (C := RX6) (T := TX6) (N := 3) hx hb hts nhu_X6 hown hK hP 0 rfl rfl 1 (by decide) (hts _ nhw_282) (fun _ h9 => h9) rfl dX6_restore_1 ?_
  refine lv_iconst (v := 0) hx hb dX6_restore_4 (by decide) ?_
  refine lv_aload_n hx hb dX6_restore_5 rfl (lv_at hl 1 rfl) ?_
  refine va_get (D := D) (ci := 1) (v := .ref q_a1_held) (C := RX1) (T := TX1) (N := 4) hx hb hts nhu_X1 hown hK hP 3 rfl rfl 1 (by decide) (hts _ nhw_279) (fun _ h9 => h9) rfl dX6_restore_6 ?_
  refine lv_iconst (v := 0) hx hb dX6_restore_9 (by decide) ?_
  refine lv_iconst (v := 4) hx hb dX6_restore_10 (by decide) ?_
  obtain ⟨z1, h⟩ := nh_chk_some h
  refine va_copyi hx hb (hml.trans hl.1.symm) hown (hts _ nhw_641) (hts _ nhw_670) (hts _ nhw_802) (hts _ nhw_300) hK hP hD hS 1 4 0 0 rfl rfl rfl rfl rfl (nh_cp_ok z1).1 (nh_cp_ok z1).2.1 (nh_cp_ok z1).2.2.1 (nh_cp_ok z1).2.2.2.1 (nh_cp_ok z1).2.2.2.2 (fun _ _ => rfl) (Nat.le_of_ble_eq_true rfl) (Nat.le_of_ble_eq_true rfl) dX6_restore_11 (fun H locs hP hD hS => ?_)
  obtain ⟨a1_held_2, ea1_held_2⟩ : ∃ y : Nat → Int32, y = va_cpy t_held a1_held (Int32.toNatClampNeg (0 : Int32)) (Int32.toNatClampNeg (0 : Int32)) (Int32.toNatClampNeg (4 : Int32)) := ⟨_, rfl⟩
  replace h := nh_to h ea1_held_2
  have hP : va_P D vwCl (wlX6_restore cI cZ cO q_t q_a1 q_t_held q_t_known q_a1_held q_a1_known q_a1_worths t_filled t_held t_known a1_count a1_held_2 a1_known) H := by rw [ea1_held_2]; exact hP
  have hD : va_D A (wlX6_restore cI cZ cO q_t q_a1 q_t_held q_t_known q_a1_held q_a1_known q_a1_worths t_filled t_held t_known a1_count a1_held_2 a1_known) := by rw [ea1_held_2]; exact hD
  refine lv_aload_n hx hb dX6_restore_14 rfl (lv_at hl 0 rfl) ?_
  refine va_get (D := D) (ci := 5) (v := .ref q_t_known) (C := RX6) (T := TX6) (N := 3) hx hb hts nhu_X6 hown hK hP 0 rfl rfl 2 (by decide) (hts _ nhw_278) (fun _ h9 => h9) rfl dX6_restore_15 ?_
  refine lv_iconst (v := 0) hx hb dX6_restore_18 (by decide) ?_
  refine lv_aload_n hx hb dX6_restore_19 rfl (lv_at hl 1 rfl) ?_
  refine va_get (D := D) (ci := 1) (v := .ref q_a1_known) (C := RX1) (T := TX1) (N := 4) hx hb hts nhu_X1 hown hK hP 3 rfl rfl 2 (by decide) (hts _ nhw_280) (fun _ h9 => h9) rfl dX6_restore_20 ?_
  refine lv_iconst (v := 0) hx hb dX6_restore_23 (by decide) ?_
  refine lv_iconst (v := 4) hx hb dX6_restore_24 (by decide) ?_
  obtain ⟨z3, h⟩ := nh_chk_some h
  refine va_copyi hx hb (hml.trans hl.1.symm) hown (hts _ nhw_641) (hts _ nhw_670) (hts _ nhw_802) (hts _ nhw_300) hK hP hD hS 2 5 0 0 rfl rfl rfl rfl rfl (nh_cp_ok z3).1 (nh_cp_ok z3).2.1 (nh_cp_ok z3).2.2.1 (nh_cp_ok z3).2.2.2.1 (nh_cp_ok z3).2.2.2.2 (fun _ _ => rfl) (Nat.le_of_ble_eq_true rfl) (Nat.le_of_ble_eq_true rfl) dX6_restore_25 (fun H locs hP hD hS => ?_)
  obtain ⟨a1_known_4, ea1_known_4⟩ : ∃ y : Nat → Int32, y = va_cpy t_known a1_known (Int32.toNatClampNeg (0 : Int32)) (Int32.toNatClampNeg (0 : Int32)) (Int32.toNatClampNeg (4 : Int32)) := ⟨_, rfl⟩
  replace h := nh_to h ea1_known_4
  have hP : va_P D vwCl (wlX6_restore cI cZ cO q_t q_a1 q_t_held q_t_known q_a1_held q_a1_known q_a1_worths t_filled t_held t_known a1_count a1_held_2 a1_known_4) H := by rw [ea1_known_4]; exact hP
  have hD : va_D A (wlX6_restore cI cZ cO q_t q_a1 q_t_held q_t_known q_a1_held q_a1_known q_a1_worths t_filled t_held t_known a1_count a1_held_2 a1_known_4) := by rw [ea1_known_4]; exact hD
  obtain ⟨g0, g1⟩ := nh_i2 h
  exact nh_rv hx hb hr hlocks (by rw [← g0, ← g1]; exact hP) hS dX6_restore_28
