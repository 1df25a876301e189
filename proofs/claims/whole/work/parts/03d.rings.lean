abbrev wlX3_compare (cI cZ cO : ClassId) (q_t q_a1 q_t_bestFrom q_t_from q_a1_held q_a1_known q_a1_worths : Nat) (t_bestGain : Int32) (t_bestTakers : Int32) (t_bestFrom : Nat → Int32) (t_from : Nat → Int32) (a1_count : Int32) : va_W := [(q_t, .inr (2, [.int t_bestGain, .ref q_t_bestFrom, .int t_bestTakers, .ref q_t_from])), (q_t_bestFrom, .inl (cI, 4, .inl t_bestFrom)), (q_t_from, .inl (cI, 4, .inl t_from)), (q_a1, .inr (1, [.int a1_count, .ref q_a1_held, .ref q_a1_known, .ref q_a1_worths]))]
def fX3_compare_B5 (t_from : Nat → Int32) (a1_count : Int32) (k5 : Int32 → Int32 → Option (Int32 × Int32 × (Nat → Int32))) (r5 : Int32 → Int32 → Option (Int32 × Int32 × (Nat → Int32))) (x3_1 : Int32) (x4_2 : Int32) : Option (Int32 × Int32 × (Nat → Int32)) :=
  (if a1_count ≤ x4_2 then k5 x3_1 x4_2
 else nh_chk (nh_in x4_2 4) ((if (t_from (Int32.toNatClampNeg x4_2)) = x4_2 then nh_let (α := Int32) (x4_2 + 1) (fun x4_8 => r5 x3_1 x4_8)
 else nh_let (α := Int32) (x3_1 + 1) (fun x3_9 => nh_let (α := Int32) (x4_2 + 1) (fun x4_10 => r5 x3_9 x4_10)))))
def fX3_compare_L5 (t_from : Nat → Int32) (a1_count : Int32) (k5 : Int32 → Int32 → Option (Int32 × Int32 × (Nat → Int32))) : Nat → Int32 → Int32 → Option (Int32 × Int32 × (Nat → Int32))
  | 0 => fun _ _ => none
  | n + 1 => fX3_compare_B5 t_from a1_count k5 (fX3_compare_L5 t_from a1_count k5 n)
def fX3_compare (F : Nat) (t_bestGain : Int32) (t_bestTakers : Int32) (t_bestFrom : Nat → Int32) (t_from : Nat → Int32) (a1_count : Int32) (i2 : Int32) : Option (Int32 × Int32 × (Nat → Int32)) :=
  fX3_compare_L5 t_from a1_count (fun x3_3 x4_4 => (if t_bestGain < i2 then nh_chk (nh_cp 0 0 a1_count 4 4) (nh_let (α := Nat → Int32) (va_cpy t_from t_bestFrom (Int32.toNatClampNeg (0 : Int32)) (Int32.toNatClampNeg (0 : Int32)) (Int32.toNatClampNeg a1_count)) (fun t_bestFrom_13 => some (i2, x3_3, t_bestFrom_13)))
 else (if i2 = t_bestGain then (if t_bestTakers ≤ x3_3 then some (t_bestGain, t_bestTakers, t_bestFrom)
 else nh_chk (nh_cp 0 0 a1_count 4 4) (nh_let (α := Nat → Int32) (va_cpy t_from t_bestFrom (Int32.toNatClampNeg (0 : Int32)) (Int32.toNatClampNeg (0 : Int32)) (Int32.toNatClampNeg a1_count)) (fun t_bestFrom_17 => some (i2, x3_3, t_bestFrom_17))))
 else some (t_bestGain, t_bestTakers, t_bestFrom)))) F 0 0
set_option maxHeartbeats 4000000 in
set_option maxRecDepth 100000 in
theorem kX3_compare (F : Nat) (l : Launch) (D : va_G) (cI cZ cO : ClassId) (sz : Nat) (q_t q_a1 q_t_bestFrom q_t_from q_a1_held q_a1_known q_a1_worths : Nat) (t_bestGain : Int32) (t_bestTakers : Int32) (t_bestFrom : Nat → Int32) (t_from : Nat → Int32) (a1_count : Int32) (i2 : Int32) (o_t_bestGain : Int32) (o_t_bestTakers : Int32) (o_t_bestFrom : Nat → Int32) (h : fX3_compare F t_bestGain t_bestTakers t_bestFrom t_from a1_count i2 = some (o_t_bestGain, o_t_bestTakers, o_t_bestFrom)) : Met l yX3_compare (nh_w (.code yX3_compare cX3_compare 5 none)) (nh_rm 2) (nh_Pc D cI cZ cO (wlX3_compare cI cZ cO q_t q_a1 q_t_bestFrom q_t_from q_a1_held q_a1_known q_a1_worths t_bestGain t_bestTakers t_bestFrom t_from a1_count) [.ref q_t, .ref q_a1, .int i2] sz) ((nh_Qv D (wlX3_compare cI cZ cO q_t q_a1 q_t_bestFrom q_t_from q_a1_held q_a1_known q_a1_worths o_t_bestGain o_t_bestTakers o_t_bestFrom t_from a1_count)) (va_A (wlX3_compare cI cZ cO q_t q_a1 q_t_bestFrom q_t_from q_a1_held q_a1_known q_a1_worths t_bestGain t_bestTakers t_bestFrom t_from a1_count) sz)) 0 0 (va_A (wlX3_compare cI cZ cO q_t q_a1 q_t_bestFrom q_t_from q_a1_held q_a1_known q_a1_worths t_bestGain t_bestTakers t_bestFrom t_from a1_count) sz) := by
  unfold fX3_compare at h
  refine nh_met (cc := cX3_compare) (maxL := 5) (ret := none) (nh_Qv D (wlX3_compare cI cZ cO q_t q_a1 q_t_bestFrom q_t_from q_a1_held q_a1_known q_a1_worths o_t_bestGain o_t_bestTakers o_t_bestFrom t_from a1_count)) (by decide) rfl (Nat.le_of_ble_eq_true rfl) ?_
  intro p e s m args below meth c A H locs ls hx hb hml hr hown hts hlocks hinit hP hK hN hD hA hS hl
  have hl : lv_has ls 5 [(0, .ref q_t), (1, .ref q_a1), (2, .int i2)] := hl
  have hts : ∀ w ∈ nh_words, w.before args s = true := fun w h => hts w (List.mem_cons_of_mem _ h)
  refine lv_iconst (v := 0) hx hb dX3_compare_0 (by decide) ?_
  refine lv_istore_n (lv' := [(3, .int 0), (0, .ref q_t), (1, .ref q_a1), (2, .int i2)]) hx hb dX3_compare_1 rfl hl (by decide) rfl (fun ls hl => ?_)
  refine lv_iconst (v := 0) hx hb dX3_compare_2 (by decide) ?_
  refine lv_istore (lv' := [(4, .int 0), (3, .int 0), (0, .ref q_t), (1, .ref q_a1), (2, .int i2)]) hx hb dX3_compare_3 hl (by decide) rfl (fun ls hl => ?_)
  have L5 : ∀ (k5 : Int32 → Int32 → Option (Int32 × Int32 × (Nat → Int32))), (∀ (x3_3 : Int32) (x4_4 : Int32) (H : Heap) (locs : List Loc) (ls : Array Slot), va_P D vwCl (wlX3_compare cI cZ cO q_t q_a1 q_t_bestFrom q_t_from q_a1_held q_a1_known q_a1_worths t_bestGain t_bestTakers t_bestFrom t_from a1_count) H → va_D A (wlX3_compare cI cZ cO q_t q_a1 q_t_bestFrom q_t_from q_a1_held q_a1_known q_a1_worths t_bestGain t_bestTakers t_bestFrom t_from a1_count) → va_S A s.heap H locs → lv_has ls 5 [(0, .ref q_t), (1, .ref q_a1), (2, .int i2), (3, .int x3_3), (4, .int x4_4)] → k5 x3_3 x4_4 = some (o_t_bestGain, o_t_bestTakers, o_t_bestFrom) → W p l e (nh_rm 2) s m args below meth c H locs 0 0 (MQ below ((nh_Qv D (wlX3_compare cI cZ cO q_t q_a1 q_t_bestFrom q_t_from q_a1_held q_a1_known q_a1_worths o_t_bestGain o_t_bestTakers o_t_bestFrom t_from a1_count)) A) args s 0 0 A) (F0 m 35 ls [])) → ∀ (n : Nat) (x3_1 : Int32) (x4_2 : Int32) (H : Heap) (locs : List Loc) (ls : Array Slot), va_P D vwCl (wlX3_compare cI cZ cO q_t q_a1 q_t_bestFrom q_t_from q_a1_held q_a1_known q_a1_worths t_bestGain t_bestTakers t_bestFrom t_from a1_count) H → va_D A (wlX3_compare cI cZ cO q_t q_a1 q_t_bestFrom q_t_from q_a1_held q_a1_known q_a1_worths t_bestGain t_bestTakers t_bestFrom t_from a1_count) → va_S A s.heap H locs → lv_has ls 5 [(0, .ref q_t), (1, .ref q_a1), (2, .int i2), (3, .int x3_1), (4, .int x4_2)] → fX3_compare_L5 t_from a1_count k5 n x3_1 x4_2 = some (o_t_bestGain, o_t_bestTakers, o_t_bestFrom) → W p l e (nh_rm 2) s m args below meth c H locs 0 0 (MQ below ((nh_Qv D (wlX3_compare cI cZ cO q_t q_a1 q_t_bestFrom q_t_from q_a1_held q_a1_known q_a1_worths o_t_bestGain o_t_bestTakers o_t_bestFrom t_from a1_count)) A) args s 0 0 A) (F0 m 5 ls []) := by
    intro k5 hk5 n
    induction n with
    | zero => intro x3_1 x4_2 H locs ls hP hD hS hl h; exact (nh_none h).elim
    | succ n5 ih5 =>
      intro x3_1 x4_2 H locs ls hP hD hS hl h
      replace h : fX3_compare_B5 t_from a1_count k5 (fX3_compare_L5 t_from a1_count k5 n5) x3_1 x4_2 = some (o_t_bestGain, o_t_bestTakers, o_t_bestFrom) := h
      unfold fX3_compare_B5 at h
      refine lv_iload hx hb dX3_compare_5 (lv_at hl 4 rfl) ?_
      refine lv_aload_n hx hb dX3_compare_7 rfl (lv_at hl 1 rfl) ?_
      refine va_get (D := D) (ci := 1) (v := .int a1_count) (C := RX1) (T := TX1) (N := 4) hx hb hts nhu_X1 hown hK hP 3 rfl rfl 0 (by decide) (hts _ nhw_268) (fun _ h9 => h9) rfl dX3_compare_8 ?_
      refine lv_icmp_ge (tgt := 35) hx hb dX3_compare_11 (by decide) (fun c5 => ?_) (fun c5 => ?_)
      · replace h := nh_t h c5
        exact hk5 x3_1 x4_2 H locs ls hP hD hS (lv_sub hl [0, 1, 2, 3, 4] rfl) h
      · replace h := nh_f h c5
        refine lv_aload_n hx hb dX3_compare_14 rfl (lv_at hl 0 rfl) ?_
        refine va_get (D := D) (ci := 2) (v := .ref q_t_from) (C := RX3) (T := TX3) (N := 4) hx hb hts nhu_X3 hown hK hP 0 rfl rfl 3 (by decide) (hts _ nhw_265) (fun _ h9 => h9) rfl dX3_compare_15 ?_
        refine lv_iload hx hb dX3_compare_18 (lv_at hl 4 rfl) ?_
        obtain ⟨z6, h⟩ := nh_chk_some h
        refine va_iald hx hb hK hP 2 0 rfl rfl (nh_in_in z6) dX3_compare_20 ?_
        refine lv_iload hx hb dX3_compare_21 (lv_at hl 4 rfl) ?_
        refine lv_icmp_eq (tgt := 29) hx hb dX3_compare_23 (by decide) (fun c7 => ?_) (fun c7 => ?_)
        · replace h := nh_t h c7
          obtain ⟨x4_8, ex4_8⟩ : ∃ y : Int32, y = x4_2 + 1 := ⟨_, rfl⟩
          replace h := nh_to h ex4_8
          refine lv_iinc (v := x4_8) (lv' := [(4, .int x4_8), (0, .ref q_t), (1, .ref q_a1), (2, .int i2), (3, .int x3_1)]) hx hb dX3_compare_29 hl (k := 4) rfl (by rw [ex4_8]; rfl) (by decide) rfl (fun ls hl => ?_)
          refine lv_goto (tgt := 5) hx hb dX3_compare_32 (by decide) ?_
          exact ih5 x3_1 x4_8 H locs ls hP hD hS (lv_sub hl [1, 2, 3, 4, 0] rfl) h
        · replace h := nh_f h c7
          obtain ⟨x3_9, ex3_9⟩ : ∃ y : Int32, y = x3_1 + 1 := ⟨_, rfl⟩
          replace h := nh_to h ex3_9
          refine lv_iinc (v := x3_9) (lv' := [(3, .int x3_9), (0, .ref q_t), (1, .ref q_a1), (2, .int i2), (4, .int x4_2)]) hx hb dX3_compare_26 hl (k := 3) rfl (by rw [ex3_9]; rfl) (by decide) rfl (fun ls hl => ?_)
          obtain ⟨x4_10, ex4_10⟩ : ∃ y : Int32, y = x4_2 + 1 := ⟨_, rfl⟩
          replace h := nh_to h ex4_10
          refine lv_iinc (v := x4_10) (lv' := [(4, .int x4_10), (3, .int x3_9), (0, .ref q_t), (1, .ref q_a1), (2, .int i2)]) hx hb dX3_compare_29 hl (k := 4) rfl (by rw [ex4_10]; rfl) (by decide) rfl (fun ls hl => ?_)
          refine lv_goto (tgt := 5) hx hb dX3_compare_32 (by decide) ?_
          exact ih5 x3_9 x4_10 H locs ls hP hD hS (lv_sub hl [2, 3, 4, 1, 0] rfl) h
  refine L5 _ (fun x3_3 x4_4 H locs ls hP hD hS hl h => ?_) _ 0 0 H locs ls hP hD hS (lv_sub hl [2, 3, 4, 1, 0] rfl) h
  refine lv_iload_n hx hb dX3_compare_35 rfl (lv_at hl 2 rfl) ?_
  refine lv_aload_n hx hb dX3_compare_36 rfl (lv_at hl 0 rfl) ?_
  refine va_get (D := D) (ci := 2) (v := .int t_bestGain) (C := RX3) (T := TX3) (N := 4) hx hb hts nhu_X3 hown hK hP 0 rfl rfl 0 (by decide) (hts _ nhw_266) (fun _ h9 => h9) rfl dX3_compare_37 ?_
  refine lv_icmp_gt (tgt := 59) hx hb dX3_compare_40 (by decide) (fun c11 => ?_) (fun c11 => ?_)
  · replace h := nh_t h c11
    refine lv_aload_n hx hb dX3_compare_59 rfl (lv_at hl 0 rfl) ?_
    refine lv_iload_n hx hb dX3_compare_60 rfl (lv_at hl 2 rfl) ?_
    refine va_put (D := D) (ci := 2) (v := .int i2) (ty := .int) (C := RX3) (T := TX3) (N := 4) hx hb hts nhu_X3 tyX3 tyX3_ok nmX3 hown hK hP hD hS 0 rfl rfl 0 (by decide) (hts _ nhw_266) (fun _ h9 => h9) rfl (by decide +kernel) rfl rfl (Nat.le_of_ble_eq_true rfl) dX3_compare_61 (fun H locs hP hD hS => ?_)
    have hP : va_P D vwCl (wlX3_compare cI cZ cO q_t q_a1 q_t_bestFrom q_t_from q_a1_held q_a1_known q_a1_worths i2 t_bestTakers t_bestFrom t_from a1_count) H := hP
    have hD : va_D A (wlX3_compare cI cZ cO q_t q_a1 q_t_bestFrom q_t_from q_a1_held q_a1_known q_a1_worths i2 t_bestTakers t_bestFrom t_from a1_count) := hD
    refine lv_aload_n hx hb dX3_compare_64 rfl (lv_at hl 0 rfl) ?_
    refine lv_iload_n hx hb dX3_compare_65 rfl (lv_at hl 3 rfl) ?_
    refine va_put (D := D) (ci := 2) (v := .int x3_3) (ty := .int) (C := RX3) (T := TX3) (N := 4) hx hb hts nhu_X3 tyX3 tyX3_ok nmX3 hown hK hP hD hS 0 rfl rfl 2 (by decide) (hts _ nhw_267) (fun _ h9 => h9) rfl (by decide +kernel) rfl rfl (Nat.le_of_ble_eq_true rfl) dX3_compare_66 (fun H locs hP hD hS => ?_)
    have hP : va_P D vwCl (wlX3_compare cI cZ cO q_t q_a1 q_t_bestFrom q_t_from q_a1_held q_a1_known q_a1_worths i2 x3_3 t_bestFrom t_from a1_count) H := hP
    have hD : va_D A (wlX3_compare cI cZ cO q_t q_a1 q_t_bestFrom q_t_from q_a1_held q_a1_known q_a1_worths i2 x3_3 t_bestFrom t_from a1_count) := hD
    refine lv_aload_n hx hb dX3_compare_69 rfl (lv_at hl 0 rfl) ?_
    refine va_get (D := D) (ci := 2) (v := .ref q_t_from) (C := RX3) (T := TX3) (N := 4) hx hb hts nhu_X3 hown hK hP 0 rfl rfl 3 (by decide) (hts _ nhw_265) (fun _ h9 => h9) rfl dX3_compare_70 ?_
    refine lv_iconst (v := 0) hx hb dX3_compare_73 (by decide) ?_
    refine lv_aload_n hx hb dX3_compare_74 rfl (lv_at hl 0 rfl) ?_
    refine va_get (D := D) (ci := 2) (v := .ref q_t_bestFrom) (C := RX3) (T := TX3) (N := 4) hx hb hts nhu_X3 hown hK hP 0 rfl rfl 1 (by decide) (hts _ nhw_270) (fun _ h9 => h9) rfl dX3_compare_75 ?_
    refine lv_iconst (v := 0) hx hb dX3_compare_78 (by decide) ?_
    refine lv_aload_n hx hb dX3_compare_79 rfl (lv_at hl 1 rfl) ?_
    refine va_get (D := D) (ci := 1) (v := .int a1_count) (C := RX1) (T := TX1) (N := 4) hx hb hts nhu_X1 hown hK hP 3 rfl rfl 0 (by decide) (hts _ nhw_268) (fun _ h9 => h9) rfl dX3_compare_80 ?_
    obtain ⟨z12, h⟩ := nh_chk_some h
    refine va_copyi hx hb (hml.trans hl.1.symm) hown (hts _ nhw_629) (hts _ nhw_670) (hts _ nhw_802) (hts _ nhw_300) hK hP hD hS 2 1 0 0 rfl rfl rfl rfl rfl (nh_cp_ok z12).1 (nh_cp_ok z12).2.1 (nh_cp_ok z12).2.2.1 (nh_cp_ok z12).2.2.2.1 (nh_cp_ok z12).2.2.2.2 (fun _ _ => rfl) (Nat.le_of_ble_eq_true rfl) (Nat.le_of_ble_eq_true rfl) dX3_compare_83 (fun H locs hP hD hS => ?_)
    obtain ⟨t_bestFrom_13, et_bestFrom_13⟩ : ∃ y : Nat → Int32, y = va_cpy t_from t_bestFrom (Int32.toNatClampNeg (0 : Int32)) (Int32.toNatClampNeg (0 : Int32)) (Int32.toNatClampNeg a1_count) := ⟨_, rfl⟩
    replace h := nh_to h et_bestFrom_13
    have hP : va_P D vwCl (wlX3_compare cI cZ cO q_t q_a1 q_t_bestFrom q_t_from q_a1_held q_a1_known q_a1_worths i2 x3_3 t_bestFrom_13 t_from a1_count) H := by rw [et_bestFrom_13]; exact hP
    have hD : va_D A (wlX3_compare cI cZ cO q_t q_a1 q_t_bestFrom q_t_from q_a1_held q_a1_known q_a1_worths i2 x3_3 t_bestFrom_13 t_from a1_count) := by rw [et_bestFrom_13]; exact hD
    obtain ⟨g0, g1, g2⟩ := nh_i3 h
    exact nh_rv hx hb hr hlocks (by rw [← g0, ← g1, ← g2]; exact hP) hS dX3_compare_86
  · replace h := nh_f h c11
    refine lv_iload_n hx hb dX3_compare_43 rfl (lv_at hl 2 rfl) ?_
    refine lv_aload_n hx hb dX3_compare_44 rfl (lv_at hl 0 rfl) ?_
    refine va_get (D := D) (ci := 2) (v := .int t_bestGain) (C := RX3) (T := TX3) (N := 4) hx hb hts nhu_X3 hown hK hP 0 rfl rfl 0 (by decide) (hts _ nhw_266) (fun _ h9 => h9) rfl dX3_compare_45 ?_
    refine lv_icmp_ne (tgt := 86) hx hb dX3_compare_48 (by decide) (fun c14 => ?_) (fun c14 => ?_)
    · replace h := nh_f h c14
      obtain ⟨g0, g1, g2⟩ := nh_i3 h
      exact nh_rv hx hb hr hlocks (by rw [← g0, ← g1, ← g2]; exact hP) hS dX3_compare_86
    · replace h := nh_t h c14
      refine lv_iload_n hx hb dX3_compare_51 rfl (lv_at hl 3 rfl) ?_
      refine lv_aload_n hx hb dX3_compare_52 rfl (lv_at hl 0 rfl) ?_
      refine va_get (D := D) (ci := 2) (v := .int t_bestTakers) (C := RX3) (T := TX3) (N := 4) hx hb hts nhu_X3 hown hK hP 0 rfl rfl 2 (by decide) (hts _ nhw_267) (fun _ h9 => h9) rfl dX3_compare_53 ?_
      refine lv_icmp_ge (tgt := 86) hx hb dX3_compare_56 (by decide) (fun c15 => ?_) (fun c15 => ?_)
      · replace h := nh_t h c15
        obtain ⟨g0, g1, g2⟩ := nh_i3 h
        exact nh_rv hx hb hr hlocks (by rw [← g0, ← g1, ← g2]; exact hP) hS dX3_compare_86
      · replace h := nh_f h c15
        refine lv_aload_n hx hb dX3_compare_59 rfl (lv_at hl 0 rfl) ?_
        refine lv_iload_n hx hb dX3_compare_60 rfl (lv_at hl 2 rfl) ?_
        refine va_put (D := D) (ci := 2) (v := .int i2) (ty := .int) (C := RX3) (T := TX3) (N := 4) hx hb hts nhu_X3 tyX3 tyX3_ok nmX3 hown hK hP hD hS 0 rfl rfl 0 (by decide) (hts _ nhw_266) (fun _ h9 => h9) rfl (by decide +kernel) rfl rfl (Nat.le_of_ble_eq_true rfl) dX3_compare_61 (fun H locs hP hD hS => ?_)
        have hP : va_P D vwCl (wlX3_compare cI cZ cO q_t q_a1 q_t_bestFrom q_t_from q_a1_held q_a1_known q_a1_worths i2 t_bestTakers t_bestFrom t_from a1_count) H := hP
        have hD : va_D A (wlX3_compare cI cZ cO q_t q_a1 q_t_bestFrom q_t_from q_a1_held q_a1_known q_a1_worths i2 t_bestTakers t_bestFrom t_from a1_count) := hD
        refine lv_aload_n hx hb dX3_compare_64 rfl (lv_at hl 0 rfl) ?_
        refine lv_iload_n hx hb dX3_compare_65 rfl (lv_at hl 3 rfl) ?_
        refine va_put (D := D) (ci := 2) (v := .int x3_3) (ty := .int) (C := RX3) (T := TX3) (N := 4) hx hb hts nhu_X3 tyX3 tyX3_ok nmX3 hown hK hP hD hS 0 rfl rfl 2 (by decide) (hts _ nhw_267) (fun _ h9 => h9) rfl (by decide +kernel) rfl rfl (Nat.le_of_ble_eq_true rfl) dX3_compare_66 (fun H locs hP hD hS => ?_)
        have hP : va_P D vwCl (wlX3_compare cI cZ cO q_t q_a1 q_t_bestFrom q_t_from q_a1_held q_a1_known q_a1_worths i2 x3_3 t_bestFrom t_from a1_count) H := hP
        have hD : va_D A (wlX3_compare cI cZ cO q_t q_a1 q_t_bestFrom q_t_from q_a1_held q_a1_known q_a1_worths i2 x3_3 t_bestFrom t_from a1_count) := hD
        refine lv_aload_n hx hb dX3_compare_69 rfl (lv_at hl 0 rfl) ?_
        refine va_get (D := D) (ci := 2) (v := .ref q_t_from) (C := RX3) (T := TX3) (N := 4) hx hb hts nhu_X3 hown hK hP 0 rfl rfl 3 (by decide) (hts _ nhw_265) (fun _ h9 => h9) rfl dX3_compare_70 ?_
        refine lv_iconst (v := 0) hx hb dX3_compare_73 (by decide) ?_
        refine lv_aload_n hx hb dX3_compare_74 rfl (lv_at hl 0 rfl) ?_
        refine va_get (D := D) (ci := 2) (v := .ref q_t_bestFrom) (C := RX3) (T := TX3) (N := 4) hx hb hts nhu_X3 hown hK hP 0 rfl rfl 1 (by decide) (hts _ nhw_270) (fun _ h9 => h9) rfl dX3_compare_75 ?_
        refine lv_iconst (v := 0) hx hb dX3_compare_78 (by decide) ?_
        refine lv_aload_n hx hb dX3_compare_79 rfl (lv_at hl 1 rfl) ?_
        refine va_get (D := D) (ci := 1) (v := .int a1_count) (C := RX1) (T := TX1) (N := 4) hx hb hts nhu_X1 hown hK hP 3 rfl rfl 0 (by decide) (hts _ nhw_268) (fun _ h9 => h9) rfl dX3_compare_80 ?_
        obtain ⟨z16, h⟩ := nh_chk_some h
        refine va_copyi hx hb (hml.trans hl.1.symm) hown (hts _ nhw_629) (hts _ nhw_670) (hts _ nhw_802) (hts _ nhw_300) hK hP hD hS 2 1 0 0 rfl rfl rfl rfl rfl (nh_cp_ok z16).1 (nh_cp_ok z16).2.1 (nh_cp_ok z16).2.2.1 (nh_cp_ok z16).2.2.2.1 (nh_cp_ok z16).2.2.2.2 (fun _ _ => rfl) (Nat.le_of_ble_eq_true rfl) (Nat.le_of_ble_eq_true rfl) dX3_compare_83 (fun H locs hP hD hS => ?_)
        obtain ⟨t_bestFrom_17, et_bestFrom_17⟩ : ∃ y : Nat → Int32, y = va_cpy t_from t_bestFrom (Int32.toNatClampNeg (0 : Int32)) (Int32.toNatClampNeg (0 : Int32)) (Int32.toNatClampNeg a1_count) := ⟨_, rfl⟩
        replace h := nh_to h et_bestFrom_17
        have hP : va_P D vwCl (wlX3_compare cI cZ cO q_t q_a1 q_t_bestFrom q_t_from q_a1_held q_a1_known q_a1_worths i2 x3_3 t_bestFrom_17 t_from a1_count) H := by rw [et_bestFrom_17]; exact hP
        have hD : va_D A (wlX3_compare cI cZ cO q_t q_a1 q_t_bestFrom q_t_from q_a1_held q_a1_known q_a1_worths i2 x3_3 t_bestFrom_17 t_from a1_count) := by rw [et_bestFrom_17]; exact hD
        obtain ⟨g0, g1, g2⟩ := nh_i3 h
        exact nh_rv hx hb hr hlocks (by rw [← g0, ← g1, ← g2]; exact hP) hS dX3_compare_86
abbrev wlX3_isBetter (cI cZ cO : ClassId) (q_a0 q_a0_held q_a0_known q_a0_worths : Nat) (a0_count : Int32) (a0_held : Nat → Int32) (a0_known : Nat → Int32) (a0_worths : Nat → Int32) : va_W := [(q_a0, .inr (1, [.int a0_count, .ref q_a0_held, .ref q_a0_known, .ref q_a0_worths])), (q_a0_held, .inl (cI, 4, .inl a0_held)), (q_a0_known, .inl (cI, 4, .inl a0_known)), (q_a0_worths, .inl (cI, 24, .inl a0_worths))]
def fX3_isBetter (a0_count : Int32) (a0_held : Nat → Int32) (a0_known : Nat → Int32) (a0_worths : Nat → Int32) (i1 : Int32) (i2 : Int32) : Option (Int32) :=
  nh_chk (nh_in i1 4) (nh_let (α := Int32) ((a0_held (Int32.toNatClampNeg i1))) (fun y_2 => nh_chk (nh_in i2 4) (nh_let (α := Int32) ((a0_held (Int32.toNatClampNeg i2))) (fun y_4 => (if y_2 = (-9) then some 0
 else nh_b1 (fX1_isNew a0_count a0_known i1 y_4) (fun r_6 => (if r_6 = 0 then some 0
 else nh_b1 (fX1_worthOf a0_count a0_worths i1 y_4) (fun r_9 => nh_b1 (fX1_worthOf a0_count a0_worths i1 y_2) (fun r_11 => (if r_9 ≤ r_11 then some 0
 else some 1))))))))))
set_option maxHeartbeats 4000000 in
set_option maxRecDepth 100000 in
theorem kX3_isBetter (l : Launch) (D : va_G) (cI cZ cO : ClassId) (sz : Nat) (q_a0 q_a0_held q_a0_known q_a0_worths : Nat) (a0_count : Int32) (a0_held : Nat → Int32) (a0_known : Nat → Int32) (a0_worths : Nat → Int32) (i1 : Int32) (i2 : Int32) (o_r : Int32) (h : fX3_isBetter a0_count a0_held a0_known a0_worths i1 i2 = some o_r) : Met l yX3_isBetter (nh_w (.code yX3_isBetter cX3_isBetter 5 (some .boolean))) (nh_rm 2) (nh_Pc D cI cZ cO (wlX3_isBetter cI cZ cO q_a0 q_a0_held q_a0_known q_a0_worths a0_count a0_held a0_known a0_worths) [.ref q_a0, .int i1, .int i2] sz) ((nh_Qi D (wlX3_isBetter cI cZ cO q_a0 q_a0_held q_a0_known q_a0_worths a0_count a0_held a0_known a0_worths) o_r) (va_A (wlX3_isBetter cI cZ cO q_a0 q_a0_held q_a0_known q_a0_worths a0_count a0_held a0_known a0_worths) sz)) 0 0 (va_A (wlX3_isBetter cI cZ cO q_a0 q_a0_held q_a0_known q_a0_worths a0_count a0_held a0_known a0_worths) sz) := by
  unfold fX3_isBetter at h
  refine nh_met (cc := cX3_isBetter) (maxL := 5) (ret := (some .boolean)) (nh_Qi D (wlX3_isBetter cI cZ cO q_a0 q_a0_held q_a0_known q_a0_worths a0_count a0_held a0_known a0_worths) o_r) (by decide) rfl (Nat.le_of_ble_eq_true rfl) ?_
  intro p e s m args below meth c A H locs ls hx hb hml hr hown hts hlocks hinit hP hK hN hD hA hS hl
  have hl : lv_has ls 5 [(0, .ref q_a0), (1, .int i1), (2, .int i2)] := hl
  have hts : ∀ w ∈ nh_words, w.before args s = true := fun w h => hts w (List.mem_cons_of_mem _ h)
  refine lv_aload_n hx hb dX3_isBetter_0 rfl (lv_at hl 0 rfl) ?_
  refine va_get (D := D) (ci := 1) (v := .ref q_a0_held) (C := RX1) (T := TX1) (N := 4) hx hb hts nhu_X1 hown hK hP 0 rfl rfl 1 (by decide) (hts _ nhw_269) (fun _ h9 => h9) rfl dX3_isBetter_1 ?_
  refine lv_iload_n hx hb dX3_isBetter_4 rfl (lv_at hl 1 rfl) ?_
  obtain ⟨z1, h⟩ := nh_chk_some h
  refine va_iald hx hb hK hP 1 0 rfl rfl (nh_in_in z1) dX3_isBetter_5 ?_
  refine lv_topi (fun y_2 ey_2 => ?_)
  replace h := nh_to h ey_2
  refine lv_istore_n (lv' := [(3, .int y_2), (0, .ref q_a0), (1, .int i1), (2, .int i2)]) hx hb dX3_isBetter_6 rfl hl (by decide) rfl (fun ls hl => ?_)
  refine lv_aload_n hx hb dX3_isBetter_7 rfl (lv_at hl 1 rfl) ?_
  refine va_get (D := D) (ci := 1) (v := .ref q_a0_held) (C := RX1) (T := TX1) (N := 4) hx hb hts nhu_X1 hown hK hP 0 rfl rfl 1 (by decide) (hts _ nhw_269) (fun _ h9 => h9) rfl dX3_isBetter_8 ?_
  refine lv_iload_n hx hb dX3_isBetter_11 rfl (lv_at hl 3 rfl) ?_
  obtain ⟨z3, h⟩ := nh_chk_some h
  refine va_iald hx hb hK hP 1 0 rfl rfl (nh_in_in z3) dX3_isBetter_12 ?_
  refine lv_topi (fun y_4 ey_4 => ?_)
  replace h := nh_to h ey_4
  refine lv_istore (lv' := [(4, .int y_4), (3, .int y_2), (0, .ref q_a0), (1, .int i1), (2, .int i2)]) hx hb dX3_isBetter_13 hl (by decide) rfl (fun ls hl => ?_)
  refine lv_iload_n hx hb dX3_isBetter_15 rfl (lv_at hl 1 rfl) ?_
  refine lv_bipush (v := (-9)) hx hb dX3_isBetter_16 (by decide) ?_
  refine lv_icmp_eq (tgt := 51) hx hb dX3_isBetter_18 (by decide) (fun c5 => ?_) (fun c5 => ?_)
  · replace h := nh_t h c5
    refine lv_iconst (v := 0) hx hb dX3_isBetter_51 (by decide) ?_
    replace h := nh_i1 h
    exact nh_rz hx hb hr hlocks h rfl hP hS dX3_isBetter_52
  · replace h := nh_f h c5
    refine lv_aload_n hx hb dX3_isBetter_21 rfl (lv_at hl 2 rfl) ?_
    refine lv_iload_n hx hb dX3_isBetter_22 rfl (lv_at hl 3 rfl) ?_
    refine lv_iload hx hb dX3_isBetter_23 (lv_at hl 0 rfl) ?_
    obtain ⟨r_6, hc7, h⟩ := nh_b1_some h
    refine nh_goi (nh_V (As := [.int i1, .int y_4]) (rest := []) ⟨hx, hb, hml, hown, hts⟩ (kX1_isNew  l D cI cZ cO H.size q_a0 q_a0_held q_a0_known q_a0_worths a0_count a0_known i1 y_4 r_6 hc7) (cwV 2 hts (nh_gV nhw_628 nhw_423 nhw_684 nhw_303 nhw_132) rfl rfl rfl (by decide +kernel) ⟨Nat.le_of_ble_eq_true rfl, Nat.le_of_ble_eq_true rfl⟩) hK hN hP hD (isC := [0, 2]) rfl rfl 0 1 rfl rfl rfl rfl hl.1 rfl (Nat.le_of_ble_eq_true rfl) dX3_isBetter_25 ⟨Nat.zero_le _, Nat.zero_le _⟩) hP hD hS hA (isC := [0, 2]) rfl rfl rfl (w' := (wlX3_isBetter cI cZ cO q_a0 q_a0_held q_a0_known q_a0_worths a0_count a0_held a0_known a0_worths)) rfl (fun H locs hP hD hS => ?_)
    refine lv_if_eq (tgt := 51) hx hb dX3_isBetter_28 (by decide) (fun c8 => ?_) (fun c8 => ?_)
    · replace h := nh_t h c8
      refine lv_iconst (v := 0) hx hb dX3_isBetter_51 (by decide) ?_
      replace h := nh_i1 h
      exact nh_rz hx hb hr hlocks h rfl hP hS dX3_isBetter_52
    · replace h := nh_f h c8
      refine lv_aload_n hx hb dX3_isBetter_31 rfl (lv_at hl 2 rfl) ?_
      refine lv_iload_n hx hb dX3_isBetter_32 rfl (lv_at hl 3 rfl) ?_
      refine lv_iload hx hb dX3_isBetter_33 (lv_at hl 0 rfl) ?_
      obtain ⟨r_9, hc10, h⟩ := nh_b1_some h
      refine nh_goi (nh_V (As := [.int i1, .int y_4]) (rest := []) ⟨hx, hb, hml, hown, hts⟩ (kX1_worthOf  l D cI cZ cO H.size q_a0 q_a0_held q_a0_known q_a0_worths a0_count a0_worths i1 y_4 r_9 hc10) (cwV 2 hts (nh_gV nhw_627 nhw_428 nhw_689 nhw_303 nhw_138) rfl rfl rfl (by decide +kernel) ⟨Nat.le_of_ble_eq_true rfl, Nat.le_of_ble_eq_true rfl⟩) hK hN hP hD (isC := [0, 3]) rfl rfl 0 1 rfl rfl rfl rfl hl.1 rfl (Nat.le_of_ble_eq_true rfl) dX3_isBetter_35 ⟨Nat.zero_le _, Nat.zero_le _⟩) hP hD hS hA (isC := [0, 3]) rfl rfl rfl (w' := (wlX3_isBetter cI cZ cO q_a0 q_a0_held q_a0_known q_a0_worths a0_count a0_held a0_known a0_worths)) rfl (fun H locs hP hD hS => ?_)
      refine lv_aload_n hx hb dX3_isBetter_38 rfl (lv_at hl 2 rfl) ?_
      refine lv_iload_n hx hb dX3_isBetter_39 rfl (lv_at hl 3 rfl) ?_
      refine lv_iload_n hx hb dX3_isBetter_40 rfl (lv_at hl 1 rfl) ?_
      obtain ⟨r_11, hc12, h⟩ := nh_b1_some h
      refine nh_goi (nh_V (As := [.int i1, .int y_2]) (rest := [.int r_9]) ⟨hx, hb, hml, hown, hts⟩ (kX1_worthOf  l D cI cZ cO H.size q_a0 q_a0_held q_a0_known q_a0_worths a0_count a0_worths i1 y_2 r_11 hc12) (cwV 2 hts (nh_gV nhw_627 nhw_428 nhw_689 nhw_303 nhw_138) rfl rfl rfl (by decide +kernel) ⟨Nat.le_of_ble_eq_true rfl, Nat.le_of_ble_eq_true rfl⟩) hK hN hP hD (isC := [0, 3]) rfl rfl 0 1 rfl rfl rfl rfl hl.1 rfl (Nat.le_of_ble_eq_true rfl) dX3_isBetter_41 ⟨Nat.zero_le _, Nat.zero_le _⟩) hP hD hS hA (isC := [0, 3]) rfl rfl rfl (w' := (wlX3_isBetter cI cZ cO q_a0 q_a0_held q_a0_known q_a0_worths a0_count a0_held a0_known a0_worths)) rfl (fun H locs hP hD hS => ?_)
      refine lv_icmp_le (tgt := 51) hx hb dX3_isBetter_44 (by decide) (fun c13 => ?_) (fun c13 => ?_)
      · replace h := nh_t h c13
        refine lv_iconst (v := 0) hx hb dX3_isBetter_51 (by decide) ?_
        replace h := nh_i1 h
        exact nh_rz hx hb hr hlocks h rfl hP hS dX3_isBetter_52
      · replace h := nh_f h c13
        refine lv_iconst (v := 1) hx hb dX3_isBetter_47 (by decide) ?_
        refine lv_goto (tgt := 52) hx hb dX3_isBetter_48 (by decide) ?_
        replace h := nh_i1 h
        exact nh_rz hx hb hr hlocks h rfl hP hS dX3_isBetter_52
abbrev wlX3_give (cI cZ cO : ClassId) (q_a0 q_a1 q_a0_bestFrom q_a0_from q_a1_held q_a1_known q_a1_worths : Nat) (a0_bestGain : Int32) (a0_bestTakers : Int32) (a0_bestFrom : Nat → Int32) (a0_from : Nat → Int32) (a1_count : Int32) (a1_held : Nat → Int32) (a1_known : Nat → Int32) (a1_worths : Nat → Int32) : va_W := [(q_a0, .inr (2, [.int a0_bestGain, .ref q_a0_bestFrom, .int a0_bestTakers, .ref q_a0_from])), (q_a0_bestFrom, .inl (cI, 4, .inl a0_bestFrom)), (q_a0_from, .inl (cI, 4, .inl a0_from)), (q_a1, .inr (1, [.int a1_count, .ref q_a1_held, .ref q_a1_known, .ref q_a1_worths])), (q_a1_held, .inl (cI, 4, .inl a1_held)), (q_a1_known, .inl (cI, 4, .inl a1_known)), (q_a1_worths, .inl (cI, 24, .inl a1_worths))]
def fX3_give_J65 (a1_count : Int32) (a1_held : Nat → Int32) (a1_known : Nat → Int32) (a1_worths : Nat → Int32) (i2 : Int32) (i3 : Int32) (i4 : Int32) (rc : Int32 → Int32 → (Nat → Int32) → (Nat → Int32) → Int32 → (Nat → Int32) → (Nat → Int32) → (Nat → Int32) → Int32 → Int32 → Int32 → Option (Int32 × Int32 × (Nat → Int32) × (Nat → Int32))) (r19 : Int32 → Int32 → Int32 → (Nat → Int32) → (Nat → Int32) → Option (Int32 × Int32 × (Nat → Int32) × (Nat → Int32))) (x5_12 : Int32) (x6_13 : Int32) (a0_bestGain_14 : Int32) (a0_bestTakers_15 : Int32) (a0_bestFrom_16 : Nat → Int32) (a0_from_17 : Nat → Int32) : Option (Int32 × Int32 × (Nat → Int32) × (Nat → Int32)) :=
  nh_chk (nh_in i2 4) (nh_let (α := Nat → Int32) (upd a0_from_17 (Int32.toNatClampNeg i2) x5_12) (fun a0_from_19 => nh_chk (nh_in x5_12 4) (nh_b1 (fX1_worthOf a1_count a1_worths i2 (a1_held (Int32.toNatClampNeg x5_12))) (fun r_21 => nh_chk (nh_in i2 4) (nh_b1 (fX1_worthOf a1_count a1_worths i2 (a1_held (Int32.toNatClampNeg i2))) (fun r_24 => nh_let (α := Int32) (((i4 + r_21) - r_24)) (fun y_26 => nh_b4 (rc a0_bestGain_14 a0_bestTakers_15 a0_bestFrom_16 a0_from_19 a1_count a1_held a1_known a1_worths (i2 + 1) (i3 ||| (1 <<< (x5_12 &&& 31))) y_26) (fun a0_bestGain_27 a0_bestTakers_28 a0_bestFrom_29 a0_from_30 => nh_let (α := Int32) (x5_12 + 1) (fun x5_32 => r19 x5_32 a0_bestGain_27 a0_bestTakers_28 a0_bestFrom_29 a0_from_30)))))))))
def fX3_give_J42 (a1_count : Int32) (a1_held : Nat → Int32) (a1_known : Nat → Int32) (a1_worths : Nat → Int32) (i2 : Int32) (i3 : Int32) (i4 : Int32) (rc : Int32 → Int32 → (Nat → Int32) → (Nat → Int32) → Int32 → (Nat → Int32) → (Nat → Int32) → (Nat → Int32) → Int32 → Int32 → Int32 → Option (Int32 × Int32 × (Nat → Int32) × (Nat → Int32))) (r19 : Int32 → Int32 → Int32 → (Nat → Int32) → (Nat → Int32) → Option (Int32 × Int32 × (Nat → Int32) × (Nat → Int32))) (x5_33 : Int32) (a0_bestGain_34 : Int32) (a0_bestTakers_35 : Int32) (a0_bestFrom_36 : Nat → Int32) (a0_from_37 : Nat → Int32) (t0_38 : Int32) : Option (Int32 × Int32 × (Nat → Int32) × (Nat → Int32)) :=
  (if t0_38 = 0 then nh_let (α := Int32) (x5_33 + 1) (fun x5_40 => r19 x5_40 a0_bestGain_34 a0_bestTakers_35 a0_bestFrom_36 a0_from_37)
 else (if x5_33 = i2 then fX3_give_J65 a1_count a1_held a1_known a1_worths i2 i3 i4 rc r19 x5_33 t0_38 a0_bestGain_34 a0_bestTakers_35 a0_bestFrom_36 a0_from_37
 else nh_b1 (fX3_isBetter a1_count a1_held a1_known a1_worths i2 x5_33) (fun r_42 => (if r_42 = 0 then nh_let (α := Int32) (x5_33 + 1) (fun x5_45 => r19 x5_45 a0_bestGain_34 a0_bestTakers_35 a0_bestFrom_36 a0_from_37)
 else fX3_give_J65 a1_count a1_held a1_known a1_worths i2 i3 i4 rc r19 x5_33 t0_38 a0_bestGain_34 a0_bestTakers_35 a0_bestFrom_36 a0_from_37))))
def fX3_give_B19 (a1_count : Int32) (a1_held : Nat → Int32) (a1_known : Nat → Int32) (a1_worths : Nat → Int32) (i2 : Int32) (i3 : Int32) (i4 : Int32) (rc : Int32 → Int32 → (Nat → Int32) → (Nat → Int32) → Int32 → (Nat → Int32) → (Nat → Int32) → (Nat → Int32) → Int32 → Int32 → Int32 → Option (Int32 × Int32 × (Nat → Int32) × (Nat → Int32))) (k19 : Int32 → Int32 → Int32 → (Nat → Int32) → (Nat → Int32) → Option (Int32 × Int32 × (Nat → Int32) × (Nat → Int32))) (r19 : Int32 → Int32 → Int32 → (Nat → Int32) → (Nat → Int32) → Option (Int32 × Int32 × (Nat → Int32) × (Nat → Int32))) (x5_2 : Int32) (a0_bestGain_3 : Int32) (a0_bestTakers_4 : Int32) (a0_bestFrom_5 : Nat → Int32) (a0_from_6 : Nat → Int32) : Option (Int32 × Int32 × (Nat → Int32) × (Nat → Int32)) :=
  (if a1_count ≤ x5_2 then k19 x5_2 a0_bestGain_3 a0_bestTakers_4 a0_bestFrom_5 a0_from_6
 else (if (i3 &&& (1 <<< (x5_2 &&& 31))) = 0 then fX3_give_J42 a1_count a1_held a1_known a1_worths i2 i3 i4 rc r19 x5_2 a0_bestGain_3 a0_bestTakers_4 a0_bestFrom_5 a0_from_6 1
 else fX3_give_J42 a1_count a1_held a1_known a1_worths i2 i3 i4 rc r19 x5_2 a0_bestGain_3 a0_bestTakers_4 a0_bestFrom_5 a0_from_6 0))
def fX3_give_L19 (a1_count : Int32) (a1_held : Nat → Int32) (a1_known : Nat → Int32) (a1_worths : Nat → Int32) (i2 : Int32) (i3 : Int32) (i4 : Int32) (rc : Int32 → Int32 → (Nat → Int32) → (Nat → Int32) → Int32 → (Nat → Int32) → (Nat → Int32) → (Nat → Int32) → Int32 → Int32 → Int32 → Option (Int32 × Int32 × (Nat → Int32) × (Nat → Int32))) (k19 : Int32 → Int32 → Int32 → (Nat → Int32) → (Nat → Int32) → Option (Int32 × Int32 × (Nat → Int32) × (Nat → Int32))) : Nat → Int32 → Int32 → Int32 → (Nat → Int32) → (Nat → Int32) → Option (Int32 × Int32 × (Nat → Int32) × (Nat → Int32))
  | 0 => fun _ _ _ _ _ => none
  | n + 1 => fX3_give_B19 a1_count a1_held a1_known a1_worths i2 i3 i4 rc k19 (fX3_give_L19 a1_count a1_held a1_known a1_worths i2 i3 i4 rc k19 n)
def fX3_give_R (F : Nat) (rc : Int32 → Int32 → (Nat → Int32) → (Nat → Int32) → Int32 → (Nat → Int32) → (Nat → Int32) → (Nat → Int32) → Int32 → Int32 → Int32 → Option (Int32 × Int32 × (Nat → Int32) × (Nat → Int32))) (a0_bestGain : Int32) (a0_bestTakers : Int32) (a0_bestFrom : Nat → Int32) (a0_from : Nat → Int32) (a1_count : Int32) (a1_held : Nat → Int32) (a1_known : Nat → Int32) (a1_worths : Nat → Int32) (i2 : Int32) (i3 : Int32) (i4 : Int32) : Option (Int32 × Int32 × (Nat → Int32) × (Nat → Int32)) :=
  (if i2 < a1_count then fX3_give_L19 a1_count a1_held a1_known a1_worths i2 i3 i4 rc (fun x5_7 a0_bestGain_8 a0_bestTakers_9 a0_bestFrom_10 a0_from_11 => some (a0_bestGain_8, a0_bestTakers_9, a0_bestFrom_10, a0_from_11)) F 0 a0_bestGain a0_bestTakers a0_bestFrom a0_from
 else nh_b3 (fX3_compare F a0_bestGain a0_bestTakers a0_bestFrom a0_from a1_count i4) (fun a0_bestGain_48 a0_bestTakers_49 a0_bestFrom_50 => some (a0_bestGain_48, a0_bestTakers_49, a0_bestFrom_50, a0_from)))
def fX3_give (F : Nat) : Nat → Int32 → Int32 → (Nat → Int32) → (Nat → Int32) → Int32 → (Nat → Int32) → (Nat → Int32) → (Nat → Int32) → Int32 → Int32 → Int32 → Option (Int32 × Int32 × (Nat → Int32) × (Nat → Int32))
  | 0 => fun _ _ _ _ _ _ _ _ _ _ _ => none
  | d + 1 => fX3_give_R F (fX3_give F d)
set_option maxHeartbeats 4000000 in
set_option maxRecDepth 100000 in
theorem kX3_give (F : Nat) (d : Nat) (l : Launch) (D : va_G) (cI cZ cO : ClassId) : ∀ (sz : Nat) (q_a0 q_a1 q_a0_bestFrom q_a0_from q_a1_held q_a1_known q_a1_worths : Nat) (a0_bestGain : Int32) (a0_bestTakers : Int32) (a0_bestFrom : Nat → Int32) (a0_from : Nat → Int32) (a1_count : Int32) (a1_held : Nat → Int32) (a1_known : Nat → Int32) (a1_worths : Nat → Int32) (i2 : Int32) (i3 : Int32) (i4 : Int32) (o_a0_bestGain : Int32) (o_a0_bestTakers : Int32) (o_a0_bestFrom : Nat → Int32) (o_a0_from : Nat → Int32), fX3_give F d a0_bestGain a0_bestTakers a0_bestFrom a0_from a1_count a1_held a1_known a1_worths i2 i3 i4 = some (o_a0_bestGain, o_a0_bestTakers, o_a0_bestFrom, o_a0_from) → Met l yX3_give (nh_w (.code yX3_give cX3_give 8 none)) (nh_rm (3 + d)) (nh_Pc D cI cZ cO (wlX3_give cI cZ cO q_a0 q_a1 q_a0_bestFrom q_a0_from q_a1_held q_a1_known q_a1_worths a0_bestGain a0_bestTakers a0_bestFrom a0_from a1_count a1_held a1_known a1_worths) [.ref q_a0, .ref q_a1, .int i2, .int i3, .int i4] sz) ((nh_Qv D (wlX3_give cI cZ cO q_a0 q_a1 q_a0_bestFrom q_a0_from q_a1_held q_a1_known q_a1_worths o_a0_bestGain o_a0_bestTakers o_a0_bestFrom o_a0_from a1_count a1_held a1_known a1_worths)) (va_A (wlX3_give cI cZ cO q_a0 q_a1 q_a0_bestFrom q_a0_from q_a1_held q_a1_known q_a1_worths a0_bestGain a0_bestTakers a0_bestFrom a0_from a1_count a1_held a1_known a1_worths) sz)) 0 0 (va_A (wlX3_give cI cZ cO q_a0 q_a1 q_a0_bestFrom q_a0_from q_a1_held q_a1_known q_a1_worths a0_bestGain a0_bestTakers a0_bestFrom a0_from a1_count a1_held a1_known a1_worths) sz) := by
  induction d with
  | zero => intro sz q_a0 q_a1 q_a0_bestFrom q_a0_from q_a1_held q_a1_known q_a1_worths a0_bestGain a0_bestTakers a0_bestFrom a0_from a1_count a1_held a1_known a1_worths i2 i3 i4 o_a0_bestGain o_a0_bestTakers o_a0_bestFrom o_a0_from h; exact (nh_none h).elim
  | succ d ihd =>
    intro sz q_a0 q_a1 q_a0_bestFrom q_a0_from q_a1_held q_a1_known q_a1_worths a0_bestGain a0_bestTakers a0_bestFrom a0_from a1_count a1_held a1_known a1_worths i2 i3 i4 o_a0_bestGain o_a0_bestTakers o_a0_bestFrom o_a0_from h
    replace h : fX3_give_R F (fX3_give F d) a0_bestGain a0_bestTakers a0_bestFrom a0_from a1_count a1_held a1_known a1_worths i2 i3 i4 = some (o_a0_bestGain, o_a0_bestTakers, o_a0_bestFrom, o_a0_from) := h
    unfold fX3_give_R at h
    refine nh_met (cc := cX3_give) (maxL := 8) (ret := none) (nh_Qv D (wlX3_give cI cZ cO q_a0 q_a1 q_a0_bestFrom q_a0_from q_a1_held q_a1_known q_a1_worths o_a0_bestGain o_a0_bestTakers o_a0_bestFrom o_a0_from a1_count a1_held a1_known a1_worths)) (by decide) rfl (Nat.le_of_ble_eq_true rfl) ?_
    intro p e s m args below meth c A H locs ls hx hb hml hr hown hts hlocks hinit hP hK hN hD hA hS hl
    have hl : lv_has ls 8 [(0, .ref q_a0), (1, .ref q_a1), (2, .int i2), (3, .int i3), (4, .int i4)] := hl
    have hts : ∀ w ∈ nh_words, w.before args s = true := fun w h => hts w (List.mem_cons_of_mem _ h)
    refine lv_iload_n hx hb dX3_give_0 rfl (lv_at hl 2 rfl) ?_
    refine lv_aload_n hx hb dX3_give_1 rfl (lv_at hl 1 rfl) ?_
    refine va_get (D := D) (ci := 1) (v := .int a1_count) (C := RX1) (T := TX1) (N := 4) hx hb hts nhu_X1 hown hK hP 3 rfl rfl 0 (by decide) (hts _ nhw_268) (fun _ h9 => h9) rfl dX3_give_2 ?_
    refine lv_icmp_lt (tgt := 16) hx hb dX3_give_5 (by decide) (fun c1 => ?_) (fun c1 => ?_)
    · replace h := nh_t h c1
      refine lv_iconst (v := 0) hx hb dX3_give_16 (by decide) ?_
      refine lv_istore (lv' := [(5, .int 0), (0, .ref q_a0), (1, .ref q_a1), (2, .int i2), (3, .int i3), (4, .int i4)]) hx hb dX3_give_17 hl (by decide) rfl (fun ls hl => ?_)
      have L19 : ∀ (k19 : Int32 → Int32 → Int32 → (Nat → Int32) → (Nat → Int32) → Option (Int32 × Int32 × (Nat → Int32) × (Nat → Int32))), (∀ (x5_7 : Int32) (a0_bestGain_8 : Int32) (a0_bestTakers_9 : Int32) (a0_bestFrom_10 : Nat → Int32) (a0_from_11 : Nat → Int32) (H : Heap) (locs : List Loc) (ls : Array Slot), va_P D vwCl (wlX3_give cI cZ cO q_a0 q_a1 q_a0_bestFrom q_a0_from q_a1_held q_a1_known q_a1_worths a0_bestGain_8 a0_bestTakers_9 a0_bestFrom_10 a0_from_11 a1_count a1_held a1_known a1_worths) H → va_D A (wlX3_give cI cZ cO q_a0 q_a1 q_a0_bestFrom q_a0_from q_a1_held q_a1_known q_a1_worths a0_bestGain_8 a0_bestTakers_9 a0_bestFrom_10 a0_from_11 a1_count a1_held a1_known a1_worths) → va_S A s.heap H locs → lv_has ls 8 [(0, .ref q_a0), (1, .ref q_a1), (2, .int i2), (3, .int i3), (4, .int i4), (5, .int x5_7)] → k19 x5_7 a0_bestGain_8 a0_bestTakers_9 a0_bestFrom_10 a0_from_11 = some (o_a0_bestGain, o_a0_bestTakers, o_a0_bestFrom, o_a0_from) → W p l e (nh_rm (3 + (d + 1))) s m args below meth c H locs 0 0 (MQ below ((nh_Qv D (wlX3_give cI cZ cO q_a0 q_a1 q_a0_bestFrom q_a0_from q_a1_held q_a1_known q_a1_worths o_a0_bestGain o_a0_bestTakers o_a0_bestFrom o_a0_from a1_count a1_held a1_known a1_worths)) A) args s 0 0 A) (F0 m 124 ls [])) → ∀ (n : Nat) (x5_2 : Int32) (a0_bestGain_3 : Int32) (a0_bestTakers_4 : Int32) (a0_bestFrom_5 : Nat → Int32) (a0_from_6 : Nat → Int32) (H : Heap) (locs : List Loc) (ls : Array Slot), va_P D vwCl (wlX3_give cI cZ cO q_a0 q_a1 q_a0_bestFrom q_a0_from q_a1_held q_a1_known q_a1_worths a0_bestGain_3 a0_bestTakers_4 a0_bestFrom_5 a0_from_6 a1_count a1_held a1_known a1_worths) H → va_D A (wlX3_give cI cZ cO q_a0 q_a1 q_a0_bestFrom q_a0_from q_a1_held q_a1_known q_a1_worths a0_bestGain_3 a0_bestTakers_4 a0_bestFrom_5 a0_from_6 a1_count a1_held a1_known a1_worths) → va_S A s.heap H locs → lv_has ls 8 [(0, .ref q_a0), (1, .ref q_a1), (2, .int i2), (3, .int i3), (4, .int i4), (5, .int x5_2)] → fX3_give_L19 a1_count a1_held a1_known a1_worths i2 i3 i4 (fX3_give F d) k19 n x5_2 a0_bestGain_3 a0_bestTakers_4 a0_bestFrom_5 a0_from_6 = some (o_a0_bestGain, o_a0_bestTakers, o_a0_bestFrom, o_a0_from) → W p l e (nh_rm (3 + (d + 1))) s m args below meth c H locs 0 0 (MQ below ((nh_Qv D (wlX3_give cI cZ cO q_a0 q_a1 q_a0_bestFrom q_a0_from q_a1_held q_a1_known q_a1_worths o_a0_bestGain o_a0_bestTakers o_a0_bestFrom o_a0_from a1_count a1_held a1_known a1_worths)) A) args s 0 0 A) (F0 m 19 ls []) := by
        intro k19 hk19 n
        induction n with
        | zero => intro x5_2 a0_bestGain_3 a0_bestTakers_4 a0_bestFrom_5 a0_from_6 H locs ls hP hD hS hl h; exact (nh_none h).elim
        | succ n19 ih19 =>
          intro x5_2 a0_bestGain_3 a0_bestTakers_4 a0_bestFrom_5 a0_from_6 H locs ls hP hD hS hl h
          replace h : fX3_give_B19 a1_count a1_held a1_known a1_worths i2 i3 i4 (fX3_give F d) k19 (fX3_give_L19 a1_count a1_held a1_known a1_worths i2 i3 i4 (fX3_give F d) k19 n19) x5_2 a0_bestGain_3 a0_bestTakers_4 a0_bestFrom_5 a0_from_6 = some (o_a0_bestGain, o_a0_bestTakers, o_a0_bestFrom, o_a0_from) := h
          unfold fX3_give_B19 at h
          have J65 : ∀ (x5_12 : Int32) (x6_13 : Int32) (a0_bestGain_14 : Int32) (a0_bestTakers_15 : Int32) (a0_bestFrom_16 : Nat → Int32) (a0_from_17 : Nat → Int32) (H : Heap) (locs : List Loc) (ls : Array Slot), va_P D vwCl (wlX3_give cI cZ cO q_a0 q_a1 q_a0_bestFrom q_a0_from q_a1_held q_a1_known q_a1_worths a0_bestGain_14 a0_bestTakers_15 a0_bestFrom_16 a0_from_17 a1_count a1_held a1_known a1_worths) H → va_D A (wlX3_give cI cZ cO q_a0 q_a1 q_a0_bestFrom q_a0_from q_a1_held q_a1_known q_a1_worths a0_bestGain_14 a0_bestTakers_15 a0_bestFrom_16 a0_from_17 a1_count a1_held a1_known a1_worths) → va_S A s.heap H locs → lv_has ls 8 [(0, .ref q_a0), (1, .ref q_a1), (2, .int i2), (3, .int i3), (4, .int i4), (5, .int x5_12), (6, .int x6_13)] → fX3_give_J65 a1_count a1_held a1_known a1_worths i2 i3 i4 (fX3_give F d) ((fX3_give_L19 a1_count a1_held a1_known a1_worths i2 i3 i4 (fX3_give F d) k19 n19)) x5_12 x6_13 a0_bestGain_14 a0_bestTakers_15 a0_bestFrom_16 a0_from_17 = some (o_a0_bestGain, o_a0_bestTakers, o_a0_bestFrom, o_a0_from) → W p l e (nh_rm (3 + (d + 1))) s m args below meth c H locs 0 0 (MQ below ((nh_Qv D (wlX3_give cI cZ cO q_a0 q_a1 q_a0_bestFrom q_a0_from q_a1_held q_a1_known q_a1_worths o_a0_bestGain o_a0_bestTakers o_a0_bestFrom o_a0_from a1_count a1_held a1_known a1_worths)) A) args s 0 0 A) (F0 m 65 ls []) := by
            intro x5_12 x6_13 a0_bestGain_14 a0_bestTakers_15 a0_bestFrom_16 a0_from_17 H locs ls hP hD hS hl h
            unfold fX3_give_J65 at h
            refine lv_aload_n hx hb dX3_give_65 rfl (lv_at hl 0 rfl) ?_
            refine va_get (D := D) (ci := 2) (v := .ref q_a0_from) (C := RX3) (T := TX3) (N := 4) hx hb hts nhu_X3 hown hK hP 0 rfl rfl 3 (by decide) (hts _ nhw_265) (fun _ h9 => h9) rfl dX3_give_66 ?_
            refine lv_iload_n hx hb dX3_give_69 rfl (lv_at hl 2 rfl) ?_
            refine lv_iload hx hb dX3_give_70 (lv_at hl 5 rfl) ?_
            obtain ⟨z18, h⟩ := nh_chk_some h
            refine va_iast hx hb hK hP hD hS 2 0 rfl rfl (nh_in_in z18) dX3_give_72 (fun H locs hP hD hS => ?_)
            obtain ⟨a0_from_19, ea0_from_19⟩ : ∃ y : Nat → Int32, y = upd a0_from_17 (Int32.toNatClampNeg i2) x5_12 := ⟨_, rfl⟩
            replace h := nh_to h ea0_from_19
            have hP : va_P D vwCl (wlX3_give cI cZ cO q_a0 q_a1 q_a0_bestFrom q_a0_from q_a1_held q_a1_known q_a1_worths a0_bestGain_14 a0_bestTakers_15 a0_bestFrom_16 a0_from_19 a1_count a1_held a1_known a1_worths) H := by rw [ea0_from_19]; exact hP
            have hD : va_D A (wlX3_give cI cZ cO q_a0 q_a1 q_a0_bestFrom q_a0_from q_a1_held q_a1_known q_a1_worths a0_bestGain_14 a0_bestTakers_15 a0_bestFrom_16 a0_from_19 a1_count a1_held a1_known a1_worths) := by rw [ea0_from_19]; exact hD
            refine lv_iload hx hb dX3_give_73 (lv_at hl 4 rfl) ?_
            refine lv_aload_n hx hb dX3_give_75 rfl (lv_at hl 1 rfl) ?_
            refine lv_iload_n hx hb dX3_give_76 rfl (lv_at hl 2 rfl) ?_
            refine lv_aload_n hx hb dX3_give_77 rfl (lv_at hl 1 rfl) ?_
            refine va_get (D := D) (ci := 1) (v := .ref q_a1_held) (C := RX1) (T := TX1) (N := 4) hx hb hts nhu_X1 hown hK hP 3 rfl rfl 1 (by decide) (hts _ nhw_269) (fun _ h9 => h9) rfl dX3_give_78 ?_
            refine lv_iload hx hb dX3_give_81 (lv_at hl 5 rfl) ?_
            obtain ⟨z20, h⟩ := nh_chk_some h
            refine va_iald hx hb hK hP 4 0 rfl rfl (nh_in_in z20) dX3_give_83 ?_
            obtain ⟨r_21, hc22, h⟩ := nh_b1_some h
            refine nh_goi (nh_V (As := [.int i2, .int (a1_held (Int32.toNatClampNeg x5_12))]) (rest := [.int i4]) ⟨hx, hb, hml, hown, hts⟩ (kX1_worthOf  l D cI cZ cO H.size q_a1 q_a1_held q_a1_known q_a1_worths a1_count a1_worths i2 (a1_held (Int32.toNatClampNeg x5_12)) r_21 hc22) (cwV 2 hts (nh_gV nhw_627 nhw_428 nhw_689 nhw_303 nhw_138) rfl rfl rfl (by decide +kernel) ⟨by show 1 + 1 ≤ 3 + (d + 1); omega, by show 8 + (3 + 11) + 64 * 1 ≤ 64 * (3 + (d + 1)); omega⟩) hK hN hP hD (isC := [3, 6]) rfl rfl 3 1 rfl rfl rfl rfl hl.1 rfl (Nat.le_of_ble_eq_true rfl) dX3_give_84 ⟨Nat.zero_le _, Nat.zero_le _⟩) hP hD hS hA (isC := [3, 6]) rfl rfl rfl (w' := (wlX3_give cI cZ cO q_a0 q_a1 q_a0_bestFrom q_a0_from q_a1_held q_a1_known q_a1_worths a0_bestGain_14 a0_bestTakers_15 a0_bestFrom_16 a0_from_19 a1_count a1_held a1_known a1_worths)) rfl (fun H locs hP hD hS => ?_)
            refine lv_iadd hx hb dX3_give_87 ?_
            refine lv_aload_n hx hb dX3_give_88 rfl (lv_at hl 1 rfl) ?_
            refine lv_iload_n hx hb dX3_give_89 rfl (lv_at hl 2 rfl) ?_
            refine lv_aload_n hx hb dX3_give_90 rfl (lv_at hl 1 rfl) ?_
            refine va_get (D := D) (ci := 1) (v := .ref q_a1_held) (C := RX1) (T := TX1) (N := 4) hx hb hts nhu_X1 hown hK hP 3 rfl rfl 1 (by decide) (hts _ nhw_269) (fun _ h9 => h9) rfl dX3_give_91 ?_
            refine lv_iload_n hx hb dX3_give_94 rfl (lv_at hl 2 rfl) ?_
            obtain ⟨z23, h⟩ := nh_chk_some h
            refine va_iald hx hb hK hP 4 0 rfl rfl (nh_in_in z23) dX3_give_95 ?_
            obtain ⟨r_24, hc25, h⟩ := nh_b1_some h
            refine nh_goi (nh_V (As := [.int i2, .int (a1_held (Int32.toNatClampNeg i2))]) (rest := [.int (i4 + r_21)]) ⟨hx, hb, hml, hown, hts⟩ (kX1_worthOf  l D cI cZ cO H.size q_a1 q_a1_held q_a1_known q_a1_worths a1_count a1_worths i2 (a1_held (Int32.toNatClampNeg i2)) r_24 hc25) (cwV 2 hts (nh_gV nhw_627 nhw_428 nhw_689 nhw_303 nhw_138) rfl rfl rfl (by decide +kernel) ⟨by show 1 + 1 ≤ 3 + (d + 1); omega, by show 8 + (3 + 11) + 64 * 1 ≤ 64 * (3 + (d + 1)); omega⟩) hK hN hP hD (isC := [3, 6]) rfl rfl 3 1 rfl rfl rfl rfl hl.1 rfl (Nat.le_of_ble_eq_true rfl) dX3_give_96 ⟨Nat.zero_le _, Nat.zero_le _⟩) hP hD hS hA (isC := [3, 6]) rfl rfl rfl (w' := (wlX3_give cI cZ cO q_a0 q_a1 q_a0_bestFrom q_a0_from q_a1_held q_a1_known q_a1_worths a0_bestGain_14 a0_bestTakers_15 a0_bestFrom_16 a0_from_19 a1_count a1_held a1_known a1_worths)) rfl (fun H locs hP hD hS => ?_)
            refine lv_isub hx hb dX3_give_99 ?_
            refine lv_topi (fun y_26 ey_26 => ?_)
            replace h := nh_to h ey_26
            refine lv_istore (lv' := [(7, .int y_26), (0, .ref q_a0), (1, .ref q_a1), (2, .int i2), (3, .int i3), (4, .int i4), (5, .int x5_12), (6, .int x6_13)]) hx hb dX3_give_100 hl (by decide) rfl (fun ls hl => ?_)
            refine lv_aload_n hx hb dX3_give_102 rfl (lv_at hl 1 rfl) ?_
            refine lv_aload_n hx hb dX3_give_103 rfl (lv_at hl 2 rfl) ?_
            refine lv_iload_n hx hb dX3_give_104 rfl (lv_at hl 3 rfl) ?_
            refine lv_iconst (v := 1) hx hb dX3_give_105 (by decide) ?_
            refine lv_iadd hx hb dX3_give_106 ?_
            refine lv_iload_n hx hb dX3_give_107 rfl (lv_at hl 4 rfl) ?_
            refine lv_iconst (v := 1) hx hb dX3_give_108 (by decide) ?_
            refine lv_iload hx hb dX3_give_109 (lv_at hl 6 rfl) ?_
            refine lv_ishl hx hb dX3_give_111 ?_
            refine lv_ior hx hb dX3_give_112 ?_
            refine lv_iload hx hb dX3_give_113 (lv_at hl 0 rfl) ?_
            obtain ⟨a0_bestGain_27, a0_bestTakers_28, a0_bestFrom_29, a0_from_30, hc31, h⟩ := nh_b4_some h
            refine nh_gov (nh_S (As := [.ref q_a0, .ref q_a1, .int (i2 + 1), .int (i3 ||| (1 <<< (x5_12 &&& 31))), .int y_26]) (rest := []) ⟨hx, hb, hml, hown, hts⟩ (ihd H.size q_a0 q_a1 q_a0_bestFrom q_a0_from q_a1_held q_a1_known q_a1_worths a0_bestGain_14 a0_bestTakers_15 a0_bestFrom_16 a0_from_19 a1_count a1_held a1_known a1_worths (i2 + 1) (i3 ||| (1 <<< (x5_12 &&& 31))) y_26 a0_bestGain_27 a0_bestTakers_28 a0_bestFrom_29 a0_from_30 hc31) (va_cwS 5 hts (nh_gS nhw_623 nhw_816 nhw_307 nhw_145) rfl rfl rfl (by decide +kernel) ⟨by show 3 + d + 1 ≤ 3 + (d + 1); omega, by show 8 + (8 + 11) + 64 * (3 + d) ≤ 64 * (3 + (d + 1)); omega⟩) hK hN hP hD (isC := [0, 1, 2, 3, 4, 5, 6]) rfl rfl rfl hl.1 rfl (Nat.le_of_ble_eq_true rfl) dX3_give_115 ⟨Nat.zero_le _, Nat.zero_le _⟩) hP hD hS hA (isC := [0, 1, 2, 3, 4, 5, 6]) rfl rfl rfl (w' := (wlX3_give cI cZ cO q_a0 q_a1 q_a0_bestFrom q_a0_from q_a1_held q_a1_known q_a1_worths a0_bestGain_27 a0_bestTakers_28 a0_bestFrom_29 a0_from_30 a1_count a1_held a1_known a1_worths)) rfl (fun H locs hP hD hS => ?_)
            obtain ⟨x5_32, ex5_32⟩ : ∃ y : Int32, y = x5_12 + 1 := ⟨_, rfl⟩
            replace h := nh_to h ex5_32
            refine lv_iinc (v := x5_32) (lv' := [(5, .int x5_32), (7, .int y_26), (0, .ref q_a0), (1, .ref q_a1), (2, .int i2), (3, .int i3), (4, .int i4), (6, .int x6_13)]) hx hb dX3_give_118 hl (k := 6) rfl (by rw [ex5_32]; rfl) (by decide) rfl (fun ls hl => ?_)
            refine lv_goto (tgt := 19) hx hb dX3_give_121 (by decide) ?_
            exact ih19 x5_32 a0_bestGain_27 a0_bestTakers_28 a0_bestFrom_29 a0_from_30 H locs ls hP hD hS (lv_sub hl [2, 3, 4, 5, 6, 0] rfl) h
          have J42 : ∀ (x5_33 : Int32) (a0_bestGain_34 : Int32) (a0_bestTakers_35 : Int32) (a0_bestFrom_36 : Nat → Int32) (a0_from_37 : Nat → Int32) (t0_38 : Int32) (H : Heap) (locs : List Loc) (ls : Array Slot), va_P D vwCl (wlX3_give cI cZ cO q_a0 q_a1 q_a0_bestFrom q_a0_from q_a1_held q_a1_known q_a1_worths a0_bestGain_34 a0_bestTakers_35 a0_bestFrom_36 a0_from_37 a1_count a1_held a1_known a1_worths) H → va_D A (wlX3_give cI cZ cO q_a0 q_a1 q_a0_bestFrom q_a0_from q_a1_held q_a1_known q_a1_worths a0_bestGain_34 a0_bestTakers_35 a0_bestFrom_36 a0_from_37 a1_count a1_held a1_known a1_worths) → va_S A s.heap H locs → lv_has ls 8 [(0, .ref q_a0), (1, .ref q_a1), (2, .int i2), (3, .int i3), (4, .int i4), (5, .int x5_33)] → fX3_give_J42 a1_count a1_held a1_known a1_worths i2 i3 i4 (fX3_give F d) ((fX3_give_L19 a1_count a1_held a1_known a1_worths i2 i3 i4 (fX3_give F d) k19 n19)) x5_33 a0_bestGain_34 a0_bestTakers_35 a0_bestFrom_36 a0_from_37 t0_38 = some (o_a0_bestGain, o_a0_bestTakers, o_a0_bestFrom, o_a0_from) → W p l e (nh_rm (3 + (d + 1))) s m args below meth c H locs 0 0 (MQ below ((nh_Qv D (wlX3_give cI cZ cO q_a0 q_a1 q_a0_bestFrom q_a0_from q_a1_held q_a1_known q_a1_worths o_a0_bestGain o_a0_bestTakers o_a0_bestFrom o_a0_from a1_count a1_held a1_known a1_worths)) A) args s 0 0 A) (F0 m 42 ls [.int t0_38]) := by
            intro x5_33 a0_bestGain_34 a0_bestTakers_35 a0_bestFrom_36 a0_from_37 t0_38 H locs ls hP hD hS hl h
            unfold fX3_give_J42 at h
            refine lv_istore (lv' := [(6, .int t0_38), (0, .ref q_a0), (1, .ref q_a1), (2, .int i2), (3, .int i3), (4, .int i4), (5, .int x5_33)]) hx hb dX3_give_42 hl (by decide) rfl (fun ls hl => ?_)
            refine lv_iload hx hb dX3_give_44 (lv_at hl 0 rfl) ?_
            refine lv_if_eq (tgt := 118) hx hb dX3_give_46 (by decide) (fun c39 => ?_) (fun c39 => ?_)
            · replace h := nh_t h c39
              obtain ⟨x5_40, ex5_40⟩ : ∃ y : Int32, y = x5_33 + 1 := ⟨_, rfl⟩
              replace h := nh_to h ex5_40
              refine lv_iinc (v := x5_40) (lv' := [(5, .int x5_40), (6, .int t0_38), (0, .ref q_a0), (1, .ref q_a1), (2, .int i2), (3, .int i3), (4, .int i4)]) hx hb dX3_give_118 hl (k := 6) rfl (by rw [ex5_40]; rfl) (by decide) rfl (fun ls hl => ?_)
              refine lv_goto (tgt := 19) hx hb dX3_give_121 (by decide) ?_
              exact ih19 x5_40 a0_bestGain_34 a0_bestTakers_35 a0_bestFrom_36 a0_from_37 H locs ls hP hD hS (lv_sub hl [2, 3, 4, 5, 6, 0] rfl) h
            · replace h := nh_f h c39
              refine lv_iload hx hb dX3_give_49 (lv_at hl 6 rfl) ?_
              refine lv_iload_n hx hb dX3_give_51 rfl (lv_at hl 3 rfl) ?_
              refine lv_icmp_eq (tgt := 65) hx hb dX3_give_52 (by decide) (fun c41 => ?_) (fun c41 => ?_)
              · replace h := nh_t h c41
                exact J65 x5_33 t0_38 a0_bestGain_34 a0_bestTakers_35 a0_bestFrom_36 a0_from_37 H locs ls hP hD hS (lv_sub hl [1, 2, 3, 4, 5, 6, 0] rfl) h
              · replace h := nh_f h c41
                refine lv_aload_n hx hb dX3_give_55 rfl (lv_at hl 2 rfl) ?_
                refine lv_iload_n hx hb dX3_give_56 rfl (lv_at hl 3 rfl) ?_
                refine lv_iload hx hb dX3_give_57 (lv_at hl 6 rfl) ?_
                obtain ⟨r_42, hc43, h⟩ := nh_b1_some h
                refine nh_goi (nh_S (As := [.ref q_a1, .int i2, .int x5_33]) (rest := []) ⟨hx, hb, hml, hown, hts⟩ (kX3_isBetter  l D cI cZ cO H.size q_a1 q_a1_held q_a1_known q_a1_worths a1_count a1_held a1_known a1_worths i2 x5_33 r_42 hc43) (va_cwS 3 hts (nh_gS nhw_626 nhw_817 nhw_307 nhw_147) rfl rfl rfl (by decide +kernel) ⟨by show 2 + 1 ≤ 3 + (d + 1); omega, by show 8 + (5 + 11) + 64 * 2 ≤ 64 * (3 + (d + 1)); omega⟩) hK hN hP hD (isC := [3, 4, 5, 6]) rfl rfl rfl hl.1 rfl (Nat.le_of_ble_eq_true rfl) dX3_give_59 ⟨Nat.zero_le _, Nat.zero_le _⟩) hP hD hS hA (isC := [3, 4, 5, 6]) rfl rfl rfl (w' := (wlX3_give cI cZ cO q_a0 q_a1 q_a0_bestFrom q_a0_from q_a1_held q_a1_known q_a1_worths a0_bestGain_34 a0_bestTakers_35 a0_bestFrom_36 a0_from_37 a1_count a1_held a1_known a1_worths)) rfl (fun H locs hP hD hS => ?_)
                refine lv_if_eq (tgt := 118) hx hb dX3_give_62 (by decide) (fun c44 => ?_) (fun c44 => ?_)
                · replace h := nh_t h c44
                  obtain ⟨x5_45, ex5_45⟩ : ∃ y : Int32, y = x5_33 + 1 := ⟨_, rfl⟩
                  replace h := nh_to h ex5_45
                  refine lv_iinc (v := x5_45) (lv' := [(5, .int x5_45), (6, .int t0_38), (0, .ref q_a0), (1, .ref q_a1), (2, .int i2), (3, .int i3), (4, .int i4)]) hx hb dX3_give_118 hl (k := 6) rfl (by rw [ex5_45]; rfl) (by decide) rfl (fun ls hl => ?_)
                  refine lv_goto (tgt := 19) hx hb dX3_give_121 (by decide) ?_
                  exact ih19 x5_45 a0_bestGain_34 a0_bestTakers_35 a0_bestFrom_36 a0_from_37 H locs ls hP hD hS (lv_sub hl [2, 3, 4, 5, 6, 0] rfl) h
                · replace h := nh_f h c44
                  exact J65 x5_33 t0_38 a0_bestGain_34 a0_bestTakers_35 a0_bestFrom_36 a0_from_37 H locs ls hP hD hS (lv_sub hl [1, 2, 3, 4, 5, 6, 0] rfl) h
          refine lv_iload hx hb dX3_give_19 (lv_at hl 5 rfl) ?_
          refine lv_aload_n hx hb dX3_give_21 rfl (lv_at hl 1 rfl) ?_
          refine va_get (D := D) (ci := 1) (v := .int a1_count) (C := RX1) (T := TX1) (N := 4) hx hb hts nhu_X1 hown hK hP 3 rfl rfl 0 (by decide) (hts _ nhw_268) (fun _ h9 => h9) rfl dX3_give_22 ?_
          refine lv_icmp_ge (tgt := 124) hx hb dX3_give_25 (by decide) (fun c46 => ?_) (fun c46 => ?_)
          · replace h := nh_t h c46
            exact hk19 x5_2 a0_bestGain_3 a0_bestTakers_4 a0_bestFrom_5 a0_from_6 H locs ls hP hD hS (lv_sub hl [0, 1, 2, 3, 4, 5] rfl) h
          · replace h := nh_f h c46
            refine lv_iload_n hx hb dX3_give_28 rfl (lv_at hl 3 rfl) ?_
            refine lv_iconst (v := 1) hx hb dX3_give_29 (by decide) ?_
            refine lv_iload hx hb dX3_give_30 (lv_at hl 5 rfl) ?_
            refine lv_ishl hx hb dX3_give_32 ?_
            refine lv_iand hx hb dX3_give_33 ?_
            refine lv_if_ne (tgt := 41) hx hb dX3_give_34 (by decide) (fun c47 => ?_) (fun c47 => ?_)
            · replace h := nh_f h c47
              refine lv_iconst (v := 0) hx hb dX3_give_41 (by decide) ?_
              exact J42 x5_2 a0_bestGain_3 a0_bestTakers_4 a0_bestFrom_5 a0_from_6 0 H locs ls hP hD hS (lv_sub hl [0, 1, 2, 3, 4, 5] rfl) h
            · replace h := nh_t h c47
              refine lv_iconst (v := 1) hx hb dX3_give_37 (by decide) ?_
              refine lv_goto (tgt := 42) hx hb dX3_give_38 (by decide) ?_
              exact J42 x5_2 a0_bestGain_3 a0_bestTakers_4 a0_bestFrom_5 a0_from_6 1 H locs ls hP hD hS (lv_sub hl [0, 1, 2, 3, 4, 5] rfl) h
      refine L19 _ (fun x5_7 a0_bestGain_8 a0_bestTakers_9 a0_bestFrom_10 a0_from_11 H locs ls hP hD hS hl h => ?_) _ 0 a0_bestGain a0_bestTakers a0_bestFrom a0_from H locs ls hP hD hS (lv_sub hl [1, 2, 3, 4, 5, 0] rfl) h
      obtain ⟨g0, g1, g2, g3⟩ := nh_i4 h
      exact nh_rv hx hb hr hlocks (by rw [← g0, ← g1, ← g2, ← g3]; exact hP) hS dX3_give_124
    · replace h := nh_f h c1
      refine lv_aload_n hx hb dX3_give_8 rfl (lv_at hl 0 rfl) ?_
      refine lv_aload_n hx hb dX3_give_9 rfl (lv_at hl 1 rfl) ?_
      refine lv_iload hx hb dX3_give_10 (lv_at hl 4 rfl) ?_
      obtain ⟨a0_bestGain_48, a0_bestTakers_49, a0_bestFrom_50, hc51, h⟩ := nh_b3_some h
      refine nh_gov (nh_V (As := [.ref q_a1, .int i4]) (rest := []) ⟨hx, hb, hml, hown, hts⟩ (kX3_compare F l D cI cZ cO H.size q_a0 q_a1 q_a0_bestFrom q_a0_from q_a1_held q_a1_known q_a1_worths a0_bestGain a0_bestTakers a0_bestFrom a0_from a1_count i4 a0_bestGain_48 a0_bestTakers_49 a0_bestFrom_50 hc51) (cwV 2 hts (nh_gV nhw_625 nhw_430 nhw_782 nhw_307 nhw_144) rfl rfl rfl (by decide +kernel) ⟨by show 2 + 1 ≤ 3 + (d + 1); omega, by show 8 + (5 + 11) + 64 * 2 ≤ 64 * (3 + (d + 1)); omega⟩) hK hN hP hD (isC := [0, 1, 2, 3]) rfl rfl 0 2 rfl rfl rfl rfl hl.1 rfl (Nat.le_of_ble_eq_true rfl) dX3_give_12 ⟨Nat.zero_le _, Nat.zero_le _⟩) hP hD hS hA (isC := [0, 1, 2, 3]) rfl rfl rfl (w' := (wlX3_give cI cZ cO q_a0 q_a1 q_a0_bestFrom q_a0_from q_a1_held q_a1_known q_a1_worths a0_bestGain_48 a0_bestTakers_49 a0_bestFrom_50 a0_from a1_count a1_held a1_known a1_worths)) rfl (fun H locs hP hD hS => ?_)
      obtain ⟨g0, g1, g2, g3⟩ := nh_i4 h
      exact nh_rv hx hb hr hlocks (by rw [← g0, ← g1, ← g2, ← g3]; exact hP) hS dX3_give_15
abbrev wlX3_choose (cI cZ cO : ClassId) (q_t q_a1 q_t_bestFrom q_t_from q_a1_held q_a1_known q_a1_worths : Nat) (t_bestGain : Int32) (t_bestTakers : Int32) (t_bestFrom : Nat → Int32) (t_from : Nat → Int32) (a1_count : Int32) (a1_held : Nat → Int32) (a1_known : Nat → Int32) (a1_worths : Nat → Int32) : va_W := [(q_t, .inr (2, [.int t_bestGain, .ref q_t_bestFrom, .int t_bestTakers, .ref q_t_from])), (q_t_bestFrom, .inl (cI, 4, .inl t_bestFrom)), (q_t_from, .inl (cI, 4, .inl t_from)), (q_a1, .inr (1, [.int a1_count, .ref q_a1_held, .ref q_a1_known, .ref q_a1_worths])), (q_a1_held, .inl (cI, 4, .inl a1_held)), (q_a1_known, .inl (cI, 4, .inl a1_known)), (q_a1_worths, .inl (cI, 24, .inl a1_worths))]
def fX3_choose (F : Nat) (t_bestGain : Int32) (t_bestTakers : Int32) (t_bestFrom : Nat → Int32) (t_from : Nat → Int32) (a1_count : Int32) (a1_held : Nat → Int32) (a1_known : Nat → Int32) (a1_worths : Nat → Int32) : Option (Int32 × Int32 × (Nat → Int32) × (Nat → Int32)) :=
  nh_b4 (fX3_give F 20 (-9) 0 t_bestFrom t_from a1_count a1_held a1_known a1_worths 0 0 0) (fun t_bestGain_1 t_bestTakers_2 t_bestFrom_3 t_from_4 => some (t_bestGain_1, t_bestTakers_2, t_bestFrom_3, t_from_4))
set_option maxHeartbeats 4000000 in
set_option maxRecDepth 100000 in
theorem kX3_choose (F : Nat) (l : Launch) (D : va_G) (cI cZ cO : ClassId) (sz : Nat) (q_t q_a1 q_t_bestFrom q_t_from q_a1_held q_a1_known q_a1_worths : Nat) (t_bestGain : Int32) (t_bestTakers : Int32) (t_bestFrom : Nat → Int32) (t_from : Nat → Int32) (a1_count : Int32) (a1_held : Nat → Int32) (a1_known : Nat → Int32) (a1_worths : Nat → Int32)  (o_t_bestGain : Int32) (o_t_bestTakers : Int32) (o_t_bestFrom : Nat → Int32) (o_t_from : Nat → Int32) (h : fX3_choose F t_bestGain t_bestTakers t_bestFrom t_from a1_count a1_held a1_known a1_worths = some (o_t_bestGain, o_t_bestTakers, o_t_bestFrom, o_t_from)) : Met l yX3_choose (nh_w (.code yX3_choose cX3_choose 2 none)) (nh_rm 24) (nh_Pc D cI cZ cO (wlX3_choose cI cZ cO q_t q_a1 q_t_bestFrom q_t_from q_a1_held q_a1_known q_a1_worths t_bestGain t_bestTakers t_bestFrom t_from a1_count a1_held a1_known a1_worths) [.ref q_t, .ref q_a1] sz) ((nh_Qv D (wlX3_choose cI cZ cO q_t q_a1 q_t_bestFrom q_t_from q_a1_held q_a1_known q_a1_worths o_t_bestGain o_t_bestTakers o_t_bestFrom o_t_from a1_count a1_held a1_known a1_worths)) (va_A (wlX3_choose cI cZ cO q_t q_a1 q_t_bestFrom q_t_from q_a1_held q_a1_known q_a1_worths t_bestGain t_bestTakers t_bestFrom t_from a1_count a1_held a1_known a1_worths) sz)) 0 0 (va_A (wlX3_choose cI cZ cO q_t q_a1 q_t_bestFrom q_t_from q_a1_held q_a1_known q_a1_worths t_bestGain t_bestTakers t_bestFrom t_from a1_count a1_held a1_known a1_worths) sz) := by
  unfold fX3_choose at h
  refine nh_met (cc := cX3_choose) (maxL := 2) (ret := none) (nh_Qv D (wlX3_choose cI cZ cO q_t q_a1 q_t_bestFrom q_t_from q_a1_held q_a1_known q_a1_worths o_t_bestGain o_t_bestTakers o_t_bestFrom o_t_from a1_count a1_held a1_known a1_worths)) (by decide) rfl (Nat.le_of_ble_eq_true rfl) ?_
  intro p e s m args below meth c A H locs ls hx hb hml hr hown hts hlocks hinit hP hK hN hD hA hS hl
  have hl : lv_has ls 2 [(0, .ref q_t), (1, .ref q_a1)] := hl
  have hts : ∀ w ∈ nh_words, w.before args s = true := fun w h => hts w (List.mem_cons_of_mem _ h)
  refine lv_aload_n hx hb dX3_choose_0 rfl (lv_at hl 0 rfl) ?_
  refine lv_bipush (v := (-9)) hx hb dX3_choose_1 (by decide) ?_
  refine va_put (D := D) (ci := 2) (v := .int (-9)) (ty := .int) (C := RX3) (T := TX3) (N := 4) hx hb hts nhu_X3 tyX3 tyX3_ok nmX3 hown hK hP hD hS 0 rfl rfl 0 (by decide) (hts _ nhw_266) (fun _ h9 => h9) rfl (by decide +kernel) rfl rfl (Nat.le_of_ble_eq_true rfl) dX3_choose_3 (fun H locs hP hD hS => ?_)
  have hP : va_P D vwCl (wlX3_choose cI cZ cO q_t q_a1 q_t_bestFrom q_t_from q_a1_held q_a1_known q_a1_worths (-9) t_bestTakers t_bestFrom t_from a1_count a1_held a1_known a1_worths) H := hP
  have hD : va_D A (wlX3_choose cI cZ cO q_t q_a1 q_t_bestFrom q_t_from q_a1_held q_a1_known q_a1_worths (-9) t_bestTakers t_bestFrom t_from a1_count a1_held a1_known a1_worths) := hD
  refine lv_aload_n hx hb dX3_choose_6 rfl (lv_at hl 0 rfl) ?_
  refine lv_iconst (v := 0) hx hb dX3_choose_7 (by decide) ?_
  refine va_put (D := D) (ci := 2) (v := .int 0) (ty := .int) (C := RX3) (T := TX3) (N := 4) hx hb hts nhu_X3 tyX3 tyX3_ok nmX3 hown hK hP hD hS 0 rfl rfl 2 (by decide) (hts _ nhw_267) (fun _ h9 => h9) rfl (by decide +kernel) rfl rfl (Nat.le_of_ble_eq_true rfl) dX3_choose_8 (fun H locs hP hD hS => ?_)
  have hP : va_P D vwCl (wlX3_choose cI cZ cO q_t q_a1 q_t_bestFrom q_t_from q_a1_held q_a1_known q_a1_worths (-9) 0 t_bestFrom t_from a1_count a1_held a1_known a1_worths) H := hP
  have hD : va_D A (wlX3_choose cI cZ cO q_t q_a1 q_t_bestFrom q_t_from q_a1_held q_a1_known q_a1_worths (-9) 0 t_bestFrom t_from a1_count a1_held a1_known a1_worths) := hD
  refine lv_aload_n hx hb dX3_choose_11 rfl (lv_at hl 0 rfl) ?_
  refine lv_aload_n hx hb dX3_choose_12 rfl (lv_at hl 1 rfl) ?_
  refine lv_iconst (v := 0) hx hb dX3_choose_13 (by decide) ?_
  refine lv_iconst (v := 0) hx hb dX3_choose_14 (by decide) ?_
  refine lv_iconst (v := 0) hx hb dX3_choose_15 (by decide) ?_
  obtain ⟨t_bestGain_1, t_bestTakers_2, t_bestFrom_3, t_from_4, hc5, h⟩ := nh_b4_some h
  refine nh_gov (nh_S (As := [.ref q_t, .ref q_a1, .int 0, .int 0, .int 0]) (rest := []) ⟨hx, hb, hml, hown, hts⟩ (kX3_give F 20 l D cI cZ cO H.size q_t q_a1 q_t_bestFrom q_t_from q_a1_held q_a1_known q_a1_worths (-9) 0 t_bestFrom t_from a1_count a1_held a1_known a1_worths 0 0 0 t_bestGain_1 t_bestTakers_2 t_bestFrom_3 t_from_4 hc5) (va_cwS 5 hts (nh_gS nhw_623 nhw_816 nhw_307 nhw_145) rfl rfl rfl (by decide +kernel) ⟨Nat.le_of_ble_eq_true rfl, Nat.le_of_ble_eq_true rfl⟩) hK hN hP hD (isC := [0, 1, 2, 3, 4, 5, 6]) rfl rfl rfl hl.1 rfl (Nat.le_of_ble_eq_true rfl) dX3_choose_16 ⟨Nat.zero_le _, Nat.zero_le _⟩) hP hD hS hA (isC := [0, 1, 2, 3, 4, 5, 6]) rfl rfl rfl (w' := (wlX3_choose cI cZ cO q_t q_a1 q_t_bestFrom q_t_from q_a1_held q_a1_known q_a1_worths t_bestGain_1 t_bestTakers_2 t_bestFrom_3 t_from_4 a1_count a1_held a1_known a1_worths)) rfl (fun H locs hP hD hS => ?_)
  obtain ⟨g0, g1, g2, g3⟩ := nh_i4 h
  exact nh_rv hx hb hr hlocks (by rw [← g0, ← g1, ← g2, ← g3]; exact hP) hS dX3_choose_19
