abbrev wlX4_noteEnd (cI cZ cO : ClassId) (q_t : Nat) (t_most : Int32) (t_least : Int32) (t_number : Int32) : va_W := [(q_t, .inr (3, [.int t_most, .int t_least, .int t_number]))]
def fX4_noteEnd (t_most : Int32) (t_least : Int32) (t_number : Int32) (i1 : Int32) : Option (Int32 × Int32 × Int32) :=
  nh_let (α := Int32) ((if t_most < i1 then i1 else t_most)) (fun y_1 => nh_let (α := Int32) ((if i1 < t_least then i1 else t_least)) (fun y_2 => nh_let (α := Int32) ((t_number + 1)) (fun y_3 => some (y_1, y_2, y_3))))
set_option maxHeartbeats 4000000 in
set_option maxRecDepth 100000 in
theorem kX4_noteEnd (l : Launch) (D : va_G) (cI cZ cO : ClassId) (sz : Nat) (q_t : Nat) (t_most : Int32) (t_least : Int32) (t_number : Int32) (i1 : Int32) (o_t_most : Int32) (o_t_least : Int32) (o_t_number : Int32) (h : fX4_noteEnd t_most t_least t_number i1 = some (o_t_most, o_t_least, o_t_number)) : Met l yX4_noteEnd (nh_w (.code yX4_noteEnd cX4_noteEnd 2 none)) (nh_rm 2) (nh_Pc D cI cZ cO (wlX4_noteEnd cI cZ cO q_t t_most t_least t_number) [.ref q_t, .int i1] sz) ((nh_Qv D (wlX4_noteEnd cI cZ cO q_t o_t_most o_t_least o_t_number)) (va_A (wlX4_noteEnd cI cZ cO q_t t_most t_least t_number) sz)) 0 0 (va_A (wlX4_noteEnd cI cZ cO q_t t_most t_least t_number) sz) := by
  unfold fX4_noteEnd at h
  refine nh_met (cc := cX4_noteEnd) (maxL := 2) (ret := none) (nh_Qv D (wlX4_noteEnd cI cZ cO q_t o_t_most o_t_least o_t_number)) (by decide) rfl (Nat.le_of_ble_eq_true rfl) ?_
  intro p e s m args below meth c A H locs ls hx hb hml hr hown hts hlocks hinit hP hK hN hD hA hS hl
  have hl : lv_has ls 2 [(0, .ref q_t), (1, .int i1)] := hl
  have hts : ∀ w ∈ nh_words, w.before args s = true := fun w h => hts w (List.mem_cons_of_mem _ h)
  refine lv_aload_n hx hb dX4_noteEnd_0 rfl (lv_at hl 0 rfl) ?_
  refine lv_aload_n hx hb dX4_noteEnd_1 rfl (lv_at hl 0 rfl) ?_
  refine va_get (D := D) (ci := 3) (v := .int t_most) (C := RX4) (T := TX4) (N := 3) hx hb hts nhu_X4 hown hK hP 0 rfl rfl 0 (by decide) (hts _ nhw_274) (fun _ h9 => h9) rfl dX4_noteEnd_2 ?_
  refine lv_iload_n hx hb dX4_noteEnd_5 rfl (lv_at hl 1 rfl) ?_
  refine va_mmax hx hb (hml.trans hl.1.symm) hown (hts _ nhw_636) (hts _ nhw_800) (hts _ nhw_299) (hts _ nhw_13) (Nat.le_of_ble_eq_true rfl) (Nat.le_of_ble_eq_true rfl) (Nat.zero_le _) (Nat.zero_le _) dX4_noteEnd_6 ?_
  refine lv_topi (fun y_1 ey_1 => ?_)
  replace h := nh_to h ey_1
  refine va_put (D := D) (ci := 3) (v := .int y_1) (ty := .int) (C := RX4) (T := TX4) (N := 3) hx hb hts nhu_X4 tyX4 tyX4_ok nmX4 hown hK hP hD hS 0 rfl rfl 0 (by decide) (hts _ nhw_274) (fun _ h9 => h9) rfl (by decide +kernel) rfl rfl (Nat.le_of_ble_eq_true rfl) dX4_noteEnd_9 (fun H locs hP hD hS => ?_)
  have hP : va_P D vwCl (wlX4_noteEnd cI cZ cO q_t y_1 t_least t_number) H := hP
  have hD : va_D A (wlX4_noteEnd cI cZ cO q_t y_1 t_least t_number) := hD
  refine lv_aload_n hx hb dX4_noteEnd_12 rfl (lv_at hl 0 rfl) ?_
  refine lv_aload_n hx hb dX4_noteEnd_13 rfl (lv_at hl 0 rfl) ?_
  refine va_get (D := D) (ci := 3) (v := .int t_least) (C := RX4) (T := TX4) (N := 3) hx hb hts nhu_X4 hown hK hP 0 rfl rfl 1 (by decide) (hts _ nhw_271) (fun _ h9 => h9) rfl dX4_noteEnd_14 ?_
  refine lv_iload_n hx hb dX4_noteEnd_17 rfl (lv_at hl 1 rfl) ?_
  refine va_mmin hx hb (hml.trans hl.1.symm) hown (hts _ nhw_637) (hts _ nhw_801) (hts _ nhw_299) (hts _ nhw_14) (Nat.le_of_ble_eq_true rfl) (Nat.le_of_ble_eq_true rfl) (Nat.zero_le _) (Nat.zero_le _) dX4_noteEnd_18 ?_
  refine lv_topi (fun y_2 ey_2 => ?_)
  replace h := nh_to h ey_2
  refine va_put (D := D) (ci := 3) (v := .int y_2) (ty := .int) (C := RX4) (T := TX4) (N := 3) hx hb hts nhu_X4 tyX4 tyX4_ok nmX4 hown hK hP hD hS 0 rfl rfl 1 (by decide) (hts _ nhw_271) (fun _ h9 => h9) rfl (by decide +kernel) rfl rfl (Nat.le_of_ble_eq_true rfl) dX4_noteEnd_21 (fun H locs hP hD hS => ?_)
  have hP : va_P D vwCl (wlX4_noteEnd cI cZ cO q_t y_1 y_2 t_number) H := hP
  have hD : va_D A (wlX4_noteEnd cI cZ cO q_t y_1 y_2 t_number) := hD
  refine lv_aload_n hx hb dX4_noteEnd_24 rfl (lv_at hl 0 rfl) ?_
  refine lv_dup hx hb dX4_noteEnd_25 rfl ?_
  refine va_get (D := D) (ci := 3) (v := .int t_number) (C := RX4) (T := TX4) (N := 3) hx hb hts nhu_X4 hown hK hP 0 rfl rfl 2 (by decide) (hts _ nhw_272) (fun _ h9 => h9) rfl dX4_noteEnd_26 ?_
  refine lv_iconst (v := 1) hx hb dX4_noteEnd_29 (by decide) ?_
  refine lv_iadd hx hb dX4_noteEnd_30 ?_
  refine lv_topi (fun y_3 ey_3 => ?_)
  replace h := nh_to h ey_3
  refine va_put (D := D) (ci := 3) (v := .int y_3) (ty := .int) (C := RX4) (T := TX4) (N := 3) hx hb hts nhu_X4 tyX4 tyX4_ok nmX4 hown hK hP hD hS 0 rfl rfl 2 (by decide) (hts _ nhw_272) (fun _ h9 => h9) rfl (by decide +kernel) rfl rfl (Nat.le_of_ble_eq_true rfl) dX4_noteEnd_31 (fun H locs hP hD hS => ?_)
  have hP : va_P D vwCl (wlX4_noteEnd cI cZ cO q_t y_1 y_2 y_3) H := hP
  have hD : va_D A (wlX4_noteEnd cI cZ cO q_t y_1 y_2 y_3) := hD
  obtain ⟨g0, g1, g2⟩ := nh_i3 h
  exact nh_rv hx hb hr hlocks (by rw [← g0, ← g1, ← g2]; exact hP) hS dX4_noteEnd_34
abbrev wlX4_walk (cI cZ cO : ClassId) (q_a0 q_a1 q_a1_held q_a1_known q_a1_worths : Nat) (a0_most : Int32) (a0_least : Int32) (a0_number : Int32) (a1_count : Int32) (a1_held : Nat → Int32) (a1_known : Nat → Int32) : va_W := [(q_a0, .inr (3, [.int a0_most, .int a0_least, .int a0_number])), (q_a1, .inr (1, [.int a1_count, .ref q_a1_held, .ref q_a1_known, .ref q_a1_worths])), (q_a1_held, .inl (cI, 4, .inl a1_held)), (q_a1_known, .inl (cI, 4, .inl a1_known))]
def fX4_walk_B20 (a1_count : Int32) (i2 : Int32) (rc : Int32 → Int32 → Int32 → Int32 → (Nat → Int32) → (Nat → Int32) → Int32 → Option (Int32 × Int32 × Int32 × (Nat → Int32) × (Nat → Int32))) (x4_2 : Int32) (k20 : Int32 → Int32 → Int32 → Int32 → Int32 → (Nat → Int32) → (Nat → Int32) → Option (Int32 × Int32 × Int32 × (Nat → Int32) × (Nat → Int32))) (r20 : Int32 → Int32 → Int32 → Int32 → Int32 → (Nat → Int32) → (Nat → Int32) → Option (Int32 × Int32 × Int32 × (Nat → Int32) × (Nat → Int32))) (x3_17 : Int32) (x5_18 : Int32) (a0_most_19 : Int32) (a0_least_20 : Int32) (a0_number_21 : Int32) (a1_held_22 : Nat → Int32) (a1_known_23 : Nat → Int32) : Option (Int32 × Int32 × Int32 × (Nat → Int32) × (Nat → Int32)) :=
  (if a1_count ≤ x5_18 then k20 x3_17 x5_18 a0_most_19 a0_least_20 a0_number_21 a1_held_22 a1_known_23
 else (if 12 ≤ i2 then nh_let (α := Int32) (x5_18 + 1) (fun x5_33 => r20 x3_17 x5_33 a0_most_19 a0_least_20 a0_number_21 a1_held_22 a1_known_23)
 else nh_b1 (fX1_canSwap a1_count a1_held_22 a1_known_23 x4_2 x5_18) (fun r_34 => (if r_34 = 0 then nh_let (α := Int32) (x5_18 + 1) (fun x5_37 => r20 x3_17 x5_37 a0_most_19 a0_least_20 a0_number_21 a1_held_22 a1_known_23)
 else nh_b2 (fX1_swap a1_count a1_held_22 a1_known_23 x4_2 x5_18) (fun a1_held_38 a1_known_39 => nh_b5 (rc a0_most_19 a0_least_20 a0_number_21 a1_count a1_held_38 a1_known_39 (i2 + 1)) (fun a0_most_41 a0_least_42 a0_number_43 a1_held_44 a1_known_45 => nh_b2 (fX1_swapBack a1_count a1_held_44 a1_known_45 x4_2 x5_18) (fun a1_held_47 a1_known_48 => nh_let (α := Int32) (x5_18 + 1) (fun x5_50 => r20 0 x5_50 a0_most_41 a0_least_42 a0_number_43 a1_held_47 a1_known_48))))))))
def fX4_walk_L20 (a1_count : Int32) (i2 : Int32) (rc : Int32 → Int32 → Int32 → Int32 → (Nat → Int32) → (Nat → Int32) → Int32 → Option (Int32 × Int32 × Int32 × (Nat → Int32) × (Nat → Int32))) (x4_2 : Int32) (k20 : Int32 → Int32 → Int32 → Int32 → Int32 → (Nat → Int32) → (Nat → Int32) → Option (Int32 × Int32 × Int32 × (Nat → Int32) × (Nat → Int32))) : Nat → Int32 → Int32 → Int32 → Int32 → Int32 → (Nat → Int32) → (Nat → Int32) → Option (Int32 × Int32 × Int32 × (Nat → Int32) × (Nat → Int32))
  | 0 => fun _ _ _ _ _ _ _ => none
  | n + 1 => fX4_walk_B20 a1_count i2 rc x4_2 k20 (fX4_walk_L20 a1_count i2 rc x4_2 k20 n)
def fX4_walk_B5 (a1_count : Int32) (i2 : Int32) (rc : Int32 → Int32 → Int32 → Int32 → (Nat → Int32) → (Nat → Int32) → Int32 → Option (Int32 × Int32 × Int32 × (Nat → Int32) × (Nat → Int32))) (F : Nat) (k5 : Int32 → Int32 → Int32 → Int32 → Int32 → (Nat → Int32) → (Nat → Int32) → Option (Int32 × Int32 × Int32 × (Nat → Int32) × (Nat → Int32))) (r5 : Int32 → Int32 → Int32 → Int32 → Int32 → (Nat → Int32) → (Nat → Int32) → Option (Int32 × Int32 × Int32 × (Nat → Int32) × (Nat → Int32))) (x3_1 : Int32) (x4_2 : Int32) (a0_most_3 : Int32) (a0_least_4 : Int32) (a0_number_5 : Int32) (a1_held_6 : Nat → Int32) (a1_known_7 : Nat → Int32) : Option (Int32 × Int32 × Int32 × (Nat → Int32) × (Nat → Int32)) :=
  (if a1_count ≤ x4_2 then k5 x3_1 x4_2 a0_most_3 a0_least_4 a0_number_5 a1_held_6 a1_known_7
 else nh_let (α := Int32) ((x4_2 + 1)) (fun y_16 => fX4_walk_L20 a1_count i2 rc x4_2 (fun x3_24 x5_25 a0_most_26 a0_least_27 a0_number_28 a1_held_29 a1_known_30 => nh_let (α := Int32) (x4_2 + 1) (fun x4_51 => r5 x3_24 x4_51 a0_most_26 a0_least_27 a0_number_28 a1_held_29 a1_known_30)) F x3_1 y_16 a0_most_3 a0_least_4 a0_number_5 a1_held_6 a1_known_7))
def fX4_walk_L5 (a1_count : Int32) (i2 : Int32) (rc : Int32 → Int32 → Int32 → Int32 → (Nat → Int32) → (Nat → Int32) → Int32 → Option (Int32 × Int32 × Int32 × (Nat → Int32) × (Nat → Int32))) (F : Nat) (k5 : Int32 → Int32 → Int32 → Int32 → Int32 → (Nat → Int32) → (Nat → Int32) → Option (Int32 × Int32 × Int32 × (Nat → Int32) × (Nat → Int32))) : Nat → Int32 → Int32 → Int32 → Int32 → Int32 → (Nat → Int32) → (Nat → Int32) → Option (Int32 × Int32 × Int32 × (Nat → Int32) × (Nat → Int32))
  | 0 => fun _ _ _ _ _ _ _ => none
  | n + 1 => fX4_walk_B5 a1_count i2 rc F k5 (fX4_walk_L5 a1_count i2 rc F k5 n)
def fX4_walk_R (F : Nat) (rc : Int32 → Int32 → Int32 → Int32 → (Nat → Int32) → (Nat → Int32) → Int32 → Option (Int32 × Int32 × Int32 × (Nat → Int32) × (Nat → Int32))) (a0_most : Int32) (a0_least : Int32) (a0_number : Int32) (a1_count : Int32) (a1_held : Nat → Int32) (a1_known : Nat → Int32) (i2 : Int32) : Option (Int32 × Int32 × Int32 × (Nat → Int32) × (Nat → Int32)) :=
  fX4_walk_L5 a1_count i2 rc F (fun x3_8 x4_9 a0_most_10 a0_least_11 a0_number_12 a1_held_13 a1_known_14 => (if x3_8 = 0 then some (a0_most_10, a0_least_11, a0_number_12, a1_held_13, a1_known_14)
 else nh_b3 (fX4_noteEnd a0_most_10 a0_least_11 a0_number_12 i2) (fun a0_most_53 a0_least_54 a0_number_55 => some (a0_most_53, a0_least_54, a0_number_55, a1_held_13, a1_known_14)))) F 1 0 a0_most a0_least a0_number a1_held a1_known
def fX4_walk (F : Nat) : Nat → Int32 → Int32 → Int32 → Int32 → (Nat → Int32) → (Nat → Int32) → Int32 → Option (Int32 × Int32 × Int32 × (Nat → Int32) × (Nat → Int32))
  | 0 => fun _ _ _ _ _ _ _ => none
  | d + 1 => fX4_walk_R F (fX4_walk F d)
set_option maxHeartbeats 4000000 in
set_option maxRecDepth 100000 in
theorem kX4_walk (F : Nat) (d : Nat) (l : Launch) (D : va_G) (cI cZ cO : ClassId) : ∀ (sz : Nat) (q_a0 q_a1 q_a1_held q_a1_known q_a1_worths : Nat) (a0_most : Int32) (a0_least : Int32) (a0_number : Int32) (a1_count : Int32) (a1_held : Nat → Int32) (a1_known : Nat → Int32) (i2 : Int32) (o_a0_most : Int32) (o_a0_least : Int32) (o_a0_number : Int32) (o_a1_held : Nat → Int32) (o_a1_known : Nat → Int32), fX4_walk F d a0_most a0_least a0_number a1_count a1_held a1_known i2 = some (o_a0_most, o_a0_least, o_a0_number, o_a1_held, o_a1_known) → Met l yX4_walk (nh_w (.code yX4_walk cX4_walk 6 none)) (nh_rm (3 + d)) (nh_Pc D cI cZ cO (wlX4_walk cI cZ cO q_a0 q_a1 q_a1_held q_a1_known q_a1_worths a0_most a0_least a0_number a1_count a1_held a1_known) [.ref q_a0, .ref q_a1, .int i2] sz) ((nh_Qv D (wlX4_walk cI cZ cO q_a0 q_a1 q_a1_held q_a1_known q_a1_worths o_a0_most o_a0_least o_a0_number a1_count o_a1_held o_a1_known)) (va_A (wlX4_walk cI cZ cO q_a0 q_a1 q_a1_held q_a1_known q_a1_worths a0_most a0_least a0_number a1_count a1_held a1_known) sz)) 0 0 (va_A (wlX4_walk cI cZ cO q_a0 q_a1 q_a1_held q_a1_known q_a1_worths a0_most a0_least a0_number a1_count a1_held a1_known) sz) := by
  induction d with
  | zero => intro sz q_a0 q_a1 q_a1_held q_a1_known q_a1_worths a0_most a0_least a0_number a1_count a1_held a1_known i2 o_a0_most o_a0_least o_a0_number o_a1_held o_a1_known h; exact (nh_none h).elim
  | succ d ihd =>
    intro sz q_a0 q_a1 q_a1_held q_a1_known q_a1_worths a0_most a0_least a0_number a1_count a1_held a1_known i2 o_a0_most o_a0_least o_a0_number o_a1_held o_a1_known h
    replace h : fX4_walk_R F (fX4_walk F d) a0_most a0_least a0_number a1_count a1_held a1_known i2 = some (o_a0_most, o_a0_least, o_a0_number, o_a1_held, o_a1_known) := h
    unfold fX4_walk_R at h
    refine nh_met (cc := cX4_walk) (maxL := 6) (ret := none) (nh_Qv D (wlX4_walk cI cZ cO q_a0 q_a1 q_a1_held q_a1_known q_a1_worths o_a0_most o_a0_least o_a0_number a1_count o_a1_held o_a1_known)) (by decide) rfl (Nat.le_of_ble_eq_true rfl) ?_
    intro p e s m args below meth c A H locs ls hx hb hml hr hown hts hlocks hinit hP hK hN hD hA hS hl
    have hl : lv_has ls 6 [(0, .ref q_a0), (1, .ref q_a1), (2, .int i2)] := hl
    have hts : ∀ w ∈ nh_words, w.before args s = true := fun w h => hts w (List.mem_cons_of_mem _ h)
    refine lv_iconst (v := 1) hx hb dX4_walk_0 (by decide) ?_
    refine lv_istore_n (lv' := [(3, .int 1), (0, .ref q_a0), (1, .ref q_a1), (2, .int i2)]) hx hb dX4_walk_1 rfl hl (by decide) rfl (fun ls hl => ?_)
    refine lv_iconst (v := 0) hx hb dX4_walk_2 (by decide) ?_
    refine lv_istore (lv' := [(4, .int 0), (3, .int 1), (0, .ref q_a0), (1, .ref q_a1), (2, .int i2)]) hx hb dX4_walk_3 hl (by decide) rfl (fun ls hl => ?_)
    have L5 : ∀ (k5 : Int32 → Int32 → Int32 → Int32 → Int32 → (Nat → Int32) → (Nat → Int32) → Option (Int32 × Int32 × Int32 × (Nat → Int32) × (Nat → Int32))), (∀ (x3_8 : Int32) (x4_9 : Int32) (a0_most_10 : Int32) (a0_least_11 : Int32) (a0_number_12 : Int32) (a1_held_13 : Nat → Int32) (a1_known_14 : Nat → Int32) (H : Heap) (locs : List Loc) (ls : Array Slot), va_P D vwCl (wlX4_walk cI cZ cO q_a0 q_a1 q_a1_held q_a1_known q_a1_worths a0_most_10 a0_least_11 a0_number_12 a1_count a1_held_13 a1_known_14) H → va_D A (wlX4_walk cI cZ cO q_a0 q_a1 q_a1_held q_a1_known q_a1_worths a0_most_10 a0_least_11 a0_number_12 a1_count a1_held_13 a1_known_14) → va_S A s.heap H locs → lv_has ls 6 [(0, .ref q_a0), (1, .ref q_a1), (2, .int i2), (3, .int x3_8), (4, .int x4_9)] → k5 x3_8 x4_9 a0_most_10 a0_least_11 a0_number_12 a1_held_13 a1_known_14 = some (o_a0_most, o_a0_least, o_a0_number, o_a1_held, o_a1_known) → W p l e (nh_rm (3 + (d + 1))) s m args below meth c H locs 0 0 (MQ below ((nh_Qv D (wlX4_walk cI cZ cO q_a0 q_a1 q_a1_held q_a1_known q_a1_worths o_a0_most o_a0_least o_a0_number a1_count o_a1_held o_a1_known)) A) args s 0 0 A) (F0 m 84 ls [])) → ∀ (n : Nat) (x3_1 : Int32) (x4_2 : Int32) (a0_most_3 : Int32) (a0_least_4 : Int32) (a0_number_5 : Int32) (a1_held_6 : Nat → Int32) (a1_known_7 : Nat → Int32) (H : Heap) (locs : List Loc) (ls : Array Slot), va_P D vwCl (wlX4_walk cI cZ cO q_a0 q_a1 q_a1_held q_a1_known q_a1_worths a0_most_3 a0_least_4 a0_number_5 a1_count a1_held_6 a1_known_7) H → va_D A (wlX4_walk cI cZ cO q_a0 q_a1 q_a1_held q_a1_known q_a1_worths a0_most_3 a0_least_4 a0_number_5 a1_count a1_held_6 a1_known_7) → va_S A s.heap H locs → lv_has ls 6 [(0, .ref q_a0), (1, .ref q_a1), (2, .int i2), (3, .int x3_1), (4, .int x4_2)] → fX4_walk_L5 a1_count i2 (fX4_walk F d) F k5 n x3_1 x4_2 a0_most_3 a0_least_4 a0_number_5 a1_held_6 a1_known_7 = some (o_a0_most, o_a0_least, o_a0_number, o_a1_held, o_a1_known) → W p l e (nh_rm (3 + (d + 1))) s m args below meth c H locs 0 0 (MQ below ((nh_Qv D (wlX4_walk cI cZ cO q_a0 q_a1 q_a1_held q_a1_known q_a1_worths o_a0_most o_a0_least o_a0_number a1_count o_a1_held o_a1_known)) A) args s 0 0 A) (F0 m 5 ls []) := by
      intro k5 hk5 n
      induction n with
      | zero => intro x3_1 x4_2 a0_most_3 a0_least_4 a0_number_5 a1_held_6 a1_known_7 H locs ls hP hD hS hl h; exact (nh_none h).elim
      | succ n5 ih5 =>
        intro x3_1 x4_2 a0_most_3 a0_least_4 a0_number_5 a1_held_6 a1_known_7 H locs ls hP hD hS hl h
        replace h : fX4_walk_B5 a1_count i2 (fX4_walk F d) F k5 (fX4_walk_L5 a1_count i2 (fX4_walk F d) F k5 n5) x3_1 x4_2 a0_most_3 a0_least_4 a0_number_5 a1_held_6 a1_known_7 = some (o_a0_most, o_a0_least, o_a0_number, o_a1_held, o_a1_known) := h
        unfold fX4_walk_B5 at h
        refine lv_iload hx hb dX4_walk_5 (lv_at hl 4 rfl) ?_
        refine lv_aload_n hx hb dX4_walk_7 rfl (lv_at hl 1 rfl) ?_
        refine va_get (D := D) (ci := 1) (v := .int a1_count) (C := RX1) (T := TX1) (N := 4) hx hb hts nhu_X1 hown hK hP 1 rfl rfl 0 (by decide) (hts _ nhw_273) (fun _ h9 => h9) rfl dX4_walk_8 ?_
        refine lv_icmp_ge (tgt := 84) hx hb dX4_walk_11 (by decide) (fun c15 => ?_) (fun c15 => ?_)
        · replace h := nh_t h c15
          exact hk5 x3_1 x4_2 a0_most_3 a0_least_4 a0_number_5 a1_held_6 a1_known_7 H locs ls hP hD hS (lv_sub hl [0, 1, 2, 3, 4] rfl) h
        · replace h := nh_f h c15
          refine lv_iload hx hb dX4_walk_14 (lv_at hl 4 rfl) ?_
          refine lv_iconst (v := 1) hx hb dX4_walk_16 (by decide) ?_
          refine lv_iadd hx hb dX4_walk_17 ?_
          refine lv_topi (fun y_16 ey_16 => ?_)
          replace h := nh_to h ey_16
          refine lv_istore (lv' := [(5, .int y_16), (0, .ref q_a0), (1, .ref q_a1), (2, .int i2), (3, .int x3_1), (4, .int x4_2)]) hx hb dX4_walk_18 hl (by decide) rfl (fun ls hl => ?_)
          have L20 : ∀ (k20 : Int32 → Int32 → Int32 → Int32 → Int32 → (Nat → Int32) → (Nat → Int32) → Option (Int32 × Int32 × Int32 × (Nat → Int32) × (Nat → Int32))), (∀ (x3_24 : Int32) (x5_25 : Int32) (a0_most_26 : Int32) (a0_least_27 : Int32) (a0_number_28 : Int32) (a1_held_29 : Nat → Int32) (a1_known_30 : Nat → Int32) (H : Heap) (locs : List Loc) (ls : Array Slot), va_P D vwCl (wlX4_walk cI cZ cO q_a0 q_a1 q_a1_held q_a1_known q_a1_worths a0_most_26 a0_least_27 a0_number_28 a1_count a1_held_29 a1_known_30) H → va_D A (wlX4_walk cI cZ cO q_a0 q_a1 q_a1_held q_a1_known q_a1_worths a0_most_26 a0_least_27 a0_number_28 a1_count a1_held_29 a1_known_30) → va_S A s.heap H locs → lv_has ls 6 [(0, .ref q_a0), (1, .ref q_a1), (2, .int i2), (3, .int x3_24), (4, .int x4_2), (5, .int x5_25)] → k20 x3_24 x5_25 a0_most_26 a0_least_27 a0_number_28 a1_held_29 a1_known_30 = some (o_a0_most, o_a0_least, o_a0_number, o_a1_held, o_a1_known) → W p l e (nh_rm (3 + (d + 1))) s m args below meth c H locs 0 0 (MQ below ((nh_Qv D (wlX4_walk cI cZ cO q_a0 q_a1 q_a1_held q_a1_known q_a1_worths o_a0_most o_a0_least o_a0_number a1_count o_a1_held o_a1_known)) A) args s 0 0 A) (F0 m 78 ls [])) → ∀ (n : Nat) (x3_17 : Int32) (x5_18 : Int32) (a0_most_19 : Int32) (a0_least_20 : Int32) (a0_number_21 : Int32) (a1_held_22 : Nat → Int32) (a1_known_23 : Nat → Int32) (H : Heap) (locs : List Loc) (ls : Array Slot), va_P D vwCl (wlX4_walk cI cZ cO q_a0 q_a1 q_a1_held q_a1_known q_a1_worths a0_most_19 a0_least_20 a0_number_21 a1_count a1_held_22 a1_known_23) H → va_D A (wlX4_walk cI cZ cO q_a0 q_a1 q_a1_held q_a1_known q_a1_worths a0_most_19 a0_least_20 a0_number_21 a1_count a1_held_22 a1_known_23) → va_S A s.heap H locs → lv_has ls 6 [(0, .ref q_a0), (1, .ref q_a1), (2, .int i2), (3, .int x3_17), (4, .int x4_2), (5, .int x5_18)] → fX4_walk_L20 a1_count i2 (fX4_walk F d) x4_2 k20 n x3_17 x5_18 a0_most_19 a0_least_20 a0_number_21 a1_held_22 a1_known_23 = some (o_a0_most, o_a0_least, o_a0_number, o_a1_held, o_a1_known) → W p l e (nh_rm (3 + (d + 1))) s m args below meth c H locs 0 0 (MQ below ((nh_Qv D (wlX4_walk cI cZ cO q_a0 q_a1 q_a1_held q_a1_known q_a1_worths o_a0_most o_a0_least o_a0_number a1_count o_a1_held o_a1_known)) A) args s 0 0 A) (F0 m 20 ls []) := by
            intro k20 hk20 n
            induction n with
            | zero => intro x3_17 x5_18 a0_most_19 a0_least_20 a0_number_21 a1_held_22 a1_known_23 H locs ls hP hD hS hl h; exact (nh_none h).elim
            | succ n20 ih20 =>
              intro x3_17 x5_18 a0_most_19 a0_least_20 a0_number_21 a1_held_22 a1_known_23 H locs ls hP hD hS hl h
              replace h : fX4_walk_B20 a1_count i2 (fX4_walk F d) x4_2 k20 (fX4_walk_L20 a1_count i2 (fX4_walk F d) x4_2 k20 n20) x3_17 x5_18 a0_most_19 a0_least_20 a0_number_21 a1_held_22 a1_known_23 = some (o_a0_most, o_a0_least, o_a0_number, o_a1_held, o_a1_known) := h
              unfold fX4_walk_B20 at h
              refine lv_iload hx hb dX4_walk_20 (lv_at hl 5 rfl) ?_
              refine lv_aload_n hx hb dX4_walk_22 rfl (lv_at hl 1 rfl) ?_
              refine va_get (D := D) (ci := 1) (v := .int a1_count) (C := RX1) (T := TX1) (N := 4) hx hb hts nhu_X1 hown hK hP 1 rfl rfl 0 (by decide) (hts _ nhw_273) (fun _ h9 => h9) rfl dX4_walk_23 ?_
              refine lv_icmp_ge (tgt := 78) hx hb dX4_walk_26 (by decide) (fun c31 => ?_) (fun c31 => ?_)
              · replace h := nh_t h c31
                exact hk20 x3_17 x5_18 a0_most_19 a0_least_20 a0_number_21 a1_held_22 a1_known_23 H locs ls hP hD hS (lv_sub hl [0, 1, 2, 3, 4, 5] rfl) h
              · replace h := nh_f h c31
                refine lv_iload_n hx hb dX4_walk_29 rfl (lv_at hl 2 rfl) ?_
                refine lv_bipush (v := 12) hx hb dX4_walk_30 (by decide) ?_
                refine lv_icmp_ge (tgt := 72) hx hb dX4_walk_32 (by decide) (fun c32 => ?_) (fun c32 => ?_)
                · replace h := nh_t h c32
                  obtain ⟨x5_33, ex5_33⟩ : ∃ y : Int32, y = x5_18 + 1 := ⟨_, rfl⟩
                  replace h := nh_to h ex5_33
                  refine lv_iinc (v := x5_33) (lv' := [(5, .int x5_33), (0, .ref q_a0), (1, .ref q_a1), (2, .int i2), (3, .int x3_17), (4, .int x4_2)]) hx hb dX4_walk_72 hl (k := 5) rfl (by rw [ex5_33]; rfl) (by decide) rfl (fun ls hl => ?_)
                  refine lv_goto (tgt := 20) hx hb dX4_walk_75 (by decide) ?_
                  exact ih20 x3_17 x5_33 a0_most_19 a0_least_20 a0_number_21 a1_held_22 a1_known_23 H locs ls hP hD hS (lv_sub hl [1, 2, 3, 4, 5, 0] rfl) h
                · replace h := nh_f h c32
                  refine lv_aload_n hx hb dX4_walk_35 rfl (lv_at hl 1 rfl) ?_
                  refine lv_iload hx hb dX4_walk_36 (lv_at hl 4 rfl) ?_
                  refine lv_iload hx hb dX4_walk_38 (lv_at hl 5 rfl) ?_
                  obtain ⟨r_34, hc35, h⟩ := nh_b1_some h
                  refine nh_goi (nh_V (As := [.int x4_2, .int x5_18]) (rest := []) ⟨hx, hb, hml, hown, hts⟩ (kX1_canSwap  l D cI cZ cO H.size q_a1 q_a1_held q_a1_known q_a1_worths a1_count a1_held_22 a1_known_23 x4_2 x5_18 r_34 hc35) (cwV 2 hts (nh_gV nhw_632 nhw_415 nhw_677 nhw_303 nhw_124) rfl rfl rfl (by decide +kernel) ⟨by show 1 + 1 ≤ 3 + (d + 1); omega, by show 8 + (3 + 11) + 64 * 1 ≤ 64 * (3 + (d + 1)); omega⟩) hK hN hP hD (isC := [1, 2, 3]) rfl rfl 1 1 rfl rfl rfl rfl hl.1 rfl (Nat.le_of_ble_eq_true rfl) dX4_walk_40 ⟨Nat.zero_le _, Nat.zero_le _⟩) hP hD hS hA (isC := [1, 2, 3]) rfl rfl rfl (w' := (wlX4_walk cI cZ cO q_a0 q_a1 q_a1_held q_a1_known q_a1_worths a0_most_19 a0_least_20 a0_number_21 a1_count a1_held_22 a1_known_23)) rfl (fun H locs hP hD hS => ?_)
                  refine lv_if_eq (tgt := 72) hx hb dX4_walk_43 (by decide) (fun c36 => ?_) (fun c36 => ?_)
                  · replace h := nh_t h c36
                    obtain ⟨x5_37, ex5_37⟩ : ∃ y : Int32, y = x5_18 + 1 := ⟨_, rfl⟩
                    replace h := nh_to h ex5_37
                    refine lv_iinc (v := x5_37) (lv' := [(5, .int x5_37), (0, .ref q_a0), (1, .ref q_a1), (2, .int i2), (3, .int x3_17), (4, .int x4_2)]) hx hb dX4_walk_72 hl (k := 5) rfl (by rw [ex5_37]; rfl) (by decide) rfl (fun ls hl => ?_)
                    refine lv_goto (tgt := 20) hx hb dX4_walk_75 (by decide) ?_
                    exact ih20 x3_17 x5_37 a0_most_19 a0_least_20 a0_number_21 a1_held_22 a1_known_23 H locs ls hP hD hS (lv_sub hl [1, 2, 3, 4, 5, 0] rfl) h
                  · replace h := nh_f h c36
                    refine lv_iconst (v := 0) hx hb dX4_walk_46 (by decide) ?_
                    refine lv_istore_n (lv' := [(3, .int 0), (0, .ref q_a0), (1, .ref q_a1), (2, .int i2), (4, .int x4_2), (5, .int x5_18)]) hx hb dX4_walk_47 rfl hl (by decide) rfl (fun ls hl => ?_)
                    refine lv_aload_n hx hb dX4_walk_48 rfl (lv_at hl 2 rfl) ?_
                    refine lv_iload hx hb dX4_walk_49 (lv_at hl 4 rfl) ?_
                    refine lv_iload hx hb dX4_walk_51 (lv_at hl 5 rfl) ?_
                    obtain ⟨a1_held_38, a1_known_39, hc40, h⟩ := nh_b2_some h
                    refine nh_gov (nh_V (As := [.int x4_2, .int x5_18]) (rest := []) ⟨hx, hb, hml, hown, hts⟩ (kX1_swap  l D cI cZ cO H.size q_a1 q_a1_held q_a1_known q_a1_worths a1_count a1_held_22 a1_known_23 x4_2 x5_18 a1_held_38 a1_known_39 hc40) (cwV 2 hts (nh_gV nhw_633 nhw_425 nhw_686 nhw_303 nhw_135) rfl rfl rfl (by decide +kernel) ⟨by show 2 + 1 ≤ 3 + (d + 1); omega, by show 8 + (3 + 11) + 64 * 2 ≤ 64 * (3 + (d + 1)); omega⟩) hK hN hP hD (isC := [1, 2, 3]) rfl rfl 1 1 rfl rfl rfl rfl hl.1 rfl (Nat.le_of_ble_eq_true rfl) dX4_walk_53 ⟨Nat.zero_le _, Nat.zero_le _⟩) hP hD hS hA (isC := [1, 2, 3]) rfl rfl rfl (w' := (wlX4_walk cI cZ cO q_a0 q_a1 q_a1_held q_a1_known q_a1_worths a0_most_19 a0_least_20 a0_number_21 a1_count a1_held_38 a1_known_39)) rfl (fun H locs hP hD hS => ?_)
                    refine lv_aload_n hx hb dX4_walk_56 rfl (lv_at hl 1 rfl) ?_
                    refine lv_aload_n hx hb dX4_walk_57 rfl (lv_at hl 2 rfl) ?_
                    refine lv_iload_n hx hb dX4_walk_58 rfl (lv_at hl 3 rfl) ?_
                    refine lv_iconst (v := 1) hx hb dX4_walk_59 (by decide) ?_
                    refine lv_iadd hx hb dX4_walk_60 ?_
                    obtain ⟨a0_most_41, a0_least_42, a0_number_43, a1_held_44, a1_known_45, hc46, h⟩ := nh_b5_some h
                    refine nh_gov (nh_S (As := [.ref q_a0, .ref q_a1, .int (i2 + 1)]) (rest := []) ⟨hx, hb, hml, hown, hts⟩ (ihd H.size q_a0 q_a1 q_a1_held q_a1_known q_a1_worths a0_most_19 a0_least_20 a0_number_21 a1_count a1_held_38 a1_known_39 (i2 + 1) a0_most_41 a0_least_42 a0_number_43 a1_held_44 a1_known_45 hc46) (va_cwS 3 hts (nh_gS nhw_630 nhw_818 nhw_308 nhw_150) rfl rfl rfl (by decide +kernel) ⟨by show 3 + d + 1 ≤ 3 + (d + 1); omega, by show 8 + (6 + 11) + 64 * (3 + d) ≤ 64 * (3 + (d + 1)); omega⟩) hK hN hP hD (isC := [0, 1, 2, 3]) rfl rfl rfl hl.1 rfl (Nat.le_of_ble_eq_true rfl) dX4_walk_61 ⟨Nat.zero_le _, Nat.zero_le _⟩) hP hD hS hA (isC := [0, 1, 2, 3]) rfl rfl rfl (w' := (wlX4_walk cI cZ cO q_a0 q_a1 q_a1_held q_a1_known q_a1_worths a0_most_41 a0_least_42 a0_number_43 a1_count a1_held_44 a1_known_45)) rfl (fun H locs hP hD hS => ?_)
                    refine lv_aload_n hx hb dX4_walk_64 rfl (lv_at hl 2 rfl) ?_
                    refine lv_iload hx hb dX4_walk_65 (lv_at hl 4 rfl) ?_
                    refine lv_iload hx hb dX4_walk_67 (lv_at hl 5 rfl) ?_
                    obtain ⟨a1_held_47, a1_known_48, hc49, h⟩ := nh_b2_some h
                    refine nh_gov (nh_V (As := [.int x4_2, .int x5_18]) (rest := []) ⟨hx, hb, hml, hown, hts⟩ (kX1_swapBack  l D cI cZ cO H.size q_a1 q_a1_held q_a1_known q_a1_worths a1_count a1_held_44 a1_known_45 x4_2 x5_18 a1_held_47 a1_known_48 hc49) (cwV 2 hts (nh_gV nhw_634 nhw_426 nhw_687 nhw_303 nhw_136) rfl rfl rfl (by decide +kernel) ⟨by show 2 + 1 ≤ 3 + (d + 1); omega, by show 8 + (3 + 11) + 64 * 2 ≤ 64 * (3 + (d + 1)); omega⟩) hK hN hP hD (isC := [1, 2, 3]) rfl rfl 1 1 rfl rfl rfl rfl hl.1 rfl (Nat.le_of_ble_eq_true rfl) dX4_walk_69 ⟨Nat.zero_le _, Nat.zero_le _⟩) hP hD hS hA (isC := [1, 2, 3]) rfl rfl rfl (w' := (wlX4_walk cI cZ cO q_a0 q_a1 q_a1_held q_a1_known q_a1_worths a0_most_41 a0_least_42 a0_number_43 a1_count a1_held_47 a1_known_48)) rfl (fun H locs hP hD hS => ?_)
                    obtain ⟨x5_50, ex5_50⟩ : ∃ y : Int32, y = x5_18 + 1 := ⟨_, rfl⟩
                    replace h := nh_to h ex5_50
                    refine lv_iinc (v := x5_50) (lv' := [(5, .int x5_50), (3, .int 0), (0, .ref q_a0), (1, .ref q_a1), (2, .int i2), (4, .int x4_2)]) hx hb dX4_walk_72 hl (k := 5) rfl (by rw [ex5_50]; rfl) (by decide) rfl (fun ls hl => ?_)
                    refine lv_goto (tgt := 20) hx hb dX4_walk_75 (by decide) ?_
                    exact ih20 0 x5_50 a0_most_41 a0_least_42 a0_number_43 a1_held_47 a1_known_48 H locs ls hP hD hS (lv_sub hl [2, 3, 4, 1, 5, 0] rfl) h
          refine L20 _ (fun x3_24 x5_25 a0_most_26 a0_least_27 a0_number_28 a1_held_29 a1_known_30 H locs ls hP hD hS hl h => ?_) _ x3_1 y_16 a0_most_3 a0_least_4 a0_number_5 a1_held_6 a1_known_7 H locs ls hP hD hS (lv_sub hl [1, 2, 3, 4, 5, 0] rfl) h
          obtain ⟨x4_51, ex4_51⟩ : ∃ y : Int32, y = x4_2 + 1 := ⟨_, rfl⟩
          replace h := nh_to h ex4_51
          refine lv_iinc (v := x4_51) (lv' := [(4, .int x4_51), (0, .ref q_a0), (1, .ref q_a1), (2, .int i2), (3, .int x3_24), (5, .int x5_25)]) hx hb dX4_walk_78 hl (k := 4) rfl (by rw [ex4_51]; rfl) (by decide) rfl (fun ls hl => ?_)
          refine lv_goto (tgt := 5) hx hb dX4_walk_81 (by decide) ?_
          exact ih5 x3_24 x4_51 a0_most_26 a0_least_27 a0_number_28 a1_held_29 a1_known_30 H locs ls hP hD hS (lv_sub hl [1, 2, 3, 4, 0] rfl) h
    refine L5 _ (fun x3_8 x4_9 a0_most_10 a0_least_11 a0_number_12 a1_held_13 a1_known_14 H locs ls hP hD hS hl h => ?_) _ 1 0 a0_most a0_least a0_number a1_held a1_known H locs ls hP hD hS (lv_sub hl [2, 3, 4, 1, 0] rfl) h
    refine lv_iload_n hx hb dX4_walk_84 rfl (lv_at hl 3 rfl) ?_
    refine lv_if_eq (tgt := 93) hx hb dX4_walk_85 (by decide) (fun c52 => ?_) (fun c52 => ?_)
    · replace h := nh_t h c52
      obtain ⟨g0, g1, g2, g3, g4⟩ := nh_i5 h
      exact nh_rv hx hb hr hlocks (by rw [← g0, ← g1, ← g2, ← g3, ← g4]; exact hP) hS dX4_walk_93
    · replace h := nh_f h c52
      refine lv_aload_n hx hb dX4_walk_88 rfl (lv_at hl 0 rfl) ?_
      refine lv_iload_n hx hb dX4_walk_89 rfl (lv_at hl 2 rfl) ?_
      obtain ⟨a0_most_53, a0_least_54, a0_number_55, hc56, h⟩ := nh_b3_some h
      refine nh_gov (nh_V (As := [.int i2]) (rest := []) ⟨hx, hb, hml, hown, hts⟩ (kX4_noteEnd  l D cI cZ cO H.size q_a0 a0_most_10 a0_least_11 a0_number_12 i2 a0_most_53 a0_least_54 a0_number_55 hc56) (cwV 1 hts (nh_gV nhw_635 nhw_433 nhw_783 nhw_308 nhw_149) rfl rfl rfl (by decide +kernel) ⟨by show 2 + 1 ≤ 3 + (d + 1); omega, by show 8 + (2 + 11) + 64 * 2 ≤ 64 * (3 + (d + 1)); omega⟩) hK hN hP hD (isC := [0]) rfl rfl 0 3 rfl rfl rfl rfl hl.1 rfl (Nat.le_of_ble_eq_true rfl) dX4_walk_90 ⟨Nat.zero_le _, Nat.zero_le _⟩) hP hD hS hA (isC := [0]) rfl rfl rfl (w' := (wlX4_walk cI cZ cO q_a0 q_a1 q_a1_held q_a1_known q_a1_worths a0_most_53 a0_least_54 a0_number_55 a1_count a1_held_13 a1_known_14)) rfl (fun H locs hP hD hS => ?_)
      obtain ⟨g0, g1, g2, g3, g4⟩ := nh_i5 h
      exact nh_rv hx hb hr hlocks (by rw [← g0, ← g1, ← g2, ← g3, ← g4]; exact hP) hS dX4_walk_93
abbrev wlX4_walkAll (cI cZ cO : ClassId) (q_t q_a1 q_a1_held q_a1_known q_a1_worths : Nat) (t_most : Int32) (t_least : Int32) (t_number : Int32) (a1_count : Int32) (a1_held : Nat → Int32) (a1_known : Nat → Int32) : va_W := [(q_t, .inr (3, [.int t_most, .int t_least, .int t_number])), (q_a1, .inr (1, [.int a1_count, .ref q_a1_held, .ref q_a1_known, .ref q_a1_worths])), (q_a1_held, .inl (cI, 4, .inl a1_held)), (q_a1_known, .inl (cI, 4, .inl a1_known))]
def fX4_walkAll (F : Nat) (t_most : Int32) (t_least : Int32) (t_number : Int32) (a1_count : Int32) (a1_held : Nat → Int32) (a1_known : Nat → Int32) : Option (Int32 × Int32 × Int32 × (Nat → Int32) × (Nat → Int32)) :=
  nh_b5 (fX4_walk F 20 0 12 0 a1_count a1_held a1_known 0) (fun t_most_1 t_least_2 t_number_3 a1_held_4 a1_known_5 => some (t_most_1, t_least_2, t_number_3, a1_held_4, a1_known_5))
set_option maxHeartbeats 4000000 in
set_option maxRecDepth 100000 in
theorem kX4_walkAll (F : Nat) (l : Launch) (D : va_G) (cI cZ cO : ClassId) (sz : Nat) (q_t q_a1 q_a1_held q_a1_known q_a1_worths : Nat) (t_most : Int32) (t_least : Int32) (t_number : Int32) (a1_count : Int32) (a1_held : Nat → Int32) (a1_known : Nat → Int32)  (o_t_most : Int32) (o_t_least : Int32) (o_t_number : Int32) (o_a1_held : Nat → Int32) (o_a1_known : Nat → Int32) (h : fX4_walkAll F t_most t_least t_number a1_count a1_held a1_known = some (o_t_most, o_t_least, o_t_number, o_a1_held, o_a1_known)) : Met l yX4_walkAll (nh_w (.code yX4_walkAll cX4_walkAll 2 none)) (nh_rm 24) (nh_Pc D cI cZ cO (wlX4_walkAll cI cZ cO q_t q_a1 q_a1_held q_a1_known q_a1_worths t_most t_least t_number a1_count a1_held a1_known) [.ref q_t, .ref q_a1] sz) ((nh_Qv D (wlX4_walkAll cI cZ cO q_t q_a1 q_a1_held q_a1_known q_a1_worths o_t_most o_t_least o_t_number a1_count o_a1_held o_a1_known)) (va_A (wlX4_walkAll cI cZ cO q_t q_a1 q_a1_held q_a1_known q_a1_worths t_most t_least t_number a1_count a1_held a1_known) sz)) 0 0 (va_A (wlX4_walkAll cI cZ cO q_t q_a1 q_a1_held q_a1_known q_a1_worths t_most t_least t_number a1_count a1_held a1_known) sz) := by
  unfold fX4_walkAll at h
  refine nh_met (cc := cX4_walkAll) (maxL := 2) (ret := none) (nh_Qv D (wlX4_walkAll cI cZ cO q_t q_a1 q_a1_held q_a1_known q_a1_worths o_t_most o_t_least o_t_number a1_count o_a1_held o_a1_known)) (by decide) rfl (Nat.le_of_ble_eq_true rfl) ?_
  intro p e s m args below meth c A H locs ls hx hb hml hr hown hts hlocks hinit hP hK hN hD hA hS hl
  have hl : lv_has ls 2 [(0, .ref q_t), (1, .ref q_a1)] := hl
  have hts : ∀ w ∈ nh_words, w.before args s = true := fun w h => hts w (List.mem_cons_of_mem _ h)
  refine lv_aload_n hx hb dX4_walkAll_0 rfl (lv_at hl 0 rfl) ?_
  refine lv_iconst (v := 0) hx hb dX4_walkAll_1 (by decide) ?_
  refine va_put (D := D) (ci := 3) (v := .int 0) (ty := .int) (C := RX4) (T := TX4) (N := 3) hx hb hts nhu_X4 tyX4 tyX4_ok nmX4 hown hK hP hD hS 0 rfl rfl 0 (by decide) (hts _ nhw_274) (fun _ h9 => h9) rfl (by decide +kernel) rfl rfl (Nat.le_of_ble_eq_true rfl) dX4_walkAll_2 (fun H locs hP hD hS => ?_)
  have hP : va_P D vwCl (wlX4_walkAll cI cZ cO q_t q_a1 q_a1_held q_a1_known q_a1_worths 0 t_least t_number a1_count a1_held a1_known) H := hP
  have hD : va_D A (wlX4_walkAll cI cZ cO q_t q_a1 q_a1_held q_a1_known q_a1_worths 0 t_least t_number a1_count a1_held a1_known) := hD
  refine lv_aload_n hx hb dX4_walkAll_5 rfl (lv_at hl 0 rfl) ?_
  refine lv_bipush (v := 12) hx hb dX4_walkAll_6 (by decide) ?_
  refine va_put (D := D) (ci := 3) (v := .int 12) (ty := .int) (C := RX4) (T := TX4) (N := 3) hx hb hts nhu_X4 tyX4 tyX4_ok nmX4 hown hK hP hD hS 0 rfl rfl 1 (by decide) (hts _ nhw_271) (fun _ h9 => h9) rfl (by decide +kernel) rfl rfl (Nat.le_of_ble_eq_true rfl) dX4_walkAll_8 (fun H locs hP hD hS => ?_)
  have hP : va_P D vwCl (wlX4_walkAll cI cZ cO q_t q_a1 q_a1_held q_a1_known q_a1_worths 0 12 t_number a1_count a1_held a1_known) H := hP
  have hD : va_D A (wlX4_walkAll cI cZ cO q_t q_a1 q_a1_held q_a1_known q_a1_worths 0 12 t_number a1_count a1_held a1_known) := hD
  refine lv_aload_n hx hb dX4_walkAll_11 rfl (lv_at hl 0 rfl) ?_
  refine lv_iconst (v := 0) hx hb dX4_walkAll_12 (by decide) ?_
  refine va_put (D := D) (ci := 3) (v := .int 0) (ty := .int) (C := RX4) (T := TX4) (N := 3) hx hb hts nhu_X4 tyX4 tyX4_ok nmX4 hown hK hP hD hS 0 rfl rfl 2 (by decide) (hts _ nhw_272) (fun _ h9 => h9) rfl (by decide +kernel) rfl rfl (Nat.le_of_ble_eq_true rfl) dX4_walkAll_13 (fun H locs hP hD hS => ?_)
  have hP : va_P D vwCl (wlX4_walkAll cI cZ cO q_t q_a1 q_a1_held q_a1_known q_a1_worths 0 12 0 a1_count a1_held a1_known) H := hP
  have hD : va_D A (wlX4_walkAll cI cZ cO q_t q_a1 q_a1_held q_a1_known q_a1_worths 0 12 0 a1_count a1_held a1_known) := hD
  refine lv_aload_n hx hb dX4_walkAll_16 rfl (lv_at hl 0 rfl) ?_
  refine lv_aload_n hx hb dX4_walkAll_17 rfl (lv_at hl 1 rfl) ?_
  refine lv_iconst (v := 0) hx hb dX4_walkAll_18 (by decide) ?_
  obtain ⟨t_most_1, t_least_2, t_number_3, a1_held_4, a1_known_5, hc6, h⟩ := nh_b5_some h
  refine nh_gov (nh_S (As := [.ref q_t, .ref q_a1, .int 0]) (rest := []) ⟨hx, hb, hml, hown, hts⟩ (kX4_walk F 20 l D cI cZ cO H.size q_t q_a1 q_a1_held q_a1_known q_a1_worths 0 12 0 a1_count a1_held a1_known 0 t_most_1 t_least_2 t_number_3 a1_held_4 a1_known_5 hc6) (va_cwS 3 hts (nh_gS nhw_630 nhw_818 nhw_308 nhw_150) rfl rfl rfl (by decide +kernel) ⟨Nat.le_of_ble_eq_true rfl, Nat.le_of_ble_eq_true rfl⟩) hK hN hP hD (isC := [0, 1, 2, 3]) rfl rfl rfl hl.1 rfl (Nat.le_of_ble_eq_true rfl) dX4_walkAll_19 ⟨Nat.zero_le _, Nat.zero_le _⟩) hP hD hS hA (isC := [0, 1, 2, 3]) rfl rfl rfl (w' := (wlX4_walkAll cI cZ cO q_t q_a1 q_a1_held q_a1_known q_a1_worths t_most_1 t_least_2 t_number_3 a1_count a1_held_4 a1_known_5)) rfl (fun H locs hP hD hS => ?_)
  obtain ⟨g0, g1, g2, g3, g4⟩ := nh_i5 h
  exact nh_rv hx hb hr hlocks (by rw [← g0, ← g1, ← g2, ← g3, ← g4]; exact hP) hS dX4_walkAll_22
