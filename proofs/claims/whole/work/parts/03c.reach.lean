abbrev wlX2_come (cI cZ cO : ClassId) (q_a0 q_a0_held q_a0_known q_a0_worths : Nat) (a0_count : Int32) (a0_held : Nat → Int32) (a0_known : Nat → Int32) : va_W := [(q_a0, .inr (1, [.int a0_count, .ref q_a0_held, .ref q_a0_known, .ref q_a0_worths])), (q_a0_held, .inl (cI, 4, .inl a0_held)), (q_a0_known, .inl (cI, 4, .inl a0_known))]
def fX2_come_B37 (a0_count : Int32) (i1 : Int32) (i3 : Int32) (i4 : Int32) (rc : Int32 → (Nat → Int32) → (Nat → Int32) → Int32 → Int32 → Int32 → Int32 → Option (Int32 × (Nat → Int32) × (Nat → Int32))) (x6_4 : Int32) (k37 : Int32 → Int32 → (Nat → Int32) → (Nat → Int32) → Option (Int32 × (Nat → Int32) × (Nat → Int32))) (r37 : Int32 → Int32 → (Nat → Int32) → (Nat → Int32) → Option (Int32 × (Nat → Int32) × (Nat → Int32))) (x5_14 : Int32) (x7_15 : Int32) (a0_held_16 : Nat → Int32) (a0_known_17 : Nat → Int32) : Option (Int32 × (Nat → Int32) × (Nat → Int32)) :=
  (if a0_count ≤ x7_15 then k37 x5_14 x7_15 a0_held_16 a0_known_17
 else (if x5_14 = i3 then k37 x5_14 x7_15 a0_held_16 a0_known_17
 else (if 12 ≤ i4 then nh_let (α := Int32) (x7_15 + 1) (fun x7_25 => r37 x5_14 x7_25 a0_held_16 a0_known_17)
 else nh_b1 (fX1_canSwap a0_count a0_held_16 a0_known_17 x6_4 x7_15) (fun r_26 => (if r_26 = 0 then nh_let (α := Int32) (x7_15 + 1) (fun x7_29 => r37 x5_14 x7_29 a0_held_16 a0_known_17)
 else nh_b2 (fX1_swap a0_count a0_held_16 a0_known_17 x6_4 x7_15) (fun a0_held_30 a0_known_31 => nh_b3 (rc a0_count a0_held_30 a0_known_31 i1 x5_14 i3 (i4 + 1)) (fun r_33 a0_held_34 a0_known_35 => nh_b2 (fX1_swapBack a0_count a0_held_34 a0_known_35 x6_4 x7_15) (fun a0_held_37 a0_known_38 => nh_let (α := Int32) (x7_15 + 1) (fun x7_40 => r37 r_33 x7_40 a0_held_37 a0_known_38)))))))))
def fX2_come_L37 (a0_count : Int32) (i1 : Int32) (i3 : Int32) (i4 : Int32) (rc : Int32 → (Nat → Int32) → (Nat → Int32) → Int32 → Int32 → Int32 → Int32 → Option (Int32 × (Nat → Int32) × (Nat → Int32))) (x6_4 : Int32) (k37 : Int32 → Int32 → (Nat → Int32) → (Nat → Int32) → Option (Int32 × (Nat → Int32) × (Nat → Int32))) : Nat → Int32 → Int32 → (Nat → Int32) → (Nat → Int32) → Option (Int32 × (Nat → Int32) × (Nat → Int32))
  | 0 => fun _ _ _ _ => none
  | n + 1 => fX2_come_B37 a0_count i1 i3 i4 rc x6_4 k37 (fX2_come_L37 a0_count i1 i3 i4 rc x6_4 k37 n)
def fX2_come_B16 (a0_count : Int32) (i1 : Int32) (i3 : Int32) (i4 : Int32) (rc : Int32 → (Nat → Int32) → (Nat → Int32) → Int32 → Int32 → Int32 → Int32 → Option (Int32 × (Nat → Int32) × (Nat → Int32))) (F : Nat) (k16 : Int32 → Int32 → (Nat → Int32) → (Nat → Int32) → Option (Int32 × (Nat → Int32) × (Nat → Int32))) (r16 : Int32 → Int32 → (Nat → Int32) → (Nat → Int32) → Option (Int32 × (Nat → Int32) × (Nat → Int32))) (x5_3 : Int32) (x6_4 : Int32) (a0_held_5 : Nat → Int32) (a0_known_6 : Nat → Int32) : Option (Int32 × (Nat → Int32) × (Nat → Int32)) :=
  (if a0_count ≤ x6_4 then k16 x5_3 x6_4 a0_held_5 a0_known_6
 else (if x5_3 = i3 then k16 x5_3 x6_4 a0_held_5 a0_known_6
 else nh_let (α := Int32) ((x6_4 + 1)) (fun y_13 => fX2_come_L37 a0_count i1 i3 i4 rc x6_4 (fun x5_18 x7_19 a0_held_20 a0_known_21 => nh_let (α := Int32) (x6_4 + 1) (fun x6_41 => r16 x5_18 x6_41 a0_held_20 a0_known_21)) F x5_3 y_13 a0_held_5 a0_known_6)))
def fX2_come_L16 (a0_count : Int32) (i1 : Int32) (i3 : Int32) (i4 : Int32) (rc : Int32 → (Nat → Int32) → (Nat → Int32) → Int32 → Int32 → Int32 → Int32 → Option (Int32 × (Nat → Int32) × (Nat → Int32))) (F : Nat) (k16 : Int32 → Int32 → (Nat → Int32) → (Nat → Int32) → Option (Int32 × (Nat → Int32) × (Nat → Int32))) : Nat → Int32 → Int32 → (Nat → Int32) → (Nat → Int32) → Option (Int32 × (Nat → Int32) × (Nat → Int32))
  | 0 => fun _ _ _ _ => none
  | n + 1 => fX2_come_B16 a0_count i1 i3 i4 rc F k16 (fX2_come_L16 a0_count i1 i3 i4 rc F k16 n)
def fX2_come_R (F : Nat) (rc : Int32 → (Nat → Int32) → (Nat → Int32) → Int32 → Int32 → Int32 → Int32 → Option (Int32 × (Nat → Int32) × (Nat → Int32))) (a0_count : Int32) (a0_held : Nat → Int32) (a0_known : Nat → Int32) (i1 : Int32) (i2 : Int32) (i3 : Int32) (i4 : Int32) : Option (Int32 × (Nat → Int32) × (Nat → Int32)) :=
  nh_chk (nh_in i1 4) (nh_let (α := Int32) ((i2 ||| (fX10_bit (a0_held (Int32.toNatClampNeg i1))))) (fun y_2 => fX2_come_L16 a0_count i1 i3 i4 rc F (fun x5_7 x6_8 a0_held_9 a0_known_10 => some (x5_7, a0_held_9, a0_known_10)) F y_2 0 a0_held a0_known))
def fX2_come (F : Nat) : Nat → Int32 → (Nat → Int32) → (Nat → Int32) → Int32 → Int32 → Int32 → Int32 → Option (Int32 × (Nat → Int32) × (Nat → Int32))
  | 0 => fun _ _ _ _ _ _ _ => none
  | d + 1 => fX2_come_R F (fX2_come F d)
set_option maxHeartbeats 4000000 in
set_option maxRecDepth 100000 in
theorem kX2_come (F : Nat) (d : Nat) (l : Launch) (D : va_G) (cI cZ cO : ClassId) : ∀ (sz : Nat) (q_a0 q_a0_held q_a0_known q_a0_worths : Nat) (a0_count : Int32) (a0_held : Nat → Int32) (a0_known : Nat → Int32) (i1 : Int32) (i2 : Int32) (i3 : Int32) (i4 : Int32) (o_r : Int32) (o_a0_held : Nat → Int32) (o_a0_known : Nat → Int32), fX2_come F d a0_count a0_held a0_known i1 i2 i3 i4 = some (o_r, o_a0_held, o_a0_known) → Met l yX2_come (nh_w (.code yX2_come cX2_come 8 (some .int))) (nh_rm (3 + d)) (nh_Pc D cI cZ cO (wlX2_come cI cZ cO q_a0 q_a0_held q_a0_known q_a0_worths a0_count a0_held a0_known) [.ref q_a0, .int i1, .int i2, .int i3, .int i4] sz) ((nh_Qi D (wlX2_come cI cZ cO q_a0 q_a0_held q_a0_known q_a0_worths a0_count o_a0_held o_a0_known) o_r) (va_A (wlX2_come cI cZ cO q_a0 q_a0_held q_a0_known q_a0_worths a0_count a0_held a0_known) sz)) 0 0 (va_A (wlX2_come cI cZ cO q_a0 q_a0_held q_a0_known q_a0_worths a0_count a0_held a0_known) sz) := by
  induction d with
  | zero => intro sz q_a0 q_a0_held q_a0_known q_a0_worths a0_count a0_held a0_known i1 i2 i3 i4 o_r o_a0_held o_a0_known h; exact (nh_none h).elim
  | succ d ihd =>
    intro sz q_a0 q_a0_held q_a0_known q_a0_worths a0_count a0_held a0_known i1 i2 i3 i4 o_r o_a0_held o_a0_known h
    replace h : fX2_come_R F (fX2_come F d) a0_count a0_held a0_known i1 i2 i3 i4 = some (o_r, o_a0_held, o_a0_known) := h
    unfold fX2_come_R at h
    refine nh_met (cc := cX2_come) (maxL := 8) (ret := (some .int)) (nh_Qi D (wlX2_come cI cZ cO q_a0 q_a0_held q_a0_known q_a0_worths a0_count o_a0_held o_a0_known) o_r) (by decide) rfl (Nat.le_of_ble_eq_true rfl) ?_
    intro p e s m args below meth c A H locs ls hx hb hml hr hown hts hlocks hinit hP hK hN hD hA hS hl
    have hl : lv_has ls 8 [(0, .ref q_a0), (1, .int i1), (2, .int i2), (3, .int i3), (4, .int i4)] := hl
    have hts : ∀ w ∈ nh_words, w.before args s = true := fun w h => hts w (List.mem_cons_of_mem _ h)
    refine lv_iload_n hx hb dX2_come_0 rfl (lv_at hl 2 rfl) ?_
    refine lv_aload_n hx hb dX2_come_1 rfl (lv_at hl 0 rfl) ?_
    refine va_get (D := D) (ci := 1) (v := .ref q_a0_held) (C := RX1) (T := TX1) (N := 4) hx hb hts nhu_X1 hown hK hP 0 rfl rfl 1 (by decide) (hts _ nhw_262) (fun _ h9 => h9) rfl dX2_come_2 ?_
    refine lv_iload_n hx hb dX2_come_5 rfl (lv_at hl 1 rfl) ?_
    obtain ⟨z1, h⟩ := nh_chk_some h
    refine va_iald hx hb hK hP 1 0 rfl rfl (nh_in_in z1) dX2_come_6 ?_
    refine nh_goi (nh_SN (As := [.int (a0_held (Int32.toNatClampNeg i1))]) (rest := [.int i2]) ⟨hx, hb, hml, hown, hts⟩ (kX10_bit  l D cI cZ cO H.size (a0_held (Int32.toNatClampNeg i1)) (fX10_bit (a0_held (Int32.toNatClampNeg i1))) rfl) ⟨va_cnB 1 hts (nh_gC nhw_25) rfl rfl rfl (nh_N_at hN 14 rfl) (hts _ nhw_304) (by decide +kernel) ⟨by show 1 + 1 ≤ 3 + (d + 1); omega, by show 8 + (1 + 11) + 64 * 1 ≤ 64 * (3 + (d + 1)); omega⟩, (hts _ nhw_804), trivial⟩ hK hN hP hD (isC := []) rfl rfl rfl hl.1 rfl (Nat.le_of_ble_eq_true rfl) dX2_come_7 ⟨Nat.zero_le _, Nat.zero_le _⟩) hP hD hS hA (isC := []) rfl rfl rfl (w' := (wlX2_come cI cZ cO q_a0 q_a0_held q_a0_known q_a0_worths a0_count a0_held a0_known)) rfl (fun H locs hP hD hS => ?_)
    refine lv_ior hx hb dX2_come_10 ?_
    refine lv_topi (fun y_2 ey_2 => ?_)
    replace h := nh_to h ey_2
    refine lv_istore (lv' := [(5, .int y_2), (0, .ref q_a0), (1, .int i1), (2, .int i2), (3, .int i3), (4, .int i4)]) hx hb dX2_come_11 hl (by decide) rfl (fun ls hl => ?_)
    refine lv_iconst (v := 0) hx hb dX2_come_13 (by decide) ?_
    refine lv_istore (lv' := [(6, .int 0), (5, .int y_2), (0, .ref q_a0), (1, .int i1), (2, .int i2), (3, .int i3), (4, .int i4)]) hx hb dX2_come_14 hl (by decide) rfl (fun ls hl => ?_)
    have L16 : ∀ (k16 : Int32 → Int32 → (Nat → Int32) → (Nat → Int32) → Option (Int32 × (Nat → Int32) × (Nat → Int32))), (∀ (x5_7 : Int32) (x6_8 : Int32) (a0_held_9 : Nat → Int32) (a0_known_10 : Nat → Int32) (H : Heap) (locs : List Loc) (ls : Array Slot), va_P D vwCl (wlX2_come cI cZ cO q_a0 q_a0_held q_a0_known q_a0_worths a0_count a0_held_9 a0_known_10) H → va_D A (wlX2_come cI cZ cO q_a0 q_a0_held q_a0_known q_a0_worths a0_count a0_held_9 a0_known_10) → va_S A s.heap H locs → lv_has ls 8 [(0, .ref q_a0), (1, .int i1), (2, .int i2), (3, .int i3), (4, .int i4), (5, .int x5_7), (6, .int x6_8)] → k16 x5_7 x6_8 a0_held_9 a0_known_10 = some (o_r, o_a0_held, o_a0_known) → W p l e (nh_rm (3 + (d + 1))) s m args below meth c H locs 0 0 (MQ below ((nh_Qi D (wlX2_come cI cZ cO q_a0 q_a0_held q_a0_known q_a0_worths a0_count o_a0_held o_a0_known) o_r) A) args s 0 0 A) (F0 m 112 ls [])) → ∀ (n : Nat) (x5_3 : Int32) (x6_4 : Int32) (a0_held_5 : Nat → Int32) (a0_known_6 : Nat → Int32) (H : Heap) (locs : List Loc) (ls : Array Slot), va_P D vwCl (wlX2_come cI cZ cO q_a0 q_a0_held q_a0_known q_a0_worths a0_count a0_held_5 a0_known_6) H → va_D A (wlX2_come cI cZ cO q_a0 q_a0_held q_a0_known q_a0_worths a0_count a0_held_5 a0_known_6) → va_S A s.heap H locs → lv_has ls 8 [(0, .ref q_a0), (1, .int i1), (2, .int i2), (3, .int i3), (4, .int i4), (5, .int x5_3), (6, .int x6_4)] → fX2_come_L16 a0_count i1 i3 i4 (fX2_come F d) F k16 n x5_3 x6_4 a0_held_5 a0_known_6 = some (o_r, o_a0_held, o_a0_known) → W p l e (nh_rm (3 + (d + 1))) s m args below meth c H locs 0 0 (MQ below ((nh_Qi D (wlX2_come cI cZ cO q_a0 q_a0_held q_a0_known q_a0_worths a0_count o_a0_held o_a0_known) o_r) A) args s 0 0 A) (F0 m 16 ls []) := by
      intro k16 hk16 n
      induction n with
      | zero => intro x5_3 x6_4 a0_held_5 a0_known_6 H locs ls hP hD hS hl h; exact (nh_none h).elim
      | succ n16 ih16 =>
        intro x5_3 x6_4 a0_held_5 a0_known_6 H locs ls hP hD hS hl h
        replace h : fX2_come_B16 a0_count i1 i3 i4 (fX2_come F d) F k16 (fX2_come_L16 a0_count i1 i3 i4 (fX2_come F d) F k16 n16) x5_3 x6_4 a0_held_5 a0_known_6 = some (o_r, o_a0_held, o_a0_known) := h
        unfold fX2_come_B16 at h
        refine lv_iload hx hb dX2_come_16 (lv_at hl 6 rfl) ?_
        refine lv_aload_n hx hb dX2_come_18 rfl (lv_at hl 0 rfl) ?_
        refine va_get (D := D) (ci := 1) (v := .int a0_count) (C := RX1) (T := TX1) (N := 4) hx hb hts nhu_X1 hown hK hP 0 rfl rfl 0 (by decide) (hts _ nhw_263) (fun _ h9 => h9) rfl dX2_come_19 ?_
        refine lv_icmp_ge (tgt := 112) hx hb dX2_come_22 (by decide) (fun c11 => ?_) (fun c11 => ?_)
        · replace h := nh_t h c11
          exact hk16 x5_3 x6_4 a0_held_5 a0_known_6 H locs ls hP hD hS (lv_sub hl [0, 1, 2, 3, 4, 5, 6] rfl) h
        · replace h := nh_f h c11
          refine lv_iload hx hb dX2_come_25 (lv_at hl 5 rfl) ?_
          refine lv_iload_n hx hb dX2_come_27 rfl (lv_at hl 3 rfl) ?_
          refine lv_icmp_eq (tgt := 112) hx hb dX2_come_28 (by decide) (fun c12 => ?_) (fun c12 => ?_)
          · replace h := nh_t h c12
            exact hk16 x5_3 x6_4 a0_held_5 a0_known_6 H locs ls hP hD hS (lv_sub hl [0, 1, 2, 3, 4, 5, 6] rfl) h
          · replace h := nh_f h c12
            refine lv_iload hx hb dX2_come_31 (lv_at hl 6 rfl) ?_
            refine lv_iconst (v := 1) hx hb dX2_come_33 (by decide) ?_
            refine lv_iadd hx hb dX2_come_34 ?_
            refine lv_topi (fun y_13 ey_13 => ?_)
            replace h := nh_to h ey_13
            refine lv_istore (lv' := [(7, .int y_13), (0, .ref q_a0), (1, .int i1), (2, .int i2), (3, .int i3), (4, .int i4), (5, .int x5_3), (6, .int x6_4)]) hx hb dX2_come_35 hl (by decide) rfl (fun ls hl => ?_)
            have L37 : ∀ (k37 : Int32 → Int32 → (Nat → Int32) → (Nat → Int32) → Option (Int32 × (Nat → Int32) × (Nat → Int32))), (∀ (x5_18 : Int32) (x7_19 : Int32) (a0_held_20 : Nat → Int32) (a0_known_21 : Nat → Int32) (H : Heap) (locs : List Loc) (ls : Array Slot), va_P D vwCl (wlX2_come cI cZ cO q_a0 q_a0_held q_a0_known q_a0_worths a0_count a0_held_20 a0_known_21) H → va_D A (wlX2_come cI cZ cO q_a0 q_a0_held q_a0_known q_a0_worths a0_count a0_held_20 a0_known_21) → va_S A s.heap H locs → lv_has ls 8 [(0, .ref q_a0), (1, .int i1), (2, .int i2), (3, .int i3), (4, .int i4), (5, .int x5_18), (6, .int x6_4), (7, .int x7_19)] → k37 x5_18 x7_19 a0_held_20 a0_known_21 = some (o_r, o_a0_held, o_a0_known) → W p l e (nh_rm (3 + (d + 1))) s m args below meth c H locs 0 0 (MQ below ((nh_Qi D (wlX2_come cI cZ cO q_a0 q_a0_held q_a0_known q_a0_worths a0_count o_a0_held o_a0_known) o_r) A) args s 0 0 A) (F0 m 106 ls [])) → ∀ (n : Nat) (x5_14 : Int32) (x7_15 : Int32) (a0_held_16 : Nat → Int32) (a0_known_17 : Nat → Int32) (H : Heap) (locs : List Loc) (ls : Array Slot), va_P D vwCl (wlX2_come cI cZ cO q_a0 q_a0_held q_a0_known q_a0_worths a0_count a0_held_16 a0_known_17) H → va_D A (wlX2_come cI cZ cO q_a0 q_a0_held q_a0_known q_a0_worths a0_count a0_held_16 a0_known_17) → va_S A s.heap H locs → lv_has ls 8 [(0, .ref q_a0), (1, .int i1), (2, .int i2), (3, .int i3), (4, .int i4), (5, .int x5_14), (6, .int x6_4), (7, .int x7_15)] → fX2_come_L37 a0_count i1 i3 i4 (fX2_come F d) x6_4 k37 n x5_14 x7_15 a0_held_16 a0_known_17 = some (o_r, o_a0_held, o_a0_known) → W p l e (nh_rm (3 + (d + 1))) s m args below meth c H locs 0 0 (MQ below ((nh_Qi D (wlX2_come cI cZ cO q_a0 q_a0_held q_a0_known q_a0_worths a0_count o_a0_held o_a0_known) o_r) A) args s 0 0 A) (F0 m 37 ls []) := by
              intro k37 hk37 n
              induction n with
              | zero => intro x5_14 x7_15 a0_held_16 a0_known_17 H locs ls hP hD hS hl h; exact (nh_none h).elim
              | succ n37 ih37 =>
                intro x5_14 x7_15 a0_held_16 a0_known_17 H locs ls hP hD hS hl h
                replace h : fX2_come_B37 a0_count i1 i3 i4 (fX2_come F d) x6_4 k37 (fX2_come_L37 a0_count i1 i3 i4 (fX2_come F d) x6_4 k37 n37) x5_14 x7_15 a0_held_16 a0_known_17 = some (o_r, o_a0_held, o_a0_known) := h
                unfold fX2_come_B37 at h
                refine lv_iload hx hb dX2_come_37 (lv_at hl 7 rfl) ?_
                refine lv_aload_n hx hb dX2_come_39 rfl (lv_at hl 0 rfl) ?_
                refine va_get (D := D) (ci := 1) (v := .int a0_count) (C := RX1) (T := TX1) (N := 4) hx hb hts nhu_X1 hown hK hP 0 rfl rfl 0 (by decide) (hts _ nhw_263) (fun _ h9 => h9) rfl dX2_come_40 ?_
                refine lv_icmp_ge (tgt := 106) hx hb dX2_come_43 (by decide) (fun c22 => ?_) (fun c22 => ?_)
                · replace h := nh_t h c22
                  exact hk37 x5_14 x7_15 a0_held_16 a0_known_17 H locs ls hP hD hS (lv_sub hl [0, 1, 2, 3, 4, 5, 6, 7] rfl) h
                · replace h := nh_f h c22
                  refine lv_iload hx hb dX2_come_46 (lv_at hl 5 rfl) ?_
                  refine lv_iload_n hx hb dX2_come_48 rfl (lv_at hl 3 rfl) ?_
                  refine lv_icmp_eq (tgt := 106) hx hb dX2_come_49 (by decide) (fun c23 => ?_) (fun c23 => ?_)
                  · replace h := nh_t h c23
                    exact hk37 x5_14 x7_15 a0_held_16 a0_known_17 H locs ls hP hD hS (lv_sub hl [0, 1, 2, 3, 4, 5, 6, 7] rfl) h
                  · replace h := nh_f h c23
                    refine lv_iload hx hb dX2_come_52 (lv_at hl 4 rfl) ?_
                    refine lv_bipush (v := 12) hx hb dX2_come_54 (by decide) ?_
                    refine lv_icmp_ge (tgt := 100) hx hb dX2_come_56 (by decide) (fun c24 => ?_) (fun c24 => ?_)
                    · replace h := nh_t h c24
                      obtain ⟨x7_25, ex7_25⟩ : ∃ y : Int32, y = x7_15 + 1 := ⟨_, rfl⟩
                      replace h := nh_to h ex7_25
                      refine lv_iinc (v := x7_25) (lv' := [(7, .int x7_25), (0, .ref q_a0), (1, .int i1), (2, .int i2), (3, .int i3), (4, .int i4), (5, .int x5_14), (6, .int x6_4)]) hx hb dX2_come_100 hl (k := 7) rfl (by rw [ex7_25]; rfl) (by decide) rfl (fun ls hl => ?_)
                      refine lv_goto (tgt := 37) hx hb dX2_come_103 (by decide) ?_
                      exact ih37 x5_14 x7_25 a0_held_16 a0_known_17 H locs ls hP hD hS (lv_sub hl [1, 2, 3, 4, 5, 6, 7, 0] rfl) h
                    · replace h := nh_f h c24
                      refine lv_aload_n hx hb dX2_come_59 rfl (lv_at hl 0 rfl) ?_
                      refine lv_iload hx hb dX2_come_60 (lv_at hl 6 rfl) ?_
                      refine lv_iload hx hb dX2_come_62 (lv_at hl 7 rfl) ?_
                      obtain ⟨r_26, hc27, h⟩ := nh_b1_some h
                      refine nh_goi (nh_V (As := [.int x6_4, .int x7_15]) (rest := []) ⟨hx, hb, hml, hown, hts⟩ (kX1_canSwap  l D cI cZ cO H.size q_a0 q_a0_held q_a0_known q_a0_worths a0_count a0_held_16 a0_known_17 x6_4 x7_15 r_26 hc27) (cwV 2 hts (nh_gV nhw_617 nhw_415 nhw_677 nhw_303 nhw_124) rfl rfl rfl (by decide +kernel) ⟨by show 1 + 1 ≤ 3 + (d + 1); omega, by show 8 + (3 + 11) + 64 * 1 ≤ 64 * (3 + (d + 1)); omega⟩) hK hN hP hD (isC := [0, 1, 2]) rfl rfl 0 1 rfl rfl rfl rfl hl.1 rfl (Nat.le_of_ble_eq_true rfl) dX2_come_64 ⟨Nat.zero_le _, Nat.zero_le _⟩) hP hD hS hA (isC := [0, 1, 2]) rfl rfl rfl (w' := (wlX2_come cI cZ cO q_a0 q_a0_held q_a0_known q_a0_worths a0_count a0_held_16 a0_known_17)) rfl (fun H locs hP hD hS => ?_)
                      refine lv_if_eq (tgt := 100) hx hb dX2_come_67 (by decide) (fun c28 => ?_) (fun c28 => ?_)
                      · replace h := nh_t h c28
                        obtain ⟨x7_29, ex7_29⟩ : ∃ y : Int32, y = x7_15 + 1 := ⟨_, rfl⟩
                        replace h := nh_to h ex7_29
                        refine lv_iinc (v := x7_29) (lv' := [(7, .int x7_29), (0, .ref q_a0), (1, .int i1), (2, .int i2), (3, .int i3), (4, .int i4), (5, .int x5_14), (6, .int x6_4)]) hx hb dX2_come_100 hl (k := 7) rfl (by rw [ex7_29]; rfl) (by decide) rfl (fun ls hl => ?_)
                        refine lv_goto (tgt := 37) hx hb dX2_come_103 (by decide) ?_
                        exact ih37 x5_14 x7_29 a0_held_16 a0_known_17 H locs ls hP hD hS (lv_sub hl [1, 2, 3, 4, 5, 6, 7, 0] rfl) h
                      · replace h := nh_f h c28
                        refine lv_aload_n hx hb dX2_come_70 rfl (lv_at hl 0 rfl) ?_
                        refine lv_iload hx hb dX2_come_71 (lv_at hl 6 rfl) ?_
                        refine lv_iload hx hb dX2_come_73 (lv_at hl 7 rfl) ?_
                        obtain ⟨a0_held_30, a0_known_31, hc32, h⟩ := nh_b2_some h
                        refine nh_gov (nh_V (As := [.int x6_4, .int x7_15]) (rest := []) ⟨hx, hb, hml, hown, hts⟩ (kX1_swap  l D cI cZ cO H.size q_a0 q_a0_held q_a0_known q_a0_worths a0_count a0_held_16 a0_known_17 x6_4 x7_15 a0_held_30 a0_known_31 hc32) (cwV 2 hts (nh_gV nhw_618 nhw_425 nhw_686 nhw_303 nhw_135) rfl rfl rfl (by decide +kernel) ⟨by show 2 + 1 ≤ 3 + (d + 1); omega, by show 8 + (3 + 11) + 64 * 2 ≤ 64 * (3 + (d + 1)); omega⟩) hK hN hP hD (isC := [0, 1, 2]) rfl rfl 0 1 rfl rfl rfl rfl hl.1 rfl (Nat.le_of_ble_eq_true rfl) dX2_come_75 ⟨Nat.zero_le _, Nat.zero_le _⟩) hP hD hS hA (isC := [0, 1, 2]) rfl rfl rfl (w' := (wlX2_come cI cZ cO q_a0 q_a0_held q_a0_known q_a0_worths a0_count a0_held_30 a0_known_31)) rfl (fun H locs hP hD hS => ?_)
                        refine lv_aload_n hx hb dX2_come_78 rfl (lv_at hl 0 rfl) ?_
                        refine lv_iload_n hx hb dX2_come_79 rfl (lv_at hl 1 rfl) ?_
                        refine lv_iload hx hb dX2_come_80 (lv_at hl 5 rfl) ?_
                        refine lv_iload_n hx hb dX2_come_82 rfl (lv_at hl 3 rfl) ?_
                        refine lv_iload hx hb dX2_come_83 (lv_at hl 4 rfl) ?_
                        refine lv_iconst (v := 1) hx hb dX2_come_85 (by decide) ?_
                        refine lv_iadd hx hb dX2_come_86 ?_
                        obtain ⟨r_33, a0_held_34, a0_known_35, hc36, h⟩ := nh_b3_some h
                        refine nh_goi (nh_S (As := [.ref q_a0, .int i1, .int x5_14, .int i3, .int (i4 + 1)]) (rest := []) ⟨hx, hb, hml, hown, hts⟩ (ihd H.size q_a0 q_a0_held q_a0_known q_a0_worths a0_count a0_held_30 a0_known_31 i1 x5_14 i3 (i4 + 1) r_33 a0_held_34 a0_known_35 hc36) (va_cwS 5 hts (nh_gS nhw_615 nhw_813 nhw_306 nhw_140) rfl rfl rfl (by decide +kernel) ⟨by show 3 + d + 1 ≤ 3 + (d + 1); omega, by show 8 + (8 + 11) + 64 * (3 + d) ≤ 64 * (3 + (d + 1)); omega⟩) hK hN hP hD (isC := [0, 1, 2]) rfl rfl rfl hl.1 rfl (Nat.le_of_ble_eq_true rfl) dX2_come_87 ⟨Nat.zero_le _, Nat.zero_le _⟩) hP hD hS hA (isC := [0, 1, 2]) rfl rfl rfl (w' := (wlX2_come cI cZ cO q_a0 q_a0_held q_a0_known q_a0_worths a0_count a0_held_34 a0_known_35)) rfl (fun H locs hP hD hS => ?_)
                        refine lv_istore (lv' := [(5, .int r_33), (0, .ref q_a0), (1, .int i1), (2, .int i2), (3, .int i3), (4, .int i4), (6, .int x6_4), (7, .int x7_15)]) hx hb dX2_come_90 hl (by decide) rfl (fun ls hl => ?_)
                        refine lv_aload_n hx hb dX2_come_92 rfl (lv_at hl 1 rfl) ?_
                        refine lv_iload hx hb dX2_come_93 (lv_at hl 6 rfl) ?_
                        refine lv_iload hx hb dX2_come_95 (lv_at hl 7 rfl) ?_
                        obtain ⟨a0_held_37, a0_known_38, hc39, h⟩ := nh_b2_some h
                        refine nh_gov (nh_V (As := [.int x6_4, .int x7_15]) (rest := []) ⟨hx, hb, hml, hown, hts⟩ (kX1_swapBack  l D cI cZ cO H.size q_a0 q_a0_held q_a0_known q_a0_worths a0_count a0_held_34 a0_known_35 x6_4 x7_15 a0_held_37 a0_known_38 hc39) (cwV 2 hts (nh_gV nhw_619 nhw_426 nhw_687 nhw_303 nhw_136) rfl rfl rfl (by decide +kernel) ⟨by show 2 + 1 ≤ 3 + (d + 1); omega, by show 8 + (3 + 11) + 64 * 2 ≤ 64 * (3 + (d + 1)); omega⟩) hK hN hP hD (isC := [0, 1, 2]) rfl rfl 0 1 rfl rfl rfl rfl hl.1 rfl (Nat.le_of_ble_eq_true rfl) dX2_come_97 ⟨Nat.zero_le _, Nat.zero_le _⟩) hP hD hS hA (isC := [0, 1, 2]) rfl rfl rfl (w' := (wlX2_come cI cZ cO q_a0 q_a0_held q_a0_known q_a0_worths a0_count a0_held_37 a0_known_38)) rfl (fun H locs hP hD hS => ?_)
                        obtain ⟨x7_40, ex7_40⟩ : ∃ y : Int32, y = x7_15 + 1 := ⟨_, rfl⟩
                        replace h := nh_to h ex7_40
                        refine lv_iinc (v := x7_40) (lv' := [(7, .int x7_40), (5, .int r_33), (0, .ref q_a0), (1, .int i1), (2, .int i2), (3, .int i3), (4, .int i4), (6, .int x6_4)]) hx hb dX2_come_100 hl (k := 7) rfl (by rw [ex7_40]; rfl) (by decide) rfl (fun ls hl => ?_)
                        refine lv_goto (tgt := 37) hx hb dX2_come_103 (by decide) ?_
                        exact ih37 r_33 x7_40 a0_held_37 a0_known_38 H locs ls hP hD hS (lv_sub hl [2, 3, 4, 5, 6, 1, 7, 0] rfl) h
            refine L37 _ (fun x5_18 x7_19 a0_held_20 a0_known_21 H locs ls hP hD hS hl h => ?_) _ x5_3 y_13 a0_held_5 a0_known_6 H locs ls hP hD hS (lv_sub hl [1, 2, 3, 4, 5, 6, 7, 0] rfl) h
            obtain ⟨x6_41, ex6_41⟩ : ∃ y : Int32, y = x6_4 + 1 := ⟨_, rfl⟩
            replace h := nh_to h ex6_41
            refine lv_iinc (v := x6_41) (lv' := [(6, .int x6_41), (0, .ref q_a0), (1, .int i1), (2, .int i2), (3, .int i3), (4, .int i4), (5, .int x5_18), (7, .int x7_19)]) hx hb dX2_come_106 hl (k := 6) rfl (by rw [ex6_41]; rfl) (by decide) rfl (fun ls hl => ?_)
            refine lv_goto (tgt := 16) hx hb dX2_come_109 (by decide) ?_
            exact ih16 x5_18 x6_41 a0_held_20 a0_known_21 H locs ls hP hD hS (lv_sub hl [1, 2, 3, 4, 5, 6, 0] rfl) h
    refine L16 _ (fun x5_7 x6_8 a0_held_9 a0_known_10 H locs ls hP hD hS hl h => ?_) _ y_2 0 a0_held a0_known H locs ls hP hD hS (lv_sub hl [2, 3, 4, 5, 6, 1, 0] rfl) h
    refine lv_iload hx hb dX2_come_112 (lv_at hl 5 rfl) ?_
    obtain ⟨g0, g1, g2⟩ := nh_i3 h
    exact nh_ri hx hb hr hlocks g0 (by rw [← g1, ← g2]; exact hP) hS dX2_come_114
abbrev wlX2_wholeHope (cI cZ cO : ClassId) (q_a0 q_a0_held q_a0_known q_a0_worths : Nat) (a0_count : Int32) (a0_held : Nat → Int32) (a0_known : Nat → Int32) : va_W := [(q_a0, .inr (1, [.int a0_count, .ref q_a0_held, .ref q_a0_known, .ref q_a0_worths])), (q_a0_held, .inl (cI, 4, .inl a0_held)), (q_a0_known, .inl (cI, 4, .inl a0_known))]
def fX2_wholeHope_B12 (a0_count : Int32) (a0_held : Nat → Int32) (a0_known : Nat → Int32) (i1 : Int32) (k12 : Int32 → Int32 → Option (Int32)) (r12 : Int32 → Int32 → Option (Int32)) (x2_3 : Int32) (x3_4 : Int32) : Option (Int32) :=
  (if a0_count ≤ x3_4 then k12 x2_3 x3_4
 else nh_chk (nh_in x3_4 4) (nh_b1 (fX1_isNew a0_count a0_known i1 (a0_held (Int32.toNatClampNeg x3_4))) (fun r_9 => (if r_9 = 0 then nh_let (α := Int32) (x3_4 + 1) (fun x3_12 => r12 x2_3 x3_12)
 else nh_chk (nh_in x3_4 4) (nh_let (α := Int32) ((x2_3 ||| (fX10_bit (a0_held (Int32.toNatClampNeg x3_4))))) (fun y_14 => nh_let (α := Int32) (x3_4 + 1) (fun x3_15 => r12 y_14 x3_15)))))))
def fX2_wholeHope_L12 (a0_count : Int32) (a0_held : Nat → Int32) (a0_known : Nat → Int32) (i1 : Int32) (k12 : Int32 → Int32 → Option (Int32)) : Nat → Int32 → Int32 → Option (Int32)
  | 0 => fun _ _ => none
  | n + 1 => fX2_wholeHope_B12 a0_count a0_held a0_known i1 k12 (fX2_wholeHope_L12 a0_count a0_held a0_known i1 k12 n)
def fX2_wholeHope (F : Nat) (a0_count : Int32) (a0_held : Nat → Int32) (a0_known : Nat → Int32) (i1 : Int32) : Option (Int32) :=
  nh_chk (nh_in i1 4) (nh_let (α := Int32) ((fX10_bit (a0_held (Int32.toNatClampNeg i1)))) (fun y_2 => fX2_wholeHope_L12 a0_count a0_held a0_known i1 (fun x2_5 x3_6 => some x2_5) F y_2 0))
set_option maxHeartbeats 4000000 in
set_option maxRecDepth 100000 in
theorem kX2_wholeHope (F : Nat) (l : Launch) (D : va_G) (cI cZ cO : ClassId) (sz : Nat) (q_a0 q_a0_held q_a0_known q_a0_worths : Nat) (a0_count : Int32) (a0_held : Nat → Int32) (a0_known : Nat → Int32) (i1 : Int32) (o_r : Int32) (h : fX2_wholeHope F a0_count a0_held a0_known i1 = some o_r) : Met l yX2_wholeHope (nh_w (.code yX2_wholeHope cX2_wholeHope 4 (some .int))) (nh_rm 2) (nh_Pc D cI cZ cO (wlX2_wholeHope cI cZ cO q_a0 q_a0_held q_a0_known q_a0_worths a0_count a0_held a0_known) [.ref q_a0, .int i1] sz) ((nh_Qi D (wlX2_wholeHope cI cZ cO q_a0 q_a0_held q_a0_known q_a0_worths a0_count a0_held a0_known) o_r) (va_A (wlX2_wholeHope cI cZ cO q_a0 q_a0_held q_a0_known q_a0_worths a0_count a0_held a0_known) sz)) 0 0 (va_A (wlX2_wholeHope cI cZ cO q_a0 q_a0_held q_a0_known q_a0_worths a0_count a0_held a0_known) sz) := by
  unfold fX2_wholeHope at h
  refine nh_met (cc := cX2_wholeHope) (maxL := 4) (ret := (some .int)) (nh_Qi D (wlX2_wholeHope cI cZ cO q_a0 q_a0_held q_a0_known q_a0_worths a0_count a0_held a0_known) o_r) (by decide) rfl (Nat.le_of_ble_eq_true rfl) ?_
  intro p e s m args below meth c A H locs ls hx hb hml hr hown hts hlocks hinit hP hK hN hD hA hS hl
  have hl : lv_has ls 4 [(0, .ref q_a0), (1, .int i1)] := hl
  have hts : ∀ w ∈ nh_words, w.before args s = true := fun w h => hts w (List.mem_cons_of_mem _ h)
  refine lv_aload_n hx hb dX2_wholeHope_0 rfl (lv_at hl 0 rfl) ?_
  refine va_get (D := D) (ci := 1) (v := .ref q_a0_held) (C := RX1) (T := TX1) (N := 4) hx hb hts nhu_X1 hown hK hP 0 rfl rfl 1 (by decide) (hts _ nhw_262) (fun _ h9 => h9) rfl dX2_wholeHope_1 ?_
  refine lv_iload_n hx hb dX2_wholeHope_4 rfl (lv_at hl 1 rfl) ?_
  obtain ⟨z1, h⟩ := nh_chk_some h
  refine va_iald hx hb hK hP 1 0 rfl rfl (nh_in_in z1) dX2_wholeHope_5 ?_
  refine nh_goi (nh_SN (As := [.int (a0_held (Int32.toNatClampNeg i1))]) (rest := []) ⟨hx, hb, hml, hown, hts⟩ (kX10_bit  l D cI cZ cO H.size (a0_held (Int32.toNatClampNeg i1)) (fX10_bit (a0_held (Int32.toNatClampNeg i1))) rfl) ⟨va_cnB 1 hts (nh_gC nhw_25) rfl rfl rfl (nh_N_at hN 14 rfl) (hts _ nhw_304) (by decide +kernel) ⟨Nat.le_of_ble_eq_true rfl, Nat.le_of_ble_eq_true rfl⟩, (hts _ nhw_804), trivial⟩ hK hN hP hD (isC := []) rfl rfl rfl hl.1 rfl (Nat.le_of_ble_eq_true rfl) dX2_wholeHope_6 ⟨Nat.zero_le _, Nat.zero_le _⟩) hP hD hS hA (isC := []) rfl rfl rfl (w' := (wlX2_wholeHope cI cZ cO q_a0 q_a0_held q_a0_known q_a0_worths a0_count a0_held a0_known)) rfl (fun H locs hP hD hS => ?_)
  refine lv_topi (fun y_2 ey_2 => ?_)
  replace h := nh_to h ey_2
  refine lv_istore_n (lv' := [(2, .int y_2), (0, .ref q_a0), (1, .int i1)]) hx hb dX2_wholeHope_9 rfl hl (by decide) rfl (fun ls hl => ?_)
  refine lv_iconst (v := 0) hx hb dX2_wholeHope_10 (by decide) ?_
  refine lv_istore_n (lv' := [(3, .int 0), (2, .int y_2), (0, .ref q_a0), (1, .int i1)]) hx hb dX2_wholeHope_11 rfl hl (by decide) rfl (fun ls hl => ?_)
  have L12 : ∀ (k12 : Int32 → Int32 → Option (Int32)), (∀ (x2_5 : Int32) (x3_6 : Int32) (H : Heap) (locs : List Loc) (ls : Array Slot), va_P D vwCl (wlX2_wholeHope cI cZ cO q_a0 q_a0_held q_a0_known q_a0_worths a0_count a0_held a0_known) H → va_D A (wlX2_wholeHope cI cZ cO q_a0 q_a0_held q_a0_known q_a0_worths a0_count a0_held a0_known) → va_S A s.heap H locs → lv_has ls 4 [(0, .ref q_a0), (1, .int i1), (2, .int x2_5), (3, .int x3_6)] → k12 x2_5 x3_6 = some o_r → W p l e (nh_rm 2) s m args below meth c H locs 0 0 (MQ below ((nh_Qi D (wlX2_wholeHope cI cZ cO q_a0 q_a0_held q_a0_known q_a0_worths a0_count a0_held a0_known) o_r) A) args s 0 0 A) (F0 m 52 ls [])) → ∀ (n : Nat) (x2_3 : Int32) (x3_4 : Int32) (H : Heap) (locs : List Loc) (ls : Array Slot), va_P D vwCl (wlX2_wholeHope cI cZ cO q_a0 q_a0_held q_a0_known q_a0_worths a0_count a0_held a0_known) H → va_D A (wlX2_wholeHope cI cZ cO q_a0 q_a0_held q_a0_known q_a0_worths a0_count a0_held a0_known) → va_S A s.heap H locs → lv_has ls 4 [(0, .ref q_a0), (1, .int i1), (2, .int x2_3), (3, .int x3_4)] → fX2_wholeHope_L12 a0_count a0_held a0_known i1 k12 n x2_3 x3_4 = some o_r → W p l e (nh_rm 2) s m args below meth c H locs 0 0 (MQ below ((nh_Qi D (wlX2_wholeHope cI cZ cO q_a0 q_a0_held q_a0_known q_a0_worths a0_count a0_held a0_known) o_r) A) args s 0 0 A) (F0 m 12 ls []) := by
    intro k12 hk12 n
    induction n with
    | zero => intro x2_3 x3_4 H locs ls hP hD hS hl h; exact (nh_none h).elim
    | succ n12 ih12 =>
      intro x2_3 x3_4 H locs ls hP hD hS hl h
      replace h : fX2_wholeHope_B12 a0_count a0_held a0_known i1 k12 (fX2_wholeHope_L12 a0_count a0_held a0_known i1 k12 n12) x2_3 x3_4 = some o_r := h
      unfold fX2_wholeHope_B12 at h
      refine lv_iload_n hx hb dX2_wholeHope_12 rfl (lv_at hl 3 rfl) ?_
      refine lv_aload_n hx hb dX2_wholeHope_13 rfl (lv_at hl 0 rfl) ?_
      refine va_get (D := D) (ci := 1) (v := .int a0_count) (C := RX1) (T := TX1) (N := 4) hx hb hts nhu_X1 hown hK hP 0 rfl rfl 0 (by decide) (hts _ nhw_263) (fun _ h9 => h9) rfl dX2_wholeHope_14 ?_
      refine lv_icmp_ge (tgt := 52) hx hb dX2_wholeHope_17 (by decide) (fun c7 => ?_) (fun c7 => ?_)
      · replace h := nh_t h c7
        exact hk12 x2_3 x3_4 H locs ls hP hD hS (lv_sub hl [0, 1, 2, 3] rfl) h
      · replace h := nh_f h c7
        refine lv_aload_n hx hb dX2_wholeHope_20 rfl (lv_at hl 0 rfl) ?_
        refine lv_iload_n hx hb dX2_wholeHope_21 rfl (lv_at hl 1 rfl) ?_
        refine lv_aload_n hx hb dX2_wholeHope_22 rfl (lv_at hl 0 rfl) ?_
        refine va_get (D := D) (ci := 1) (v := .ref q_a0_held) (C := RX1) (T := TX1) (N := 4) hx hb hts nhu_X1 hown hK hP 0 rfl rfl 1 (by decide) (hts _ nhw_262) (fun _ h9 => h9) rfl dX2_wholeHope_23 ?_
        refine lv_iload_n hx hb dX2_wholeHope_26 rfl (lv_at hl 3 rfl) ?_
        obtain ⟨z8, h⟩ := nh_chk_some h
        refine va_iald hx hb hK hP 1 0 rfl rfl (nh_in_in z8) dX2_wholeHope_27 ?_
        obtain ⟨r_9, hc10, h⟩ := nh_b1_some h
        refine nh_goi (nh_V (As := [.int i1, .int (a0_held (Int32.toNatClampNeg x3_4))]) (rest := []) ⟨hx, hb, hml, hown, hts⟩ (kX1_isNew  l D cI cZ cO H.size q_a0 q_a0_held q_a0_known q_a0_worths a0_count a0_known i1 (a0_held (Int32.toNatClampNeg x3_4)) r_9 hc10) (cwV 2 hts (nh_gV nhw_616 nhw_423 nhw_684 nhw_303 nhw_132) rfl rfl rfl (by decide +kernel) ⟨Nat.le_of_ble_eq_true rfl, Nat.le_of_ble_eq_true rfl⟩) hK hN hP hD (isC := [0, 2]) rfl rfl 0 1 rfl rfl rfl rfl hl.1 rfl (Nat.le_of_ble_eq_true rfl) dX2_wholeHope_28 ⟨Nat.zero_le _, Nat.zero_le _⟩) hP hD hS hA (isC := [0, 2]) rfl rfl rfl (w' := (wlX2_wholeHope cI cZ cO q_a0 q_a0_held q_a0_known q_a0_worths a0_count a0_held a0_known)) rfl (fun H locs hP hD hS => ?_)
        refine lv_if_eq (tgt := 46) hx hb dX2_wholeHope_31 (by decide) (fun c11 => ?_) (fun c11 => ?_)
        · replace h := nh_t h c11
          obtain ⟨x3_12, ex3_12⟩ : ∃ y : Int32, y = x3_4 + 1 := ⟨_, rfl⟩
          replace h := nh_to h ex3_12
          refine lv_iinc (v := x3_12) (lv' := [(3, .int x3_12), (0, .ref q_a0), (1, .int i1), (2, .int x2_3)]) hx hb dX2_wholeHope_46 hl (k := 3) rfl (by rw [ex3_12]; rfl) (by decide) rfl (fun ls hl => ?_)
          refine lv_goto (tgt := 12) hx hb dX2_wholeHope_49 (by decide) ?_
          exact ih12 x2_3 x3_12 H locs ls hP hD hS (lv_sub hl [1, 2, 3, 0] rfl) h
        · replace h := nh_f h c11
          refine lv_iload_n hx hb dX2_wholeHope_34 rfl (lv_at hl 2 rfl) ?_
          refine lv_aload_n hx hb dX2_wholeHope_35 rfl (lv_at hl 0 rfl) ?_
          refine va_get (D := D) (ci := 1) (v := .ref q_a0_held) (C := RX1) (T := TX1) (N := 4) hx hb hts nhu_X1 hown hK hP 0 rfl rfl 1 (by decide) (hts _ nhw_262) (fun _ h9 => h9) rfl dX2_wholeHope_36 ?_
          refine lv_iload_n hx hb dX2_wholeHope_39 rfl (lv_at hl 3 rfl) ?_
          obtain ⟨z13, h⟩ := nh_chk_some h
          refine va_iald hx hb hK hP 1 0 rfl rfl (nh_in_in z13) dX2_wholeHope_40 ?_
          refine nh_goi (nh_SN (As := [.int (a0_held (Int32.toNatClampNeg x3_4))]) (rest := [.int x2_3]) ⟨hx, hb, hml, hown, hts⟩ (kX10_bit  l D cI cZ cO H.size (a0_held (Int32.toNatClampNeg x3_4)) (fX10_bit (a0_held (Int32.toNatClampNeg x3_4))) rfl) ⟨va_cnB 1 hts (nh_gC nhw_25) rfl rfl rfl (nh_N_at hN 14 rfl) (hts _ nhw_304) (by decide +kernel) ⟨Nat.le_of_ble_eq_true rfl, Nat.le_of_ble_eq_true rfl⟩, (hts _ nhw_804), trivial⟩ hK hN hP hD (isC := []) rfl rfl rfl hl.1 rfl (Nat.le_of_ble_eq_true rfl) dX2_wholeHope_41 ⟨Nat.zero_le _, Nat.zero_le _⟩) hP hD hS hA (isC := []) rfl rfl rfl (w' := (wlX2_wholeHope cI cZ cO q_a0 q_a0_held q_a0_known q_a0_worths a0_count a0_held a0_known)) rfl (fun H locs hP hD hS => ?_)
          refine lv_ior hx hb dX2_wholeHope_44 ?_
          refine lv_topi (fun y_14 ey_14 => ?_)
          replace h := nh_to h ey_14
          refine lv_istore_n (lv' := [(2, .int y_14), (0, .ref q_a0), (1, .int i1), (3, .int x3_4)]) hx hb dX2_wholeHope_45 rfl hl (by decide) rfl (fun ls hl => ?_)
          obtain ⟨x3_15, ex3_15⟩ : ∃ y : Int32, y = x3_4 + 1 := ⟨_, rfl⟩
          replace h := nh_to h ex3_15
          refine lv_iinc (v := x3_15) (lv' := [(3, .int x3_15), (2, .int y_14), (0, .ref q_a0), (1, .int i1)]) hx hb dX2_wholeHope_46 hl (k := 3) rfl (by rw [ex3_15]; rfl) (by decide) rfl (fun ls hl => ?_)
          refine lv_goto (tgt := 12) hx hb dX2_wholeHope_49 (by decide) ?_
          exact ih12 y_14 x3_15 H locs ls hP hD hS (lv_sub hl [2, 3, 1, 0] rfl) h
  refine L12 _ (fun x2_5 x3_6 H locs ls hP hD hS hl h => ?_) _ y_2 0 H locs ls hP hD hS (lv_sub hl [2, 3, 1, 0] rfl) h
  refine lv_iload_n hx hb dX2_wholeHope_52 rfl (lv_at hl 2 rfl) ?_
  replace h := nh_i1 h
  exact nh_ri hx hb hr hlocks h hP hS dX2_wholeHope_53
abbrev wlX2_sorts (cI cZ cO : ClassId) (q_a0 q_a0_held q_a0_known q_a0_worths : Nat) (a0_count : Int32) (a0_held : Nat → Int32) (a0_known : Nat → Int32) : va_W := [(q_a0, .inr (1, [.int a0_count, .ref q_a0_held, .ref q_a0_known, .ref q_a0_worths])), (q_a0_held, .inl (cI, 4, .inl a0_held)), (q_a0_known, .inl (cI, 4, .inl a0_known))]
def fX2_sorts (F : Nat) (a0_count : Int32) (a0_held : Nat → Int32) (a0_known : Nat → Int32) (i1 : Int32) : Option (Int32 × (Nat → Int32) × (Nat → Int32)) :=
  nh_b1 (fX2_wholeHope F a0_count a0_held a0_known i1) (fun r_1 => nh_b3 (fX2_come F 20 a0_count a0_held a0_known i1 0 r_1 0) (fun r_3 a0_held_4 a0_known_5 => some (r_3, a0_held_4, a0_known_5)))
set_option maxHeartbeats 4000000 in
set_option maxRecDepth 100000 in
theorem kX2_sorts (F : Nat) (l : Launch) (D : va_G) (cI cZ cO : ClassId) (sz : Nat) (q_a0 q_a0_held q_a0_known q_a0_worths : Nat) (a0_count : Int32) (a0_held : Nat → Int32) (a0_known : Nat → Int32) (i1 : Int32) (o_r : Int32) (o_a0_held : Nat → Int32) (o_a0_known : Nat → Int32) (h : fX2_sorts F a0_count a0_held a0_known i1 = some (o_r, o_a0_held, o_a0_known)) : Met l yX2_sorts (nh_w (.code yX2_sorts cX2_sorts 2 (some .int))) (nh_rm 24) (nh_Pc D cI cZ cO (wlX2_sorts cI cZ cO q_a0 q_a0_held q_a0_known q_a0_worths a0_count a0_held a0_known) [.ref q_a0, .int i1] sz) ((nh_Qi D (wlX2_sorts cI cZ cO q_a0 q_a0_held q_a0_known q_a0_worths a0_count o_a0_held o_a0_known) o_r) (va_A (wlX2_sorts cI cZ cO q_a0 q_a0_held q_a0_known q_a0_worths a0_count a0_held a0_known) sz)) 0 0 (va_A (wlX2_sorts cI cZ cO q_a0 q_a0_held q_a0_known q_a0_worths a0_count a0_held a0_known) sz) := by
  unfold fX2_sorts at h
  refine nh_met (cc := cX2_sorts) (maxL := 2) (ret := (some .int)) (nh_Qi D (wlX2_sorts cI cZ cO q_a0 q_a0_held q_a0_known q_a0_worths a0_count o_a0_held o_a0_known) o_r) (by decide) rfl (Nat.le_of_ble_eq_true rfl) ?_
  intro p e s m args below meth c A H locs ls hx hb hml hr hown hts hlocks hinit hP hK hN hD hA hS hl
  have hl : lv_has ls 2 [(0, .ref q_a0), (1, .int i1)] := hl
  have hts : ∀ w ∈ nh_words, w.before args s = true := fun w h => hts w (List.mem_cons_of_mem _ h)
  refine lv_aload_n hx hb dX2_sorts_0 rfl (lv_at hl 0 rfl) ?_
  refine lv_iload_n hx hb dX2_sorts_1 rfl (lv_at hl 1 rfl) ?_
  refine lv_iconst (v := 0) hx hb dX2_sorts_2 (by decide) ?_
  refine lv_aload_n hx hb dX2_sorts_3 rfl (lv_at hl 0 rfl) ?_
  refine lv_iload_n hx hb dX2_sorts_4 rfl (lv_at hl 1 rfl) ?_
  obtain ⟨r_1, hc2, h⟩ := nh_b1_some h
  refine nh_goi (nh_S (As := [.ref q_a0, .int i1]) (rest := [.int 0, .int i1, .ref q_a0]) ⟨hx, hb, hml, hown, hts⟩ (kX2_wholeHope F l D cI cZ cO H.size q_a0 q_a0_held q_a0_known q_a0_worths a0_count a0_held a0_known i1 r_1 hc2) (va_cwS 2 hts (nh_gS nhw_622 nhw_815 nhw_306 nhw_142) rfl rfl rfl (by decide +kernel) ⟨Nat.le_of_ble_eq_true rfl, Nat.le_of_ble_eq_true rfl⟩) hK hN hP hD (isC := [0, 1, 2]) rfl rfl rfl hl.1 rfl (Nat.le_of_ble_eq_true rfl) dX2_sorts_5 ⟨Nat.zero_le _, Nat.zero_le _⟩) hP hD hS hA (isC := [0, 1, 2]) rfl rfl rfl (w' := (wlX2_sorts cI cZ cO q_a0 q_a0_held q_a0_known q_a0_worths a0_count a0_held a0_known)) rfl (fun H locs hP hD hS => ?_)
  refine lv_iconst (v := 0) hx hb dX2_sorts_8 (by decide) ?_
  obtain ⟨r_3, a0_held_4, a0_known_5, hc6, h⟩ := nh_b3_some h
  refine nh_goi (nh_S (As := [.ref q_a0, .int i1, .int 0, .int r_1, .int 0]) (rest := []) ⟨hx, hb, hml, hown, hts⟩ (kX2_come F 20 l D cI cZ cO H.size q_a0 q_a0_held q_a0_known q_a0_worths a0_count a0_held a0_known i1 0 r_1 0 r_3 a0_held_4 a0_known_5 hc6) (va_cwS 5 hts (nh_gS nhw_615 nhw_813 nhw_306 nhw_140) rfl rfl rfl (by decide +kernel) ⟨Nat.le_of_ble_eq_true rfl, Nat.le_of_ble_eq_true rfl⟩) hK hN hP hD (isC := [0, 1, 2]) rfl rfl rfl hl.1 rfl (Nat.le_of_ble_eq_true rfl) dX2_sorts_9 ⟨Nat.zero_le _, Nat.zero_le _⟩) hP hD hS hA (isC := [0, 1, 2]) rfl rfl rfl (w' := (wlX2_sorts cI cZ cO q_a0 q_a0_held q_a0_known q_a0_worths a0_count a0_held_4 a0_known_5)) rfl (fun H locs hP hD hS => ?_)
  obtain ⟨g0, g1, g2⟩ := nh_i3 h
  exact nh_ri hx hb hr hlocks g0 (by rw [← g1, ← g2]; exact hP) hS dX2_sorts_12
abbrev wlJ6_bitCount_0f7a4 (cI cZ cO : ClassId)   : va_W := []
def fJ6_bitCount_0f7a4 (i0 : Int32) : Int32 :=
  nh_let (α := Int32) ((i0 - (((Int32.toUInt32 i0 >>> (Int32.toUInt32 1 &&& Int32.toUInt32 31)).toInt32) &&& 1431655765))) (fun y_1 => nh_let (α := Int32) (((y_1 &&& 858993459) + (((Int32.toUInt32 y_1 >>> (Int32.toUInt32 2 &&& Int32.toUInt32 31)).toInt32) &&& 858993459))) (fun y_2 => nh_let (α := Int32) (((y_2 + ((Int32.toUInt32 y_2 >>> (Int32.toUInt32 4 &&& Int32.toUInt32 31)).toInt32)) &&& 252645135)) (fun y_3 => nh_let (α := Int32) ((y_3 + ((Int32.toUInt32 y_3 >>> (Int32.toUInt32 8 &&& Int32.toUInt32 31)).toInt32))) (fun y_4 => nh_let (α := Int32) ((y_4 + ((Int32.toUInt32 y_4 >>> (Int32.toUInt32 16 &&& Int32.toUInt32 31)).toInt32))) (fun y_5 => (y_5 &&& 63))))))
set_option maxHeartbeats 4000000 in
set_option maxRecDepth 100000 in
theorem kJ6_bitCount_0f7a4 (l : Launch) (D : va_G) (cI cZ cO : ClassId) (sz : Nat)   (i0 : Int32) (o_r : Int32) (h : fJ6_bitCount_0f7a4 i0 = o_r) : Met l yJ6_bitCount_0f7a4 (nh_w (.code yJ6_bitCount_0f7a4 cJ6_bitCount_0f7a4 1 (some .int))) (nh_rm 0) (nh_Pc D cI cZ cO (wlJ6_bitCount_0f7a4 cI cZ cO ) [.int i0] sz) ((nh_Qi D (wlJ6_bitCount_0f7a4 cI cZ cO ) o_r) (va_A (wlJ6_bitCount_0f7a4 cI cZ cO ) sz)) 0 0 (va_A (wlJ6_bitCount_0f7a4 cI cZ cO ) sz) := by
  unfold fJ6_bitCount_0f7a4 at h
  refine nh_met (cc := cJ6_bitCount_0f7a4) (maxL := 1) (ret := (some .int)) (nh_Qi D (wlJ6_bitCount_0f7a4 cI cZ cO ) o_r) (by decide) rfl (Nat.le_of_ble_eq_true rfl) ?_
  intro p e s m args below meth c A H locs ls hx hb hml hr hown hts hlocks hinit hP hK hN hD hA hS hl
  have hl : lv_has ls 1 [(0, .int i0)] := hl
  have hts : ∀ w ∈ nh_words, w.before args s = true := fun w h => hts w (List.mem_cons_of_mem _ h)
  refine lv_iload_n hx hb dJ6_bitCount_0f7a4_0 rfl (lv_at hl 0 rfl) ?_
  refine lv_iload_n hx hb dJ6_bitCount_0f7a4_1 rfl (lv_at hl 0 rfl) ?_
  refine lv_iconst (v := 1) hx hb dJ6_bitCount_0f7a4_2 (by decide) ?_
  refine lv_iushr hx hb dJ6_bitCount_0f7a4_3 rfl ?_
  refine lv_ldcw (v := 1431655765) hx hb hown (hts _ nhw_182) dJ6_bitCount_0f7a4_4 ?_
  refine lv_iand hx hb dJ6_bitCount_0f7a4_7 ?_
  refine lv_isub hx hb dJ6_bitCount_0f7a4_8 ?_
  refine lv_topi (fun y_1 ey_1 => ?_)
  replace h := nh_to h ey_1
  refine lv_istore_n (lv' := [(0, .int y_1)]) hx hb dJ6_bitCount_0f7a4_9 rfl hl (by decide) rfl (fun ls hl => ?_)
  refine lv_iload_n hx hb dJ6_bitCount_0f7a4_10 rfl (lv_at hl 0 rfl) ?_
  refine lv_ldcw (v := 858993459) hx hb hown (hts _ nhw_183) dJ6_bitCount_0f7a4_11 ?_
  refine lv_iand hx hb dJ6_bitCount_0f7a4_14 ?_
  refine lv_iload_n hx hb dJ6_bitCount_0f7a4_15 rfl (lv_at hl 0 rfl) ?_
  refine lv_iconst (v := 2) hx hb dJ6_bitCount_0f7a4_16 (by decide) ?_
  refine lv_iushr hx hb dJ6_bitCount_0f7a4_17 rfl ?_
  refine lv_ldcw (v := 858993459) hx hb hown (hts _ nhw_183) dJ6_bitCount_0f7a4_18 ?_
  refine lv_iand hx hb dJ6_bitCount_0f7a4_21 ?_
  refine lv_iadd hx hb dJ6_bitCount_0f7a4_22 ?_
  refine lv_topi (fun y_2 ey_2 => ?_)
  replace h := nh_to h ey_2
  refine lv_istore_n (lv' := [(0, .int y_2)]) hx hb dJ6_bitCount_0f7a4_23 rfl hl (by decide) rfl (fun ls hl => ?_)
  refine lv_iload_n hx hb dJ6_bitCount_0f7a4_24 rfl (lv_at hl 0 rfl) ?_
  refine lv_iload_n hx hb dJ6_bitCount_0f7a4_25 rfl (lv_at hl 0 rfl) ?_
  refine lv_iconst (v := 4) hx hb dJ6_bitCount_0f7a4_26 (by decide) ?_
  refine lv_iushr hx hb dJ6_bitCount_0f7a4_27 rfl ?_
  refine lv_iadd hx hb dJ6_bitCount_0f7a4_28 ?_
  refine lv_ldcw (v := 252645135) hx hb hown (hts _ nhw_184) dJ6_bitCount_0f7a4_29 ?_
  refine lv_iand hx hb dJ6_bitCount_0f7a4_32 ?_
  refine lv_topi (fun y_3 ey_3 => ?_)
  replace h := nh_to h ey_3
  refine lv_istore_n (lv' := [(0, .int y_3)]) hx hb dJ6_bitCount_0f7a4_33 rfl hl (by decide) rfl (fun ls hl => ?_)
  refine lv_iload_n hx hb dJ6_bitCount_0f7a4_34 rfl (lv_at hl 0 rfl) ?_
  refine lv_iload_n hx hb dJ6_bitCount_0f7a4_35 rfl (lv_at hl 0 rfl) ?_
  refine lv_bipush (v := 8) hx hb dJ6_bitCount_0f7a4_36 (by decide) ?_
  refine lv_iushr hx hb dJ6_bitCount_0f7a4_38 rfl ?_
  refine lv_iadd hx hb dJ6_bitCount_0f7a4_39 ?_
  refine lv_topi (fun y_4 ey_4 => ?_)
  replace h := nh_to h ey_4
  refine lv_istore_n (lv' := [(0, .int y_4)]) hx hb dJ6_bitCount_0f7a4_40 rfl hl (by decide) rfl (fun ls hl => ?_)
  refine lv_iload_n hx hb dJ6_bitCount_0f7a4_41 rfl (lv_at hl 0 rfl) ?_
  refine lv_iload_n hx hb dJ6_bitCount_0f7a4_42 rfl (lv_at hl 0 rfl) ?_
  refine lv_bipush (v := 16) hx hb dJ6_bitCount_0f7a4_43 (by decide) ?_
  refine lv_iushr hx hb dJ6_bitCount_0f7a4_45 rfl ?_
  refine lv_iadd hx hb dJ6_bitCount_0f7a4_46 ?_
  refine lv_topi (fun y_5 ey_5 => ?_)
  replace h := nh_to h ey_5
  refine lv_istore_n (lv' := [(0, .int y_5)]) hx hb dJ6_bitCount_0f7a4_47 rfl hl (by decide) rfl (fun ls hl => ?_)
  refine lv_iload_n hx hb dJ6_bitCount_0f7a4_48 rfl (lv_at hl 0 rfl) ?_
  refine lv_bipush (v := 63) hx hb dJ6_bitCount_0f7a4_49 (by decide) ?_
  refine lv_iand hx hb dJ6_bitCount_0f7a4_51 ?_
  exact nh_ri hx hb hr hlocks h hP hS dJ6_bitCount_0f7a4_52
abbrev wlX2_bestBegin (cI cZ cO : ClassId) (q_a0 q_a0_held q_a0_known q_a0_worths : Nat) (a0_count : Int32) (a0_held : Nat → Int32) (a0_known : Nat → Int32) : va_W := [(q_a0, .inr (1, [.int a0_count, .ref q_a0_held, .ref q_a0_known, .ref q_a0_worths])), (q_a0_held, .inl (cI, 4, .inl a0_held)), (q_a0_known, .inl (cI, 4, .inl a0_known))]
def fX2_bestBegin_B23 (a0_count : Int32) (i1 : Int32) (F : Nat) (k23 : Int32 → Int32 → Int32 → (Nat → Int32) → (Nat → Int32) → Option (Int32 × (Nat → Int32) × (Nat → Int32))) (r23 : Int32 → Int32 → Int32 → (Nat → Int32) → (Nat → Int32) → Option (Int32 × (Nat → Int32) × (Nat → Int32))) (x4_5 : Int32) (x5_6 : Int32) (x6_7 : Int32) (a0_held_8 : Nat → Int32) (a0_known_9 : Nat → Int32) : Option (Int32 × (Nat → Int32) × (Nat → Int32)) :=
  (if 6 ≤ x6_7 then k23 x4_5 x5_6 x6_7 a0_held_8 a0_known_9
 else nh_chk (nh_in i1 4) (nh_let (α := Nat → Int32) (upd a0_held_8 (Int32.toNatClampNeg i1) x6_7) (fun a0_held_17 => nh_chk (nh_in i1 4) (nh_let (α := Nat → Int32) (upd a0_known_9 (Int32.toNatClampNeg i1) (fX10_bit x6_7)) (fun a0_known_19 => nh_b3 (fX2_sorts F a0_count a0_held_17 a0_known_19 i1) (fun r_20 a0_held_21 a0_known_22 => nh_let (α := Int32) ((fJ6_bitCount_0f7a4 r_20)) (fun y_24 => (if y_24 ≤ x5_6 then nh_let (α := Int32) (x6_7 + 1) (fun x6_26 => r23 x4_5 x5_6 x6_26 a0_held_21 a0_known_22)
 else nh_let (α := Int32) (x6_7 + 1) (fun x6_27 => r23 x6_7 y_24 x6_27 a0_held_21 a0_known_22)))))))))
def fX2_bestBegin_L23 (a0_count : Int32) (i1 : Int32) (F : Nat) (k23 : Int32 → Int32 → Int32 → (Nat → Int32) → (Nat → Int32) → Option (Int32 × (Nat → Int32) × (Nat → Int32))) : Nat → Int32 → Int32 → Int32 → (Nat → Int32) → (Nat → Int32) → Option (Int32 × (Nat → Int32) × (Nat → Int32))
  | 0 => fun _ _ _ _ _ => none
  | n + 1 => fX2_bestBegin_B23 a0_count i1 F k23 (fX2_bestBegin_L23 a0_count i1 F k23 n)
def fX2_bestBegin (F : Nat) (a0_count : Int32) (a0_held : Nat → Int32) (a0_known : Nat → Int32) (i1 : Int32) : Option (Int32 × (Nat → Int32) × (Nat → Int32)) :=
  nh_chk (nh_in i1 4) (nh_let (α := Int32) ((a0_held (Int32.toNatClampNeg i1))) (fun y_2 => nh_chk (nh_in i1 4) (nh_let (α := Int32) ((a0_known (Int32.toNatClampNeg i1))) (fun y_4 => fX2_bestBegin_L23 a0_count i1 F (fun x4_10 x5_11 x6_12 a0_held_13 a0_known_14 => nh_chk (nh_in i1 4) (nh_let (α := Nat → Int32) (upd a0_held_13 (Int32.toNatClampNeg i1) y_2) (fun a0_held_29 => nh_chk (nh_in i1 4) (nh_let (α := Nat → Int32) (upd a0_known_14 (Int32.toNatClampNeg i1) y_4) (fun a0_known_31 => some (x4_10, a0_held_29, a0_known_31)))))) F 0 0 0 a0_held a0_known))))
set_option maxHeartbeats 4000000 in
set_option maxRecDepth 100000 in
theorem kX2_bestBegin (F : Nat) (l : Launch) (D : va_G) (cI cZ cO : ClassId) (sz : Nat) (q_a0 q_a0_held q_a0_known q_a0_worths : Nat) (a0_count : Int32) (a0_held : Nat → Int32) (a0_known : Nat → Int32) (i1 : Int32) (o_r : Int32) (o_a0_held : Nat → Int32) (o_a0_known : Nat → Int32) (h : fX2_bestBegin F a0_count a0_held a0_known i1 = some (o_r, o_a0_held, o_a0_known)) : Met l yX2_bestBegin (nh_w (.code yX2_bestBegin cX2_bestBegin 8 (some .int))) (nh_rm 25) (nh_Pc D cI cZ cO (wlX2_bestBegin cI cZ cO q_a0 q_a0_held q_a0_known q_a0_worths a0_count a0_held a0_known) [.ref q_a0, .int i1] sz) ((nh_Qi D (wlX2_bestBegin cI cZ cO q_a0 q_a0_held q_a0_known q_a0_worths a0_count o_a0_held o_a0_known) o_r) (va_A (wlX2_bestBegin cI cZ cO q_a0 q_a0_held q_a0_known q_a0_worths a0_count a0_held a0_known) sz)) 0 0 (va_A (wlX2_bestBegin cI cZ cO q_a0 q_a0_held q_a0_known q_a0_worths a0_count a0_held a0_known) sz) := by
  unfold fX2_bestBegin at h
  refine nh_met (cc := cX2_bestBegin) (maxL := 8) (ret := (some .int)) (nh_Qi D (wlX2_bestBegin cI cZ cO q_a0 q_a0_held q_a0_known q_a0_worths a0_count o_a0_held o_a0_known) o_r) (by decide) rfl (Nat.le_of_ble_eq_true rfl) ?_
  intro p e s m args below meth c A H locs ls hx hb hml hr hown hts hlocks hinit hP hK hN hD hA hS hl
  have hl : lv_has ls 8 [(0, .ref q_a0), (1, .int i1)] := hl
  have hts : ∀ w ∈ nh_words, w.before args s = true := fun w h => hts w (List.mem_cons_of_mem _ h)
  refine lv_aload_n hx hb dX2_bestBegin_0 rfl (lv_at hl 0 rfl) ?_
  refine va_get (D := D) (ci := 1) (v := .ref q_a0_held) (C := RX1) (T := TX1) (N := 4) hx hb hts nhu_X1 hown hK hP 0 rfl rfl 1 (by decide) (hts _ nhw_262) (fun _ h9 => h9) rfl dX2_bestBegin_1 ?_
  refine lv_iload_n hx hb dX2_bestBegin_4 rfl (lv_at hl 1 rfl) ?_
  obtain ⟨z1, h⟩ := nh_chk_some h
  refine va_iald hx hb hK hP 1 0 rfl rfl (nh_in_in z1) dX2_bestBegin_5 ?_
  refine lv_topi (fun y_2 ey_2 => ?_)
  replace h := nh_to h ey_2
  refine lv_istore_n (lv' := [(2, .int y_2), (0, .ref q_a0), (1, .int i1)]) hx hb dX2_bestBegin_6 rfl hl (by decide) rfl (fun ls hl => ?_)
  refine lv_aload_n hx hb dX2_bestBegin_7 rfl (lv_at hl 1 rfl) ?_
  refine va_get (D := D) (ci := 1) (v := .ref q_a0_known) (C := RX1) (T := TX1) (N := 4) hx hb hts nhu_X1 hown hK hP 0 rfl rfl 2 (by decide) (hts _ nhw_264) (fun _ h9 => h9) rfl dX2_bestBegin_8 ?_
  refine lv_iload_n hx hb dX2_bestBegin_11 rfl (lv_at hl 2 rfl) ?_
  obtain ⟨z3, h⟩ := nh_chk_some h
  refine va_iald hx hb hK hP 2 0 rfl rfl (nh_in_in z3) dX2_bestBegin_12 ?_
  refine lv_topi (fun y_4 ey_4 => ?_)
  replace h := nh_to h ey_4
  refine lv_istore_n (lv' := [(3, .int y_4), (2, .int y_2), (0, .ref q_a0), (1, .int i1)]) hx hb dX2_bestBegin_13 rfl hl (by decide) rfl (fun ls hl => ?_)
  refine lv_iconst (v := 0) hx hb dX2_bestBegin_14 (by decide) ?_
  refine lv_istore (lv' := [(4, .int 0), (3, .int y_4), (2, .int y_2), (0, .ref q_a0), (1, .int i1)]) hx hb dX2_bestBegin_15 hl (by decide) rfl (fun ls hl => ?_)
  refine lv_iconst (v := 0) hx hb dX2_bestBegin_17 (by decide) ?_
  refine lv_istore (lv' := [(5, .int 0), (4, .int 0), (3, .int y_4), (2, .int y_2), (0, .ref q_a0), (1, .int i1)]) hx hb dX2_bestBegin_18 hl (by decide) rfl (fun ls hl => ?_)
  refine lv_iconst (v := 0) hx hb dX2_bestBegin_20 (by decide) ?_
  refine lv_istore (lv' := [(6, .int 0), (5, .int 0), (4, .int 0), (3, .int y_4), (2, .int y_2), (0, .ref q_a0), (1, .int i1)]) hx hb dX2_bestBegin_21 hl (by decide) rfl (fun ls hl => ?_)
  have L23 : ∀ (k23 : Int32 → Int32 → Int32 → (Nat → Int32) → (Nat → Int32) → Option (Int32 × (Nat → Int32) × (Nat → Int32))), (∀ (x4_10 : Int32) (x5_11 : Int32) (x6_12 : Int32) (a0_held_13 : Nat → Int32) (a0_known_14 : Nat → Int32) (H : Heap) (locs : List Loc) (ls : Array Slot), va_P D vwCl (wlX2_bestBegin cI cZ cO q_a0 q_a0_held q_a0_known q_a0_worths a0_count a0_held_13 a0_known_14) H → va_D A (wlX2_bestBegin cI cZ cO q_a0 q_a0_held q_a0_known q_a0_worths a0_count a0_held_13 a0_known_14) → va_S A s.heap H locs → lv_has ls 8 [(0, .ref q_a0), (1, .int i1), (2, .int y_2), (3, .int y_4), (4, .int x4_10), (5, .int x5_11), (6, .int x6_12)] → k23 x4_10 x5_11 x6_12 a0_held_13 a0_known_14 = some (o_r, o_a0_held, o_a0_known) → W p l e (nh_rm 25) s m args below meth c H locs 0 0 (MQ below ((nh_Qi D (wlX2_bestBegin cI cZ cO q_a0 q_a0_held q_a0_known q_a0_worths a0_count o_a0_held o_a0_known) o_r) A) args s 0 0 A) (F0 m 80 ls [])) → ∀ (n : Nat) (x4_5 : Int32) (x5_6 : Int32) (x6_7 : Int32) (a0_held_8 : Nat → Int32) (a0_known_9 : Nat → Int32) (H : Heap) (locs : List Loc) (ls : Array Slot), va_P D vwCl (wlX2_bestBegin cI cZ cO q_a0 q_a0_held q_a0_known q_a0_worths a0_count a0_held_8 a0_known_9) H → va_D A (wlX2_bestBegin cI cZ cO q_a0 q_a0_held q_a0_known q_a0_worths a0_count a0_held_8 a0_known_9) → va_S A s.heap H locs → lv_has ls 8 [(0, .ref q_a0), (1, .int i1), (2, .int y_2), (3, .int y_4), (4, .int x4_5), (5, .int x5_6), (6, .int x6_7)] → fX2_bestBegin_L23 a0_count i1 F k23 n x4_5 x5_6 x6_7 a0_held_8 a0_known_9 = some (o_r, o_a0_held, o_a0_known) → W p l e (nh_rm 25) s m args below meth c H locs 0 0 (MQ below ((nh_Qi D (wlX2_bestBegin cI cZ cO q_a0 q_a0_held q_a0_known q_a0_worths a0_count o_a0_held o_a0_known) o_r) A) args s 0 0 A) (F0 m 23 ls []) := by
    intro k23 hk23 n
    induction n with
    | zero => intro x4_5 x5_6 x6_7 a0_held_8 a0_known_9 H locs ls hP hD hS hl h; exact (nh_none h).elim
    | succ n23 ih23 =>
      intro x4_5 x5_6 x6_7 a0_held_8 a0_known_9 H locs ls hP hD hS hl h
      replace h : fX2_bestBegin_B23 a0_count i1 F k23 (fX2_bestBegin_L23 a0_count i1 F k23 n23) x4_5 x5_6 x6_7 a0_held_8 a0_known_9 = some (o_r, o_a0_held, o_a0_known) := h
      unfold fX2_bestBegin_B23 at h
      refine lv_iload hx hb dX2_bestBegin_23 (lv_at hl 6 rfl) ?_
      refine lv_bipush (v := 6) hx hb dX2_bestBegin_25 (by decide) ?_
      refine lv_icmp_ge (tgt := 80) hx hb dX2_bestBegin_27 (by decide) (fun c15 => ?_) (fun c15 => ?_)
      · replace h := nh_t h c15
        exact hk23 x4_5 x5_6 x6_7 a0_held_8 a0_known_9 H locs ls hP hD hS (lv_sub hl [0, 1, 2, 3, 4, 5, 6] rfl) h
      · replace h := nh_f h c15
        refine lv_aload_n hx hb dX2_bestBegin_30 rfl (lv_at hl 0 rfl) ?_
        refine va_get (D := D) (ci := 1) (v := .ref q_a0_held) (C := RX1) (T := TX1) (N := 4) hx hb hts nhu_X1 hown hK hP 0 rfl rfl 1 (by decide) (hts _ nhw_262) (fun _ h9 => h9) rfl dX2_bestBegin_31 ?_
        refine lv_iload_n hx hb dX2_bestBegin_34 rfl (lv_at hl 1 rfl) ?_
        refine lv_iload hx hb dX2_bestBegin_35 (lv_at hl 6 rfl) ?_
        obtain ⟨z16, h⟩ := nh_chk_some h
        refine va_iast hx hb hK hP hD hS 1 0 rfl rfl (nh_in_in z16) dX2_bestBegin_37 (fun H locs hP hD hS => ?_)
        obtain ⟨a0_held_17, ea0_held_17⟩ : ∃ y : Nat → Int32, y = upd a0_held_8 (Int32.toNatClampNeg i1) x6_7 := ⟨_, rfl⟩
        replace h := nh_to h ea0_held_17
        have hP : va_P D vwCl (wlX2_bestBegin cI cZ cO q_a0 q_a0_held q_a0_known q_a0_worths a0_count a0_held_17 a0_known_9) H := by rw [ea0_held_17]; exact hP
        have hD : va_D A (wlX2_bestBegin cI cZ cO q_a0 q_a0_held q_a0_known q_a0_worths a0_count a0_held_17 a0_known_9) := by rw [ea0_held_17]; exact hD
        refine lv_aload_n hx hb dX2_bestBegin_38 rfl (lv_at hl 0 rfl) ?_
        refine va_get (D := D) (ci := 1) (v := .ref q_a0_known) (C := RX1) (T := TX1) (N := 4) hx hb hts nhu_X1 hown hK hP 0 rfl rfl 2 (by decide) (hts _ nhw_264) (fun _ h9 => h9) rfl dX2_bestBegin_39 ?_
        refine lv_iload_n hx hb dX2_bestBegin_42 rfl (lv_at hl 1 rfl) ?_
        refine lv_iload hx hb dX2_bestBegin_43 (lv_at hl 6 rfl) ?_
        refine nh_goi (nh_SN (As := [.int x6_7]) (rest := [.int i1, .ref q_a0_known]) ⟨hx, hb, hml, hown, hts⟩ (kX10_bit  l D cI cZ cO H.size x6_7 (fX10_bit x6_7) rfl) ⟨va_cnB 1 hts (nh_gC nhw_25) rfl rfl rfl (nh_N_at hN 14 rfl) (hts _ nhw_304) (by decide +kernel) ⟨Nat.le_of_ble_eq_true rfl, Nat.le_of_ble_eq_true rfl⟩, (hts _ nhw_804), trivial⟩ hK hN hP hD (isC := []) rfl rfl rfl hl.1 rfl (Nat.le_of_ble_eq_true rfl) dX2_bestBegin_45 ⟨Nat.zero_le _, Nat.zero_le _⟩) hP hD hS hA (isC := []) rfl rfl rfl (w' := (wlX2_bestBegin cI cZ cO q_a0 q_a0_held q_a0_known q_a0_worths a0_count a0_held_17 a0_known_9)) rfl (fun H locs hP hD hS => ?_)
        obtain ⟨z18, h⟩ := nh_chk_some h
        refine va_iast hx hb hK hP hD hS 2 0 rfl rfl (nh_in_in z18) dX2_bestBegin_48 (fun H locs hP hD hS => ?_)
        obtain ⟨a0_known_19, ea0_known_19⟩ : ∃ y : Nat → Int32, y = upd a0_known_9 (Int32.toNatClampNeg i1) (fX10_bit x6_7) := ⟨_, rfl⟩
        replace h := nh_to h ea0_known_19
        have hP : va_P D vwCl (wlX2_bestBegin cI cZ cO q_a0 q_a0_held q_a0_known q_a0_worths a0_count a0_held_17 a0_known_19) H := by rw [ea0_known_19]; exact hP
        have hD : va_D A (wlX2_bestBegin cI cZ cO q_a0 q_a0_held q_a0_known q_a0_worths a0_count a0_held_17 a0_known_19) := by rw [ea0_known_19]; exact hD
        refine lv_aload_n hx hb dX2_bestBegin_49 rfl (lv_at hl 0 rfl) ?_
        refine lv_iload_n hx hb dX2_bestBegin_50 rfl (lv_at hl 1 rfl) ?_
        obtain ⟨r_20, a0_held_21, a0_known_22, hc23, h⟩ := nh_b3_some h
        refine nh_goi (nh_S (As := [.ref q_a0, .int i1]) (rest := []) ⟨hx, hb, hml, hown, hts⟩ (kX2_sorts F l D cI cZ cO H.size q_a0 q_a0_held q_a0_known q_a0_worths a0_count a0_held_17 a0_known_19 i1 r_20 a0_held_21 a0_known_22 hc23) (va_cwS 2 hts (nh_gS nhw_620 nhw_814 nhw_306 nhw_141) rfl rfl rfl (by decide +kernel) ⟨Nat.le_of_ble_eq_true rfl, Nat.le_of_ble_eq_true rfl⟩) hK hN hP hD (isC := [0, 1, 2]) rfl rfl rfl hl.1 rfl (Nat.le_of_ble_eq_true rfl) dX2_bestBegin_51 ⟨Nat.zero_le _, Nat.zero_le _⟩) hP hD hS hA (isC := [0, 1, 2]) rfl rfl rfl (w' := (wlX2_bestBegin cI cZ cO q_a0 q_a0_held q_a0_known q_a0_worths a0_count a0_held_21 a0_known_22)) rfl (fun H locs hP hD hS => ?_)
        refine nh_goi (nh_S (As := [.int r_20]) (rest := []) ⟨hx, hb, hml, hown, hts⟩ (kJ6_bitCount_0f7a4  l D cI cZ cO H.size r_20 (fJ6_bitCount_0f7a4 r_20) rfl) (va_cwS 1 hts (nh_gS nhw_621 nhw_803 nhw_301 nhw_16) rfl rfl rfl (by decide +kernel) ⟨Nat.le_of_ble_eq_true rfl, Nat.le_of_ble_eq_true rfl⟩) hK hN hP hD (isC := []) rfl rfl rfl hl.1 rfl (Nat.le_of_ble_eq_true rfl) dX2_bestBegin_54 ⟨Nat.zero_le _, Nat.zero_le _⟩) hP hD hS hA (isC := []) rfl rfl rfl (w' := (wlX2_bestBegin cI cZ cO q_a0 q_a0_held q_a0_known q_a0_worths a0_count a0_held_21 a0_known_22)) rfl (fun H locs hP hD hS => ?_)
        refine lv_topi (fun y_24 ey_24 => ?_)
        replace h := nh_to h ey_24
        refine lv_istore (lv' := [(7, .int y_24), (0, .ref q_a0), (1, .int i1), (2, .int y_2), (3, .int y_4), (4, .int x4_5), (5, .int x5_6), (6, .int x6_7)]) hx hb dX2_bestBegin_57 hl (by decide) rfl (fun ls hl => ?_)
        refine lv_iload hx hb dX2_bestBegin_59 (lv_at hl 0 rfl) ?_
        refine lv_iload hx hb dX2_bestBegin_61 (lv_at hl 6 rfl) ?_
        refine lv_icmp_le (tgt := 74) hx hb dX2_bestBegin_63 (by decide) (fun c25 => ?_) (fun c25 => ?_)
        · replace h := nh_t h c25
          obtain ⟨x6_26, ex6_26⟩ : ∃ y : Int32, y = x6_7 + 1 := ⟨_, rfl⟩
          replace h := nh_to h ex6_26
          refine lv_iinc (v := x6_26) (lv' := [(6, .int x6_26), (7, .int y_24), (0, .ref q_a0), (1, .int i1), (2, .int y_2), (3, .int y_4), (4, .int x4_5), (5, .int x5_6)]) hx hb dX2_bestBegin_74 hl (k := 7) rfl (by rw [ex6_26]; rfl) (by decide) rfl (fun ls hl => ?_)
          refine lv_goto (tgt := 23) hx hb dX2_bestBegin_77 (by decide) ?_
          exact ih23 x4_5 x5_6 x6_26 a0_held_21 a0_known_22 H locs ls hP hD hS (lv_sub hl [2, 3, 4, 5, 6, 7, 0] rfl) h
        · replace h := nh_f h c25
          refine lv_iload hx hb dX2_bestBegin_66 (lv_at hl 0 rfl) ?_
          refine lv_istore (lv' := [(5, .int y_24), (7, .int y_24), (0, .ref q_a0), (1, .int i1), (2, .int y_2), (3, .int y_4), (4, .int x4_5), (6, .int x6_7)]) hx hb dX2_bestBegin_68 hl (by decide) rfl (fun ls hl => ?_)
          refine lv_iload hx hb dX2_bestBegin_70 (lv_at hl 7 rfl) ?_
          refine lv_istore (lv' := [(4, .int x6_7), (5, .int y_24), (7, .int y_24), (0, .ref q_a0), (1, .int i1), (2, .int y_2), (3, .int y_4), (6, .int x6_7)]) hx hb dX2_bestBegin_72 hl (by decide) rfl (fun ls hl => ?_)
          obtain ⟨x6_27, ex6_27⟩ : ∃ y : Int32, y = x6_7 + 1 := ⟨_, rfl⟩
          replace h := nh_to h ex6_27
          refine lv_iinc (v := x6_27) (lv' := [(6, .int x6_27), (4, .int x6_7), (5, .int y_24), (7, .int y_24), (0, .ref q_a0), (1, .int i1), (2, .int y_2), (3, .int y_4)]) hx hb dX2_bestBegin_74 hl (k := 7) rfl (by rw [ex6_27]; rfl) (by decide) rfl (fun ls hl => ?_)
          refine lv_goto (tgt := 23) hx hb dX2_bestBegin_77 (by decide) ?_
          exact ih23 x6_7 y_24 x6_27 a0_held_21 a0_known_22 H locs ls hP hD hS (lv_sub hl [4, 5, 6, 7, 1, 2, 0] rfl) h
  refine L23 _ (fun x4_10 x5_11 x6_12 a0_held_13 a0_known_14 H locs ls hP hD hS hl h => ?_) _ 0 0 0 a0_held a0_known H locs ls hP hD hS (lv_sub hl [5, 6, 4, 3, 2, 1, 0] rfl) h
  refine lv_aload_n hx hb dX2_bestBegin_80 rfl (lv_at hl 0 rfl) ?_
  refine va_get (D := D) (ci := 1) (v := .ref q_a0_held) (C := RX1) (T := TX1) (N := 4) hx hb hts nhu_X1 hown hK hP 0 rfl rfl 1 (by decide) (hts _ nhw_262) (fun _ h9 => h9) rfl dX2_bestBegin_81 ?_
  refine lv_iload_n hx hb dX2_bestBegin_84 rfl (lv_at hl 1 rfl) ?_
  refine lv_iload_n hx hb dX2_bestBegin_85 rfl (lv_at hl 2 rfl) ?_
  obtain ⟨z28, h⟩ := nh_chk_some h
  refine va_iast hx hb hK hP hD hS 1 0 rfl rfl (nh_in_in z28) dX2_bestBegin_86 (fun H locs hP hD hS => ?_)
  obtain ⟨a0_held_29, ea0_held_29⟩ : ∃ y : Nat → Int32, y = upd a0_held_13 (Int32.toNatClampNeg i1) y_2 := ⟨_, rfl⟩
  replace h := nh_to h ea0_held_29
  have hP : va_P D vwCl (wlX2_bestBegin cI cZ cO q_a0 q_a0_held q_a0_known q_a0_worths a0_count a0_held_29 a0_known_14) H := by rw [ea0_held_29]; exact hP
  have hD : va_D A (wlX2_bestBegin cI cZ cO q_a0 q_a0_held q_a0_known q_a0_worths a0_count a0_held_29 a0_known_14) := by rw [ea0_held_29]; exact hD
  refine lv_aload_n hx hb dX2_bestBegin_87 rfl (lv_at hl 0 rfl) ?_
  refine va_get (D := D) (ci := 1) (v := .ref q_a0_known) (C := RX1) (T := TX1) (N := 4) hx hb hts nhu_X1 hown hK hP 0 rfl rfl 2 (by decide) (hts _ nhw_264) (fun _ h9 => h9) rfl dX2_bestBegin_88 ?_
  refine lv_iload_n hx hb dX2_bestBegin_91 rfl (lv_at hl 1 rfl) ?_
  refine lv_iload_n hx hb dX2_bestBegin_92 rfl (lv_at hl 3 rfl) ?_
  obtain ⟨z30, h⟩ := nh_chk_some h
  refine va_iast hx hb hK hP hD hS 2 0 rfl rfl (nh_in_in z30) dX2_bestBegin_93 (fun H locs hP hD hS => ?_)
  obtain ⟨a0_known_31, ea0_known_31⟩ : ∃ y : Nat → Int32, y = upd a0_known_14 (Int32.toNatClampNeg i1) y_4 := ⟨_, rfl⟩
  replace h := nh_to h ea0_known_31
  have hP : va_P D vwCl (wlX2_bestBegin cI cZ cO q_a0 q_a0_held q_a0_known q_a0_worths a0_count a0_held_29 a0_known_31) H := by rw [ea0_known_31]; exact hP
  have hD : va_D A (wlX2_bestBegin cI cZ cO q_a0 q_a0_held q_a0_known q_a0_worths a0_count a0_held_29 a0_known_31) := by rw [ea0_known_31]; exact hD
  refine lv_iload hx hb dX2_bestBegin_94 (lv_at hl 4 rfl) ?_
  obtain ⟨g0, g1, g2⟩ := nh_i3 h
  exact nh_ri hx hb hr hlocks g0 (by rw [← g1, ← g2]; exact hP) hS dX2_bestBegin_96
